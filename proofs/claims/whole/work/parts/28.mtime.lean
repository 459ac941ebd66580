def fX7_add (na nb nc nd T : Nat) (g : Md) (S : Int64) (v : Int32) : Int64 := (S * 31) + v.toInt64
theorem qX7_add_w1 : Cond.fieldLink RX7 244 "CherryStationModel" "sum" "J" ∈ wsX7_add := List.mem_of_getElem? (i := 1) rfl
theorem qX7_add_w2 : Cond.constantLong RX7 247 (31) ∈ wsX7_add := List.mem_of_getElem? (i := 2) rfl
theorem iX7_add_X7 : ∀ w ∈ wsX70, w ∈ wsX7_add := fun _ h => (List.mem_cons_of_mem _ (List.mem_append_right _ h))
set_option maxRecDepth 100000 in
set_option maxHeartbeats 4000000 in
theorem kX7_add (l : Launch) (D : va_G) (cy : Nat → ClassId) (e0 : Nat) {bd w : Nat → Nat → Nat} (g : Md) (S : Int64) (sz : Nat) (v : Int32) : Met l yX7_add wsX7_add ({ frames := 0, cells := 0, slots := 0, locals := 0 } : Room) (va_Pc [.ref (bd 0 0), .int v] (mPre D cy e0 bd w g S sz)) (mQv D cy bd w g (fX7_add (w 0 0) (w 0 1) (w 0 2) (w 0 3) (w 0 4) g S v) sz) 0 0 (mA bd w sz) := by
  refine q_start (cc := cX7_add) (maxL := 2) (ret := none) (own := RX7) (by decide) rfl rfl (Nat.le_of_ble_eq_true rfl) ?_
  intro p e s m below meth c hx hb hr hml hts hown hlocks ⟨hsz, hC, hB⟩ ls hl
  subst hsz
  have hS : va_S (mA bd w s.heap.size) s.heap s.heap [] := va_S.rf
  have hG : mG e0 bd w s.heap.size bd w := mG.rf hB.2.2.1
  have hw0 := hC.1
  have hl : lv_has ls 2 [(0, .ref (bd 0 0)), (1, .int v)] := hl
  refine lv_aload_n hx hb dX7_add_0 rfl (lv_at hl 0 rfl) ?_
  refine lv_aload_n hx hb dX7_add_1 rfl (lv_at hl 0 rfl) ?_
  refine gt_m0_15 hx hb hts iX7_add_X7 hown hB.1 hC qX7_add_w1 dX7_add_2 ?_
  refine lv_ldc2 hx hb hown (hts _ qX7_add_w2) dX7_add_5 ?_
  refine lv_lmul hx hb dX7_add_8 ?_
  refine lv_iload_n hx hb dX7_add_9 rfl (lv_at hl 1 rfl) ?_
  refine lv_i2l hx hb dX7_add_10 rfl ?_
  refine lv_ladd hx hb dX7_add_11 ?_
  refine pt_m0_15 hx hb hts iX7_add_X7 hown hB.1 hC hS hG.2.1 qX7_add_w1 dX7_add_12 (fun H locs hC hS => ?_)
  exact m_retv hx hb hr hG hC hS mEq_rf hlocks dX7_add_15
def fX7_readyNow_L25 (na nb nc nd T : Nat) (g : Md) (x : Int32) (wm : Int32) : Nat → Nat → Int32 → Int32
  | 0, k, a1 => (-1)
  | n + 1, k, a1 => if a1 < 60 then (fX7_readyNow_L25 na nb nc nd T g x wm n (k + 1) (a1 + (fX7_rises na nb nc nd T g (300 + x.toNatClampNeg) wm))) else (nI k)
def fX7_readyNow (na nb nc nd T : Nat) (g : Md) (x : Int32) (wm : Int32) : Int32 := if (g (300 + x.toNatClampNeg) 0) = 0 then ((-1)) else (fX7_readyNow_L25 na nb nc nd T g x wm (201) 0 (g (300 + x.toNatClampNeg) 3))
theorem qX7_readyNow_w1 : Cond.fieldLink RX7 21 "CherryStationModel" "tanks" "[[I" ∈ wsX7_readyNow := List.mem_of_getElem? (i := 1) rfl
theorem iX7_readyNow_X7 : ∀ w ∈ wsX70, w ∈ wsX7_readyNow := fun _ h => (List.mem_cons_of_mem _ (List.mem_append_right _ h))
set_option maxRecDepth 100000 in
set_option maxHeartbeats 4000000 in
theorem kX7_readyNow_L25 (l : Launch) (D : va_G) (cy : Nat → ClassId) (e0 : Nat) {bd w bd1 w1 : Nat → Nat → Nat} (g : Md) (S : Int64) (x : Int32) (wm : Int32) (h3 : vp_in x 3) (c0 s0 : Nat) (hc0 : c0 + 0 ≤ 0) (hs0 : s0 + 0 ≤ 0) {RV : Int32} {g2 : Md} (hq : mEq w g g2) {p : Program} {e : Env} {s : State} {m : MethodId} {below : List Frame} {meth : Method} {c : Code} (hx : p.tables.exec = Jvm.exec) (hb : c.code = cX7_readyNow) (hr : meth.sig.returnType = (some .int)) (hml : c.maxLocals = 5) (hts : ∀ w ∈ wsX7_readyNow, w.before [.ref (bd 0 0), .int x, .int wm].toArray s = true) (hown : s.vm.findClass RX7 = some m.cls) (hlocks : meth.locks = false) (hB : MB D cy e0 bd w s) (hG : mG e0 bd w s.heap.size bd1 w1) : ∀ (n k : Nat) (a1 : Int32) (hn : k + n = 201)  (hF : RV = fX7_readyNow_L25 (w1 0 0) (w1 0 1) (w1 0 2) (w1 0 3) (w1 0 4) g x wm n k a1) (H : Heap) (locs : List Loc) (ls : Array Slot) (hC : MW D cy bd1 w1 g S H) (hS : va_S (mA bd w s.heap.size) s.heap H locs) (hl : lv_has ls 5 [(4, .int (nI k)), (3, .int a1), (0, .ref (bd1 0 0)), (1, .int x), (2, .int wm)]), W p l e ({ frames := 1, cells := 0, slots := 0, locals := 21 } : Room) s m [.ref (bd 0 0), .int x, .int wm].toArray below meth c H locs c0 s0 (MQ below (mQi D cy bd w RV g2 S s.heap.size) [.ref (bd 0 0), .int x, .int wm].toArray s 0 0 (mA bd w s.heap.size)) (F0 m 25 ls []) := by
  intro n
  induction n with
  | zero =>
    intro k a1 hn hF H locs ls hC hS hl
    have hk1 : k = 201 := by omega
    have hkb : 201 ≤ 201 := Nat.le_refl _
    have hk9 : 200 < (nI k) := nI_lt (a := 200) (by omega) (by omega)
    have hw0 : wB w1 := hC.1
    refine lv_iload hx hb dX7_readyNow_25 (lv_at hl 0 rfl) ?_
    refine lv_sipush (v := 200) hx hb dX7_readyNow_27 (by decide) ?_
    refine lv_icmp_gt (tgt := 61) hx hb dX7_readyNow_30 (by decide) (fun _ => ?_) (fun c => absurd hk9 c)
    refine lv_iconst (v := (-1)) hx hb dX7_readyNow_61 (by decide) ?_
    refine W.widen (k := 0) (n := 0) (by omega) (by omega) ?_
    exact m_reti hx hb hr hG hC hS hq (hF.trans (by rw [fX7_readyNow_L25])) hlocks dX7_readyNow_62
  | succ n ih =>
    intro k a1 hn hF H locs ls hC hS hl
    have hk1 : k < 201 := by omega
    have hkb : 201 ≤ 201 := Nat.le_refl _
    have hk9 : ¬ 200 < (nI k) := nI_nlt (a := 200) (by omega) (by omega)
    have hw0 : wB w1 := hC.1
    refine lv_iload hx hb dX7_readyNow_25 (lv_at hl 0 rfl) ?_
    refine lv_sipush (v := 200) hx hb dX7_readyNow_27 (by decide) ?_
    refine lv_icmp_gt (tgt := 61) hx hb dX7_readyNow_30 (by decide) (fun c => absurd c hk9) (fun _ => ?_)
    refine lv_iload_n hx hb dX7_readyNow_33 rfl (lv_at hl 1 rfl) ?_
    refine lv_bipush (v := 60) hx hb dX7_readyNow_34 (by decide) ?_
    refine lv_icmp_lt (tgt := 42) hx hb dX7_readyNow_36 (by decide) (fun c2 => ?_) (fun c2 => ?_)
    · skip
      refine lv_iload_n hx hb dX7_readyNow_42 rfl (lv_at hl 1 rfl) ?_
      refine lv_aload_n hx hb dX7_readyNow_43 rfl (lv_at hl 2 rfl) ?_
      refine gt_m0_3 hx hb hts iX7_readyNow_X7 hown hB.1 hC qX7_readyNow_w1 dX7_readyNow_44 ?_
      refine lv_iload_n hx hb dX7_readyNow_47 rfl (lv_at hl 3 rfl) ?_
      refine la_m4 hx hb hB.1 hC (k := x.toNatClampNeg) rfl h3 dX7_readyNow_48 ?_
      refine lv_iload_n hx hb dX7_readyNow_49 rfl (lv_at hl 4 rfl) ?_
      refine m_callSi (As := [.ref (bd1 3 (300 + x.toNatClampNeg)), .int wm])  ⟨hx, hb, hml, hown, hts⟩ (kX7_rises l D cy e0 (bd := bd1) (w := w1) g S _ (300 + x.toNatClampNeg) (rV_300 (vp_lt h3)) (rl_300 (vp_lt h3)) wm ) (va_cwS 2 hts gX7_readyNow_X7_rises rfl rfl rfl (by decide +kernel) ⟨Nat.le_of_ble_eq_true rfl, Nat.le_of_ble_eq_true rfl⟩) hB hG.2 hC hS rfl hl.1 (Nat.le_of_ble_eq_true rfl) dX7_readyNow_50 ⟨by dsimp only; omega, by dsimp only; omega⟩ (fun H locs hC hS => ?_)
      refine lv_iadd hx hb dX7_readyNow_53 ?_
      refine lv_istore_n (lv' := [(3, .int (a1 + (fX7_rises (w1 0 0) (w1 0 1) (w1 0 2) (w1 0 3) (w1 0 4) g (300 + x.toNatClampNeg) wm))), (4, .int (nI k)), (0, .ref (bd1 0 0)), (1, .int x), (2, .int wm)]) hx hb dX7_readyNow_54 rfl hl (by decide) rfl (fun ls hl => ?_)
      refine lv_iinc (v := nI (k + 1)) (lv' := [(4, .int (nI (k + 1))), (3, .int (a1 + (fX7_rises (w1 0 0) (w1 0 1) (w1 0 2) (w1 0 3) (w1 0 4) g (300 + x.toNatClampNeg) wm))), (0, .ref (bd1 0 0)), (1, .int x), (2, .int wm)]) hx hb dX7_readyNow_55 hl (k := 1) rfl (nI_1 _) (by decide) rfl (fun ls hl => ?_)
      refine lv_goto (tgt := 25) hx hb dX7_readyNow_58 (by decide) ?_
      have e9 : fX7_readyNow_L25 (w1 0 0) (w1 0 1) (w1 0 2) (w1 0 3) (w1 0 4) g x wm (n + 1) k a1 = fX7_readyNow_L25 (w1 0 0) (w1 0 1) (w1 0 2) (w1 0 3) (w1 0 4) g x wm n (k + 1) (a1 + (fX7_rises (w1 0 0) (w1 0 1) (w1 0 2) (w1 0 3) (w1 0 4) g (300 + x.toNatClampNeg) wm)) := by rw [fX7_readyNow_L25, if_pos c2]
      exact ih (k + 1) (a1 + (fX7_rises (w1 0 0) (w1 0 1) (w1 0 2) (w1 0 3) (w1 0 4) g (300 + x.toNatClampNeg) wm)) (by omega)  (hF.trans e9) H locs ls hC hS (lv_sub hl [0, 1, 2, 3, 4] rfl)
    · skip
      refine lv_iload hx hb dX7_readyNow_39 (lv_at hl 0 rfl) ?_
      refine W.widen (k := 0) (n := 0) (by omega) (by omega) ?_
      exact m_reti hx hb hr hG hC hS hq (hF.trans (by rw [fX7_readyNow_L25, if_neg c2])) hlocks dX7_readyNow_41
set_option maxRecDepth 100000 in
set_option maxHeartbeats 4000000 in
theorem kX7_readyNow (l : Launch) (D : va_G) (cy : Nat → ClassId) (e0 : Nat) {bd w : Nat → Nat → Nat} (g : Md) (S : Int64) (sz : Nat) (x : Int32) (wm : Int32) (h3 : vp_in x 3) : Met l yX7_readyNow wsX7_readyNow ({ frames := 1, cells := 0, slots := 0, locals := 21 } : Room) (va_Pc [.ref (bd 0 0), .int x, .int wm] (mPre D cy e0 bd w g S sz)) (mQi D cy bd w (fX7_readyNow (w 0 0) (w 0 1) (w 0 2) (w 0 3) (w 0 4) g x wm) g S sz) 0 0 (mA bd w sz) := by
  refine q_start (cc := cX7_readyNow) (maxL := 5) (ret := (some .int)) (own := RX7) (by decide) rfl rfl (Nat.le_of_ble_eq_true rfl) ?_
  intro p e s m below meth c hx hb hr hml hts hown hlocks ⟨hsz, hC, hB⟩ ls hl
  subst hsz
  have hS : va_S (mA bd w s.heap.size) s.heap s.heap [] := va_S.rf
  have hG : mG e0 bd w s.heap.size bd w := mG.rf hB.2.2.1
  have hw0 := hC.1
  have hl : lv_has ls 5 [(0, .ref (bd 0 0)), (1, .int x), (2, .int wm)] := hl
  refine lv_aload_n hx hb dX7_readyNow_0 rfl (lv_at hl 0 rfl) ?_
  refine gt_m0_3 hx hb hts iX7_readyNow_X7 hown hB.1 hC qX7_readyNow_w1 dX7_readyNow_1 ?_
  refine lv_iload_n hx hb dX7_readyNow_4 rfl (lv_at hl 1 rfl) ?_
  refine la_m4 hx hb hB.1 hC (k := x.toNatClampNeg) rfl h3 dX7_readyNow_5 ?_
  refine lv_iconst (v := 3) hx hb dX7_readyNow_6 (by decide) ?_
  refine ld_m hx hb hB.1 hC (rV_300 (vp_lt h3)) (rl_300 (vp_lt h3)) (k := 3) (by decide) (by unfold vp_in; decide) dX7_readyNow_7 ?_
  refine lv_istore_n (lv' := [(3, .int (g (300 + x.toNatClampNeg) 3)), (0, .ref (bd 0 0)), (1, .int x), (2, .int wm)]) hx hb dX7_readyNow_8 rfl hl (by decide) rfl (fun ls hl => ?_)
  refine lv_aload_n hx hb dX7_readyNow_9 rfl (lv_at hl 1 rfl) ?_
  refine gt_m0_3 hx hb hts iX7_readyNow_X7 hown hB.1 hC qX7_readyNow_w1 dX7_readyNow_10 ?_
  refine lv_iload_n hx hb dX7_readyNow_13 rfl (lv_at hl 2 rfl) ?_
  refine la_m4 hx hb hB.1 hC (k := x.toNatClampNeg) rfl h3 dX7_readyNow_14 ?_
  refine lv_iconst (v := 0) hx hb dX7_readyNow_15 (by decide) ?_
  refine ld_m hx hb hB.1 hC (rV_300 (vp_lt h3)) (rl_300 (vp_lt h3)) (k := 0) (by decide) (by unfold vp_in; decide) dX7_readyNow_16 ?_
  refine lv_if_ne (tgt := 22) hx hb dX7_readyNow_17 (by decide) (fun c1 => ?_) (fun c1 => ?_)
  · skip
    refine lv_iconst (v := 0) hx hb dX7_readyNow_22 (by decide) ?_
    refine lv_istore (lv' := [(4, .int 0), (3, .int (g (300 + x.toNatClampNeg) 3)), (0, .ref (bd 0 0)), (1, .int x), (2, .int wm)]) hx hb dX7_readyNow_23 hl (by decide) rfl (fun ls hl => ?_)
    have e8 : fX7_readyNow (w 0 0) (w 0 1) (w 0 2) (w 0 3) (w 0 4) g x wm = fX7_readyNow_L25 (w 0 0) (w 0 1) (w 0 2) (w 0 3) (w 0 4) g x wm (201) 0 (g (300 + x.toNatClampNeg) 3) := (by unfold fX7_readyNow; rw [if_neg c1])
    exact kX7_readyNow_L25 l D cy e0 (bd := bd) (w := w) (bd1 := bd) (w1 := w) g S x wm h3 _ _ (Nat.le_of_ble_eq_true rfl) (Nat.le_of_ble_eq_true rfl) mEq_rf hx hb hr hml hts hown hlocks hB hG (201) 0 (g (300 + x.toNatClampNeg) 3) (by omega)  e8 _ _ ls hC hS (lv_sub hl [0, 1, 2, 3, 4] rfl)
  · skip
    refine lv_iconst (v := (-1)) hx hb dX7_readyNow_20 (by decide) ?_
    exact m_reti hx hb hr hG hC hS mEq_rf (by unfold fX7_readyNow; rw [if_pos c1]) hlocks dX7_readyNow_21
def fX7_readyIn (na nb nc nd T : Nat) (g : Md) (x : Int32) (wm : Int32) : Int32 × Md := if (fX7_isTank x) = 0 then (((fX7_refuse na nb nc nd T (u2 g 0 20 0) 1).1, (fX7_refuse na nb nc nd T (u2 g 0 20 0) 1).2)) else (if (fX7_isWarmth wm) = 0 then (((fX7_refuse na nb nc nd T (u2 g 0 20 0) 2).1, (fX7_refuse na nb nc nd T (u2 g 0 20 0) 2).2)) else ((fX7_readyNow na nb nc nd T (u2 g 0 20 0) x wm, (u2 g 0 20 0))))
theorem qX7_readyIn_w1 : Cond.fieldLink RX7 41 "CherryStationModel" "thrown" "I" ∈ wsX7_readyIn := List.mem_of_getElem? (i := 1) rfl
theorem iX7_readyIn_X7 : ∀ w ∈ wsX70, w ∈ wsX7_readyIn := fun _ h => (List.mem_cons_of_mem _ (List.mem_append_right _ h))
set_option maxRecDepth 100000 in
set_option maxHeartbeats 4000000 in
theorem kX7_readyIn (l : Launch) (D : va_G) (cy : Nat → ClassId) (e0 : Nat) {bd w : Nat → Nat → Nat} (g : Md) (S : Int64) (sz : Nat) (x : Int32) (wm : Int32) (hp1 : ¬ ((fX7_isTank x) = 0) → ¬ ((fX7_isWarmth wm) = 0) → (vp_in x 3)) : Met l yX7_readyIn wsX7_readyIn ({ frames := 2, cells := 0, slots := 0, locals := 45 } : Room) (va_Pc [.ref (bd 0 0), .int x, .int wm] (mPre D cy e0 bd w g S sz)) (mQi D cy bd w (fX7_readyIn (w 0 0) (w 0 1) (w 0 2) (w 0 3) (w 0 4) g x wm).1 (fX7_readyIn (w 0 0) (w 0 1) (w 0 2) (w 0 3) (w 0 4) g x wm).2 S sz) 0 0 (mA bd w sz) := by
  refine q_start (cc := cX7_readyIn) (maxL := 3) (ret := (some .int)) (own := RX7) (by decide) rfl rfl (Nat.le_of_ble_eq_true rfl) ?_
  intro p e s m below meth c hx hb hr hml hts hown hlocks ⟨hsz, hC, hB⟩ ls hl
  subst hsz
  have hS : va_S (mA bd w s.heap.size) s.heap s.heap [] := va_S.rf
  have hG : mG e0 bd w s.heap.size bd w := mG.rf hB.2.2.1
  have hw0 := hC.1
  have hl : lv_has ls 3 [(0, .ref (bd 0 0)), (1, .int x), (2, .int wm)] := hl
  refine lv_aload_n hx hb dX7_readyIn_0 rfl (lv_at hl 0 rfl) ?_
  refine lv_iconst (v := 0) hx hb dX7_readyIn_1 (by decide) ?_
  refine pt_m0_0 hx hb hts iX7_readyIn_X7 hown hB.1 hC hS hG.2.1 qX7_readyIn_w1 dX7_readyIn_2 (fun H locs hC hS => ?_)
  refine lv_iload_n hx hb dX7_readyIn_5 rfl (lv_at hl 1 rfl) ?_
  refine m_callSi (As := [.int x])  ⟨hx, hb, hml, hown, hts⟩ (kX7_isTank l D cy e0 (bd := bd) (w := w) (u2 g 0 20 0) S _ x ) (va_cwS 1 hts gX7_readyIn_X7_isTank rfl rfl rfl (by decide +kernel) ⟨Nat.le_of_ble_eq_true rfl, Nat.le_of_ble_eq_true rfl⟩) hB hG.2 hC hS rfl hl.1 (Nat.le_of_ble_eq_true rfl) dX7_readyIn_6 ⟨Nat.le_of_ble_eq_true rfl, Nat.le_of_ble_eq_true rfl⟩ (fun H locs hC hS => ?_)
  refine lv_if_ne (tgt := 18) hx hb dX7_readyIn_9 (by decide) (fun c1 => ?_) (fun c1 => ?_)
  · skip
    refine lv_iload_n hx hb dX7_readyIn_18 rfl (lv_at hl 2 rfl) ?_
    refine m_callSi (As := [.int wm])  ⟨hx, hb, hml, hown, hts⟩ (kX7_isWarmth l D cy e0 (bd := bd) (w := w) (u2 g 0 20 0) S _ wm ) (va_cwS 1 hts gX7_readyIn_X7_isWarmth rfl rfl rfl (by decide +kernel) ⟨Nat.le_of_ble_eq_true rfl, Nat.le_of_ble_eq_true rfl⟩) hB hG.2 hC hS rfl hl.1 (Nat.le_of_ble_eq_true rfl) dX7_readyIn_19 ⟨Nat.le_of_ble_eq_true rfl, Nat.le_of_ble_eq_true rfl⟩ (fun H locs hC hS => ?_)
    refine lv_if_eq (tgt := 34) hx hb dX7_readyIn_22 (by decide) (fun c2 => ?_) (fun c2 => ?_)
    · skip
      refine lv_aload_n hx hb dX7_readyIn_34 rfl (lv_at hl 0 rfl) ?_
      refine lv_iconst (v := 2) hx hb dX7_readyIn_35 (by decide) ?_
      refine m_callVi (As := [.int 2]) (κ := 0) (i := 0) rfl rfl ⟨_, rfl⟩ rfl ⟨hx, hb, hml, hown, hts⟩ (kX7_refuse l D cy e0 (bd := bd) (w := w) (u2 g 0 20 0) S _ 2 ) (cwV 1 hts gX7_readyIn_X7_refuse rfl rfl rfl (by decide +kernel) ⟨Nat.le_of_ble_eq_true rfl, Nat.le_of_ble_eq_true rfl⟩) hB hG.2 hC hS rfl hl.1 (Nat.le_of_ble_eq_true rfl) dX7_readyIn_36 ⟨Nat.le_of_ble_eq_true rfl, Nat.le_of_ble_eq_true rfl⟩ (fun H locs hC hS => ?_)
      have e9 : fX7_readyIn (w 0 0) (w 0 1) (w 0 2) (w 0 3) (w 0 4) g x wm = ((fX7_refuse (w 0 0) (w 0 1) (w 0 2) (w 0 3) (w 0 4) (u2 g 0 20 0) 2).1, (fX7_refuse (w 0 0) (w 0 1) (w 0 2) (w 0 3) (w 0 4) (u2 g 0 20 0) 2).2) := (by unfold fX7_readyIn; rw [if_neg c1, if_pos c2])
      exact m_reti hx hb hr hG hC hS (mEq_of (by rw [e9])) (by rw [e9]) hlocks dX7_readyIn_39
    · skip
      refine lv_aload_n hx hb dX7_readyIn_25 rfl (lv_at hl 0 rfl) ?_
      refine lv_iload_n hx hb dX7_readyIn_26 rfl (lv_at hl 1 rfl) ?_
      refine lv_iload_n hx hb dX7_readyIn_27 rfl (lv_at hl 2 rfl) ?_
      refine m_callVi (As := [.int x, .int wm]) (κ := 0) (i := 0) rfl rfl ⟨_, rfl⟩ rfl ⟨hx, hb, hml, hown, hts⟩ (kX7_readyNow l D cy e0 (bd := bd) (w := w) (u2 g 0 20 0) S _ x wm (hp1 c1 c2)) (cwV 2 hts gX7_readyIn_X7_readyNow rfl rfl rfl (by decide +kernel) ⟨Nat.le_of_ble_eq_true rfl, Nat.le_of_ble_eq_true rfl⟩) hB hG.2 hC hS rfl hl.1 (Nat.le_of_ble_eq_true rfl) dX7_readyIn_28 ⟨Nat.le_of_ble_eq_true rfl, Nat.le_of_ble_eq_true rfl⟩ (fun H locs hC hS => ?_)
      refine lv_goto (tgt := 39) hx hb dX7_readyIn_31 (by decide) ?_
      have e9 : fX7_readyIn (w 0 0) (w 0 1) (w 0 2) (w 0 3) (w 0 4) g x wm = (fX7_readyNow (w 0 0) (w 0 1) (w 0 2) (w 0 3) (w 0 4) (u2 g 0 20 0) x wm, (u2 g 0 20 0)) := (by unfold fX7_readyIn; rw [if_neg c1, if_neg c2])
      exact m_reti hx hb hr hG hC hS (mEq_of (by rw [e9])) (by rw [e9]) hlocks dX7_readyIn_39
  · skip
    refine lv_aload_n hx hb dX7_readyIn_12 rfl (lv_at hl 0 rfl) ?_
    refine lv_iconst (v := 1) hx hb dX7_readyIn_13 (by decide) ?_
    refine m_callVi (As := [.int 1]) (κ := 0) (i := 0) rfl rfl ⟨_, rfl⟩ rfl ⟨hx, hb, hml, hown, hts⟩ (kX7_refuse l D cy e0 (bd := bd) (w := w) (u2 g 0 20 0) S _ 1 ) (cwV 1 hts gX7_readyIn_X7_refuse rfl rfl rfl (by decide +kernel) ⟨Nat.le_of_ble_eq_true rfl, Nat.le_of_ble_eq_true rfl⟩) hB hG.2 hC hS rfl hl.1 (Nat.le_of_ble_eq_true rfl) dX7_readyIn_14 ⟨Nat.le_of_ble_eq_true rfl, Nat.le_of_ble_eq_true rfl⟩ (fun H locs hC hS => ?_)
    have e9 : fX7_readyIn (w 0 0) (w 0 1) (w 0 2) (w 0 3) (w 0 4) g x wm = ((fX7_refuse (w 0 0) (w 0 1) (w 0 2) (w 0 3) (w 0 4) (u2 g 0 20 0) 1).1, (fX7_refuse (w 0 0) (w 0 1) (w 0 2) (w 0 3) (w 0 4) (u2 g 0 20 0) 1).2) := (by unfold fX7_readyIn; rw [if_pos c1])
    exact m_reti hx hb hr hG hC hS (mEq_of (by rw [e9])) (by rw [e9]) hlocks dX7_readyIn_17
/-- the beds can be dried -/
def bdI (w : Nat → Nat → Nat) (g : Md) : Prop := ∀ i, i < w 0 2 → ¬ g (303 + i) 8 = 0 ∧ ¬ 10 + g (303 + i) 0 / g (303 + i) 8 = 0
theorem bdI_k {w : Nat → Nat → Nat} {g g2 : Md} (h : bdI w g) (h0 : ∀ i, i < w 0 2 → g2 (303 + i) 0 = g (303 + i) 0) (h8 : ∀ i, i < w 0 2 → g2 (303 + i) 8 = g (303 + i) 8) : bdI w g2 := fun i hi => by rw [h0 i hi, h8 i hi]; exact h i hi
theorem bdI_u2 {w : Nat → Nat → Nat} {g : Md} {r k : Nat} {v : Int32} (h : bdI w g) (h0 : k ≠ 0) (h8 : k ≠ 8) : bdI w (u2 g r k v) := bdI_k h (fun _ _ => u2_nk (Ne.symm h0)) (fun _ _ => u2_nk (Ne.symm h8))
theorem bdI_ur {w : Nat → Nat → Nat} {g : Md} {r k : Nat} {v : Int32} (h : bdI w g) (hr : r < 303 ∨ 303 + w 0 2 ≤ r) : bdI w (u2 g r k v) := bdI_k h (fun _ _ => u2_nr (by omega)) (fun _ _ => u2_nr (by omega))
theorem dry_k {a b c d t : Nat} {g : Md} {r r2 k : Nat} {x y : Int32} (h : r2 ≠ r ∨ k ≠ 5) : fX7_dry a b c d t g r x y r2 k = g r2 k := by
  unfold fX7_dry
  split
  · rfl
  · rcases h with h | h
    · exact u2_nr h
    · exact u2_nk h
theorem bdI_dry {w : Nat → Nat → Nat} {a b c d t : Nat} {g : Md} {r : Nat} {x y : Int32} (h : bdI w g) : bdI w (fX7_dry a b c d t g r x y) := bdI_k h (fun _ _ => dry_k (Or.inr (by decide))) (fun _ _ => dry_k (Or.inr (by decide)))
theorem dry_eq {w : Nat → Nat → Nat} {a b c d t : Nat} {g g2 : Md} {r : Nat} {x y : Int32} (h : mEq w g g2) (hw : wB w) (hr : 400 + w 0 4 ≤ r) : mEq w (fX7_dry a b c d t g r x y) g2 := ⟨fun k => by rw [dry_k (Or.inl (by omega))]; exact h.1 k, fun q hq k => by rw [dry_k (Or.inl (by unfold rV at hq; unfold wB at hw; omega))]; exact h.2 q hq k⟩
theorem arg_run {x : Int32} {k : Nat} (hk : k < x.toNatClampNeg) (hx : x.toNatClampNeg ≤ 1000) : ¬ x ≤ nI k := by
  rw [Int32.le_iff_toInt_le, nI_toInt (by omega)]
  have : x.toNatClampNeg = x.toInt.toNat := rfl
  omega
theorem arg_exit {x : Int32} {k : Nat} (hk : k = x.toNatClampNeg) (hx : x.toNatClampNeg ≤ 1000) : x ≤ nI k := by
  rw [Int32.le_iff_toInt_le, nI_toInt (by omega)]
  have : x.toNatClampNeg = x.toInt.toNat := rfl
  omega
def fX7_dryNow_L29 (na nb nc nd T : Nat) (g : Md) (be : Int32) (wm : Int32) (r0 : Nat) : Nat → Nat → Md → Int32
  | 0, k, g1 => (-1)
  | n + 1, k, g1 => if 125 < (g1 r0 5) then (fX7_dryNow_L29 na nb nc nd T g be wm r0 n (k + 1) (fX7_dry na nb nc nd T g1 r0 ((((g1 0 0) + (nI k)) + 1) - (((g1 0 0) + (nI k)) + 1) / 24 * 24) wm)) else (nI k)
def fX7_dryNow (na nb nc nd T : Nat) (g : Md) (be : Int32) (wm : Int32) : Int32 := if (g (303 + be.toNatClampNeg) 0) = 0 then ((-1)) else (fX7_dryNow_L29 na nb nc nd (T + 1) g be wm (400 + T) (401) 0 (rz g (400 + T) (fun k => g (303 + be.toNatClampNeg) k)))
theorem qX7_dryNow_w1 : Cond.fieldLink RX7 24 "CherryStationModel" "beds" "Ljava/util/ArrayList;" ∈ wsX7_dryNow := List.mem_of_getElem? (i := 1) rfl
theorem qX7_dryNow_w2 : Cond.classLink RX7 72 "[I" ∈ wsX7_dryNow := List.mem_of_getElem? (i := 2) rfl
theorem qX7_dryNow_w3 : Cond.methodLink RX7 181 ⟨"[I", "clone", "()Ljava/lang/Object;"⟩ ∈ wsX7_dryNow := List.mem_of_getElem? (i := 3) rfl
theorem qX7_dryNow_w4 : Cond.sameMethod "[I" "java/lang/Object" "clone" "()Ljava/lang/Object;" ∈ wsX7_dryNow := List.mem_of_getElem? (i := 4) rfl
theorem qX7_dryNow_w5 : Cond.native ⟨"java/lang/Object", "clone", "()Ljava/lang/Object;"⟩ ∈ wsX7_dryNow := List.mem_of_getElem? (i := 5) rfl
theorem qX7_dryNow_w6 : Cond.instanceMethod ⟨"java/lang/Object", "clone", "()Ljava/lang/Object;"⟩ ∈ wsX7_dryNow := List.mem_of_getElem? (i := 6) rfl
theorem qX7_dryNow_w7 : Cond.selects "[I" ⟨"[I", "clone", "()Ljava/lang/Object;"⟩ ⟨"java/lang/Object", "clone", "()Ljava/lang/Object;"⟩ ∈ wsX7_dryNow := List.mem_of_getElem? (i := 7) rfl
theorem qX7_dryNow_w8 : Cond.fieldLink RX7 73 "CherryStationModel" "hour" "I" ∈ wsX7_dryNow := List.mem_of_getElem? (i := 8) rfl
theorem iX7_dryNow_X7 : ∀ w ∈ wsX70, w ∈ wsX7_dryNow := fun _ h => (List.mem_cons_of_mem _ (List.mem_append_left _ (List.mem_append_right _ h)))
set_option maxRecDepth 100000 in
set_option maxHeartbeats 4000000 in
theorem kX7_dryNow_L29 (l : Launch) (D : va_G) (cy : Nat → ClassId) (e0 : Nat) {bd w bd1 w1 : Nat → Nat → Nat} (g : Md) (S : Int64) (be : Int32) (h_be : vp_in be (w1 0 2)) (wm : Int32) (r0 : Nat) (hv_r0 : rV w1 r0) (hn_r0 : rl w1 r0 = 23) (hww : wB w) (hr0 : 400 + w 0 4 ≤ r0) (c0 s0 : Nat) (hc0 : c0 + 0 ≤ 1) (hs0 : s0 + 0 ≤ 23) {RV : Int32} {g2 : Md} {p : Program} {e : Env} {s : State} {m : MethodId} {below : List Frame} {meth : Method} {c : Code} (hx : p.tables.exec = Jvm.exec) (hb : c.code = cX7_dryNow) (hr : meth.sig.returnType = (some .int)) (hml : c.maxLocals = 5) (hts : ∀ w ∈ wsX7_dryNow, w.before [.ref (bd 0 0), .int be, .int wm].toArray s = true) (hown : s.vm.findClass RX7 = some m.cls) (hlocks : meth.locks = false) (hB : MB D cy e0 bd w s) (hG : mG e0 bd w s.heap.size bd1 w1) : ∀ (n k : Nat) (g1 : Md) (hn : k + n = 401) (hq : mEq w g1 g2) (ha : ¬ g1 r0 8 = 0) (hd : ¬ 10 + g1 r0 0 / g1 r0 8 = 0) (hF : RV = fX7_dryNow_L29 (w1 0 0) (w1 0 1) (w1 0 2) (w1 0 3) (w1 0 4) g be wm r0 n k g1) (H : Heap) (locs : List Loc) (ls : Array Slot) (hC : MW D cy bd1 w1 g1 S H) (hS : va_S (mA bd w s.heap.size) s.heap H locs) (hl : lv_has ls 5 [(4, .int (nI k)), (3, .ref (bd1 3 r0)), (0, .ref (bd1 0 0)), (1, .int be), (2, .int wm)]), W p l e ({ frames := 3, cells := 1, slots := 23, locals := 64 } : Room) s m [.ref (bd 0 0), .int be, .int wm].toArray below meth c H locs c0 s0 (MQ below (mQi D cy bd w RV g2 S s.heap.size) [.ref (bd 0 0), .int be, .int wm].toArray s 1 23 (mA bd w s.heap.size)) (F0 m 29 ls []) := by
  intro n
  induction n with
  | zero =>
    intro k g1 hn hq ha hd hF H locs ls hC hS hl
    have hk1 : k = 401 := by omega
    have hkb : 401 ≤ 401 := Nat.le_refl _
    have hk9 : 400 < (nI k) := nI_lt (a := 400) (by omega) (by omega)
    have hw0 : wB w1 := hC.1
    refine lv_iload hx hb dX7_dryNow_29 (lv_at hl 0 rfl) ?_
    refine lv_sipush (v := 400) hx hb dX7_dryNow_31 (by decide) ?_
    refine lv_icmp_gt (tgt := 71) hx hb dX7_dryNow_34 (by decide) (fun _ => ?_) (fun c => absurd hk9 c)
    refine lv_iconst (v := (-1)) hx hb dX7_dryNow_71 (by decide) ?_
    refine W.widen (k := 1) (n := 23) (by omega) (by omega) ?_
    exact m_reti hx hb hr hG hC hS hq (hF.trans (by rw [fX7_dryNow_L29])) hlocks dX7_dryNow_72
  | succ n ih =>
    intro k g1 hn hq ha hd hF H locs ls hC hS hl
    have hk1 : k < 401 := by omega
    have hkb : 401 ≤ 401 := Nat.le_refl _
    have hk9 : ¬ 400 < (nI k) := nI_nlt (a := 400) (by omega) (by omega)
    have hw0 : wB w1 := hC.1
    refine lv_iload hx hb dX7_dryNow_29 (lv_at hl 0 rfl) ?_
    refine lv_sipush (v := 400) hx hb dX7_dryNow_31 (by decide) ?_
    refine lv_icmp_gt (tgt := 71) hx hb dX7_dryNow_34 (by decide) (fun c => absurd c hk9) (fun _ => ?_)
    refine lv_aload_n hx hb dX7_dryNow_37 rfl (lv_at hl 1 rfl) ?_
    refine lv_iconst (v := 5) hx hb dX7_dryNow_38 (by decide) ?_
    refine ld_m hx hb hB.1 hC hv_r0 hn_r0 (k := 5) (by decide) (by unfold vp_in; decide) dX7_dryNow_39 ?_
    refine lv_bipush (v := 125) hx hb dX7_dryNow_40 (by decide) ?_
    refine lv_icmp_gt (tgt := 48) hx hb dX7_dryNow_42 (by decide) (fun c5 => ?_) (fun c5 => ?_)
    · skip
      refine lv_aload_n hx hb dX7_dryNow_48 rfl (lv_at hl 1 rfl) ?_
      refine lv_aload_n hx hb dX7_dryNow_49 rfl (lv_at hl 2 rfl) ?_
      refine gt_m0_8 hx hb hts iX7_dryNow_X7 hown hB.1 hC qX7_dryNow_w8 dX7_dryNow_50 ?_
      refine lv_iload hx hb dX7_dryNow_53 (lv_at hl 0 rfl) ?_
      refine lv_iadd hx hb dX7_dryNow_55 ?_
      refine lv_iconst (v := 1) hx hb dX7_dryNow_56 (by decide) ?_
      refine lv_iadd hx hb dX7_dryNow_57 ?_
      refine lv_bipush (v := 24) hx hb dX7_dryNow_58 (by decide) ?_
      refine lv_irem hx hb dX7_dryNow_60 (by decide) ?_
      refine lv_iload_n hx hb dX7_dryNow_61 rfl (lv_at hl 4 rfl) ?_
      refine m_callSv (As := [.ref (bd1 3 r0), .int ((((g1 0 0) + (nI k)) + 1) - (((g1 0 0) + (nI k)) + 1) / 24 * 24), .int wm])  ⟨hx, hb, hml, hown, hts⟩ (kX7_dry l D cy e0 (bd := bd1) (w := w1) g1 S _ r0 hv_r0 hn_r0 ((((g1 0 0) + (nI k)) + 1) - (((g1 0 0) + (nI k)) + 1) / 24 * 24) wm ha hd) (va_cwS 3 hts gX7_dryNow_X7_dry rfl rfl rfl (by decide +kernel) ⟨Nat.le_of_ble_eq_true rfl, Nat.le_of_ble_eq_true rfl⟩) hB hG.2 hC hS rfl hl.1 (Nat.le_of_ble_eq_true rfl) dX7_dryNow_62 ⟨by dsimp only; omega, by dsimp only; omega⟩ (fun H locs hC hS => ?_)
      refine lv_iinc (v := nI (k + 1)) (lv' := [(4, .int (nI (k + 1))), (3, .ref (bd1 3 r0)), (0, .ref (bd1 0 0)), (1, .int be), (2, .int wm)]) hx hb dX7_dryNow_65 hl (k := 0) rfl (nI_1 _) (by decide) rfl (fun ls hl => ?_)
      refine lv_goto (tgt := 29) hx hb dX7_dryNow_68 (by decide) ?_
      have e9 : fX7_dryNow_L29 (w1 0 0) (w1 0 1) (w1 0 2) (w1 0 3) (w1 0 4) g be wm r0 (n + 1) k g1 = fX7_dryNow_L29 (w1 0 0) (w1 0 1) (w1 0 2) (w1 0 3) (w1 0 4) g be wm r0 n (k + 1) (fX7_dry (w1 0 0) (w1 0 1) (w1 0 2) (w1 0 3) (w1 0 4) g1 r0 ((((g1 0 0) + (nI k)) + 1) - (((g1 0 0) + (nI k)) + 1) / 24 * 24) wm) := by rw [fX7_dryNow_L29, if_pos c5]
      exact ih (k + 1) (fX7_dry (w1 0 0) (w1 0 1) (w1 0 2) (w1 0 3) (w1 0 4) g1 r0 ((((g1 0 0) + (nI k)) + 1) - (((g1 0 0) + (nI k)) + 1) / 24 * 24) wm) (by omega) (dry_eq hq hww hr0) (by rw [dry_k (Or.inr (by decide))]; exact ha) (by rw [dry_k (Or.inr (by decide)), dry_k (Or.inr (by decide))]; exact hd) (hF.trans e9) H locs ls hC hS (lv_sub hl [0, 1, 2, 3, 4] rfl)
    · skip
      refine lv_iload hx hb dX7_dryNow_45 (lv_at hl 0 rfl) ?_
      refine W.widen (k := 1) (n := 23) (by omega) (by omega) ?_
      exact m_reti hx hb hr hG hC hS hq (hF.trans (by rw [fX7_dryNow_L29, if_neg c5])) hlocks dX7_dryNow_47
set_option maxRecDepth 100000 in
set_option maxHeartbeats 4000000 in
theorem kX7_dryNow (l : Launch) (D : va_G) (cy : Nat → ClassId) (e0 : Nat) {bd w : Nat → Nat → Nat} (g : Md) (S : Int64) (sz : Nat) (be : Int32) (h_be : vp_in be (w 0 2)) (wm : Int32) (hT4 : w 0 4 + 1 ≤ 50) (hp1 : ¬ ((g (303 + be.toNatClampNeg) 0) = 0) → (¬ g (303 + be.toNatClampNeg) 8 = 0)) (hp2 : ¬ ((g (303 + be.toNatClampNeg) 0) = 0) → (¬ 10 + g (303 + be.toNatClampNeg) 0 / g (303 + be.toNatClampNeg) 8 = 0)) : Met l yX7_dryNow wsX7_dryNow ({ frames := 3, cells := 1, slots := 23, locals := 64 } : Room) (va_Pc [.ref (bd 0 0), .int be, .int wm] (mPre D cy e0 bd w g S sz)) (mQi D cy bd w (fX7_dryNow (w 0 0) (w 0 1) (w 0 2) (w 0 3) (w 0 4) g be wm) g S sz) 1 23 (mA bd w sz) := by
  refine q_start (cc := cX7_dryNow) (maxL := 5) (ret := (some .int)) (own := RX7) (by decide) rfl rfl (Nat.le_of_ble_eq_true rfl) ?_
  intro p e s m below meth c hx hb hr hml hts hown hlocks ⟨hsz, hC, hB⟩ ls hl
  subst hsz
  have hS : va_S (mA bd w s.heap.size) s.heap s.heap [] := va_S.rf
  have hG : mG e0 bd w s.heap.size bd w := mG.rf hB.2.2.1
  have hw0 := hC.1
  have hl : lv_has ls 5 [(0, .ref (bd 0 0)), (1, .int be), (2, .int wm)] := hl
  refine lv_aload_n hx hb dX7_dryNow_0 rfl (lv_at hl 0 rfl) ?_
  refine gt_m0_4 hx hb hts iX7_dryNow_X7 hown hB.1 hC qX7_dryNow_w1 dX7_dryNow_1 ?_
  refine lv_iload_n hx hb dX7_dryNow_4 rfl (lv_at hl 1 rfl) ?_
  refine m_callVr (As := [.int be]) (κ := 1) (i := 2) (show 2 < 4 by decide) rfl ⟨_, rfl⟩ rfl ⟨hx, hb, hml, hown, hts⟩ (kJx4a65c_get_915e3 l D cy e0 (bd := bd) (w := w) g S _ 2 (show 2 < 4 by decide) be h_be) (cwV 1 hts gX7_dryNow_Jx4a65c_get_915e3 rfl rfl rfl (by decide +kernel) ⟨Nat.le_of_ble_eq_true rfl, Nat.le_of_ble_eq_true rfl⟩) hB hG.2 hC hS rfl hl.1 (Nat.le_of_ble_eq_true rfl) dX7_dryNow_5 ⟨Nat.le_of_ble_eq_true rfl, Nat.le_of_ble_eq_true rfl⟩ (fun H locs hC hS => ?_)
  refine m_stk (st' := [.ref (bd 3 (303 + be.toNatClampNeg))]) rfl ?_
  refine m_cast hx hb hown (hts _ qX7_dryNow_w2) hB.1 hC (rV_303 (vp_lt h_be)) dX7_dryNow_8 ?_
  have hz9 := hS.1
  have hw9 := hC.1
  refine m_clone hx hb (hml.trans hl.1.symm) hown (hts _ qX7_dryNow_w3) (hts _ qX7_dryNow_w4) (hts _ qX7_dryNow_w5) (hts _ qX7_dryNow_w6) (hts _ qX7_dryNow_w7) (hB.2.1.1 _ (List.mem_of_getElem? (i := 22) rfl)) hB.1 hC hS (rV_303 (vp_lt h_be)) (rl_303 hC.1 (vp_lt h_be)) (by show w 0 4 < 50; omega) (Nat.le_of_ble_eq_true rfl) (Nat.le_of_ble_eq_true rfl) ⟨Nat.le_of_ble_eq_true rfl, Nat.le_of_ble_eq_true rfl⟩ dX7_dryNow_11 (fun bd1 H hN hC hS => ?_)
  have hD9 := wN_mD (N := 23) hN.1 hN.2.1
  have hD1 := hD9
  have hG : mG e0 bd w s.heap.size bd1 (wN w 23) := hG.new hN.1 hN.2.1 hN.2.2.1 (Nat.le_trans hz9 hN.2.2.2)
  have q0 : bd1 0 0 = bd 0 0 := hN.1 0 0 rfl
  rw [← q0] at hl
  have hv2 : rV (wN w 23) (400 + w 0 4) := rV_new
  have hn3 : rl (wN w 23) (400 + w 0 4) = 23 := rl_new
  refine m_cast hx hb hown (hts _ qX7_dryNow_w2) hB.1 hC hv2 dX7_dryNow_14 ?_
  refine lv_astore_n (lv' := [(3, .ref (bd1 3 (400 + w 0 4))), (0, .ref (bd1 0 0)), (1, .int be), (2, .int wm)]) hx hb dX7_dryNow_17 rfl hl (by decide) rfl (fun ls hl => ?_)
  refine lv_aload_n hx hb dX7_dryNow_18 rfl (lv_at hl 0 rfl) ?_
  refine lv_iconst (v := 0) hx hb dX7_dryNow_19 (by decide) ?_
  refine ld_m hx hb hB.1 hC hv2 hn3 (k := 0) (by decide) (by unfold vp_in; decide) dX7_dryNow_20 ?_
  refine q_val (v := g (303 + be.toNatClampNeg) 0) (rz_eq _ _ _ _) ?_
  refine lv_if_ne (tgt := 26) hx hb dX7_dryNow_21 (by decide) (fun c4 => ?_) (fun c4 => ?_)
  · skip
    refine lv_iconst (v := 0) hx hb dX7_dryNow_26 (by decide) ?_
    refine lv_istore (lv' := [(4, .int 0), (3, .ref (bd1 3 (400 + w 0 4))), (0, .ref (bd1 0 0)), (1, .int be), (2, .int wm)]) hx hb dX7_dryNow_27 hl (by decide) rfl (fun ls hl => ?_)
    have e8 : fX7_dryNow (w 0 0) (w 0 1) (w 0 2) (w 0 3) (w 0 4) g be wm = fX7_dryNow_L29 (w 0 0) (w 0 1) (w 0 2) (w 0 3) (w 0 4 + 1) g be wm (400 + w 0 4) (401) 0 (rz g (400 + w 0 4) (fun k => g (303 + be.toNatClampNeg) k)) := (by unfold fX7_dryNow; rw [if_neg c4])
    exact kX7_dryNow_L29 l D cy e0 (bd := bd) (w := w) (bd1 := bd1) (w1 := (wN w 23)) g S be h_be wm (400 + w 0 4) hv2 hn3 hw0 (Nat.le_refl _) _ _ (Nat.le_of_ble_eq_true rfl) (Nat.le_of_ble_eq_true rfl)  hx hb hr hml hts hown hlocks hB hG (401) 0 (rz g (400 + w 0 4) (fun k => g (303 + be.toNatClampNeg) k)) (by omega) (mEq_rz mEq_rf hw0 (by omega)) (by rw [rz_eq]; exact (hp1 c4)) (by rw [rz_eq, rz_eq]; exact (hp2 c4)) e8 _ _ ls hC hS (lv_sub hl [0, 1, 2, 3, 4] rfl)
  · skip
    refine lv_iconst (v := (-1)) hx hb dX7_dryNow_24 (by decide) ?_
    refine W.widen (k := 1) (n := 23) (Nat.le_of_ble_eq_true rfl) (Nat.le_of_ble_eq_true rfl) ?_
    exact m_reti hx hb hr hG hC hS (mEq_rz mEq_rf hw0 (by omega)) (by unfold fX7_dryNow; rw [if_pos c4]) hlocks dX7_dryNow_25
def fX7_dryIn (na nb nc nd T : Nat) (g : Md) (x : Int32) (wm : Int32) : Int32 × Md := if (fX7_isBed na nb nc nd T (u2 g 0 20 0) x) = 0 then (((fX7_refuse na nb nc nd T (u2 g 0 20 0) 1).1, (fX7_refuse na nb nc nd T (u2 g 0 20 0) 1).2)) else (if (fX7_isWarmth wm) = 0 then (((fX7_refuse na nb nc nd T (u2 g 0 20 0) 2).1, (fX7_refuse na nb nc nd T (u2 g 0 20 0) 2).2)) else ((fX7_dryNow na nb nc nd T (u2 g 0 20 0) x wm, (u2 g 0 20 0))))
theorem qX7_dryIn_w1 : Cond.fieldLink RX7 41 "CherryStationModel" "thrown" "I" ∈ wsX7_dryIn := List.mem_of_getElem? (i := 1) rfl
theorem iX7_dryIn_X7 : ∀ w ∈ wsX70, w ∈ wsX7_dryIn := fun _ h => (List.mem_cons_of_mem _ (List.mem_append_left _ (List.mem_append_right _ h)))
set_option maxRecDepth 100000 in
set_option maxHeartbeats 4000000 in
theorem kX7_dryIn (l : Launch) (D : va_G) (cy : Nat → ClassId) (e0 : Nat) {bd w : Nat → Nat → Nat} (g : Md) (S : Int64) (sz : Nat) (x : Int32) (wm : Int32) (hT4 : w 0 4 + 1 ≤ 50) (hp1 : ¬ ((fX7_isBed (w 0 0) (w 0 1) (w 0 2) (w 0 3) (w 0 4) (u2 g 0 20 0) x) = 0) → ¬ ((fX7_isWarmth wm) = 0) → (¬ (((u2 g 0 20 0) (303 + x.toNatClampNeg) 0) = 0) → (¬ (u2 g 0 20 0) (303 + x.toNatClampNeg) 8 = 0))) (hp2 : ¬ ((fX7_isBed (w 0 0) (w 0 1) (w 0 2) (w 0 3) (w 0 4) (u2 g 0 20 0) x) = 0) → ¬ ((fX7_isWarmth wm) = 0) → (¬ (((u2 g 0 20 0) (303 + x.toNatClampNeg) 0) = 0) → (¬ 10 + (u2 g 0 20 0) (303 + x.toNatClampNeg) 0 / (u2 g 0 20 0) (303 + x.toNatClampNeg) 8 = 0))) : Met l yX7_dryIn wsX7_dryIn ({ frames := 4, cells := 1, slots := 23, locals := 88 } : Room) (va_Pc [.ref (bd 0 0), .int x, .int wm] (mPre D cy e0 bd w g S sz)) (mQi D cy bd w (fX7_dryIn (w 0 0) (w 0 1) (w 0 2) (w 0 3) (w 0 4) g x wm).1 (fX7_dryIn (w 0 0) (w 0 1) (w 0 2) (w 0 3) (w 0 4) g x wm).2 S sz) 1 23 (mA bd w sz) := by
  refine q_start (cc := cX7_dryIn) (maxL := 3) (ret := (some .int)) (own := RX7) (by decide) rfl rfl (Nat.le_of_ble_eq_true rfl) ?_
  intro p e s m below meth c hx hb hr hml hts hown hlocks ⟨hsz, hC, hB⟩ ls hl
  subst hsz
  have hS : va_S (mA bd w s.heap.size) s.heap s.heap [] := va_S.rf
  have hG : mG e0 bd w s.heap.size bd w := mG.rf hB.2.2.1
  have hw0 := hC.1
  have hl : lv_has ls 3 [(0, .ref (bd 0 0)), (1, .int x), (2, .int wm)] := hl
  refine lv_aload_n hx hb dX7_dryIn_0 rfl (lv_at hl 0 rfl) ?_
  refine lv_iconst (v := 0) hx hb dX7_dryIn_1 (by decide) ?_
  refine pt_m0_0 hx hb hts iX7_dryIn_X7 hown hB.1 hC hS hG.2.1 qX7_dryIn_w1 dX7_dryIn_2 (fun H locs hC hS => ?_)
  refine lv_aload_n hx hb dX7_dryIn_5 rfl (lv_at hl 0 rfl) ?_
  refine lv_iload_n hx hb dX7_dryIn_6 rfl (lv_at hl 1 rfl) ?_
  refine m_callVi (As := [.int x]) (κ := 0) (i := 0) rfl rfl ⟨_, rfl⟩ rfl ⟨hx, hb, hml, hown, hts⟩ (kX7_isBed l D cy e0 (bd := bd) (w := w) (u2 g 0 20 0) S _ x ) (cwV 1 hts gX7_dryIn_X7_isBed rfl rfl rfl (by decide +kernel) ⟨Nat.le_of_ble_eq_true rfl, Nat.le_of_ble_eq_true rfl⟩) hB hG.2 hC hS rfl hl.1 (Nat.le_of_ble_eq_true rfl) dX7_dryIn_7 ⟨Nat.le_of_ble_eq_true rfl, Nat.le_of_ble_eq_true rfl⟩ (fun H locs hC hS => ?_)
  refine lv_if_ne (tgt := 19) hx hb dX7_dryIn_10 (by decide) (fun c1 => ?_) (fun c1 => ?_)
  · skip
    refine lv_iload_n hx hb dX7_dryIn_19 rfl (lv_at hl 2 rfl) ?_
    refine m_callSi (As := [.int wm])  ⟨hx, hb, hml, hown, hts⟩ (kX7_isWarmth l D cy e0 (bd := bd) (w := w) (u2 g 0 20 0) S _ wm ) (va_cwS 1 hts gX7_dryIn_X7_isWarmth rfl rfl rfl (by decide +kernel) ⟨Nat.le_of_ble_eq_true rfl, Nat.le_of_ble_eq_true rfl⟩) hB hG.2 hC hS rfl hl.1 (Nat.le_of_ble_eq_true rfl) dX7_dryIn_20 ⟨Nat.le_of_ble_eq_true rfl, Nat.le_of_ble_eq_true rfl⟩ (fun H locs hC hS => ?_)
    refine lv_if_eq (tgt := 35) hx hb dX7_dryIn_23 (by decide) (fun c2 => ?_) (fun c2 => ?_)
    · skip
      refine lv_aload_n hx hb dX7_dryIn_35 rfl (lv_at hl 0 rfl) ?_
      refine lv_iconst (v := 2) hx hb dX7_dryIn_36 (by decide) ?_
      refine m_callVi (As := [.int 2]) (κ := 0) (i := 0) rfl rfl ⟨_, rfl⟩ rfl ⟨hx, hb, hml, hown, hts⟩ (kX7_refuse l D cy e0 (bd := bd) (w := w) (u2 g 0 20 0) S _ 2 ) (cwV 1 hts gX7_dryIn_X7_refuse rfl rfl rfl (by decide +kernel) ⟨Nat.le_of_ble_eq_true rfl, Nat.le_of_ble_eq_true rfl⟩) hB hG.2 hC hS rfl hl.1 (Nat.le_of_ble_eq_true rfl) dX7_dryIn_37 ⟨Nat.le_of_ble_eq_true rfl, Nat.le_of_ble_eq_true rfl⟩ (fun H locs hC hS => ?_)
      refine W.widen (k := 1) (n := 23) (Nat.le_of_ble_eq_true rfl) (Nat.le_of_ble_eq_true rfl) ?_
      have e9 : fX7_dryIn (w 0 0) (w 0 1) (w 0 2) (w 0 3) (w 0 4) g x wm = ((fX7_refuse (w 0 0) (w 0 1) (w 0 2) (w 0 3) (w 0 4) (u2 g 0 20 0) 2).1, (fX7_refuse (w 0 0) (w 0 1) (w 0 2) (w 0 3) (w 0 4) (u2 g 0 20 0) 2).2) := (by unfold fX7_dryIn; rw [if_neg c1, if_pos c2])
      exact m_reti hx hb hr hG hC hS (mEq_of (by rw [e9])) (by rw [e9]) hlocks dX7_dryIn_40
    · skip
      refine lv_aload_n hx hb dX7_dryIn_26 rfl (lv_at hl 0 rfl) ?_
      refine lv_iload_n hx hb dX7_dryIn_27 rfl (lv_at hl 1 rfl) ?_
      refine lv_iload_n hx hb dX7_dryIn_28 rfl (lv_at hl 2 rfl) ?_
      refine m_callVi (As := [.int x, .int wm]) (κ := 0) (i := 0) rfl rfl ⟨_, rfl⟩ rfl ⟨hx, hb, hml, hown, hts⟩ (kX7_dryNow l D cy e0 (bd := bd) (w := w) (u2 g 0 20 0) S _ x (isBed_in (w := w) hw0 c1) wm (by show w 0 4 + 1 ≤ 50; omega) (hp1 c1 c2) (hp2 c1 c2)) (cwV 2 hts gX7_dryIn_X7_dryNow rfl rfl rfl (by decide +kernel) ⟨Nat.le_of_ble_eq_true rfl, Nat.le_of_ble_eq_true rfl⟩) hB hG.2 hC hS rfl hl.1 (Nat.le_of_ble_eq_true rfl) dX7_dryIn_29 ⟨Nat.le_of_ble_eq_true rfl, Nat.le_of_ble_eq_true rfl⟩ (fun H locs hC hS => ?_)
      refine lv_goto (tgt := 40) hx hb dX7_dryIn_32 (by decide) ?_
      refine W.widen (k := 1) (n := 23) (Nat.le_of_ble_eq_true rfl) (Nat.le_of_ble_eq_true rfl) ?_
      have e9 : fX7_dryIn (w 0 0) (w 0 1) (w 0 2) (w 0 3) (w 0 4) g x wm = (fX7_dryNow (w 0 0) (w 0 1) (w 0 2) (w 0 3) (w 0 4) (u2 g 0 20 0) x wm, (u2 g 0 20 0)) := (by unfold fX7_dryIn; rw [if_neg c1, if_neg c2])
      exact m_reti hx hb hr hG hC hS (mEq_of (by rw [e9])) (by rw [e9]) hlocks dX7_dryIn_40
  · skip
    refine lv_aload_n hx hb dX7_dryIn_13 rfl (lv_at hl 0 rfl) ?_
    refine lv_iconst (v := 1) hx hb dX7_dryIn_14 (by decide) ?_
    refine m_callVi (As := [.int 1]) (κ := 0) (i := 0) rfl rfl ⟨_, rfl⟩ rfl ⟨hx, hb, hml, hown, hts⟩ (kX7_refuse l D cy e0 (bd := bd) (w := w) (u2 g 0 20 0) S _ 1 ) (cwV 1 hts gX7_dryIn_X7_refuse rfl rfl rfl (by decide +kernel) ⟨Nat.le_of_ble_eq_true rfl, Nat.le_of_ble_eq_true rfl⟩) hB hG.2 hC hS rfl hl.1 (Nat.le_of_ble_eq_true rfl) dX7_dryIn_15 ⟨Nat.le_of_ble_eq_true rfl, Nat.le_of_ble_eq_true rfl⟩ (fun H locs hC hS => ?_)
    refine W.widen (k := 1) (n := 23) (Nat.le_of_ble_eq_true rfl) (Nat.le_of_ble_eq_true rfl) ?_
    have e9 : fX7_dryIn (w 0 0) (w 0 1) (w 0 2) (w 0 3) (w 0 4) g x wm = ((fX7_refuse (w 0 0) (w 0 1) (w 0 2) (w 0 3) (w 0 4) (u2 g 0 20 0) 1).1, (fX7_refuse (w 0 0) (w 0 1) (w 0 2) (w 0 3) (w 0 4) (u2 g 0 20 0) 1).2) := (by unfold fX7_dryIn; rw [if_pos c1])
    exact m_reti hx hb hr hG hC hS (mEq_of (by rw [e9])) (by rw [e9]) hlocks dX7_dryIn_18
def fX7_pass_L30 (na nb nc nd T : Nat) (g : Md) (wm : Int32) (rn : Int32) (v4 : Int32) : Nat → Nat → Int32 → Md → Int32 × Md
  | 0, k, a1, g1 => (a1, g1)
  | n + 1, k, a1, g1 => if (g1 (200 + k) 3) = 0 then (if 24 < ((g1 (200 + k) 4) + 1) then (fX7_pass_L30 na nb nc nd T g wm rn v4 n (k + 1) (a1 + 1) (u2 (u2 (u2 g1 (200 + k) 4 ((g1 (200 + k) 4) + 1)) (200 + k) 3 3) 0 5 ((g1 0 5) + (g1 (200 + k) 1)))) else (fX7_pass_L30 na nb nc nd T g wm rn v4 n (k + 1) a1 (u2 g1 (200 + k) 4 ((g1 (200 + k) 4) + 1)))) else (fX7_pass_L30 na nb nc nd T g wm rn v4 n (k + 1) a1 g1)
def fX7_pass_L120 (na nb nc nd T : Nat) (g : Md) (wm : Int32) (rn : Int32) (v4 : Int32) (v3 : Int32) : Nat → Nat → Md → Md
  | 0, k, g1 => g1
  | n + 1, k, g1 => if (g1 (300 + k) 0) = 0 then (fX7_pass_L120 na nb nc nd T g wm rn v4 v3 n (k + 1) g1) else (fX7_pass_L120 na nb nc nd T g wm rn v4 v3 n (k + 1) (u2 (u2 g1 (300 + k) 2 ((g1 (300 + k) 2) + 1)) (300 + k) 3 ((g1 (300 + k) 3) + (fX7_rises na nb nc nd T (u2 g1 (300 + k) 2 ((g1 (300 + k) 2) + 1)) (300 + k) wm))))
def fX7_pass_L180 (na nb nc nd T : Nat) (g : Md) (wm : Int32) (rn : Int32) (v4 : Int32) (v3 : Int32) : Nat → Nat → Md → Md
  | 0, k, g1 => g1
  | n + 1, k, g1 => if (g1 (303 + k) 0) = 0 then (fX7_pass_L180 na nb nc nd T g wm rn v4 v3 n (k + 1) g1) else (if rn ≤ 0 then (if ((((fX7_dry na nb nc nd T g1 (303 + k) v4 wm) (303 + k) 6) + 1) - (((fX7_dry na nb nc nd T g1 (303 + k) v4 wm) (303 + k) 6) + 1) / 12 * 12) = 0 then (if ((fX7_dry na nb nc nd T g1 (303 + k) v4 wm) (303 + k) 5) ≤ 250 then (fX7_pass_L180 na nb nc nd T g wm rn v4 v3 n (k + 1) (u2 (fX7_dry na nb nc nd T g1 (303 + k) v4 wm) (303 + k) 6 (((fX7_dry na nb nc nd T g1 (303 + k) v4 wm) (303 + k) 6) + 1))) else (fX7_pass_L180 na nb nc nd T g wm rn v4 v3 n (k + 1) (u2 (u2 (fX7_dry na nb nc nd T g1 (303 + k) v4 wm) (303 + k) 6 (((fX7_dry na nb nc nd T g1 (303 + k) v4 wm) (303 + k) 6) + 1)) (303 + k) 7 (((fX7_dry na nb nc nd T g1 (303 + k) v4 wm) (303 + k) 7) + 1)))) else (fX7_pass_L180 na nb nc nd T g wm rn v4 v3 n (k + 1) (u2 (fX7_dry na nb nc nd T g1 (303 + k) v4 wm) (303 + k) 6 (((fX7_dry na nb nc nd T g1 (303 + k) v4 wm) (303 + k) 6) + 1)))) else (if (g1 (303 + k) 9) = 0 then (if (((g1 (303 + k) 6) + 1) - ((g1 (303 + k) 6) + 1) / 12 * 12) = 0 then (if (if ((g1 (303 + k) 5) + rn) < 600 then ((g1 (303 + k) 5) + rn) else 600) ≤ 250 then (fX7_pass_L180 na nb nc nd T g wm rn v4 v3 n (k + 1) (u2 (u2 g1 (303 + k) 5 (if ((g1 (303 + k) 5) + rn) < 600 then ((g1 (303 + k) 5) + rn) else 600)) (303 + k) 6 ((g1 (303 + k) 6) + 1))) else (fX7_pass_L180 na nb nc nd T g wm rn v4 v3 n (k + 1) (u2 (u2 (u2 g1 (303 + k) 5 (if ((g1 (303 + k) 5) + rn) < 600 then ((g1 (303 + k) 5) + rn) else 600)) (303 + k) 6 ((g1 (303 + k) 6) + 1)) (303 + k) 7 ((g1 (303 + k) 7) + 1)))) else (fX7_pass_L180 na nb nc nd T g wm rn v4 v3 n (k + 1) (u2 (u2 g1 (303 + k) 5 (if ((g1 (303 + k) 5) + rn) < 600 then ((g1 (303 + k) 5) + rn) else 600)) (303 + k) 6 ((g1 (303 + k) 6) + 1)))) else (if ((((fX7_dry na nb nc nd T g1 (303 + k) v4 wm) (303 + k) 6) + 1) - (((fX7_dry na nb nc nd T g1 (303 + k) v4 wm) (303 + k) 6) + 1) / 12 * 12) = 0 then (if ((fX7_dry na nb nc nd T g1 (303 + k) v4 wm) (303 + k) 5) ≤ 250 then (fX7_pass_L180 na nb nc nd T g wm rn v4 v3 n (k + 1) (u2 (fX7_dry na nb nc nd T g1 (303 + k) v4 wm) (303 + k) 6 (((fX7_dry na nb nc nd T g1 (303 + k) v4 wm) (303 + k) 6) + 1))) else (fX7_pass_L180 na nb nc nd T g wm rn v4 v3 n (k + 1) (u2 (u2 (fX7_dry na nb nc nd T g1 (303 + k) v4 wm) (303 + k) 6 (((fX7_dry na nb nc nd T g1 (303 + k) v4 wm) (303 + k) 6) + 1)) (303 + k) 7 (((fX7_dry na nb nc nd T g1 (303 + k) v4 wm) (303 + k) 7) + 1)))) else (fX7_pass_L180 na nb nc nd T g wm rn v4 v3 n (k + 1) (u2 (fX7_dry na nb nc nd T g1 (303 + k) v4 wm) (303 + k) 6 (((fX7_dry na nb nc nd T g1 (303 + k) v4 wm) (303 + k) 6) + 1))))))
def fX7_pass_L307 (na nb nc nd T : Nat) (g : Md) (wm : Int32) (rn : Int32) (v4 : Int32) (v3 : Int32) : Nat → Nat → Md → Md
  | 0, k, g1 => g1
  | n + 1, k, g1 => fX7_pass_L307 na nb nc nd T g wm rn v4 v3 n (k + 1) (u2 g1 (308 + k) 2 ((g1 (308 + k) 2) + (g1 (308 + k) 10)))
def fX7_pass (na nb nc nd T : Nat) (g : Md) (wm : Int32) (rn : Int32) : Int32 × Md := if (((g 0 0) + 1) - ((g 0 0) + 1) / 24 * 24) = 0 then (((fX7_pass_L30 na nb nc nd T g wm rn (((g 0 0) + 1) - ((g 0 0) + 1) / 24 * 24) nb 0 0 (u2 g 0 0 ((g 0 0) + 1))).1, fX7_pass_L307 na nb nc nd T g wm rn (((g 0 0) + 1) - ((g 0 0) + 1) / 24 * 24) ((fX7_pass_L30 na nb nc nd T g wm rn (((g 0 0) + 1) - ((g 0 0) + 1) / 24 * 24) nb 0 0 (u2 g 0 0 ((g 0 0) + 1))).1) nd 0 (fX7_pass_L180 na nb nc nd T g wm rn (((g 0 0) + 1) - ((g 0 0) + 1) / 24 * 24) ((fX7_pass_L30 na nb nc nd T g wm rn (((g 0 0) + 1) - ((g 0 0) + 1) / 24 * 24) nb 0 0 (u2 g 0 0 ((g 0 0) + 1))).1) nc 0 (fX7_pass_L120 na nb nc nd T g wm rn (((g 0 0) + 1) - ((g 0 0) + 1) / 24 * 24) ((fX7_pass_L30 na nb nc nd T g wm rn (((g 0 0) + 1) - ((g 0 0) + 1) / 24 * 24) nb 0 0 (u2 g 0 0 ((g 0 0) + 1))).1) (3) 0 ((fX7_pass_L30 na nb nc nd T g wm rn (((g 0 0) + 1) - ((g 0 0) + 1) / 24 * 24) nb 0 0 (u2 g 0 0 ((g 0 0) + 1))).2))))) else (((fX7_pass_L30 na nb nc nd T g wm rn (((g 0 0) + 1) - ((g 0 0) + 1) / 24 * 24) nb 0 0 (u2 g 0 0 ((g 0 0) + 1))).1, fX7_pass_L180 na nb nc nd T g wm rn (((g 0 0) + 1) - ((g 0 0) + 1) / 24 * 24) ((fX7_pass_L30 na nb nc nd T g wm rn (((g 0 0) + 1) - ((g 0 0) + 1) / 24 * 24) nb 0 0 (u2 g 0 0 ((g 0 0) + 1))).1) nc 0 (fX7_pass_L120 na nb nc nd T g wm rn (((g 0 0) + 1) - ((g 0 0) + 1) / 24 * 24) ((fX7_pass_L30 na nb nc nd T g wm rn (((g 0 0) + 1) - ((g 0 0) + 1) / 24 * 24) nb 0 0 (u2 g 0 0 ((g 0 0) + 1))).1) (3) 0 ((fX7_pass_L30 na nb nc nd T g wm rn (((g 0 0) + 1) - ((g 0 0) + 1) / 24 * 24) nb 0 0 (u2 g 0 0 ((g 0 0) + 1))).2))))
theorem qX7_pass_w1 : Cond.fieldLink RX7 73 "CherryStationModel" "hour" "I" ∈ wsX7_pass := List.mem_of_getElem? (i := 1) rfl
theorem qX7_pass_w2 : Cond.fieldLink RX7 16 "CherryStationModel" "baskets" "Ljava/util/ArrayList;" ∈ wsX7_pass := List.mem_of_getElem? (i := 2) rfl
theorem qX7_pass_w3 : Cond.classLink RX7 72 "[I" ∈ wsX7_pass := List.mem_of_getElem? (i := 3) rfl
theorem qX7_pass_w4 : Cond.fieldLink RX7 106 "CherryStationModel" "lost" "I" ∈ wsX7_pass := List.mem_of_getElem? (i := 4) rfl
theorem qX7_pass_w5 : Cond.fieldLink RX7 21 "CherryStationModel" "tanks" "[[I" ∈ wsX7_pass := List.mem_of_getElem? (i := 5) rfl
theorem qX7_pass_w6 : Cond.fieldLink RX7 24 "CherryStationModel" "beds" "Ljava/util/ArrayList;" ∈ wsX7_pass := List.mem_of_getElem? (i := 6) rfl
theorem qX7_pass_w7 : Cond.methodLink RX7 112 Lib.Math.min.name ∈ wsX7_pass := List.mem_of_getElem? (i := 7) rfl
theorem qX7_pass_w8 : Cond.static Lib.Math.min.name ∈ wsX7_pass := List.mem_of_getElem? (i := 8) rfl
theorem qX7_pass_w9 : Cond.initialized "java/lang/Math" ∈ wsX7_pass := List.mem_of_getElem? (i := 9) rfl
theorem qX7_pass_w10 : Cond.code Lib.Math.min.name Lib.Math.min.code 2 (some .int) ∈ wsX7_pass := List.mem_of_getElem? (i := 10) rfl
theorem qX7_pass_w11 : Cond.fieldLink RX7 27 "CherryStationModel" "lots" "Ljava/util/ArrayList;" ∈ wsX7_pass := List.mem_of_getElem? (i := 11) rfl
theorem iX7_pass_X7 : ∀ w ∈ wsX70, w ∈ wsX7_pass := fun _ h => (List.mem_cons_of_mem _ (List.mem_append_left _ (List.mem_append_left _ (List.mem_append_right _ h))))
set_option maxRecDepth 100000 in
set_option maxHeartbeats 4000000 in
theorem kX7_pass_L30 (l : Launch) (D : va_G) (cy : Nat → ClassId) (e0 : Nat) {bd w bd1 w1 : Nat → Nat → Nat} (g : Md) (S : Int64) (wm : Int32) (rn : Int32) (v4 : Int32) (c0 s0 : Nat) (hc0 : c0 + 0 ≤ 3) (hs0 : s0 + 0 ≤ 12) {p : Program} {e : Env} {s : State} {m : MethodId} {below : List Frame} {meth : Method} {c : Code} {Q : State → Prop} (hx : p.tables.exec = Jvm.exec) (hb : c.code = cX7_pass) (hr : meth.sig.returnType = (some .int)) (hml : c.maxLocals = 9) (hts : ∀ w ∈ wsX7_pass, w.before [.ref (bd 0 0), .int wm, .int rn].toArray s = true) (hown : s.vm.findClass RX7 = some m.cls) (hlocks : meth.locks = false) (hB : MB D cy e0 bd w s) (hG : mG e0 bd w s.heap.size bd1 w1) (hI : ∀ k, mG e0 bd w s.heap.size bd1 (wI w1 1 k)) : ∀ (n k : Nat) (a1 : Int32) (g1 : Md) (hn : k + n = w1 0 1)   (H : Heap) (locs : List Loc) (ls : Array Slot) (hC : MW D cy bd1 (wI w1 1 k) g1 S H) (hS : va_S (mA bd w s.heap.size) s.heap H locs) (hl : lv_has ls 9 [(5, .ref (bd1 6 (w1 0 5))), (4, .int v4), (3, .int a1), (0, .ref (bd1 0 0)), (1, .int wm), (2, .int rn)]) (kk : ∀ (H : Heap) (locs : List Loc) (ls : Array Slot), MW D cy bd1 w1 ((fX7_pass_L30 (w1 0 0) (w1 0 1) (w1 0 2) (w1 0 3) (w1 0 4) g wm rn v4 n k a1 g1).2) S H → va_S (mA bd w s.heap.size) s.heap H locs → lv_has ls 9 [(4, .int v4), (3, .int ((fX7_pass_L30 (w1 0 0) (w1 0 1) (w1 0 2) (w1 0 3) (w1 0 4) g wm rn v4 n k a1 g1).1)), (0, .ref (bd1 0 0)), (1, .int wm), (2, .int rn)] → W p l e ({ frames := 3, cells := 3, slots := 12, locals := 53 } : Room) s m [.ref (bd 0 0), .int wm, .int rn].toArray below meth c H locs (c0) (s0) Q (F0 m 106 ls [])), W p l e ({ frames := 3, cells := 3, slots := 12, locals := 53 } : Room) s m [.ref (bd 0 0), .int wm, .int rn].toArray below meth c H locs c0 s0 Q (F0 m 30 ls []) := by
  intro n
  induction n with
  | zero =>
    intro k a1 g1 hn H locs ls hC hS hl kk
    have hk1 : k = w1 0 1 := by omega
    have hkb : w1 0 1 ≤ 20 := (wNB_1 hC.1)
    have hw0 : wB w1 := hC.1
    refine lv_aload hx hb dX7_pass_30 (lv_at hl 0 rfl) ?_
    refine m_callFi (As := []) (i := w1 0 5) it_v rfl ⟨hx, hb, hml, hown, hts⟩ (kJx35411_hasNext_aae02 l D cy e0 (bd := bd1) (w := w1) g1 S _ 1 k (by decide)) (va_cwF 0 hts gX7_pass_Jx35411_hasNext_aae02_f96Jx35411 rfl rfl rfl hB.2.2.2.2.1 (by decide +kernel) ⟨Nat.le_of_ble_eq_true rfl, Nat.le_of_ble_eq_true rfl⟩) hB (hI k).2 hC hS rfl hl.1 (Nat.le_of_ble_eq_true rfl) dX7_pass_32 ⟨by dsimp only; omega, by dsimp only; omega⟩ (fun H locs hC hS => ?_)
    refine q_val (v := 0) (if_pos (by rw [hk1])) ?_
    refine lv_if_eq (tgt := 106) hx hb dX7_pass_37 (by decide) (fun _ => ?_) (fun c => absurd c (by decide))
    have e9 : fX7_pass_L30 (w1 0 0) (w1 0 1) (w1 0 2) (w1 0 3) (w1 0 4) g wm rn v4 0 k a1 g1 = (a1, g1) := by rw [fX7_pass_L30]
    rw [e9] at kk
    have hC := hC.unI
    exact kk H locs ls hC hS (lv_sub hl [1, 2, 3, 4, 5] rfl)
  | succ n ih =>
    intro k a1 g1 hn H locs ls hC hS hl kk
    have hk1 : k < w1 0 1 := by omega
    have hkb : w1 0 1 ≤ 20 := (wNB_1 hC.1)
    have hw0 : wB w1 := hC.1
    refine lv_aload hx hb dX7_pass_30 (lv_at hl 0 rfl) ?_
    refine m_callFi (As := []) (i := w1 0 5) it_v rfl ⟨hx, hb, hml, hown, hts⟩ (kJx35411_hasNext_aae02 l D cy e0 (bd := bd1) (w := w1) g1 S _ 1 k (by decide)) (va_cwF 0 hts gX7_pass_Jx35411_hasNext_aae02_f96Jx35411 rfl rfl rfl hB.2.2.2.2.1 (by decide +kernel) ⟨Nat.le_of_ble_eq_true rfl, Nat.le_of_ble_eq_true rfl⟩) hB (hI k).2 hC hS rfl hl.1 (Nat.le_of_ble_eq_true rfl) dX7_pass_32 ⟨by dsimp only; omega, by dsimp only; omega⟩ (fun H locs hC hS => ?_)
    refine q_val (v := 1) (if_neg (fun h => nI_ne9 hk1 (Nat.le_trans (w0_20 (w := w1) hC.1 (show 1 < 4 by decide)) (by decide)) h)) ?_
    refine lv_if_eq (tgt := 106) hx hb dX7_pass_37 (by decide) (fun c => absurd c (by decide)) (fun _ => ?_)
    refine lv_aload hx hb dX7_pass_40 (lv_at hl 0 rfl) ?_
    refine m_feNext (li := 1) (k := k) (by decide) ⟨hx, hb, hml, hown, hts⟩ (kJx35411_next_0502b l D cy e0 (bd := bd1) (w := w1) g1 S _ 1 k (by decide) hk1) (va_cwF 0 hts gX7_pass_Jx35411_next_0502b_f102Jx35411 rfl rfl rfl hB.2.2.2.2.2.1 (by decide +kernel) ⟨Nat.le_of_ble_eq_true rfl, Nat.le_of_ble_eq_true rfl⟩) hB (hI k).2 hC hS hl.1 (Nat.le_of_ble_eq_true rfl) dX7_pass_42 ⟨by dsimp only; omega, by dsimp only; omega⟩ (fun H locs hC hS => ?_)
    have hG := hI (k + 1)
    refine m_stk (st' := [.ref (bd1 3 (200 + k))]) rfl ?_
    refine m_cast hx hb hown (hts _ qX7_pass_w3) hB.1 hC (rV_200 hk1) dX7_pass_47 ?_
    refine lv_astore (lv' := [(6, .ref (bd1 3 (200 + k))), (5, .ref (bd1 6 (w1 0 5))), (4, .int v4), (3, .int a1), (0, .ref (bd1 0 0)), (1, .int wm), (2, .int rn)]) hx hb dX7_pass_50 hl (by decide) rfl (fun ls hl => ?_)
    refine lv_aload hx hb dX7_pass_52 (lv_at hl 0 rfl) ?_
    refine lv_iconst (v := 3) hx hb dX7_pass_54 (by decide) ?_
    refine ld_m hx hb hB.1 hC (rV_200 hk1) (rl_200 hC.1 hk1) (k := 3) (by decide) (by unfold vp_in; decide) dX7_pass_55 ?_
    refine lv_if_eq (tgt := 62) hx hb dX7_pass_56 (by decide) (fun c2 => ?_) (fun c2 => ?_)
    · skip
      refine lv_aload hx hb dX7_pass_62 (lv_at hl 0 rfl) ?_
      refine lv_iconst (v := 4) hx hb dX7_pass_64 (by decide) ?_
      refine lv_dup2_11 hx hb dX7_pass_65 rfl rfl ?_
      refine ld_m hx hb hB.1 hC (rV_200 hk1) (rl_200 hC.1 hk1) (k := 4) (by decide) (by unfold vp_in; decide) dX7_pass_66 ?_
      refine lv_iconst (v := 1) hx hb dX7_pass_67 (by decide) ?_
      refine lv_iadd hx hb dX7_pass_68 ?_
      refine st_m hx hb hB.1 hC hS hG.2.1 (rV_200 hk1) (rl_200 hC.1 hk1) (k := 4) (by decide) (by unfold vp_in; decide) dX7_pass_69 (fun H locs hC hS => ?_)
      refine lv_aload hx hb dX7_pass_70 (lv_at hl 0 rfl) ?_
      refine lv_iconst (v := 4) hx hb dX7_pass_72 (by decide) ?_
      refine ld_m hx hb hB.1 hC (rV_200 hk1) (rl_200 hC.1 hk1) (k := 4) (by decide) (by unfold vp_in; decide) dX7_pass_73 ?_
      refine q_val (v := (g1 (200 + k) 4) + 1) (u2_eq _ _ _ _) ?_
      refine lv_bipush (v := 24) hx hb dX7_pass_74 (by decide) ?_
      refine lv_icmp_gt (tgt := 82) hx hb dX7_pass_76 (by decide) (fun c3 => ?_) (fun c3 => ?_)
      · skip
        refine lv_aload hx hb dX7_pass_82 (lv_at hl 0 rfl) ?_
        refine lv_iconst (v := 3) hx hb dX7_pass_84 (by decide) ?_
        refine lv_iconst (v := 3) hx hb dX7_pass_85 (by decide) ?_
        refine st_m hx hb hB.1 hC hS hG.2.1 (rV_200 hk1) (rl_200 hC.1 hk1) (k := 3) (by decide) (by unfold vp_in; decide) dX7_pass_86 (fun H locs hC hS => ?_)
        refine lv_aload_n hx hb dX7_pass_87 rfl (lv_at hl 4 rfl) ?_
        refine lv_dup hx hb dX7_pass_88 rfl ?_
        refine gt_m0_13 hx hb hts iX7_pass_X7 hown hB.1 hC qX7_pass_w4 dX7_pass_89 ?_
        refine q_val (v := g1 0 5) ((u2_nk (by decide)).trans ((u2_nk (by decide)).trans rfl)) ?_
        refine lv_aload hx hb dX7_pass_92 (lv_at hl 0 rfl) ?_
        refine lv_iconst (v := 1) hx hb dX7_pass_94 (by decide) ?_
        refine ld_m hx hb hB.1 hC (rV_200 hk1) (rl_200 hC.1 hk1) (k := 1) (by decide) (by unfold vp_in; decide) dX7_pass_95 ?_
        refine q_val (v := g1 (200 + k) 1) ((u2_nk (by decide)).trans ((u2_nk (by decide)).trans rfl)) ?_
        refine lv_iadd hx hb dX7_pass_96 ?_
        refine pt_m0_13 hx hb hts iX7_pass_X7 hown hB.1 hC hS hG.2.1 qX7_pass_w4 dX7_pass_97 (fun H locs hC hS => ?_)
        refine lv_iinc (v := a1 + 1) (lv' := [(3, .int (a1 + 1)), (6, .ref (bd1 3 (200 + k))), (5, .ref (bd1 6 (w1 0 5))), (4, .int v4), (0, .ref (bd1 0 0)), (1, .int wm), (2, .int rn)]) hx hb dX7_pass_100 hl (k := 3) rfl rfl (by decide) rfl (fun ls hl => ?_)
        refine lv_goto (tgt := 30) hx hb dX7_pass_103 (by decide) ?_
        have e9 : fX7_pass_L30 (w1 0 0) (w1 0 1) (w1 0 2) (w1 0 3) (w1 0 4) g wm rn v4 (n + 1) k a1 g1 = fX7_pass_L30 (w1 0 0) (w1 0 1) (w1 0 2) (w1 0 3) (w1 0 4) g wm rn v4 n (k + 1) (a1 + 1) (u2 (u2 (u2 g1 (200 + k) 4 ((g1 (200 + k) 4) + 1)) (200 + k) 3 3) 0 5 ((g1 0 5) + (g1 (200 + k) 1))) := by rw [fX7_pass_L30, if_pos c2, if_pos c3]
        rw [e9] at kk
        exact ih (k + 1) (a1 + 1) (u2 (u2 (u2 g1 (200 + k) 4 ((g1 (200 + k) 4) + 1)) (200 + k) 3 3) 0 5 ((g1 0 5) + (g1 (200 + k) 1))) (by omega)  H locs ls hC hS (lv_sub hl [2, 3, 0, 4, 5, 6] rfl) kk
      · skip
        refine lv_goto (tgt := 30) hx hb dX7_pass_79 (by decide) ?_
        have e9 : fX7_pass_L30 (w1 0 0) (w1 0 1) (w1 0 2) (w1 0 3) (w1 0 4) g wm rn v4 (n + 1) k a1 g1 = fX7_pass_L30 (w1 0 0) (w1 0 1) (w1 0 2) (w1 0 3) (w1 0 4) g wm rn v4 n (k + 1) a1 (u2 g1 (200 + k) 4 ((g1 (200 + k) 4) + 1)) := by rw [fX7_pass_L30, if_pos c2, if_neg c3]
        rw [e9] at kk
        exact ih (k + 1) a1 (u2 g1 (200 + k) 4 ((g1 (200 + k) 4) + 1)) (by omega)  H locs ls hC hS (lv_sub hl [1, 2, 3, 4, 5, 6] rfl) kk
    · skip
      refine lv_goto (tgt := 30) hx hb dX7_pass_59 (by decide) ?_
      have e9 : fX7_pass_L30 (w1 0 0) (w1 0 1) (w1 0 2) (w1 0 3) (w1 0 4) g wm rn v4 (n + 1) k a1 g1 = fX7_pass_L30 (w1 0 0) (w1 0 1) (w1 0 2) (w1 0 3) (w1 0 4) g wm rn v4 n (k + 1) a1 g1 := by rw [fX7_pass_L30, if_neg c2]
      rw [e9] at kk
      exact ih (k + 1) a1 g1 (by omega)  H locs ls hC hS (lv_sub hl [1, 2, 3, 4, 5, 6] rfl) kk
set_option maxRecDepth 100000 in
set_option maxHeartbeats 4000000 in
theorem kX7_pass_L120 (l : Launch) (D : va_G) (cy : Nat → ClassId) (e0 : Nat) {bd w bd1 w1 : Nat → Nat → Nat} (g : Md) (S : Int64) (wm : Int32) (rn : Int32) (v4 : Int32) (v3 : Int32) (c0 s0 : Nat) (hc0 : c0 + 0 ≤ 3) (hs0 : s0 + 0 ≤ 12) {p : Program} {e : Env} {s : State} {m : MethodId} {below : List Frame} {meth : Method} {c : Code} {Q : State → Prop} (hx : p.tables.exec = Jvm.exec) (hb : c.code = cX7_pass) (hr : meth.sig.returnType = (some .int)) (hml : c.maxLocals = 9) (hts : ∀ w ∈ wsX7_pass, w.before [.ref (bd 0 0), .int wm, .int rn].toArray s = true) (hown : s.vm.findClass RX7 = some m.cls) (hlocks : meth.locks = false) (hB : MB D cy e0 bd w s) (hG : mG e0 bd w s.heap.size bd1 w1) : ∀ (n k : Nat) (g1 : Md) (hn : k + n = 3)   (H : Heap) (locs : List Loc) (ls : Array Slot) (hC : MW D cy bd1 w1 g1 S H) (hS : va_S (mA bd w s.heap.size) s.heap H locs) (hl : lv_has ls 9 [(7, .int (nI k)), (6, .int 3), (5, .ref (bd1 4 0)), (4, .int v4), (3, .int v3), (0, .ref (bd1 0 0)), (1, .int wm), (2, .int rn)]) (kk : ∀ (H : Heap) (locs : List Loc) (ls : Array Slot), MW D cy bd1 w1 (fX7_pass_L120 (w1 0 0) (w1 0 1) (w1 0 2) (w1 0 3) (w1 0 4) g wm rn v4 v3 n k g1) S H → va_S (mA bd w s.heap.size) s.heap H locs → lv_has ls 9 [(6, .int 3), (5, .ref (bd1 4 0)), (4, .int v4), (3, .int v3), (0, .ref (bd1 0 0)), (1, .int wm), (2, .int rn)] → W p l e ({ frames := 3, cells := 3, slots := 12, locals := 53 } : Room) s m [.ref (bd 0 0), .int wm, .int rn].toArray below meth c H locs (c0) (s0) Q (F0 m 171 ls [])), W p l e ({ frames := 3, cells := 3, slots := 12, locals := 53 } : Room) s m [.ref (bd 0 0), .int wm, .int rn].toArray below meth c H locs c0 s0 Q (F0 m 120 ls []) := by
  intro n
  induction n with
  | zero =>
    intro k g1 hn H locs ls hC hS hl kk
    have hk1 : k = 3 := by omega
    have hkb : 3 ≤ 3 := Nat.le_refl _
    have hk9 : 3 ≤ (nI k) := by rw [hk1]; exact Int32.le_refl _
    have hw0 : wB w1 := hC.1
    refine lv_iload hx hb dX7_pass_120 (lv_at hl 0 rfl) ?_
    refine lv_iload hx hb dX7_pass_122 (lv_at hl 1 rfl) ?_
    refine lv_icmp_ge (tgt := 171) hx hb dX7_pass_124 (by decide) (fun _ => ?_) (fun c => absurd hk9 c)
    have e9 : fX7_pass_L120 (w1 0 0) (w1 0 1) (w1 0 2) (w1 0 3) (w1 0 4) g wm rn v4 v3 0 k g1 = g1 := by rw [fX7_pass_L120]
    rw [e9] at kk
    exact kk H locs ls hC hS (lv_sub hl [1, 2, 3, 4, 5, 6, 7] rfl)
  | succ n ih =>
    intro k g1 hn H locs ls hC hS hl kk
    have hk1 : k < 3 := by omega
    have hkb : 3 ≤ 3 := Nat.le_refl _
    have hk9 : ¬ 3 ≤ (nI k) := nI_ge (b := 3) hk1 (by decide)
    have hw0 : wB w1 := hC.1
    refine lv_iload hx hb dX7_pass_120 (lv_at hl 0 rfl) ?_
    refine lv_iload hx hb dX7_pass_122 (lv_at hl 1 rfl) ?_
    refine lv_icmp_ge (tgt := 171) hx hb dX7_pass_124 (by decide) (fun c => absurd c hk9) (fun _ => ?_)
    refine lv_aload hx hb dX7_pass_127 (lv_at hl 2 rfl) ?_
    refine lv_iload hx hb dX7_pass_129 (lv_at hl 0 rfl) ?_
    refine la_m4 hx hb hB.1 hC (k := k) (nk_clamp hk1 (by decide)) (nk_in hk1 (by decide)) dX7_pass_131 ?_
    refine lv_astore (lv' := [(8, .ref (bd1 3 (300 + k))), (7, .int (nI k)), (6, .int 3), (5, .ref (bd1 4 0)), (4, .int v4), (3, .int v3), (0, .ref (bd1 0 0)), (1, .int wm), (2, .int rn)]) hx hb dX7_pass_132 hl (by decide) rfl (fun ls hl => ?_)
    refine lv_aload hx hb dX7_pass_134 (lv_at hl 0 rfl) ?_
    refine lv_iconst (v := 0) hx hb dX7_pass_136 (by decide) ?_
    refine ld_m hx hb hB.1 hC (rV_300 hk1) (rl_300 hk1) (k := 0) (by decide) (by unfold vp_in; decide) dX7_pass_137 ?_
    refine lv_if_ne (tgt := 144) hx hb dX7_pass_138 (by decide) (fun c4 => ?_) (fun c4 => ?_)
    · skip
      refine lv_aload hx hb dX7_pass_144 (lv_at hl 0 rfl) ?_
      refine lv_iconst (v := 2) hx hb dX7_pass_146 (by decide) ?_
      refine lv_dup2_11 hx hb dX7_pass_147 rfl rfl ?_
      refine ld_m hx hb hB.1 hC (rV_300 hk1) (rl_300 hk1) (k := 2) (by decide) (by unfold vp_in; decide) dX7_pass_148 ?_
      refine lv_iconst (v := 1) hx hb dX7_pass_149 (by decide) ?_
      refine lv_iadd hx hb dX7_pass_150 ?_
      refine st_m hx hb hB.1 hC hS hG.2.1 (rV_300 hk1) (rl_300 hk1) (k := 2) (by decide) (by unfold vp_in; decide) dX7_pass_151 (fun H locs hC hS => ?_)
      refine lv_aload hx hb dX7_pass_152 (lv_at hl 0 rfl) ?_
      refine lv_iconst (v := 3) hx hb dX7_pass_154 (by decide) ?_
      refine lv_dup2_11 hx hb dX7_pass_155 rfl rfl ?_
      refine ld_m hx hb hB.1 hC (rV_300 hk1) (rl_300 hk1) (k := 3) (by decide) (by unfold vp_in; decide) dX7_pass_156 ?_
      refine q_val (v := g1 (300 + k) 3) ((u2_nk (by decide)).trans rfl) ?_
      refine lv_aload hx hb dX7_pass_157 (lv_at hl 0 rfl) ?_
      refine lv_iload_n hx hb dX7_pass_159 rfl (lv_at hl 7 rfl) ?_
      refine m_callSi (As := [.ref (bd1 3 (300 + k)), .int wm])  ⟨hx, hb, hml, hown, hts⟩ (kX7_rises l D cy e0 (bd := bd1) (w := w1) (u2 g1 (300 + k) 2 ((g1 (300 + k) 2) + 1)) S _ (300 + k) (rV_300 hk1) (rl_300 hk1) wm ) (va_cwS 2 hts gX7_pass_X7_rises rfl rfl rfl (by decide +kernel) ⟨Nat.le_of_ble_eq_true rfl, Nat.le_of_ble_eq_true rfl⟩) hB hG.2 hC hS rfl hl.1 (Nat.le_of_ble_eq_true rfl) dX7_pass_160 ⟨by dsimp only; omega, by dsimp only; omega⟩ (fun H locs hC hS => ?_)
      refine lv_iadd hx hb dX7_pass_163 ?_
      refine st_m hx hb hB.1 hC hS hG.2.1 (rV_300 hk1) (rl_300 hk1) (k := 3) (by decide) (by unfold vp_in; decide) dX7_pass_164 (fun H locs hC hS => ?_)
      refine lv_iinc (v := nI (k + 1)) (lv' := [(7, .int (nI (k + 1))), (8, .ref (bd1 3 (300 + k))), (6, .int 3), (5, .ref (bd1 4 0)), (4, .int v4), (3, .int v3), (0, .ref (bd1 0 0)), (1, .int wm), (2, .int rn)]) hx hb dX7_pass_165 hl (k := 1) rfl (nI_1 _) (by decide) rfl (fun ls hl => ?_)
      refine lv_goto (tgt := 120) hx hb dX7_pass_168 (by decide) ?_
      have e9 : fX7_pass_L120 (w1 0 0) (w1 0 1) (w1 0 2) (w1 0 3) (w1 0 4) g wm rn v4 v3 (n + 1) k g1 = fX7_pass_L120 (w1 0 0) (w1 0 1) (w1 0 2) (w1 0 3) (w1 0 4) g wm rn v4 v3 n (k + 1) (u2 (u2 g1 (300 + k) 2 ((g1 (300 + k) 2) + 1)) (300 + k) 3 ((g1 (300 + k) 3) + (fX7_rises (w1 0 0) (w1 0 1) (w1 0 2) (w1 0 3) (w1 0 4) (u2 g1 (300 + k) 2 ((g1 (300 + k) 2) + 1)) (300 + k) wm))) := by rw [fX7_pass_L120, if_neg c4]
      rw [e9] at kk
      exact ih (k + 1) (u2 (u2 g1 (300 + k) 2 ((g1 (300 + k) 2) + 1)) (300 + k) 3 ((g1 (300 + k) 3) + (fX7_rises (w1 0 0) (w1 0 1) (w1 0 2) (w1 0 3) (w1 0 4) (u2 g1 (300 + k) 2 ((g1 (300 + k) 2) + 1)) (300 + k) wm))) (by omega)  H locs ls hC hS (lv_sub hl [0, 2, 3, 4, 5, 6, 7, 8] rfl) kk
    · skip
      refine lv_goto (tgt := 165) hx hb dX7_pass_141 (by decide) ?_
      refine lv_iinc (v := nI (k + 1)) (lv' := [(7, .int (nI (k + 1))), (8, .ref (bd1 3 (300 + k))), (6, .int 3), (5, .ref (bd1 4 0)), (4, .int v4), (3, .int v3), (0, .ref (bd1 0 0)), (1, .int wm), (2, .int rn)]) hx hb dX7_pass_165 hl (k := 1) rfl (nI_1 _) (by decide) rfl (fun ls hl => ?_)
      refine lv_goto (tgt := 120) hx hb dX7_pass_168 (by decide) ?_
      have e9 : fX7_pass_L120 (w1 0 0) (w1 0 1) (w1 0 2) (w1 0 3) (w1 0 4) g wm rn v4 v3 (n + 1) k g1 = fX7_pass_L120 (w1 0 0) (w1 0 1) (w1 0 2) (w1 0 3) (w1 0 4) g wm rn v4 v3 n (k + 1) g1 := by rw [fX7_pass_L120, if_pos c4]
      rw [e9] at kk
      exact ih (k + 1) g1 (by omega)  H locs ls hC hS (lv_sub hl [0, 2, 3, 4, 5, 6, 7, 8] rfl) kk
set_option maxRecDepth 100000 in
set_option maxHeartbeats 4000000 in
theorem kX7_pass_L180 (l : Launch) (D : va_G) (cy : Nat → ClassId) (e0 : Nat) {bd w bd1 w1 : Nat → Nat → Nat} (g : Md) (S : Int64) (wm : Int32) (rn : Int32) (v4 : Int32) (v3 : Int32) (c0 s0 : Nat) (hc0 : c0 + 0 ≤ 3) (hs0 : s0 + 0 ≤ 12) {p : Program} {e : Env} {s : State} {m : MethodId} {below : List Frame} {meth : Method} {c : Code} {Q : State → Prop} (hx : p.tables.exec = Jvm.exec) (hb : c.code = cX7_pass) (hr : meth.sig.returnType = (some .int)) (hml : c.maxLocals = 9) (hts : ∀ w ∈ wsX7_pass, w.before [.ref (bd 0 0), .int wm, .int rn].toArray s = true) (hown : s.vm.findClass RX7 = some m.cls) (hlocks : meth.locks = false) (hB : MB D cy e0 bd w s) (hG : mG e0 bd w s.heap.size bd1 w1) (hI : ∀ k, mG e0 bd w s.heap.size bd1 (wI w1 2 k)) : ∀ (n k : Nat) (g1 : Md) (hn : k + n = w1 0 2) (hbd : bdI w1 g1)  (H : Heap) (locs : List Loc) (ls : Array Slot) (hC : MW D cy bd1 (wI w1 2 k) g1 S H) (hS : va_S (mA bd w s.heap.size) s.heap H locs) (hl : lv_has ls 9 [(5, .ref (bd1 6 (w1 0 5))), (4, .int v4), (3, .int v3), (0, .ref (bd1 0 0)), (1, .int wm), (2, .int rn)]) (kk : ∀ (H : Heap) (locs : List Loc) (ls : Array Slot), MW D cy bd1 w1 (fX7_pass_L180 (w1 0 0) (w1 0 1) (w1 0 2) (w1 0 3) (w1 0 4) g wm rn v4 v3 n k g1) S H → va_S (mA bd w s.heap.size) s.heap H locs → lv_has ls 9 [(4, .int v4), (3, .int v3), (0, .ref (bd1 0 0)), (1, .int wm), (2, .int rn)] → W p l e ({ frames := 3, cells := 3, slots := 12, locals := 53 } : Room) s m [.ref (bd 0 0), .int wm, .int rn].toArray below meth c H locs (c0) (s0) Q (F0 m 293 ls [])), W p l e ({ frames := 3, cells := 3, slots := 12, locals := 53 } : Room) s m [.ref (bd 0 0), .int wm, .int rn].toArray below meth c H locs c0 s0 Q (F0 m 180 ls []) := by
  intro n
  induction n with
  | zero =>
    intro k g1 hn hbd H locs ls hC hS hl kk
    have hk1 : k = w1 0 2 := by omega
    have hkb : w1 0 2 ≤ 5 := (wNB_2 hC.1)
    have hw0 : wB w1 := hC.1
    refine lv_aload hx hb dX7_pass_180 (lv_at hl 0 rfl) ?_
    refine m_callFi (As := []) (i := w1 0 5) it_v rfl ⟨hx, hb, hml, hown, hts⟩ (kJx35411_hasNext_aae02 l D cy e0 (bd := bd1) (w := w1) g1 S _ 2 k (by decide)) (va_cwF 0 hts gX7_pass_Jx35411_hasNext_aae02_f96Jx35411 rfl rfl rfl hB.2.2.2.2.1 (by decide +kernel) ⟨Nat.le_of_ble_eq_true rfl, Nat.le_of_ble_eq_true rfl⟩) hB (hI k).2 hC hS rfl hl.1 (Nat.le_of_ble_eq_true rfl) dX7_pass_182 ⟨by dsimp only; omega, by dsimp only; omega⟩ (fun H locs hC hS => ?_)
    refine q_val (v := 0) (if_pos (by rw [hk1])) ?_
    refine lv_if_eq (tgt := 293) hx hb dX7_pass_187 (by decide) (fun _ => ?_) (fun c => absurd c (by decide))
    have e9 : fX7_pass_L180 (w1 0 0) (w1 0 1) (w1 0 2) (w1 0 3) (w1 0 4) g wm rn v4 v3 0 k g1 = g1 := by rw [fX7_pass_L180]
    rw [e9] at kk
    have hC := hC.unI
    exact kk H locs ls hC hS (lv_sub hl [1, 2, 3, 4, 5] rfl)
  | succ n ih =>
    intro k g1 hn hbd H locs ls hC hS hl kk
    have hk1 : k < w1 0 2 := by omega
    have hkb : w1 0 2 ≤ 5 := (wNB_2 hC.1)
    have hw0 : wB w1 := hC.1
    refine lv_aload hx hb dX7_pass_180 (lv_at hl 0 rfl) ?_
    refine m_callFi (As := []) (i := w1 0 5) it_v rfl ⟨hx, hb, hml, hown, hts⟩ (kJx35411_hasNext_aae02 l D cy e0 (bd := bd1) (w := w1) g1 S _ 2 k (by decide)) (va_cwF 0 hts gX7_pass_Jx35411_hasNext_aae02_f96Jx35411 rfl rfl rfl hB.2.2.2.2.1 (by decide +kernel) ⟨Nat.le_of_ble_eq_true rfl, Nat.le_of_ble_eq_true rfl⟩) hB (hI k).2 hC hS rfl hl.1 (Nat.le_of_ble_eq_true rfl) dX7_pass_182 ⟨by dsimp only; omega, by dsimp only; omega⟩ (fun H locs hC hS => ?_)
    refine q_val (v := 1) (if_neg (fun h => nI_ne9 hk1 (Nat.le_trans (w0_20 (w := w1) hC.1 (show 2 < 4 by decide)) (by decide)) h)) ?_
    refine lv_if_eq (tgt := 293) hx hb dX7_pass_187 (by decide) (fun c => absurd c (by decide)) (fun _ => ?_)
    refine lv_aload hx hb dX7_pass_190 (lv_at hl 0 rfl) ?_
    refine m_feNext (li := 2) (k := k) (by decide) ⟨hx, hb, hml, hown, hts⟩ (kJx35411_next_0502b l D cy e0 (bd := bd1) (w := w1) g1 S _ 2 k (by decide) hk1) (va_cwF 0 hts gX7_pass_Jx35411_next_0502b_f102Jx35411 rfl rfl rfl hB.2.2.2.2.2.1 (by decide +kernel) ⟨Nat.le_of_ble_eq_true rfl, Nat.le_of_ble_eq_true rfl⟩) hB (hI k).2 hC hS hl.1 (Nat.le_of_ble_eq_true rfl) dX7_pass_192 ⟨by dsimp only; omega, by dsimp only; omega⟩ (fun H locs hC hS => ?_)
    have hG := hI (k + 1)
    refine m_stk (st' := [.ref (bd1 3 (303 + k))]) rfl ?_
    refine m_cast hx hb hown (hts _ qX7_pass_w3) hB.1 hC (rV_303 hk1) dX7_pass_197 ?_
    refine lv_astore (lv' := [(6, .ref (bd1 3 (303 + k))), (5, .ref (bd1 6 (w1 0 5))), (4, .int v4), (3, .int v3), (0, .ref (bd1 0 0)), (1, .int wm), (2, .int rn)]) hx hb dX7_pass_200 hl (by decide) rfl (fun ls hl => ?_)
    refine lv_aload hx hb dX7_pass_202 (lv_at hl 0 rfl) ?_
    refine lv_iconst (v := 0) hx hb dX7_pass_204 (by decide) ?_
    refine ld_m hx hb hB.1 hC (rV_303 hk1) (rl_303 hC.1 hk1) (k := 0) (by decide) (by unfold vp_in; decide) dX7_pass_205 ?_
    refine lv_if_ne (tgt := 212) hx hb dX7_pass_206 (by decide) (fun c6 => ?_) (fun c6 => ?_)
    · skip
      refine lv_iload_n hx hb dX7_pass_212 rfl (lv_at hl 6 rfl) ?_
      refine lv_if_le (tgt := 243) hx hb dX7_pass_213 (by decide) (fun c7 => ?_) (fun c7 => ?_)
      · skip
        refine lv_aload hx hb dX7_pass_243 (lv_at hl 0 rfl) ?_
        refine lv_iload hx hb dX7_pass_245 (lv_at hl 2 rfl) ?_
        refine lv_iload_n hx hb dX7_pass_247 rfl (lv_at hl 5 rfl) ?_
        refine m_callSv (As := [.ref (bd1 3 (303 + k)), .int v4, .int wm])  ⟨hx, hb, hml, hown, hts⟩ (kX7_dry l D cy e0 (bd := bd1) (w := (wI w1 2 (k + 1))) g1 S _ (303 + k) (rV_303 hk1) (rl_303 hC.1 hk1) v4 wm (hbd k hk1).1 (hbd k hk1).2) (va_cwS 3 hts gX7_pass_X7_dry rfl rfl rfl (by decide +kernel) ⟨Nat.le_of_ble_eq_true rfl, Nat.le_of_ble_eq_true rfl⟩) hB hG.2 hC hS rfl hl.1 (Nat.le_of_ble_eq_true rfl) dX7_pass_248 ⟨by dsimp only; omega, by dsimp only; omega⟩ (fun H locs hC hS => ?_)
        have hC : MW D cy bd1 (wI w1 2 (k + 1)) (fX7_dry (w1 0 0) (w1 0 1) (w1 0 2) (w1 0 3) (w1 0 4) g1 (303 + k) v4 wm) S H := hC
        refine lv_aload hx hb dX7_pass_251 (lv_at hl 0 rfl) ?_
        refine lv_bipush (v := 6) hx hb dX7_pass_253 (by decide) ?_
        refine lv_dup2_11 hx hb dX7_pass_255 rfl rfl ?_
        refine ld_m hx hb hB.1 hC (rV_303 hk1) (rl_303 hC.1 hk1) (k := 6) (by decide) (by unfold vp_in; decide) dX7_pass_256 ?_
        refine lv_iconst (v := 1) hx hb dX7_pass_257 (by decide) ?_
        refine lv_iadd hx hb dX7_pass_258 ?_
        refine st_m hx hb hB.1 hC hS hG.2.1 (rV_303 hk1) (rl_303 hC.1 hk1) (k := 6) (by decide) (by unfold vp_in; decide) dX7_pass_259 (fun H locs hC hS => ?_)
        refine lv_aload hx hb dX7_pass_260 (lv_at hl 0 rfl) ?_
        refine lv_bipush (v := 6) hx hb dX7_pass_262 (by decide) ?_
        refine ld_m hx hb hB.1 hC (rV_303 hk1) (rl_303 hC.1 hk1) (k := 6) (by decide) (by unfold vp_in; decide) dX7_pass_264 ?_
        refine q_val (v := ((fX7_dry (w1 0 0) (w1 0 1) (w1 0 2) (w1 0 3) (w1 0 4) g1 (303 + k) v4 wm) (303 + k) 6) + 1) (u2_eq _ _ _ _) ?_
        refine lv_bipush (v := 12) hx hb dX7_pass_265 (by decide) ?_
        refine lv_irem hx hb dX7_pass_267 (by decide) ?_
        refine lv_if_ne (tgt := 290) hx hb dX7_pass_268 (by decide) (fun c8 => ?_) (fun c8 => ?_)
        · skip
          refine lv_goto (tgt := 180) hx hb dX7_pass_290 (by decide) ?_
          have e9 : fX7_pass_L180 (w1 0 0) (w1 0 1) (w1 0 2) (w1 0 3) (w1 0 4) g wm rn v4 v3 (n + 1) k g1 = fX7_pass_L180 (w1 0 0) (w1 0 1) (w1 0 2) (w1 0 3) (w1 0 4) g wm rn v4 v3 n (k + 1) (u2 (fX7_dry (w1 0 0) (w1 0 1) (w1 0 2) (w1 0 3) (w1 0 4) g1 (303 + k) v4 wm) (303 + k) 6 (((fX7_dry (w1 0 0) (w1 0 1) (w1 0 2) (w1 0 3) (w1 0 4) g1 (303 + k) v4 wm) (303 + k) 6) + 1)) := by rw [fX7_pass_L180, if_neg c6, if_pos c7, if_neg c8]
          rw [e9] at kk
          exact ih (k + 1) (u2 (fX7_dry (w1 0 0) (w1 0 1) (w1 0 2) (w1 0 3) (w1 0 4) g1 (303 + k) v4 wm) (303 + k) 6 (((fX7_dry (w1 0 0) (w1 0 1) (w1 0 2) (w1 0 3) (w1 0 4) g1 (303 + k) v4 wm) (303 + k) 6) + 1)) (by omega) (bdI_u2 (bdI_dry hbd) (by decide) (by decide)) H locs ls hC hS (lv_sub hl [1, 2, 3, 4, 5, 6] rfl) kk
        · skip
          refine lv_aload hx hb dX7_pass_271 (lv_at hl 0 rfl) ?_
          refine lv_iconst (v := 5) hx hb dX7_pass_273 (by decide) ?_
          refine ld_m hx hb hB.1 hC (rV_303 hk1) (rl_303 hC.1 hk1) (k := 5) (by decide) (by unfold vp_in; decide) dX7_pass_274 ?_
          refine q_val (v := (fX7_dry (w1 0 0) (w1 0 1) (w1 0 2) (w1 0 3) (w1 0 4) g1 (303 + k) v4 wm) (303 + k) 5) ((u2_nk (by decide)).trans rfl) ?_
          refine lv_sipush (v := 250) hx hb dX7_pass_275 (by decide) ?_
          refine lv_icmp_le (tgt := 290) hx hb dX7_pass_278 (by decide) (fun c9 => ?_) (fun c9 => ?_)
          · skip
            refine lv_goto (tgt := 180) hx hb dX7_pass_290 (by decide) ?_
            have e9 : fX7_pass_L180 (w1 0 0) (w1 0 1) (w1 0 2) (w1 0 3) (w1 0 4) g wm rn v4 v3 (n + 1) k g1 = fX7_pass_L180 (w1 0 0) (w1 0 1) (w1 0 2) (w1 0 3) (w1 0 4) g wm rn v4 v3 n (k + 1) (u2 (fX7_dry (w1 0 0) (w1 0 1) (w1 0 2) (w1 0 3) (w1 0 4) g1 (303 + k) v4 wm) (303 + k) 6 (((fX7_dry (w1 0 0) (w1 0 1) (w1 0 2) (w1 0 3) (w1 0 4) g1 (303 + k) v4 wm) (303 + k) 6) + 1)) := by rw [fX7_pass_L180, if_neg c6, if_pos c7, if_pos c8, if_pos c9]
            rw [e9] at kk
            exact ih (k + 1) (u2 (fX7_dry (w1 0 0) (w1 0 1) (w1 0 2) (w1 0 3) (w1 0 4) g1 (303 + k) v4 wm) (303 + k) 6 (((fX7_dry (w1 0 0) (w1 0 1) (w1 0 2) (w1 0 3) (w1 0 4) g1 (303 + k) v4 wm) (303 + k) 6) + 1)) (by omega) (bdI_u2 (bdI_dry hbd) (by decide) (by decide)) H locs ls hC hS (lv_sub hl [1, 2, 3, 4, 5, 6] rfl) kk
          · skip
            refine lv_aload hx hb dX7_pass_281 (lv_at hl 0 rfl) ?_
            refine lv_bipush (v := 7) hx hb dX7_pass_283 (by decide) ?_
            refine lv_dup2_11 hx hb dX7_pass_285 rfl rfl ?_
            refine ld_m hx hb hB.1 hC (rV_303 hk1) (rl_303 hC.1 hk1) (k := 7) (by decide) (by unfold vp_in; decide) dX7_pass_286 ?_
            refine q_val (v := (fX7_dry (w1 0 0) (w1 0 1) (w1 0 2) (w1 0 3) (w1 0 4) g1 (303 + k) v4 wm) (303 + k) 7) ((u2_nk (by decide)).trans rfl) ?_
            refine lv_iconst (v := 1) hx hb dX7_pass_287 (by decide) ?_
            refine lv_iadd hx hb dX7_pass_288 ?_
            refine st_m hx hb hB.1 hC hS hG.2.1 (rV_303 hk1) (rl_303 hC.1 hk1) (k := 7) (by decide) (by unfold vp_in; decide) dX7_pass_289 (fun H locs hC hS => ?_)
            refine lv_goto (tgt := 180) hx hb dX7_pass_290 (by decide) ?_
            have e9 : fX7_pass_L180 (w1 0 0) (w1 0 1) (w1 0 2) (w1 0 3) (w1 0 4) g wm rn v4 v3 (n + 1) k g1 = fX7_pass_L180 (w1 0 0) (w1 0 1) (w1 0 2) (w1 0 3) (w1 0 4) g wm rn v4 v3 n (k + 1) (u2 (u2 (fX7_dry (w1 0 0) (w1 0 1) (w1 0 2) (w1 0 3) (w1 0 4) g1 (303 + k) v4 wm) (303 + k) 6 (((fX7_dry (w1 0 0) (w1 0 1) (w1 0 2) (w1 0 3) (w1 0 4) g1 (303 + k) v4 wm) (303 + k) 6) + 1)) (303 + k) 7 (((fX7_dry (w1 0 0) (w1 0 1) (w1 0 2) (w1 0 3) (w1 0 4) g1 (303 + k) v4 wm) (303 + k) 7) + 1)) := by rw [fX7_pass_L180, if_neg c6, if_pos c7, if_pos c8, if_neg c9]
            rw [e9] at kk
            exact ih (k + 1) (u2 (u2 (fX7_dry (w1 0 0) (w1 0 1) (w1 0 2) (w1 0 3) (w1 0 4) g1 (303 + k) v4 wm) (303 + k) 6 (((fX7_dry (w1 0 0) (w1 0 1) (w1 0 2) (w1 0 3) (w1 0 4) g1 (303 + k) v4 wm) (303 + k) 6) + 1)) (303 + k) 7 (((fX7_dry (w1 0 0) (w1 0 1) (w1 0 2) (w1 0 3) (w1 0 4) g1 (303 + k) v4 wm) (303 + k) 7) + 1)) (by omega) (bdI_u2 (bdI_u2 (bdI_dry hbd) (by decide) (by decide)) (by decide) (by decide)) H locs ls hC hS (lv_sub hl [1, 2, 3, 4, 5, 6] rfl) kk
      · skip
        refine lv_aload hx hb dX7_pass_216 (lv_at hl 0 rfl) ?_
        refine lv_bipush (v := 9) hx hb dX7_pass_218 (by decide) ?_
        refine ld_m hx hb hB.1 hC (rV_303 hk1) (rl_303 hC.1 hk1) (k := 9) (by decide) (by unfold vp_in; decide) dX7_pass_220 ?_
        refine lv_if_ne (tgt := 243) hx hb dX7_pass_221 (by decide) (fun c10 => ?_) (fun c10 => ?_)
        · skip
          refine lv_aload hx hb dX7_pass_243 (lv_at hl 0 rfl) ?_
          refine lv_iload hx hb dX7_pass_245 (lv_at hl 2 rfl) ?_
          refine lv_iload_n hx hb dX7_pass_247 rfl (lv_at hl 5 rfl) ?_
          refine m_callSv (As := [.ref (bd1 3 (303 + k)), .int v4, .int wm])  ⟨hx, hb, hml, hown, hts⟩ (kX7_dry l D cy e0 (bd := bd1) (w := (wI w1 2 (k + 1))) g1 S _ (303 + k) (rV_303 hk1) (rl_303 hC.1 hk1) v4 wm (hbd k hk1).1 (hbd k hk1).2) (va_cwS 3 hts gX7_pass_X7_dry rfl rfl rfl (by decide +kernel) ⟨Nat.le_of_ble_eq_true rfl, Nat.le_of_ble_eq_true rfl⟩) hB hG.2 hC hS rfl hl.1 (Nat.le_of_ble_eq_true rfl) dX7_pass_248 ⟨by dsimp only; omega, by dsimp only; omega⟩ (fun H locs hC hS => ?_)
          have hC : MW D cy bd1 (wI w1 2 (k + 1)) (fX7_dry (w1 0 0) (w1 0 1) (w1 0 2) (w1 0 3) (w1 0 4) g1 (303 + k) v4 wm) S H := hC
          refine lv_aload hx hb dX7_pass_251 (lv_at hl 0 rfl) ?_
          refine lv_bipush (v := 6) hx hb dX7_pass_253 (by decide) ?_
          refine lv_dup2_11 hx hb dX7_pass_255 rfl rfl ?_
          refine ld_m hx hb hB.1 hC (rV_303 hk1) (rl_303 hC.1 hk1) (k := 6) (by decide) (by unfold vp_in; decide) dX7_pass_256 ?_
          refine lv_iconst (v := 1) hx hb dX7_pass_257 (by decide) ?_
          refine lv_iadd hx hb dX7_pass_258 ?_
          refine st_m hx hb hB.1 hC hS hG.2.1 (rV_303 hk1) (rl_303 hC.1 hk1) (k := 6) (by decide) (by unfold vp_in; decide) dX7_pass_259 (fun H locs hC hS => ?_)
          refine lv_aload hx hb dX7_pass_260 (lv_at hl 0 rfl) ?_
          refine lv_bipush (v := 6) hx hb dX7_pass_262 (by decide) ?_
          refine ld_m hx hb hB.1 hC (rV_303 hk1) (rl_303 hC.1 hk1) (k := 6) (by decide) (by unfold vp_in; decide) dX7_pass_264 ?_
          refine q_val (v := ((fX7_dry (w1 0 0) (w1 0 1) (w1 0 2) (w1 0 3) (w1 0 4) g1 (303 + k) v4 wm) (303 + k) 6) + 1) (u2_eq _ _ _ _) ?_
          refine lv_bipush (v := 12) hx hb dX7_pass_265 (by decide) ?_
          refine lv_irem hx hb dX7_pass_267 (by decide) ?_
          refine lv_if_ne (tgt := 290) hx hb dX7_pass_268 (by decide) (fun c11 => ?_) (fun c11 => ?_)
          · skip
            refine lv_goto (tgt := 180) hx hb dX7_pass_290 (by decide) ?_
            have e9 : fX7_pass_L180 (w1 0 0) (w1 0 1) (w1 0 2) (w1 0 3) (w1 0 4) g wm rn v4 v3 (n + 1) k g1 = fX7_pass_L180 (w1 0 0) (w1 0 1) (w1 0 2) (w1 0 3) (w1 0 4) g wm rn v4 v3 n (k + 1) (u2 (fX7_dry (w1 0 0) (w1 0 1) (w1 0 2) (w1 0 3) (w1 0 4) g1 (303 + k) v4 wm) (303 + k) 6 (((fX7_dry (w1 0 0) (w1 0 1) (w1 0 2) (w1 0 3) (w1 0 4) g1 (303 + k) v4 wm) (303 + k) 6) + 1)) := by rw [fX7_pass_L180, if_neg c6, if_neg c7, if_neg c10, if_neg c11]
            rw [e9] at kk
            exact ih (k + 1) (u2 (fX7_dry (w1 0 0) (w1 0 1) (w1 0 2) (w1 0 3) (w1 0 4) g1 (303 + k) v4 wm) (303 + k) 6 (((fX7_dry (w1 0 0) (w1 0 1) (w1 0 2) (w1 0 3) (w1 0 4) g1 (303 + k) v4 wm) (303 + k) 6) + 1)) (by omega) (bdI_u2 (bdI_dry hbd) (by decide) (by decide)) H locs ls hC hS (lv_sub hl [1, 2, 3, 4, 5, 6] rfl) kk
          · skip
            refine lv_aload hx hb dX7_pass_271 (lv_at hl 0 rfl) ?_
            refine lv_iconst (v := 5) hx hb dX7_pass_273 (by decide) ?_
            refine ld_m hx hb hB.1 hC (rV_303 hk1) (rl_303 hC.1 hk1) (k := 5) (by decide) (by unfold vp_in; decide) dX7_pass_274 ?_
            refine q_val (v := (fX7_dry (w1 0 0) (w1 0 1) (w1 0 2) (w1 0 3) (w1 0 4) g1 (303 + k) v4 wm) (303 + k) 5) ((u2_nk (by decide)).trans rfl) ?_
            refine lv_sipush (v := 250) hx hb dX7_pass_275 (by decide) ?_
            refine lv_icmp_le (tgt := 290) hx hb dX7_pass_278 (by decide) (fun c12 => ?_) (fun c12 => ?_)
            · skip
              refine lv_goto (tgt := 180) hx hb dX7_pass_290 (by decide) ?_
              have e9 : fX7_pass_L180 (w1 0 0) (w1 0 1) (w1 0 2) (w1 0 3) (w1 0 4) g wm rn v4 v3 (n + 1) k g1 = fX7_pass_L180 (w1 0 0) (w1 0 1) (w1 0 2) (w1 0 3) (w1 0 4) g wm rn v4 v3 n (k + 1) (u2 (fX7_dry (w1 0 0) (w1 0 1) (w1 0 2) (w1 0 3) (w1 0 4) g1 (303 + k) v4 wm) (303 + k) 6 (((fX7_dry (w1 0 0) (w1 0 1) (w1 0 2) (w1 0 3) (w1 0 4) g1 (303 + k) v4 wm) (303 + k) 6) + 1)) := by rw [fX7_pass_L180, if_neg c6, if_neg c7, if_neg c10, if_pos c11, if_pos c12]
              rw [e9] at kk
              exact ih (k + 1) (u2 (fX7_dry (w1 0 0) (w1 0 1) (w1 0 2) (w1 0 3) (w1 0 4) g1 (303 + k) v4 wm) (303 + k) 6 (((fX7_dry (w1 0 0) (w1 0 1) (w1 0 2) (w1 0 3) (w1 0 4) g1 (303 + k) v4 wm) (303 + k) 6) + 1)) (by omega) (bdI_u2 (bdI_dry hbd) (by decide) (by decide)) H locs ls hC hS (lv_sub hl [1, 2, 3, 4, 5, 6] rfl) kk
            · skip
              refine lv_aload hx hb dX7_pass_281 (lv_at hl 0 rfl) ?_
              refine lv_bipush (v := 7) hx hb dX7_pass_283 (by decide) ?_
              refine lv_dup2_11 hx hb dX7_pass_285 rfl rfl ?_
              refine ld_m hx hb hB.1 hC (rV_303 hk1) (rl_303 hC.1 hk1) (k := 7) (by decide) (by unfold vp_in; decide) dX7_pass_286 ?_
              refine q_val (v := (fX7_dry (w1 0 0) (w1 0 1) (w1 0 2) (w1 0 3) (w1 0 4) g1 (303 + k) v4 wm) (303 + k) 7) ((u2_nk (by decide)).trans rfl) ?_
              refine lv_iconst (v := 1) hx hb dX7_pass_287 (by decide) ?_
              refine lv_iadd hx hb dX7_pass_288 ?_
              refine st_m hx hb hB.1 hC hS hG.2.1 (rV_303 hk1) (rl_303 hC.1 hk1) (k := 7) (by decide) (by unfold vp_in; decide) dX7_pass_289 (fun H locs hC hS => ?_)
              refine lv_goto (tgt := 180) hx hb dX7_pass_290 (by decide) ?_
              have e9 : fX7_pass_L180 (w1 0 0) (w1 0 1) (w1 0 2) (w1 0 3) (w1 0 4) g wm rn v4 v3 (n + 1) k g1 = fX7_pass_L180 (w1 0 0) (w1 0 1) (w1 0 2) (w1 0 3) (w1 0 4) g wm rn v4 v3 n (k + 1) (u2 (u2 (fX7_dry (w1 0 0) (w1 0 1) (w1 0 2) (w1 0 3) (w1 0 4) g1 (303 + k) v4 wm) (303 + k) 6 (((fX7_dry (w1 0 0) (w1 0 1) (w1 0 2) (w1 0 3) (w1 0 4) g1 (303 + k) v4 wm) (303 + k) 6) + 1)) (303 + k) 7 (((fX7_dry (w1 0 0) (w1 0 1) (w1 0 2) (w1 0 3) (w1 0 4) g1 (303 + k) v4 wm) (303 + k) 7) + 1)) := by rw [fX7_pass_L180, if_neg c6, if_neg c7, if_neg c10, if_pos c11, if_neg c12]
              rw [e9] at kk
              exact ih (k + 1) (u2 (u2 (fX7_dry (w1 0 0) (w1 0 1) (w1 0 2) (w1 0 3) (w1 0 4) g1 (303 + k) v4 wm) (303 + k) 6 (((fX7_dry (w1 0 0) (w1 0 1) (w1 0 2) (w1 0 3) (w1 0 4) g1 (303 + k) v4 wm) (303 + k) 6) + 1)) (303 + k) 7 (((fX7_dry (w1 0 0) (w1 0 1) (w1 0 2) (w1 0 3) (w1 0 4) g1 (303 + k) v4 wm) (303 + k) 7) + 1)) (by omega) (bdI_u2 (bdI_u2 (bdI_dry hbd) (by decide) (by decide)) (by decide) (by decide)) H locs ls hC hS (lv_sub hl [1, 2, 3, 4, 5, 6] rfl) kk
        · skip
          refine lv_aload hx hb dX7_pass_224 (lv_at hl 0 rfl) ?_
          refine lv_iconst (v := 5) hx hb dX7_pass_226 (by decide) ?_
          refine lv_sipush (v := 600) hx hb dX7_pass_227 (by decide) ?_
          refine lv_aload hx hb dX7_pass_230 (lv_at hl 0 rfl) ?_
          refine lv_iconst (v := 5) hx hb dX7_pass_232 (by decide) ?_
          refine ld_m hx hb hB.1 hC (rV_303 hk1) (rl_303 hC.1 hk1) (k := 5) (by decide) (by unfold vp_in; decide) dX7_pass_233 ?_
          refine lv_iload_n hx hb dX7_pass_234 rfl (lv_at hl 6 rfl) ?_
          refine lv_iadd hx hb dX7_pass_235 ?_
          refine va_mmin hx hb (hml.trans hl.1.symm) hown (hts _ qX7_pass_w7) (hts _ qX7_pass_w8) (hts _ qX7_pass_w9) (hts _ qX7_pass_w10) (by first | exact Nat.le_of_ble_eq_true rfl | (dsimp only; omega)) (by first | exact Nat.le_of_ble_eq_true rfl | (dsimp only; omega)) (by first | exact Nat.le_of_ble_eq_true rfl | (dsimp only; omega)) (by first | exact Nat.le_of_ble_eq_true rfl | (dsimp only; omega)) dX7_pass_236 ?_
          refine st_m hx hb hB.1 hC hS hG.2.1 (rV_303 hk1) (rl_303 hC.1 hk1) (k := 5) (by decide) (by unfold vp_in; decide) dX7_pass_239 (fun H locs hC hS => ?_)
          refine lv_goto (tgt := 251) hx hb dX7_pass_240 (by decide) ?_
          refine lv_aload hx hb dX7_pass_251 (lv_at hl 0 rfl) ?_
          refine lv_bipush (v := 6) hx hb dX7_pass_253 (by decide) ?_
          refine lv_dup2_11 hx hb dX7_pass_255 rfl rfl ?_
          refine ld_m hx hb hB.1 hC (rV_303 hk1) (rl_303 hC.1 hk1) (k := 6) (by decide) (by unfold vp_in; decide) dX7_pass_256 ?_
          refine q_val (v := g1 (303 + k) 6) ((u2_nk (by decide)).trans rfl) ?_
          refine lv_iconst (v := 1) hx hb dX7_pass_257 (by decide) ?_
          refine lv_iadd hx hb dX7_pass_258 ?_
          refine st_m hx hb hB.1 hC hS hG.2.1 (rV_303 hk1) (rl_303 hC.1 hk1) (k := 6) (by decide) (by unfold vp_in; decide) dX7_pass_259 (fun H locs hC hS => ?_)
          refine lv_aload hx hb dX7_pass_260 (lv_at hl 0 rfl) ?_
          refine lv_bipush (v := 6) hx hb dX7_pass_262 (by decide) ?_
          refine ld_m hx hb hB.1 hC (rV_303 hk1) (rl_303 hC.1 hk1) (k := 6) (by decide) (by unfold vp_in; decide) dX7_pass_264 ?_
          refine q_val (v := (g1 (303 + k) 6) + 1) (u2_eq _ _ _ _) ?_
          refine lv_bipush (v := 12) hx hb dX7_pass_265 (by decide) ?_
          refine lv_irem hx hb dX7_pass_267 (by decide) ?_
          refine lv_if_ne (tgt := 290) hx hb dX7_pass_268 (by decide) (fun c13 => ?_) (fun c13 => ?_)
          · skip
            refine lv_goto (tgt := 180) hx hb dX7_pass_290 (by decide) ?_
            have e9 : fX7_pass_L180 (w1 0 0) (w1 0 1) (w1 0 2) (w1 0 3) (w1 0 4) g wm rn v4 v3 (n + 1) k g1 = fX7_pass_L180 (w1 0 0) (w1 0 1) (w1 0 2) (w1 0 3) (w1 0 4) g wm rn v4 v3 n (k + 1) (u2 (u2 g1 (303 + k) 5 (if ((g1 (303 + k) 5) + rn) < 600 then ((g1 (303 + k) 5) + rn) else 600)) (303 + k) 6 ((g1 (303 + k) 6) + 1)) := by rw [fX7_pass_L180, if_neg c6, if_neg c7, if_pos c10, if_neg c13]
            rw [e9] at kk
            exact ih (k + 1) (u2 (u2 g1 (303 + k) 5 (if ((g1 (303 + k) 5) + rn) < 600 then ((g1 (303 + k) 5) + rn) else 600)) (303 + k) 6 ((g1 (303 + k) 6) + 1)) (by omega) (bdI_u2 (bdI_u2 hbd (by decide) (by decide)) (by decide) (by decide)) H locs ls hC hS (lv_sub hl [1, 2, 3, 4, 5, 6] rfl) kk
          · skip
            refine lv_aload hx hb dX7_pass_271 (lv_at hl 0 rfl) ?_
            refine lv_iconst (v := 5) hx hb dX7_pass_273 (by decide) ?_
            refine ld_m hx hb hB.1 hC (rV_303 hk1) (rl_303 hC.1 hk1) (k := 5) (by decide) (by unfold vp_in; decide) dX7_pass_274 ?_
            refine q_val (v := if ((g1 (303 + k) 5) + rn) < 600 then ((g1 (303 + k) 5) + rn) else 600) ((u2_nk (by decide)).trans (u2_eq _ _ _ _)) ?_
            refine lv_sipush (v := 250) hx hb dX7_pass_275 (by decide) ?_
            refine lv_icmp_le (tgt := 290) hx hb dX7_pass_278 (by decide) (fun c14 => ?_) (fun c14 => ?_)
            · skip
              refine lv_goto (tgt := 180) hx hb dX7_pass_290 (by decide) ?_
              have e9 : fX7_pass_L180 (w1 0 0) (w1 0 1) (w1 0 2) (w1 0 3) (w1 0 4) g wm rn v4 v3 (n + 1) k g1 = fX7_pass_L180 (w1 0 0) (w1 0 1) (w1 0 2) (w1 0 3) (w1 0 4) g wm rn v4 v3 n (k + 1) (u2 (u2 g1 (303 + k) 5 (if ((g1 (303 + k) 5) + rn) < 600 then ((g1 (303 + k) 5) + rn) else 600)) (303 + k) 6 ((g1 (303 + k) 6) + 1)) := by rw [fX7_pass_L180, if_neg c6, if_neg c7, if_pos c10, if_pos c13, if_pos c14]
              rw [e9] at kk
              exact ih (k + 1) (u2 (u2 g1 (303 + k) 5 (if ((g1 (303 + k) 5) + rn) < 600 then ((g1 (303 + k) 5) + rn) else 600)) (303 + k) 6 ((g1 (303 + k) 6) + 1)) (by omega) (bdI_u2 (bdI_u2 hbd (by decide) (by decide)) (by decide) (by decide)) H locs ls hC hS (lv_sub hl [1, 2, 3, 4, 5, 6] rfl) kk
            · skip
              refine lv_aload hx hb dX7_pass_281 (lv_at hl 0 rfl) ?_
              refine lv_bipush (v := 7) hx hb dX7_pass_283 (by decide) ?_
              refine lv_dup2_11 hx hb dX7_pass_285 rfl rfl ?_
              refine ld_m hx hb hB.1 hC (rV_303 hk1) (rl_303 hC.1 hk1) (k := 7) (by decide) (by unfold vp_in; decide) dX7_pass_286 ?_
              refine q_val (v := g1 (303 + k) 7) ((u2_nk (by decide)).trans ((u2_nk (by decide)).trans rfl)) ?_
              refine lv_iconst (v := 1) hx hb dX7_pass_287 (by decide) ?_
              refine lv_iadd hx hb dX7_pass_288 ?_
              refine st_m hx hb hB.1 hC hS hG.2.1 (rV_303 hk1) (rl_303 hC.1 hk1) (k := 7) (by decide) (by unfold vp_in; decide) dX7_pass_289 (fun H locs hC hS => ?_)
              refine lv_goto (tgt := 180) hx hb dX7_pass_290 (by decide) ?_
              have e9 : fX7_pass_L180 (w1 0 0) (w1 0 1) (w1 0 2) (w1 0 3) (w1 0 4) g wm rn v4 v3 (n + 1) k g1 = fX7_pass_L180 (w1 0 0) (w1 0 1) (w1 0 2) (w1 0 3) (w1 0 4) g wm rn v4 v3 n (k + 1) (u2 (u2 (u2 g1 (303 + k) 5 (if ((g1 (303 + k) 5) + rn) < 600 then ((g1 (303 + k) 5) + rn) else 600)) (303 + k) 6 ((g1 (303 + k) 6) + 1)) (303 + k) 7 ((g1 (303 + k) 7) + 1)) := by rw [fX7_pass_L180, if_neg c6, if_neg c7, if_pos c10, if_pos c13, if_neg c14]
              rw [e9] at kk
              exact ih (k + 1) (u2 (u2 (u2 g1 (303 + k) 5 (if ((g1 (303 + k) 5) + rn) < 600 then ((g1 (303 + k) 5) + rn) else 600)) (303 + k) 6 ((g1 (303 + k) 6) + 1)) (303 + k) 7 ((g1 (303 + k) 7) + 1)) (by omega) (bdI_u2 (bdI_u2 (bdI_u2 hbd (by decide) (by decide)) (by decide) (by decide)) (by decide) (by decide)) H locs ls hC hS (lv_sub hl [1, 2, 3, 4, 5, 6] rfl) kk
    · skip
      refine lv_goto (tgt := 180) hx hb dX7_pass_209 (by decide) ?_
      have e9 : fX7_pass_L180 (w1 0 0) (w1 0 1) (w1 0 2) (w1 0 3) (w1 0 4) g wm rn v4 v3 (n + 1) k g1 = fX7_pass_L180 (w1 0 0) (w1 0 1) (w1 0 2) (w1 0 3) (w1 0 4) g wm rn v4 v3 n (k + 1) g1 := by rw [fX7_pass_L180, if_pos c6]
      rw [e9] at kk
      exact ih (k + 1) g1 (by omega) hbd H locs ls hC hS (lv_sub hl [1, 2, 3, 4, 5, 6] rfl) kk
set_option maxRecDepth 100000 in
set_option maxHeartbeats 4000000 in
theorem kX7_pass_L307 (l : Launch) (D : va_G) (cy : Nat → ClassId) (e0 : Nat) {bd w bd1 w1 : Nat → Nat → Nat} (g : Md) (S : Int64) (wm : Int32) (rn : Int32) (v4 : Int32) (v3 : Int32) (c0 s0 : Nat) (hc0 : c0 + 0 ≤ 3) (hs0 : s0 + 0 ≤ 12) {p : Program} {e : Env} {s : State} {m : MethodId} {below : List Frame} {meth : Method} {c : Code} {Q : State → Prop} (hx : p.tables.exec = Jvm.exec) (hb : c.code = cX7_pass) (hr : meth.sig.returnType = (some .int)) (hml : c.maxLocals = 9) (hts : ∀ w ∈ wsX7_pass, w.before [.ref (bd 0 0), .int wm, .int rn].toArray s = true) (hown : s.vm.findClass RX7 = some m.cls) (hlocks : meth.locks = false) (hB : MB D cy e0 bd w s) (hG : mG e0 bd w s.heap.size bd1 w1) (hI : ∀ k, mG e0 bd w s.heap.size bd1 (wI w1 3 k)) : ∀ (n k : Nat) (g1 : Md) (hn : k + n = w1 0 3)   (H : Heap) (locs : List Loc) (ls : Array Slot) (hC : MW D cy bd1 (wI w1 3 k) g1 S H) (hS : va_S (mA bd w s.heap.size) s.heap H locs) (hl : lv_has ls 9 [(5, .ref (bd1 6 (w1 0 5))), (4, .int v4), (3, .int v3), (0, .ref (bd1 0 0)), (1, .int wm), (2, .int rn)]) (kk : ∀ (H : Heap) (locs : List Loc) (ls : Array Slot), MW D cy bd1 w1 (fX7_pass_L307 (w1 0 0) (w1 0 1) (w1 0 2) (w1 0 3) (w1 0 4) g wm rn v4 v3 n k g1) S H → va_S (mA bd w s.heap.size) s.heap H locs → lv_has ls 9 [(4, .int v4), (3, .int v3), (0, .ref (bd1 0 0)), (1, .int wm), (2, .int rn)] → W p l e ({ frames := 3, cells := 3, slots := 12, locals := 53 } : Room) s m [.ref (bd 0 0), .int wm, .int rn].toArray below meth c H locs (c0) (s0) Q (F0 m 344 ls [])), W p l e ({ frames := 3, cells := 3, slots := 12, locals := 53 } : Room) s m [.ref (bd 0 0), .int wm, .int rn].toArray below meth c H locs c0 s0 Q (F0 m 307 ls []) := by
  intro n
  induction n with
  | zero =>
    intro k g1 hn H locs ls hC hS hl kk
    have hk1 : k = w1 0 3 := by omega
    have hkb : w1 0 3 ≤ 12 := (wNB_3 hC.1)
    have hw0 : wB w1 := hC.1
    refine lv_aload hx hb dX7_pass_307 (lv_at hl 0 rfl) ?_
    refine m_callFi (As := []) (i := w1 0 5) it_v rfl ⟨hx, hb, hml, hown, hts⟩ (kJx35411_hasNext_aae02 l D cy e0 (bd := bd1) (w := w1) g1 S _ 3 k (by decide)) (va_cwF 0 hts gX7_pass_Jx35411_hasNext_aae02_f96Jx35411 rfl rfl rfl hB.2.2.2.2.1 (by decide +kernel) ⟨Nat.le_of_ble_eq_true rfl, Nat.le_of_ble_eq_true rfl⟩) hB (hI k).2 hC hS rfl hl.1 (Nat.le_of_ble_eq_true rfl) dX7_pass_309 ⟨by dsimp only; omega, by dsimp only; omega⟩ (fun H locs hC hS => ?_)
    refine q_val (v := 0) (if_pos (by rw [hk1])) ?_
    refine lv_if_eq (tgt := 344) hx hb dX7_pass_314 (by decide) (fun _ => ?_) (fun c => absurd c (by decide))
    have e9 : fX7_pass_L307 (w1 0 0) (w1 0 1) (w1 0 2) (w1 0 3) (w1 0 4) g wm rn v4 v3 0 k g1 = g1 := by rw [fX7_pass_L307]
    rw [e9] at kk
    have hC := hC.unI
    exact kk H locs ls hC hS (lv_sub hl [1, 2, 3, 4, 5] rfl)
  | succ n ih =>
    intro k g1 hn H locs ls hC hS hl kk
    have hk1 : k < w1 0 3 := by omega
    have hkb : w1 0 3 ≤ 12 := (wNB_3 hC.1)
    have hw0 : wB w1 := hC.1
    refine lv_aload hx hb dX7_pass_307 (lv_at hl 0 rfl) ?_
    refine m_callFi (As := []) (i := w1 0 5) it_v rfl ⟨hx, hb, hml, hown, hts⟩ (kJx35411_hasNext_aae02 l D cy e0 (bd := bd1) (w := w1) g1 S _ 3 k (by decide)) (va_cwF 0 hts gX7_pass_Jx35411_hasNext_aae02_f96Jx35411 rfl rfl rfl hB.2.2.2.2.1 (by decide +kernel) ⟨Nat.le_of_ble_eq_true rfl, Nat.le_of_ble_eq_true rfl⟩) hB (hI k).2 hC hS rfl hl.1 (Nat.le_of_ble_eq_true rfl) dX7_pass_309 ⟨by dsimp only; omega, by dsimp only; omega⟩ (fun H locs hC hS => ?_)
    refine q_val (v := 1) (if_neg (fun h => nI_ne9 hk1 (Nat.le_trans (w0_20 (w := w1) hC.1 (show 3 < 4 by decide)) (by decide)) h)) ?_
    refine lv_if_eq (tgt := 344) hx hb dX7_pass_314 (by decide) (fun c => absurd c (by decide)) (fun _ => ?_)
    refine lv_aload hx hb dX7_pass_317 (lv_at hl 0 rfl) ?_
    refine m_feNext (li := 3) (k := k) (by decide) ⟨hx, hb, hml, hown, hts⟩ (kJx35411_next_0502b l D cy e0 (bd := bd1) (w := w1) g1 S _ 3 k (by decide) hk1) (va_cwF 0 hts gX7_pass_Jx35411_next_0502b_f102Jx35411 rfl rfl rfl hB.2.2.2.2.2.1 (by decide +kernel) ⟨Nat.le_of_ble_eq_true rfl, Nat.le_of_ble_eq_true rfl⟩) hB (hI k).2 hC hS hl.1 (Nat.le_of_ble_eq_true rfl) dX7_pass_319 ⟨by dsimp only; omega, by dsimp only; omega⟩ (fun H locs hC hS => ?_)
    have hG := hI (k + 1)
    refine m_stk (st' := [.ref (bd1 3 (308 + k))]) rfl ?_
    refine m_cast hx hb hown (hts _ qX7_pass_w3) hB.1 hC (rV_308 hk1) dX7_pass_324 ?_
    refine lv_astore (lv' := [(6, .ref (bd1 3 (308 + k))), (5, .ref (bd1 6 (w1 0 5))), (4, .int v4), (3, .int v3), (0, .ref (bd1 0 0)), (1, .int wm), (2, .int rn)]) hx hb dX7_pass_327 hl (by decide) rfl (fun ls hl => ?_)
    refine lv_aload hx hb dX7_pass_329 (lv_at hl 0 rfl) ?_
    refine lv_iconst (v := 2) hx hb dX7_pass_331 (by decide) ?_
    refine lv_dup2_11 hx hb dX7_pass_332 rfl rfl ?_
    refine ld_m hx hb hB.1 hC (rV_308 hk1) (rl_308 hC.1 hk1) (k := 2) (by decide) (by unfold vp_in; decide) dX7_pass_333 ?_
    refine lv_aload hx hb dX7_pass_334 (lv_at hl 0 rfl) ?_
    refine lv_bipush (v := 10) hx hb dX7_pass_336 (by decide) ?_
    refine ld_m hx hb hB.1 hC (rV_308 hk1) (rl_308 hC.1 hk1) (k := 10) (by decide) (by unfold vp_in; decide) dX7_pass_338 ?_
    refine lv_iadd hx hb dX7_pass_339 ?_
    refine st_m hx hb hB.1 hC hS hG.2.1 (rV_308 hk1) (rl_308 hC.1 hk1) (k := 2) (by decide) (by unfold vp_in; decide) dX7_pass_340 (fun H locs hC hS => ?_)
    refine lv_goto (tgt := 307) hx hb dX7_pass_341 (by decide) ?_
    have e9 : fX7_pass_L307 (w1 0 0) (w1 0 1) (w1 0 2) (w1 0 3) (w1 0 4) g wm rn v4 v3 (n + 1) k g1 = fX7_pass_L307 (w1 0 0) (w1 0 1) (w1 0 2) (w1 0 3) (w1 0 4) g wm rn v4 v3 n (k + 1) (u2 g1 (308 + k) 2 ((g1 (308 + k) 2) + (g1 (308 + k) 10))) := by rw [fX7_pass_L307]
    rw [e9] at kk
    exact ih (k + 1) (u2 g1 (308 + k) 2 ((g1 (308 + k) 2) + (g1 (308 + k) 10))) (by omega)  H locs ls hC hS (lv_sub hl [1, 2, 3, 4, 5, 6] rfl) kk
set_option maxRecDepth 100000 in
set_option maxHeartbeats 4000000 in
theorem kX7_pass (l : Launch) (D : va_G) (cy : Nat → ClassId) (e0 : Nat) {bd w : Nat → Nat → Nat} (g : Md) (S : Int64) (sz : Nat) (wm : Int32) (rn : Int32) (hp1 : (bdI w (fX7_pass_L120 (w 0 0) (w 0 1) (w 0 2) (w 0 3) (w 0 4) g wm rn (((g 0 0) + 1) - ((g 0 0) + 1) / 24 * 24) ((fX7_pass_L30 (w 0 0) (w 0 1) (w 0 2) (w 0 3) (w 0 4) g wm rn (((g 0 0) + 1) - ((g 0 0) + 1) / 24 * 24) (w 0 1) 0 0 (u2 g 0 0 ((g 0 0) + 1))).1) (3) 0 ((fX7_pass_L30 (w 0 0) (w 0 1) (w 0 2) (w 0 3) (w 0 4) g wm rn (((g 0 0) + 1) - ((g 0 0) + 1) / 24 * 24) (w 0 1) 0 0 (u2 g 0 0 ((g 0 0) + 1))).2)))) : Met l yX7_pass wsX7_pass ({ frames := 3, cells := 3, slots := 12, locals := 53 } : Room) (va_Pc [.ref (bd 0 0), .int wm, .int rn] (mPre D cy e0 bd w g S sz)) (mQi D cy bd w (fX7_pass (w 0 0) (w 0 1) (w 0 2) (w 0 3) (w 0 4) g wm rn).1 (fX7_pass (w 0 0) (w 0 1) (w 0 2) (w 0 3) (w 0 4) g wm rn).2 S sz) 3 12 (mA bd w sz) := by
  refine q_start (cc := cX7_pass) (maxL := 9) (ret := (some .int)) (own := RX7) (by decide) rfl rfl (Nat.le_of_ble_eq_true rfl) ?_
  intro p e s m below meth c hx hb hr hml hts hown hlocks ⟨hsz, hC, hB⟩ ls hl
  subst hsz
  have hS : va_S (mA bd w s.heap.size) s.heap s.heap [] := va_S.rf
  have hG : mG e0 bd w s.heap.size bd w := mG.rf hB.2.2.1
  have hw0 := hC.1
  have hl : lv_has ls 9 [(0, .ref (bd 0 0)), (1, .int wm), (2, .int rn)] := hl
  refine lv_iconst (v := 0) hx hb dX7_pass_0 (by decide) ?_
  refine lv_istore_n (lv' := [(3, .int 0), (0, .ref (bd 0 0)), (1, .int wm), (2, .int rn)]) hx hb dX7_pass_1 rfl hl (by decide) rfl (fun ls hl => ?_)
  refine lv_aload_n hx hb dX7_pass_2 rfl (lv_at hl 1 rfl) ?_
  refine lv_dup hx hb dX7_pass_3 rfl ?_
  refine gt_m0_8 hx hb hts iX7_pass_X7 hown hB.1 hC qX7_pass_w1 dX7_pass_4 ?_
  refine lv_iconst (v := 1) hx hb dX7_pass_7 (by decide) ?_
  refine lv_iadd hx hb dX7_pass_8 ?_
  refine pt_m0_8 hx hb hts iX7_pass_X7 hown hB.1 hC hS hG.2.1 qX7_pass_w1 dX7_pass_9 (fun H locs hC hS => ?_)
  refine lv_aload_n hx hb dX7_pass_12 rfl (lv_at hl 1 rfl) ?_
  refine gt_m0_8 hx hb hts iX7_pass_X7 hown hB.1 hC qX7_pass_w1 dX7_pass_13 ?_
  refine q_val (v := (g 0 0) + 1) (u2_eq _ _ _ _) ?_
  refine lv_bipush (v := 24) hx hb dX7_pass_16 (by decide) ?_
  refine lv_irem hx hb dX7_pass_18 (by decide) ?_
  refine lv_istore (lv' := [(4, .int (((g 0 0) + 1) - ((g 0 0) + 1) / 24 * 24)), (3, .int 0), (0, .ref (bd 0 0)), (1, .int wm), (2, .int rn)]) hx hb dX7_pass_19 hl (by decide) rfl (fun ls hl => ?_)
  refine lv_aload_n hx hb dX7_pass_21 rfl (lv_at hl 2 rfl) ?_
  refine gt_m0_2 hx hb hts iX7_pass_X7 hown hB.1 hC qX7_pass_w2 dX7_pass_22 ?_
  have hz9 := hS.1
  refine m_iter (show 1 < 4 by decide) ⟨hx, hb, hml, hown, hts⟩ (kJx4a65c_iterator_32c93 l D cy e0 (bd := bd) (w := w) (u2 g 0 0 ((g 0 0) + 1)) S _ 1 (show 1 < 4 by decide)) (cwV 0 hts gX7_pass_Jx4a65c_iterator_32c93 rfl rfl rfl (by decide +kernel) ⟨Nat.le_of_ble_eq_true rfl, Nat.le_of_ble_eq_true rfl⟩) hB hG.2 hC hS hl.1 (Nat.le_of_ble_eq_true rfl) dX7_pass_25 ⟨Nat.le_of_ble_eq_true rfl, Nat.le_of_ble_eq_true rfl⟩ (fun bd1 H locs hN hC hS => ?_)
  have hG9 := hG.itr hN hz9
  have hI := hG9.2 1
  have hG := hG9.1
  have q0 : bd1 0 0 = bd 0 0 := hN.1 0 0 rfl
  rw [← q0] at hl
  refine lv_astore (lv' := [(5, .ref (bd1 6 (w 0 5))), (4, .int (((g 0 0) + 1) - ((g 0 0) + 1) / 24 * 24)), (3, .int 0), (0, .ref (bd1 0 0)), (1, .int wm), (2, .int rn)]) hx hb dX7_pass_28 hl (by decide) rfl (fun ls hl => ?_)
  refine kX7_pass_L30 l D cy e0 (bd := bd) (w := w) (bd1 := bd1) (w1 := w) g S wm rn (((g 0 0) + 1) - ((g 0 0) + 1) / 24 * 24) _ _ (Nat.le_of_ble_eq_true rfl) (Nat.le_of_ble_eq_true rfl)  hx hb hr hml hts hown hlocks hB hG hI (w 0 1) 0 0 (u2 g 0 0 ((g 0 0) + 1)) (by omega)  _ _ ls hC hS (lv_sub hl [0, 1, 2, 3, 4, 5] rfl) (fun H locs ls hC hS hl => ?_)
  refine lv_aload_n hx hb dX7_pass_106 rfl (lv_at hl 2 rfl) ?_
  refine gt_m0_3 hx hb hts iX7_pass_X7 hown hB.1 hC qX7_pass_w5 dX7_pass_107 ?_
  refine lv_astore (lv' := [(5, .ref (bd1 4 0)), (4, .int (((g 0 0) + 1) - ((g 0 0) + 1) / 24 * 24)), (3, .int ((fX7_pass_L30 (w 0 0) (w 0 1) (w 0 2) (w 0 3) (w 0 4) g wm rn (((g 0 0) + 1) - ((g 0 0) + 1) / 24 * 24) (w 0 1) 0 0 (u2 g 0 0 ((g 0 0) + 1))).1)), (0, .ref (bd1 0 0)), (1, .int wm), (2, .int rn)]) hx hb dX7_pass_110 hl (by decide) rfl (fun ls hl => ?_)
  refine lv_aload hx hb dX7_pass_112 (lv_at hl 0 rfl) ?_
  refine ln_m4 hx hb hB.1 hC dX7_pass_114 ?_
  refine lv_istore (lv' := [(6, .int 3), (5, .ref (bd1 4 0)), (4, .int (((g 0 0) + 1) - ((g 0 0) + 1) / 24 * 24)), (3, .int ((fX7_pass_L30 (w 0 0) (w 0 1) (w 0 2) (w 0 3) (w 0 4) g wm rn (((g 0 0) + 1) - ((g 0 0) + 1) / 24 * 24) (w 0 1) 0 0 (u2 g 0 0 ((g 0 0) + 1))).1)), (0, .ref (bd1 0 0)), (1, .int wm), (2, .int rn)]) hx hb dX7_pass_115 hl (by decide) rfl (fun ls hl => ?_)
  refine lv_iconst (v := 0) hx hb dX7_pass_117 (by decide) ?_
  refine lv_istore (lv' := [(7, .int 0), (6, .int 3), (5, .ref (bd1 4 0)), (4, .int (((g 0 0) + 1) - ((g 0 0) + 1) / 24 * 24)), (3, .int ((fX7_pass_L30 (w 0 0) (w 0 1) (w 0 2) (w 0 3) (w 0 4) g wm rn (((g 0 0) + 1) - ((g 0 0) + 1) / 24 * 24) (w 0 1) 0 0 (u2 g 0 0 ((g 0 0) + 1))).1)), (0, .ref (bd1 0 0)), (1, .int wm), (2, .int rn)]) hx hb dX7_pass_118 hl (by decide) rfl (fun ls hl => ?_)
  refine kX7_pass_L120 l D cy e0 (bd := bd) (w := w) (bd1 := bd1) (w1 := w) g S wm rn (((g 0 0) + 1) - ((g 0 0) + 1) / 24 * 24) ((fX7_pass_L30 (w 0 0) (w 0 1) (w 0 2) (w 0 3) (w 0 4) g wm rn (((g 0 0) + 1) - ((g 0 0) + 1) / 24 * 24) (w 0 1) 0 0 (u2 g 0 0 ((g 0 0) + 1))).1) _ _ (Nat.le_of_ble_eq_true rfl) (Nat.le_of_ble_eq_true rfl)  hx hb hr hml hts hown hlocks hB hG (3) 0 ((fX7_pass_L30 (w 0 0) (w 0 1) (w 0 2) (w 0 3) (w 0 4) g wm rn (((g 0 0) + 1) - ((g 0 0) + 1) / 24 * 24) (w 0 1) 0 0 (u2 g 0 0 ((g 0 0) + 1))).2) (by omega)  _ _ ls hC hS (lv_sub hl [0, 1, 2, 3, 4, 5, 6, 7] rfl) (fun H locs ls hC hS hl => ?_)
  refine lv_aload_n hx hb dX7_pass_171 rfl (lv_at hl 4 rfl) ?_
  refine gt_m0_4 hx hb hts iX7_pass_X7 hown hB.1 hC qX7_pass_w6 dX7_pass_172 ?_
  have hz9 := hS.1
  refine m_iter (show 2 < 4 by decide) ⟨hx, hb, hml, hown, hts⟩ (kJx4a65c_iterator_32c93 l D cy e0 (bd := bd1) (w := w) (fX7_pass_L120 (w 0 0) (w 0 1) (w 0 2) (w 0 3) (w 0 4) g wm rn (((g 0 0) + 1) - ((g 0 0) + 1) / 24 * 24) ((fX7_pass_L30 (w 0 0) (w 0 1) (w 0 2) (w 0 3) (w 0 4) g wm rn (((g 0 0) + 1) - ((g 0 0) + 1) / 24 * 24) (w 0 1) 0 0 (u2 g 0 0 ((g 0 0) + 1))).1) (3) 0 ((fX7_pass_L30 (w 0 0) (w 0 1) (w 0 2) (w 0 3) (w 0 4) g wm rn (((g 0 0) + 1) - ((g 0 0) + 1) / 24 * 24) (w 0 1) 0 0 (u2 g 0 0 ((g 0 0) + 1))).2)) S _ 2 (show 2 < 4 by decide)) (cwV 0 hts gX7_pass_Jx4a65c_iterator_32c93 rfl rfl rfl (by decide +kernel) ⟨Nat.le_of_ble_eq_true rfl, Nat.le_of_ble_eq_true rfl⟩) hB hG.2 hC hS hl.1 (Nat.le_of_ble_eq_true rfl) dX7_pass_175 ⟨Nat.le_of_ble_eq_true rfl, Nat.le_of_ble_eq_true rfl⟩ (fun bd5 H locs hN hC hS => ?_)
  have hG9 := hG.itr hN hz9
  have hI := hG9.2 2
  have hG := hG9.1
  have q0 : bd5 4 0 = bd1 4 0 := hN.1 4 0 rfl
  have q1 : bd5 0 0 = bd1 0 0 := hN.1 0 0 rfl
  rw [← q0, ← q1] at hl
  refine lv_astore (lv' := [(5, .ref (bd5 6 (w 0 5))), (6, .int 3), (4, .int (((g 0 0) + 1) - ((g 0 0) + 1) / 24 * 24)), (3, .int ((fX7_pass_L30 (w 0 0) (w 0 1) (w 0 2) (w 0 3) (w 0 4) g wm rn (((g 0 0) + 1) - ((g 0 0) + 1) / 24 * 24) (w 0 1) 0 0 (u2 g 0 0 ((g 0 0) + 1))).1)), (0, .ref (bd5 0 0)), (1, .int wm), (2, .int rn)]) hx hb dX7_pass_178 hl (by decide) rfl (fun ls hl => ?_)
  refine kX7_pass_L180 l D cy e0 (bd := bd) (w := w) (bd1 := bd5) (w1 := w) g S wm rn (((g 0 0) + 1) - ((g 0 0) + 1) / 24 * 24) ((fX7_pass_L30 (w 0 0) (w 0 1) (w 0 2) (w 0 3) (w 0 4) g wm rn (((g 0 0) + 1) - ((g 0 0) + 1) / 24 * 24) (w 0 1) 0 0 (u2 g 0 0 ((g 0 0) + 1))).1) _ _ (Nat.le_of_ble_eq_true rfl) (Nat.le_of_ble_eq_true rfl)  hx hb hr hml hts hown hlocks hB hG hI (w 0 2) 0 (fX7_pass_L120 (w 0 0) (w 0 1) (w 0 2) (w 0 3) (w 0 4) g wm rn (((g 0 0) + 1) - ((g 0 0) + 1) / 24 * 24) ((fX7_pass_L30 (w 0 0) (w 0 1) (w 0 2) (w 0 3) (w 0 4) g wm rn (((g 0 0) + 1) - ((g 0 0) + 1) / 24 * 24) (w 0 1) 0 0 (u2 g 0 0 ((g 0 0) + 1))).1) (3) 0 ((fX7_pass_L30 (w 0 0) (w 0 1) (w 0 2) (w 0 3) (w 0 4) g wm rn (((g 0 0) + 1) - ((g 0 0) + 1) / 24 * 24) (w 0 1) 0 0 (u2 g 0 0 ((g 0 0) + 1))).2)) (by omega) hp1 _ _ ls hC hS (lv_sub hl [0, 2, 3, 4, 5, 6] rfl) (fun H locs ls hC hS hl => ?_)
  refine lv_iload hx hb dX7_pass_293 (lv_at hl 0 rfl) ?_
  refine lv_if_ne (tgt := 344) hx hb dX7_pass_295 (by decide) (fun c15 => ?_) (fun c15 => ?_)
  · skip
    refine lv_iload_n hx hb dX7_pass_344 rfl (lv_at hl 1 rfl) ?_
    refine W.widen (k := 3) (n := 12) (Nat.le_of_ble_eq_true rfl) (Nat.le_of_ble_eq_true rfl) ?_
    have e9 : fX7_pass (w 0 0) (w 0 1) (w 0 2) (w 0 3) (w 0 4) g wm rn = ((fX7_pass_L30 (w 0 0) (w 0 1) (w 0 2) (w 0 3) (w 0 4) g wm rn (((g 0 0) + 1) - ((g 0 0) + 1) / 24 * 24) (w 0 1) 0 0 (u2 g 0 0 ((g 0 0) + 1))).1, fX7_pass_L180 (w 0 0) (w 0 1) (w 0 2) (w 0 3) (w 0 4) g wm rn (((g 0 0) + 1) - ((g 0 0) + 1) / 24 * 24) ((fX7_pass_L30 (w 0 0) (w 0 1) (w 0 2) (w 0 3) (w 0 4) g wm rn (((g 0 0) + 1) - ((g 0 0) + 1) / 24 * 24) (w 0 1) 0 0 (u2 g 0 0 ((g 0 0) + 1))).1) (w 0 2) 0 (fX7_pass_L120 (w 0 0) (w 0 1) (w 0 2) (w 0 3) (w 0 4) g wm rn (((g 0 0) + 1) - ((g 0 0) + 1) / 24 * 24) ((fX7_pass_L30 (w 0 0) (w 0 1) (w 0 2) (w 0 3) (w 0 4) g wm rn (((g 0 0) + 1) - ((g 0 0) + 1) / 24 * 24) (w 0 1) 0 0 (u2 g 0 0 ((g 0 0) + 1))).1) (3) 0 ((fX7_pass_L30 (w 0 0) (w 0 1) (w 0 2) (w 0 3) (w 0 4) g wm rn (((g 0 0) + 1) - ((g 0 0) + 1) / 24 * 24) (w 0 1) 0 0 (u2 g 0 0 ((g 0 0) + 1))).2))) := (by unfold fX7_pass; rw [if_neg c15])
    exact m_reti hx hb hr hG hC hS (mEq_of (by rw [e9])) (by rw [e9]) hlocks dX7_pass_345
  · skip
    refine lv_aload_n hx hb dX7_pass_298 rfl (lv_at hl 2 rfl) ?_
    refine gt_m0_5 hx hb hts iX7_pass_X7 hown hB.1 hC qX7_pass_w11 dX7_pass_299 ?_
    have hz9 := hS.1
    refine m_iter (show 3 < 4 by decide) ⟨hx, hb, hml, hown, hts⟩ (kJx4a65c_iterator_32c93 l D cy e0 (bd := bd5) (w := w) (fX7_pass_L180 (w 0 0) (w 0 1) (w 0 2) (w 0 3) (w 0 4) g wm rn (((g 0 0) + 1) - ((g 0 0) + 1) / 24 * 24) ((fX7_pass_L30 (w 0 0) (w 0 1) (w 0 2) (w 0 3) (w 0 4) g wm rn (((g 0 0) + 1) - ((g 0 0) + 1) / 24 * 24) (w 0 1) 0 0 (u2 g 0 0 ((g 0 0) + 1))).1) (w 0 2) 0 (fX7_pass_L120 (w 0 0) (w 0 1) (w 0 2) (w 0 3) (w 0 4) g wm rn (((g 0 0) + 1) - ((g 0 0) + 1) / 24 * 24) ((fX7_pass_L30 (w 0 0) (w 0 1) (w 0 2) (w 0 3) (w 0 4) g wm rn (((g 0 0) + 1) - ((g 0 0) + 1) / 24 * 24) (w 0 1) 0 0 (u2 g 0 0 ((g 0 0) + 1))).1) (3) 0 ((fX7_pass_L30 (w 0 0) (w 0 1) (w 0 2) (w 0 3) (w 0 4) g wm rn (((g 0 0) + 1) - ((g 0 0) + 1) / 24 * 24) (w 0 1) 0 0 (u2 g 0 0 ((g 0 0) + 1))).2))) S _ 3 (show 3 < 4 by decide)) (cwV 0 hts gX7_pass_Jx4a65c_iterator_32c93 rfl rfl rfl (by decide +kernel) ⟨Nat.le_of_ble_eq_true rfl, Nat.le_of_ble_eq_true rfl⟩) hB hG.2 hC hS hl.1 (Nat.le_of_ble_eq_true rfl) dX7_pass_302 ⟨Nat.le_of_ble_eq_true rfl, Nat.le_of_ble_eq_true rfl⟩ (fun bd16 H locs hN hC hS => ?_)
    have hG9 := hG.itr hN hz9
    have hI := hG9.2 3
    have hG := hG9.1
    have q0 : bd16 0 0 = bd5 0 0 := hN.1 0 0 rfl
    rw [← q0] at hl
    refine lv_astore (lv' := [(5, .ref (bd16 6 (w 0 5))), (4, .int (((g 0 0) + 1) - ((g 0 0) + 1) / 24 * 24)), (3, .int ((fX7_pass_L30 (w 0 0) (w 0 1) (w 0 2) (w 0 3) (w 0 4) g wm rn (((g 0 0) + 1) - ((g 0 0) + 1) / 24 * 24) (w 0 1) 0 0 (u2 g 0 0 ((g 0 0) + 1))).1)), (0, .ref (bd16 0 0)), (1, .int wm), (2, .int rn)]) hx hb dX7_pass_305 hl (by decide) rfl (fun ls hl => ?_)
    refine kX7_pass_L307 l D cy e0 (bd := bd) (w := w) (bd1 := bd16) (w1 := w) g S wm rn (((g 0 0) + 1) - ((g 0 0) + 1) / 24 * 24) ((fX7_pass_L30 (w 0 0) (w 0 1) (w 0 2) (w 0 3) (w 0 4) g wm rn (((g 0 0) + 1) - ((g 0 0) + 1) / 24 * 24) (w 0 1) 0 0 (u2 g 0 0 ((g 0 0) + 1))).1) _ _ (Nat.le_of_ble_eq_true rfl) (Nat.le_of_ble_eq_true rfl)  hx hb hr hml hts hown hlocks hB hG hI (w 0 3) 0 (fX7_pass_L180 (w 0 0) (w 0 1) (w 0 2) (w 0 3) (w 0 4) g wm rn (((g 0 0) + 1) - ((g 0 0) + 1) / 24 * 24) ((fX7_pass_L30 (w 0 0) (w 0 1) (w 0 2) (w 0 3) (w 0 4) g wm rn (((g 0 0) + 1) - ((g 0 0) + 1) / 24 * 24) (w 0 1) 0 0 (u2 g 0 0 ((g 0 0) + 1))).1) (w 0 2) 0 (fX7_pass_L120 (w 0 0) (w 0 1) (w 0 2) (w 0 3) (w 0 4) g wm rn (((g 0 0) + 1) - ((g 0 0) + 1) / 24 * 24) ((fX7_pass_L30 (w 0 0) (w 0 1) (w 0 2) (w 0 3) (w 0 4) g wm rn (((g 0 0) + 1) - ((g 0 0) + 1) / 24 * 24) (w 0 1) 0 0 (u2 g 0 0 ((g 0 0) + 1))).1) (3) 0 ((fX7_pass_L30 (w 0 0) (w 0 1) (w 0 2) (w 0 3) (w 0 4) g wm rn (((g 0 0) + 1) - ((g 0 0) + 1) / 24 * 24) (w 0 1) 0 0 (u2 g 0 0 ((g 0 0) + 1))).2))) (by omega)  _ _ ls hC hS (lv_sub hl [0, 1, 2, 3, 4, 5] rfl) (fun H locs ls hC hS hl => ?_)
    refine lv_iload_n hx hb dX7_pass_344 rfl (lv_at hl 1 rfl) ?_
    refine W.widen (k := 3) (n := 12) (Nat.le_of_ble_eq_true rfl) (Nat.le_of_ble_eq_true rfl) ?_
    have e9 : fX7_pass (w 0 0) (w 0 1) (w 0 2) (w 0 3) (w 0 4) g wm rn = ((fX7_pass_L30 (w 0 0) (w 0 1) (w 0 2) (w 0 3) (w 0 4) g wm rn (((g 0 0) + 1) - ((g 0 0) + 1) / 24 * 24) (w 0 1) 0 0 (u2 g 0 0 ((g 0 0) + 1))).1, fX7_pass_L307 (w 0 0) (w 0 1) (w 0 2) (w 0 3) (w 0 4) g wm rn (((g 0 0) + 1) - ((g 0 0) + 1) / 24 * 24) ((fX7_pass_L30 (w 0 0) (w 0 1) (w 0 2) (w 0 3) (w 0 4) g wm rn (((g 0 0) + 1) - ((g 0 0) + 1) / 24 * 24) (w 0 1) 0 0 (u2 g 0 0 ((g 0 0) + 1))).1) (w 0 3) 0 (fX7_pass_L180 (w 0 0) (w 0 1) (w 0 2) (w 0 3) (w 0 4) g wm rn (((g 0 0) + 1) - ((g 0 0) + 1) / 24 * 24) ((fX7_pass_L30 (w 0 0) (w 0 1) (w 0 2) (w 0 3) (w 0 4) g wm rn (((g 0 0) + 1) - ((g 0 0) + 1) / 24 * 24) (w 0 1) 0 0 (u2 g 0 0 ((g 0 0) + 1))).1) (w 0 2) 0 (fX7_pass_L120 (w 0 0) (w 0 1) (w 0 2) (w 0 3) (w 0 4) g wm rn (((g 0 0) + 1) - ((g 0 0) + 1) / 24 * 24) ((fX7_pass_L30 (w 0 0) (w 0 1) (w 0 2) (w 0 3) (w 0 4) g wm rn (((g 0 0) + 1) - ((g 0 0) + 1) / 24 * 24) (w 0 1) 0 0 (u2 g 0 0 ((g 0 0) + 1))).1) (3) 0 ((fX7_pass_L30 (w 0 0) (w 0 1) (w 0 2) (w 0 3) (w 0 4) g wm rn (((g 0 0) + 1) - ((g 0 0) + 1) / 24 * 24) (w 0 1) 0 0 (u2 g 0 0 ((g 0 0) + 1))).2)))) := (by unfold fX7_pass; rw [if_pos c15])
    exact m_reti hx hb hr hG hC hS (mEq_of (by rw [e9])) (by rw [e9]) hlocks dX7_pass_345
theorem bdI_L30 {w : Nat → Nat → Nat} (na nb nc nd T : Nat) (g : Md) (wm rn : Int32) (v4 : Int32) : ∀ (n k : Nat) (a1 : Int32) (g1 : Md), bdI w g1 → bdI w (fX7_pass_L30 na nb nc nd T g wm rn v4 n k a1 g1).2 := by
  intro n
  induction n with
  | zero => intro k a1 g1 h; exact h
  | succ n ih =>
    intro k a1 g1 h
    rw [fX7_pass_L30]
    repeat' split
    all_goals (refine ih _ _ _ ?_; repeat' (first | exact h | exact bdI_dry h | refine bdI_u2 ?_ (by decide) (by decide)))
theorem bdI_L120 {w : Nat → Nat → Nat} (na nb nc nd T : Nat) (g : Md) (wm rn : Int32) (v4 : Int32) (v3 : Int32) : ∀ (n k : Nat)  (g1 : Md), bdI w g1 → bdI w (fX7_pass_L120 na nb nc nd T g wm rn v4 v3 n k g1) := by
  intro n
  induction n with
  | zero => intro k  g1 h; exact h
  | succ n ih =>
    intro k  g1 h
    rw [fX7_pass_L120]
    repeat' split
    all_goals (refine ih _  _ ?_; repeat' (first | exact h | exact bdI_dry h | refine bdI_u2 ?_ (by decide) (by decide)))
theorem bdI_L180 {w : Nat → Nat → Nat} (na nb nc nd T : Nat) (g : Md) (wm rn : Int32) (v4 : Int32) (v3 : Int32) : ∀ (n k : Nat)  (g1 : Md), bdI w g1 → bdI w (fX7_pass_L180 na nb nc nd T g wm rn v4 v3 n k g1) := by
  intro n
  induction n with
  | zero => intro k  g1 h; exact h
  | succ n ih =>
    intro k  g1 h
    rw [fX7_pass_L180]
    repeat' split
    all_goals (refine ih _  _ ?_; repeat' (first | exact h | exact bdI_dry h | refine bdI_u2 ?_ (by decide) (by decide)))
theorem bdI_L307 {w : Nat → Nat → Nat} (na nb nc nd T : Nat) (g : Md) (wm rn : Int32) (v4 : Int32) (v3 : Int32) : ∀ (n k : Nat)  (g1 : Md), bdI w g1 → bdI w (fX7_pass_L307 na nb nc nd T g wm rn v4 v3 n k g1) := by
  intro n
  induction n with
  | zero => intro k  g1 h; exact h
  | succ n ih =>
    intro k  g1 h
    rw [fX7_pass_L307]
    repeat' split
    all_goals (refine ih _  _ ?_; repeat' (first | exact h | exact bdI_dry h | refine bdI_u2 ?_ (by decide) (by decide)))
theorem bdI_pass {w : Nat → Nat → Nat} {na nb nc nd T : Nat} {g : Md} {wm rn : Int32} (h : bdI w g) : bdI w (fX7_pass na nb nc nd T g wm rn).2 := by
  unfold fX7_pass
  split
  · exact bdI_L307 _ _ _ _ _ _ _ _ _ _ _ _ _ (bdI_L180 _ _ _ _ _ _ _ _ _ _ _ _ _ (bdI_L120 _ _ _ _ _ _ _ _ _ _ _ _ _ (bdI_L30 _ _ _ _ _ _ _ _ _ _ _ _ _ (bdI_ur h (Or.inl (by decide))))))
  · exact bdI_L180 _ _ _ _ _ _ _ _ _ _ _ _ _ (bdI_L120 _ _ _ _ _ _ _ _ _ _ _ _ _ (bdI_L30 _ _ _ _ _ _ _ _ _ _ _ _ _ (bdI_ur h (Or.inl (by decide)))))
theorem is_le {x : Int32} {lo hi : Int32} {n : Nat} (h : ¬ fX7_is x lo hi = 0) (hh : hi.toInt ≤ n) : x.toNatClampNeg ≤ n := by
  unfold fX7_is at h
  by_cases h1 : x < lo
  · rw [if_pos h1] at h; exact absurd rfl h
  · rw [if_neg h1] at h
    by_cases h2 : hi < x
    · rw [if_pos h2] at h; exact absurd rfl h
    · rw [Int32.lt_iff_toInt_lt] at h2
      have hx : x.toNatClampNeg = x.toInt.toNat := rfl
      omega
def fX7_pass__L62 (na nb nc nd T : Nat) (g : Md) (x : Int32) (wm : Int32) (rn : Int32) : Nat → Nat → Int32 → Md → Int32 × Md
  | 0, k, a1, g1 => (a1, g1)
  | n + 1, k, a1, g1 => fX7_pass__L62 na nb nc nd T g x wm rn n (k + 1) (a1 + ((fX7_pass na nb nc nd T g1 wm rn).1)) ((fX7_pass na nb nc nd T g1 wm rn).2)
def fX7_pass_ (na nb nc nd T : Nat) (g : Md) (x : Int32) (wm : Int32) (rn : Int32) : Int32 × Md := if (fX7_is x 1 100) = 0 then (((fX7_refuse na nb nc nd T (u2 g 0 20 0) 1).1, (fX7_refuse na nb nc nd T (u2 g 0 20 0) 1).2)) else (if (fX7_isWarmth wm) = 0 then (((fX7_refuse na nb nc nd T (u2 g 0 20 0) 1).1, (fX7_refuse na nb nc nd T (u2 g 0 20 0) 1).2)) else (if (fX7_is rn 0 20) = 0 then (((fX7_refuse na nb nc nd T (u2 g 0 20 0) 1).1, (fX7_refuse na nb nc nd T (u2 g 0 20 0) 1).2)) else (if ((g 0 0) + x) ≤ 20000 then (((fX7_pass__L62 na nb nc nd T g x wm rn (x.toNatClampNeg) 0 0 (u2 g 0 20 0)).1, (fX7_pass__L62 na nb nc nd T g x wm rn (x.toNatClampNeg) 0 0 (u2 g 0 20 0)).2)) else (((fX7_refuse na nb nc nd T (u2 g 0 20 0) 2).1, (fX7_refuse na nb nc nd T (u2 g 0 20 0) 2).2)))))
theorem qX7_pass__w1 : Cond.fieldLink RX7 41 "CherryStationModel" "thrown" "I" ∈ wsX7_pass_ := List.mem_of_getElem? (i := 1) rfl
theorem qX7_pass__w2 : Cond.fieldLink RX7 73 "CherryStationModel" "hour" "I" ∈ wsX7_pass_ := List.mem_of_getElem? (i := 2) rfl
theorem iX7_pass__X7 : ∀ w ∈ wsX70, w ∈ wsX7_pass_ := fun _ h => (List.mem_cons_of_mem _ (List.mem_append_left _ (List.mem_append_left _ (List.mem_append_right _ h))))
set_option maxRecDepth 100000 in
set_option maxHeartbeats 4000000 in
theorem kX7_pass__L62 (l : Launch) (D : va_G) (cy : Nat → ClassId) (e0 : Nat) {bd w bd1 w1 : Nat → Nat → Nat} (g : Md) (S : Int64) (x : Int32) (wm : Int32) (rn : Int32) (hxn : x.toNatClampNeg ≤ 100) (c0 s0 : Nat) (hc0 : c0 + 300 ≤ 300) (hs0 : s0 + 1200 ≤ 1200) {p : Program} {e : Env} {s : State} {m : MethodId} {below : List Frame} {meth : Method} {c : Code} {Q : State → Prop} (hx : p.tables.exec = Jvm.exec) (hb : c.code = cX7_pass_) (hr : meth.sig.returnType = (some .int)) (hml : c.maxLocals = 6) (hts : ∀ w ∈ wsX7_pass_, w.before [.ref (bd 0 0), .int x, .int wm, .int rn].toArray s = true) (hown : s.vm.findClass RX7 = some m.cls) (hlocks : meth.locks = false) (hB : MB D cy e0 bd w s) (hG : mG e0 bd w s.heap.size bd1 w1) : ∀ (n k : Nat) (a1 : Int32) (g1 : Md) (hn : k + n = x.toNatClampNeg) (hbd : bdI w1 g1)  (H : Heap) (locs : List Loc) (ls : Array Slot) (hC : MW D cy bd1 w1 g1 S H) (hS : va_S (mA bd w s.heap.size) s.heap H locs) (hl : lv_has ls 6 [(5, .int (nI k)), (4, .int a1), (0, .ref (bd1 0 0)), (1, .int x), (2, .int wm), (3, .int rn)]) (kk : ∀ (H : Heap) (locs : List Loc) (ls : Array Slot), MW D cy bd1 w1 ((fX7_pass__L62 (w1 0 0) (w1 0 1) (w1 0 2) (w1 0 3) (w1 0 4) g x wm rn n k a1 g1).2) S H → va_S (mA bd w s.heap.size) s.heap H locs → lv_has ls 6 [(4, .int ((fX7_pass__L62 (w1 0 0) (w1 0 1) (w1 0 2) (w1 0 3) (w1 0 4) g x wm rn n k a1 g1).1)), (0, .ref (bd1 0 0)), (1, .int x), (2, .int wm), (3, .int rn)] → W p l e ({ frames := 4, cells := 300, slots := 1200, locals := 81 } : Room) s m [.ref (bd 0 0), .int x, .int wm, .int rn].toArray below meth c H locs (c0 + 300) (s0 + 1200) Q (F0 m 85 ls [])), W p l e ({ frames := 4, cells := 300, slots := 1200, locals := 81 } : Room) s m [.ref (bd 0 0), .int x, .int wm, .int rn].toArray below meth c H locs (c0 + k * 3) (s0 + k * 12) Q (F0 m 62 ls []) := by
  intro n
  induction n with
  | zero =>
    intro k a1 g1 hn hbd H locs ls hC hS hl kk
    have hk1 : k = x.toNatClampNeg := by omega
    have hkb : x.toNatClampNeg ≤ 100 := hxn
    have hk9 : x ≤ (nI k) := arg_exit hk1 (by omega)
    have hw0 : wB w1 := hC.1
    refine lv_iload hx hb dX7_pass__62 (lv_at hl 0 rfl) ?_
    refine lv_iload_n hx hb dX7_pass__64 rfl (lv_at hl 3 rfl) ?_
    refine lv_icmp_ge (tgt := 85) hx hb dX7_pass__65 (by decide) (fun _ => ?_) (fun c => absurd hk9 c)
    have e9 : fX7_pass__L62 (w1 0 0) (w1 0 1) (w1 0 2) (w1 0 3) (w1 0 4) g x wm rn 0 k a1 g1 = (a1, g1) := by rw [fX7_pass__L62]
    rw [e9] at kk
    refine W.widen (k := c0 + 300) (n := s0 + 1200) (by omega) (by omega) ?_
    exact kk H locs ls hC hS (lv_sub hl [1, 2, 3, 4, 5] rfl)
  | succ n ih =>
    intro k a1 g1 hn hbd H locs ls hC hS hl kk
    have hk1 : k < x.toNatClampNeg := by omega
    have hkb : x.toNatClampNeg ≤ 100 := hxn
    have hk9 : ¬ x ≤ (nI k) := arg_run hk1 (by omega)
    have hw0 : wB w1 := hC.1
    refine lv_iload hx hb dX7_pass__62 (lv_at hl 0 rfl) ?_
    refine lv_iload_n hx hb dX7_pass__64 rfl (lv_at hl 3 rfl) ?_
    refine lv_icmp_ge (tgt := 85) hx hb dX7_pass__65 (by decide) (fun c => absurd c hk9) (fun _ => ?_)
    refine lv_iload hx hb dX7_pass__68 (lv_at hl 1 rfl) ?_
    refine lv_aload_n hx hb dX7_pass__70 rfl (lv_at hl 2 rfl) ?_
    refine lv_iload_n hx hb dX7_pass__71 rfl (lv_at hl 4 rfl) ?_
    refine lv_iload_n hx hb dX7_pass__72 rfl (lv_at hl 5 rfl) ?_
    refine m_callVi (As := [.int wm, .int rn]) (κ := 0) (i := 0) rfl rfl ⟨_, rfl⟩ rfl ⟨hx, hb, hml, hown, hts⟩ (kX7_pass l D cy e0 (bd := bd1) (w := w1) g1 S _ wm rn (bdI_L120 _ _ _ _ _ _ _ _ _ _ _ _ _ (bdI_L30 _ _ _ _ _ _ _ _ _ _ _ _ _ (bdI_ur hbd (Or.inl (by decide)))))) (cwV 2 hts gX7_pass__X7_pass rfl rfl rfl (by decide +kernel) ⟨Nat.le_of_ble_eq_true rfl, Nat.le_of_ble_eq_true rfl⟩) hB hG.2 hC hS rfl hl.1 (Nat.le_of_ble_eq_true rfl) dX7_pass__73 ⟨by dsimp only; omega, by dsimp only; omega⟩ (fun H locs hC hS => ?_)
    refine lv_iadd hx hb dX7_pass__76 ?_
    refine lv_istore (lv' := [(4, .int (a1 + ((fX7_pass (w1 0 0) (w1 0 1) (w1 0 2) (w1 0 3) (w1 0 4) g1 wm rn).1))), (5, .int (nI k)), (0, .ref (bd1 0 0)), (1, .int x), (2, .int wm), (3, .int rn)]) hx hb dX7_pass__77 hl (by decide) rfl (fun ls hl => ?_)
    refine lv_iinc (v := nI (k + 1)) (lv' := [(5, .int (nI (k + 1))), (4, .int (a1 + ((fX7_pass (w1 0 0) (w1 0 1) (w1 0 2) (w1 0 3) (w1 0 4) g1 wm rn).1))), (0, .ref (bd1 0 0)), (1, .int x), (2, .int wm), (3, .int rn)]) hx hb dX7_pass__79 hl (k := 1) rfl (nI_1 _) (by decide) rfl (fun ls hl => ?_)
    refine lv_goto (tgt := 62) hx hb dX7_pass__82 (by decide) ?_
    refine W.widen (k := c0 + (k + 1) * 3) (n := s0 + (k + 1) * 12) (by omega) (by omega) ?_
    have e9 : fX7_pass__L62 (w1 0 0) (w1 0 1) (w1 0 2) (w1 0 3) (w1 0 4) g x wm rn (n + 1) k a1 g1 = fX7_pass__L62 (w1 0 0) (w1 0 1) (w1 0 2) (w1 0 3) (w1 0 4) g x wm rn n (k + 1) (a1 + ((fX7_pass (w1 0 0) (w1 0 1) (w1 0 2) (w1 0 3) (w1 0 4) g1 wm rn).1)) ((fX7_pass (w1 0 0) (w1 0 1) (w1 0 2) (w1 0 3) (w1 0 4) g1 wm rn).2) := by rw [fX7_pass__L62]
    rw [e9] at kk
    exact ih (k + 1) (a1 + ((fX7_pass (w1 0 0) (w1 0 1) (w1 0 2) (w1 0 3) (w1 0 4) g1 wm rn).1)) ((fX7_pass (w1 0 0) (w1 0 1) (w1 0 2) (w1 0 3) (w1 0 4) g1 wm rn).2) (by omega) (bdI_pass hbd) H locs ls hC hS (lv_sub hl [0, 1, 2, 3, 4, 5] rfl) kk
set_option maxRecDepth 100000 in
set_option maxHeartbeats 4000000 in
theorem kX7_pass_ (l : Launch) (D : va_G) (cy : Nat → ClassId) (e0 : Nat) {bd w : Nat → Nat → Nat} (g : Md) (S : Int64) (sz : Nat) (x : Int32) (wm : Int32) (rn : Int32) (hp1 : ¬ ((fX7_is x 1 100) = 0) → ¬ ((fX7_isWarmth wm) = 0) → ¬ ((fX7_is rn 0 20) = 0) → (((g 0 0) + x) ≤ 20000) → (bdI w g)) : Met l yX7_pass_ wsX7_pass_ ({ frames := 4, cells := 300, slots := 1200, locals := 81 } : Room) (va_Pc [.ref (bd 0 0), .int x, .int wm, .int rn] (mPre D cy e0 bd w g S sz)) (mQi D cy bd w (fX7_pass_ (w 0 0) (w 0 1) (w 0 2) (w 0 3) (w 0 4) g x wm rn).1 (fX7_pass_ (w 0 0) (w 0 1) (w 0 2) (w 0 3) (w 0 4) g x wm rn).2 S sz) 300 1200 (mA bd w sz) := by
  refine q_start (cc := cX7_pass_) (maxL := 6) (ret := (some .int)) (own := RX7) (by decide) rfl rfl (Nat.le_of_ble_eq_true rfl) ?_
  intro p e s m below meth c hx hb hr hml hts hown hlocks ⟨hsz, hC, hB⟩ ls hl
  subst hsz
  have hS : va_S (mA bd w s.heap.size) s.heap s.heap [] := va_S.rf
  have hG : mG e0 bd w s.heap.size bd w := mG.rf hB.2.2.1
  have hw0 := hC.1
  have hl : lv_has ls 6 [(0, .ref (bd 0 0)), (1, .int x), (2, .int wm), (3, .int rn)] := hl
  refine lv_aload_n hx hb dX7_pass__0 rfl (lv_at hl 0 rfl) ?_
  refine lv_iconst (v := 0) hx hb dX7_pass__1 (by decide) ?_
  refine pt_m0_0 hx hb hts iX7_pass__X7 hown hB.1 hC hS hG.2.1 qX7_pass__w1 dX7_pass__2 (fun H locs hC hS => ?_)
  refine lv_iload_n hx hb dX7_pass__5 rfl (lv_at hl 1 rfl) ?_
  refine lv_iconst (v := 1) hx hb dX7_pass__6 (by decide) ?_
  refine lv_bipush (v := 100) hx hb dX7_pass__7 (by decide) ?_
  refine m_callSi (As := [.int x, .int 1, .int 100])  ⟨hx, hb, hml, hown, hts⟩ (kX7_is l D cy e0 (bd := bd) (w := w) (u2 g 0 20 0) S _ x 1 100 ) (va_cwS 3 hts gX7_pass__X7_is rfl rfl rfl (by decide +kernel) ⟨Nat.le_of_ble_eq_true rfl, Nat.le_of_ble_eq_true rfl⟩) hB hG.2 hC hS rfl hl.1 (Nat.le_of_ble_eq_true rfl) dX7_pass__9 ⟨Nat.le_of_ble_eq_true rfl, Nat.le_of_ble_eq_true rfl⟩ (fun H locs hC hS => ?_)
  refine lv_if_eq (tgt := 32) hx hb dX7_pass__12 (by decide) (fun c1 => ?_) (fun c1 => ?_)
  · skip
    refine lv_aload_n hx hb dX7_pass__32 rfl (lv_at hl 0 rfl) ?_
    refine lv_iconst (v := 1) hx hb dX7_pass__33 (by decide) ?_
    refine m_callVi (As := [.int 1]) (κ := 0) (i := 0) rfl rfl ⟨_, rfl⟩ rfl ⟨hx, hb, hml, hown, hts⟩ (kX7_refuse l D cy e0 (bd := bd) (w := w) (u2 g 0 20 0) S _ 1 ) (cwV 1 hts gX7_pass__X7_refuse rfl rfl rfl (by decide +kernel) ⟨Nat.le_of_ble_eq_true rfl, Nat.le_of_ble_eq_true rfl⟩) hB hG.2 hC hS rfl hl.1 (Nat.le_of_ble_eq_true rfl) dX7_pass__34 ⟨Nat.le_of_ble_eq_true rfl, Nat.le_of_ble_eq_true rfl⟩ (fun H locs hC hS => ?_)
    refine W.widen (k := 300) (n := 1200) (Nat.le_of_ble_eq_true rfl) (Nat.le_of_ble_eq_true rfl) ?_
    have e9 : fX7_pass_ (w 0 0) (w 0 1) (w 0 2) (w 0 3) (w 0 4) g x wm rn = ((fX7_refuse (w 0 0) (w 0 1) (w 0 2) (w 0 3) (w 0 4) (u2 g 0 20 0) 1).1, (fX7_refuse (w 0 0) (w 0 1) (w 0 2) (w 0 3) (w 0 4) (u2 g 0 20 0) 1).2) := (by unfold fX7_pass_; rw [if_pos c1])
    exact m_reti hx hb hr hG hC hS (mEq_of (by rw [e9])) (by rw [e9]) hlocks dX7_pass__37
  · skip
    refine lv_iload_n hx hb dX7_pass__15 rfl (lv_at hl 2 rfl) ?_
    refine m_callSi (As := [.int wm])  ⟨hx, hb, hml, hown, hts⟩ (kX7_isWarmth l D cy e0 (bd := bd) (w := w) (u2 g 0 20 0) S _ wm ) (va_cwS 1 hts gX7_pass__X7_isWarmth rfl rfl rfl (by decide +kernel) ⟨Nat.le_of_ble_eq_true rfl, Nat.le_of_ble_eq_true rfl⟩) hB hG.2 hC hS rfl hl.1 (Nat.le_of_ble_eq_true rfl) dX7_pass__16 ⟨Nat.le_of_ble_eq_true rfl, Nat.le_of_ble_eq_true rfl⟩ (fun H locs hC hS => ?_)
    refine lv_if_eq (tgt := 32) hx hb dX7_pass__19 (by decide) (fun c2 => ?_) (fun c2 => ?_)
    · skip
      refine lv_aload_n hx hb dX7_pass__32 rfl (lv_at hl 0 rfl) ?_
      refine lv_iconst (v := 1) hx hb dX7_pass__33 (by decide) ?_
      refine m_callVi (As := [.int 1]) (κ := 0) (i := 0) rfl rfl ⟨_, rfl⟩ rfl ⟨hx, hb, hml, hown, hts⟩ (kX7_refuse l D cy e0 (bd := bd) (w := w) (u2 g 0 20 0) S _ 1 ) (cwV 1 hts gX7_pass__X7_refuse rfl rfl rfl (by decide +kernel) ⟨Nat.le_of_ble_eq_true rfl, Nat.le_of_ble_eq_true rfl⟩) hB hG.2 hC hS rfl hl.1 (Nat.le_of_ble_eq_true rfl) dX7_pass__34 ⟨Nat.le_of_ble_eq_true rfl, Nat.le_of_ble_eq_true rfl⟩ (fun H locs hC hS => ?_)
      refine W.widen (k := 300) (n := 1200) (Nat.le_of_ble_eq_true rfl) (Nat.le_of_ble_eq_true rfl) ?_
      have e9 : fX7_pass_ (w 0 0) (w 0 1) (w 0 2) (w 0 3) (w 0 4) g x wm rn = ((fX7_refuse (w 0 0) (w 0 1) (w 0 2) (w 0 3) (w 0 4) (u2 g 0 20 0) 1).1, (fX7_refuse (w 0 0) (w 0 1) (w 0 2) (w 0 3) (w 0 4) (u2 g 0 20 0) 1).2) := (by unfold fX7_pass_; rw [if_neg c1, if_pos c2])
      exact m_reti hx hb hr hG hC hS (mEq_of (by rw [e9])) (by rw [e9]) hlocks dX7_pass__37
    · skip
      refine lv_iload_n hx hb dX7_pass__22 rfl (lv_at hl 3 rfl) ?_
      refine lv_iconst (v := 0) hx hb dX7_pass__23 (by decide) ?_
      refine lv_bipush (v := 20) hx hb dX7_pass__24 (by decide) ?_
      refine m_callSi (As := [.int rn, .int 0, .int 20])  ⟨hx, hb, hml, hown, hts⟩ (kX7_is l D cy e0 (bd := bd) (w := w) (u2 g 0 20 0) S _ rn 0 20 ) (va_cwS 3 hts gX7_pass__X7_is rfl rfl rfl (by decide +kernel) ⟨Nat.le_of_ble_eq_true rfl, Nat.le_of_ble_eq_true rfl⟩) hB hG.2 hC hS rfl hl.1 (Nat.le_of_ble_eq_true rfl) dX7_pass__26 ⟨Nat.le_of_ble_eq_true rfl, Nat.le_of_ble_eq_true rfl⟩ (fun H locs hC hS => ?_)
      refine lv_if_ne (tgt := 38) hx hb dX7_pass__29 (by decide) (fun c3 => ?_) (fun c3 => ?_)
      · skip
        refine lv_aload_n hx hb dX7_pass__38 rfl (lv_at hl 0 rfl) ?_
        refine gt_m0_8 hx hb hts iX7_pass__X7 hown hB.1 hC qX7_pass__w2 dX7_pass__39 ?_
        refine q_val (v := g 0 0) ((u2_nk (by decide)).trans rfl) ?_
        refine lv_iload_n hx hb dX7_pass__42 rfl (lv_at hl 1 rfl) ?_
        refine lv_iadd hx hb dX7_pass__43 ?_
        refine lv_sipush (v := 20000) hx hb dX7_pass__44 (by decide) ?_
        refine lv_icmp_le (tgt := 56) hx hb dX7_pass__47 (by decide) (fun c4 => ?_) (fun c4 => ?_)
        · skip
          refine lv_iconst (v := 0) hx hb dX7_pass__56 (by decide) ?_
          refine lv_istore (lv' := [(4, .int 0), (0, .ref (bd 0 0)), (1, .int x), (2, .int wm), (3, .int rn)]) hx hb dX7_pass__57 hl (by decide) rfl (fun ls hl => ?_)
          refine lv_iconst (v := 0) hx hb dX7_pass__59 (by decide) ?_
          refine lv_istore (lv' := [(5, .int 0), (4, .int 0), (0, .ref (bd 0 0)), (1, .int x), (2, .int wm), (3, .int rn)]) hx hb dX7_pass__60 hl (by decide) rfl (fun ls hl => ?_)
          refine kX7_pass__L62 l D cy e0 (bd := bd) (w := w) (bd1 := bd) (w1 := w) g S x wm rn (is_le c1 (by decide)) _ _ (Nat.le_of_ble_eq_true rfl) (Nat.le_of_ble_eq_true rfl)  hx hb hr hml hts hown hlocks hB hG (x.toNatClampNeg) 0 0 (u2 g 0 20 0) (by omega) (bdI_ur (hp1 c1 c2 c3 c4) (Or.inl (by decide))) _ _ ls hC hS (lv_sub hl [0, 1, 2, 3, 4, 5] rfl) (fun H locs ls hC hS hl => ?_)
          refine lv_iload hx hb dX7_pass__85 (lv_at hl 0 rfl) ?_
          refine W.widen (k := 300) (n := 1200) (Nat.le_of_ble_eq_true rfl) (Nat.le_of_ble_eq_true rfl) ?_
          have e9 : fX7_pass_ (w 0 0) (w 0 1) (w 0 2) (w 0 3) (w 0 4) g x wm rn = ((fX7_pass__L62 (w 0 0) (w 0 1) (w 0 2) (w 0 3) (w 0 4) g x wm rn (x.toNatClampNeg) 0 0 (u2 g 0 20 0)).1, (fX7_pass__L62 (w 0 0) (w 0 1) (w 0 2) (w 0 3) (w 0 4) g x wm rn (x.toNatClampNeg) 0 0 (u2 g 0 20 0)).2) := (by unfold fX7_pass_; rw [if_neg c1, if_neg c2, if_neg c3, if_pos c4])
          exact m_reti hx hb hr hG hC hS (mEq_of (by rw [e9])) (by rw [e9]) hlocks dX7_pass__87
        · skip
          refine lv_aload_n hx hb dX7_pass__50 rfl (lv_at hl 0 rfl) ?_
          refine lv_iconst (v := 2) hx hb dX7_pass__51 (by decide) ?_
          refine m_callVi (As := [.int 2]) (κ := 0) (i := 0) rfl rfl ⟨_, rfl⟩ rfl ⟨hx, hb, hml, hown, hts⟩ (kX7_refuse l D cy e0 (bd := bd) (w := w) (u2 g 0 20 0) S _ 2 ) (cwV 1 hts gX7_pass__X7_refuse rfl rfl rfl (by decide +kernel) ⟨Nat.le_of_ble_eq_true rfl, Nat.le_of_ble_eq_true rfl⟩) hB hG.2 hC hS rfl hl.1 (Nat.le_of_ble_eq_true rfl) dX7_pass__52 ⟨Nat.le_of_ble_eq_true rfl, Nat.le_of_ble_eq_true rfl⟩ (fun H locs hC hS => ?_)
          refine W.widen (k := 300) (n := 1200) (Nat.le_of_ble_eq_true rfl) (Nat.le_of_ble_eq_true rfl) ?_
          have e9 : fX7_pass_ (w 0 0) (w 0 1) (w 0 2) (w 0 3) (w 0 4) g x wm rn = ((fX7_refuse (w 0 0) (w 0 1) (w 0 2) (w 0 3) (w 0 4) (u2 g 0 20 0) 2).1, (fX7_refuse (w 0 0) (w 0 1) (w 0 2) (w 0 3) (w 0 4) (u2 g 0 20 0) 2).2) := (by unfold fX7_pass_; rw [if_neg c1, if_neg c2, if_neg c3, if_neg c4])
          exact m_reti hx hb hr hG hC hS (mEq_of (by rw [e9])) (by rw [e9]) hlocks dX7_pass__55
      · skip
        refine lv_aload_n hx hb dX7_pass__32 rfl (lv_at hl 0 rfl) ?_
        refine lv_iconst (v := 1) hx hb dX7_pass__33 (by decide) ?_
        refine m_callVi (As := [.int 1]) (κ := 0) (i := 0) rfl rfl ⟨_, rfl⟩ rfl ⟨hx, hb, hml, hown, hts⟩ (kX7_refuse l D cy e0 (bd := bd) (w := w) (u2 g 0 20 0) S _ 1 ) (cwV 1 hts gX7_pass__X7_refuse rfl rfl rfl (by decide +kernel) ⟨Nat.le_of_ble_eq_true rfl, Nat.le_of_ble_eq_true rfl⟩) hB hG.2 hC hS rfl hl.1 (Nat.le_of_ble_eq_true rfl) dX7_pass__34 ⟨Nat.le_of_ble_eq_true rfl, Nat.le_of_ble_eq_true rfl⟩ (fun H locs hC hS => ?_)
        refine W.widen (k := 300) (n := 1200) (Nat.le_of_ble_eq_true rfl) (Nat.le_of_ble_eq_true rfl) ?_
        have e9 : fX7_pass_ (w 0 0) (w 0 1) (w 0 2) (w 0 3) (w 0 4) g x wm rn = ((fX7_refuse (w 0 0) (w 0 1) (w 0 2) (w 0 3) (w 0 4) (u2 g 0 20 0) 1).1, (fX7_refuse (w 0 0) (w 0 1) (w 0 2) (w 0 3) (w 0 4) (u2 g 0 20 0) 1).2) := (by unfold fX7_pass_; rw [if_neg c1, if_neg c2, if_pos c3])
        exact m_reti hx hb hr hG hC hS (mEq_of (by rw [e9])) (by rw [e9]) hlocks dX7_pass__37
/-- lots in store hold something -/
def ltI (w : Nat → Nat → Nat) (g : Md) : Prop := ∀ i j, i < w 0 3 → j < w 0 3 → g (308 + i) 10 = 1 → g (308 + j) 10 = 1 → ¬ g (308 + i) 0 + g (308 + j) 0 = 0
theorem isIn_1 {na nb nc nd T : Nat} {g : Md} {r : Nat} (h : ¬ fX7_isIn na nb nc nd T g r = 0) : g r 10 = 1 := by
  unfold fX7_isIn at h
  by_cases q : g r 10 = 1
  · exact q
  · rw [if_neg q] at h; exact absurd rfl h
theorem canBlend_in {na nb nc nd T : Nat} {g : Md} {r o : Nat} (h : ¬ fX7_canBlend na nb nc nd T g r o = 0) : g r 10 = 1 ∧ g o 10 = 1 := by
  unfold fX7_canBlend at h
  by_cases q : fX7_isIn na nb nc nd T g r = 0
  · rw [if_pos q] at h; exact absurd rfl h
  · rw [if_neg q] at h
    by_cases q2 : fX7_isIn na nb nc nd T g o = 0
    · rw [if_pos q2] at h; exact absurd rfl h
    · exact ⟨isIn_1 q, isIn_1 q2⟩
theorem come_nr {a b c d t : Nat} {g : Md} {r o r2 k : Nat} (h : r2 ≠ r) : fX7_come a b c d t g r o r2 k = g r2 k := by
  unfold fX7_come
  simp only [u2_nr h]
theorem blendOf_nr {a b c d t : Nat} {g : Md} {r o r2 k : Nat} (h : r2 ≠ 400 + t) : fX7_blendOf a b c d t g r o r2 k = g r2 k := by
  unfold fX7_blendOf
  rw [come_nr h]
  simp only [u2_nr h, rz_nr h]
theorem blendOf_eq {w : Nat → Nat → Nat} {a b c d : Nat} {g : Md} {r o : Nat} (hw : wB w) : mEq w (fX7_blendOf a b c d (w 0 4) g r o) g := ⟨fun k => blendOf_nr (by omega), fun q hq k => blendOf_nr (by unfold rV at hq; unfold wB at hw; omega)⟩
def fX7_bestNow_L22 (na nb nc nd T : Nat) (g : Md) (v3 : Int32) : Nat → Nat → Int32 → Int32 → Int32 × Int32
  | 0, k, a1, a2 => (a1, a2)
  | n + 1, k, a1, a2 => if (fX7_canBlend na nb nc nd T g (308 + v3.toNatClampNeg) (308 + k)) = 0 then (fX7_bestNow_L22 na nb nc nd T g v3 n (k + 1) a1 a2) else (if a2 < (fX7_scoreOf na nb nc nd (T + 1) (fX7_blendOf na nb nc nd T g (308 + v3.toNatClampNeg) (308 + k)) (400 + T)) then (fX7_bestNow_L22 na nb nc nd T g v3 n (k + 1) ((20 * v3) + (nI k)) (fX7_scoreOf na nb nc nd (T + 1) (fX7_blendOf na nb nc nd T g (308 + v3.toNatClampNeg) (308 + k)) (400 + T))) else (fX7_bestNow_L22 na nb nc nd T g v3 n (k + 1) a1 a2))
def fX7_bestNow_L6 (na nb nc nd T : Nat) (g : Md) : Nat → Nat → Int32 → Int32 → Int32 × Int32
  | 0, k, a1, a2 => (a1, a2)
  | n + 1, k, a1, a2 => fX7_bestNow_L6 na nb nc nd T g  n (k + 1) ((fX7_bestNow_L22 na nb nc nd T g (nI k) (nd - (k + 1)) (k + 1) a1 a2).1) ((fX7_bestNow_L22 na nb nc nd T g (nI k) (nd - (k + 1)) (k + 1) a1 a2).2)
def fX7_bestNow (na nb nc nd T : Nat) (g : Md) : Int32 := (fX7_bestNow_L6 na nb nc nd T g  nd 0 (-1) (-1)).1
theorem qX7_bestNow_w1 : Cond.fieldLink RX7 27 "CherryStationModel" "lots" "Ljava/util/ArrayList;" ∈ wsX7_bestNow := List.mem_of_getElem? (i := 1) rfl
theorem qX7_bestNow_w2 : Cond.classLink RX7 72 "[I" ∈ wsX7_bestNow := List.mem_of_getElem? (i := 2) rfl
theorem iX7_bestNow_X7 : ∀ w ∈ wsX70, w ∈ wsX7_bestNow := fun _ h => (List.mem_cons_of_mem _ (List.mem_append_left _ (List.mem_append_right _ h)))
set_option maxRecDepth 100000 in
set_option maxHeartbeats 4000000 in
theorem kX7_bestNow_L22 (l : Launch) (D : va_G) (cy : Nat → ClassId) (e0 : Nat) {bd w bd1 w1 : Nat → Nat → Nat} (g : Md) (S : Int64) (v3 : Int32) (hlt : ltI w1 g) (hv3 : vp_in v3 (w1 0 3)) (hT4 : w1 0 4 + 1 ≤ 50) (c0 s0 : Nat) (hc0 : c0 + 12 ≤ 144) (hs0 : s0 + 276 ≤ 3312) {p : Program} {e : Env} {s : State} {m : MethodId} {below : List Frame} {meth : Method} {c : Code} {Q : State → Prop} (hx : p.tables.exec = Jvm.exec) (hb : c.code = cX7_bestNow) (hr : meth.sig.returnType = (some .int)) (hml : c.maxLocals = 6) (hts : ∀ w ∈ wsX7_bestNow, w.before [.ref (bd 0 0)].toArray s = true) (hown : s.vm.findClass RX7 = some m.cls) (hlocks : meth.locks = false) (hB : MB D cy e0 bd w s) (hG : mG e0 bd w s.heap.size bd1 w1) : ∀ (n k : Nat) (a1 : Int32) (a2 : Int32) (hn : k + n = w1 0 3)   (H : Heap) (locs : List Loc) (ls : Array Slot) (hC : MW D cy bd1 w1 g S H) (hS : va_S (mA bd w s.heap.size) s.heap H locs) (hl : lv_has ls 6 [(4, .int (nI k)), (3, .int v3), (2, .int a2), (1, .int a1), (0, .ref (bd1 0 0))]) (kk : ∀ (H : Heap) (locs : List Loc) (ls : Array Slot), MW D cy bd1 w1 g S H → va_S (mA bd w s.heap.size) s.heap H locs → lv_has ls 6 [(3, .int v3), (2, .int ((fX7_bestNow_L22 (w1 0 0) (w1 0 1) (w1 0 2) (w1 0 3) (w1 0 4) g v3 n k a1 a2).2)), (1, .int ((fX7_bestNow_L22 (w1 0 0) (w1 0 1) (w1 0 2) (w1 0 3) (w1 0 4) g v3 n k a1 a2).1)), (0, .ref (bd1 0 0))] → W p l e ({ frames := 4, cells := 144, slots := 3312, locals := 88 } : Room) s m [.ref (bd 0 0)].toArray below meth c H locs (c0 + 12) (s0 + 276) Q (F0 m 124 ls [])), W p l e ({ frames := 4, cells := 144, slots := 3312, locals := 88 } : Room) s m [.ref (bd 0 0)].toArray below meth c H locs (c0 + k * 1) (s0 + k * 23) Q (F0 m 22 ls []) := by
  intro n
  induction n with
  | zero =>
    intro k a1 a2 hn H locs ls hC hS hl kk
    have hk1 : k = w1 0 3 := by omega
    have hkb : w1 0 3 ≤ 12 := (wNB_3 hC.1)
    have hk9 : (nI (w1 0 3)) ≤ (nI k) := by rw [hk1]; exact Int32.le_refl _
    have hw0 : wB w1 := hC.1
    refine lv_iload hx hb dX7_bestNow_22 (lv_at hl 0 rfl) ?_
    refine lv_aload_n hx hb dX7_bestNow_24 rfl (lv_at hl 4 rfl) ?_
    refine gt_m0_5 hx hb hts iX7_bestNow_X7 hown hB.1 hC qX7_bestNow_w1 dX7_bestNow_25 ?_
    refine m_callVi (As := []) (κ := 1) (i := 3) (show 3 < 4 by decide) rfl ⟨_, rfl⟩ rfl ⟨hx, hb, hml, hown, hts⟩ (kJx4a65c_size_8abf5 l D cy e0 (bd := bd1) (w := w1) g S _ 3 (show 3 < 4 by decide)) (cwV 0 hts gX7_bestNow_Jx4a65c_size_8abf5 rfl rfl rfl (by decide +kernel) ⟨Nat.le_of_ble_eq_true rfl, Nat.le_of_ble_eq_true rfl⟩) hB hG.2 hC hS rfl hl.1 (Nat.le_of_ble_eq_true rfl) dX7_bestNow_28 ⟨by dsimp only; omega, by dsimp only; omega⟩ (fun H locs hC hS => ?_)
    refine lv_icmp_ge (tgt := 124) hx hb dX7_bestNow_31 (by decide) (fun _ => ?_) (fun c => absurd hk9 c)
    have e9 : fX7_bestNow_L22 (w1 0 0) (w1 0 1) (w1 0 2) (w1 0 3) (w1 0 4) g v3 0 k a1 a2 = (a1, a2) := by rw [fX7_bestNow_L22]
    rw [e9] at kk
    refine W.widen (k := c0 + 12) (n := s0 + 276) (by omega) (by omega) ?_
    exact kk H locs ls hC hS (lv_sub hl [1, 2, 3, 4] rfl)
  | succ n ih =>
    intro k a1 a2 hn H locs ls hC hS hl kk
    have hk1 : k < w1 0 3 := by omega
    have hkb : w1 0 3 ≤ 12 := (wNB_3 hC.1)
    have hk9 : ¬ (nI (w1 0 3)) ≤ (nI k) := nI_ge hk1 (by have := w0_20 hC.1 (show 3 < 4 by decide); omega)
    have hw0 : wB w1 := hC.1
    refine lv_iload hx hb dX7_bestNow_22 (lv_at hl 0 rfl) ?_
    refine lv_aload_n hx hb dX7_bestNow_24 rfl (lv_at hl 4 rfl) ?_
    refine gt_m0_5 hx hb hts iX7_bestNow_X7 hown hB.1 hC qX7_bestNow_w1 dX7_bestNow_25 ?_
    refine m_callVi (As := []) (κ := 1) (i := 3) (show 3 < 4 by decide) rfl ⟨_, rfl⟩ rfl ⟨hx, hb, hml, hown, hts⟩ (kJx4a65c_size_8abf5 l D cy e0 (bd := bd1) (w := w1) g S _ 3 (show 3 < 4 by decide)) (cwV 0 hts gX7_bestNow_Jx4a65c_size_8abf5 rfl rfl rfl (by decide +kernel) ⟨Nat.le_of_ble_eq_true rfl, Nat.le_of_ble_eq_true rfl⟩) hB hG.2 hC hS rfl hl.1 (Nat.le_of_ble_eq_true rfl) dX7_bestNow_28 ⟨by dsimp only; omega, by dsimp only; omega⟩ (fun H locs hC hS => ?_)
    refine lv_icmp_ge (tgt := 124) hx hb dX7_bestNow_31 (by decide) (fun c => absurd c hk9) (fun _ => ?_)
    refine lv_aload_n hx hb dX7_bestNow_34 rfl (lv_at hl 4 rfl) ?_
    refine gt_m0_5 hx hb hts iX7_bestNow_X7 hown hB.1 hC qX7_bestNow_w1 dX7_bestNow_35 ?_
    refine lv_iload_n hx hb dX7_bestNow_38 rfl (lv_at hl 1 rfl) ?_
    refine m_callVr (As := [.int v3]) (κ := 1) (i := 3) (show 3 < 4 by decide) rfl ⟨_, rfl⟩ rfl ⟨hx, hb, hml, hown, hts⟩ (kJx4a65c_get_915e3 l D cy e0 (bd := bd1) (w := w1) g S _ 3 (show 3 < 4 by decide) v3 hv3) (cwV 1 hts gX7_bestNow_Jx4a65c_get_915e3 rfl rfl rfl (by decide +kernel) ⟨Nat.le_of_ble_eq_true rfl, Nat.le_of_ble_eq_true rfl⟩) hB hG.2 hC hS rfl hl.1 (Nat.le_of_ble_eq_true rfl) dX7_bestNow_39 ⟨by dsimp only; omega, by dsimp only; omega⟩ (fun H locs hC hS => ?_)
    refine m_stk (st' := [.ref (bd1 3 (308 + v3.toNatClampNeg))]) rfl ?_
    refine m_cast hx hb hown (hts _ qX7_bestNow_w2) hB.1 hC (rV_308 (vp_lt hv3)) dX7_bestNow_42 ?_
    refine lv_aload_n hx hb dX7_bestNow_45 rfl (lv_at hl 4 rfl) ?_
    refine gt_m0_5 hx hb hts iX7_bestNow_X7 hown hB.1 hC qX7_bestNow_w1 dX7_bestNow_46 ?_
    refine lv_iload hx hb dX7_bestNow_49 (lv_at hl 0 rfl) ?_
    refine m_callVr (As := [.int (nI k)]) (κ := 1) (i := 3) (show 3 < 4 by decide) rfl ⟨_, rfl⟩ rfl ⟨hx, hb, hml, hown, hts⟩ (kJx4a65c_get_915e3 l D cy e0 (bd := bd1) (w := w1) g S _ 3 (show 3 < 4 by decide) (nI k) (nk_in hk1 (Nat.le_trans (w0_20 (w := w1) hw0 (show 3 < 4 by decide)) (by decide)))) (cwV 1 hts gX7_bestNow_Jx4a65c_get_915e3 rfl rfl rfl (by decide +kernel) ⟨Nat.le_of_ble_eq_true rfl, Nat.le_of_ble_eq_true rfl⟩) hB hG.2 hC hS rfl hl.1 (Nat.le_of_ble_eq_true rfl) dX7_bestNow_51 ⟨by dsimp only; omega, by dsimp only; omega⟩ (fun H locs hC hS => ?_)
    refine m_stk (st' := [.ref (bd1 3 (308 + k)), .ref (bd1 3 (308 + v3.toNatClampNeg))]) (by rw [(nk_clamp hk1 (Nat.le_trans (w0_20 (w := w1) hw0 (show 3 < 4 by decide)) (by decide)))] <;> rfl) ?_
    refine m_cast hx hb hown (hts _ qX7_bestNow_w2) hB.1 hC (rV_308 hk1) dX7_bestNow_54 ?_
    refine m_callSi (As := [.ref (bd1 3 (308 + v3.toNatClampNeg)), .ref (bd1 3 (308 + k))])  ⟨hx, hb, hml, hown, hts⟩ (kX7_canBlend l D cy e0 (bd := bd1) (w := w1) g S _ (308 + v3.toNatClampNeg) (rV_308 (vp_lt hv3)) (rl_308 hC.1 (vp_lt hv3)) (308 + k) (rV_308 hk1) (rl_308 hC.1 hk1) ) (va_cwS 2 hts gX7_bestNow_X7_canBlend rfl rfl rfl (by decide +kernel) ⟨Nat.le_of_ble_eq_true rfl, Nat.le_of_ble_eq_true rfl⟩) hB hG.2 hC hS rfl hl.1 (Nat.le_of_ble_eq_true rfl) dX7_bestNow_57 ⟨by dsimp only; omega, by dsimp only; omega⟩ (fun H locs hC hS => ?_)
    refine lv_if_ne (tgt := 66) hx hb dX7_bestNow_60 (by decide) (fun c6 => ?_) (fun c6 => ?_)
    · skip
      refine lv_aload_n hx hb dX7_bestNow_66 rfl (lv_at hl 4 rfl) ?_
      refine lv_aload_n hx hb dX7_bestNow_67 rfl (lv_at hl 4 rfl) ?_
      refine gt_m0_5 hx hb hts iX7_bestNow_X7 hown hB.1 hC qX7_bestNow_w1 dX7_bestNow_68 ?_
      refine lv_iload_n hx hb dX7_bestNow_71 rfl (lv_at hl 1 rfl) ?_
      refine m_callVr (As := [.int v3]) (κ := 1) (i := 3) (show 3 < 4 by decide) rfl ⟨_, rfl⟩ rfl ⟨hx, hb, hml, hown, hts⟩ (kJx4a65c_get_915e3 l D cy e0 (bd := bd1) (w := w1) g S _ 3 (show 3 < 4 by decide) v3 hv3) (cwV 1 hts gX7_bestNow_Jx4a65c_get_915e3 rfl rfl rfl (by decide +kernel) ⟨Nat.le_of_ble_eq_true rfl, Nat.le_of_ble_eq_true rfl⟩) hB hG.2 hC hS rfl hl.1 (Nat.le_of_ble_eq_true rfl) dX7_bestNow_72 ⟨by dsimp only; omega, by dsimp only; omega⟩ (fun H locs hC hS => ?_)
      refine m_stk (st' := [.ref (bd1 3 (308 + v3.toNatClampNeg)), .ref (bd1 0 0)]) rfl ?_
      refine m_cast hx hb hown (hts _ qX7_bestNow_w2) hB.1 hC (rV_308 (vp_lt hv3)) dX7_bestNow_75 ?_
      refine lv_aload_n hx hb dX7_bestNow_78 rfl (lv_at hl 4 rfl) ?_
      refine gt_m0_5 hx hb hts iX7_bestNow_X7 hown hB.1 hC qX7_bestNow_w1 dX7_bestNow_79 ?_
      refine lv_iload hx hb dX7_bestNow_82 (lv_at hl 0 rfl) ?_
      refine m_callVr (As := [.int (nI k)]) (κ := 1) (i := 3) (show 3 < 4 by decide) rfl ⟨_, rfl⟩ rfl ⟨hx, hb, hml, hown, hts⟩ (kJx4a65c_get_915e3 l D cy e0 (bd := bd1) (w := w1) g S _ 3 (show 3 < 4 by decide) (nI k) (nk_in hk1 (Nat.le_trans (w0_20 (w := w1) hw0 (show 3 < 4 by decide)) (by decide)))) (cwV 1 hts gX7_bestNow_Jx4a65c_get_915e3 rfl rfl rfl (by decide +kernel) ⟨Nat.le_of_ble_eq_true rfl, Nat.le_of_ble_eq_true rfl⟩) hB hG.2 hC hS rfl hl.1 (Nat.le_of_ble_eq_true rfl) dX7_bestNow_84 ⟨by dsimp only; omega, by dsimp only; omega⟩ (fun H locs hC hS => ?_)
      refine m_stk (st' := [.ref (bd1 3 (308 + k)), .ref (bd1 3 (308 + v3.toNatClampNeg)), .ref (bd1 0 0)]) (by rw [(nk_clamp hk1 (Nat.le_trans (w0_20 (w := w1) hw0 (show 3 < 4 by decide)) (by decide)))] <;> rfl) ?_
      refine m_cast hx hb hown (hts _ qX7_bestNow_w2) hB.1 hC (rV_308 hk1) dX7_bestNow_87 ?_
      have hz9 := hS.1
      have hw9 := hC.1
      refine m_callSn (As := [.ref (bd1 3 (308 + v3.toNatClampNeg)), .ref (bd1 3 (308 + k))])  ⟨hx, hb, hml, hown, hts⟩ (kX7_blendOf l D cy e0 (bd := bd1) (w := w1) g S _ (308 + v3.toNatClampNeg) (rV_308 (vp_lt hv3)) (rl_308 hC.1 (vp_lt hv3)) (308 + k) (rV_308 hk1) (rl_308 hC.1 hk1) (by show w1 0 4 + 1 ≤ 50; omega) (hlt _ _ (vp_lt hv3) hk1 (canBlend_in c6).1 (canBlend_in c6).2)) (va_cwS 2 hts gX7_bestNow_X7_blendOf rfl rfl rfl (by decide +kernel) ⟨Nat.le_of_ble_eq_true rfl, Nat.le_of_ble_eq_true rfl⟩) hB hG.2 hC hS rfl hl.1 (Nat.le_of_ble_eq_true rfl) dX7_bestNow_90 ⟨by dsimp only; omega, by dsimp only; omega⟩ (fun bd7 H locs hN hC hS => ?_)
      have hD9 := wN_mD (N := 23) hN.1 hN.2.1
      have hD1 := hD9
      have hG : mG e0 bd w s.heap.size bd7 (wN w1 23) := hG.new hN.1 hN.2.1 hN.2.2.1 (Nat.le_trans hz9 hN.2.2.2)
      have q0 : bd7 0 0 = bd1 0 0 := hN.1 0 0 rfl
      rw [← q0] at hl
      refine m_stk (st' := [.ref (bd7 3 (400 + w1 0 4)), .ref (bd7 0 0)]) (by rw [q0]) ?_
      have hv8 : rV (wN w1 23) (400 + w1 0 4) := rV_new
      have hn9 : rl (wN w1 23) (400 + w1 0 4) = 23 := rl_new
      refine m_callVi (As := [.ref (bd7 3 (400 + w1 0 4))]) (κ := 0) (i := 0) rfl rfl ⟨_, rfl⟩ rfl ⟨hx, hb, hml, hown, hts⟩ (kX7_scoreOf l D cy e0 (bd := bd7) (w := (wN w1 23)) (fX7_blendOf (w1 0 0) (w1 0 1) (w1 0 2) (w1 0 3) (w1 0 4) g (308 + v3.toNatClampNeg) (308 + k)) S _ (400 + w1 0 4) hv8 hn9 ) (cwV 1 hts gX7_bestNow_X7_scoreOf rfl rfl rfl (by decide +kernel) ⟨Nat.le_of_ble_eq_true rfl, Nat.le_of_ble_eq_true rfl⟩) hB hG.2 hC hS rfl hl.1 (Nat.le_of_ble_eq_true rfl) dX7_bestNow_93 ⟨by dsimp only; omega, by dsimp only; omega⟩ (fun H locs hC hS => ?_)
      refine q_val (v := fX7_scoreOf (w1 0 0) (w1 0 1) (w1 0 2) (w1 0 3) (w1 0 4 + 1) (fX7_blendOf (w1 0 0) (w1 0 1) (w1 0 2) (w1 0 3) (w1 0 4) g (308 + v3.toNatClampNeg) (308 + k)) (400 + w1 0 4)) rfl ?_
      refine lv_istore (lv' := [(5, .int (fX7_scoreOf (w1 0 0) (w1 0 1) (w1 0 2) (w1 0 3) (w1 0 4 + 1) (fX7_blendOf (w1 0 0) (w1 0 1) (w1 0 2) (w1 0 3) (w1 0 4) g (308 + v3.toNatClampNeg) (308 + k)) (400 + w1 0 4))), (4, .int (nI k)), (3, .int v3), (2, .int a2), (1, .int a1), (0, .ref (bd7 0 0))]) hx hb dX7_bestNow_96 hl (by decide) rfl (fun ls hl => ?_)
      refine lv_iload hx hb dX7_bestNow_98 (lv_at hl 0 rfl) ?_
      refine lv_iload_n hx hb dX7_bestNow_100 rfl (lv_at hl 3 rfl) ?_
      refine lv_icmp_gt (tgt := 107) hx hb dX7_bestNow_101 (by decide) (fun c10 => ?_) (fun c10 => ?_)
      · skip
        refine lv_iload hx hb dX7_bestNow_107 (lv_at hl 0 rfl) ?_
        refine lv_istore_n (lv' := [(2, .int (fX7_scoreOf (w1 0 0) (w1 0 1) (w1 0 2) (w1 0 3) (w1 0 4 + 1) (fX7_blendOf (w1 0 0) (w1 0 1) (w1 0 2) (w1 0 3) (w1 0 4) g (308 + v3.toNatClampNeg) (308 + k)) (400 + w1 0 4))), (5, .int (fX7_scoreOf (w1 0 0) (w1 0 1) (w1 0 2) (w1 0 3) (w1 0 4 + 1) (fX7_blendOf (w1 0 0) (w1 0 1) (w1 0 2) (w1 0 3) (w1 0 4) g (308 + v3.toNatClampNeg) (308 + k)) (400 + w1 0 4))), (4, .int (nI k)), (3, .int v3), (1, .int a1), (0, .ref (bd7 0 0))]) hx hb dX7_bestNow_109 rfl hl (by decide) rfl (fun ls hl => ?_)
        refine lv_bipush (v := 20) hx hb dX7_bestNow_110 (by decide) ?_
        refine lv_iload_n hx hb dX7_bestNow_112 rfl (lv_at hl 3 rfl) ?_
        refine lv_imul hx hb dX7_bestNow_113 ?_
        refine lv_iload hx hb dX7_bestNow_114 (lv_at hl 2 rfl) ?_
        refine lv_iadd hx hb dX7_bestNow_116 ?_
        refine lv_istore_n (lv' := [(1, .int ((20 * v3) + (nI k))), (2, .int (fX7_scoreOf (w1 0 0) (w1 0 1) (w1 0 2) (w1 0 3) (w1 0 4 + 1) (fX7_blendOf (w1 0 0) (w1 0 1) (w1 0 2) (w1 0 3) (w1 0 4) g (308 + v3.toNatClampNeg) (308 + k)) (400 + w1 0 4))), (5, .int (fX7_scoreOf (w1 0 0) (w1 0 1) (w1 0 2) (w1 0 3) (w1 0 4 + 1) (fX7_blendOf (w1 0 0) (w1 0 1) (w1 0 2) (w1 0 3) (w1 0 4) g (308 + v3.toNatClampNeg) (308 + k)) (400 + w1 0 4))), (4, .int (nI k)), (3, .int v3), (0, .ref (bd7 0 0))]) hx hb dX7_bestNow_117 rfl hl (by decide) rfl (fun ls hl => ?_)
        refine lv_iinc (v := nI (k + 1)) (lv' := [(4, .int (nI (k + 1))), (1, .int ((20 * v3) + (nI k))), (2, .int (fX7_scoreOf (w1 0 0) (w1 0 1) (w1 0 2) (w1 0 3) (w1 0 4 + 1) (fX7_blendOf (w1 0 0) (w1 0 1) (w1 0 2) (w1 0 3) (w1 0 4) g (308 + v3.toNatClampNeg) (308 + k)) (400 + w1 0 4))), (5, .int (fX7_scoreOf (w1 0 0) (w1 0 1) (w1 0 2) (w1 0 3) (w1 0 4 + 1) (fX7_blendOf (w1 0 0) (w1 0 1) (w1 0 2) (w1 0 3) (w1 0 4) g (308 + v3.toNatClampNeg) (308 + k)) (400 + w1 0 4))), (3, .int v3), (0, .ref (bd7 0 0))]) hx hb dX7_bestNow_118 hl (k := 3) rfl (nI_1 _) (by decide) rfl (fun ls hl => ?_)
        refine lv_goto (tgt := 22) hx hb dX7_bestNow_121 (by decide) ?_
        refine W.widen (k := c0 + (k + 1) * 1) (n := s0 + (k + 1) * 23) (by omega) (by omega) ?_
        have e9 : fX7_bestNow_L22 (w1 0 0) (w1 0 1) (w1 0 2) (w1 0 3) (w1 0 4) g v3 (n + 1) k a1 a2 = fX7_bestNow_L22 (w1 0 0) (w1 0 1) (w1 0 2) (w1 0 3) (w1 0 4) g v3 n (k + 1) ((20 * v3) + (nI k)) (fX7_scoreOf (w1 0 0) (w1 0 1) (w1 0 2) (w1 0 3) (w1 0 4 + 1) (fX7_blendOf (w1 0 0) (w1 0 1) (w1 0 2) (w1 0 3) (w1 0 4) g (308 + v3.toNatClampNeg) (308 + k)) (400 + w1 0 4)) := by rw [fX7_bestNow_L22, if_neg c6, if_pos c10]
        have hC := hC.drop hD1 (blendOf_eq hw0)
        have q0 : bd7 0 0 = bd1 0 0 := (hD1.1 0 0 rfl).2
        rw [q0] at hl
        rw [e9] at kk
        exact ih (k + 1) ((20 * v3) + (nI k)) (fX7_scoreOf (w1 0 0) (w1 0 1) (w1 0 2) (w1 0 3) (w1 0 4 + 1) (fX7_blendOf (w1 0 0) (w1 0 1) (w1 0 2) (w1 0 3) (w1 0 4) g (308 + v3.toNatClampNeg) (308 + k)) (400 + w1 0 4)) (by omega)  H locs ls hC hS (lv_sub hl [0, 4, 2, 1, 5] rfl) kk
      · skip
        refine lv_goto (tgt := 118) hx hb dX7_bestNow_104 (by decide) ?_
        refine lv_iinc (v := nI (k + 1)) (lv' := [(4, .int (nI (k + 1))), (5, .int (fX7_scoreOf (w1 0 0) (w1 0 1) (w1 0 2) (w1 0 3) (w1 0 4 + 1) (fX7_blendOf (w1 0 0) (w1 0 1) (w1 0 2) (w1 0 3) (w1 0 4) g (308 + v3.toNatClampNeg) (308 + k)) (400 + w1 0 4))), (3, .int v3), (2, .int a2), (1, .int a1), (0, .ref (bd7 0 0))]) hx hb dX7_bestNow_118 hl (k := 1) rfl (nI_1 _) (by decide) rfl (fun ls hl => ?_)
        refine lv_goto (tgt := 22) hx hb dX7_bestNow_121 (by decide) ?_
        refine W.widen (k := c0 + (k + 1) * 1) (n := s0 + (k + 1) * 23) (by omega) (by omega) ?_
        have e9 : fX7_bestNow_L22 (w1 0 0) (w1 0 1) (w1 0 2) (w1 0 3) (w1 0 4) g v3 (n + 1) k a1 a2 = fX7_bestNow_L22 (w1 0 0) (w1 0 1) (w1 0 2) (w1 0 3) (w1 0 4) g v3 n (k + 1) a1 a2 := by rw [fX7_bestNow_L22, if_neg c6, if_neg c10]
        have hC := hC.drop hD1 (blendOf_eq hw0)
        have q0 : bd7 0 0 = bd1 0 0 := (hD1.1 0 0 rfl).2
        rw [q0] at hl
        rw [e9] at kk
        exact ih (k + 1) a1 a2 (by omega)  H locs ls hC hS (lv_sub hl [0, 2, 3, 4, 5] rfl) kk
    · skip
      refine lv_goto (tgt := 118) hx hb dX7_bestNow_63 (by decide) ?_
      refine lv_iinc (v := nI (k + 1)) (lv' := [(4, .int (nI (k + 1))), (3, .int v3), (2, .int a2), (1, .int a1), (0, .ref (bd1 0 0))]) hx hb dX7_bestNow_118 hl (k := 0) rfl (nI_1 _) (by decide) rfl (fun ls hl => ?_)
      refine lv_goto (tgt := 22) hx hb dX7_bestNow_121 (by decide) ?_
      refine W.widen (k := c0 + (k + 1) * 1) (n := s0 + (k + 1) * 23) (by omega) (by omega) ?_
      have e9 : fX7_bestNow_L22 (w1 0 0) (w1 0 1) (w1 0 2) (w1 0 3) (w1 0 4) g v3 (n + 1) k a1 a2 = fX7_bestNow_L22 (w1 0 0) (w1 0 1) (w1 0 2) (w1 0 3) (w1 0 4) g v3 n (k + 1) a1 a2 := by rw [fX7_bestNow_L22, if_pos c6]
      rw [e9] at kk
      exact ih (k + 1) a1 a2 (by omega)  H locs ls hC hS (lv_sub hl [0, 1, 2, 3, 4] rfl) kk
set_option maxRecDepth 100000 in
set_option maxHeartbeats 4000000 in
theorem kX7_bestNow_L6 (l : Launch) (D : va_G) (cy : Nat → ClassId) (e0 : Nat) {bd w bd1 w1 : Nat → Nat → Nat} (g : Md) (S : Int64) (hlt : ltI w1 g) (hT4 : w1 0 4 + 1 ≤ 50) (c0 s0 : Nat) (hc0 : c0 + 144 ≤ 144) (hs0 : s0 + 3312 ≤ 3312) {p : Program} {e : Env} {s : State} {m : MethodId} {below : List Frame} {meth : Method} {c : Code} {Q : State → Prop} (hx : p.tables.exec = Jvm.exec) (hb : c.code = cX7_bestNow) (hr : meth.sig.returnType = (some .int)) (hml : c.maxLocals = 6) (hts : ∀ w ∈ wsX7_bestNow, w.before [.ref (bd 0 0)].toArray s = true) (hown : s.vm.findClass RX7 = some m.cls) (hlocks : meth.locks = false) (hB : MB D cy e0 bd w s) (hG : mG e0 bd w s.heap.size bd1 w1) : ∀ (n k : Nat) (a1 : Int32) (a2 : Int32) (hn : k + n = w1 0 3)   (H : Heap) (locs : List Loc) (ls : Array Slot) (hC : MW D cy bd1 w1 g S H) (hS : va_S (mA bd w s.heap.size) s.heap H locs) (hl : lv_has ls 6 [(3, .int (nI k)), (2, .int a2), (1, .int a1), (0, .ref (bd1 0 0))]) (kk : ∀ (H : Heap) (locs : List Loc) (ls : Array Slot), MW D cy bd1 w1 g S H → va_S (mA bd w s.heap.size) s.heap H locs → lv_has ls 6 [(2, .int ((fX7_bestNow_L6 (w1 0 0) (w1 0 1) (w1 0 2) (w1 0 3) (w1 0 4) g  n k a1 a2).2)), (1, .int ((fX7_bestNow_L6 (w1 0 0) (w1 0 1) (w1 0 2) (w1 0 3) (w1 0 4) g  n k a1 a2).1)), (0, .ref (bd1 0 0))] → W p l e ({ frames := 4, cells := 144, slots := 3312, locals := 88 } : Room) s m [.ref (bd 0 0)].toArray below meth c H locs (c0 + 144) (s0 + 3312) Q (F0 m 130 ls [])), W p l e ({ frames := 4, cells := 144, slots := 3312, locals := 88 } : Room) s m [.ref (bd 0 0)].toArray below meth c H locs (c0 + k * 12) (s0 + k * 276) Q (F0 m 6 ls []) := by
  intro n
  induction n with
  | zero =>
    intro k a1 a2 hn H locs ls hC hS hl kk
    have hk1 : k = w1 0 3 := by omega
    have hkb : w1 0 3 ≤ 12 := (wNB_3 hC.1)
    have hk9 : (nI (w1 0 3)) ≤ (nI k) := by rw [hk1]; exact Int32.le_refl _
    have hw0 : wB w1 := hC.1
    refine lv_iload_n hx hb dX7_bestNow_6 rfl (lv_at hl 0 rfl) ?_
    refine lv_aload_n hx hb dX7_bestNow_7 rfl (lv_at hl 3 rfl) ?_
    refine gt_m0_5 hx hb hts iX7_bestNow_X7 hown hB.1 hC qX7_bestNow_w1 dX7_bestNow_8 ?_
    refine m_callVi (As := []) (κ := 1) (i := 3) (show 3 < 4 by decide) rfl ⟨_, rfl⟩ rfl ⟨hx, hb, hml, hown, hts⟩ (kJx4a65c_size_8abf5 l D cy e0 (bd := bd1) (w := w1) g S _ 3 (show 3 < 4 by decide)) (cwV 0 hts gX7_bestNow_Jx4a65c_size_8abf5 rfl rfl rfl (by decide +kernel) ⟨Nat.le_of_ble_eq_true rfl, Nat.le_of_ble_eq_true rfl⟩) hB hG.2 hC hS rfl hl.1 (Nat.le_of_ble_eq_true rfl) dX7_bestNow_11 ⟨by dsimp only; omega, by dsimp only; omega⟩ (fun H locs hC hS => ?_)
    refine lv_icmp_ge (tgt := 130) hx hb dX7_bestNow_14 (by decide) (fun _ => ?_) (fun c => absurd hk9 c)
    have e9 : fX7_bestNow_L6 (w1 0 0) (w1 0 1) (w1 0 2) (w1 0 3) (w1 0 4) g  0 k a1 a2 = (a1, a2) := by rw [fX7_bestNow_L6]
    rw [e9] at kk
    refine W.widen (k := c0 + 144) (n := s0 + 3312) (by omega) (by omega) ?_
    exact kk H locs ls hC hS (lv_sub hl [1, 2, 3] rfl)
  | succ n ih =>
    intro k a1 a2 hn H locs ls hC hS hl kk
    have hk1 : k < w1 0 3 := by omega
    have hkb : w1 0 3 ≤ 12 := (wNB_3 hC.1)
    have hk9 : ¬ (nI (w1 0 3)) ≤ (nI k) := nI_ge hk1 (by have := w0_20 hC.1 (show 3 < 4 by decide); omega)
    have hw0 : wB w1 := hC.1
    refine lv_iload_n hx hb dX7_bestNow_6 rfl (lv_at hl 0 rfl) ?_
    refine lv_aload_n hx hb dX7_bestNow_7 rfl (lv_at hl 3 rfl) ?_
    refine gt_m0_5 hx hb hts iX7_bestNow_X7 hown hB.1 hC qX7_bestNow_w1 dX7_bestNow_8 ?_
    refine m_callVi (As := []) (κ := 1) (i := 3) (show 3 < 4 by decide) rfl ⟨_, rfl⟩ rfl ⟨hx, hb, hml, hown, hts⟩ (kJx4a65c_size_8abf5 l D cy e0 (bd := bd1) (w := w1) g S _ 3 (show 3 < 4 by decide)) (cwV 0 hts gX7_bestNow_Jx4a65c_size_8abf5 rfl rfl rfl (by decide +kernel) ⟨Nat.le_of_ble_eq_true rfl, Nat.le_of_ble_eq_true rfl⟩) hB hG.2 hC hS rfl hl.1 (Nat.le_of_ble_eq_true rfl) dX7_bestNow_11 ⟨by dsimp only; omega, by dsimp only; omega⟩ (fun H locs hC hS => ?_)
    refine lv_icmp_ge (tgt := 130) hx hb dX7_bestNow_14 (by decide) (fun c => absurd c hk9) (fun _ => ?_)
    refine lv_iload_n hx hb dX7_bestNow_17 rfl (lv_at hl 0 rfl) ?_
    refine lv_iconst (v := 1) hx hb dX7_bestNow_18 (by decide) ?_
    refine lv_iadd hx hb dX7_bestNow_19 ?_
    refine q_val (v := nI (k + 1)) (nI_1 _) ?_
    refine lv_istore (lv' := [(4, .int (nI (k + 1))), (3, .int (nI k)), (2, .int a2), (1, .int a1), (0, .ref (bd1 0 0))]) hx hb dX7_bestNow_20 hl (by decide) rfl (fun ls hl => ?_)
    refine W.widen (k := ((c0 + k * 12) + 0) + ((k + 1)) * 1) (n := ((s0 + k * 276) + 0) + ((k + 1)) * 23) (by omega) (by omega) ?_
    refine kX7_bestNow_L22 l D cy e0 (bd := bd) (w := w) (bd1 := bd1) (w1 := w1) g S (nI k) hlt (nk_in hk1 (by omega)) (by show w1 0 4 + 1 ≤ 50; omega) ((c0 + k * 12) + 0) ((s0 + k * 276) + 0) (by omega) (by omega)  hx hb hr hml hts hown hlocks hB hG (w1 0 3 - (k + 1)) (k + 1) a1 a2 (by omega)  _ _ ls hC hS (lv_sub hl [0, 1, 2, 3, 4] rfl) (fun H locs ls hC hS hl => ?_)
    refine lv_iinc (v := nI (k + 1)) (lv' := [(3, .int (nI (k + 1))), (2, .int ((fX7_bestNow_L22 (w1 0 0) (w1 0 1) (w1 0 2) (w1 0 3) (w1 0 4) g (nI k) (w1 0 3 - (k + 1)) (k + 1) a1 a2).2)), (1, .int ((fX7_bestNow_L22 (w1 0 0) (w1 0 1) (w1 0 2) (w1 0 3) (w1 0 4) g (nI k) (w1 0 3 - (k + 1)) (k + 1) a1 a2).1)), (0, .ref (bd1 0 0))]) hx hb dX7_bestNow_124 hl (k := 0) rfl (nI_1 _) (by decide) rfl (fun ls hl => ?_)
    refine lv_goto (tgt := 6) hx hb dX7_bestNow_127 (by decide) ?_
    refine W.widen (k := c0 + (k + 1) * 12) (n := s0 + (k + 1) * 276) (by omega) (by omega) ?_
    have e9 : fX7_bestNow_L6 (w1 0 0) (w1 0 1) (w1 0 2) (w1 0 3) (w1 0 4) g  (n + 1) k a1 a2 = fX7_bestNow_L6 (w1 0 0) (w1 0 1) (w1 0 2) (w1 0 3) (w1 0 4) g  n (k + 1) ((fX7_bestNow_L22 (w1 0 0) (w1 0 1) (w1 0 2) (w1 0 3) (w1 0 4) g (nI k) (w1 0 3 - (k + 1)) (k + 1) a1 a2).1) ((fX7_bestNow_L22 (w1 0 0) (w1 0 1) (w1 0 2) (w1 0 3) (w1 0 4) g (nI k) (w1 0 3 - (k + 1)) (k + 1) a1 a2).2) := by rw [fX7_bestNow_L6]
    rw [e9] at kk
    exact ih (k + 1) ((fX7_bestNow_L22 (w1 0 0) (w1 0 1) (w1 0 2) (w1 0 3) (w1 0 4) g (nI k) (w1 0 3 - (k + 1)) (k + 1) a1 a2).1) ((fX7_bestNow_L22 (w1 0 0) (w1 0 1) (w1 0 2) (w1 0 3) (w1 0 4) g (nI k) (w1 0 3 - (k + 1)) (k + 1) a1 a2).2) (by omega)  H locs ls hC hS (lv_sub hl [0, 1, 2, 3] rfl) kk
set_option maxRecDepth 100000 in
set_option maxHeartbeats 4000000 in
theorem kX7_bestNow (l : Launch) (D : va_G) (cy : Nat → ClassId) (e0 : Nat) {bd w : Nat → Nat → Nat} (g : Md) (S : Int64) (sz : Nat) (hT4 : w 0 4 + 1 ≤ 50) (hp1 : (ltI w g)) : Met l yX7_bestNow wsX7_bestNow ({ frames := 4, cells := 144, slots := 3312, locals := 88 } : Room) (va_Pc [.ref (bd 0 0)] (mPre D cy e0 bd w g S sz)) (mQi D cy bd w (fX7_bestNow (w 0 0) (w 0 1) (w 0 2) (w 0 3) (w 0 4) g) g S sz) 144 3312 (mA bd w sz) := by
  refine q_start (cc := cX7_bestNow) (maxL := 6) (ret := (some .int)) (own := RX7) (by decide) rfl rfl (Nat.le_of_ble_eq_true rfl) ?_
  intro p e s m below meth c hx hb hr hml hts hown hlocks ⟨hsz, hC, hB⟩ ls hl
  subst hsz
  have hS : va_S (mA bd w s.heap.size) s.heap s.heap [] := va_S.rf
  have hG : mG e0 bd w s.heap.size bd w := mG.rf hB.2.2.1
  have hw0 := hC.1
  have hl : lv_has ls 6 [(0, .ref (bd 0 0))] := hl
  refine lv_iconst (v := (-1)) hx hb dX7_bestNow_0 (by decide) ?_
  refine lv_istore_n (lv' := [(1, .int (-1)), (0, .ref (bd 0 0))]) hx hb dX7_bestNow_1 rfl hl (by decide) rfl (fun ls hl => ?_)
  refine lv_iconst (v := (-1)) hx hb dX7_bestNow_2 (by decide) ?_
  refine lv_istore_n (lv' := [(2, .int (-1)), (1, .int (-1)), (0, .ref (bd 0 0))]) hx hb dX7_bestNow_3 rfl hl (by decide) rfl (fun ls hl => ?_)
  refine lv_iconst (v := 0) hx hb dX7_bestNow_4 (by decide) ?_
  refine lv_istore_n (lv' := [(3, .int 0), (2, .int (-1)), (1, .int (-1)), (0, .ref (bd 0 0))]) hx hb dX7_bestNow_5 rfl hl (by decide) rfl (fun ls hl => ?_)
  refine kX7_bestNow_L6 l D cy e0 (bd := bd) (w := w) (bd1 := bd) (w1 := w) g S hp1 (by show w 0 4 + 1 ≤ 50; omega) _ _ (Nat.le_of_ble_eq_true rfl) (Nat.le_of_ble_eq_true rfl)  hx hb hr hml hts hown hlocks hB hG (w 0 3) 0 (-1) (-1) (by omega)  _ _ ls hC hS (lv_sub hl [0, 1, 2, 3] rfl) (fun H locs ls hC hS hl => ?_)
  refine lv_iload_n hx hb dX7_bestNow_130 rfl (lv_at hl 1 rfl) ?_
  refine W.widen (k := 144) (n := 3312) (Nat.le_of_ble_eq_true rfl) (Nat.le_of_ble_eq_true rfl) ?_
  exact m_reti hx hb hr hG hC hS mEq_rf rfl hlocks dX7_bestNow_131
def fX7_bestBlend (na nb nc nd T : Nat) (g : Md) : Int32 × Md := (fX7_bestNow na nb nc nd T (u2 g 0 20 0), (u2 g 0 20 0))
theorem qX7_bestBlend_w1 : Cond.fieldLink RX7 41 "CherryStationModel" "thrown" "I" ∈ wsX7_bestBlend := List.mem_of_getElem? (i := 1) rfl
theorem iX7_bestBlend_X7 : ∀ w ∈ wsX70, w ∈ wsX7_bestBlend := fun _ h => (List.mem_cons_of_mem _ (List.mem_append_left _ (List.mem_append_right _ h)))
set_option maxRecDepth 100000 in
set_option maxHeartbeats 4000000 in
theorem kX7_bestBlend (l : Launch) (D : va_G) (cy : Nat → ClassId) (e0 : Nat) {bd w : Nat → Nat → Nat} (g : Md) (S : Int64) (sz : Nat) (hT4 : w 0 4 + 1 ≤ 50) (hp1 : ((ltI w (u2 g 0 20 0)))) : Met l yX7_bestBlend wsX7_bestBlend ({ frames := 5, cells := 144, slots := 3312, locals := 113 } : Room) (va_Pc [.ref (bd 0 0)] (mPre D cy e0 bd w g S sz)) (mQi D cy bd w (fX7_bestBlend (w 0 0) (w 0 1) (w 0 2) (w 0 3) (w 0 4) g).1 (fX7_bestBlend (w 0 0) (w 0 1) (w 0 2) (w 0 3) (w 0 4) g).2 S sz) 144 3312 (mA bd w sz) := by
  refine q_start (cc := cX7_bestBlend) (maxL := 1) (ret := (some .int)) (own := RX7) (by decide) rfl rfl (Nat.le_of_ble_eq_true rfl) ?_
  intro p e s m below meth c hx hb hr hml hts hown hlocks ⟨hsz, hC, hB⟩ ls hl
  subst hsz
  have hS : va_S (mA bd w s.heap.size) s.heap s.heap [] := va_S.rf
  have hG : mG e0 bd w s.heap.size bd w := mG.rf hB.2.2.1
  have hw0 := hC.1
  have hl : lv_has ls 1 [(0, .ref (bd 0 0))] := hl
  refine lv_aload_n hx hb dX7_bestBlend_0 rfl (lv_at hl 0 rfl) ?_
  refine lv_iconst (v := 0) hx hb dX7_bestBlend_1 (by decide) ?_
  refine pt_m0_0 hx hb hts iX7_bestBlend_X7 hown hB.1 hC hS hG.2.1 qX7_bestBlend_w1 dX7_bestBlend_2 (fun H locs hC hS => ?_)
  refine lv_aload_n hx hb dX7_bestBlend_5 rfl (lv_at hl 0 rfl) ?_
  refine m_callVi (As := []) (κ := 0) (i := 0) rfl rfl ⟨_, rfl⟩ rfl ⟨hx, hb, hml, hown, hts⟩ (kX7_bestNow l D cy e0 (bd := bd) (w := w) (u2 g 0 20 0) S _  (by show w 0 4 + 1 ≤ 50; omega) hp1) (cwV 0 hts gX7_bestBlend_X7_bestNow rfl rfl rfl (by decide +kernel) ⟨Nat.le_of_ble_eq_true rfl, Nat.le_of_ble_eq_true rfl⟩) hB hG.2 hC hS rfl hl.1 (Nat.le_of_ble_eq_true rfl) dX7_bestBlend_6 ⟨Nat.le_of_ble_eq_true rfl, Nat.le_of_ble_eq_true rfl⟩ (fun H locs hC hS => ?_)
  refine W.widen (k := 144) (n := 3312) (Nat.le_of_ble_eq_true rfl) (Nat.le_of_ble_eq_true rfl) ?_
  have e9 : fX7_bestBlend (w 0 0) (w 0 1) (w 0 2) (w 0 3) (w 0 4) g = (fX7_bestNow (w 0 0) (w 0 1) (w 0 2) (w 0 3) (w 0 4) (u2 g 0 20 0), (u2 g 0 20 0)) := rfl
  exact m_reti hx hb hr hG hC hS (mEq_of (by rw [e9])) (by rw [e9]) hlocks dX7_bestBlend_9
