def fX7_add (na nb nc nd T : Nat) (g : Md) (S : Int64) (v : Int32) : Int64 := (S * 31) + v.toInt64
theorem qX7_add_w1 : Cond.fieldLink RX7 244 "CherryStationModel" "sum" "J" ∈ wsX7_add := List.mem_of_getElem? (i := 1) rfl
theorem qX7_add_w2 : Cond.constantLong RX7 247 (31) ∈ wsX7_add := List.mem_of_getElem? (i := 2) rfl
theorem iX7_add_X7 : ∀ w ∈ wsX70, w ∈ wsX7_add := fun _ h => (List.mem_cons_of_mem _ (List.mem_append_right _ h))
set_option maxRecDepth 100000 in
set_option maxHeartbeats 4000000 in
theorem kX7_add (l : Launch) (D : va_G) (cy : Nat → ClassId) (e0 : Nat) {bd w : Nat → Nat → Nat} (g : Md) (S : Int64) (sz : Nat) (v : Int32) : Met l yX7_add wsX7_add ({ frames := 0, cells := 0, slots := 0, locals := 0 } : Room) (va_Pc [.ref (bd 0 0), .int v] (mPre D cy e0 bd w g S sz)) (mQv D cy bd w g (fX7_add (w 0 0) (w 0 1) (w 0 2) (w 0 3) (w 0 4) g S v) sz) 0 0 (mA bd w sz) := by
  refine q_start (cc := cX7_add) (maxL := 2) (ret := none) (own := RX7) (by decide) rfl rfl (Nat.le_of_ble_eq_true rfl) ?_
  intro p e s m below meth c hx hb hr hml hts hown hlocks ⟨hsz, hC, hB⟩ ls hl
  subst hsz
  have hS : va_S (mA bd w s.heap.size) s.heap s.heap [] := va_S.rf
  have hG : mG e0 bd w s.heap.size bd w := mG.rf hB.2.2.1
  have hw0 := hC.1
  have hl : lv_has ls 2 [(0, .ref (bd 0 0)), (1, .int v)] := hl
  refine lv_aload_n hx hb dX7_add_0 rfl (lv_at hl 0 rfl) ?_
  refine lv_aload_n hx hb dX7_add_1 rfl (lv_at hl 0 rfl) ?_
  refine gt_m0_15 hx hb hts iX7_add_X7 hown hB.1 hC qX7_add_w1 dX7_add_2 ?_
  refine lv_ldc2 hx hb hown (hts _ qX7_add_w2) dX7_add_5 ?_
  refine lv_lmul hx hb dX7_add_8 ?_
  refine lv_iload_n hx hb dX7_add_9 rfl (lv_at hl 1 rfl) ?_
  refine lv_i2l hx hb dX7_add_10 rfl ?_
  refine lv_ladd hx hb dX7_add_11 ?_
  refine pt_m0_15 hx hb hts iX7_add_X7 hown hB.1 hC hS hG.2.1 qX7_add_w1 dX7_add_12 (fun H locs hC hS => ?_)
  exact m_retv hx hb hr hG hC hS mEq_rf hlocks dX7_add_15
def fX7_readyNow_L25 (na nb nc nd T : Nat) (g : Md) (x : Int32) (wm : Int32) : Nat → Nat → Int32 → Int32
  | 0, k, a1 => (-1)
  | n + 1, k, a1 => if a1 < 60 then (fX7_readyNow_L25 na nb nc nd T g x wm n (k + 1) (a1 + (fX7_rises na nb nc nd T g (300 + x.toNatClampNeg) wm))) else (nI k)
def fX7_readyNow (na nb nc nd T : Nat) (g : Md) (x : Int32) (wm : Int32) : Int32 := if (g (300 + x.toNatClampNeg) 0) = 0 then ((-1)) else (fX7_readyNow_L25 na nb nc nd T g x wm (201) 0 (g (300 + x.toNatClampNeg) 3))
theorem qX7_readyNow_w1 : Cond.fieldLink RX7 21 "CherryStationModel" "tanks" "[[I" ∈ wsX7_readyNow := List.mem_of_getElem? (i := 1) rfl
theorem iX7_readyNow_X7 : ∀ w ∈ wsX70, w ∈ wsX7_readyNow := fun _ h => (List.mem_cons_of_mem _ (List.mem_append_right _ h))
set_option maxRecDepth 100000 in
set_option maxHeartbeats 4000000 in
theorem kX7_readyNow_L25 (l : Launch) (D : va_G) (cy : Nat → ClassId) (e0 : Nat) {bd w bd1 w1 : Nat → Nat → Nat} (g : Md) (S : Int64) (x : Int32) (wm : Int32) (h3 : vp_in x 3) (c0 s0 : Nat) (hc0 : c0 + 0 ≤ 0) (hs0 : s0 + 0 ≤ 0) {RV : Int32} {g2 : Md} (hq : mEq w g g2) {p : Program} {e : Env} {s : State} {m : MethodId} {below : List Frame} {meth : Method} {c : Code} (hx : p.tables.exec = Jvm.exec) (hb : c.code = cX7_readyNow) (hr : meth.sig.returnType = (some .int)) (hml : c.maxLocals = 5) (hts : ∀ w ∈ wsX7_readyNow, w.before [.ref (bd 0 0), .int x, .int wm].toArray s = true) (hown : s.vm.findClass RX7 = some m.cls) (hlocks : meth.locks = false) (hB : MB D cy e0 bd w s) (hG : mG e0 bd w s.heap.size bd1 w1) : ∀ (n k : Nat) (a1 : Int32) (hn : k + n = 201)  (hF : RV = fX7_readyNow_L25 (w1 0 0) (w1 0 1) (w1 0 2) (w1 0 3) (w1 0 4) g x wm n k a1) (H : Heap) (locs : List Loc) (ls : Array Slot) (hC : MW D cy bd1 w1 g S H) (hS : va_S (mA bd w s.heap.size) s.heap H locs) (hl : lv_has ls 5 [(4, .int (nI k)), (3, .int a1), (0, .ref (bd1 0 0)), (1, .int x), (2, .int wm)]), W p l e ({ frames := 1, cells := 0, slots := 0, locals := 21 } : Room) s m [.ref (bd 0 0), .int x, .int wm].toArray below meth c H locs c0 s0 (MQ below (mQi D cy bd w RV g2 S s.heap.size) [.ref (bd 0 0), .int x, .int wm].toArray s 0 0 (mA bd w s.heap.size)) (F0 m 25 ls []) := by
  intro n
  induction n with
  | zero =>
    intro k a1 hn hF H locs ls hC hS hl
    have hk1 : k = 201 := by omega
    have hk9 : 200 < (nI k) := nI_lt (a := 200) (by omega) (by omega)
    have hw0 : wB w1 := hC.1
    refine lv_iload hx hb dX7_readyNow_25 (lv_at hl 0 rfl) ?_
    refine lv_sipush (v := 200) hx hb dX7_readyNow_27 (by decide) ?_
    refine lv_icmp_gt (tgt := 61) hx hb dX7_readyNow_30 (by decide) (fun _ => ?_) (fun c => absurd hk9 c)
    refine lv_iconst (v := (-1)) hx hb dX7_readyNow_61 (by decide) ?_
    refine W.widen (k := 0) (n := 0) (by omega) (by omega) ?_
    exact m_reti hx hb hr hG hC hS hq (hF.trans (by rw [fX7_readyNow_L25])) hlocks dX7_readyNow_62
  | succ n ih =>
    intro k a1 hn hF H locs ls hC hS hl
    have hk1 : k < 201 := by omega
    have hkb : 201 ≤ 201 := Nat.le_refl _
    have hk9 : ¬ 200 < (nI k) := nI_nlt (a := 200) (by omega) (by omega)
    have hw0 : wB w1 := hC.1
    refine lv_iload hx hb dX7_readyNow_25 (lv_at hl 0 rfl) ?_
    refine lv_sipush (v := 200) hx hb dX7_readyNow_27 (by decide) ?_
    refine lv_icmp_gt (tgt := 61) hx hb dX7_readyNow_30 (by decide) (fun c => absurd c hk9) (fun _ => ?_)
    refine lv_iload_n hx hb dX7_readyNow_33 rfl (lv_at hl 1 rfl) ?_
    refine lv_bipush (v := 60) hx hb dX7_readyNow_34 (by decide) ?_
    refine lv_icmp_lt (tgt := 42) hx hb dX7_readyNow_36 (by decide) (fun c2 => ?_) (fun c2 => ?_)
    · skip
      refine lv_iload_n hx hb dX7_readyNow_42 rfl (lv_at hl 1 rfl) ?_
      refine lv_aload_n hx hb dX7_readyNow_43 rfl (lv_at hl 2 rfl) ?_
      refine gt_m0_3 hx hb hts iX7_readyNow_X7 hown hB.1 hC qX7_readyNow_w1 dX7_readyNow_44 ?_
      refine lv_iload_n hx hb dX7_readyNow_47 rfl (lv_at hl 3 rfl) ?_
      refine la_m4 hx hb hB.1 hC (k := x.toNatClampNeg) rfl h3 dX7_readyNow_48 ?_
      refine lv_iload_n hx hb dX7_readyNow_49 rfl (lv_at hl 4 rfl) ?_
      refine m_callSi (As := [.ref (bd1 3 (300 + x.toNatClampNeg)), .int wm])  ⟨hx, hb, hml, hown, hts⟩ (kX7_rises l D cy e0 (bd := bd1) (w := w1) g S _ (300 + x.toNatClampNeg) (rV_300 (vp_lt h3)) (rl_300 (vp_lt h3)) wm ) (va_cwS 2 hts gX7_readyNow_X7_rises rfl rfl rfl (by decide +kernel) ⟨Nat.le_of_ble_eq_true rfl, Nat.le_of_ble_eq_true rfl⟩) hB hG hC hS rfl hl.1 (Nat.le_of_ble_eq_true rfl) dX7_readyNow_50 ⟨by dsimp only; omega, by dsimp only; omega⟩ (fun H locs hC hS => ?_)
      refine lv_iadd hx hb dX7_readyNow_53 ?_
      refine lv_istore_n (lv' := [(3, .int (a1 + (fX7_rises (w1 0 0) (w1 0 1) (w1 0 2) (w1 0 3) (w1 0 4) g (300 + x.toNatClampNeg) wm))), (4, .int (nI k)), (0, .ref (bd1 0 0)), (1, .int x), (2, .int wm)]) hx hb dX7_readyNow_54 rfl hl (by decide) rfl (fun ls hl => ?_)
      refine lv_iinc (v := nI (k + 1)) (lv' := [(4, .int (nI (k + 1))), (3, .int (a1 + (fX7_rises (w1 0 0) (w1 0 1) (w1 0 2) (w1 0 3) (w1 0 4) g (300 + x.toNatClampNeg) wm))), (0, .ref (bd1 0 0)), (1, .int x), (2, .int wm)]) hx hb dX7_readyNow_55 hl (k := 1) rfl (nI_1 _) (by decide) rfl (fun ls hl => ?_)
      refine lv_goto (tgt := 25) hx hb dX7_readyNow_58 (by decide) ?_
      have e9 : fX7_readyNow_L25 (w1 0 0) (w1 0 1) (w1 0 2) (w1 0 3) (w1 0 4) g x wm (n + 1) k a1 = fX7_readyNow_L25 (w1 0 0) (w1 0 1) (w1 0 2) (w1 0 3) (w1 0 4) g x wm n (k + 1) (a1 + (fX7_rises (w1 0 0) (w1 0 1) (w1 0 2) (w1 0 3) (w1 0 4) g (300 + x.toNatClampNeg) wm)) := by rw [fX7_readyNow_L25, if_pos c2]
      exact ih (k + 1) (a1 + (fX7_rises (w1 0 0) (w1 0 1) (w1 0 2) (w1 0 3) (w1 0 4) g (300 + x.toNatClampNeg) wm)) (by omega)  (hF.trans e9) H locs ls hC hS (lv_sub hl [0, 1, 2, 3, 4] rfl)
    · skip
      refine lv_iload hx hb dX7_readyNow_39 (lv_at hl 0 rfl) ?_
      refine W.widen (k := 0) (n := 0) (by omega) (by omega) ?_
      exact m_reti hx hb hr hG hC hS hq (hF.trans (by rw [fX7_readyNow_L25, if_neg c2])) hlocks dX7_readyNow_41
set_option maxRecDepth 100000 in
set_option maxHeartbeats 4000000 in
theorem kX7_readyNow (l : Launch) (D : va_G) (cy : Nat → ClassId) (e0 : Nat) {bd w : Nat → Nat → Nat} (g : Md) (S : Int64) (sz : Nat) (x : Int32) (wm : Int32) (h3 : vp_in x 3) : Met l yX7_readyNow wsX7_readyNow ({ frames := 1, cells := 0, slots := 0, locals := 21 } : Room) (va_Pc [.ref (bd 0 0), .int x, .int wm] (mPre D cy e0 bd w g S sz)) (mQi D cy bd w (fX7_readyNow (w 0 0) (w 0 1) (w 0 2) (w 0 3) (w 0 4) g x wm) g S sz) 0 0 (mA bd w sz) := by
  refine q_start (cc := cX7_readyNow) (maxL := 5) (ret := (some .int)) (own := RX7) (by decide) rfl rfl (Nat.le_of_ble_eq_true rfl) ?_
  intro p e s m below meth c hx hb hr hml hts hown hlocks ⟨hsz, hC, hB⟩ ls hl
  subst hsz
  have hS : va_S (mA bd w s.heap.size) s.heap s.heap [] := va_S.rf
  have hG : mG e0 bd w s.heap.size bd w := mG.rf hB.2.2.1
  have hw0 := hC.1
  have hl : lv_has ls 5 [(0, .ref (bd 0 0)), (1, .int x), (2, .int wm)] := hl
  refine lv_aload_n hx hb dX7_readyNow_0 rfl (lv_at hl 0 rfl) ?_
  refine gt_m0_3 hx hb hts iX7_readyNow_X7 hown hB.1 hC qX7_readyNow_w1 dX7_readyNow_1 ?_
  refine lv_iload_n hx hb dX7_readyNow_4 rfl (lv_at hl 1 rfl) ?_
  refine la_m4 hx hb hB.1 hC (k := x.toNatClampNeg) rfl h3 dX7_readyNow_5 ?_
  refine lv_iconst (v := 3) hx hb dX7_readyNow_6 (by decide) ?_
  refine ld_m hx hb hB.1 hC (rV_300 (vp_lt h3)) (rl_300 (vp_lt h3)) (k := 3) (by decide) (by unfold vp_in; decide) dX7_readyNow_7 ?_
  refine lv_istore_n (lv' := [(3, .int (g (300 + x.toNatClampNeg) 3)), (0, .ref (bd 0 0)), (1, .int x), (2, .int wm)]) hx hb dX7_readyNow_8 rfl hl (by decide) rfl (fun ls hl => ?_)
  refine lv_aload_n hx hb dX7_readyNow_9 rfl (lv_at hl 1 rfl) ?_
  refine gt_m0_3 hx hb hts iX7_readyNow_X7 hown hB.1 hC qX7_readyNow_w1 dX7_readyNow_10 ?_
  refine lv_iload_n hx hb dX7_readyNow_13 rfl (lv_at hl 2 rfl) ?_
  refine la_m4 hx hb hB.1 hC (k := x.toNatClampNeg) rfl h3 dX7_readyNow_14 ?_
  refine lv_iconst (v := 0) hx hb dX7_readyNow_15 (by decide) ?_
  refine ld_m hx hb hB.1 hC (rV_300 (vp_lt h3)) (rl_300 (vp_lt h3)) (k := 0) (by decide) (by unfold vp_in; decide) dX7_readyNow_16 ?_
  refine lv_if_ne (tgt := 22) hx hb dX7_readyNow_17 (by decide) (fun c1 => ?_) (fun c1 => ?_)
  · skip
    refine lv_iconst (v := 0) hx hb dX7_readyNow_22 (by decide) ?_
    refine lv_istore (lv' := [(4, .int 0), (3, .int (g (300 + x.toNatClampNeg) 3)), (0, .ref (bd 0 0)), (1, .int x), (2, .int wm)]) hx hb dX7_readyNow_23 hl (by decide) rfl (fun ls hl => ?_)
    have e8 : fX7_readyNow (w 0 0) (w 0 1) (w 0 2) (w 0 3) (w 0 4) g x wm = fX7_readyNow_L25 (w 0 0) (w 0 1) (w 0 2) (w 0 3) (w 0 4) g x wm (201) 0 (g (300 + x.toNatClampNeg) 3) := (by unfold fX7_readyNow; rw [if_neg c1])
    exact kX7_readyNow_L25 l D cy e0 (bd := bd) (w := w) (bd1 := bd) (w1 := w) g S x wm h3 _ _ (Nat.le_of_ble_eq_true rfl) (Nat.le_of_ble_eq_true rfl) mEq_rf hx hb hr hml hts hown hlocks hB hG (201) 0 (g (300 + x.toNatClampNeg) 3) (by omega)  e8 _ _ ls hC hS (lv_sub hl [0, 1, 2, 3, 4] rfl)
  · skip
    refine lv_iconst (v := (-1)) hx hb dX7_readyNow_20 (by decide) ?_
    exact m_reti hx hb hr hG hC hS mEq_rf (by unfold fX7_readyNow; rw [if_pos c1]) hlocks dX7_readyNow_21
def fX7_readyIn (na nb nc nd T : Nat) (g : Md) (x : Int32) (wm : Int32) : Int32 × Md := if (fX7_isTank x) = 0 then (((fX7_refuse na nb nc nd T (u2 g 0 20 0) 1).1, (fX7_refuse na nb nc nd T (u2 g 0 20 0) 1).2)) else (if (fX7_isWarmth wm) = 0 then (((fX7_refuse na nb nc nd T (u2 g 0 20 0) 2).1, (fX7_refuse na nb nc nd T (u2 g 0 20 0) 2).2)) else ((fX7_readyNow na nb nc nd T (u2 g 0 20 0) x wm, (u2 g 0 20 0))))
theorem qX7_readyIn_w1 : Cond.fieldLink RX7 41 "CherryStationModel" "thrown" "I" ∈ wsX7_readyIn := List.mem_of_getElem? (i := 1) rfl
theorem iX7_readyIn_X7 : ∀ w ∈ wsX70, w ∈ wsX7_readyIn := fun _ h => (List.mem_cons_of_mem _ (List.mem_append_right _ h))
set_option maxRecDepth 100000 in
set_option maxHeartbeats 4000000 in
theorem kX7_readyIn (l : Launch) (D : va_G) (cy : Nat → ClassId) (e0 : Nat) {bd w : Nat → Nat → Nat} (g : Md) (S : Int64) (sz : Nat) (x : Int32) (wm : Int32) (hp1 : ¬ ((fX7_isTank x) = 0) → ¬ ((fX7_isWarmth wm) = 0) → (vp_in x 3)) : Met l yX7_readyIn wsX7_readyIn ({ frames := 2, cells := 0, slots := 0, locals := 45 } : Room) (va_Pc [.ref (bd 0 0), .int x, .int wm] (mPre D cy e0 bd w g S sz)) (mQi D cy bd w (fX7_readyIn (w 0 0) (w 0 1) (w 0 2) (w 0 3) (w 0 4) g x wm).1 (fX7_readyIn (w 0 0) (w 0 1) (w 0 2) (w 0 3) (w 0 4) g x wm).2 S sz) 0 0 (mA bd w sz) := by
  refine q_start (cc := cX7_readyIn) (maxL := 3) (ret := (some .int)) (own := RX7) (by decide) rfl rfl (Nat.le_of_ble_eq_true rfl) ?_
  intro p e s m below meth c hx hb hr hml hts hown hlocks ⟨hsz, hC, hB⟩ ls hl
  subst hsz
  have hS : va_S (mA bd w s.heap.size) s.heap s.heap [] := va_S.rf
  have hG : mG e0 bd w s.heap.size bd w := mG.rf hB.2.2.1
  have hw0 := hC.1
  have hl : lv_has ls 3 [(0, .ref (bd 0 0)), (1, .int x), (2, .int wm)] := hl
  refine lv_aload_n hx hb dX7_readyIn_0 rfl (lv_at hl 0 rfl) ?_
  refine lv_iconst (v := 0) hx hb dX7_readyIn_1 (by decide) ?_
  refine pt_m0_0 hx hb hts iX7_readyIn_X7 hown hB.1 hC hS hG.2.1 qX7_readyIn_w1 dX7_readyIn_2 (fun H locs hC hS => ?_)
  refine lv_iload_n hx hb dX7_readyIn_5 rfl (lv_at hl 1 rfl) ?_
  refine m_callSi (As := [.int x])  ⟨hx, hb, hml, hown, hts⟩ (kX7_isTank l D cy e0 (bd := bd) (w := w) (u2 g 0 20 0) S _ x ) (va_cwS 1 hts gX7_readyIn_X7_isTank rfl rfl rfl (by decide +kernel) ⟨Nat.le_of_ble_eq_true rfl, Nat.le_of_ble_eq_true rfl⟩) hB hG hC hS rfl hl.1 (Nat.le_of_ble_eq_true rfl) dX7_readyIn_6 ⟨Nat.le_of_ble_eq_true rfl, Nat.le_of_ble_eq_true rfl⟩ (fun H locs hC hS => ?_)
  refine lv_if_ne (tgt := 18) hx hb dX7_readyIn_9 (by decide) (fun c1 => ?_) (fun c1 => ?_)
  · skip
    refine lv_iload_n hx hb dX7_readyIn_18 rfl (lv_at hl 2 rfl) ?_
    refine m_callSi (As := [.int wm])  ⟨hx, hb, hml, hown, hts⟩ (kX7_isWarmth l D cy e0 (bd := bd) (w := w) (u2 g 0 20 0) S _ wm ) (va_cwS 1 hts gX7_readyIn_X7_isWarmth rfl rfl rfl (by decide +kernel) ⟨Nat.le_of_ble_eq_true rfl, Nat.le_of_ble_eq_true rfl⟩) hB hG hC hS rfl hl.1 (Nat.le_of_ble_eq_true rfl) dX7_readyIn_19 ⟨Nat.le_of_ble_eq_true rfl, Nat.le_of_ble_eq_true rfl⟩ (fun H locs hC hS => ?_)
    refine lv_if_eq (tgt := 34) hx hb dX7_readyIn_22 (by decide) (fun c2 => ?_) (fun c2 => ?_)
    · skip
      refine lv_aload_n hx hb dX7_readyIn_34 rfl (lv_at hl 0 rfl) ?_
      refine lv_iconst (v := 2) hx hb dX7_readyIn_35 (by decide) ?_
      refine m_callVi (As := [.int 2]) (κ := 0) (i := 0) rfl rfl ⟨_, rfl⟩ rfl ⟨hx, hb, hml, hown, hts⟩ (kX7_refuse l D cy e0 (bd := bd) (w := w) (u2 g 0 20 0) S _ 2 ) (cwV 1 hts gX7_readyIn_X7_refuse rfl rfl rfl (by decide +kernel) ⟨Nat.le_of_ble_eq_true rfl, Nat.le_of_ble_eq_true rfl⟩) hB hG hC hS rfl hl.1 (Nat.le_of_ble_eq_true rfl) dX7_readyIn_36 ⟨Nat.le_of_ble_eq_true rfl, Nat.le_of_ble_eq_true rfl⟩ (fun H locs hC hS => ?_)
      have e9 : fX7_readyIn (w 0 0) (w 0 1) (w 0 2) (w 0 3) (w 0 4) g x wm = ((fX7_refuse (w 0 0) (w 0 1) (w 0 2) (w 0 3) (w 0 4) (u2 g 0 20 0) 2).1, (fX7_refuse (w 0 0) (w 0 1) (w 0 2) (w 0 3) (w 0 4) (u2 g 0 20 0) 2).2) := (by unfold fX7_readyIn; rw [if_neg c1, if_pos c2])
      exact m_reti hx hb hr hG hC hS (mEq_of (by rw [e9])) (by rw [e9]) hlocks dX7_readyIn_39
    · skip
      refine lv_aload_n hx hb dX7_readyIn_25 rfl (lv_at hl 0 rfl) ?_
      refine lv_iload_n hx hb dX7_readyIn_26 rfl (lv_at hl 1 rfl) ?_
      refine lv_iload_n hx hb dX7_readyIn_27 rfl (lv_at hl 2 rfl) ?_
      refine m_callVi (As := [.int x, .int wm]) (κ := 0) (i := 0) rfl rfl ⟨_, rfl⟩ rfl ⟨hx, hb, hml, hown, hts⟩ (kX7_readyNow l D cy e0 (bd := bd) (w := w) (u2 g 0 20 0) S _ x wm (hp1 c1 c2)) (cwV 2 hts gX7_readyIn_X7_readyNow rfl rfl rfl (by decide +kernel) ⟨Nat.le_of_ble_eq_true rfl, Nat.le_of_ble_eq_true rfl⟩) hB hG hC hS rfl hl.1 (Nat.le_of_ble_eq_true rfl) dX7_readyIn_28 ⟨Nat.le_of_ble_eq_true rfl, Nat.le_of_ble_eq_true rfl⟩ (fun H locs hC hS => ?_)
      refine lv_goto (tgt := 39) hx hb dX7_readyIn_31 (by decide) ?_
      have e9 : fX7_readyIn (w 0 0) (w 0 1) (w 0 2) (w 0 3) (w 0 4) g x wm = (fX7_readyNow (w 0 0) (w 0 1) (w 0 2) (w 0 3) (w 0 4) (u2 g 0 20 0) x wm, (u2 g 0 20 0)) := (by unfold fX7_readyIn; rw [if_neg c1, if_neg c2])
      exact m_reti hx hb hr hG hC hS (mEq_of (by rw [e9])) (by rw [e9]) hlocks dX7_readyIn_39
  · skip
    refine lv_aload_n hx hb dX7_readyIn_12 rfl (lv_at hl 0 rfl) ?_
    refine lv_iconst (v := 1) hx hb dX7_readyIn_13 (by decide) ?_
    refine m_callVi (As := [.int 1]) (κ := 0) (i := 0) rfl rfl ⟨_, rfl⟩ rfl ⟨hx, hb, hml, hown, hts⟩ (kX7_refuse l D cy e0 (bd := bd) (w := w) (u2 g 0 20 0) S _ 1 ) (cwV 1 hts gX7_readyIn_X7_refuse rfl rfl rfl (by decide +kernel) ⟨Nat.le_of_ble_eq_true rfl, Nat.le_of_ble_eq_true rfl⟩) hB hG hC hS rfl hl.1 (Nat.le_of_ble_eq_true rfl) dX7_readyIn_14 ⟨Nat.le_of_ble_eq_true rfl, Nat.le_of_ble_eq_true rfl⟩ (fun H locs hC hS => ?_)
    have e9 : fX7_readyIn (w 0 0) (w 0 1) (w 0 2) (w 0 3) (w 0 4) g x wm = ((fX7_refuse (w 0 0) (w 0 1) (w 0 2) (w 0 3) (w 0 4) (u2 g 0 20 0) 1).1, (fX7_refuse (w 0 0) (w 0 1) (w 0 2) (w 0 3) (w 0 4) (u2 g 0 20 0) 1).2) := (by unfold fX7_readyIn; rw [if_pos c1])
    exact m_reti hx hb hr hG hC hS (mEq_of (by rw [e9])) (by rw [e9]) hlocks dX7_readyIn_17
