def fX7_manyNow_L10 (na nb nc nd T : Nat) (g : Md) (u : Int32) : Nat → Nat → Int32 → Int32
  | 0, k, a1 => a1
  | n + 1, k, a1 => if (g (200 + k) 3) = 0 then (fX7_manyNow_L10 na nb nc nd T g u n (k + 1) (a1 + (g (200 + k) 1))) else (fX7_manyNow_L10 na nb nc nd T g u n (k + 1) (a1 + 0))
def fX7_manyNow_L106 (na nb nc nd T : Nat) (g : Md) (u : Int32) (v3 : Int32) (v2 : Int32) : Nat → Nat → Int32 → Int32
  | 0, k, a1 => a1
  | n + 1, k, a1 => fX7_manyNow_L106 na nb nc nd T g u v3 v2 n (k + 1) (a1 + (g (303 + k) 0))
def fX7_manyNow_L155 (na nb nc nd T : Nat) (g : Md) (u : Int32) (v4 : Int32) (v3 : Int32) (v2 : Int32) : Nat → Nat → Int32 → Int32 → Int32 × Int32
  | 0, k, a1, a2 => (a1, a2)
  | n + 1, k, a1, a2 => if (fX7_isIn na nb nc nd T g (308 + k)) = 0 then (fX7_manyNow_L155 na nb nc nd T g u v4 v3 v2 n (k + 1) (a1 + (g (308 + k) 10)) (a2 + 0)) else (fX7_manyNow_L155 na nb nc nd T g u v4 v3 v2 n (k + 1) (a1 + (g (308 + k) 10)) (a2 + (g (308 + k) 0)))
def fX7_manyNow_L223 (na nb nc nd T : Nat) (g : Md) (u : Int32) (v6 : Int32) (v5 : Int32) (v4 : Int32) (v3 : Int32) (v2 : Int32) : Nat → Nat → Int32 → Int32
  | 0, k, a1 => a1
  | n + 1, k, a1 => fX7_manyNow_L223 na nb nc nd T g u v6 v5 v4 v3 v2 n (k + 1) (a1 + (g (100 + k) 2))
def fX7_manyNow (na nb nc nd T : Nat) (g : Md) (u : Int32) : Int32 := (u2 (u2 (u2 (u2 (u2 (u2 (u2 (u2 (u2 (u2 (u2 (u2 (u2 (u2 (u2 (u2 (rz g (400 + T) (fun _ => 0)) (400 + T) 0 (g 0 0)) (400 + T) 1 (nI na)) (400 + T) 2 (nI nb)) (400 + T) 3 (nI nc)) (400 + T) 4 (nI nd)) (400 + T) 5 ((fX7_manyNow_L155 na nb nc nd T g u (fX7_manyNow_L106 na nb nc nd T g u (((0 + (g 300 0)) + (g 301 0)) + (g 302 0)) (fX7_manyNow_L10 na nb nc nd T g u nb 0 0) nc 0 0) (((0 + (g 300 0)) + (g 301 0)) + (g 302 0)) (fX7_manyNow_L10 na nb nc nd T g u nb 0 0) nd 0 0 0).1)) (400 + T) 6 (g 0 1)) (400 + T) 7 (g 0 3)) (400 + T) 8 (fX7_manyNow_L10 na nb nc nd T g u nb 0 0)) (400 + T) 9 (((0 + (g 300 0)) + (g 301 0)) + (g 302 0))) (400 + T) 10 (fX7_manyNow_L106 na nb nc nd T g u (((0 + (g 300 0)) + (g 301 0)) + (g 302 0)) (fX7_manyNow_L10 na nb nc nd T g u nb 0 0) nc 0 0)) (400 + T) 11 ((fX7_manyNow_L155 na nb nc nd T g u (fX7_manyNow_L106 na nb nc nd T g u (((0 + (g 300 0)) + (g 301 0)) + (g 302 0)) (fX7_manyNow_L10 na nb nc nd T g u nb 0 0) nc 0 0) (((0 + (g 300 0)) + (g 301 0)) + (g 302 0)) (fX7_manyNow_L10 na nb nc nd T g u nb 0 0) nd 0 0 0).2)) (400 + T) 12 (g 0 4)) (400 + T) 13 (g 0 5)) (400 + T) 14 (g 0 6)) (400 + T) 15 (fX7_manyNow_L223 na nb nc nd T g u ((fX7_manyNow_L155 na nb nc nd T g u (fX7_manyNow_L106 na nb nc nd T g u (((0 + (g 300 0)) + (g 301 0)) + (g 302 0)) (fX7_manyNow_L10 na nb nc nd T g u nb 0 0) nc 0 0) (((0 + (g 300 0)) + (g 301 0)) + (g 302 0)) (fX7_manyNow_L10 na nb nc nd T g u nb 0 0) nd 0 0 0).2) ((fX7_manyNow_L155 na nb nc nd T g u (fX7_manyNow_L106 na nb nc nd T g u (((0 + (g 300 0)) + (g 301 0)) + (g 302 0)) (fX7_manyNow_L10 na nb nc nd T g u nb 0 0) nc 0 0) (((0 + (g 300 0)) + (g 301 0)) + (g 302 0)) (fX7_manyNow_L10 na nb nc nd T g u nb 0 0) nd 0 0 0).1) (fX7_manyNow_L106 na nb nc nd T g u (((0 + (g 300 0)) + (g 301 0)) + (g 302 0)) (fX7_manyNow_L10 na nb nc nd T g u nb 0 0) nc 0 0) (((0 + (g 300 0)) + (g 301 0)) + (g 302 0)) (fX7_manyNow_L10 na nb nc nd T g u nb 0 0) na 0 0)) (400 + T) u.toNatClampNeg
theorem qX7_manyNow_w1 : Cond.fieldLink RX7 16 "CherryStationModel" "baskets" "Ljava/util/ArrayList;" ∈ wsX7_manyNow := List.mem_of_getElem? (i := 1) rfl
theorem qX7_manyNow_w2 : Cond.classLink RX7 72 "[I" ∈ wsX7_manyNow := List.mem_of_getElem? (i := 2) rfl
theorem qX7_manyNow_w3 : Cond.fieldLink RX7 21 "CherryStationModel" "tanks" "[[I" ∈ wsX7_manyNow := List.mem_of_getElem? (i := 3) rfl
theorem qX7_manyNow_w4 : Cond.fieldLink RX7 24 "CherryStationModel" "beds" "Ljava/util/ArrayList;" ∈ wsX7_manyNow := List.mem_of_getElem? (i := 4) rfl
theorem qX7_manyNow_w5 : Cond.fieldLink RX7 27 "CherryStationModel" "lots" "Ljava/util/ArrayList;" ∈ wsX7_manyNow := List.mem_of_getElem? (i := 5) rfl
theorem qX7_manyNow_w6 : Cond.fieldLink RX7 12 "CherryStationModel" "farms" "Ljava/util/ArrayList;" ∈ wsX7_manyNow := List.mem_of_getElem? (i := 6) rfl
theorem qX7_manyNow_w7 : Cond.arrayClass .int ∈ wsX7_manyNow := List.mem_of_getElem? (i := 7) rfl
theorem qX7_manyNow_w8 : Cond.fieldLink RX7 73 "CherryStationModel" "hour" "I" ∈ wsX7_manyNow := List.mem_of_getElem? (i := 8) rfl
theorem qX7_manyNow_w9 : Cond.fieldLink RX7 79 "CherryStationModel" "money" "I" ∈ wsX7_manyNow := List.mem_of_getElem? (i := 9) rfl
theorem qX7_manyNow_w10 : Cond.fieldLink RX7 76 "CherryStationModel" "floaters" "I" ∈ wsX7_manyNow := List.mem_of_getElem? (i := 10) rfl
theorem qX7_manyNow_w11 : Cond.fieldLink RX7 214 "CherryStationModel" "sold" "I" ∈ wsX7_manyNow := List.mem_of_getElem? (i := 11) rfl
theorem qX7_manyNow_w12 : Cond.fieldLink RX7 106 "CherryStationModel" "lost" "I" ∈ wsX7_manyNow := List.mem_of_getElem? (i := 12) rfl
theorem qX7_manyNow_w13 : Cond.fieldLink RX7 150 "CherryStationModel" "water" "I" ∈ wsX7_manyNow := List.mem_of_getElem? (i := 13) rfl
theorem iX7_manyNow_X7 : ∀ w ∈ wsX70, w ∈ wsX7_manyNow := fun _ h => (List.mem_cons_of_mem _ (List.mem_append_left _ (List.mem_append_left _ (List.mem_append_right _ h))))
set_option maxRecDepth 100000 in
set_option maxHeartbeats 4000000 in
theorem kX7_manyNow_L10 (l : Launch) (D : va_G) (cy : Nat → ClassId) (e0 : Nat) {bd w bd1 w1 : Nat → Nat → Nat} (g : Md) (S : Int64) (u : Int32) (c0 s0 : Nat) (hc0 : c0 + 0 ≤ 5) (hs0 : s0 + 0 ≤ 32) {p : Program} {e : Env} {s : State} {m : MethodId} {below : List Frame} {meth : Method} {c : Code} {Q : State → Prop} (hx : p.tables.exec = Jvm.exec) (hb : c.code = cX7_manyNow) (hr : meth.sig.returnType = (some .int)) (hml : c.maxLocals = 10) (hts : ∀ w ∈ wsX7_manyNow, w.before [.ref (bd 0 0), .int u].toArray s = true) (hown : s.vm.findClass RX7 = some m.cls) (hlocks : meth.locks = false) (hB : MB D cy e0 bd w s) (hG : mG e0 bd w s.heap.size bd1 w1) (hI : ∀ k, mG e0 bd w s.heap.size bd1 (wI w1 1 k)) : ∀ (n k : Nat) (a1 : Int32) (hn : k + n = w1 0 1)   (H : Heap) (locs : List Loc) (ls : Array Slot) (hC : MW D cy bd1 (wI w1 1 k) g S H) (hS : va_S (mA bd w s.heap.size) s.heap H locs) (hl : lv_has ls 10 [(3, .ref (bd1 6 (w1 0 5))), (2, .int a1), (0, .ref (bd1 0 0)), (1, .int u)]) (kk : ∀ (H : Heap) (locs : List Loc) (ls : Array Slot), MW D cy bd1 w1 g S H → va_S (mA bd w s.heap.size) s.heap H locs → lv_has ls 10 [(2, .int (fX7_manyNow_L10 (w1 0 0) (w1 0 1) (w1 0 2) (w1 0 3) (w1 0 4) g u n k a1)), (0, .ref (bd1 0 0)), (1, .int u)] → W p l e ({ frames := 3, cells := 5, slots := 32, locals := 53 } : Room) s m [.ref (bd 0 0), .int u].toArray below meth c H locs (c0) (s0) Q (F0 m 51 ls [])), W p l e ({ frames := 3, cells := 5, slots := 32, locals := 53 } : Room) s m [.ref (bd 0 0), .int u].toArray below meth c H locs c0 s0 Q (F0 m 10 ls []) := by
  intro n
  induction n with
  | zero =>
    intro k a1 hn H locs ls hC hS hl kk
    have hk1 : k = w1 0 1 := by omega
    have hkb : w1 0 1 ≤ 20 := (wNB_1 hC.1)
    have hw0 : wB w1 := hC.1
    refine lv_aload_n hx hb dX7_manyNow_10 rfl (lv_at hl 0 rfl) ?_
    refine m_callFi (As := []) (i := w1 0 5) it_v rfl ⟨hx, hb, hml, hown, hts⟩ (kJx35411_hasNext_aae02 l D cy e0 (bd := bd1) (w := w1) g S _ 1 k (by decide)) (va_cwF 0 hts gX7_manyNow_Jx35411_hasNext_aae02_f96Jx35411 rfl rfl rfl hB.2.2.2.2.1 (by decide +kernel) ⟨Nat.le_of_ble_eq_true rfl, Nat.le_of_ble_eq_true rfl⟩) hB (hI k).2 hC hS rfl hl.1 (Nat.le_of_ble_eq_true rfl) dX7_manyNow_11 ⟨by dsimp only; omega, by dsimp only; omega⟩ (fun H locs hC hS => ?_)
    refine q_val (v := 0) (if_pos (by rw [hk1])) ?_
    refine lv_if_eq (tgt := 51) hx hb dX7_manyNow_16 (by decide) (fun _ => ?_) (fun c => absurd c (by decide))
    have e9 : fX7_manyNow_L10 (w1 0 0) (w1 0 1) (w1 0 2) (w1 0 3) (w1 0 4) g u 0 k a1 = a1 := by rw [fX7_manyNow_L10]
    rw [e9] at kk
    have hC := hC.unI
    exact kk H locs ls hC hS (lv_sub hl [1, 2, 3] rfl)
  | succ n ih =>
    intro k a1 hn H locs ls hC hS hl kk
    have hk1 : k < w1 0 1 := by omega
    have hkb : w1 0 1 ≤ 20 := (wNB_1 hC.1)
    have hw0 : wB w1 := hC.1
    refine lv_aload_n hx hb dX7_manyNow_10 rfl (lv_at hl 0 rfl) ?_
    refine m_callFi (As := []) (i := w1 0 5) it_v rfl ⟨hx, hb, hml, hown, hts⟩ (kJx35411_hasNext_aae02 l D cy e0 (bd := bd1) (w := w1) g S _ 1 k (by decide)) (va_cwF 0 hts gX7_manyNow_Jx35411_hasNext_aae02_f96Jx35411 rfl rfl rfl hB.2.2.2.2.1 (by decide +kernel) ⟨Nat.le_of_ble_eq_true rfl, Nat.le_of_ble_eq_true rfl⟩) hB (hI k).2 hC hS rfl hl.1 (Nat.le_of_ble_eq_true rfl) dX7_manyNow_11 ⟨by dsimp only; omega, by dsimp only; omega⟩ (fun H locs hC hS => ?_)
    refine q_val (v := 1) (if_neg (fun h => nI_ne9 hk1 (Nat.le_trans (w0_20 (w := w1) hC.1 (show 1 < 4 by decide)) (by decide)) h)) ?_
    refine lv_if_eq (tgt := 51) hx hb dX7_manyNow_16 (by decide) (fun c => absurd c (by decide)) (fun _ => ?_)
    refine lv_aload_n hx hb dX7_manyNow_19 rfl (lv_at hl 0 rfl) ?_
    refine m_feNext (li := 1) (k := k) (by decide) ⟨hx, hb, hml, hown, hts⟩ (kJx35411_next_0502b l D cy e0 (bd := bd1) (w := w1) g S _ 1 k (by decide) hk1) (va_cwF 0 hts gX7_manyNow_Jx35411_next_0502b_f102Jx35411 rfl rfl rfl hB.2.2.2.2.2.1 (by decide +kernel) ⟨Nat.le_of_ble_eq_true rfl, Nat.le_of_ble_eq_true rfl⟩) hB (hI k).2 hC hS hl.1 (Nat.le_of_ble_eq_true rfl) dX7_manyNow_20 ⟨by dsimp only; omega, by dsimp only; omega⟩ (fun H locs hC hS => ?_)
    have hG := hI (k + 1)
    refine m_stk (st' := [.ref (bd1 3 (200 + k))]) rfl ?_
    refine m_cast hx hb hown (hts _ qX7_manyNow_w2) hB.1 hC (rV_200 hk1) dX7_manyNow_25 ?_
    refine lv_astore (lv' := [(4, .ref (bd1 3 (200 + k))), (3, .ref (bd1 6 (w1 0 5))), (2, .int a1), (0, .ref (bd1 0 0)), (1, .int u)]) hx hb dX7_manyNow_28 hl (by decide) rfl (fun ls hl => ?_)
    refine lv_iload_n hx hb dX7_manyNow_30 rfl (lv_at hl 2 rfl) ?_
    refine lv_aload hx hb dX7_manyNow_31 (lv_at hl 0 rfl) ?_
    refine lv_iconst (v := 3) hx hb dX7_manyNow_33 (by decide) ?_
    refine ld_m hx hb hB.1 hC (rV_200 hk1) (rl_200 hC.1 hk1) (k := 3) (by decide) (by unfold vp_in; decide) dX7_manyNow_34 ?_
    refine lv_if_ne (tgt := 45) hx hb dX7_manyNow_35 (by decide) (fun c2 => ?_) (fun c2 => ?_)
    · skip
      refine lv_iconst (v := 0) hx hb dX7_manyNow_45 (by decide) ?_
      refine lv_iadd hx hb dX7_manyNow_46 ?_
      refine lv_istore_n (lv' := [(2, .int (a1 + 0)), (4, .ref (bd1 3 (200 + k))), (3, .ref (bd1 6 (w1 0 5))), (0, .ref (bd1 0 0)), (1, .int u)]) hx hb dX7_manyNow_47 rfl hl (by decide) rfl (fun ls hl => ?_)
      refine lv_goto (tgt := 10) hx hb dX7_manyNow_48 (by decide) ?_
      have e9 : fX7_manyNow_L10 (w1 0 0) (w1 0 1) (w1 0 2) (w1 0 3) (w1 0 4) g u (n + 1) k a1 = fX7_manyNow_L10 (w1 0 0) (w1 0 1) (w1 0 2) (w1 0 3) (w1 0 4) g u n (k + 1) (a1 + 0) := by rw [fX7_manyNow_L10, if_neg c2]
      rw [e9] at kk
      exact ih (k + 1) (a1 + 0) (by omega)  H locs ls hC hS (lv_sub hl [2, 0, 3, 4] rfl) kk
    · skip
      refine lv_aload hx hb dX7_manyNow_38 (lv_at hl 0 rfl) ?_
      refine lv_iconst (v := 1) hx hb dX7_manyNow_40 (by decide) ?_
      refine ld_m hx hb hB.1 hC (rV_200 hk1) (rl_200 hC.1 hk1) (k := 1) (by decide) (by unfold vp_in; decide) dX7_manyNow_41 ?_
      refine lv_goto (tgt := 46) hx hb dX7_manyNow_42 (by decide) ?_
      refine lv_iadd hx hb dX7_manyNow_46 ?_
      refine lv_istore_n (lv' := [(2, .int (a1 + (g (200 + k) 1))), (4, .ref (bd1 3 (200 + k))), (3, .ref (bd1 6 (w1 0 5))), (0, .ref (bd1 0 0)), (1, .int u)]) hx hb dX7_manyNow_47 rfl hl (by decide) rfl (fun ls hl => ?_)
      refine lv_goto (tgt := 10) hx hb dX7_manyNow_48 (by decide) ?_
      have e9 : fX7_manyNow_L10 (w1 0 0) (w1 0 1) (w1 0 2) (w1 0 3) (w1 0 4) g u (n + 1) k a1 = fX7_manyNow_L10 (w1 0 0) (w1 0 1) (w1 0 2) (w1 0 3) (w1 0 4) g u n (k + 1) (a1 + (g (200 + k) 1)) := by rw [fX7_manyNow_L10, if_pos c2]
      rw [e9] at kk
      exact ih (k + 1) (a1 + (g (200 + k) 1)) (by omega)  H locs ls hC hS (lv_sub hl [2, 0, 3, 4] rfl) kk
set_option maxRecDepth 100000 in
set_option maxHeartbeats 4000000 in
theorem kX7_manyNow_L106 (l : Launch) (D : va_G) (cy : Nat → ClassId) (e0 : Nat) {bd w bd1 w1 : Nat → Nat → Nat} (g : Md) (S : Int64) (u : Int32) (v3 : Int32) (v2 : Int32) (c0 s0 : Nat) (hc0 : c0 + 0 ≤ 5) (hs0 : s0 + 0 ≤ 32) {p : Program} {e : Env} {s : State} {m : MethodId} {below : List Frame} {meth : Method} {c : Code} {Q : State → Prop} (hx : p.tables.exec = Jvm.exec) (hb : c.code = cX7_manyNow) (hr : meth.sig.returnType = (some .int)) (hml : c.maxLocals = 10) (hts : ∀ w ∈ wsX7_manyNow, w.before [.ref (bd 0 0), .int u].toArray s = true) (hown : s.vm.findClass RX7 = some m.cls) (hlocks : meth.locks = false) (hB : MB D cy e0 bd w s) (hG : mG e0 bd w s.heap.size bd1 w1) (hI : ∀ k, mG e0 bd w s.heap.size bd1 (wI w1 2 k)) : ∀ (n k : Nat) (a1 : Int32) (hn : k + n = w1 0 2)   (H : Heap) (locs : List Loc) (ls : Array Slot) (hC : MW D cy bd1 (wI w1 2 k) g S H) (hS : va_S (mA bd w s.heap.size) s.heap H locs) (hl : lv_has ls 10 [(5, .ref (bd1 6 (w1 0 5))), (4, .int a1), (3, .int v3), (7, .ref (bd1 3 302)), (2, .int v2), (0, .ref (bd1 0 0)), (1, .int u)]) (kk : ∀ (H : Heap) (locs : List Loc) (ls : Array Slot), MW D cy bd1 w1 g S H → va_S (mA bd w s.heap.size) s.heap H locs → lv_has ls 10 [(4, .int (fX7_manyNow_L106 (w1 0 0) (w1 0 1) (w1 0 2) (w1 0 3) (w1 0 4) g u v3 v2 n k a1)), (3, .int v3), (7, .ref (bd1 3 302)), (2, .int v2), (0, .ref (bd1 0 0)), (1, .int u)] → W p l e ({ frames := 3, cells := 5, slots := 32, locals := 53 } : Room) s m [.ref (bd 0 0), .int u].toArray below meth c H locs (c0) (s0) Q (F0 m 140 ls [])), W p l e ({ frames := 3, cells := 5, slots := 32, locals := 53 } : Room) s m [.ref (bd 0 0), .int u].toArray below meth c H locs c0 s0 Q (F0 m 106 ls []) := by
  intro n
  induction n with
  | zero =>
    intro k a1 hn H locs ls hC hS hl kk
    have hk1 : k = w1 0 2 := by omega
    have hkb : w1 0 2 ≤ 5 := (wNB_2 hC.1)
    have hw0 : wB w1 := hC.1
    refine lv_aload hx hb dX7_manyNow_106 (lv_at hl 0 rfl) ?_
    refine m_callFi (As := []) (i := w1 0 5) it_v rfl ⟨hx, hb, hml, hown, hts⟩ (kJx35411_hasNext_aae02 l D cy e0 (bd := bd1) (w := w1) g S _ 2 k (by decide)) (va_cwF 0 hts gX7_manyNow_Jx35411_hasNext_aae02_f96Jx35411 rfl rfl rfl hB.2.2.2.2.1 (by decide +kernel) ⟨Nat.le_of_ble_eq_true rfl, Nat.le_of_ble_eq_true rfl⟩) hB (hI k).2 hC hS rfl hl.1 (Nat.le_of_ble_eq_true rfl) dX7_manyNow_108 ⟨by dsimp only; omega, by dsimp only; omega⟩ (fun H locs hC hS => ?_)
    refine q_val (v := 0) (if_pos (by rw [hk1])) ?_
    refine lv_if_eq (tgt := 140) hx hb dX7_manyNow_113 (by decide) (fun _ => ?_) (fun c => absurd c (by decide))
    have e9 : fX7_manyNow_L106 (w1 0 0) (w1 0 1) (w1 0 2) (w1 0 3) (w1 0 4) g u v3 v2 0 k a1 = a1 := by rw [fX7_manyNow_L106]
    rw [e9] at kk
    have hC := hC.unI
    exact kk H locs ls hC hS (lv_sub hl [1, 2, 3, 4, 5, 6] rfl)
  | succ n ih =>
    intro k a1 hn H locs ls hC hS hl kk
    have hk1 : k < w1 0 2 := by omega
    have hkb : w1 0 2 ≤ 5 := (wNB_2 hC.1)
    have hw0 : wB w1 := hC.1
    refine lv_aload hx hb dX7_manyNow_106 (lv_at hl 0 rfl) ?_
    refine m_callFi (As := []) (i := w1 0 5) it_v rfl ⟨hx, hb, hml, hown, hts⟩ (kJx35411_hasNext_aae02 l D cy e0 (bd := bd1) (w := w1) g S _ 2 k (by decide)) (va_cwF 0 hts gX7_manyNow_Jx35411_hasNext_aae02_f96Jx35411 rfl rfl rfl hB.2.2.2.2.1 (by decide +kernel) ⟨Nat.le_of_ble_eq_true rfl, Nat.le_of_ble_eq_true rfl⟩) hB (hI k).2 hC hS rfl hl.1 (Nat.le_of_ble_eq_true rfl) dX7_manyNow_108 ⟨by dsimp only; omega, by dsimp only; omega⟩ (fun H locs hC hS => ?_)
    refine q_val (v := 1) (if_neg (fun h => nI_ne9 hk1 (Nat.le_trans (w0_20 (w := w1) hC.1 (show 2 < 4 by decide)) (by decide)) h)) ?_
    refine lv_if_eq (tgt := 140) hx hb dX7_manyNow_113 (by decide) (fun c => absurd c (by decide)) (fun _ => ?_)
    refine lv_aload hx hb dX7_manyNow_116 (lv_at hl 0 rfl) ?_
    refine m_feNext (li := 2) (k := k) (by decide) ⟨hx, hb, hml, hown, hts⟩ (kJx35411_next_0502b l D cy e0 (bd := bd1) (w := w1) g S _ 2 k (by decide) hk1) (va_cwF 0 hts gX7_manyNow_Jx35411_next_0502b_f102Jx35411 rfl rfl rfl hB.2.2.2.2.2.1 (by decide +kernel) ⟨Nat.le_of_ble_eq_true rfl, Nat.le_of_ble_eq_true rfl⟩) hB (hI k).2 hC hS hl.1 (Nat.le_of_ble_eq_true rfl) dX7_manyNow_118 ⟨by dsimp only; omega, by dsimp only; omega⟩ (fun H locs hC hS => ?_)
    have hG := hI (k + 1)
    refine m_stk (st' := [.ref (bd1 3 (303 + k))]) rfl ?_
    refine m_cast hx hb hown (hts _ qX7_manyNow_w2) hB.1 hC (rV_303 hk1) dX7_manyNow_123 ?_
    refine lv_astore (lv' := [(6, .ref (bd1 3 (303 + k))), (5, .ref (bd1 6 (w1 0 5))), (4, .int a1), (3, .int v3), (7, .ref (bd1 3 302)), (2, .int v2), (0, .ref (bd1 0 0)), (1, .int u)]) hx hb dX7_manyNow_126 hl (by decide) rfl (fun ls hl => ?_)
    refine lv_iload hx hb dX7_manyNow_128 (lv_at hl 2 rfl) ?_
    refine lv_aload hx hb dX7_manyNow_130 (lv_at hl 0 rfl) ?_
    refine lv_iconst (v := 0) hx hb dX7_manyNow_132 (by decide) ?_
    refine ld_m hx hb hB.1 hC (rV_303 hk1) (rl_303 hC.1 hk1) (k := 0) (by decide) (by unfold vp_in; decide) dX7_manyNow_133 ?_
    refine lv_iadd hx hb dX7_manyNow_134 ?_
    refine lv_istore (lv' := [(4, .int (a1 + (g (303 + k) 0))), (6, .ref (bd1 3 (303 + k))), (5, .ref (bd1 6 (w1 0 5))), (3, .int v3), (7, .ref (bd1 3 302)), (2, .int v2), (0, .ref (bd1 0 0)), (1, .int u)]) hx hb dX7_manyNow_135 hl (by decide) rfl (fun ls hl => ?_)
    refine lv_goto (tgt := 106) hx hb dX7_manyNow_137 (by decide) ?_
    have e9 : fX7_manyNow_L106 (w1 0 0) (w1 0 1) (w1 0 2) (w1 0 3) (w1 0 4) g u v3 v2 (n + 1) k a1 = fX7_manyNow_L106 (w1 0 0) (w1 0 1) (w1 0 2) (w1 0 3) (w1 0 4) g u v3 v2 n (k + 1) (a1 + (g (303 + k) 0)) := by rw [fX7_manyNow_L106]
    rw [e9] at kk
    exact ih (k + 1) (a1 + (g (303 + k) 0)) (by omega)  H locs ls hC hS (lv_sub hl [2, 0, 3, 4, 5, 6, 7] rfl) kk
set_option maxRecDepth 100000 in
set_option maxHeartbeats 4000000 in
theorem kX7_manyNow_L155 (l : Launch) (D : va_G) (cy : Nat → ClassId) (e0 : Nat) {bd w bd1 w1 : Nat → Nat → Nat} (g : Md) (S : Int64) (u : Int32) (v4 : Int32) (v3 : Int32) (v2 : Int32) (c0 s0 : Nat) (hc0 : c0 + 0 ≤ 5) (hs0 : s0 + 0 ≤ 32) {p : Program} {e : Env} {s : State} {m : MethodId} {below : List Frame} {meth : Method} {c : Code} {Q : State → Prop} (hx : p.tables.exec = Jvm.exec) (hb : c.code = cX7_manyNow) (hr : meth.sig.returnType = (some .int)) (hml : c.maxLocals = 10) (hts : ∀ w ∈ wsX7_manyNow, w.before [.ref (bd 0 0), .int u].toArray s = true) (hown : s.vm.findClass RX7 = some m.cls) (hlocks : meth.locks = false) (hB : MB D cy e0 bd w s) (hG : mG e0 bd w s.heap.size bd1 w1) (hI : ∀ k, mG e0 bd w s.heap.size bd1 (wI w1 3 k)) : ∀ (n k : Nat) (a1 : Int32) (a2 : Int32) (hn : k + n = w1 0 3)   (H : Heap) (locs : List Loc) (ls : Array Slot) (hC : MW D cy bd1 (wI w1 3 k) g S H) (hS : va_S (mA bd w s.heap.size) s.heap H locs) (hl : lv_has ls 10 [(7, .ref (bd1 6 (w1 0 5))), (6, .int a2), (5, .int a1), (4, .int v4), (3, .int v3), (2, .int v2), (0, .ref (bd1 0 0)), (1, .int u)]) (kk : ∀ (H : Heap) (locs : List Loc) (ls : Array Slot), MW D cy bd1 w1 g S H → va_S (mA bd w s.heap.size) s.heap H locs → lv_has ls 10 [(6, .int ((fX7_manyNow_L155 (w1 0 0) (w1 0 1) (w1 0 2) (w1 0 3) (w1 0 4) g u v4 v3 v2 n k a1 a2).2)), (5, .int ((fX7_manyNow_L155 (w1 0 0) (w1 0 1) (w1 0 2) (w1 0 3) (w1 0 4) g u v4 v3 v2 n k a1 a2).1)), (4, .int v4), (3, .int v3), (2, .int v2), (0, .ref (bd1 0 0)), (1, .int u)] → W p l e ({ frames := 3, cells := 5, slots := 32, locals := 53 } : Room) s m [.ref (bd 0 0), .int u].toArray below meth c H locs (c0) (s0) Q (F0 m 211 ls [])), W p l e ({ frames := 3, cells := 5, slots := 32, locals := 53 } : Room) s m [.ref (bd 0 0), .int u].toArray below meth c H locs c0 s0 Q (F0 m 155 ls []) := by
  intro n
  induction n with
  | zero =>
    intro k a1 a2 hn H locs ls hC hS hl kk
    have hk1 : k = w1 0 3 := by omega
    have hkb : w1 0 3 ≤ 12 := (wNB_3 hC.1)
    have hw0 : wB w1 := hC.1
    refine lv_aload hx hb dX7_manyNow_155 (lv_at hl 0 rfl) ?_
    refine m_callFi (As := []) (i := w1 0 5) it_v rfl ⟨hx, hb, hml, hown, hts⟩ (kJx35411_hasNext_aae02 l D cy e0 (bd := bd1) (w := w1) g S _ 3 k (by decide)) (va_cwF 0 hts gX7_manyNow_Jx35411_hasNext_aae02_f96Jx35411 rfl rfl rfl hB.2.2.2.2.1 (by decide +kernel) ⟨Nat.le_of_ble_eq_true rfl, Nat.le_of_ble_eq_true rfl⟩) hB (hI k).2 hC hS rfl hl.1 (Nat.le_of_ble_eq_true rfl) dX7_manyNow_157 ⟨by dsimp only; omega, by dsimp only; omega⟩ (fun H locs hC hS => ?_)
    refine q_val (v := 0) (if_pos (by rw [hk1])) ?_
    refine lv_if_eq (tgt := 211) hx hb dX7_manyNow_162 (by decide) (fun _ => ?_) (fun c => absurd c (by decide))
    have e9 : fX7_manyNow_L155 (w1 0 0) (w1 0 1) (w1 0 2) (w1 0 3) (w1 0 4) g u v4 v3 v2 0 k a1 a2 = (a1, a2) := by rw [fX7_manyNow_L155]
    rw [e9] at kk
    have hC := hC.unI
    exact kk H locs ls hC hS (lv_sub hl [1, 2, 3, 4, 5, 6, 7] rfl)
  | succ n ih =>
    intro k a1 a2 hn H locs ls hC hS hl kk
    have hk1 : k < w1 0 3 := by omega
    have hkb : w1 0 3 ≤ 12 := (wNB_3 hC.1)
    have hw0 : wB w1 := hC.1
    refine lv_aload hx hb dX7_manyNow_155 (lv_at hl 0 rfl) ?_
    refine m_callFi (As := []) (i := w1 0 5) it_v rfl ⟨hx, hb, hml, hown, hts⟩ (kJx35411_hasNext_aae02 l D cy e0 (bd := bd1) (w := w1) g S _ 3 k (by decide)) (va_cwF 0 hts gX7_manyNow_Jx35411_hasNext_aae02_f96Jx35411 rfl rfl rfl hB.2.2.2.2.1 (by decide +kernel) ⟨Nat.le_of_ble_eq_true rfl, Nat.le_of_ble_eq_true rfl⟩) hB (hI k).2 hC hS rfl hl.1 (Nat.le_of_ble_eq_true rfl) dX7_manyNow_157 ⟨by dsimp only; omega, by dsimp only; omega⟩ (fun H locs hC hS => ?_)
    refine q_val (v := 1) (if_neg (fun h => nI_ne9 hk1 (Nat.le_trans (w0_20 (w := w1) hC.1 (show 3 < 4 by decide)) (by decide)) h)) ?_
    refine lv_if_eq (tgt := 211) hx hb dX7_manyNow_162 (by decide) (fun c => absurd c (by decide)) (fun _ => ?_)
    refine lv_aload hx hb dX7_manyNow_165 (lv_at hl 0 rfl) ?_
    refine m_feNext (li := 3) (k := k) (by decide) ⟨hx, hb, hml, hown, hts⟩ (kJx35411_next_0502b l D cy e0 (bd := bd1) (w := w1) g S _ 3 k (by decide) hk1) (va_cwF 0 hts gX7_manyNow_Jx35411_next_0502b_f102Jx35411 rfl rfl rfl hB.2.2.2.2.2.1 (by decide +kernel) ⟨Nat.le_of_ble_eq_true rfl, Nat.le_of_ble_eq_true rfl⟩) hB (hI k).2 hC hS hl.1 (Nat.le_of_ble_eq_true rfl) dX7_manyNow_167 ⟨by dsimp only; omega, by dsimp only; omega⟩ (fun H locs hC hS => ?_)
    have hG := hI (k + 1)
    refine m_stk (st' := [.ref (bd1 3 (308 + k))]) rfl ?_
    refine m_cast hx hb hown (hts _ qX7_manyNow_w2) hB.1 hC (rV_308 hk1) dX7_manyNow_172 ?_
    refine lv_astore (lv' := [(8, .ref (bd1 3 (308 + k))), (7, .ref (bd1 6 (w1 0 5))), (6, .int a2), (5, .int a1), (4, .int v4), (3, .int v3), (2, .int v2), (0, .ref (bd1 0 0)), (1, .int u)]) hx hb dX7_manyNow_175 hl (by decide) rfl (fun ls hl => ?_)
    refine lv_iload hx hb dX7_manyNow_177 (lv_at hl 3 rfl) ?_
    refine lv_aload hx hb dX7_manyNow_179 (lv_at hl 0 rfl) ?_
    refine lv_bipush (v := 10) hx hb dX7_manyNow_181 (by decide) ?_
    refine ld_m hx hb hB.1 hC (rV_308 hk1) (rl_308 hC.1 hk1) (k := 10) (by decide) (by unfold vp_in; decide) dX7_manyNow_183 ?_
    refine lv_iadd hx hb dX7_manyNow_184 ?_
    refine lv_istore (lv' := [(5, .int (a1 + (g (308 + k) 10))), (8, .ref (bd1 3 (308 + k))), (7, .ref (bd1 6 (w1 0 5))), (6, .int a2), (4, .int v4), (3, .int v3), (2, .int v2), (0, .ref (bd1 0 0)), (1, .int u)]) hx hb dX7_manyNow_185 hl (by decide) rfl (fun ls hl => ?_)
    refine lv_iload hx hb dX7_manyNow_187 (lv_at hl 3 rfl) ?_
    refine lv_aload hx hb dX7_manyNow_189 (lv_at hl 1 rfl) ?_
    refine m_callSi (As := [.ref (bd1 3 (308 + k))])  ⟨hx, hb, hml, hown, hts⟩ (kX7_isIn l D cy e0 (bd := bd1) (w := (wI w1 3 (k + 1))) g S _ (308 + k) (rV_308 hk1) (rl_308 hC.1 hk1) ) (va_cwS 1 hts gX7_manyNow_X7_isIn rfl rfl rfl (by decide +kernel) ⟨Nat.le_of_ble_eq_true rfl, Nat.le_of_ble_eq_true rfl⟩) hB hG.2 hC hS rfl hl.1 (Nat.le_of_ble_eq_true rfl) dX7_manyNow_191 ⟨by dsimp only; omega, by dsimp only; omega⟩ (fun H locs hC hS => ?_)
    refine q_val (v := fX7_isIn (w1 0 0) (w1 0 1) (w1 0 2) (w1 0 3) (w1 0 4) g (308 + k)) rfl ?_
    refine lv_if_eq (tgt := 204) hx hb dX7_manyNow_194 (by decide) (fun c5 => ?_) (fun c5 => ?_)
    · skip
      refine lv_iconst (v := 0) hx hb dX7_manyNow_204 (by decide) ?_
      refine lv_iadd hx hb dX7_manyNow_205 ?_
      refine lv_istore (lv' := [(6, .int (a2 + 0)), (5, .int (a1 + (g (308 + k) 10))), (8, .ref (bd1 3 (308 + k))), (7, .ref (bd1 6 (w1 0 5))), (4, .int v4), (3, .int v3), (2, .int v2), (0, .ref (bd1 0 0)), (1, .int u)]) hx hb dX7_manyNow_206 hl (by decide) rfl (fun ls hl => ?_)
      refine lv_goto (tgt := 155) hx hb dX7_manyNow_208 (by decide) ?_
      have e9 : fX7_manyNow_L155 (w1 0 0) (w1 0 1) (w1 0 2) (w1 0 3) (w1 0 4) g u v4 v3 v2 (n + 1) k a1 a2 = fX7_manyNow_L155 (w1 0 0) (w1 0 1) (w1 0 2) (w1 0 3) (w1 0 4) g u v4 v3 v2 n (k + 1) (a1 + (g (308 + k) 10)) (a2 + 0) := by rw [fX7_manyNow_L155, if_pos c5]
      rw [e9] at kk
      exact ih (k + 1) (a1 + (g (308 + k) 10)) (a2 + 0) (by omega)  H locs ls hC hS (lv_sub hl [3, 0, 1, 4, 5, 6, 7, 8] rfl) kk
    · skip
      refine lv_aload hx hb dX7_manyNow_197 (lv_at hl 1 rfl) ?_
      refine lv_iconst (v := 0) hx hb dX7_manyNow_199 (by decide) ?_
      refine ld_m hx hb hB.1 hC (rV_308 hk1) (rl_308 hC.1 hk1) (k := 0) (by decide) (by unfold vp_in; decide) dX7_manyNow_200 ?_
      refine lv_goto (tgt := 205) hx hb dX7_manyNow_201 (by decide) ?_
      refine lv_iadd hx hb dX7_manyNow_205 ?_
      refine lv_istore (lv' := [(6, .int (a2 + (g (308 + k) 0))), (5, .int (a1 + (g (308 + k) 10))), (8, .ref (bd1 3 (308 + k))), (7, .ref (bd1 6 (w1 0 5))), (4, .int v4), (3, .int v3), (2, .int v2), (0, .ref (bd1 0 0)), (1, .int u)]) hx hb dX7_manyNow_206 hl (by decide) rfl (fun ls hl => ?_)
      refine lv_goto (tgt := 155) hx hb dX7_manyNow_208 (by decide) ?_
      have e9 : fX7_manyNow_L155 (w1 0 0) (w1 0 1) (w1 0 2) (w1 0 3) (w1 0 4) g u v4 v3 v2 (n + 1) k a1 a2 = fX7_manyNow_L155 (w1 0 0) (w1 0 1) (w1 0 2) (w1 0 3) (w1 0 4) g u v4 v3 v2 n (k + 1) (a1 + (g (308 + k) 10)) (a2 + (g (308 + k) 0)) := by rw [fX7_manyNow_L155, if_neg c5]
      rw [e9] at kk
      exact ih (k + 1) (a1 + (g (308 + k) 10)) (a2 + (g (308 + k) 0)) (by omega)  H locs ls hC hS (lv_sub hl [3, 0, 1, 4, 5, 6, 7, 8] rfl) kk
set_option maxRecDepth 100000 in
set_option maxHeartbeats 4000000 in
theorem kX7_manyNow_L223 (l : Launch) (D : va_G) (cy : Nat → ClassId) (e0 : Nat) {bd w bd1 w1 : Nat → Nat → Nat} (g : Md) (S : Int64) (u : Int32) (v6 : Int32) (v5 : Int32) (v4 : Int32) (v3 : Int32) (v2 : Int32) (c0 s0 : Nat) (hc0 : c0 + 0 ≤ 5) (hs0 : s0 + 0 ≤ 32) {p : Program} {e : Env} {s : State} {m : MethodId} {below : List Frame} {meth : Method} {c : Code} {Q : State → Prop} (hx : p.tables.exec = Jvm.exec) (hb : c.code = cX7_manyNow) (hr : meth.sig.returnType = (some .int)) (hml : c.maxLocals = 10) (hts : ∀ w ∈ wsX7_manyNow, w.before [.ref (bd 0 0), .int u].toArray s = true) (hown : s.vm.findClass RX7 = some m.cls) (hlocks : meth.locks = false) (hB : MB D cy e0 bd w s) (hG : mG e0 bd w s.heap.size bd1 w1) (hI : ∀ k, mG e0 bd w s.heap.size bd1 (wI w1 0 k)) : ∀ (n k : Nat) (a1 : Int32) (hn : k + n = w1 0 0)   (H : Heap) (locs : List Loc) (ls : Array Slot) (hC : MW D cy bd1 (wI w1 0 k) g S H) (hS : va_S (mA bd w s.heap.size) s.heap H locs) (hl : lv_has ls 10 [(8, .ref (bd1 6 (w1 0 5))), (7, .int a1), (6, .int v6), (5, .int v5), (4, .int v4), (3, .int v3), (2, .int v2), (0, .ref (bd1 0 0)), (1, .int u)]) (kk : ∀ (H : Heap) (locs : List Loc) (ls : Array Slot), MW D cy bd1 w1 g S H → va_S (mA bd w s.heap.size) s.heap H locs → lv_has ls 10 [(7, .int (fX7_manyNow_L223 (w1 0 0) (w1 0 1) (w1 0 2) (w1 0 3) (w1 0 4) g u v6 v5 v4 v3 v2 n k a1)), (6, .int v6), (5, .int v5), (4, .int v4), (3, .int v3), (2, .int v2), (0, .ref (bd1 0 0)), (1, .int u)] → W p l e ({ frames := 3, cells := 5, slots := 32, locals := 53 } : Room) s m [.ref (bd 0 0), .int u].toArray below meth c H locs (c0) (s0) Q (F0 m 257 ls [])), W p l e ({ frames := 3, cells := 5, slots := 32, locals := 53 } : Room) s m [.ref (bd 0 0), .int u].toArray below meth c H locs c0 s0 Q (F0 m 223 ls []) := by
  intro n
  induction n with
  | zero =>
    intro k a1 hn H locs ls hC hS hl kk
    have hk1 : k = w1 0 0 := by omega
    have hkb : w1 0 0 ≤ 6 := (wNB_0 hC.1)
    have hw0 : wB w1 := hC.1
    refine lv_aload hx hb dX7_manyNow_223 (lv_at hl 0 rfl) ?_
    refine m_callFi (As := []) (i := w1 0 5) it_v rfl ⟨hx, hb, hml, hown, hts⟩ (kJx35411_hasNext_aae02 l D cy e0 (bd := bd1) (w := w1) g S _ 0 k (by decide)) (va_cwF 0 hts gX7_manyNow_Jx35411_hasNext_aae02_f96Jx35411 rfl rfl rfl hB.2.2.2.2.1 (by decide +kernel) ⟨Nat.le_of_ble_eq_true rfl, Nat.le_of_ble_eq_true rfl⟩) hB (hI k).2 hC hS rfl hl.1 (Nat.le_of_ble_eq_true rfl) dX7_manyNow_225 ⟨by dsimp only; omega, by dsimp only; omega⟩ (fun H locs hC hS => ?_)
    refine q_val (v := 0) (if_pos (by rw [hk1])) ?_
    refine lv_if_eq (tgt := 257) hx hb dX7_manyNow_230 (by decide) (fun _ => ?_) (fun c => absurd c (by decide))
    have e9 : fX7_manyNow_L223 (w1 0 0) (w1 0 1) (w1 0 2) (w1 0 3) (w1 0 4) g u v6 v5 v4 v3 v2 0 k a1 = a1 := by rw [fX7_manyNow_L223]
    rw [e9] at kk
    have hC := hC.unI
    exact kk H locs ls hC hS (lv_sub hl [1, 2, 3, 4, 5, 6, 7, 8] rfl)
  | succ n ih =>
    intro k a1 hn H locs ls hC hS hl kk
    have hk1 : k < w1 0 0 := by omega
    have hkb : w1 0 0 ≤ 6 := (wNB_0 hC.1)
    have hw0 : wB w1 := hC.1
    refine lv_aload hx hb dX7_manyNow_223 (lv_at hl 0 rfl) ?_
    refine m_callFi (As := []) (i := w1 0 5) it_v rfl ⟨hx, hb, hml, hown, hts⟩ (kJx35411_hasNext_aae02 l D cy e0 (bd := bd1) (w := w1) g S _ 0 k (by decide)) (va_cwF 0 hts gX7_manyNow_Jx35411_hasNext_aae02_f96Jx35411 rfl rfl rfl hB.2.2.2.2.1 (by decide +kernel) ⟨Nat.le_of_ble_eq_true rfl, Nat.le_of_ble_eq_true rfl⟩) hB (hI k).2 hC hS rfl hl.1 (Nat.le_of_ble_eq_true rfl) dX7_manyNow_225 ⟨by dsimp only; omega, by dsimp only; omega⟩ (fun H locs hC hS => ?_)
    refine q_val (v := 1) (if_neg (fun h => nI_ne9 hk1 (Nat.le_trans (w0_20 (w := w1) hC.1 (show 0 < 4 by decide)) (by decide)) h)) ?_
    refine lv_if_eq (tgt := 257) hx hb dX7_manyNow_230 (by decide) (fun c => absurd c (by decide)) (fun _ => ?_)
    refine lv_aload hx hb dX7_manyNow_233 (lv_at hl 0 rfl) ?_
    refine m_feNext (li := 0) (k := k) (by decide) ⟨hx, hb, hml, hown, hts⟩ (kJx35411_next_0502b l D cy e0 (bd := bd1) (w := w1) g S _ 0 k (by decide) hk1) (va_cwF 0 hts gX7_manyNow_Jx35411_next_0502b_f102Jx35411 rfl rfl rfl hB.2.2.2.2.2.1 (by decide +kernel) ⟨Nat.le_of_ble_eq_true rfl, Nat.le_of_ble_eq_true rfl⟩) hB (hI k).2 hC hS hl.1 (Nat.le_of_ble_eq_true rfl) dX7_manyNow_235 ⟨by dsimp only; omega, by dsimp only; omega⟩ (fun H locs hC hS => ?_)
    have hG := hI (k + 1)
    refine m_stk (st' := [.ref (bd1 3 (100 + k))]) rfl ?_
    refine m_cast hx hb hown (hts _ qX7_manyNow_w2) hB.1 hC (rV_100 hk1) dX7_manyNow_240 ?_
    refine lv_astore (lv' := [(9, .ref (bd1 3 (100 + k))), (8, .ref (bd1 6 (w1 0 5))), (7, .int a1), (6, .int v6), (5, .int v5), (4, .int v4), (3, .int v3), (2, .int v2), (0, .ref (bd1 0 0)), (1, .int u)]) hx hb dX7_manyNow_243 hl (by decide) rfl (fun ls hl => ?_)
    refine lv_iload hx hb dX7_manyNow_245 (lv_at hl 2 rfl) ?_
    refine lv_aload hx hb dX7_manyNow_247 (lv_at hl 0 rfl) ?_
    refine lv_iconst (v := 2) hx hb dX7_manyNow_249 (by decide) ?_
    refine ld_m hx hb hB.1 hC (rV_100 hk1) (rl_100 hC.1 hk1) (k := 2) (by decide) (by unfold vp_in; decide) dX7_manyNow_250 ?_
    refine lv_iadd hx hb dX7_manyNow_251 ?_
    refine lv_istore (lv' := [(7, .int (a1 + (g (100 + k) 2))), (9, .ref (bd1 3 (100 + k))), (8, .ref (bd1 6 (w1 0 5))), (6, .int v6), (5, .int v5), (4, .int v4), (3, .int v3), (2, .int v2), (0, .ref (bd1 0 0)), (1, .int u)]) hx hb dX7_manyNow_252 hl (by decide) rfl (fun ls hl => ?_)
    refine lv_goto (tgt := 223) hx hb dX7_manyNow_254 (by decide) ?_
    have e9 : fX7_manyNow_L223 (w1 0 0) (w1 0 1) (w1 0 2) (w1 0 3) (w1 0 4) g u v6 v5 v4 v3 v2 (n + 1) k a1 = fX7_manyNow_L223 (w1 0 0) (w1 0 1) (w1 0 2) (w1 0 3) (w1 0 4) g u v6 v5 v4 v3 v2 n (k + 1) (a1 + (g (100 + k) 2)) := by rw [fX7_manyNow_L223]
    rw [e9] at kk
    exact ih (k + 1) (a1 + (g (100 + k) 2)) (by omega)  H locs ls hC hS (lv_sub hl [2, 0, 3, 4, 5, 6, 7, 8, 9] rfl) kk
set_option maxRecDepth 100000 in
set_option maxHeartbeats 4000000 in
theorem kX7_manyNow (l : Launch) (D : va_G) (cy : Nat → ClassId) (e0 : Nat) {bd w : Nat → Nat → Nat} (g : Md) (S : Int64) (sz : Nat) (u : Int32) (hT4 : w 0 4 + 1 ≤ 50) (hp1 : (vp_in u 16)) : Met l yX7_manyNow wsX7_manyNow ({ frames := 3, cells := 5, slots := 32, locals := 53 } : Room) (va_Pc [.ref (bd 0 0), .int u] (mPre D cy e0 bd w g S sz)) (mQi D cy bd w (fX7_manyNow (w 0 0) (w 0 1) (w 0 2) (w 0 3) (w 0 4) g u) g S sz) 5 32 (mA bd w sz) := by
  refine q_start (cc := cX7_manyNow) (maxL := 10) (ret := (some .int)) (own := RX7) (by decide) rfl rfl (Nat.le_of_ble_eq_true rfl) ?_
  intro p e s m below meth c hx hb hr hml hts hown hlocks ⟨hsz, hC, hB⟩ ls hl
  subst hsz
  have hS : va_S (mA bd w s.heap.size) s.heap s.heap [] := va_S.rf
  have hG : mG e0 bd w s.heap.size bd w := mG.rf hB.2.2.1
  have hw0 := hC.1
  have hl : lv_has ls 10 [(0, .ref (bd 0 0)), (1, .int u)] := hl
  refine lv_iconst (v := 0) hx hb dX7_manyNow_0 (by decide) ?_
  refine lv_istore_n (lv' := [(2, .int 0), (0, .ref (bd 0 0)), (1, .int u)]) hx hb dX7_manyNow_1 rfl hl (by decide) rfl (fun ls hl => ?_)
  refine lv_aload_n hx hb dX7_manyNow_2 rfl (lv_at hl 1 rfl) ?_
  refine gt_m0_2 hx hb hts iX7_manyNow_X7 hown hB.1 hC qX7_manyNow_w1 dX7_manyNow_3 ?_
  have hz9 := hS.1
  refine m_iter (show 1 < 4 by decide) ⟨hx, hb, hml, hown, hts⟩ (kJx4a65c_iterator_32c93 l D cy e0 (bd := bd) (w := w) g S _ 1 (show 1 < 4 by decide)) (cwV 0 hts gX7_manyNow_Jx4a65c_iterator_32c93 rfl rfl rfl (by decide +kernel) ⟨Nat.le_of_ble_eq_true rfl, Nat.le_of_ble_eq_true rfl⟩) hB hG.2 hC hS hl.1 (Nat.le_of_ble_eq_true rfl) dX7_manyNow_6 ⟨Nat.le_of_ble_eq_true rfl, Nat.le_of_ble_eq_true rfl⟩ (fun bd1 H locs hN hC hS => ?_)
  have hG9 := hG.itr hN hz9
  have hI := hG9.2 1
  have hG := hG9.1
  have q0 : bd1 0 0 = bd 0 0 := hN.1 0 0 rfl
  rw [← q0] at hl
  refine lv_astore_n (lv' := [(3, .ref (bd1 6 (w 0 5))), (2, .int 0), (0, .ref (bd1 0 0)), (1, .int u)]) hx hb dX7_manyNow_9 rfl hl (by decide) rfl (fun ls hl => ?_)
  refine kX7_manyNow_L10 l D cy e0 (bd := bd) (w := w) (bd1 := bd1) (w1 := w) g S u _ _ (Nat.le_of_ble_eq_true rfl) (Nat.le_of_ble_eq_true rfl)  hx hb hr hml hts hown hlocks hB hG hI (w 0 1) 0 0 (by omega)  _ _ ls hC hS (lv_sub hl [0, 1, 2, 3] rfl) (fun H locs ls hC hS hl => ?_)
  refine lv_iconst (v := 0) hx hb dX7_manyNow_51 (by decide) ?_
  refine lv_istore_n (lv' := [(3, .int 0), (2, .int (fX7_manyNow_L10 (w 0 0) (w 0 1) (w 0 2) (w 0 3) (w 0 4) g u (w 0 1) 0 0)), (0, .ref (bd1 0 0)), (1, .int u)]) hx hb dX7_manyNow_52 rfl hl (by decide) rfl (fun ls hl => ?_)
  refine lv_aload_n hx hb dX7_manyNow_53 rfl (lv_at hl 2 rfl) ?_
  refine gt_m0_3 hx hb hts iX7_manyNow_X7 hown hB.1 hC qX7_manyNow_w3 dX7_manyNow_54 ?_
  refine lv_astore (lv' := [(4, .ref (bd1 4 0)), (3, .int 0), (2, .int (fX7_manyNow_L10 (w 0 0) (w 0 1) (w 0 2) (w 0 3) (w 0 4) g u (w 0 1) 0 0)), (0, .ref (bd1 0 0)), (1, .int u)]) hx hb dX7_manyNow_57 hl (by decide) rfl (fun ls hl => ?_)
  refine lv_aload hx hb dX7_manyNow_59 (lv_at hl 0 rfl) ?_
  refine ln_m4 hx hb hB.1 hC dX7_manyNow_61 ?_
  refine lv_istore (lv' := [(5, .int 3), (4, .ref (bd1 4 0)), (3, .int 0), (2, .int (fX7_manyNow_L10 (w 0 0) (w 0 1) (w 0 2) (w 0 3) (w 0 4) g u (w 0 1) 0 0)), (0, .ref (bd1 0 0)), (1, .int u)]) hx hb dX7_manyNow_62 hl (by decide) rfl (fun ls hl => ?_)
  refine lv_iconst (v := 0) hx hb dX7_manyNow_64 (by decide) ?_
  refine lv_istore (lv' := [(6, .int 0), (5, .int 3), (4, .ref (bd1 4 0)), (3, .int 0), (2, .int (fX7_manyNow_L10 (w 0 0) (w 0 1) (w 0 2) (w 0 3) (w 0 4) g u (w 0 1) 0 0)), (0, .ref (bd1 0 0)), (1, .int u)]) hx hb dX7_manyNow_65 hl (by decide) rfl (fun ls hl => ?_)
  refine lv_iload hx hb dX7_manyNow_67 (lv_at hl 0 rfl) ?_
  refine lv_iload hx hb dX7_manyNow_69 (lv_at hl 1 rfl) ?_
  refine lv_icmp_ge (tgt := 94) hx hb dX7_manyNow_71 (by decide) (fun c => absurd c (by decide)) (fun _ => ?_)
  refine lv_aload hx hb dX7_manyNow_74 (lv_at hl 2 rfl) ?_
  refine lv_iload hx hb dX7_manyNow_76 (lv_at hl 0 rfl) ?_
  refine la_m4 hx hb hB.1 hC (k := 0) (by decide) (by unfold vp_in; decide) dX7_manyNow_78 ?_
  refine lv_astore (lv' := [(7, .ref (bd1 3 300)), (6, .int 0), (5, .int 3), (4, .ref (bd1 4 0)), (3, .int 0), (2, .int (fX7_manyNow_L10 (w 0 0) (w 0 1) (w 0 2) (w 0 3) (w 0 4) g u (w 0 1) 0 0)), (0, .ref (bd1 0 0)), (1, .int u)]) hx hb dX7_manyNow_79 hl (by decide) rfl (fun ls hl => ?_)
  refine lv_iload_n hx hb dX7_manyNow_81 rfl (lv_at hl 4 rfl) ?_
  refine lv_aload hx hb dX7_manyNow_82 (lv_at hl 0 rfl) ?_
  refine lv_iconst (v := 0) hx hb dX7_manyNow_84 (by decide) ?_
  refine ld_m hx hb hB.1 hC (rV_300 (k := 0) (by decide)) (rl_300 (k := 0) (by decide)) (k := 0) (by decide) (by unfold vp_in; decide) dX7_manyNow_85 ?_
  refine lv_iadd hx hb dX7_manyNow_86 ?_
  refine lv_istore_n (lv' := [(3, .int (0 + (g 300 0))), (7, .ref (bd1 3 300)), (6, .int 0), (5, .int 3), (4, .ref (bd1 4 0)), (2, .int (fX7_manyNow_L10 (w 0 0) (w 0 1) (w 0 2) (w 0 3) (w 0 4) g u (w 0 1) 0 0)), (0, .ref (bd1 0 0)), (1, .int u)]) hx hb dX7_manyNow_87 rfl hl (by decide) rfl (fun ls hl => ?_)
  refine lv_iinc (v := 1) (lv' := [(6, .int 1), (3, .int (0 + (g 300 0))), (7, .ref (bd1 3 300)), (5, .int 3), (4, .ref (bd1 4 0)), (2, .int (fX7_manyNow_L10 (w 0 0) (w 0 1) (w 0 2) (w 0 3) (w 0 4) g u (w 0 1) 0 0)), (0, .ref (bd1 0 0)), (1, .int u)]) hx hb dX7_manyNow_88 hl (k := 2) rfl (by decide) (by decide) rfl (fun ls hl => ?_)
  refine lv_goto (tgt := 67) hx hb dX7_manyNow_91 (by decide) ?_
  refine lv_iload hx hb dX7_manyNow_67 (lv_at hl 0 rfl) ?_
  refine lv_iload hx hb dX7_manyNow_69 (lv_at hl 3 rfl) ?_
  refine lv_icmp_ge (tgt := 94) hx hb dX7_manyNow_71 (by decide) (fun c => absurd c (by decide)) (fun _ => ?_)
  refine lv_aload hx hb dX7_manyNow_74 (lv_at hl 4 rfl) ?_
  refine lv_iload hx hb dX7_manyNow_76 (lv_at hl 0 rfl) ?_
  refine la_m4 hx hb hB.1 hC (k := 1) (by decide) (by unfold vp_in; decide) dX7_manyNow_78 ?_
  refine lv_astore (lv' := [(7, .ref (bd1 3 301)), (6, .int 1), (3, .int (0 + (g 300 0))), (5, .int 3), (4, .ref (bd1 4 0)), (2, .int (fX7_manyNow_L10 (w 0 0) (w 0 1) (w 0 2) (w 0 3) (w 0 4) g u (w 0 1) 0 0)), (0, .ref (bd1 0 0)), (1, .int u)]) hx hb dX7_manyNow_79 hl (by decide) rfl (fun ls hl => ?_)
  refine lv_iload_n hx hb dX7_manyNow_81 rfl (lv_at hl 2 rfl) ?_
  refine lv_aload hx hb dX7_manyNow_82 (lv_at hl 0 rfl) ?_
  refine lv_iconst (v := 0) hx hb dX7_manyNow_84 (by decide) ?_
  refine ld_m hx hb hB.1 hC (rV_300 (k := 1) (by decide)) (rl_300 (k := 1) (by decide)) (k := 0) (by decide) (by unfold vp_in; decide) dX7_manyNow_85 ?_
  refine lv_iadd hx hb dX7_manyNow_86 ?_
  refine lv_istore_n (lv' := [(3, .int ((0 + (g 300 0)) + (g 301 0))), (7, .ref (bd1 3 301)), (6, .int 1), (5, .int 3), (4, .ref (bd1 4 0)), (2, .int (fX7_manyNow_L10 (w 0 0) (w 0 1) (w 0 2) (w 0 3) (w 0 4) g u (w 0 1) 0 0)), (0, .ref (bd1 0 0)), (1, .int u)]) hx hb dX7_manyNow_87 rfl hl (by decide) rfl (fun ls hl => ?_)
  refine lv_iinc (v := 2) (lv' := [(6, .int 2), (3, .int ((0 + (g 300 0)) + (g 301 0))), (7, .ref (bd1 3 301)), (5, .int 3), (4, .ref (bd1 4 0)), (2, .int (fX7_manyNow_L10 (w 0 0) (w 0 1) (w 0 2) (w 0 3) (w 0 4) g u (w 0 1) 0 0)), (0, .ref (bd1 0 0)), (1, .int u)]) hx hb dX7_manyNow_88 hl (k := 2) rfl (by decide) (by decide) rfl (fun ls hl => ?_)
  refine lv_goto (tgt := 67) hx hb dX7_manyNow_91 (by decide) ?_
  refine lv_iload hx hb dX7_manyNow_67 (lv_at hl 0 rfl) ?_
  refine lv_iload hx hb dX7_manyNow_69 (lv_at hl 3 rfl) ?_
  refine lv_icmp_ge (tgt := 94) hx hb dX7_manyNow_71 (by decide) (fun c => absurd c (by decide)) (fun _ => ?_)
  refine lv_aload hx hb dX7_manyNow_74 (lv_at hl 4 rfl) ?_
  refine lv_iload hx hb dX7_manyNow_76 (lv_at hl 0 rfl) ?_
  refine la_m4 hx hb hB.1 hC (k := 2) (by decide) (by unfold vp_in; decide) dX7_manyNow_78 ?_
  refine lv_astore (lv' := [(7, .ref (bd1 3 302)), (6, .int 2), (3, .int ((0 + (g 300 0)) + (g 301 0))), (5, .int 3), (4, .ref (bd1 4 0)), (2, .int (fX7_manyNow_L10 (w 0 0) (w 0 1) (w 0 2) (w 0 3) (w 0 4) g u (w 0 1) 0 0)), (0, .ref (bd1 0 0)), (1, .int u)]) hx hb dX7_manyNow_79 hl (by decide) rfl (fun ls hl => ?_)
  refine lv_iload_n hx hb dX7_manyNow_81 rfl (lv_at hl 2 rfl) ?_
  refine lv_aload hx hb dX7_manyNow_82 (lv_at hl 0 rfl) ?_
  refine lv_iconst (v := 0) hx hb dX7_manyNow_84 (by decide) ?_
  refine ld_m hx hb hB.1 hC (rV_300 (k := 2) (by decide)) (rl_300 (k := 2) (by decide)) (k := 0) (by decide) (by unfold vp_in; decide) dX7_manyNow_85 ?_
  refine lv_iadd hx hb dX7_manyNow_86 ?_
  refine lv_istore_n (lv' := [(3, .int (((0 + (g 300 0)) + (g 301 0)) + (g 302 0))), (7, .ref (bd1 3 302)), (6, .int 2), (5, .int 3), (4, .ref (bd1 4 0)), (2, .int (fX7_manyNow_L10 (w 0 0) (w 0 1) (w 0 2) (w 0 3) (w 0 4) g u (w 0 1) 0 0)), (0, .ref (bd1 0 0)), (1, .int u)]) hx hb dX7_manyNow_87 rfl hl (by decide) rfl (fun ls hl => ?_)
  refine lv_iinc (v := 3) (lv' := [(6, .int 3), (3, .int (((0 + (g 300 0)) + (g 301 0)) + (g 302 0))), (7, .ref (bd1 3 302)), (5, .int 3), (4, .ref (bd1 4 0)), (2, .int (fX7_manyNow_L10 (w 0 0) (w 0 1) (w 0 2) (w 0 3) (w 0 4) g u (w 0 1) 0 0)), (0, .ref (bd1 0 0)), (1, .int u)]) hx hb dX7_manyNow_88 hl (k := 2) rfl (by decide) (by decide) rfl (fun ls hl => ?_)
  refine lv_goto (tgt := 67) hx hb dX7_manyNow_91 (by decide) ?_
  refine lv_iload hx hb dX7_manyNow_67 (lv_at hl 0 rfl) ?_
  refine lv_iload hx hb dX7_manyNow_69 (lv_at hl 3 rfl) ?_
  refine lv_icmp_ge (tgt := 94) hx hb dX7_manyNow_71 (by decide) (fun _ => ?_) (fun c => absurd c (by decide))
  refine lv_iconst (v := 0) hx hb dX7_manyNow_94 (by decide) ?_
  refine lv_istore (lv' := [(4, .int 0), (6, .int 3), (3, .int (((0 + (g 300 0)) + (g 301 0)) + (g 302 0))), (7, .ref (bd1 3 302)), (5, .int 3), (2, .int (fX7_manyNow_L10 (w 0 0) (w 0 1) (w 0 2) (w 0 3) (w 0 4) g u (w 0 1) 0 0)), (0, .ref (bd1 0 0)), (1, .int u)]) hx hb dX7_manyNow_95 hl (by decide) rfl (fun ls hl => ?_)
  refine lv_aload_n hx hb dX7_manyNow_97 rfl (lv_at hl 6 rfl) ?_
  refine gt_m0_4 hx hb hts iX7_manyNow_X7 hown hB.1 hC qX7_manyNow_w4 dX7_manyNow_98 ?_
  have hz9 := hS.1
  refine m_iter (show 2 < 4 by decide) ⟨hx, hb, hml, hown, hts⟩ (kJx4a65c_iterator_32c93 l D cy e0 (bd := bd1) (w := w) g S _ 2 (show 2 < 4 by decide)) (cwV 0 hts gX7_manyNow_Jx4a65c_iterator_32c93 rfl rfl rfl (by decide +kernel) ⟨Nat.le_of_ble_eq_true rfl, Nat.le_of_ble_eq_true rfl⟩) hB hG.2 hC hS hl.1 (Nat.le_of_ble_eq_true rfl) dX7_manyNow_101 ⟨Nat.le_of_ble_eq_true rfl, Nat.le_of_ble_eq_true rfl⟩ (fun bd3 H locs hN hC hS => ?_)
  have hG9 := hG.itr hN hz9
  have hI := hG9.2 2
  have hG := hG9.1
  have q0 : bd3 3 302 = bd1 3 302 := hN.1 3 302 (rV_300 (k := 2) (by decide))
  have q1 : bd3 0 0 = bd1 0 0 := hN.1 0 0 rfl
  rw [← q0, ← q1] at hl
  refine lv_astore (lv' := [(5, .ref (bd3 6 (w 0 5))), (4, .int 0), (6, .int 3), (3, .int (((0 + (g 300 0)) + (g 301 0)) + (g 302 0))), (7, .ref (bd3 3 302)), (2, .int (fX7_manyNow_L10 (w 0 0) (w 0 1) (w 0 2) (w 0 3) (w 0 4) g u (w 0 1) 0 0)), (0, .ref (bd3 0 0)), (1, .int u)]) hx hb dX7_manyNow_104 hl (by decide) rfl (fun ls hl => ?_)
  refine kX7_manyNow_L106 l D cy e0 (bd := bd) (w := w) (bd1 := bd3) (w1 := w) g S u (((0 + (g 300 0)) + (g 301 0)) + (g 302 0)) (fX7_manyNow_L10 (w 0 0) (w 0 1) (w 0 2) (w 0 3) (w 0 4) g u (w 0 1) 0 0) _ _ (Nat.le_of_ble_eq_true rfl) (Nat.le_of_ble_eq_true rfl)  hx hb hr hml hts hown hlocks hB hG hI (w 0 2) 0 0 (by omega)  _ _ ls hC hS (lv_sub hl [0, 1, 3, 4, 5, 6, 7] rfl) (fun H locs ls hC hS hl => ?_)
  refine lv_iconst (v := 0) hx hb dX7_manyNow_140 (by decide) ?_
  refine lv_istore (lv' := [(5, .int 0), (4, .int (fX7_manyNow_L106 (w 0 0) (w 0 1) (w 0 2) (w 0 3) (w 0 4) g u (((0 + (g 300 0)) + (g 301 0)) + (g 302 0)) (fX7_manyNow_L10 (w 0 0) (w 0 1) (w 0 2) (w 0 3) (w 0 4) g u (w 0 1) 0 0) (w 0 2) 0 0)), (3, .int (((0 + (g 300 0)) + (g 301 0)) + (g 302 0))), (7, .ref (bd3 3 302)), (2, .int (fX7_manyNow_L10 (w 0 0) (w 0 1) (w 0 2) (w 0 3) (w 0 4) g u (w 0 1) 0 0)), (0, .ref (bd3 0 0)), (1, .int u)]) hx hb dX7_manyNow_141 hl (by decide) rfl (fun ls hl => ?_)
  refine lv_iconst (v := 0) hx hb dX7_manyNow_143 (by decide) ?_
  refine lv_istore (lv' := [(6, .int 0), (5, .int 0), (4, .int (fX7_manyNow_L106 (w 0 0) (w 0 1) (w 0 2) (w 0 3) (w 0 4) g u (((0 + (g 300 0)) + (g 301 0)) + (g 302 0)) (fX7_manyNow_L10 (w 0 0) (w 0 1) (w 0 2) (w 0 3) (w 0 4) g u (w 0 1) 0 0) (w 0 2) 0 0)), (3, .int (((0 + (g 300 0)) + (g 301 0)) + (g 302 0))), (7, .ref (bd3 3 302)), (2, .int (fX7_manyNow_L10 (w 0 0) (w 0 1) (w 0 2) (w 0 3) (w 0 4) g u (w 0 1) 0 0)), (0, .ref (bd3 0 0)), (1, .int u)]) hx hb dX7_manyNow_144 hl (by decide) rfl (fun ls hl => ?_)
  refine lv_aload_n hx hb dX7_manyNow_146 rfl (lv_at hl 6 rfl) ?_
  refine gt_m0_5 hx hb hts iX7_manyNow_X7 hown hB.1 hC qX7_manyNow_w5 dX7_manyNow_147 ?_
  have hz9 := hS.1
  refine m_iter (show 3 < 4 by decide) ⟨hx, hb, hml, hown, hts⟩ (kJx4a65c_iterator_32c93 l D cy e0 (bd := bd3) (w := w) g S _ 3 (show 3 < 4 by decide)) (cwV 0 hts gX7_manyNow_Jx4a65c_iterator_32c93 rfl rfl rfl (by decide +kernel) ⟨Nat.le_of_ble_eq_true rfl, Nat.le_of_ble_eq_true rfl⟩) hB hG.2 hC hS hl.1 (Nat.le_of_ble_eq_true rfl) dX7_manyNow_150 ⟨Nat.le_of_ble_eq_true rfl, Nat.le_of_ble_eq_true rfl⟩ (fun bd4 H locs hN hC hS => ?_)
  have hG9 := hG.itr hN hz9
  have hI := hG9.2 3
  have hG := hG9.1
  have q0 : bd4 3 302 = bd3 3 302 := hN.1 3 302 (rV_300 (k := 2) (by decide))
  have q1 : bd4 0 0 = bd3 0 0 := hN.1 0 0 rfl
  rw [← q0, ← q1] at hl
  refine lv_astore (lv' := [(7, .ref (bd4 6 (w 0 5))), (6, .int 0), (5, .int 0), (4, .int (fX7_manyNow_L106 (w 0 0) (w 0 1) (w 0 2) (w 0 3) (w 0 4) g u (((0 + (g 300 0)) + (g 301 0)) + (g 302 0)) (fX7_manyNow_L10 (w 0 0) (w 0 1) (w 0 2) (w 0 3) (w 0 4) g u (w 0 1) 0 0) (w 0 2) 0 0)), (3, .int (((0 + (g 300 0)) + (g 301 0)) + (g 302 0))), (2, .int (fX7_manyNow_L10 (w 0 0) (w 0 1) (w 0 2) (w 0 3) (w 0 4) g u (w 0 1) 0 0)), (0, .ref (bd4 0 0)), (1, .int u)]) hx hb dX7_manyNow_153 hl (by decide) rfl (fun ls hl => ?_)
  refine kX7_manyNow_L155 l D cy e0 (bd := bd) (w := w) (bd1 := bd4) (w1 := w) g S u (fX7_manyNow_L106 (w 0 0) (w 0 1) (w 0 2) (w 0 3) (w 0 4) g u (((0 + (g 300 0)) + (g 301 0)) + (g 302 0)) (fX7_manyNow_L10 (w 0 0) (w 0 1) (w 0 2) (w 0 3) (w 0 4) g u (w 0 1) 0 0) (w 0 2) 0 0) (((0 + (g 300 0)) + (g 301 0)) + (g 302 0)) (fX7_manyNow_L10 (w 0 0) (w 0 1) (w 0 2) (w 0 3) (w 0 4) g u (w 0 1) 0 0) _ _ (Nat.le_of_ble_eq_true rfl) (Nat.le_of_ble_eq_true rfl)  hx hb hr hml hts hown hlocks hB hG hI (w 0 3) 0 0 0 (by omega)  _ _ ls hC hS (lv_sub hl [0, 1, 2, 3, 4, 5, 6, 7] rfl) (fun H locs ls hC hS hl => ?_)
  refine lv_iconst (v := 0) hx hb dX7_manyNow_211 (by decide) ?_
  refine lv_istore (lv' := [(7, .int 0), (6, .int ((fX7_manyNow_L155 (w 0 0) (w 0 1) (w 0 2) (w 0 3) (w 0 4) g u (fX7_manyNow_L106 (w 0 0) (w 0 1) (w 0 2) (w 0 3) (w 0 4) g u (((0 + (g 300 0)) + (g 301 0)) + (g 302 0)) (fX7_manyNow_L10 (w 0 0) (w 0 1) (w 0 2) (w 0 3) (w 0 4) g u (w 0 1) 0 0) (w 0 2) 0 0) (((0 + (g 300 0)) + (g 301 0)) + (g 302 0)) (fX7_manyNow_L10 (w 0 0) (w 0 1) (w 0 2) (w 0 3) (w 0 4) g u (w 0 1) 0 0) (w 0 3) 0 0 0).2)), (5, .int ((fX7_manyNow_L155 (w 0 0) (w 0 1) (w 0 2) (w 0 3) (w 0 4) g u (fX7_manyNow_L106 (w 0 0) (w 0 1) (w 0 2) (w 0 3) (w 0 4) g u (((0 + (g 300 0)) + (g 301 0)) + (g 302 0)) (fX7_manyNow_L10 (w 0 0) (w 0 1) (w 0 2) (w 0 3) (w 0 4) g u (w 0 1) 0 0) (w 0 2) 0 0) (((0 + (g 300 0)) + (g 301 0)) + (g 302 0)) (fX7_manyNow_L10 (w 0 0) (w 0 1) (w 0 2) (w 0 3) (w 0 4) g u (w 0 1) 0 0) (w 0 3) 0 0 0).1)), (4, .int (fX7_manyNow_L106 (w 0 0) (w 0 1) (w 0 2) (w 0 3) (w 0 4) g u (((0 + (g 300 0)) + (g 301 0)) + (g 302 0)) (fX7_manyNow_L10 (w 0 0) (w 0 1) (w 0 2) (w 0 3) (w 0 4) g u (w 0 1) 0 0) (w 0 2) 0 0)), (3, .int (((0 + (g 300 0)) + (g 301 0)) + (g 302 0))), (2, .int (fX7_manyNow_L10 (w 0 0) (w 0 1) (w 0 2) (w 0 3) (w 0 4) g u (w 0 1) 0 0)), (0, .ref (bd4 0 0)), (1, .int u)]) hx hb dX7_manyNow_212 hl (by decide) rfl (fun ls hl => ?_)
  refine lv_aload_n hx hb dX7_manyNow_214 rfl (lv_at hl 6 rfl) ?_
  refine gt_m0_1 hx hb hts iX7_manyNow_X7 hown hB.1 hC qX7_manyNow_w6 dX7_manyNow_215 ?_
  have hz9 := hS.1
  refine m_iter (show 0 < 4 by decide) ⟨hx, hb, hml, hown, hts⟩ (kJx4a65c_iterator_32c93 l D cy e0 (bd := bd4) (w := w) g S _ 0 (show 0 < 4 by decide)) (cwV 0 hts gX7_manyNow_Jx4a65c_iterator_32c93 rfl rfl rfl (by decide +kernel) ⟨Nat.le_of_ble_eq_true rfl, Nat.le_of_ble_eq_true rfl⟩) hB hG.2 hC hS hl.1 (Nat.le_of_ble_eq_true rfl) dX7_manyNow_218 ⟨Nat.le_of_ble_eq_true rfl, Nat.le_of_ble_eq_true rfl⟩ (fun bd6 H locs hN hC hS => ?_)
  have hG9 := hG.itr hN hz9
  have hI := hG9.2 0
  have hG := hG9.1
  have q0 : bd6 0 0 = bd4 0 0 := hN.1 0 0 rfl
  rw [← q0] at hl
  refine lv_astore (lv' := [(8, .ref (bd6 6 (w 0 5))), (7, .int 0), (6, .int ((fX7_manyNow_L155 (w 0 0) (w 0 1) (w 0 2) (w 0 3) (w 0 4) g u (fX7_manyNow_L106 (w 0 0) (w 0 1) (w 0 2) (w 0 3) (w 0 4) g u (((0 + (g 300 0)) + (g 301 0)) + (g 302 0)) (fX7_manyNow_L10 (w 0 0) (w 0 1) (w 0 2) (w 0 3) (w 0 4) g u (w 0 1) 0 0) (w 0 2) 0 0) (((0 + (g 300 0)) + (g 301 0)) + (g 302 0)) (fX7_manyNow_L10 (w 0 0) (w 0 1) (w 0 2) (w 0 3) (w 0 4) g u (w 0 1) 0 0) (w 0 3) 0 0 0).2)), (5, .int ((fX7_manyNow_L155 (w 0 0) (w 0 1) (w 0 2) (w 0 3) (w 0 4) g u (fX7_manyNow_L106 (w 0 0) (w 0 1) (w 0 2) (w 0 3) (w 0 4) g u (((0 + (g 300 0)) + (g 301 0)) + (g 302 0)) (fX7_manyNow_L10 (w 0 0) (w 0 1) (w 0 2) (w 0 3) (w 0 4) g u (w 0 1) 0 0) (w 0 2) 0 0) (((0 + (g 300 0)) + (g 301 0)) + (g 302 0)) (fX7_manyNow_L10 (w 0 0) (w 0 1) (w 0 2) (w 0 3) (w 0 4) g u (w 0 1) 0 0) (w 0 3) 0 0 0).1)), (4, .int (fX7_manyNow_L106 (w 0 0) (w 0 1) (w 0 2) (w 0 3) (w 0 4) g u (((0 + (g 300 0)) + (g 301 0)) + (g 302 0)) (fX7_manyNow_L10 (w 0 0) (w 0 1) (w 0 2) (w 0 3) (w 0 4) g u (w 0 1) 0 0) (w 0 2) 0 0)), (3, .int (((0 + (g 300 0)) + (g 301 0)) + (g 302 0))), (2, .int (fX7_manyNow_L10 (w 0 0) (w 0 1) (w 0 2) (w 0 3) (w 0 4) g u (w 0 1) 0 0)), (0, .ref (bd6 0 0)), (1, .int u)]) hx hb dX7_manyNow_221 hl (by decide) rfl (fun ls hl => ?_)
  refine kX7_manyNow_L223 l D cy e0 (bd := bd) (w := w) (bd1 := bd6) (w1 := w) g S u ((fX7_manyNow_L155 (w 0 0) (w 0 1) (w 0 2) (w 0 3) (w 0 4) g u (fX7_manyNow_L106 (w 0 0) (w 0 1) (w 0 2) (w 0 3) (w 0 4) g u (((0 + (g 300 0)) + (g 301 0)) + (g 302 0)) (fX7_manyNow_L10 (w 0 0) (w 0 1) (w 0 2) (w 0 3) (w 0 4) g u (w 0 1) 0 0) (w 0 2) 0 0) (((0 + (g 300 0)) + (g 301 0)) + (g 302 0)) (fX7_manyNow_L10 (w 0 0) (w 0 1) (w 0 2) (w 0 3) (w 0 4) g u (w 0 1) 0 0) (w 0 3) 0 0 0).2) ((fX7_manyNow_L155 (w 0 0) (w 0 1) (w 0 2) (w 0 3) (w 0 4) g u (fX7_manyNow_L106 (w 0 0) (w 0 1) (w 0 2) (w 0 3) (w 0 4) g u (((0 + (g 300 0)) + (g 301 0)) + (g 302 0)) (fX7_manyNow_L10 (w 0 0) (w 0 1) (w 0 2) (w 0 3) (w 0 4) g u (w 0 1) 0 0) (w 0 2) 0 0) (((0 + (g 300 0)) + (g 301 0)) + (g 302 0)) (fX7_manyNow_L10 (w 0 0) (w 0 1) (w 0 2) (w 0 3) (w 0 4) g u (w 0 1) 0 0) (w 0 3) 0 0 0).1) (fX7_manyNow_L106 (w 0 0) (w 0 1) (w 0 2) (w 0 3) (w 0 4) g u (((0 + (g 300 0)) + (g 301 0)) + (g 302 0)) (fX7_manyNow_L10 (w 0 0) (w 0 1) (w 0 2) (w 0 3) (w 0 4) g u (w 0 1) 0 0) (w 0 2) 0 0) (((0 + (g 300 0)) + (g 301 0)) + (g 302 0)) (fX7_manyNow_L10 (w 0 0) (w 0 1) (w 0 2) (w 0 3) (w 0 4) g u (w 0 1) 0 0) _ _ (Nat.le_of_ble_eq_true rfl) (Nat.le_of_ble_eq_true rfl)  hx hb hr hml hts hown hlocks hB hG hI (w 0 0) 0 0 (by omega)  _ _ ls hC hS (lv_sub hl [0, 1, 2, 3, 4, 5, 6, 7, 8] rfl) (fun H locs ls hC hS hl => ?_)
  refine lv_bipush (v := 16) hx hb dX7_manyNow_257 (by decide) ?_
  have hz9 := hS.1
  have hw9 := hC.1
  refine m_newarr hx hb (hts _ qX7_manyNow_w7) hB.1 hC hS (by show w 0 4 < 50; omega) 16 (by decide) (by decide) (by decide) ⟨Nat.le_of_ble_eq_true rfl, Nat.le_of_ble_eq_true rfl⟩ dX7_manyNow_259 (fun bd7 H hN hC hS => ?_)
  have hD9 := wN_mD (N := 16) hN.1 hN.2.1
  have hD1 := hD9
  have hG : mG e0 bd w s.heap.size bd7 (wN w 16) := hG.new hN.1 hN.2.1 hN.2.2.1 (Nat.le_trans hz9 hN.2.2.2)
  have q0 : bd7 0 0 = bd6 0 0 := hN.1 0 0 rfl
  rw [← q0] at hl
  have hv8 : rV (wN w 16) (400 + w 0 4) := rV_new
  have hn9 : rl (wN w 16) (400 + w 0 4) = 16 := rl_new
  refine lv_dup hx hb dX7_manyNow_261 rfl ?_
  refine lv_iconst (v := 0) hx hb dX7_manyNow_262 (by decide) ?_
  refine lv_aload_n hx hb dX7_manyNow_263 rfl (lv_at hl 6 rfl) ?_
  refine gt_m0_8 hx hb hts iX7_manyNow_X7 hown hB.1 hC qX7_manyNow_w8 dX7_manyNow_264 ?_
  refine q_val (v := g 0 0) (rz_nr (by omega)) ?_
  refine st_m hx hb hB.1 hC hS hG.2.1 hv8 hn9 (k := 0) (by decide) (by unfold vp_in; decide) dX7_manyNow_267 (fun H locs hC hS => ?_)
  refine lv_dup hx hb dX7_manyNow_268 rfl ?_
  refine lv_iconst (v := 1) hx hb dX7_manyNow_269 (by decide) ?_
  refine lv_aload_n hx hb dX7_manyNow_270 rfl (lv_at hl 6 rfl) ?_
  refine gt_m0_1 hx hb hts iX7_manyNow_X7 hown hB.1 hC qX7_manyNow_w6 dX7_manyNow_271 ?_
  refine m_callVi (As := []) (κ := 1) (i := 0) (show 0 < 4 by decide) rfl ⟨_, rfl⟩ rfl ⟨hx, hb, hml, hown, hts⟩ (kJx4a65c_size_8abf5 l D cy e0 (bd := bd7) (w := (wN w 16)) (u2 (rz g (400 + w 0 4) (fun _ => 0)) (400 + w 0 4) 0 (g 0 0)) S _ 0 (show 0 < 4 by decide)) (cwV 0 hts gX7_manyNow_Jx4a65c_size_8abf5 rfl rfl rfl (by decide +kernel) ⟨Nat.le_of_ble_eq_true rfl, Nat.le_of_ble_eq_true rfl⟩) hB hG.2 hC hS rfl hl.1 (Nat.le_of_ble_eq_true rfl) dX7_manyNow_274 ⟨Nat.le_of_ble_eq_true rfl, Nat.le_of_ble_eq_true rfl⟩ (fun H locs hC hS => ?_)
  refine q_val (v := nI (w 0 0)) rfl ?_
  refine st_m hx hb hB.1 hC hS hG.2.1 hv8 hn9 (k := 1) (by decide) (by unfold vp_in; decide) dX7_manyNow_277 (fun H locs hC hS => ?_)
  refine lv_dup hx hb dX7_manyNow_278 rfl ?_
  refine lv_iconst (v := 2) hx hb dX7_manyNow_279 (by decide) ?_
  refine lv_aload_n hx hb dX7_manyNow_280 rfl (lv_at hl 6 rfl) ?_
  refine gt_m0_2 hx hb hts iX7_manyNow_X7 hown hB.1 hC qX7_manyNow_w1 dX7_manyNow_281 ?_
  refine m_callVi (As := []) (κ := 1) (i := 1) (show 1 < 4 by decide) rfl ⟨_, rfl⟩ rfl ⟨hx, hb, hml, hown, hts⟩ (kJx4a65c_size_8abf5 l D cy e0 (bd := bd7) (w := (wN w 16)) (u2 (u2 (rz g (400 + w 0 4) (fun _ => 0)) (400 + w 0 4) 0 (g 0 0)) (400 + w 0 4) 1 (nI (w 0 0))) S _ 1 (show 1 < 4 by decide)) (cwV 0 hts gX7_manyNow_Jx4a65c_size_8abf5 rfl rfl rfl (by decide +kernel) ⟨Nat.le_of_ble_eq_true rfl, Nat.le_of_ble_eq_true rfl⟩) hB hG.2 hC hS rfl hl.1 (Nat.le_of_ble_eq_true rfl) dX7_manyNow_284 ⟨Nat.le_of_ble_eq_true rfl, Nat.le_of_ble_eq_true rfl⟩ (fun H locs hC hS => ?_)
  refine q_val (v := nI (w 0 1)) rfl ?_
  refine st_m hx hb hB.1 hC hS hG.2.1 hv8 hn9 (k := 2) (by decide) (by unfold vp_in; decide) dX7_manyNow_287 (fun H locs hC hS => ?_)
  refine lv_dup hx hb dX7_manyNow_288 rfl ?_
  refine lv_iconst (v := 3) hx hb dX7_manyNow_289 (by decide) ?_
  refine lv_aload_n hx hb dX7_manyNow_290 rfl (lv_at hl 6 rfl) ?_
  refine gt_m0_4 hx hb hts iX7_manyNow_X7 hown hB.1 hC qX7_manyNow_w4 dX7_manyNow_291 ?_
  refine m_callVi (As := []) (κ := 1) (i := 2) (show 2 < 4 by decide) rfl ⟨_, rfl⟩ rfl ⟨hx, hb, hml, hown, hts⟩ (kJx4a65c_size_8abf5 l D cy e0 (bd := bd7) (w := (wN w 16)) (u2 (u2 (u2 (rz g (400 + w 0 4) (fun _ => 0)) (400 + w 0 4) 0 (g 0 0)) (400 + w 0 4) 1 (nI (w 0 0))) (400 + w 0 4) 2 (nI (w 0 1))) S _ 2 (show 2 < 4 by decide)) (cwV 0 hts gX7_manyNow_Jx4a65c_size_8abf5 rfl rfl rfl (by decide +kernel) ⟨Nat.le_of_ble_eq_true rfl, Nat.le_of_ble_eq_true rfl⟩) hB hG.2 hC hS rfl hl.1 (Nat.le_of_ble_eq_true rfl) dX7_manyNow_294 ⟨Nat.le_of_ble_eq_true rfl, Nat.le_of_ble_eq_true rfl⟩ (fun H locs hC hS => ?_)
  refine q_val (v := nI (w 0 2)) rfl ?_
  refine st_m hx hb hB.1 hC hS hG.2.1 hv8 hn9 (k := 3) (by decide) (by unfold vp_in; decide) dX7_manyNow_297 (fun H locs hC hS => ?_)
  refine lv_dup hx hb dX7_manyNow_298 rfl ?_
  refine lv_iconst (v := 4) hx hb dX7_manyNow_299 (by decide) ?_
  refine lv_aload_n hx hb dX7_manyNow_300 rfl (lv_at hl 6 rfl) ?_
  refine gt_m0_5 hx hb hts iX7_manyNow_X7 hown hB.1 hC qX7_manyNow_w5 dX7_manyNow_301 ?_
  refine m_callVi (As := []) (κ := 1) (i := 3) (show 3 < 4 by decide) rfl ⟨_, rfl⟩ rfl ⟨hx, hb, hml, hown, hts⟩ (kJx4a65c_size_8abf5 l D cy e0 (bd := bd7) (w := (wN w 16)) (u2 (u2 (u2 (u2 (rz g (400 + w 0 4) (fun _ => 0)) (400 + w 0 4) 0 (g 0 0)) (400 + w 0 4) 1 (nI (w 0 0))) (400 + w 0 4) 2 (nI (w 0 1))) (400 + w 0 4) 3 (nI (w 0 2))) S _ 3 (show 3 < 4 by decide)) (cwV 0 hts gX7_manyNow_Jx4a65c_size_8abf5 rfl rfl rfl (by decide +kernel) ⟨Nat.le_of_ble_eq_true rfl, Nat.le_of_ble_eq_true rfl⟩) hB hG.2 hC hS rfl hl.1 (Nat.le_of_ble_eq_true rfl) dX7_manyNow_304 ⟨Nat.le_of_ble_eq_true rfl, Nat.le_of_ble_eq_true rfl⟩ (fun H locs hC hS => ?_)
  refine q_val (v := nI (w 0 3)) rfl ?_
  refine st_m hx hb hB.1 hC hS hG.2.1 hv8 hn9 (k := 4) (by decide) (by unfold vp_in; decide) dX7_manyNow_307 (fun H locs hC hS => ?_)
  refine lv_dup hx hb dX7_manyNow_308 rfl ?_
  refine lv_iconst (v := 5) hx hb dX7_manyNow_309 (by decide) ?_
  refine lv_iload hx hb dX7_manyNow_310 (lv_at hl 2 rfl) ?_
  refine st_m hx hb hB.1 hC hS hG.2.1 hv8 hn9 (k := 5) (by decide) (by unfold vp_in; decide) dX7_manyNow_312 (fun H locs hC hS => ?_)
  refine lv_dup hx hb dX7_manyNow_313 rfl ?_
  refine lv_bipush (v := 6) hx hb dX7_manyNow_314 (by decide) ?_
  refine lv_aload_n hx hb dX7_manyNow_316 rfl (lv_at hl 6 rfl) ?_
  refine gt_m0_9 hx hb hts iX7_manyNow_X7 hown hB.1 hC qX7_manyNow_w9 dX7_manyNow_317 ?_
  refine q_val (v := g 0 1) ((u2_nk (by decide)).trans ((u2_nk (by decide)).trans ((u2_nk (by decide)).trans ((u2_nk (by decide)).trans ((u2_nr (Ne.symm (rV_ne0 hv8))).trans ((u2_nk (by decide)).trans (rz_nr (by omega)))))))) ?_
  refine st_m hx hb hB.1 hC hS hG.2.1 hv8 hn9 (k := 6) (by decide) (by unfold vp_in; decide) dX7_manyNow_320 (fun H locs hC hS => ?_)
  refine lv_dup hx hb dX7_manyNow_321 rfl ?_
  refine lv_bipush (v := 7) hx hb dX7_manyNow_322 (by decide) ?_
  refine lv_aload_n hx hb dX7_manyNow_324 rfl (lv_at hl 6 rfl) ?_
  refine gt_m0_11 hx hb hts iX7_manyNow_X7 hown hB.1 hC qX7_manyNow_w10 dX7_manyNow_325 ?_
  refine q_val (v := g 0 3) ((u2_nk (by decide)).trans ((u2_nk (by decide)).trans ((u2_nk (by decide)).trans ((u2_nr (Ne.symm (rV_ne0 hv8))).trans ((u2_nk (by decide)).trans ((u2_nk (by decide)).trans ((u2_nk (by decide)).trans (rz_nr (by omega))))))))) ?_
  refine st_m hx hb hB.1 hC hS hG.2.1 hv8 hn9 (k := 7) (by decide) (by unfold vp_in; decide) dX7_manyNow_328 (fun H locs hC hS => ?_)
  refine lv_dup hx hb dX7_manyNow_329 rfl ?_
  refine lv_bipush (v := 8) hx hb dX7_manyNow_330 (by decide) ?_
  refine lv_iload_n hx hb dX7_manyNow_332 rfl (lv_at hl 5 rfl) ?_
  refine st_m hx hb hB.1 hC hS hG.2.1 hv8 hn9 (k := 8) (by decide) (by unfold vp_in; decide) dX7_manyNow_333 (fun H locs hC hS => ?_)
  refine lv_dup hx hb dX7_manyNow_334 rfl ?_
  refine lv_bipush (v := 9) hx hb dX7_manyNow_335 (by decide) ?_
  refine lv_iload_n hx hb dX7_manyNow_337 rfl (lv_at hl 4 rfl) ?_
  refine st_m hx hb hB.1 hC hS hG.2.1 hv8 hn9 (k := 9) (by decide) (by unfold vp_in; decide) dX7_manyNow_338 (fun H locs hC hS => ?_)
  refine lv_dup hx hb dX7_manyNow_339 rfl ?_
  refine lv_bipush (v := 10) hx hb dX7_manyNow_340 (by decide) ?_
  refine lv_iload hx hb dX7_manyNow_342 (lv_at hl 3 rfl) ?_
  refine st_m hx hb hB.1 hC hS hG.2.1 hv8 hn9 (k := 10) (by decide) (by unfold vp_in; decide) dX7_manyNow_344 (fun H locs hC hS => ?_)
  refine lv_dup hx hb dX7_manyNow_345 rfl ?_
  refine lv_bipush (v := 11) hx hb dX7_manyNow_346 (by decide) ?_
  refine lv_iload hx hb dX7_manyNow_348 (lv_at hl 1 rfl) ?_
  refine st_m hx hb hB.1 hC hS hG.2.1 hv8 hn9 (k := 11) (by decide) (by unfold vp_in; decide) dX7_manyNow_350 (fun H locs hC hS => ?_)
  refine lv_dup hx hb dX7_manyNow_351 rfl ?_
  refine lv_bipush (v := 12) hx hb dX7_manyNow_352 (by decide) ?_
  refine lv_aload_n hx hb dX7_manyNow_354 rfl (lv_at hl 6 rfl) ?_
  refine gt_m0_12 hx hb hts iX7_manyNow_X7 hown hB.1 hC qX7_manyNow_w11 dX7_manyNow_355 ?_
  refine q_val (v := g 0 4) ((u2_nk (by decide)).trans ((u2_nk (by decide)).trans ((u2_nk (by decide)).trans ((u2_nk (by decide)).trans ((u2_nk (by decide)).trans ((u2_nk (by decide)).trans ((u2_nk (by decide)).trans ((u2_nr (Ne.symm (rV_ne0 hv8))).trans ((u2_nk (by decide)).trans ((u2_nk (by decide)).trans ((u2_nk (by decide)).trans ((u2_nk (by decide)).trans (rz_nr (by omega)))))))))))))) ?_
  refine st_m hx hb hB.1 hC hS hG.2.1 hv8 hn9 (k := 12) (by decide) (by unfold vp_in; decide) dX7_manyNow_358 (fun H locs hC hS => ?_)
  refine lv_dup hx hb dX7_manyNow_359 rfl ?_
  refine lv_bipush (v := 13) hx hb dX7_manyNow_360 (by decide) ?_
  refine lv_aload_n hx hb dX7_manyNow_362 rfl (lv_at hl 6 rfl) ?_
  refine gt_m0_13 hx hb hts iX7_manyNow_X7 hown hB.1 hC qX7_manyNow_w12 dX7_manyNow_363 ?_
  refine q_val (v := g 0 5) ((u2_nk (by decide)).trans ((u2_nk (by decide)).trans ((u2_nk (by decide)).trans ((u2_nk (by decide)).trans ((u2_nk (by decide)).trans ((u2_nk (by decide)).trans ((u2_nk (by decide)).trans ((u2_nr (Ne.symm (rV_ne0 hv8))).trans ((u2_nk (by decide)).trans ((u2_nk (by decide)).trans ((u2_nk (by decide)).trans ((u2_nk (by decide)).trans ((u2_nk (by decide)).trans (rz_nr (by omega))))))))))))))) ?_
  refine st_m hx hb hB.1 hC hS hG.2.1 hv8 hn9 (k := 13) (by decide) (by unfold vp_in; decide) dX7_manyNow_366 (fun H locs hC hS => ?_)
  refine lv_dup hx hb dX7_manyNow_367 rfl ?_
  refine lv_bipush (v := 14) hx hb dX7_manyNow_368 (by decide) ?_
  refine lv_aload_n hx hb dX7_manyNow_370 rfl (lv_at hl 6 rfl) ?_
  refine gt_m0_14 hx hb hts iX7_manyNow_X7 hown hB.1 hC qX7_manyNow_w13 dX7_manyNow_371 ?_
  refine q_val (v := g 0 6) ((u2_nk (by decide)).trans ((u2_nk (by decide)).trans ((u2_nk (by decide)).trans ((u2_nk (by decide)).trans ((u2_nk (by decide)).trans ((u2_nk (by decide)).trans ((u2_nk (by decide)).trans ((u2_nr (Ne.symm (rV_ne0 hv8))).trans ((u2_nk (by decide)).trans ((u2_nk (by decide)).trans ((u2_nk (by decide)).trans ((u2_nk (by decide)).trans ((u2_nk (by decide)).trans ((u2_nk (by decide)).trans (rz_nr (by omega)))))))))))))))) ?_
  refine st_m hx hb hB.1 hC hS hG.2.1 hv8 hn9 (k := 14) (by decide) (by unfold vp_in; decide) dX7_manyNow_374 (fun H locs hC hS => ?_)
  refine lv_dup hx hb dX7_manyNow_375 rfl ?_
  refine lv_bipush (v := 15) hx hb dX7_manyNow_376 (by decide) ?_
  refine lv_iload hx hb dX7_manyNow_378 (lv_at hl 0 rfl) ?_
  refine st_m hx hb hB.1 hC hS hG.2.1 hv8 hn9 (k := 15) (by decide) (by unfold vp_in; decide) dX7_manyNow_380 (fun H locs hC hS => ?_)
  refine lv_astore (lv' := [(8, .ref (bd7 3 (400 + w 0 4))), (7, .int (fX7_manyNow_L223 (w 0 0) (w 0 1) (w 0 2) (w 0 3) (w 0 4) g u ((fX7_manyNow_L155 (w 0 0) (w 0 1) (w 0 2) (w 0 3) (w 0 4) g u (fX7_manyNow_L106 (w 0 0) (w 0 1) (w 0 2) (w 0 3) (w 0 4) g u (((0 + (g 300 0)) + (g 301 0)) + (g 302 0)) (fX7_manyNow_L10 (w 0 0) (w 0 1) (w 0 2) (w 0 3) (w 0 4) g u (w 0 1) 0 0) (w 0 2) 0 0) (((0 + (g 300 0)) + (g 301 0)) + (g 302 0)) (fX7_manyNow_L10 (w 0 0) (w 0 1) (w 0 2) (w 0 3) (w 0 4) g u (w 0 1) 0 0) (w 0 3) 0 0 0).2) ((fX7_manyNow_L155 (w 0 0) (w 0 1) (w 0 2) (w 0 3) (w 0 4) g u (fX7_manyNow_L106 (w 0 0) (w 0 1) (w 0 2) (w 0 3) (w 0 4) g u (((0 + (g 300 0)) + (g 301 0)) + (g 302 0)) (fX7_manyNow_L10 (w 0 0) (w 0 1) (w 0 2) (w 0 3) (w 0 4) g u (w 0 1) 0 0) (w 0 2) 0 0) (((0 + (g 300 0)) + (g 301 0)) + (g 302 0)) (fX7_manyNow_L10 (w 0 0) (w 0 1) (w 0 2) (w 0 3) (w 0 4) g u (w 0 1) 0 0) (w 0 3) 0 0 0).1) (fX7_manyNow_L106 (w 0 0) (w 0 1) (w 0 2) (w 0 3) (w 0 4) g u (((0 + (g 300 0)) + (g 301 0)) + (g 302 0)) (fX7_manyNow_L10 (w 0 0) (w 0 1) (w 0 2) (w 0 3) (w 0 4) g u (w 0 1) 0 0) (w 0 2) 0 0) (((0 + (g 300 0)) + (g 301 0)) + (g 302 0)) (fX7_manyNow_L10 (w 0 0) (w 0 1) (w 0 2) (w 0 3) (w 0 4) g u (w 0 1) 0 0) (w 0 0) 0 0)), (6, .int ((fX7_manyNow_L155 (w 0 0) (w 0 1) (w 0 2) (w 0 3) (w 0 4) g u (fX7_manyNow_L106 (w 0 0) (w 0 1) (w 0 2) (w 0 3) (w 0 4) g u (((0 + (g 300 0)) + (g 301 0)) + (g 302 0)) (fX7_manyNow_L10 (w 0 0) (w 0 1) (w 0 2) (w 0 3) (w 0 4) g u (w 0 1) 0 0) (w 0 2) 0 0) (((0 + (g 300 0)) + (g 301 0)) + (g 302 0)) (fX7_manyNow_L10 (w 0 0) (w 0 1) (w 0 2) (w 0 3) (w 0 4) g u (w 0 1) 0 0) (w 0 3) 0 0 0).2)), (5, .int ((fX7_manyNow_L155 (w 0 0) (w 0 1) (w 0 2) (w 0 3) (w 0 4) g u (fX7_manyNow_L106 (w 0 0) (w 0 1) (w 0 2) (w 0 3) (w 0 4) g u (((0 + (g 300 0)) + (g 301 0)) + (g 302 0)) (fX7_manyNow_L10 (w 0 0) (w 0 1) (w 0 2) (w 0 3) (w 0 4) g u (w 0 1) 0 0) (w 0 2) 0 0) (((0 + (g 300 0)) + (g 301 0)) + (g 302 0)) (fX7_manyNow_L10 (w 0 0) (w 0 1) (w 0 2) (w 0 3) (w 0 4) g u (w 0 1) 0 0) (w 0 3) 0 0 0).1)), (4, .int (fX7_manyNow_L106 (w 0 0) (w 0 1) (w 0 2) (w 0 3) (w 0 4) g u (((0 + (g 300 0)) + (g 301 0)) + (g 302 0)) (fX7_manyNow_L10 (w 0 0) (w 0 1) (w 0 2) (w 0 3) (w 0 4) g u (w 0 1) 0 0) (w 0 2) 0 0)), (3, .int (((0 + (g 300 0)) + (g 301 0)) + (g 302 0))), (2, .int (fX7_manyNow_L10 (w 0 0) (w 0 1) (w 0 2) (w 0 3) (w 0 4) g u (w 0 1) 0 0)), (0, .ref (bd7 0 0)), (1, .int u)]) hx hb dX7_manyNow_381 hl (by decide) rfl (fun ls hl => ?_)
  refine lv_aload hx hb dX7_manyNow_383 (lv_at hl 0 rfl) ?_
  refine lv_iload_n hx hb dX7_manyNow_385 rfl (lv_at hl 8 rfl) ?_
  refine ld_m hx hb hB.1 hC hv8 hn9 (k := u.toNatClampNeg) rfl hp1 dX7_manyNow_386 ?_
  refine W.widen (k := 5) (n := 32) (Nat.le_of_ble_eq_true rfl) (Nat.le_of_ble_eq_true rfl) ?_
  exact m_reti hx hb hr hG hC hS (mEq_tmp (mEq_tmp (mEq_tmp (mEq_tmp (mEq_tmp (mEq_tmp (mEq_tmp (mEq_tmp (mEq_tmp (mEq_tmp (mEq_tmp (mEq_tmp (mEq_tmp (mEq_tmp (mEq_tmp (mEq_tmp (mEq_rz mEq_rf hw0 (by omega)) hw0 (by omega)) hw0 (by omega)) hw0 (by omega)) hw0 (by omega)) hw0 (by omega)) hw0 (by omega)) hw0 (by omega)) hw0 (by omega)) hw0 (by omega)) hw0 (by omega)) hw0 (by omega)) hw0 (by omega)) hw0 (by omega)) hw0 (by omega)) hw0 (by omega)) hw0 (by omega)) rfl hlocks dX7_manyNow_387
def fX7_many (na nb nc nd T : Nat) (g : Md) (u : Int32) : Int32 × Md := if (fX7_is u 0 15) = 0 then (((fX7_refuse na nb nc nd T (u2 g 0 20 0) 1).1, (fX7_refuse na nb nc nd T (u2 g 0 20 0) 1).2)) else ((fX7_manyNow na nb nc nd T (u2 g 0 20 0) u, (u2 g 0 20 0)))
theorem qX7_many_w1 : Cond.fieldLink RX7 41 "CherryStationModel" "thrown" "I" ∈ wsX7_many := List.mem_of_getElem? (i := 1) rfl
theorem iX7_many_X7 : ∀ w ∈ wsX70, w ∈ wsX7_many := fun _ h => (List.mem_cons_of_mem _ (List.mem_append_left _ (List.mem_append_left _ (List.mem_append_right _ h))))
set_option maxRecDepth 100000 in
set_option maxHeartbeats 4000000 in
theorem kX7_many (l : Launch) (D : va_G) (cy : Nat → ClassId) (e0 : Nat) {bd w : Nat → Nat → Nat} (g : Md) (S : Int64) (sz : Nat) (u : Int32) (hT4 : w 0 4 + 1 ≤ 50) (hp1 : ¬ ((fX7_is u 0 15) = 0) → ((vp_in u 16))) : Met l yX7_many wsX7_many ({ frames := 4, cells := 5, slots := 32, locals := 82 } : Room) (va_Pc [.ref (bd 0 0), .int u] (mPre D cy e0 bd w g S sz)) (mQi D cy bd w (fX7_many (w 0 0) (w 0 1) (w 0 2) (w 0 3) (w 0 4) g u).1 (fX7_many (w 0 0) (w 0 1) (w 0 2) (w 0 3) (w 0 4) g u).2 S sz) 5 32 (mA bd w sz) := by
  refine q_start (cc := cX7_many) (maxL := 2) (ret := (some .int)) (own := RX7) (by decide) rfl rfl (Nat.le_of_ble_eq_true rfl) ?_
  intro p e s m below meth c hx hb hr hml hts hown hlocks ⟨hsz, hC, hB⟩ ls hl
  subst hsz
  have hS : va_S (mA bd w s.heap.size) s.heap s.heap [] := va_S.rf
  have hG : mG e0 bd w s.heap.size bd w := mG.rf hB.2.2.1
  have hw0 := hC.1
  have hl : lv_has ls 2 [(0, .ref (bd 0 0)), (1, .int u)] := hl
  refine lv_aload_n hx hb dX7_many_0 rfl (lv_at hl 0 rfl) ?_
  refine lv_iconst (v := 0) hx hb dX7_many_1 (by decide) ?_
  refine pt_m0_0 hx hb hts iX7_many_X7 hown hB.1 hC hS hG.2.1 qX7_many_w1 dX7_many_2 (fun H locs hC hS => ?_)
  refine lv_iload_n hx hb dX7_many_5 rfl (lv_at hl 1 rfl) ?_
  refine lv_iconst (v := 0) hx hb dX7_many_6 (by decide) ?_
  refine lv_bipush (v := 15) hx hb dX7_many_7 (by decide) ?_
  refine m_callSi (As := [.int u, .int 0, .int 15])  ⟨hx, hb, hml, hown, hts⟩ (kX7_is l D cy e0 (bd := bd) (w := w) (u2 g 0 20 0) S _ u 0 15 ) (va_cwS 3 hts gX7_many_X7_is rfl rfl rfl (by decide +kernel) ⟨Nat.le_of_ble_eq_true rfl, Nat.le_of_ble_eq_true rfl⟩) hB hG.2 hC hS rfl hl.1 (Nat.le_of_ble_eq_true rfl) dX7_many_9 ⟨Nat.le_of_ble_eq_true rfl, Nat.le_of_ble_eq_true rfl⟩ (fun H locs hC hS => ?_)
  refine lv_if_eq (tgt := 23) hx hb dX7_many_12 (by decide) (fun c1 => ?_) (fun c1 => ?_)
  · skip
    refine lv_aload_n hx hb dX7_many_23 rfl (lv_at hl 0 rfl) ?_
    refine lv_iconst (v := 1) hx hb dX7_many_24 (by decide) ?_
    refine m_callVi (As := [.int 1]) (κ := 0) (i := 0) rfl rfl ⟨_, rfl⟩ rfl ⟨hx, hb, hml, hown, hts⟩ (kX7_refuse l D cy e0 (bd := bd) (w := w) (u2 g 0 20 0) S _ 1 ) (cwV 1 hts gX7_many_X7_refuse rfl rfl rfl (by decide +kernel) ⟨Nat.le_of_ble_eq_true rfl, Nat.le_of_ble_eq_true rfl⟩) hB hG.2 hC hS rfl hl.1 (Nat.le_of_ble_eq_true rfl) dX7_many_25 ⟨Nat.le_of_ble_eq_true rfl, Nat.le_of_ble_eq_true rfl⟩ (fun H locs hC hS => ?_)
    refine W.widen (k := 5) (n := 32) (Nat.le_of_ble_eq_true rfl) (Nat.le_of_ble_eq_true rfl) ?_
    have e9 : fX7_many (w 0 0) (w 0 1) (w 0 2) (w 0 3) (w 0 4) g u = ((fX7_refuse (w 0 0) (w 0 1) (w 0 2) (w 0 3) (w 0 4) (u2 g 0 20 0) 1).1, (fX7_refuse (w 0 0) (w 0 1) (w 0 2) (w 0 3) (w 0 4) (u2 g 0 20 0) 1).2) := (by unfold fX7_many; rw [if_pos c1])
    exact m_reti hx hb hr hG hC hS (mEq_of (by rw [e9])) (by rw [e9]) hlocks dX7_many_28
  · skip
    refine lv_aload_n hx hb dX7_many_15 rfl (lv_at hl 0 rfl) ?_
    refine lv_iload_n hx hb dX7_many_16 rfl (lv_at hl 1 rfl) ?_
    refine m_callVi (As := [.int u]) (κ := 0) (i := 0) rfl rfl ⟨_, rfl⟩ rfl ⟨hx, hb, hml, hown, hts⟩ (kX7_manyNow l D cy e0 (bd := bd) (w := w) (u2 g 0 20 0) S _ u (by show w 0 4 + 1 ≤ 50; omega) (hp1 c1)) (cwV 1 hts gX7_many_X7_manyNow rfl rfl rfl (by decide +kernel) ⟨Nat.le_of_ble_eq_true rfl, Nat.le_of_ble_eq_true rfl⟩) hB hG.2 hC hS rfl hl.1 (Nat.le_of_ble_eq_true rfl) dX7_many_17 ⟨Nat.le_of_ble_eq_true rfl, Nat.le_of_ble_eq_true rfl⟩ (fun H locs hC hS => ?_)
    refine lv_goto (tgt := 28) hx hb dX7_many_20 (by decide) ?_
    refine W.widen (k := 5) (n := 32) (Nat.le_of_ble_eq_true rfl) (Nat.le_of_ble_eq_true rfl) ?_
    have e9 : fX7_many (w 0 0) (w 0 1) (w 0 2) (w 0 3) (w 0 4) g u = (fX7_manyNow (w 0 0) (w 0 1) (w 0 2) (w 0 3) (w 0 4) (u2 g 0 20 0) u, (u2 g 0 20 0)) := (by unfold fX7_many; rw [if_neg c1])
    exact m_reti hx hb hr hG hC hS (mEq_of (by rw [e9])) (by rw [e9]) hlocks dX7_many_28
def fX7_ofFarm (na nb nc nd T : Nat) (g : Md) (x : Int32) (u : Int32) : Int32 × Md := if (fX7_isFarm na nb nc nd T (u2 g 0 20 0) x) = 0 then (((fX7_refuse na nb nc nd T (u2 g 0 20 0) 1).1, (fX7_refuse na nb nc nd T (u2 g 0 20 0) 1).2)) else (if (fX7_is u 0 4) = 0 then (((fX7_refuse na nb nc nd T (u2 g 0 20 0) 2).1, (fX7_refuse na nb nc nd T (u2 g 0 20 0) 2).2)) else ((fX7_ofFarmNow na nb nc nd T (u2 g 0 20 0) x u, (u2 g 0 20 0))))
theorem qX7_ofFarm_w1 : Cond.fieldLink RX7 41 "CherryStationModel" "thrown" "I" ∈ wsX7_ofFarm := List.mem_of_getElem? (i := 1) rfl
theorem iX7_ofFarm_X7 : ∀ w ∈ wsX70, w ∈ wsX7_ofFarm := fun _ h => (List.mem_cons_of_mem _ (List.mem_append_left _ (List.mem_append_left _ (List.mem_append_right _ h))))
set_option maxRecDepth 100000 in
set_option maxHeartbeats 4000000 in
theorem kX7_ofFarm (l : Launch) (D : va_G) (cy : Nat → ClassId) (e0 : Nat) {bd w : Nat → Nat → Nat} (g : Md) (S : Int64) (sz : Nat) (x : Int32) (u : Int32) (hp1 : ¬ ((fX7_isFarm (w 0 0) (w 0 1) (w 0 2) (w 0 3) (w 0 4) (u2 g 0 20 0) x) = 0) → ¬ ((fX7_is u 0 4) = 0) → (¬ (4 ≤ u) → vp_in u 4)) : Met l yX7_ofFarm wsX7_ofFarm ({ frames := 4, cells := 1, slots := 4, locals := 89 } : Room) (va_Pc [.ref (bd 0 0), .int x, .int u] (mPre D cy e0 bd w g S sz)) (mQi D cy bd w (fX7_ofFarm (w 0 0) (w 0 1) (w 0 2) (w 0 3) (w 0 4) g x u).1 (fX7_ofFarm (w 0 0) (w 0 1) (w 0 2) (w 0 3) (w 0 4) g x u).2 S sz) 1 4 (mA bd w sz) := by
  refine q_start (cc := cX7_ofFarm) (maxL := 3) (ret := (some .int)) (own := RX7) (by decide) rfl rfl (Nat.le_of_ble_eq_true rfl) ?_
  intro p e s m below meth c hx hb hr hml hts hown hlocks ⟨hsz, hC, hB⟩ ls hl
  subst hsz
  have hS : va_S (mA bd w s.heap.size) s.heap s.heap [] := va_S.rf
  have hG : mG e0 bd w s.heap.size bd w := mG.rf hB.2.2.1
  have hw0 := hC.1
  have hl : lv_has ls 3 [(0, .ref (bd 0 0)), (1, .int x), (2, .int u)] := hl
  refine lv_aload_n hx hb dX7_ofFarm_0 rfl (lv_at hl 0 rfl) ?_
  refine lv_iconst (v := 0) hx hb dX7_ofFarm_1 (by decide) ?_
  refine pt_m0_0 hx hb hts iX7_ofFarm_X7 hown hB.1 hC hS hG.2.1 qX7_ofFarm_w1 dX7_ofFarm_2 (fun H locs hC hS => ?_)
  refine lv_aload_n hx hb dX7_ofFarm_5 rfl (lv_at hl 0 rfl) ?_
  refine lv_iload_n hx hb dX7_ofFarm_6 rfl (lv_at hl 1 rfl) ?_
  refine m_callVi (As := [.int x]) (κ := 0) (i := 0) rfl rfl ⟨_, rfl⟩ rfl ⟨hx, hb, hml, hown, hts⟩ (kX7_isFarm l D cy e0 (bd := bd) (w := w) (u2 g 0 20 0) S _ x ) (cwV 1 hts gX7_ofFarm_X7_isFarm rfl rfl rfl (by decide +kernel) ⟨Nat.le_of_ble_eq_true rfl, Nat.le_of_ble_eq_true rfl⟩) hB hG.2 hC hS rfl hl.1 (Nat.le_of_ble_eq_true rfl) dX7_ofFarm_7 ⟨Nat.le_of_ble_eq_true rfl, Nat.le_of_ble_eq_true rfl⟩ (fun H locs hC hS => ?_)
  refine lv_if_ne (tgt := 19) hx hb dX7_ofFarm_10 (by decide) (fun c1 => ?_) (fun c1 => ?_)
  · skip
    refine lv_iload_n hx hb dX7_ofFarm_19 rfl (lv_at hl 2 rfl) ?_
    refine lv_iconst (v := 0) hx hb dX7_ofFarm_20 (by decide) ?_
    refine lv_iconst (v := 4) hx hb dX7_ofFarm_21 (by decide) ?_
    refine m_callSi (As := [.int u, .int 0, .int 4])  ⟨hx, hb, hml, hown, hts⟩ (kX7_is l D cy e0 (bd := bd) (w := w) (u2 g 0 20 0) S _ u 0 4 ) (va_cwS 3 hts gX7_ofFarm_X7_is rfl rfl rfl (by decide +kernel) ⟨Nat.le_of_ble_eq_true rfl, Nat.le_of_ble_eq_true rfl⟩) hB hG.2 hC hS rfl hl.1 (Nat.le_of_ble_eq_true rfl) dX7_ofFarm_22 ⟨Nat.le_of_ble_eq_true rfl, Nat.le_of_ble_eq_true rfl⟩ (fun H locs hC hS => ?_)
    refine lv_if_eq (tgt := 37) hx hb dX7_ofFarm_25 (by decide) (fun c2 => ?_) (fun c2 => ?_)
    · skip
      refine lv_aload_n hx hb dX7_ofFarm_37 rfl (lv_at hl 0 rfl) ?_
      refine lv_iconst (v := 2) hx hb dX7_ofFarm_38 (by decide) ?_
      refine m_callVi (As := [.int 2]) (κ := 0) (i := 0) rfl rfl ⟨_, rfl⟩ rfl ⟨hx, hb, hml, hown, hts⟩ (kX7_refuse l D cy e0 (bd := bd) (w := w) (u2 g 0 20 0) S _ 2 ) (cwV 1 hts gX7_ofFarm_X7_refuse rfl rfl rfl (by decide +kernel) ⟨Nat.le_of_ble_eq_true rfl, Nat.le_of_ble_eq_true rfl⟩) hB hG.2 hC hS rfl hl.1 (Nat.le_of_ble_eq_true rfl) dX7_ofFarm_39 ⟨Nat.le_of_ble_eq_true rfl, Nat.le_of_ble_eq_true rfl⟩ (fun H locs hC hS => ?_)
      refine W.widen (k := 1) (n := 4) (Nat.le_of_ble_eq_true rfl) (Nat.le_of_ble_eq_true rfl) ?_
      have e9 : fX7_ofFarm (w 0 0) (w 0 1) (w 0 2) (w 0 3) (w 0 4) g x u = ((fX7_refuse (w 0 0) (w 0 1) (w 0 2) (w 0 3) (w 0 4) (u2 g 0 20 0) 2).1, (fX7_refuse (w 0 0) (w 0 1) (w 0 2) (w 0 3) (w 0 4) (u2 g 0 20 0) 2).2) := (by unfold fX7_ofFarm; rw [if_neg c1, if_pos c2])
      exact m_reti hx hb hr hG hC hS (mEq_of (by rw [e9])) (by rw [e9]) hlocks dX7_ofFarm_42
    · skip
      refine lv_aload_n hx hb dX7_ofFarm_28 rfl (lv_at hl 0 rfl) ?_
      refine lv_iload_n hx hb dX7_ofFarm_29 rfl (lv_at hl 1 rfl) ?_
      refine lv_iload_n hx hb dX7_ofFarm_30 rfl (lv_at hl 2 rfl) ?_
      refine m_callVi (As := [.int x, .int u]) (κ := 0) (i := 0) rfl rfl ⟨_, rfl⟩ rfl ⟨hx, hb, hml, hown, hts⟩ (kX7_ofFarmNow l D cy e0 (bd := bd) (w := w) (u2 g 0 20 0) S _ x (isFarm_in (w := w) hw0 c1) u (hp1 c1 c2)) (cwV 2 hts gX7_ofFarm_X7_ofFarmNow rfl rfl rfl (by decide +kernel) ⟨Nat.le_of_ble_eq_true rfl, Nat.le_of_ble_eq_true rfl⟩) hB hG.2 hC hS rfl hl.1 (Nat.le_of_ble_eq_true rfl) dX7_ofFarm_31 ⟨Nat.le_of_ble_eq_true rfl, Nat.le_of_ble_eq_true rfl⟩ (fun H locs hC hS => ?_)
      refine lv_goto (tgt := 42) hx hb dX7_ofFarm_34 (by decide) ?_
      refine W.widen (k := 1) (n := 4) (Nat.le_of_ble_eq_true rfl) (Nat.le_of_ble_eq_true rfl) ?_
      have e9 : fX7_ofFarm (w 0 0) (w 0 1) (w 0 2) (w 0 3) (w 0 4) g x u = (fX7_ofFarmNow (w 0 0) (w 0 1) (w 0 2) (w 0 3) (w 0 4) (u2 g 0 20 0) x u, (u2 g 0 20 0)) := (by unfold fX7_ofFarm; rw [if_neg c1, if_neg c2])
      exact m_reti hx hb hr hG hC hS (mEq_of (by rw [e9])) (by rw [e9]) hlocks dX7_ofFarm_42
  · skip
    refine lv_aload_n hx hb dX7_ofFarm_13 rfl (lv_at hl 0 rfl) ?_
    refine lv_iconst (v := 1) hx hb dX7_ofFarm_14 (by decide) ?_
    refine m_callVi (As := [.int 1]) (κ := 0) (i := 0) rfl rfl ⟨_, rfl⟩ rfl ⟨hx, hb, hml, hown, hts⟩ (kX7_refuse l D cy e0 (bd := bd) (w := w) (u2 g 0 20 0) S _ 1 ) (cwV 1 hts gX7_ofFarm_X7_refuse rfl rfl rfl (by decide +kernel) ⟨Nat.le_of_ble_eq_true rfl, Nat.le_of_ble_eq_true rfl⟩) hB hG.2 hC hS rfl hl.1 (Nat.le_of_ble_eq_true rfl) dX7_ofFarm_15 ⟨Nat.le_of_ble_eq_true rfl, Nat.le_of_ble_eq_true rfl⟩ (fun H locs hC hS => ?_)
    refine W.widen (k := 1) (n := 4) (Nat.le_of_ble_eq_true rfl) (Nat.le_of_ble_eq_true rfl) ?_
    have e9 : fX7_ofFarm (w 0 0) (w 0 1) (w 0 2) (w 0 3) (w 0 4) g x u = ((fX7_refuse (w 0 0) (w 0 1) (w 0 2) (w 0 3) (w 0 4) (u2 g 0 20 0) 1).1, (fX7_refuse (w 0 0) (w 0 1) (w 0 2) (w 0 3) (w 0 4) (u2 g 0 20 0) 1).2) := (by unfold fX7_ofFarm; rw [if_pos c1])
    exact m_reti hx hb hr hG hC hS (mEq_of (by rw [e9])) (by rw [e9]) hlocks dX7_ofFarm_18
def fX7_ofTank (na nb nc nd T : Nat) (g : Md) (x : Int32) (u : Int32) : Int32 × Md := if (fX7_isTank x) = 0 then (((fX7_refuse na nb nc nd T (u2 g 0 20 0) 1).1, (fX7_refuse na nb nc nd T (u2 g 0 20 0) 1).2)) else (if (fX7_is u 0 4) = 0 then (((fX7_refuse na nb nc nd T (u2 g 0 20 0) 2).1, (fX7_refuse na nb nc nd T (u2 g 0 20 0) 2).2)) else ((fX7_ofTankNow na nb nc nd T (u2 g 0 20 0) x u, (u2 g 0 20 0))))
theorem qX7_ofTank_w1 : Cond.fieldLink RX7 41 "CherryStationModel" "thrown" "I" ∈ wsX7_ofTank := List.mem_of_getElem? (i := 1) rfl
theorem iX7_ofTank_X7 : ∀ w ∈ wsX70, w ∈ wsX7_ofTank := fun _ h => (List.mem_cons_of_mem _ (List.mem_append_right _ h))
set_option maxRecDepth 100000 in
set_option maxHeartbeats 4000000 in
theorem kX7_ofTank (l : Launch) (D : va_G) (cy : Nat → ClassId) (e0 : Nat) {bd w : Nat → Nat → Nat} (g : Md) (S : Int64) (sz : Nat) (x : Int32) (u : Int32) (hp1 : ¬ ((fX7_isTank x) = 0) → ¬ ((fX7_is u 0 4) = 0) → (vp_in x 3)) (hp2 : ¬ ((fX7_isTank x) = 0) → ¬ ((fX7_is u 0 4) = 0) → (¬ (4 ≤ u) → (vp_in u 23))) : Met l yX7_ofTank wsX7_ofTank ({ frames := 2, cells := 0, slots := 0, locals := 45 } : Room) (va_Pc [.ref (bd 0 0), .int x, .int u] (mPre D cy e0 bd w g S sz)) (mQi D cy bd w (fX7_ofTank (w 0 0) (w 0 1) (w 0 2) (w 0 3) (w 0 4) g x u).1 (fX7_ofTank (w 0 0) (w 0 1) (w 0 2) (w 0 3) (w 0 4) g x u).2 S sz) 0 0 (mA bd w sz) := by
  refine q_start (cc := cX7_ofTank) (maxL := 3) (ret := (some .int)) (own := RX7) (by decide) rfl rfl (Nat.le_of_ble_eq_true rfl) ?_
  intro p e s m below meth c hx hb hr hml hts hown hlocks ⟨hsz, hC, hB⟩ ls hl
  subst hsz
  have hS : va_S (mA bd w s.heap.size) s.heap s.heap [] := va_S.rf
  have hG : mG e0 bd w s.heap.size bd w := mG.rf hB.2.2.1
  have hw0 := hC.1
  have hl : lv_has ls 3 [(0, .ref (bd 0 0)), (1, .int x), (2, .int u)] := hl
  refine lv_aload_n hx hb dX7_ofTank_0 rfl (lv_at hl 0 rfl) ?_
  refine lv_iconst (v := 0) hx hb dX7_ofTank_1 (by decide) ?_
  refine pt_m0_0 hx hb hts iX7_ofTank_X7 hown hB.1 hC hS hG.2.1 qX7_ofTank_w1 dX7_ofTank_2 (fun H locs hC hS => ?_)
  refine lv_iload_n hx hb dX7_ofTank_5 rfl (lv_at hl 1 rfl) ?_
  refine m_callSi (As := [.int x])  ⟨hx, hb, hml, hown, hts⟩ (kX7_isTank l D cy e0 (bd := bd) (w := w) (u2 g 0 20 0) S _ x ) (va_cwS 1 hts gX7_ofTank_X7_isTank rfl rfl rfl (by decide +kernel) ⟨Nat.le_of_ble_eq_true rfl, Nat.le_of_ble_eq_true rfl⟩) hB hG.2 hC hS rfl hl.1 (Nat.le_of_ble_eq_true rfl) dX7_ofTank_6 ⟨Nat.le_of_ble_eq_true rfl, Nat.le_of_ble_eq_true rfl⟩ (fun H locs hC hS => ?_)
  refine lv_if_ne (tgt := 18) hx hb dX7_ofTank_9 (by decide) (fun c1 => ?_) (fun c1 => ?_)
  · skip
    refine lv_iload_n hx hb dX7_ofTank_18 rfl (lv_at hl 2 rfl) ?_
    refine lv_iconst (v := 0) hx hb dX7_ofTank_19 (by decide) ?_
    refine lv_iconst (v := 4) hx hb dX7_ofTank_20 (by decide) ?_
    refine m_callSi (As := [.int u, .int 0, .int 4])  ⟨hx, hb, hml, hown, hts⟩ (kX7_is l D cy e0 (bd := bd) (w := w) (u2 g 0 20 0) S _ u 0 4 ) (va_cwS 3 hts gX7_ofTank_X7_is rfl rfl rfl (by decide +kernel) ⟨Nat.le_of_ble_eq_true rfl, Nat.le_of_ble_eq_true rfl⟩) hB hG.2 hC hS rfl hl.1 (Nat.le_of_ble_eq_true rfl) dX7_ofTank_21 ⟨Nat.le_of_ble_eq_true rfl, Nat.le_of_ble_eq_true rfl⟩ (fun H locs hC hS => ?_)
    refine lv_if_eq (tgt := 36) hx hb dX7_ofTank_24 (by decide) (fun c2 => ?_) (fun c2 => ?_)
    · skip
      refine lv_aload_n hx hb dX7_ofTank_36 rfl (lv_at hl 0 rfl) ?_
      refine lv_iconst (v := 2) hx hb dX7_ofTank_37 (by decide) ?_
      refine m_callVi (As := [.int 2]) (κ := 0) (i := 0) rfl rfl ⟨_, rfl⟩ rfl ⟨hx, hb, hml, hown, hts⟩ (kX7_refuse l D cy e0 (bd := bd) (w := w) (u2 g 0 20 0) S _ 2 ) (cwV 1 hts gX7_ofTank_X7_refuse rfl rfl rfl (by decide +kernel) ⟨Nat.le_of_ble_eq_true rfl, Nat.le_of_ble_eq_true rfl⟩) hB hG.2 hC hS rfl hl.1 (Nat.le_of_ble_eq_true rfl) dX7_ofTank_38 ⟨Nat.le_of_ble_eq_true rfl, Nat.le_of_ble_eq_true rfl⟩ (fun H locs hC hS => ?_)
      have e9 : fX7_ofTank (w 0 0) (w 0 1) (w 0 2) (w 0 3) (w 0 4) g x u = ((fX7_refuse (w 0 0) (w 0 1) (w 0 2) (w 0 3) (w 0 4) (u2 g 0 20 0) 2).1, (fX7_refuse (w 0 0) (w 0 1) (w 0 2) (w 0 3) (w 0 4) (u2 g 0 20 0) 2).2) := (by unfold fX7_ofTank; rw [if_neg c1, if_pos c2])
      exact m_reti hx hb hr hG hC hS (mEq_of (by rw [e9])) (by rw [e9]) hlocks dX7_ofTank_41
    · skip
      refine lv_aload_n hx hb dX7_ofTank_27 rfl (lv_at hl 0 rfl) ?_
      refine lv_iload_n hx hb dX7_ofTank_28 rfl (lv_at hl 1 rfl) ?_
      refine lv_iload_n hx hb dX7_ofTank_29 rfl (lv_at hl 2 rfl) ?_
      refine m_callVi (As := [.int x, .int u]) (κ := 0) (i := 0) rfl rfl ⟨_, rfl⟩ rfl ⟨hx, hb, hml, hown, hts⟩ (kX7_ofTankNow l D cy e0 (bd := bd) (w := w) (u2 g 0 20 0) S _ x u (hp1 c1 c2) (hp2 c1 c2)) (cwV 2 hts gX7_ofTank_X7_ofTankNow rfl rfl rfl (by decide +kernel) ⟨Nat.le_of_ble_eq_true rfl, Nat.le_of_ble_eq_true rfl⟩) hB hG.2 hC hS rfl hl.1 (Nat.le_of_ble_eq_true rfl) dX7_ofTank_30 ⟨Nat.le_of_ble_eq_true rfl, Nat.le_of_ble_eq_true rfl⟩ (fun H locs hC hS => ?_)
      refine lv_goto (tgt := 41) hx hb dX7_ofTank_33 (by decide) ?_
      have e9 : fX7_ofTank (w 0 0) (w 0 1) (w 0 2) (w 0 3) (w 0 4) g x u = (fX7_ofTankNow (w 0 0) (w 0 1) (w 0 2) (w 0 3) (w 0 4) (u2 g 0 20 0) x u, (u2 g 0 20 0)) := (by unfold fX7_ofTank; rw [if_neg c1, if_neg c2])
      exact m_reti hx hb hr hG hC hS (mEq_of (by rw [e9])) (by rw [e9]) hlocks dX7_ofTank_41
  · skip
    refine lv_aload_n hx hb dX7_ofTank_12 rfl (lv_at hl 0 rfl) ?_
    refine lv_iconst (v := 1) hx hb dX7_ofTank_13 (by decide) ?_
    refine m_callVi (As := [.int 1]) (κ := 0) (i := 0) rfl rfl ⟨_, rfl⟩ rfl ⟨hx, hb, hml, hown, hts⟩ (kX7_refuse l D cy e0 (bd := bd) (w := w) (u2 g 0 20 0) S _ 1 ) (cwV 1 hts gX7_ofTank_X7_refuse rfl rfl rfl (by decide +kernel) ⟨Nat.le_of_ble_eq_true rfl, Nat.le_of_ble_eq_true rfl⟩) hB hG.2 hC hS rfl hl.1 (Nat.le_of_ble_eq_true rfl) dX7_ofTank_14 ⟨Nat.le_of_ble_eq_true rfl, Nat.le_of_ble_eq_true rfl⟩ (fun H locs hC hS => ?_)
    have e9 : fX7_ofTank (w 0 0) (w 0 1) (w 0 2) (w 0 3) (w 0 4) g x u = ((fX7_refuse (w 0 0) (w 0 1) (w 0 2) (w 0 3) (w 0 4) (u2 g 0 20 0) 1).1, (fX7_refuse (w 0 0) (w 0 1) (w 0 2) (w 0 3) (w 0 4) (u2 g 0 20 0) 1).2) := (by unfold fX7_ofTank; rw [if_pos c1])
    exact m_reti hx hb hr hG hC hS (mEq_of (by rw [e9])) (by rw [e9]) hlocks dX7_ofTank_17
def fX7_ofBedNow (na nb nc nd T : Nat) (g : Md) (be : Int32) (u : Int32) : Int32 := (u2 (u2 (u2 (u2 (u2 (u2 (u2 (u2 (rz g (400 + T) (fun _ => 0)) (400 + T) 0 (g (303 + be.toNatClampNeg) 8)) (400 + T) 1 (g (303 + be.toNatClampNeg) 9)) (400 + T) 2 (g (303 + be.toNatClampNeg) 0)) (400 + T) 3 (g (303 + be.toNatClampNeg) 4)) (400 + T) 4 (g (303 + be.toNatClampNeg) 5)) (400 + T) 5 (g (303 + be.toNatClampNeg) 6)) (400 + T) 6 (g (303 + be.toNatClampNeg) 7)) (400 + T) 7 (g (303 + be.toNatClampNeg) 3)) (400 + T) u.toNatClampNeg
theorem qX7_ofBedNow_w1 : Cond.fieldLink RX7 24 "CherryStationModel" "beds" "Ljava/util/ArrayList;" ∈ wsX7_ofBedNow := List.mem_of_getElem? (i := 1) rfl
theorem qX7_ofBedNow_w2 : Cond.classLink RX7 72 "[I" ∈ wsX7_ofBedNow := List.mem_of_getElem? (i := 2) rfl
theorem qX7_ofBedNow_w3 : Cond.arrayClass .int ∈ wsX7_ofBedNow := List.mem_of_getElem? (i := 3) rfl
theorem iX7_ofBedNow_X7 : ∀ w ∈ wsX70, w ∈ wsX7_ofBedNow := fun _ h => (List.mem_cons_of_mem _ (List.mem_append_left _ (List.mem_append_right _ h)))
set_option maxRecDepth 100000 in
set_option maxHeartbeats 4000000 in
theorem kX7_ofBedNow (l : Launch) (D : va_G) (cy : Nat → ClassId) (e0 : Nat) {bd w : Nat → Nat → Nat} (g : Md) (S : Int64) (sz : Nat) (be : Int32) (h_be : vp_in be (w 0 2)) (u : Int32) (hT4 : w 0 4 + 1 ≤ 50) (hp1 : (vp_in u 8)) : Met l yX7_ofBedNow wsX7_ofBedNow ({ frames := 3, cells := 1, slots := 8, locals := 64 } : Room) (va_Pc [.ref (bd 0 0), .int be, .int u] (mPre D cy e0 bd w g S sz)) (mQi D cy bd w (fX7_ofBedNow (w 0 0) (w 0 1) (w 0 2) (w 0 3) (w 0 4) g be u) g S sz) 1 8 (mA bd w sz) := by
  refine q_start (cc := cX7_ofBedNow) (maxL := 5) (ret := (some .int)) (own := RX7) (by decide) rfl rfl (Nat.le_of_ble_eq_true rfl) ?_
  intro p e s m below meth c hx hb hr hml hts hown hlocks ⟨hsz, hC, hB⟩ ls hl
  subst hsz
  have hS : va_S (mA bd w s.heap.size) s.heap s.heap [] := va_S.rf
  have hG : mG e0 bd w s.heap.size bd w := mG.rf hB.2.2.1
  have hw0 := hC.1
  have hl : lv_has ls 5 [(0, .ref (bd 0 0)), (1, .int be), (2, .int u)] := hl
  refine lv_aload_n hx hb dX7_ofBedNow_0 rfl (lv_at hl 0 rfl) ?_
  refine gt_m0_4 hx hb hts iX7_ofBedNow_X7 hown hB.1 hC qX7_ofBedNow_w1 dX7_ofBedNow_1 ?_
  refine lv_iload_n hx hb dX7_ofBedNow_4 rfl (lv_at hl 1 rfl) ?_
  refine m_callVr (As := [.int be]) (κ := 1) (i := 2) (show 2 < 4 by decide) rfl ⟨_, rfl⟩ rfl ⟨hx, hb, hml, hown, hts⟩ (kJx4a65c_get_915e3 l D cy e0 (bd := bd) (w := w) g S _ 2 (show 2 < 4 by decide) be h_be) (cwV 1 hts gX7_ofBedNow_Jx4a65c_get_915e3 rfl rfl rfl (by decide +kernel) ⟨Nat.le_of_ble_eq_true rfl, Nat.le_of_ble_eq_true rfl⟩) hB hG.2 hC hS rfl hl.1 (Nat.le_of_ble_eq_true rfl) dX7_ofBedNow_5 ⟨Nat.le_of_ble_eq_true rfl, Nat.le_of_ble_eq_true rfl⟩ (fun H locs hC hS => ?_)
  refine m_stk (st' := [.ref (bd 3 (303 + be.toNatClampNeg))]) rfl ?_
  refine m_cast hx hb hown (hts _ qX7_ofBedNow_w2) hB.1 hC (rV_303 (vp_lt h_be)) dX7_ofBedNow_8 ?_
  refine lv_astore_n (lv' := [(3, .ref (bd 3 (303 + be.toNatClampNeg))), (0, .ref (bd 0 0)), (1, .int be), (2, .int u)]) hx hb dX7_ofBedNow_11 rfl hl (by decide) rfl (fun ls hl => ?_)
  refine lv_bipush (v := 8) hx hb dX7_ofBedNow_12 (by decide) ?_
  have hz9 := hS.1
  have hw9 := hC.1
  refine m_newarr hx hb (hts _ qX7_ofBedNow_w3) hB.1 hC hS (by show w 0 4 < 50; omega) 8 (by decide) (by decide) (by decide) ⟨Nat.le_of_ble_eq_true rfl, Nat.le_of_ble_eq_true rfl⟩ dX7_ofBedNow_14 (fun bd1 H hN hC hS => ?_)
  have hD9 := wN_mD (N := 8) hN.1 hN.2.1
  have hD1 := hD9
  have hG : mG e0 bd w s.heap.size bd1 (wN w 8) := hG.new hN.1 hN.2.1 hN.2.2.1 (Nat.le_trans hz9 hN.2.2.2)
  have q0 : bd1 3 (303 + be.toNatClampNeg) = bd 3 (303 + be.toNatClampNeg) := hN.1 3 (303 + be.toNatClampNeg) (rV_303 (vp_lt h_be))
  have q1 : bd1 0 0 = bd 0 0 := hN.1 0 0 rfl
  rw [← q0, ← q1] at hl
  have hv2 : rV (wN w 8) (400 + w 0 4) := rV_new
  have hn3 : rl (wN w 8) (400 + w 0 4) = 8 := rl_new
  refine lv_dup hx hb dX7_ofBedNow_16 rfl ?_
  refine lv_iconst (v := 0) hx hb dX7_ofBedNow_17 (by decide) ?_
  refine lv_aload_n hx hb dX7_ofBedNow_18 rfl (lv_at hl 0 rfl) ?_
  refine lv_bipush (v := 8) hx hb dX7_ofBedNow_19 (by decide) ?_
  refine ld_m hx hb hB.1 hC (rV_303 (vp_lt h_be)) (rl_303 hC.1 (vp_lt h_be)) (k := 8) (by decide) (by unfold vp_in; decide) dX7_ofBedNow_21 ?_
  refine q_val (v := g (303 + be.toNatClampNeg) 8) (rz_nr (rV_neT hw0 (rV_303 (w := w) (vp_lt h_be)))) ?_
  refine st_m hx hb hB.1 hC hS hG.2.1 hv2 hn3 (k := 0) (by decide) (by unfold vp_in; decide) dX7_ofBedNow_22 (fun H locs hC hS => ?_)
  refine lv_dup hx hb dX7_ofBedNow_23 rfl ?_
  refine lv_iconst (v := 1) hx hb dX7_ofBedNow_24 (by decide) ?_
  refine lv_aload_n hx hb dX7_ofBedNow_25 rfl (lv_at hl 0 rfl) ?_
  refine lv_bipush (v := 9) hx hb dX7_ofBedNow_26 (by decide) ?_
  refine ld_m hx hb hB.1 hC (rV_303 (vp_lt h_be)) (rl_303 hC.1 (vp_lt h_be)) (k := 9) (by decide) (by unfold vp_in; decide) dX7_ofBedNow_28 ?_
  refine q_val (v := g (303 + be.toNatClampNeg) 9) ((u2_nk (by decide)).trans (rz_nr (rV_neT hw0 (rV_303 (w := w) (vp_lt h_be))))) ?_
  refine st_m hx hb hB.1 hC hS hG.2.1 hv2 hn3 (k := 1) (by decide) (by unfold vp_in; decide) dX7_ofBedNow_29 (fun H locs hC hS => ?_)
  refine lv_dup hx hb dX7_ofBedNow_30 rfl ?_
  refine lv_iconst (v := 2) hx hb dX7_ofBedNow_31 (by decide) ?_
  refine lv_aload_n hx hb dX7_ofBedNow_32 rfl (lv_at hl 0 rfl) ?_
  refine lv_iconst (v := 0) hx hb dX7_ofBedNow_33 (by decide) ?_
  refine ld_m hx hb hB.1 hC (rV_303 (vp_lt h_be)) (rl_303 hC.1 (vp_lt h_be)) (k := 0) (by decide) (by unfold vp_in; decide) dX7_ofBedNow_34 ?_
  refine q_val (v := g (303 + be.toNatClampNeg) 0) ((u2_nk (by decide)).trans ((u2_nr (rV_neT hw0 (rV_303 (w := w) (vp_lt h_be)))).trans (rz_nr (rV_neT hw0 (rV_303 (w := w) (vp_lt h_be)))))) ?_
  refine st_m hx hb hB.1 hC hS hG.2.1 hv2 hn3 (k := 2) (by decide) (by unfold vp_in; decide) dX7_ofBedNow_35 (fun H locs hC hS => ?_)
  refine lv_dup hx hb dX7_ofBedNow_36 rfl ?_
  refine lv_iconst (v := 3) hx hb dX7_ofBedNow_37 (by decide) ?_
  refine lv_aload_n hx hb dX7_ofBedNow_38 rfl (lv_at hl 0 rfl) ?_
  refine lv_iconst (v := 4) hx hb dX7_ofBedNow_39 (by decide) ?_
  refine ld_m hx hb hB.1 hC (rV_303 (vp_lt h_be)) (rl_303 hC.1 (vp_lt h_be)) (k := 4) (by decide) (by unfold vp_in; decide) dX7_ofBedNow_40 ?_
  refine q_val (v := g (303 + be.toNatClampNeg) 4) ((u2_nk (by decide)).trans ((u2_nk (by decide)).trans ((u2_nk (by decide)).trans (rz_nr (rV_neT hw0 (rV_303 (w := w) (vp_lt h_be))))))) ?_
  refine st_m hx hb hB.1 hC hS hG.2.1 hv2 hn3 (k := 3) (by decide) (by unfold vp_in; decide) dX7_ofBedNow_41 (fun H locs hC hS => ?_)
  refine lv_dup hx hb dX7_ofBedNow_42 rfl ?_
  refine lv_iconst (v := 4) hx hb dX7_ofBedNow_43 (by decide) ?_
  refine lv_aload_n hx hb dX7_ofBedNow_44 rfl (lv_at hl 0 rfl) ?_
  refine lv_iconst (v := 5) hx hb dX7_ofBedNow_45 (by decide) ?_
  refine ld_m hx hb hB.1 hC (rV_303 (vp_lt h_be)) (rl_303 hC.1 (vp_lt h_be)) (k := 5) (by decide) (by unfold vp_in; decide) dX7_ofBedNow_46 ?_
  refine q_val (v := g (303 + be.toNatClampNeg) 5) ((u2_nk (by decide)).trans ((u2_nk (by decide)).trans ((u2_nk (by decide)).trans ((u2_nk (by decide)).trans (rz_nr (rV_neT hw0 (rV_303 (w := w) (vp_lt h_be)))))))) ?_
  refine st_m hx hb hB.1 hC hS hG.2.1 hv2 hn3 (k := 4) (by decide) (by unfold vp_in; decide) dX7_ofBedNow_47 (fun H locs hC hS => ?_)
  refine lv_dup hx hb dX7_ofBedNow_48 rfl ?_
  refine lv_iconst (v := 5) hx hb dX7_ofBedNow_49 (by decide) ?_
  refine lv_aload_n hx hb dX7_ofBedNow_50 rfl (lv_at hl 0 rfl) ?_
  refine lv_bipush (v := 6) hx hb dX7_ofBedNow_51 (by decide) ?_
  refine ld_m hx hb hB.1 hC (rV_303 (vp_lt h_be)) (rl_303 hC.1 (vp_lt h_be)) (k := 6) (by decide) (by unfold vp_in; decide) dX7_ofBedNow_53 ?_
  refine q_val (v := g (303 + be.toNatClampNeg) 6) ((u2_nk (by decide)).trans ((u2_nk (by decide)).trans ((u2_nk (by decide)).trans ((u2_nk (by decide)).trans ((u2_nk (by decide)).trans (rz_nr (rV_neT hw0 (rV_303 (w := w) (vp_lt h_be))))))))) ?_
  refine st_m hx hb hB.1 hC hS hG.2.1 hv2 hn3 (k := 5) (by decide) (by unfold vp_in; decide) dX7_ofBedNow_54 (fun H locs hC hS => ?_)
  refine lv_dup hx hb dX7_ofBedNow_55 rfl ?_
  refine lv_bipush (v := 6) hx hb dX7_ofBedNow_56 (by decide) ?_
  refine lv_aload_n hx hb dX7_ofBedNow_58 rfl (lv_at hl 0 rfl) ?_
  refine lv_bipush (v := 7) hx hb dX7_ofBedNow_59 (by decide) ?_
  refine ld_m hx hb hB.1 hC (rV_303 (vp_lt h_be)) (rl_303 hC.1 (vp_lt h_be)) (k := 7) (by decide) (by unfold vp_in; decide) dX7_ofBedNow_61 ?_
  refine q_val (v := g (303 + be.toNatClampNeg) 7) ((u2_nk (by decide)).trans ((u2_nk (by decide)).trans ((u2_nk (by decide)).trans ((u2_nk (by decide)).trans ((u2_nk (by decide)).trans ((u2_nk (by decide)).trans (rz_nr (rV_neT hw0 (rV_303 (w := w) (vp_lt h_be)))))))))) ?_
  refine st_m hx hb hB.1 hC hS hG.2.1 hv2 hn3 (k := 6) (by decide) (by unfold vp_in; decide) dX7_ofBedNow_62 (fun H locs hC hS => ?_)
  refine lv_dup hx hb dX7_ofBedNow_63 rfl ?_
  refine lv_bipush (v := 7) hx hb dX7_ofBedNow_64 (by decide) ?_
  refine lv_aload_n hx hb dX7_ofBedNow_66 rfl (lv_at hl 0 rfl) ?_
  refine lv_iconst (v := 3) hx hb dX7_ofBedNow_67 (by decide) ?_
  refine ld_m hx hb hB.1 hC (rV_303 (vp_lt h_be)) (rl_303 hC.1 (vp_lt h_be)) (k := 3) (by decide) (by unfold vp_in; decide) dX7_ofBedNow_68 ?_
  refine q_val (v := g (303 + be.toNatClampNeg) 3) ((u2_nk (by decide)).trans ((u2_nk (by decide)).trans ((u2_nk (by decide)).trans ((u2_nr (rV_neT hw0 (rV_303 (w := w) (vp_lt h_be)))).trans ((u2_nk (by decide)).trans ((u2_nk (by decide)).trans ((u2_nk (by decide)).trans (rz_nr (rV_neT hw0 (rV_303 (w := w) (vp_lt h_be))))))))))) ?_
  refine st_m hx hb hB.1 hC hS hG.2.1 hv2 hn3 (k := 7) (by decide) (by unfold vp_in; decide) dX7_ofBedNow_69 (fun H locs hC hS => ?_)
  refine lv_astore (lv' := [(4, .ref (bd1 3 (400 + w 0 4))), (3, .ref (bd1 3 (303 + be.toNatClampNeg))), (0, .ref (bd1 0 0)), (1, .int be), (2, .int u)]) hx hb dX7_ofBedNow_70 hl (by decide) rfl (fun ls hl => ?_)
  refine lv_aload hx hb dX7_ofBedNow_72 (lv_at hl 0 rfl) ?_
  refine lv_iload_n hx hb dX7_ofBedNow_74 rfl (lv_at hl 4 rfl) ?_
  refine ld_m hx hb hB.1 hC hv2 hn3 (k := u.toNatClampNeg) rfl hp1 dX7_ofBedNow_75 ?_
  refine W.widen (k := 1) (n := 8) (Nat.le_of_ble_eq_true rfl) (Nat.le_of_ble_eq_true rfl) ?_
  exact m_reti hx hb hr hG hC hS (mEq_tmp (mEq_tmp (mEq_tmp (mEq_tmp (mEq_tmp (mEq_tmp (mEq_tmp (mEq_tmp (mEq_rz mEq_rf hw0 (by omega)) hw0 (by omega)) hw0 (by omega)) hw0 (by omega)) hw0 (by omega)) hw0 (by omega)) hw0 (by omega)) hw0 (by omega)) hw0 (by omega)) rfl hlocks dX7_ofBedNow_76
def fX7_ofBed (na nb nc nd T : Nat) (g : Md) (x : Int32) (u : Int32) : Int32 × Md := if (fX7_isBed na nb nc nd T (u2 g 0 20 0) x) = 0 then (((fX7_refuse na nb nc nd T (u2 g 0 20 0) 1).1, (fX7_refuse na nb nc nd T (u2 g 0 20 0) 1).2)) else (if (fX7_is u 0 7) = 0 then (((fX7_refuse na nb nc nd T (u2 g 0 20 0) 2).1, (fX7_refuse na nb nc nd T (u2 g 0 20 0) 2).2)) else ((fX7_ofBedNow na nb nc nd T (u2 g 0 20 0) x u, (u2 g 0 20 0))))
theorem qX7_ofBed_w1 : Cond.fieldLink RX7 41 "CherryStationModel" "thrown" "I" ∈ wsX7_ofBed := List.mem_of_getElem? (i := 1) rfl
theorem iX7_ofBed_X7 : ∀ w ∈ wsX70, w ∈ wsX7_ofBed := fun _ h => (List.mem_cons_of_mem _ (List.mem_append_left _ (List.mem_append_right _ h)))
set_option maxRecDepth 100000 in
set_option maxHeartbeats 4000000 in
theorem kX7_ofBed (l : Launch) (D : va_G) (cy : Nat → ClassId) (e0 : Nat) {bd w : Nat → Nat → Nat} (g : Md) (S : Int64) (sz : Nat) (x : Int32) (u : Int32) (hT4 : w 0 4 + 1 ≤ 50) (hp1 : ¬ ((fX7_isBed (w 0 0) (w 0 1) (w 0 2) (w 0 3) (w 0 4) (u2 g 0 20 0) x) = 0) → ¬ ((fX7_is u 0 7) = 0) → ((vp_in u 8))) : Met l yX7_ofBed wsX7_ofBed ({ frames := 4, cells := 1, slots := 8, locals := 88 } : Room) (va_Pc [.ref (bd 0 0), .int x, .int u] (mPre D cy e0 bd w g S sz)) (mQi D cy bd w (fX7_ofBed (w 0 0) (w 0 1) (w 0 2) (w 0 3) (w 0 4) g x u).1 (fX7_ofBed (w 0 0) (w 0 1) (w 0 2) (w 0 3) (w 0 4) g x u).2 S sz) 1 8 (mA bd w sz) := by
  refine q_start (cc := cX7_ofBed) (maxL := 3) (ret := (some .int)) (own := RX7) (by decide) rfl rfl (Nat.le_of_ble_eq_true rfl) ?_
  intro p e s m below meth c hx hb hr hml hts hown hlocks ⟨hsz, hC, hB⟩ ls hl
  subst hsz
  have hS : va_S (mA bd w s.heap.size) s.heap s.heap [] := va_S.rf
  have hG : mG e0 bd w s.heap.size bd w := mG.rf hB.2.2.1
  have hw0 := hC.1
  have hl : lv_has ls 3 [(0, .ref (bd 0 0)), (1, .int x), (2, .int u)] := hl
  refine lv_aload_n hx hb dX7_ofBed_0 rfl (lv_at hl 0 rfl) ?_
  refine lv_iconst (v := 0) hx hb dX7_ofBed_1 (by decide) ?_
  refine pt_m0_0 hx hb hts iX7_ofBed_X7 hown hB.1 hC hS hG.2.1 qX7_ofBed_w1 dX7_ofBed_2 (fun H locs hC hS => ?_)
  refine lv_aload_n hx hb dX7_ofBed_5 rfl (lv_at hl 0 rfl) ?_
  refine lv_iload_n hx hb dX7_ofBed_6 rfl (lv_at hl 1 rfl) ?_
  refine m_callVi (As := [.int x]) (κ := 0) (i := 0) rfl rfl ⟨_, rfl⟩ rfl ⟨hx, hb, hml, hown, hts⟩ (kX7_isBed l D cy e0 (bd := bd) (w := w) (u2 g 0 20 0) S _ x ) (cwV 1 hts gX7_ofBed_X7_isBed rfl rfl rfl (by decide +kernel) ⟨Nat.le_of_ble_eq_true rfl, Nat.le_of_ble_eq_true rfl⟩) hB hG.2 hC hS rfl hl.1 (Nat.le_of_ble_eq_true rfl) dX7_ofBed_7 ⟨Nat.le_of_ble_eq_true rfl, Nat.le_of_ble_eq_true rfl⟩ (fun H locs hC hS => ?_)
  refine lv_if_ne (tgt := 19) hx hb dX7_ofBed_10 (by decide) (fun c1 => ?_) (fun c1 => ?_)
  · skip
    refine lv_iload_n hx hb dX7_ofBed_19 rfl (lv_at hl 2 rfl) ?_
    refine lv_iconst (v := 0) hx hb dX7_ofBed_20 (by decide) ?_
    refine lv_bipush (v := 7) hx hb dX7_ofBed_21 (by decide) ?_
    refine m_callSi (As := [.int u, .int 0, .int 7])  ⟨hx, hb, hml, hown, hts⟩ (kX7_is l D cy e0 (bd := bd) (w := w) (u2 g 0 20 0) S _ u 0 7 ) (va_cwS 3 hts gX7_ofBed_X7_is rfl rfl rfl (by decide +kernel) ⟨Nat.le_of_ble_eq_true rfl, Nat.le_of_ble_eq_true rfl⟩) hB hG.2 hC hS rfl hl.1 (Nat.le_of_ble_eq_true rfl) dX7_ofBed_23 ⟨Nat.le_of_ble_eq_true rfl, Nat.le_of_ble_eq_true rfl⟩ (fun H locs hC hS => ?_)
    refine lv_if_eq (tgt := 38) hx hb dX7_ofBed_26 (by decide) (fun c2 => ?_) (fun c2 => ?_)
    · skip
      refine lv_aload_n hx hb dX7_ofBed_38 rfl (lv_at hl 0 rfl) ?_
      refine lv_iconst (v := 2) hx hb dX7_ofBed_39 (by decide) ?_
      refine m_callVi (As := [.int 2]) (κ := 0) (i := 0) rfl rfl ⟨_, rfl⟩ rfl ⟨hx, hb, hml, hown, hts⟩ (kX7_refuse l D cy e0 (bd := bd) (w := w) (u2 g 0 20 0) S _ 2 ) (cwV 1 hts gX7_ofBed_X7_refuse rfl rfl rfl (by decide +kernel) ⟨Nat.le_of_ble_eq_true rfl, Nat.le_of_ble_eq_true rfl⟩) hB hG.2 hC hS rfl hl.1 (Nat.le_of_ble_eq_true rfl) dX7_ofBed_40 ⟨Nat.le_of_ble_eq_true rfl, Nat.le_of_ble_eq_true rfl⟩ (fun H locs hC hS => ?_)
      refine W.widen (k := 1) (n := 8) (Nat.le_of_ble_eq_true rfl) (Nat.le_of_ble_eq_true rfl) ?_
      have e9 : fX7_ofBed (w 0 0) (w 0 1) (w 0 2) (w 0 3) (w 0 4) g x u = ((fX7_refuse (w 0 0) (w 0 1) (w 0 2) (w 0 3) (w 0 4) (u2 g 0 20 0) 2).1, (fX7_refuse (w 0 0) (w 0 1) (w 0 2) (w 0 3) (w 0 4) (u2 g 0 20 0) 2).2) := (by unfold fX7_ofBed; rw [if_neg c1, if_pos c2])
      exact m_reti hx hb hr hG hC hS (mEq_of (by rw [e9])) (by rw [e9]) hlocks dX7_ofBed_43
    · skip
      refine lv_aload_n hx hb dX7_ofBed_29 rfl (lv_at hl 0 rfl) ?_
      refine lv_iload_n hx hb dX7_ofBed_30 rfl (lv_at hl 1 rfl) ?_
      refine lv_iload_n hx hb dX7_ofBed_31 rfl (lv_at hl 2 rfl) ?_
      refine m_callVi (As := [.int x, .int u]) (κ := 0) (i := 0) rfl rfl ⟨_, rfl⟩ rfl ⟨hx, hb, hml, hown, hts⟩ (kX7_ofBedNow l D cy e0 (bd := bd) (w := w) (u2 g 0 20 0) S _ x (isBed_in (w := w) hw0 c1) u (by show w 0 4 + 1 ≤ 50; omega) (hp1 c1 c2)) (cwV 2 hts gX7_ofBed_X7_ofBedNow rfl rfl rfl (by decide +kernel) ⟨Nat.le_of_ble_eq_true rfl, Nat.le_of_ble_eq_true rfl⟩) hB hG.2 hC hS rfl hl.1 (Nat.le_of_ble_eq_true rfl) dX7_ofBed_32 ⟨Nat.le_of_ble_eq_true rfl, Nat.le_of_ble_eq_true rfl⟩ (fun H locs hC hS => ?_)
      refine lv_goto (tgt := 43) hx hb dX7_ofBed_35 (by decide) ?_
      refine W.widen (k := 1) (n := 8) (Nat.le_of_ble_eq_true rfl) (Nat.le_of_ble_eq_true rfl) ?_
      have e9 : fX7_ofBed (w 0 0) (w 0 1) (w 0 2) (w 0 3) (w 0 4) g x u = (fX7_ofBedNow (w 0 0) (w 0 1) (w 0 2) (w 0 3) (w 0 4) (u2 g 0 20 0) x u, (u2 g 0 20 0)) := (by unfold fX7_ofBed; rw [if_neg c1, if_neg c2])
      exact m_reti hx hb hr hG hC hS (mEq_of (by rw [e9])) (by rw [e9]) hlocks dX7_ofBed_43
  · skip
    refine lv_aload_n hx hb dX7_ofBed_13 rfl (lv_at hl 0 rfl) ?_
    refine lv_iconst (v := 1) hx hb dX7_ofBed_14 (by decide) ?_
    refine m_callVi (As := [.int 1]) (κ := 0) (i := 0) rfl rfl ⟨_, rfl⟩ rfl ⟨hx, hb, hml, hown, hts⟩ (kX7_refuse l D cy e0 (bd := bd) (w := w) (u2 g 0 20 0) S _ 1 ) (cwV 1 hts gX7_ofBed_X7_refuse rfl rfl rfl (by decide +kernel) ⟨Nat.le_of_ble_eq_true rfl, Nat.le_of_ble_eq_true rfl⟩) hB hG.2 hC hS rfl hl.1 (Nat.le_of_ble_eq_true rfl) dX7_ofBed_15 ⟨Nat.le_of_ble_eq_true rfl, Nat.le_of_ble_eq_true rfl⟩ (fun H locs hC hS => ?_)
    refine W.widen (k := 1) (n := 8) (Nat.le_of_ble_eq_true rfl) (Nat.le_of_ble_eq_true rfl) ?_
    have e9 : fX7_ofBed (w 0 0) (w 0 1) (w 0 2) (w 0 3) (w 0 4) g x u = ((fX7_refuse (w 0 0) (w 0 1) (w 0 2) (w 0 3) (w 0 4) (u2 g 0 20 0) 1).1, (fX7_refuse (w 0 0) (w 0 1) (w 0 2) (w 0 3) (w 0 4) (u2 g 0 20 0) 1).2) := (by unfold fX7_ofBed; rw [if_pos c1])
    exact m_reti hx hb hr hG hC hS (mEq_of (by rw [e9])) (by rw [e9]) hlocks dX7_ofBed_18
def fX7_ofLotNow (na nb nc nd T : Nat) (g : Md) (lo : Int32) (u : Int32) : Int32 := (u2 (u2 (u2 (u2 (u2 (u2 (u2 (u2 (u2 (u2 (u2 (u2 (rz g (400 + T) (fun _ => 0)) (400 + T) 0 (g (308 + lo.toNatClampNeg) 0)) (400 + T) 1 (g (308 + lo.toNatClampNeg) 4)) (400 + T) 2 (g (308 + lo.toNatClampNeg) 10)) (400 + T) 3 (fX7_sum na nb nc nd (T + 1) (u2 (u2 (u2 (rz g (400 + T) (fun _ => 0)) (400 + T) 0 (g (308 + lo.toNatClampNeg) 0)) (400 + T) 1 (g (308 + lo.toNatClampNeg) 4)) (400 + T) 2 (g (308 + lo.toNatClampNeg) 10)) (308 + lo.toNatClampNeg) 17)) (400 + T) 4 (g (308 + lo.toNatClampNeg) 1)) (400 + T) 5 (g (308 + lo.toNatClampNeg) 3)) (400 + T) 6 (g (308 + lo.toNatClampNeg) 7)) (400 + T) 7 (g (308 + lo.toNatClampNeg) 5)) (400 + T) 8 (g (308 + lo.toNatClampNeg) 2)) (400 + T) 9 (fX7_gradeOf na nb nc nd (T + 1) (u2 (u2 (u2 (u2 (u2 (u2 (u2 (u2 (u2 (rz g (400 + T) (fun _ => 0)) (400 + T) 0 (g (308 + lo.toNatClampNeg) 0)) (400 + T) 1 (g (308 + lo.toNatClampNeg) 4)) (400 + T) 2 (g (308 + lo.toNatClampNeg) 10)) (400 + T) 3 (fX7_sum na nb nc nd (T + 1) (u2 (u2 (u2 (rz g (400 + T) (fun _ => 0)) (400 + T) 0 (g (308 + lo.toNatClampNeg) 0)) (400 + T) 1 (g (308 + lo.toNatClampNeg) 4)) (400 + T) 2 (g (308 + lo.toNatClampNeg) 10)) (308 + lo.toNatClampNeg) 17)) (400 + T) 4 (g (308 + lo.toNatClampNeg) 1)) (400 + T) 5 (g (308 + lo.toNatClampNeg) 3)) (400 + T) 6 (g (308 + lo.toNatClampNeg) 7)) (400 + T) 7 (g (308 + lo.toNatClampNeg) 5)) (400 + T) 8 (g (308 + lo.toNatClampNeg) 2)) lo)) (400 + T) 10 (fX7_scoreOf na nb nc nd (T + 1) (u2 (u2 (u2 (u2 (u2 (u2 (u2 (u2 (u2 (u2 (rz g (400 + T) (fun _ => 0)) (400 + T) 0 (g (308 + lo.toNatClampNeg) 0)) (400 + T) 1 (g (308 + lo.toNatClampNeg) 4)) (400 + T) 2 (g (308 + lo.toNatClampNeg) 10)) (400 + T) 3 (fX7_sum na nb nc nd (T + 1) (u2 (u2 (u2 (rz g (400 + T) (fun _ => 0)) (400 + T) 0 (g (308 + lo.toNatClampNeg) 0)) (400 + T) 1 (g (308 + lo.toNatClampNeg) 4)) (400 + T) 2 (g (308 + lo.toNatClampNeg) 10)) (308 + lo.toNatClampNeg) 17)) (400 + T) 4 (g (308 + lo.toNatClampNeg) 1)) (400 + T) 5 (g (308 + lo.toNatClampNeg) 3)) (400 + T) 6 (g (308 + lo.toNatClampNeg) 7)) (400 + T) 7 (g (308 + lo.toNatClampNeg) 5)) (400 + T) 8 (g (308 + lo.toNatClampNeg) 2)) (400 + T) 9 (fX7_gradeOf na nb nc nd (T + 1) (u2 (u2 (u2 (u2 (u2 (u2 (u2 (u2 (u2 (rz g (400 + T) (fun _ => 0)) (400 + T) 0 (g (308 + lo.toNatClampNeg) 0)) (400 + T) 1 (g (308 + lo.toNatClampNeg) 4)) (400 + T) 2 (g (308 + lo.toNatClampNeg) 10)) (400 + T) 3 (fX7_sum na nb nc nd (T + 1) (u2 (u2 (u2 (rz g (400 + T) (fun _ => 0)) (400 + T) 0 (g (308 + lo.toNatClampNeg) 0)) (400 + T) 1 (g (308 + lo.toNatClampNeg) 4)) (400 + T) 2 (g (308 + lo.toNatClampNeg) 10)) (308 + lo.toNatClampNeg) 17)) (400 + T) 4 (g (308 + lo.toNatClampNeg) 1)) (400 + T) 5 (g (308 + lo.toNatClampNeg) 3)) (400 + T) 6 (g (308 + lo.toNatClampNeg) 7)) (400 + T) 7 (g (308 + lo.toNatClampNeg) 5)) (400 + T) 8 (g (308 + lo.toNatClampNeg) 2)) lo)) (308 + lo.toNatClampNeg))) (400 + T) 11 (fX7_causeOf na nb nc nd (T + 1) (u2 (u2 (u2 (u2 (u2 (u2 (u2 (u2 (u2 (u2 (u2 (rz g (400 + T) (fun _ => 0)) (400 + T) 0 (g (308 + lo.toNatClampNeg) 0)) (400 + T) 1 (g (308 + lo.toNatClampNeg) 4)) (400 + T) 2 (g (308 + lo.toNatClampNeg) 10)) (400 + T) 3 (fX7_sum na nb nc nd (T + 1) (u2 (u2 (u2 (rz g (400 + T) (fun _ => 0)) (400 + T) 0 (g (308 + lo.toNatClampNeg) 0)) (400 + T) 1 (g (308 + lo.toNatClampNeg) 4)) (400 + T) 2 (g (308 + lo.toNatClampNeg) 10)) (308 + lo.toNatClampNeg) 17)) (400 + T) 4 (g (308 + lo.toNatClampNeg) 1)) (400 + T) 5 (g (308 + lo.toNatClampNeg) 3)) (400 + T) 6 (g (308 + lo.toNatClampNeg) 7)) (400 + T) 7 (g (308 + lo.toNatClampNeg) 5)) (400 + T) 8 (g (308 + lo.toNatClampNeg) 2)) (400 + T) 9 (fX7_gradeOf na nb nc nd (T + 1) (u2 (u2 (u2 (u2 (u2 (u2 (u2 (u2 (u2 (rz g (400 + T) (fun _ => 0)) (400 + T) 0 (g (308 + lo.toNatClampNeg) 0)) (400 + T) 1 (g (308 + lo.toNatClampNeg) 4)) (400 + T) 2 (g (308 + lo.toNatClampNeg) 10)) (400 + T) 3 (fX7_sum na nb nc nd (T + 1) (u2 (u2 (u2 (rz g (400 + T) (fun _ => 0)) (400 + T) 0 (g (308 + lo.toNatClampNeg) 0)) (400 + T) 1 (g (308 + lo.toNatClampNeg) 4)) (400 + T) 2 (g (308 + lo.toNatClampNeg) 10)) (308 + lo.toNatClampNeg) 17)) (400 + T) 4 (g (308 + lo.toNatClampNeg) 1)) (400 + T) 5 (g (308 + lo.toNatClampNeg) 3)) (400 + T) 6 (g (308 + lo.toNatClampNeg) 7)) (400 + T) 7 (g (308 + lo.toNatClampNeg) 5)) (400 + T) 8 (g (308 + lo.toNatClampNeg) 2)) lo)) (400 + T) 10 (fX7_scoreOf na nb nc nd (T + 1) (u2 (u2 (u2 (u2 (u2 (u2 (u2 (u2 (u2 (u2 (rz g (400 + T) (fun _ => 0)) (400 + T) 0 (g (308 + lo.toNatClampNeg) 0)) (400 + T) 1 (g (308 + lo.toNatClampNeg) 4)) (400 + T) 2 (g (308 + lo.toNatClampNeg) 10)) (400 + T) 3 (fX7_sum na nb nc nd (T + 1) (u2 (u2 (u2 (rz g (400 + T) (fun _ => 0)) (400 + T) 0 (g (308 + lo.toNatClampNeg) 0)) (400 + T) 1 (g (308 + lo.toNatClampNeg) 4)) (400 + T) 2 (g (308 + lo.toNatClampNeg) 10)) (308 + lo.toNatClampNeg) 17)) (400 + T) 4 (g (308 + lo.toNatClampNeg) 1)) (400 + T) 5 (g (308 + lo.toNatClampNeg) 3)) (400 + T) 6 (g (308 + lo.toNatClampNeg) 7)) (400 + T) 7 (g (308 + lo.toNatClampNeg) 5)) (400 + T) 8 (g (308 + lo.toNatClampNeg) 2)) (400 + T) 9 (fX7_gradeOf na nb nc nd (T + 1) (u2 (u2 (u2 (u2 (u2 (u2 (u2 (u2 (u2 (rz g (400 + T) (fun _ => 0)) (400 + T) 0 (g (308 + lo.toNatClampNeg) 0)) (400 + T) 1 (g (308 + lo.toNatClampNeg) 4)) (400 + T) 2 (g (308 + lo.toNatClampNeg) 10)) (400 + T) 3 (fX7_sum na nb nc nd (T + 1) (u2 (u2 (u2 (rz g (400 + T) (fun _ => 0)) (400 + T) 0 (g (308 + lo.toNatClampNeg) 0)) (400 + T) 1 (g (308 + lo.toNatClampNeg) 4)) (400 + T) 2 (g (308 + lo.toNatClampNeg) 10)) (308 + lo.toNatClampNeg) 17)) (400 + T) 4 (g (308 + lo.toNatClampNeg) 1)) (400 + T) 5 (g (308 + lo.toNatClampNeg) 3)) (400 + T) 6 (g (308 + lo.toNatClampNeg) 7)) (400 + T) 7 (g (308 + lo.toNatClampNeg) 5)) (400 + T) 8 (g (308 + lo.toNatClampNeg) 2)) lo)) (308 + lo.toNatClampNeg))) (308 + lo.toNatClampNeg))) (400 + T) u.toNatClampNeg
theorem qX7_ofLotNow_w1 : Cond.fieldLink RX7 27 "CherryStationModel" "lots" "Ljava/util/ArrayList;" ∈ wsX7_ofLotNow := List.mem_of_getElem? (i := 1) rfl
theorem qX7_ofLotNow_w2 : Cond.classLink RX7 72 "[I" ∈ wsX7_ofLotNow := List.mem_of_getElem? (i := 2) rfl
theorem qX7_ofLotNow_w3 : Cond.arrayClass .int ∈ wsX7_ofLotNow := List.mem_of_getElem? (i := 3) rfl
theorem iX7_ofLotNow_X7 : ∀ w ∈ wsX70, w ∈ wsX7_ofLotNow := fun _ h => (List.mem_cons_of_mem _ (List.mem_append_left _ (List.mem_append_right _ h)))
set_option maxRecDepth 100000 in
set_option maxHeartbeats 4000000 in
theorem kX7_ofLotNow (l : Launch) (D : va_G) (cy : Nat → ClassId) (e0 : Nat) {bd w : Nat → Nat → Nat} (g : Md) (S : Int64) (sz : Nat) (lo : Int32) (h_lo : vp_in lo (w 0 3)) (u : Int32) (hT4 : w 0 4 + 1 ≤ 50) (hp1 : (vp_in u 12)) : Met l yX7_ofLotNow wsX7_ofLotNow ({ frames := 4, cells := 1, slots := 12, locals := 88 } : Room) (va_Pc [.ref (bd 0 0), .int lo, .int u] (mPre D cy e0 bd w g S sz)) (mQi D cy bd w (fX7_ofLotNow (w 0 0) (w 0 1) (w 0 2) (w 0 3) (w 0 4) g lo u) g S sz) 1 12 (mA bd w sz) := by
  refine q_start (cc := cX7_ofLotNow) (maxL := 5) (ret := (some .int)) (own := RX7) (by decide) rfl rfl (Nat.le_of_ble_eq_true rfl) ?_
  intro p e s m below meth c hx hb hr hml hts hown hlocks ⟨hsz, hC, hB⟩ ls hl
  subst hsz
  have hS : va_S (mA bd w s.heap.size) s.heap s.heap [] := va_S.rf
  have hG : mG e0 bd w s.heap.size bd w := mG.rf hB.2.2.1
  have hw0 := hC.1
  have hl : lv_has ls 5 [(0, .ref (bd 0 0)), (1, .int lo), (2, .int u)] := hl
  refine lv_aload_n hx hb dX7_ofLotNow_0 rfl (lv_at hl 0 rfl) ?_
  refine gt_m0_5 hx hb hts iX7_ofLotNow_X7 hown hB.1 hC qX7_ofLotNow_w1 dX7_ofLotNow_1 ?_
  refine lv_iload_n hx hb dX7_ofLotNow_4 rfl (lv_at hl 1 rfl) ?_
  refine m_callVr (As := [.int lo]) (κ := 1) (i := 3) (show 3 < 4 by decide) rfl ⟨_, rfl⟩ rfl ⟨hx, hb, hml, hown, hts⟩ (kJx4a65c_get_915e3 l D cy e0 (bd := bd) (w := w) g S _ 3 (show 3 < 4 by decide) lo h_lo) (cwV 1 hts gX7_ofLotNow_Jx4a65c_get_915e3 rfl rfl rfl (by decide +kernel) ⟨Nat.le_of_ble_eq_true rfl, Nat.le_of_ble_eq_true rfl⟩) hB hG.2 hC hS rfl hl.1 (Nat.le_of_ble_eq_true rfl) dX7_ofLotNow_5 ⟨Nat.le_of_ble_eq_true rfl, Nat.le_of_ble_eq_true rfl⟩ (fun H locs hC hS => ?_)
  refine m_stk (st' := [.ref (bd 3 (308 + lo.toNatClampNeg))]) rfl ?_
  refine m_cast hx hb hown (hts _ qX7_ofLotNow_w2) hB.1 hC (rV_308 (vp_lt h_lo)) dX7_ofLotNow_8 ?_
  refine lv_astore_n (lv' := [(3, .ref (bd 3 (308 + lo.toNatClampNeg))), (0, .ref (bd 0 0)), (1, .int lo), (2, .int u)]) hx hb dX7_ofLotNow_11 rfl hl (by decide) rfl (fun ls hl => ?_)
  refine lv_bipush (v := 12) hx hb dX7_ofLotNow_12 (by decide) ?_
  have hz9 := hS.1
  have hw9 := hC.1
  refine m_newarr hx hb (hts _ qX7_ofLotNow_w3) hB.1 hC hS (by show w 0 4 < 50; omega) 12 (by decide) (by decide) (by decide) ⟨Nat.le_of_ble_eq_true rfl, Nat.le_of_ble_eq_true rfl⟩ dX7_ofLotNow_14 (fun bd1 H hN hC hS => ?_)
  have hD9 := wN_mD (N := 12) hN.1 hN.2.1
  have hD1 := hD9
  have hG : mG e0 bd w s.heap.size bd1 (wN w 12) := hG.new hN.1 hN.2.1 hN.2.2.1 (Nat.le_trans hz9 hN.2.2.2)
  have q0 : bd1 3 (308 + lo.toNatClampNeg) = bd 3 (308 + lo.toNatClampNeg) := hN.1 3 (308 + lo.toNatClampNeg) (rV_308 (vp_lt h_lo))
  have q1 : bd1 0 0 = bd 0 0 := hN.1 0 0 rfl
  rw [← q0, ← q1] at hl
  have hv2 : rV (wN w 12) (400 + w 0 4) := rV_new
  have hn3 : rl (wN w 12) (400 + w 0 4) = 12 := rl_new
  refine lv_dup hx hb dX7_ofLotNow_16 rfl ?_
  refine lv_iconst (v := 0) hx hb dX7_ofLotNow_17 (by decide) ?_
  refine lv_aload_n hx hb dX7_ofLotNow_18 rfl (lv_at hl 0 rfl) ?_
  refine lv_iconst (v := 0) hx hb dX7_ofLotNow_19 (by decide) ?_
  refine ld_m hx hb hB.1 hC (rV_308 (vp_lt h_lo)) (rl_308 hC.1 (vp_lt h_lo)) (k := 0) (by decide) (by unfold vp_in; decide) dX7_ofLotNow_20 ?_
  refine q_val (v := g (308 + lo.toNatClampNeg) 0) (rz_nr (rV_neT hw0 (rV_308 (w := w) (vp_lt h_lo)))) ?_
  refine st_m hx hb hB.1 hC hS hG.2.1 hv2 hn3 (k := 0) (by decide) (by unfold vp_in; decide) dX7_ofLotNow_21 (fun H locs hC hS => ?_)
  refine lv_dup hx hb dX7_ofLotNow_22 rfl ?_
  refine lv_iconst (v := 1) hx hb dX7_ofLotNow_23 (by decide) ?_
  refine lv_aload_n hx hb dX7_ofLotNow_24 rfl (lv_at hl 0 rfl) ?_
  refine lv_iconst (v := 4) hx hb dX7_ofLotNow_25 (by decide) ?_
  refine ld_m hx hb hB.1 hC (rV_308 (vp_lt h_lo)) (rl_308 hC.1 (vp_lt h_lo)) (k := 4) (by decide) (by unfold vp_in; decide) dX7_ofLotNow_26 ?_
  refine q_val (v := g (308 + lo.toNatClampNeg) 4) ((u2_nk (by decide)).trans (rz_nr (rV_neT hw0 (rV_308 (w := w) (vp_lt h_lo))))) ?_
  refine st_m hx hb hB.1 hC hS hG.2.1 hv2 hn3 (k := 1) (by decide) (by unfold vp_in; decide) dX7_ofLotNow_27 (fun H locs hC hS => ?_)
  refine lv_dup hx hb dX7_ofLotNow_28 rfl ?_
  refine lv_iconst (v := 2) hx hb dX7_ofLotNow_29 (by decide) ?_
  refine lv_aload_n hx hb dX7_ofLotNow_30 rfl (lv_at hl 0 rfl) ?_
  refine lv_bipush (v := 10) hx hb dX7_ofLotNow_31 (by decide) ?_
  refine ld_m hx hb hB.1 hC (rV_308 (vp_lt h_lo)) (rl_308 hC.1 (vp_lt h_lo)) (k := 10) (by decide) (by unfold vp_in; decide) dX7_ofLotNow_33 ?_
  refine q_val (v := g (308 + lo.toNatClampNeg) 10) ((u2_nk (by decide)).trans ((u2_nk (by decide)).trans (rz_nr (rV_neT hw0 (rV_308 (w := w) (vp_lt h_lo)))))) ?_
  refine st_m hx hb hB.1 hC hS hG.2.1 hv2 hn3 (k := 2) (by decide) (by unfold vp_in; decide) dX7_ofLotNow_34 (fun H locs hC hS => ?_)
  refine lv_dup hx hb dX7_ofLotNow_35 rfl ?_
  refine lv_iconst (v := 3) hx hb dX7_ofLotNow_36 (by decide) ?_
  refine lv_aload_n hx hb dX7_ofLotNow_37 rfl (lv_at hl 0 rfl) ?_
  refine lv_bipush (v := 17) hx hb dX7_ofLotNow_38 (by decide) ?_
  refine m_callSi (As := [.ref (bd1 3 (308 + lo.toNatClampNeg)), .int 17])  ⟨hx, hb, hml, hown, hts⟩ (kX7_sum l D cy e0 (bd := bd1) (w := (wN w 12)) (u2 (u2 (u2 (rz g (400 + w 0 4) (fun _ => 0)) (400 + w 0 4) 0 (g (308 + lo.toNatClampNeg) 0)) (400 + w 0 4) 1 (g (308 + lo.toNatClampNeg) 4)) (400 + w 0 4) 2 (g (308 + lo.toNatClampNeg) 10)) S _ (308 + lo.toNatClampNeg) (rV_308 (vp_lt h_lo)) (rl_308 hC.1 (vp_lt h_lo)) 17 (by unfold vp_in; decide) (by unfold vp_in; decide) (by unfold vp_in; decide) (by unfold vp_in; decide) (by unfold vp_in; decide) (by unfold vp_in; decide)) (va_cwS 2 hts gX7_ofLotNow_X7_sum rfl rfl rfl (by decide +kernel) ⟨Nat.le_of_ble_eq_true rfl, Nat.le_of_ble_eq_true rfl⟩) hB hG.2 hC hS rfl hl.1 (Nat.le_of_ble_eq_true rfl) dX7_ofLotNow_40 ⟨Nat.le_of_ble_eq_true rfl, Nat.le_of_ble_eq_true rfl⟩ (fun H locs hC hS => ?_)
  refine q_val (v := fX7_sum (w 0 0) (w 0 1) (w 0 2) (w 0 3) (w 0 4 + 1) (u2 (u2 (u2 (rz g (400 + w 0 4) (fun _ => 0)) (400 + w 0 4) 0 (g (308 + lo.toNatClampNeg) 0)) (400 + w 0 4) 1 (g (308 + lo.toNatClampNeg) 4)) (400 + w 0 4) 2 (g (308 + lo.toNatClampNeg) 10)) (308 + lo.toNatClampNeg) 17) rfl ?_
  refine st_m hx hb hB.1 hC hS hG.2.1 hv2 hn3 (k := 3) (by decide) (by unfold vp_in; decide) dX7_ofLotNow_43 (fun H locs hC hS => ?_)
  refine lv_dup hx hb dX7_ofLotNow_44 rfl ?_
  refine lv_iconst (v := 4) hx hb dX7_ofLotNow_45 (by decide) ?_
  refine lv_aload_n hx hb dX7_ofLotNow_46 rfl (lv_at hl 0 rfl) ?_
  refine lv_iconst (v := 1) hx hb dX7_ofLotNow_47 (by decide) ?_
  refine ld_m hx hb hB.1 hC (rV_308 (vp_lt h_lo)) (rl_308 hC.1 (vp_lt h_lo)) (k := 1) (by decide) (by unfold vp_in; decide) dX7_ofLotNow_48 ?_
  refine q_val (v := g (308 + lo.toNatClampNeg) 1) ((u2_nk (by decide)).trans ((u2_nk (by decide)).trans ((u2_nr (rV_neT hw0 (rV_308 (w := w) (vp_lt h_lo)))).trans ((u2_nk (by decide)).trans (rz_nr (rV_neT hw0 (rV_308 (w := w) (vp_lt h_lo)))))))) ?_
  refine st_m hx hb hB.1 hC hS hG.2.1 hv2 hn3 (k := 4) (by decide) (by unfold vp_in; decide) dX7_ofLotNow_49 (fun H locs hC hS => ?_)
  refine lv_dup hx hb dX7_ofLotNow_50 rfl ?_
  refine lv_iconst (v := 5) hx hb dX7_ofLotNow_51 (by decide) ?_
  refine lv_aload_n hx hb dX7_ofLotNow_52 rfl (lv_at hl 0 rfl) ?_
  refine lv_iconst (v := 3) hx hb dX7_ofLotNow_53 (by decide) ?_
  refine ld_m hx hb hB.1 hC (rV_308 (vp_lt h_lo)) (rl_308 hC.1 (vp_lt h_lo)) (k := 3) (by decide) (by unfold vp_in; decide) dX7_ofLotNow_54 ?_
  refine q_val (v := g (308 + lo.toNatClampNeg) 3) ((u2_nk (by decide)).trans ((u2_nr (rV_neT hw0 (rV_308 (w := w) (vp_lt h_lo)))).trans ((u2_nk (by decide)).trans ((u2_nk (by decide)).trans ((u2_nk (by decide)).trans (rz_nr (rV_neT hw0 (rV_308 (w := w) (vp_lt h_lo))))))))) ?_
  refine st_m hx hb hB.1 hC hS hG.2.1 hv2 hn3 (k := 5) (by decide) (by unfold vp_in; decide) dX7_ofLotNow_55 (fun H locs hC hS => ?_)
  refine lv_dup hx hb dX7_ofLotNow_56 rfl ?_
  refine lv_bipush (v := 6) hx hb dX7_ofLotNow_57 (by decide) ?_
  refine lv_aload_n hx hb dX7_ofLotNow_59 rfl (lv_at hl 0 rfl) ?_
  refine lv_bipush (v := 7) hx hb dX7_ofLotNow_60 (by decide) ?_
  refine ld_m hx hb hB.1 hC (rV_308 (vp_lt h_lo)) (rl_308 hC.1 (vp_lt h_lo)) (k := 7) (by decide) (by unfold vp_in; decide) dX7_ofLotNow_62 ?_
  refine q_val (v := g (308 + lo.toNatClampNeg) 7) ((u2_nk (by decide)).trans ((u2_nk (by decide)).trans ((u2_nk (by decide)).trans ((u2_nk (by decide)).trans ((u2_nk (by decide)).trans ((u2_nk (by decide)).trans (rz_nr (rV_neT hw0 (rV_308 (w := w) (vp_lt h_lo)))))))))) ?_
  refine st_m hx hb hB.1 hC hS hG.2.1 hv2 hn3 (k := 6) (by decide) (by unfold vp_in; decide) dX7_ofLotNow_63 (fun H locs hC hS => ?_)
  refine lv_dup hx hb dX7_ofLotNow_64 rfl ?_
  refine lv_bipush (v := 7) hx hb dX7_ofLotNow_65 (by decide) ?_
  refine lv_aload_n hx hb dX7_ofLotNow_67 rfl (lv_at hl 0 rfl) ?_
  refine lv_iconst (v := 5) hx hb dX7_ofLotNow_68 (by decide) ?_
  refine ld_m hx hb hB.1 hC (rV_308 (vp_lt h_lo)) (rl_308 hC.1 (vp_lt h_lo)) (k := 5) (by decide) (by unfold vp_in; decide) dX7_ofLotNow_69 ?_
  refine q_val (v := g (308 + lo.toNatClampNeg) 5) ((u2_nk (by decide)).trans ((u2_nr (rV_neT hw0 (rV_308 (w := w) (vp_lt h_lo)))).trans ((u2_nk (by decide)).trans ((u2_nk (by decide)).trans ((u2_nk (by decide)).trans ((u2_nk (by decide)).trans ((u2_nk (by decide)).trans (rz_nr (rV_neT hw0 (rV_308 (w := w) (vp_lt h_lo))))))))))) ?_
  refine st_m hx hb hB.1 hC hS hG.2.1 hv2 hn3 (k := 7) (by decide) (by unfold vp_in; decide) dX7_ofLotNow_70 (fun H locs hC hS => ?_)
  refine lv_dup hx hb dX7_ofLotNow_71 rfl ?_
  refine lv_bipush (v := 8) hx hb dX7_ofLotNow_72 (by decide) ?_
  refine lv_aload_n hx hb dX7_ofLotNow_74 rfl (lv_at hl 0 rfl) ?_
  refine lv_iconst (v := 2) hx hb dX7_ofLotNow_75 (by decide) ?_
  refine ld_m hx hb hB.1 hC (rV_308 (vp_lt h_lo)) (rl_308 hC.1 (vp_lt h_lo)) (k := 2) (by decide) (by unfold vp_in; decide) dX7_ofLotNow_76 ?_
  refine q_val (v := g (308 + lo.toNatClampNeg) 2) ((u2_nk (by decide)).trans ((u2_nk (by decide)).trans ((u2_nk (by decide)).trans ((u2_nk (by decide)).trans ((u2_nk (by decide)).trans ((u2_nr (rV_neT hw0 (rV_308 (w := w) (vp_lt h_lo)))).trans ((u2_nk (by decide)).trans ((u2_nk (by decide)).trans (rz_nr (rV_neT hw0 (rV_308 (w := w) (vp_lt h_lo)))))))))))) ?_
  refine st_m hx hb hB.1 hC hS hG.2.1 hv2 hn3 (k := 8) (by decide) (by unfold vp_in; decide) dX7_ofLotNow_77 (fun H locs hC hS => ?_)
  refine lv_dup hx hb dX7_ofLotNow_78 rfl ?_
  refine lv_bipush (v := 9) hx hb dX7_ofLotNow_79 (by decide) ?_
  refine lv_aload_n hx hb dX7_ofLotNow_81 rfl (lv_at hl 1 rfl) ?_
  refine lv_iload_n hx hb dX7_ofLotNow_82 rfl (lv_at hl 2 rfl) ?_
  refine m_callVi (As := [.int lo]) (κ := 0) (i := 0) rfl rfl ⟨_, rfl⟩ rfl ⟨hx, hb, hml, hown, hts⟩ (kX7_gradeOf l D cy e0 (bd := bd1) (w := (wN w 12)) (u2 (u2 (u2 (u2 (u2 (u2 (u2 (u2 (u2 (rz g (400 + w 0 4) (fun _ => 0)) (400 + w 0 4) 0 (g (308 + lo.toNatClampNeg) 0)) (400 + w 0 4) 1 (g (308 + lo.toNatClampNeg) 4)) (400 + w 0 4) 2 (g (308 + lo.toNatClampNeg) 10)) (400 + w 0 4) 3 (fX7_sum (w 0 0) (w 0 1) (w 0 2) (w 0 3) (w 0 4 + 1) (u2 (u2 (u2 (rz g (400 + w 0 4) (fun _ => 0)) (400 + w 0 4) 0 (g (308 + lo.toNatClampNeg) 0)) (400 + w 0 4) 1 (g (308 + lo.toNatClampNeg) 4)) (400 + w 0 4) 2 (g (308 + lo.toNatClampNeg) 10)) (308 + lo.toNatClampNeg) 17)) (400 + w 0 4) 4 (g (308 + lo.toNatClampNeg) 1)) (400 + w 0 4) 5 (g (308 + lo.toNatClampNeg) 3)) (400 + w 0 4) 6 (g (308 + lo.toNatClampNeg) 7)) (400 + w 0 4) 7 (g (308 + lo.toNatClampNeg) 5)) (400 + w 0 4) 8 (g (308 + lo.toNatClampNeg) 2)) S _ lo h_lo ) (cwV 1 hts gX7_ofLotNow_X7_gradeOf rfl rfl rfl (by decide +kernel) ⟨Nat.le_of_ble_eq_true rfl, Nat.le_of_ble_eq_true rfl⟩) hB hG.2 hC hS rfl hl.1 (Nat.le_of_ble_eq_true rfl) dX7_ofLotNow_83 ⟨Nat.le_of_ble_eq_true rfl, Nat.le_of_ble_eq_true rfl⟩ (fun H locs hC hS => ?_)
  refine q_val (v := fX7_gradeOf (w 0 0) (w 0 1) (w 0 2) (w 0 3) (w 0 4 + 1) (u2 (u2 (u2 (u2 (u2 (u2 (u2 (u2 (u2 (rz g (400 + w 0 4) (fun _ => 0)) (400 + w 0 4) 0 (g (308 + lo.toNatClampNeg) 0)) (400 + w 0 4) 1 (g (308 + lo.toNatClampNeg) 4)) (400 + w 0 4) 2 (g (308 + lo.toNatClampNeg) 10)) (400 + w 0 4) 3 (fX7_sum (w 0 0) (w 0 1) (w 0 2) (w 0 3) (w 0 4 + 1) (u2 (u2 (u2 (rz g (400 + w 0 4) (fun _ => 0)) (400 + w 0 4) 0 (g (308 + lo.toNatClampNeg) 0)) (400 + w 0 4) 1 (g (308 + lo.toNatClampNeg) 4)) (400 + w 0 4) 2 (g (308 + lo.toNatClampNeg) 10)) (308 + lo.toNatClampNeg) 17)) (400 + w 0 4) 4 (g (308 + lo.toNatClampNeg) 1)) (400 + w 0 4) 5 (g (308 + lo.toNatClampNeg) 3)) (400 + w 0 4) 6 (g (308 + lo.toNatClampNeg) 7)) (400 + w 0 4) 7 (g (308 + lo.toNatClampNeg) 5)) (400 + w 0 4) 8 (g (308 + lo.toNatClampNeg) 2)) lo) rfl ?_
  refine st_m hx hb hB.1 hC hS hG.2.1 hv2 hn3 (k := 9) (by decide) (by unfold vp_in; decide) dX7_ofLotNow_86 (fun H locs hC hS => ?_)
  refine lv_dup hx hb dX7_ofLotNow_87 rfl ?_
  refine lv_bipush (v := 10) hx hb dX7_ofLotNow_88 (by decide) ?_
  refine lv_aload_n hx hb dX7_ofLotNow_90 rfl (lv_at hl 1 rfl) ?_
  refine lv_aload_n hx hb dX7_ofLotNow_91 rfl (lv_at hl 0 rfl) ?_
  refine m_callVi (As := [.ref (bd1 3 (308 + lo.toNatClampNeg))]) (κ := 0) (i := 0) rfl rfl ⟨_, rfl⟩ rfl ⟨hx, hb, hml, hown, hts⟩ (kX7_scoreOf l D cy e0 (bd := bd1) (w := (wN w 12)) (u2 (u2 (u2 (u2 (u2 (u2 (u2 (u2 (u2 (u2 (rz g (400 + w 0 4) (fun _ => 0)) (400 + w 0 4) 0 (g (308 + lo.toNatClampNeg) 0)) (400 + w 0 4) 1 (g (308 + lo.toNatClampNeg) 4)) (400 + w 0 4) 2 (g (308 + lo.toNatClampNeg) 10)) (400 + w 0 4) 3 (fX7_sum (w 0 0) (w 0 1) (w 0 2) (w 0 3) (w 0 4 + 1) (u2 (u2 (u2 (rz g (400 + w 0 4) (fun _ => 0)) (400 + w 0 4) 0 (g (308 + lo.toNatClampNeg) 0)) (400 + w 0 4) 1 (g (308 + lo.toNatClampNeg) 4)) (400 + w 0 4) 2 (g (308 + lo.toNatClampNeg) 10)) (308 + lo.toNatClampNeg) 17)) (400 + w 0 4) 4 (g (308 + lo.toNatClampNeg) 1)) (400 + w 0 4) 5 (g (308 + lo.toNatClampNeg) 3)) (400 + w 0 4) 6 (g (308 + lo.toNatClampNeg) 7)) (400 + w 0 4) 7 (g (308 + lo.toNatClampNeg) 5)) (400 + w 0 4) 8 (g (308 + lo.toNatClampNeg) 2)) (400 + w 0 4) 9 (fX7_gradeOf (w 0 0) (w 0 1) (w 0 2) (w 0 3) (w 0 4 + 1) (u2 (u2 (u2 (u2 (u2 (u2 (u2 (u2 (u2 (rz g (400 + w 0 4) (fun _ => 0)) (400 + w 0 4) 0 (g (308 + lo.toNatClampNeg) 0)) (400 + w 0 4) 1 (g (308 + lo.toNatClampNeg) 4)) (400 + w 0 4) 2 (g (308 + lo.toNatClampNeg) 10)) (400 + w 0 4) 3 (fX7_sum (w 0 0) (w 0 1) (w 0 2) (w 0 3) (w 0 4 + 1) (u2 (u2 (u2 (rz g (400 + w 0 4) (fun _ => 0)) (400 + w 0 4) 0 (g (308 + lo.toNatClampNeg) 0)) (400 + w 0 4) 1 (g (308 + lo.toNatClampNeg) 4)) (400 + w 0 4) 2 (g (308 + lo.toNatClampNeg) 10)) (308 + lo.toNatClampNeg) 17)) (400 + w 0 4) 4 (g (308 + lo.toNatClampNeg) 1)) (400 + w 0 4) 5 (g (308 + lo.toNatClampNeg) 3)) (400 + w 0 4) 6 (g (308 + lo.toNatClampNeg) 7)) (400 + w 0 4) 7 (g (308 + lo.toNatClampNeg) 5)) (400 + w 0 4) 8 (g (308 + lo.toNatClampNeg) 2)) lo)) S _ (308 + lo.toNatClampNeg) (rV_308 (vp_lt h_lo)) (rl_308 hC.1 (vp_lt h_lo)) ) (cwV 1 hts gX7_ofLotNow_X7_scoreOf rfl rfl rfl (by decide +kernel) ⟨Nat.le_of_ble_eq_true rfl, Nat.le_of_ble_eq_true rfl⟩) hB hG.2 hC hS rfl hl.1 (Nat.le_of_ble_eq_true rfl) dX7_ofLotNow_92 ⟨Nat.le_of_ble_eq_true rfl, Nat.le_of_ble_eq_true rfl⟩ (fun H locs hC hS => ?_)
  refine q_val (v := fX7_scoreOf (w 0 0) (w 0 1) (w 0 2) (w 0 3) (w 0 4 + 1) (u2 (u2 (u2 (u2 (u2 (u2 (u2 (u2 (u2 (u2 (rz g (400 + w 0 4) (fun _ => 0)) (400 + w 0 4) 0 (g (308 + lo.toNatClampNeg) 0)) (400 + w 0 4) 1 (g (308 + lo.toNatClampNeg) 4)) (400 + w 0 4) 2 (g (308 + lo.toNatClampNeg) 10)) (400 + w 0 4) 3 (fX7_sum (w 0 0) (w 0 1) (w 0 2) (w 0 3) (w 0 4 + 1) (u2 (u2 (u2 (rz g (400 + w 0 4) (fun _ => 0)) (400 + w 0 4) 0 (g (308 + lo.toNatClampNeg) 0)) (400 + w 0 4) 1 (g (308 + lo.toNatClampNeg) 4)) (400 + w 0 4) 2 (g (308 + lo.toNatClampNeg) 10)) (308 + lo.toNatClampNeg) 17)) (400 + w 0 4) 4 (g (308 + lo.toNatClampNeg) 1)) (400 + w 0 4) 5 (g (308 + lo.toNatClampNeg) 3)) (400 + w 0 4) 6 (g (308 + lo.toNatClampNeg) 7)) (400 + w 0 4) 7 (g (308 + lo.toNatClampNeg) 5)) (400 + w 0 4) 8 (g (308 + lo.toNatClampNeg) 2)) (400 + w 0 4) 9 (fX7_gradeOf (w 0 0) (w 0 1) (w 0 2) (w 0 3) (w 0 4 + 1) (u2 (u2 (u2 (u2 (u2 (u2 (u2 (u2 (u2 (rz g (400 + w 0 4) (fun _ => 0)) (400 + w 0 4) 0 (g (308 + lo.toNatClampNeg) 0)) (400 + w 0 4) 1 (g (308 + lo.toNatClampNeg) 4)) (400 + w 0 4) 2 (g (308 + lo.toNatClampNeg) 10)) (400 + w 0 4) 3 (fX7_sum (w 0 0) (w 0 1) (w 0 2) (w 0 3) (w 0 4 + 1) (u2 (u2 (u2 (rz g (400 + w 0 4) (fun _ => 0)) (400 + w 0 4) 0 (g (308 + lo.toNatClampNeg) 0)) (400 + w 0 4) 1 (g (308 + lo.toNatClampNeg) 4)) (400 + w 0 4) 2 (g (308 + lo.toNatClampNeg) 10)) (308 + lo.toNatClampNeg) 17)) (400 + w 0 4) 4 (g (308 + lo.toNatClampNeg) 1)) (400 + w 0 4) 5 (g (308 + lo.toNatClampNeg) 3)) (400 + w 0 4) 6 (g (308 + lo.toNatClampNeg) 7)) (400 + w 0 4) 7 (g (308 + lo.toNatClampNeg) 5)) (400 + w 0 4) 8 (g (308 + lo.toNatClampNeg) 2)) lo)) (308 + lo.toNatClampNeg)) rfl ?_
  refine st_m hx hb hB.1 hC hS hG.2.1 hv2 hn3 (k := 10) (by decide) (by unfold vp_in; decide) dX7_ofLotNow_95 (fun H locs hC hS => ?_)
  refine lv_dup hx hb dX7_ofLotNow_96 rfl ?_
  refine lv_bipush (v := 11) hx hb dX7_ofLotNow_97 (by decide) ?_
  refine lv_aload_n hx hb dX7_ofLotNow_99 rfl (lv_at hl 0 rfl) ?_
  refine m_callSi (As := [.ref (bd1 3 (308 + lo.toNatClampNeg))])  ⟨hx, hb, hml, hown, hts⟩ (kX7_causeOf l D cy e0 (bd := bd1) (w := (wN w 12)) (u2 (u2 (u2 (u2 (u2 (u2 (u2 (u2 (u2 (u2 (u2 (rz g (400 + w 0 4) (fun _ => 0)) (400 + w 0 4) 0 (g (308 + lo.toNatClampNeg) 0)) (400 + w 0 4) 1 (g (308 + lo.toNatClampNeg) 4)) (400 + w 0 4) 2 (g (308 + lo.toNatClampNeg) 10)) (400 + w 0 4) 3 (fX7_sum (w 0 0) (w 0 1) (w 0 2) (w 0 3) (w 0 4 + 1) (u2 (u2 (u2 (rz g (400 + w 0 4) (fun _ => 0)) (400 + w 0 4) 0 (g (308 + lo.toNatClampNeg) 0)) (400 + w 0 4) 1 (g (308 + lo.toNatClampNeg) 4)) (400 + w 0 4) 2 (g (308 + lo.toNatClampNeg) 10)) (308 + lo.toNatClampNeg) 17)) (400 + w 0 4) 4 (g (308 + lo.toNatClampNeg) 1)) (400 + w 0 4) 5 (g (308 + lo.toNatClampNeg) 3)) (400 + w 0 4) 6 (g (308 + lo.toNatClampNeg) 7)) (400 + w 0 4) 7 (g (308 + lo.toNatClampNeg) 5)) (400 + w 0 4) 8 (g (308 + lo.toNatClampNeg) 2)) (400 + w 0 4) 9 (fX7_gradeOf (w 0 0) (w 0 1) (w 0 2) (w 0 3) (w 0 4 + 1) (u2 (u2 (u2 (u2 (u2 (u2 (u2 (u2 (u2 (rz g (400 + w 0 4) (fun _ => 0)) (400 + w 0 4) 0 (g (308 + lo.toNatClampNeg) 0)) (400 + w 0 4) 1 (g (308 + lo.toNatClampNeg) 4)) (400 + w 0 4) 2 (g (308 + lo.toNatClampNeg) 10)) (400 + w 0 4) 3 (fX7_sum (w 0 0) (w 0 1) (w 0 2) (w 0 3) (w 0 4 + 1) (u2 (u2 (u2 (rz g (400 + w 0 4) (fun _ => 0)) (400 + w 0 4) 0 (g (308 + lo.toNatClampNeg) 0)) (400 + w 0 4) 1 (g (308 + lo.toNatClampNeg) 4)) (400 + w 0 4) 2 (g (308 + lo.toNatClampNeg) 10)) (308 + lo.toNatClampNeg) 17)) (400 + w 0 4) 4 (g (308 + lo.toNatClampNeg) 1)) (400 + w 0 4) 5 (g (308 + lo.toNatClampNeg) 3)) (400 + w 0 4) 6 (g (308 + lo.toNatClampNeg) 7)) (400 + w 0 4) 7 (g (308 + lo.toNatClampNeg) 5)) (400 + w 0 4) 8 (g (308 + lo.toNatClampNeg) 2)) lo)) (400 + w 0 4) 10 (fX7_scoreOf (w 0 0) (w 0 1) (w 0 2) (w 0 3) (w 0 4 + 1) (u2 (u2 (u2 (u2 (u2 (u2 (u2 (u2 (u2 (u2 (rz g (400 + w 0 4) (fun _ => 0)) (400 + w 0 4) 0 (g (308 + lo.toNatClampNeg) 0)) (400 + w 0 4) 1 (g (308 + lo.toNatClampNeg) 4)) (400 + w 0 4) 2 (g (308 + lo.toNatClampNeg) 10)) (400 + w 0 4) 3 (fX7_sum (w 0 0) (w 0 1) (w 0 2) (w 0 3) (w 0 4 + 1) (u2 (u2 (u2 (rz g (400 + w 0 4) (fun _ => 0)) (400 + w 0 4) 0 (g (308 + lo.toNatClampNeg) 0)) (400 + w 0 4) 1 (g (308 + lo.toNatClampNeg) 4)) (400 + w 0 4) 2 (g (308 + lo.toNatClampNeg) 10)) (308 + lo.toNatClampNeg) 17)) (400 + w 0 4) 4 (g (308 + lo.toNatClampNeg) 1)) (400 + w 0 4) 5 (g (308 + lo.toNatClampNeg) 3)) (400 + w 0 4) 6 (g (308 + lo.toNatClampNeg) 7)) (400 + w 0 4) 7 (g (308 + lo.toNatClampNeg) 5)) (400 + w 0 4) 8 (g (308 + lo.toNatClampNeg) 2)) (400 + w 0 4) 9 (fX7_gradeOf (w 0 0) (w 0 1) (w 0 2) (w 0 3) (w 0 4 + 1) (u2 (u2 (u2 (u2 (u2 (u2 (u2 (u2 (u2 (rz g (400 + w 0 4) (fun _ => 0)) (400 + w 0 4) 0 (g (308 + lo.toNatClampNeg) 0)) (400 + w 0 4) 1 (g (308 + lo.toNatClampNeg) 4)) (400 + w 0 4) 2 (g (308 + lo.toNatClampNeg) 10)) (400 + w 0 4) 3 (fX7_sum (w 0 0) (w 0 1) (w 0 2) (w 0 3) (w 0 4 + 1) (u2 (u2 (u2 (rz g (400 + w 0 4) (fun _ => 0)) (400 + w 0 4) 0 (g (308 + lo.toNatClampNeg) 0)) (400 + w 0 4) 1 (g (308 + lo.toNatClampNeg) 4)) (400 + w 0 4) 2 (g (308 + lo.toNatClampNeg) 10)) (308 + lo.toNatClampNeg) 17)) (400 + w 0 4) 4 (g (308 + lo.toNatClampNeg) 1)) (400 + w 0 4) 5 (g (308 + lo.toNatClampNeg) 3)) (400 + w 0 4) 6 (g (308 + lo.toNatClampNeg) 7)) (400 + w 0 4) 7 (g (308 + lo.toNatClampNeg) 5)) (400 + w 0 4) 8 (g (308 + lo.toNatClampNeg) 2)) lo)) (308 + lo.toNatClampNeg))) S _ (308 + lo.toNatClampNeg) (rV_308 (vp_lt h_lo)) (rl_308 hC.1 (vp_lt h_lo)) ) (va_cwS 1 hts gX7_ofLotNow_X7_causeOf rfl rfl rfl (by decide +kernel) ⟨Nat.le_of_ble_eq_true rfl, Nat.le_of_ble_eq_true rfl⟩) hB hG.2 hC hS rfl hl.1 (Nat.le_of_ble_eq_true rfl) dX7_ofLotNow_100 ⟨Nat.le_of_ble_eq_true rfl, Nat.le_of_ble_eq_true rfl⟩ (fun H locs hC hS => ?_)
  refine q_val (v := fX7_causeOf (w 0 0) (w 0 1) (w 0 2) (w 0 3) (w 0 4 + 1) (u2 (u2 (u2 (u2 (u2 (u2 (u2 (u2 (u2 (u2 (u2 (rz g (400 + w 0 4) (fun _ => 0)) (400 + w 0 4) 0 (g (308 + lo.toNatClampNeg) 0)) (400 + w 0 4) 1 (g (308 + lo.toNatClampNeg) 4)) (400 + w 0 4) 2 (g (308 + lo.toNatClampNeg) 10)) (400 + w 0 4) 3 (fX7_sum (w 0 0) (w 0 1) (w 0 2) (w 0 3) (w 0 4 + 1) (u2 (u2 (u2 (rz g (400 + w 0 4) (fun _ => 0)) (400 + w 0 4) 0 (g (308 + lo.toNatClampNeg) 0)) (400 + w 0 4) 1 (g (308 + lo.toNatClampNeg) 4)) (400 + w 0 4) 2 (g (308 + lo.toNatClampNeg) 10)) (308 + lo.toNatClampNeg) 17)) (400 + w 0 4) 4 (g (308 + lo.toNatClampNeg) 1)) (400 + w 0 4) 5 (g (308 + lo.toNatClampNeg) 3)) (400 + w 0 4) 6 (g (308 + lo.toNatClampNeg) 7)) (400 + w 0 4) 7 (g (308 + lo.toNatClampNeg) 5)) (400 + w 0 4) 8 (g (308 + lo.toNatClampNeg) 2)) (400 + w 0 4) 9 (fX7_gradeOf (w 0 0) (w 0 1) (w 0 2) (w 0 3) (w 0 4 + 1) (u2 (u2 (u2 (u2 (u2 (u2 (u2 (u2 (u2 (rz g (400 + w 0 4) (fun _ => 0)) (400 + w 0 4) 0 (g (308 + lo.toNatClampNeg) 0)) (400 + w 0 4) 1 (g (308 + lo.toNatClampNeg) 4)) (400 + w 0 4) 2 (g (308 + lo.toNatClampNeg) 10)) (400 + w 0 4) 3 (fX7_sum (w 0 0) (w 0 1) (w 0 2) (w 0 3) (w 0 4 + 1) (u2 (u2 (u2 (rz g (400 + w 0 4) (fun _ => 0)) (400 + w 0 4) 0 (g (308 + lo.toNatClampNeg) 0)) (400 + w 0 4) 1 (g (308 + lo.toNatClampNeg) 4)) (400 + w 0 4) 2 (g (308 + lo.toNatClampNeg) 10)) (308 + lo.toNatClampNeg) 17)) (400 + w 0 4) 4 (g (308 + lo.toNatClampNeg) 1)) (400 + w 0 4) 5 (g (308 + lo.toNatClampNeg) 3)) (400 + w 0 4) 6 (g (308 + lo.toNatClampNeg) 7)) (400 + w 0 4) 7 (g (308 + lo.toNatClampNeg) 5)) (400 + w 0 4) 8 (g (308 + lo.toNatClampNeg) 2)) lo)) (400 + w 0 4) 10 (fX7_scoreOf (w 0 0) (w 0 1) (w 0 2) (w 0 3) (w 0 4 + 1) (u2 (u2 (u2 (u2 (u2 (u2 (u2 (u2 (u2 (u2 (rz g (400 + w 0 4) (fun _ => 0)) (400 + w 0 4) 0 (g (308 + lo.toNatClampNeg) 0)) (400 + w 0 4) 1 (g (308 + lo.toNatClampNeg) 4)) (400 + w 0 4) 2 (g (308 + lo.toNatClampNeg) 10)) (400 + w 0 4) 3 (fX7_sum (w 0 0) (w 0 1) (w 0 2) (w 0 3) (w 0 4 + 1) (u2 (u2 (u2 (rz g (400 + w 0 4) (fun _ => 0)) (400 + w 0 4) 0 (g (308 + lo.toNatClampNeg) 0)) (400 + w 0 4) 1 (g (308 + lo.toNatClampNeg) 4)) (400 + w 0 4) 2 (g (308 + lo.toNatClampNeg) 10)) (308 + lo.toNatClampNeg) 17)) (400 + w 0 4) 4 (g (308 + lo.toNatClampNeg) 1)) (400 + w 0 4) 5 (g (308 + lo.toNatClampNeg) 3)) (400 + w 0 4) 6 (g (308 + lo.toNatClampNeg) 7)) (400 + w 0 4) 7 (g (308 + lo.toNatClampNeg) 5)) (400 + w 0 4) 8 (g (308 + lo.toNatClampNeg) 2)) (400 + w 0 4) 9 (fX7_gradeOf (w 0 0) (w 0 1) (w 0 2) (w 0 3) (w 0 4 + 1) (u2 (u2 (u2 (u2 (u2 (u2 (u2 (u2 (u2 (rz g (400 + w 0 4) (fun _ => 0)) (400 + w 0 4) 0 (g (308 + lo.toNatClampNeg) 0)) (400 + w 0 4) 1 (g (308 + lo.toNatClampNeg) 4)) (400 + w 0 4) 2 (g (308 + lo.toNatClampNeg) 10)) (400 + w 0 4) 3 (fX7_sum (w 0 0) (w 0 1) (w 0 2) (w 0 3) (w 0 4 + 1) (u2 (u2 (u2 (rz g (400 + w 0 4) (fun _ => 0)) (400 + w 0 4) 0 (g (308 + lo.toNatClampNeg) 0)) (400 + w 0 4) 1 (g (308 + lo.toNatClampNeg) 4)) (400 + w 0 4) 2 (g (308 + lo.toNatClampNeg) 10)) (308 + lo.toNatClampNeg) 17)) (400 + w 0 4) 4 (g (308 + lo.toNatClampNeg) 1)) (400 + w 0 4) 5 (g (308 + lo.toNatClampNeg) 3)) (400 + w 0 4) 6 (g (308 + lo.toNatClampNeg) 7)) (400 + w 0 4) 7 (g (308 + lo.toNatClampNeg) 5)) (400 + w 0 4) 8 (g (308 + lo.toNatClampNeg) 2)) lo)) (308 + lo.toNatClampNeg))) (308 + lo.toNatClampNeg)) rfl ?_
  refine st_m hx hb hB.1 hC hS hG.2.1 hv2 hn3 (k := 11) (by decide) (by unfold vp_in; decide) dX7_ofLotNow_103 (fun H locs hC hS => ?_)
  refine lv_astore (lv' := [(4, .ref (bd1 3 (400 + w 0 4))), (3, .ref (bd1 3 (308 + lo.toNatClampNeg))), (0, .ref (bd1 0 0)), (1, .int lo), (2, .int u)]) hx hb dX7_ofLotNow_104 hl (by decide) rfl (fun ls hl => ?_)
  refine lv_aload hx hb dX7_ofLotNow_106 (lv_at hl 0 rfl) ?_
  refine lv_iload_n hx hb dX7_ofLotNow_108 rfl (lv_at hl 4 rfl) ?_
  refine ld_m hx hb hB.1 hC hv2 hn3 (k := u.toNatClampNeg) rfl hp1 dX7_ofLotNow_109 ?_
  refine W.widen (k := 1) (n := 12) (Nat.le_of_ble_eq_true rfl) (Nat.le_of_ble_eq_true rfl) ?_
  exact m_reti hx hb hr hG hC hS (mEq_tmp (mEq_tmp (mEq_tmp (mEq_tmp (mEq_tmp (mEq_tmp (mEq_tmp (mEq_tmp (mEq_tmp (mEq_tmp (mEq_tmp (mEq_tmp (mEq_rz mEq_rf hw0 (by omega)) hw0 (by omega)) hw0 (by omega)) hw0 (by omega)) hw0 (by omega)) hw0 (by omega)) hw0 (by omega)) hw0 (by omega)) hw0 (by omega)) hw0 (by omega)) hw0 (by omega)) hw0 (by omega)) hw0 (by omega)) rfl hlocks dX7_ofLotNow_110
def fX7_ofLot (na nb nc nd T : Nat) (g : Md) (x : Int32) (u : Int32) : Int32 × Md := if (fX7_isLot na nb nc nd T (u2 g 0 20 0) x) = 0 then (((fX7_refuse na nb nc nd T (u2 g 0 20 0) 1).1, (fX7_refuse na nb nc nd T (u2 g 0 20 0) 1).2)) else (if (fX7_is u 0 11) = 0 then (((fX7_refuse na nb nc nd T (u2 g 0 20 0) 2).1, (fX7_refuse na nb nc nd T (u2 g 0 20 0) 2).2)) else ((fX7_ofLotNow na nb nc nd T (u2 g 0 20 0) x u, (u2 g 0 20 0))))
theorem qX7_ofLot_w1 : Cond.fieldLink RX7 41 "CherryStationModel" "thrown" "I" ∈ wsX7_ofLot := List.mem_of_getElem? (i := 1) rfl
theorem iX7_ofLot_X7 : ∀ w ∈ wsX70, w ∈ wsX7_ofLot := fun _ h => (List.mem_cons_of_mem _ (List.mem_append_left _ (List.mem_append_right _ h)))
set_option maxRecDepth 100000 in
set_option maxHeartbeats 4000000 in
theorem kX7_ofLot (l : Launch) (D : va_G) (cy : Nat → ClassId) (e0 : Nat) {bd w : Nat → Nat → Nat} (g : Md) (S : Int64) (sz : Nat) (x : Int32) (u : Int32) (hT4 : w 0 4 + 1 ≤ 50) (hp1 : ¬ ((fX7_isLot (w 0 0) (w 0 1) (w 0 2) (w 0 3) (w 0 4) (u2 g 0 20 0) x) = 0) → ¬ ((fX7_is u 0 11) = 0) → ((vp_in u 12))) : Met l yX7_ofLot wsX7_ofLot ({ frames := 5, cells := 1, slots := 12, locals := 112 } : Room) (va_Pc [.ref (bd 0 0), .int x, .int u] (mPre D cy e0 bd w g S sz)) (mQi D cy bd w (fX7_ofLot (w 0 0) (w 0 1) (w 0 2) (w 0 3) (w 0 4) g x u).1 (fX7_ofLot (w 0 0) (w 0 1) (w 0 2) (w 0 3) (w 0 4) g x u).2 S sz) 1 12 (mA bd w sz) := by
  refine q_start (cc := cX7_ofLot) (maxL := 3) (ret := (some .int)) (own := RX7) (by decide) rfl rfl (Nat.le_of_ble_eq_true rfl) ?_
  intro p e s m below meth c hx hb hr hml hts hown hlocks ⟨hsz, hC, hB⟩ ls hl
  subst hsz
  have hS : va_S (mA bd w s.heap.size) s.heap s.heap [] := va_S.rf
  have hG : mG e0 bd w s.heap.size bd w := mG.rf hB.2.2.1
  have hw0 := hC.1
  have hl : lv_has ls 3 [(0, .ref (bd 0 0)), (1, .int x), (2, .int u)] := hl
  refine lv_aload_n hx hb dX7_ofLot_0 rfl (lv_at hl 0 rfl) ?_
  refine lv_iconst (v := 0) hx hb dX7_ofLot_1 (by decide) ?_
  refine pt_m0_0 hx hb hts iX7_ofLot_X7 hown hB.1 hC hS hG.2.1 qX7_ofLot_w1 dX7_ofLot_2 (fun H locs hC hS => ?_)
  refine lv_aload_n hx hb dX7_ofLot_5 rfl (lv_at hl 0 rfl) ?_
  refine lv_iload_n hx hb dX7_ofLot_6 rfl (lv_at hl 1 rfl) ?_
  refine m_callVi (As := [.int x]) (κ := 0) (i := 0) rfl rfl ⟨_, rfl⟩ rfl ⟨hx, hb, hml, hown, hts⟩ (kX7_isLot l D cy e0 (bd := bd) (w := w) (u2 g 0 20 0) S _ x ) (cwV 1 hts gX7_ofLot_X7_isLot rfl rfl rfl (by decide +kernel) ⟨Nat.le_of_ble_eq_true rfl, Nat.le_of_ble_eq_true rfl⟩) hB hG.2 hC hS rfl hl.1 (Nat.le_of_ble_eq_true rfl) dX7_ofLot_7 ⟨Nat.le_of_ble_eq_true rfl, Nat.le_of_ble_eq_true rfl⟩ (fun H locs hC hS => ?_)
  refine lv_if_ne (tgt := 19) hx hb dX7_ofLot_10 (by decide) (fun c1 => ?_) (fun c1 => ?_)
  · skip
    refine lv_iload_n hx hb dX7_ofLot_19 rfl (lv_at hl 2 rfl) ?_
    refine lv_iconst (v := 0) hx hb dX7_ofLot_20 (by decide) ?_
    refine lv_bipush (v := 11) hx hb dX7_ofLot_21 (by decide) ?_
    refine m_callSi (As := [.int u, .int 0, .int 11])  ⟨hx, hb, hml, hown, hts⟩ (kX7_is l D cy e0 (bd := bd) (w := w) (u2 g 0 20 0) S _ u 0 11 ) (va_cwS 3 hts gX7_ofLot_X7_is rfl rfl rfl (by decide +kernel) ⟨Nat.le_of_ble_eq_true rfl, Nat.le_of_ble_eq_true rfl⟩) hB hG.2 hC hS rfl hl.1 (Nat.le_of_ble_eq_true rfl) dX7_ofLot_23 ⟨Nat.le_of_ble_eq_true rfl, Nat.le_of_ble_eq_true rfl⟩ (fun H locs hC hS => ?_)
    refine lv_if_eq (tgt := 38) hx hb dX7_ofLot_26 (by decide) (fun c2 => ?_) (fun c2 => ?_)
    · skip
      refine lv_aload_n hx hb dX7_ofLot_38 rfl (lv_at hl 0 rfl) ?_
      refine lv_iconst (v := 2) hx hb dX7_ofLot_39 (by decide) ?_
      refine m_callVi (As := [.int 2]) (κ := 0) (i := 0) rfl rfl ⟨_, rfl⟩ rfl ⟨hx, hb, hml, hown, hts⟩ (kX7_refuse l D cy e0 (bd := bd) (w := w) (u2 g 0 20 0) S _ 2 ) (cwV 1 hts gX7_ofLot_X7_refuse rfl rfl rfl (by decide +kernel) ⟨Nat.le_of_ble_eq_true rfl, Nat.le_of_ble_eq_true rfl⟩) hB hG.2 hC hS rfl hl.1 (Nat.le_of_ble_eq_true rfl) dX7_ofLot_40 ⟨Nat.le_of_ble_eq_true rfl, Nat.le_of_ble_eq_true rfl⟩ (fun H locs hC hS => ?_)
      refine W.widen (k := 1) (n := 12) (Nat.le_of_ble_eq_true rfl) (Nat.le_of_ble_eq_true rfl) ?_
      have e9 : fX7_ofLot (w 0 0) (w 0 1) (w 0 2) (w 0 3) (w 0 4) g x u = ((fX7_refuse (w 0 0) (w 0 1) (w 0 2) (w 0 3) (w 0 4) (u2 g 0 20 0) 2).1, (fX7_refuse (w 0 0) (w 0 1) (w 0 2) (w 0 3) (w 0 4) (u2 g 0 20 0) 2).2) := (by unfold fX7_ofLot; rw [if_neg c1, if_pos c2])
      exact m_reti hx hb hr hG hC hS (mEq_of (by rw [e9])) (by rw [e9]) hlocks dX7_ofLot_43
    · skip
      refine lv_aload_n hx hb dX7_ofLot_29 rfl (lv_at hl 0 rfl) ?_
      refine lv_iload_n hx hb dX7_ofLot_30 rfl (lv_at hl 1 rfl) ?_
      refine lv_iload_n hx hb dX7_ofLot_31 rfl (lv_at hl 2 rfl) ?_
      refine m_callVi (As := [.int x, .int u]) (κ := 0) (i := 0) rfl rfl ⟨_, rfl⟩ rfl ⟨hx, hb, hml, hown, hts⟩ (kX7_ofLotNow l D cy e0 (bd := bd) (w := w) (u2 g 0 20 0) S _ x (isLot_in (w := w) hw0 c1) u (by show w 0 4 + 1 ≤ 50; omega) (hp1 c1 c2)) (cwV 2 hts gX7_ofLot_X7_ofLotNow rfl rfl rfl (by decide +kernel) ⟨Nat.le_of_ble_eq_true rfl, Nat.le_of_ble_eq_true rfl⟩) hB hG.2 hC hS rfl hl.1 (Nat.le_of_ble_eq_true rfl) dX7_ofLot_32 ⟨Nat.le_of_ble_eq_true rfl, Nat.le_of_ble_eq_true rfl⟩ (fun H locs hC hS => ?_)
      refine lv_goto (tgt := 43) hx hb dX7_ofLot_35 (by decide) ?_
      refine W.widen (k := 1) (n := 12) (Nat.le_of_ble_eq_true rfl) (Nat.le_of_ble_eq_true rfl) ?_
      have e9 : fX7_ofLot (w 0 0) (w 0 1) (w 0 2) (w 0 3) (w 0 4) g x u = (fX7_ofLotNow (w 0 0) (w 0 1) (w 0 2) (w 0 3) (w 0 4) (u2 g 0 20 0) x u, (u2 g 0 20 0)) := (by unfold fX7_ofLot; rw [if_neg c1, if_neg c2])
      exact m_reti hx hb hr hG hC hS (mEq_of (by rw [e9])) (by rw [e9]) hlocks dX7_ofLot_43
  · skip
    refine lv_aload_n hx hb dX7_ofLot_13 rfl (lv_at hl 0 rfl) ?_
    refine lv_iconst (v := 1) hx hb dX7_ofLot_14 (by decide) ?_
    refine m_callVi (As := [.int 1]) (κ := 0) (i := 0) rfl rfl ⟨_, rfl⟩ rfl ⟨hx, hb, hml, hown, hts⟩ (kX7_refuse l D cy e0 (bd := bd) (w := w) (u2 g 0 20 0) S _ 1 ) (cwV 1 hts gX7_ofLot_X7_refuse rfl rfl rfl (by decide +kernel) ⟨Nat.le_of_ble_eq_true rfl, Nat.le_of_ble_eq_true rfl⟩) hB hG.2 hC hS rfl hl.1 (Nat.le_of_ble_eq_true rfl) dX7_ofLot_15 ⟨Nat.le_of_ble_eq_true rfl, Nat.le_of_ble_eq_true rfl⟩ (fun H locs hC hS => ?_)
    refine W.widen (k := 1) (n := 12) (Nat.le_of_ble_eq_true rfl) (Nat.le_of_ble_eq_true rfl) ?_
    have e9 : fX7_ofLot (w 0 0) (w 0 1) (w 0 2) (w 0 3) (w 0 4) g x u = ((fX7_refuse (w 0 0) (w 0 1) (w 0 2) (w 0 3) (w 0 4) (u2 g 0 20 0) 1).1, (fX7_refuse (w 0 0) (w 0 1) (w 0 2) (w 0 3) (w 0 4) (u2 g 0 20 0) 1).2) := (by unfold fX7_ofLot; rw [if_pos c1])
    exact m_reti hx hb hr hG hC hS (mEq_of (by rw [e9])) (by rw [e9]) hlocks dX7_ofLot_18
def fX7_wouldShare (na nb nc nd T : Nat) (g : Md) (x : Int32) (fa : Int32) (pr : Int32) (lb : Int32) : Int32 × Md := if (fX7_isLot na nb nc nd T (u2 g 0 20 0) x) = 0 then (((fX7_refuse na nb nc nd T (u2 g 0 20 0) 1).1, (fX7_refuse na nb nc nd T (u2 g 0 20 0) 1).2)) else (if (fX7_isFarm na nb nc nd T (u2 g 0 20 0) fa) = 0 then (((fX7_refuse na nb nc nd T (u2 g 0 20 0) 1).1, (fX7_refuse na nb nc nd T (u2 g 0 20 0) 1).2)) else (if (fX7_is pr 1 200) = 0 then (((fX7_refuse na nb nc nd T (u2 g 0 20 0) 2).1, (fX7_refuse na nb nc nd T (u2 g 0 20 0) 2).2)) else (if (fX7_canSell na nb nc nd T (u2 g 0 20 0) x) = 0 then (((fX7_refuse na nb nc nd T (u2 g 0 20 0) 3).1, (fX7_refuse na nb nc nd T (u2 g 0 20 0) 3).2)) else ((fX7_share na nb nc nd T (u2 g 0 20 0) x fa pr lb, (u2 g 0 20 0))))))
theorem qX7_wouldShare_w1 : Cond.fieldLink RX7 41 "CherryStationModel" "thrown" "I" ∈ wsX7_wouldShare := List.mem_of_getElem? (i := 1) rfl
theorem iX7_wouldShare_X7 : ∀ w ∈ wsX70, w ∈ wsX7_wouldShare := fun _ h => (List.mem_cons_of_mem _ (List.mem_append_left _ (List.mem_append_right _ h)))
set_option maxRecDepth 100000 in
set_option maxHeartbeats 4000000 in
theorem kX7_wouldShare (l : Launch) (D : va_G) (cy : Nat → ClassId) (e0 : Nat) {bd w : Nat → Nat → Nat} (g : Md) (S : Int64) (sz : Nat) (x : Int32) (fa : Int32) (pr : Int32) (lb : Int32) (hp1 : ¬ ((fX7_isLot (w 0 0) (w 0 1) (w 0 2) (w 0 3) (w 0 4) (u2 g 0 20 0) x) = 0) → ¬ ((fX7_isFarm (w 0 0) (w 0 1) (w 0 2) (w 0 3) (w 0 4) (u2 g 0 20 0) fa) = 0) → ¬ ((fX7_is pr 1 200) = 0) → ¬ ((fX7_canSell (w 0 0) (w 0 1) (w 0 2) (w 0 3) (w 0 4) (u2 g 0 20 0) x) = 0) → ((¬ (5 * (((u2 g 0 20 0) (308 + x.toNatClampNeg) 0).toInt64)) = 0))) : Met l yX7_wouldShare wsX7_wouldShare ({ frames := 5, cells := 0, slots := 0, locals := 113 } : Room) (va_Pc [.ref (bd 0 0), .int x, .int fa, .int pr, .int lb] (mPre D cy e0 bd w g S sz)) (mQi D cy bd w (fX7_wouldShare (w 0 0) (w 0 1) (w 0 2) (w 0 3) (w 0 4) g x fa pr lb).1 (fX7_wouldShare (w 0 0) (w 0 1) (w 0 2) (w 0 3) (w 0 4) g x fa pr lb).2 S sz) 0 0 (mA bd w sz) := by
  refine q_start (cc := cX7_wouldShare) (maxL := 5) (ret := (some .int)) (own := RX7) (by decide) rfl rfl (Nat.le_of_ble_eq_true rfl) ?_
  intro p e s m below meth c hx hb hr hml hts hown hlocks ⟨hsz, hC, hB⟩ ls hl
  subst hsz
  have hS : va_S (mA bd w s.heap.size) s.heap s.heap [] := va_S.rf
  have hG : mG e0 bd w s.heap.size bd w := mG.rf hB.2.2.1
  have hw0 := hC.1
  have hl : lv_has ls 5 [(0, .ref (bd 0 0)), (1, .int x), (2, .int fa), (3, .int pr), (4, .int lb)] := hl
  refine lv_aload_n hx hb dX7_wouldShare_0 rfl (lv_at hl 0 rfl) ?_
  refine lv_iconst (v := 0) hx hb dX7_wouldShare_1 (by decide) ?_
  refine pt_m0_0 hx hb hts iX7_wouldShare_X7 hown hB.1 hC hS hG.2.1 qX7_wouldShare_w1 dX7_wouldShare_2 (fun H locs hC hS => ?_)
  refine lv_aload_n hx hb dX7_wouldShare_5 rfl (lv_at hl 0 rfl) ?_
  refine lv_iload_n hx hb dX7_wouldShare_6 rfl (lv_at hl 1 rfl) ?_
  refine m_callVi (As := [.int x]) (κ := 0) (i := 0) rfl rfl ⟨_, rfl⟩ rfl ⟨hx, hb, hml, hown, hts⟩ (kX7_isLot l D cy e0 (bd := bd) (w := w) (u2 g 0 20 0) S _ x ) (cwV 1 hts gX7_wouldShare_X7_isLot rfl rfl rfl (by decide +kernel) ⟨Nat.le_of_ble_eq_true rfl, Nat.le_of_ble_eq_true rfl⟩) hB hG.2 hC hS rfl hl.1 (Nat.le_of_ble_eq_true rfl) dX7_wouldShare_7 ⟨Nat.le_of_ble_eq_true rfl, Nat.le_of_ble_eq_true rfl⟩ (fun H locs hC hS => ?_)
  refine lv_if_eq (tgt := 21) hx hb dX7_wouldShare_10 (by decide) (fun c1 => ?_) (fun c1 => ?_)
  · skip
    refine lv_aload_n hx hb dX7_wouldShare_21 rfl (lv_at hl 0 rfl) ?_
    refine lv_iconst (v := 1) hx hb dX7_wouldShare_22 (by decide) ?_
    refine m_callVi (As := [.int 1]) (κ := 0) (i := 0) rfl rfl ⟨_, rfl⟩ rfl ⟨hx, hb, hml, hown, hts⟩ (kX7_refuse l D cy e0 (bd := bd) (w := w) (u2 g 0 20 0) S _ 1 ) (cwV 1 hts gX7_wouldShare_X7_refuse rfl rfl rfl (by decide +kernel) ⟨Nat.le_of_ble_eq_true rfl, Nat.le_of_ble_eq_true rfl⟩) hB hG.2 hC hS rfl hl.1 (Nat.le_of_ble_eq_true rfl) dX7_wouldShare_23 ⟨Nat.le_of_ble_eq_true rfl, Nat.le_of_ble_eq_true rfl⟩ (fun H locs hC hS => ?_)
    have e9 : fX7_wouldShare (w 0 0) (w 0 1) (w 0 2) (w 0 3) (w 0 4) g x fa pr lb = ((fX7_refuse (w 0 0) (w 0 1) (w 0 2) (w 0 3) (w 0 4) (u2 g 0 20 0) 1).1, (fX7_refuse (w 0 0) (w 0 1) (w 0 2) (w 0 3) (w 0 4) (u2 g 0 20 0) 1).2) := (by unfold fX7_wouldShare; rw [if_pos c1])
    exact m_reti hx hb hr hG hC hS (mEq_of (by rw [e9])) (by rw [e9]) hlocks dX7_wouldShare_26
  · skip
    refine lv_aload_n hx hb dX7_wouldShare_13 rfl (lv_at hl 0 rfl) ?_
    refine lv_iload_n hx hb dX7_wouldShare_14 rfl (lv_at hl 2 rfl) ?_
    refine m_callVi (As := [.int fa]) (κ := 0) (i := 0) rfl rfl ⟨_, rfl⟩ rfl ⟨hx, hb, hml, hown, hts⟩ (kX7_isFarm l D cy e0 (bd := bd) (w := w) (u2 g 0 20 0) S _ fa ) (cwV 1 hts gX7_wouldShare_X7_isFarm rfl rfl rfl (by decide +kernel) ⟨Nat.le_of_ble_eq_true rfl, Nat.le_of_ble_eq_true rfl⟩) hB hG.2 hC hS rfl hl.1 (Nat.le_of_ble_eq_true rfl) dX7_wouldShare_15 ⟨Nat.le_of_ble_eq_true rfl, Nat.le_of_ble_eq_true rfl⟩ (fun H locs hC hS => ?_)
    refine lv_if_ne (tgt := 27) hx hb dX7_wouldShare_18 (by decide) (fun c2 => ?_) (fun c2 => ?_)
    · skip
      refine lv_iload_n hx hb dX7_wouldShare_27 rfl (lv_at hl 3 rfl) ?_
      refine lv_iconst (v := 1) hx hb dX7_wouldShare_28 (by decide) ?_
      refine lv_sipush (v := 200) hx hb dX7_wouldShare_29 (by decide) ?_
      refine m_callSi (As := [.int pr, .int 1, .int 200])  ⟨hx, hb, hml, hown, hts⟩ (kX7_is l D cy e0 (bd := bd) (w := w) (u2 g 0 20 0) S _ pr 1 200 ) (va_cwS 3 hts gX7_wouldShare_X7_is rfl rfl rfl (by decide +kernel) ⟨Nat.le_of_ble_eq_true rfl, Nat.le_of_ble_eq_true rfl⟩) hB hG.2 hC hS rfl hl.1 (Nat.le_of_ble_eq_true rfl) dX7_wouldShare_32 ⟨Nat.le_of_ble_eq_true rfl, Nat.le_of_ble_eq_true rfl⟩ (fun H locs hC hS => ?_)
      refine lv_if_ne (tgt := 44) hx hb dX7_wouldShare_35 (by decide) (fun c3 => ?_) (fun c3 => ?_)
      · skip
        refine lv_aload_n hx hb dX7_wouldShare_44 rfl (lv_at hl 0 rfl) ?_
        refine lv_iload_n hx hb dX7_wouldShare_45 rfl (lv_at hl 1 rfl) ?_
        refine m_callVi (As := [.int x]) (κ := 0) (i := 0) rfl rfl ⟨_, rfl⟩ rfl ⟨hx, hb, hml, hown, hts⟩ (kX7_canSell l D cy e0 (bd := bd) (w := w) (u2 g 0 20 0) S _ x (isLot_in (w := w) hw0 c1) ) (cwV 1 hts gX7_wouldShare_X7_canSell rfl rfl rfl (by decide +kernel) ⟨Nat.le_of_ble_eq_true rfl, Nat.le_of_ble_eq_true rfl⟩) hB hG.2 hC hS rfl hl.1 (Nat.le_of_ble_eq_true rfl) dX7_wouldShare_46 ⟨Nat.le_of_ble_eq_true rfl, Nat.le_of_ble_eq_true rfl⟩ (fun H locs hC hS => ?_)
        refine lv_if_eq (tgt := 64) hx hb dX7_wouldShare_49 (by decide) (fun c4 => ?_) (fun c4 => ?_)
        · skip
          refine lv_aload_n hx hb dX7_wouldShare_64 rfl (lv_at hl 0 rfl) ?_
          refine lv_iconst (v := 3) hx hb dX7_wouldShare_65 (by decide) ?_
          refine m_callVi (As := [.int 3]) (κ := 0) (i := 0) rfl rfl ⟨_, rfl⟩ rfl ⟨hx, hb, hml, hown, hts⟩ (kX7_refuse l D cy e0 (bd := bd) (w := w) (u2 g 0 20 0) S _ 3 ) (cwV 1 hts gX7_wouldShare_X7_refuse rfl rfl rfl (by decide +kernel) ⟨Nat.le_of_ble_eq_true rfl, Nat.le_of_ble_eq_true rfl⟩) hB hG.2 hC hS rfl hl.1 (Nat.le_of_ble_eq_true rfl) dX7_wouldShare_66 ⟨Nat.le_of_ble_eq_true rfl, Nat.le_of_ble_eq_true rfl⟩ (fun H locs hC hS => ?_)
          have e9 : fX7_wouldShare (w 0 0) (w 0 1) (w 0 2) (w 0 3) (w 0 4) g x fa pr lb = ((fX7_refuse (w 0 0) (w 0 1) (w 0 2) (w 0 3) (w 0 4) (u2 g 0 20 0) 3).1, (fX7_refuse (w 0 0) (w 0 1) (w 0 2) (w 0 3) (w 0 4) (u2 g 0 20 0) 3).2) := (by unfold fX7_wouldShare; rw [if_neg c1, if_neg c2, if_neg c3, if_pos c4])
          exact m_reti hx hb hr hG hC hS (mEq_of (by rw [e9])) (by rw [e9]) hlocks dX7_wouldShare_69
        · skip
          refine lv_aload_n hx hb dX7_wouldShare_52 rfl (lv_at hl 0 rfl) ?_
          refine lv_iload_n hx hb dX7_wouldShare_53 rfl (lv_at hl 1 rfl) ?_
          refine lv_iload_n hx hb dX7_wouldShare_54 rfl (lv_at hl 2 rfl) ?_
          refine lv_iload_n hx hb dX7_wouldShare_55 rfl (lv_at hl 3 rfl) ?_
          refine lv_iload hx hb dX7_wouldShare_56 (lv_at hl 4 rfl) ?_
          refine m_callVi (As := [.int x, .int fa, .int pr, .int lb]) (κ := 0) (i := 0) rfl rfl ⟨_, rfl⟩ rfl ⟨hx, hb, hml, hown, hts⟩ (kX7_share l D cy e0 (bd := bd) (w := w) (u2 g 0 20 0) S _ x (isLot_in (w := w) hw0 c1) fa (isFarm_in (w := w) hw0 c2) pr lb (hp1 c1 c2 c3 c4)) (cwV 4 hts gX7_wouldShare_X7_share rfl rfl rfl (by decide +kernel) ⟨Nat.le_of_ble_eq_true rfl, Nat.le_of_ble_eq_true rfl⟩) hB hG.2 hC hS rfl hl.1 (Nat.le_of_ble_eq_true rfl) dX7_wouldShare_58 ⟨Nat.le_of_ble_eq_true rfl, Nat.le_of_ble_eq_true rfl⟩ (fun H locs hC hS => ?_)
          refine lv_goto (tgt := 69) hx hb dX7_wouldShare_61 (by decide) ?_
          have e9 : fX7_wouldShare (w 0 0) (w 0 1) (w 0 2) (w 0 3) (w 0 4) g x fa pr lb = (fX7_share (w 0 0) (w 0 1) (w 0 2) (w 0 3) (w 0 4) (u2 g 0 20 0) x fa pr lb, (u2 g 0 20 0)) := (by unfold fX7_wouldShare; rw [if_neg c1, if_neg c2, if_neg c3, if_neg c4])
          exact m_reti hx hb hr hG hC hS (mEq_of (by rw [e9])) (by rw [e9]) hlocks dX7_wouldShare_69
      · skip
        refine lv_aload_n hx hb dX7_wouldShare_38 rfl (lv_at hl 0 rfl) ?_
        refine lv_iconst (v := 2) hx hb dX7_wouldShare_39 (by decide) ?_
        refine m_callVi (As := [.int 2]) (κ := 0) (i := 0) rfl rfl ⟨_, rfl⟩ rfl ⟨hx, hb, hml, hown, hts⟩ (kX7_refuse l D cy e0 (bd := bd) (w := w) (u2 g 0 20 0) S _ 2 ) (cwV 1 hts gX7_wouldShare_X7_refuse rfl rfl rfl (by decide +kernel) ⟨Nat.le_of_ble_eq_true rfl, Nat.le_of_ble_eq_true rfl⟩) hB hG.2 hC hS rfl hl.1 (Nat.le_of_ble_eq_true rfl) dX7_wouldShare_40 ⟨Nat.le_of_ble_eq_true rfl, Nat.le_of_ble_eq_true rfl⟩ (fun H locs hC hS => ?_)
        have e9 : fX7_wouldShare (w 0 0) (w 0 1) (w 0 2) (w 0 3) (w 0 4) g x fa pr lb = ((fX7_refuse (w 0 0) (w 0 1) (w 0 2) (w 0 3) (w 0 4) (u2 g 0 20 0) 2).1, (fX7_refuse (w 0 0) (w 0 1) (w 0 2) (w 0 3) (w 0 4) (u2 g 0 20 0) 2).2) := (by unfold fX7_wouldShare; rw [if_neg c1, if_neg c2, if_pos c3])
        exact m_reti hx hb hr hG hC hS (mEq_of (by rw [e9])) (by rw [e9]) hlocks dX7_wouldShare_43
    · skip
      refine lv_aload_n hx hb dX7_wouldShare_21 rfl (lv_at hl 0 rfl) ?_
      refine lv_iconst (v := 1) hx hb dX7_wouldShare_22 (by decide) ?_
      refine m_callVi (As := [.int 1]) (κ := 0) (i := 0) rfl rfl ⟨_, rfl⟩ rfl ⟨hx, hb, hml, hown, hts⟩ (kX7_refuse l D cy e0 (bd := bd) (w := w) (u2 g 0 20 0) S _ 1 ) (cwV 1 hts gX7_wouldShare_X7_refuse rfl rfl rfl (by decide +kernel) ⟨Nat.le_of_ble_eq_true rfl, Nat.le_of_ble_eq_true rfl⟩) hB hG.2 hC hS rfl hl.1 (Nat.le_of_ble_eq_true rfl) dX7_wouldShare_23 ⟨Nat.le_of_ble_eq_true rfl, Nat.le_of_ble_eq_true rfl⟩ (fun H locs hC hS => ?_)
      have e9 : fX7_wouldShare (w 0 0) (w 0 1) (w 0 2) (w 0 3) (w 0 4) g x fa pr lb = ((fX7_refuse (w 0 0) (w 0 1) (w 0 2) (w 0 3) (w 0 4) (u2 g 0 20 0) 1).1, (fX7_refuse (w 0 0) (w 0 1) (w 0 2) (w 0 3) (w 0 4) (u2 g 0 20 0) 1).2) := (by unfold fX7_wouldShare; rw [if_neg c1, if_pos c2])
      exact m_reti hx hb hr hG hC hS (mEq_of (by rw [e9])) (by rw [e9]) hlocks dX7_wouldShare_26
def fX7_wash (na nb nc nd T : Nat) (g : Md) (x : Int32) (bd_ : Int32) (ho : Int32) : Int32 × Md := if (fX7_isTank x) = 0 then (((fX7_refuse na nb nc nd T (u2 g 0 20 0) 1).1, (fX7_refuse na nb nc nd T (u2 g 0 20 0) 1).2)) else (if (fX7_isBed na nb nc nd T (u2 g 0 20 0) bd_) = 0 then (((fX7_refuse na nb nc nd T (u2 g 0 20 0) 1).1, (fX7_refuse na nb nc nd T (u2 g 0 20 0) 1).2)) else (if (g (300 + x.toNatClampNeg) 0) = 0 then (((fX7_refuse na nb nc nd T (u2 g 0 20 0) 2).1, (fX7_refuse na nb nc nd T (u2 g 0 20 0) 2).2)) else (if (fX7_isRoom na nb nc nd T (u2 g 0 20 0) (303 + bd_.toNatClampNeg) (g (300 + x.toNatClampNeg) 0)) = 0 then (((fX7_refuse na nb nc nd T (u2 g 0 20 0) 2).1, (fX7_refuse na nb nc nd T (u2 g 0 20 0) 2).2)) else (if ho = 0 then ((g (300 + x.toNatClampNeg) 0, fX7_empty na nb nc nd T (u2 (fX7_lay na nb nc nd T (u2 g 0 20 0) (303 + bd_.toNatClampNeg) (300 + x.toNatClampNeg) 0 550) 0 6 (((fX7_lay na nb nc nd T (u2 g 0 20 0) (303 + bd_.toNatClampNeg) (300 + x.toNatClampNeg) 0 550) 0 6) + (3 * (g (300 + x.toNatClampNeg) 0)))) (300 + x.toNatClampNeg))) else (if (g (300 + x.toNatClampNeg) 3) < 30 then ((g (300 + x.toNatClampNeg) 0, fX7_empty na nb nc nd T (u2 (fX7_lay na nb nc nd T (u2 g 0 20 0) (303 + bd_.toNatClampNeg) (300 + x.toNatClampNeg) 1 570) 0 6 (((fX7_lay na nb nc nd T (u2 g 0 20 0) (303 + bd_.toNatClampNeg) (300 + x.toNatClampNeg) 1 570) 0 6) + 0)) (300 + x.toNatClampNeg))) else (((fX7_refuse na nb nc nd T (u2 g 0 20 0) 2).1, (fX7_refuse na nb nc nd T (u2 g 0 20 0) 2).2)))))))
theorem qX7_wash_w1 : Cond.fieldLink RX7 41 "CherryStationModel" "thrown" "I" ∈ wsX7_wash := List.mem_of_getElem? (i := 1) rfl
theorem qX7_wash_w2 : Cond.fieldLink RX7 21 "CherryStationModel" "tanks" "[[I" ∈ wsX7_wash := List.mem_of_getElem? (i := 2) rfl
theorem qX7_wash_w3 : Cond.fieldLink RX7 24 "CherryStationModel" "beds" "Ljava/util/ArrayList;" ∈ wsX7_wash := List.mem_of_getElem? (i := 3) rfl
theorem qX7_wash_w4 : Cond.classLink RX7 72 "[I" ∈ wsX7_wash := List.mem_of_getElem? (i := 4) rfl
theorem qX7_wash_w5 : Cond.fieldLink RX7 150 "CherryStationModel" "water" "I" ∈ wsX7_wash := List.mem_of_getElem? (i := 5) rfl
theorem iX7_wash_X7 : ∀ w ∈ wsX70, w ∈ wsX7_wash := fun _ h => (List.mem_cons_of_mem _ (List.mem_append_left _ (List.mem_append_right _ h)))
set_option maxRecDepth 100000 in
set_option maxHeartbeats 4000000 in
theorem kX7_wash (l : Launch) (D : va_G) (cy : Nat → ClassId) (e0 : Nat) {bd w : Nat → Nat → Nat} (g : Md) (S : Int64) (sz : Nat) (x : Int32) (bd_ : Int32) (ho : Int32) (hp1 : ¬ ((fX7_isTank x) = 0) → ¬ ((fX7_isBed (w 0 0) (w 0 1) (w 0 2) (w 0 3) (w 0 4) (u2 g 0 20 0) bd_) = 0) → ¬ ((g (300 + x.toNatClampNeg) 0) = 0) → ¬ ((fX7_isRoom (w 0 0) (w 0 1) (w 0 2) (w 0 3) (w 0 4) (u2 g 0 20 0) (303 + bd_.toNatClampNeg) (g (300 + x.toNatClampNeg) 0)) = 0) → (ho = 0) → (¬ (g (303 + bd_.toNatClampNeg) 0) + (g (300 + x.toNatClampNeg) 0) = 0)) (hp2 : ¬ ((fX7_isTank x) = 0) → ¬ ((fX7_isBed (w 0 0) (w 0 1) (w 0 2) (w 0 3) (w 0 4) (u2 g 0 20 0) bd_) = 0) → ¬ ((g (300 + x.toNatClampNeg) 0) = 0) → ¬ ((fX7_isRoom (w 0 0) (w 0 1) (w 0 2) (w 0 3) (w 0 4) (u2 g 0 20 0) (303 + bd_.toNatClampNeg) (g (300 + x.toNatClampNeg) 0)) = 0) → ¬ (ho = 0) → ((g (300 + x.toNatClampNeg) 3) < 30) → (¬ (g (303 + bd_.toNatClampNeg) 0) + (g (300 + x.toNatClampNeg) 0) = 0)) : Met l yX7_wash wsX7_wash ({ frames := 3, cells := 0, slots := 0, locals := 68 } : Room) (va_Pc [.ref (bd 0 0), .int x, .int bd_, .int ho] (mPre D cy e0 bd w g S sz)) (mQi D cy bd w (fX7_wash (w 0 0) (w 0 1) (w 0 2) (w 0 3) (w 0 4) g x bd_ ho).1 (fX7_wash (w 0 0) (w 0 1) (w 0 2) (w 0 3) (w 0 4) g x bd_ ho).2 S sz) 0 0 (mA bd w sz) := by
  refine q_start (cc := cX7_wash) (maxL := 7) (ret := (some .int)) (own := RX7) (by decide) rfl rfl (Nat.le_of_ble_eq_true rfl) ?_
  intro p e s m below meth c hx hb hr hml hts hown hlocks ⟨hsz, hC, hB⟩ ls hl
  subst hsz
  have hS : va_S (mA bd w s.heap.size) s.heap s.heap [] := va_S.rf
  have hG : mG e0 bd w s.heap.size bd w := mG.rf hB.2.2.1
  have hw0 := hC.1
  have hl : lv_has ls 7 [(0, .ref (bd 0 0)), (1, .int x), (2, .int bd_), (3, .int ho)] := hl
  refine lv_aload_n hx hb dX7_wash_0 rfl (lv_at hl 0 rfl) ?_
  refine lv_iconst (v := 0) hx hb dX7_wash_1 (by decide) ?_
  refine pt_m0_0 hx hb hts iX7_wash_X7 hown hB.1 hC hS hG.2.1 qX7_wash_w1 dX7_wash_2 (fun H locs hC hS => ?_)
  refine lv_iload_n hx hb dX7_wash_5 rfl (lv_at hl 1 rfl) ?_
  refine m_callSi (As := [.int x])  ⟨hx, hb, hml, hown, hts⟩ (kX7_isTank l D cy e0 (bd := bd) (w := w) (u2 g 0 20 0) S _ x ) (va_cwS 1 hts gX7_wash_X7_isTank rfl rfl rfl (by decide +kernel) ⟨Nat.le_of_ble_eq_true rfl, Nat.le_of_ble_eq_true rfl⟩) hB hG.2 hC hS rfl hl.1 (Nat.le_of_ble_eq_true rfl) dX7_wash_6 ⟨Nat.le_of_ble_eq_true rfl, Nat.le_of_ble_eq_true rfl⟩ (fun H locs hC hS => ?_)
  refine lv_if_eq (tgt := 20) hx hb dX7_wash_9 (by decide) (fun c1 => ?_) (fun c1 => ?_)
  · skip
    refine lv_aload_n hx hb dX7_wash_20 rfl (lv_at hl 0 rfl) ?_
    refine lv_iconst (v := 1) hx hb dX7_wash_21 (by decide) ?_
    refine m_callVi (As := [.int 1]) (κ := 0) (i := 0) rfl rfl ⟨_, rfl⟩ rfl ⟨hx, hb, hml, hown, hts⟩ (kX7_refuse l D cy e0 (bd := bd) (w := w) (u2 g 0 20 0) S _ 1 ) (cwV 1 hts gX7_wash_X7_refuse rfl rfl rfl (by decide +kernel) ⟨Nat.le_of_ble_eq_true rfl, Nat.le_of_ble_eq_true rfl⟩) hB hG.2 hC hS rfl hl.1 (Nat.le_of_ble_eq_true rfl) dX7_wash_22 ⟨Nat.le_of_ble_eq_true rfl, Nat.le_of_ble_eq_true rfl⟩ (fun H locs hC hS => ?_)
    have e9 : fX7_wash (w 0 0) (w 0 1) (w 0 2) (w 0 3) (w 0 4) g x bd_ ho = ((fX7_refuse (w 0 0) (w 0 1) (w 0 2) (w 0 3) (w 0 4) (u2 g 0 20 0) 1).1, (fX7_refuse (w 0 0) (w 0 1) (w 0 2) (w 0 3) (w 0 4) (u2 g 0 20 0) 1).2) := (by unfold fX7_wash; rw [if_pos c1])
    exact m_reti hx hb hr hG hC hS (mEq_of (by rw [e9])) (by rw [e9]) hlocks dX7_wash_25
  · skip
    refine lv_aload_n hx hb dX7_wash_12 rfl (lv_at hl 0 rfl) ?_
    refine lv_iload_n hx hb dX7_wash_13 rfl (lv_at hl 2 rfl) ?_
    refine m_callVi (As := [.int bd_]) (κ := 0) (i := 0) rfl rfl ⟨_, rfl⟩ rfl ⟨hx, hb, hml, hown, hts⟩ (kX7_isBed l D cy e0 (bd := bd) (w := w) (u2 g 0 20 0) S _ bd_ ) (cwV 1 hts gX7_wash_X7_isBed rfl rfl rfl (by decide +kernel) ⟨Nat.le_of_ble_eq_true rfl, Nat.le_of_ble_eq_true rfl⟩) hB hG.2 hC hS rfl hl.1 (Nat.le_of_ble_eq_true rfl) dX7_wash_14 ⟨Nat.le_of_ble_eq_true rfl, Nat.le_of_ble_eq_true rfl⟩ (fun H locs hC hS => ?_)
    refine lv_if_ne (tgt := 26) hx hb dX7_wash_17 (by decide) (fun c2 => ?_) (fun c2 => ?_)
    · skip
      refine lv_aload_n hx hb dX7_wash_26 rfl (lv_at hl 0 rfl) ?_
      refine gt_m0_3 hx hb hts iX7_wash_X7 hown hB.1 hC qX7_wash_w2 dX7_wash_27 ?_
      refine lv_iload_n hx hb dX7_wash_30 rfl (lv_at hl 1 rfl) ?_
      refine la_m4 hx hb hB.1 hC (k := x.toNatClampNeg) rfl (isTank_in c1) dX7_wash_31 ?_
      refine lv_astore (lv' := [(4, .ref (bd 3 (300 + x.toNatClampNeg))), (0, .ref (bd 0 0)), (1, .int x), (2, .int bd_), (3, .int ho)]) hx hb dX7_wash_32 hl (by decide) rfl (fun ls hl => ?_)
      refine lv_aload_n hx hb dX7_wash_34 rfl (lv_at hl 1 rfl) ?_
      refine gt_m0_4 hx hb hts iX7_wash_X7 hown hB.1 hC qX7_wash_w3 dX7_wash_35 ?_
      refine lv_iload_n hx hb dX7_wash_38 rfl (lv_at hl 3 rfl) ?_
      refine m_callVr (As := [.int bd_]) (κ := 1) (i := 2) (show 2 < 4 by decide) rfl ⟨_, rfl⟩ rfl ⟨hx, hb, hml, hown, hts⟩ (kJx4a65c_get_915e3 l D cy e0 (bd := bd) (w := w) (u2 g 0 20 0) S _ 2 (show 2 < 4 by decide) bd_ (isBed_in (w := w) hw0 c2)) (cwV 1 hts gX7_wash_Jx4a65c_get_915e3 rfl rfl rfl (by decide +kernel) ⟨Nat.le_of_ble_eq_true rfl, Nat.le_of_ble_eq_true rfl⟩) hB hG.2 hC hS rfl hl.1 (Nat.le_of_ble_eq_true rfl) dX7_wash_39 ⟨Nat.le_of_ble_eq_true rfl, Nat.le_of_ble_eq_true rfl⟩ (fun H locs hC hS => ?_)
      refine m_stk (st' := [.ref (bd 3 (303 + bd_.toNatClampNeg))]) rfl ?_
      refine m_cast hx hb hown (hts _ qX7_wash_w4) hB.1 hC (rV_303 (vp_lt (isBed_in (w := w) hw0 c2))) dX7_wash_42 ?_
      refine lv_astore (lv' := [(5, .ref (bd 3 (303 + bd_.toNatClampNeg))), (4, .ref (bd 3 (300 + x.toNatClampNeg))), (0, .ref (bd 0 0)), (1, .int x), (2, .int bd_), (3, .int ho)]) hx hb dX7_wash_45 hl (by decide) rfl (fun ls hl => ?_)
      refine lv_aload hx hb dX7_wash_47 (lv_at hl 1 rfl) ?_
      refine lv_iconst (v := 0) hx hb dX7_wash_49 (by decide) ?_
      refine ld_m hx hb hB.1 hC (rV_300 (vp_lt (isTank_in c1))) (rl_300 (vp_lt (isTank_in c1))) (k := 0) (by decide) (by unfold vp_in; decide) dX7_wash_50 ?_
      refine q_val (v := g (300 + x.toNatClampNeg) 0) ((u2_nk (by decide)).trans rfl) ?_
      refine lv_istore (lv' := [(6, .int (g (300 + x.toNatClampNeg) 0)), (5, .ref (bd 3 (303 + bd_.toNatClampNeg))), (4, .ref (bd 3 (300 + x.toNatClampNeg))), (0, .ref (bd 0 0)), (1, .int x), (2, .int bd_), (3, .int ho)]) hx hb dX7_wash_51 hl (by decide) rfl (fun ls hl => ?_)
      refine lv_iload hx hb dX7_wash_53 (lv_at hl 0 rfl) ?_
      refine lv_if_eq (tgt := 81) hx hb dX7_wash_55 (by decide) (fun c3 => ?_) (fun c3 => ?_)
      · skip
        refine lv_aload_n hx hb dX7_wash_81 rfl (lv_at hl 3 rfl) ?_
        refine lv_iconst (v := 2) hx hb dX7_wash_82 (by decide) ?_
        refine m_callVi (As := [.int 2]) (κ := 0) (i := 0) rfl rfl ⟨_, rfl⟩ rfl ⟨hx, hb, hml, hown, hts⟩ (kX7_refuse l D cy e0 (bd := bd) (w := w) (u2 g 0 20 0) S _ 2 ) (cwV 1 hts gX7_wash_X7_refuse rfl rfl rfl (by decide +kernel) ⟨Nat.le_of_ble_eq_true rfl, Nat.le_of_ble_eq_true rfl⟩) hB hG.2 hC hS rfl hl.1 (Nat.le_of_ble_eq_true rfl) dX7_wash_83 ⟨Nat.le_of_ble_eq_true rfl, Nat.le_of_ble_eq_true rfl⟩ (fun H locs hC hS => ?_)
        have e9 : fX7_wash (w 0 0) (w 0 1) (w 0 2) (w 0 3) (w 0 4) g x bd_ ho = ((fX7_refuse (w 0 0) (w 0 1) (w 0 2) (w 0 3) (w 0 4) (u2 g 0 20 0) 2).1, (fX7_refuse (w 0 0) (w 0 1) (w 0 2) (w 0 3) (w 0 4) (u2 g 0 20 0) 2).2) := (by unfold fX7_wash; rw [if_neg c1, if_neg c2, if_pos c3])
        exact m_reti hx hb hr hG hC hS (mEq_of (by rw [e9])) (by rw [e9]) hlocks dX7_wash_86
      · skip
        refine lv_aload hx hb dX7_wash_58 (lv_at hl 1 rfl) ?_
        refine lv_iload hx hb dX7_wash_60 (lv_at hl 0 rfl) ?_
        refine m_callSi (As := [.ref (bd 3 (303 + bd_.toNatClampNeg)), .int (g (300 + x.toNatClampNeg) 0)])  ⟨hx, hb, hml, hown, hts⟩ (kX7_isRoom l D cy e0 (bd := bd) (w := w) (u2 g 0 20 0) S _ (303 + bd_.toNatClampNeg) (rV_303 (vp_lt (isBed_in (w := w) hw0 c2))) (rl_303 hC.1 (vp_lt (isBed_in (w := w) hw0 c2))) (g (300 + x.toNatClampNeg) 0) ) (va_cwS 2 hts gX7_wash_X7_isRoom rfl rfl rfl (by decide +kernel) ⟨Nat.le_of_ble_eq_true rfl, Nat.le_of_ble_eq_true rfl⟩) hB hG.2 hC hS rfl hl.1 (Nat.le_of_ble_eq_true rfl) dX7_wash_62 ⟨Nat.le_of_ble_eq_true rfl, Nat.le_of_ble_eq_true rfl⟩ (fun H locs hC hS => ?_)
        refine lv_if_eq (tgt := 81) hx hb dX7_wash_65 (by decide) (fun c4 => ?_) (fun c4 => ?_)
        · skip
          refine lv_aload_n hx hb dX7_wash_81 rfl (lv_at hl 3 rfl) ?_
          refine lv_iconst (v := 2) hx hb dX7_wash_82 (by decide) ?_
          refine m_callVi (As := [.int 2]) (κ := 0) (i := 0) rfl rfl ⟨_, rfl⟩ rfl ⟨hx, hb, hml, hown, hts⟩ (kX7_refuse l D cy e0 (bd := bd) (w := w) (u2 g 0 20 0) S _ 2 ) (cwV 1 hts gX7_wash_X7_refuse rfl rfl rfl (by decide +kernel) ⟨Nat.le_of_ble_eq_true rfl, Nat.le_of_ble_eq_true rfl⟩) hB hG.2 hC hS rfl hl.1 (Nat.le_of_ble_eq_true rfl) dX7_wash_83 ⟨Nat.le_of_ble_eq_true rfl, Nat.le_of_ble_eq_true rfl⟩ (fun H locs hC hS => ?_)
          have e9 : fX7_wash (w 0 0) (w 0 1) (w 0 2) (w 0 3) (w 0 4) g x bd_ ho = ((fX7_refuse (w 0 0) (w 0 1) (w 0 2) (w 0 3) (w 0 4) (u2 g 0 20 0) 2).1, (fX7_refuse (w 0 0) (w 0 1) (w 0 2) (w 0 3) (w 0 4) (u2 g 0 20 0) 2).2) := (by unfold fX7_wash; rw [if_neg c1, if_neg c2, if_neg c3, if_pos c4])
          exact m_reti hx hb hr hG hC hS (mEq_of (by rw [e9])) (by rw [e9]) hlocks dX7_wash_86
        · skip
          refine lv_iload_n hx hb dX7_wash_68 rfl (lv_at hl 6 rfl) ?_
          refine lv_if_eq (tgt := 87) hx hb dX7_wash_69 (by decide) (fun c5 => ?_) (fun c5 => ?_)
          · skip
            refine lv_aload hx hb dX7_wash_87 (lv_at hl 1 rfl) ?_
            refine lv_aload hx hb dX7_wash_89 (lv_at hl 2 rfl) ?_
            refine lv_iload_n hx hb dX7_wash_91 rfl (lv_at hl 6 rfl) ?_
            refine lv_if_eq (tgt := 99) hx hb dX7_wash_92 (by decide) (fun _ => ?_) (fun c => absurd c5 c)
            refine lv_iconst (v := 0) hx hb dX7_wash_99 (by decide) ?_
            refine lv_iload_n hx hb dX7_wash_100 rfl (lv_at hl 6 rfl) ?_
            refine lv_if_eq (tgt := 110) hx hb dX7_wash_101 (by decide) (fun _ => ?_) (fun c => absurd c5 c)
            refine lv_sipush (v := 550) hx hb dX7_wash_110 (by decide) ?_
            refine m_callSv (As := [.ref (bd 3 (303 + bd_.toNatClampNeg)), .ref (bd 3 (300 + x.toNatClampNeg)), .int 0, .int 550])  ⟨hx, hb, hml, hown, hts⟩ (kX7_lay l D cy e0 (bd := bd) (w := w) (u2 g 0 20 0) S _ (303 + bd_.toNatClampNeg) (rV_303 (vp_lt (isBed_in (w := w) hw0 c2))) (rl_303 hC.1 (vp_lt (isBed_in (w := w) hw0 c2))) (300 + x.toNatClampNeg) (rV_300 (vp_lt (isTank_in c1))) (rl_300 (vp_lt (isTank_in c1))) 0 550 (by rw [(show (u2 g 0 20 0) (303 + bd_.toNatClampNeg) 0 = g (303 + bd_.toNatClampNeg) 0 from ((u2_nk (by decide)).trans rfl)), (show (u2 g 0 20 0) (300 + x.toNatClampNeg) 0 = g (300 + x.toNatClampNeg) 0 from ((u2_nk (by decide)).trans rfl))]; exact (hp1 c1 c2 c3 c4 c5))) (va_cwS 4 hts gX7_wash_X7_lay rfl rfl rfl (by decide +kernel) ⟨Nat.le_of_ble_eq_true rfl, Nat.le_of_ble_eq_true rfl⟩) hB hG.2 hC hS rfl hl.1 (Nat.le_of_ble_eq_true rfl) dX7_wash_113 ⟨Nat.le_of_ble_eq_true rfl, Nat.le_of_ble_eq_true rfl⟩ (fun H locs hC hS => ?_)
            refine lv_aload_n hx hb dX7_wash_116 rfl (lv_at hl 3 rfl) ?_
            refine lv_dup hx hb dX7_wash_117 rfl ?_
            refine gt_m0_14 hx hb hts iX7_wash_X7 hown hB.1 hC qX7_wash_w5 dX7_wash_118 ?_
            refine lv_iload_n hx hb dX7_wash_121 rfl (lv_at hl 6 rfl) ?_
            refine lv_if_eq (tgt := 129) hx hb dX7_wash_122 (by decide) (fun _ => ?_) (fun c => absurd c5 c)
            refine lv_iconst (v := 3) hx hb dX7_wash_129 (by decide) ?_
            refine lv_iload hx hb dX7_wash_130 (lv_at hl 0 rfl) ?_
            refine lv_imul hx hb dX7_wash_132 ?_
            refine lv_iadd hx hb dX7_wash_133 ?_
            refine pt_m0_14 hx hb hts iX7_wash_X7 hown hB.1 hC hS hG.2.1 qX7_wash_w5 dX7_wash_134 (fun H locs hC hS => ?_)
            refine lv_aload hx hb dX7_wash_137 (lv_at hl 2 rfl) ?_
            refine m_callSv (As := [.ref (bd 3 (300 + x.toNatClampNeg))])  ⟨hx, hb, hml, hown, hts⟩ (kX7_empty l D cy e0 (bd := bd) (w := w) (u2 (fX7_lay (w 0 0) (w 0 1) (w 0 2) (w 0 3) (w 0 4) (u2 g 0 20 0) (303 + bd_.toNatClampNeg) (300 + x.toNatClampNeg) 0 550) 0 6 (((fX7_lay (w 0 0) (w 0 1) (w 0 2) (w 0 3) (w 0 4) (u2 g 0 20 0) (303 + bd_.toNatClampNeg) (300 + x.toNatClampNeg) 0 550) 0 6) + (3 * (g (300 + x.toNatClampNeg) 0)))) S _ (300 + x.toNatClampNeg) (rV_300 (vp_lt (isTank_in c1))) (rl_300 (vp_lt (isTank_in c1))) ) (va_cwS 1 hts gX7_wash_X7_empty rfl rfl rfl (by decide +kernel) ⟨Nat.le_of_ble_eq_true rfl, Nat.le_of_ble_eq_true rfl⟩) hB hG.2 hC hS rfl hl.1 (Nat.le_of_ble_eq_true rfl) dX7_wash_139 ⟨Nat.le_of_ble_eq_true rfl, Nat.le_of_ble_eq_true rfl⟩ (fun H locs hC hS => ?_)
            refine lv_iload hx hb dX7_wash_142 (lv_at hl 0 rfl) ?_
            have e9 : fX7_wash (w 0 0) (w 0 1) (w 0 2) (w 0 3) (w 0 4) g x bd_ ho = (g (300 + x.toNatClampNeg) 0, fX7_empty (w 0 0) (w 0 1) (w 0 2) (w 0 3) (w 0 4) (u2 (fX7_lay (w 0 0) (w 0 1) (w 0 2) (w 0 3) (w 0 4) (u2 g 0 20 0) (303 + bd_.toNatClampNeg) (300 + x.toNatClampNeg) 0 550) 0 6 (((fX7_lay (w 0 0) (w 0 1) (w 0 2) (w 0 3) (w 0 4) (u2 g 0 20 0) (303 + bd_.toNatClampNeg) (300 + x.toNatClampNeg) 0 550) 0 6) + (3 * (g (300 + x.toNatClampNeg) 0)))) (300 + x.toNatClampNeg)) := (by unfold fX7_wash; rw [if_neg c1, if_neg c2, if_neg c3, if_neg c4, if_pos c5])
            exact m_reti hx hb hr hG hC hS (mEq_of (by rw [e9])) (by rw [e9]) hlocks dX7_wash_144
          · skip
            refine lv_aload hx hb dX7_wash_72 (lv_at hl 2 rfl) ?_
            refine lv_iconst (v := 3) hx hb dX7_wash_74 (by decide) ?_
            refine ld_m hx hb hB.1 hC (rV_300 (vp_lt (isTank_in c1))) (rl_300 (vp_lt (isTank_in c1))) (k := 3) (by decide) (by unfold vp_in; decide) dX7_wash_75 ?_
            refine q_val (v := g (300 + x.toNatClampNeg) 3) ((u2_nk (by decide)).trans rfl) ?_
            refine lv_bipush (v := 30) hx hb dX7_wash_76 (by decide) ?_
            refine lv_icmp_lt (tgt := 87) hx hb dX7_wash_78 (by decide) (fun c6 => ?_) (fun c6 => ?_)
            · skip
              refine lv_aload hx hb dX7_wash_87 (lv_at hl 1 rfl) ?_
              refine lv_aload hx hb dX7_wash_89 (lv_at hl 2 rfl) ?_
              refine lv_iload_n hx hb dX7_wash_91 rfl (lv_at hl 6 rfl) ?_
              refine lv_if_eq (tgt := 99) hx hb dX7_wash_92 (by decide) (fun c => absurd c c5) (fun _ => ?_)
              refine lv_iconst (v := 1) hx hb dX7_wash_95 (by decide) ?_
              refine lv_goto (tgt := 100) hx hb dX7_wash_96 (by decide) ?_
              refine lv_iload_n hx hb dX7_wash_100 rfl (lv_at hl 6 rfl) ?_
              refine lv_if_eq (tgt := 110) hx hb dX7_wash_101 (by decide) (fun c => absurd c c5) (fun _ => ?_)
              refine lv_sipush (v := 570) hx hb dX7_wash_104 (by decide) ?_
              refine lv_goto (tgt := 113) hx hb dX7_wash_107 (by decide) ?_
              refine m_callSv (As := [.ref (bd 3 (303 + bd_.toNatClampNeg)), .ref (bd 3 (300 + x.toNatClampNeg)), .int 1, .int 570])  ⟨hx, hb, hml, hown, hts⟩ (kX7_lay l D cy e0 (bd := bd) (w := w) (u2 g 0 20 0) S _ (303 + bd_.toNatClampNeg) (rV_303 (vp_lt (isBed_in (w := w) hw0 c2))) (rl_303 hC.1 (vp_lt (isBed_in (w := w) hw0 c2))) (300 + x.toNatClampNeg) (rV_300 (vp_lt (isTank_in c1))) (rl_300 (vp_lt (isTank_in c1))) 1 570 (by rw [(show (u2 g 0 20 0) (303 + bd_.toNatClampNeg) 0 = g (303 + bd_.toNatClampNeg) 0 from ((u2_nk (by decide)).trans rfl)), (show (u2 g 0 20 0) (300 + x.toNatClampNeg) 0 = g (300 + x.toNatClampNeg) 0 from ((u2_nk (by decide)).trans rfl))]; exact (hp2 c1 c2 c3 c4 c5 c6))) (va_cwS 4 hts gX7_wash_X7_lay rfl rfl rfl (by decide +kernel) ⟨Nat.le_of_ble_eq_true rfl, Nat.le_of_ble_eq_true rfl⟩) hB hG.2 hC hS rfl hl.1 (Nat.le_of_ble_eq_true rfl) dX7_wash_113 ⟨Nat.le_of_ble_eq_true rfl, Nat.le_of_ble_eq_true rfl⟩ (fun H locs hC hS => ?_)
              refine lv_aload_n hx hb dX7_wash_116 rfl (lv_at hl 3 rfl) ?_
              refine lv_dup hx hb dX7_wash_117 rfl ?_
              refine gt_m0_14 hx hb hts iX7_wash_X7 hown hB.1 hC qX7_wash_w5 dX7_wash_118 ?_
              refine lv_iload_n hx hb dX7_wash_121 rfl (lv_at hl 6 rfl) ?_
              refine lv_if_eq (tgt := 129) hx hb dX7_wash_122 (by decide) (fun c => absurd c c5) (fun _ => ?_)
              refine lv_iconst (v := 0) hx hb dX7_wash_125 (by decide) ?_
              refine lv_goto (tgt := 133) hx hb dX7_wash_126 (by decide) ?_
              refine lv_iadd hx hb dX7_wash_133 ?_
              refine pt_m0_14 hx hb hts iX7_wash_X7 hown hB.1 hC hS hG.2.1 qX7_wash_w5 dX7_wash_134 (fun H locs hC hS => ?_)
              refine lv_aload hx hb dX7_wash_137 (lv_at hl 2 rfl) ?_
              refine m_callSv (As := [.ref (bd 3 (300 + x.toNatClampNeg))])  ⟨hx, hb, hml, hown, hts⟩ (kX7_empty l D cy e0 (bd := bd) (w := w) (u2 (fX7_lay (w 0 0) (w 0 1) (w 0 2) (w 0 3) (w 0 4) (u2 g 0 20 0) (303 + bd_.toNatClampNeg) (300 + x.toNatClampNeg) 1 570) 0 6 (((fX7_lay (w 0 0) (w 0 1) (w 0 2) (w 0 3) (w 0 4) (u2 g 0 20 0) (303 + bd_.toNatClampNeg) (300 + x.toNatClampNeg) 1 570) 0 6) + 0)) S _ (300 + x.toNatClampNeg) (rV_300 (vp_lt (isTank_in c1))) (rl_300 (vp_lt (isTank_in c1))) ) (va_cwS 1 hts gX7_wash_X7_empty rfl rfl rfl (by decide +kernel) ⟨Nat.le_of_ble_eq_true rfl, Nat.le_of_ble_eq_true rfl⟩) hB hG.2 hC hS rfl hl.1 (Nat.le_of_ble_eq_true rfl) dX7_wash_139 ⟨Nat.le_of_ble_eq_true rfl, Nat.le_of_ble_eq_true rfl⟩ (fun H locs hC hS => ?_)
              refine lv_iload hx hb dX7_wash_142 (lv_at hl 0 rfl) ?_
              have e9 : fX7_wash (w 0 0) (w 0 1) (w 0 2) (w 0 3) (w 0 4) g x bd_ ho = (g (300 + x.toNatClampNeg) 0, fX7_empty (w 0 0) (w 0 1) (w 0 2) (w 0 3) (w 0 4) (u2 (fX7_lay (w 0 0) (w 0 1) (w 0 2) (w 0 3) (w 0 4) (u2 g 0 20 0) (303 + bd_.toNatClampNeg) (300 + x.toNatClampNeg) 1 570) 0 6 (((fX7_lay (w 0 0) (w 0 1) (w 0 2) (w 0 3) (w 0 4) (u2 g 0 20 0) (303 + bd_.toNatClampNeg) (300 + x.toNatClampNeg) 1 570) 0 6) + 0)) (300 + x.toNatClampNeg)) := (by unfold fX7_wash; rw [if_neg c1, if_neg c2, if_neg c3, if_neg c4, if_neg c5, if_pos c6])
              exact m_reti hx hb hr hG hC hS (mEq_of (by rw [e9])) (by rw [e9]) hlocks dX7_wash_144
            · skip
              refine lv_aload_n hx hb dX7_wash_81 rfl (lv_at hl 3 rfl) ?_
              refine lv_iconst (v := 2) hx hb dX7_wash_82 (by decide) ?_
              refine m_callVi (As := [.int 2]) (κ := 0) (i := 0) rfl rfl ⟨_, rfl⟩ rfl ⟨hx, hb, hml, hown, hts⟩ (kX7_refuse l D cy e0 (bd := bd) (w := w) (u2 g 0 20 0) S _ 2 ) (cwV 1 hts gX7_wash_X7_refuse rfl rfl rfl (by decide +kernel) ⟨Nat.le_of_ble_eq_true rfl, Nat.le_of_ble_eq_true rfl⟩) hB hG.2 hC hS rfl hl.1 (Nat.le_of_ble_eq_true rfl) dX7_wash_83 ⟨Nat.le_of_ble_eq_true rfl, Nat.le_of_ble_eq_true rfl⟩ (fun H locs hC hS => ?_)
              have e9 : fX7_wash (w 0 0) (w 0 1) (w 0 2) (w 0 3) (w 0 4) g x bd_ ho = ((fX7_refuse (w 0 0) (w 0 1) (w 0 2) (w 0 3) (w 0 4) (u2 g 0 20 0) 2).1, (fX7_refuse (w 0 0) (w 0 1) (w 0 2) (w 0 3) (w 0 4) (u2 g 0 20 0) 2).2) := (by unfold fX7_wash; rw [if_neg c1, if_neg c2, if_neg c3, if_neg c4, if_neg c5, if_neg c6])
              exact m_reti hx hb hr hG hC hS (mEq_of (by rw [e9])) (by rw [e9]) hlocks dX7_wash_86
    · skip
      refine lv_aload_n hx hb dX7_wash_20 rfl (lv_at hl 0 rfl) ?_
      refine lv_iconst (v := 1) hx hb dX7_wash_21 (by decide) ?_
      refine m_callVi (As := [.int 1]) (κ := 0) (i := 0) rfl rfl ⟨_, rfl⟩ rfl ⟨hx, hb, hml, hown, hts⟩ (kX7_refuse l D cy e0 (bd := bd) (w := w) (u2 g 0 20 0) S _ 1 ) (cwV 1 hts gX7_wash_X7_refuse rfl rfl rfl (by decide +kernel) ⟨Nat.le_of_ble_eq_true rfl, Nat.le_of_ble_eq_true rfl⟩) hB hG.2 hC hS rfl hl.1 (Nat.le_of_ble_eq_true rfl) dX7_wash_22 ⟨Nat.le_of_ble_eq_true rfl, Nat.le_of_ble_eq_true rfl⟩ (fun H locs hC hS => ?_)
      have e9 : fX7_wash (w 0 0) (w 0 1) (w 0 2) (w 0 3) (w 0 4) g x bd_ ho = ((fX7_refuse (w 0 0) (w 0 1) (w 0 2) (w 0 3) (w 0 4) (u2 g 0 20 0) 1).1, (fX7_refuse (w 0 0) (w 0 1) (w 0 2) (w 0 3) (w 0 4) (u2 g 0 20 0) 1).2) := (by unfold fX7_wash; rw [if_neg c1, if_pos c2])
      exact m_reti hx hb hr hG hC hS (mEq_of (by rw [e9])) (by rw [e9]) hlocks dX7_wash_25
def fX7_pulp (na nb nc nd T : Nat) (g : Md) (x : Int32) (ta : Int32) : Int32 × Md := if (fX7_isBasket na nb nc nd T (u2 g 0 20 0) x) = 0 then (((fX7_refuse na nb nc nd T (u2 g 0 20 0) 1).1, (fX7_refuse na nb nc nd T (u2 g 0 20 0) 1).2)) else (if (fX7_isTank ta) = 0 then (((fX7_refuse na nb nc nd T (u2 g 0 20 0) 1).1, (fX7_refuse na nb nc nd T (u2 g 0 20 0) 1).2)) else (if (g (300 + ta.toNatClampNeg) 0) = 0 then (if (g (200 + x.toNatClampNeg) 3) = 0 then (if ((g (200 + x.toNatClampNeg) 1) / 2) = 0 then (((fX7_refuse na nb nc nd T (u2 g 0 20 0) 2).1, (fX7_refuse na nb nc nd T (u2 g 0 20 0) 2).2)) else (if (g (200 + x.toNatClampNeg) 5) = 1 then (((fX7_come na nb nc nd (T + 1) (fX7_mixOf na nb nc nd T (u2 g 0 20 0) (g (200 + x.toNatClampNeg) 0) ((g (200 + x.toNatClampNeg) 1) / 2) (g (200 + x.toNatClampNeg) 2) 1) (300 + ta.toNatClampNeg) (400 + T)) (300 + ta.toNatClampNeg) 0, (u2 (u2 (fX7_come na nb nc nd (T + 1) (fX7_mixOf na nb nc nd T (u2 g 0 20 0) (g (200 + x.toNatClampNeg) 0) ((g (200 + x.toNatClampNeg) 1) / 2) (g (200 + x.toNatClampNeg) 2) 1) (300 + ta.toNatClampNeg) (400 + T)) (200 + x.toNatClampNeg) 3 1) 0 5 (((fX7_come na nb nc nd (T + 1) (fX7_mixOf na nb nc nd T (u2 g 0 20 0) (g (200 + x.toNatClampNeg) 0) ((g (200 + x.toNatClampNeg) 1) / 2) (g (200 + x.toNatClampNeg) 2) 1) (300 + ta.toNatClampNeg) (400 + T)) 0 5) + (((fX7_come na nb nc nd (T + 1) (fX7_mixOf na nb nc nd T (u2 g 0 20 0) (g (200 + x.toNatClampNeg) 0) ((g (200 + x.toNatClampNeg) 1) / 2) (g (200 + x.toNatClampNeg) 2) 1) (300 + ta.toNatClampNeg) (400 + T)) (200 + x.toNatClampNeg) 1) - ((g (200 + x.toNatClampNeg) 1) / 2)))))) else (((fX7_come na nb nc nd (T + 1) (fX7_mixOf na nb nc nd T (u2 g 0 20 0) (g (200 + x.toNatClampNeg) 0) ((g (200 + x.toNatClampNeg) 1) / 2) (g (200 + x.toNatClampNeg) 2) 0) (300 + ta.toNatClampNeg) (400 + T)) (300 + ta.toNatClampNeg) 0, (u2 (u2 (fX7_come na nb nc nd (T + 1) (fX7_mixOf na nb nc nd T (u2 g 0 20 0) (g (200 + x.toNatClampNeg) 0) ((g (200 + x.toNatClampNeg) 1) / 2) (g (200 + x.toNatClampNeg) 2) 0) (300 + ta.toNatClampNeg) (400 + T)) (200 + x.toNatClampNeg) 3 1) 0 5 (((fX7_come na nb nc nd (T + 1) (fX7_mixOf na nb nc nd T (u2 g 0 20 0) (g (200 + x.toNatClampNeg) 0) ((g (200 + x.toNatClampNeg) 1) / 2) (g (200 + x.toNatClampNeg) 2) 0) (300 + ta.toNatClampNeg) (400 + T)) 0 5) + (((fX7_come na nb nc nd (T + 1) (fX7_mixOf na nb nc nd T (u2 g 0 20 0) (g (200 + x.toNatClampNeg) 0) ((g (200 + x.toNatClampNeg) 1) / 2) (g (200 + x.toNatClampNeg) 2) 0) (300 + ta.toNatClampNeg) (400 + T)) (200 + x.toNatClampNeg) 1) - ((g (200 + x.toNatClampNeg) 1) / 2)))))))) else (((fX7_refuse na nb nc nd T (u2 g 0 20 0) 2).1, (fX7_refuse na nb nc nd T (u2 g 0 20 0) 2).2))) else (if 8 < (g (300 + ta.toNatClampNeg) 2) then (if (g (200 + x.toNatClampNeg) 3) = 0 then (if ((g (200 + x.toNatClampNeg) 1) / 2) = 0 then (((fX7_refuse na nb nc nd T (u2 g 0 20 0) 2).1, (fX7_refuse na nb nc nd T (u2 g 0 20 0) 2).2)) else (((fX7_refuse na nb nc nd T (u2 g 0 20 0) 2).1, (fX7_refuse na nb nc nd T (u2 g 0 20 0) 2).2))) else (((fX7_refuse na nb nc nd T (u2 g 0 20 0) 2).1, (fX7_refuse na nb nc nd T (u2 g 0 20 0) 2).2))) else (if 300 < ((g (300 + ta.toNatClampNeg) 0) + ((g (200 + x.toNatClampNeg) 1) / 2)) then (if (g (200 + x.toNatClampNeg) 3) = 0 then (if ((g (200 + x.toNatClampNeg) 1) / 2) = 0 then (((fX7_refuse na nb nc nd T (u2 g 0 20 0) 2).1, (fX7_refuse na nb nc nd T (u2 g 0 20 0) 2).2)) else (((fX7_refuse na nb nc nd T (u2 g 0 20 0) 2).1, (fX7_refuse na nb nc nd T (u2 g 0 20 0) 2).2))) else (((fX7_refuse na nb nc nd T (u2 g 0 20 0) 2).1, (fX7_refuse na nb nc nd T (u2 g 0 20 0) 2).2))) else (if (g (200 + x.toNatClampNeg) 3) = 0 then (if ((g (200 + x.toNatClampNeg) 1) / 2) = 0 then (((fX7_refuse na nb nc nd T (u2 g 0 20 0) 2).1, (fX7_refuse na nb nc nd T (u2 g 0 20 0) 2).2)) else (if (g (200 + x.toNatClampNeg) 5) = 1 then (((fX7_come na nb nc nd (T + 1) (fX7_mixOf na nb nc nd T (u2 g 0 20 0) (g (200 + x.toNatClampNeg) 0) ((g (200 + x.toNatClampNeg) 1) / 2) (g (200 + x.toNatClampNeg) 2) 1) (300 + ta.toNatClampNeg) (400 + T)) (300 + ta.toNatClampNeg) 0, (u2 (u2 (fX7_come na nb nc nd (T + 1) (fX7_mixOf na nb nc nd T (u2 g 0 20 0) (g (200 + x.toNatClampNeg) 0) ((g (200 + x.toNatClampNeg) 1) / 2) (g (200 + x.toNatClampNeg) 2) 1) (300 + ta.toNatClampNeg) (400 + T)) (200 + x.toNatClampNeg) 3 1) 0 5 (((fX7_come na nb nc nd (T + 1) (fX7_mixOf na nb nc nd T (u2 g 0 20 0) (g (200 + x.toNatClampNeg) 0) ((g (200 + x.toNatClampNeg) 1) / 2) (g (200 + x.toNatClampNeg) 2) 1) (300 + ta.toNatClampNeg) (400 + T)) 0 5) + (((fX7_come na nb nc nd (T + 1) (fX7_mixOf na nb nc nd T (u2 g 0 20 0) (g (200 + x.toNatClampNeg) 0) ((g (200 + x.toNatClampNeg) 1) / 2) (g (200 + x.toNatClampNeg) 2) 1) (300 + ta.toNatClampNeg) (400 + T)) (200 + x.toNatClampNeg) 1) - ((g (200 + x.toNatClampNeg) 1) / 2)))))) else (((fX7_come na nb nc nd (T + 1) (fX7_mixOf na nb nc nd T (u2 g 0 20 0) (g (200 + x.toNatClampNeg) 0) ((g (200 + x.toNatClampNeg) 1) / 2) (g (200 + x.toNatClampNeg) 2) 0) (300 + ta.toNatClampNeg) (400 + T)) (300 + ta.toNatClampNeg) 0, (u2 (u2 (fX7_come na nb nc nd (T + 1) (fX7_mixOf na nb nc nd T (u2 g 0 20 0) (g (200 + x.toNatClampNeg) 0) ((g (200 + x.toNatClampNeg) 1) / 2) (g (200 + x.toNatClampNeg) 2) 0) (300 + ta.toNatClampNeg) (400 + T)) (200 + x.toNatClampNeg) 3 1) 0 5 (((fX7_come na nb nc nd (T + 1) (fX7_mixOf na nb nc nd T (u2 g 0 20 0) (g (200 + x.toNatClampNeg) 0) ((g (200 + x.toNatClampNeg) 1) / 2) (g (200 + x.toNatClampNeg) 2) 0) (300 + ta.toNatClampNeg) (400 + T)) 0 5) + (((fX7_come na nb nc nd (T + 1) (fX7_mixOf na nb nc nd T (u2 g 0 20 0) (g (200 + x.toNatClampNeg) 0) ((g (200 + x.toNatClampNeg) 1) / 2) (g (200 + x.toNatClampNeg) 2) 0) (300 + ta.toNatClampNeg) (400 + T)) (200 + x.toNatClampNeg) 1) - ((g (200 + x.toNatClampNeg) 1) / 2)))))))) else (((fX7_refuse na nb nc nd T (u2 g 0 20 0) 2).1, (fX7_refuse na nb nc nd T (u2 g 0 20 0) 2).2)))))))
theorem qX7_pulp_w1 : Cond.fieldLink RX7 41 "CherryStationModel" "thrown" "I" ∈ wsX7_pulp := List.mem_of_getElem? (i := 1) rfl
theorem qX7_pulp_w2 : Cond.fieldLink RX7 16 "CherryStationModel" "baskets" "Ljava/util/ArrayList;" ∈ wsX7_pulp := List.mem_of_getElem? (i := 2) rfl
theorem qX7_pulp_w3 : Cond.classLink RX7 72 "[I" ∈ wsX7_pulp := List.mem_of_getElem? (i := 3) rfl
theorem qX7_pulp_w4 : Cond.fieldLink RX7 21 "CherryStationModel" "tanks" "[[I" ∈ wsX7_pulp := List.mem_of_getElem? (i := 4) rfl
theorem qX7_pulp_w5 : Cond.fieldLink RX7 106 "CherryStationModel" "lost" "I" ∈ wsX7_pulp := List.mem_of_getElem? (i := 5) rfl
theorem iX7_pulp_X7 : ∀ w ∈ wsX70, w ∈ wsX7_pulp := fun _ h => (List.mem_cons_of_mem _ (List.mem_append_left _ (List.mem_append_right _ h)))
set_option maxRecDepth 100000 in
set_option maxHeartbeats 4000000 in
theorem kX7_pulp (l : Launch) (D : va_G) (cy : Nat → ClassId) (e0 : Nat) {bd w : Nat → Nat → Nat} (g : Md) (S : Int64) (sz : Nat) (x : Int32) (ta : Int32) (hT4 : w 0 4 + 1 ≤ 50) (hp1 : ¬ ((fX7_isBasket (w 0 0) (w 0 1) (w 0 2) (w 0 3) (w 0 4) (u2 g 0 20 0) x) = 0) → ¬ ((fX7_isTank ta) = 0) → ((g (300 + ta.toNatClampNeg) 0) = 0) → ((g (200 + x.toNatClampNeg) 3) = 0) → ¬ (((g (200 + x.toNatClampNeg) 1) / 2) = 0) → ¬ ((g (200 + x.toNatClampNeg) 5) = 1) → (vp_in (g (200 + x.toNatClampNeg) 0) 6)) (hp2 : ¬ ((fX7_isBasket (w 0 0) (w 0 1) (w 0 2) (w 0 3) (w 0 4) (u2 g 0 20 0) x) = 0) → ¬ ((fX7_isTank ta) = 0) → ((g (300 + ta.toNatClampNeg) 0) = 0) → ((g (200 + x.toNatClampNeg) 3) = 0) → ¬ (((g (200 + x.toNatClampNeg) 1) / 2) = 0) → ¬ ((g (200 + x.toNatClampNeg) 5) = 1) → (¬ ((fX7_mixOf (w 0 0) (w 0 1) (w 0 2) (w 0 3) (w 0 4) (u2 g 0 20 0) (g (200 + x.toNatClampNeg) 0) ((g (200 + x.toNatClampNeg) 1) / 2) (g (200 + x.toNatClampNeg) 2) 0) (300 + ta.toNatClampNeg) 0) + ((fX7_mixOf (w 0 0) (w 0 1) (w 0 2) (w 0 3) (w 0 4) (u2 g 0 20 0) (g (200 + x.toNatClampNeg) 0) ((g (200 + x.toNatClampNeg) 1) / 2) (g (200 + x.toNatClampNeg) 2) 0) (400 + w 0 4) 0) = 0)) (hp3 : ¬ ((fX7_isBasket (w 0 0) (w 0 1) (w 0 2) (w 0 3) (w 0 4) (u2 g 0 20 0) x) = 0) → ¬ ((fX7_isTank ta) = 0) → ((g (300 + ta.toNatClampNeg) 0) = 0) → ((g (200 + x.toNatClampNeg) 3) = 0) → ¬ (((g (200 + x.toNatClampNeg) 1) / 2) = 0) → ((g (200 + x.toNatClampNeg) 5) = 1) → (vp_in (g (200 + x.toNatClampNeg) 0) 6)) (hp4 : ¬ ((fX7_isBasket (w 0 0) (w 0 1) (w 0 2) (w 0 3) (w 0 4) (u2 g 0 20 0) x) = 0) → ¬ ((fX7_isTank ta) = 0) → ((g (300 + ta.toNatClampNeg) 0) = 0) → ((g (200 + x.toNatClampNeg) 3) = 0) → ¬ (((g (200 + x.toNatClampNeg) 1) / 2) = 0) → ((g (200 + x.toNatClampNeg) 5) = 1) → (¬ ((fX7_mixOf (w 0 0) (w 0 1) (w 0 2) (w 0 3) (w 0 4) (u2 g 0 20 0) (g (200 + x.toNatClampNeg) 0) ((g (200 + x.toNatClampNeg) 1) / 2) (g (200 + x.toNatClampNeg) 2) 1) (300 + ta.toNatClampNeg) 0) + ((fX7_mixOf (w 0 0) (w 0 1) (w 0 2) (w 0 3) (w 0 4) (u2 g 0 20 0) (g (200 + x.toNatClampNeg) 0) ((g (200 + x.toNatClampNeg) 1) / 2) (g (200 + x.toNatClampNeg) 2) 1) (400 + w 0 4) 0) = 0)) (hp5 : ¬ ((fX7_isBasket (w 0 0) (w 0 1) (w 0 2) (w 0 3) (w 0 4) (u2 g 0 20 0) x) = 0) → ¬ ((fX7_isTank ta) = 0) → ¬ ((g (300 + ta.toNatClampNeg) 0) = 0) → ¬ (8 < (g (300 + ta.toNatClampNeg) 2)) → ¬ (300 < ((g (300 + ta.toNatClampNeg) 0) + ((g (200 + x.toNatClampNeg) 1) / 2))) → ((g (200 + x.toNatClampNeg) 3) = 0) → ¬ (((g (200 + x.toNatClampNeg) 1) / 2) = 0) → ¬ ((g (200 + x.toNatClampNeg) 5) = 1) → (vp_in (g (200 + x.toNatClampNeg) 0) 6)) (hp6 : ¬ ((fX7_isBasket (w 0 0) (w 0 1) (w 0 2) (w 0 3) (w 0 4) (u2 g 0 20 0) x) = 0) → ¬ ((fX7_isTank ta) = 0) → ¬ ((g (300 + ta.toNatClampNeg) 0) = 0) → ¬ (8 < (g (300 + ta.toNatClampNeg) 2)) → ¬ (300 < ((g (300 + ta.toNatClampNeg) 0) + ((g (200 + x.toNatClampNeg) 1) / 2))) → ((g (200 + x.toNatClampNeg) 3) = 0) → ¬ (((g (200 + x.toNatClampNeg) 1) / 2) = 0) → ¬ ((g (200 + x.toNatClampNeg) 5) = 1) → (¬ ((fX7_mixOf (w 0 0) (w 0 1) (w 0 2) (w 0 3) (w 0 4) (u2 g 0 20 0) (g (200 + x.toNatClampNeg) 0) ((g (200 + x.toNatClampNeg) 1) / 2) (g (200 + x.toNatClampNeg) 2) 0) (300 + ta.toNatClampNeg) 0) + ((fX7_mixOf (w 0 0) (w 0 1) (w 0 2) (w 0 3) (w 0 4) (u2 g 0 20 0) (g (200 + x.toNatClampNeg) 0) ((g (200 + x.toNatClampNeg) 1) / 2) (g (200 + x.toNatClampNeg) 2) 0) (400 + w 0 4) 0) = 0)) (hp7 : ¬ ((fX7_isBasket (w 0 0) (w 0 1) (w 0 2) (w 0 3) (w 0 4) (u2 g 0 20 0) x) = 0) → ¬ ((fX7_isTank ta) = 0) → ¬ ((g (300 + ta.toNatClampNeg) 0) = 0) → ¬ (8 < (g (300 + ta.toNatClampNeg) 2)) → ¬ (300 < ((g (300 + ta.toNatClampNeg) 0) + ((g (200 + x.toNatClampNeg) 1) / 2))) → ((g (200 + x.toNatClampNeg) 3) = 0) → ¬ (((g (200 + x.toNatClampNeg) 1) / 2) = 0) → ((g (200 + x.toNatClampNeg) 5) = 1) → (vp_in (g (200 + x.toNatClampNeg) 0) 6)) (hp8 : ¬ ((fX7_isBasket (w 0 0) (w 0 1) (w 0 2) (w 0 3) (w 0 4) (u2 g 0 20 0) x) = 0) → ¬ ((fX7_isTank ta) = 0) → ¬ ((g (300 + ta.toNatClampNeg) 0) = 0) → ¬ (8 < (g (300 + ta.toNatClampNeg) 2)) → ¬ (300 < ((g (300 + ta.toNatClampNeg) 0) + ((g (200 + x.toNatClampNeg) 1) / 2))) → ((g (200 + x.toNatClampNeg) 3) = 0) → ¬ (((g (200 + x.toNatClampNeg) 1) / 2) = 0) → ((g (200 + x.toNatClampNeg) 5) = 1) → (¬ ((fX7_mixOf (w 0 0) (w 0 1) (w 0 2) (w 0 3) (w 0 4) (u2 g 0 20 0) (g (200 + x.toNatClampNeg) 0) ((g (200 + x.toNatClampNeg) 1) / 2) (g (200 + x.toNatClampNeg) 2) 1) (300 + ta.toNatClampNeg) 0) + ((fX7_mixOf (w 0 0) (w 0 1) (w 0 2) (w 0 3) (w 0 4) (u2 g 0 20 0) (g (200 + x.toNatClampNeg) 0) ((g (200 + x.toNatClampNeg) 1) / 2) (g (200 + x.toNatClampNeg) 2) 1) (400 + w 0 4) 0) = 0)) : Met l yX7_pulp wsX7_pulp ({ frames := 3, cells := 1, slots := 23, locals := 64 } : Room) (va_Pc [.ref (bd 0 0), .int x, .int ta] (mPre D cy e0 bd w g S sz)) (mQi D cy bd w (fX7_pulp (w 0 0) (w 0 1) (w 0 2) (w 0 3) (w 0 4) g x ta).1 (fX7_pulp (w 0 0) (w 0 1) (w 0 2) (w 0 3) (w 0 4) g x ta).2 S sz) 1 23 (mA bd w sz) := by
  refine q_start (cc := cX7_pulp) (maxL := 7) (ret := (some .int)) (own := RX7) (by decide) rfl rfl (Nat.le_of_ble_eq_true rfl) ?_
  intro p e s m below meth c hx hb hr hml hts hown hlocks ⟨hsz, hC, hB⟩ ls hl
  subst hsz
  have hS : va_S (mA bd w s.heap.size) s.heap s.heap [] := va_S.rf
  have hG : mG e0 bd w s.heap.size bd w := mG.rf hB.2.2.1
  have hw0 := hC.1
  have hl : lv_has ls 7 [(0, .ref (bd 0 0)), (1, .int x), (2, .int ta)] := hl
  refine lv_aload_n hx hb dX7_pulp_0 rfl (lv_at hl 0 rfl) ?_
  refine lv_iconst (v := 0) hx hb dX7_pulp_1 (by decide) ?_
  refine pt_m0_0 hx hb hts iX7_pulp_X7 hown hB.1 hC hS hG.2.1 qX7_pulp_w1 dX7_pulp_2 (fun H locs hC hS => ?_)
  refine lv_aload_n hx hb dX7_pulp_5 rfl (lv_at hl 0 rfl) ?_
  refine lv_iload_n hx hb dX7_pulp_6 rfl (lv_at hl 1 rfl) ?_
  refine m_callVi (As := [.int x]) (κ := 0) (i := 0) rfl rfl ⟨_, rfl⟩ rfl ⟨hx, hb, hml, hown, hts⟩ (kX7_isBasket l D cy e0 (bd := bd) (w := w) (u2 g 0 20 0) S _ x ) (cwV 1 hts gX7_pulp_X7_isBasket rfl rfl rfl (by decide +kernel) ⟨Nat.le_of_ble_eq_true rfl, Nat.le_of_ble_eq_true rfl⟩) hB hG.2 hC hS rfl hl.1 (Nat.le_of_ble_eq_true rfl) dX7_pulp_7 ⟨Nat.le_of_ble_eq_true rfl, Nat.le_of_ble_eq_true rfl⟩ (fun H locs hC hS => ?_)
  refine lv_if_eq (tgt := 20) hx hb dX7_pulp_10 (by decide) (fun c1 => ?_) (fun c1 => ?_)
  · skip
    refine lv_aload_n hx hb dX7_pulp_20 rfl (lv_at hl 0 rfl) ?_
    refine lv_iconst (v := 1) hx hb dX7_pulp_21 (by decide) ?_
    refine m_callVi (As := [.int 1]) (κ := 0) (i := 0) rfl rfl ⟨_, rfl⟩ rfl ⟨hx, hb, hml, hown, hts⟩ (kX7_refuse l D cy e0 (bd := bd) (w := w) (u2 g 0 20 0) S _ 1 ) (cwV 1 hts gX7_pulp_X7_refuse rfl rfl rfl (by decide +kernel) ⟨Nat.le_of_ble_eq_true rfl, Nat.le_of_ble_eq_true rfl⟩) hB hG.2 hC hS rfl hl.1 (Nat.le_of_ble_eq_true rfl) dX7_pulp_22 ⟨Nat.le_of_ble_eq_true rfl, Nat.le_of_ble_eq_true rfl⟩ (fun H locs hC hS => ?_)
    refine W.widen (k := 1) (n := 23) (Nat.le_of_ble_eq_true rfl) (Nat.le_of_ble_eq_true rfl) ?_
    have e9 : fX7_pulp (w 0 0) (w 0 1) (w 0 2) (w 0 3) (w 0 4) g x ta = ((fX7_refuse (w 0 0) (w 0 1) (w 0 2) (w 0 3) (w 0 4) (u2 g 0 20 0) 1).1, (fX7_refuse (w 0 0) (w 0 1) (w 0 2) (w 0 3) (w 0 4) (u2 g 0 20 0) 1).2) := (by unfold fX7_pulp; rw [if_pos c1])
    exact m_reti hx hb hr hG hC hS (mEq_of (by rw [e9])) (by rw [e9]) hlocks dX7_pulp_25
  · skip
    refine lv_iload_n hx hb dX7_pulp_13 rfl (lv_at hl 2 rfl) ?_
    refine m_callSi (As := [.int ta])  ⟨hx, hb, hml, hown, hts⟩ (kX7_isTank l D cy e0 (bd := bd) (w := w) (u2 g 0 20 0) S _ ta ) (va_cwS 1 hts gX7_pulp_X7_isTank rfl rfl rfl (by decide +kernel) ⟨Nat.le_of_ble_eq_true rfl, Nat.le_of_ble_eq_true rfl⟩) hB hG.2 hC hS rfl hl.1 (Nat.le_of_ble_eq_true rfl) dX7_pulp_14 ⟨Nat.le_of_ble_eq_true rfl, Nat.le_of_ble_eq_true rfl⟩ (fun H locs hC hS => ?_)
    refine lv_if_ne (tgt := 26) hx hb dX7_pulp_17 (by decide) (fun c2 => ?_) (fun c2 => ?_)
    · skip
      refine lv_aload_n hx hb dX7_pulp_26 rfl (lv_at hl 0 rfl) ?_
      refine gt_m0_2 hx hb hts iX7_pulp_X7 hown hB.1 hC qX7_pulp_w2 dX7_pulp_27 ?_
      refine lv_iload_n hx hb dX7_pulp_30 rfl (lv_at hl 1 rfl) ?_
      refine m_callVr (As := [.int x]) (κ := 1) (i := 1) (show 1 < 4 by decide) rfl ⟨_, rfl⟩ rfl ⟨hx, hb, hml, hown, hts⟩ (kJx4a65c_get_915e3 l D cy e0 (bd := bd) (w := w) (u2 g 0 20 0) S _ 1 (show 1 < 4 by decide) x (isBasket_in (w := w) hw0 c1)) (cwV 1 hts gX7_pulp_Jx4a65c_get_915e3 rfl rfl rfl (by decide +kernel) ⟨Nat.le_of_ble_eq_true rfl, Nat.le_of_ble_eq_true rfl⟩) hB hG.2 hC hS rfl hl.1 (Nat.le_of_ble_eq_true rfl) dX7_pulp_31 ⟨Nat.le_of_ble_eq_true rfl, Nat.le_of_ble_eq_true rfl⟩ (fun H locs hC hS => ?_)
      refine m_stk (st' := [.ref (bd 3 (200 + x.toNatClampNeg))]) rfl ?_
      refine m_cast hx hb hown (hts _ qX7_pulp_w3) hB.1 hC (rV_200 (vp_lt (isBasket_in (w := w) hw0 c1))) dX7_pulp_34 ?_
      refine lv_astore_n (lv' := [(3, .ref (bd 3 (200 + x.toNatClampNeg))), (0, .ref (bd 0 0)), (1, .int x), (2, .int ta)]) hx hb dX7_pulp_37 rfl hl (by decide) rfl (fun ls hl => ?_)
      refine lv_aload_n hx hb dX7_pulp_38 rfl (lv_at hl 1 rfl) ?_
      refine gt_m0_3 hx hb hts iX7_pulp_X7 hown hB.1 hC qX7_pulp_w4 dX7_pulp_39 ?_
      refine lv_iload_n hx hb dX7_pulp_42 rfl (lv_at hl 3 rfl) ?_
      refine la_m4 hx hb hB.1 hC (k := ta.toNatClampNeg) rfl (isTank_in c2) dX7_pulp_43 ?_
      refine lv_astore (lv' := [(4, .ref (bd 3 (300 + ta.toNatClampNeg))), (3, .ref (bd 3 (200 + x.toNatClampNeg))), (0, .ref (bd 0 0)), (1, .int x), (2, .int ta)]) hx hb dX7_pulp_44 hl (by decide) rfl (fun ls hl => ?_)
      refine lv_aload_n hx hb dX7_pulp_46 rfl (lv_at hl 1 rfl) ?_
      refine lv_iconst (v := 1) hx hb dX7_pulp_47 (by decide) ?_
      refine ld_m hx hb hB.1 hC (rV_200 (vp_lt (isBasket_in (w := w) hw0 c1))) (rl_200 hC.1 (vp_lt (isBasket_in (w := w) hw0 c1))) (k := 1) (by decide) (by unfold vp_in; decide) dX7_pulp_48 ?_
      refine q_val (v := g (200 + x.toNatClampNeg) 1) ((u2_nk (by decide)).trans rfl) ?_
      refine lv_iconst (v := 2) hx hb dX7_pulp_49 (by decide) ?_
      refine lv_idiv hx hb dX7_pulp_50 (by decide) ?_
      refine lv_istore (lv' := [(5, .int ((g (200 + x.toNatClampNeg) 1) / 2)), (4, .ref (bd 3 (300 + ta.toNatClampNeg))), (3, .ref (bd 3 (200 + x.toNatClampNeg))), (0, .ref (bd 0 0)), (1, .int x), (2, .int ta)]) hx hb dX7_pulp_51 hl (by decide) rfl (fun ls hl => ?_)
      refine lv_aload hx hb dX7_pulp_53 (lv_at hl 1 rfl) ?_
      refine lv_iconst (v := 0) hx hb dX7_pulp_55 (by decide) ?_
      refine ld_m hx hb hB.1 hC (rV_300 (vp_lt (isTank_in c2))) (rl_300 (vp_lt (isTank_in c2))) (k := 0) (by decide) (by unfold vp_in; decide) dX7_pulp_56 ?_
      refine q_val (v := g (300 + ta.toNatClampNeg) 0) ((u2_nk (by decide)).trans rfl) ?_
      refine lv_if_eq (tgt := 82) hx hb dX7_pulp_57 (by decide) (fun c3 => ?_) (fun c3 => ?_)
      · skip
        refine lv_iconst (v := 1) hx hb dX7_pulp_82 (by decide) ?_
        refine lv_goto (tgt := 87) hx hb dX7_pulp_83 (by decide) ?_
        refine lv_istore (lv' := [(6, .int 1), (5, .int ((g (200 + x.toNatClampNeg) 1) / 2)), (4, .ref (bd 3 (300 + ta.toNatClampNeg))), (3, .ref (bd 3 (200 + x.toNatClampNeg))), (0, .ref (bd 0 0)), (1, .int x), (2, .int ta)]) hx hb dX7_pulp_87 hl (by decide) rfl (fun ls hl => ?_)
        refine lv_aload_n hx hb dX7_pulp_89 rfl (lv_at hl 3 rfl) ?_
        refine lv_iconst (v := 3) hx hb dX7_pulp_90 (by decide) ?_
        refine ld_m hx hb hB.1 hC (rV_200 (vp_lt (isBasket_in (w := w) hw0 c1))) (rl_200 hC.1 (vp_lt (isBasket_in (w := w) hw0 c1))) (k := 3) (by decide) (by unfold vp_in; decide) dX7_pulp_91 ?_
        refine q_val (v := g (200 + x.toNatClampNeg) 3) ((u2_nk (by decide)).trans rfl) ?_
        refine lv_if_ne (tgt := 105) hx hb dX7_pulp_92 (by decide) (fun c4 => ?_) (fun c4 => ?_)
        · skip
          refine lv_aload_n hx hb dX7_pulp_105 rfl (lv_at hl 4 rfl) ?_
          refine lv_iconst (v := 2) hx hb dX7_pulp_106 (by decide) ?_
          refine m_callVi (As := [.int 2]) (κ := 0) (i := 0) rfl rfl ⟨_, rfl⟩ rfl ⟨hx, hb, hml, hown, hts⟩ (kX7_refuse l D cy e0 (bd := bd) (w := w) (u2 g 0 20 0) S _ 2 ) (cwV 1 hts gX7_pulp_X7_refuse rfl rfl rfl (by decide +kernel) ⟨Nat.le_of_ble_eq_true rfl, Nat.le_of_ble_eq_true rfl⟩) hB hG.2 hC hS rfl hl.1 (Nat.le_of_ble_eq_true rfl) dX7_pulp_107 ⟨Nat.le_of_ble_eq_true rfl, Nat.le_of_ble_eq_true rfl⟩ (fun H locs hC hS => ?_)
          refine W.widen (k := 1) (n := 23) (Nat.le_of_ble_eq_true rfl) (Nat.le_of_ble_eq_true rfl) ?_
          have e9 : fX7_pulp (w 0 0) (w 0 1) (w 0 2) (w 0 3) (w 0 4) g x ta = ((fX7_refuse (w 0 0) (w 0 1) (w 0 2) (w 0 3) (w 0 4) (u2 g 0 20 0) 2).1, (fX7_refuse (w 0 0) (w 0 1) (w 0 2) (w 0 3) (w 0 4) (u2 g 0 20 0) 2).2) := (by unfold fX7_pulp; rw [if_neg c1, if_neg c2, if_pos c3, if_neg c4])
          exact m_reti hx hb hr hG hC hS (mEq_of (by rw [e9])) (by rw [e9]) hlocks dX7_pulp_110
        · skip
          refine lv_iload hx hb dX7_pulp_95 (lv_at hl 1 rfl) ?_
          refine lv_if_eq (tgt := 105) hx hb dX7_pulp_97 (by decide) (fun c5 => ?_) (fun c5 => ?_)
          · skip
            refine lv_aload_n hx hb dX7_pulp_105 rfl (lv_at hl 4 rfl) ?_
            refine lv_iconst (v := 2) hx hb dX7_pulp_106 (by decide) ?_
            refine m_callVi (As := [.int 2]) (κ := 0) (i := 0) rfl rfl ⟨_, rfl⟩ rfl ⟨hx, hb, hml, hown, hts⟩ (kX7_refuse l D cy e0 (bd := bd) (w := w) (u2 g 0 20 0) S _ 2 ) (cwV 1 hts gX7_pulp_X7_refuse rfl rfl rfl (by decide +kernel) ⟨Nat.le_of_ble_eq_true rfl, Nat.le_of_ble_eq_true rfl⟩) hB hG.2 hC hS rfl hl.1 (Nat.le_of_ble_eq_true rfl) dX7_pulp_107 ⟨Nat.le_of_ble_eq_true rfl, Nat.le_of_ble_eq_true rfl⟩ (fun H locs hC hS => ?_)
            refine W.widen (k := 1) (n := 23) (Nat.le_of_ble_eq_true rfl) (Nat.le_of_ble_eq_true rfl) ?_
            have e9 : fX7_pulp (w 0 0) (w 0 1) (w 0 2) (w 0 3) (w 0 4) g x ta = ((fX7_refuse (w 0 0) (w 0 1) (w 0 2) (w 0 3) (w 0 4) (u2 g 0 20 0) 2).1, (fX7_refuse (w 0 0) (w 0 1) (w 0 2) (w 0 3) (w 0 4) (u2 g 0 20 0) 2).2) := (by unfold fX7_pulp; rw [if_neg c1, if_neg c2, if_pos c3, if_pos c4, if_pos c5])
            exact m_reti hx hb hr hG hC hS (mEq_of (by rw [e9])) (by rw [e9]) hlocks dX7_pulp_110
          · skip
            refine lv_iload hx hb dX7_pulp_100 (lv_at hl 0 rfl) ?_
            refine lv_if_ne (tgt := 111) hx hb dX7_pulp_102 (by decide) (fun _ => ?_) (fun c => absurd c (by decide))
            refine lv_aload hx hb dX7_pulp_111 (lv_at hl 2 rfl) ?_
            refine lv_aload_n hx hb dX7_pulp_113 rfl (lv_at hl 3 rfl) ?_
            refine lv_iconst (v := 0) hx hb dX7_pulp_114 (by decide) ?_
            refine ld_m hx hb hB.1 hC (rV_200 (vp_lt (isBasket_in (w := w) hw0 c1))) (rl_200 hC.1 (vp_lt (isBasket_in (w := w) hw0 c1))) (k := 0) (by decide) (by unfold vp_in; decide) dX7_pulp_115 ?_
            refine q_val (v := g (200 + x.toNatClampNeg) 0) ((u2_nk (by decide)).trans rfl) ?_
            refine lv_iload hx hb dX7_pulp_116 (lv_at hl 1 rfl) ?_
            refine lv_aload_n hx hb dX7_pulp_118 rfl (lv_at hl 3 rfl) ?_
            refine lv_iconst (v := 2) hx hb dX7_pulp_119 (by decide) ?_
            refine ld_m hx hb hB.1 hC (rV_200 (vp_lt (isBasket_in (w := w) hw0 c1))) (rl_200 hC.1 (vp_lt (isBasket_in (w := w) hw0 c1))) (k := 2) (by decide) (by unfold vp_in; decide) dX7_pulp_120 ?_
            refine q_val (v := g (200 + x.toNatClampNeg) 2) ((u2_nk (by decide)).trans rfl) ?_
            refine lv_aload_n hx hb dX7_pulp_121 rfl (lv_at hl 3 rfl) ?_
            refine lv_iconst (v := 5) hx hb dX7_pulp_122 (by decide) ?_
            refine ld_m hx hb hB.1 hC (rV_200 (vp_lt (isBasket_in (w := w) hw0 c1))) (rl_200 hC.1 (vp_lt (isBasket_in (w := w) hw0 c1))) (k := 5) (by decide) (by unfold vp_in; decide) dX7_pulp_123 ?_
            refine q_val (v := g (200 + x.toNatClampNeg) 5) ((u2_nk (by decide)).trans rfl) ?_
            refine lv_iconst (v := 1) hx hb dX7_pulp_124 (by decide) ?_
            refine lv_icmp_ne (tgt := 132) hx hb dX7_pulp_125 (by decide) (fun c6 => ?_) (fun c6 => ?_)
            · skip
              refine lv_iconst (v := 0) hx hb dX7_pulp_132 (by decide) ?_
              have hz9 := hS.1
              have hw9 := hC.1
              refine m_callSn (As := [.int (g (200 + x.toNatClampNeg) 0), .int ((g (200 + x.toNatClampNeg) 1) / 2), .int (g (200 + x.toNatClampNeg) 2), .int 0])  ⟨hx, hb, hml, hown, hts⟩ (kX7_mixOf l D cy e0 (bd := bd) (w := w) (u2 g 0 20 0) S _ (g (200 + x.toNatClampNeg) 0) ((g (200 + x.toNatClampNeg) 1) / 2) (g (200 + x.toNatClampNeg) 2) 0 (by show w 0 4 + 1 ≤ 50; omega) (hp1 c1 c2 c3 c4 c5 c6)) (va_cwS 4 hts gX7_pulp_X7_mixOf rfl rfl rfl (by decide +kernel) ⟨Nat.le_of_ble_eq_true rfl, Nat.le_of_ble_eq_true rfl⟩) hB hG.2 hC hS rfl hl.1 (Nat.le_of_ble_eq_true rfl) dX7_pulp_133 ⟨Nat.le_of_ble_eq_true rfl, Nat.le_of_ble_eq_true rfl⟩ (fun bd7 H locs hN hC hS => ?_)
              have hD9 := wN_mD (N := 23) hN.1 hN.2.1
              have hD1 := hD9
              have hG : mG e0 bd w s.heap.size bd7 (wN w 23) := hG.new hN.1 hN.2.1 hN.2.2.1 (Nat.le_trans hz9 hN.2.2.2)
              have q0 : bd7 3 (300 + ta.toNatClampNeg) = bd 3 (300 + ta.toNatClampNeg) := hN.1 3 (300 + ta.toNatClampNeg) (rV_300 (vp_lt (isTank_in c2)))
              have q1 : bd7 3 (200 + x.toNatClampNeg) = bd 3 (200 + x.toNatClampNeg) := hN.1 3 (200 + x.toNatClampNeg) (rV_200 (vp_lt (isBasket_in (w := w) hw0 c1)))
              have q2 : bd7 0 0 = bd 0 0 := hN.1 0 0 rfl
              rw [← q0, ← q1, ← q2] at hl
              refine m_stk (st' := [.ref (bd7 3 (400 + w 0 4)), .ref (bd7 3 (300 + ta.toNatClampNeg))]) (by rw [q0]) ?_
              have hv8 : rV (wN w 23) (400 + w 0 4) := rV_new
              have hn9 : rl (wN w 23) (400 + w 0 4) = 23 := rl_new
              refine m_callSv (As := [.ref (bd7 3 (300 + ta.toNatClampNeg)), .ref (bd7 3 (400 + w 0 4))])  ⟨hx, hb, hml, hown, hts⟩ (kX7_come l D cy e0 (bd := bd7) (w := (wN w 23)) (fX7_mixOf (w 0 0) (w 0 1) (w 0 2) (w 0 3) (w 0 4) (u2 g 0 20 0) (g (200 + x.toNatClampNeg) 0) ((g (200 + x.toNatClampNeg) 1) / 2) (g (200 + x.toNatClampNeg) 2) 0) S _ (300 + ta.toNatClampNeg) (rV_300 (vp_lt (isTank_in c2))) (rl_300 (vp_lt (isTank_in c2))) (400 + w 0 4) hv8 hn9 (hp2 c1 c2 c3 c4 c5 c6)) (va_cwS 2 hts gX7_pulp_X7_come rfl rfl rfl (by decide +kernel) ⟨Nat.le_of_ble_eq_true rfl, Nat.le_of_ble_eq_true rfl⟩) hB hG.2 hC hS rfl hl.1 (Nat.le_of_ble_eq_true rfl) dX7_pulp_136 ⟨Nat.le_of_ble_eq_true rfl, Nat.le_of_ble_eq_true rfl⟩ (fun H locs hC hS => ?_)
              have hC : MW D cy bd7 (wN w 23) (fX7_come (w 0 0) (w 0 1) (w 0 2) (w 0 3) (w 0 4 + 1) (fX7_mixOf (w 0 0) (w 0 1) (w 0 2) (w 0 3) (w 0 4) (u2 g 0 20 0) (g (200 + x.toNatClampNeg) 0) ((g (200 + x.toNatClampNeg) 1) / 2) (g (200 + x.toNatClampNeg) 2) 0) (300 + ta.toNatClampNeg) (400 + w 0 4)) S H := hC
              refine lv_aload_n hx hb dX7_pulp_139 rfl (lv_at hl 3 rfl) ?_
              refine lv_iconst (v := 3) hx hb dX7_pulp_140 (by decide) ?_
              refine lv_iconst (v := 1) hx hb dX7_pulp_141 (by decide) ?_
              refine st_m hx hb hB.1 hC hS hG.2.1 (rV_200 (vp_lt (isBasket_in (w := w) hw0 c1))) (rl_200 hC.1 (vp_lt (isBasket_in (w := w) hw0 c1))) (k := 3) (by decide) (by unfold vp_in; decide) dX7_pulp_142 (fun H locs hC hS => ?_)
              refine lv_aload_n hx hb dX7_pulp_143 rfl (lv_at hl 4 rfl) ?_
              refine lv_dup hx hb dX7_pulp_144 rfl ?_
              refine gt_m0_13 hx hb hts iX7_pulp_X7 hown hB.1 hC qX7_pulp_w5 dX7_pulp_145 ?_
              refine q_val (v := (fX7_come (w 0 0) (w 0 1) (w 0 2) (w 0 3) (w 0 4 + 1) (fX7_mixOf (w 0 0) (w 0 1) (w 0 2) (w 0 3) (w 0 4) (u2 g 0 20 0) (g (200 + x.toNatClampNeg) 0) ((g (200 + x.toNatClampNeg) 1) / 2) (g (200 + x.toNatClampNeg) 2) 0) (300 + ta.toNatClampNeg) (400 + w 0 4)) 0 5) ((u2_nk (by decide)).trans rfl) ?_
              refine lv_aload_n hx hb dX7_pulp_148 rfl (lv_at hl 3 rfl) ?_
              refine lv_iconst (v := 1) hx hb dX7_pulp_149 (by decide) ?_
              refine ld_m hx hb hB.1 hC (rV_200 (vp_lt (isBasket_in (w := w) hw0 c1))) (rl_200 hC.1 (vp_lt (isBasket_in (w := w) hw0 c1))) (k := 1) (by decide) (by unfold vp_in; decide) dX7_pulp_150 ?_
              refine q_val (v := (fX7_come (w 0 0) (w 0 1) (w 0 2) (w 0 3) (w 0 4 + 1) (fX7_mixOf (w 0 0) (w 0 1) (w 0 2) (w 0 3) (w 0 4) (u2 g 0 20 0) (g (200 + x.toNatClampNeg) 0) ((g (200 + x.toNatClampNeg) 1) / 2) (g (200 + x.toNatClampNeg) 2) 0) (300 + ta.toNatClampNeg) (400 + w 0 4)) (200 + x.toNatClampNeg) 1) ((u2_nk (by decide)).trans rfl) ?_
              refine lv_iload hx hb dX7_pulp_151 (lv_at hl 1 rfl) ?_
              refine lv_isub hx hb dX7_pulp_153 ?_
              refine lv_iadd hx hb dX7_pulp_154 ?_
              refine pt_m0_13 hx hb hts iX7_pulp_X7 hown hB.1 hC hS hG.2.1 qX7_pulp_w5 dX7_pulp_155 (fun H locs hC hS => ?_)
              refine lv_aload hx hb dX7_pulp_158 (lv_at hl 2 rfl) ?_
              refine lv_iconst (v := 0) hx hb dX7_pulp_160 (by decide) ?_
              refine ld_m hx hb hB.1 hC (rV_300 (vp_lt (isTank_in c2))) (rl_300 (vp_lt (isTank_in c2))) (k := 0) (by decide) (by unfold vp_in; decide) dX7_pulp_161 ?_
              refine q_val (v := (fX7_come (w 0 0) (w 0 1) (w 0 2) (w 0 3) (w 0 4 + 1) (fX7_mixOf (w 0 0) (w 0 1) (w 0 2) (w 0 3) (w 0 4) (u2 g 0 20 0) (g (200 + x.toNatClampNeg) 0) ((g (200 + x.toNatClampNeg) 1) / 2) (g (200 + x.toNatClampNeg) 2) 0) (300 + ta.toNatClampNeg) (400 + w 0 4)) (300 + ta.toNatClampNeg) 0) ((u2_nk (by decide)).trans ((u2_nk (by decide)).trans rfl)) ?_
              refine W.widen (k := 1) (n := 23) (Nat.le_of_ble_eq_true rfl) (Nat.le_of_ble_eq_true rfl) ?_
              have e9 : fX7_pulp (w 0 0) (w 0 1) (w 0 2) (w 0 3) (w 0 4) g x ta = ((fX7_come (w 0 0) (w 0 1) (w 0 2) (w 0 3) (w 0 4 + 1) (fX7_mixOf (w 0 0) (w 0 1) (w 0 2) (w 0 3) (w 0 4) (u2 g 0 20 0) (g (200 + x.toNatClampNeg) 0) ((g (200 + x.toNatClampNeg) 1) / 2) (g (200 + x.toNatClampNeg) 2) 0) (300 + ta.toNatClampNeg) (400 + w 0 4)) (300 + ta.toNatClampNeg) 0, (u2 (u2 (fX7_come (w 0 0) (w 0 1) (w 0 2) (w 0 3) (w 0 4 + 1) (fX7_mixOf (w 0 0) (w 0 1) (w 0 2) (w 0 3) (w 0 4) (u2 g 0 20 0) (g (200 + x.toNatClampNeg) 0) ((g (200 + x.toNatClampNeg) 1) / 2) (g (200 + x.toNatClampNeg) 2) 0) (300 + ta.toNatClampNeg) (400 + w 0 4)) (200 + x.toNatClampNeg) 3 1) 0 5 (((fX7_come (w 0 0) (w 0 1) (w 0 2) (w 0 3) (w 0 4 + 1) (fX7_mixOf (w 0 0) (w 0 1) (w 0 2) (w 0 3) (w 0 4) (u2 g 0 20 0) (g (200 + x.toNatClampNeg) 0) ((g (200 + x.toNatClampNeg) 1) / 2) (g (200 + x.toNatClampNeg) 2) 0) (300 + ta.toNatClampNeg) (400 + w 0 4)) 0 5) + (((fX7_come (w 0 0) (w 0 1) (w 0 2) (w 0 3) (w 0 4 + 1) (fX7_mixOf (w 0 0) (w 0 1) (w 0 2) (w 0 3) (w 0 4) (u2 g 0 20 0) (g (200 + x.toNatClampNeg) 0) ((g (200 + x.toNatClampNeg) 1) / 2) (g (200 + x.toNatClampNeg) 2) 0) (300 + ta.toNatClampNeg) (400 + w 0 4)) (200 + x.toNatClampNeg) 1) - ((g (200 + x.toNatClampNeg) 1) / 2))))) := (by unfold fX7_pulp; rw [if_neg c1, if_neg c2, if_pos c3, if_pos c4, if_neg c5, if_neg c6])
              exact m_reti hx hb hr hG hC hS (mEq_of (by rw [e9])) (by rw [e9]) hlocks dX7_pulp_162
            · skip
              refine lv_iconst (v := 1) hx hb dX7_pulp_128 (by decide) ?_
              refine lv_goto (tgt := 133) hx hb dX7_pulp_129 (by decide) ?_
              have hz9 := hS.1
              have hw9 := hC.1
              refine m_callSn (As := [.int (g (200 + x.toNatClampNeg) 0), .int ((g (200 + x.toNatClampNeg) 1) / 2), .int (g (200 + x.toNatClampNeg) 2), .int 1])  ⟨hx, hb, hml, hown, hts⟩ (kX7_mixOf l D cy e0 (bd := bd) (w := w) (u2 g 0 20 0) S _ (g (200 + x.toNatClampNeg) 0) ((g (200 + x.toNatClampNeg) 1) / 2) (g (200 + x.toNatClampNeg) 2) 1 (by show w 0 4 + 1 ≤ 50; omega) (hp3 c1 c2 c3 c4 c5 c6)) (va_cwS 4 hts gX7_pulp_X7_mixOf rfl rfl rfl (by decide +kernel) ⟨Nat.le_of_ble_eq_true rfl, Nat.le_of_ble_eq_true rfl⟩) hB hG.2 hC hS rfl hl.1 (Nat.le_of_ble_eq_true rfl) dX7_pulp_133 ⟨Nat.le_of_ble_eq_true rfl, Nat.le_of_ble_eq_true rfl⟩ (fun bd10 H locs hN hC hS => ?_)
              have hD9 := wN_mD (N := 23) hN.1 hN.2.1
              have hD1 := hD9
              have hG : mG e0 bd w s.heap.size bd10 (wN w 23) := hG.new hN.1 hN.2.1 hN.2.2.1 (Nat.le_trans hz9 hN.2.2.2)
              have q0 : bd10 3 (300 + ta.toNatClampNeg) = bd 3 (300 + ta.toNatClampNeg) := hN.1 3 (300 + ta.toNatClampNeg) (rV_300 (vp_lt (isTank_in c2)))
              have q1 : bd10 3 (200 + x.toNatClampNeg) = bd 3 (200 + x.toNatClampNeg) := hN.1 3 (200 + x.toNatClampNeg) (rV_200 (vp_lt (isBasket_in (w := w) hw0 c1)))
              have q2 : bd10 0 0 = bd 0 0 := hN.1 0 0 rfl
              rw [← q0, ← q1, ← q2] at hl
              refine m_stk (st' := [.ref (bd10 3 (400 + w 0 4)), .ref (bd10 3 (300 + ta.toNatClampNeg))]) (by rw [q0]) ?_
              have hv11 : rV (wN w 23) (400 + w 0 4) := rV_new
              have hn12 : rl (wN w 23) (400 + w 0 4) = 23 := rl_new
              refine m_callSv (As := [.ref (bd10 3 (300 + ta.toNatClampNeg)), .ref (bd10 3 (400 + w 0 4))])  ⟨hx, hb, hml, hown, hts⟩ (kX7_come l D cy e0 (bd := bd10) (w := (wN w 23)) (fX7_mixOf (w 0 0) (w 0 1) (w 0 2) (w 0 3) (w 0 4) (u2 g 0 20 0) (g (200 + x.toNatClampNeg) 0) ((g (200 + x.toNatClampNeg) 1) / 2) (g (200 + x.toNatClampNeg) 2) 1) S _ (300 + ta.toNatClampNeg) (rV_300 (vp_lt (isTank_in c2))) (rl_300 (vp_lt (isTank_in c2))) (400 + w 0 4) hv11 hn12 (hp4 c1 c2 c3 c4 c5 c6)) (va_cwS 2 hts gX7_pulp_X7_come rfl rfl rfl (by decide +kernel) ⟨Nat.le_of_ble_eq_true rfl, Nat.le_of_ble_eq_true rfl⟩) hB hG.2 hC hS rfl hl.1 (Nat.le_of_ble_eq_true rfl) dX7_pulp_136 ⟨Nat.le_of_ble_eq_true rfl, Nat.le_of_ble_eq_true rfl⟩ (fun H locs hC hS => ?_)
              have hC : MW D cy bd10 (wN w 23) (fX7_come (w 0 0) (w 0 1) (w 0 2) (w 0 3) (w 0 4 + 1) (fX7_mixOf (w 0 0) (w 0 1) (w 0 2) (w 0 3) (w 0 4) (u2 g 0 20 0) (g (200 + x.toNatClampNeg) 0) ((g (200 + x.toNatClampNeg) 1) / 2) (g (200 + x.toNatClampNeg) 2) 1) (300 + ta.toNatClampNeg) (400 + w 0 4)) S H := hC
              refine lv_aload_n hx hb dX7_pulp_139 rfl (lv_at hl 3 rfl) ?_
              refine lv_iconst (v := 3) hx hb dX7_pulp_140 (by decide) ?_
              refine lv_iconst (v := 1) hx hb dX7_pulp_141 (by decide) ?_
              refine st_m hx hb hB.1 hC hS hG.2.1 (rV_200 (vp_lt (isBasket_in (w := w) hw0 c1))) (rl_200 hC.1 (vp_lt (isBasket_in (w := w) hw0 c1))) (k := 3) (by decide) (by unfold vp_in; decide) dX7_pulp_142 (fun H locs hC hS => ?_)
              refine lv_aload_n hx hb dX7_pulp_143 rfl (lv_at hl 4 rfl) ?_
              refine lv_dup hx hb dX7_pulp_144 rfl ?_
              refine gt_m0_13 hx hb hts iX7_pulp_X7 hown hB.1 hC qX7_pulp_w5 dX7_pulp_145 ?_
              refine q_val (v := (fX7_come (w 0 0) (w 0 1) (w 0 2) (w 0 3) (w 0 4 + 1) (fX7_mixOf (w 0 0) (w 0 1) (w 0 2) (w 0 3) (w 0 4) (u2 g 0 20 0) (g (200 + x.toNatClampNeg) 0) ((g (200 + x.toNatClampNeg) 1) / 2) (g (200 + x.toNatClampNeg) 2) 1) (300 + ta.toNatClampNeg) (400 + w 0 4)) 0 5) ((u2_nk (by decide)).trans rfl) ?_
              refine lv_aload_n hx hb dX7_pulp_148 rfl (lv_at hl 3 rfl) ?_
              refine lv_iconst (v := 1) hx hb dX7_pulp_149 (by decide) ?_
              refine ld_m hx hb hB.1 hC (rV_200 (vp_lt (isBasket_in (w := w) hw0 c1))) (rl_200 hC.1 (vp_lt (isBasket_in (w := w) hw0 c1))) (k := 1) (by decide) (by unfold vp_in; decide) dX7_pulp_150 ?_
              refine q_val (v := (fX7_come (w 0 0) (w 0 1) (w 0 2) (w 0 3) (w 0 4 + 1) (fX7_mixOf (w 0 0) (w 0 1) (w 0 2) (w 0 3) (w 0 4) (u2 g 0 20 0) (g (200 + x.toNatClampNeg) 0) ((g (200 + x.toNatClampNeg) 1) / 2) (g (200 + x.toNatClampNeg) 2) 1) (300 + ta.toNatClampNeg) (400 + w 0 4)) (200 + x.toNatClampNeg) 1) ((u2_nk (by decide)).trans rfl) ?_
              refine lv_iload hx hb dX7_pulp_151 (lv_at hl 1 rfl) ?_
              refine lv_isub hx hb dX7_pulp_153 ?_
              refine lv_iadd hx hb dX7_pulp_154 ?_
              refine pt_m0_13 hx hb hts iX7_pulp_X7 hown hB.1 hC hS hG.2.1 qX7_pulp_w5 dX7_pulp_155 (fun H locs hC hS => ?_)
              refine lv_aload hx hb dX7_pulp_158 (lv_at hl 2 rfl) ?_
              refine lv_iconst (v := 0) hx hb dX7_pulp_160 (by decide) ?_
              refine ld_m hx hb hB.1 hC (rV_300 (vp_lt (isTank_in c2))) (rl_300 (vp_lt (isTank_in c2))) (k := 0) (by decide) (by unfold vp_in; decide) dX7_pulp_161 ?_
              refine q_val (v := (fX7_come (w 0 0) (w 0 1) (w 0 2) (w 0 3) (w 0 4 + 1) (fX7_mixOf (w 0 0) (w 0 1) (w 0 2) (w 0 3) (w 0 4) (u2 g 0 20 0) (g (200 + x.toNatClampNeg) 0) ((g (200 + x.toNatClampNeg) 1) / 2) (g (200 + x.toNatClampNeg) 2) 1) (300 + ta.toNatClampNeg) (400 + w 0 4)) (300 + ta.toNatClampNeg) 0) ((u2_nk (by decide)).trans ((u2_nk (by decide)).trans rfl)) ?_
              refine W.widen (k := 1) (n := 23) (Nat.le_of_ble_eq_true rfl) (Nat.le_of_ble_eq_true rfl) ?_
              have e9 : fX7_pulp (w 0 0) (w 0 1) (w 0 2) (w 0 3) (w 0 4) g x ta = ((fX7_come (w 0 0) (w 0 1) (w 0 2) (w 0 3) (w 0 4 + 1) (fX7_mixOf (w 0 0) (w 0 1) (w 0 2) (w 0 3) (w 0 4) (u2 g 0 20 0) (g (200 + x.toNatClampNeg) 0) ((g (200 + x.toNatClampNeg) 1) / 2) (g (200 + x.toNatClampNeg) 2) 1) (300 + ta.toNatClampNeg) (400 + w 0 4)) (300 + ta.toNatClampNeg) 0, (u2 (u2 (fX7_come (w 0 0) (w 0 1) (w 0 2) (w 0 3) (w 0 4 + 1) (fX7_mixOf (w 0 0) (w 0 1) (w 0 2) (w 0 3) (w 0 4) (u2 g 0 20 0) (g (200 + x.toNatClampNeg) 0) ((g (200 + x.toNatClampNeg) 1) / 2) (g (200 + x.toNatClampNeg) 2) 1) (300 + ta.toNatClampNeg) (400 + w 0 4)) (200 + x.toNatClampNeg) 3 1) 0 5 (((fX7_come (w 0 0) (w 0 1) (w 0 2) (w 0 3) (w 0 4 + 1) (fX7_mixOf (w 0 0) (w 0 1) (w 0 2) (w 0 3) (w 0 4) (u2 g 0 20 0) (g (200 + x.toNatClampNeg) 0) ((g (200 + x.toNatClampNeg) 1) / 2) (g (200 + x.toNatClampNeg) 2) 1) (300 + ta.toNatClampNeg) (400 + w 0 4)) 0 5) + (((fX7_come (w 0 0) (w 0 1) (w 0 2) (w 0 3) (w 0 4 + 1) (fX7_mixOf (w 0 0) (w 0 1) (w 0 2) (w 0 3) (w 0 4) (u2 g 0 20 0) (g (200 + x.toNatClampNeg) 0) ((g (200 + x.toNatClampNeg) 1) / 2) (g (200 + x.toNatClampNeg) 2) 1) (300 + ta.toNatClampNeg) (400 + w 0 4)) (200 + x.toNatClampNeg) 1) - ((g (200 + x.toNatClampNeg) 1) / 2))))) := (by unfold fX7_pulp; rw [if_neg c1, if_neg c2, if_pos c3, if_pos c4, if_neg c5, if_pos c6])
              exact m_reti hx hb hr hG hC hS (mEq_of (by rw [e9])) (by rw [e9]) hlocks dX7_pulp_162
      · skip
        refine lv_aload hx hb dX7_pulp_60 (lv_at hl 1 rfl) ?_
        refine lv_iconst (v := 2) hx hb dX7_pulp_62 (by decide) ?_
        refine ld_m hx hb hB.1 hC (rV_300 (vp_lt (isTank_in c2))) (rl_300 (vp_lt (isTank_in c2))) (k := 2) (by decide) (by unfold vp_in; decide) dX7_pulp_63 ?_
        refine q_val (v := g (300 + ta.toNatClampNeg) 2) ((u2_nk (by decide)).trans rfl) ?_
        refine lv_bipush (v := 8) hx hb dX7_pulp_64 (by decide) ?_
        refine lv_icmp_gt (tgt := 86) hx hb dX7_pulp_66 (by decide) (fun c13 => ?_) (fun c13 => ?_)
        · skip
          refine lv_iconst (v := 0) hx hb dX7_pulp_86 (by decide) ?_
          refine lv_istore (lv' := [(6, .int 0), (5, .int ((g (200 + x.toNatClampNeg) 1) / 2)), (4, .ref (bd 3 (300 + ta.toNatClampNeg))), (3, .ref (bd 3 (200 + x.toNatClampNeg))), (0, .ref (bd 0 0)), (1, .int x), (2, .int ta)]) hx hb dX7_pulp_87 hl (by decide) rfl (fun ls hl => ?_)
          refine lv_aload_n hx hb dX7_pulp_89 rfl (lv_at hl 3 rfl) ?_
          refine lv_iconst (v := 3) hx hb dX7_pulp_90 (by decide) ?_
          refine ld_m hx hb hB.1 hC (rV_200 (vp_lt (isBasket_in (w := w) hw0 c1))) (rl_200 hC.1 (vp_lt (isBasket_in (w := w) hw0 c1))) (k := 3) (by decide) (by unfold vp_in; decide) dX7_pulp_91 ?_
          refine q_val (v := g (200 + x.toNatClampNeg) 3) ((u2_nk (by decide)).trans rfl) ?_
          refine lv_if_ne (tgt := 105) hx hb dX7_pulp_92 (by decide) (fun c14 => ?_) (fun c14 => ?_)
          · skip
            refine lv_aload_n hx hb dX7_pulp_105 rfl (lv_at hl 4 rfl) ?_
            refine lv_iconst (v := 2) hx hb dX7_pulp_106 (by decide) ?_
            refine m_callVi (As := [.int 2]) (κ := 0) (i := 0) rfl rfl ⟨_, rfl⟩ rfl ⟨hx, hb, hml, hown, hts⟩ (kX7_refuse l D cy e0 (bd := bd) (w := w) (u2 g 0 20 0) S _ 2 ) (cwV 1 hts gX7_pulp_X7_refuse rfl rfl rfl (by decide +kernel) ⟨Nat.le_of_ble_eq_true rfl, Nat.le_of_ble_eq_true rfl⟩) hB hG.2 hC hS rfl hl.1 (Nat.le_of_ble_eq_true rfl) dX7_pulp_107 ⟨Nat.le_of_ble_eq_true rfl, Nat.le_of_ble_eq_true rfl⟩ (fun H locs hC hS => ?_)
            refine W.widen (k := 1) (n := 23) (Nat.le_of_ble_eq_true rfl) (Nat.le_of_ble_eq_true rfl) ?_
            have e9 : fX7_pulp (w 0 0) (w 0 1) (w 0 2) (w 0 3) (w 0 4) g x ta = ((fX7_refuse (w 0 0) (w 0 1) (w 0 2) (w 0 3) (w 0 4) (u2 g 0 20 0) 2).1, (fX7_refuse (w 0 0) (w 0 1) (w 0 2) (w 0 3) (w 0 4) (u2 g 0 20 0) 2).2) := (by unfold fX7_pulp; rw [if_neg c1, if_neg c2, if_neg c3, if_pos c13, if_neg c14])
            exact m_reti hx hb hr hG hC hS (mEq_of (by rw [e9])) (by rw [e9]) hlocks dX7_pulp_110
          · skip
            refine lv_iload hx hb dX7_pulp_95 (lv_at hl 1 rfl) ?_
            refine lv_if_eq (tgt := 105) hx hb dX7_pulp_97 (by decide) (fun c15 => ?_) (fun c15 => ?_)
            · skip
              refine lv_aload_n hx hb dX7_pulp_105 rfl (lv_at hl 4 rfl) ?_
              refine lv_iconst (v := 2) hx hb dX7_pulp_106 (by decide) ?_
              refine m_callVi (As := [.int 2]) (κ := 0) (i := 0) rfl rfl ⟨_, rfl⟩ rfl ⟨hx, hb, hml, hown, hts⟩ (kX7_refuse l D cy e0 (bd := bd) (w := w) (u2 g 0 20 0) S _ 2 ) (cwV 1 hts gX7_pulp_X7_refuse rfl rfl rfl (by decide +kernel) ⟨Nat.le_of_ble_eq_true rfl, Nat.le_of_ble_eq_true rfl⟩) hB hG.2 hC hS rfl hl.1 (Nat.le_of_ble_eq_true rfl) dX7_pulp_107 ⟨Nat.le_of_ble_eq_true rfl, Nat.le_of_ble_eq_true rfl⟩ (fun H locs hC hS => ?_)
              refine W.widen (k := 1) (n := 23) (Nat.le_of_ble_eq_true rfl) (Nat.le_of_ble_eq_true rfl) ?_
              have e9 : fX7_pulp (w 0 0) (w 0 1) (w 0 2) (w 0 3) (w 0 4) g x ta = ((fX7_refuse (w 0 0) (w 0 1) (w 0 2) (w 0 3) (w 0 4) (u2 g 0 20 0) 2).1, (fX7_refuse (w 0 0) (w 0 1) (w 0 2) (w 0 3) (w 0 4) (u2 g 0 20 0) 2).2) := (by unfold fX7_pulp; rw [if_neg c1, if_neg c2, if_neg c3, if_pos c13, if_pos c14, if_pos c15])
              exact m_reti hx hb hr hG hC hS (mEq_of (by rw [e9])) (by rw [e9]) hlocks dX7_pulp_110
            · skip
              refine lv_iload hx hb dX7_pulp_100 (lv_at hl 0 rfl) ?_
              refine lv_if_ne (tgt := 111) hx hb dX7_pulp_102 (by decide) (fun c => absurd c (by decide)) (fun _ => ?_)
              refine lv_aload_n hx hb dX7_pulp_105 rfl (lv_at hl 4 rfl) ?_
              refine lv_iconst (v := 2) hx hb dX7_pulp_106 (by decide) ?_
              refine m_callVi (As := [.int 2]) (κ := 0) (i := 0) rfl rfl ⟨_, rfl⟩ rfl ⟨hx, hb, hml, hown, hts⟩ (kX7_refuse l D cy e0 (bd := bd) (w := w) (u2 g 0 20 0) S _ 2 ) (cwV 1 hts gX7_pulp_X7_refuse rfl rfl rfl (by decide +kernel) ⟨Nat.le_of_ble_eq_true rfl, Nat.le_of_ble_eq_true rfl⟩) hB hG.2 hC hS rfl hl.1 (Nat.le_of_ble_eq_true rfl) dX7_pulp_107 ⟨Nat.le_of_ble_eq_true rfl, Nat.le_of_ble_eq_true rfl⟩ (fun H locs hC hS => ?_)
              refine W.widen (k := 1) (n := 23) (Nat.le_of_ble_eq_true rfl) (Nat.le_of_ble_eq_true rfl) ?_
              have e9 : fX7_pulp (w 0 0) (w 0 1) (w 0 2) (w 0 3) (w 0 4) g x ta = ((fX7_refuse (w 0 0) (w 0 1) (w 0 2) (w 0 3) (w 0 4) (u2 g 0 20 0) 2).1, (fX7_refuse (w 0 0) (w 0 1) (w 0 2) (w 0 3) (w 0 4) (u2 g 0 20 0) 2).2) := (by unfold fX7_pulp; rw [if_neg c1, if_neg c2, if_neg c3, if_pos c13, if_pos c14, if_neg c15])
              exact m_reti hx hb hr hG hC hS (mEq_of (by rw [e9])) (by rw [e9]) hlocks dX7_pulp_110
        · skip
          refine lv_aload hx hb dX7_pulp_69 (lv_at hl 1 rfl) ?_
          refine lv_iconst (v := 0) hx hb dX7_pulp_71 (by decide) ?_
          refine ld_m hx hb hB.1 hC (rV_300 (vp_lt (isTank_in c2))) (rl_300 (vp_lt (isTank_in c2))) (k := 0) (by decide) (by unfold vp_in; decide) dX7_pulp_72 ?_
          refine q_val (v := g (300 + ta.toNatClampNeg) 0) ((u2_nk (by decide)).trans rfl) ?_
          refine lv_iload hx hb dX7_pulp_73 (lv_at hl 0 rfl) ?_
          refine lv_iadd hx hb dX7_pulp_75 ?_
          refine lv_sipush (v := 300) hx hb dX7_pulp_76 (by decide) ?_
          refine lv_icmp_gt (tgt := 86) hx hb dX7_pulp_79 (by decide) (fun c16 => ?_) (fun c16 => ?_)
          · skip
            refine lv_iconst (v := 0) hx hb dX7_pulp_86 (by decide) ?_
            refine lv_istore (lv' := [(6, .int 0), (5, .int ((g (200 + x.toNatClampNeg) 1) / 2)), (4, .ref (bd 3 (300 + ta.toNatClampNeg))), (3, .ref (bd 3 (200 + x.toNatClampNeg))), (0, .ref (bd 0 0)), (1, .int x), (2, .int ta)]) hx hb dX7_pulp_87 hl (by decide) rfl (fun ls hl => ?_)
            refine lv_aload_n hx hb dX7_pulp_89 rfl (lv_at hl 3 rfl) ?_
            refine lv_iconst (v := 3) hx hb dX7_pulp_90 (by decide) ?_
            refine ld_m hx hb hB.1 hC (rV_200 (vp_lt (isBasket_in (w := w) hw0 c1))) (rl_200 hC.1 (vp_lt (isBasket_in (w := w) hw0 c1))) (k := 3) (by decide) (by unfold vp_in; decide) dX7_pulp_91 ?_
            refine q_val (v := g (200 + x.toNatClampNeg) 3) ((u2_nk (by decide)).trans rfl) ?_
            refine lv_if_ne (tgt := 105) hx hb dX7_pulp_92 (by decide) (fun c17 => ?_) (fun c17 => ?_)
            · skip
              refine lv_aload_n hx hb dX7_pulp_105 rfl (lv_at hl 4 rfl) ?_
              refine lv_iconst (v := 2) hx hb dX7_pulp_106 (by decide) ?_
              refine m_callVi (As := [.int 2]) (κ := 0) (i := 0) rfl rfl ⟨_, rfl⟩ rfl ⟨hx, hb, hml, hown, hts⟩ (kX7_refuse l D cy e0 (bd := bd) (w := w) (u2 g 0 20 0) S _ 2 ) (cwV 1 hts gX7_pulp_X7_refuse rfl rfl rfl (by decide +kernel) ⟨Nat.le_of_ble_eq_true rfl, Nat.le_of_ble_eq_true rfl⟩) hB hG.2 hC hS rfl hl.1 (Nat.le_of_ble_eq_true rfl) dX7_pulp_107 ⟨Nat.le_of_ble_eq_true rfl, Nat.le_of_ble_eq_true rfl⟩ (fun H locs hC hS => ?_)
              refine W.widen (k := 1) (n := 23) (Nat.le_of_ble_eq_true rfl) (Nat.le_of_ble_eq_true rfl) ?_
              have e9 : fX7_pulp (w 0 0) (w 0 1) (w 0 2) (w 0 3) (w 0 4) g x ta = ((fX7_refuse (w 0 0) (w 0 1) (w 0 2) (w 0 3) (w 0 4) (u2 g 0 20 0) 2).1, (fX7_refuse (w 0 0) (w 0 1) (w 0 2) (w 0 3) (w 0 4) (u2 g 0 20 0) 2).2) := (by unfold fX7_pulp; rw [if_neg c1, if_neg c2, if_neg c3, if_neg c13, if_pos c16, if_neg c17])
              exact m_reti hx hb hr hG hC hS (mEq_of (by rw [e9])) (by rw [e9]) hlocks dX7_pulp_110
            · skip
              refine lv_iload hx hb dX7_pulp_95 (lv_at hl 1 rfl) ?_
              refine lv_if_eq (tgt := 105) hx hb dX7_pulp_97 (by decide) (fun c18 => ?_) (fun c18 => ?_)
              · skip
                refine lv_aload_n hx hb dX7_pulp_105 rfl (lv_at hl 4 rfl) ?_
                refine lv_iconst (v := 2) hx hb dX7_pulp_106 (by decide) ?_
                refine m_callVi (As := [.int 2]) (κ := 0) (i := 0) rfl rfl ⟨_, rfl⟩ rfl ⟨hx, hb, hml, hown, hts⟩ (kX7_refuse l D cy e0 (bd := bd) (w := w) (u2 g 0 20 0) S _ 2 ) (cwV 1 hts gX7_pulp_X7_refuse rfl rfl rfl (by decide +kernel) ⟨Nat.le_of_ble_eq_true rfl, Nat.le_of_ble_eq_true rfl⟩) hB hG.2 hC hS rfl hl.1 (Nat.le_of_ble_eq_true rfl) dX7_pulp_107 ⟨Nat.le_of_ble_eq_true rfl, Nat.le_of_ble_eq_true rfl⟩ (fun H locs hC hS => ?_)
                refine W.widen (k := 1) (n := 23) (Nat.le_of_ble_eq_true rfl) (Nat.le_of_ble_eq_true rfl) ?_
                have e9 : fX7_pulp (w 0 0) (w 0 1) (w 0 2) (w 0 3) (w 0 4) g x ta = ((fX7_refuse (w 0 0) (w 0 1) (w 0 2) (w 0 3) (w 0 4) (u2 g 0 20 0) 2).1, (fX7_refuse (w 0 0) (w 0 1) (w 0 2) (w 0 3) (w 0 4) (u2 g 0 20 0) 2).2) := (by unfold fX7_pulp; rw [if_neg c1, if_neg c2, if_neg c3, if_neg c13, if_pos c16, if_pos c17, if_pos c18])
                exact m_reti hx hb hr hG hC hS (mEq_of (by rw [e9])) (by rw [e9]) hlocks dX7_pulp_110
              · skip
                refine lv_iload hx hb dX7_pulp_100 (lv_at hl 0 rfl) ?_
                refine lv_if_ne (tgt := 111) hx hb dX7_pulp_102 (by decide) (fun c => absurd c (by decide)) (fun _ => ?_)
                refine lv_aload_n hx hb dX7_pulp_105 rfl (lv_at hl 4 rfl) ?_
                refine lv_iconst (v := 2) hx hb dX7_pulp_106 (by decide) ?_
                refine m_callVi (As := [.int 2]) (κ := 0) (i := 0) rfl rfl ⟨_, rfl⟩ rfl ⟨hx, hb, hml, hown, hts⟩ (kX7_refuse l D cy e0 (bd := bd) (w := w) (u2 g 0 20 0) S _ 2 ) (cwV 1 hts gX7_pulp_X7_refuse rfl rfl rfl (by decide +kernel) ⟨Nat.le_of_ble_eq_true rfl, Nat.le_of_ble_eq_true rfl⟩) hB hG.2 hC hS rfl hl.1 (Nat.le_of_ble_eq_true rfl) dX7_pulp_107 ⟨Nat.le_of_ble_eq_true rfl, Nat.le_of_ble_eq_true rfl⟩ (fun H locs hC hS => ?_)
                refine W.widen (k := 1) (n := 23) (Nat.le_of_ble_eq_true rfl) (Nat.le_of_ble_eq_true rfl) ?_
                have e9 : fX7_pulp (w 0 0) (w 0 1) (w 0 2) (w 0 3) (w 0 4) g x ta = ((fX7_refuse (w 0 0) (w 0 1) (w 0 2) (w 0 3) (w 0 4) (u2 g 0 20 0) 2).1, (fX7_refuse (w 0 0) (w 0 1) (w 0 2) (w 0 3) (w 0 4) (u2 g 0 20 0) 2).2) := (by unfold fX7_pulp; rw [if_neg c1, if_neg c2, if_neg c3, if_neg c13, if_pos c16, if_pos c17, if_neg c18])
                exact m_reti hx hb hr hG hC hS (mEq_of (by rw [e9])) (by rw [e9]) hlocks dX7_pulp_110
          · skip
            refine lv_iconst (v := 1) hx hb dX7_pulp_82 (by decide) ?_
            refine lv_goto (tgt := 87) hx hb dX7_pulp_83 (by decide) ?_
            refine lv_istore (lv' := [(6, .int 1), (5, .int ((g (200 + x.toNatClampNeg) 1) / 2)), (4, .ref (bd 3 (300 + ta.toNatClampNeg))), (3, .ref (bd 3 (200 + x.toNatClampNeg))), (0, .ref (bd 0 0)), (1, .int x), (2, .int ta)]) hx hb dX7_pulp_87 hl (by decide) rfl (fun ls hl => ?_)
            refine lv_aload_n hx hb dX7_pulp_89 rfl (lv_at hl 3 rfl) ?_
            refine lv_iconst (v := 3) hx hb dX7_pulp_90 (by decide) ?_
            refine ld_m hx hb hB.1 hC (rV_200 (vp_lt (isBasket_in (w := w) hw0 c1))) (rl_200 hC.1 (vp_lt (isBasket_in (w := w) hw0 c1))) (k := 3) (by decide) (by unfold vp_in; decide) dX7_pulp_91 ?_
            refine q_val (v := g (200 + x.toNatClampNeg) 3) ((u2_nk (by decide)).trans rfl) ?_
            refine lv_if_ne (tgt := 105) hx hb dX7_pulp_92 (by decide) (fun c19 => ?_) (fun c19 => ?_)
            · skip
              refine lv_aload_n hx hb dX7_pulp_105 rfl (lv_at hl 4 rfl) ?_
              refine lv_iconst (v := 2) hx hb dX7_pulp_106 (by decide) ?_
              refine m_callVi (As := [.int 2]) (κ := 0) (i := 0) rfl rfl ⟨_, rfl⟩ rfl ⟨hx, hb, hml, hown, hts⟩ (kX7_refuse l D cy e0 (bd := bd) (w := w) (u2 g 0 20 0) S _ 2 ) (cwV 1 hts gX7_pulp_X7_refuse rfl rfl rfl (by decide +kernel) ⟨Nat.le_of_ble_eq_true rfl, Nat.le_of_ble_eq_true rfl⟩) hB hG.2 hC hS rfl hl.1 (Nat.le_of_ble_eq_true rfl) dX7_pulp_107 ⟨Nat.le_of_ble_eq_true rfl, Nat.le_of_ble_eq_true rfl⟩ (fun H locs hC hS => ?_)
              refine W.widen (k := 1) (n := 23) (Nat.le_of_ble_eq_true rfl) (Nat.le_of_ble_eq_true rfl) ?_
              have e9 : fX7_pulp (w 0 0) (w 0 1) (w 0 2) (w 0 3) (w 0 4) g x ta = ((fX7_refuse (w 0 0) (w 0 1) (w 0 2) (w 0 3) (w 0 4) (u2 g 0 20 0) 2).1, (fX7_refuse (w 0 0) (w 0 1) (w 0 2) (w 0 3) (w 0 4) (u2 g 0 20 0) 2).2) := (by unfold fX7_pulp; rw [if_neg c1, if_neg c2, if_neg c3, if_neg c13, if_neg c16, if_neg c19])
              exact m_reti hx hb hr hG hC hS (mEq_of (by rw [e9])) (by rw [e9]) hlocks dX7_pulp_110
            · skip
              refine lv_iload hx hb dX7_pulp_95 (lv_at hl 1 rfl) ?_
              refine lv_if_eq (tgt := 105) hx hb dX7_pulp_97 (by decide) (fun c20 => ?_) (fun c20 => ?_)
              · skip
                refine lv_aload_n hx hb dX7_pulp_105 rfl (lv_at hl 4 rfl) ?_
                refine lv_iconst (v := 2) hx hb dX7_pulp_106 (by decide) ?_
                refine m_callVi (As := [.int 2]) (κ := 0) (i := 0) rfl rfl ⟨_, rfl⟩ rfl ⟨hx, hb, hml, hown, hts⟩ (kX7_refuse l D cy e0 (bd := bd) (w := w) (u2 g 0 20 0) S _ 2 ) (cwV 1 hts gX7_pulp_X7_refuse rfl rfl rfl (by decide +kernel) ⟨Nat.le_of_ble_eq_true rfl, Nat.le_of_ble_eq_true rfl⟩) hB hG.2 hC hS rfl hl.1 (Nat.le_of_ble_eq_true rfl) dX7_pulp_107 ⟨Nat.le_of_ble_eq_true rfl, Nat.le_of_ble_eq_true rfl⟩ (fun H locs hC hS => ?_)
                refine W.widen (k := 1) (n := 23) (Nat.le_of_ble_eq_true rfl) (Nat.le_of_ble_eq_true rfl) ?_
                have e9 : fX7_pulp (w 0 0) (w 0 1) (w 0 2) (w 0 3) (w 0 4) g x ta = ((fX7_refuse (w 0 0) (w 0 1) (w 0 2) (w 0 3) (w 0 4) (u2 g 0 20 0) 2).1, (fX7_refuse (w 0 0) (w 0 1) (w 0 2) (w 0 3) (w 0 4) (u2 g 0 20 0) 2).2) := (by unfold fX7_pulp; rw [if_neg c1, if_neg c2, if_neg c3, if_neg c13, if_neg c16, if_pos c19, if_pos c20])
                exact m_reti hx hb hr hG hC hS (mEq_of (by rw [e9])) (by rw [e9]) hlocks dX7_pulp_110
              · skip
                refine lv_iload hx hb dX7_pulp_100 (lv_at hl 0 rfl) ?_
                refine lv_if_ne (tgt := 111) hx hb dX7_pulp_102 (by decide) (fun _ => ?_) (fun c => absurd c (by decide))
                refine lv_aload hx hb dX7_pulp_111 (lv_at hl 2 rfl) ?_
                refine lv_aload_n hx hb dX7_pulp_113 rfl (lv_at hl 3 rfl) ?_
                refine lv_iconst (v := 0) hx hb dX7_pulp_114 (by decide) ?_
                refine ld_m hx hb hB.1 hC (rV_200 (vp_lt (isBasket_in (w := w) hw0 c1))) (rl_200 hC.1 (vp_lt (isBasket_in (w := w) hw0 c1))) (k := 0) (by decide) (by unfold vp_in; decide) dX7_pulp_115 ?_
                refine q_val (v := g (200 + x.toNatClampNeg) 0) ((u2_nk (by decide)).trans rfl) ?_
                refine lv_iload hx hb dX7_pulp_116 (lv_at hl 1 rfl) ?_
                refine lv_aload_n hx hb dX7_pulp_118 rfl (lv_at hl 3 rfl) ?_
                refine lv_iconst (v := 2) hx hb dX7_pulp_119 (by decide) ?_
                refine ld_m hx hb hB.1 hC (rV_200 (vp_lt (isBasket_in (w := w) hw0 c1))) (rl_200 hC.1 (vp_lt (isBasket_in (w := w) hw0 c1))) (k := 2) (by decide) (by unfold vp_in; decide) dX7_pulp_120 ?_
                refine q_val (v := g (200 + x.toNatClampNeg) 2) ((u2_nk (by decide)).trans rfl) ?_
                refine lv_aload_n hx hb dX7_pulp_121 rfl (lv_at hl 3 rfl) ?_
                refine lv_iconst (v := 5) hx hb dX7_pulp_122 (by decide) ?_
                refine ld_m hx hb hB.1 hC (rV_200 (vp_lt (isBasket_in (w := w) hw0 c1))) (rl_200 hC.1 (vp_lt (isBasket_in (w := w) hw0 c1))) (k := 5) (by decide) (by unfold vp_in; decide) dX7_pulp_123 ?_
                refine q_val (v := g (200 + x.toNatClampNeg) 5) ((u2_nk (by decide)).trans rfl) ?_
                refine lv_iconst (v := 1) hx hb dX7_pulp_124 (by decide) ?_
                refine lv_icmp_ne (tgt := 132) hx hb dX7_pulp_125 (by decide) (fun c21 => ?_) (fun c21 => ?_)
                · skip
                  refine lv_iconst (v := 0) hx hb dX7_pulp_132 (by decide) ?_
                  have hz9 := hS.1
                  have hw9 := hC.1
                  refine m_callSn (As := [.int (g (200 + x.toNatClampNeg) 0), .int ((g (200 + x.toNatClampNeg) 1) / 2), .int (g (200 + x.toNatClampNeg) 2), .int 0])  ⟨hx, hb, hml, hown, hts⟩ (kX7_mixOf l D cy e0 (bd := bd) (w := w) (u2 g 0 20 0) S _ (g (200 + x.toNatClampNeg) 0) ((g (200 + x.toNatClampNeg) 1) / 2) (g (200 + x.toNatClampNeg) 2) 0 (by show w 0 4 + 1 ≤ 50; omega) (hp5 c1 c2 c3 c13 c16 c19 c20 c21)) (va_cwS 4 hts gX7_pulp_X7_mixOf rfl rfl rfl (by decide +kernel) ⟨Nat.le_of_ble_eq_true rfl, Nat.le_of_ble_eq_true rfl⟩) hB hG.2 hC hS rfl hl.1 (Nat.le_of_ble_eq_true rfl) dX7_pulp_133 ⟨Nat.le_of_ble_eq_true rfl, Nat.le_of_ble_eq_true rfl⟩ (fun bd22 H locs hN hC hS => ?_)
                  have hD9 := wN_mD (N := 23) hN.1 hN.2.1
                  have hD1 := hD9
                  have hG : mG e0 bd w s.heap.size bd22 (wN w 23) := hG.new hN.1 hN.2.1 hN.2.2.1 (Nat.le_trans hz9 hN.2.2.2)
                  have q0 : bd22 3 (300 + ta.toNatClampNeg) = bd 3 (300 + ta.toNatClampNeg) := hN.1 3 (300 + ta.toNatClampNeg) (rV_300 (vp_lt (isTank_in c2)))
                  have q1 : bd22 3 (200 + x.toNatClampNeg) = bd 3 (200 + x.toNatClampNeg) := hN.1 3 (200 + x.toNatClampNeg) (rV_200 (vp_lt (isBasket_in (w := w) hw0 c1)))
                  have q2 : bd22 0 0 = bd 0 0 := hN.1 0 0 rfl
                  rw [← q0, ← q1, ← q2] at hl
                  refine m_stk (st' := [.ref (bd22 3 (400 + w 0 4)), .ref (bd22 3 (300 + ta.toNatClampNeg))]) (by rw [q0]) ?_
                  have hv23 : rV (wN w 23) (400 + w 0 4) := rV_new
                  have hn24 : rl (wN w 23) (400 + w 0 4) = 23 := rl_new
                  refine m_callSv (As := [.ref (bd22 3 (300 + ta.toNatClampNeg)), .ref (bd22 3 (400 + w 0 4))])  ⟨hx, hb, hml, hown, hts⟩ (kX7_come l D cy e0 (bd := bd22) (w := (wN w 23)) (fX7_mixOf (w 0 0) (w 0 1) (w 0 2) (w 0 3) (w 0 4) (u2 g 0 20 0) (g (200 + x.toNatClampNeg) 0) ((g (200 + x.toNatClampNeg) 1) / 2) (g (200 + x.toNatClampNeg) 2) 0) S _ (300 + ta.toNatClampNeg) (rV_300 (vp_lt (isTank_in c2))) (rl_300 (vp_lt (isTank_in c2))) (400 + w 0 4) hv23 hn24 (hp6 c1 c2 c3 c13 c16 c19 c20 c21)) (va_cwS 2 hts gX7_pulp_X7_come rfl rfl rfl (by decide +kernel) ⟨Nat.le_of_ble_eq_true rfl, Nat.le_of_ble_eq_true rfl⟩) hB hG.2 hC hS rfl hl.1 (Nat.le_of_ble_eq_true rfl) dX7_pulp_136 ⟨Nat.le_of_ble_eq_true rfl, Nat.le_of_ble_eq_true rfl⟩ (fun H locs hC hS => ?_)
                  have hC : MW D cy bd22 (wN w 23) (fX7_come (w 0 0) (w 0 1) (w 0 2) (w 0 3) (w 0 4 + 1) (fX7_mixOf (w 0 0) (w 0 1) (w 0 2) (w 0 3) (w 0 4) (u2 g 0 20 0) (g (200 + x.toNatClampNeg) 0) ((g (200 + x.toNatClampNeg) 1) / 2) (g (200 + x.toNatClampNeg) 2) 0) (300 + ta.toNatClampNeg) (400 + w 0 4)) S H := hC
                  refine lv_aload_n hx hb dX7_pulp_139 rfl (lv_at hl 3 rfl) ?_
                  refine lv_iconst (v := 3) hx hb dX7_pulp_140 (by decide) ?_
                  refine lv_iconst (v := 1) hx hb dX7_pulp_141 (by decide) ?_
                  refine st_m hx hb hB.1 hC hS hG.2.1 (rV_200 (vp_lt (isBasket_in (w := w) hw0 c1))) (rl_200 hC.1 (vp_lt (isBasket_in (w := w) hw0 c1))) (k := 3) (by decide) (by unfold vp_in; decide) dX7_pulp_142 (fun H locs hC hS => ?_)
                  refine lv_aload_n hx hb dX7_pulp_143 rfl (lv_at hl 4 rfl) ?_
                  refine lv_dup hx hb dX7_pulp_144 rfl ?_
                  refine gt_m0_13 hx hb hts iX7_pulp_X7 hown hB.1 hC qX7_pulp_w5 dX7_pulp_145 ?_
                  refine q_val (v := (fX7_come (w 0 0) (w 0 1) (w 0 2) (w 0 3) (w 0 4 + 1) (fX7_mixOf (w 0 0) (w 0 1) (w 0 2) (w 0 3) (w 0 4) (u2 g 0 20 0) (g (200 + x.toNatClampNeg) 0) ((g (200 + x.toNatClampNeg) 1) / 2) (g (200 + x.toNatClampNeg) 2) 0) (300 + ta.toNatClampNeg) (400 + w 0 4)) 0 5) ((u2_nk (by decide)).trans rfl) ?_
                  refine lv_aload_n hx hb dX7_pulp_148 rfl (lv_at hl 3 rfl) ?_
                  refine lv_iconst (v := 1) hx hb dX7_pulp_149 (by decide) ?_
                  refine ld_m hx hb hB.1 hC (rV_200 (vp_lt (isBasket_in (w := w) hw0 c1))) (rl_200 hC.1 (vp_lt (isBasket_in (w := w) hw0 c1))) (k := 1) (by decide) (by unfold vp_in; decide) dX7_pulp_150 ?_
                  refine q_val (v := (fX7_come (w 0 0) (w 0 1) (w 0 2) (w 0 3) (w 0 4 + 1) (fX7_mixOf (w 0 0) (w 0 1) (w 0 2) (w 0 3) (w 0 4) (u2 g 0 20 0) (g (200 + x.toNatClampNeg) 0) ((g (200 + x.toNatClampNeg) 1) / 2) (g (200 + x.toNatClampNeg) 2) 0) (300 + ta.toNatClampNeg) (400 + w 0 4)) (200 + x.toNatClampNeg) 1) ((u2_nk (by decide)).trans rfl) ?_
                  refine lv_iload hx hb dX7_pulp_151 (lv_at hl 1 rfl) ?_
                  refine lv_isub hx hb dX7_pulp_153 ?_
                  refine lv_iadd hx hb dX7_pulp_154 ?_
                  refine pt_m0_13 hx hb hts iX7_pulp_X7 hown hB.1 hC hS hG.2.1 qX7_pulp_w5 dX7_pulp_155 (fun H locs hC hS => ?_)
                  refine lv_aload hx hb dX7_pulp_158 (lv_at hl 2 rfl) ?_
                  refine lv_iconst (v := 0) hx hb dX7_pulp_160 (by decide) ?_
                  refine ld_m hx hb hB.1 hC (rV_300 (vp_lt (isTank_in c2))) (rl_300 (vp_lt (isTank_in c2))) (k := 0) (by decide) (by unfold vp_in; decide) dX7_pulp_161 ?_
                  refine q_val (v := (fX7_come (w 0 0) (w 0 1) (w 0 2) (w 0 3) (w 0 4 + 1) (fX7_mixOf (w 0 0) (w 0 1) (w 0 2) (w 0 3) (w 0 4) (u2 g 0 20 0) (g (200 + x.toNatClampNeg) 0) ((g (200 + x.toNatClampNeg) 1) / 2) (g (200 + x.toNatClampNeg) 2) 0) (300 + ta.toNatClampNeg) (400 + w 0 4)) (300 + ta.toNatClampNeg) 0) ((u2_nk (by decide)).trans ((u2_nk (by decide)).trans rfl)) ?_
                  refine W.widen (k := 1) (n := 23) (Nat.le_of_ble_eq_true rfl) (Nat.le_of_ble_eq_true rfl) ?_
                  have e9 : fX7_pulp (w 0 0) (w 0 1) (w 0 2) (w 0 3) (w 0 4) g x ta = ((fX7_come (w 0 0) (w 0 1) (w 0 2) (w 0 3) (w 0 4 + 1) (fX7_mixOf (w 0 0) (w 0 1) (w 0 2) (w 0 3) (w 0 4) (u2 g 0 20 0) (g (200 + x.toNatClampNeg) 0) ((g (200 + x.toNatClampNeg) 1) / 2) (g (200 + x.toNatClampNeg) 2) 0) (300 + ta.toNatClampNeg) (400 + w 0 4)) (300 + ta.toNatClampNeg) 0, (u2 (u2 (fX7_come (w 0 0) (w 0 1) (w 0 2) (w 0 3) (w 0 4 + 1) (fX7_mixOf (w 0 0) (w 0 1) (w 0 2) (w 0 3) (w 0 4) (u2 g 0 20 0) (g (200 + x.toNatClampNeg) 0) ((g (200 + x.toNatClampNeg) 1) / 2) (g (200 + x.toNatClampNeg) 2) 0) (300 + ta.toNatClampNeg) (400 + w 0 4)) (200 + x.toNatClampNeg) 3 1) 0 5 (((fX7_come (w 0 0) (w 0 1) (w 0 2) (w 0 3) (w 0 4 + 1) (fX7_mixOf (w 0 0) (w 0 1) (w 0 2) (w 0 3) (w 0 4) (u2 g 0 20 0) (g (200 + x.toNatClampNeg) 0) ((g (200 + x.toNatClampNeg) 1) / 2) (g (200 + x.toNatClampNeg) 2) 0) (300 + ta.toNatClampNeg) (400 + w 0 4)) 0 5) + (((fX7_come (w 0 0) (w 0 1) (w 0 2) (w 0 3) (w 0 4 + 1) (fX7_mixOf (w 0 0) (w 0 1) (w 0 2) (w 0 3) (w 0 4) (u2 g 0 20 0) (g (200 + x.toNatClampNeg) 0) ((g (200 + x.toNatClampNeg) 1) / 2) (g (200 + x.toNatClampNeg) 2) 0) (300 + ta.toNatClampNeg) (400 + w 0 4)) (200 + x.toNatClampNeg) 1) - ((g (200 + x.toNatClampNeg) 1) / 2))))) := (by unfold fX7_pulp; rw [if_neg c1, if_neg c2, if_neg c3, if_neg c13, if_neg c16, if_pos c19, if_neg c20, if_neg c21])
                  exact m_reti hx hb hr hG hC hS (mEq_of (by rw [e9])) (by rw [e9]) hlocks dX7_pulp_162
                · skip
                  refine lv_iconst (v := 1) hx hb dX7_pulp_128 (by decide) ?_
                  refine lv_goto (tgt := 133) hx hb dX7_pulp_129 (by decide) ?_
                  have hz9 := hS.1
                  have hw9 := hC.1
                  refine m_callSn (As := [.int (g (200 + x.toNatClampNeg) 0), .int ((g (200 + x.toNatClampNeg) 1) / 2), .int (g (200 + x.toNatClampNeg) 2), .int 1])  ⟨hx, hb, hml, hown, hts⟩ (kX7_mixOf l D cy e0 (bd := bd) (w := w) (u2 g 0 20 0) S _ (g (200 + x.toNatClampNeg) 0) ((g (200 + x.toNatClampNeg) 1) / 2) (g (200 + x.toNatClampNeg) 2) 1 (by show w 0 4 + 1 ≤ 50; omega) (hp7 c1 c2 c3 c13 c16 c19 c20 c21)) (va_cwS 4 hts gX7_pulp_X7_mixOf rfl rfl rfl (by decide +kernel) ⟨Nat.le_of_ble_eq_true rfl, Nat.le_of_ble_eq_true rfl⟩) hB hG.2 hC hS rfl hl.1 (Nat.le_of_ble_eq_true rfl) dX7_pulp_133 ⟨Nat.le_of_ble_eq_true rfl, Nat.le_of_ble_eq_true rfl⟩ (fun bd25 H locs hN hC hS => ?_)
                  have hD9 := wN_mD (N := 23) hN.1 hN.2.1
                  have hD1 := hD9
                  have hG : mG e0 bd w s.heap.size bd25 (wN w 23) := hG.new hN.1 hN.2.1 hN.2.2.1 (Nat.le_trans hz9 hN.2.2.2)
                  have q0 : bd25 3 (300 + ta.toNatClampNeg) = bd 3 (300 + ta.toNatClampNeg) := hN.1 3 (300 + ta.toNatClampNeg) (rV_300 (vp_lt (isTank_in c2)))
                  have q1 : bd25 3 (200 + x.toNatClampNeg) = bd 3 (200 + x.toNatClampNeg) := hN.1 3 (200 + x.toNatClampNeg) (rV_200 (vp_lt (isBasket_in (w := w) hw0 c1)))
                  have q2 : bd25 0 0 = bd 0 0 := hN.1 0 0 rfl
                  rw [← q0, ← q1, ← q2] at hl
                  refine m_stk (st' := [.ref (bd25 3 (400 + w 0 4)), .ref (bd25 3 (300 + ta.toNatClampNeg))]) (by rw [q0]) ?_
                  have hv26 : rV (wN w 23) (400 + w 0 4) := rV_new
                  have hn27 : rl (wN w 23) (400 + w 0 4) = 23 := rl_new
                  refine m_callSv (As := [.ref (bd25 3 (300 + ta.toNatClampNeg)), .ref (bd25 3 (400 + w 0 4))])  ⟨hx, hb, hml, hown, hts⟩ (kX7_come l D cy e0 (bd := bd25) (w := (wN w 23)) (fX7_mixOf (w 0 0) (w 0 1) (w 0 2) (w 0 3) (w 0 4) (u2 g 0 20 0) (g (200 + x.toNatClampNeg) 0) ((g (200 + x.toNatClampNeg) 1) / 2) (g (200 + x.toNatClampNeg) 2) 1) S _ (300 + ta.toNatClampNeg) (rV_300 (vp_lt (isTank_in c2))) (rl_300 (vp_lt (isTank_in c2))) (400 + w 0 4) hv26 hn27 (hp8 c1 c2 c3 c13 c16 c19 c20 c21)) (va_cwS 2 hts gX7_pulp_X7_come rfl rfl rfl (by decide +kernel) ⟨Nat.le_of_ble_eq_true rfl, Nat.le_of_ble_eq_true rfl⟩) hB hG.2 hC hS rfl hl.1 (Nat.le_of_ble_eq_true rfl) dX7_pulp_136 ⟨Nat.le_of_ble_eq_true rfl, Nat.le_of_ble_eq_true rfl⟩ (fun H locs hC hS => ?_)
                  have hC : MW D cy bd25 (wN w 23) (fX7_come (w 0 0) (w 0 1) (w 0 2) (w 0 3) (w 0 4 + 1) (fX7_mixOf (w 0 0) (w 0 1) (w 0 2) (w 0 3) (w 0 4) (u2 g 0 20 0) (g (200 + x.toNatClampNeg) 0) ((g (200 + x.toNatClampNeg) 1) / 2) (g (200 + x.toNatClampNeg) 2) 1) (300 + ta.toNatClampNeg) (400 + w 0 4)) S H := hC
                  refine lv_aload_n hx hb dX7_pulp_139 rfl (lv_at hl 3 rfl) ?_
                  refine lv_iconst (v := 3) hx hb dX7_pulp_140 (by decide) ?_
                  refine lv_iconst (v := 1) hx hb dX7_pulp_141 (by decide) ?_
                  refine st_m hx hb hB.1 hC hS hG.2.1 (rV_200 (vp_lt (isBasket_in (w := w) hw0 c1))) (rl_200 hC.1 (vp_lt (isBasket_in (w := w) hw0 c1))) (k := 3) (by decide) (by unfold vp_in; decide) dX7_pulp_142 (fun H locs hC hS => ?_)
                  refine lv_aload_n hx hb dX7_pulp_143 rfl (lv_at hl 4 rfl) ?_
                  refine lv_dup hx hb dX7_pulp_144 rfl ?_
                  refine gt_m0_13 hx hb hts iX7_pulp_X7 hown hB.1 hC qX7_pulp_w5 dX7_pulp_145 ?_
                  refine q_val (v := (fX7_come (w 0 0) (w 0 1) (w 0 2) (w 0 3) (w 0 4 + 1) (fX7_mixOf (w 0 0) (w 0 1) (w 0 2) (w 0 3) (w 0 4) (u2 g 0 20 0) (g (200 + x.toNatClampNeg) 0) ((g (200 + x.toNatClampNeg) 1) / 2) (g (200 + x.toNatClampNeg) 2) 1) (300 + ta.toNatClampNeg) (400 + w 0 4)) 0 5) ((u2_nk (by decide)).trans rfl) ?_
                  refine lv_aload_n hx hb dX7_pulp_148 rfl (lv_at hl 3 rfl) ?_
                  refine lv_iconst (v := 1) hx hb dX7_pulp_149 (by decide) ?_
                  refine ld_m hx hb hB.1 hC (rV_200 (vp_lt (isBasket_in (w := w) hw0 c1))) (rl_200 hC.1 (vp_lt (isBasket_in (w := w) hw0 c1))) (k := 1) (by decide) (by unfold vp_in; decide) dX7_pulp_150 ?_
                  refine q_val (v := (fX7_come (w 0 0) (w 0 1) (w 0 2) (w 0 3) (w 0 4 + 1) (fX7_mixOf (w 0 0) (w 0 1) (w 0 2) (w 0 3) (w 0 4) (u2 g 0 20 0) (g (200 + x.toNatClampNeg) 0) ((g (200 + x.toNatClampNeg) 1) / 2) (g (200 + x.toNatClampNeg) 2) 1) (300 + ta.toNatClampNeg) (400 + w 0 4)) (200 + x.toNatClampNeg) 1) ((u2_nk (by decide)).trans rfl) ?_
                  refine lv_iload hx hb dX7_pulp_151 (lv_at hl 1 rfl) ?_
                  refine lv_isub hx hb dX7_pulp_153 ?_
                  refine lv_iadd hx hb dX7_pulp_154 ?_
                  refine pt_m0_13 hx hb hts iX7_pulp_X7 hown hB.1 hC hS hG.2.1 qX7_pulp_w5 dX7_pulp_155 (fun H locs hC hS => ?_)
                  refine lv_aload hx hb dX7_pulp_158 (lv_at hl 2 rfl) ?_
                  refine lv_iconst (v := 0) hx hb dX7_pulp_160 (by decide) ?_
                  refine ld_m hx hb hB.1 hC (rV_300 (vp_lt (isTank_in c2))) (rl_300 (vp_lt (isTank_in c2))) (k := 0) (by decide) (by unfold vp_in; decide) dX7_pulp_161 ?_
                  refine q_val (v := (fX7_come (w 0 0) (w 0 1) (w 0 2) (w 0 3) (w 0 4 + 1) (fX7_mixOf (w 0 0) (w 0 1) (w 0 2) (w 0 3) (w 0 4) (u2 g 0 20 0) (g (200 + x.toNatClampNeg) 0) ((g (200 + x.toNatClampNeg) 1) / 2) (g (200 + x.toNatClampNeg) 2) 1) (300 + ta.toNatClampNeg) (400 + w 0 4)) (300 + ta.toNatClampNeg) 0) ((u2_nk (by decide)).trans ((u2_nk (by decide)).trans rfl)) ?_
                  refine W.widen (k := 1) (n := 23) (Nat.le_of_ble_eq_true rfl) (Nat.le_of_ble_eq_true rfl) ?_
                  have e9 : fX7_pulp (w 0 0) (w 0 1) (w 0 2) (w 0 3) (w 0 4) g x ta = ((fX7_come (w 0 0) (w 0 1) (w 0 2) (w 0 3) (w 0 4 + 1) (fX7_mixOf (w 0 0) (w 0 1) (w 0 2) (w 0 3) (w 0 4) (u2 g 0 20 0) (g (200 + x.toNatClampNeg) 0) ((g (200 + x.toNatClampNeg) 1) / 2) (g (200 + x.toNatClampNeg) 2) 1) (300 + ta.toNatClampNeg) (400 + w 0 4)) (300 + ta.toNatClampNeg) 0, (u2 (u2 (fX7_come (w 0 0) (w 0 1) (w 0 2) (w 0 3) (w 0 4 + 1) (fX7_mixOf (w 0 0) (w 0 1) (w 0 2) (w 0 3) (w 0 4) (u2 g 0 20 0) (g (200 + x.toNatClampNeg) 0) ((g (200 + x.toNatClampNeg) 1) / 2) (g (200 + x.toNatClampNeg) 2) 1) (300 + ta.toNatClampNeg) (400 + w 0 4)) (200 + x.toNatClampNeg) 3 1) 0 5 (((fX7_come (w 0 0) (w 0 1) (w 0 2) (w 0 3) (w 0 4 + 1) (fX7_mixOf (w 0 0) (w 0 1) (w 0 2) (w 0 3) (w 0 4) (u2 g 0 20 0) (g (200 + x.toNatClampNeg) 0) ((g (200 + x.toNatClampNeg) 1) / 2) (g (200 + x.toNatClampNeg) 2) 1) (300 + ta.toNatClampNeg) (400 + w 0 4)) 0 5) + (((fX7_come (w 0 0) (w 0 1) (w 0 2) (w 0 3) (w 0 4 + 1) (fX7_mixOf (w 0 0) (w 0 1) (w 0 2) (w 0 3) (w 0 4) (u2 g 0 20 0) (g (200 + x.toNatClampNeg) 0) ((g (200 + x.toNatClampNeg) 1) / 2) (g (200 + x.toNatClampNeg) 2) 1) (300 + ta.toNatClampNeg) (400 + w 0 4)) (200 + x.toNatClampNeg) 1) - ((g (200 + x.toNatClampNeg) 1) / 2))))) := (by unfold fX7_pulp; rw [if_neg c1, if_neg c2, if_neg c3, if_neg c13, if_neg c16, if_pos c19, if_neg c20, if_pos c21])
                  exact m_reti hx hb hr hG hC hS (mEq_of (by rw [e9])) (by rw [e9]) hlocks dX7_pulp_162
    · skip
      refine lv_aload_n hx hb dX7_pulp_20 rfl (lv_at hl 0 rfl) ?_
      refine lv_iconst (v := 1) hx hb dX7_pulp_21 (by decide) ?_
      refine m_callVi (As := [.int 1]) (κ := 0) (i := 0) rfl rfl ⟨_, rfl⟩ rfl ⟨hx, hb, hml, hown, hts⟩ (kX7_refuse l D cy e0 (bd := bd) (w := w) (u2 g 0 20 0) S _ 1 ) (cwV 1 hts gX7_pulp_X7_refuse rfl rfl rfl (by decide +kernel) ⟨Nat.le_of_ble_eq_true rfl, Nat.le_of_ble_eq_true rfl⟩) hB hG.2 hC hS rfl hl.1 (Nat.le_of_ble_eq_true rfl) dX7_pulp_22 ⟨Nat.le_of_ble_eq_true rfl, Nat.le_of_ble_eq_true rfl⟩ (fun H locs hC hS => ?_)
      refine W.widen (k := 1) (n := 23) (Nat.le_of_ble_eq_true rfl) (Nat.le_of_ble_eq_true rfl) ?_
      have e9 : fX7_pulp (w 0 0) (w 0 1) (w 0 2) (w 0 3) (w 0 4) g x ta = ((fX7_refuse (w 0 0) (w 0 1) (w 0 2) (w 0 3) (w 0 4) (u2 g 0 20 0) 1).1, (fX7_refuse (w 0 0) (w 0 1) (w 0 2) (w 0 3) (w 0 4) (u2 g 0 20 0) 1).2) := (by unfold fX7_pulp; rw [if_neg c1, if_pos c2])
      exact m_reti hx hb hr hG hC hS (mEq_of (by rw [e9])) (by rw [e9]) hlocks dX7_pulp_25
def fX7_whole (na nb nc nd T : Nat) (g : Md) (x : Int32) (be : Int32) : Int32 × Md := if (fX7_isBasket na nb nc nd T (u2 g 0 20 0) x) = 0 then (((fX7_refuse na nb nc nd T (u2 g 0 20 0) 1).1, (fX7_refuse na nb nc nd T (u2 g 0 20 0) 1).2)) else (if (fX7_isBed na nb nc nd T (u2 g 0 20 0) be) = 0 then (((fX7_refuse na nb nc nd T (u2 g 0 20 0) 1).1, (fX7_refuse na nb nc nd T (u2 g 0 20 0) 1).2)) else (if (g (200 + x.toNatClampNeg) 3) = 0 then (if (g (200 + x.toNatClampNeg) 1) = 0 then (((fX7_refuse na nb nc nd T (u2 g 0 20 0) 2).1, (fX7_refuse na nb nc nd T (u2 g 0 20 0) 2).2)) else (if (fX7_isRoom na nb nc nd T (u2 g 0 20 0) (303 + be.toNatClampNeg) (g (200 + x.toNatClampNeg) 1)) = 0 then (((fX7_refuse na nb nc nd T (u2 g 0 20 0) 2).1, (fX7_refuse na nb nc nd T (u2 g 0 20 0) 2).2)) else (if (g (200 + x.toNatClampNeg) 5) = 1 then (((fX7_lay na nb nc nd (T + 1) (fX7_mixOf na nb nc nd T (u2 g 0 20 0) (g (200 + x.toNatClampNeg) 0) (g (200 + x.toNatClampNeg) 1) (g (200 + x.toNatClampNeg) 2) 1) (303 + be.toNatClampNeg) (400 + T) 2 600) (200 + x.toNatClampNeg) 1, (u2 (fX7_lay na nb nc nd (T + 1) (fX7_mixOf na nb nc nd T (u2 g 0 20 0) (g (200 + x.toNatClampNeg) 0) (g (200 + x.toNatClampNeg) 1) (g (200 + x.toNatClampNeg) 2) 1) (303 + be.toNatClampNeg) (400 + T) 2 600) (200 + x.toNatClampNeg) 3 2))) else (((fX7_lay na nb nc nd (T + 1) (fX7_mixOf na nb nc nd T (u2 g 0 20 0) (g (200 + x.toNatClampNeg) 0) (g (200 + x.toNatClampNeg) 1) (g (200 + x.toNatClampNeg) 2) 0) (303 + be.toNatClampNeg) (400 + T) 2 600) (200 + x.toNatClampNeg) 1, (u2 (fX7_lay na nb nc nd (T + 1) (fX7_mixOf na nb nc nd T (u2 g 0 20 0) (g (200 + x.toNatClampNeg) 0) (g (200 + x.toNatClampNeg) 1) (g (200 + x.toNatClampNeg) 2) 0) (303 + be.toNatClampNeg) (400 + T) 2 600) (200 + x.toNatClampNeg) 3 2)))))) else (((fX7_refuse na nb nc nd T (u2 g 0 20 0) 2).1, (fX7_refuse na nb nc nd T (u2 g 0 20 0) 2).2))))
theorem qX7_whole_w1 : Cond.fieldLink RX7 41 "CherryStationModel" "thrown" "I" ∈ wsX7_whole := List.mem_of_getElem? (i := 1) rfl
theorem qX7_whole_w2 : Cond.fieldLink RX7 16 "CherryStationModel" "baskets" "Ljava/util/ArrayList;" ∈ wsX7_whole := List.mem_of_getElem? (i := 2) rfl
theorem qX7_whole_w3 : Cond.classLink RX7 72 "[I" ∈ wsX7_whole := List.mem_of_getElem? (i := 3) rfl
theorem qX7_whole_w4 : Cond.fieldLink RX7 24 "CherryStationModel" "beds" "Ljava/util/ArrayList;" ∈ wsX7_whole := List.mem_of_getElem? (i := 4) rfl
theorem iX7_whole_X7 : ∀ w ∈ wsX70, w ∈ wsX7_whole := fun _ h => (List.mem_cons_of_mem _ (List.mem_append_left _ (List.mem_append_right _ h)))
set_option maxRecDepth 100000 in
set_option maxHeartbeats 4000000 in
theorem kX7_whole (l : Launch) (D : va_G) (cy : Nat → ClassId) (e0 : Nat) {bd w : Nat → Nat → Nat} (g : Md) (S : Int64) (sz : Nat) (x : Int32) (be : Int32) (hT4 : w 0 4 + 1 ≤ 50) (hp1 : ¬ ((fX7_isBasket (w 0 0) (w 0 1) (w 0 2) (w 0 3) (w 0 4) (u2 g 0 20 0) x) = 0) → ¬ ((fX7_isBed (w 0 0) (w 0 1) (w 0 2) (w 0 3) (w 0 4) (u2 g 0 20 0) be) = 0) → ((g (200 + x.toNatClampNeg) 3) = 0) → ¬ ((g (200 + x.toNatClampNeg) 1) = 0) → ¬ ((fX7_isRoom (w 0 0) (w 0 1) (w 0 2) (w 0 3) (w 0 4) (u2 g 0 20 0) (303 + be.toNatClampNeg) (g (200 + x.toNatClampNeg) 1)) = 0) → ¬ ((g (200 + x.toNatClampNeg) 5) = 1) → (vp_in (g (200 + x.toNatClampNeg) 0) 6)) (hp2 : ¬ ((fX7_isBasket (w 0 0) (w 0 1) (w 0 2) (w 0 3) (w 0 4) (u2 g 0 20 0) x) = 0) → ¬ ((fX7_isBed (w 0 0) (w 0 1) (w 0 2) (w 0 3) (w 0 4) (u2 g 0 20 0) be) = 0) → ((g (200 + x.toNatClampNeg) 3) = 0) → ¬ ((g (200 + x.toNatClampNeg) 1) = 0) → ¬ ((fX7_isRoom (w 0 0) (w 0 1) (w 0 2) (w 0 3) (w 0 4) (u2 g 0 20 0) (303 + be.toNatClampNeg) (g (200 + x.toNatClampNeg) 1)) = 0) → ¬ ((g (200 + x.toNatClampNeg) 5) = 1) → (¬ ((fX7_mixOf (w 0 0) (w 0 1) (w 0 2) (w 0 3) (w 0 4) (u2 g 0 20 0) (g (200 + x.toNatClampNeg) 0) (g (200 + x.toNatClampNeg) 1) (g (200 + x.toNatClampNeg) 2) 0) (303 + be.toNatClampNeg) 0) + ((fX7_mixOf (w 0 0) (w 0 1) (w 0 2) (w 0 3) (w 0 4) (u2 g 0 20 0) (g (200 + x.toNatClampNeg) 0) (g (200 + x.toNatClampNeg) 1) (g (200 + x.toNatClampNeg) 2) 0) (400 + w 0 4) 0) = 0)) (hp3 : ¬ ((fX7_isBasket (w 0 0) (w 0 1) (w 0 2) (w 0 3) (w 0 4) (u2 g 0 20 0) x) = 0) → ¬ ((fX7_isBed (w 0 0) (w 0 1) (w 0 2) (w 0 3) (w 0 4) (u2 g 0 20 0) be) = 0) → ((g (200 + x.toNatClampNeg) 3) = 0) → ¬ ((g (200 + x.toNatClampNeg) 1) = 0) → ¬ ((fX7_isRoom (w 0 0) (w 0 1) (w 0 2) (w 0 3) (w 0 4) (u2 g 0 20 0) (303 + be.toNatClampNeg) (g (200 + x.toNatClampNeg) 1)) = 0) → ((g (200 + x.toNatClampNeg) 5) = 1) → (vp_in (g (200 + x.toNatClampNeg) 0) 6)) (hp4 : ¬ ((fX7_isBasket (w 0 0) (w 0 1) (w 0 2) (w 0 3) (w 0 4) (u2 g 0 20 0) x) = 0) → ¬ ((fX7_isBed (w 0 0) (w 0 1) (w 0 2) (w 0 3) (w 0 4) (u2 g 0 20 0) be) = 0) → ((g (200 + x.toNatClampNeg) 3) = 0) → ¬ ((g (200 + x.toNatClampNeg) 1) = 0) → ¬ ((fX7_isRoom (w 0 0) (w 0 1) (w 0 2) (w 0 3) (w 0 4) (u2 g 0 20 0) (303 + be.toNatClampNeg) (g (200 + x.toNatClampNeg) 1)) = 0) → ((g (200 + x.toNatClampNeg) 5) = 1) → (¬ ((fX7_mixOf (w 0 0) (w 0 1) (w 0 2) (w 0 3) (w 0 4) (u2 g 0 20 0) (g (200 + x.toNatClampNeg) 0) (g (200 + x.toNatClampNeg) 1) (g (200 + x.toNatClampNeg) 2) 1) (303 + be.toNatClampNeg) 0) + ((fX7_mixOf (w 0 0) (w 0 1) (w 0 2) (w 0 3) (w 0 4) (u2 g 0 20 0) (g (200 + x.toNatClampNeg) 0) (g (200 + x.toNatClampNeg) 1) (g (200 + x.toNatClampNeg) 2) 1) (400 + w 0 4) 0) = 0)) : Met l yX7_whole wsX7_whole ({ frames := 3, cells := 1, slots := 23, locals := 68 } : Room) (va_Pc [.ref (bd 0 0), .int x, .int be] (mPre D cy e0 bd w g S sz)) (mQi D cy bd w (fX7_whole (w 0 0) (w 0 1) (w 0 2) (w 0 3) (w 0 4) g x be).1 (fX7_whole (w 0 0) (w 0 1) (w 0 2) (w 0 3) (w 0 4) g x be).2 S sz) 1 23 (mA bd w sz) := by
  refine q_start (cc := cX7_whole) (maxL := 5) (ret := (some .int)) (own := RX7) (by decide) rfl rfl (Nat.le_of_ble_eq_true rfl) ?_
  intro p e s m below meth c hx hb hr hml hts hown hlocks ⟨hsz, hC, hB⟩ ls hl
  subst hsz
  have hS : va_S (mA bd w s.heap.size) s.heap s.heap [] := va_S.rf
  have hG : mG e0 bd w s.heap.size bd w := mG.rf hB.2.2.1
  have hw0 := hC.1
  have hl : lv_has ls 5 [(0, .ref (bd 0 0)), (1, .int x), (2, .int be)] := hl
  refine lv_aload_n hx hb dX7_whole_0 rfl (lv_at hl 0 rfl) ?_
  refine lv_iconst (v := 0) hx hb dX7_whole_1 (by decide) ?_
  refine pt_m0_0 hx hb hts iX7_whole_X7 hown hB.1 hC hS hG.2.1 qX7_whole_w1 dX7_whole_2 (fun H locs hC hS => ?_)
  refine lv_aload_n hx hb dX7_whole_5 rfl (lv_at hl 0 rfl) ?_
  refine lv_iload_n hx hb dX7_whole_6 rfl (lv_at hl 1 rfl) ?_
  refine m_callVi (As := [.int x]) (κ := 0) (i := 0) rfl rfl ⟨_, rfl⟩ rfl ⟨hx, hb, hml, hown, hts⟩ (kX7_isBasket l D cy e0 (bd := bd) (w := w) (u2 g 0 20 0) S _ x ) (cwV 1 hts gX7_whole_X7_isBasket rfl rfl rfl (by decide +kernel) ⟨Nat.le_of_ble_eq_true rfl, Nat.le_of_ble_eq_true rfl⟩) hB hG.2 hC hS rfl hl.1 (Nat.le_of_ble_eq_true rfl) dX7_whole_7 ⟨Nat.le_of_ble_eq_true rfl, Nat.le_of_ble_eq_true rfl⟩ (fun H locs hC hS => ?_)
  refine lv_if_eq (tgt := 21) hx hb dX7_whole_10 (by decide) (fun c1 => ?_) (fun c1 => ?_)
  · skip
    refine lv_aload_n hx hb dX7_whole_21 rfl (lv_at hl 0 rfl) ?_
    refine lv_iconst (v := 1) hx hb dX7_whole_22 (by decide) ?_
    refine m_callVi (As := [.int 1]) (κ := 0) (i := 0) rfl rfl ⟨_, rfl⟩ rfl ⟨hx, hb, hml, hown, hts⟩ (kX7_refuse l D cy e0 (bd := bd) (w := w) (u2 g 0 20 0) S _ 1 ) (cwV 1 hts gX7_whole_X7_refuse rfl rfl rfl (by decide +kernel) ⟨Nat.le_of_ble_eq_true rfl, Nat.le_of_ble_eq_true rfl⟩) hB hG.2 hC hS rfl hl.1 (Nat.le_of_ble_eq_true rfl) dX7_whole_23 ⟨Nat.le_of_ble_eq_true rfl, Nat.le_of_ble_eq_true rfl⟩ (fun H locs hC hS => ?_)
    refine W.widen (k := 1) (n := 23) (Nat.le_of_ble_eq_true rfl) (Nat.le_of_ble_eq_true rfl) ?_
    have e9 : fX7_whole (w 0 0) (w 0 1) (w 0 2) (w 0 3) (w 0 4) g x be = ((fX7_refuse (w 0 0) (w 0 1) (w 0 2) (w 0 3) (w 0 4) (u2 g 0 20 0) 1).1, (fX7_refuse (w 0 0) (w 0 1) (w 0 2) (w 0 3) (w 0 4) (u2 g 0 20 0) 1).2) := (by unfold fX7_whole; rw [if_pos c1])
    exact m_reti hx hb hr hG hC hS (mEq_of (by rw [e9])) (by rw [e9]) hlocks dX7_whole_26
  · skip
    refine lv_aload_n hx hb dX7_whole_13 rfl (lv_at hl 0 rfl) ?_
    refine lv_iload_n hx hb dX7_whole_14 rfl (lv_at hl 2 rfl) ?_
    refine m_callVi (As := [.int be]) (κ := 0) (i := 0) rfl rfl ⟨_, rfl⟩ rfl ⟨hx, hb, hml, hown, hts⟩ (kX7_isBed l D cy e0 (bd := bd) (w := w) (u2 g 0 20 0) S _ be ) (cwV 1 hts gX7_whole_X7_isBed rfl rfl rfl (by decide +kernel) ⟨Nat.le_of_ble_eq_true rfl, Nat.le_of_ble_eq_true rfl⟩) hB hG.2 hC hS rfl hl.1 (Nat.le_of_ble_eq_true rfl) dX7_whole_15 ⟨Nat.le_of_ble_eq_true rfl, Nat.le_of_ble_eq_true rfl⟩ (fun H locs hC hS => ?_)
    refine lv_if_ne (tgt := 27) hx hb dX7_whole_18 (by decide) (fun c2 => ?_) (fun c2 => ?_)
    · skip
      refine lv_aload_n hx hb dX7_whole_27 rfl (lv_at hl 0 rfl) ?_
      refine gt_m0_2 hx hb hts iX7_whole_X7 hown hB.1 hC qX7_whole_w2 dX7_whole_28 ?_
      refine lv_iload_n hx hb dX7_whole_31 rfl (lv_at hl 1 rfl) ?_
      refine m_callVr (As := [.int x]) (κ := 1) (i := 1) (show 1 < 4 by decide) rfl ⟨_, rfl⟩ rfl ⟨hx, hb, hml, hown, hts⟩ (kJx4a65c_get_915e3 l D cy e0 (bd := bd) (w := w) (u2 g 0 20 0) S _ 1 (show 1 < 4 by decide) x (isBasket_in (w := w) hw0 c1)) (cwV 1 hts gX7_whole_Jx4a65c_get_915e3 rfl rfl rfl (by decide +kernel) ⟨Nat.le_of_ble_eq_true rfl, Nat.le_of_ble_eq_true rfl⟩) hB hG.2 hC hS rfl hl.1 (Nat.le_of_ble_eq_true rfl) dX7_whole_32 ⟨Nat.le_of_ble_eq_true rfl, Nat.le_of_ble_eq_true rfl⟩ (fun H locs hC hS => ?_)
      refine m_stk (st' := [.ref (bd 3 (200 + x.toNatClampNeg))]) rfl ?_
      refine m_cast hx hb hown (hts _ qX7_whole_w3) hB.1 hC (rV_200 (vp_lt (isBasket_in (w := w) hw0 c1))) dX7_whole_35 ?_
      refine lv_astore_n (lv' := [(3, .ref (bd 3 (200 + x.toNatClampNeg))), (0, .ref (bd 0 0)), (1, .int x), (2, .int be)]) hx hb dX7_whole_38 rfl hl (by decide) rfl (fun ls hl => ?_)
      refine lv_aload_n hx hb dX7_whole_39 rfl (lv_at hl 1 rfl) ?_
      refine gt_m0_4 hx hb hts iX7_whole_X7 hown hB.1 hC qX7_whole_w4 dX7_whole_40 ?_
      refine lv_iload_n hx hb dX7_whole_43 rfl (lv_at hl 3 rfl) ?_
      refine m_callVr (As := [.int be]) (κ := 1) (i := 2) (show 2 < 4 by decide) rfl ⟨_, rfl⟩ rfl ⟨hx, hb, hml, hown, hts⟩ (kJx4a65c_get_915e3 l D cy e0 (bd := bd) (w := w) (u2 g 0 20 0) S _ 2 (show 2 < 4 by decide) be (isBed_in (w := w) hw0 c2)) (cwV 1 hts gX7_whole_Jx4a65c_get_915e3 rfl rfl rfl (by decide +kernel) ⟨Nat.le_of_ble_eq_true rfl, Nat.le_of_ble_eq_true rfl⟩) hB hG.2 hC hS rfl hl.1 (Nat.le_of_ble_eq_true rfl) dX7_whole_44 ⟨Nat.le_of_ble_eq_true rfl, Nat.le_of_ble_eq_true rfl⟩ (fun H locs hC hS => ?_)
      refine m_stk (st' := [.ref (bd 3 (303 + be.toNatClampNeg))]) rfl ?_
      refine m_cast hx hb hown (hts _ qX7_whole_w3) hB.1 hC (rV_303 (vp_lt (isBed_in (w := w) hw0 c2))) dX7_whole_47 ?_
      refine lv_astore (lv' := [(4, .ref (bd 3 (303 + be.toNatClampNeg))), (3, .ref (bd 3 (200 + x.toNatClampNeg))), (0, .ref (bd 0 0)), (1, .int x), (2, .int be)]) hx hb dX7_whole_50 hl (by decide) rfl (fun ls hl => ?_)
      refine lv_aload_n hx hb dX7_whole_52 rfl (lv_at hl 1 rfl) ?_
      refine lv_iconst (v := 3) hx hb dX7_whole_53 (by decide) ?_
      refine ld_m hx hb hB.1 hC (rV_200 (vp_lt (isBasket_in (w := w) hw0 c1))) (rl_200 hC.1 (vp_lt (isBasket_in (w := w) hw0 c1))) (k := 3) (by decide) (by unfold vp_in; decide) dX7_whole_54 ?_
      refine q_val (v := g (200 + x.toNatClampNeg) 3) ((u2_nk (by decide)).trans rfl) ?_
      refine lv_if_ne (tgt := 75) hx hb dX7_whole_55 (by decide) (fun c3 => ?_) (fun c3 => ?_)
      · skip
        refine lv_aload_n hx hb dX7_whole_75 rfl (lv_at hl 2 rfl) ?_
        refine lv_iconst (v := 2) hx hb dX7_whole_76 (by decide) ?_
        refine m_callVi (As := [.int 2]) (κ := 0) (i := 0) rfl rfl ⟨_, rfl⟩ rfl ⟨hx, hb, hml, hown, hts⟩ (kX7_refuse l D cy e0 (bd := bd) (w := w) (u2 g 0 20 0) S _ 2 ) (cwV 1 hts gX7_whole_X7_refuse rfl rfl rfl (by decide +kernel) ⟨Nat.le_of_ble_eq_true rfl, Nat.le_of_ble_eq_true rfl⟩) hB hG.2 hC hS rfl hl.1 (Nat.le_of_ble_eq_true rfl) dX7_whole_77 ⟨Nat.le_of_ble_eq_true rfl, Nat.le_of_ble_eq_true rfl⟩ (fun H locs hC hS => ?_)
        refine W.widen (k := 1) (n := 23) (Nat.le_of_ble_eq_true rfl) (Nat.le_of_ble_eq_true rfl) ?_
        have e9 : fX7_whole (w 0 0) (w 0 1) (w 0 2) (w 0 3) (w 0 4) g x be = ((fX7_refuse (w 0 0) (w 0 1) (w 0 2) (w 0 3) (w 0 4) (u2 g 0 20 0) 2).1, (fX7_refuse (w 0 0) (w 0 1) (w 0 2) (w 0 3) (w 0 4) (u2 g 0 20 0) 2).2) := (by unfold fX7_whole; rw [if_neg c1, if_neg c2, if_neg c3])
        exact m_reti hx hb hr hG hC hS (mEq_of (by rw [e9])) (by rw [e9]) hlocks dX7_whole_80
      · skip
        refine lv_aload_n hx hb dX7_whole_58 rfl (lv_at hl 1 rfl) ?_
        refine lv_iconst (v := 1) hx hb dX7_whole_59 (by decide) ?_
        refine ld_m hx hb hB.1 hC (rV_200 (vp_lt (isBasket_in (w := w) hw0 c1))) (rl_200 hC.1 (vp_lt (isBasket_in (w := w) hw0 c1))) (k := 1) (by decide) (by unfold vp_in; decide) dX7_whole_60 ?_
        refine q_val (v := g (200 + x.toNatClampNeg) 1) ((u2_nk (by decide)).trans rfl) ?_
        refine lv_if_eq (tgt := 75) hx hb dX7_whole_61 (by decide) (fun c4 => ?_) (fun c4 => ?_)
        · skip
          refine lv_aload_n hx hb dX7_whole_75 rfl (lv_at hl 2 rfl) ?_
          refine lv_iconst (v := 2) hx hb dX7_whole_76 (by decide) ?_
          refine m_callVi (As := [.int 2]) (κ := 0) (i := 0) rfl rfl ⟨_, rfl⟩ rfl ⟨hx, hb, hml, hown, hts⟩ (kX7_refuse l D cy e0 (bd := bd) (w := w) (u2 g 0 20 0) S _ 2 ) (cwV 1 hts gX7_whole_X7_refuse rfl rfl rfl (by decide +kernel) ⟨Nat.le_of_ble_eq_true rfl, Nat.le_of_ble_eq_true rfl⟩) hB hG.2 hC hS rfl hl.1 (Nat.le_of_ble_eq_true rfl) dX7_whole_77 ⟨Nat.le_of_ble_eq_true rfl, Nat.le_of_ble_eq_true rfl⟩ (fun H locs hC hS => ?_)
          refine W.widen (k := 1) (n := 23) (Nat.le_of_ble_eq_true rfl) (Nat.le_of_ble_eq_true rfl) ?_
          have e9 : fX7_whole (w 0 0) (w 0 1) (w 0 2) (w 0 3) (w 0 4) g x be = ((fX7_refuse (w 0 0) (w 0 1) (w 0 2) (w 0 3) (w 0 4) (u2 g 0 20 0) 2).1, (fX7_refuse (w 0 0) (w 0 1) (w 0 2) (w 0 3) (w 0 4) (u2 g 0 20 0) 2).2) := (by unfold fX7_whole; rw [if_neg c1, if_neg c2, if_pos c3, if_pos c4])
          exact m_reti hx hb hr hG hC hS (mEq_of (by rw [e9])) (by rw [e9]) hlocks dX7_whole_80
        · skip
          refine lv_aload hx hb dX7_whole_64 (lv_at hl 0 rfl) ?_
          refine lv_aload_n hx hb dX7_whole_66 rfl (lv_at hl 1 rfl) ?_
          refine lv_iconst (v := 1) hx hb dX7_whole_67 (by decide) ?_
          refine ld_m hx hb hB.1 hC (rV_200 (vp_lt (isBasket_in (w := w) hw0 c1))) (rl_200 hC.1 (vp_lt (isBasket_in (w := w) hw0 c1))) (k := 1) (by decide) (by unfold vp_in; decide) dX7_whole_68 ?_
          refine q_val (v := g (200 + x.toNatClampNeg) 1) ((u2_nk (by decide)).trans rfl) ?_
          refine m_callSi (As := [.ref (bd 3 (303 + be.toNatClampNeg)), .int (g (200 + x.toNatClampNeg) 1)])  ⟨hx, hb, hml, hown, hts⟩ (kX7_isRoom l D cy e0 (bd := bd) (w := w) (u2 g 0 20 0) S _ (303 + be.toNatClampNeg) (rV_303 (vp_lt (isBed_in (w := w) hw0 c2))) (rl_303 hC.1 (vp_lt (isBed_in (w := w) hw0 c2))) (g (200 + x.toNatClampNeg) 1) ) (va_cwS 2 hts gX7_whole_X7_isRoom rfl rfl rfl (by decide +kernel) ⟨Nat.le_of_ble_eq_true rfl, Nat.le_of_ble_eq_true rfl⟩) hB hG.2 hC hS rfl hl.1 (Nat.le_of_ble_eq_true rfl) dX7_whole_69 ⟨Nat.le_of_ble_eq_true rfl, Nat.le_of_ble_eq_true rfl⟩ (fun H locs hC hS => ?_)
          refine lv_if_ne (tgt := 81) hx hb dX7_whole_72 (by decide) (fun c5 => ?_) (fun c5 => ?_)
          · skip
            refine lv_aload hx hb dX7_whole_81 (lv_at hl 0 rfl) ?_
            refine lv_aload_n hx hb dX7_whole_83 rfl (lv_at hl 1 rfl) ?_
            refine lv_iconst (v := 0) hx hb dX7_whole_84 (by decide) ?_
            refine ld_m hx hb hB.1 hC (rV_200 (vp_lt (isBasket_in (w := w) hw0 c1))) (rl_200 hC.1 (vp_lt (isBasket_in (w := w) hw0 c1))) (k := 0) (by decide) (by unfold vp_in; decide) dX7_whole_85 ?_
            refine q_val (v := g (200 + x.toNatClampNeg) 0) ((u2_nk (by decide)).trans rfl) ?_
            refine lv_aload_n hx hb dX7_whole_86 rfl (lv_at hl 1 rfl) ?_
            refine lv_iconst (v := 1) hx hb dX7_whole_87 (by decide) ?_
            refine ld_m hx hb hB.1 hC (rV_200 (vp_lt (isBasket_in (w := w) hw0 c1))) (rl_200 hC.1 (vp_lt (isBasket_in (w := w) hw0 c1))) (k := 1) (by decide) (by unfold vp_in; decide) dX7_whole_88 ?_
            refine q_val (v := g (200 + x.toNatClampNeg) 1) ((u2_nk (by decide)).trans rfl) ?_
            refine lv_aload_n hx hb dX7_whole_89 rfl (lv_at hl 1 rfl) ?_
            refine lv_iconst (v := 2) hx hb dX7_whole_90 (by decide) ?_
            refine ld_m hx hb hB.1 hC (rV_200 (vp_lt (isBasket_in (w := w) hw0 c1))) (rl_200 hC.1 (vp_lt (isBasket_in (w := w) hw0 c1))) (k := 2) (by decide) (by unfold vp_in; decide) dX7_whole_91 ?_
            refine q_val (v := g (200 + x.toNatClampNeg) 2) ((u2_nk (by decide)).trans rfl) ?_
            refine lv_aload_n hx hb dX7_whole_92 rfl (lv_at hl 1 rfl) ?_
            refine lv_iconst (v := 5) hx hb dX7_whole_93 (by decide) ?_
            refine ld_m hx hb hB.1 hC (rV_200 (vp_lt (isBasket_in (w := w) hw0 c1))) (rl_200 hC.1 (vp_lt (isBasket_in (w := w) hw0 c1))) (k := 5) (by decide) (by unfold vp_in; decide) dX7_whole_94 ?_
            refine q_val (v := g (200 + x.toNatClampNeg) 5) ((u2_nk (by decide)).trans rfl) ?_
            refine lv_iconst (v := 1) hx hb dX7_whole_95 (by decide) ?_
            refine lv_icmp_ne (tgt := 103) hx hb dX7_whole_96 (by decide) (fun c6 => ?_) (fun c6 => ?_)
            · skip
              refine lv_iconst (v := 0) hx hb dX7_whole_103 (by decide) ?_
              have hz9 := hS.1
              have hw9 := hC.1
              refine m_callSn (As := [.int (g (200 + x.toNatClampNeg) 0), .int (g (200 + x.toNatClampNeg) 1), .int (g (200 + x.toNatClampNeg) 2), .int 0])  ⟨hx, hb, hml, hown, hts⟩ (kX7_mixOf l D cy e0 (bd := bd) (w := w) (u2 g 0 20 0) S _ (g (200 + x.toNatClampNeg) 0) (g (200 + x.toNatClampNeg) 1) (g (200 + x.toNatClampNeg) 2) 0 (by show w 0 4 + 1 ≤ 50; omega) (hp1 c1 c2 c3 c4 c5 c6)) (va_cwS 4 hts gX7_whole_X7_mixOf rfl rfl rfl (by decide +kernel) ⟨Nat.le_of_ble_eq_true rfl, Nat.le_of_ble_eq_true rfl⟩) hB hG.2 hC hS rfl hl.1 (Nat.le_of_ble_eq_true rfl) dX7_whole_104 ⟨Nat.le_of_ble_eq_true rfl, Nat.le_of_ble_eq_true rfl⟩ (fun bd7 H locs hN hC hS => ?_)
              have hD9 := wN_mD (N := 23) hN.1 hN.2.1
              have hD1 := hD9
              have hG : mG e0 bd w s.heap.size bd7 (wN w 23) := hG.new hN.1 hN.2.1 hN.2.2.1 (Nat.le_trans hz9 hN.2.2.2)
              have q0 : bd7 3 (303 + be.toNatClampNeg) = bd 3 (303 + be.toNatClampNeg) := hN.1 3 (303 + be.toNatClampNeg) (rV_303 (vp_lt (isBed_in (w := w) hw0 c2)))
              have q1 : bd7 3 (200 + x.toNatClampNeg) = bd 3 (200 + x.toNatClampNeg) := hN.1 3 (200 + x.toNatClampNeg) (rV_200 (vp_lt (isBasket_in (w := w) hw0 c1)))
              have q2 : bd7 0 0 = bd 0 0 := hN.1 0 0 rfl
              rw [← q0, ← q1, ← q2] at hl
              refine m_stk (st' := [.ref (bd7 3 (400 + w 0 4)), .ref (bd7 3 (303 + be.toNatClampNeg))]) (by rw [q0]) ?_
              have hv8 : rV (wN w 23) (400 + w 0 4) := rV_new
              have hn9 : rl (wN w 23) (400 + w 0 4) = 23 := rl_new
              refine lv_iconst (v := 2) hx hb dX7_whole_107 (by decide) ?_
              refine lv_sipush (v := 600) hx hb dX7_whole_108 (by decide) ?_
              refine m_callSv (As := [.ref (bd7 3 (303 + be.toNatClampNeg)), .ref (bd7 3 (400 + w 0 4)), .int 2, .int 600])  ⟨hx, hb, hml, hown, hts⟩ (kX7_lay l D cy e0 (bd := bd7) (w := (wN w 23)) (fX7_mixOf (w 0 0) (w 0 1) (w 0 2) (w 0 3) (w 0 4) (u2 g 0 20 0) (g (200 + x.toNatClampNeg) 0) (g (200 + x.toNatClampNeg) 1) (g (200 + x.toNatClampNeg) 2) 0) S _ (303 + be.toNatClampNeg) (rV_303 (vp_lt (isBed_in (w := w) hw0 c2))) (rl_303 hC.1 (vp_lt (isBed_in (w := w) hw0 c2))) (400 + w 0 4) hv8 hn9 2 600 (hp2 c1 c2 c3 c4 c5 c6)) (va_cwS 4 hts gX7_whole_X7_lay rfl rfl rfl (by decide +kernel) ⟨Nat.le_of_ble_eq_true rfl, Nat.le_of_ble_eq_true rfl⟩) hB hG.2 hC hS rfl hl.1 (Nat.le_of_ble_eq_true rfl) dX7_whole_111 ⟨Nat.le_of_ble_eq_true rfl, Nat.le_of_ble_eq_true rfl⟩ (fun H locs hC hS => ?_)
              have hC : MW D cy bd7 (wN w 23) (fX7_lay (w 0 0) (w 0 1) (w 0 2) (w 0 3) (w 0 4 + 1) (fX7_mixOf (w 0 0) (w 0 1) (w 0 2) (w 0 3) (w 0 4) (u2 g 0 20 0) (g (200 + x.toNatClampNeg) 0) (g (200 + x.toNatClampNeg) 1) (g (200 + x.toNatClampNeg) 2) 0) (303 + be.toNatClampNeg) (400 + w 0 4) 2 600) S H := hC
              refine lv_aload_n hx hb dX7_whole_114 rfl (lv_at hl 1 rfl) ?_
              refine lv_iconst (v := 3) hx hb dX7_whole_115 (by decide) ?_
              refine lv_iconst (v := 2) hx hb dX7_whole_116 (by decide) ?_
              refine st_m hx hb hB.1 hC hS hG.2.1 (rV_200 (vp_lt (isBasket_in (w := w) hw0 c1))) (rl_200 hC.1 (vp_lt (isBasket_in (w := w) hw0 c1))) (k := 3) (by decide) (by unfold vp_in; decide) dX7_whole_117 (fun H locs hC hS => ?_)
              refine lv_aload_n hx hb dX7_whole_118 rfl (lv_at hl 1 rfl) ?_
              refine lv_iconst (v := 1) hx hb dX7_whole_119 (by decide) ?_
              refine ld_m hx hb hB.1 hC (rV_200 (vp_lt (isBasket_in (w := w) hw0 c1))) (rl_200 hC.1 (vp_lt (isBasket_in (w := w) hw0 c1))) (k := 1) (by decide) (by unfold vp_in; decide) dX7_whole_120 ?_
              refine q_val (v := (fX7_lay (w 0 0) (w 0 1) (w 0 2) (w 0 3) (w 0 4 + 1) (fX7_mixOf (w 0 0) (w 0 1) (w 0 2) (w 0 3) (w 0 4) (u2 g 0 20 0) (g (200 + x.toNatClampNeg) 0) (g (200 + x.toNatClampNeg) 1) (g (200 + x.toNatClampNeg) 2) 0) (303 + be.toNatClampNeg) (400 + w 0 4) 2 600) (200 + x.toNatClampNeg) 1) ((u2_nk (by decide)).trans rfl) ?_
              refine W.widen (k := 1) (n := 23) (Nat.le_of_ble_eq_true rfl) (Nat.le_of_ble_eq_true rfl) ?_
              have e9 : fX7_whole (w 0 0) (w 0 1) (w 0 2) (w 0 3) (w 0 4) g x be = ((fX7_lay (w 0 0) (w 0 1) (w 0 2) (w 0 3) (w 0 4 + 1) (fX7_mixOf (w 0 0) (w 0 1) (w 0 2) (w 0 3) (w 0 4) (u2 g 0 20 0) (g (200 + x.toNatClampNeg) 0) (g (200 + x.toNatClampNeg) 1) (g (200 + x.toNatClampNeg) 2) 0) (303 + be.toNatClampNeg) (400 + w 0 4) 2 600) (200 + x.toNatClampNeg) 1, (u2 (fX7_lay (w 0 0) (w 0 1) (w 0 2) (w 0 3) (w 0 4 + 1) (fX7_mixOf (w 0 0) (w 0 1) (w 0 2) (w 0 3) (w 0 4) (u2 g 0 20 0) (g (200 + x.toNatClampNeg) 0) (g (200 + x.toNatClampNeg) 1) (g (200 + x.toNatClampNeg) 2) 0) (303 + be.toNatClampNeg) (400 + w 0 4) 2 600) (200 + x.toNatClampNeg) 3 2)) := (by unfold fX7_whole; rw [if_neg c1, if_neg c2, if_pos c3, if_neg c4, if_neg c5, if_neg c6])
              exact m_reti hx hb hr hG hC hS (mEq_of (by rw [e9])) (by rw [e9]) hlocks dX7_whole_121
            · skip
              refine lv_iconst (v := 1) hx hb dX7_whole_99 (by decide) ?_
              refine lv_goto (tgt := 104) hx hb dX7_whole_100 (by decide) ?_
              have hz9 := hS.1
              have hw9 := hC.1
              refine m_callSn (As := [.int (g (200 + x.toNatClampNeg) 0), .int (g (200 + x.toNatClampNeg) 1), .int (g (200 + x.toNatClampNeg) 2), .int 1])  ⟨hx, hb, hml, hown, hts⟩ (kX7_mixOf l D cy e0 (bd := bd) (w := w) (u2 g 0 20 0) S _ (g (200 + x.toNatClampNeg) 0) (g (200 + x.toNatClampNeg) 1) (g (200 + x.toNatClampNeg) 2) 1 (by show w 0 4 + 1 ≤ 50; omega) (hp3 c1 c2 c3 c4 c5 c6)) (va_cwS 4 hts gX7_whole_X7_mixOf rfl rfl rfl (by decide +kernel) ⟨Nat.le_of_ble_eq_true rfl, Nat.le_of_ble_eq_true rfl⟩) hB hG.2 hC hS rfl hl.1 (Nat.le_of_ble_eq_true rfl) dX7_whole_104 ⟨Nat.le_of_ble_eq_true rfl, Nat.le_of_ble_eq_true rfl⟩ (fun bd10 H locs hN hC hS => ?_)
              have hD9 := wN_mD (N := 23) hN.1 hN.2.1
              have hD1 := hD9
              have hG : mG e0 bd w s.heap.size bd10 (wN w 23) := hG.new hN.1 hN.2.1 hN.2.2.1 (Nat.le_trans hz9 hN.2.2.2)
              have q0 : bd10 3 (303 + be.toNatClampNeg) = bd 3 (303 + be.toNatClampNeg) := hN.1 3 (303 + be.toNatClampNeg) (rV_303 (vp_lt (isBed_in (w := w) hw0 c2)))
              have q1 : bd10 3 (200 + x.toNatClampNeg) = bd 3 (200 + x.toNatClampNeg) := hN.1 3 (200 + x.toNatClampNeg) (rV_200 (vp_lt (isBasket_in (w := w) hw0 c1)))
              have q2 : bd10 0 0 = bd 0 0 := hN.1 0 0 rfl
              rw [← q0, ← q1, ← q2] at hl
              refine m_stk (st' := [.ref (bd10 3 (400 + w 0 4)), .ref (bd10 3 (303 + be.toNatClampNeg))]) (by rw [q0]) ?_
              have hv11 : rV (wN w 23) (400 + w 0 4) := rV_new
              have hn12 : rl (wN w 23) (400 + w 0 4) = 23 := rl_new
              refine lv_iconst (v := 2) hx hb dX7_whole_107 (by decide) ?_
              refine lv_sipush (v := 600) hx hb dX7_whole_108 (by decide) ?_
              refine m_callSv (As := [.ref (bd10 3 (303 + be.toNatClampNeg)), .ref (bd10 3 (400 + w 0 4)), .int 2, .int 600])  ⟨hx, hb, hml, hown, hts⟩ (kX7_lay l D cy e0 (bd := bd10) (w := (wN w 23)) (fX7_mixOf (w 0 0) (w 0 1) (w 0 2) (w 0 3) (w 0 4) (u2 g 0 20 0) (g (200 + x.toNatClampNeg) 0) (g (200 + x.toNatClampNeg) 1) (g (200 + x.toNatClampNeg) 2) 1) S _ (303 + be.toNatClampNeg) (rV_303 (vp_lt (isBed_in (w := w) hw0 c2))) (rl_303 hC.1 (vp_lt (isBed_in (w := w) hw0 c2))) (400 + w 0 4) hv11 hn12 2 600 (hp4 c1 c2 c3 c4 c5 c6)) (va_cwS 4 hts gX7_whole_X7_lay rfl rfl rfl (by decide +kernel) ⟨Nat.le_of_ble_eq_true rfl, Nat.le_of_ble_eq_true rfl⟩) hB hG.2 hC hS rfl hl.1 (Nat.le_of_ble_eq_true rfl) dX7_whole_111 ⟨Nat.le_of_ble_eq_true rfl, Nat.le_of_ble_eq_true rfl⟩ (fun H locs hC hS => ?_)
              have hC : MW D cy bd10 (wN w 23) (fX7_lay (w 0 0) (w 0 1) (w 0 2) (w 0 3) (w 0 4 + 1) (fX7_mixOf (w 0 0) (w 0 1) (w 0 2) (w 0 3) (w 0 4) (u2 g 0 20 0) (g (200 + x.toNatClampNeg) 0) (g (200 + x.toNatClampNeg) 1) (g (200 + x.toNatClampNeg) 2) 1) (303 + be.toNatClampNeg) (400 + w 0 4) 2 600) S H := hC
              refine lv_aload_n hx hb dX7_whole_114 rfl (lv_at hl 1 rfl) ?_
              refine lv_iconst (v := 3) hx hb dX7_whole_115 (by decide) ?_
              refine lv_iconst (v := 2) hx hb dX7_whole_116 (by decide) ?_
              refine st_m hx hb hB.1 hC hS hG.2.1 (rV_200 (vp_lt (isBasket_in (w := w) hw0 c1))) (rl_200 hC.1 (vp_lt (isBasket_in (w := w) hw0 c1))) (k := 3) (by decide) (by unfold vp_in; decide) dX7_whole_117 (fun H locs hC hS => ?_)
              refine lv_aload_n hx hb dX7_whole_118 rfl (lv_at hl 1 rfl) ?_
              refine lv_iconst (v := 1) hx hb dX7_whole_119 (by decide) ?_
              refine ld_m hx hb hB.1 hC (rV_200 (vp_lt (isBasket_in (w := w) hw0 c1))) (rl_200 hC.1 (vp_lt (isBasket_in (w := w) hw0 c1))) (k := 1) (by decide) (by unfold vp_in; decide) dX7_whole_120 ?_
              refine q_val (v := (fX7_lay (w 0 0) (w 0 1) (w 0 2) (w 0 3) (w 0 4 + 1) (fX7_mixOf (w 0 0) (w 0 1) (w 0 2) (w 0 3) (w 0 4) (u2 g 0 20 0) (g (200 + x.toNatClampNeg) 0) (g (200 + x.toNatClampNeg) 1) (g (200 + x.toNatClampNeg) 2) 1) (303 + be.toNatClampNeg) (400 + w 0 4) 2 600) (200 + x.toNatClampNeg) 1) ((u2_nk (by decide)).trans rfl) ?_
              refine W.widen (k := 1) (n := 23) (Nat.le_of_ble_eq_true rfl) (Nat.le_of_ble_eq_true rfl) ?_
              have e9 : fX7_whole (w 0 0) (w 0 1) (w 0 2) (w 0 3) (w 0 4) g x be = ((fX7_lay (w 0 0) (w 0 1) (w 0 2) (w 0 3) (w 0 4 + 1) (fX7_mixOf (w 0 0) (w 0 1) (w 0 2) (w 0 3) (w 0 4) (u2 g 0 20 0) (g (200 + x.toNatClampNeg) 0) (g (200 + x.toNatClampNeg) 1) (g (200 + x.toNatClampNeg) 2) 1) (303 + be.toNatClampNeg) (400 + w 0 4) 2 600) (200 + x.toNatClampNeg) 1, (u2 (fX7_lay (w 0 0) (w 0 1) (w 0 2) (w 0 3) (w 0 4 + 1) (fX7_mixOf (w 0 0) (w 0 1) (w 0 2) (w 0 3) (w 0 4) (u2 g 0 20 0) (g (200 + x.toNatClampNeg) 0) (g (200 + x.toNatClampNeg) 1) (g (200 + x.toNatClampNeg) 2) 1) (303 + be.toNatClampNeg) (400 + w 0 4) 2 600) (200 + x.toNatClampNeg) 3 2)) := (by unfold fX7_whole; rw [if_neg c1, if_neg c2, if_pos c3, if_neg c4, if_neg c5, if_pos c6])
              exact m_reti hx hb hr hG hC hS (mEq_of (by rw [e9])) (by rw [e9]) hlocks dX7_whole_121
          · skip
            refine lv_aload_n hx hb dX7_whole_75 rfl (lv_at hl 2 rfl) ?_
            refine lv_iconst (v := 2) hx hb dX7_whole_76 (by decide) ?_
            refine m_callVi (As := [.int 2]) (κ := 0) (i := 0) rfl rfl ⟨_, rfl⟩ rfl ⟨hx, hb, hml, hown, hts⟩ (kX7_refuse l D cy e0 (bd := bd) (w := w) (u2 g 0 20 0) S _ 2 ) (cwV 1 hts gX7_whole_X7_refuse rfl rfl rfl (by decide +kernel) ⟨Nat.le_of_ble_eq_true rfl, Nat.le_of_ble_eq_true rfl⟩) hB hG.2 hC hS rfl hl.1 (Nat.le_of_ble_eq_true rfl) dX7_whole_77 ⟨Nat.le_of_ble_eq_true rfl, Nat.le_of_ble_eq_true rfl⟩ (fun H locs hC hS => ?_)
            refine W.widen (k := 1) (n := 23) (Nat.le_of_ble_eq_true rfl) (Nat.le_of_ble_eq_true rfl) ?_
            have e9 : fX7_whole (w 0 0) (w 0 1) (w 0 2) (w 0 3) (w 0 4) g x be = ((fX7_refuse (w 0 0) (w 0 1) (w 0 2) (w 0 3) (w 0 4) (u2 g 0 20 0) 2).1, (fX7_refuse (w 0 0) (w 0 1) (w 0 2) (w 0 3) (w 0 4) (u2 g 0 20 0) 2).2) := (by unfold fX7_whole; rw [if_neg c1, if_neg c2, if_pos c3, if_neg c4, if_pos c5])
            exact m_reti hx hb hr hG hC hS (mEq_of (by rw [e9])) (by rw [e9]) hlocks dX7_whole_80
    · skip
      refine lv_aload_n hx hb dX7_whole_21 rfl (lv_at hl 0 rfl) ?_
      refine lv_iconst (v := 1) hx hb dX7_whole_22 (by decide) ?_
      refine m_callVi (As := [.int 1]) (κ := 0) (i := 0) rfl rfl ⟨_, rfl⟩ rfl ⟨hx, hb, hml, hown, hts⟩ (kX7_refuse l D cy e0 (bd := bd) (w := w) (u2 g 0 20 0) S _ 1 ) (cwV 1 hts gX7_whole_X7_refuse rfl rfl rfl (by decide +kernel) ⟨Nat.le_of_ble_eq_true rfl, Nat.le_of_ble_eq_true rfl⟩) hB hG.2 hC hS rfl hl.1 (Nat.le_of_ble_eq_true rfl) dX7_whole_23 ⟨Nat.le_of_ble_eq_true rfl, Nat.le_of_ble_eq_true rfl⟩ (fun H locs hC hS => ?_)
      refine W.widen (k := 1) (n := 23) (Nat.le_of_ble_eq_true rfl) (Nat.le_of_ble_eq_true rfl) ?_
      have e9 : fX7_whole (w 0 0) (w 0 1) (w 0 2) (w 0 3) (w 0 4) g x be = ((fX7_refuse (w 0 0) (w 0 1) (w 0 2) (w 0 3) (w 0 4) (u2 g 0 20 0) 1).1, (fX7_refuse (w 0 0) (w 0 1) (w 0 2) (w 0 3) (w 0 4) (u2 g 0 20 0) 1).2) := (by unfold fX7_whole; rw [if_neg c1, if_pos c2])
      exact m_reti hx hb hr hG hC hS (mEq_of (by rw [e9])) (by rw [e9]) hlocks dX7_whole_26
def fX7_sell_L62 (na nb nc nd T : Nat) (g : Md) (x : Int32) (pr : Int32) (lb : Int32) : Nat → Nat → Int32 → Md → Int32 × Md
  | 0, k, a1, g1 => (a1, g1)
  | n + 1, k, a1, g1 => fX7_sell_L62 na nb nc nd T g x pr lb n (k + 1) (a1 - (fX7_share na nb nc nd T g1 x (nI k) pr lb)) (u2 g1 (100 + k) 2 ((g1 (100 + k) 2) + (fX7_share na nb nc nd T g1 x (nI k) pr lb)))
def fX7_sell (na nb nc nd T : Nat) (g : Md) (x : Int32) (pr : Int32) (lb : Int32) : Int32 × Md := if (fX7_isLot na nb nc nd T (u2 g 0 20 0) x) = 0 then (((fX7_refuse na nb nc nd T (u2 g 0 20 0) 1).1, (fX7_refuse na nb nc nd T (u2 g 0 20 0) 1).2)) else (if (fX7_is pr 1 200) = 0 then (((fX7_refuse na nb nc nd T (u2 g 0 20 0) 2).1, (fX7_refuse na nb nc nd T (u2 g 0 20 0) 2).2)) else (if (fX7_canSell na nb nc nd T (u2 g 0 20 0) x) = 0 then (((fX7_refuse na nb nc nd T (u2 g 0 20 0) 3).1, (fX7_refuse na nb nc nd T (u2 g 0 20 0) 3).2)) else (((fX7_sell_L62 na nb nc nd T g x pr lb na 0 (fX7_brings na nb nc nd T (u2 g 0 20 0) x pr lb) (u2 g 0 20 0)).1, (u2 (u2 (u2 ((fX7_sell_L62 na nb nc nd T g x pr lb na 0 (fX7_brings na nb nc nd T (u2 g 0 20 0) x pr lb) (u2 g 0 20 0)).2) 0 1 ((((fX7_sell_L62 na nb nc nd T g x pr lb na 0 (fX7_brings na nb nc nd T (u2 g 0 20 0) x pr lb) (u2 g 0 20 0)).2) 0 1) + ((fX7_sell_L62 na nb nc nd T g x pr lb na 0 (fX7_brings na nb nc nd T (u2 g 0 20 0) x pr lb) (u2 g 0 20 0)).1))) 0 4 ((((fX7_sell_L62 na nb nc nd T g x pr lb na 0 (fX7_brings na nb nc nd T (u2 g 0 20 0) x pr lb) (u2 g 0 20 0)).2) 0 4) + (((fX7_sell_L62 na nb nc nd T g x pr lb na 0 (fX7_brings na nb nc nd T (u2 g 0 20 0) x pr lb) (u2 g 0 20 0)).2) (308 + x.toNatClampNeg) 0))) (308 + x.toNatClampNeg) 10 0)))))
theorem qX7_sell_w1 : Cond.fieldLink RX7 41 "CherryStationModel" "thrown" "I" ∈ wsX7_sell := List.mem_of_getElem? (i := 1) rfl
theorem qX7_sell_w2 : Cond.fieldLink RX7 12 "CherryStationModel" "farms" "Ljava/util/ArrayList;" ∈ wsX7_sell := List.mem_of_getElem? (i := 2) rfl
theorem qX7_sell_w3 : Cond.classLink RX7 72 "[I" ∈ wsX7_sell := List.mem_of_getElem? (i := 3) rfl
theorem qX7_sell_w4 : Cond.fieldLink RX7 79 "CherryStationModel" "money" "I" ∈ wsX7_sell := List.mem_of_getElem? (i := 4) rfl
theorem qX7_sell_w5 : Cond.fieldLink RX7 214 "CherryStationModel" "sold" "I" ∈ wsX7_sell := List.mem_of_getElem? (i := 5) rfl
theorem qX7_sell_w6 : Cond.fieldLink RX7 27 "CherryStationModel" "lots" "Ljava/util/ArrayList;" ∈ wsX7_sell := List.mem_of_getElem? (i := 6) rfl
theorem iX7_sell_X7 : ∀ w ∈ wsX70, w ∈ wsX7_sell := fun _ h => (List.mem_cons_of_mem _ (List.mem_append_left _ (List.mem_append_right _ h)))
set_option maxRecDepth 100000 in
set_option maxHeartbeats 4000000 in
theorem kX7_sell_L62 (l : Launch) (D : va_G) (cy : Nat → ClassId) (e0 : Nat) {bd w bd1 w1 : Nat → Nat → Nat} (g : Md) (S : Int64) (x : Int32) (pr : Int32) (lb : Int32) (hlo : vp_in x (w1 0 3)) (c0 s0 : Nat) (hc0 : c0 + 0 ≤ 0) (hs0 : s0 + 0 ≤ 0) {p : Program} {e : Env} {s : State} {m : MethodId} {below : List Frame} {meth : Method} {c : Code} {Q : State → Prop} (hx : p.tables.exec = Jvm.exec) (hb : c.code = cX7_sell) (hr : meth.sig.returnType = (some .int)) (hml : c.maxLocals = 7) (hts : ∀ w ∈ wsX7_sell, w.before [.ref (bd 0 0), .int x, .int pr, .int lb].toArray s = true) (hown : s.vm.findClass RX7 = some m.cls) (hlocks : meth.locks = false) (hB : MB D cy e0 bd w s) (hG : mG e0 bd w s.heap.size bd1 w1) : ∀ (n k : Nat) (a1 : Int32) (g1 : Md) (hn : k + n = w1 0 0) (hk0 : ¬ (5 * (g1 (308 + x.toNatClampNeg) 0).toInt64) = 0)  (H : Heap) (locs : List Loc) (ls : Array Slot) (hC : MW D cy bd1 w1 g1 S H) (hS : va_S (mA bd w s.heap.size) s.heap H locs) (hl : lv_has ls 7 [(5, .int (nI k)), (4, .int a1), (0, .ref (bd1 0 0)), (1, .int x), (2, .int pr), (3, .int lb)]) (kk : ∀ (H : Heap) (locs : List Loc) (ls : Array Slot), MW D cy bd1 w1 ((fX7_sell_L62 (w1 0 0) (w1 0 1) (w1 0 2) (w1 0 3) (w1 0 4) g x pr lb n k a1 g1).2) S H → va_S (mA bd w s.heap.size) s.heap H locs → lv_has ls 7 [(4, .int ((fX7_sell_L62 (w1 0 0) (w1 0 1) (w1 0 2) (w1 0 3) (w1 0 4) g x pr lb n k a1 g1).1)), (0, .ref (bd1 0 0)), (1, .int x), (2, .int pr), (3, .int lb)] → W p l e ({ frames := 5, cells := 0, slots := 0, locals := 113 } : Room) s m [.ref (bd 0 0), .int x, .int pr, .int lb].toArray below meth c H locs (c0) (s0) Q (F0 m 117 ls [])), W p l e ({ frames := 5, cells := 0, slots := 0, locals := 113 } : Room) s m [.ref (bd 0 0), .int x, .int pr, .int lb].toArray below meth c H locs c0 s0 Q (F0 m 62 ls []) := by
  intro n
  induction n with
  | zero =>
    intro k a1 g1 hn hk0 H locs ls hC hS hl kk
    have hk1 : k = w1 0 0 := by omega
    have hkb : w1 0 0 ≤ 6 := (wNB_0 hC.1)
    have hk9 : (nI (w1 0 0)) ≤ (nI k) := by rw [hk1]; exact Int32.le_refl _
    have hw0 : wB w1 := hC.1
    refine lv_iload hx hb dX7_sell_62 (lv_at hl 0 rfl) ?_
    refine lv_aload_n hx hb dX7_sell_64 rfl (lv_at hl 2 rfl) ?_
    refine gt_m0_1 hx hb hts iX7_sell_X7 hown hB.1 hC qX7_sell_w2 dX7_sell_65 ?_
    refine m_callVi (As := []) (κ := 1) (i := 0) (show 0 < 4 by decide) rfl ⟨_, rfl⟩ rfl ⟨hx, hb, hml, hown, hts⟩ (kJx4a65c_size_8abf5 l D cy e0 (bd := bd1) (w := w1) g1 S _ 0 (show 0 < 4 by decide)) (cwV 0 hts gX7_sell_Jx4a65c_size_8abf5 rfl rfl rfl (by decide +kernel) ⟨Nat.le_of_ble_eq_true rfl, Nat.le_of_ble_eq_true rfl⟩) hB hG.2 hC hS rfl hl.1 (Nat.le_of_ble_eq_true rfl) dX7_sell_68 ⟨by dsimp only; omega, by dsimp only; omega⟩ (fun H locs hC hS => ?_)
    refine lv_icmp_ge (tgt := 117) hx hb dX7_sell_71 (by decide) (fun _ => ?_) (fun c => absurd hk9 c)
    have e9 : fX7_sell_L62 (w1 0 0) (w1 0 1) (w1 0 2) (w1 0 3) (w1 0 4) g x pr lb 0 k a1 g1 = (a1, g1) := by rw [fX7_sell_L62]
    rw [e9] at kk
    exact kk H locs ls hC hS (lv_sub hl [1, 2, 3, 4, 5] rfl)
  | succ n ih =>
    intro k a1 g1 hn hk0 H locs ls hC hS hl kk
    have hk1 : k < w1 0 0 := by omega
    have hkb : w1 0 0 ≤ 6 := (wNB_0 hC.1)
    have hk9 : ¬ (nI (w1 0 0)) ≤ (nI k) := nI_ge hk1 (by have := w0_20 hC.1 (show 0 < 4 by decide); omega)
    have hw0 : wB w1 := hC.1
    refine lv_iload hx hb dX7_sell_62 (lv_at hl 0 rfl) ?_
    refine lv_aload_n hx hb dX7_sell_64 rfl (lv_at hl 2 rfl) ?_
    refine gt_m0_1 hx hb hts iX7_sell_X7 hown hB.1 hC qX7_sell_w2 dX7_sell_65 ?_
    refine m_callVi (As := []) (κ := 1) (i := 0) (show 0 < 4 by decide) rfl ⟨_, rfl⟩ rfl ⟨hx, hb, hml, hown, hts⟩ (kJx4a65c_size_8abf5 l D cy e0 (bd := bd1) (w := w1) g1 S _ 0 (show 0 < 4 by decide)) (cwV 0 hts gX7_sell_Jx4a65c_size_8abf5 rfl rfl rfl (by decide +kernel) ⟨Nat.le_of_ble_eq_true rfl, Nat.le_of_ble_eq_true rfl⟩) hB hG.2 hC hS rfl hl.1 (Nat.le_of_ble_eq_true rfl) dX7_sell_68 ⟨by dsimp only; omega, by dsimp only; omega⟩ (fun H locs hC hS => ?_)
    refine lv_icmp_ge (tgt := 117) hx hb dX7_sell_71 (by decide) (fun c => absurd c hk9) (fun _ => ?_)
    refine lv_aload_n hx hb dX7_sell_74 rfl (lv_at hl 2 rfl) ?_
    refine lv_iload_n hx hb dX7_sell_75 rfl (lv_at hl 3 rfl) ?_
    refine lv_iload hx hb dX7_sell_76 (lv_at hl 0 rfl) ?_
    refine lv_iload_n hx hb dX7_sell_78 rfl (lv_at hl 4 rfl) ?_
    refine lv_iload_n hx hb dX7_sell_79 rfl (lv_at hl 5 rfl) ?_
    refine m_callVi (As := [.int x, .int (nI k), .int pr, .int lb]) (κ := 0) (i := 0) rfl rfl ⟨_, rfl⟩ rfl ⟨hx, hb, hml, hown, hts⟩ (kX7_share l D cy e0 (bd := bd1) (w := w1) g1 S _ x hlo (nI k) (nk_in hk1 (Nat.le_trans (w0_20 (w := w1) hw0 (show 0 < 4 by decide)) (by decide))) pr lb hk0) (cwV 4 hts gX7_sell_X7_share rfl rfl rfl (by decide +kernel) ⟨Nat.le_of_ble_eq_true rfl, Nat.le_of_ble_eq_true rfl⟩) hB hG.2 hC hS rfl hl.1 (Nat.le_of_ble_eq_true rfl) dX7_sell_80 ⟨by dsimp only; omega, by dsimp only; omega⟩ (fun H locs hC hS => ?_)
    refine lv_istore (lv' := [(6, .int (fX7_share (w1 0 0) (w1 0 1) (w1 0 2) (w1 0 3) (w1 0 4) g1 x (nI k) pr lb)), (5, .int (nI k)), (4, .int a1), (0, .ref (bd1 0 0)), (1, .int x), (2, .int pr), (3, .int lb)]) hx hb dX7_sell_83 hl (by decide) rfl (fun ls hl => ?_)
    refine lv_aload_n hx hb dX7_sell_85 rfl (lv_at hl 3 rfl) ?_
    refine gt_m0_1 hx hb hts iX7_sell_X7 hown hB.1 hC qX7_sell_w2 dX7_sell_86 ?_
    refine lv_iload hx hb dX7_sell_89 (lv_at hl 1 rfl) ?_
    refine m_callVr (As := [.int (nI k)]) (κ := 1) (i := 0) (show 0 < 4 by decide) rfl ⟨_, rfl⟩ rfl ⟨hx, hb, hml, hown, hts⟩ (kJx4a65c_get_915e3 l D cy e0 (bd := bd1) (w := w1) g1 S _ 0 (show 0 < 4 by decide) (nI k) (nk_in hk1 (Nat.le_trans (w0_20 (w := w1) hw0 (show 0 < 4 by decide)) (by decide)))) (cwV 1 hts gX7_sell_Jx4a65c_get_915e3 rfl rfl rfl (by decide +kernel) ⟨Nat.le_of_ble_eq_true rfl, Nat.le_of_ble_eq_true rfl⟩) hB hG.2 hC hS rfl hl.1 (Nat.le_of_ble_eq_true rfl) dX7_sell_91 ⟨by dsimp only; omega, by dsimp only; omega⟩ (fun H locs hC hS => ?_)
    refine m_stk (st' := [.ref (bd1 3 (100 + k))]) (by rw [(nk_clamp hk1 (Nat.le_trans (w0_20 (w := w1) hw0 (show 0 < 4 by decide)) (by decide)))] <;> rfl) ?_
    refine m_cast hx hb hown (hts _ qX7_sell_w3) hB.1 hC (rV_100 hk1) dX7_sell_94 ?_
    refine lv_iconst (v := 2) hx hb dX7_sell_97 (by decide) ?_
    refine lv_dup2_11 hx hb dX7_sell_98 rfl rfl ?_
    refine ld_m hx hb hB.1 hC (rV_100 hk1) (rl_100 hC.1 hk1) (k := 2) (by decide) (by unfold vp_in; decide) dX7_sell_99 ?_
    refine lv_iload hx hb dX7_sell_100 (lv_at hl 0 rfl) ?_
    refine lv_iadd hx hb dX7_sell_102 ?_
    refine st_m hx hb hB.1 hC hS hG.2.1 (rV_100 hk1) (rl_100 hC.1 hk1) (k := 2) (by decide) (by unfold vp_in; decide) dX7_sell_103 (fun H locs hC hS => ?_)
    refine lv_iload hx hb dX7_sell_104 (lv_at hl 2 rfl) ?_
    refine lv_iload hx hb dX7_sell_106 (lv_at hl 0 rfl) ?_
    refine lv_isub hx hb dX7_sell_108 ?_
    refine lv_istore (lv' := [(4, .int (a1 - (fX7_share (w1 0 0) (w1 0 1) (w1 0 2) (w1 0 3) (w1 0 4) g1 x (nI k) pr lb))), (6, .int (fX7_share (w1 0 0) (w1 0 1) (w1 0 2) (w1 0 3) (w1 0 4) g1 x (nI k) pr lb)), (5, .int (nI k)), (0, .ref (bd1 0 0)), (1, .int x), (2, .int pr), (3, .int lb)]) hx hb dX7_sell_109 hl (by decide) rfl (fun ls hl => ?_)
    refine lv_iinc (v := nI (k + 1)) (lv' := [(5, .int (nI (k + 1))), (4, .int (a1 - (fX7_share (w1 0 0) (w1 0 1) (w1 0 2) (w1 0 3) (w1 0 4) g1 x (nI k) pr lb))), (6, .int (fX7_share (w1 0 0) (w1 0 1) (w1 0 2) (w1 0 3) (w1 0 4) g1 x (nI k) pr lb)), (0, .ref (bd1 0 0)), (1, .int x), (2, .int pr), (3, .int lb)]) hx hb dX7_sell_111 hl (k := 2) rfl (nI_1 _) (by decide) rfl (fun ls hl => ?_)
    refine lv_goto (tgt := 62) hx hb dX7_sell_114 (by decide) ?_
    have e9 : fX7_sell_L62 (w1 0 0) (w1 0 1) (w1 0 2) (w1 0 3) (w1 0 4) g x pr lb (n + 1) k a1 g1 = fX7_sell_L62 (w1 0 0) (w1 0 1) (w1 0 2) (w1 0 3) (w1 0 4) g x pr lb n (k + 1) (a1 - (fX7_share (w1 0 0) (w1 0 1) (w1 0 2) (w1 0 3) (w1 0 4) g1 x (nI k) pr lb)) (u2 g1 (100 + k) 2 ((g1 (100 + k) 2) + (fX7_share (w1 0 0) (w1 0 1) (w1 0 2) (w1 0 3) (w1 0 4) g1 x (nI k) pr lb))) := by rw [fX7_sell_L62]
    rw [e9] at kk
    exact ih (k + 1) (a1 - (fX7_share (w1 0 0) (w1 0 1) (w1 0 2) (w1 0 3) (w1 0 4) g1 x (nI k) pr lb)) (u2 g1 (100 + k) 2 ((g1 (100 + k) 2) + (fX7_share (w1 0 0) (w1 0 1) (w1 0 2) (w1 0 3) (w1 0 4) g1 x (nI k) pr lb))) (by omega) (by rw [u2_nr (by have := vp_lt hlo; have := wNB_3 hw0; omega)]; exact hk0) H locs ls hC hS (lv_sub hl [0, 1, 3, 4, 5, 6] rfl) kk
set_option maxRecDepth 100000 in
set_option maxHeartbeats 4000000 in
theorem kX7_sell (l : Launch) (D : va_G) (cy : Nat → ClassId) (e0 : Nat) {bd w : Nat → Nat → Nat} (g : Md) (S : Int64) (sz : Nat) (x : Int32) (pr : Int32) (lb : Int32) (hp1 : ¬ ((fX7_isLot (w 0 0) (w 0 1) (w 0 2) (w 0 3) (w 0 4) (u2 g 0 20 0) x) = 0) → ¬ ((fX7_is pr 1 200) = 0) → ¬ ((fX7_canSell (w 0 0) (w 0 1) (w 0 2) (w 0 3) (w 0 4) (u2 g 0 20 0) x) = 0) → (¬ (5 * ((u2 g 0 20 0) (308 + x.toNatClampNeg) 0).toInt64) = 0)) : Met l yX7_sell wsX7_sell ({ frames := 5, cells := 0, slots := 0, locals := 113 } : Room) (va_Pc [.ref (bd 0 0), .int x, .int pr, .int lb] (mPre D cy e0 bd w g S sz)) (mQi D cy bd w (fX7_sell (w 0 0) (w 0 1) (w 0 2) (w 0 3) (w 0 4) g x pr lb).1 (fX7_sell (w 0 0) (w 0 1) (w 0 2) (w 0 3) (w 0 4) g x pr lb).2 S sz) 0 0 (mA bd w sz) := by
  refine q_start (cc := cX7_sell) (maxL := 7) (ret := (some .int)) (own := RX7) (by decide) rfl rfl (Nat.le_of_ble_eq_true rfl) ?_
  intro p e s m below meth c hx hb hr hml hts hown hlocks ⟨hsz, hC, hB⟩ ls hl
  subst hsz
  have hS : va_S (mA bd w s.heap.size) s.heap s.heap [] := va_S.rf
  have hG : mG e0 bd w s.heap.size bd w := mG.rf hB.2.2.1
  have hw0 := hC.1
  have hl : lv_has ls 7 [(0, .ref (bd 0 0)), (1, .int x), (2, .int pr), (3, .int lb)] := hl
  refine lv_aload_n hx hb dX7_sell_0 rfl (lv_at hl 0 rfl) ?_
  refine lv_iconst (v := 0) hx hb dX7_sell_1 (by decide) ?_
  refine pt_m0_0 hx hb hts iX7_sell_X7 hown hB.1 hC hS hG.2.1 qX7_sell_w1 dX7_sell_2 (fun H locs hC hS => ?_)
  refine lv_aload_n hx hb dX7_sell_5 rfl (lv_at hl 0 rfl) ?_
  refine lv_iload_n hx hb dX7_sell_6 rfl (lv_at hl 1 rfl) ?_
  refine m_callVi (As := [.int x]) (κ := 0) (i := 0) rfl rfl ⟨_, rfl⟩ rfl ⟨hx, hb, hml, hown, hts⟩ (kX7_isLot l D cy e0 (bd := bd) (w := w) (u2 g 0 20 0) S _ x ) (cwV 1 hts gX7_sell_X7_isLot rfl rfl rfl (by decide +kernel) ⟨Nat.le_of_ble_eq_true rfl, Nat.le_of_ble_eq_true rfl⟩) hB hG.2 hC hS rfl hl.1 (Nat.le_of_ble_eq_true rfl) dX7_sell_7 ⟨Nat.le_of_ble_eq_true rfl, Nat.le_of_ble_eq_true rfl⟩ (fun H locs hC hS => ?_)
  refine lv_if_ne (tgt := 19) hx hb dX7_sell_10 (by decide) (fun c1 => ?_) (fun c1 => ?_)
  · skip
    refine lv_iload_n hx hb dX7_sell_19 rfl (lv_at hl 2 rfl) ?_
    refine lv_iconst (v := 1) hx hb dX7_sell_20 (by decide) ?_
    refine lv_sipush (v := 200) hx hb dX7_sell_21 (by decide) ?_
    refine m_callSi (As := [.int pr, .int 1, .int 200])  ⟨hx, hb, hml, hown, hts⟩ (kX7_is l D cy e0 (bd := bd) (w := w) (u2 g 0 20 0) S _ pr 1 200 ) (va_cwS 3 hts gX7_sell_X7_is rfl rfl rfl (by decide +kernel) ⟨Nat.le_of_ble_eq_true rfl, Nat.le_of_ble_eq_true rfl⟩) hB hG.2 hC hS rfl hl.1 (Nat.le_of_ble_eq_true rfl) dX7_sell_24 ⟨Nat.le_of_ble_eq_true rfl, Nat.le_of_ble_eq_true rfl⟩ (fun H locs hC hS => ?_)
    refine lv_if_ne (tgt := 36) hx hb dX7_sell_27 (by decide) (fun c2 => ?_) (fun c2 => ?_)
    · skip
      refine lv_aload_n hx hb dX7_sell_36 rfl (lv_at hl 0 rfl) ?_
      refine lv_iload_n hx hb dX7_sell_37 rfl (lv_at hl 1 rfl) ?_
      refine m_callVi (As := [.int x]) (κ := 0) (i := 0) rfl rfl ⟨_, rfl⟩ rfl ⟨hx, hb, hml, hown, hts⟩ (kX7_canSell l D cy e0 (bd := bd) (w := w) (u2 g 0 20 0) S _ x (isLot_in (w := w) hw0 c1) ) (cwV 1 hts gX7_sell_X7_canSell rfl rfl rfl (by decide +kernel) ⟨Nat.le_of_ble_eq_true rfl, Nat.le_of_ble_eq_true rfl⟩) hB hG.2 hC hS rfl hl.1 (Nat.le_of_ble_eq_true rfl) dX7_sell_38 ⟨Nat.le_of_ble_eq_true rfl, Nat.le_of_ble_eq_true rfl⟩ (fun H locs hC hS => ?_)
      refine lv_if_ne (tgt := 50) hx hb dX7_sell_41 (by decide) (fun c3 => ?_) (fun c3 => ?_)
      · skip
        refine lv_aload_n hx hb dX7_sell_50 rfl (lv_at hl 0 rfl) ?_
        refine lv_iload_n hx hb dX7_sell_51 rfl (lv_at hl 1 rfl) ?_
        refine lv_iload_n hx hb dX7_sell_52 rfl (lv_at hl 2 rfl) ?_
        refine lv_iload_n hx hb dX7_sell_53 rfl (lv_at hl 3 rfl) ?_
        refine m_callVi (As := [.int x, .int pr, .int lb]) (κ := 0) (i := 0) rfl rfl ⟨_, rfl⟩ rfl ⟨hx, hb, hml, hown, hts⟩ (kX7_brings l D cy e0 (bd := bd) (w := w) (u2 g 0 20 0) S _ x (isLot_in (w := w) hw0 c1) pr lb ) (cwV 3 hts gX7_sell_X7_brings rfl rfl rfl (by decide +kernel) ⟨Nat.le_of_ble_eq_true rfl, Nat.le_of_ble_eq_true rfl⟩) hB hG.2 hC hS rfl hl.1 (Nat.le_of_ble_eq_true rfl) dX7_sell_54 ⟨Nat.le_of_ble_eq_true rfl, Nat.le_of_ble_eq_true rfl⟩ (fun H locs hC hS => ?_)
        refine lv_istore (lv' := [(4, .int (fX7_brings (w 0 0) (w 0 1) (w 0 2) (w 0 3) (w 0 4) (u2 g 0 20 0) x pr lb)), (0, .ref (bd 0 0)), (1, .int x), (2, .int pr), (3, .int lb)]) hx hb dX7_sell_57 hl (by decide) rfl (fun ls hl => ?_)
        refine lv_iconst (v := 0) hx hb dX7_sell_59 (by decide) ?_
        refine lv_istore (lv' := [(5, .int 0), (4, .int (fX7_brings (w 0 0) (w 0 1) (w 0 2) (w 0 3) (w 0 4) (u2 g 0 20 0) x pr lb)), (0, .ref (bd 0 0)), (1, .int x), (2, .int pr), (3, .int lb)]) hx hb dX7_sell_60 hl (by decide) rfl (fun ls hl => ?_)
        refine kX7_sell_L62 l D cy e0 (bd := bd) (w := w) (bd1 := bd) (w1 := w) g S x pr lb (isLot_in hw0 c1) _ _ (Nat.le_of_ble_eq_true rfl) (Nat.le_of_ble_eq_true rfl)  hx hb hr hml hts hown hlocks hB hG (w 0 0) 0 (fX7_brings (w 0 0) (w 0 1) (w 0 2) (w 0 3) (w 0 4) (u2 g 0 20 0) x pr lb) (u2 g 0 20 0) (by omega) (hp1 c1 c2 c3) _ _ ls hC hS (lv_sub hl [0, 1, 2, 3, 4, 5] rfl) (fun H locs ls hC hS hl => ?_)
        refine lv_aload_n hx hb dX7_sell_117 rfl (lv_at hl 1 rfl) ?_
        refine lv_dup hx hb dX7_sell_118 rfl ?_
        refine gt_m0_9 hx hb hts iX7_sell_X7 hown hB.1 hC qX7_sell_w4 dX7_sell_119 ?_
        refine lv_iload hx hb dX7_sell_122 (lv_at hl 0 rfl) ?_
        refine lv_iadd hx hb dX7_sell_124 ?_
        refine pt_m0_9 hx hb hts iX7_sell_X7 hown hB.1 hC hS hG.2.1 qX7_sell_w4 dX7_sell_125 (fun H locs hC hS => ?_)
        refine lv_aload_n hx hb dX7_sell_128 rfl (lv_at hl 1 rfl) ?_
        refine lv_dup hx hb dX7_sell_129 rfl ?_
        refine gt_m0_12 hx hb hts iX7_sell_X7 hown hB.1 hC qX7_sell_w5 dX7_sell_130 ?_
        refine q_val (v := ((fX7_sell_L62 (w 0 0) (w 0 1) (w 0 2) (w 0 3) (w 0 4) g x pr lb (w 0 0) 0 (fX7_brings (w 0 0) (w 0 1) (w 0 2) (w 0 3) (w 0 4) (u2 g 0 20 0) x pr lb) (u2 g 0 20 0)).2) 0 4) ((u2_nk (by decide)).trans rfl) ?_
        refine lv_aload_n hx hb dX7_sell_133 rfl (lv_at hl 1 rfl) ?_
        refine gt_m0_5 hx hb hts iX7_sell_X7 hown hB.1 hC qX7_sell_w6 dX7_sell_134 ?_
        refine lv_iload_n hx hb dX7_sell_137 rfl (lv_at hl 2 rfl) ?_
        refine m_callVr (As := [.int x]) (κ := 1) (i := 3) (show 3 < 4 by decide) rfl ⟨_, rfl⟩ rfl ⟨hx, hb, hml, hown, hts⟩ (kJx4a65c_get_915e3 l D cy e0 (bd := bd) (w := w) (u2 ((fX7_sell_L62 (w 0 0) (w 0 1) (w 0 2) (w 0 3) (w 0 4) g x pr lb (w 0 0) 0 (fX7_brings (w 0 0) (w 0 1) (w 0 2) (w 0 3) (w 0 4) (u2 g 0 20 0) x pr lb) (u2 g 0 20 0)).2) 0 1 ((((fX7_sell_L62 (w 0 0) (w 0 1) (w 0 2) (w 0 3) (w 0 4) g x pr lb (w 0 0) 0 (fX7_brings (w 0 0) (w 0 1) (w 0 2) (w 0 3) (w 0 4) (u2 g 0 20 0) x pr lb) (u2 g 0 20 0)).2) 0 1) + ((fX7_sell_L62 (w 0 0) (w 0 1) (w 0 2) (w 0 3) (w 0 4) g x pr lb (w 0 0) 0 (fX7_brings (w 0 0) (w 0 1) (w 0 2) (w 0 3) (w 0 4) (u2 g 0 20 0) x pr lb) (u2 g 0 20 0)).1))) S _ 3 (show 3 < 4 by decide) x (isLot_in (w := w) hw0 c1)) (cwV 1 hts gX7_sell_Jx4a65c_get_915e3 rfl rfl rfl (by decide +kernel) ⟨Nat.le_of_ble_eq_true rfl, Nat.le_of_ble_eq_true rfl⟩) hB hG.2 hC hS rfl hl.1 (Nat.le_of_ble_eq_true rfl) dX7_sell_138 ⟨Nat.le_of_ble_eq_true rfl, Nat.le_of_ble_eq_true rfl⟩ (fun H locs hC hS => ?_)
        refine m_stk (st' := [.ref (bd 3 (308 + x.toNatClampNeg)), .int (((fX7_sell_L62 (w 0 0) (w 0 1) (w 0 2) (w 0 3) (w 0 4) g x pr lb (w 0 0) 0 (fX7_brings (w 0 0) (w 0 1) (w 0 2) (w 0 3) (w 0 4) (u2 g 0 20 0) x pr lb) (u2 g 0 20 0)).2) 0 4), .ref (bd 0 0)]) rfl ?_
        refine m_cast hx hb hown (hts _ qX7_sell_w3) hB.1 hC (rV_308 (vp_lt (isLot_in (w := w) hw0 c1))) dX7_sell_141 ?_
        refine lv_iconst (v := 0) hx hb dX7_sell_144 (by decide) ?_
        refine ld_m hx hb hB.1 hC (rV_308 (vp_lt (isLot_in (w := w) hw0 c1))) (rl_308 hC.1 (vp_lt (isLot_in (w := w) hw0 c1))) (k := 0) (by decide) (by unfold vp_in; decide) dX7_sell_145 ?_
        refine q_val (v := ((fX7_sell_L62 (w 0 0) (w 0 1) (w 0 2) (w 0 3) (w 0 4) g x pr lb (w 0 0) 0 (fX7_brings (w 0 0) (w 0 1) (w 0 2) (w 0 3) (w 0 4) (u2 g 0 20 0) x pr lb) (u2 g 0 20 0)).2) (308 + x.toNatClampNeg) 0) ((u2_nk (by decide)).trans rfl) ?_
        refine lv_iadd hx hb dX7_sell_146 ?_
        refine pt_m0_12 hx hb hts iX7_sell_X7 hown hB.1 hC hS hG.2.1 qX7_sell_w5 dX7_sell_147 (fun H locs hC hS => ?_)
        refine lv_aload_n hx hb dX7_sell_150 rfl (lv_at hl 1 rfl) ?_
        refine gt_m0_5 hx hb hts iX7_sell_X7 hown hB.1 hC qX7_sell_w6 dX7_sell_151 ?_
        refine lv_iload_n hx hb dX7_sell_154 rfl (lv_at hl 2 rfl) ?_
        refine m_callVr (As := [.int x]) (κ := 1) (i := 3) (show 3 < 4 by decide) rfl ⟨_, rfl⟩ rfl ⟨hx, hb, hml, hown, hts⟩ (kJx4a65c_get_915e3 l D cy e0 (bd := bd) (w := w) (u2 (u2 ((fX7_sell_L62 (w 0 0) (w 0 1) (w 0 2) (w 0 3) (w 0 4) g x pr lb (w 0 0) 0 (fX7_brings (w 0 0) (w 0 1) (w 0 2) (w 0 3) (w 0 4) (u2 g 0 20 0) x pr lb) (u2 g 0 20 0)).2) 0 1 ((((fX7_sell_L62 (w 0 0) (w 0 1) (w 0 2) (w 0 3) (w 0 4) g x pr lb (w 0 0) 0 (fX7_brings (w 0 0) (w 0 1) (w 0 2) (w 0 3) (w 0 4) (u2 g 0 20 0) x pr lb) (u2 g 0 20 0)).2) 0 1) + ((fX7_sell_L62 (w 0 0) (w 0 1) (w 0 2) (w 0 3) (w 0 4) g x pr lb (w 0 0) 0 (fX7_brings (w 0 0) (w 0 1) (w 0 2) (w 0 3) (w 0 4) (u2 g 0 20 0) x pr lb) (u2 g 0 20 0)).1))) 0 4 ((((fX7_sell_L62 (w 0 0) (w 0 1) (w 0 2) (w 0 3) (w 0 4) g x pr lb (w 0 0) 0 (fX7_brings (w 0 0) (w 0 1) (w 0 2) (w 0 3) (w 0 4) (u2 g 0 20 0) x pr lb) (u2 g 0 20 0)).2) 0 4) + (((fX7_sell_L62 (w 0 0) (w 0 1) (w 0 2) (w 0 3) (w 0 4) g x pr lb (w 0 0) 0 (fX7_brings (w 0 0) (w 0 1) (w 0 2) (w 0 3) (w 0 4) (u2 g 0 20 0) x pr lb) (u2 g 0 20 0)).2) (308 + x.toNatClampNeg) 0))) S _ 3 (show 3 < 4 by decide) x (isLot_in (w := w) hw0 c1)) (cwV 1 hts gX7_sell_Jx4a65c_get_915e3 rfl rfl rfl (by decide +kernel) ⟨Nat.le_of_ble_eq_true rfl, Nat.le_of_ble_eq_true rfl⟩) hB hG.2 hC hS rfl hl.1 (Nat.le_of_ble_eq_true rfl) dX7_sell_155 ⟨Nat.le_of_ble_eq_true rfl, Nat.le_of_ble_eq_true rfl⟩ (fun H locs hC hS => ?_)
        refine m_stk (st' := [.ref (bd 3 (308 + x.toNatClampNeg))]) rfl ?_
        refine m_cast hx hb hown (hts _ qX7_sell_w3) hB.1 hC (rV_308 (vp_lt (isLot_in (w := w) hw0 c1))) dX7_sell_158 ?_
        refine lv_bipush (v := 10) hx hb dX7_sell_161 (by decide) ?_
        refine lv_iconst (v := 0) hx hb dX7_sell_163 (by decide) ?_
        refine st_m hx hb hB.1 hC hS hG.2.1 (rV_308 (vp_lt (isLot_in (w := w) hw0 c1))) (rl_308 hC.1 (vp_lt (isLot_in (w := w) hw0 c1))) (k := 10) (by decide) (by unfold vp_in; decide) dX7_sell_164 (fun H locs hC hS => ?_)
        refine lv_iload hx hb dX7_sell_165 (lv_at hl 0 rfl) ?_
        have e9 : fX7_sell (w 0 0) (w 0 1) (w 0 2) (w 0 3) (w 0 4) g x pr lb = ((fX7_sell_L62 (w 0 0) (w 0 1) (w 0 2) (w 0 3) (w 0 4) g x pr lb (w 0 0) 0 (fX7_brings (w 0 0) (w 0 1) (w 0 2) (w 0 3) (w 0 4) (u2 g 0 20 0) x pr lb) (u2 g 0 20 0)).1, (u2 (u2 (u2 ((fX7_sell_L62 (w 0 0) (w 0 1) (w 0 2) (w 0 3) (w 0 4) g x pr lb (w 0 0) 0 (fX7_brings (w 0 0) (w 0 1) (w 0 2) (w 0 3) (w 0 4) (u2 g 0 20 0) x pr lb) (u2 g 0 20 0)).2) 0 1 ((((fX7_sell_L62 (w 0 0) (w 0 1) (w 0 2) (w 0 3) (w 0 4) g x pr lb (w 0 0) 0 (fX7_brings (w 0 0) (w 0 1) (w 0 2) (w 0 3) (w 0 4) (u2 g 0 20 0) x pr lb) (u2 g 0 20 0)).2) 0 1) + ((fX7_sell_L62 (w 0 0) (w 0 1) (w 0 2) (w 0 3) (w 0 4) g x pr lb (w 0 0) 0 (fX7_brings (w 0 0) (w 0 1) (w 0 2) (w 0 3) (w 0 4) (u2 g 0 20 0) x pr lb) (u2 g 0 20 0)).1))) 0 4 ((((fX7_sell_L62 (w 0 0) (w 0 1) (w 0 2) (w 0 3) (w 0 4) g x pr lb (w 0 0) 0 (fX7_brings (w 0 0) (w 0 1) (w 0 2) (w 0 3) (w 0 4) (u2 g 0 20 0) x pr lb) (u2 g 0 20 0)).2) 0 4) + (((fX7_sell_L62 (w 0 0) (w 0 1) (w 0 2) (w 0 3) (w 0 4) g x pr lb (w 0 0) 0 (fX7_brings (w 0 0) (w 0 1) (w 0 2) (w 0 3) (w 0 4) (u2 g 0 20 0) x pr lb) (u2 g 0 20 0)).2) (308 + x.toNatClampNeg) 0))) (308 + x.toNatClampNeg) 10 0)) := (by unfold fX7_sell; rw [if_neg c1, if_neg c2, if_neg c3])
        exact m_reti hx hb hr hG hC hS (mEq_of (by rw [e9])) (by rw [e9]) hlocks dX7_sell_167
      · skip
        refine lv_aload_n hx hb dX7_sell_44 rfl (lv_at hl 0 rfl) ?_
        refine lv_iconst (v := 3) hx hb dX7_sell_45 (by decide) ?_
        refine m_callVi (As := [.int 3]) (κ := 0) (i := 0) rfl rfl ⟨_, rfl⟩ rfl ⟨hx, hb, hml, hown, hts⟩ (kX7_refuse l D cy e0 (bd := bd) (w := w) (u2 g 0 20 0) S _ 3 ) (cwV 1 hts gX7_sell_X7_refuse rfl rfl rfl (by decide +kernel) ⟨Nat.le_of_ble_eq_true rfl, Nat.le_of_ble_eq_true rfl⟩) hB hG.2 hC hS rfl hl.1 (Nat.le_of_ble_eq_true rfl) dX7_sell_46 ⟨Nat.le_of_ble_eq_true rfl, Nat.le_of_ble_eq_true rfl⟩ (fun H locs hC hS => ?_)
        have e9 : fX7_sell (w 0 0) (w 0 1) (w 0 2) (w 0 3) (w 0 4) g x pr lb = ((fX7_refuse (w 0 0) (w 0 1) (w 0 2) (w 0 3) (w 0 4) (u2 g 0 20 0) 3).1, (fX7_refuse (w 0 0) (w 0 1) (w 0 2) (w 0 3) (w 0 4) (u2 g 0 20 0) 3).2) := (by unfold fX7_sell; rw [if_neg c1, if_neg c2, if_pos c3])
        exact m_reti hx hb hr hG hC hS (mEq_of (by rw [e9])) (by rw [e9]) hlocks dX7_sell_49
    · skip
      refine lv_aload_n hx hb dX7_sell_30 rfl (lv_at hl 0 rfl) ?_
      refine lv_iconst (v := 2) hx hb dX7_sell_31 (by decide) ?_
      refine m_callVi (As := [.int 2]) (κ := 0) (i := 0) rfl rfl ⟨_, rfl⟩ rfl ⟨hx, hb, hml, hown, hts⟩ (kX7_refuse l D cy e0 (bd := bd) (w := w) (u2 g 0 20 0) S _ 2 ) (cwV 1 hts gX7_sell_X7_refuse rfl rfl rfl (by decide +kernel) ⟨Nat.le_of_ble_eq_true rfl, Nat.le_of_ble_eq_true rfl⟩) hB hG.2 hC hS rfl hl.1 (Nat.le_of_ble_eq_true rfl) dX7_sell_32 ⟨Nat.le_of_ble_eq_true rfl, Nat.le_of_ble_eq_true rfl⟩ (fun H locs hC hS => ?_)
      have e9 : fX7_sell (w 0 0) (w 0 1) (w 0 2) (w 0 3) (w 0 4) g x pr lb = ((fX7_refuse (w 0 0) (w 0 1) (w 0 2) (w 0 3) (w 0 4) (u2 g 0 20 0) 2).1, (fX7_refuse (w 0 0) (w 0 1) (w 0 2) (w 0 3) (w 0 4) (u2 g 0 20 0) 2).2) := (by unfold fX7_sell; rw [if_neg c1, if_pos c2])
      exact m_reti hx hb hr hG hC hS (mEq_of (by rw [e9])) (by rw [e9]) hlocks dX7_sell_35
  · skip
    refine lv_aload_n hx hb dX7_sell_13 rfl (lv_at hl 0 rfl) ?_
    refine lv_iconst (v := 1) hx hb dX7_sell_14 (by decide) ?_
    refine m_callVi (As := [.int 1]) (κ := 0) (i := 0) rfl rfl ⟨_, rfl⟩ rfl ⟨hx, hb, hml, hown, hts⟩ (kX7_refuse l D cy e0 (bd := bd) (w := w) (u2 g 0 20 0) S _ 1 ) (cwV 1 hts gX7_sell_X7_refuse rfl rfl rfl (by decide +kernel) ⟨Nat.le_of_ble_eq_true rfl, Nat.le_of_ble_eq_true rfl⟩) hB hG.2 hC hS rfl hl.1 (Nat.le_of_ble_eq_true rfl) dX7_sell_15 ⟨Nat.le_of_ble_eq_true rfl, Nat.le_of_ble_eq_true rfl⟩ (fun H locs hC hS => ?_)
    have e9 : fX7_sell (w 0 0) (w 0 1) (w 0 2) (w 0 3) (w 0 4) g x pr lb = ((fX7_refuse (w 0 0) (w 0 1) (w 0 2) (w 0 3) (w 0 4) (u2 g 0 20 0) 1).1, (fX7_refuse (w 0 0) (w 0 1) (w 0 2) (w 0 3) (w 0 4) (u2 g 0 20 0) 1).2) := (by unfold fX7_sell; rw [if_pos c1])
    exact m_reti hx hb hr hG hC hS (mEq_of (by rw [e9])) (by rw [e9]) hlocks dX7_sell_18
def fX7_blendOf (na nb nc nd T : Nat) (g : Md) (r : Nat) (o : Nat) : Md := fX7_come na nb nc nd (T + 1) (u2 (u2 (u2 (u2 (rz g (400 + T) (fun k => g r k)) (400 + T) 3 (fX7_mean (g r 0) (g r 3) (g o 0) (g o 3))) (400 + T) 5 (fX7_mean (g r 0) (g r 5) (g o 0) (g o 5))) (400 + T) 7 (if (g r 7) < (g o 7) then (g o 7) else (g r 7))) (400 + T) 2 (if (g r 2) < (g o 2) then (g o 2) else (g r 2))) (400 + T) o
theorem qX7_blendOf_w1 : Cond.methodLink RX7 181 ⟨"[I", "clone", "()Ljava/lang/Object;"⟩ ∈ wsX7_blendOf := List.mem_of_getElem? (i := 1) rfl
theorem qX7_blendOf_w2 : Cond.sameMethod "[I" "java/lang/Object" "clone" "()Ljava/lang/Object;" ∈ wsX7_blendOf := List.mem_of_getElem? (i := 2) rfl
theorem qX7_blendOf_w3 : Cond.native ⟨"java/lang/Object", "clone", "()Ljava/lang/Object;"⟩ ∈ wsX7_blendOf := List.mem_of_getElem? (i := 3) rfl
theorem qX7_blendOf_w4 : Cond.instanceMethod ⟨"java/lang/Object", "clone", "()Ljava/lang/Object;"⟩ ∈ wsX7_blendOf := List.mem_of_getElem? (i := 4) rfl
theorem qX7_blendOf_w5 : Cond.selects "[I" ⟨"[I", "clone", "()Ljava/lang/Object;"⟩ ⟨"java/lang/Object", "clone", "()Ljava/lang/Object;"⟩ ∈ wsX7_blendOf := List.mem_of_getElem? (i := 5) rfl
theorem qX7_blendOf_w6 : Cond.classLink RX7 72 "[I" ∈ wsX7_blendOf := List.mem_of_getElem? (i := 6) rfl
theorem qX7_blendOf_w7 : Cond.methodLink RX7 86 Lib.Math.max.name ∈ wsX7_blendOf := List.mem_of_getElem? (i := 7) rfl
theorem qX7_blendOf_w8 : Cond.static Lib.Math.max.name ∈ wsX7_blendOf := List.mem_of_getElem? (i := 8) rfl
theorem qX7_blendOf_w9 : Cond.initialized "java/lang/Math" ∈ wsX7_blendOf := List.mem_of_getElem? (i := 9) rfl
theorem qX7_blendOf_w10 : Cond.code Lib.Math.max.name Lib.Math.max.code 2 (some .int) ∈ wsX7_blendOf := List.mem_of_getElem? (i := 10) rfl
set_option maxRecDepth 100000 in
set_option maxHeartbeats 4000000 in
theorem kX7_blendOf (l : Launch) (D : va_G) (cy : Nat → ClassId) (e0 : Nat) {bd w : Nat → Nat → Nat} (g : Md) (S : Int64) (sz : Nat) (r : Nat) (hv_r : rV w r) (hn_r : rl w r = 23) (o : Nat) (hv_o : rV w o) (hn_o : rl w o = 23) (hT4 : w 0 4 + 1 ≤ 50) (hp1 : (¬ (g r 0) + (g o 0) = 0)) : Met l yX7_blendOf wsX7_blendOf ({ frames := 2, cells := 1, slots := 23, locals := 45 } : Room) (va_Pc [.ref (bd 3 r), .ref (bd 3 o)] (mPre D cy e0 bd w g S sz)) (mQn D cy bd w 23 (fX7_blendOf (w 0 0) (w 0 1) (w 0 2) (w 0 3) (w 0 4) g r o) S sz) 1 23 (mA bd w sz) := by
  refine q_start (cc := cX7_blendOf) (maxL := 3) (ret := (some (.array .int))) (own := RX7) (by decide) rfl rfl (Nat.le_of_ble_eq_true rfl) ?_
  intro p e s m below meth c hx hb hr hml hts hown hlocks ⟨hsz, hC, hB⟩ ls hl
  subst hsz
  have hS : va_S (mA bd w s.heap.size) s.heap s.heap [] := va_S.rf
  have hG : mG e0 bd w s.heap.size bd w := mG.rf hB.2.2.1
  have hw0 := hC.1
  have hl : lv_has ls 3 [(0, .ref (bd 3 r)), (1, .ref (bd 3 o))] := hl
  refine lv_aload_n hx hb dX7_blendOf_0 rfl (lv_at hl 0 rfl) ?_
  have hz9 := hS.1
  have hw9 := hC.1
  refine m_clone hx hb (hml.trans hl.1.symm) hown (hts _ qX7_blendOf_w1) (hts _ qX7_blendOf_w2) (hts _ qX7_blendOf_w3) (hts _ qX7_blendOf_w4) (hts _ qX7_blendOf_w5) (hB.2.1.1 _ (List.mem_of_getElem? (i := 22) rfl)) hB.1 hC hS hv_r hn_r (by show w 0 4 < 50; omega) (Nat.le_of_ble_eq_true rfl) (Nat.le_of_ble_eq_true rfl) ⟨Nat.le_of_ble_eq_true rfl, Nat.le_of_ble_eq_true rfl⟩ dX7_blendOf_1 (fun bd1 H hN hC hS => ?_)
  have hD9 := wN_mD (N := 23) hN.1 hN.2.1
  have hD1 := hD9
  have hG : mG e0 bd w s.heap.size bd1 (wN w 23) := hG.new hN.1 hN.2.1 hN.2.2.1 (Nat.le_trans hz9 hN.2.2.2)
  have q0 : bd1 3 r = bd 3 r := hN.1 3 r hv_r
  have q1 : bd1 3 o = bd 3 o := hN.1 3 o hv_o
  rw [← q0, ← q1] at hl
  have hv2 : rV (wN w 23) r := rV_D hD9 hv_r
  have hn3 : rl (wN w 23) r = 23 := (rl_D hD9 hw9 hv_r).trans hn_r
  have hv4 : rV (wN w 23) o := rV_D hD9 hv_o
  have hn5 : rl (wN w 23) o = 23 := (rl_D hD9 hw9 hv_o).trans hn_o
  have hv6 : rV (wN w 23) (400 + w 0 4) := rV_new
  have hn7 : rl (wN w 23) (400 + w 0 4) = 23 := rl_new
  refine m_cast hx hb hown (hts _ qX7_blendOf_w6) hB.1 hC hv6 dX7_blendOf_4 ?_
  refine lv_astore_n (lv' := [(2, .ref (bd1 3 (400 + w 0 4))), (0, .ref (bd1 3 r)), (1, .ref (bd1 3 o))]) hx hb dX7_blendOf_7 rfl hl (by decide) rfl (fun ls hl => ?_)
  refine lv_aload_n hx hb dX7_blendOf_8 rfl (lv_at hl 0 rfl) ?_
  refine lv_iconst (v := 3) hx hb dX7_blendOf_9 (by decide) ?_
  refine lv_aload_n hx hb dX7_blendOf_10 rfl (lv_at hl 1 rfl) ?_
  refine lv_iconst (v := 0) hx hb dX7_blendOf_11 (by decide) ?_
  refine ld_m hx hb hB.1 hC hv2 hn3 (k := 0) (by decide) (by unfold vp_in; decide) dX7_blendOf_12 ?_
  refine q_val (v := g r 0) (rz_nr (rV_neT hw0 hv_r)) ?_
  refine lv_aload_n hx hb dX7_blendOf_13 rfl (lv_at hl 1 rfl) ?_
  refine lv_iconst (v := 3) hx hb dX7_blendOf_14 (by decide) ?_
  refine ld_m hx hb hB.1 hC hv2 hn3 (k := 3) (by decide) (by unfold vp_in; decide) dX7_blendOf_15 ?_
  refine q_val (v := g r 3) (rz_nr (rV_neT hw0 hv_r)) ?_
  refine lv_aload_n hx hb dX7_blendOf_16 rfl (lv_at hl 2 rfl) ?_
  refine lv_iconst (v := 0) hx hb dX7_blendOf_17 (by decide) ?_
  refine ld_m hx hb hB.1 hC hv4 hn5 (k := 0) (by decide) (by unfold vp_in; decide) dX7_blendOf_18 ?_
  refine q_val (v := g o 0) (rz_nr (rV_neT hw0 hv_o)) ?_
  refine lv_aload_n hx hb dX7_blendOf_19 rfl (lv_at hl 2 rfl) ?_
  refine lv_iconst (v := 3) hx hb dX7_blendOf_20 (by decide) ?_
  refine ld_m hx hb hB.1 hC hv4 hn5 (k := 3) (by decide) (by unfold vp_in; decide) dX7_blendOf_21 ?_
  refine q_val (v := g o 3) (rz_nr (rV_neT hw0 hv_o)) ?_
  refine m_callSi (As := [.int (g r 0), .int (g r 3), .int (g o 0), .int (g o 3)])  ⟨hx, hb, hml, hown, hts⟩ (kX7_mean l D cy e0 (bd := bd1) (w := (wN w 23)) (rz g (400 + w 0 4) (fun k => g r k)) S _ (g r 0) (g r 3) (g o 0) (g o 3) hp1) (va_cwS 4 hts gX7_blendOf_X7_mean rfl rfl rfl (by decide +kernel) ⟨Nat.le_of_ble_eq_true rfl, Nat.le_of_ble_eq_true rfl⟩) hB hG.2 hC hS rfl hl.1 (Nat.le_of_ble_eq_true rfl) dX7_blendOf_22 ⟨Nat.le_of_ble_eq_true rfl, Nat.le_of_ble_eq_true rfl⟩ (fun H locs hC hS => ?_)
  refine st_m hx hb hB.1 hC hS hG.2.1 hv6 hn7 (k := 3) (by decide) (by unfold vp_in; decide) dX7_blendOf_25 (fun H locs hC hS => ?_)
  refine lv_aload_n hx hb dX7_blendOf_26 rfl (lv_at hl 0 rfl) ?_
  refine lv_iconst (v := 5) hx hb dX7_blendOf_27 (by decide) ?_
  refine lv_aload_n hx hb dX7_blendOf_28 rfl (lv_at hl 1 rfl) ?_
  refine lv_iconst (v := 0) hx hb dX7_blendOf_29 (by decide) ?_
  refine ld_m hx hb hB.1 hC hv2 hn3 (k := 0) (by decide) (by unfold vp_in; decide) dX7_blendOf_30 ?_
  refine q_val (v := g r 0) ((u2_nk (by decide)).trans (rz_nr (rV_neT hw0 hv_r))) ?_
  refine lv_aload_n hx hb dX7_blendOf_31 rfl (lv_at hl 1 rfl) ?_
  refine lv_iconst (v := 5) hx hb dX7_blendOf_32 (by decide) ?_
  refine ld_m hx hb hB.1 hC hv2 hn3 (k := 5) (by decide) (by unfold vp_in; decide) dX7_blendOf_33 ?_
  refine q_val (v := g r 5) ((u2_nk (by decide)).trans (rz_nr (rV_neT hw0 hv_r))) ?_
  refine lv_aload_n hx hb dX7_blendOf_34 rfl (lv_at hl 2 rfl) ?_
  refine lv_iconst (v := 0) hx hb dX7_blendOf_35 (by decide) ?_
  refine ld_m hx hb hB.1 hC hv4 hn5 (k := 0) (by decide) (by unfold vp_in; decide) dX7_blendOf_36 ?_
  refine q_val (v := g o 0) ((u2_nk (by decide)).trans (rz_nr (rV_neT hw0 hv_o))) ?_
  refine lv_aload_n hx hb dX7_blendOf_37 rfl (lv_at hl 2 rfl) ?_
  refine lv_iconst (v := 5) hx hb dX7_blendOf_38 (by decide) ?_
  refine ld_m hx hb hB.1 hC hv4 hn5 (k := 5) (by decide) (by unfold vp_in; decide) dX7_blendOf_39 ?_
  refine q_val (v := g o 5) ((u2_nk (by decide)).trans (rz_nr (rV_neT hw0 hv_o))) ?_
  refine m_callSi (As := [.int (g r 0), .int (g r 5), .int (g o 0), .int (g o 5)])  ⟨hx, hb, hml, hown, hts⟩ (kX7_mean l D cy e0 (bd := bd1) (w := (wN w 23)) (u2 (rz g (400 + w 0 4) (fun k => g r k)) (400 + w 0 4) 3 (fX7_mean (g r 0) (g r 3) (g o 0) (g o 3))) S _ (g r 0) (g r 5) (g o 0) (g o 5) hp1) (va_cwS 4 hts gX7_blendOf_X7_mean rfl rfl rfl (by decide +kernel) ⟨Nat.le_of_ble_eq_true rfl, Nat.le_of_ble_eq_true rfl⟩) hB hG.2 hC hS rfl hl.1 (Nat.le_of_ble_eq_true rfl) dX7_blendOf_40 ⟨Nat.le_of_ble_eq_true rfl, Nat.le_of_ble_eq_true rfl⟩ (fun H locs hC hS => ?_)
  refine st_m hx hb hB.1 hC hS hG.2.1 hv6 hn7 (k := 5) (by decide) (by unfold vp_in; decide) dX7_blendOf_43 (fun H locs hC hS => ?_)
  refine lv_aload_n hx hb dX7_blendOf_44 rfl (lv_at hl 0 rfl) ?_
  refine lv_bipush (v := 7) hx hb dX7_blendOf_45 (by decide) ?_
  refine lv_aload_n hx hb dX7_blendOf_47 rfl (lv_at hl 1 rfl) ?_
  refine lv_bipush (v := 7) hx hb dX7_blendOf_48 (by decide) ?_
  refine ld_m hx hb hB.1 hC hv2 hn3 (k := 7) (by decide) (by unfold vp_in; decide) dX7_blendOf_50 ?_
  refine q_val (v := g r 7) ((u2_nk (by decide)).trans ((u2_nk (by decide)).trans (rz_nr (rV_neT hw0 hv_r)))) ?_
  refine lv_aload_n hx hb dX7_blendOf_51 rfl (lv_at hl 2 rfl) ?_
  refine lv_bipush (v := 7) hx hb dX7_blendOf_52 (by decide) ?_
  refine ld_m hx hb hB.1 hC hv4 hn5 (k := 7) (by decide) (by unfold vp_in; decide) dX7_blendOf_54 ?_
  refine q_val (v := g o 7) ((u2_nk (by decide)).trans ((u2_nk (by decide)).trans (rz_nr (rV_neT hw0 hv_o)))) ?_
  refine va_mmax hx hb (hml.trans hl.1.symm) hown (hts _ qX7_blendOf_w7) (hts _ qX7_blendOf_w8) (hts _ qX7_blendOf_w9) (hts _ qX7_blendOf_w10) (Nat.le_of_ble_eq_true rfl) (Nat.le_of_ble_eq_true rfl) (Nat.le_of_ble_eq_true rfl) (Nat.le_of_ble_eq_true rfl) dX7_blendOf_55 ?_
  refine st_m hx hb hB.1 hC hS hG.2.1 hv6 hn7 (k := 7) (by decide) (by unfold vp_in; decide) dX7_blendOf_58 (fun H locs hC hS => ?_)
  refine lv_aload_n hx hb dX7_blendOf_59 rfl (lv_at hl 0 rfl) ?_
  refine lv_iconst (v := 2) hx hb dX7_blendOf_60 (by decide) ?_
  refine lv_aload_n hx hb dX7_blendOf_61 rfl (lv_at hl 1 rfl) ?_
  refine lv_iconst (v := 2) hx hb dX7_blendOf_62 (by decide) ?_
  refine ld_m hx hb hB.1 hC hv2 hn3 (k := 2) (by decide) (by unfold vp_in; decide) dX7_blendOf_63 ?_
  refine q_val (v := g r 2) ((u2_nk (by decide)).trans ((u2_nk (by decide)).trans ((u2_nk (by decide)).trans (rz_nr (rV_neT hw0 hv_r))))) ?_
  refine lv_aload_n hx hb dX7_blendOf_64 rfl (lv_at hl 2 rfl) ?_
  refine lv_iconst (v := 2) hx hb dX7_blendOf_65 (by decide) ?_
  refine ld_m hx hb hB.1 hC hv4 hn5 (k := 2) (by decide) (by unfold vp_in; decide) dX7_blendOf_66 ?_
  refine q_val (v := g o 2) ((u2_nk (by decide)).trans ((u2_nk (by decide)).trans ((u2_nk (by decide)).trans (rz_nr (rV_neT hw0 hv_o))))) ?_
  refine va_mmax hx hb (hml.trans hl.1.symm) hown (hts _ qX7_blendOf_w7) (hts _ qX7_blendOf_w8) (hts _ qX7_blendOf_w9) (hts _ qX7_blendOf_w10) (Nat.le_of_ble_eq_true rfl) (Nat.le_of_ble_eq_true rfl) (Nat.le_of_ble_eq_true rfl) (Nat.le_of_ble_eq_true rfl) dX7_blendOf_67 ?_
  refine st_m hx hb hB.1 hC hS hG.2.1 hv6 hn7 (k := 2) (by decide) (by unfold vp_in; decide) dX7_blendOf_70 (fun H locs hC hS => ?_)
  refine lv_aload_n hx hb dX7_blendOf_71 rfl (lv_at hl 0 rfl) ?_
  refine lv_aload_n hx hb dX7_blendOf_72 rfl (lv_at hl 2 rfl) ?_
  refine m_callSv (As := [.ref (bd1 3 (400 + w 0 4)), .ref (bd1 3 o)])  ⟨hx, hb, hml, hown, hts⟩ (kX7_come l D cy e0 (bd := bd1) (w := (wN w 23)) (u2 (u2 (u2 (u2 (rz g (400 + w 0 4) (fun k => g r k)) (400 + w 0 4) 3 (fX7_mean (g r 0) (g r 3) (g o 0) (g o 3))) (400 + w 0 4) 5 (fX7_mean (g r 0) (g r 5) (g o 0) (g o 5))) (400 + w 0 4) 7 (if (g r 7) < (g o 7) then (g o 7) else (g r 7))) (400 + w 0 4) 2 (if (g r 2) < (g o 2) then (g o 2) else (g r 2))) S _ (400 + w 0 4) hv6 hn7 o hv4 hn5 (by rw [(show (u2 (u2 (u2 (u2 (rz g (400 + w 0 4) (fun k => g r k)) (400 + w 0 4) 3 (fX7_mean (g r 0) (g r 3) (g o 0) (g o 3))) (400 + w 0 4) 5 (fX7_mean (g r 0) (g r 5) (g o 0) (g o 5))) (400 + w 0 4) 7 (if (g r 7) < (g o 7) then (g o 7) else (g r 7))) (400 + w 0 4) 2 (if (g r 2) < (g o 2) then (g o 2) else (g r 2))) (400 + w 0 4) 0 = g r 0 from ((u2_nk (by decide)).trans ((u2_nk (by decide)).trans ((u2_nk (by decide)).trans ((u2_nk (by decide)).trans (rz_eq _ _ _ _)))))), (show (u2 (u2 (u2 (u2 (rz g (400 + w 0 4) (fun k => g r k)) (400 + w 0 4) 3 (fX7_mean (g r 0) (g r 3) (g o 0) (g o 3))) (400 + w 0 4) 5 (fX7_mean (g r 0) (g r 5) (g o 0) (g o 5))) (400 + w 0 4) 7 (if (g r 7) < (g o 7) then (g o 7) else (g r 7))) (400 + w 0 4) 2 (if (g r 2) < (g o 2) then (g o 2) else (g r 2))) o 0 = g o 0 from ((u2_nk (by decide)).trans ((u2_nk (by decide)).trans ((u2_nk (by decide)).trans ((u2_nk (by decide)).trans (rz_nr (rV_neT hw0 hv_o)))))))]; exact hp1)) (va_cwS 2 hts gX7_blendOf_X7_come rfl rfl rfl (by decide +kernel) ⟨Nat.le_of_ble_eq_true rfl, Nat.le_of_ble_eq_true rfl⟩) hB hG.2 hC hS rfl hl.1 (Nat.le_of_ble_eq_true rfl) dX7_blendOf_73 ⟨Nat.le_of_ble_eq_true rfl, Nat.le_of_ble_eq_true rfl⟩ (fun H locs hC hS => ?_)
  have hC : MW D cy bd1 (wN w 23) (fX7_come (w 0 0) (w 0 1) (w 0 2) (w 0 3) (w 0 4 + 1) (u2 (u2 (u2 (u2 (rz g (400 + w 0 4) (fun k => g r k)) (400 + w 0 4) 3 (fX7_mean (g r 0) (g r 3) (g o 0) (g o 3))) (400 + w 0 4) 5 (fX7_mean (g r 0) (g r 5) (g o 0) (g o 5))) (400 + w 0 4) 7 (if (g r 7) < (g o 7) then (g o 7) else (g r 7))) (400 + w 0 4) 2 (if (g r 2) < (g o 2) then (g o 2) else (g r 2))) (400 + w 0 4) o) S H := hC
  refine lv_aload_n hx hb dX7_blendOf_76 rfl (lv_at hl 0 rfl) ?_
  refine W.widen (k := 1) (n := 23) (Nat.le_of_ble_eq_true rfl) (Nat.le_of_ble_eq_true rfl) ?_
  exact m_retn hx hb ⟨hN.1, hN.2.1, rfl, (by rw [hN.2.2.1]; exact Nat.le_trans hz9 hN.2.2.2)⟩ hC hS rfl hr (Or.inr ⟨_, rfl⟩) hlocks dX7_blendOf_77
