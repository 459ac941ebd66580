def fX1_takes (g : Gd) (i : Nat) (x : Int32) : Int32 := if (fX4_isEmpty (g 3 (3 + i) 0)) = 0 then (0) else (if (12 * (g 3 (3 + i) 8)) < x then (0) else (1))
theorem qX1_takes_w1 : Cond.fieldLink RX1 12 "CherryStation$Bed" "mix" "LCherryStation$Mix;" ∈ wsX1_takes := List.mem_of_getElem? (i := 1) rfl
theorem qX1_takes_w2 : Cond.fieldLink RX1 18 "CherryStation$Bed" "area" "I" ∈ wsX1_takes := List.mem_of_getElem? (i := 2) rfl
theorem iX1_takes_X1 : ∀ w ∈ wsX10, w ∈ wsX1_takes := fun _ h => (List.mem_cons_of_mem _ (List.mem_append_left _ (List.mem_append_right _ h)))
set_option maxRecDepth 100000 in
set_option maxHeartbeats 4000000 in
theorem kX1_takes (l : Launch) (D : va_G) (cy : Nat → ClassId) {ad : Nat → Nat → Nat} (hI : cI ad) (g : Gd) (sz : Nat) (i : Nat) (hrow_i : i < 5) (x : Int32) : Met l yX1_takes wsX1_takes ({ frames := 1, cells := 0, slots := 0, locals := 20 } : Room) (va_Pc [.ref (ad 4 i), .int x] (cPre D cy ad g sz)) (cQi D cy ad (fX1_takes g i x) g sz) 0 0 (cA ad sz) := by
  refine q_start (cc := cX1_takes) (maxL := 2) (ret := (some .boolean)) (own := RX1) (by decide) rfl rfl (Nat.le_of_ble_eq_true rfl) ?_
  intro p e s m below meth c hx hb hr hml hts hown hlocks ⟨hsz, hC, hB⟩ ls hl
  subst hsz
  have hS : va_S (cA ad s.heap.size) s.heap s.heap [] := va_S.rf
  have hA : ∀ κ i : Nat, cV κ i → cA ad s.heap.size (ad κ i) := fun κ i h => Or.inl ⟨κ, i, h, rfl⟩
  have hl : lv_has ls 2 [(0, .ref (ad 4 i)), (1, .int x)] := hl
  refine lv_aload_n hx hb dX1_takes_0 rfl (lv_at hl 0 rfl) ?_
  refine gt_4_0 hx hb hts iX1_takes_X1 hown hB.1 hC hrow_i qX1_takes_w1 dX1_takes_1 ?_
  refine q_callVi (As := []) (κ := 6) (i := 3 + i) (show (3 + i) < 21 from (by omega)) rfl ⟨_, rfl⟩ rfl ⟨hx, hb, hml, hown, hts⟩ (kX4_isEmpty l D cy hI g _ (3 + i) (by omega)  ) (cwV 0 hts gX1_takes_X4_isEmpty rfl rfl rfl (by decide +kernel) ⟨Nat.le_of_ble_eq_true rfl, Nat.le_of_ble_eq_true rfl⟩) hB hC hS rfl hl.1 (Nat.le_of_ble_eq_true rfl) dX1_takes_4 ⟨Nat.le_of_ble_eq_true rfl, Nat.le_of_ble_eq_true rfl⟩ (fun H locs hC hS => ?_)
  refine lv_if_eq (tgt := 25) hx hb dX1_takes_7 (by decide) (fun c1 => ?_) (fun c1 => ?_)
  · skip
    refine lv_iconst (v := 0) hx hb dX1_takes_25 (by decide) ?_
    exact q_retz hx hb hr hB hC hS rfl (by unfold fX1_takes; rw [if_pos c1]) rfl hlocks dX1_takes_26
  · skip
    refine lv_bipush (v := 12) hx hb dX1_takes_10 (by decide) ?_
    refine lv_aload_n hx hb dX1_takes_12 rfl (lv_at hl 0 rfl) ?_
    refine gt_4_1 hx hb hts iX1_takes_X1 hown hB.1 hC hrow_i qX1_takes_w2 dX1_takes_13 ?_
    refine lv_imul hx hb dX1_takes_16 ?_
    refine lv_iload_n hx hb dX1_takes_17 rfl (lv_at hl 1 rfl) ?_
    refine lv_icmp_lt (tgt := 25) hx hb dX1_takes_18 (by decide) (fun c2 => ?_) (fun c2 => ?_)
    · skip
      refine lv_iconst (v := 0) hx hb dX1_takes_25 (by decide) ?_
      exact q_retz hx hb hr hB hC hS rfl (by unfold fX1_takes; rw [if_neg c1, if_pos c2]) rfl hlocks dX1_takes_26
    · skip
      refine lv_iconst (v := 1) hx hb dX1_takes_21 (by decide) ?_
      refine lv_goto (tgt := 26) hx hb dX1_takes_22 (by decide) ?_
      exact q_retz hx hb hr hB hC hS rfl (by unfold fX1_takes; rw [if_neg c1, if_neg c2]) rfl hlocks dX1_takes_26
def fX1_begin (g : Gd) (i : Nat) (x : Int32) (y : Int32) (z : Int32) : Gd := (up (up (up (up (up g 3 (3 + i) 4 x) 3 (3 + i) 5 y) 3 (3 + i) 3 z) 3 (3 + i) 6 0) 3 (3 + i) 7 0)
theorem qX1_begin_w1 : Cond.fieldLink RX1 26 "CherryStation$Bed" "method" "I" ∈ wsX1_begin := List.mem_of_getElem? (i := 1) rfl
theorem qX1_begin_w2 : Cond.fieldLink RX1 29 "CherryStation$Bed" "moisture" "I" ∈ wsX1_begin := List.mem_of_getElem? (i := 2) rfl
theorem qX1_begin_w3 : Cond.fieldLink RX1 38 "CherryStation$Bed" "points" "I" ∈ wsX1_begin := List.mem_of_getElem? (i := 3) rfl
theorem qX1_begin_w4 : Cond.fieldLink RX1 32 "CherryStation$Bed" "unturned" "I" ∈ wsX1_begin := List.mem_of_getElem? (i := 4) rfl
theorem qX1_begin_w5 : Cond.fieldLink RX1 35 "CherryStation$Bed" "mould" "I" ∈ wsX1_begin := List.mem_of_getElem? (i := 5) rfl
theorem iX1_begin_X1 : ∀ w ∈ wsX10, w ∈ wsX1_begin := fun _ h => (List.mem_cons_of_mem _ (List.mem_append_right _ h))
set_option maxRecDepth 100000 in
set_option maxHeartbeats 4000000 in
theorem kX1_begin (l : Launch) (D : va_G) (cy : Nat → ClassId) {ad : Nat → Nat → Nat} (hI : cI ad) (g : Gd) (sz : Nat) (i : Nat) (hrow_i : i < 5) (x : Int32) (y : Int32) (z : Int32) : Met l yX1_begin wsX1_begin ({ frames := 0, cells := 0, slots := 0, locals := 0 } : Room) (va_Pc [.ref (ad 4 i), .int x, .int y, .int z] (cPre D cy ad g sz)) (cQv D cy ad (fX1_begin g i x y z) sz) 0 0 (cA ad sz) := by
  refine q_start (cc := cX1_begin) (maxL := 4) (ret := none) (own := RX1) (by decide) rfl rfl (Nat.le_of_ble_eq_true rfl) ?_
  intro p e s m below meth c hx hb hr hml hts hown hlocks ⟨hsz, hC, hB⟩ ls hl
  subst hsz
  have hS : va_S (cA ad s.heap.size) s.heap s.heap [] := va_S.rf
  have hA : ∀ κ i : Nat, cV κ i → cA ad s.heap.size (ad κ i) := fun κ i h => Or.inl ⟨κ, i, h, rfl⟩
  have hl : lv_has ls 4 [(0, .ref (ad 4 i)), (1, .int x), (2, .int y), (3, .int z)] := hl
  refine lv_aload_n hx hb dX1_begin_0 rfl (lv_at hl 0 rfl) ?_
  refine lv_iload_n hx hb dX1_begin_1 rfl (lv_at hl 1 rfl) ?_
  refine pt_4_3 hx hb hts iX1_begin_X1 hown hB.1 hC hI hS hA hrow_i qX1_begin_w1 dX1_begin_2 (fun H locs hC hS => ?_)
  refine lv_aload_n hx hb dX1_begin_5 rfl (lv_at hl 0 rfl) ?_
  refine lv_iload_n hx hb dX1_begin_6 rfl (lv_at hl 2 rfl) ?_
  refine pt_4_4 hx hb hts iX1_begin_X1 hown hB.1 hC hI hS hA hrow_i qX1_begin_w2 dX1_begin_7 (fun H locs hC hS => ?_)
  refine lv_aload_n hx hb dX1_begin_10 rfl (lv_at hl 0 rfl) ?_
  refine lv_iload_n hx hb dX1_begin_11 rfl (lv_at hl 3 rfl) ?_
  refine pt_4_7 hx hb hts iX1_begin_X1 hown hB.1 hC hI hS hA hrow_i qX1_begin_w3 dX1_begin_12 (fun H locs hC hS => ?_)
  refine lv_aload_n hx hb dX1_begin_15 rfl (lv_at hl 0 rfl) ?_
  refine lv_iconst (v := 0) hx hb dX1_begin_16 (by decide) ?_
  refine pt_4_5 hx hb hts iX1_begin_X1 hown hB.1 hC hI hS hA hrow_i qX1_begin_w4 dX1_begin_17 (fun H locs hC hS => ?_)
  refine lv_aload_n hx hb dX1_begin_20 rfl (lv_at hl 0 rfl) ?_
  refine lv_iconst (v := 0) hx hb dX1_begin_21 (by decide) ?_
  refine pt_4_6 hx hb hts iX1_begin_X1 hown hB.1 hC hI hS hA hrow_i qX1_begin_w5 dX1_begin_22 (fun H locs hC hS => ?_)
  exact q_retv hx hb hr hB hC hS rfl hlocks dX1_begin_25
def fX1_empty (g : Gd) (i : Nat) : Gd := fX1_begin (fX4_clear g (3 + i)) i 0 0 0
theorem qX1_empty_w1 : Cond.fieldLink RX1 12 "CherryStation$Bed" "mix" "LCherryStation$Mix;" ∈ wsX1_empty := List.mem_of_getElem? (i := 1) rfl
theorem iX1_empty_X1 : ∀ w ∈ wsX10, w ∈ wsX1_empty := fun _ h => (List.mem_cons_of_mem _ (List.mem_append_left _ (List.mem_append_right _ h)))
set_option maxRecDepth 100000 in
set_option maxHeartbeats 4000000 in
theorem kX1_empty (l : Launch) (D : va_G) (cy : Nat → ClassId) {ad : Nat → Nat → Nat} (hI : cI ad) (g : Gd) (sz : Nat) (i : Nat) (hrow_i : i < 5) : Met l yX1_empty wsX1_empty ({ frames := 1, cells := 0, slots := 0, locals := 23 } : Room) (va_Pc [.ref (ad 4 i)] (cPre D cy ad g sz)) (cQv D cy ad (fX1_empty g i) sz) 0 0 (cA ad sz) := by
  refine q_start (cc := cX1_empty) (maxL := 1) (ret := none) (own := RX1) (by decide) rfl rfl (Nat.le_of_ble_eq_true rfl) ?_
  intro p e s m below meth c hx hb hr hml hts hown hlocks ⟨hsz, hC, hB⟩ ls hl
  subst hsz
  have hS : va_S (cA ad s.heap.size) s.heap s.heap [] := va_S.rf
  have hA : ∀ κ i : Nat, cV κ i → cA ad s.heap.size (ad κ i) := fun κ i h => Or.inl ⟨κ, i, h, rfl⟩
  have hl : lv_has ls 1 [(0, .ref (ad 4 i))] := hl
  refine lv_aload_n hx hb dX1_empty_0 rfl (lv_at hl 0 rfl) ?_
  refine gt_4_0 hx hb hts iX1_empty_X1 hown hB.1 hC hrow_i qX1_empty_w1 dX1_empty_1 ?_
  refine q_callVv (As := []) (κ := 6) (i := 3 + i) (show (3 + i) < 21 from (by omega)) rfl ⟨_, rfl⟩ rfl ⟨hx, hb, hml, hown, hts⟩ (kX4_clear l D cy hI g _ (3 + i) (by omega)  ) (cwV 0 hts gX1_empty_X4_clear rfl rfl rfl (by decide +kernel) ⟨Nat.le_of_ble_eq_true rfl, Nat.le_of_ble_eq_true rfl⟩) hB hC hS rfl hl.1 (Nat.le_of_ble_eq_true rfl) dX1_empty_4 ⟨Nat.le_of_ble_eq_true rfl, Nat.le_of_ble_eq_true rfl⟩ (fun H locs hC hS => ?_)
  refine lv_aload_n hx hb dX1_empty_7 rfl (lv_at hl 0 rfl) ?_
  refine lv_iconst (v := 0) hx hb dX1_empty_8 (by decide) ?_
  refine lv_iconst (v := 0) hx hb dX1_empty_9 (by decide) ?_
  refine lv_iconst (v := 0) hx hb dX1_empty_10 (by decide) ?_
  refine q_callVv (As := [.int 0, .int 0, .int 0]) (κ := 4) (i := i) (show i < 5 from hrow_i) rfl ⟨_, rfl⟩ rfl ⟨hx, hb, hml, hown, hts⟩ (kX1_begin l D cy hI (fX4_clear g (3 + i)) _ i hrow_i 0 0 0 ) (cwV 3 hts gX1_empty_X1_begin rfl rfl rfl (by decide +kernel) ⟨Nat.le_of_ble_eq_true rfl, Nat.le_of_ble_eq_true rfl⟩) hB hC hS rfl hl.1 (Nat.le_of_ble_eq_true rfl) dX1_empty_11 ⟨Nat.le_of_ble_eq_true rfl, Nat.le_of_ble_eq_true rfl⟩ (fun H locs hC hS => ?_)
  exact q_retv hx hb hr hB hC hS rfl hlocks dX1_empty_14
def fX1_depth (g : Gd) (i : Nat) : Int32 := if (g 3 (3 + i) 8) ≤ 0 then (0) else ((g 3 (3 + i) 0) / (g 3 (3 + i) 8))
theorem qX1_depth_w1 : Cond.fieldLink RX1 18 "CherryStation$Bed" "area" "I" ∈ wsX1_depth := List.mem_of_getElem? (i := 1) rfl
theorem qX1_depth_w2 : Cond.fieldLink RX1 12 "CherryStation$Bed" "mix" "LCherryStation$Mix;" ∈ wsX1_depth := List.mem_of_getElem? (i := 2) rfl
theorem qX1_depth_w3 : Cond.fieldLink RX1 69 "CherryStation$Mix" "kilos" "I" ∈ wsX1_depth := List.mem_of_getElem? (i := 3) rfl
theorem iX1_depth_X1 : ∀ w ∈ wsX10, w ∈ wsX1_depth := fun _ h => (List.mem_cons_of_mem _ (List.mem_append_left _ (List.mem_append_right _ h)))
theorem iX1_depth_X4 : ∀ w ∈ wsX40, w ∈ wsX1_depth := fun _ h => (List.mem_cons_of_mem _ (List.mem_append_right _ h))
set_option maxRecDepth 100000 in
set_option maxHeartbeats 4000000 in
theorem kX1_depth (l : Launch) (D : va_G) (cy : Nat → ClassId) {ad : Nat → Nat → Nat} (hI : cI ad) (g : Gd) (sz : Nat) (i : Nat) (hrow_i : i < 5) : Met l yX1_depth wsX1_depth ({ frames := 0, cells := 0, slots := 0, locals := 0 } : Room) (va_Pc [.ref (ad 4 i)] (cPre D cy ad g sz)) (cQi D cy ad (fX1_depth g i) g sz) 0 0 (cA ad sz) := by
  refine q_start (cc := cX1_depth) (maxL := 1) (ret := (some .int)) (own := RX1) (by decide) rfl rfl (Nat.le_of_ble_eq_true rfl) ?_
  intro p e s m below meth c hx hb hr hml hts hown hlocks ⟨hsz, hC, hB⟩ ls hl
  subst hsz
  have hS : va_S (cA ad s.heap.size) s.heap s.heap [] := va_S.rf
  have hA : ∀ κ i : Nat, cV κ i → cA ad s.heap.size (ad κ i) := fun κ i h => Or.inl ⟨κ, i, h, rfl⟩
  have hl : lv_has ls 1 [(0, .ref (ad 4 i))] := hl
  refine lv_aload_n hx hb dX1_depth_0 rfl (lv_at hl 0 rfl) ?_
  refine gt_4_1 hx hb hts iX1_depth_X1 hown hB.1 hC hrow_i qX1_depth_w1 dX1_depth_1 ?_
  refine lv_if_le (tgt := 22) hx hb dX1_depth_4 (by decide) (fun c1 => ?_) (fun c1 => ?_)
  · skip
    refine lv_iconst (v := 0) hx hb dX1_depth_22 (by decide) ?_
    exact q_reti hx hb hr hB hC hS rfl (by unfold fX1_depth; rw [if_pos c1]) hlocks dX1_depth_23
  · skip
    refine lv_aload_n hx hb dX1_depth_7 rfl (lv_at hl 0 rfl) ?_
    refine gt_4_0 hx hb hts iX1_depth_X1 hown hB.1 hC hrow_i qX1_depth_w2 dX1_depth_8 ?_
    refine gt_6_2 hx hb hts iX1_depth_X4 hown hB.1 hC (by omega) qX1_depth_w3 dX1_depth_11 ?_
    refine lv_aload_n hx hb dX1_depth_14 rfl (lv_at hl 0 rfl) ?_
    refine gt_4_1 hx hb hts iX1_depth_X1 hown hB.1 hC hrow_i qX1_depth_w1 dX1_depth_15 ?_
    refine lv_idiv hx hb dX1_depth_18 (fun h => c1 (by rw [h]; decide)) ?_
    refine lv_goto (tgt := 23) hx hb dX1_depth_19 (by decide) ?_
    exact q_reti hx hb hr hB hC hS rfl (by unfold fX1_depth; rw [if_neg c1]) hlocks dX1_depth_23
def fX1_driedFrom (g : Gd) (i : Nat) (x : Int32) (tm : Int32) (wm : Int32) : Int32 := if (tm - tm / 24 * 24) < 8 then (x) else (if (tm - tm / 24 * 24) ≤ 17 then (if (g 3 (3 + i) 9) = 0 then (if 80 < (x - ((wm * 10) / (10 + (fX1_depth g i)))) then (x - ((wm * 10) / (10 + (fX1_depth g i)))) else 80) else (if 80 < (x - (((wm * 10) / (10 + (fX1_depth g i))) / 4)) then (x - (((wm * 10) / (10 + (fX1_depth g i))) / 4)) else 80)) else (x))
theorem qX1_driedFrom_w1 : Cond.fieldLink RX1 22 "CherryStation$Bed" "isCovered" "Z" ∈ wsX1_driedFrom := List.mem_of_getElem? (i := 1) rfl
theorem qX1_driedFrom_w2 : Cond.methodLink RX1 66 Lib.Math.max.name ∈ wsX1_driedFrom := List.mem_of_getElem? (i := 2) rfl
theorem qX1_driedFrom_w3 : Cond.static Lib.Math.max.name ∈ wsX1_driedFrom := List.mem_of_getElem? (i := 3) rfl
theorem qX1_driedFrom_w4 : Cond.initialized "java/lang/Math" ∈ wsX1_driedFrom := List.mem_of_getElem? (i := 4) rfl
theorem qX1_driedFrom_w5 : Cond.code Lib.Math.max.name Lib.Math.max.code 2 (some .int) ∈ wsX1_driedFrom := List.mem_of_getElem? (i := 5) rfl
theorem iX1_driedFrom_X1 : ∀ w ∈ wsX10, w ∈ wsX1_driedFrom := fun _ h => (List.mem_cons_of_mem _ (List.mem_append_left _ (List.mem_append_right _ h)))
set_option maxRecDepth 100000 in
set_option maxHeartbeats 4000000 in
theorem kX1_driedFrom (l : Launch) (D : va_G) (cy : Nat → ClassId) {ad : Nat → Nat → Nat} (hI : cI ad) (g : Gd) (sz : Nat) (i : Nat) (hrow_i : i < 5) (x : Int32) (tm : Int32) (wm : Int32) (hd : ¬ 10 + fX1_depth g i = 0) : Met l yX1_driedFrom wsX1_driedFrom ({ frames := 1, cells := 0, slots := 0, locals := 20 } : Room) (va_Pc [.ref (ad 4 i), .int x, .int tm, .int wm] (cPre D cy ad g sz)) (cQi D cy ad (fX1_driedFrom g i x tm wm) g sz) 0 0 (cA ad sz) := by
  refine q_start (cc := cX1_driedFrom) (maxL := 6) (ret := (some .int)) (own := RX1) (by decide) rfl rfl (Nat.le_of_ble_eq_true rfl) ?_
  intro p e s m below meth c hx hb hr hml hts hown hlocks ⟨hsz, hC, hB⟩ ls hl
  subst hsz
  have hS : va_S (cA ad s.heap.size) s.heap s.heap [] := va_S.rf
  have hA : ∀ κ i : Nat, cV κ i → cA ad s.heap.size (ad κ i) := fun κ i h => Or.inl ⟨κ, i, h, rfl⟩
  have hl : lv_has ls 6 [(0, .ref (ad 4 i)), (1, .int x), (2, .int tm), (3, .int wm)] := hl
  refine lv_iload_n hx hb dX1_driedFrom_0 rfl (lv_at hl 2 rfl) ?_
  refine lv_bipush (v := 24) hx hb dX1_driedFrom_1 (by decide) ?_
  refine lv_irem hx hb dX1_driedFrom_3 (by decide) ?_
  refine lv_istore (lv' := [(4, .int (tm - tm / 24 * 24)), (0, .ref (ad 4 i)), (1, .int x), (2, .int tm), (3, .int wm)]) hx hb dX1_driedFrom_4 hl (by decide) rfl (fun ls hl => ?_)
  refine lv_iload hx hb dX1_driedFrom_6 (lv_at hl 0 rfl) ?_
  refine lv_bipush (v := 8) hx hb dX1_driedFrom_8 (by decide) ?_
  refine lv_icmp_lt (tgt := 20) hx hb dX1_driedFrom_10 (by decide) (fun c1 => ?_) (fun c1 => ?_)
  · skip
    refine lv_iload_n hx hb dX1_driedFrom_20 rfl (lv_at hl 2 rfl) ?_
    exact q_reti hx hb hr hB hC hS rfl (by unfold fX1_driedFrom; rw [if_pos c1]) hlocks dX1_driedFrom_21
  · skip
    refine lv_iload hx hb dX1_driedFrom_13 (lv_at hl 0 rfl) ?_
    refine lv_bipush (v := 17) hx hb dX1_driedFrom_15 (by decide) ?_
    refine lv_icmp_le (tgt := 22) hx hb dX1_driedFrom_17 (by decide) (fun c2 => ?_) (fun c2 => ?_)
    · skip
      refine lv_iload_n hx hb dX1_driedFrom_22 rfl (lv_at hl 4 rfl) ?_
      refine lv_bipush (v := 10) hx hb dX1_driedFrom_23 (by decide) ?_
      refine lv_imul hx hb dX1_driedFrom_25 ?_
      refine lv_bipush (v := 10) hx hb dX1_driedFrom_26 (by decide) ?_
      refine lv_aload_n hx hb dX1_driedFrom_28 rfl (lv_at hl 1 rfl) ?_
      refine q_callVi (As := []) (κ := 4) (i := i) (show i < 5 from hrow_i) rfl ⟨_, rfl⟩ rfl ⟨hx, hb, hml, hown, hts⟩ (kX1_depth l D cy hI g _ i hrow_i  ) (cwV 0 hts gX1_driedFrom_X1_depth rfl rfl rfl (by decide +kernel) ⟨Nat.le_of_ble_eq_true rfl, Nat.le_of_ble_eq_true rfl⟩) hB hC hS rfl hl.1 (Nat.le_of_ble_eq_true rfl) dX1_driedFrom_29 ⟨Nat.le_of_ble_eq_true rfl, Nat.le_of_ble_eq_true rfl⟩ (fun H locs hC hS => ?_)
      refine lv_iadd hx hb dX1_driedFrom_32 ?_
      refine lv_idiv hx hb dX1_driedFrom_33 hd ?_
      refine lv_istore (lv' := [(5, .int ((wm * 10) / (10 + (fX1_depth g i)))), (4, .int (tm - tm / 24 * 24)), (0, .ref (ad 4 i)), (1, .int x), (2, .int tm), (3, .int wm)]) hx hb dX1_driedFrom_34 hl (by decide) rfl (fun ls hl => ?_)
      refine lv_bipush (v := 80) hx hb dX1_driedFrom_36 (by decide) ?_
      refine lv_iload_n hx hb dX1_driedFrom_38 rfl (lv_at hl 3 rfl) ?_
      refine lv_aload_n hx hb dX1_driedFrom_39 rfl (lv_at hl 2 rfl) ?_
      refine gt_4_2 hx hb hts iX1_driedFrom_X1 hown hB.1 hC hrow_i qX1_driedFrom_w1 dX1_driedFrom_40 ?_
      refine lv_if_eq (tgt := 53) hx hb dX1_driedFrom_43 (by decide) (fun c3 => ?_) (fun c3 => ?_)
      · skip
        refine lv_iload hx hb dX1_driedFrom_53 (lv_at hl 0 rfl) ?_
        refine lv_isub hx hb dX1_driedFrom_55 ?_
        refine va_mmax hx hb (hml.trans hl.1.symm) hown (hts _ qX1_driedFrom_w2) (hts _ qX1_driedFrom_w3) (hts _ qX1_driedFrom_w4) (hts _ qX1_driedFrom_w5) (Nat.le_of_ble_eq_true rfl) (Nat.le_of_ble_eq_true rfl) (Nat.le_of_ble_eq_true rfl) (Nat.le_of_ble_eq_true rfl) dX1_driedFrom_56 ?_
        exact q_reti hx hb hr hB hC hS rfl (by unfold fX1_driedFrom; rw [if_neg c1, if_pos c2, if_pos c3]) hlocks dX1_driedFrom_59
      · skip
        refine lv_iload hx hb dX1_driedFrom_46 (lv_at hl 0 rfl) ?_
        refine lv_iconst (v := 4) hx hb dX1_driedFrom_48 (by decide) ?_
        refine lv_idiv hx hb dX1_driedFrom_49 (by decide) ?_
        refine lv_goto (tgt := 55) hx hb dX1_driedFrom_50 (by decide) ?_
        refine lv_isub hx hb dX1_driedFrom_55 ?_
        refine va_mmax hx hb (hml.trans hl.1.symm) hown (hts _ qX1_driedFrom_w2) (hts _ qX1_driedFrom_w3) (hts _ qX1_driedFrom_w4) (hts _ qX1_driedFrom_w5) (Nat.le_of_ble_eq_true rfl) (Nat.le_of_ble_eq_true rfl) (Nat.le_of_ble_eq_true rfl) (Nat.le_of_ble_eq_true rfl) dX1_driedFrom_56 ?_
        exact q_reti hx hb hr hB hC hS rfl (by unfold fX1_driedFrom; rw [if_neg c1, if_pos c2, if_neg c3]) hlocks dX1_driedFrom_59
    · skip
      refine lv_iload_n hx hb dX1_driedFrom_20 rfl (lv_at hl 2 rfl) ?_
      exact q_reti hx hb hr hB hC hS rfl (by unfold fX1_driedFrom; rw [if_neg c1, if_neg c2]) hlocks dX1_driedFrom_21
def fX1_passHour (g : Gd) (i : Nat) (tm : Int32) (wm : Int32) (rn : Int32) : Gd := if (fX4_isEmpty (g 3 (3 + i) 0)) = 0 then (if rn ≤ 0 then (if (((g 3 (3 + i) 6) + 1) - ((g 3 (3 + i) 6) + 1) / 12 * 12) = 0 then (if (fX1_driedFrom g i (g 3 (3 + i) 5) tm wm) ≤ 250 then ((up (up g 3 (3 + i) 5 (fX1_driedFrom g i (g 3 (3 + i) 5) tm wm)) 3 (3 + i) 6 ((g 3 (3 + i) 6) + 1))) else ((up (up (up g 3 (3 + i) 5 (fX1_driedFrom g i (g 3 (3 + i) 5) tm wm)) 3 (3 + i) 6 ((g 3 (3 + i) 6) + 1)) 3 (3 + i) 7 ((g 3 (3 + i) 7) + 1)))) else ((up (up g 3 (3 + i) 5 (fX1_driedFrom g i (g 3 (3 + i) 5) tm wm)) 3 (3 + i) 6 ((g 3 (3 + i) 6) + 1)))) else (if (g 3 (3 + i) 9) = 0 then (if (((g 3 (3 + i) 6) + 1) - ((g 3 (3 + i) 6) + 1) / 12 * 12) = 0 then (if (if ((g 3 (3 + i) 5) + rn) < 600 then ((g 3 (3 + i) 5) + rn) else 600) ≤ 250 then ((up (up g 3 (3 + i) 5 (if ((g 3 (3 + i) 5) + rn) < 600 then ((g 3 (3 + i) 5) + rn) else 600)) 3 (3 + i) 6 ((g 3 (3 + i) 6) + 1))) else ((up (up (up g 3 (3 + i) 5 (if ((g 3 (3 + i) 5) + rn) < 600 then ((g 3 (3 + i) 5) + rn) else 600)) 3 (3 + i) 6 ((g 3 (3 + i) 6) + 1)) 3 (3 + i) 7 ((g 3 (3 + i) 7) + 1)))) else ((up (up g 3 (3 + i) 5 (if ((g 3 (3 + i) 5) + rn) < 600 then ((g 3 (3 + i) 5) + rn) else 600)) 3 (3 + i) 6 ((g 3 (3 + i) 6) + 1)))) else (if (((g 3 (3 + i) 6) + 1) - ((g 3 (3 + i) 6) + 1) / 12 * 12) = 0 then (if (fX1_driedFrom g i (g 3 (3 + i) 5) tm wm) ≤ 250 then ((up (up g 3 (3 + i) 5 (fX1_driedFrom g i (g 3 (3 + i) 5) tm wm)) 3 (3 + i) 6 ((g 3 (3 + i) 6) + 1))) else ((up (up (up g 3 (3 + i) 5 (fX1_driedFrom g i (g 3 (3 + i) 5) tm wm)) 3 (3 + i) 6 ((g 3 (3 + i) 6) + 1)) 3 (3 + i) 7 ((g 3 (3 + i) 7) + 1)))) else ((up (up g 3 (3 + i) 5 (fX1_driedFrom g i (g 3 (3 + i) 5) tm wm)) 3 (3 + i) 6 ((g 3 (3 + i) 6) + 1)))))) else (g)
theorem qX1_passHour_w1 : Cond.fieldLink RX1 12 "CherryStation$Bed" "mix" "LCherryStation$Mix;" ∈ wsX1_passHour := List.mem_of_getElem? (i := 1) rfl
theorem qX1_passHour_w2 : Cond.fieldLink RX1 22 "CherryStation$Bed" "isCovered" "Z" ∈ wsX1_passHour := List.mem_of_getElem? (i := 2) rfl
theorem qX1_passHour_w3 : Cond.fieldLink RX1 29 "CherryStation$Bed" "moisture" "I" ∈ wsX1_passHour := List.mem_of_getElem? (i := 3) rfl
theorem qX1_passHour_w4 : Cond.methodLink RX1 52 Lib.Math.min.name ∈ wsX1_passHour := List.mem_of_getElem? (i := 4) rfl
theorem qX1_passHour_w5 : Cond.static Lib.Math.min.name ∈ wsX1_passHour := List.mem_of_getElem? (i := 5) rfl
theorem qX1_passHour_w6 : Cond.initialized "java/lang/Math" ∈ wsX1_passHour := List.mem_of_getElem? (i := 6) rfl
theorem qX1_passHour_w7 : Cond.code Lib.Math.min.name Lib.Math.min.code 2 (some .int) ∈ wsX1_passHour := List.mem_of_getElem? (i := 7) rfl
theorem qX1_passHour_w8 : Cond.fieldLink RX1 32 "CherryStation$Bed" "unturned" "I" ∈ wsX1_passHour := List.mem_of_getElem? (i := 8) rfl
theorem qX1_passHour_w9 : Cond.fieldLink RX1 35 "CherryStation$Bed" "mould" "I" ∈ wsX1_passHour := List.mem_of_getElem? (i := 9) rfl
theorem iX1_passHour_X1 : ∀ w ∈ wsX10, w ∈ wsX1_passHour := fun _ h => (List.mem_cons_of_mem _ (List.mem_append_left _ (List.mem_append_right _ h)))
set_option maxRecDepth 100000 in
set_option maxHeartbeats 4000000 in
theorem kX1_passHour (l : Launch) (D : va_G) (cy : Nat → ClassId) {ad : Nat → Nat → Nat} (hI : cI ad) (g : Gd) (sz : Nat) (i : Nat) (hrow_i : i < 5) (tm : Int32) (wm : Int32) (rn : Int32) (hd : ¬ 10 + fX1_depth g i = 0) : Met l yX1_passHour wsX1_passHour ({ frames := 2, cells := 0, slots := 0, locals := 45 } : Room) (va_Pc [.ref (ad 4 i), .int tm, .int wm, .int rn] (cPre D cy ad g sz)) (cQv D cy ad (fX1_passHour g i tm wm rn) sz) 0 0 (cA ad sz) := by
  refine q_start (cc := cX1_passHour) (maxL := 4) (ret := none) (own := RX1) (by decide) rfl rfl (Nat.le_of_ble_eq_true rfl) ?_
  intro p e s m below meth c hx hb hr hml hts hown hlocks ⟨hsz, hC, hB⟩ ls hl
  subst hsz
  have hS : va_S (cA ad s.heap.size) s.heap s.heap [] := va_S.rf
  have hA : ∀ κ i : Nat, cV κ i → cA ad s.heap.size (ad κ i) := fun κ i h => Or.inl ⟨κ, i, h, rfl⟩
  have hl : lv_has ls 4 [(0, .ref (ad 4 i)), (1, .int tm), (2, .int wm), (3, .int rn)] := hl
  refine lv_aload_n hx hb dX1_passHour_0 rfl (lv_at hl 0 rfl) ?_
  refine gt_4_0 hx hb hts iX1_passHour_X1 hown hB.1 hC hrow_i qX1_passHour_w1 dX1_passHour_1 ?_
  refine q_callVi (As := []) (κ := 6) (i := 3 + i) (show (3 + i) < 21 from (by omega)) rfl ⟨_, rfl⟩ rfl ⟨hx, hb, hml, hown, hts⟩ (kX4_isEmpty l D cy hI g _ (3 + i) (by omega)  ) (cwV 0 hts gX1_passHour_X4_isEmpty rfl rfl rfl (by decide +kernel) ⟨Nat.le_of_ble_eq_true rfl, Nat.le_of_ble_eq_true rfl⟩) hB hC hS rfl hl.1 (Nat.le_of_ble_eq_true rfl) dX1_passHour_4 ⟨Nat.le_of_ble_eq_true rfl, Nat.le_of_ble_eq_true rfl⟩ (fun H locs hC hS => ?_)
  refine lv_if_eq (tgt := 11) hx hb dX1_passHour_7 (by decide) (fun c1 => ?_) (fun c1 => ?_)
  · skip
    refine lv_iload_n hx hb dX1_passHour_11 rfl (lv_at hl 3 rfl) ?_
    refine lv_if_le (tgt := 41) hx hb dX1_passHour_12 (by decide) (fun c2 => ?_) (fun c2 => ?_)
    · skip
      refine lv_aload_n hx hb dX1_passHour_41 rfl (lv_at hl 0 rfl) ?_
      refine lv_aload_n hx hb dX1_passHour_42 rfl (lv_at hl 0 rfl) ?_
      refine lv_aload_n hx hb dX1_passHour_43 rfl (lv_at hl 0 rfl) ?_
      refine gt_4_4 hx hb hts iX1_passHour_X1 hown hB.1 hC hrow_i qX1_passHour_w3 dX1_passHour_44 ?_
      refine lv_iload_n hx hb dX1_passHour_47 rfl (lv_at hl 1 rfl) ?_
      refine lv_iload_n hx hb dX1_passHour_48 rfl (lv_at hl 2 rfl) ?_
      refine q_callVi (As := [.int (g 3 (3 + i) 5), .int tm, .int wm]) (κ := 4) (i := i) (show i < 5 from hrow_i) rfl ⟨_, rfl⟩ rfl ⟨hx, hb, hml, hown, hts⟩ (kX1_driedFrom l D cy hI g _ i hrow_i (g 3 (3 + i) 5) tm wm hd) (cwV 3 hts gX1_passHour_X1_driedFrom rfl rfl rfl (by decide +kernel) ⟨Nat.le_of_ble_eq_true rfl, Nat.le_of_ble_eq_true rfl⟩) hB hC hS rfl hl.1 (Nat.le_of_ble_eq_true rfl) dX1_passHour_49 ⟨Nat.le_of_ble_eq_true rfl, Nat.le_of_ble_eq_true rfl⟩ (fun H locs hC hS => ?_)
      refine pt_4_4 hx hb hts iX1_passHour_X1 hown hB.1 hC hI hS hA hrow_i qX1_passHour_w3 dX1_passHour_52 (fun H locs hC hS => ?_)
      refine lv_aload_n hx hb dX1_passHour_55 rfl (lv_at hl 0 rfl) ?_
      refine lv_dup hx hb dX1_passHour_56 rfl ?_
      refine gt_4_5 hx hb hts iX1_passHour_X1 hown hB.1 hC hrow_i qX1_passHour_w8 dX1_passHour_57 ?_
      refine q_val (v := g 3 (3 + i) 6) ((up_nk (by decide)).trans rfl) ?_
      refine lv_iconst (v := 1) hx hb dX1_passHour_60 (by decide) ?_
      refine lv_iadd hx hb dX1_passHour_61 ?_
      refine pt_4_5 hx hb hts iX1_passHour_X1 hown hB.1 hC hI hS hA hrow_i qX1_passHour_w8 dX1_passHour_62 (fun H locs hC hS => ?_)
      refine lv_aload_n hx hb dX1_passHour_65 rfl (lv_at hl 0 rfl) ?_
      refine gt_4_5 hx hb hts iX1_passHour_X1 hown hB.1 hC hrow_i qX1_passHour_w8 dX1_passHour_66 ?_
      refine q_val (v := (g 3 (3 + i) 6) + 1) (up_eq _ _ _ _ _) ?_
      refine lv_bipush (v := 12) hx hb dX1_passHour_69 (by decide) ?_
      refine lv_irem hx hb dX1_passHour_71 (by decide) ?_
      refine lv_if_ne (tgt := 95) hx hb dX1_passHour_72 (by decide) (fun c3 => ?_) (fun c3 => ?_)
      · skip
        exact q_retv hx hb hr hB hC hS (by unfold fX1_passHour; rw [if_pos c1, if_pos c2, if_neg c3]) hlocks dX1_passHour_95
      · skip
        refine lv_aload_n hx hb dX1_passHour_75 rfl (lv_at hl 0 rfl) ?_
        refine gt_4_4 hx hb hts iX1_passHour_X1 hown hB.1 hC hrow_i qX1_passHour_w3 dX1_passHour_76 ?_
        refine q_val (v := fX1_driedFrom g i (g 3 (3 + i) 5) tm wm) ((up_nk (by decide)).trans (up_eq _ _ _ _ _)) ?_
        refine lv_sipush (v := 250) hx hb dX1_passHour_79 (by decide) ?_
        refine lv_icmp_le (tgt := 95) hx hb dX1_passHour_82 (by decide) (fun c4 => ?_) (fun c4 => ?_)
        · skip
          exact q_retv hx hb hr hB hC hS (by unfold fX1_passHour; rw [if_pos c1, if_pos c2, if_pos c3, if_pos c4]) hlocks dX1_passHour_95
        · skip
          refine lv_aload_n hx hb dX1_passHour_85 rfl (lv_at hl 0 rfl) ?_
          refine lv_dup hx hb dX1_passHour_86 rfl ?_
          refine gt_4_6 hx hb hts iX1_passHour_X1 hown hB.1 hC hrow_i qX1_passHour_w9 dX1_passHour_87 ?_
          refine q_val (v := g 3 (3 + i) 7) ((up_nk (by decide)).trans ((up_nk (by decide)).trans rfl)) ?_
          refine lv_iconst (v := 1) hx hb dX1_passHour_90 (by decide) ?_
          refine lv_iadd hx hb dX1_passHour_91 ?_
          refine pt_4_6 hx hb hts iX1_passHour_X1 hown hB.1 hC hI hS hA hrow_i qX1_passHour_w9 dX1_passHour_92 (fun H locs hC hS => ?_)
          exact q_retv hx hb hr hB hC hS (by unfold fX1_passHour; rw [if_pos c1, if_pos c2, if_pos c3, if_neg c4]) hlocks dX1_passHour_95
    · skip
      refine lv_aload_n hx hb dX1_passHour_15 rfl (lv_at hl 0 rfl) ?_
      refine gt_4_2 hx hb hts iX1_passHour_X1 hown hB.1 hC hrow_i qX1_passHour_w2 dX1_passHour_16 ?_
      refine lv_if_ne (tgt := 41) hx hb dX1_passHour_19 (by decide) (fun c5 => ?_) (fun c5 => ?_)
      · skip
        refine lv_aload_n hx hb dX1_passHour_41 rfl (lv_at hl 0 rfl) ?_
        refine lv_aload_n hx hb dX1_passHour_42 rfl (lv_at hl 0 rfl) ?_
        refine lv_aload_n hx hb dX1_passHour_43 rfl (lv_at hl 0 rfl) ?_
        refine gt_4_4 hx hb hts iX1_passHour_X1 hown hB.1 hC hrow_i qX1_passHour_w3 dX1_passHour_44 ?_
        refine lv_iload_n hx hb dX1_passHour_47 rfl (lv_at hl 1 rfl) ?_
        refine lv_iload_n hx hb dX1_passHour_48 rfl (lv_at hl 2 rfl) ?_
        refine q_callVi (As := [.int (g 3 (3 + i) 5), .int tm, .int wm]) (κ := 4) (i := i) (show i < 5 from hrow_i) rfl ⟨_, rfl⟩ rfl ⟨hx, hb, hml, hown, hts⟩ (kX1_driedFrom l D cy hI g _ i hrow_i (g 3 (3 + i) 5) tm wm hd) (cwV 3 hts gX1_passHour_X1_driedFrom rfl rfl rfl (by decide +kernel) ⟨Nat.le_of_ble_eq_true rfl, Nat.le_of_ble_eq_true rfl⟩) hB hC hS rfl hl.1 (Nat.le_of_ble_eq_true rfl) dX1_passHour_49 ⟨Nat.le_of_ble_eq_true rfl, Nat.le_of_ble_eq_true rfl⟩ (fun H locs hC hS => ?_)
        refine pt_4_4 hx hb hts iX1_passHour_X1 hown hB.1 hC hI hS hA hrow_i qX1_passHour_w3 dX1_passHour_52 (fun H locs hC hS => ?_)
        refine lv_aload_n hx hb dX1_passHour_55 rfl (lv_at hl 0 rfl) ?_
        refine lv_dup hx hb dX1_passHour_56 rfl ?_
        refine gt_4_5 hx hb hts iX1_passHour_X1 hown hB.1 hC hrow_i qX1_passHour_w8 dX1_passHour_57 ?_
        refine q_val (v := g 3 (3 + i) 6) ((up_nk (by decide)).trans rfl) ?_
        refine lv_iconst (v := 1) hx hb dX1_passHour_60 (by decide) ?_
        refine lv_iadd hx hb dX1_passHour_61 ?_
        refine pt_4_5 hx hb hts iX1_passHour_X1 hown hB.1 hC hI hS hA hrow_i qX1_passHour_w8 dX1_passHour_62 (fun H locs hC hS => ?_)
        refine lv_aload_n hx hb dX1_passHour_65 rfl (lv_at hl 0 rfl) ?_
        refine gt_4_5 hx hb hts iX1_passHour_X1 hown hB.1 hC hrow_i qX1_passHour_w8 dX1_passHour_66 ?_
        refine q_val (v := (g 3 (3 + i) 6) + 1) (up_eq _ _ _ _ _) ?_
        refine lv_bipush (v := 12) hx hb dX1_passHour_69 (by decide) ?_
        refine lv_irem hx hb dX1_passHour_71 (by decide) ?_
        refine lv_if_ne (tgt := 95) hx hb dX1_passHour_72 (by decide) (fun c6 => ?_) (fun c6 => ?_)
        · skip
          exact q_retv hx hb hr hB hC hS (by unfold fX1_passHour; rw [if_pos c1, if_neg c2, if_neg c5, if_neg c6]) hlocks dX1_passHour_95
        · skip
          refine lv_aload_n hx hb dX1_passHour_75 rfl (lv_at hl 0 rfl) ?_
          refine gt_4_4 hx hb hts iX1_passHour_X1 hown hB.1 hC hrow_i qX1_passHour_w3 dX1_passHour_76 ?_
          refine q_val (v := fX1_driedFrom g i (g 3 (3 + i) 5) tm wm) ((up_nk (by decide)).trans (up_eq _ _ _ _ _)) ?_
          refine lv_sipush (v := 250) hx hb dX1_passHour_79 (by decide) ?_
          refine lv_icmp_le (tgt := 95) hx hb dX1_passHour_82 (by decide) (fun c7 => ?_) (fun c7 => ?_)
          · skip
            exact q_retv hx hb hr hB hC hS (by unfold fX1_passHour; rw [if_pos c1, if_neg c2, if_neg c5, if_pos c6, if_pos c7]) hlocks dX1_passHour_95
          · skip
            refine lv_aload_n hx hb dX1_passHour_85 rfl (lv_at hl 0 rfl) ?_
            refine lv_dup hx hb dX1_passHour_86 rfl ?_
            refine gt_4_6 hx hb hts iX1_passHour_X1 hown hB.1 hC hrow_i qX1_passHour_w9 dX1_passHour_87 ?_
            refine q_val (v := g 3 (3 + i) 7) ((up_nk (by decide)).trans ((up_nk (by decide)).trans rfl)) ?_
            refine lv_iconst (v := 1) hx hb dX1_passHour_90 (by decide) ?_
            refine lv_iadd hx hb dX1_passHour_91 ?_
            refine pt_4_6 hx hb hts iX1_passHour_X1 hown hB.1 hC hI hS hA hrow_i qX1_passHour_w9 dX1_passHour_92 (fun H locs hC hS => ?_)
            exact q_retv hx hb hr hB hC hS (by unfold fX1_passHour; rw [if_pos c1, if_neg c2, if_neg c5, if_pos c6, if_neg c7]) hlocks dX1_passHour_95
      · skip
        refine lv_aload_n hx hb dX1_passHour_22 rfl (lv_at hl 0 rfl) ?_
        refine lv_sipush (v := 600) hx hb dX1_passHour_23 (by decide) ?_
        refine lv_aload_n hx hb dX1_passHour_26 rfl (lv_at hl 0 rfl) ?_
        refine gt_4_4 hx hb hts iX1_passHour_X1 hown hB.1 hC hrow_i qX1_passHour_w3 dX1_passHour_27 ?_
        refine lv_iload_n hx hb dX1_passHour_30 rfl (lv_at hl 3 rfl) ?_
        refine lv_iadd hx hb dX1_passHour_31 ?_
        refine va_mmin hx hb (hml.trans hl.1.symm) hown (hts _ qX1_passHour_w4) (hts _ qX1_passHour_w5) (hts _ qX1_passHour_w6) (hts _ qX1_passHour_w7) (Nat.le_of_ble_eq_true rfl) (Nat.le_of_ble_eq_true rfl) (Nat.le_of_ble_eq_true rfl) (Nat.le_of_ble_eq_true rfl) dX1_passHour_32 ?_
        refine pt_4_4 hx hb hts iX1_passHour_X1 hown hB.1 hC hI hS hA hrow_i qX1_passHour_w3 dX1_passHour_35 (fun H locs hC hS => ?_)
        refine lv_goto (tgt := 55) hx hb dX1_passHour_38 (by decide) ?_
        refine lv_aload_n hx hb dX1_passHour_55 rfl (lv_at hl 0 rfl) ?_
        refine lv_dup hx hb dX1_passHour_56 rfl ?_
        refine gt_4_5 hx hb hts iX1_passHour_X1 hown hB.1 hC hrow_i qX1_passHour_w8 dX1_passHour_57 ?_
        refine q_val (v := g 3 (3 + i) 6) ((up_nk (by decide)).trans rfl) ?_
        refine lv_iconst (v := 1) hx hb dX1_passHour_60 (by decide) ?_
        refine lv_iadd hx hb dX1_passHour_61 ?_
        refine pt_4_5 hx hb hts iX1_passHour_X1 hown hB.1 hC hI hS hA hrow_i qX1_passHour_w8 dX1_passHour_62 (fun H locs hC hS => ?_)
        refine lv_aload_n hx hb dX1_passHour_65 rfl (lv_at hl 0 rfl) ?_
        refine gt_4_5 hx hb hts iX1_passHour_X1 hown hB.1 hC hrow_i qX1_passHour_w8 dX1_passHour_66 ?_
        refine q_val (v := (g 3 (3 + i) 6) + 1) (up_eq _ _ _ _ _) ?_
        refine lv_bipush (v := 12) hx hb dX1_passHour_69 (by decide) ?_
        refine lv_irem hx hb dX1_passHour_71 (by decide) ?_
        refine lv_if_ne (tgt := 95) hx hb dX1_passHour_72 (by decide) (fun c8 => ?_) (fun c8 => ?_)
        · skip
          exact q_retv hx hb hr hB hC hS (by unfold fX1_passHour; rw [if_pos c1, if_neg c2, if_pos c5, if_neg c8]) hlocks dX1_passHour_95
        · skip
          refine lv_aload_n hx hb dX1_passHour_75 rfl (lv_at hl 0 rfl) ?_
          refine gt_4_4 hx hb hts iX1_passHour_X1 hown hB.1 hC hrow_i qX1_passHour_w3 dX1_passHour_76 ?_
          refine q_val (v := if ((g 3 (3 + i) 5) + rn) < 600 then ((g 3 (3 + i) 5) + rn) else 600) ((up_nk (by decide)).trans (up_eq _ _ _ _ _)) ?_
          refine lv_sipush (v := 250) hx hb dX1_passHour_79 (by decide) ?_
          refine lv_icmp_le (tgt := 95) hx hb dX1_passHour_82 (by decide) (fun c9 => ?_) (fun c9 => ?_)
          · skip
            exact q_retv hx hb hr hB hC hS (by unfold fX1_passHour; rw [if_pos c1, if_neg c2, if_pos c5, if_pos c8, if_pos c9]) hlocks dX1_passHour_95
          · skip
            refine lv_aload_n hx hb dX1_passHour_85 rfl (lv_at hl 0 rfl) ?_
            refine lv_dup hx hb dX1_passHour_86 rfl ?_
            refine gt_4_6 hx hb hts iX1_passHour_X1 hown hB.1 hC hrow_i qX1_passHour_w9 dX1_passHour_87 ?_
            refine q_val (v := g 3 (3 + i) 7) ((up_nk (by decide)).trans ((up_nk (by decide)).trans rfl)) ?_
            refine lv_iconst (v := 1) hx hb dX1_passHour_90 (by decide) ?_
            refine lv_iadd hx hb dX1_passHour_91 ?_
            refine pt_4_6 hx hb hts iX1_passHour_X1 hown hB.1 hC hI hS hA hrow_i qX1_passHour_w9 dX1_passHour_92 (fun H locs hC hS => ?_)
            exact q_retv hx hb hr hB hC hS (by unfold fX1_passHour; rw [if_pos c1, if_neg c2, if_pos c5, if_pos c8, if_neg c9]) hlocks dX1_passHour_95
  · skip
    exact q_retv hx hb hr hB hC hS (by unfold fX1_passHour; rw [if_neg c1]) hlocks dX1_passHour_10
def fX1_keptOf (mt : Int32) (x : Int32) : Int32 := if mt = 2 then (x / 3) else (x / 2)
theorem qX1_keptOf_w1 : Cond.fieldLink RX1 26 "CherryStation$Bed" "method" "I" ∈ wsX1_keptOf := List.mem_of_getElem? (i := 1) rfl
theorem iX1_keptOf_X1 : ∀ w ∈ wsX10, w ∈ wsX1_keptOf := fun _ h => (List.mem_cons_of_mem _ (List.mem_append_right _ h))
set_option maxRecDepth 100000 in
set_option maxHeartbeats 4000000 in
theorem kX1_keptOf (l : Launch) (D : va_G) (cy : Nat → ClassId) {ad : Nat → Nat → Nat} (hI : cI ad) (g : Gd) (sz : Nat) (i : Nat) (hrow_i : i < 5) (x : Int32) : Met l yX1_keptOf wsX1_keptOf ({ frames := 0, cells := 0, slots := 0, locals := 0 } : Room) (va_Pc [.ref (ad 4 i), .int x] (cPre D cy ad g sz)) (cQi D cy ad (fX1_keptOf (g 3 (3 + i) 4) x) g sz) 0 0 (cA ad sz) := by
  refine q_start (cc := cX1_keptOf) (maxL := 2) (ret := (some .int)) (own := RX1) (by decide) rfl rfl (Nat.le_of_ble_eq_true rfl) ?_
  intro p e s m below meth c hx hb hr hml hts hown hlocks ⟨hsz, hC, hB⟩ ls hl
  subst hsz
  have hS : va_S (cA ad s.heap.size) s.heap s.heap [] := va_S.rf
  have hA : ∀ κ i : Nat, cV κ i → cA ad s.heap.size (ad κ i) := fun κ i h => Or.inl ⟨κ, i, h, rfl⟩
  have hl : lv_has ls 2 [(0, .ref (ad 4 i)), (1, .int x)] := hl
  refine lv_aload_n hx hb dX1_keptOf_0 rfl (lv_at hl 0 rfl) ?_
  refine gt_4_3 hx hb hts iX1_keptOf_X1 hown hB.1 hC hrow_i qX1_keptOf_w1 dX1_keptOf_1 ?_
  refine lv_iconst (v := 2) hx hb dX1_keptOf_4 (by decide) ?_
  refine lv_icmp_ne (tgt := 14) hx hb dX1_keptOf_5 (by decide) (fun c1 => ?_) (fun c1 => ?_)
  · skip
    refine lv_iload_n hx hb dX1_keptOf_14 rfl (lv_at hl 1 rfl) ?_
    refine lv_iconst (v := 2) hx hb dX1_keptOf_15 (by decide) ?_
    refine lv_idiv hx hb dX1_keptOf_16 (by decide) ?_
    exact q_reti hx hb hr hB hC hS rfl (by unfold fX1_keptOf; rw [if_neg c1]) hlocks dX1_keptOf_17
  · skip
    refine lv_iload_n hx hb dX1_keptOf_8 rfl (lv_at hl 1 rfl) ?_
    refine lv_iconst (v := 3) hx hb dX1_keptOf_9 (by decide) ?_
    refine lv_idiv hx hb dX1_keptOf_10 (by decide) ?_
    refine lv_goto (tgt := 17) hx hb dX1_keptOf_11 (by decide) ?_
    exact q_reti hx hb hr hB hC hS rfl (by unfold fX1_keptOf; rw [if_pos c1]) hlocks dX1_keptOf_17
def fX1_keptKilos (mt : Int32) (k0 : Int32) (k1 : Int32) (k2 : Int32) (k3 : Int32) (k4 : Int32) (k5 : Int32) : Int32 := (((((0 + (fX1_keptOf mt k0)) + (fX1_keptOf mt k1)) + (fX1_keptOf mt k2)) + (fX1_keptOf mt k3)) + (fX1_keptOf mt k4)) + (fX1_keptOf mt k5)
theorem qX1_keptKilos_w1 : Cond.fieldLink RX1 12 "CherryStation$Bed" "mix" "LCherryStation$Mix;" ∈ wsX1_keptKilos := List.mem_of_getElem? (i := 1) rfl
theorem qX1_keptKilos_w2 : Cond.fieldLink RX1 72 "CherryStation$Mix" "kilosBy" "[I" ∈ wsX1_keptKilos := List.mem_of_getElem? (i := 2) rfl
theorem iX1_keptKilos_X1 : ∀ w ∈ wsX10, w ∈ wsX1_keptKilos := fun _ h => (List.mem_cons_of_mem _ (List.mem_append_left _ (List.mem_append_right _ h)))
theorem iX1_keptKilos_X4 : ∀ w ∈ wsX40, w ∈ wsX1_keptKilos := fun _ h => (List.mem_cons_of_mem _ (List.mem_append_right _ h))
set_option maxRecDepth 100000 in
set_option maxHeartbeats 4000000 in
theorem kX1_keptKilos (l : Launch) (D : va_G) (cy : Nat → ClassId) {ad : Nat → Nat → Nat} (hI : cI ad) (g : Gd) (sz : Nat) (i : Nat) (hrow_i : i < 5) : Met l yX1_keptKilos wsX1_keptKilos ({ frames := 1, cells := 0, slots := 0, locals := 21 } : Room) (va_Pc [.ref (ad 4 i)] (cPre D cy ad g sz)) (cQi D cy ad (fX1_keptKilos (g 3 (3 + i) 4) (g 4 (3 + i) 0) (g 4 (3 + i) 1) (g 4 (3 + i) 2) (g 4 (3 + i) 3) (g 4 (3 + i) 4) (g 4 (3 + i) 5)) g sz) 0 0 (cA ad sz) := by
  refine q_start (cc := cX1_keptKilos) (maxL := 3) (ret := (some .int)) (own := RX1) (by decide) rfl rfl (Nat.le_of_ble_eq_true rfl) ?_
  intro p e s m below meth c hx hb hr hml hts hown hlocks ⟨hsz, hC, hB⟩ ls hl
  subst hsz
  have hS : va_S (cA ad s.heap.size) s.heap s.heap [] := va_S.rf
  have hA : ∀ κ i : Nat, cV κ i → cA ad s.heap.size (ad κ i) := fun κ i h => Or.inl ⟨κ, i, h, rfl⟩
  have hl : lv_has ls 3 [(0, .ref (ad 4 i))] := hl
  refine lv_iconst (v := 0) hx hb dX1_keptKilos_0 (by decide) ?_
  refine lv_istore_n (lv' := [(1, .int 0), (0, .ref (ad 4 i))]) hx hb dX1_keptKilos_1 rfl hl (by decide) rfl (fun ls hl => ?_)
  refine lv_iconst (v := 0) hx hb dX1_keptKilos_2 (by decide) ?_
  refine lv_istore_n (lv' := [(2, .int 0), (1, .int 0), (0, .ref (ad 4 i))]) hx hb dX1_keptKilos_3 rfl hl (by decide) rfl (fun ls hl => ?_)
  refine lv_iload_n hx hb dX1_keptKilos_4 rfl (lv_at hl 0 rfl) ?_
  refine lv_bipush (v := 6) hx hb dX1_keptKilos_5 (by decide) ?_
  refine lv_icmp_ge (tgt := 32) hx hb dX1_keptKilos_7 (by decide) (fun c => absurd c (by decide)) (fun _ => ?_)
  refine lv_iload_n hx hb dX1_keptKilos_10 rfl (lv_at hl 1 rfl) ?_
  refine lv_aload_n hx hb dX1_keptKilos_11 rfl (lv_at hl 2 rfl) ?_
  refine lv_aload_n hx hb dX1_keptKilos_12 rfl (lv_at hl 2 rfl) ?_
  refine gt_4_0 hx hb hts iX1_keptKilos_X1 hown hB.1 hC hrow_i qX1_keptKilos_w1 dX1_keptKilos_13 ?_
  refine gt_6_0 hx hb hts iX1_keptKilos_X4 hown hB.1 hC (by omega) qX1_keptKilos_w2 dX1_keptKilos_16 ?_
  refine lv_iload_n hx hb dX1_keptKilos_19 rfl (lv_at hl 0 rfl) ?_
  refine ld_7 hx hb hB.1 hC (by omega) (k := 0) (by decide) (by unfold vp_in; decide) dX1_keptKilos_20 ?_
  refine q_callVi (As := [.int (g 4 (3 + i) 0)]) (κ := 4) (i := i) (show i < 5 from hrow_i) rfl ⟨_, rfl⟩ rfl ⟨hx, hb, hml, hown, hts⟩ (kX1_keptOf l D cy hI g _ i hrow_i (g 4 (3 + i) 0) ) (cwV 1 hts gX1_keptKilos_X1_keptOf rfl rfl rfl (by decide +kernel) ⟨Nat.le_of_ble_eq_true rfl, Nat.le_of_ble_eq_true rfl⟩) hB hC hS rfl hl.1 (Nat.le_of_ble_eq_true rfl) dX1_keptKilos_21 ⟨Nat.le_of_ble_eq_true rfl, Nat.le_of_ble_eq_true rfl⟩ (fun H locs hC hS => ?_)
  refine lv_iadd hx hb dX1_keptKilos_24 ?_
  refine lv_istore_n (lv' := [(1, .int (0 + (fX1_keptOf (g 3 (3 + i) 4) (g 4 (3 + i) 0)))), (2, .int 0), (0, .ref (ad 4 i))]) hx hb dX1_keptKilos_25 rfl hl (by decide) rfl (fun ls hl => ?_)
  refine lv_iinc (v := 1) (lv' := [(2, .int 1), (1, .int (0 + (fX1_keptOf (g 3 (3 + i) 4) (g 4 (3 + i) 0)))), (0, .ref (ad 4 i))]) hx hb dX1_keptKilos_26 hl (k := 1) rfl (by decide) (by decide) rfl (fun ls hl => ?_)
  refine lv_goto (tgt := 4) hx hb dX1_keptKilos_29 (by decide) ?_
  refine lv_iload_n hx hb dX1_keptKilos_4 rfl (lv_at hl 0 rfl) ?_
  refine lv_bipush (v := 6) hx hb dX1_keptKilos_5 (by decide) ?_
  refine lv_icmp_ge (tgt := 32) hx hb dX1_keptKilos_7 (by decide) (fun c => absurd c (by decide)) (fun _ => ?_)
  refine lv_iload_n hx hb dX1_keptKilos_10 rfl (lv_at hl 1 rfl) ?_
  refine lv_aload_n hx hb dX1_keptKilos_11 rfl (lv_at hl 2 rfl) ?_
  refine lv_aload_n hx hb dX1_keptKilos_12 rfl (lv_at hl 2 rfl) ?_
  refine gt_4_0 hx hb hts iX1_keptKilos_X1 hown hB.1 hC hrow_i qX1_keptKilos_w1 dX1_keptKilos_13 ?_
  refine gt_6_0 hx hb hts iX1_keptKilos_X4 hown hB.1 hC (by omega) qX1_keptKilos_w2 dX1_keptKilos_16 ?_
  refine lv_iload_n hx hb dX1_keptKilos_19 rfl (lv_at hl 0 rfl) ?_
  refine ld_7 hx hb hB.1 hC (by omega) (k := 1) (by decide) (by unfold vp_in; decide) dX1_keptKilos_20 ?_
  refine q_callVi (As := [.int (g 4 (3 + i) 1)]) (κ := 4) (i := i) (show i < 5 from hrow_i) rfl ⟨_, rfl⟩ rfl ⟨hx, hb, hml, hown, hts⟩ (kX1_keptOf l D cy hI g _ i hrow_i (g 4 (3 + i) 1) ) (cwV 1 hts gX1_keptKilos_X1_keptOf rfl rfl rfl (by decide +kernel) ⟨Nat.le_of_ble_eq_true rfl, Nat.le_of_ble_eq_true rfl⟩) hB hC hS rfl hl.1 (Nat.le_of_ble_eq_true rfl) dX1_keptKilos_21 ⟨Nat.le_of_ble_eq_true rfl, Nat.le_of_ble_eq_true rfl⟩ (fun H locs hC hS => ?_)
  refine lv_iadd hx hb dX1_keptKilos_24 ?_
  refine lv_istore_n (lv' := [(1, .int ((0 + (fX1_keptOf (g 3 (3 + i) 4) (g 4 (3 + i) 0))) + (fX1_keptOf (g 3 (3 + i) 4) (g 4 (3 + i) 1)))), (2, .int 1), (0, .ref (ad 4 i))]) hx hb dX1_keptKilos_25 rfl hl (by decide) rfl (fun ls hl => ?_)
  refine lv_iinc (v := 2) (lv' := [(2, .int 2), (1, .int ((0 + (fX1_keptOf (g 3 (3 + i) 4) (g 4 (3 + i) 0))) + (fX1_keptOf (g 3 (3 + i) 4) (g 4 (3 + i) 1)))), (0, .ref (ad 4 i))]) hx hb dX1_keptKilos_26 hl (k := 1) rfl (by decide) (by decide) rfl (fun ls hl => ?_)
  refine lv_goto (tgt := 4) hx hb dX1_keptKilos_29 (by decide) ?_
  refine lv_iload_n hx hb dX1_keptKilos_4 rfl (lv_at hl 0 rfl) ?_
  refine lv_bipush (v := 6) hx hb dX1_keptKilos_5 (by decide) ?_
  refine lv_icmp_ge (tgt := 32) hx hb dX1_keptKilos_7 (by decide) (fun c => absurd c (by decide)) (fun _ => ?_)
  refine lv_iload_n hx hb dX1_keptKilos_10 rfl (lv_at hl 1 rfl) ?_
  refine lv_aload_n hx hb dX1_keptKilos_11 rfl (lv_at hl 2 rfl) ?_
  refine lv_aload_n hx hb dX1_keptKilos_12 rfl (lv_at hl 2 rfl) ?_
  refine gt_4_0 hx hb hts iX1_keptKilos_X1 hown hB.1 hC hrow_i qX1_keptKilos_w1 dX1_keptKilos_13 ?_
  refine gt_6_0 hx hb hts iX1_keptKilos_X4 hown hB.1 hC (by omega) qX1_keptKilos_w2 dX1_keptKilos_16 ?_
  refine lv_iload_n hx hb dX1_keptKilos_19 rfl (lv_at hl 0 rfl) ?_
  refine ld_7 hx hb hB.1 hC (by omega) (k := 2) (by decide) (by unfold vp_in; decide) dX1_keptKilos_20 ?_
  refine q_callVi (As := [.int (g 4 (3 + i) 2)]) (κ := 4) (i := i) (show i < 5 from hrow_i) rfl ⟨_, rfl⟩ rfl ⟨hx, hb, hml, hown, hts⟩ (kX1_keptOf l D cy hI g _ i hrow_i (g 4 (3 + i) 2) ) (cwV 1 hts gX1_keptKilos_X1_keptOf rfl rfl rfl (by decide +kernel) ⟨Nat.le_of_ble_eq_true rfl, Nat.le_of_ble_eq_true rfl⟩) hB hC hS rfl hl.1 (Nat.le_of_ble_eq_true rfl) dX1_keptKilos_21 ⟨Nat.le_of_ble_eq_true rfl, Nat.le_of_ble_eq_true rfl⟩ (fun H locs hC hS => ?_)
  refine lv_iadd hx hb dX1_keptKilos_24 ?_
  refine lv_istore_n (lv' := [(1, .int (((0 + (fX1_keptOf (g 3 (3 + i) 4) (g 4 (3 + i) 0))) + (fX1_keptOf (g 3 (3 + i) 4) (g 4 (3 + i) 1))) + (fX1_keptOf (g 3 (3 + i) 4) (g 4 (3 + i) 2)))), (2, .int 2), (0, .ref (ad 4 i))]) hx hb dX1_keptKilos_25 rfl hl (by decide) rfl (fun ls hl => ?_)
  refine lv_iinc (v := 3) (lv' := [(2, .int 3), (1, .int (((0 + (fX1_keptOf (g 3 (3 + i) 4) (g 4 (3 + i) 0))) + (fX1_keptOf (g 3 (3 + i) 4) (g 4 (3 + i) 1))) + (fX1_keptOf (g 3 (3 + i) 4) (g 4 (3 + i) 2)))), (0, .ref (ad 4 i))]) hx hb dX1_keptKilos_26 hl (k := 1) rfl (by decide) (by decide) rfl (fun ls hl => ?_)
  refine lv_goto (tgt := 4) hx hb dX1_keptKilos_29 (by decide) ?_
  refine lv_iload_n hx hb dX1_keptKilos_4 rfl (lv_at hl 0 rfl) ?_
  refine lv_bipush (v := 6) hx hb dX1_keptKilos_5 (by decide) ?_
  refine lv_icmp_ge (tgt := 32) hx hb dX1_keptKilos_7 (by decide) (fun c => absurd c (by decide)) (fun _ => ?_)
  refine lv_iload_n hx hb dX1_keptKilos_10 rfl (lv_at hl 1 rfl) ?_
  refine lv_aload_n hx hb dX1_keptKilos_11 rfl (lv_at hl 2 rfl) ?_
  refine lv_aload_n hx hb dX1_keptKilos_12 rfl (lv_at hl 2 rfl) ?_
  refine gt_4_0 hx hb hts iX1_keptKilos_X1 hown hB.1 hC hrow_i qX1_keptKilos_w1 dX1_keptKilos_13 ?_
  refine gt_6_0 hx hb hts iX1_keptKilos_X4 hown hB.1 hC (by omega) qX1_keptKilos_w2 dX1_keptKilos_16 ?_
  refine lv_iload_n hx hb dX1_keptKilos_19 rfl (lv_at hl 0 rfl) ?_
  refine ld_7 hx hb hB.1 hC (by omega) (k := 3) (by decide) (by unfold vp_in; decide) dX1_keptKilos_20 ?_
  refine q_callVi (As := [.int (g 4 (3 + i) 3)]) (κ := 4) (i := i) (show i < 5 from hrow_i) rfl ⟨_, rfl⟩ rfl ⟨hx, hb, hml, hown, hts⟩ (kX1_keptOf l D cy hI g _ i hrow_i (g 4 (3 + i) 3) ) (cwV 1 hts gX1_keptKilos_X1_keptOf rfl rfl rfl (by decide +kernel) ⟨Nat.le_of_ble_eq_true rfl, Nat.le_of_ble_eq_true rfl⟩) hB hC hS rfl hl.1 (Nat.le_of_ble_eq_true rfl) dX1_keptKilos_21 ⟨Nat.le_of_ble_eq_true rfl, Nat.le_of_ble_eq_true rfl⟩ (fun H locs hC hS => ?_)
  refine lv_iadd hx hb dX1_keptKilos_24 ?_
  refine lv_istore_n (lv' := [(1, .int ((((0 + (fX1_keptOf (g 3 (3 + i) 4) (g 4 (3 + i) 0))) + (fX1_keptOf (g 3 (3 + i) 4) (g 4 (3 + i) 1))) + (fX1_keptOf (g 3 (3 + i) 4) (g 4 (3 + i) 2))) + (fX1_keptOf (g 3 (3 + i) 4) (g 4 (3 + i) 3)))), (2, .int 3), (0, .ref (ad 4 i))]) hx hb dX1_keptKilos_25 rfl hl (by decide) rfl (fun ls hl => ?_)
  refine lv_iinc (v := 4) (lv' := [(2, .int 4), (1, .int ((((0 + (fX1_keptOf (g 3 (3 + i) 4) (g 4 (3 + i) 0))) + (fX1_keptOf (g 3 (3 + i) 4) (g 4 (3 + i) 1))) + (fX1_keptOf (g 3 (3 + i) 4) (g 4 (3 + i) 2))) + (fX1_keptOf (g 3 (3 + i) 4) (g 4 (3 + i) 3)))), (0, .ref (ad 4 i))]) hx hb dX1_keptKilos_26 hl (k := 1) rfl (by decide) (by decide) rfl (fun ls hl => ?_)
  refine lv_goto (tgt := 4) hx hb dX1_keptKilos_29 (by decide) ?_
  refine lv_iload_n hx hb dX1_keptKilos_4 rfl (lv_at hl 0 rfl) ?_
  refine lv_bipush (v := 6) hx hb dX1_keptKilos_5 (by decide) ?_
  refine lv_icmp_ge (tgt := 32) hx hb dX1_keptKilos_7 (by decide) (fun c => absurd c (by decide)) (fun _ => ?_)
  refine lv_iload_n hx hb dX1_keptKilos_10 rfl (lv_at hl 1 rfl) ?_
  refine lv_aload_n hx hb dX1_keptKilos_11 rfl (lv_at hl 2 rfl) ?_
  refine lv_aload_n hx hb dX1_keptKilos_12 rfl (lv_at hl 2 rfl) ?_
  refine gt_4_0 hx hb hts iX1_keptKilos_X1 hown hB.1 hC hrow_i qX1_keptKilos_w1 dX1_keptKilos_13 ?_
  refine gt_6_0 hx hb hts iX1_keptKilos_X4 hown hB.1 hC (by omega) qX1_keptKilos_w2 dX1_keptKilos_16 ?_
  refine lv_iload_n hx hb dX1_keptKilos_19 rfl (lv_at hl 0 rfl) ?_
  refine ld_7 hx hb hB.1 hC (by omega) (k := 4) (by decide) (by unfold vp_in; decide) dX1_keptKilos_20 ?_
  refine q_callVi (As := [.int (g 4 (3 + i) 4)]) (κ := 4) (i := i) (show i < 5 from hrow_i) rfl ⟨_, rfl⟩ rfl ⟨hx, hb, hml, hown, hts⟩ (kX1_keptOf l D cy hI g _ i hrow_i (g 4 (3 + i) 4) ) (cwV 1 hts gX1_keptKilos_X1_keptOf rfl rfl rfl (by decide +kernel) ⟨Nat.le_of_ble_eq_true rfl, Nat.le_of_ble_eq_true rfl⟩) hB hC hS rfl hl.1 (Nat.le_of_ble_eq_true rfl) dX1_keptKilos_21 ⟨Nat.le_of_ble_eq_true rfl, Nat.le_of_ble_eq_true rfl⟩ (fun H locs hC hS => ?_)
  refine lv_iadd hx hb dX1_keptKilos_24 ?_
  refine lv_istore_n (lv' := [(1, .int (((((0 + (fX1_keptOf (g 3 (3 + i) 4) (g 4 (3 + i) 0))) + (fX1_keptOf (g 3 (3 + i) 4) (g 4 (3 + i) 1))) + (fX1_keptOf (g 3 (3 + i) 4) (g 4 (3 + i) 2))) + (fX1_keptOf (g 3 (3 + i) 4) (g 4 (3 + i) 3))) + (fX1_keptOf (g 3 (3 + i) 4) (g 4 (3 + i) 4)))), (2, .int 4), (0, .ref (ad 4 i))]) hx hb dX1_keptKilos_25 rfl hl (by decide) rfl (fun ls hl => ?_)
  refine lv_iinc (v := 5) (lv' := [(2, .int 5), (1, .int (((((0 + (fX1_keptOf (g 3 (3 + i) 4) (g 4 (3 + i) 0))) + (fX1_keptOf (g 3 (3 + i) 4) (g 4 (3 + i) 1))) + (fX1_keptOf (g 3 (3 + i) 4) (g 4 (3 + i) 2))) + (fX1_keptOf (g 3 (3 + i) 4) (g 4 (3 + i) 3))) + (fX1_keptOf (g 3 (3 + i) 4) (g 4 (3 + i) 4)))), (0, .ref (ad 4 i))]) hx hb dX1_keptKilos_26 hl (k := 1) rfl (by decide) (by decide) rfl (fun ls hl => ?_)
  refine lv_goto (tgt := 4) hx hb dX1_keptKilos_29 (by decide) ?_
  refine lv_iload_n hx hb dX1_keptKilos_4 rfl (lv_at hl 0 rfl) ?_
  refine lv_bipush (v := 6) hx hb dX1_keptKilos_5 (by decide) ?_
  refine lv_icmp_ge (tgt := 32) hx hb dX1_keptKilos_7 (by decide) (fun c => absurd c (by decide)) (fun _ => ?_)
  refine lv_iload_n hx hb dX1_keptKilos_10 rfl (lv_at hl 1 rfl) ?_
  refine lv_aload_n hx hb dX1_keptKilos_11 rfl (lv_at hl 2 rfl) ?_
  refine lv_aload_n hx hb dX1_keptKilos_12 rfl (lv_at hl 2 rfl) ?_
  refine gt_4_0 hx hb hts iX1_keptKilos_X1 hown hB.1 hC hrow_i qX1_keptKilos_w1 dX1_keptKilos_13 ?_
  refine gt_6_0 hx hb hts iX1_keptKilos_X4 hown hB.1 hC (by omega) qX1_keptKilos_w2 dX1_keptKilos_16 ?_
  refine lv_iload_n hx hb dX1_keptKilos_19 rfl (lv_at hl 0 rfl) ?_
  refine ld_7 hx hb hB.1 hC (by omega) (k := 5) (by decide) (by unfold vp_in; decide) dX1_keptKilos_20 ?_
  refine q_callVi (As := [.int (g 4 (3 + i) 5)]) (κ := 4) (i := i) (show i < 5 from hrow_i) rfl ⟨_, rfl⟩ rfl ⟨hx, hb, hml, hown, hts⟩ (kX1_keptOf l D cy hI g _ i hrow_i (g 4 (3 + i) 5) ) (cwV 1 hts gX1_keptKilos_X1_keptOf rfl rfl rfl (by decide +kernel) ⟨Nat.le_of_ble_eq_true rfl, Nat.le_of_ble_eq_true rfl⟩) hB hC hS rfl hl.1 (Nat.le_of_ble_eq_true rfl) dX1_keptKilos_21 ⟨Nat.le_of_ble_eq_true rfl, Nat.le_of_ble_eq_true rfl⟩ (fun H locs hC hS => ?_)
  refine lv_iadd hx hb dX1_keptKilos_24 ?_
  refine lv_istore_n (lv' := [(1, .int ((((((0 + (fX1_keptOf (g 3 (3 + i) 4) (g 4 (3 + i) 0))) + (fX1_keptOf (g 3 (3 + i) 4) (g 4 (3 + i) 1))) + (fX1_keptOf (g 3 (3 + i) 4) (g 4 (3 + i) 2))) + (fX1_keptOf (g 3 (3 + i) 4) (g 4 (3 + i) 3))) + (fX1_keptOf (g 3 (3 + i) 4) (g 4 (3 + i) 4))) + (fX1_keptOf (g 3 (3 + i) 4) (g 4 (3 + i) 5)))), (2, .int 5), (0, .ref (ad 4 i))]) hx hb dX1_keptKilos_25 rfl hl (by decide) rfl (fun ls hl => ?_)
  refine lv_iinc (v := 6) (lv' := [(2, .int 6), (1, .int ((((((0 + (fX1_keptOf (g 3 (3 + i) 4) (g 4 (3 + i) 0))) + (fX1_keptOf (g 3 (3 + i) 4) (g 4 (3 + i) 1))) + (fX1_keptOf (g 3 (3 + i) 4) (g 4 (3 + i) 2))) + (fX1_keptOf (g 3 (3 + i) 4) (g 4 (3 + i) 3))) + (fX1_keptOf (g 3 (3 + i) 4) (g 4 (3 + i) 4))) + (fX1_keptOf (g 3 (3 + i) 4) (g 4 (3 + i) 5)))), (0, .ref (ad 4 i))]) hx hb dX1_keptKilos_26 hl (k := 1) rfl (by decide) (by decide) rfl (fun ls hl => ?_)
  refine lv_goto (tgt := 4) hx hb dX1_keptKilos_29 (by decide) ?_
  refine lv_iload_n hx hb dX1_keptKilos_4 rfl (lv_at hl 0 rfl) ?_
  refine lv_bipush (v := 6) hx hb dX1_keptKilos_5 (by decide) ?_
  refine lv_icmp_ge (tgt := 32) hx hb dX1_keptKilos_7 (by decide) (fun _ => ?_) (fun c => absurd c (by decide))
  refine lv_iload_n hx hb dX1_keptKilos_32 rfl (lv_at hl 1 rfl) ?_
  exact q_reti hx hb hr hB hC hS rfl rfl hlocks dX1_keptKilos_33
