def fX0_fill (g : Gd) (b : Nat) (x : Int32) (y : Int32) (z : Int32) (w : Int32) : Gd := (up (up (up (up g 2 b 0 x) 2 b 1 y) 2 b 2 z) 2 b 5 w)
theorem qX0_fill_w1 : Cond.fieldLink RX0 9 "CherryStation$Basket" "farm" "I" ∈ wsX0_fill := List.mem_of_getElem? (i := 1) rfl
theorem qX0_fill_w2 : Cond.fieldLink RX0 15 "CherryStation$Basket" "kilos" "I" ∈ wsX0_fill := List.mem_of_getElem? (i := 2) rfl
theorem qX0_fill_w3 : Cond.fieldLink RX0 18 "CherryStation$Basket" "ripe" "I" ∈ wsX0_fill := List.mem_of_getElem? (i := 3) rfl
theorem qX0_fill_w4 : Cond.fieldLink RX0 27 "CherryStation$Basket" "isCertified" "Z" ∈ wsX0_fill := List.mem_of_getElem? (i := 4) rfl
theorem iX0_fill_X0 : ∀ w ∈ wsX00, w ∈ wsX0_fill := fun _ h => (List.mem_cons_of_mem _ (List.mem_append_right _ h))
set_option maxRecDepth 100000 in
set_option maxHeartbeats 4000000 in
theorem kX0_fill (l : Launch) (D : va_G) (cy : Nat → ClassId) {ad : Nat → Nat → Nat} (hI : cI ad) (g : Gd) (sz : Nat) (b : Nat) (hrow_b : b < 20) (x : Int32) (y : Int32) (z : Int32) (w : Int32) (hw : w = 0 ∨ w = 1) : Met l yX0_fill wsX0_fill ({ frames := 0, cells := 0, slots := 0, locals := 0 } : Room) (va_Pc [.ref (ad 2 b), .int x, .int y, .int z, .int w] (cPre D cy ad g sz)) (cQv D cy ad (fX0_fill g b x y z w) sz) 0 0 (cA ad sz) := by
  refine q_start (cc := cX0_fill) (maxL := 5) (ret := none) (own := RX0) (by decide) rfl rfl (Nat.le_of_ble_eq_true rfl) ?_
  intro p e s m below meth c hx hb hr hml hts hown hlocks ⟨hsz, hC, hB⟩ ls hl
  subst hsz
  have hS : va_S (cA ad s.heap.size) s.heap s.heap [] := va_S.rf
  have hA : ∀ κ i : Nat, cV κ i → cA ad s.heap.size (ad κ i) := fun κ i h => Or.inl ⟨κ, i, h, rfl⟩
  have hl : lv_has ls 5 [(0, .ref (ad 2 b)), (1, .int x), (2, .int y), (3, .int z), (4, .int w)] := hl
  refine lv_aload_n hx hb dX0_fill_0 rfl (lv_at hl 0 rfl) ?_
  refine lv_iload_n hx hb dX0_fill_1 rfl (lv_at hl 1 rfl) ?_
  refine pt_2_0 hx hb hts iX0_fill_X0 hown hB.1 hC hI hS hA hrow_b qX0_fill_w1 dX0_fill_2 (fun H locs hC hS => ?_)
  refine lv_aload_n hx hb dX0_fill_5 rfl (lv_at hl 0 rfl) ?_
  refine lv_iload_n hx hb dX0_fill_6 rfl (lv_at hl 2 rfl) ?_
  refine pt_2_1 hx hb hts iX0_fill_X0 hown hB.1 hC hI hS hA hrow_b qX0_fill_w2 dX0_fill_7 (fun H locs hC hS => ?_)
  refine lv_aload_n hx hb dX0_fill_10 rfl (lv_at hl 0 rfl) ?_
  refine lv_iload_n hx hb dX0_fill_11 rfl (lv_at hl 3 rfl) ?_
  refine pt_2_2 hx hb hts iX0_fill_X0 hown hB.1 hC hI hS hA hrow_b qX0_fill_w3 dX0_fill_12 (fun H locs hC hS => ?_)
  refine lv_aload_n hx hb dX0_fill_15 rfl (lv_at hl 0 rfl) ?_
  refine lv_iload hx hb dX0_fill_16 (lv_at hl 4 rfl) ?_
  refine pt_2_5 hx hb hts iX0_fill_X0 hown hB.1 hC hI hS hA hrow_b qX0_fill_w4 (q_nb hw) (q_fb hw) dX0_fill_18 (fun H locs hC hS => ?_)
  exact q_retv hx hb hr hB hC hS rfl hlocks dX0_fill_21
def fX0_spoilsInHour (g : Gd) (b : Nat) : Int32 × Gd := if (g 2 b 3) = 0 then (if 24 < ((g 2 b 4) + 1) then ((1, (up (up g 2 b 4 ((g 2 b 4) + 1)) 2 b 3 3))) else ((0, (up g 2 b 4 ((g 2 b 4) + 1))))) else ((0, g))
theorem qX0_spoilsInHour_w1 : Cond.fieldLink RX0 21 "CherryStation$Basket" "state" "I" ∈ wsX0_spoilsInHour := List.mem_of_getElem? (i := 1) rfl
theorem qX0_spoilsInHour_w2 : Cond.fieldLink RX0 24 "CherryStation$Basket" "age" "I" ∈ wsX0_spoilsInHour := List.mem_of_getElem? (i := 2) rfl
theorem iX0_spoilsInHour_X0 : ∀ w ∈ wsX00, w ∈ wsX0_spoilsInHour := fun _ h => (List.mem_cons_of_mem _ (List.mem_append_right _ h))
set_option maxRecDepth 100000 in
set_option maxHeartbeats 4000000 in
theorem kX0_spoilsInHour (l : Launch) (D : va_G) (cy : Nat → ClassId) {ad : Nat → Nat → Nat} (hI : cI ad) (g : Gd) (sz : Nat) (b : Nat) (hrow_b : b < 20) : Met l yX0_spoilsInHour wsX0_spoilsInHour ({ frames := 0, cells := 0, slots := 0, locals := 0 } : Room) (va_Pc [.ref (ad 2 b)] (cPre D cy ad g sz)) (cQi D cy ad (fX0_spoilsInHour g b).1 (fX0_spoilsInHour g b).2 sz) 0 0 (cA ad sz) := by
  refine q_start (cc := cX0_spoilsInHour) (maxL := 1) (ret := (some .boolean)) (own := RX0) (by decide) rfl rfl (Nat.le_of_ble_eq_true rfl) ?_
  intro p e s m below meth c hx hb hr hml hts hown hlocks ⟨hsz, hC, hB⟩ ls hl
  subst hsz
  have hS : va_S (cA ad s.heap.size) s.heap s.heap [] := va_S.rf
  have hA : ∀ κ i : Nat, cV κ i → cA ad s.heap.size (ad κ i) := fun κ i h => Or.inl ⟨κ, i, h, rfl⟩
  have hl : lv_has ls 1 [(0, .ref (ad 2 b))] := hl
  refine lv_aload_n hx hb dX0_spoilsInHour_0 rfl (lv_at hl 0 rfl) ?_
  refine gt_2_3 hx hb hts iX0_spoilsInHour_X0 hown hB.1 hC hrow_b qX0_spoilsInHour_w1 dX0_spoilsInHour_1 ?_
  refine lv_if_eq (tgt := 9) hx hb dX0_spoilsInHour_4 (by decide) (fun c1 => ?_) (fun c1 => ?_)
  · skip
    refine lv_aload_n hx hb dX0_spoilsInHour_9 rfl (lv_at hl 0 rfl) ?_
    refine lv_dup hx hb dX0_spoilsInHour_10 rfl ?_
    refine gt_2_4 hx hb hts iX0_spoilsInHour_X0 hown hB.1 hC hrow_b qX0_spoilsInHour_w2 dX0_spoilsInHour_11 ?_
    refine lv_iconst (v := 1) hx hb dX0_spoilsInHour_14 (by decide) ?_
    refine lv_iadd hx hb dX0_spoilsInHour_15 ?_
    refine pt_2_4 hx hb hts iX0_spoilsInHour_X0 hown hB.1 hC hI hS hA hrow_b qX0_spoilsInHour_w2 dX0_spoilsInHour_16 (fun H locs hC hS => ?_)
    refine lv_aload_n hx hb dX0_spoilsInHour_19 rfl (lv_at hl 0 rfl) ?_
    refine gt_2_4 hx hb hts iX0_spoilsInHour_X0 hown hB.1 hC hrow_b qX0_spoilsInHour_w2 dX0_spoilsInHour_20 ?_
    refine q_val (v := (g 2 b 4) + 1) (up_eq _ _ _ _ _) ?_
    refine lv_bipush (v := 24) hx hb dX0_spoilsInHour_23 (by decide) ?_
    refine lv_icmp_gt (tgt := 30) hx hb dX0_spoilsInHour_25 (by decide) (fun c2 => ?_) (fun c2 => ?_)
    · skip
      refine lv_aload_n hx hb dX0_spoilsInHour_30 rfl (lv_at hl 0 rfl) ?_
      refine lv_iconst (v := 3) hx hb dX0_spoilsInHour_31 (by decide) ?_
      refine pt_2_3 hx hb hts iX0_spoilsInHour_X0 hown hB.1 hC hI hS hA hrow_b qX0_spoilsInHour_w1 dX0_spoilsInHour_32 (fun H locs hC hS => ?_)
      refine lv_iconst (v := 1) hx hb dX0_spoilsInHour_35 (by decide) ?_
      have e9 : fX0_spoilsInHour g b = (1, (up (up g 2 b 4 ((g 2 b 4) + 1)) 2 b 3 3)) := (by unfold fX0_spoilsInHour; rw [if_pos c1, if_pos c2])
      exact q_retz hx hb hr hB hC hS (by rw [e9]) (by rw [e9]) rfl hlocks dX0_spoilsInHour_36
    · skip
      refine lv_iconst (v := 0) hx hb dX0_spoilsInHour_28 (by decide) ?_
      have e9 : fX0_spoilsInHour g b = (0, (up g 2 b 4 ((g 2 b 4) + 1))) := (by unfold fX0_spoilsInHour; rw [if_pos c1, if_neg c2])
      exact q_retz hx hb hr hB hC hS (by rw [e9]) (by rw [e9]) rfl hlocks dX0_spoilsInHour_29
  · skip
    refine lv_iconst (v := 0) hx hb dX0_spoilsInHour_7 (by decide) ?_
    have e9 : fX0_spoilsInHour g b = (0, g) := (by unfold fX0_spoilsInHour; rw [if_neg c1])
    exact q_retz hx hb hr hB hC hS (by rw [e9]) (by rw [e9]) rfl hlocks dX0_spoilsInHour_8
def fX5_takes (g : Gd) (i : Nat) (x : Int32) : Int32 := if (fX4_isEmpty (g 3 i 0)) = 0 then (if 8 < (g 3 i 2) then (0) else (if 300 < ((g 3 i 0) + x) then (0) else (1))) else (if 300 < ((g 3 i 0) + x) then (0) else (1))
theorem qX5_takes_w1 : Cond.fieldLink RX5 10 "CherryStation$Tank" "mix" "LCherryStation$Mix;" ∈ wsX5_takes := List.mem_of_getElem? (i := 1) rfl
theorem qX5_takes_w2 : Cond.fieldLink RX5 16 "CherryStation$Tank" "age" "I" ∈ wsX5_takes := List.mem_of_getElem? (i := 2) rfl
theorem qX5_takes_w3 : Cond.fieldLink RX5 27 "CherryStation$Mix" "kilos" "I" ∈ wsX5_takes := List.mem_of_getElem? (i := 3) rfl
theorem iX5_takes_X4 : ∀ w ∈ wsX40, w ∈ wsX5_takes := fun _ h => (List.mem_cons_of_mem _ (List.mem_append_right _ h))
theorem iX5_takes_X5 : ∀ w ∈ wsX50, w ∈ wsX5_takes := fun _ h => (List.mem_cons_of_mem _ (List.mem_append_left _ (List.mem_append_right _ h)))
set_option maxRecDepth 100000 in
set_option maxHeartbeats 4000000 in
theorem kX5_takes (l : Launch) (D : va_G) (cy : Nat → ClassId) {ad : Nat → Nat → Nat} (hI : cI ad) (g : Gd) (sz : Nat) (i : Nat) (hrow_i : i < 3) (x : Int32) : Met l yX5_takes wsX5_takes ({ frames := 1, cells := 0, slots := 0, locals := 20 } : Room) (va_Pc [.ref (ad 3 i), .int x] (cPre D cy ad g sz)) (cQi D cy ad (fX5_takes g i x) g sz) 0 0 (cA ad sz) := by
  refine q_start (cc := cX5_takes) (maxL := 2) (ret := (some .boolean)) (own := RX5) (by decide) rfl rfl (Nat.le_of_ble_eq_true rfl) ?_
  intro p e s m below meth c hx hb hr hml hts hown hlocks ⟨hsz, hC, hB⟩ ls hl
  subst hsz
  have hS : va_S (cA ad s.heap.size) s.heap s.heap [] := va_S.rf
  have hA : ∀ κ i : Nat, cV κ i → cA ad s.heap.size (ad κ i) := fun κ i h => Or.inl ⟨κ, i, h, rfl⟩
  have hl : lv_has ls 2 [(0, .ref (ad 3 i)), (1, .int x)] := hl
  refine lv_aload_n hx hb dX5_takes_0 rfl (lv_at hl 0 rfl) ?_
  refine gt_3_0 hx hb hts iX5_takes_X5 hown hB.1 hC hrow_i qX5_takes_w1 dX5_takes_1 ?_
  refine q_callVi (As := []) (κ := 6) (i := i) (show i < 21 from (by omega)) rfl ⟨_, rfl⟩ rfl ⟨hx, hb, hml, hown, hts⟩ (kX4_isEmpty l D cy hI g _ i (by omega)  ) (cwV 0 hts gX5_takes_X4_isEmpty rfl rfl rfl (by decide +kernel) ⟨Nat.le_of_ble_eq_true rfl, Nat.le_of_ble_eq_true rfl⟩) hB hC hS rfl hl.1 (Nat.le_of_ble_eq_true rfl) dX5_takes_4 ⟨Nat.le_of_ble_eq_true rfl, Nat.le_of_ble_eq_true rfl⟩ (fun H locs hC hS => ?_)
  refine lv_if_ne (tgt := 19) hx hb dX5_takes_7 (by decide) (fun c1 => ?_) (fun c1 => ?_)
  · skip
    refine lv_aload_n hx hb dX5_takes_19 rfl (lv_at hl 0 rfl) ?_
    refine gt_3_0 hx hb hts iX5_takes_X5 hown hB.1 hC hrow_i qX5_takes_w1 dX5_takes_20 ?_
    refine gt_6_2 hx hb hts iX5_takes_X4 hown hB.1 hC (by omega) qX5_takes_w3 dX5_takes_23 ?_
    refine lv_iload_n hx hb dX5_takes_26 rfl (lv_at hl 1 rfl) ?_
    refine lv_iadd hx hb dX5_takes_27 ?_
    refine lv_sipush (v := 300) hx hb dX5_takes_28 (by decide) ?_
    refine lv_icmp_gt (tgt := 38) hx hb dX5_takes_31 (by decide) (fun c2 => ?_) (fun c2 => ?_)
    · skip
      refine lv_iconst (v := 0) hx hb dX5_takes_38 (by decide) ?_
      exact q_retz hx hb hr hB hC hS rfl (by unfold fX5_takes; rw [if_neg c1, if_pos c2]) rfl hlocks dX5_takes_39
    · skip
      refine lv_iconst (v := 1) hx hb dX5_takes_34 (by decide) ?_
      refine lv_goto (tgt := 39) hx hb dX5_takes_35 (by decide) ?_
      exact q_retz hx hb hr hB hC hS rfl (by unfold fX5_takes; rw [if_neg c1, if_neg c2]) rfl hlocks dX5_takes_39
  · skip
    refine lv_aload_n hx hb dX5_takes_10 rfl (lv_at hl 0 rfl) ?_
    refine gt_3_1 hx hb hts iX5_takes_X5 hown hB.1 hC hrow_i qX5_takes_w2 dX5_takes_11 ?_
    refine lv_bipush (v := 8) hx hb dX5_takes_14 (by decide) ?_
    refine lv_icmp_gt (tgt := 38) hx hb dX5_takes_16 (by decide) (fun c3 => ?_) (fun c3 => ?_)
    · skip
      refine lv_iconst (v := 0) hx hb dX5_takes_38 (by decide) ?_
      exact q_retz hx hb hr hB hC hS rfl (by unfold fX5_takes; rw [if_pos c1, if_pos c3]) rfl hlocks dX5_takes_39
    · skip
      refine lv_aload_n hx hb dX5_takes_19 rfl (lv_at hl 0 rfl) ?_
      refine gt_3_0 hx hb hts iX5_takes_X5 hown hB.1 hC hrow_i qX5_takes_w1 dX5_takes_20 ?_
      refine gt_6_2 hx hb hts iX5_takes_X4 hown hB.1 hC (by omega) qX5_takes_w3 dX5_takes_23 ?_
      refine lv_iload_n hx hb dX5_takes_26 rfl (lv_at hl 1 rfl) ?_
      refine lv_iadd hx hb dX5_takes_27 ?_
      refine lv_sipush (v := 300) hx hb dX5_takes_28 (by decide) ?_
      refine lv_icmp_gt (tgt := 38) hx hb dX5_takes_31 (by decide) (fun c4 => ?_) (fun c4 => ?_)
      · skip
        refine lv_iconst (v := 0) hx hb dX5_takes_38 (by decide) ?_
        exact q_retz hx hb hr hB hC hS rfl (by unfold fX5_takes; rw [if_pos c1, if_neg c3, if_pos c4]) rfl hlocks dX5_takes_39
      · skip
        refine lv_iconst (v := 1) hx hb dX5_takes_34 (by decide) ?_
        refine lv_goto (tgt := 39) hx hb dX5_takes_35 (by decide) ?_
        exact q_retz hx hb hr hB hC hS rfl (by unfold fX5_takes; rw [if_pos c1, if_neg c3, if_neg c4]) rfl hlocks dX5_takes_39
def fX5_pointsAnHour (k : Int32) (x : Int32) : Int32 := (x / 4) + (k / 100)
theorem qX5_pointsAnHour_w1 : Cond.fieldLink RX5 10 "CherryStation$Tank" "mix" "LCherryStation$Mix;" ∈ wsX5_pointsAnHour := List.mem_of_getElem? (i := 1) rfl
theorem qX5_pointsAnHour_w2 : Cond.fieldLink RX5 27 "CherryStation$Mix" "kilos" "I" ∈ wsX5_pointsAnHour := List.mem_of_getElem? (i := 2) rfl
theorem iX5_pointsAnHour_X4 : ∀ w ∈ wsX40, w ∈ wsX5_pointsAnHour := fun _ h => (List.mem_cons_of_mem _ (List.mem_append_right _ h))
theorem iX5_pointsAnHour_X5 : ∀ w ∈ wsX50, w ∈ wsX5_pointsAnHour := fun _ h => (List.mem_cons_of_mem _ (List.mem_append_left _ (List.mem_append_right _ h)))
set_option maxRecDepth 100000 in
set_option maxHeartbeats 4000000 in
theorem kX5_pointsAnHour (l : Launch) (D : va_G) (cy : Nat → ClassId) {ad : Nat → Nat → Nat} (hI : cI ad) (g : Gd) (sz : Nat) (i : Nat) (hrow_i : i < 3) (x : Int32) : Met l yX5_pointsAnHour wsX5_pointsAnHour ({ frames := 0, cells := 0, slots := 0, locals := 0 } : Room) (va_Pc [.ref (ad 3 i), .int x] (cPre D cy ad g sz)) (cQi D cy ad (fX5_pointsAnHour (g 3 i 0) x) g sz) 0 0 (cA ad sz) := by
  refine q_start (cc := cX5_pointsAnHour) (maxL := 2) (ret := (some .int)) (own := RX5) (by decide) rfl rfl (Nat.le_of_ble_eq_true rfl) ?_
  intro p e s m below meth c hx hb hr hml hts hown hlocks ⟨hsz, hC, hB⟩ ls hl
  subst hsz
  have hS : va_S (cA ad s.heap.size) s.heap s.heap [] := va_S.rf
  have hA : ∀ κ i : Nat, cV κ i → cA ad s.heap.size (ad κ i) := fun κ i h => Or.inl ⟨κ, i, h, rfl⟩
  have hl : lv_has ls 2 [(0, .ref (ad 3 i)), (1, .int x)] := hl
  refine lv_iload_n hx hb dX5_pointsAnHour_0 rfl (lv_at hl 1 rfl) ?_
  refine lv_iconst (v := 4) hx hb dX5_pointsAnHour_1 (by decide) ?_
  refine lv_idiv hx hb dX5_pointsAnHour_2 (by decide) ?_
  refine lv_aload_n hx hb dX5_pointsAnHour_3 rfl (lv_at hl 0 rfl) ?_
  refine gt_3_0 hx hb hts iX5_pointsAnHour_X5 hown hB.1 hC hrow_i qX5_pointsAnHour_w1 dX5_pointsAnHour_4 ?_
  refine gt_6_2 hx hb hts iX5_pointsAnHour_X4 hown hB.1 hC (by omega) qX5_pointsAnHour_w2 dX5_pointsAnHour_7 ?_
  refine lv_bipush (v := 100) hx hb dX5_pointsAnHour_10 (by decide) ?_
  refine lv_idiv hx hb dX5_pointsAnHour_12 (by decide) ?_
  refine lv_iadd hx hb dX5_pointsAnHour_13 ?_
  exact q_reti hx hb hr hB hC hS rfl rfl hlocks dX5_pointsAnHour_14
def fX5_passHour (g : Gd) (i : Nat) (x : Int32) : Gd := if (fX4_isEmpty (g 3 i 0)) = 0 then ((up (up g 3 i 2 ((g 3 i 2) + 1)) 3 i 3 ((g 3 i 3) + (fX5_pointsAnHour (g 3 i 0) x)))) else (g)
theorem qX5_passHour_w1 : Cond.fieldLink RX5 10 "CherryStation$Tank" "mix" "LCherryStation$Mix;" ∈ wsX5_passHour := List.mem_of_getElem? (i := 1) rfl
theorem qX5_passHour_w2 : Cond.fieldLink RX5 16 "CherryStation$Tank" "age" "I" ∈ wsX5_passHour := List.mem_of_getElem? (i := 2) rfl
theorem qX5_passHour_w3 : Cond.fieldLink RX5 20 "CherryStation$Tank" "points" "I" ∈ wsX5_passHour := List.mem_of_getElem? (i := 3) rfl
theorem iX5_passHour_X5 : ∀ w ∈ wsX50, w ∈ wsX5_passHour := fun _ h => (List.mem_cons_of_mem _ (List.mem_append_left _ (List.mem_append_right _ h)))
set_option maxRecDepth 100000 in
set_option maxHeartbeats 4000000 in
theorem kX5_passHour (l : Launch) (D : va_G) (cy : Nat → ClassId) {ad : Nat → Nat → Nat} (hI : cI ad) (g : Gd) (sz : Nat) (i : Nat) (hrow_i : i < 3) (x : Int32) : Met l yX5_passHour wsX5_passHour ({ frames := 1, cells := 0, slots := 0, locals := 21 } : Room) (va_Pc [.ref (ad 3 i), .int x] (cPre D cy ad g sz)) (cQv D cy ad (fX5_passHour g i x) sz) 0 0 (cA ad sz) := by
  refine q_start (cc := cX5_passHour) (maxL := 2) (ret := none) (own := RX5) (by decide) rfl rfl (Nat.le_of_ble_eq_true rfl) ?_
  intro p e s m below meth c hx hb hr hml hts hown hlocks ⟨hsz, hC, hB⟩ ls hl
  subst hsz
  have hS : va_S (cA ad s.heap.size) s.heap s.heap [] := va_S.rf
  have hA : ∀ κ i : Nat, cV κ i → cA ad s.heap.size (ad κ i) := fun κ i h => Or.inl ⟨κ, i, h, rfl⟩
  have hl : lv_has ls 2 [(0, .ref (ad 3 i)), (1, .int x)] := hl
  refine lv_aload_n hx hb dX5_passHour_0 rfl (lv_at hl 0 rfl) ?_
  refine gt_3_0 hx hb hts iX5_passHour_X5 hown hB.1 hC hrow_i qX5_passHour_w1 dX5_passHour_1 ?_
  refine q_callVi (As := []) (κ := 6) (i := i) (show i < 21 from (by omega)) rfl ⟨_, rfl⟩ rfl ⟨hx, hb, hml, hown, hts⟩ (kX4_isEmpty l D cy hI g _ i (by omega)  ) (cwV 0 hts gX5_passHour_X4_isEmpty rfl rfl rfl (by decide +kernel) ⟨Nat.le_of_ble_eq_true rfl, Nat.le_of_ble_eq_true rfl⟩) hB hC hS rfl hl.1 (Nat.le_of_ble_eq_true rfl) dX5_passHour_4 ⟨Nat.le_of_ble_eq_true rfl, Nat.le_of_ble_eq_true rfl⟩ (fun H locs hC hS => ?_)
  refine lv_if_ne (tgt := 34) hx hb dX5_passHour_7 (by decide) (fun c1 => ?_) (fun c1 => ?_)
  · skip
    exact q_retv hx hb hr hB hC hS (by unfold fX5_passHour; rw [if_neg c1]) hlocks dX5_passHour_34
  · skip
    refine lv_aload_n hx hb dX5_passHour_10 rfl (lv_at hl 0 rfl) ?_
    refine lv_dup hx hb dX5_passHour_11 rfl ?_
    refine gt_3_1 hx hb hts iX5_passHour_X5 hown hB.1 hC hrow_i qX5_passHour_w2 dX5_passHour_12 ?_
    refine lv_iconst (v := 1) hx hb dX5_passHour_15 (by decide) ?_
    refine lv_iadd hx hb dX5_passHour_16 ?_
    refine pt_3_1 hx hb hts iX5_passHour_X5 hown hB.1 hC hI hS hA hrow_i qX5_passHour_w2 dX5_passHour_17 (fun H locs hC hS => ?_)
    refine lv_aload_n hx hb dX5_passHour_20 rfl (lv_at hl 0 rfl) ?_
    refine lv_dup hx hb dX5_passHour_21 rfl ?_
    refine gt_3_2 hx hb hts iX5_passHour_X5 hown hB.1 hC hrow_i qX5_passHour_w3 dX5_passHour_22 ?_
    refine q_val (v := g 3 i 3) ((up_nk (by decide)).trans rfl) ?_
    refine lv_aload_n hx hb dX5_passHour_25 rfl (lv_at hl 0 rfl) ?_
    refine lv_iload_n hx hb dX5_passHour_26 rfl (lv_at hl 1 rfl) ?_
    refine q_callVi (As := [.int x]) (κ := 3) (i := i) (show i < 3 from hrow_i) rfl ⟨_, rfl⟩ rfl ⟨hx, hb, hml, hown, hts⟩ (kX5_pointsAnHour l D cy hI (up g 3 i 2 ((g 3 i 2) + 1)) _ i hrow_i x ) (cwV 1 hts gX5_passHour_X5_pointsAnHour rfl rfl rfl (by decide +kernel) ⟨Nat.le_of_ble_eq_true rfl, Nat.le_of_ble_eq_true rfl⟩) hB hC hS rfl hl.1 (Nat.le_of_ble_eq_true rfl) dX5_passHour_27 ⟨Nat.le_of_ble_eq_true rfl, Nat.le_of_ble_eq_true rfl⟩ (fun H locs hC hS => ?_)
    refine q_val (v := fX5_pointsAnHour (g 3 i 0) x) (by rw [(show (up g 3 i 2 ((g 3 i 2) + 1)) 3 i 0 = g 3 i 0 from ((up_nk (by decide)).trans rfl))]) ?_
    refine lv_iadd hx hb dX5_passHour_30 ?_
    refine pt_3_2 hx hb hts iX5_passHour_X5 hown hB.1 hC hI hS hA hrow_i qX5_passHour_w3 dX5_passHour_31 (fun H locs hC hS => ?_)
    exact q_retv hx hb hr hB hC hS (by unfold fX5_passHour; rw [if_pos c1]) hlocks dX5_passHour_34
def fX5_empty (g : Gd) (i : Nat) : Gd := (up (up (fX4_clear g i) 3 i 2 0) 3 i 3 0)
theorem qX5_empty_w1 : Cond.fieldLink RX5 10 "CherryStation$Tank" "mix" "LCherryStation$Mix;" ∈ wsX5_empty := List.mem_of_getElem? (i := 1) rfl
theorem qX5_empty_w2 : Cond.fieldLink RX5 16 "CherryStation$Tank" "age" "I" ∈ wsX5_empty := List.mem_of_getElem? (i := 2) rfl
theorem qX5_empty_w3 : Cond.fieldLink RX5 20 "CherryStation$Tank" "points" "I" ∈ wsX5_empty := List.mem_of_getElem? (i := 3) rfl
theorem iX5_empty_X5 : ∀ w ∈ wsX50, w ∈ wsX5_empty := fun _ h => (List.mem_cons_of_mem _ (List.mem_append_left _ (List.mem_append_right _ h)))
set_option maxRecDepth 100000 in
set_option maxHeartbeats 4000000 in
theorem kX5_empty (l : Launch) (D : va_G) (cy : Nat → ClassId) {ad : Nat → Nat → Nat} (hI : cI ad) (g : Gd) (sz : Nat) (i : Nat) (hrow_i : i < 3) : Met l yX5_empty wsX5_empty ({ frames := 1, cells := 0, slots := 0, locals := 21 } : Room) (va_Pc [.ref (ad 3 i)] (cPre D cy ad g sz)) (cQv D cy ad (fX5_empty g i) sz) 0 0 (cA ad sz) := by
  refine q_start (cc := cX5_empty) (maxL := 1) (ret := none) (own := RX5) (by decide) rfl rfl (Nat.le_of_ble_eq_true rfl) ?_
  intro p e s m below meth c hx hb hr hml hts hown hlocks ⟨hsz, hC, hB⟩ ls hl
  subst hsz
  have hS : va_S (cA ad s.heap.size) s.heap s.heap [] := va_S.rf
  have hA : ∀ κ i : Nat, cV κ i → cA ad s.heap.size (ad κ i) := fun κ i h => Or.inl ⟨κ, i, h, rfl⟩
  have hl : lv_has ls 1 [(0, .ref (ad 3 i))] := hl
  refine lv_aload_n hx hb dX5_empty_0 rfl (lv_at hl 0 rfl) ?_
  refine gt_3_0 hx hb hts iX5_empty_X5 hown hB.1 hC hrow_i qX5_empty_w1 dX5_empty_1 ?_
  refine q_callVv (As := []) (κ := 6) (i := i) (show i < 21 from (by omega)) rfl ⟨_, rfl⟩ rfl ⟨hx, hb, hml, hown, hts⟩ (kX4_clear l D cy hI g _ i (by omega)  ) (cwV 0 hts gX5_empty_X4_clear rfl rfl rfl (by decide +kernel) ⟨Nat.le_of_ble_eq_true rfl, Nat.le_of_ble_eq_true rfl⟩) hB hC hS rfl hl.1 (Nat.le_of_ble_eq_true rfl) dX5_empty_4 ⟨Nat.le_of_ble_eq_true rfl, Nat.le_of_ble_eq_true rfl⟩ (fun H locs hC hS => ?_)
  refine lv_aload_n hx hb dX5_empty_7 rfl (lv_at hl 0 rfl) ?_
  refine lv_iconst (v := 0) hx hb dX5_empty_8 (by decide) ?_
  refine pt_3_1 hx hb hts iX5_empty_X5 hown hB.1 hC hI hS hA hrow_i qX5_empty_w2 dX5_empty_9 (fun H locs hC hS => ?_)
  refine lv_aload_n hx hb dX5_empty_12 rfl (lv_at hl 0 rfl) ?_
  refine lv_iconst (v := 0) hx hb dX5_empty_13 (by decide) ?_
  refine pt_3_2 hx hb hts iX5_empty_X5 hown hB.1 hC hI hS hA hrow_i qX5_empty_w3 dX5_empty_14 (fun H locs hC hS => ?_)
  exact q_retv hx hb hr hB hC hS rfl hlocks dX5_empty_17
