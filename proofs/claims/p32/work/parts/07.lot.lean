def fX3_forgetReadings (g : Gd) (i : Nat) : Gd := (up (up (up g 6 i 0 (-1)) 6 i 1 (-1)) 6 i 2 (-1))
theorem qX3_forgetReadings_w1 : Cond.fieldLink RX3 18 "CherryStation$Lot" "readings" "[I" ∈ wsX3_forgetReadings := List.mem_of_getElem? (i := 1) rfl
theorem iX3_forgetReadings_X3 : ∀ w ∈ wsX30, w ∈ wsX3_forgetReadings := fun _ h => (List.mem_cons_of_mem _ (List.mem_append_right _ h))
set_option maxRecDepth 100000 in
set_option maxHeartbeats 4000000 in
theorem kX3_forgetReadings (l : Launch) (D : va_G) (cy : Nat → ClassId) {ad : Nat → Nat → Nat} (hI : cI ad) (g : Gd) (sz : Nat) (i : Nat) (hrow_i : i < 13) : Met l yX3_forgetReadings wsX3_forgetReadings ({ frames := 0, cells := 0, slots := 0, locals := 0 } : Room) (va_Pc [.ref (ad 5 i)] (cPre D cy ad g sz)) (cQv D cy ad (fX3_forgetReadings g i) sz) 0 0 (cA ad sz) := by
  refine q_start (cc := cX3_forgetReadings) (maxL := 2) (ret := none) (own := RX3) (by decide) rfl rfl (Nat.le_of_ble_eq_true rfl) ?_
  intro p e s m below meth c hx hb hr hml hts hown hlocks ⟨hsz, hC, hB⟩ ls hl
  subst hsz
  have hS : va_S (cA ad s.heap.size) s.heap s.heap [] := va_S.rf
  have hA : ∀ κ i : Nat, cV κ i → cA ad s.heap.size (ad κ i) := fun κ i h => Or.inl ⟨κ, i, h, rfl⟩
  have hl : lv_has ls 2 [(0, .ref (ad 5 i))] := hl
  refine lv_iconst (v := 0) hx hb dX3_forgetReadings_0 (by decide) ?_
  refine lv_istore_n (lv' := [(1, .int 0), (0, .ref (ad 5 i))]) hx hb dX3_forgetReadings_1 rfl hl (by decide) rfl (fun ls hl => ?_)
  refine lv_iload_n hx hb dX3_forgetReadings_2 rfl (lv_at hl 0 rfl) ?_
  refine lv_aload_n hx hb dX3_forgetReadings_3 rfl (lv_at hl 1 rfl) ?_
  refine gt_5_1 hx hb hts iX3_forgetReadings_X3 hown hB.1 hC hrow_i qX3_forgetReadings_w1 dX3_forgetReadings_4 ?_
  refine ln_9 hx hb hB.1 hC hrow_i dX3_forgetReadings_7 ?_
  refine lv_icmp_ge (tgt := 24) hx hb dX3_forgetReadings_8 (by decide) (fun c => absurd c (by decide)) (fun _ => ?_)
  refine lv_aload_n hx hb dX3_forgetReadings_11 rfl (lv_at hl 1 rfl) ?_
  refine gt_5_1 hx hb hts iX3_forgetReadings_X3 hown hB.1 hC hrow_i qX3_forgetReadings_w1 dX3_forgetReadings_12 ?_
  refine lv_iload_n hx hb dX3_forgetReadings_15 rfl (lv_at hl 0 rfl) ?_
  refine lv_iconst (v := (-1)) hx hb dX3_forgetReadings_16 (by decide) ?_
  refine st_9 hx hb hB.1 hC hI hS hA hrow_i (k := 0) (by decide) (by unfold vp_in; decide) dX3_forgetReadings_17 (fun H locs hC hS => ?_)
  refine lv_iinc (v := 1) (lv' := [(1, .int 1), (0, .ref (ad 5 i))]) hx hb dX3_forgetReadings_18 hl (k := 0) rfl (by decide) (by decide) rfl (fun ls hl => ?_)
  refine lv_goto (tgt := 2) hx hb dX3_forgetReadings_21 (by decide) ?_
  refine lv_iload_n hx hb dX3_forgetReadings_2 rfl (lv_at hl 0 rfl) ?_
  refine lv_aload_n hx hb dX3_forgetReadings_3 rfl (lv_at hl 1 rfl) ?_
  refine gt_5_1 hx hb hts iX3_forgetReadings_X3 hown hB.1 hC hrow_i qX3_forgetReadings_w1 dX3_forgetReadings_4 ?_
  refine ln_9 hx hb hB.1 hC hrow_i dX3_forgetReadings_7 ?_
  refine lv_icmp_ge (tgt := 24) hx hb dX3_forgetReadings_8 (by decide) (fun c => absurd c (by decide)) (fun _ => ?_)
  refine lv_aload_n hx hb dX3_forgetReadings_11 rfl (lv_at hl 1 rfl) ?_
  refine gt_5_1 hx hb hts iX3_forgetReadings_X3 hown hB.1 hC hrow_i qX3_forgetReadings_w1 dX3_forgetReadings_12 ?_
  refine lv_iload_n hx hb dX3_forgetReadings_15 rfl (lv_at hl 0 rfl) ?_
  refine lv_iconst (v := (-1)) hx hb dX3_forgetReadings_16 (by decide) ?_
  refine st_9 hx hb hB.1 hC hI hS hA hrow_i (k := 1) (by decide) (by unfold vp_in; decide) dX3_forgetReadings_17 (fun H locs hC hS => ?_)
  refine lv_iinc (v := 2) (lv' := [(1, .int 2), (0, .ref (ad 5 i))]) hx hb dX3_forgetReadings_18 hl (k := 0) rfl (by decide) (by decide) rfl (fun ls hl => ?_)
  refine lv_goto (tgt := 2) hx hb dX3_forgetReadings_21 (by decide) ?_
  refine lv_iload_n hx hb dX3_forgetReadings_2 rfl (lv_at hl 0 rfl) ?_
  refine lv_aload_n hx hb dX3_forgetReadings_3 rfl (lv_at hl 1 rfl) ?_
  refine gt_5_1 hx hb hts iX3_forgetReadings_X3 hown hB.1 hC hrow_i qX3_forgetReadings_w1 dX3_forgetReadings_4 ?_
  refine ln_9 hx hb hB.1 hC hrow_i dX3_forgetReadings_7 ?_
  refine lv_icmp_ge (tgt := 24) hx hb dX3_forgetReadings_8 (by decide) (fun c => absurd c (by decide)) (fun _ => ?_)
  refine lv_aload_n hx hb dX3_forgetReadings_11 rfl (lv_at hl 1 rfl) ?_
  refine gt_5_1 hx hb hts iX3_forgetReadings_X3 hown hB.1 hC hrow_i qX3_forgetReadings_w1 dX3_forgetReadings_12 ?_
  refine lv_iload_n hx hb dX3_forgetReadings_15 rfl (lv_at hl 0 rfl) ?_
  refine lv_iconst (v := (-1)) hx hb dX3_forgetReadings_16 (by decide) ?_
  refine st_9 hx hb hB.1 hC hI hS hA hrow_i (k := 2) (by decide) (by unfold vp_in; decide) dX3_forgetReadings_17 (fun H locs hC hS => ?_)
  refine lv_iinc (v := 3) (lv' := [(1, .int 3), (0, .ref (ad 5 i))]) hx hb dX3_forgetReadings_18 hl (k := 0) rfl (by decide) (by decide) rfl (fun ls hl => ?_)
  refine lv_goto (tgt := 2) hx hb dX3_forgetReadings_21 (by decide) ?_
  refine lv_iload_n hx hb dX3_forgetReadings_2 rfl (lv_at hl 0 rfl) ?_
  refine lv_aload_n hx hb dX3_forgetReadings_3 rfl (lv_at hl 1 rfl) ?_
  refine gt_5_1 hx hb hts iX3_forgetReadings_X3 hown hB.1 hC hrow_i qX3_forgetReadings_w1 dX3_forgetReadings_4 ?_
  refine ln_9 hx hb hB.1 hC hrow_i dX3_forgetReadings_7 ?_
  refine lv_icmp_ge (tgt := 24) hx hb dX3_forgetReadings_8 (by decide) (fun _ => ?_) (fun c => absurd c (by decide))
  exact q_retv hx hb hr hB hC hS rfl hlocks dX3_forgetReadings_24
def fX3_grade (g : Gd) (i : Nat) : Int32 := if (g 6 i 0) = (-1) then (if (g 6 i 1) = (-1) then (if (g 6 i 2) = (-1) then ((-1)) else ((0 + (g 6 i 2)) / 1)) else (if (g 6 i 2) = (-1) then ((0 + (g 6 i 1)) / 1) else (((0 + (g 6 i 1)) + (g 6 i 2)) / 2))) else (if (g 6 i 1) = (-1) then (if (g 6 i 2) = (-1) then ((0 + (g 6 i 0)) / 1) else (((0 + (g 6 i 0)) + (g 6 i 2)) / 2)) else (if (g 6 i 2) = (-1) then (((0 + (g 6 i 0)) + (g 6 i 1)) / 2) else ((((0 + (g 6 i 0)) + (g 6 i 1)) + (g 6 i 2)) / 3)))
theorem qX3_grade_w1 : Cond.fieldLink RX3 18 "CherryStation$Lot" "readings" "[I" ∈ wsX3_grade := List.mem_of_getElem? (i := 1) rfl
theorem iX3_grade_X3 : ∀ w ∈ wsX30, w ∈ wsX3_grade := fun _ h => (List.mem_cons_of_mem _ (List.mem_append_right _ h))
set_option maxRecDepth 100000 in
set_option maxHeartbeats 4000000 in
theorem kX3_grade (l : Launch) (D : va_G) (cy : Nat → ClassId) {ad : Nat → Nat → Nat} (hI : cI ad) (g : Gd) (sz : Nat) (i : Nat) (hrow_i : i < 13) : Met l yX3_grade wsX3_grade ({ frames := 0, cells := 0, slots := 0, locals := 0 } : Room) (va_Pc [.ref (ad 5 i)] (cPre D cy ad g sz)) (cQi D cy ad (fX3_grade g i) g sz) 0 0 (cA ad sz) := by
  refine q_start (cc := cX3_grade) (maxL := 4) (ret := (some .int)) (own := RX3) (by decide) rfl rfl (Nat.le_of_ble_eq_true rfl) ?_
  intro p e s m below meth c hx hb hr hml hts hown hlocks ⟨hsz, hC, hB⟩ ls hl
  subst hsz
  have hS : va_S (cA ad s.heap.size) s.heap s.heap [] := va_S.rf
  have hA : ∀ κ i : Nat, cV κ i → cA ad s.heap.size (ad κ i) := fun κ i h => Or.inl ⟨κ, i, h, rfl⟩
  have hl : lv_has ls 4 [(0, .ref (ad 5 i))] := hl
  refine lv_iconst (v := 0) hx hb dX3_grade_0 (by decide) ?_
  refine lv_istore_n (lv' := [(1, .int 0), (0, .ref (ad 5 i))]) hx hb dX3_grade_1 rfl hl (by decide) rfl (fun ls hl => ?_)
  refine lv_iconst (v := 0) hx hb dX3_grade_2 (by decide) ?_
  refine lv_istore_n (lv' := [(2, .int 0), (1, .int 0), (0, .ref (ad 5 i))]) hx hb dX3_grade_3 rfl hl (by decide) rfl (fun ls hl => ?_)
  refine lv_iconst (v := 0) hx hb dX3_grade_4 (by decide) ?_
  refine lv_istore_n (lv' := [(3, .int 0), (2, .int 0), (1, .int 0), (0, .ref (ad 5 i))]) hx hb dX3_grade_5 rfl hl (by decide) rfl (fun ls hl => ?_)
  refine lv_iload_n hx hb dX3_grade_6 rfl (lv_at hl 0 rfl) ?_
  refine lv_aload_n hx hb dX3_grade_7 rfl (lv_at hl 3 rfl) ?_
  refine gt_5_1 hx hb hts iX3_grade_X3 hown hB.1 hC hrow_i qX3_grade_w1 dX3_grade_8 ?_
  refine ln_9 hx hb hB.1 hC hrow_i dX3_grade_11 ?_
  refine lv_icmp_ge (tgt := 43) hx hb dX3_grade_12 (by decide) (fun c => absurd c (by decide)) (fun _ => ?_)
  refine lv_aload_n hx hb dX3_grade_15 rfl (lv_at hl 3 rfl) ?_
  refine gt_5_1 hx hb hts iX3_grade_X3 hown hB.1 hC hrow_i qX3_grade_w1 dX3_grade_16 ?_
  refine lv_iload_n hx hb dX3_grade_19 rfl (lv_at hl 0 rfl) ?_
  refine ld_9 hx hb hB.1 hC hrow_i (k := 0) (by decide) (by unfold vp_in; decide) dX3_grade_20 ?_
  refine lv_iconst (v := (-1)) hx hb dX3_grade_21 (by decide) ?_
  refine lv_icmp_eq (tgt := 37) hx hb dX3_grade_22 (by decide) (fun c1 => ?_) (fun c1 => ?_)
  · skip
    refine lv_iinc (v := 1) (lv' := [(3, .int 1), (2, .int 0), (1, .int 0), (0, .ref (ad 5 i))]) hx hb dX3_grade_37 hl (k := 0) rfl (by decide) (by decide) rfl (fun ls hl => ?_)
    refine lv_goto (tgt := 6) hx hb dX3_grade_40 (by decide) ?_
    refine lv_iload_n hx hb dX3_grade_6 rfl (lv_at hl 0 rfl) ?_
    refine lv_aload_n hx hb dX3_grade_7 rfl (lv_at hl 3 rfl) ?_
    refine gt_5_1 hx hb hts iX3_grade_X3 hown hB.1 hC hrow_i qX3_grade_w1 dX3_grade_8 ?_
    refine ln_9 hx hb hB.1 hC hrow_i dX3_grade_11 ?_
    refine lv_icmp_ge (tgt := 43) hx hb dX3_grade_12 (by decide) (fun c => absurd c (by decide)) (fun _ => ?_)
    refine lv_aload_n hx hb dX3_grade_15 rfl (lv_at hl 3 rfl) ?_
    refine gt_5_1 hx hb hts iX3_grade_X3 hown hB.1 hC hrow_i qX3_grade_w1 dX3_grade_16 ?_
    refine lv_iload_n hx hb dX3_grade_19 rfl (lv_at hl 0 rfl) ?_
    refine ld_9 hx hb hB.1 hC hrow_i (k := 1) (by decide) (by unfold vp_in; decide) dX3_grade_20 ?_
    refine lv_iconst (v := (-1)) hx hb dX3_grade_21 (by decide) ?_
    refine lv_icmp_eq (tgt := 37) hx hb dX3_grade_22 (by decide) (fun c2 => ?_) (fun c2 => ?_)
    · skip
      refine lv_iinc (v := 2) (lv' := [(3, .int 2), (2, .int 0), (1, .int 0), (0, .ref (ad 5 i))]) hx hb dX3_grade_37 hl (k := 0) rfl (by decide) (by decide) rfl (fun ls hl => ?_)
      refine lv_goto (tgt := 6) hx hb dX3_grade_40 (by decide) ?_
      refine lv_iload_n hx hb dX3_grade_6 rfl (lv_at hl 0 rfl) ?_
      refine lv_aload_n hx hb dX3_grade_7 rfl (lv_at hl 3 rfl) ?_
      refine gt_5_1 hx hb hts iX3_grade_X3 hown hB.1 hC hrow_i qX3_grade_w1 dX3_grade_8 ?_
      refine ln_9 hx hb hB.1 hC hrow_i dX3_grade_11 ?_
      refine lv_icmp_ge (tgt := 43) hx hb dX3_grade_12 (by decide) (fun c => absurd c (by decide)) (fun _ => ?_)
      refine lv_aload_n hx hb dX3_grade_15 rfl (lv_at hl 3 rfl) ?_
      refine gt_5_1 hx hb hts iX3_grade_X3 hown hB.1 hC hrow_i qX3_grade_w1 dX3_grade_16 ?_
      refine lv_iload_n hx hb dX3_grade_19 rfl (lv_at hl 0 rfl) ?_
      refine ld_9 hx hb hB.1 hC hrow_i (k := 2) (by decide) (by unfold vp_in; decide) dX3_grade_20 ?_
      refine lv_iconst (v := (-1)) hx hb dX3_grade_21 (by decide) ?_
      refine lv_icmp_eq (tgt := 37) hx hb dX3_grade_22 (by decide) (fun c3 => ?_) (fun c3 => ?_)
      · skip
        refine lv_iinc (v := 3) (lv' := [(3, .int 3), (2, .int 0), (1, .int 0), (0, .ref (ad 5 i))]) hx hb dX3_grade_37 hl (k := 0) rfl (by decide) (by decide) rfl (fun ls hl => ?_)
        refine lv_goto (tgt := 6) hx hb dX3_grade_40 (by decide) ?_
        refine lv_iload_n hx hb dX3_grade_6 rfl (lv_at hl 0 rfl) ?_
        refine lv_aload_n hx hb dX3_grade_7 rfl (lv_at hl 3 rfl) ?_
        refine gt_5_1 hx hb hts iX3_grade_X3 hown hB.1 hC hrow_i qX3_grade_w1 dX3_grade_8 ?_
        refine ln_9 hx hb hB.1 hC hrow_i dX3_grade_11 ?_
        refine lv_icmp_ge (tgt := 43) hx hb dX3_grade_12 (by decide) (fun _ => ?_) (fun c => absurd c (by decide))
        refine lv_iload_n hx hb dX3_grade_43 rfl (lv_at hl 1 rfl) ?_
        refine lv_if_le (tgt := 53) hx hb dX3_grade_44 (by decide) (fun _ => ?_) (fun c => absurd c (by decide))
        refine lv_iconst (v := (-1)) hx hb dX3_grade_53 (by decide) ?_
        exact q_reti hx hb hr hB hC hS rfl (by unfold fX3_grade; rw [if_pos c1, if_pos c2, if_pos c3]) hlocks dX3_grade_54
      · skip
        refine lv_iload_n hx hb dX3_grade_25 rfl (lv_at hl 2 rfl) ?_
        refine lv_aload_n hx hb dX3_grade_26 rfl (lv_at hl 3 rfl) ?_
        refine gt_5_1 hx hb hts iX3_grade_X3 hown hB.1 hC hrow_i qX3_grade_w1 dX3_grade_27 ?_
        refine lv_iload_n hx hb dX3_grade_30 rfl (lv_at hl 0 rfl) ?_
        refine ld_9 hx hb hB.1 hC hrow_i (k := 2) (by decide) (by unfold vp_in; decide) dX3_grade_31 ?_
        refine lv_iadd hx hb dX3_grade_32 ?_
        refine lv_istore_n (lv' := [(1, .int (0 + (g 6 i 2))), (3, .int 2), (2, .int 0), (0, .ref (ad 5 i))]) hx hb dX3_grade_33 rfl hl (by decide) rfl (fun ls hl => ?_)
        refine lv_iinc (v := 1) (lv' := [(2, .int 1), (1, .int (0 + (g 6 i 2))), (3, .int 2), (0, .ref (ad 5 i))]) hx hb dX3_grade_34 hl (k := 2) rfl (by decide) (by decide) rfl (fun ls hl => ?_)
        refine lv_iinc (v := 3) (lv' := [(3, .int 3), (2, .int 1), (1, .int (0 + (g 6 i 2))), (0, .ref (ad 5 i))]) hx hb dX3_grade_37 hl (k := 2) rfl (by decide) (by decide) rfl (fun ls hl => ?_)
        refine lv_goto (tgt := 6) hx hb dX3_grade_40 (by decide) ?_
        refine lv_iload_n hx hb dX3_grade_6 rfl (lv_at hl 0 rfl) ?_
        refine lv_aload_n hx hb dX3_grade_7 rfl (lv_at hl 3 rfl) ?_
        refine gt_5_1 hx hb hts iX3_grade_X3 hown hB.1 hC hrow_i qX3_grade_w1 dX3_grade_8 ?_
        refine ln_9 hx hb hB.1 hC hrow_i dX3_grade_11 ?_
        refine lv_icmp_ge (tgt := 43) hx hb dX3_grade_12 (by decide) (fun _ => ?_) (fun c => absurd c (by decide))
        refine lv_iload_n hx hb dX3_grade_43 rfl (lv_at hl 1 rfl) ?_
        refine lv_if_le (tgt := 53) hx hb dX3_grade_44 (by decide) (fun c => absurd c (by decide)) (fun _ => ?_)
        refine lv_iload_n hx hb dX3_grade_47 rfl (lv_at hl 2 rfl) ?_
        refine lv_iload_n hx hb dX3_grade_48 rfl (lv_at hl 1 rfl) ?_
        refine lv_idiv hx hb dX3_grade_49 (by decide) ?_
        refine lv_goto (tgt := 54) hx hb dX3_grade_50 (by decide) ?_
        exact q_reti hx hb hr hB hC hS rfl (by unfold fX3_grade; rw [if_pos c1, if_pos c2, if_neg c3]) hlocks dX3_grade_54
    · skip
      refine lv_iload_n hx hb dX3_grade_25 rfl (lv_at hl 2 rfl) ?_
      refine lv_aload_n hx hb dX3_grade_26 rfl (lv_at hl 3 rfl) ?_
      refine gt_5_1 hx hb hts iX3_grade_X3 hown hB.1 hC hrow_i qX3_grade_w1 dX3_grade_27 ?_
      refine lv_iload_n hx hb dX3_grade_30 rfl (lv_at hl 0 rfl) ?_
      refine ld_9 hx hb hB.1 hC hrow_i (k := 1) (by decide) (by unfold vp_in; decide) dX3_grade_31 ?_
      refine lv_iadd hx hb dX3_grade_32 ?_
      refine lv_istore_n (lv' := [(1, .int (0 + (g 6 i 1))), (3, .int 1), (2, .int 0), (0, .ref (ad 5 i))]) hx hb dX3_grade_33 rfl hl (by decide) rfl (fun ls hl => ?_)
      refine lv_iinc (v := 1) (lv' := [(2, .int 1), (1, .int (0 + (g 6 i 1))), (3, .int 1), (0, .ref (ad 5 i))]) hx hb dX3_grade_34 hl (k := 2) rfl (by decide) (by decide) rfl (fun ls hl => ?_)
      refine lv_iinc (v := 2) (lv' := [(3, .int 2), (2, .int 1), (1, .int (0 + (g 6 i 1))), (0, .ref (ad 5 i))]) hx hb dX3_grade_37 hl (k := 2) rfl (by decide) (by decide) rfl (fun ls hl => ?_)
      refine lv_goto (tgt := 6) hx hb dX3_grade_40 (by decide) ?_
      refine lv_iload_n hx hb dX3_grade_6 rfl (lv_at hl 0 rfl) ?_
      refine lv_aload_n hx hb dX3_grade_7 rfl (lv_at hl 3 rfl) ?_
      refine gt_5_1 hx hb hts iX3_grade_X3 hown hB.1 hC hrow_i qX3_grade_w1 dX3_grade_8 ?_
      refine ln_9 hx hb hB.1 hC hrow_i dX3_grade_11 ?_
      refine lv_icmp_ge (tgt := 43) hx hb dX3_grade_12 (by decide) (fun c => absurd c (by decide)) (fun _ => ?_)
      refine lv_aload_n hx hb dX3_grade_15 rfl (lv_at hl 3 rfl) ?_
      refine gt_5_1 hx hb hts iX3_grade_X3 hown hB.1 hC hrow_i qX3_grade_w1 dX3_grade_16 ?_
      refine lv_iload_n hx hb dX3_grade_19 rfl (lv_at hl 0 rfl) ?_
      refine ld_9 hx hb hB.1 hC hrow_i (k := 2) (by decide) (by unfold vp_in; decide) dX3_grade_20 ?_
      refine lv_iconst (v := (-1)) hx hb dX3_grade_21 (by decide) ?_
      refine lv_icmp_eq (tgt := 37) hx hb dX3_grade_22 (by decide) (fun c4 => ?_) (fun c4 => ?_)
      · skip
        refine lv_iinc (v := 3) (lv' := [(3, .int 3), (2, .int 1), (1, .int (0 + (g 6 i 1))), (0, .ref (ad 5 i))]) hx hb dX3_grade_37 hl (k := 0) rfl (by decide) (by decide) rfl (fun ls hl => ?_)
        refine lv_goto (tgt := 6) hx hb dX3_grade_40 (by decide) ?_
        refine lv_iload_n hx hb dX3_grade_6 rfl (lv_at hl 0 rfl) ?_
        refine lv_aload_n hx hb dX3_grade_7 rfl (lv_at hl 3 rfl) ?_
        refine gt_5_1 hx hb hts iX3_grade_X3 hown hB.1 hC hrow_i qX3_grade_w1 dX3_grade_8 ?_
        refine ln_9 hx hb hB.1 hC hrow_i dX3_grade_11 ?_
        refine lv_icmp_ge (tgt := 43) hx hb dX3_grade_12 (by decide) (fun _ => ?_) (fun c => absurd c (by decide))
        refine lv_iload_n hx hb dX3_grade_43 rfl (lv_at hl 1 rfl) ?_
        refine lv_if_le (tgt := 53) hx hb dX3_grade_44 (by decide) (fun c => absurd c (by decide)) (fun _ => ?_)
        refine lv_iload_n hx hb dX3_grade_47 rfl (lv_at hl 2 rfl) ?_
        refine lv_iload_n hx hb dX3_grade_48 rfl (lv_at hl 1 rfl) ?_
        refine lv_idiv hx hb dX3_grade_49 (by decide) ?_
        refine lv_goto (tgt := 54) hx hb dX3_grade_50 (by decide) ?_
        exact q_reti hx hb hr hB hC hS rfl (by unfold fX3_grade; rw [if_pos c1, if_neg c2, if_pos c4]) hlocks dX3_grade_54
      · skip
        refine lv_iload_n hx hb dX3_grade_25 rfl (lv_at hl 2 rfl) ?_
        refine lv_aload_n hx hb dX3_grade_26 rfl (lv_at hl 3 rfl) ?_
        refine gt_5_1 hx hb hts iX3_grade_X3 hown hB.1 hC hrow_i qX3_grade_w1 dX3_grade_27 ?_
        refine lv_iload_n hx hb dX3_grade_30 rfl (lv_at hl 0 rfl) ?_
        refine ld_9 hx hb hB.1 hC hrow_i (k := 2) (by decide) (by unfold vp_in; decide) dX3_grade_31 ?_
        refine lv_iadd hx hb dX3_grade_32 ?_
        refine lv_istore_n (lv' := [(1, .int ((0 + (g 6 i 1)) + (g 6 i 2))), (3, .int 2), (2, .int 1), (0, .ref (ad 5 i))]) hx hb dX3_grade_33 rfl hl (by decide) rfl (fun ls hl => ?_)
        refine lv_iinc (v := 2) (lv' := [(2, .int 2), (1, .int ((0 + (g 6 i 1)) + (g 6 i 2))), (3, .int 2), (0, .ref (ad 5 i))]) hx hb dX3_grade_34 hl (k := 2) rfl (by decide) (by decide) rfl (fun ls hl => ?_)
        refine lv_iinc (v := 3) (lv' := [(3, .int 3), (2, .int 2), (1, .int ((0 + (g 6 i 1)) + (g 6 i 2))), (0, .ref (ad 5 i))]) hx hb dX3_grade_37 hl (k := 2) rfl (by decide) (by decide) rfl (fun ls hl => ?_)
        refine lv_goto (tgt := 6) hx hb dX3_grade_40 (by decide) ?_
        refine lv_iload_n hx hb dX3_grade_6 rfl (lv_at hl 0 rfl) ?_
        refine lv_aload_n hx hb dX3_grade_7 rfl (lv_at hl 3 rfl) ?_
        refine gt_5_1 hx hb hts iX3_grade_X3 hown hB.1 hC hrow_i qX3_grade_w1 dX3_grade_8 ?_
        refine ln_9 hx hb hB.1 hC hrow_i dX3_grade_11 ?_
        refine lv_icmp_ge (tgt := 43) hx hb dX3_grade_12 (by decide) (fun _ => ?_) (fun c => absurd c (by decide))
        refine lv_iload_n hx hb dX3_grade_43 rfl (lv_at hl 1 rfl) ?_
        refine lv_if_le (tgt := 53) hx hb dX3_grade_44 (by decide) (fun c => absurd c (by decide)) (fun _ => ?_)
        refine lv_iload_n hx hb dX3_grade_47 rfl (lv_at hl 2 rfl) ?_
        refine lv_iload_n hx hb dX3_grade_48 rfl (lv_at hl 1 rfl) ?_
        refine lv_idiv hx hb dX3_grade_49 (by decide) ?_
        refine lv_goto (tgt := 54) hx hb dX3_grade_50 (by decide) ?_
        exact q_reti hx hb hr hB hC hS rfl (by unfold fX3_grade; rw [if_pos c1, if_neg c2, if_neg c4]) hlocks dX3_grade_54
  · skip
    refine lv_iload_n hx hb dX3_grade_25 rfl (lv_at hl 2 rfl) ?_
    refine lv_aload_n hx hb dX3_grade_26 rfl (lv_at hl 3 rfl) ?_
    refine gt_5_1 hx hb hts iX3_grade_X3 hown hB.1 hC hrow_i qX3_grade_w1 dX3_grade_27 ?_
    refine lv_iload_n hx hb dX3_grade_30 rfl (lv_at hl 0 rfl) ?_
    refine ld_9 hx hb hB.1 hC hrow_i (k := 0) (by decide) (by unfold vp_in; decide) dX3_grade_31 ?_
    refine lv_iadd hx hb dX3_grade_32 ?_
    refine lv_istore_n (lv' := [(1, .int (0 + (g 6 i 0))), (3, .int 0), (2, .int 0), (0, .ref (ad 5 i))]) hx hb dX3_grade_33 rfl hl (by decide) rfl (fun ls hl => ?_)
    refine lv_iinc (v := 1) (lv' := [(2, .int 1), (1, .int (0 + (g 6 i 0))), (3, .int 0), (0, .ref (ad 5 i))]) hx hb dX3_grade_34 hl (k := 2) rfl (by decide) (by decide) rfl (fun ls hl => ?_)
    refine lv_iinc (v := 1) (lv' := [(3, .int 1), (2, .int 1), (1, .int (0 + (g 6 i 0))), (0, .ref (ad 5 i))]) hx hb dX3_grade_37 hl (k := 2) rfl (by decide) (by decide) rfl (fun ls hl => ?_)
    refine lv_goto (tgt := 6) hx hb dX3_grade_40 (by decide) ?_
    refine lv_iload_n hx hb dX3_grade_6 rfl (lv_at hl 0 rfl) ?_
    refine lv_aload_n hx hb dX3_grade_7 rfl (lv_at hl 3 rfl) ?_
    refine gt_5_1 hx hb hts iX3_grade_X3 hown hB.1 hC hrow_i qX3_grade_w1 dX3_grade_8 ?_
    refine ln_9 hx hb hB.1 hC hrow_i dX3_grade_11 ?_
    refine lv_icmp_ge (tgt := 43) hx hb dX3_grade_12 (by decide) (fun c => absurd c (by decide)) (fun _ => ?_)
    refine lv_aload_n hx hb dX3_grade_15 rfl (lv_at hl 3 rfl) ?_
    refine gt_5_1 hx hb hts iX3_grade_X3 hown hB.1 hC hrow_i qX3_grade_w1 dX3_grade_16 ?_
    refine lv_iload_n hx hb dX3_grade_19 rfl (lv_at hl 0 rfl) ?_
    refine ld_9 hx hb hB.1 hC hrow_i (k := 1) (by decide) (by unfold vp_in; decide) dX3_grade_20 ?_
    refine lv_iconst (v := (-1)) hx hb dX3_grade_21 (by decide) ?_
    refine lv_icmp_eq (tgt := 37) hx hb dX3_grade_22 (by decide) (fun c5 => ?_) (fun c5 => ?_)
    · skip
      refine lv_iinc (v := 2) (lv' := [(3, .int 2), (2, .int 1), (1, .int (0 + (g 6 i 0))), (0, .ref (ad 5 i))]) hx hb dX3_grade_37 hl (k := 0) rfl (by decide) (by decide) rfl (fun ls hl => ?_)
      refine lv_goto (tgt := 6) hx hb dX3_grade_40 (by decide) ?_
      refine lv_iload_n hx hb dX3_grade_6 rfl (lv_at hl 0 rfl) ?_
      refine lv_aload_n hx hb dX3_grade_7 rfl (lv_at hl 3 rfl) ?_
      refine gt_5_1 hx hb hts iX3_grade_X3 hown hB.1 hC hrow_i qX3_grade_w1 dX3_grade_8 ?_
      refine ln_9 hx hb hB.1 hC hrow_i dX3_grade_11 ?_
      refine lv_icmp_ge (tgt := 43) hx hb dX3_grade_12 (by decide) (fun c => absurd c (by decide)) (fun _ => ?_)
      refine lv_aload_n hx hb dX3_grade_15 rfl (lv_at hl 3 rfl) ?_
      refine gt_5_1 hx hb hts iX3_grade_X3 hown hB.1 hC hrow_i qX3_grade_w1 dX3_grade_16 ?_
      refine lv_iload_n hx hb dX3_grade_19 rfl (lv_at hl 0 rfl) ?_
      refine ld_9 hx hb hB.1 hC hrow_i (k := 2) (by decide) (by unfold vp_in; decide) dX3_grade_20 ?_
      refine lv_iconst (v := (-1)) hx hb dX3_grade_21 (by decide) ?_
      refine lv_icmp_eq (tgt := 37) hx hb dX3_grade_22 (by decide) (fun c6 => ?_) (fun c6 => ?_)
      · skip
        refine lv_iinc (v := 3) (lv' := [(3, .int 3), (2, .int 1), (1, .int (0 + (g 6 i 0))), (0, .ref (ad 5 i))]) hx hb dX3_grade_37 hl (k := 0) rfl (by decide) (by decide) rfl (fun ls hl => ?_)
        refine lv_goto (tgt := 6) hx hb dX3_grade_40 (by decide) ?_
        refine lv_iload_n hx hb dX3_grade_6 rfl (lv_at hl 0 rfl) ?_
        refine lv_aload_n hx hb dX3_grade_7 rfl (lv_at hl 3 rfl) ?_
        refine gt_5_1 hx hb hts iX3_grade_X3 hown hB.1 hC hrow_i qX3_grade_w1 dX3_grade_8 ?_
        refine ln_9 hx hb hB.1 hC hrow_i dX3_grade_11 ?_
        refine lv_icmp_ge (tgt := 43) hx hb dX3_grade_12 (by decide) (fun _ => ?_) (fun c => absurd c (by decide))
        refine lv_iload_n hx hb dX3_grade_43 rfl (lv_at hl 1 rfl) ?_
        refine lv_if_le (tgt := 53) hx hb dX3_grade_44 (by decide) (fun c => absurd c (by decide)) (fun _ => ?_)
        refine lv_iload_n hx hb dX3_grade_47 rfl (lv_at hl 2 rfl) ?_
        refine lv_iload_n hx hb dX3_grade_48 rfl (lv_at hl 1 rfl) ?_
        refine lv_idiv hx hb dX3_grade_49 (by decide) ?_
        refine lv_goto (tgt := 54) hx hb dX3_grade_50 (by decide) ?_
        exact q_reti hx hb hr hB hC hS rfl (by unfold fX3_grade; rw [if_neg c1, if_pos c5, if_pos c6]) hlocks dX3_grade_54
      · skip
        refine lv_iload_n hx hb dX3_grade_25 rfl (lv_at hl 2 rfl) ?_
        refine lv_aload_n hx hb dX3_grade_26 rfl (lv_at hl 3 rfl) ?_
        refine gt_5_1 hx hb hts iX3_grade_X3 hown hB.1 hC hrow_i qX3_grade_w1 dX3_grade_27 ?_
        refine lv_iload_n hx hb dX3_grade_30 rfl (lv_at hl 0 rfl) ?_
        refine ld_9 hx hb hB.1 hC hrow_i (k := 2) (by decide) (by unfold vp_in; decide) dX3_grade_31 ?_
        refine lv_iadd hx hb dX3_grade_32 ?_
        refine lv_istore_n (lv' := [(1, .int ((0 + (g 6 i 0)) + (g 6 i 2))), (3, .int 2), (2, .int 1), (0, .ref (ad 5 i))]) hx hb dX3_grade_33 rfl hl (by decide) rfl (fun ls hl => ?_)
        refine lv_iinc (v := 2) (lv' := [(2, .int 2), (1, .int ((0 + (g 6 i 0)) + (g 6 i 2))), (3, .int 2), (0, .ref (ad 5 i))]) hx hb dX3_grade_34 hl (k := 2) rfl (by decide) (by decide) rfl (fun ls hl => ?_)
        refine lv_iinc (v := 3) (lv' := [(3, .int 3), (2, .int 2), (1, .int ((0 + (g 6 i 0)) + (g 6 i 2))), (0, .ref (ad 5 i))]) hx hb dX3_grade_37 hl (k := 2) rfl (by decide) (by decide) rfl (fun ls hl => ?_)
        refine lv_goto (tgt := 6) hx hb dX3_grade_40 (by decide) ?_
        refine lv_iload_n hx hb dX3_grade_6 rfl (lv_at hl 0 rfl) ?_
        refine lv_aload_n hx hb dX3_grade_7 rfl (lv_at hl 3 rfl) ?_
        refine gt_5_1 hx hb hts iX3_grade_X3 hown hB.1 hC hrow_i qX3_grade_w1 dX3_grade_8 ?_
        refine ln_9 hx hb hB.1 hC hrow_i dX3_grade_11 ?_
        refine lv_icmp_ge (tgt := 43) hx hb dX3_grade_12 (by decide) (fun _ => ?_) (fun c => absurd c (by decide))
        refine lv_iload_n hx hb dX3_grade_43 rfl (lv_at hl 1 rfl) ?_
        refine lv_if_le (tgt := 53) hx hb dX3_grade_44 (by decide) (fun c => absurd c (by decide)) (fun _ => ?_)
        refine lv_iload_n hx hb dX3_grade_47 rfl (lv_at hl 2 rfl) ?_
        refine lv_iload_n hx hb dX3_grade_48 rfl (lv_at hl 1 rfl) ?_
        refine lv_idiv hx hb dX3_grade_49 (by decide) ?_
        refine lv_goto (tgt := 54) hx hb dX3_grade_50 (by decide) ?_
        exact q_reti hx hb hr hB hC hS rfl (by unfold fX3_grade; rw [if_neg c1, if_pos c5, if_neg c6]) hlocks dX3_grade_54
    · skip
      refine lv_iload_n hx hb dX3_grade_25 rfl (lv_at hl 2 rfl) ?_
      refine lv_aload_n hx hb dX3_grade_26 rfl (lv_at hl 3 rfl) ?_
      refine gt_5_1 hx hb hts iX3_grade_X3 hown hB.1 hC hrow_i qX3_grade_w1 dX3_grade_27 ?_
      refine lv_iload_n hx hb dX3_grade_30 rfl (lv_at hl 0 rfl) ?_
      refine ld_9 hx hb hB.1 hC hrow_i (k := 1) (by decide) (by unfold vp_in; decide) dX3_grade_31 ?_
      refine lv_iadd hx hb dX3_grade_32 ?_
      refine lv_istore_n (lv' := [(1, .int ((0 + (g 6 i 0)) + (g 6 i 1))), (3, .int 1), (2, .int 1), (0, .ref (ad 5 i))]) hx hb dX3_grade_33 rfl hl (by decide) rfl (fun ls hl => ?_)
      refine lv_iinc (v := 2) (lv' := [(2, .int 2), (1, .int ((0 + (g 6 i 0)) + (g 6 i 1))), (3, .int 1), (0, .ref (ad 5 i))]) hx hb dX3_grade_34 hl (k := 2) rfl (by decide) (by decide) rfl (fun ls hl => ?_)
      refine lv_iinc (v := 2) (lv' := [(3, .int 2), (2, .int 2), (1, .int ((0 + (g 6 i 0)) + (g 6 i 1))), (0, .ref (ad 5 i))]) hx hb dX3_grade_37 hl (k := 2) rfl (by decide) (by decide) rfl (fun ls hl => ?_)
      refine lv_goto (tgt := 6) hx hb dX3_grade_40 (by decide) ?_
      refine lv_iload_n hx hb dX3_grade_6 rfl (lv_at hl 0 rfl) ?_
      refine lv_aload_n hx hb dX3_grade_7 rfl (lv_at hl 3 rfl) ?_
      refine gt_5_1 hx hb hts iX3_grade_X3 hown hB.1 hC hrow_i qX3_grade_w1 dX3_grade_8 ?_
      refine ln_9 hx hb hB.1 hC hrow_i dX3_grade_11 ?_
      refine lv_icmp_ge (tgt := 43) hx hb dX3_grade_12 (by decide) (fun c => absurd c (by decide)) (fun _ => ?_)
      refine lv_aload_n hx hb dX3_grade_15 rfl (lv_at hl 3 rfl) ?_
      refine gt_5_1 hx hb hts iX3_grade_X3 hown hB.1 hC hrow_i qX3_grade_w1 dX3_grade_16 ?_
      refine lv_iload_n hx hb dX3_grade_19 rfl (lv_at hl 0 rfl) ?_
      refine ld_9 hx hb hB.1 hC hrow_i (k := 2) (by decide) (by unfold vp_in; decide) dX3_grade_20 ?_
      refine lv_iconst (v := (-1)) hx hb dX3_grade_21 (by decide) ?_
      refine lv_icmp_eq (tgt := 37) hx hb dX3_grade_22 (by decide) (fun c7 => ?_) (fun c7 => ?_)
      · skip
        refine lv_iinc (v := 3) (lv' := [(3, .int 3), (2, .int 2), (1, .int ((0 + (g 6 i 0)) + (g 6 i 1))), (0, .ref (ad 5 i))]) hx hb dX3_grade_37 hl (k := 0) rfl (by decide) (by decide) rfl (fun ls hl => ?_)
        refine lv_goto (tgt := 6) hx hb dX3_grade_40 (by decide) ?_
        refine lv_iload_n hx hb dX3_grade_6 rfl (lv_at hl 0 rfl) ?_
        refine lv_aload_n hx hb dX3_grade_7 rfl (lv_at hl 3 rfl) ?_
        refine gt_5_1 hx hb hts iX3_grade_X3 hown hB.1 hC hrow_i qX3_grade_w1 dX3_grade_8 ?_
        refine ln_9 hx hb hB.1 hC hrow_i dX3_grade_11 ?_
        refine lv_icmp_ge (tgt := 43) hx hb dX3_grade_12 (by decide) (fun _ => ?_) (fun c => absurd c (by decide))
        refine lv_iload_n hx hb dX3_grade_43 rfl (lv_at hl 1 rfl) ?_
        refine lv_if_le (tgt := 53) hx hb dX3_grade_44 (by decide) (fun c => absurd c (by decide)) (fun _ => ?_)
        refine lv_iload_n hx hb dX3_grade_47 rfl (lv_at hl 2 rfl) ?_
        refine lv_iload_n hx hb dX3_grade_48 rfl (lv_at hl 1 rfl) ?_
        refine lv_idiv hx hb dX3_grade_49 (by decide) ?_
        refine lv_goto (tgt := 54) hx hb dX3_grade_50 (by decide) ?_
        exact q_reti hx hb hr hB hC hS rfl (by unfold fX3_grade; rw [if_neg c1, if_neg c5, if_pos c7]) hlocks dX3_grade_54
      · skip
        refine lv_iload_n hx hb dX3_grade_25 rfl (lv_at hl 2 rfl) ?_
        refine lv_aload_n hx hb dX3_grade_26 rfl (lv_at hl 3 rfl) ?_
        refine gt_5_1 hx hb hts iX3_grade_X3 hown hB.1 hC hrow_i qX3_grade_w1 dX3_grade_27 ?_
        refine lv_iload_n hx hb dX3_grade_30 rfl (lv_at hl 0 rfl) ?_
        refine ld_9 hx hb hB.1 hC hrow_i (k := 2) (by decide) (by unfold vp_in; decide) dX3_grade_31 ?_
        refine lv_iadd hx hb dX3_grade_32 ?_
        refine lv_istore_n (lv' := [(1, .int (((0 + (g 6 i 0)) + (g 6 i 1)) + (g 6 i 2))), (3, .int 2), (2, .int 2), (0, .ref (ad 5 i))]) hx hb dX3_grade_33 rfl hl (by decide) rfl (fun ls hl => ?_)
        refine lv_iinc (v := 3) (lv' := [(2, .int 3), (1, .int (((0 + (g 6 i 0)) + (g 6 i 1)) + (g 6 i 2))), (3, .int 2), (0, .ref (ad 5 i))]) hx hb dX3_grade_34 hl (k := 2) rfl (by decide) (by decide) rfl (fun ls hl => ?_)
        refine lv_iinc (v := 3) (lv' := [(3, .int 3), (2, .int 3), (1, .int (((0 + (g 6 i 0)) + (g 6 i 1)) + (g 6 i 2))), (0, .ref (ad 5 i))]) hx hb dX3_grade_37 hl (k := 2) rfl (by decide) (by decide) rfl (fun ls hl => ?_)
        refine lv_goto (tgt := 6) hx hb dX3_grade_40 (by decide) ?_
        refine lv_iload_n hx hb dX3_grade_6 rfl (lv_at hl 0 rfl) ?_
        refine lv_aload_n hx hb dX3_grade_7 rfl (lv_at hl 3 rfl) ?_
        refine gt_5_1 hx hb hts iX3_grade_X3 hown hB.1 hC hrow_i qX3_grade_w1 dX3_grade_8 ?_
        refine ln_9 hx hb hB.1 hC hrow_i dX3_grade_11 ?_
        refine lv_icmp_ge (tgt := 43) hx hb dX3_grade_12 (by decide) (fun _ => ?_) (fun c => absurd c (by decide))
        refine lv_iload_n hx hb dX3_grade_43 rfl (lv_at hl 1 rfl) ?_
        refine lv_if_le (tgt := 53) hx hb dX3_grade_44 (by decide) (fun c => absurd c (by decide)) (fun _ => ?_)
        refine lv_iload_n hx hb dX3_grade_47 rfl (lv_at hl 2 rfl) ?_
        refine lv_iload_n hx hb dX3_grade_48 rfl (lv_at hl 1 rfl) ?_
        refine lv_idiv hx hb dX3_grade_49 (by decide) ?_
        refine lv_goto (tgt := 54) hx hb dX3_grade_50 (by decide) ?_
        exact q_reti hx hb hr hB hC hS rfl (by unfold fX3_grade; rw [if_neg c1, if_neg c5, if_neg c7]) hlocks dX3_grade_54
def fX3_fermentFault (g : Gd) (i : Nat) : Int32 := if 60 ≤ (g 3 (8 + i) 3) then (if (g 3 (8 + i) 3) ≤ 100 then (0) else (((g 3 (8 + i) 3) - 100) / 5)) else ((60 - (g 3 (8 + i) 3)) / 5)
theorem qX3_fermentFault_w1 : Cond.fieldLink RX3 30 "CherryStation$Lot" "points" "I" ∈ wsX3_fermentFault := List.mem_of_getElem? (i := 1) rfl
theorem iX3_fermentFault_X3 : ∀ w ∈ wsX30, w ∈ wsX3_fermentFault := fun _ h => (List.mem_cons_of_mem _ (List.mem_append_right _ h))
set_option maxRecDepth 100000 in
set_option maxHeartbeats 4000000 in
theorem kX3_fermentFault (l : Launch) (D : va_G) (cy : Nat → ClassId) {ad : Nat → Nat → Nat} (hI : cI ad) (g : Gd) (sz : Nat) (i : Nat) (hrow_i : i < 13) : Met l yX3_fermentFault wsX3_fermentFault ({ frames := 0, cells := 0, slots := 0, locals := 0 } : Room) (va_Pc [.ref (ad 5 i)] (cPre D cy ad g sz)) (cQi D cy ad (fX3_fermentFault g i) g sz) 0 0 (cA ad sz) := by
  refine q_start (cc := cX3_fermentFault) (maxL := 1) (ret := (some .int)) (own := RX3) (by decide) rfl rfl (Nat.le_of_ble_eq_true rfl) ?_
  intro p e s m below meth c hx hb hr hml hts hown hlocks ⟨hsz, hC, hB⟩ ls hl
  subst hsz
  have hS : va_S (cA ad s.heap.size) s.heap s.heap [] := va_S.rf
  have hA : ∀ κ i : Nat, cV κ i → cA ad s.heap.size (ad κ i) := fun κ i h => Or.inl ⟨κ, i, h, rfl⟩
  have hl : lv_has ls 1 [(0, .ref (ad 5 i))] := hl
  refine lv_aload_n hx hb dX3_fermentFault_0 rfl (lv_at hl 0 rfl) ?_
  refine gt_5_4 hx hb hts iX3_fermentFault_X3 hown hB.1 hC hrow_i qX3_fermentFault_w1 dX3_fermentFault_1 ?_
  refine lv_bipush (v := 60) hx hb dX3_fermentFault_4 (by decide) ?_
  refine lv_icmp_ge (tgt := 19) hx hb dX3_fermentFault_6 (by decide) (fun c1 => ?_) (fun c1 => ?_)
  · skip
    refine lv_aload_n hx hb dX3_fermentFault_19 rfl (lv_at hl 0 rfl) ?_
    refine gt_5_4 hx hb hts iX3_fermentFault_X3 hown hB.1 hC hrow_i qX3_fermentFault_w1 dX3_fermentFault_20 ?_
    refine lv_bipush (v := 100) hx hb dX3_fermentFault_23 (by decide) ?_
    refine lv_icmp_le (tgt := 40) hx hb dX3_fermentFault_25 (by decide) (fun c2 => ?_) (fun c2 => ?_)
    · skip
      refine lv_iconst (v := 0) hx hb dX3_fermentFault_40 (by decide) ?_
      exact q_reti hx hb hr hB hC hS rfl (by unfold fX3_fermentFault; rw [if_pos c1, if_pos c2]) hlocks dX3_fermentFault_41
    · skip
      refine lv_aload_n hx hb dX3_fermentFault_28 rfl (lv_at hl 0 rfl) ?_
      refine gt_5_4 hx hb hts iX3_fermentFault_X3 hown hB.1 hC hrow_i qX3_fermentFault_w1 dX3_fermentFault_29 ?_
      refine lv_bipush (v := 100) hx hb dX3_fermentFault_32 (by decide) ?_
      refine lv_isub hx hb dX3_fermentFault_34 ?_
      refine lv_iconst (v := 5) hx hb dX3_fermentFault_35 (by decide) ?_
      refine lv_idiv hx hb dX3_fermentFault_36 (by decide) ?_
      refine lv_goto (tgt := 41) hx hb dX3_fermentFault_37 (by decide) ?_
      exact q_reti hx hb hr hB hC hS rfl (by unfold fX3_fermentFault; rw [if_pos c1, if_neg c2]) hlocks dX3_fermentFault_41
  · skip
    refine lv_bipush (v := 60) hx hb dX3_fermentFault_9 (by decide) ?_
    refine lv_aload_n hx hb dX3_fermentFault_11 rfl (lv_at hl 0 rfl) ?_
    refine gt_5_4 hx hb hts iX3_fermentFault_X3 hown hB.1 hC hrow_i qX3_fermentFault_w1 dX3_fermentFault_12 ?_
    refine lv_isub hx hb dX3_fermentFault_15 ?_
    refine lv_iconst (v := 5) hx hb dX3_fermentFault_16 (by decide) ?_
    refine lv_idiv hx hb dX3_fermentFault_17 (by decide) ?_
    exact q_reti hx hb hr hB hC hS rfl (by unfold fX3_fermentFault; rw [if_neg c1]) hlocks dX3_fermentFault_18
def fX3_moistureFault (g : Gd) (i : Nat) : Int32 := if (g 3 (8 + i) 5) ≤ 125 then (if 95 ≤ (g 3 (8 + i) 5) then (0) else ((95 - (g 3 (8 + i) 5)) / 5)) else (((g 3 (8 + i) 5) - 125) / 10)
theorem qX3_moistureFault_w1 : Cond.fieldLink RX3 36 "CherryStation$Lot" "moisture" "I" ∈ wsX3_moistureFault := List.mem_of_getElem? (i := 1) rfl
theorem iX3_moistureFault_X3 : ∀ w ∈ wsX30, w ∈ wsX3_moistureFault := fun _ h => (List.mem_cons_of_mem _ (List.mem_append_right _ h))
set_option maxRecDepth 100000 in
set_option maxHeartbeats 4000000 in
theorem kX3_moistureFault (l : Launch) (D : va_G) (cy : Nat → ClassId) {ad : Nat → Nat → Nat} (hI : cI ad) (g : Gd) (sz : Nat) (i : Nat) (hrow_i : i < 13) : Met l yX3_moistureFault wsX3_moistureFault ({ frames := 0, cells := 0, slots := 0, locals := 0 } : Room) (va_Pc [.ref (ad 5 i)] (cPre D cy ad g sz)) (cQi D cy ad (fX3_moistureFault g i) g sz) 0 0 (cA ad sz) := by
  refine q_start (cc := cX3_moistureFault) (maxL := 1) (ret := (some .int)) (own := RX3) (by decide) rfl rfl (Nat.le_of_ble_eq_true rfl) ?_
  intro p e s m below meth c hx hb hr hml hts hown hlocks ⟨hsz, hC, hB⟩ ls hl
  subst hsz
  have hS : va_S (cA ad s.heap.size) s.heap s.heap [] := va_S.rf
  have hA : ∀ κ i : Nat, cV κ i → cA ad s.heap.size (ad κ i) := fun κ i h => Or.inl ⟨κ, i, h, rfl⟩
  have hl : lv_has ls 1 [(0, .ref (ad 5 i))] := hl
  refine lv_aload_n hx hb dX3_moistureFault_0 rfl (lv_at hl 0 rfl) ?_
  refine gt_5_6 hx hb hts iX3_moistureFault_X3 hown hB.1 hC hrow_i qX3_moistureFault_w1 dX3_moistureFault_1 ?_
  refine lv_bipush (v := 125) hx hb dX3_moistureFault_4 (by decide) ?_
  refine lv_icmp_le (tgt := 20) hx hb dX3_moistureFault_6 (by decide) (fun c1 => ?_) (fun c1 => ?_)
  · skip
    refine lv_aload_n hx hb dX3_moistureFault_20 rfl (lv_at hl 0 rfl) ?_
    refine gt_5_6 hx hb hts iX3_moistureFault_X3 hown hB.1 hC hrow_i qX3_moistureFault_w1 dX3_moistureFault_21 ?_
    refine lv_bipush (v := 95) hx hb dX3_moistureFault_24 (by decide) ?_
    refine lv_icmp_ge (tgt := 41) hx hb dX3_moistureFault_26 (by decide) (fun c2 => ?_) (fun c2 => ?_)
    · skip
      refine lv_iconst (v := 0) hx hb dX3_moistureFault_41 (by decide) ?_
      exact q_reti hx hb hr hB hC hS rfl (by unfold fX3_moistureFault; rw [if_pos c1, if_pos c2]) hlocks dX3_moistureFault_42
    · skip
      refine lv_bipush (v := 95) hx hb dX3_moistureFault_29 (by decide) ?_
      refine lv_aload_n hx hb dX3_moistureFault_31 rfl (lv_at hl 0 rfl) ?_
      refine gt_5_6 hx hb hts iX3_moistureFault_X3 hown hB.1 hC hrow_i qX3_moistureFault_w1 dX3_moistureFault_32 ?_
      refine lv_isub hx hb dX3_moistureFault_35 ?_
      refine lv_iconst (v := 5) hx hb dX3_moistureFault_36 (by decide) ?_
      refine lv_idiv hx hb dX3_moistureFault_37 (by decide) ?_
      refine lv_goto (tgt := 42) hx hb dX3_moistureFault_38 (by decide) ?_
      exact q_reti hx hb hr hB hC hS rfl (by unfold fX3_moistureFault; rw [if_pos c1, if_neg c2]) hlocks dX3_moistureFault_42
  · skip
    refine lv_aload_n hx hb dX3_moistureFault_9 rfl (lv_at hl 0 rfl) ?_
    refine gt_5_6 hx hb hts iX3_moistureFault_X3 hown hB.1 hC hrow_i qX3_moistureFault_w1 dX3_moistureFault_10 ?_
    refine lv_bipush (v := 125) hx hb dX3_moistureFault_13 (by decide) ?_
    refine lv_isub hx hb dX3_moistureFault_15 ?_
    refine lv_bipush (v := 10) hx hb dX3_moistureFault_16 (by decide) ?_
    refine lv_idiv hx hb dX3_moistureFault_18 (by decide) ?_
    exact q_reti hx hb hr hB hC hS rfl (by unfold fX3_moistureFault; rw [if_neg c1]) hlocks dX3_moistureFault_19
def fX3_fault (g : Gd) (i : Nat) (x : Int32) : Int32 := if x = 1 then ((100 - (g 3 (8 + i) 1)) / 5) else (if x = 2 then (if (g 3 (8 + i) 4) = 0 then (fX3_fermentFault g i) else (0)) else (if x = 3 then (if (g 3 (8 + i) 4) = 2 then (2 * (g 3 (8 + i) 7)) else (g 3 (8 + i) 7)) else (if x = 4 then (fX3_moistureFault g i) else ((g 3 (8 + i) 2) / 30))))
theorem qX3_fault_w1 : Cond.fieldLink RX3 12 "CherryStation$Lot" "mix" "LCherryStation$Mix;" ∈ wsX3_fault := List.mem_of_getElem? (i := 1) rfl
theorem qX3_fault_w2 : Cond.fieldLink RX3 62 "CherryStation$Mix" "ripe" "I" ∈ wsX3_fault := List.mem_of_getElem? (i := 2) rfl
theorem qX3_fault_w3 : Cond.fieldLink RX3 26 "CherryStation$Lot" "method" "I" ∈ wsX3_fault := List.mem_of_getElem? (i := 3) rfl
theorem qX3_fault_w4 : Cond.fieldLink RX3 33 "CherryStation$Lot" "mould" "I" ∈ wsX3_fault := List.mem_of_getElem? (i := 4) rfl
theorem qX3_fault_w5 : Cond.fieldLink RX3 39 "CherryStation$Lot" "age" "I" ∈ wsX3_fault := List.mem_of_getElem? (i := 5) rfl
theorem iX3_fault_X3 : ∀ w ∈ wsX30, w ∈ wsX3_fault := fun _ h => (List.mem_cons_of_mem _ (List.mem_append_left _ (List.mem_append_right _ h)))
theorem iX3_fault_X4 : ∀ w ∈ wsX40, w ∈ wsX3_fault := fun _ h => (List.mem_cons_of_mem _ (List.mem_append_right _ h))
set_option maxRecDepth 100000 in
set_option maxHeartbeats 4000000 in
theorem kX3_fault (l : Launch) (D : va_G) (cy : Nat → ClassId) {ad : Nat → Nat → Nat} (hI : cI ad) (g : Gd) (sz : Nat) (i : Nat) (hrow_i : i < 13) (x : Int32) : Met l yX3_fault wsX3_fault ({ frames := 1, cells := 0, slots := 0, locals := 20 } : Room) (va_Pc [.ref (ad 5 i), .int x] (cPre D cy ad g sz)) (cQi D cy ad (fX3_fault g i x) g sz) 0 0 (cA ad sz) := by
  refine q_start (cc := cX3_fault) (maxL := 2) (ret := (some .int)) (own := RX3) (by decide) rfl rfl (Nat.le_of_ble_eq_true rfl) ?_
  intro p e s m below meth c hx hb hr hml hts hown hlocks ⟨hsz, hC, hB⟩ ls hl
  subst hsz
  have hS : va_S (cA ad s.heap.size) s.heap s.heap [] := va_S.rf
  have hA : ∀ κ i : Nat, cV κ i → cA ad s.heap.size (ad κ i) := fun κ i h => Or.inl ⟨κ, i, h, rfl⟩
  have hl : lv_has ls 2 [(0, .ref (ad 5 i)), (1, .int x)] := hl
  refine lv_iload_n hx hb dX3_fault_0 rfl (lv_at hl 1 rfl) ?_
  by_cases c1 : x = 1
  · refine q_sw (k := 1) c1 ?_
    refine lv_tableIn (x := 1) (off := 31) (tgt := 32) hx hb dX3_fault_1 (by decide) (by decide) rfl (by decide) ?_
    refine lv_bipush (v := 100) hx hb dX3_fault_32 (by decide) ?_
    refine lv_aload_n hx hb dX3_fault_34 rfl (lv_at hl 0 rfl) ?_
    refine gt_5_0 hx hb hts iX3_fault_X3 hown hB.1 hC hrow_i qX3_fault_w1 dX3_fault_35 ?_
    refine gt_6_3 hx hb hts iX3_fault_X4 hown hB.1 hC (by omega) qX3_fault_w2 dX3_fault_38 ?_
    refine lv_isub hx hb dX3_fault_41 ?_
    refine lv_iconst (v := 5) hx hb dX3_fault_42 (by decide) ?_
    refine lv_idiv hx hb dX3_fault_43 (by decide) ?_
    exact q_reti hx hb hr hB hC hS rfl (by unfold fX3_fault; rw [if_pos c1]) hlocks dX3_fault_44
  by_cases c2 : x = 2
  · refine q_sw (k := 2) c2 ?_
    refine lv_tableIn (x := 2) (off := 44) (tgt := 45) hx hb dX3_fault_1 (by decide) (by decide) rfl (by decide) ?_
    refine lv_aload_n hx hb dX3_fault_45 rfl (lv_at hl 0 rfl) ?_
    refine gt_5_3 hx hb hts iX3_fault_X3 hown hB.1 hC hrow_i qX3_fault_w3 dX3_fault_46 ?_
    refine lv_if_ne (tgt := 59) hx hb dX3_fault_49 (by decide) (fun c3 => ?_) (fun c3 => ?_)
    · skip
      refine lv_iconst (v := 0) hx hb dX3_fault_59 (by decide) ?_
      exact q_reti hx hb hr hB hC hS rfl (by unfold fX3_fault; rw [if_neg c1, if_pos c2, if_neg c3]) hlocks dX3_fault_60
    · skip
      refine lv_aload_n hx hb dX3_fault_52 rfl (lv_at hl 0 rfl) ?_
      refine q_callVi (As := []) (κ := 5) (i := i) (show i < 13 from hrow_i) rfl ⟨_, rfl⟩ rfl ⟨hx, hb, hml, hown, hts⟩ (kX3_fermentFault l D cy hI g _ i hrow_i  ) (cwV 0 hts gX3_fault_X3_fermentFault rfl rfl rfl (by decide +kernel) ⟨Nat.le_of_ble_eq_true rfl, Nat.le_of_ble_eq_true rfl⟩) hB hC hS rfl hl.1 (Nat.le_of_ble_eq_true rfl) dX3_fault_53 ⟨Nat.le_of_ble_eq_true rfl, Nat.le_of_ble_eq_true rfl⟩ (fun H locs hC hS => ?_)
      refine lv_goto (tgt := 60) hx hb dX3_fault_56 (by decide) ?_
      exact q_reti hx hb hr hB hC hS rfl (by unfold fX3_fault; rw [if_neg c1, if_pos c2, if_pos c3]) hlocks dX3_fault_60
  by_cases c4 : x = 3
  · refine q_sw (k := 3) c4 ?_
    refine lv_tableIn (x := 3) (off := 60) (tgt := 61) hx hb dX3_fault_1 (by decide) (by decide) rfl (by decide) ?_
    refine lv_aload_n hx hb dX3_fault_61 rfl (lv_at hl 0 rfl) ?_
    refine gt_5_3 hx hb hts iX3_fault_X3 hown hB.1 hC hrow_i qX3_fault_w3 dX3_fault_62 ?_
    refine lv_iconst (v := 2) hx hb dX3_fault_65 (by decide) ?_
    refine lv_icmp_ne (tgt := 78) hx hb dX3_fault_66 (by decide) (fun c5 => ?_) (fun c5 => ?_)
    · skip
      refine lv_aload_n hx hb dX3_fault_78 rfl (lv_at hl 0 rfl) ?_
      refine gt_5_5 hx hb hts iX3_fault_X3 hown hB.1 hC hrow_i qX3_fault_w4 dX3_fault_79 ?_
      exact q_reti hx hb hr hB hC hS rfl (by unfold fX3_fault; rw [if_neg c1, if_neg c2, if_pos c4, if_neg c5]) hlocks dX3_fault_82
    · skip
      refine lv_iconst (v := 2) hx hb dX3_fault_69 (by decide) ?_
      refine lv_aload_n hx hb dX3_fault_70 rfl (lv_at hl 0 rfl) ?_
      refine gt_5_5 hx hb hts iX3_fault_X3 hown hB.1 hC hrow_i qX3_fault_w4 dX3_fault_71 ?_
      refine lv_imul hx hb dX3_fault_74 ?_
      refine lv_goto (tgt := 82) hx hb dX3_fault_75 (by decide) ?_
      exact q_reti hx hb hr hB hC hS rfl (by unfold fX3_fault; rw [if_neg c1, if_neg c2, if_pos c4, if_pos c5]) hlocks dX3_fault_82
  by_cases c6 : x = 4
  · refine q_sw (k := 4) c6 ?_
    refine lv_tableIn (x := 4) (off := 82) (tgt := 83) hx hb dX3_fault_1 (by decide) (by decide) rfl (by decide) ?_
    refine lv_aload_n hx hb dX3_fault_83 rfl (lv_at hl 0 rfl) ?_
    refine q_callVi (As := []) (κ := 5) (i := i) (show i < 13 from hrow_i) rfl ⟨_, rfl⟩ rfl ⟨hx, hb, hml, hown, hts⟩ (kX3_moistureFault l D cy hI g _ i hrow_i  ) (cwV 0 hts gX3_fault_X3_moistureFault rfl rfl rfl (by decide +kernel) ⟨Nat.le_of_ble_eq_true rfl, Nat.le_of_ble_eq_true rfl⟩) hB hC hS rfl hl.1 (Nat.le_of_ble_eq_true rfl) dX3_fault_84 ⟨Nat.le_of_ble_eq_true rfl, Nat.le_of_ble_eq_true rfl⟩ (fun H locs hC hS => ?_)
    exact q_reti hx hb hr hB hC hS rfl (by unfold fX3_fault; rw [if_neg c1, if_neg c2, if_neg c4, if_pos c6]) hlocks dX3_fault_87
  refine lv_tableOut (tgt := 88) hx hb dX3_fault_1 (sw_1_4 c1 c2 c4 c6) (by decide) ?_
  refine lv_aload_n hx hb dX3_fault_88 rfl (lv_at hl 0 rfl) ?_
  refine gt_5_7 hx hb hts iX3_fault_X3 hown hB.1 hC hrow_i qX3_fault_w5 dX3_fault_89 ?_
  refine lv_bipush (v := 30) hx hb dX3_fault_92 (by decide) ?_
  refine lv_idiv hx hb dX3_fault_94 (by decide) ?_
  exact q_reti hx hb hr hB hC hS rfl (by unfold fX3_fault; rw [if_neg c1, if_neg c2, if_neg c4, if_neg c6]) hlocks dX3_fault_95
def fX3_score (g : Gd) (i : Nat) : Int32 := if (g 3 (8 + i) 4) = 1 then (if 40 < ((((((68 + (fX4_height g (8 + i)) + 1) - (fX3_fault g i 1)) - (fX3_fault g i 2)) - (fX3_fault g i 3)) - (fX3_fault g i 4)) - (fX3_fault g i 5)) then ((((((68 + (fX4_height g (8 + i)) + 1) - (fX3_fault g i 1)) - (fX3_fault g i 2)) - (fX3_fault g i 3)) - (fX3_fault g i 4)) - (fX3_fault g i 5)) else 40) else (if (g 3 (8 + i) 4) = 2 then (if 40 < ((((((68 + (fX4_height g (8 + i)) + 2) - (fX3_fault g i 1)) - (fX3_fault g i 2)) - (fX3_fault g i 3)) - (fX3_fault g i 4)) - (fX3_fault g i 5)) then ((((((68 + (fX4_height g (8 + i)) + 2) - (fX3_fault g i 1)) - (fX3_fault g i 2)) - (fX3_fault g i 3)) - (fX3_fault g i 4)) - (fX3_fault g i 5)) else 40) else (if 40 < ((((((68 + (fX4_height g (8 + i))) - (fX3_fault g i 1)) - (fX3_fault g i 2)) - (fX3_fault g i 3)) - (fX3_fault g i 4)) - (fX3_fault g i 5)) then ((((((68 + (fX4_height g (8 + i))) - (fX3_fault g i 1)) - (fX3_fault g i 2)) - (fX3_fault g i 3)) - (fX3_fault g i 4)) - (fX3_fault g i 5)) else 40))
theorem qX3_score_w1 : Cond.fieldLink RX3 12 "CherryStation$Lot" "mix" "LCherryStation$Mix;" ∈ wsX3_score := List.mem_of_getElem? (i := 1) rfl
theorem qX3_score_w2 : Cond.fieldLink RX3 26 "CherryStation$Lot" "method" "I" ∈ wsX3_score := List.mem_of_getElem? (i := 2) rfl
theorem qX3_score_w3 : Cond.methodLink RX3 80 Lib.Math.max.name ∈ wsX3_score := List.mem_of_getElem? (i := 3) rfl
theorem qX3_score_w4 : Cond.static Lib.Math.max.name ∈ wsX3_score := List.mem_of_getElem? (i := 4) rfl
theorem qX3_score_w5 : Cond.initialized "java/lang/Math" ∈ wsX3_score := List.mem_of_getElem? (i := 5) rfl
theorem qX3_score_w6 : Cond.code Lib.Math.max.name Lib.Math.max.code 2 (some .int) ∈ wsX3_score := List.mem_of_getElem? (i := 6) rfl
theorem iX3_score_X3 : ∀ w ∈ wsX30, w ∈ wsX3_score := fun _ h => (List.mem_cons_of_mem _ (List.mem_append_left _ (List.mem_append_left _ (List.mem_append_right _ h))))
set_option maxRecDepth 100000 in
set_option maxHeartbeats 4000000 in
theorem kX3_score (l : Launch) (D : va_G) (cy : Nat → ClassId) {ad : Nat → Nat → Nat} (hI : cI ad) (g : Gd) (sz : Nat) (i : Nat) (hrow_i : i < 13) : Met l yX3_score wsX3_score ({ frames := 2, cells := 0, slots := 0, locals := 41 } : Room) (va_Pc [.ref (ad 5 i), .ref (ad 10 0)] (cPre D cy ad g sz)) (cQi D cy ad (fX3_score g i) g sz) 0 0 (cA ad sz) := by
  refine q_start (cc := cX3_score) (maxL := 4) (ret := (some .int)) (own := RX3) (by decide) rfl rfl (Nat.le_of_ble_eq_true rfl) ?_
  intro p e s m below meth c hx hb hr hml hts hown hlocks ⟨hsz, hC, hB⟩ ls hl
  subst hsz
  have hS : va_S (cA ad s.heap.size) s.heap s.heap [] := va_S.rf
  have hA : ∀ κ i : Nat, cV κ i → cA ad s.heap.size (ad κ i) := fun κ i h => Or.inl ⟨κ, i, h, rfl⟩
  have hl : lv_has ls 4 [(0, .ref (ad 5 i)), (1, .ref (ad 10 0))] := hl
  refine lv_bipush (v := 68) hx hb dX3_score_0 (by decide) ?_
  refine lv_aload_n hx hb dX3_score_2 rfl (lv_at hl 0 rfl) ?_
  refine gt_5_0 hx hb hts iX3_score_X3 hown hB.1 hC hrow_i qX3_score_w1 dX3_score_3 ?_
  refine lv_aload_n hx hb dX3_score_6 rfl (lv_at hl 1 rfl) ?_
  refine q_callVi (As := [.ref (ad 10 0)]) (κ := 6) (i := 8 + i) (show (8 + i) < 21 from (by omega)) rfl ⟨_, rfl⟩ rfl ⟨hx, hb, hml, hown, hts⟩ (kX4_height l D cy hI g _ (8 + i) (by omega)  ) (cwV 1 hts gX3_score_X4_height rfl rfl rfl (by decide +kernel) ⟨Nat.le_of_ble_eq_true rfl, Nat.le_of_ble_eq_true rfl⟩) hB hC hS rfl hl.1 (Nat.le_of_ble_eq_true rfl) dX3_score_7 ⟨Nat.le_of_ble_eq_true rfl, Nat.le_of_ble_eq_true rfl⟩ (fun H locs hC hS => ?_)
  refine lv_iadd hx hb dX3_score_10 ?_
  refine lv_istore_n (lv' := [(2, .int (68 + (fX4_height g (8 + i)))), (0, .ref (ad 5 i)), (1, .ref (ad 10 0))]) hx hb dX3_score_11 rfl hl (by decide) rfl (fun ls hl => ?_)
  refine lv_aload_n hx hb dX3_score_12 rfl (lv_at hl 1 rfl) ?_
  refine gt_5_3 hx hb hts iX3_score_X3 hown hB.1 hC hrow_i qX3_score_w2 dX3_score_13 ?_
  refine lv_iconst (v := 1) hx hb dX3_score_16 (by decide) ?_
  refine lv_icmp_ne (tgt := 26) hx hb dX3_score_17 (by decide) (fun c1 => ?_) (fun c1 => ?_)
  · skip
    refine lv_aload_n hx hb dX3_score_26 rfl (lv_at hl 1 rfl) ?_
    refine gt_5_3 hx hb hts iX3_score_X3 hown hB.1 hC hrow_i qX3_score_w2 dX3_score_27 ?_
    refine lv_iconst (v := 2) hx hb dX3_score_30 (by decide) ?_
    refine lv_icmp_ne (tgt := 37) hx hb dX3_score_31 (by decide) (fun c2 => ?_) (fun c2 => ?_)
    · skip
      refine lv_iconst (v := 1) hx hb dX3_score_37 (by decide) ?_
      refine lv_istore_n (lv' := [(3, .int 1), (2, .int (68 + (fX4_height g (8 + i)))), (0, .ref (ad 5 i)), (1, .ref (ad 10 0))]) hx hb dX3_score_38 rfl hl (by decide) rfl (fun ls hl => ?_)
      refine lv_iload_n hx hb dX3_score_39 rfl (lv_at hl 0 rfl) ?_
      refine lv_iconst (v := 5) hx hb dX3_score_40 (by decide) ?_
      refine lv_icmp_gt (tgt := 58) hx hb dX3_score_41 (by decide) (fun c => absurd c (by decide)) (fun _ => ?_)
      refine lv_iload_n hx hb dX3_score_44 rfl (lv_at hl 1 rfl) ?_
      refine lv_aload_n hx hb dX3_score_45 rfl (lv_at hl 2 rfl) ?_
      refine lv_iload_n hx hb dX3_score_46 rfl (lv_at hl 0 rfl) ?_
      refine q_callVi (As := [.int 1]) (κ := 5) (i := i) (show i < 13 from hrow_i) rfl ⟨_, rfl⟩ rfl ⟨hx, hb, hml, hown, hts⟩ (kX3_fault l D cy hI g _ i hrow_i 1 ) (cwV 1 hts gX3_score_X3_fault rfl rfl rfl (by decide +kernel) ⟨Nat.le_of_ble_eq_true rfl, Nat.le_of_ble_eq_true rfl⟩) hB hC hS rfl hl.1 (Nat.le_of_ble_eq_true rfl) dX3_score_47 ⟨Nat.le_of_ble_eq_true rfl, Nat.le_of_ble_eq_true rfl⟩ (fun H locs hC hS => ?_)
      refine lv_isub hx hb dX3_score_50 ?_
      refine lv_istore_n (lv' := [(2, .int ((68 + (fX4_height g (8 + i))) - (fX3_fault g i 1))), (3, .int 1), (0, .ref (ad 5 i)), (1, .ref (ad 10 0))]) hx hb dX3_score_51 rfl hl (by decide) rfl (fun ls hl => ?_)
      refine lv_iinc (v := 2) (lv' := [(3, .int 2), (2, .int ((68 + (fX4_height g (8 + i))) - (fX3_fault g i 1))), (0, .ref (ad 5 i)), (1, .ref (ad 10 0))]) hx hb dX3_score_52 hl (k := 1) rfl (by decide) (by decide) rfl (fun ls hl => ?_)
      refine lv_goto (tgt := 39) hx hb dX3_score_55 (by decide) ?_
      refine lv_iload_n hx hb dX3_score_39 rfl (lv_at hl 0 rfl) ?_
      refine lv_iconst (v := 5) hx hb dX3_score_40 (by decide) ?_
      refine lv_icmp_gt (tgt := 58) hx hb dX3_score_41 (by decide) (fun c => absurd c (by decide)) (fun _ => ?_)
      refine lv_iload_n hx hb dX3_score_44 rfl (lv_at hl 1 rfl) ?_
      refine lv_aload_n hx hb dX3_score_45 rfl (lv_at hl 2 rfl) ?_
      refine lv_iload_n hx hb dX3_score_46 rfl (lv_at hl 0 rfl) ?_
      refine q_callVi (As := [.int 2]) (κ := 5) (i := i) (show i < 13 from hrow_i) rfl ⟨_, rfl⟩ rfl ⟨hx, hb, hml, hown, hts⟩ (kX3_fault l D cy hI g _ i hrow_i 2 ) (cwV 1 hts gX3_score_X3_fault rfl rfl rfl (by decide +kernel) ⟨Nat.le_of_ble_eq_true rfl, Nat.le_of_ble_eq_true rfl⟩) hB hC hS rfl hl.1 (Nat.le_of_ble_eq_true rfl) dX3_score_47 ⟨Nat.le_of_ble_eq_true rfl, Nat.le_of_ble_eq_true rfl⟩ (fun H locs hC hS => ?_)
      refine lv_isub hx hb dX3_score_50 ?_
      refine lv_istore_n (lv' := [(2, .int (((68 + (fX4_height g (8 + i))) - (fX3_fault g i 1)) - (fX3_fault g i 2))), (3, .int 2), (0, .ref (ad 5 i)), (1, .ref (ad 10 0))]) hx hb dX3_score_51 rfl hl (by decide) rfl (fun ls hl => ?_)
      refine lv_iinc (v := 3) (lv' := [(3, .int 3), (2, .int (((68 + (fX4_height g (8 + i))) - (fX3_fault g i 1)) - (fX3_fault g i 2))), (0, .ref (ad 5 i)), (1, .ref (ad 10 0))]) hx hb dX3_score_52 hl (k := 1) rfl (by decide) (by decide) rfl (fun ls hl => ?_)
      refine lv_goto (tgt := 39) hx hb dX3_score_55 (by decide) ?_
      refine lv_iload_n hx hb dX3_score_39 rfl (lv_at hl 0 rfl) ?_
      refine lv_iconst (v := 5) hx hb dX3_score_40 (by decide) ?_
      refine lv_icmp_gt (tgt := 58) hx hb dX3_score_41 (by decide) (fun c => absurd c (by decide)) (fun _ => ?_)
      refine lv_iload_n hx hb dX3_score_44 rfl (lv_at hl 1 rfl) ?_
      refine lv_aload_n hx hb dX3_score_45 rfl (lv_at hl 2 rfl) ?_
      refine lv_iload_n hx hb dX3_score_46 rfl (lv_at hl 0 rfl) ?_
      refine q_callVi (As := [.int 3]) (κ := 5) (i := i) (show i < 13 from hrow_i) rfl ⟨_, rfl⟩ rfl ⟨hx, hb, hml, hown, hts⟩ (kX3_fault l D cy hI g _ i hrow_i 3 ) (cwV 1 hts gX3_score_X3_fault rfl rfl rfl (by decide +kernel) ⟨Nat.le_of_ble_eq_true rfl, Nat.le_of_ble_eq_true rfl⟩) hB hC hS rfl hl.1 (Nat.le_of_ble_eq_true rfl) dX3_score_47 ⟨Nat.le_of_ble_eq_true rfl, Nat.le_of_ble_eq_true rfl⟩ (fun H locs hC hS => ?_)
      refine lv_isub hx hb dX3_score_50 ?_
      refine lv_istore_n (lv' := [(2, .int ((((68 + (fX4_height g (8 + i))) - (fX3_fault g i 1)) - (fX3_fault g i 2)) - (fX3_fault g i 3))), (3, .int 3), (0, .ref (ad 5 i)), (1, .ref (ad 10 0))]) hx hb dX3_score_51 rfl hl (by decide) rfl (fun ls hl => ?_)
      refine lv_iinc (v := 4) (lv' := [(3, .int 4), (2, .int ((((68 + (fX4_height g (8 + i))) - (fX3_fault g i 1)) - (fX3_fault g i 2)) - (fX3_fault g i 3))), (0, .ref (ad 5 i)), (1, .ref (ad 10 0))]) hx hb dX3_score_52 hl (k := 1) rfl (by decide) (by decide) rfl (fun ls hl => ?_)
      refine lv_goto (tgt := 39) hx hb dX3_score_55 (by decide) ?_
      refine lv_iload_n hx hb dX3_score_39 rfl (lv_at hl 0 rfl) ?_
      refine lv_iconst (v := 5) hx hb dX3_score_40 (by decide) ?_
      refine lv_icmp_gt (tgt := 58) hx hb dX3_score_41 (by decide) (fun c => absurd c (by decide)) (fun _ => ?_)
      refine lv_iload_n hx hb dX3_score_44 rfl (lv_at hl 1 rfl) ?_
      refine lv_aload_n hx hb dX3_score_45 rfl (lv_at hl 2 rfl) ?_
      refine lv_iload_n hx hb dX3_score_46 rfl (lv_at hl 0 rfl) ?_
      refine q_callVi (As := [.int 4]) (κ := 5) (i := i) (show i < 13 from hrow_i) rfl ⟨_, rfl⟩ rfl ⟨hx, hb, hml, hown, hts⟩ (kX3_fault l D cy hI g _ i hrow_i 4 ) (cwV 1 hts gX3_score_X3_fault rfl rfl rfl (by decide +kernel) ⟨Nat.le_of_ble_eq_true rfl, Nat.le_of_ble_eq_true rfl⟩) hB hC hS rfl hl.1 (Nat.le_of_ble_eq_true rfl) dX3_score_47 ⟨Nat.le_of_ble_eq_true rfl, Nat.le_of_ble_eq_true rfl⟩ (fun H locs hC hS => ?_)
      refine lv_isub hx hb dX3_score_50 ?_
      refine lv_istore_n (lv' := [(2, .int (((((68 + (fX4_height g (8 + i))) - (fX3_fault g i 1)) - (fX3_fault g i 2)) - (fX3_fault g i 3)) - (fX3_fault g i 4))), (3, .int 4), (0, .ref (ad 5 i)), (1, .ref (ad 10 0))]) hx hb dX3_score_51 rfl hl (by decide) rfl (fun ls hl => ?_)
      refine lv_iinc (v := 5) (lv' := [(3, .int 5), (2, .int (((((68 + (fX4_height g (8 + i))) - (fX3_fault g i 1)) - (fX3_fault g i 2)) - (fX3_fault g i 3)) - (fX3_fault g i 4))), (0, .ref (ad 5 i)), (1, .ref (ad 10 0))]) hx hb dX3_score_52 hl (k := 1) rfl (by decide) (by decide) rfl (fun ls hl => ?_)
      refine lv_goto (tgt := 39) hx hb dX3_score_55 (by decide) ?_
      refine lv_iload_n hx hb dX3_score_39 rfl (lv_at hl 0 rfl) ?_
      refine lv_iconst (v := 5) hx hb dX3_score_40 (by decide) ?_
      refine lv_icmp_gt (tgt := 58) hx hb dX3_score_41 (by decide) (fun c => absurd c (by decide)) (fun _ => ?_)
      refine lv_iload_n hx hb dX3_score_44 rfl (lv_at hl 1 rfl) ?_
      refine lv_aload_n hx hb dX3_score_45 rfl (lv_at hl 2 rfl) ?_
      refine lv_iload_n hx hb dX3_score_46 rfl (lv_at hl 0 rfl) ?_
      refine q_callVi (As := [.int 5]) (κ := 5) (i := i) (show i < 13 from hrow_i) rfl ⟨_, rfl⟩ rfl ⟨hx, hb, hml, hown, hts⟩ (kX3_fault l D cy hI g _ i hrow_i 5 ) (cwV 1 hts gX3_score_X3_fault rfl rfl rfl (by decide +kernel) ⟨Nat.le_of_ble_eq_true rfl, Nat.le_of_ble_eq_true rfl⟩) hB hC hS rfl hl.1 (Nat.le_of_ble_eq_true rfl) dX3_score_47 ⟨Nat.le_of_ble_eq_true rfl, Nat.le_of_ble_eq_true rfl⟩ (fun H locs hC hS => ?_)
      refine lv_isub hx hb dX3_score_50 ?_
      refine lv_istore_n (lv' := [(2, .int ((((((68 + (fX4_height g (8 + i))) - (fX3_fault g i 1)) - (fX3_fault g i 2)) - (fX3_fault g i 3)) - (fX3_fault g i 4)) - (fX3_fault g i 5))), (3, .int 5), (0, .ref (ad 5 i)), (1, .ref (ad 10 0))]) hx hb dX3_score_51 rfl hl (by decide) rfl (fun ls hl => ?_)
      refine lv_iinc (v := 6) (lv' := [(3, .int 6), (2, .int ((((((68 + (fX4_height g (8 + i))) - (fX3_fault g i 1)) - (fX3_fault g i 2)) - (fX3_fault g i 3)) - (fX3_fault g i 4)) - (fX3_fault g i 5))), (0, .ref (ad 5 i)), (1, .ref (ad 10 0))]) hx hb dX3_score_52 hl (k := 1) rfl (by decide) (by decide) rfl (fun ls hl => ?_)
      refine lv_goto (tgt := 39) hx hb dX3_score_55 (by decide) ?_
      refine lv_iload_n hx hb dX3_score_39 rfl (lv_at hl 0 rfl) ?_
      refine lv_iconst (v := 5) hx hb dX3_score_40 (by decide) ?_
      refine lv_icmp_gt (tgt := 58) hx hb dX3_score_41 (by decide) (fun _ => ?_) (fun c => absurd c (by decide))
      refine lv_bipush (v := 40) hx hb dX3_score_58 (by decide) ?_
      refine lv_iload_n hx hb dX3_score_60 rfl (lv_at hl 1 rfl) ?_
      refine va_mmax hx hb (hml.trans hl.1.symm) hown (hts _ qX3_score_w3) (hts _ qX3_score_w4) (hts _ qX3_score_w5) (hts _ qX3_score_w6) (Nat.le_of_ble_eq_true rfl) (Nat.le_of_ble_eq_true rfl) (Nat.le_of_ble_eq_true rfl) (Nat.le_of_ble_eq_true rfl) dX3_score_61 ?_
      exact q_reti hx hb hr hB hC hS rfl (by unfold fX3_score; rw [if_neg c1, if_neg c2]) hlocks dX3_score_64
    · skip
      refine lv_iinc (v := 68 + (fX4_height g (8 + i)) + 2) (lv' := [(2, .int (68 + (fX4_height g (8 + i)) + 2)), (0, .ref (ad 5 i)), (1, .ref (ad 10 0))]) hx hb dX3_score_34 hl (k := 0) rfl rfl (by decide) rfl (fun ls hl => ?_)
      refine lv_iconst (v := 1) hx hb dX3_score_37 (by decide) ?_
      refine lv_istore_n (lv' := [(3, .int 1), (2, .int (68 + (fX4_height g (8 + i)) + 2)), (0, .ref (ad 5 i)), (1, .ref (ad 10 0))]) hx hb dX3_score_38 rfl hl (by decide) rfl (fun ls hl => ?_)
      refine lv_iload_n hx hb dX3_score_39 rfl (lv_at hl 0 rfl) ?_
      refine lv_iconst (v := 5) hx hb dX3_score_40 (by decide) ?_
      refine lv_icmp_gt (tgt := 58) hx hb dX3_score_41 (by decide) (fun c => absurd c (by decide)) (fun _ => ?_)
      refine lv_iload_n hx hb dX3_score_44 rfl (lv_at hl 1 rfl) ?_
      refine lv_aload_n hx hb dX3_score_45 rfl (lv_at hl 2 rfl) ?_
      refine lv_iload_n hx hb dX3_score_46 rfl (lv_at hl 0 rfl) ?_
      refine q_callVi (As := [.int 1]) (κ := 5) (i := i) (show i < 13 from hrow_i) rfl ⟨_, rfl⟩ rfl ⟨hx, hb, hml, hown, hts⟩ (kX3_fault l D cy hI g _ i hrow_i 1 ) (cwV 1 hts gX3_score_X3_fault rfl rfl rfl (by decide +kernel) ⟨Nat.le_of_ble_eq_true rfl, Nat.le_of_ble_eq_true rfl⟩) hB hC hS rfl hl.1 (Nat.le_of_ble_eq_true rfl) dX3_score_47 ⟨Nat.le_of_ble_eq_true rfl, Nat.le_of_ble_eq_true rfl⟩ (fun H locs hC hS => ?_)
      refine lv_isub hx hb dX3_score_50 ?_
      refine lv_istore_n (lv' := [(2, .int ((68 + (fX4_height g (8 + i)) + 2) - (fX3_fault g i 1))), (3, .int 1), (0, .ref (ad 5 i)), (1, .ref (ad 10 0))]) hx hb dX3_score_51 rfl hl (by decide) rfl (fun ls hl => ?_)
      refine lv_iinc (v := 2) (lv' := [(3, .int 2), (2, .int ((68 + (fX4_height g (8 + i)) + 2) - (fX3_fault g i 1))), (0, .ref (ad 5 i)), (1, .ref (ad 10 0))]) hx hb dX3_score_52 hl (k := 1) rfl (by decide) (by decide) rfl (fun ls hl => ?_)
      refine lv_goto (tgt := 39) hx hb dX3_score_55 (by decide) ?_
      refine lv_iload_n hx hb dX3_score_39 rfl (lv_at hl 0 rfl) ?_
      refine lv_iconst (v := 5) hx hb dX3_score_40 (by decide) ?_
      refine lv_icmp_gt (tgt := 58) hx hb dX3_score_41 (by decide) (fun c => absurd c (by decide)) (fun _ => ?_)
      refine lv_iload_n hx hb dX3_score_44 rfl (lv_at hl 1 rfl) ?_
      refine lv_aload_n hx hb dX3_score_45 rfl (lv_at hl 2 rfl) ?_
      refine lv_iload_n hx hb dX3_score_46 rfl (lv_at hl 0 rfl) ?_
      refine q_callVi (As := [.int 2]) (κ := 5) (i := i) (show i < 13 from hrow_i) rfl ⟨_, rfl⟩ rfl ⟨hx, hb, hml, hown, hts⟩ (kX3_fault l D cy hI g _ i hrow_i 2 ) (cwV 1 hts gX3_score_X3_fault rfl rfl rfl (by decide +kernel) ⟨Nat.le_of_ble_eq_true rfl, Nat.le_of_ble_eq_true rfl⟩) hB hC hS rfl hl.1 (Nat.le_of_ble_eq_true rfl) dX3_score_47 ⟨Nat.le_of_ble_eq_true rfl, Nat.le_of_ble_eq_true rfl⟩ (fun H locs hC hS => ?_)
      refine lv_isub hx hb dX3_score_50 ?_
      refine lv_istore_n (lv' := [(2, .int (((68 + (fX4_height g (8 + i)) + 2) - (fX3_fault g i 1)) - (fX3_fault g i 2))), (3, .int 2), (0, .ref (ad 5 i)), (1, .ref (ad 10 0))]) hx hb dX3_score_51 rfl hl (by decide) rfl (fun ls hl => ?_)
      refine lv_iinc (v := 3) (lv' := [(3, .int 3), (2, .int (((68 + (fX4_height g (8 + i)) + 2) - (fX3_fault g i 1)) - (fX3_fault g i 2))), (0, .ref (ad 5 i)), (1, .ref (ad 10 0))]) hx hb dX3_score_52 hl (k := 1) rfl (by decide) (by decide) rfl (fun ls hl => ?_)
      refine lv_goto (tgt := 39) hx hb dX3_score_55 (by decide) ?_
      refine lv_iload_n hx hb dX3_score_39 rfl (lv_at hl 0 rfl) ?_
      refine lv_iconst (v := 5) hx hb dX3_score_40 (by decide) ?_
      refine lv_icmp_gt (tgt := 58) hx hb dX3_score_41 (by decide) (fun c => absurd c (by decide)) (fun _ => ?_)
      refine lv_iload_n hx hb dX3_score_44 rfl (lv_at hl 1 rfl) ?_
      refine lv_aload_n hx hb dX3_score_45 rfl (lv_at hl 2 rfl) ?_
      refine lv_iload_n hx hb dX3_score_46 rfl (lv_at hl 0 rfl) ?_
      refine q_callVi (As := [.int 3]) (κ := 5) (i := i) (show i < 13 from hrow_i) rfl ⟨_, rfl⟩ rfl ⟨hx, hb, hml, hown, hts⟩ (kX3_fault l D cy hI g _ i hrow_i 3 ) (cwV 1 hts gX3_score_X3_fault rfl rfl rfl (by decide +kernel) ⟨Nat.le_of_ble_eq_true rfl, Nat.le_of_ble_eq_true rfl⟩) hB hC hS rfl hl.1 (Nat.le_of_ble_eq_true rfl) dX3_score_47 ⟨Nat.le_of_ble_eq_true rfl, Nat.le_of_ble_eq_true rfl⟩ (fun H locs hC hS => ?_)
      refine lv_isub hx hb dX3_score_50 ?_
      refine lv_istore_n (lv' := [(2, .int ((((68 + (fX4_height g (8 + i)) + 2) - (fX3_fault g i 1)) - (fX3_fault g i 2)) - (fX3_fault g i 3))), (3, .int 3), (0, .ref (ad 5 i)), (1, .ref (ad 10 0))]) hx hb dX3_score_51 rfl hl (by decide) rfl (fun ls hl => ?_)
      refine lv_iinc (v := 4) (lv' := [(3, .int 4), (2, .int ((((68 + (fX4_height g (8 + i)) + 2) - (fX3_fault g i 1)) - (fX3_fault g i 2)) - (fX3_fault g i 3))), (0, .ref (ad 5 i)), (1, .ref (ad 10 0))]) hx hb dX3_score_52 hl (k := 1) rfl (by decide) (by decide) rfl (fun ls hl => ?_)
      refine lv_goto (tgt := 39) hx hb dX3_score_55 (by decide) ?_
      refine lv_iload_n hx hb dX3_score_39 rfl (lv_at hl 0 rfl) ?_
      refine lv_iconst (v := 5) hx hb dX3_score_40 (by decide) ?_
      refine lv_icmp_gt (tgt := 58) hx hb dX3_score_41 (by decide) (fun c => absurd c (by decide)) (fun _ => ?_)
      refine lv_iload_n hx hb dX3_score_44 rfl (lv_at hl 1 rfl) ?_
      refine lv_aload_n hx hb dX3_score_45 rfl (lv_at hl 2 rfl) ?_
      refine lv_iload_n hx hb dX3_score_46 rfl (lv_at hl 0 rfl) ?_
      refine q_callVi (As := [.int 4]) (κ := 5) (i := i) (show i < 13 from hrow_i) rfl ⟨_, rfl⟩ rfl ⟨hx, hb, hml, hown, hts⟩ (kX3_fault l D cy hI g _ i hrow_i 4 ) (cwV 1 hts gX3_score_X3_fault rfl rfl rfl (by decide +kernel) ⟨Nat.le_of_ble_eq_true rfl, Nat.le_of_ble_eq_true rfl⟩) hB hC hS rfl hl.1 (Nat.le_of_ble_eq_true rfl) dX3_score_47 ⟨Nat.le_of_ble_eq_true rfl, Nat.le_of_ble_eq_true rfl⟩ (fun H locs hC hS => ?_)
      refine lv_isub hx hb dX3_score_50 ?_
      refine lv_istore_n (lv' := [(2, .int (((((68 + (fX4_height g (8 + i)) + 2) - (fX3_fault g i 1)) - (fX3_fault g i 2)) - (fX3_fault g i 3)) - (fX3_fault g i 4))), (3, .int 4), (0, .ref (ad 5 i)), (1, .ref (ad 10 0))]) hx hb dX3_score_51 rfl hl (by decide) rfl (fun ls hl => ?_)
      refine lv_iinc (v := 5) (lv' := [(3, .int 5), (2, .int (((((68 + (fX4_height g (8 + i)) + 2) - (fX3_fault g i 1)) - (fX3_fault g i 2)) - (fX3_fault g i 3)) - (fX3_fault g i 4))), (0, .ref (ad 5 i)), (1, .ref (ad 10 0))]) hx hb dX3_score_52 hl (k := 1) rfl (by decide) (by decide) rfl (fun ls hl => ?_)
      refine lv_goto (tgt := 39) hx hb dX3_score_55 (by decide) ?_
      refine lv_iload_n hx hb dX3_score_39 rfl (lv_at hl 0 rfl) ?_
      refine lv_iconst (v := 5) hx hb dX3_score_40 (by decide) ?_
      refine lv_icmp_gt (tgt := 58) hx hb dX3_score_41 (by decide) (fun c => absurd c (by decide)) (fun _ => ?_)
      refine lv_iload_n hx hb dX3_score_44 rfl (lv_at hl 1 rfl) ?_
      refine lv_aload_n hx hb dX3_score_45 rfl (lv_at hl 2 rfl) ?_
      refine lv_iload_n hx hb dX3_score_46 rfl (lv_at hl 0 rfl) ?_
      refine q_callVi (As := [.int 5]) (κ := 5) (i := i) (show i < 13 from hrow_i) rfl ⟨_, rfl⟩ rfl ⟨hx, hb, hml, hown, hts⟩ (kX3_fault l D cy hI g _ i hrow_i 5 ) (cwV 1 hts gX3_score_X3_fault rfl rfl rfl (by decide +kernel) ⟨Nat.le_of_ble_eq_true rfl, Nat.le_of_ble_eq_true rfl⟩) hB hC hS rfl hl.1 (Nat.le_of_ble_eq_true rfl) dX3_score_47 ⟨Nat.le_of_ble_eq_true rfl, Nat.le_of_ble_eq_true rfl⟩ (fun H locs hC hS => ?_)
      refine lv_isub hx hb dX3_score_50 ?_
      refine lv_istore_n (lv' := [(2, .int ((((((68 + (fX4_height g (8 + i)) + 2) - (fX3_fault g i 1)) - (fX3_fault g i 2)) - (fX3_fault g i 3)) - (fX3_fault g i 4)) - (fX3_fault g i 5))), (3, .int 5), (0, .ref (ad 5 i)), (1, .ref (ad 10 0))]) hx hb dX3_score_51 rfl hl (by decide) rfl (fun ls hl => ?_)
      refine lv_iinc (v := 6) (lv' := [(3, .int 6), (2, .int ((((((68 + (fX4_height g (8 + i)) + 2) - (fX3_fault g i 1)) - (fX3_fault g i 2)) - (fX3_fault g i 3)) - (fX3_fault g i 4)) - (fX3_fault g i 5))), (0, .ref (ad 5 i)), (1, .ref (ad 10 0))]) hx hb dX3_score_52 hl (k := 1) rfl (by decide) (by decide) rfl (fun ls hl => ?_)
      refine lv_goto (tgt := 39) hx hb dX3_score_55 (by decide) ?_
      refine lv_iload_n hx hb dX3_score_39 rfl (lv_at hl 0 rfl) ?_
      refine lv_iconst (v := 5) hx hb dX3_score_40 (by decide) ?_
      refine lv_icmp_gt (tgt := 58) hx hb dX3_score_41 (by decide) (fun _ => ?_) (fun c => absurd c (by decide))
      refine lv_bipush (v := 40) hx hb dX3_score_58 (by decide) ?_
      refine lv_iload_n hx hb dX3_score_60 rfl (lv_at hl 1 rfl) ?_
      refine va_mmax hx hb (hml.trans hl.1.symm) hown (hts _ qX3_score_w3) (hts _ qX3_score_w4) (hts _ qX3_score_w5) (hts _ qX3_score_w6) (Nat.le_of_ble_eq_true rfl) (Nat.le_of_ble_eq_true rfl) (Nat.le_of_ble_eq_true rfl) (Nat.le_of_ble_eq_true rfl) dX3_score_61 ?_
      exact q_reti hx hb hr hB hC hS rfl (by unfold fX3_score; rw [if_neg c1, if_pos c2]) hlocks dX3_score_64
  · skip
    refine lv_iinc (v := 68 + (fX4_height g (8 + i)) + 1) (lv' := [(2, .int (68 + (fX4_height g (8 + i)) + 1)), (0, .ref (ad 5 i)), (1, .ref (ad 10 0))]) hx hb dX3_score_20 hl (k := 0) rfl rfl (by decide) rfl (fun ls hl => ?_)
    refine lv_goto (tgt := 37) hx hb dX3_score_23 (by decide) ?_
    refine lv_iconst (v := 1) hx hb dX3_score_37 (by decide) ?_
    refine lv_istore_n (lv' := [(3, .int 1), (2, .int (68 + (fX4_height g (8 + i)) + 1)), (0, .ref (ad 5 i)), (1, .ref (ad 10 0))]) hx hb dX3_score_38 rfl hl (by decide) rfl (fun ls hl => ?_)
    refine lv_iload_n hx hb dX3_score_39 rfl (lv_at hl 0 rfl) ?_
    refine lv_iconst (v := 5) hx hb dX3_score_40 (by decide) ?_
    refine lv_icmp_gt (tgt := 58) hx hb dX3_score_41 (by decide) (fun c => absurd c (by decide)) (fun _ => ?_)
    refine lv_iload_n hx hb dX3_score_44 rfl (lv_at hl 1 rfl) ?_
    refine lv_aload_n hx hb dX3_score_45 rfl (lv_at hl 2 rfl) ?_
    refine lv_iload_n hx hb dX3_score_46 rfl (lv_at hl 0 rfl) ?_
    refine q_callVi (As := [.int 1]) (κ := 5) (i := i) (show i < 13 from hrow_i) rfl ⟨_, rfl⟩ rfl ⟨hx, hb, hml, hown, hts⟩ (kX3_fault l D cy hI g _ i hrow_i 1 ) (cwV 1 hts gX3_score_X3_fault rfl rfl rfl (by decide +kernel) ⟨Nat.le_of_ble_eq_true rfl, Nat.le_of_ble_eq_true rfl⟩) hB hC hS rfl hl.1 (Nat.le_of_ble_eq_true rfl) dX3_score_47 ⟨Nat.le_of_ble_eq_true rfl, Nat.le_of_ble_eq_true rfl⟩ (fun H locs hC hS => ?_)
    refine lv_isub hx hb dX3_score_50 ?_
    refine lv_istore_n (lv' := [(2, .int ((68 + (fX4_height g (8 + i)) + 1) - (fX3_fault g i 1))), (3, .int 1), (0, .ref (ad 5 i)), (1, .ref (ad 10 0))]) hx hb dX3_score_51 rfl hl (by decide) rfl (fun ls hl => ?_)
    refine lv_iinc (v := 2) (lv' := [(3, .int 2), (2, .int ((68 + (fX4_height g (8 + i)) + 1) - (fX3_fault g i 1))), (0, .ref (ad 5 i)), (1, .ref (ad 10 0))]) hx hb dX3_score_52 hl (k := 1) rfl (by decide) (by decide) rfl (fun ls hl => ?_)
    refine lv_goto (tgt := 39) hx hb dX3_score_55 (by decide) ?_
    refine lv_iload_n hx hb dX3_score_39 rfl (lv_at hl 0 rfl) ?_
    refine lv_iconst (v := 5) hx hb dX3_score_40 (by decide) ?_
    refine lv_icmp_gt (tgt := 58) hx hb dX3_score_41 (by decide) (fun c => absurd c (by decide)) (fun _ => ?_)
    refine lv_iload_n hx hb dX3_score_44 rfl (lv_at hl 1 rfl) ?_
    refine lv_aload_n hx hb dX3_score_45 rfl (lv_at hl 2 rfl) ?_
    refine lv_iload_n hx hb dX3_score_46 rfl (lv_at hl 0 rfl) ?_
    refine q_callVi (As := [.int 2]) (κ := 5) (i := i) (show i < 13 from hrow_i) rfl ⟨_, rfl⟩ rfl ⟨hx, hb, hml, hown, hts⟩ (kX3_fault l D cy hI g _ i hrow_i 2 ) (cwV 1 hts gX3_score_X3_fault rfl rfl rfl (by decide +kernel) ⟨Nat.le_of_ble_eq_true rfl, Nat.le_of_ble_eq_true rfl⟩) hB hC hS rfl hl.1 (Nat.le_of_ble_eq_true rfl) dX3_score_47 ⟨Nat.le_of_ble_eq_true rfl, Nat.le_of_ble_eq_true rfl⟩ (fun H locs hC hS => ?_)
    refine lv_isub hx hb dX3_score_50 ?_
    refine lv_istore_n (lv' := [(2, .int (((68 + (fX4_height g (8 + i)) + 1) - (fX3_fault g i 1)) - (fX3_fault g i 2))), (3, .int 2), (0, .ref (ad 5 i)), (1, .ref (ad 10 0))]) hx hb dX3_score_51 rfl hl (by decide) rfl (fun ls hl => ?_)
    refine lv_iinc (v := 3) (lv' := [(3, .int 3), (2, .int (((68 + (fX4_height g (8 + i)) + 1) - (fX3_fault g i 1)) - (fX3_fault g i 2))), (0, .ref (ad 5 i)), (1, .ref (ad 10 0))]) hx hb dX3_score_52 hl (k := 1) rfl (by decide) (by decide) rfl (fun ls hl => ?_)
    refine lv_goto (tgt := 39) hx hb dX3_score_55 (by decide) ?_
    refine lv_iload_n hx hb dX3_score_39 rfl (lv_at hl 0 rfl) ?_
    refine lv_iconst (v := 5) hx hb dX3_score_40 (by decide) ?_
    refine lv_icmp_gt (tgt := 58) hx hb dX3_score_41 (by decide) (fun c => absurd c (by decide)) (fun _ => ?_)
    refine lv_iload_n hx hb dX3_score_44 rfl (lv_at hl 1 rfl) ?_
    refine lv_aload_n hx hb dX3_score_45 rfl (lv_at hl 2 rfl) ?_
    refine lv_iload_n hx hb dX3_score_46 rfl (lv_at hl 0 rfl) ?_
    refine q_callVi (As := [.int 3]) (κ := 5) (i := i) (show i < 13 from hrow_i) rfl ⟨_, rfl⟩ rfl ⟨hx, hb, hml, hown, hts⟩ (kX3_fault l D cy hI g _ i hrow_i 3 ) (cwV 1 hts gX3_score_X3_fault rfl rfl rfl (by decide +kernel) ⟨Nat.le_of_ble_eq_true rfl, Nat.le_of_ble_eq_true rfl⟩) hB hC hS rfl hl.1 (Nat.le_of_ble_eq_true rfl) dX3_score_47 ⟨Nat.le_of_ble_eq_true rfl, Nat.le_of_ble_eq_true rfl⟩ (fun H locs hC hS => ?_)
    refine lv_isub hx hb dX3_score_50 ?_
    refine lv_istore_n (lv' := [(2, .int ((((68 + (fX4_height g (8 + i)) + 1) - (fX3_fault g i 1)) - (fX3_fault g i 2)) - (fX3_fault g i 3))), (3, .int 3), (0, .ref (ad 5 i)), (1, .ref (ad 10 0))]) hx hb dX3_score_51 rfl hl (by decide) rfl (fun ls hl => ?_)
    refine lv_iinc (v := 4) (lv' := [(3, .int 4), (2, .int ((((68 + (fX4_height g (8 + i)) + 1) - (fX3_fault g i 1)) - (fX3_fault g i 2)) - (fX3_fault g i 3))), (0, .ref (ad 5 i)), (1, .ref (ad 10 0))]) hx hb dX3_score_52 hl (k := 1) rfl (by decide) (by decide) rfl (fun ls hl => ?_)
    refine lv_goto (tgt := 39) hx hb dX3_score_55 (by decide) ?_
    refine lv_iload_n hx hb dX3_score_39 rfl (lv_at hl 0 rfl) ?_
    refine lv_iconst (v := 5) hx hb dX3_score_40 (by decide) ?_
    refine lv_icmp_gt (tgt := 58) hx hb dX3_score_41 (by decide) (fun c => absurd c (by decide)) (fun _ => ?_)
    refine lv_iload_n hx hb dX3_score_44 rfl (lv_at hl 1 rfl) ?_
    refine lv_aload_n hx hb dX3_score_45 rfl (lv_at hl 2 rfl) ?_
    refine lv_iload_n hx hb dX3_score_46 rfl (lv_at hl 0 rfl) ?_
    refine q_callVi (As := [.int 4]) (κ := 5) (i := i) (show i < 13 from hrow_i) rfl ⟨_, rfl⟩ rfl ⟨hx, hb, hml, hown, hts⟩ (kX3_fault l D cy hI g _ i hrow_i 4 ) (cwV 1 hts gX3_score_X3_fault rfl rfl rfl (by decide +kernel) ⟨Nat.le_of_ble_eq_true rfl, Nat.le_of_ble_eq_true rfl⟩) hB hC hS rfl hl.1 (Nat.le_of_ble_eq_true rfl) dX3_score_47 ⟨Nat.le_of_ble_eq_true rfl, Nat.le_of_ble_eq_true rfl⟩ (fun H locs hC hS => ?_)
    refine lv_isub hx hb dX3_score_50 ?_
    refine lv_istore_n (lv' := [(2, .int (((((68 + (fX4_height g (8 + i)) + 1) - (fX3_fault g i 1)) - (fX3_fault g i 2)) - (fX3_fault g i 3)) - (fX3_fault g i 4))), (3, .int 4), (0, .ref (ad 5 i)), (1, .ref (ad 10 0))]) hx hb dX3_score_51 rfl hl (by decide) rfl (fun ls hl => ?_)
    refine lv_iinc (v := 5) (lv' := [(3, .int 5), (2, .int (((((68 + (fX4_height g (8 + i)) + 1) - (fX3_fault g i 1)) - (fX3_fault g i 2)) - (fX3_fault g i 3)) - (fX3_fault g i 4))), (0, .ref (ad 5 i)), (1, .ref (ad 10 0))]) hx hb dX3_score_52 hl (k := 1) rfl (by decide) (by decide) rfl (fun ls hl => ?_)
    refine lv_goto (tgt := 39) hx hb dX3_score_55 (by decide) ?_
    refine lv_iload_n hx hb dX3_score_39 rfl (lv_at hl 0 rfl) ?_
    refine lv_iconst (v := 5) hx hb dX3_score_40 (by decide) ?_
    refine lv_icmp_gt (tgt := 58) hx hb dX3_score_41 (by decide) (fun c => absurd c (by decide)) (fun _ => ?_)
    refine lv_iload_n hx hb dX3_score_44 rfl (lv_at hl 1 rfl) ?_
    refine lv_aload_n hx hb dX3_score_45 rfl (lv_at hl 2 rfl) ?_
    refine lv_iload_n hx hb dX3_score_46 rfl (lv_at hl 0 rfl) ?_
    refine q_callVi (As := [.int 5]) (κ := 5) (i := i) (show i < 13 from hrow_i) rfl ⟨_, rfl⟩ rfl ⟨hx, hb, hml, hown, hts⟩ (kX3_fault l D cy hI g _ i hrow_i 5 ) (cwV 1 hts gX3_score_X3_fault rfl rfl rfl (by decide +kernel) ⟨Nat.le_of_ble_eq_true rfl, Nat.le_of_ble_eq_true rfl⟩) hB hC hS rfl hl.1 (Nat.le_of_ble_eq_true rfl) dX3_score_47 ⟨Nat.le_of_ble_eq_true rfl, Nat.le_of_ble_eq_true rfl⟩ (fun H locs hC hS => ?_)
    refine lv_isub hx hb dX3_score_50 ?_
    refine lv_istore_n (lv' := [(2, .int ((((((68 + (fX4_height g (8 + i)) + 1) - (fX3_fault g i 1)) - (fX3_fault g i 2)) - (fX3_fault g i 3)) - (fX3_fault g i 4)) - (fX3_fault g i 5))), (3, .int 5), (0, .ref (ad 5 i)), (1, .ref (ad 10 0))]) hx hb dX3_score_51 rfl hl (by decide) rfl (fun ls hl => ?_)
    refine lv_iinc (v := 6) (lv' := [(3, .int 6), (2, .int ((((((68 + (fX4_height g (8 + i)) + 1) - (fX3_fault g i 1)) - (fX3_fault g i 2)) - (fX3_fault g i 3)) - (fX3_fault g i 4)) - (fX3_fault g i 5))), (0, .ref (ad 5 i)), (1, .ref (ad 10 0))]) hx hb dX3_score_52 hl (k := 1) rfl (by decide) (by decide) rfl (fun ls hl => ?_)
    refine lv_goto (tgt := 39) hx hb dX3_score_55 (by decide) ?_
    refine lv_iload_n hx hb dX3_score_39 rfl (lv_at hl 0 rfl) ?_
    refine lv_iconst (v := 5) hx hb dX3_score_40 (by decide) ?_
    refine lv_icmp_gt (tgt := 58) hx hb dX3_score_41 (by decide) (fun _ => ?_) (fun c => absurd c (by decide))
    refine lv_bipush (v := 40) hx hb dX3_score_58 (by decide) ?_
    refine lv_iload_n hx hb dX3_score_60 rfl (lv_at hl 1 rfl) ?_
    refine va_mmax hx hb (hml.trans hl.1.symm) hown (hts _ qX3_score_w3) (hts _ qX3_score_w4) (hts _ qX3_score_w5) (hts _ qX3_score_w6) (Nat.le_of_ble_eq_true rfl) (Nat.le_of_ble_eq_true rfl) (Nat.le_of_ble_eq_true rfl) (Nat.le_of_ble_eq_true rfl) dX3_score_61 ?_
    exact q_reti hx hb hr hB hC hS rfl (by unfold fX3_score; rw [if_pos c1]) hlocks dX3_score_64
def fX3_cause (g : Gd) (i : Nat) : Int32 := if (fX3_fault g i 1) ≤ 0 then (if (fX3_fault g i 2) ≤ 0 then (if (fX3_fault g i 3) ≤ 0 then (if (fX3_fault g i 4) ≤ 0 then (if (fX3_fault g i 5) ≤ 0 then (0) else (5)) else (if (fX3_fault g i 5) ≤ (fX3_fault g i 4) then (4) else (5))) else (if (fX3_fault g i 4) ≤ (fX3_fault g i 3) then (if (fX3_fault g i 5) ≤ (fX3_fault g i 3) then (3) else (5)) else (if (fX3_fault g i 5) ≤ (fX3_fault g i 4) then (4) else (5)))) else (if (fX3_fault g i 3) ≤ (fX3_fault g i 2) then (if (fX3_fault g i 4) ≤ (fX3_fault g i 2) then (if (fX3_fault g i 5) ≤ (fX3_fault g i 2) then (2) else (5)) else (if (fX3_fault g i 5) ≤ (fX3_fault g i 4) then (4) else (5))) else (if (fX3_fault g i 4) ≤ (fX3_fault g i 3) then (if (fX3_fault g i 5) ≤ (fX3_fault g i 3) then (3) else (5)) else (if (fX3_fault g i 5) ≤ (fX3_fault g i 4) then (4) else (5))))) else (if (fX3_fault g i 2) ≤ (fX3_fault g i 1) then (if (fX3_fault g i 3) ≤ (fX3_fault g i 1) then (if (fX3_fault g i 4) ≤ (fX3_fault g i 1) then (if (fX3_fault g i 5) ≤ (fX3_fault g i 1) then (1) else (5)) else (if (fX3_fault g i 5) ≤ (fX3_fault g i 4) then (4) else (5))) else (if (fX3_fault g i 4) ≤ (fX3_fault g i 3) then (if (fX3_fault g i 5) ≤ (fX3_fault g i 3) then (3) else (5)) else (if (fX3_fault g i 5) ≤ (fX3_fault g i 4) then (4) else (5)))) else (if (fX3_fault g i 3) ≤ (fX3_fault g i 2) then (if (fX3_fault g i 4) ≤ (fX3_fault g i 2) then (if (fX3_fault g i 5) ≤ (fX3_fault g i 2) then (2) else (5)) else (if (fX3_fault g i 5) ≤ (fX3_fault g i 4) then (4) else (5))) else (if (fX3_fault g i 4) ≤ (fX3_fault g i 3) then (if (fX3_fault g i 5) ≤ (fX3_fault g i 3) then (3) else (5)) else (if (fX3_fault g i 5) ≤ (fX3_fault g i 4) then (4) else (5)))))
set_option maxRecDepth 100000 in
set_option maxHeartbeats 4000000 in
theorem kX3_cause (l : Launch) (D : va_G) (cy : Nat → ClassId) {ad : Nat → Nat → Nat} (hI : cI ad) (g : Gd) (sz : Nat) (i : Nat) (hrow_i : i < 13) : Met l yX3_cause wsX3_cause ({ frames := 2, cells := 0, slots := 0, locals := 41 } : Room) (va_Pc [.ref (ad 5 i)] (cPre D cy ad g sz)) (cQi D cy ad (fX3_cause g i) g sz) 0 0 (cA ad sz) := by
  refine q_start (cc := cX3_cause) (maxL := 4) (ret := (some .int)) (own := RX3) (by decide) rfl rfl (Nat.le_of_ble_eq_true rfl) ?_
  intro p e s m below meth c hx hb hr hml hts hown hlocks ⟨hsz, hC, hB⟩ ls hl
  subst hsz
  have hS : va_S (cA ad s.heap.size) s.heap s.heap [] := va_S.rf
  have hA : ∀ κ i : Nat, cV κ i → cA ad s.heap.size (ad κ i) := fun κ i h => Or.inl ⟨κ, i, h, rfl⟩
  have hl : lv_has ls 4 [(0, .ref (ad 5 i))] := hl
  refine lv_iconst (v := 0) hx hb dX3_cause_0 (by decide) ?_
  refine lv_istore_n (lv' := [(1, .int 0), (0, .ref (ad 5 i))]) hx hb dX3_cause_1 rfl hl (by decide) rfl (fun ls hl => ?_)
  refine lv_iconst (v := 0) hx hb dX3_cause_2 (by decide) ?_
  refine lv_istore_n (lv' := [(2, .int 0), (1, .int 0), (0, .ref (ad 5 i))]) hx hb dX3_cause_3 rfl hl (by decide) rfl (fun ls hl => ?_)
  refine lv_iconst (v := 1) hx hb dX3_cause_4 (by decide) ?_
  refine lv_istore_n (lv' := [(3, .int 1), (2, .int 0), (1, .int 0), (0, .ref (ad 5 i))]) hx hb dX3_cause_5 rfl hl (by decide) rfl (fun ls hl => ?_)
  refine lv_iload_n hx hb dX3_cause_6 rfl (lv_at hl 0 rfl) ?_
  refine lv_iconst (v := 5) hx hb dX3_cause_7 (by decide) ?_
  refine lv_icmp_gt (tgt := 34) hx hb dX3_cause_8 (by decide) (fun c => absurd c (by decide)) (fun _ => ?_)
  refine lv_aload_n hx hb dX3_cause_11 rfl (lv_at hl 3 rfl) ?_
  refine lv_iload_n hx hb dX3_cause_12 rfl (lv_at hl 0 rfl) ?_
  refine q_callVi (As := [.int 1]) (κ := 5) (i := i) (show i < 13 from hrow_i) rfl ⟨_, rfl⟩ rfl ⟨hx, hb, hml, hown, hts⟩ (kX3_fault l D cy hI g _ i hrow_i 1 ) (cwV 1 hts gX3_cause_X3_fault rfl rfl rfl (by decide +kernel) ⟨Nat.le_of_ble_eq_true rfl, Nat.le_of_ble_eq_true rfl⟩) hB hC hS rfl hl.1 (Nat.le_of_ble_eq_true rfl) dX3_cause_13 ⟨Nat.le_of_ble_eq_true rfl, Nat.le_of_ble_eq_true rfl⟩ (fun H locs hC hS => ?_)
  refine lv_iload_n hx hb dX3_cause_16 rfl (lv_at hl 2 rfl) ?_
  refine lv_icmp_le (tgt := 28) hx hb dX3_cause_17 (by decide) (fun c1 => ?_) (fun c1 => ?_)
  · skip
    refine lv_iinc (v := 2) (lv' := [(3, .int 2), (2, .int 0), (1, .int 0), (0, .ref (ad 5 i))]) hx hb dX3_cause_28 hl (k := 0) rfl (by decide) (by decide) rfl (fun ls hl => ?_)
    refine lv_goto (tgt := 6) hx hb dX3_cause_31 (by decide) ?_
    refine lv_iload_n hx hb dX3_cause_6 rfl (lv_at hl 0 rfl) ?_
    refine lv_iconst (v := 5) hx hb dX3_cause_7 (by decide) ?_
    refine lv_icmp_gt (tgt := 34) hx hb dX3_cause_8 (by decide) (fun c => absurd c (by decide)) (fun _ => ?_)
    refine lv_aload_n hx hb dX3_cause_11 rfl (lv_at hl 3 rfl) ?_
    refine lv_iload_n hx hb dX3_cause_12 rfl (lv_at hl 0 rfl) ?_
    refine q_callVi (As := [.int 2]) (κ := 5) (i := i) (show i < 13 from hrow_i) rfl ⟨_, rfl⟩ rfl ⟨hx, hb, hml, hown, hts⟩ (kX3_fault l D cy hI g _ i hrow_i 2 ) (cwV 1 hts gX3_cause_X3_fault rfl rfl rfl (by decide +kernel) ⟨Nat.le_of_ble_eq_true rfl, Nat.le_of_ble_eq_true rfl⟩) hB hC hS rfl hl.1 (Nat.le_of_ble_eq_true rfl) dX3_cause_13 ⟨Nat.le_of_ble_eq_true rfl, Nat.le_of_ble_eq_true rfl⟩ (fun H locs hC hS => ?_)
    refine lv_iload_n hx hb dX3_cause_16 rfl (lv_at hl 2 rfl) ?_
    refine lv_icmp_le (tgt := 28) hx hb dX3_cause_17 (by decide) (fun c2 => ?_) (fun c2 => ?_)
    · skip
      refine lv_iinc (v := 3) (lv' := [(3, .int 3), (2, .int 0), (1, .int 0), (0, .ref (ad 5 i))]) hx hb dX3_cause_28 hl (k := 0) rfl (by decide) (by decide) rfl (fun ls hl => ?_)
      refine lv_goto (tgt := 6) hx hb dX3_cause_31 (by decide) ?_
      refine lv_iload_n hx hb dX3_cause_6 rfl (lv_at hl 0 rfl) ?_
      refine lv_iconst (v := 5) hx hb dX3_cause_7 (by decide) ?_
      refine lv_icmp_gt (tgt := 34) hx hb dX3_cause_8 (by decide) (fun c => absurd c (by decide)) (fun _ => ?_)
      refine lv_aload_n hx hb dX3_cause_11 rfl (lv_at hl 3 rfl) ?_
      refine lv_iload_n hx hb dX3_cause_12 rfl (lv_at hl 0 rfl) ?_
      refine q_callVi (As := [.int 3]) (κ := 5) (i := i) (show i < 13 from hrow_i) rfl ⟨_, rfl⟩ rfl ⟨hx, hb, hml, hown, hts⟩ (kX3_fault l D cy hI g _ i hrow_i 3 ) (cwV 1 hts gX3_cause_X3_fault rfl rfl rfl (by decide +kernel) ⟨Nat.le_of_ble_eq_true rfl, Nat.le_of_ble_eq_true rfl⟩) hB hC hS rfl hl.1 (Nat.le_of_ble_eq_true rfl) dX3_cause_13 ⟨Nat.le_of_ble_eq_true rfl, Nat.le_of_ble_eq_true rfl⟩ (fun H locs hC hS => ?_)
      refine lv_iload_n hx hb dX3_cause_16 rfl (lv_at hl 2 rfl) ?_
      refine lv_icmp_le (tgt := 28) hx hb dX3_cause_17 (by decide) (fun c3 => ?_) (fun c3 => ?_)
      · skip
        refine lv_iinc (v := 4) (lv' := [(3, .int 4), (2, .int 0), (1, .int 0), (0, .ref (ad 5 i))]) hx hb dX3_cause_28 hl (k := 0) rfl (by decide) (by decide) rfl (fun ls hl => ?_)
        refine lv_goto (tgt := 6) hx hb dX3_cause_31 (by decide) ?_
        refine lv_iload_n hx hb dX3_cause_6 rfl (lv_at hl 0 rfl) ?_
        refine lv_iconst (v := 5) hx hb dX3_cause_7 (by decide) ?_
        refine lv_icmp_gt (tgt := 34) hx hb dX3_cause_8 (by decide) (fun c => absurd c (by decide)) (fun _ => ?_)
        refine lv_aload_n hx hb dX3_cause_11 rfl (lv_at hl 3 rfl) ?_
        refine lv_iload_n hx hb dX3_cause_12 rfl (lv_at hl 0 rfl) ?_
        refine q_callVi (As := [.int 4]) (κ := 5) (i := i) (show i < 13 from hrow_i) rfl ⟨_, rfl⟩ rfl ⟨hx, hb, hml, hown, hts⟩ (kX3_fault l D cy hI g _ i hrow_i 4 ) (cwV 1 hts gX3_cause_X3_fault rfl rfl rfl (by decide +kernel) ⟨Nat.le_of_ble_eq_true rfl, Nat.le_of_ble_eq_true rfl⟩) hB hC hS rfl hl.1 (Nat.le_of_ble_eq_true rfl) dX3_cause_13 ⟨Nat.le_of_ble_eq_true rfl, Nat.le_of_ble_eq_true rfl⟩ (fun H locs hC hS => ?_)
        refine lv_iload_n hx hb dX3_cause_16 rfl (lv_at hl 2 rfl) ?_
        refine lv_icmp_le (tgt := 28) hx hb dX3_cause_17 (by decide) (fun c4 => ?_) (fun c4 => ?_)
        · skip
          refine lv_iinc (v := 5) (lv' := [(3, .int 5), (2, .int 0), (1, .int 0), (0, .ref (ad 5 i))]) hx hb dX3_cause_28 hl (k := 0) rfl (by decide) (by decide) rfl (fun ls hl => ?_)
          refine lv_goto (tgt := 6) hx hb dX3_cause_31 (by decide) ?_
          refine lv_iload_n hx hb dX3_cause_6 rfl (lv_at hl 0 rfl) ?_
          refine lv_iconst (v := 5) hx hb dX3_cause_7 (by decide) ?_
          refine lv_icmp_gt (tgt := 34) hx hb dX3_cause_8 (by decide) (fun c => absurd c (by decide)) (fun _ => ?_)
          refine lv_aload_n hx hb dX3_cause_11 rfl (lv_at hl 3 rfl) ?_
          refine lv_iload_n hx hb dX3_cause_12 rfl (lv_at hl 0 rfl) ?_
          refine q_callVi (As := [.int 5]) (κ := 5) (i := i) (show i < 13 from hrow_i) rfl ⟨_, rfl⟩ rfl ⟨hx, hb, hml, hown, hts⟩ (kX3_fault l D cy hI g _ i hrow_i 5 ) (cwV 1 hts gX3_cause_X3_fault rfl rfl rfl (by decide +kernel) ⟨Nat.le_of_ble_eq_true rfl, Nat.le_of_ble_eq_true rfl⟩) hB hC hS rfl hl.1 (Nat.le_of_ble_eq_true rfl) dX3_cause_13 ⟨Nat.le_of_ble_eq_true rfl, Nat.le_of_ble_eq_true rfl⟩ (fun H locs hC hS => ?_)
          refine lv_iload_n hx hb dX3_cause_16 rfl (lv_at hl 2 rfl) ?_
          refine lv_icmp_le (tgt := 28) hx hb dX3_cause_17 (by decide) (fun c5 => ?_) (fun c5 => ?_)
          · skip
            refine lv_iinc (v := 6) (lv' := [(3, .int 6), (2, .int 0), (1, .int 0), (0, .ref (ad 5 i))]) hx hb dX3_cause_28 hl (k := 0) rfl (by decide) (by decide) rfl (fun ls hl => ?_)
            refine lv_goto (tgt := 6) hx hb dX3_cause_31 (by decide) ?_
            refine lv_iload_n hx hb dX3_cause_6 rfl (lv_at hl 0 rfl) ?_
            refine lv_iconst (v := 5) hx hb dX3_cause_7 (by decide) ?_
            refine lv_icmp_gt (tgt := 34) hx hb dX3_cause_8 (by decide) (fun _ => ?_) (fun c => absurd c (by decide))
            refine lv_iload_n hx hb dX3_cause_34 rfl (lv_at hl 1 rfl) ?_
            exact q_reti hx hb hr hB hC hS rfl (by unfold fX3_cause; rw [if_pos c1, if_pos c2, if_pos c3, if_pos c4, if_pos c5]) hlocks dX3_cause_35
          · skip
            refine lv_aload_n hx hb dX3_cause_20 rfl (lv_at hl 3 rfl) ?_
            refine lv_iload_n hx hb dX3_cause_21 rfl (lv_at hl 0 rfl) ?_
            refine q_callVi (As := [.int 5]) (κ := 5) (i := i) (show i < 13 from hrow_i) rfl ⟨_, rfl⟩ rfl ⟨hx, hb, hml, hown, hts⟩ (kX3_fault l D cy hI g _ i hrow_i 5 ) (cwV 1 hts gX3_cause_X3_fault rfl rfl rfl (by decide +kernel) ⟨Nat.le_of_ble_eq_true rfl, Nat.le_of_ble_eq_true rfl⟩) hB hC hS rfl hl.1 (Nat.le_of_ble_eq_true rfl) dX3_cause_22 ⟨Nat.le_of_ble_eq_true rfl, Nat.le_of_ble_eq_true rfl⟩ (fun H locs hC hS => ?_)
            refine lv_istore_n (lv' := [(1, .int (fX3_fault g i 5)), (3, .int 5), (2, .int 0), (0, .ref (ad 5 i))]) hx hb dX3_cause_25 rfl hl (by decide) rfl (fun ls hl => ?_)
            refine lv_iload_n hx hb dX3_cause_26 rfl (lv_at hl 1 rfl) ?_
            refine lv_istore_n (lv' := [(2, .int 5), (1, .int (fX3_fault g i 5)), (3, .int 5), (0, .ref (ad 5 i))]) hx hb dX3_cause_27 rfl hl (by decide) rfl (fun ls hl => ?_)
            refine lv_iinc (v := 6) (lv' := [(3, .int 6), (2, .int 5), (1, .int (fX3_fault g i 5)), (0, .ref (ad 5 i))]) hx hb dX3_cause_28 hl (k := 2) rfl (by decide) (by decide) rfl (fun ls hl => ?_)
            refine lv_goto (tgt := 6) hx hb dX3_cause_31 (by decide) ?_
            refine lv_iload_n hx hb dX3_cause_6 rfl (lv_at hl 0 rfl) ?_
            refine lv_iconst (v := 5) hx hb dX3_cause_7 (by decide) ?_
            refine lv_icmp_gt (tgt := 34) hx hb dX3_cause_8 (by decide) (fun _ => ?_) (fun c => absurd c (by decide))
            refine lv_iload_n hx hb dX3_cause_34 rfl (lv_at hl 1 rfl) ?_
            exact q_reti hx hb hr hB hC hS rfl (by unfold fX3_cause; rw [if_pos c1, if_pos c2, if_pos c3, if_pos c4, if_neg c5]) hlocks dX3_cause_35
        · skip
          refine lv_aload_n hx hb dX3_cause_20 rfl (lv_at hl 3 rfl) ?_
          refine lv_iload_n hx hb dX3_cause_21 rfl (lv_at hl 0 rfl) ?_
          refine q_callVi (As := [.int 4]) (κ := 5) (i := i) (show i < 13 from hrow_i) rfl ⟨_, rfl⟩ rfl ⟨hx, hb, hml, hown, hts⟩ (kX3_fault l D cy hI g _ i hrow_i 4 ) (cwV 1 hts gX3_cause_X3_fault rfl rfl rfl (by decide +kernel) ⟨Nat.le_of_ble_eq_true rfl, Nat.le_of_ble_eq_true rfl⟩) hB hC hS rfl hl.1 (Nat.le_of_ble_eq_true rfl) dX3_cause_22 ⟨Nat.le_of_ble_eq_true rfl, Nat.le_of_ble_eq_true rfl⟩ (fun H locs hC hS => ?_)
          refine lv_istore_n (lv' := [(1, .int (fX3_fault g i 4)), (3, .int 4), (2, .int 0), (0, .ref (ad 5 i))]) hx hb dX3_cause_25 rfl hl (by decide) rfl (fun ls hl => ?_)
          refine lv_iload_n hx hb dX3_cause_26 rfl (lv_at hl 1 rfl) ?_
          refine lv_istore_n (lv' := [(2, .int 4), (1, .int (fX3_fault g i 4)), (3, .int 4), (0, .ref (ad 5 i))]) hx hb dX3_cause_27 rfl hl (by decide) rfl (fun ls hl => ?_)
          refine lv_iinc (v := 5) (lv' := [(3, .int 5), (2, .int 4), (1, .int (fX3_fault g i 4)), (0, .ref (ad 5 i))]) hx hb dX3_cause_28 hl (k := 2) rfl (by decide) (by decide) rfl (fun ls hl => ?_)
          refine lv_goto (tgt := 6) hx hb dX3_cause_31 (by decide) ?_
          refine lv_iload_n hx hb dX3_cause_6 rfl (lv_at hl 0 rfl) ?_
          refine lv_iconst (v := 5) hx hb dX3_cause_7 (by decide) ?_
          refine lv_icmp_gt (tgt := 34) hx hb dX3_cause_8 (by decide) (fun c => absurd c (by decide)) (fun _ => ?_)
          refine lv_aload_n hx hb dX3_cause_11 rfl (lv_at hl 3 rfl) ?_
          refine lv_iload_n hx hb dX3_cause_12 rfl (lv_at hl 0 rfl) ?_
          refine q_callVi (As := [.int 5]) (κ := 5) (i := i) (show i < 13 from hrow_i) rfl ⟨_, rfl⟩ rfl ⟨hx, hb, hml, hown, hts⟩ (kX3_fault l D cy hI g _ i hrow_i 5 ) (cwV 1 hts gX3_cause_X3_fault rfl rfl rfl (by decide +kernel) ⟨Nat.le_of_ble_eq_true rfl, Nat.le_of_ble_eq_true rfl⟩) hB hC hS rfl hl.1 (Nat.le_of_ble_eq_true rfl) dX3_cause_13 ⟨Nat.le_of_ble_eq_true rfl, Nat.le_of_ble_eq_true rfl⟩ (fun H locs hC hS => ?_)
          refine lv_iload_n hx hb dX3_cause_16 rfl (lv_at hl 2 rfl) ?_
          refine lv_icmp_le (tgt := 28) hx hb dX3_cause_17 (by decide) (fun c6 => ?_) (fun c6 => ?_)
          · skip
            refine lv_iinc (v := 6) (lv' := [(3, .int 6), (2, .int 4), (1, .int (fX3_fault g i 4)), (0, .ref (ad 5 i))]) hx hb dX3_cause_28 hl (k := 0) rfl (by decide) (by decide) rfl (fun ls hl => ?_)
            refine lv_goto (tgt := 6) hx hb dX3_cause_31 (by decide) ?_
            refine lv_iload_n hx hb dX3_cause_6 rfl (lv_at hl 0 rfl) ?_
            refine lv_iconst (v := 5) hx hb dX3_cause_7 (by decide) ?_
            refine lv_icmp_gt (tgt := 34) hx hb dX3_cause_8 (by decide) (fun _ => ?_) (fun c => absurd c (by decide))
            refine lv_iload_n hx hb dX3_cause_34 rfl (lv_at hl 1 rfl) ?_
            exact q_reti hx hb hr hB hC hS rfl (by unfold fX3_cause; rw [if_pos c1, if_pos c2, if_pos c3, if_neg c4, if_pos c6]) hlocks dX3_cause_35
          · skip
            refine lv_aload_n hx hb dX3_cause_20 rfl (lv_at hl 3 rfl) ?_
            refine lv_iload_n hx hb dX3_cause_21 rfl (lv_at hl 0 rfl) ?_
            refine q_callVi (As := [.int 5]) (κ := 5) (i := i) (show i < 13 from hrow_i) rfl ⟨_, rfl⟩ rfl ⟨hx, hb, hml, hown, hts⟩ (kX3_fault l D cy hI g _ i hrow_i 5 ) (cwV 1 hts gX3_cause_X3_fault rfl rfl rfl (by decide +kernel) ⟨Nat.le_of_ble_eq_true rfl, Nat.le_of_ble_eq_true rfl⟩) hB hC hS rfl hl.1 (Nat.le_of_ble_eq_true rfl) dX3_cause_22 ⟨Nat.le_of_ble_eq_true rfl, Nat.le_of_ble_eq_true rfl⟩ (fun H locs hC hS => ?_)
            refine lv_istore_n (lv' := [(1, .int (fX3_fault g i 5)), (3, .int 5), (2, .int 4), (0, .ref (ad 5 i))]) hx hb dX3_cause_25 rfl hl (by decide) rfl (fun ls hl => ?_)
            refine lv_iload_n hx hb dX3_cause_26 rfl (lv_at hl 1 rfl) ?_
            refine lv_istore_n (lv' := [(2, .int 5), (1, .int (fX3_fault g i 5)), (3, .int 5), (0, .ref (ad 5 i))]) hx hb dX3_cause_27 rfl hl (by decide) rfl (fun ls hl => ?_)
            refine lv_iinc (v := 6) (lv' := [(3, .int 6), (2, .int 5), (1, .int (fX3_fault g i 5)), (0, .ref (ad 5 i))]) hx hb dX3_cause_28 hl (k := 2) rfl (by decide) (by decide) rfl (fun ls hl => ?_)
            refine lv_goto (tgt := 6) hx hb dX3_cause_31 (by decide) ?_
            refine lv_iload_n hx hb dX3_cause_6 rfl (lv_at hl 0 rfl) ?_
            refine lv_iconst (v := 5) hx hb dX3_cause_7 (by decide) ?_
            refine lv_icmp_gt (tgt := 34) hx hb dX3_cause_8 (by decide) (fun _ => ?_) (fun c => absurd c (by decide))
            refine lv_iload_n hx hb dX3_cause_34 rfl (lv_at hl 1 rfl) ?_
            exact q_reti hx hb hr hB hC hS rfl (by unfold fX3_cause; rw [if_pos c1, if_pos c2, if_pos c3, if_neg c4, if_neg c6]) hlocks dX3_cause_35
      · skip
        refine lv_aload_n hx hb dX3_cause_20 rfl (lv_at hl 3 rfl) ?_
        refine lv_iload_n hx hb dX3_cause_21 rfl (lv_at hl 0 rfl) ?_
        refine q_callVi (As := [.int 3]) (κ := 5) (i := i) (show i < 13 from hrow_i) rfl ⟨_, rfl⟩ rfl ⟨hx, hb, hml, hown, hts⟩ (kX3_fault l D cy hI g _ i hrow_i 3 ) (cwV 1 hts gX3_cause_X3_fault rfl rfl rfl (by decide +kernel) ⟨Nat.le_of_ble_eq_true rfl, Nat.le_of_ble_eq_true rfl⟩) hB hC hS rfl hl.1 (Nat.le_of_ble_eq_true rfl) dX3_cause_22 ⟨Nat.le_of_ble_eq_true rfl, Nat.le_of_ble_eq_true rfl⟩ (fun H locs hC hS => ?_)
        refine lv_istore_n (lv' := [(1, .int (fX3_fault g i 3)), (3, .int 3), (2, .int 0), (0, .ref (ad 5 i))]) hx hb dX3_cause_25 rfl hl (by decide) rfl (fun ls hl => ?_)
        refine lv_iload_n hx hb dX3_cause_26 rfl (lv_at hl 1 rfl) ?_
        refine lv_istore_n (lv' := [(2, .int 3), (1, .int (fX3_fault g i 3)), (3, .int 3), (0, .ref (ad 5 i))]) hx hb dX3_cause_27 rfl hl (by decide) rfl (fun ls hl => ?_)
        refine lv_iinc (v := 4) (lv' := [(3, .int 4), (2, .int 3), (1, .int (fX3_fault g i 3)), (0, .ref (ad 5 i))]) hx hb dX3_cause_28 hl (k := 2) rfl (by decide) (by decide) rfl (fun ls hl => ?_)
        refine lv_goto (tgt := 6) hx hb dX3_cause_31 (by decide) ?_
        refine lv_iload_n hx hb dX3_cause_6 rfl (lv_at hl 0 rfl) ?_
        refine lv_iconst (v := 5) hx hb dX3_cause_7 (by decide) ?_
        refine lv_icmp_gt (tgt := 34) hx hb dX3_cause_8 (by decide) (fun c => absurd c (by decide)) (fun _ => ?_)
        refine lv_aload_n hx hb dX3_cause_11 rfl (lv_at hl 3 rfl) ?_
        refine lv_iload_n hx hb dX3_cause_12 rfl (lv_at hl 0 rfl) ?_
        refine q_callVi (As := [.int 4]) (κ := 5) (i := i) (show i < 13 from hrow_i) rfl ⟨_, rfl⟩ rfl ⟨hx, hb, hml, hown, hts⟩ (kX3_fault l D cy hI g _ i hrow_i 4 ) (cwV 1 hts gX3_cause_X3_fault rfl rfl rfl (by decide +kernel) ⟨Nat.le_of_ble_eq_true rfl, Nat.le_of_ble_eq_true rfl⟩) hB hC hS rfl hl.1 (Nat.le_of_ble_eq_true rfl) dX3_cause_13 ⟨Nat.le_of_ble_eq_true rfl, Nat.le_of_ble_eq_true rfl⟩ (fun H locs hC hS => ?_)
        refine lv_iload_n hx hb dX3_cause_16 rfl (lv_at hl 2 rfl) ?_
        refine lv_icmp_le (tgt := 28) hx hb dX3_cause_17 (by decide) (fun c7 => ?_) (fun c7 => ?_)
        · skip
          refine lv_iinc (v := 5) (lv' := [(3, .int 5), (2, .int 3), (1, .int (fX3_fault g i 3)), (0, .ref (ad 5 i))]) hx hb dX3_cause_28 hl (k := 0) rfl (by decide) (by decide) rfl (fun ls hl => ?_)
          refine lv_goto (tgt := 6) hx hb dX3_cause_31 (by decide) ?_
          refine lv_iload_n hx hb dX3_cause_6 rfl (lv_at hl 0 rfl) ?_
          refine lv_iconst (v := 5) hx hb dX3_cause_7 (by decide) ?_
          refine lv_icmp_gt (tgt := 34) hx hb dX3_cause_8 (by decide) (fun c => absurd c (by decide)) (fun _ => ?_)
          refine lv_aload_n hx hb dX3_cause_11 rfl (lv_at hl 3 rfl) ?_
          refine lv_iload_n hx hb dX3_cause_12 rfl (lv_at hl 0 rfl) ?_
          refine q_callVi (As := [.int 5]) (κ := 5) (i := i) (show i < 13 from hrow_i) rfl ⟨_, rfl⟩ rfl ⟨hx, hb, hml, hown, hts⟩ (kX3_fault l D cy hI g _ i hrow_i 5 ) (cwV 1 hts gX3_cause_X3_fault rfl rfl rfl (by decide +kernel) ⟨Nat.le_of_ble_eq_true rfl, Nat.le_of_ble_eq_true rfl⟩) hB hC hS rfl hl.1 (Nat.le_of_ble_eq_true rfl) dX3_cause_13 ⟨Nat.le_of_ble_eq_true rfl, Nat.le_of_ble_eq_true rfl⟩ (fun H locs hC hS => ?_)
          refine lv_iload_n hx hb dX3_cause_16 rfl (lv_at hl 2 rfl) ?_
          refine lv_icmp_le (tgt := 28) hx hb dX3_cause_17 (by decide) (fun c8 => ?_) (fun c8 => ?_)
          · skip
            refine lv_iinc (v := 6) (lv' := [(3, .int 6), (2, .int 3), (1, .int (fX3_fault g i 3)), (0, .ref (ad 5 i))]) hx hb dX3_cause_28 hl (k := 0) rfl (by decide) (by decide) rfl (fun ls hl => ?_)
            refine lv_goto (tgt := 6) hx hb dX3_cause_31 (by decide) ?_
            refine lv_iload_n hx hb dX3_cause_6 rfl (lv_at hl 0 rfl) ?_
            refine lv_iconst (v := 5) hx hb dX3_cause_7 (by decide) ?_
            refine lv_icmp_gt (tgt := 34) hx hb dX3_cause_8 (by decide) (fun _ => ?_) (fun c => absurd c (by decide))
            refine lv_iload_n hx hb dX3_cause_34 rfl (lv_at hl 1 rfl) ?_
            exact q_reti hx hb hr hB hC hS rfl (by unfold fX3_cause; rw [if_pos c1, if_pos c2, if_neg c3, if_pos c7, if_pos c8]) hlocks dX3_cause_35
          · skip
            refine lv_aload_n hx hb dX3_cause_20 rfl (lv_at hl 3 rfl) ?_
            refine lv_iload_n hx hb dX3_cause_21 rfl (lv_at hl 0 rfl) ?_
            refine q_callVi (As := [.int 5]) (κ := 5) (i := i) (show i < 13 from hrow_i) rfl ⟨_, rfl⟩ rfl ⟨hx, hb, hml, hown, hts⟩ (kX3_fault l D cy hI g _ i hrow_i 5 ) (cwV 1 hts gX3_cause_X3_fault rfl rfl rfl (by decide +kernel) ⟨Nat.le_of_ble_eq_true rfl, Nat.le_of_ble_eq_true rfl⟩) hB hC hS rfl hl.1 (Nat.le_of_ble_eq_true rfl) dX3_cause_22 ⟨Nat.le_of_ble_eq_true rfl, Nat.le_of_ble_eq_true rfl⟩ (fun H locs hC hS => ?_)
            refine lv_istore_n (lv' := [(1, .int (fX3_fault g i 5)), (3, .int 5), (2, .int 3), (0, .ref (ad 5 i))]) hx hb dX3_cause_25 rfl hl (by decide) rfl (fun ls hl => ?_)
            refine lv_iload_n hx hb dX3_cause_26 rfl (lv_at hl 1 rfl) ?_
            refine lv_istore_n (lv' := [(2, .int 5), (1, .int (fX3_fault g i 5)), (3, .int 5), (0, .ref (ad 5 i))]) hx hb dX3_cause_27 rfl hl (by decide) rfl (fun ls hl => ?_)
            refine lv_iinc (v := 6) (lv' := [(3, .int 6), (2, .int 5), (1, .int (fX3_fault g i 5)), (0, .ref (ad 5 i))]) hx hb dX3_cause_28 hl (k := 2) rfl (by decide) (by decide) rfl (fun ls hl => ?_)
            refine lv_goto (tgt := 6) hx hb dX3_cause_31 (by decide) ?_
            refine lv_iload_n hx hb dX3_cause_6 rfl (lv_at hl 0 rfl) ?_
            refine lv_iconst (v := 5) hx hb dX3_cause_7 (by decide) ?_
            refine lv_icmp_gt (tgt := 34) hx hb dX3_cause_8 (by decide) (fun _ => ?_) (fun c => absurd c (by decide))
            refine lv_iload_n hx hb dX3_cause_34 rfl (lv_at hl 1 rfl) ?_
            exact q_reti hx hb hr hB hC hS rfl (by unfold fX3_cause; rw [if_pos c1, if_pos c2, if_neg c3, if_pos c7, if_neg c8]) hlocks dX3_cause_35
        · skip
          refine lv_aload_n hx hb dX3_cause_20 rfl (lv_at hl 3 rfl) ?_
          refine lv_iload_n hx hb dX3_cause_21 rfl (lv_at hl 0 rfl) ?_
          refine q_callVi (As := [.int 4]) (κ := 5) (i := i) (show i < 13 from hrow_i) rfl ⟨_, rfl⟩ rfl ⟨hx, hb, hml, hown, hts⟩ (kX3_fault l D cy hI g _ i hrow_i 4 ) (cwV 1 hts gX3_cause_X3_fault rfl rfl rfl (by decide +kernel) ⟨Nat.le_of_ble_eq_true rfl, Nat.le_of_ble_eq_true rfl⟩) hB hC hS rfl hl.1 (Nat.le_of_ble_eq_true rfl) dX3_cause_22 ⟨Nat.le_of_ble_eq_true rfl, Nat.le_of_ble_eq_true rfl⟩ (fun H locs hC hS => ?_)
          refine lv_istore_n (lv' := [(1, .int (fX3_fault g i 4)), (3, .int 4), (2, .int 3), (0, .ref (ad 5 i))]) hx hb dX3_cause_25 rfl hl (by decide) rfl (fun ls hl => ?_)
          refine lv_iload_n hx hb dX3_cause_26 rfl (lv_at hl 1 rfl) ?_
          refine lv_istore_n (lv' := [(2, .int 4), (1, .int (fX3_fault g i 4)), (3, .int 4), (0, .ref (ad 5 i))]) hx hb dX3_cause_27 rfl hl (by decide) rfl (fun ls hl => ?_)
          refine lv_iinc (v := 5) (lv' := [(3, .int 5), (2, .int 4), (1, .int (fX3_fault g i 4)), (0, .ref (ad 5 i))]) hx hb dX3_cause_28 hl (k := 2) rfl (by decide) (by decide) rfl (fun ls hl => ?_)
          refine lv_goto (tgt := 6) hx hb dX3_cause_31 (by decide) ?_
          refine lv_iload_n hx hb dX3_cause_6 rfl (lv_at hl 0 rfl) ?_
          refine lv_iconst (v := 5) hx hb dX3_cause_7 (by decide) ?_
          refine lv_icmp_gt (tgt := 34) hx hb dX3_cause_8 (by decide) (fun c => absurd c (by decide)) (fun _ => ?_)
          refine lv_aload_n hx hb dX3_cause_11 rfl (lv_at hl 3 rfl) ?_
          refine lv_iload_n hx hb dX3_cause_12 rfl (lv_at hl 0 rfl) ?_
          refine q_callVi (As := [.int 5]) (κ := 5) (i := i) (show i < 13 from hrow_i) rfl ⟨_, rfl⟩ rfl ⟨hx, hb, hml, hown, hts⟩ (kX3_fault l D cy hI g _ i hrow_i 5 ) (cwV 1 hts gX3_cause_X3_fault rfl rfl rfl (by decide +kernel) ⟨Nat.le_of_ble_eq_true rfl, Nat.le_of_ble_eq_true rfl⟩) hB hC hS rfl hl.1 (Nat.le_of_ble_eq_true rfl) dX3_cause_13 ⟨Nat.le_of_ble_eq_true rfl, Nat.le_of_ble_eq_true rfl⟩ (fun H locs hC hS => ?_)
          refine lv_iload_n hx hb dX3_cause_16 rfl (lv_at hl 2 rfl) ?_
          refine lv_icmp_le (tgt := 28) hx hb dX3_cause_17 (by decide) (fun c9 => ?_) (fun c9 => ?_)
          · skip
            refine lv_iinc (v := 6) (lv' := [(3, .int 6), (2, .int 4), (1, .int (fX3_fault g i 4)), (0, .ref (ad 5 i))]) hx hb dX3_cause_28 hl (k := 0) rfl (by decide) (by decide) rfl (fun ls hl => ?_)
            refine lv_goto (tgt := 6) hx hb dX3_cause_31 (by decide) ?_
            refine lv_iload_n hx hb dX3_cause_6 rfl (lv_at hl 0 rfl) ?_
            refine lv_iconst (v := 5) hx hb dX3_cause_7 (by decide) ?_
            refine lv_icmp_gt (tgt := 34) hx hb dX3_cause_8 (by decide) (fun _ => ?_) (fun c => absurd c (by decide))
            refine lv_iload_n hx hb dX3_cause_34 rfl (lv_at hl 1 rfl) ?_
            exact q_reti hx hb hr hB hC hS rfl (by unfold fX3_cause; rw [if_pos c1, if_pos c2, if_neg c3, if_neg c7, if_pos c9]) hlocks dX3_cause_35
          · skip
            refine lv_aload_n hx hb dX3_cause_20 rfl (lv_at hl 3 rfl) ?_
            refine lv_iload_n hx hb dX3_cause_21 rfl (lv_at hl 0 rfl) ?_
            refine q_callVi (As := [.int 5]) (κ := 5) (i := i) (show i < 13 from hrow_i) rfl ⟨_, rfl⟩ rfl ⟨hx, hb, hml, hown, hts⟩ (kX3_fault l D cy hI g _ i hrow_i 5 ) (cwV 1 hts gX3_cause_X3_fault rfl rfl rfl (by decide +kernel) ⟨Nat.le_of_ble_eq_true rfl, Nat.le_of_ble_eq_true rfl⟩) hB hC hS rfl hl.1 (Nat.le_of_ble_eq_true rfl) dX3_cause_22 ⟨Nat.le_of_ble_eq_true rfl, Nat.le_of_ble_eq_true rfl⟩ (fun H locs hC hS => ?_)
            refine lv_istore_n (lv' := [(1, .int (fX3_fault g i 5)), (3, .int 5), (2, .int 4), (0, .ref (ad 5 i))]) hx hb dX3_cause_25 rfl hl (by decide) rfl (fun ls hl => ?_)
            refine lv_iload_n hx hb dX3_cause_26 rfl (lv_at hl 1 rfl) ?_
            refine lv_istore_n (lv' := [(2, .int 5), (1, .int (fX3_fault g i 5)), (3, .int 5), (0, .ref (ad 5 i))]) hx hb dX3_cause_27 rfl hl (by decide) rfl (fun ls hl => ?_)
            refine lv_iinc (v := 6) (lv' := [(3, .int 6), (2, .int 5), (1, .int (fX3_fault g i 5)), (0, .ref (ad 5 i))]) hx hb dX3_cause_28 hl (k := 2) rfl (by decide) (by decide) rfl (fun ls hl => ?_)
            refine lv_goto (tgt := 6) hx hb dX3_cause_31 (by decide) ?_
            refine lv_iload_n hx hb dX3_cause_6 rfl (lv_at hl 0 rfl) ?_
            refine lv_iconst (v := 5) hx hb dX3_cause_7 (by decide) ?_
            refine lv_icmp_gt (tgt := 34) hx hb dX3_cause_8 (by decide) (fun _ => ?_) (fun c => absurd c (by decide))
            refine lv_iload_n hx hb dX3_cause_34 rfl (lv_at hl 1 rfl) ?_
            exact q_reti hx hb hr hB hC hS rfl (by unfold fX3_cause; rw [if_pos c1, if_pos c2, if_neg c3, if_neg c7, if_neg c9]) hlocks dX3_cause_35
    · skip
      refine lv_aload_n hx hb dX3_cause_20 rfl (lv_at hl 3 rfl) ?_
      refine lv_iload_n hx hb dX3_cause_21 rfl (lv_at hl 0 rfl) ?_
      refine q_callVi (As := [.int 2]) (κ := 5) (i := i) (show i < 13 from hrow_i) rfl ⟨_, rfl⟩ rfl ⟨hx, hb, hml, hown, hts⟩ (kX3_fault l D cy hI g _ i hrow_i 2 ) (cwV 1 hts gX3_cause_X3_fault rfl rfl rfl (by decide +kernel) ⟨Nat.le_of_ble_eq_true rfl, Nat.le_of_ble_eq_true rfl⟩) hB hC hS rfl hl.1 (Nat.le_of_ble_eq_true rfl) dX3_cause_22 ⟨Nat.le_of_ble_eq_true rfl, Nat.le_of_ble_eq_true rfl⟩ (fun H locs hC hS => ?_)
      refine lv_istore_n (lv' := [(1, .int (fX3_fault g i 2)), (3, .int 2), (2, .int 0), (0, .ref (ad 5 i))]) hx hb dX3_cause_25 rfl hl (by decide) rfl (fun ls hl => ?_)
      refine lv_iload_n hx hb dX3_cause_26 rfl (lv_at hl 1 rfl) ?_
      refine lv_istore_n (lv' := [(2, .int 2), (1, .int (fX3_fault g i 2)), (3, .int 2), (0, .ref (ad 5 i))]) hx hb dX3_cause_27 rfl hl (by decide) rfl (fun ls hl => ?_)
      refine lv_iinc (v := 3) (lv' := [(3, .int 3), (2, .int 2), (1, .int (fX3_fault g i 2)), (0, .ref (ad 5 i))]) hx hb dX3_cause_28 hl (k := 2) rfl (by decide) (by decide) rfl (fun ls hl => ?_)
      refine lv_goto (tgt := 6) hx hb dX3_cause_31 (by decide) ?_
      refine lv_iload_n hx hb dX3_cause_6 rfl (lv_at hl 0 rfl) ?_
      refine lv_iconst (v := 5) hx hb dX3_cause_7 (by decide) ?_
      refine lv_icmp_gt (tgt := 34) hx hb dX3_cause_8 (by decide) (fun c => absurd c (by decide)) (fun _ => ?_)
      refine lv_aload_n hx hb dX3_cause_11 rfl (lv_at hl 3 rfl) ?_
      refine lv_iload_n hx hb dX3_cause_12 rfl (lv_at hl 0 rfl) ?_
      refine q_callVi (As := [.int 3]) (κ := 5) (i := i) (show i < 13 from hrow_i) rfl ⟨_, rfl⟩ rfl ⟨hx, hb, hml, hown, hts⟩ (kX3_fault l D cy hI g _ i hrow_i 3 ) (cwV 1 hts gX3_cause_X3_fault rfl rfl rfl (by decide +kernel) ⟨Nat.le_of_ble_eq_true rfl, Nat.le_of_ble_eq_true rfl⟩) hB hC hS rfl hl.1 (Nat.le_of_ble_eq_true rfl) dX3_cause_13 ⟨Nat.le_of_ble_eq_true rfl, Nat.le_of_ble_eq_true rfl⟩ (fun H locs hC hS => ?_)
      refine lv_iload_n hx hb dX3_cause_16 rfl (lv_at hl 2 rfl) ?_
      refine lv_icmp_le (tgt := 28) hx hb dX3_cause_17 (by decide) (fun c10 => ?_) (fun c10 => ?_)
      · skip
        refine lv_iinc (v := 4) (lv' := [(3, .int 4), (2, .int 2), (1, .int (fX3_fault g i 2)), (0, .ref (ad 5 i))]) hx hb dX3_cause_28 hl (k := 0) rfl (by decide) (by decide) rfl (fun ls hl => ?_)
        refine lv_goto (tgt := 6) hx hb dX3_cause_31 (by decide) ?_
        refine lv_iload_n hx hb dX3_cause_6 rfl (lv_at hl 0 rfl) ?_
        refine lv_iconst (v := 5) hx hb dX3_cause_7 (by decide) ?_
        refine lv_icmp_gt (tgt := 34) hx hb dX3_cause_8 (by decide) (fun c => absurd c (by decide)) (fun _ => ?_)
        refine lv_aload_n hx hb dX3_cause_11 rfl (lv_at hl 3 rfl) ?_
        refine lv_iload_n hx hb dX3_cause_12 rfl (lv_at hl 0 rfl) ?_
        refine q_callVi (As := [.int 4]) (κ := 5) (i := i) (show i < 13 from hrow_i) rfl ⟨_, rfl⟩ rfl ⟨hx, hb, hml, hown, hts⟩ (kX3_fault l D cy hI g _ i hrow_i 4 ) (cwV 1 hts gX3_cause_X3_fault rfl rfl rfl (by decide +kernel) ⟨Nat.le_of_ble_eq_true rfl, Nat.le_of_ble_eq_true rfl⟩) hB hC hS rfl hl.1 (Nat.le_of_ble_eq_true rfl) dX3_cause_13 ⟨Nat.le_of_ble_eq_true rfl, Nat.le_of_ble_eq_true rfl⟩ (fun H locs hC hS => ?_)
        refine lv_iload_n hx hb dX3_cause_16 rfl (lv_at hl 2 rfl) ?_
        refine lv_icmp_le (tgt := 28) hx hb dX3_cause_17 (by decide) (fun c11 => ?_) (fun c11 => ?_)
        · skip
          refine lv_iinc (v := 5) (lv' := [(3, .int 5), (2, .int 2), (1, .int (fX3_fault g i 2)), (0, .ref (ad 5 i))]) hx hb dX3_cause_28 hl (k := 0) rfl (by decide) (by decide) rfl (fun ls hl => ?_)
          refine lv_goto (tgt := 6) hx hb dX3_cause_31 (by decide) ?_
          refine lv_iload_n hx hb dX3_cause_6 rfl (lv_at hl 0 rfl) ?_
          refine lv_iconst (v := 5) hx hb dX3_cause_7 (by decide) ?_
          refine lv_icmp_gt (tgt := 34) hx hb dX3_cause_8 (by decide) (fun c => absurd c (by decide)) (fun _ => ?_)
          refine lv_aload_n hx hb dX3_cause_11 rfl (lv_at hl 3 rfl) ?_
          refine lv_iload_n hx hb dX3_cause_12 rfl (lv_at hl 0 rfl) ?_
          refine q_callVi (As := [.int 5]) (κ := 5) (i := i) (show i < 13 from hrow_i) rfl ⟨_, rfl⟩ rfl ⟨hx, hb, hml, hown, hts⟩ (kX3_fault l D cy hI g _ i hrow_i 5 ) (cwV 1 hts gX3_cause_X3_fault rfl rfl rfl (by decide +kernel) ⟨Nat.le_of_ble_eq_true rfl, Nat.le_of_ble_eq_true rfl⟩) hB hC hS rfl hl.1 (Nat.le_of_ble_eq_true rfl) dX3_cause_13 ⟨Nat.le_of_ble_eq_true rfl, Nat.le_of_ble_eq_true rfl⟩ (fun H locs hC hS => ?_)
          refine lv_iload_n hx hb dX3_cause_16 rfl (lv_at hl 2 rfl) ?_
          refine lv_icmp_le (tgt := 28) hx hb dX3_cause_17 (by decide) (fun c12 => ?_) (fun c12 => ?_)
          · skip
            refine lv_iinc (v := 6) (lv' := [(3, .int 6), (2, .int 2), (1, .int (fX3_fault g i 2)), (0, .ref (ad 5 i))]) hx hb dX3_cause_28 hl (k := 0) rfl (by decide) (by decide) rfl (fun ls hl => ?_)
            refine lv_goto (tgt := 6) hx hb dX3_cause_31 (by decide) ?_
            refine lv_iload_n hx hb dX3_cause_6 rfl (lv_at hl 0 rfl) ?_
            refine lv_iconst (v := 5) hx hb dX3_cause_7 (by decide) ?_
            refine lv_icmp_gt (tgt := 34) hx hb dX3_cause_8 (by decide) (fun _ => ?_) (fun c => absurd c (by decide))
            refine lv_iload_n hx hb dX3_cause_34 rfl (lv_at hl 1 rfl) ?_
            exact q_reti hx hb hr hB hC hS rfl (by unfold fX3_cause; rw [if_pos c1, if_neg c2, if_pos c10, if_pos c11, if_pos c12]) hlocks dX3_cause_35
          · skip
            refine lv_aload_n hx hb dX3_cause_20 rfl (lv_at hl 3 rfl) ?_
            refine lv_iload_n hx hb dX3_cause_21 rfl (lv_at hl 0 rfl) ?_
            refine q_callVi (As := [.int 5]) (κ := 5) (i := i) (show i < 13 from hrow_i) rfl ⟨_, rfl⟩ rfl ⟨hx, hb, hml, hown, hts⟩ (kX3_fault l D cy hI g _ i hrow_i 5 ) (cwV 1 hts gX3_cause_X3_fault rfl rfl rfl (by decide +kernel) ⟨Nat.le_of_ble_eq_true rfl, Nat.le_of_ble_eq_true rfl⟩) hB hC hS rfl hl.1 (Nat.le_of_ble_eq_true rfl) dX3_cause_22 ⟨Nat.le_of_ble_eq_true rfl, Nat.le_of_ble_eq_true rfl⟩ (fun H locs hC hS => ?_)
            refine lv_istore_n (lv' := [(1, .int (fX3_fault g i 5)), (3, .int 5), (2, .int 2), (0, .ref (ad 5 i))]) hx hb dX3_cause_25 rfl hl (by decide) rfl (fun ls hl => ?_)
            refine lv_iload_n hx hb dX3_cause_26 rfl (lv_at hl 1 rfl) ?_
            refine lv_istore_n (lv' := [(2, .int 5), (1, .int (fX3_fault g i 5)), (3, .int 5), (0, .ref (ad 5 i))]) hx hb dX3_cause_27 rfl hl (by decide) rfl (fun ls hl => ?_)
            refine lv_iinc (v := 6) (lv' := [(3, .int 6), (2, .int 5), (1, .int (fX3_fault g i 5)), (0, .ref (ad 5 i))]) hx hb dX3_cause_28 hl (k := 2) rfl (by decide) (by decide) rfl (fun ls hl => ?_)
            refine lv_goto (tgt := 6) hx hb dX3_cause_31 (by decide) ?_
            refine lv_iload_n hx hb dX3_cause_6 rfl (lv_at hl 0 rfl) ?_
            refine lv_iconst (v := 5) hx hb dX3_cause_7 (by decide) ?_
            refine lv_icmp_gt (tgt := 34) hx hb dX3_cause_8 (by decide) (fun _ => ?_) (fun c => absurd c (by decide))
            refine lv_iload_n hx hb dX3_cause_34 rfl (lv_at hl 1 rfl) ?_
            exact q_reti hx hb hr hB hC hS rfl (by unfold fX3_cause; rw [if_pos c1, if_neg c2, if_pos c10, if_pos c11, if_neg c12]) hlocks dX3_cause_35
        · skip
          refine lv_aload_n hx hb dX3_cause_20 rfl (lv_at hl 3 rfl) ?_
          refine lv_iload_n hx hb dX3_cause_21 rfl (lv_at hl 0 rfl) ?_
          refine q_callVi (As := [.int 4]) (κ := 5) (i := i) (show i < 13 from hrow_i) rfl ⟨_, rfl⟩ rfl ⟨hx, hb, hml, hown, hts⟩ (kX3_fault l D cy hI g _ i hrow_i 4 ) (cwV 1 hts gX3_cause_X3_fault rfl rfl rfl (by decide +kernel) ⟨Nat.le_of_ble_eq_true rfl, Nat.le_of_ble_eq_true rfl⟩) hB hC hS rfl hl.1 (Nat.le_of_ble_eq_true rfl) dX3_cause_22 ⟨Nat.le_of_ble_eq_true rfl, Nat.le_of_ble_eq_true rfl⟩ (fun H locs hC hS => ?_)
          refine lv_istore_n (lv' := [(1, .int (fX3_fault g i 4)), (3, .int 4), (2, .int 2), (0, .ref (ad 5 i))]) hx hb dX3_cause_25 rfl hl (by decide) rfl (fun ls hl => ?_)
          refine lv_iload_n hx hb dX3_cause_26 rfl (lv_at hl 1 rfl) ?_
          refine lv_istore_n (lv' := [(2, .int 4), (1, .int (fX3_fault g i 4)), (3, .int 4), (0, .ref (ad 5 i))]) hx hb dX3_cause_27 rfl hl (by decide) rfl (fun ls hl => ?_)
          refine lv_iinc (v := 5) (lv' := [(3, .int 5), (2, .int 4), (1, .int (fX3_fault g i 4)), (0, .ref (ad 5 i))]) hx hb dX3_cause_28 hl (k := 2) rfl (by decide) (by decide) rfl (fun ls hl => ?_)
          refine lv_goto (tgt := 6) hx hb dX3_cause_31 (by decide) ?_
          refine lv_iload_n hx hb dX3_cause_6 rfl (lv_at hl 0 rfl) ?_
          refine lv_iconst (v := 5) hx hb dX3_cause_7 (by decide) ?_
          refine lv_icmp_gt (tgt := 34) hx hb dX3_cause_8 (by decide) (fun c => absurd c (by decide)) (fun _ => ?_)
          refine lv_aload_n hx hb dX3_cause_11 rfl (lv_at hl 3 rfl) ?_
          refine lv_iload_n hx hb dX3_cause_12 rfl (lv_at hl 0 rfl) ?_
          refine q_callVi (As := [.int 5]) (κ := 5) (i := i) (show i < 13 from hrow_i) rfl ⟨_, rfl⟩ rfl ⟨hx, hb, hml, hown, hts⟩ (kX3_fault l D cy hI g _ i hrow_i 5 ) (cwV 1 hts gX3_cause_X3_fault rfl rfl rfl (by decide +kernel) ⟨Nat.le_of_ble_eq_true rfl, Nat.le_of_ble_eq_true rfl⟩) hB hC hS rfl hl.1 (Nat.le_of_ble_eq_true rfl) dX3_cause_13 ⟨Nat.le_of_ble_eq_true rfl, Nat.le_of_ble_eq_true rfl⟩ (fun H locs hC hS => ?_)
          refine lv_iload_n hx hb dX3_cause_16 rfl (lv_at hl 2 rfl) ?_
          refine lv_icmp_le (tgt := 28) hx hb dX3_cause_17 (by decide) (fun c13 => ?_) (fun c13 => ?_)
          · skip
            refine lv_iinc (v := 6) (lv' := [(3, .int 6), (2, .int 4), (1, .int (fX3_fault g i 4)), (0, .ref (ad 5 i))]) hx hb dX3_cause_28 hl (k := 0) rfl (by decide) (by decide) rfl (fun ls hl => ?_)
            refine lv_goto (tgt := 6) hx hb dX3_cause_31 (by decide) ?_
            refine lv_iload_n hx hb dX3_cause_6 rfl (lv_at hl 0 rfl) ?_
            refine lv_iconst (v := 5) hx hb dX3_cause_7 (by decide) ?_
            refine lv_icmp_gt (tgt := 34) hx hb dX3_cause_8 (by decide) (fun _ => ?_) (fun c => absurd c (by decide))
            refine lv_iload_n hx hb dX3_cause_34 rfl (lv_at hl 1 rfl) ?_
            exact q_reti hx hb hr hB hC hS rfl (by unfold fX3_cause; rw [if_pos c1, if_neg c2, if_pos c10, if_neg c11, if_pos c13]) hlocks dX3_cause_35
          · skip
            refine lv_aload_n hx hb dX3_cause_20 rfl (lv_at hl 3 rfl) ?_
            refine lv_iload_n hx hb dX3_cause_21 rfl (lv_at hl 0 rfl) ?_
            refine q_callVi (As := [.int 5]) (κ := 5) (i := i) (show i < 13 from hrow_i) rfl ⟨_, rfl⟩ rfl ⟨hx, hb, hml, hown, hts⟩ (kX3_fault l D cy hI g _ i hrow_i 5 ) (cwV 1 hts gX3_cause_X3_fault rfl rfl rfl (by decide +kernel) ⟨Nat.le_of_ble_eq_true rfl, Nat.le_of_ble_eq_true rfl⟩) hB hC hS rfl hl.1 (Nat.le_of_ble_eq_true rfl) dX3_cause_22 ⟨Nat.le_of_ble_eq_true rfl, Nat.le_of_ble_eq_true rfl⟩ (fun H locs hC hS => ?_)
            refine lv_istore_n (lv' := [(1, .int (fX3_fault g i 5)), (3, .int 5), (2, .int 4), (0, .ref (ad 5 i))]) hx hb dX3_cause_25 rfl hl (by decide) rfl (fun ls hl => ?_)
            refine lv_iload_n hx hb dX3_cause_26 rfl (lv_at hl 1 rfl) ?_
            refine lv_istore_n (lv' := [(2, .int 5), (1, .int (fX3_fault g i 5)), (3, .int 5), (0, .ref (ad 5 i))]) hx hb dX3_cause_27 rfl hl (by decide) rfl (fun ls hl => ?_)
            refine lv_iinc (v := 6) (lv' := [(3, .int 6), (2, .int 5), (1, .int (fX3_fault g i 5)), (0, .ref (ad 5 i))]) hx hb dX3_cause_28 hl (k := 2) rfl (by decide) (by decide) rfl (fun ls hl => ?_)
            refine lv_goto (tgt := 6) hx hb dX3_cause_31 (by decide) ?_
            refine lv_iload_n hx hb dX3_cause_6 rfl (lv_at hl 0 rfl) ?_
            refine lv_iconst (v := 5) hx hb dX3_cause_7 (by decide) ?_
            refine lv_icmp_gt (tgt := 34) hx hb dX3_cause_8 (by decide) (fun _ => ?_) (fun c => absurd c (by decide))
            refine lv_iload_n hx hb dX3_cause_34 rfl (lv_at hl 1 rfl) ?_
            exact q_reti hx hb hr hB hC hS rfl (by unfold fX3_cause; rw [if_pos c1, if_neg c2, if_pos c10, if_neg c11, if_neg c13]) hlocks dX3_cause_35
      · skip
        refine lv_aload_n hx hb dX3_cause_20 rfl (lv_at hl 3 rfl) ?_
        refine lv_iload_n hx hb dX3_cause_21 rfl (lv_at hl 0 rfl) ?_
        refine q_callVi (As := [.int 3]) (κ := 5) (i := i) (show i < 13 from hrow_i) rfl ⟨_, rfl⟩ rfl ⟨hx, hb, hml, hown, hts⟩ (kX3_fault l D cy hI g _ i hrow_i 3 ) (cwV 1 hts gX3_cause_X3_fault rfl rfl rfl (by decide +kernel) ⟨Nat.le_of_ble_eq_true rfl, Nat.le_of_ble_eq_true rfl⟩) hB hC hS rfl hl.1 (Nat.le_of_ble_eq_true rfl) dX3_cause_22 ⟨Nat.le_of_ble_eq_true rfl, Nat.le_of_ble_eq_true rfl⟩ (fun H locs hC hS => ?_)
        refine lv_istore_n (lv' := [(1, .int (fX3_fault g i 3)), (3, .int 3), (2, .int 2), (0, .ref (ad 5 i))]) hx hb dX3_cause_25 rfl hl (by decide) rfl (fun ls hl => ?_)
        refine lv_iload_n hx hb dX3_cause_26 rfl (lv_at hl 1 rfl) ?_
        refine lv_istore_n (lv' := [(2, .int 3), (1, .int (fX3_fault g i 3)), (3, .int 3), (0, .ref (ad 5 i))]) hx hb dX3_cause_27 rfl hl (by decide) rfl (fun ls hl => ?_)
        refine lv_iinc (v := 4) (lv' := [(3, .int 4), (2, .int 3), (1, .int (fX3_fault g i 3)), (0, .ref (ad 5 i))]) hx hb dX3_cause_28 hl (k := 2) rfl (by decide) (by decide) rfl (fun ls hl => ?_)
        refine lv_goto (tgt := 6) hx hb dX3_cause_31 (by decide) ?_
        refine lv_iload_n hx hb dX3_cause_6 rfl (lv_at hl 0 rfl) ?_
        refine lv_iconst (v := 5) hx hb dX3_cause_7 (by decide) ?_
        refine lv_icmp_gt (tgt := 34) hx hb dX3_cause_8 (by decide) (fun c => absurd c (by decide)) (fun _ => ?_)
        refine lv_aload_n hx hb dX3_cause_11 rfl (lv_at hl 3 rfl) ?_
        refine lv_iload_n hx hb dX3_cause_12 rfl (lv_at hl 0 rfl) ?_
        refine q_callVi (As := [.int 4]) (κ := 5) (i := i) (show i < 13 from hrow_i) rfl ⟨_, rfl⟩ rfl ⟨hx, hb, hml, hown, hts⟩ (kX3_fault l D cy hI g _ i hrow_i 4 ) (cwV 1 hts gX3_cause_X3_fault rfl rfl rfl (by decide +kernel) ⟨Nat.le_of_ble_eq_true rfl, Nat.le_of_ble_eq_true rfl⟩) hB hC hS rfl hl.1 (Nat.le_of_ble_eq_true rfl) dX3_cause_13 ⟨Nat.le_of_ble_eq_true rfl, Nat.le_of_ble_eq_true rfl⟩ (fun H locs hC hS => ?_)
        refine lv_iload_n hx hb dX3_cause_16 rfl (lv_at hl 2 rfl) ?_
        refine lv_icmp_le (tgt := 28) hx hb dX3_cause_17 (by decide) (fun c14 => ?_) (fun c14 => ?_)
        · skip
          refine lv_iinc (v := 5) (lv' := [(3, .int 5), (2, .int 3), (1, .int (fX3_fault g i 3)), (0, .ref (ad 5 i))]) hx hb dX3_cause_28 hl (k := 0) rfl (by decide) (by decide) rfl (fun ls hl => ?_)
          refine lv_goto (tgt := 6) hx hb dX3_cause_31 (by decide) ?_
          refine lv_iload_n hx hb dX3_cause_6 rfl (lv_at hl 0 rfl) ?_
          refine lv_iconst (v := 5) hx hb dX3_cause_7 (by decide) ?_
          refine lv_icmp_gt (tgt := 34) hx hb dX3_cause_8 (by decide) (fun c => absurd c (by decide)) (fun _ => ?_)
          refine lv_aload_n hx hb dX3_cause_11 rfl (lv_at hl 3 rfl) ?_
          refine lv_iload_n hx hb dX3_cause_12 rfl (lv_at hl 0 rfl) ?_
          refine q_callVi (As := [.int 5]) (κ := 5) (i := i) (show i < 13 from hrow_i) rfl ⟨_, rfl⟩ rfl ⟨hx, hb, hml, hown, hts⟩ (kX3_fault l D cy hI g _ i hrow_i 5 ) (cwV 1 hts gX3_cause_X3_fault rfl rfl rfl (by decide +kernel) ⟨Nat.le_of_ble_eq_true rfl, Nat.le_of_ble_eq_true rfl⟩) hB hC hS rfl hl.1 (Nat.le_of_ble_eq_true rfl) dX3_cause_13 ⟨Nat.le_of_ble_eq_true rfl, Nat.le_of_ble_eq_true rfl⟩ (fun H locs hC hS => ?_)
          refine lv_iload_n hx hb dX3_cause_16 rfl (lv_at hl 2 rfl) ?_
          refine lv_icmp_le (tgt := 28) hx hb dX3_cause_17 (by decide) (fun c15 => ?_) (fun c15 => ?_)
          · skip
            refine lv_iinc (v := 6) (lv' := [(3, .int 6), (2, .int 3), (1, .int (fX3_fault g i 3)), (0, .ref (ad 5 i))]) hx hb dX3_cause_28 hl (k := 0) rfl (by decide) (by decide) rfl (fun ls hl => ?_)
            refine lv_goto (tgt := 6) hx hb dX3_cause_31 (by decide) ?_
            refine lv_iload_n hx hb dX3_cause_6 rfl (lv_at hl 0 rfl) ?_
            refine lv_iconst (v := 5) hx hb dX3_cause_7 (by decide) ?_
            refine lv_icmp_gt (tgt := 34) hx hb dX3_cause_8 (by decide) (fun _ => ?_) (fun c => absurd c (by decide))
            refine lv_iload_n hx hb dX3_cause_34 rfl (lv_at hl 1 rfl) ?_
            exact q_reti hx hb hr hB hC hS rfl (by unfold fX3_cause; rw [if_pos c1, if_neg c2, if_neg c10, if_pos c14, if_pos c15]) hlocks dX3_cause_35
          · skip
            refine lv_aload_n hx hb dX3_cause_20 rfl (lv_at hl 3 rfl) ?_
            refine lv_iload_n hx hb dX3_cause_21 rfl (lv_at hl 0 rfl) ?_
            refine q_callVi (As := [.int 5]) (κ := 5) (i := i) (show i < 13 from hrow_i) rfl ⟨_, rfl⟩ rfl ⟨hx, hb, hml, hown, hts⟩ (kX3_fault l D cy hI g _ i hrow_i 5 ) (cwV 1 hts gX3_cause_X3_fault rfl rfl rfl (by decide +kernel) ⟨Nat.le_of_ble_eq_true rfl, Nat.le_of_ble_eq_true rfl⟩) hB hC hS rfl hl.1 (Nat.le_of_ble_eq_true rfl) dX3_cause_22 ⟨Nat.le_of_ble_eq_true rfl, Nat.le_of_ble_eq_true rfl⟩ (fun H locs hC hS => ?_)
            refine lv_istore_n (lv' := [(1, .int (fX3_fault g i 5)), (3, .int 5), (2, .int 3), (0, .ref (ad 5 i))]) hx hb dX3_cause_25 rfl hl (by decide) rfl (fun ls hl => ?_)
            refine lv_iload_n hx hb dX3_cause_26 rfl (lv_at hl 1 rfl) ?_
            refine lv_istore_n (lv' := [(2, .int 5), (1, .int (fX3_fault g i 5)), (3, .int 5), (0, .ref (ad 5 i))]) hx hb dX3_cause_27 rfl hl (by decide) rfl (fun ls hl => ?_)
            refine lv_iinc (v := 6) (lv' := [(3, .int 6), (2, .int 5), (1, .int (fX3_fault g i 5)), (0, .ref (ad 5 i))]) hx hb dX3_cause_28 hl (k := 2) rfl (by decide) (by decide) rfl (fun ls hl => ?_)
            refine lv_goto (tgt := 6) hx hb dX3_cause_31 (by decide) ?_
            refine lv_iload_n hx hb dX3_cause_6 rfl (lv_at hl 0 rfl) ?_
            refine lv_iconst (v := 5) hx hb dX3_cause_7 (by decide) ?_
            refine lv_icmp_gt (tgt := 34) hx hb dX3_cause_8 (by decide) (fun _ => ?_) (fun c => absurd c (by decide))
            refine lv_iload_n hx hb dX3_cause_34 rfl (lv_at hl 1 rfl) ?_
            exact q_reti hx hb hr hB hC hS rfl (by unfold fX3_cause; rw [if_pos c1, if_neg c2, if_neg c10, if_pos c14, if_neg c15]) hlocks dX3_cause_35
        · skip
          refine lv_aload_n hx hb dX3_cause_20 rfl (lv_at hl 3 rfl) ?_
          refine lv_iload_n hx hb dX3_cause_21 rfl (lv_at hl 0 rfl) ?_
          refine q_callVi (As := [.int 4]) (κ := 5) (i := i) (show i < 13 from hrow_i) rfl ⟨_, rfl⟩ rfl ⟨hx, hb, hml, hown, hts⟩ (kX3_fault l D cy hI g _ i hrow_i 4 ) (cwV 1 hts gX3_cause_X3_fault rfl rfl rfl (by decide +kernel) ⟨Nat.le_of_ble_eq_true rfl, Nat.le_of_ble_eq_true rfl⟩) hB hC hS rfl hl.1 (Nat.le_of_ble_eq_true rfl) dX3_cause_22 ⟨Nat.le_of_ble_eq_true rfl, Nat.le_of_ble_eq_true rfl⟩ (fun H locs hC hS => ?_)
          refine lv_istore_n (lv' := [(1, .int (fX3_fault g i 4)), (3, .int 4), (2, .int 3), (0, .ref (ad 5 i))]) hx hb dX3_cause_25 rfl hl (by decide) rfl (fun ls hl => ?_)
          refine lv_iload_n hx hb dX3_cause_26 rfl (lv_at hl 1 rfl) ?_
          refine lv_istore_n (lv' := [(2, .int 4), (1, .int (fX3_fault g i 4)), (3, .int 4), (0, .ref (ad 5 i))]) hx hb dX3_cause_27 rfl hl (by decide) rfl (fun ls hl => ?_)
          refine lv_iinc (v := 5) (lv' := [(3, .int 5), (2, .int 4), (1, .int (fX3_fault g i 4)), (0, .ref (ad 5 i))]) hx hb dX3_cause_28 hl (k := 2) rfl (by decide) (by decide) rfl (fun ls hl => ?_)
          refine lv_goto (tgt := 6) hx hb dX3_cause_31 (by decide) ?_
          refine lv_iload_n hx hb dX3_cause_6 rfl (lv_at hl 0 rfl) ?_
          refine lv_iconst (v := 5) hx hb dX3_cause_7 (by decide) ?_
          refine lv_icmp_gt (tgt := 34) hx hb dX3_cause_8 (by decide) (fun c => absurd c (by decide)) (fun _ => ?_)
          refine lv_aload_n hx hb dX3_cause_11 rfl (lv_at hl 3 rfl) ?_
          refine lv_iload_n hx hb dX3_cause_12 rfl (lv_at hl 0 rfl) ?_
          refine q_callVi (As := [.int 5]) (κ := 5) (i := i) (show i < 13 from hrow_i) rfl ⟨_, rfl⟩ rfl ⟨hx, hb, hml, hown, hts⟩ (kX3_fault l D cy hI g _ i hrow_i 5 ) (cwV 1 hts gX3_cause_X3_fault rfl rfl rfl (by decide +kernel) ⟨Nat.le_of_ble_eq_true rfl, Nat.le_of_ble_eq_true rfl⟩) hB hC hS rfl hl.1 (Nat.le_of_ble_eq_true rfl) dX3_cause_13 ⟨Nat.le_of_ble_eq_true rfl, Nat.le_of_ble_eq_true rfl⟩ (fun H locs hC hS => ?_)
          refine lv_iload_n hx hb dX3_cause_16 rfl (lv_at hl 2 rfl) ?_
          refine lv_icmp_le (tgt := 28) hx hb dX3_cause_17 (by decide) (fun c16 => ?_) (fun c16 => ?_)
          · skip
            refine lv_iinc (v := 6) (lv' := [(3, .int 6), (2, .int 4), (1, .int (fX3_fault g i 4)), (0, .ref (ad 5 i))]) hx hb dX3_cause_28 hl (k := 0) rfl (by decide) (by decide) rfl (fun ls hl => ?_)
            refine lv_goto (tgt := 6) hx hb dX3_cause_31 (by decide) ?_
            refine lv_iload_n hx hb dX3_cause_6 rfl (lv_at hl 0 rfl) ?_
            refine lv_iconst (v := 5) hx hb dX3_cause_7 (by decide) ?_
            refine lv_icmp_gt (tgt := 34) hx hb dX3_cause_8 (by decide) (fun _ => ?_) (fun c => absurd c (by decide))
            refine lv_iload_n hx hb dX3_cause_34 rfl (lv_at hl 1 rfl) ?_
            exact q_reti hx hb hr hB hC hS rfl (by unfold fX3_cause; rw [if_pos c1, if_neg c2, if_neg c10, if_neg c14, if_pos c16]) hlocks dX3_cause_35
          · skip
            refine lv_aload_n hx hb dX3_cause_20 rfl (lv_at hl 3 rfl) ?_
            refine lv_iload_n hx hb dX3_cause_21 rfl (lv_at hl 0 rfl) ?_
            refine q_callVi (As := [.int 5]) (κ := 5) (i := i) (show i < 13 from hrow_i) rfl ⟨_, rfl⟩ rfl ⟨hx, hb, hml, hown, hts⟩ (kX3_fault l D cy hI g _ i hrow_i 5 ) (cwV 1 hts gX3_cause_X3_fault rfl rfl rfl (by decide +kernel) ⟨Nat.le_of_ble_eq_true rfl, Nat.le_of_ble_eq_true rfl⟩) hB hC hS rfl hl.1 (Nat.le_of_ble_eq_true rfl) dX3_cause_22 ⟨Nat.le_of_ble_eq_true rfl, Nat.le_of_ble_eq_true rfl⟩ (fun H locs hC hS => ?_)
            refine lv_istore_n (lv' := [(1, .int (fX3_fault g i 5)), (3, .int 5), (2, .int 4), (0, .ref (ad 5 i))]) hx hb dX3_cause_25 rfl hl (by decide) rfl (fun ls hl => ?_)
            refine lv_iload_n hx hb dX3_cause_26 rfl (lv_at hl 1 rfl) ?_
            refine lv_istore_n (lv' := [(2, .int 5), (1, .int (fX3_fault g i 5)), (3, .int 5), (0, .ref (ad 5 i))]) hx hb dX3_cause_27 rfl hl (by decide) rfl (fun ls hl => ?_)
            refine lv_iinc (v := 6) (lv' := [(3, .int 6), (2, .int 5), (1, .int (fX3_fault g i 5)), (0, .ref (ad 5 i))]) hx hb dX3_cause_28 hl (k := 2) rfl (by decide) (by decide) rfl (fun ls hl => ?_)
            refine lv_goto (tgt := 6) hx hb dX3_cause_31 (by decide) ?_
            refine lv_iload_n hx hb dX3_cause_6 rfl (lv_at hl 0 rfl) ?_
            refine lv_iconst (v := 5) hx hb dX3_cause_7 (by decide) ?_
            refine lv_icmp_gt (tgt := 34) hx hb dX3_cause_8 (by decide) (fun _ => ?_) (fun c => absurd c (by decide))
            refine lv_iload_n hx hb dX3_cause_34 rfl (lv_at hl 1 rfl) ?_
            exact q_reti hx hb hr hB hC hS rfl (by unfold fX3_cause; rw [if_pos c1, if_neg c2, if_neg c10, if_neg c14, if_neg c16]) hlocks dX3_cause_35
  · skip
    refine lv_aload_n hx hb dX3_cause_20 rfl (lv_at hl 3 rfl) ?_
    refine lv_iload_n hx hb dX3_cause_21 rfl (lv_at hl 0 rfl) ?_
    refine q_callVi (As := [.int 1]) (κ := 5) (i := i) (show i < 13 from hrow_i) rfl ⟨_, rfl⟩ rfl ⟨hx, hb, hml, hown, hts⟩ (kX3_fault l D cy hI g _ i hrow_i 1 ) (cwV 1 hts gX3_cause_X3_fault rfl rfl rfl (by decide +kernel) ⟨Nat.le_of_ble_eq_true rfl, Nat.le_of_ble_eq_true rfl⟩) hB hC hS rfl hl.1 (Nat.le_of_ble_eq_true rfl) dX3_cause_22 ⟨Nat.le_of_ble_eq_true rfl, Nat.le_of_ble_eq_true rfl⟩ (fun H locs hC hS => ?_)
    refine lv_istore_n (lv' := [(1, .int (fX3_fault g i 1)), (3, .int 1), (2, .int 0), (0, .ref (ad 5 i))]) hx hb dX3_cause_25 rfl hl (by decide) rfl (fun ls hl => ?_)
    refine lv_iload_n hx hb dX3_cause_26 rfl (lv_at hl 1 rfl) ?_
    refine lv_istore_n (lv' := [(2, .int 1), (1, .int (fX3_fault g i 1)), (3, .int 1), (0, .ref (ad 5 i))]) hx hb dX3_cause_27 rfl hl (by decide) rfl (fun ls hl => ?_)
    refine lv_iinc (v := 2) (lv' := [(3, .int 2), (2, .int 1), (1, .int (fX3_fault g i 1)), (0, .ref (ad 5 i))]) hx hb dX3_cause_28 hl (k := 2) rfl (by decide) (by decide) rfl (fun ls hl => ?_)
    refine lv_goto (tgt := 6) hx hb dX3_cause_31 (by decide) ?_
    refine lv_iload_n hx hb dX3_cause_6 rfl (lv_at hl 0 rfl) ?_
    refine lv_iconst (v := 5) hx hb dX3_cause_7 (by decide) ?_
    refine lv_icmp_gt (tgt := 34) hx hb dX3_cause_8 (by decide) (fun c => absurd c (by decide)) (fun _ => ?_)
    refine lv_aload_n hx hb dX3_cause_11 rfl (lv_at hl 3 rfl) ?_
    refine lv_iload_n hx hb dX3_cause_12 rfl (lv_at hl 0 rfl) ?_
    refine q_callVi (As := [.int 2]) (κ := 5) (i := i) (show i < 13 from hrow_i) rfl ⟨_, rfl⟩ rfl ⟨hx, hb, hml, hown, hts⟩ (kX3_fault l D cy hI g _ i hrow_i 2 ) (cwV 1 hts gX3_cause_X3_fault rfl rfl rfl (by decide +kernel) ⟨Nat.le_of_ble_eq_true rfl, Nat.le_of_ble_eq_true rfl⟩) hB hC hS rfl hl.1 (Nat.le_of_ble_eq_true rfl) dX3_cause_13 ⟨Nat.le_of_ble_eq_true rfl, Nat.le_of_ble_eq_true rfl⟩ (fun H locs hC hS => ?_)
    refine lv_iload_n hx hb dX3_cause_16 rfl (lv_at hl 2 rfl) ?_
    refine lv_icmp_le (tgt := 28) hx hb dX3_cause_17 (by decide) (fun c17 => ?_) (fun c17 => ?_)
    · skip
      refine lv_iinc (v := 3) (lv' := [(3, .int 3), (2, .int 1), (1, .int (fX3_fault g i 1)), (0, .ref (ad 5 i))]) hx hb dX3_cause_28 hl (k := 0) rfl (by decide) (by decide) rfl (fun ls hl => ?_)
      refine lv_goto (tgt := 6) hx hb dX3_cause_31 (by decide) ?_
      refine lv_iload_n hx hb dX3_cause_6 rfl (lv_at hl 0 rfl) ?_
      refine lv_iconst (v := 5) hx hb dX3_cause_7 (by decide) ?_
      refine lv_icmp_gt (tgt := 34) hx hb dX3_cause_8 (by decide) (fun c => absurd c (by decide)) (fun _ => ?_)
      refine lv_aload_n hx hb dX3_cause_11 rfl (lv_at hl 3 rfl) ?_
      refine lv_iload_n hx hb dX3_cause_12 rfl (lv_at hl 0 rfl) ?_
      refine q_callVi (As := [.int 3]) (κ := 5) (i := i) (show i < 13 from hrow_i) rfl ⟨_, rfl⟩ rfl ⟨hx, hb, hml, hown, hts⟩ (kX3_fault l D cy hI g _ i hrow_i 3 ) (cwV 1 hts gX3_cause_X3_fault rfl rfl rfl (by decide +kernel) ⟨Nat.le_of_ble_eq_true rfl, Nat.le_of_ble_eq_true rfl⟩) hB hC hS rfl hl.1 (Nat.le_of_ble_eq_true rfl) dX3_cause_13 ⟨Nat.le_of_ble_eq_true rfl, Nat.le_of_ble_eq_true rfl⟩ (fun H locs hC hS => ?_)
      refine lv_iload_n hx hb dX3_cause_16 rfl (lv_at hl 2 rfl) ?_
      refine lv_icmp_le (tgt := 28) hx hb dX3_cause_17 (by decide) (fun c18 => ?_) (fun c18 => ?_)
      · skip
        refine lv_iinc (v := 4) (lv' := [(3, .int 4), (2, .int 1), (1, .int (fX3_fault g i 1)), (0, .ref (ad 5 i))]) hx hb dX3_cause_28 hl (k := 0) rfl (by decide) (by decide) rfl (fun ls hl => ?_)
        refine lv_goto (tgt := 6) hx hb dX3_cause_31 (by decide) ?_
        refine lv_iload_n hx hb dX3_cause_6 rfl (lv_at hl 0 rfl) ?_
        refine lv_iconst (v := 5) hx hb dX3_cause_7 (by decide) ?_
        refine lv_icmp_gt (tgt := 34) hx hb dX3_cause_8 (by decide) (fun c => absurd c (by decide)) (fun _ => ?_)
        refine lv_aload_n hx hb dX3_cause_11 rfl (lv_at hl 3 rfl) ?_
        refine lv_iload_n hx hb dX3_cause_12 rfl (lv_at hl 0 rfl) ?_
        refine q_callVi (As := [.int 4]) (κ := 5) (i := i) (show i < 13 from hrow_i) rfl ⟨_, rfl⟩ rfl ⟨hx, hb, hml, hown, hts⟩ (kX3_fault l D cy hI g _ i hrow_i 4 ) (cwV 1 hts gX3_cause_X3_fault rfl rfl rfl (by decide +kernel) ⟨Nat.le_of_ble_eq_true rfl, Nat.le_of_ble_eq_true rfl⟩) hB hC hS rfl hl.1 (Nat.le_of_ble_eq_true rfl) dX3_cause_13 ⟨Nat.le_of_ble_eq_true rfl, Nat.le_of_ble_eq_true rfl⟩ (fun H locs hC hS => ?_)
        refine lv_iload_n hx hb dX3_cause_16 rfl (lv_at hl 2 rfl) ?_
        refine lv_icmp_le (tgt := 28) hx hb dX3_cause_17 (by decide) (fun c19 => ?_) (fun c19 => ?_)
        · skip
          refine lv_iinc (v := 5) (lv' := [(3, .int 5), (2, .int 1), (1, .int (fX3_fault g i 1)), (0, .ref (ad 5 i))]) hx hb dX3_cause_28 hl (k := 0) rfl (by decide) (by decide) rfl (fun ls hl => ?_)
          refine lv_goto (tgt := 6) hx hb dX3_cause_31 (by decide) ?_
          refine lv_iload_n hx hb dX3_cause_6 rfl (lv_at hl 0 rfl) ?_
          refine lv_iconst (v := 5) hx hb dX3_cause_7 (by decide) ?_
          refine lv_icmp_gt (tgt := 34) hx hb dX3_cause_8 (by decide) (fun c => absurd c (by decide)) (fun _ => ?_)
          refine lv_aload_n hx hb dX3_cause_11 rfl (lv_at hl 3 rfl) ?_
          refine lv_iload_n hx hb dX3_cause_12 rfl (lv_at hl 0 rfl) ?_
          refine q_callVi (As := [.int 5]) (κ := 5) (i := i) (show i < 13 from hrow_i) rfl ⟨_, rfl⟩ rfl ⟨hx, hb, hml, hown, hts⟩ (kX3_fault l D cy hI g _ i hrow_i 5 ) (cwV 1 hts gX3_cause_X3_fault rfl rfl rfl (by decide +kernel) ⟨Nat.le_of_ble_eq_true rfl, Nat.le_of_ble_eq_true rfl⟩) hB hC hS rfl hl.1 (Nat.le_of_ble_eq_true rfl) dX3_cause_13 ⟨Nat.le_of_ble_eq_true rfl, Nat.le_of_ble_eq_true rfl⟩ (fun H locs hC hS => ?_)
          refine lv_iload_n hx hb dX3_cause_16 rfl (lv_at hl 2 rfl) ?_
          refine lv_icmp_le (tgt := 28) hx hb dX3_cause_17 (by decide) (fun c20 => ?_) (fun c20 => ?_)
          · skip
            refine lv_iinc (v := 6) (lv' := [(3, .int 6), (2, .int 1), (1, .int (fX3_fault g i 1)), (0, .ref (ad 5 i))]) hx hb dX3_cause_28 hl (k := 0) rfl (by decide) (by decide) rfl (fun ls hl => ?_)
            refine lv_goto (tgt := 6) hx hb dX3_cause_31 (by decide) ?_
            refine lv_iload_n hx hb dX3_cause_6 rfl (lv_at hl 0 rfl) ?_
            refine lv_iconst (v := 5) hx hb dX3_cause_7 (by decide) ?_
            refine lv_icmp_gt (tgt := 34) hx hb dX3_cause_8 (by decide) (fun _ => ?_) (fun c => absurd c (by decide))
            refine lv_iload_n hx hb dX3_cause_34 rfl (lv_at hl 1 rfl) ?_
            exact q_reti hx hb hr hB hC hS rfl (by unfold fX3_cause; rw [if_neg c1, if_pos c17, if_pos c18, if_pos c19, if_pos c20]) hlocks dX3_cause_35
          · skip
            refine lv_aload_n hx hb dX3_cause_20 rfl (lv_at hl 3 rfl) ?_
            refine lv_iload_n hx hb dX3_cause_21 rfl (lv_at hl 0 rfl) ?_
            refine q_callVi (As := [.int 5]) (κ := 5) (i := i) (show i < 13 from hrow_i) rfl ⟨_, rfl⟩ rfl ⟨hx, hb, hml, hown, hts⟩ (kX3_fault l D cy hI g _ i hrow_i 5 ) (cwV 1 hts gX3_cause_X3_fault rfl rfl rfl (by decide +kernel) ⟨Nat.le_of_ble_eq_true rfl, Nat.le_of_ble_eq_true rfl⟩) hB hC hS rfl hl.1 (Nat.le_of_ble_eq_true rfl) dX3_cause_22 ⟨Nat.le_of_ble_eq_true rfl, Nat.le_of_ble_eq_true rfl⟩ (fun H locs hC hS => ?_)
            refine lv_istore_n (lv' := [(1, .int (fX3_fault g i 5)), (3, .int 5), (2, .int 1), (0, .ref (ad 5 i))]) hx hb dX3_cause_25 rfl hl (by decide) rfl (fun ls hl => ?_)
            refine lv_iload_n hx hb dX3_cause_26 rfl (lv_at hl 1 rfl) ?_
            refine lv_istore_n (lv' := [(2, .int 5), (1, .int (fX3_fault g i 5)), (3, .int 5), (0, .ref (ad 5 i))]) hx hb dX3_cause_27 rfl hl (by decide) rfl (fun ls hl => ?_)
            refine lv_iinc (v := 6) (lv' := [(3, .int 6), (2, .int 5), (1, .int (fX3_fault g i 5)), (0, .ref (ad 5 i))]) hx hb dX3_cause_28 hl (k := 2) rfl (by decide) (by decide) rfl (fun ls hl => ?_)
            refine lv_goto (tgt := 6) hx hb dX3_cause_31 (by decide) ?_
            refine lv_iload_n hx hb dX3_cause_6 rfl (lv_at hl 0 rfl) ?_
            refine lv_iconst (v := 5) hx hb dX3_cause_7 (by decide) ?_
            refine lv_icmp_gt (tgt := 34) hx hb dX3_cause_8 (by decide) (fun _ => ?_) (fun c => absurd c (by decide))
            refine lv_iload_n hx hb dX3_cause_34 rfl (lv_at hl 1 rfl) ?_
            exact q_reti hx hb hr hB hC hS rfl (by unfold fX3_cause; rw [if_neg c1, if_pos c17, if_pos c18, if_pos c19, if_neg c20]) hlocks dX3_cause_35
        · skip
          refine lv_aload_n hx hb dX3_cause_20 rfl (lv_at hl 3 rfl) ?_
          refine lv_iload_n hx hb dX3_cause_21 rfl (lv_at hl 0 rfl) ?_
          refine q_callVi (As := [.int 4]) (κ := 5) (i := i) (show i < 13 from hrow_i) rfl ⟨_, rfl⟩ rfl ⟨hx, hb, hml, hown, hts⟩ (kX3_fault l D cy hI g _ i hrow_i 4 ) (cwV 1 hts gX3_cause_X3_fault rfl rfl rfl (by decide +kernel) ⟨Nat.le_of_ble_eq_true rfl, Nat.le_of_ble_eq_true rfl⟩) hB hC hS rfl hl.1 (Nat.le_of_ble_eq_true rfl) dX3_cause_22 ⟨Nat.le_of_ble_eq_true rfl, Nat.le_of_ble_eq_true rfl⟩ (fun H locs hC hS => ?_)
          refine lv_istore_n (lv' := [(1, .int (fX3_fault g i 4)), (3, .int 4), (2, .int 1), (0, .ref (ad 5 i))]) hx hb dX3_cause_25 rfl hl (by decide) rfl (fun ls hl => ?_)
          refine lv_iload_n hx hb dX3_cause_26 rfl (lv_at hl 1 rfl) ?_
          refine lv_istore_n (lv' := [(2, .int 4), (1, .int (fX3_fault g i 4)), (3, .int 4), (0, .ref (ad 5 i))]) hx hb dX3_cause_27 rfl hl (by decide) rfl (fun ls hl => ?_)
          refine lv_iinc (v := 5) (lv' := [(3, .int 5), (2, .int 4), (1, .int (fX3_fault g i 4)), (0, .ref (ad 5 i))]) hx hb dX3_cause_28 hl (k := 2) rfl (by decide) (by decide) rfl (fun ls hl => ?_)
          refine lv_goto (tgt := 6) hx hb dX3_cause_31 (by decide) ?_
          refine lv_iload_n hx hb dX3_cause_6 rfl (lv_at hl 0 rfl) ?_
          refine lv_iconst (v := 5) hx hb dX3_cause_7 (by decide) ?_
          refine lv_icmp_gt (tgt := 34) hx hb dX3_cause_8 (by decide) (fun c => absurd c (by decide)) (fun _ => ?_)
          refine lv_aload_n hx hb dX3_cause_11 rfl (lv_at hl 3 rfl) ?_
          refine lv_iload_n hx hb dX3_cause_12 rfl (lv_at hl 0 rfl) ?_
          refine q_callVi (As := [.int 5]) (κ := 5) (i := i) (show i < 13 from hrow_i) rfl ⟨_, rfl⟩ rfl ⟨hx, hb, hml, hown, hts⟩ (kX3_fault l D cy hI g _ i hrow_i 5 ) (cwV 1 hts gX3_cause_X3_fault rfl rfl rfl (by decide +kernel) ⟨Nat.le_of_ble_eq_true rfl, Nat.le_of_ble_eq_true rfl⟩) hB hC hS rfl hl.1 (Nat.le_of_ble_eq_true rfl) dX3_cause_13 ⟨Nat.le_of_ble_eq_true rfl, Nat.le_of_ble_eq_true rfl⟩ (fun H locs hC hS => ?_)
          refine lv_iload_n hx hb dX3_cause_16 rfl (lv_at hl 2 rfl) ?_
          refine lv_icmp_le (tgt := 28) hx hb dX3_cause_17 (by decide) (fun c21 => ?_) (fun c21 => ?_)
          · skip
            refine lv_iinc (v := 6) (lv' := [(3, .int 6), (2, .int 4), (1, .int (fX3_fault g i 4)), (0, .ref (ad 5 i))]) hx hb dX3_cause_28 hl (k := 0) rfl (by decide) (by decide) rfl (fun ls hl => ?_)
            refine lv_goto (tgt := 6) hx hb dX3_cause_31 (by decide) ?_
            refine lv_iload_n hx hb dX3_cause_6 rfl (lv_at hl 0 rfl) ?_
            refine lv_iconst (v := 5) hx hb dX3_cause_7 (by decide) ?_
            refine lv_icmp_gt (tgt := 34) hx hb dX3_cause_8 (by decide) (fun _ => ?_) (fun c => absurd c (by decide))
            refine lv_iload_n hx hb dX3_cause_34 rfl (lv_at hl 1 rfl) ?_
            exact q_reti hx hb hr hB hC hS rfl (by unfold fX3_cause; rw [if_neg c1, if_pos c17, if_pos c18, if_neg c19, if_pos c21]) hlocks dX3_cause_35
          · skip
            refine lv_aload_n hx hb dX3_cause_20 rfl (lv_at hl 3 rfl) ?_
            refine lv_iload_n hx hb dX3_cause_21 rfl (lv_at hl 0 rfl) ?_
            refine q_callVi (As := [.int 5]) (κ := 5) (i := i) (show i < 13 from hrow_i) rfl ⟨_, rfl⟩ rfl ⟨hx, hb, hml, hown, hts⟩ (kX3_fault l D cy hI g _ i hrow_i 5 ) (cwV 1 hts gX3_cause_X3_fault rfl rfl rfl (by decide +kernel) ⟨Nat.le_of_ble_eq_true rfl, Nat.le_of_ble_eq_true rfl⟩) hB hC hS rfl hl.1 (Nat.le_of_ble_eq_true rfl) dX3_cause_22 ⟨Nat.le_of_ble_eq_true rfl, Nat.le_of_ble_eq_true rfl⟩ (fun H locs hC hS => ?_)
            refine lv_istore_n (lv' := [(1, .int (fX3_fault g i 5)), (3, .int 5), (2, .int 4), (0, .ref (ad 5 i))]) hx hb dX3_cause_25 rfl hl (by decide) rfl (fun ls hl => ?_)
            refine lv_iload_n hx hb dX3_cause_26 rfl (lv_at hl 1 rfl) ?_
            refine lv_istore_n (lv' := [(2, .int 5), (1, .int (fX3_fault g i 5)), (3, .int 5), (0, .ref (ad 5 i))]) hx hb dX3_cause_27 rfl hl (by decide) rfl (fun ls hl => ?_)
            refine lv_iinc (v := 6) (lv' := [(3, .int 6), (2, .int 5), (1, .int (fX3_fault g i 5)), (0, .ref (ad 5 i))]) hx hb dX3_cause_28 hl (k := 2) rfl (by decide) (by decide) rfl (fun ls hl => ?_)
            refine lv_goto (tgt := 6) hx hb dX3_cause_31 (by decide) ?_
            refine lv_iload_n hx hb dX3_cause_6 rfl (lv_at hl 0 rfl) ?_
            refine lv_iconst (v := 5) hx hb dX3_cause_7 (by decide) ?_
            refine lv_icmp_gt (tgt := 34) hx hb dX3_cause_8 (by decide) (fun _ => ?_) (fun c => absurd c (by decide))
            refine lv_iload_n hx hb dX3_cause_34 rfl (lv_at hl 1 rfl) ?_
            exact q_reti hx hb hr hB hC hS rfl (by unfold fX3_cause; rw [if_neg c1, if_pos c17, if_pos c18, if_neg c19, if_neg c21]) hlocks dX3_cause_35
      · skip
        refine lv_aload_n hx hb dX3_cause_20 rfl (lv_at hl 3 rfl) ?_
        refine lv_iload_n hx hb dX3_cause_21 rfl (lv_at hl 0 rfl) ?_
        refine q_callVi (As := [.int 3]) (κ := 5) (i := i) (show i < 13 from hrow_i) rfl ⟨_, rfl⟩ rfl ⟨hx, hb, hml, hown, hts⟩ (kX3_fault l D cy hI g _ i hrow_i 3 ) (cwV 1 hts gX3_cause_X3_fault rfl rfl rfl (by decide +kernel) ⟨Nat.le_of_ble_eq_true rfl, Nat.le_of_ble_eq_true rfl⟩) hB hC hS rfl hl.1 (Nat.le_of_ble_eq_true rfl) dX3_cause_22 ⟨Nat.le_of_ble_eq_true rfl, Nat.le_of_ble_eq_true rfl⟩ (fun H locs hC hS => ?_)
        refine lv_istore_n (lv' := [(1, .int (fX3_fault g i 3)), (3, .int 3), (2, .int 1), (0, .ref (ad 5 i))]) hx hb dX3_cause_25 rfl hl (by decide) rfl (fun ls hl => ?_)
        refine lv_iload_n hx hb dX3_cause_26 rfl (lv_at hl 1 rfl) ?_
        refine lv_istore_n (lv' := [(2, .int 3), (1, .int (fX3_fault g i 3)), (3, .int 3), (0, .ref (ad 5 i))]) hx hb dX3_cause_27 rfl hl (by decide) rfl (fun ls hl => ?_)
        refine lv_iinc (v := 4) (lv' := [(3, .int 4), (2, .int 3), (1, .int (fX3_fault g i 3)), (0, .ref (ad 5 i))]) hx hb dX3_cause_28 hl (k := 2) rfl (by decide) (by decide) rfl (fun ls hl => ?_)
        refine lv_goto (tgt := 6) hx hb dX3_cause_31 (by decide) ?_
        refine lv_iload_n hx hb dX3_cause_6 rfl (lv_at hl 0 rfl) ?_
        refine lv_iconst (v := 5) hx hb dX3_cause_7 (by decide) ?_
        refine lv_icmp_gt (tgt := 34) hx hb dX3_cause_8 (by decide) (fun c => absurd c (by decide)) (fun _ => ?_)
        refine lv_aload_n hx hb dX3_cause_11 rfl (lv_at hl 3 rfl) ?_
        refine lv_iload_n hx hb dX3_cause_12 rfl (lv_at hl 0 rfl) ?_
        refine q_callVi (As := [.int 4]) (κ := 5) (i := i) (show i < 13 from hrow_i) rfl ⟨_, rfl⟩ rfl ⟨hx, hb, hml, hown, hts⟩ (kX3_fault l D cy hI g _ i hrow_i 4 ) (cwV 1 hts gX3_cause_X3_fault rfl rfl rfl (by decide +kernel) ⟨Nat.le_of_ble_eq_true rfl, Nat.le_of_ble_eq_true rfl⟩) hB hC hS rfl hl.1 (Nat.le_of_ble_eq_true rfl) dX3_cause_13 ⟨Nat.le_of_ble_eq_true rfl, Nat.le_of_ble_eq_true rfl⟩ (fun H locs hC hS => ?_)
        refine lv_iload_n hx hb dX3_cause_16 rfl (lv_at hl 2 rfl) ?_
        refine lv_icmp_le (tgt := 28) hx hb dX3_cause_17 (by decide) (fun c22 => ?_) (fun c22 => ?_)
        · skip
          refine lv_iinc (v := 5) (lv' := [(3, .int 5), (2, .int 3), (1, .int (fX3_fault g i 3)), (0, .ref (ad 5 i))]) hx hb dX3_cause_28 hl (k := 0) rfl (by decide) (by decide) rfl (fun ls hl => ?_)
          refine lv_goto (tgt := 6) hx hb dX3_cause_31 (by decide) ?_
          refine lv_iload_n hx hb dX3_cause_6 rfl (lv_at hl 0 rfl) ?_
          refine lv_iconst (v := 5) hx hb dX3_cause_7 (by decide) ?_
          refine lv_icmp_gt (tgt := 34) hx hb dX3_cause_8 (by decide) (fun c => absurd c (by decide)) (fun _ => ?_)
          refine lv_aload_n hx hb dX3_cause_11 rfl (lv_at hl 3 rfl) ?_
          refine lv_iload_n hx hb dX3_cause_12 rfl (lv_at hl 0 rfl) ?_
          refine q_callVi (As := [.int 5]) (κ := 5) (i := i) (show i < 13 from hrow_i) rfl ⟨_, rfl⟩ rfl ⟨hx, hb, hml, hown, hts⟩ (kX3_fault l D cy hI g _ i hrow_i 5 ) (cwV 1 hts gX3_cause_X3_fault rfl rfl rfl (by decide +kernel) ⟨Nat.le_of_ble_eq_true rfl, Nat.le_of_ble_eq_true rfl⟩) hB hC hS rfl hl.1 (Nat.le_of_ble_eq_true rfl) dX3_cause_13 ⟨Nat.le_of_ble_eq_true rfl, Nat.le_of_ble_eq_true rfl⟩ (fun H locs hC hS => ?_)
          refine lv_iload_n hx hb dX3_cause_16 rfl (lv_at hl 2 rfl) ?_
          refine lv_icmp_le (tgt := 28) hx hb dX3_cause_17 (by decide) (fun c23 => ?_) (fun c23 => ?_)
          · skip
            refine lv_iinc (v := 6) (lv' := [(3, .int 6), (2, .int 3), (1, .int (fX3_fault g i 3)), (0, .ref (ad 5 i))]) hx hb dX3_cause_28 hl (k := 0) rfl (by decide) (by decide) rfl (fun ls hl => ?_)
            refine lv_goto (tgt := 6) hx hb dX3_cause_31 (by decide) ?_
            refine lv_iload_n hx hb dX3_cause_6 rfl (lv_at hl 0 rfl) ?_
            refine lv_iconst (v := 5) hx hb dX3_cause_7 (by decide) ?_
            refine lv_icmp_gt (tgt := 34) hx hb dX3_cause_8 (by decide) (fun _ => ?_) (fun c => absurd c (by decide))
            refine lv_iload_n hx hb dX3_cause_34 rfl (lv_at hl 1 rfl) ?_
            exact q_reti hx hb hr hB hC hS rfl (by unfold fX3_cause; rw [if_neg c1, if_pos c17, if_neg c18, if_pos c22, if_pos c23]) hlocks dX3_cause_35
          · skip
            refine lv_aload_n hx hb dX3_cause_20 rfl (lv_at hl 3 rfl) ?_
            refine lv_iload_n hx hb dX3_cause_21 rfl (lv_at hl 0 rfl) ?_
            refine q_callVi (As := [.int 5]) (κ := 5) (i := i) (show i < 13 from hrow_i) rfl ⟨_, rfl⟩ rfl ⟨hx, hb, hml, hown, hts⟩ (kX3_fault l D cy hI g _ i hrow_i 5 ) (cwV 1 hts gX3_cause_X3_fault rfl rfl rfl (by decide +kernel) ⟨Nat.le_of_ble_eq_true rfl, Nat.le_of_ble_eq_true rfl⟩) hB hC hS rfl hl.1 (Nat.le_of_ble_eq_true rfl) dX3_cause_22 ⟨Nat.le_of_ble_eq_true rfl, Nat.le_of_ble_eq_true rfl⟩ (fun H locs hC hS => ?_)
            refine lv_istore_n (lv' := [(1, .int (fX3_fault g i 5)), (3, .int 5), (2, .int 3), (0, .ref (ad 5 i))]) hx hb dX3_cause_25 rfl hl (by decide) rfl (fun ls hl => ?_)
            refine lv_iload_n hx hb dX3_cause_26 rfl (lv_at hl 1 rfl) ?_
            refine lv_istore_n (lv' := [(2, .int 5), (1, .int (fX3_fault g i 5)), (3, .int 5), (0, .ref (ad 5 i))]) hx hb dX3_cause_27 rfl hl (by decide) rfl (fun ls hl => ?_)
            refine lv_iinc (v := 6) (lv' := [(3, .int 6), (2, .int 5), (1, .int (fX3_fault g i 5)), (0, .ref (ad 5 i))]) hx hb dX3_cause_28 hl (k := 2) rfl (by decide) (by decide) rfl (fun ls hl => ?_)
            refine lv_goto (tgt := 6) hx hb dX3_cause_31 (by decide) ?_
            refine lv_iload_n hx hb dX3_cause_6 rfl (lv_at hl 0 rfl) ?_
            refine lv_iconst (v := 5) hx hb dX3_cause_7 (by decide) ?_
            refine lv_icmp_gt (tgt := 34) hx hb dX3_cause_8 (by decide) (fun _ => ?_) (fun c => absurd c (by decide))
            refine lv_iload_n hx hb dX3_cause_34 rfl (lv_at hl 1 rfl) ?_
            exact q_reti hx hb hr hB hC hS rfl (by unfold fX3_cause; rw [if_neg c1, if_pos c17, if_neg c18, if_pos c22, if_neg c23]) hlocks dX3_cause_35
        · skip
          refine lv_aload_n hx hb dX3_cause_20 rfl (lv_at hl 3 rfl) ?_
          refine lv_iload_n hx hb dX3_cause_21 rfl (lv_at hl 0 rfl) ?_
          refine q_callVi (As := [.int 4]) (κ := 5) (i := i) (show i < 13 from hrow_i) rfl ⟨_, rfl⟩ rfl ⟨hx, hb, hml, hown, hts⟩ (kX3_fault l D cy hI g _ i hrow_i 4 ) (cwV 1 hts gX3_cause_X3_fault rfl rfl rfl (by decide +kernel) ⟨Nat.le_of_ble_eq_true rfl, Nat.le_of_ble_eq_true rfl⟩) hB hC hS rfl hl.1 (Nat.le_of_ble_eq_true rfl) dX3_cause_22 ⟨Nat.le_of_ble_eq_true rfl, Nat.le_of_ble_eq_true rfl⟩ (fun H locs hC hS => ?_)
          refine lv_istore_n (lv' := [(1, .int (fX3_fault g i 4)), (3, .int 4), (2, .int 3), (0, .ref (ad 5 i))]) hx hb dX3_cause_25 rfl hl (by decide) rfl (fun ls hl => ?_)
          refine lv_iload_n hx hb dX3_cause_26 rfl (lv_at hl 1 rfl) ?_
          refine lv_istore_n (lv' := [(2, .int 4), (1, .int (fX3_fault g i 4)), (3, .int 4), (0, .ref (ad 5 i))]) hx hb dX3_cause_27 rfl hl (by decide) rfl (fun ls hl => ?_)
          refine lv_iinc (v := 5) (lv' := [(3, .int 5), (2, .int 4), (1, .int (fX3_fault g i 4)), (0, .ref (ad 5 i))]) hx hb dX3_cause_28 hl (k := 2) rfl (by decide) (by decide) rfl (fun ls hl => ?_)
          refine lv_goto (tgt := 6) hx hb dX3_cause_31 (by decide) ?_
          refine lv_iload_n hx hb dX3_cause_6 rfl (lv_at hl 0 rfl) ?_
          refine lv_iconst (v := 5) hx hb dX3_cause_7 (by decide) ?_
          refine lv_icmp_gt (tgt := 34) hx hb dX3_cause_8 (by decide) (fun c => absurd c (by decide)) (fun _ => ?_)
          refine lv_aload_n hx hb dX3_cause_11 rfl (lv_at hl 3 rfl) ?_
          refine lv_iload_n hx hb dX3_cause_12 rfl (lv_at hl 0 rfl) ?_
          refine q_callVi (As := [.int 5]) (κ := 5) (i := i) (show i < 13 from hrow_i) rfl ⟨_, rfl⟩ rfl ⟨hx, hb, hml, hown, hts⟩ (kX3_fault l D cy hI g _ i hrow_i 5 ) (cwV 1 hts gX3_cause_X3_fault rfl rfl rfl (by decide +kernel) ⟨Nat.le_of_ble_eq_true rfl, Nat.le_of_ble_eq_true rfl⟩) hB hC hS rfl hl.1 (Nat.le_of_ble_eq_true rfl) dX3_cause_13 ⟨Nat.le_of_ble_eq_true rfl, Nat.le_of_ble_eq_true rfl⟩ (fun H locs hC hS => ?_)
          refine lv_iload_n hx hb dX3_cause_16 rfl (lv_at hl 2 rfl) ?_
          refine lv_icmp_le (tgt := 28) hx hb dX3_cause_17 (by decide) (fun c24 => ?_) (fun c24 => ?_)
          · skip
            refine lv_iinc (v := 6) (lv' := [(3, .int 6), (2, .int 4), (1, .int (fX3_fault g i 4)), (0, .ref (ad 5 i))]) hx hb dX3_cause_28 hl (k := 0) rfl (by decide) (by decide) rfl (fun ls hl => ?_)
            refine lv_goto (tgt := 6) hx hb dX3_cause_31 (by decide) ?_
            refine lv_iload_n hx hb dX3_cause_6 rfl (lv_at hl 0 rfl) ?_
            refine lv_iconst (v := 5) hx hb dX3_cause_7 (by decide) ?_
            refine lv_icmp_gt (tgt := 34) hx hb dX3_cause_8 (by decide) (fun _ => ?_) (fun c => absurd c (by decide))
            refine lv_iload_n hx hb dX3_cause_34 rfl (lv_at hl 1 rfl) ?_
            exact q_reti hx hb hr hB hC hS rfl (by unfold fX3_cause; rw [if_neg c1, if_pos c17, if_neg c18, if_neg c22, if_pos c24]) hlocks dX3_cause_35
          · skip
            refine lv_aload_n hx hb dX3_cause_20 rfl (lv_at hl 3 rfl) ?_
            refine lv_iload_n hx hb dX3_cause_21 rfl (lv_at hl 0 rfl) ?_
            refine q_callVi (As := [.int 5]) (κ := 5) (i := i) (show i < 13 from hrow_i) rfl ⟨_, rfl⟩ rfl ⟨hx, hb, hml, hown, hts⟩ (kX3_fault l D cy hI g _ i hrow_i 5 ) (cwV 1 hts gX3_cause_X3_fault rfl rfl rfl (by decide +kernel) ⟨Nat.le_of_ble_eq_true rfl, Nat.le_of_ble_eq_true rfl⟩) hB hC hS rfl hl.1 (Nat.le_of_ble_eq_true rfl) dX3_cause_22 ⟨Nat.le_of_ble_eq_true rfl, Nat.le_of_ble_eq_true rfl⟩ (fun H locs hC hS => ?_)
            refine lv_istore_n (lv' := [(1, .int (fX3_fault g i 5)), (3, .int 5), (2, .int 4), (0, .ref (ad 5 i))]) hx hb dX3_cause_25 rfl hl (by decide) rfl (fun ls hl => ?_)
            refine lv_iload_n hx hb dX3_cause_26 rfl (lv_at hl 1 rfl) ?_
            refine lv_istore_n (lv' := [(2, .int 5), (1, .int (fX3_fault g i 5)), (3, .int 5), (0, .ref (ad 5 i))]) hx hb dX3_cause_27 rfl hl (by decide) rfl (fun ls hl => ?_)
            refine lv_iinc (v := 6) (lv' := [(3, .int 6), (2, .int 5), (1, .int (fX3_fault g i 5)), (0, .ref (ad 5 i))]) hx hb dX3_cause_28 hl (k := 2) rfl (by decide) (by decide) rfl (fun ls hl => ?_)
            refine lv_goto (tgt := 6) hx hb dX3_cause_31 (by decide) ?_
            refine lv_iload_n hx hb dX3_cause_6 rfl (lv_at hl 0 rfl) ?_
            refine lv_iconst (v := 5) hx hb dX3_cause_7 (by decide) ?_
            refine lv_icmp_gt (tgt := 34) hx hb dX3_cause_8 (by decide) (fun _ => ?_) (fun c => absurd c (by decide))
            refine lv_iload_n hx hb dX3_cause_34 rfl (lv_at hl 1 rfl) ?_
            exact q_reti hx hb hr hB hC hS rfl (by unfold fX3_cause; rw [if_neg c1, if_pos c17, if_neg c18, if_neg c22, if_neg c24]) hlocks dX3_cause_35
    · skip
      refine lv_aload_n hx hb dX3_cause_20 rfl (lv_at hl 3 rfl) ?_
      refine lv_iload_n hx hb dX3_cause_21 rfl (lv_at hl 0 rfl) ?_
      refine q_callVi (As := [.int 2]) (κ := 5) (i := i) (show i < 13 from hrow_i) rfl ⟨_, rfl⟩ rfl ⟨hx, hb, hml, hown, hts⟩ (kX3_fault l D cy hI g _ i hrow_i 2 ) (cwV 1 hts gX3_cause_X3_fault rfl rfl rfl (by decide +kernel) ⟨Nat.le_of_ble_eq_true rfl, Nat.le_of_ble_eq_true rfl⟩) hB hC hS rfl hl.1 (Nat.le_of_ble_eq_true rfl) dX3_cause_22 ⟨Nat.le_of_ble_eq_true rfl, Nat.le_of_ble_eq_true rfl⟩ (fun H locs hC hS => ?_)
      refine lv_istore_n (lv' := [(1, .int (fX3_fault g i 2)), (3, .int 2), (2, .int 1), (0, .ref (ad 5 i))]) hx hb dX3_cause_25 rfl hl (by decide) rfl (fun ls hl => ?_)
      refine lv_iload_n hx hb dX3_cause_26 rfl (lv_at hl 1 rfl) ?_
      refine lv_istore_n (lv' := [(2, .int 2), (1, .int (fX3_fault g i 2)), (3, .int 2), (0, .ref (ad 5 i))]) hx hb dX3_cause_27 rfl hl (by decide) rfl (fun ls hl => ?_)
      refine lv_iinc (v := 3) (lv' := [(3, .int 3), (2, .int 2), (1, .int (fX3_fault g i 2)), (0, .ref (ad 5 i))]) hx hb dX3_cause_28 hl (k := 2) rfl (by decide) (by decide) rfl (fun ls hl => ?_)
      refine lv_goto (tgt := 6) hx hb dX3_cause_31 (by decide) ?_
      refine lv_iload_n hx hb dX3_cause_6 rfl (lv_at hl 0 rfl) ?_
      refine lv_iconst (v := 5) hx hb dX3_cause_7 (by decide) ?_
      refine lv_icmp_gt (tgt := 34) hx hb dX3_cause_8 (by decide) (fun c => absurd c (by decide)) (fun _ => ?_)
      refine lv_aload_n hx hb dX3_cause_11 rfl (lv_at hl 3 rfl) ?_
      refine lv_iload_n hx hb dX3_cause_12 rfl (lv_at hl 0 rfl) ?_
      refine q_callVi (As := [.int 3]) (κ := 5) (i := i) (show i < 13 from hrow_i) rfl ⟨_, rfl⟩ rfl ⟨hx, hb, hml, hown, hts⟩ (kX3_fault l D cy hI g _ i hrow_i 3 ) (cwV 1 hts gX3_cause_X3_fault rfl rfl rfl (by decide +kernel) ⟨Nat.le_of_ble_eq_true rfl, Nat.le_of_ble_eq_true rfl⟩) hB hC hS rfl hl.1 (Nat.le_of_ble_eq_true rfl) dX3_cause_13 ⟨Nat.le_of_ble_eq_true rfl, Nat.le_of_ble_eq_true rfl⟩ (fun H locs hC hS => ?_)
      refine lv_iload_n hx hb dX3_cause_16 rfl (lv_at hl 2 rfl) ?_
      refine lv_icmp_le (tgt := 28) hx hb dX3_cause_17 (by decide) (fun c25 => ?_) (fun c25 => ?_)
      · skip
        refine lv_iinc (v := 4) (lv' := [(3, .int 4), (2, .int 2), (1, .int (fX3_fault g i 2)), (0, .ref (ad 5 i))]) hx hb dX3_cause_28 hl (k := 0) rfl (by decide) (by decide) rfl (fun ls hl => ?_)
        refine lv_goto (tgt := 6) hx hb dX3_cause_31 (by decide) ?_
        refine lv_iload_n hx hb dX3_cause_6 rfl (lv_at hl 0 rfl) ?_
        refine lv_iconst (v := 5) hx hb dX3_cause_7 (by decide) ?_
        refine lv_icmp_gt (tgt := 34) hx hb dX3_cause_8 (by decide) (fun c => absurd c (by decide)) (fun _ => ?_)
        refine lv_aload_n hx hb dX3_cause_11 rfl (lv_at hl 3 rfl) ?_
        refine lv_iload_n hx hb dX3_cause_12 rfl (lv_at hl 0 rfl) ?_
        refine q_callVi (As := [.int 4]) (κ := 5) (i := i) (show i < 13 from hrow_i) rfl ⟨_, rfl⟩ rfl ⟨hx, hb, hml, hown, hts⟩ (kX3_fault l D cy hI g _ i hrow_i 4 ) (cwV 1 hts gX3_cause_X3_fault rfl rfl rfl (by decide +kernel) ⟨Nat.le_of_ble_eq_true rfl, Nat.le_of_ble_eq_true rfl⟩) hB hC hS rfl hl.1 (Nat.le_of_ble_eq_true rfl) dX3_cause_13 ⟨Nat.le_of_ble_eq_true rfl, Nat.le_of_ble_eq_true rfl⟩ (fun H locs hC hS => ?_)
        refine lv_iload_n hx hb dX3_cause_16 rfl (lv_at hl 2 rfl) ?_
        refine lv_icmp_le (tgt := 28) hx hb dX3_cause_17 (by decide) (fun c26 => ?_) (fun c26 => ?_)
        · skip
          refine lv_iinc (v := 5) (lv' := [(3, .int 5), (2, .int 2), (1, .int (fX3_fault g i 2)), (0, .ref (ad 5 i))]) hx hb dX3_cause_28 hl (k := 0) rfl (by decide) (by decide) rfl (fun ls hl => ?_)
          refine lv_goto (tgt := 6) hx hb dX3_cause_31 (by decide) ?_
          refine lv_iload_n hx hb dX3_cause_6 rfl (lv_at hl 0 rfl) ?_
          refine lv_iconst (v := 5) hx hb dX3_cause_7 (by decide) ?_
          refine lv_icmp_gt (tgt := 34) hx hb dX3_cause_8 (by decide) (fun c => absurd c (by decide)) (fun _ => ?_)
          refine lv_aload_n hx hb dX3_cause_11 rfl (lv_at hl 3 rfl) ?_
          refine lv_iload_n hx hb dX3_cause_12 rfl (lv_at hl 0 rfl) ?_
          refine q_callVi (As := [.int 5]) (κ := 5) (i := i) (show i < 13 from hrow_i) rfl ⟨_, rfl⟩ rfl ⟨hx, hb, hml, hown, hts⟩ (kX3_fault l D cy hI g _ i hrow_i 5 ) (cwV 1 hts gX3_cause_X3_fault rfl rfl rfl (by decide +kernel) ⟨Nat.le_of_ble_eq_true rfl, Nat.le_of_ble_eq_true rfl⟩) hB hC hS rfl hl.1 (Nat.le_of_ble_eq_true rfl) dX3_cause_13 ⟨Nat.le_of_ble_eq_true rfl, Nat.le_of_ble_eq_true rfl⟩ (fun H locs hC hS => ?_)
          refine lv_iload_n hx hb dX3_cause_16 rfl (lv_at hl 2 rfl) ?_
          refine lv_icmp_le (tgt := 28) hx hb dX3_cause_17 (by decide) (fun c27 => ?_) (fun c27 => ?_)
          · skip
            refine lv_iinc (v := 6) (lv' := [(3, .int 6), (2, .int 2), (1, .int (fX3_fault g i 2)), (0, .ref (ad 5 i))]) hx hb dX3_cause_28 hl (k := 0) rfl (by decide) (by decide) rfl (fun ls hl => ?_)
            refine lv_goto (tgt := 6) hx hb dX3_cause_31 (by decide) ?_
            refine lv_iload_n hx hb dX3_cause_6 rfl (lv_at hl 0 rfl) ?_
            refine lv_iconst (v := 5) hx hb dX3_cause_7 (by decide) ?_
            refine lv_icmp_gt (tgt := 34) hx hb dX3_cause_8 (by decide) (fun _ => ?_) (fun c => absurd c (by decide))
            refine lv_iload_n hx hb dX3_cause_34 rfl (lv_at hl 1 rfl) ?_
            exact q_reti hx hb hr hB hC hS rfl (by unfold fX3_cause; rw [if_neg c1, if_neg c17, if_pos c25, if_pos c26, if_pos c27]) hlocks dX3_cause_35
          · skip
            refine lv_aload_n hx hb dX3_cause_20 rfl (lv_at hl 3 rfl) ?_
            refine lv_iload_n hx hb dX3_cause_21 rfl (lv_at hl 0 rfl) ?_
            refine q_callVi (As := [.int 5]) (κ := 5) (i := i) (show i < 13 from hrow_i) rfl ⟨_, rfl⟩ rfl ⟨hx, hb, hml, hown, hts⟩ (kX3_fault l D cy hI g _ i hrow_i 5 ) (cwV 1 hts gX3_cause_X3_fault rfl rfl rfl (by decide +kernel) ⟨Nat.le_of_ble_eq_true rfl, Nat.le_of_ble_eq_true rfl⟩) hB hC hS rfl hl.1 (Nat.le_of_ble_eq_true rfl) dX3_cause_22 ⟨Nat.le_of_ble_eq_true rfl, Nat.le_of_ble_eq_true rfl⟩ (fun H locs hC hS => ?_)
            refine lv_istore_n (lv' := [(1, .int (fX3_fault g i 5)), (3, .int 5), (2, .int 2), (0, .ref (ad 5 i))]) hx hb dX3_cause_25 rfl hl (by decide) rfl (fun ls hl => ?_)
            refine lv_iload_n hx hb dX3_cause_26 rfl (lv_at hl 1 rfl) ?_
            refine lv_istore_n (lv' := [(2, .int 5), (1, .int (fX3_fault g i 5)), (3, .int 5), (0, .ref (ad 5 i))]) hx hb dX3_cause_27 rfl hl (by decide) rfl (fun ls hl => ?_)
            refine lv_iinc (v := 6) (lv' := [(3, .int 6), (2, .int 5), (1, .int (fX3_fault g i 5)), (0, .ref (ad 5 i))]) hx hb dX3_cause_28 hl (k := 2) rfl (by decide) (by decide) rfl (fun ls hl => ?_)
            refine lv_goto (tgt := 6) hx hb dX3_cause_31 (by decide) ?_
            refine lv_iload_n hx hb dX3_cause_6 rfl (lv_at hl 0 rfl) ?_
            refine lv_iconst (v := 5) hx hb dX3_cause_7 (by decide) ?_
            refine lv_icmp_gt (tgt := 34) hx hb dX3_cause_8 (by decide) (fun _ => ?_) (fun c => absurd c (by decide))
            refine lv_iload_n hx hb dX3_cause_34 rfl (lv_at hl 1 rfl) ?_
            exact q_reti hx hb hr hB hC hS rfl (by unfold fX3_cause; rw [if_neg c1, if_neg c17, if_pos c25, if_pos c26, if_neg c27]) hlocks dX3_cause_35
        · skip
          refine lv_aload_n hx hb dX3_cause_20 rfl (lv_at hl 3 rfl) ?_
          refine lv_iload_n hx hb dX3_cause_21 rfl (lv_at hl 0 rfl) ?_
          refine q_callVi (As := [.int 4]) (κ := 5) (i := i) (show i < 13 from hrow_i) rfl ⟨_, rfl⟩ rfl ⟨hx, hb, hml, hown, hts⟩ (kX3_fault l D cy hI g _ i hrow_i 4 ) (cwV 1 hts gX3_cause_X3_fault rfl rfl rfl (by decide +kernel) ⟨Nat.le_of_ble_eq_true rfl, Nat.le_of_ble_eq_true rfl⟩) hB hC hS rfl hl.1 (Nat.le_of_ble_eq_true rfl) dX3_cause_22 ⟨Nat.le_of_ble_eq_true rfl, Nat.le_of_ble_eq_true rfl⟩ (fun H locs hC hS => ?_)
          refine lv_istore_n (lv' := [(1, .int (fX3_fault g i 4)), (3, .int 4), (2, .int 2), (0, .ref (ad 5 i))]) hx hb dX3_cause_25 rfl hl (by decide) rfl (fun ls hl => ?_)
          refine lv_iload_n hx hb dX3_cause_26 rfl (lv_at hl 1 rfl) ?_
          refine lv_istore_n (lv' := [(2, .int 4), (1, .int (fX3_fault g i 4)), (3, .int 4), (0, .ref (ad 5 i))]) hx hb dX3_cause_27 rfl hl (by decide) rfl (fun ls hl => ?_)
          refine lv_iinc (v := 5) (lv' := [(3, .int 5), (2, .int 4), (1, .int (fX3_fault g i 4)), (0, .ref (ad 5 i))]) hx hb dX3_cause_28 hl (k := 2) rfl (by decide) (by decide) rfl (fun ls hl => ?_)
          refine lv_goto (tgt := 6) hx hb dX3_cause_31 (by decide) ?_
          refine lv_iload_n hx hb dX3_cause_6 rfl (lv_at hl 0 rfl) ?_
          refine lv_iconst (v := 5) hx hb dX3_cause_7 (by decide) ?_
          refine lv_icmp_gt (tgt := 34) hx hb dX3_cause_8 (by decide) (fun c => absurd c (by decide)) (fun _ => ?_)
          refine lv_aload_n hx hb dX3_cause_11 rfl (lv_at hl 3 rfl) ?_
          refine lv_iload_n hx hb dX3_cause_12 rfl (lv_at hl 0 rfl) ?_
          refine q_callVi (As := [.int 5]) (κ := 5) (i := i) (show i < 13 from hrow_i) rfl ⟨_, rfl⟩ rfl ⟨hx, hb, hml, hown, hts⟩ (kX3_fault l D cy hI g _ i hrow_i 5 ) (cwV 1 hts gX3_cause_X3_fault rfl rfl rfl (by decide +kernel) ⟨Nat.le_of_ble_eq_true rfl, Nat.le_of_ble_eq_true rfl⟩) hB hC hS rfl hl.1 (Nat.le_of_ble_eq_true rfl) dX3_cause_13 ⟨Nat.le_of_ble_eq_true rfl, Nat.le_of_ble_eq_true rfl⟩ (fun H locs hC hS => ?_)
          refine lv_iload_n hx hb dX3_cause_16 rfl (lv_at hl 2 rfl) ?_
          refine lv_icmp_le (tgt := 28) hx hb dX3_cause_17 (by decide) (fun c28 => ?_) (fun c28 => ?_)
          · skip
            refine lv_iinc (v := 6) (lv' := [(3, .int 6), (2, .int 4), (1, .int (fX3_fault g i 4)), (0, .ref (ad 5 i))]) hx hb dX3_cause_28 hl (k := 0) rfl (by decide) (by decide) rfl (fun ls hl => ?_)
            refine lv_goto (tgt := 6) hx hb dX3_cause_31 (by decide) ?_
            refine lv_iload_n hx hb dX3_cause_6 rfl (lv_at hl 0 rfl) ?_
            refine lv_iconst (v := 5) hx hb dX3_cause_7 (by decide) ?_
            refine lv_icmp_gt (tgt := 34) hx hb dX3_cause_8 (by decide) (fun _ => ?_) (fun c => absurd c (by decide))
            refine lv_iload_n hx hb dX3_cause_34 rfl (lv_at hl 1 rfl) ?_
            exact q_reti hx hb hr hB hC hS rfl (by unfold fX3_cause; rw [if_neg c1, if_neg c17, if_pos c25, if_neg c26, if_pos c28]) hlocks dX3_cause_35
          · skip
            refine lv_aload_n hx hb dX3_cause_20 rfl (lv_at hl 3 rfl) ?_
            refine lv_iload_n hx hb dX3_cause_21 rfl (lv_at hl 0 rfl) ?_
            refine q_callVi (As := [.int 5]) (κ := 5) (i := i) (show i < 13 from hrow_i) rfl ⟨_, rfl⟩ rfl ⟨hx, hb, hml, hown, hts⟩ (kX3_fault l D cy hI g _ i hrow_i 5 ) (cwV 1 hts gX3_cause_X3_fault rfl rfl rfl (by decide +kernel) ⟨Nat.le_of_ble_eq_true rfl, Nat.le_of_ble_eq_true rfl⟩) hB hC hS rfl hl.1 (Nat.le_of_ble_eq_true rfl) dX3_cause_22 ⟨Nat.le_of_ble_eq_true rfl, Nat.le_of_ble_eq_true rfl⟩ (fun H locs hC hS => ?_)
            refine lv_istore_n (lv' := [(1, .int (fX3_fault g i 5)), (3, .int 5), (2, .int 4), (0, .ref (ad 5 i))]) hx hb dX3_cause_25 rfl hl (by decide) rfl (fun ls hl => ?_)
            refine lv_iload_n hx hb dX3_cause_26 rfl (lv_at hl 1 rfl) ?_
            refine lv_istore_n (lv' := [(2, .int 5), (1, .int (fX3_fault g i 5)), (3, .int 5), (0, .ref (ad 5 i))]) hx hb dX3_cause_27 rfl hl (by decide) rfl (fun ls hl => ?_)
            refine lv_iinc (v := 6) (lv' := [(3, .int 6), (2, .int 5), (1, .int (fX3_fault g i 5)), (0, .ref (ad 5 i))]) hx hb dX3_cause_28 hl (k := 2) rfl (by decide) (by decide) rfl (fun ls hl => ?_)
            refine lv_goto (tgt := 6) hx hb dX3_cause_31 (by decide) ?_
            refine lv_iload_n hx hb dX3_cause_6 rfl (lv_at hl 0 rfl) ?_
            refine lv_iconst (v := 5) hx hb dX3_cause_7 (by decide) ?_
            refine lv_icmp_gt (tgt := 34) hx hb dX3_cause_8 (by decide) (fun _ => ?_) (fun c => absurd c (by decide))
            refine lv_iload_n hx hb dX3_cause_34 rfl (lv_at hl 1 rfl) ?_
            exact q_reti hx hb hr hB hC hS rfl (by unfold fX3_cause; rw [if_neg c1, if_neg c17, if_pos c25, if_neg c26, if_neg c28]) hlocks dX3_cause_35
      · skip
        refine lv_aload_n hx hb dX3_cause_20 rfl (lv_at hl 3 rfl) ?_
        refine lv_iload_n hx hb dX3_cause_21 rfl (lv_at hl 0 rfl) ?_
        refine q_callVi (As := [.int 3]) (κ := 5) (i := i) (show i < 13 from hrow_i) rfl ⟨_, rfl⟩ rfl ⟨hx, hb, hml, hown, hts⟩ (kX3_fault l D cy hI g _ i hrow_i 3 ) (cwV 1 hts gX3_cause_X3_fault rfl rfl rfl (by decide +kernel) ⟨Nat.le_of_ble_eq_true rfl, Nat.le_of_ble_eq_true rfl⟩) hB hC hS rfl hl.1 (Nat.le_of_ble_eq_true rfl) dX3_cause_22 ⟨Nat.le_of_ble_eq_true rfl, Nat.le_of_ble_eq_true rfl⟩ (fun H locs hC hS => ?_)
        refine lv_istore_n (lv' := [(1, .int (fX3_fault g i 3)), (3, .int 3), (2, .int 2), (0, .ref (ad 5 i))]) hx hb dX3_cause_25 rfl hl (by decide) rfl (fun ls hl => ?_)
        refine lv_iload_n hx hb dX3_cause_26 rfl (lv_at hl 1 rfl) ?_
        refine lv_istore_n (lv' := [(2, .int 3), (1, .int (fX3_fault g i 3)), (3, .int 3), (0, .ref (ad 5 i))]) hx hb dX3_cause_27 rfl hl (by decide) rfl (fun ls hl => ?_)
        refine lv_iinc (v := 4) (lv' := [(3, .int 4), (2, .int 3), (1, .int (fX3_fault g i 3)), (0, .ref (ad 5 i))]) hx hb dX3_cause_28 hl (k := 2) rfl (by decide) (by decide) rfl (fun ls hl => ?_)
        refine lv_goto (tgt := 6) hx hb dX3_cause_31 (by decide) ?_
        refine lv_iload_n hx hb dX3_cause_6 rfl (lv_at hl 0 rfl) ?_
        refine lv_iconst (v := 5) hx hb dX3_cause_7 (by decide) ?_
        refine lv_icmp_gt (tgt := 34) hx hb dX3_cause_8 (by decide) (fun c => absurd c (by decide)) (fun _ => ?_)
        refine lv_aload_n hx hb dX3_cause_11 rfl (lv_at hl 3 rfl) ?_
        refine lv_iload_n hx hb dX3_cause_12 rfl (lv_at hl 0 rfl) ?_
        refine q_callVi (As := [.int 4]) (κ := 5) (i := i) (show i < 13 from hrow_i) rfl ⟨_, rfl⟩ rfl ⟨hx, hb, hml, hown, hts⟩ (kX3_fault l D cy hI g _ i hrow_i 4 ) (cwV 1 hts gX3_cause_X3_fault rfl rfl rfl (by decide +kernel) ⟨Nat.le_of_ble_eq_true rfl, Nat.le_of_ble_eq_true rfl⟩) hB hC hS rfl hl.1 (Nat.le_of_ble_eq_true rfl) dX3_cause_13 ⟨Nat.le_of_ble_eq_true rfl, Nat.le_of_ble_eq_true rfl⟩ (fun H locs hC hS => ?_)
        refine lv_iload_n hx hb dX3_cause_16 rfl (lv_at hl 2 rfl) ?_
        refine lv_icmp_le (tgt := 28) hx hb dX3_cause_17 (by decide) (fun c29 => ?_) (fun c29 => ?_)
        · skip
          refine lv_iinc (v := 5) (lv' := [(3, .int 5), (2, .int 3), (1, .int (fX3_fault g i 3)), (0, .ref (ad 5 i))]) hx hb dX3_cause_28 hl (k := 0) rfl (by decide) (by decide) rfl (fun ls hl => ?_)
          refine lv_goto (tgt := 6) hx hb dX3_cause_31 (by decide) ?_
          refine lv_iload_n hx hb dX3_cause_6 rfl (lv_at hl 0 rfl) ?_
          refine lv_iconst (v := 5) hx hb dX3_cause_7 (by decide) ?_
          refine lv_icmp_gt (tgt := 34) hx hb dX3_cause_8 (by decide) (fun c => absurd c (by decide)) (fun _ => ?_)
          refine lv_aload_n hx hb dX3_cause_11 rfl (lv_at hl 3 rfl) ?_
          refine lv_iload_n hx hb dX3_cause_12 rfl (lv_at hl 0 rfl) ?_
          refine q_callVi (As := [.int 5]) (κ := 5) (i := i) (show i < 13 from hrow_i) rfl ⟨_, rfl⟩ rfl ⟨hx, hb, hml, hown, hts⟩ (kX3_fault l D cy hI g _ i hrow_i 5 ) (cwV 1 hts gX3_cause_X3_fault rfl rfl rfl (by decide +kernel) ⟨Nat.le_of_ble_eq_true rfl, Nat.le_of_ble_eq_true rfl⟩) hB hC hS rfl hl.1 (Nat.le_of_ble_eq_true rfl) dX3_cause_13 ⟨Nat.le_of_ble_eq_true rfl, Nat.le_of_ble_eq_true rfl⟩ (fun H locs hC hS => ?_)
          refine lv_iload_n hx hb dX3_cause_16 rfl (lv_at hl 2 rfl) ?_
          refine lv_icmp_le (tgt := 28) hx hb dX3_cause_17 (by decide) (fun c30 => ?_) (fun c30 => ?_)
          · skip
            refine lv_iinc (v := 6) (lv' := [(3, .int 6), (2, .int 3), (1, .int (fX3_fault g i 3)), (0, .ref (ad 5 i))]) hx hb dX3_cause_28 hl (k := 0) rfl (by decide) (by decide) rfl (fun ls hl => ?_)
            refine lv_goto (tgt := 6) hx hb dX3_cause_31 (by decide) ?_
            refine lv_iload_n hx hb dX3_cause_6 rfl (lv_at hl 0 rfl) ?_
            refine lv_iconst (v := 5) hx hb dX3_cause_7 (by decide) ?_
            refine lv_icmp_gt (tgt := 34) hx hb dX3_cause_8 (by decide) (fun _ => ?_) (fun c => absurd c (by decide))
            refine lv_iload_n hx hb dX3_cause_34 rfl (lv_at hl 1 rfl) ?_
            exact q_reti hx hb hr hB hC hS rfl (by unfold fX3_cause; rw [if_neg c1, if_neg c17, if_neg c25, if_pos c29, if_pos c30]) hlocks dX3_cause_35
          · skip
            refine lv_aload_n hx hb dX3_cause_20 rfl (lv_at hl 3 rfl) ?_
            refine lv_iload_n hx hb dX3_cause_21 rfl (lv_at hl 0 rfl) ?_
            refine q_callVi (As := [.int 5]) (κ := 5) (i := i) (show i < 13 from hrow_i) rfl ⟨_, rfl⟩ rfl ⟨hx, hb, hml, hown, hts⟩ (kX3_fault l D cy hI g _ i hrow_i 5 ) (cwV 1 hts gX3_cause_X3_fault rfl rfl rfl (by decide +kernel) ⟨Nat.le_of_ble_eq_true rfl, Nat.le_of_ble_eq_true rfl⟩) hB hC hS rfl hl.1 (Nat.le_of_ble_eq_true rfl) dX3_cause_22 ⟨Nat.le_of_ble_eq_true rfl, Nat.le_of_ble_eq_true rfl⟩ (fun H locs hC hS => ?_)
            refine lv_istore_n (lv' := [(1, .int (fX3_fault g i 5)), (3, .int 5), (2, .int 3), (0, .ref (ad 5 i))]) hx hb dX3_cause_25 rfl hl (by decide) rfl (fun ls hl => ?_)
            refine lv_iload_n hx hb dX3_cause_26 rfl (lv_at hl 1 rfl) ?_
            refine lv_istore_n (lv' := [(2, .int 5), (1, .int (fX3_fault g i 5)), (3, .int 5), (0, .ref (ad 5 i))]) hx hb dX3_cause_27 rfl hl (by decide) rfl (fun ls hl => ?_)
            refine lv_iinc (v := 6) (lv' := [(3, .int 6), (2, .int 5), (1, .int (fX3_fault g i 5)), (0, .ref (ad 5 i))]) hx hb dX3_cause_28 hl (k := 2) rfl (by decide) (by decide) rfl (fun ls hl => ?_)
            refine lv_goto (tgt := 6) hx hb dX3_cause_31 (by decide) ?_
            refine lv_iload_n hx hb dX3_cause_6 rfl (lv_at hl 0 rfl) ?_
            refine lv_iconst (v := 5) hx hb dX3_cause_7 (by decide) ?_
            refine lv_icmp_gt (tgt := 34) hx hb dX3_cause_8 (by decide) (fun _ => ?_) (fun c => absurd c (by decide))
            refine lv_iload_n hx hb dX3_cause_34 rfl (lv_at hl 1 rfl) ?_
            exact q_reti hx hb hr hB hC hS rfl (by unfold fX3_cause; rw [if_neg c1, if_neg c17, if_neg c25, if_pos c29, if_neg c30]) hlocks dX3_cause_35
        · skip
          refine lv_aload_n hx hb dX3_cause_20 rfl (lv_at hl 3 rfl) ?_
          refine lv_iload_n hx hb dX3_cause_21 rfl (lv_at hl 0 rfl) ?_
          refine q_callVi (As := [.int 4]) (κ := 5) (i := i) (show i < 13 from hrow_i) rfl ⟨_, rfl⟩ rfl ⟨hx, hb, hml, hown, hts⟩ (kX3_fault l D cy hI g _ i hrow_i 4 ) (cwV 1 hts gX3_cause_X3_fault rfl rfl rfl (by decide +kernel) ⟨Nat.le_of_ble_eq_true rfl, Nat.le_of_ble_eq_true rfl⟩) hB hC hS rfl hl.1 (Nat.le_of_ble_eq_true rfl) dX3_cause_22 ⟨Nat.le_of_ble_eq_true rfl, Nat.le_of_ble_eq_true rfl⟩ (fun H locs hC hS => ?_)
          refine lv_istore_n (lv' := [(1, .int (fX3_fault g i 4)), (3, .int 4), (2, .int 3), (0, .ref (ad 5 i))]) hx hb dX3_cause_25 rfl hl (by decide) rfl (fun ls hl => ?_)
          refine lv_iload_n hx hb dX3_cause_26 rfl (lv_at hl 1 rfl) ?_
          refine lv_istore_n (lv' := [(2, .int 4), (1, .int (fX3_fault g i 4)), (3, .int 4), (0, .ref (ad 5 i))]) hx hb dX3_cause_27 rfl hl (by decide) rfl (fun ls hl => ?_)
          refine lv_iinc (v := 5) (lv' := [(3, .int 5), (2, .int 4), (1, .int (fX3_fault g i 4)), (0, .ref (ad 5 i))]) hx hb dX3_cause_28 hl (k := 2) rfl (by decide) (by decide) rfl (fun ls hl => ?_)
          refine lv_goto (tgt := 6) hx hb dX3_cause_31 (by decide) ?_
          refine lv_iload_n hx hb dX3_cause_6 rfl (lv_at hl 0 rfl) ?_
          refine lv_iconst (v := 5) hx hb dX3_cause_7 (by decide) ?_
          refine lv_icmp_gt (tgt := 34) hx hb dX3_cause_8 (by decide) (fun c => absurd c (by decide)) (fun _ => ?_)
          refine lv_aload_n hx hb dX3_cause_11 rfl (lv_at hl 3 rfl) ?_
          refine lv_iload_n hx hb dX3_cause_12 rfl (lv_at hl 0 rfl) ?_
          refine q_callVi (As := [.int 5]) (κ := 5) (i := i) (show i < 13 from hrow_i) rfl ⟨_, rfl⟩ rfl ⟨hx, hb, hml, hown, hts⟩ (kX3_fault l D cy hI g _ i hrow_i 5 ) (cwV 1 hts gX3_cause_X3_fault rfl rfl rfl (by decide +kernel) ⟨Nat.le_of_ble_eq_true rfl, Nat.le_of_ble_eq_true rfl⟩) hB hC hS rfl hl.1 (Nat.le_of_ble_eq_true rfl) dX3_cause_13 ⟨Nat.le_of_ble_eq_true rfl, Nat.le_of_ble_eq_true rfl⟩ (fun H locs hC hS => ?_)
          refine lv_iload_n hx hb dX3_cause_16 rfl (lv_at hl 2 rfl) ?_
          refine lv_icmp_le (tgt := 28) hx hb dX3_cause_17 (by decide) (fun c31 => ?_) (fun c31 => ?_)
          · skip
            refine lv_iinc (v := 6) (lv' := [(3, .int 6), (2, .int 4), (1, .int (fX3_fault g i 4)), (0, .ref (ad 5 i))]) hx hb dX3_cause_28 hl (k := 0) rfl (by decide) (by decide) rfl (fun ls hl => ?_)
            refine lv_goto (tgt := 6) hx hb dX3_cause_31 (by decide) ?_
            refine lv_iload_n hx hb dX3_cause_6 rfl (lv_at hl 0 rfl) ?_
            refine lv_iconst (v := 5) hx hb dX3_cause_7 (by decide) ?_
            refine lv_icmp_gt (tgt := 34) hx hb dX3_cause_8 (by decide) (fun _ => ?_) (fun c => absurd c (by decide))
            refine lv_iload_n hx hb dX3_cause_34 rfl (lv_at hl 1 rfl) ?_
            exact q_reti hx hb hr hB hC hS rfl (by unfold fX3_cause; rw [if_neg c1, if_neg c17, if_neg c25, if_neg c29, if_pos c31]) hlocks dX3_cause_35
          · skip
            refine lv_aload_n hx hb dX3_cause_20 rfl (lv_at hl 3 rfl) ?_
            refine lv_iload_n hx hb dX3_cause_21 rfl (lv_at hl 0 rfl) ?_
            refine q_callVi (As := [.int 5]) (κ := 5) (i := i) (show i < 13 from hrow_i) rfl ⟨_, rfl⟩ rfl ⟨hx, hb, hml, hown, hts⟩ (kX3_fault l D cy hI g _ i hrow_i 5 ) (cwV 1 hts gX3_cause_X3_fault rfl rfl rfl (by decide +kernel) ⟨Nat.le_of_ble_eq_true rfl, Nat.le_of_ble_eq_true rfl⟩) hB hC hS rfl hl.1 (Nat.le_of_ble_eq_true rfl) dX3_cause_22 ⟨Nat.le_of_ble_eq_true rfl, Nat.le_of_ble_eq_true rfl⟩ (fun H locs hC hS => ?_)
            refine lv_istore_n (lv' := [(1, .int (fX3_fault g i 5)), (3, .int 5), (2, .int 4), (0, .ref (ad 5 i))]) hx hb dX3_cause_25 rfl hl (by decide) rfl (fun ls hl => ?_)
            refine lv_iload_n hx hb dX3_cause_26 rfl (lv_at hl 1 rfl) ?_
            refine lv_istore_n (lv' := [(2, .int 5), (1, .int (fX3_fault g i 5)), (3, .int 5), (0, .ref (ad 5 i))]) hx hb dX3_cause_27 rfl hl (by decide) rfl (fun ls hl => ?_)
            refine lv_iinc (v := 6) (lv' := [(3, .int 6), (2, .int 5), (1, .int (fX3_fault g i 5)), (0, .ref (ad 5 i))]) hx hb dX3_cause_28 hl (k := 2) rfl (by decide) (by decide) rfl (fun ls hl => ?_)
            refine lv_goto (tgt := 6) hx hb dX3_cause_31 (by decide) ?_
            refine lv_iload_n hx hb dX3_cause_6 rfl (lv_at hl 0 rfl) ?_
            refine lv_iconst (v := 5) hx hb dX3_cause_7 (by decide) ?_
            refine lv_icmp_gt (tgt := 34) hx hb dX3_cause_8 (by decide) (fun _ => ?_) (fun c => absurd c (by decide))
            refine lv_iload_n hx hb dX3_cause_34 rfl (lv_at hl 1 rfl) ?_
            exact q_reti hx hb hr hB hC hS rfl (by unfold fX3_cause; rw [if_neg c1, if_neg c17, if_neg c25, if_neg c29, if_neg c31]) hlocks dX3_cause_35
def fX3_worth (g : Gd) (i : Nat) (pr : Int32) (lb : Int32) : Int32 := if lb = 0 then ((g 3 (8 + i) 0) * pr) else (if (fX3_grade g i) < 80 then ((g 3 (8 + i) 0) * pr) else (((g 3 (8 + i) 0) * pr) + (10 * (fX4_certifiedKilos g (8 + i)))))
theorem qX3_worth_w1 : Cond.fieldLink RX3 12 "CherryStation$Lot" "mix" "LCherryStation$Mix;" ∈ wsX3_worth := List.mem_of_getElem? (i := 1) rfl
theorem qX3_worth_w2 : Cond.fieldLink RX3 59 "CherryStation$Mix" "kilos" "I" ∈ wsX3_worth := List.mem_of_getElem? (i := 2) rfl
theorem iX3_worth_X3 : ∀ w ∈ wsX30, w ∈ wsX3_worth := fun _ h => (List.mem_cons_of_mem _ (List.mem_append_left _ (List.mem_append_right _ h)))
theorem iX3_worth_X4 : ∀ w ∈ wsX40, w ∈ wsX3_worth := fun _ h => (List.mem_cons_of_mem _ (List.mem_append_right _ h))
set_option maxRecDepth 100000 in
set_option maxHeartbeats 4000000 in
theorem kX3_worth (l : Launch) (D : va_G) (cy : Nat → ClassId) {ad : Nat → Nat → Nat} (hI : cI ad) (g : Gd) (sz : Nat) (i : Nat) (hrow_i : i < 13) (pr : Int32) (lb : Int32) : Met l yX3_worth wsX3_worth ({ frames := 1, cells := 0, slots := 0, locals := 23 } : Room) (va_Pc [.ref (ad 5 i), .int pr, .int lb] (cPre D cy ad g sz)) (cQi D cy ad (fX3_worth g i pr lb) g sz) 0 0 (cA ad sz) := by
  refine q_start (cc := cX3_worth) (maxL := 4) (ret := (some .int)) (own := RX3) (by decide) rfl rfl (Nat.le_of_ble_eq_true rfl) ?_
  intro p e s m below meth c hx hb hr hml hts hown hlocks ⟨hsz, hC, hB⟩ ls hl
  subst hsz
  have hS : va_S (cA ad s.heap.size) s.heap s.heap [] := va_S.rf
  have hA : ∀ κ i : Nat, cV κ i → cA ad s.heap.size (ad κ i) := fun κ i h => Or.inl ⟨κ, i, h, rfl⟩
  have hl : lv_has ls 4 [(0, .ref (ad 5 i)), (1, .int pr), (2, .int lb)] := hl
  refine lv_aload_n hx hb dX3_worth_0 rfl (lv_at hl 0 rfl) ?_
  refine gt_5_0 hx hb hts iX3_worth_X3 hown hB.1 hC hrow_i qX3_worth_w1 dX3_worth_1 ?_
  refine gt_6_2 hx hb hts iX3_worth_X4 hown hB.1 hC (by omega) qX3_worth_w2 dX3_worth_4 ?_
  refine lv_iload_n hx hb dX3_worth_7 rfl (lv_at hl 1 rfl) ?_
  refine lv_imul hx hb dX3_worth_8 ?_
  refine lv_istore_n (lv' := [(3, .int ((g 3 (8 + i) 0) * pr)), (0, .ref (ad 5 i)), (1, .int pr), (2, .int lb)]) hx hb dX3_worth_9 rfl hl (by decide) rfl (fun ls hl => ?_)
  refine lv_iload_n hx hb dX3_worth_10 rfl (lv_at hl 3 rfl) ?_
  refine lv_if_eq (tgt := 38) hx hb dX3_worth_11 (by decide) (fun c1 => ?_) (fun c1 => ?_)
  · skip
    refine lv_iload_n hx hb dX3_worth_38 rfl (lv_at hl 0 rfl) ?_
    exact q_reti hx hb hr hB hC hS rfl (by unfold fX3_worth; rw [if_pos c1]) hlocks dX3_worth_39
  · skip
    refine lv_aload_n hx hb dX3_worth_14 rfl (lv_at hl 1 rfl) ?_
    refine q_callVi (As := []) (κ := 5) (i := i) (show i < 13 from hrow_i) rfl ⟨_, rfl⟩ rfl ⟨hx, hb, hml, hown, hts⟩ (kX3_grade l D cy hI g _ i hrow_i  ) (cwV 0 hts gX3_worth_X3_grade rfl rfl rfl (by decide +kernel) ⟨Nat.le_of_ble_eq_true rfl, Nat.le_of_ble_eq_true rfl⟩) hB hC hS rfl hl.1 (Nat.le_of_ble_eq_true rfl) dX3_worth_15 ⟨Nat.le_of_ble_eq_true rfl, Nat.le_of_ble_eq_true rfl⟩ (fun H locs hC hS => ?_)
    refine lv_bipush (v := 80) hx hb dX3_worth_18 (by decide) ?_
    refine lv_icmp_lt (tgt := 38) hx hb dX3_worth_20 (by decide) (fun c2 => ?_) (fun c2 => ?_)
    · skip
      refine lv_iload_n hx hb dX3_worth_38 rfl (lv_at hl 0 rfl) ?_
      exact q_reti hx hb hr hB hC hS rfl (by unfold fX3_worth; rw [if_neg c1, if_pos c2]) hlocks dX3_worth_39
    · skip
      refine lv_iload_n hx hb dX3_worth_23 rfl (lv_at hl 0 rfl) ?_
      refine lv_bipush (v := 10) hx hb dX3_worth_24 (by decide) ?_
      refine lv_aload_n hx hb dX3_worth_26 rfl (lv_at hl 1 rfl) ?_
      refine gt_5_0 hx hb hts iX3_worth_X3 hown hB.1 hC hrow_i qX3_worth_w1 dX3_worth_27 ?_
      refine q_callVi (As := []) (κ := 6) (i := 8 + i) (show (8 + i) < 21 from (by omega)) rfl ⟨_, rfl⟩ rfl ⟨hx, hb, hml, hown, hts⟩ (kX4_certifiedKilos l D cy hI g _ (8 + i) (by omega)  ) (cwV 0 hts gX3_worth_X4_certifiedKilos rfl rfl rfl (by decide +kernel) ⟨Nat.le_of_ble_eq_true rfl, Nat.le_of_ble_eq_true rfl⟩) hB hC hS rfl hl.1 (Nat.le_of_ble_eq_true rfl) dX3_worth_30 ⟨Nat.le_of_ble_eq_true rfl, Nat.le_of_ble_eq_true rfl⟩ (fun H locs hC hS => ?_)
      refine lv_imul hx hb dX3_worth_33 ?_
      refine lv_iadd hx hb dX3_worth_34 ?_
      refine lv_goto (tgt := 39) hx hb dX3_worth_35 (by decide) ?_
      exact q_reti hx hb hr hB hC hS rfl (by unfold fX3_worth; rw [if_neg c1, if_neg c2]) hlocks dX3_worth_39
def fX3_shareOf (g : Gd) (i : Nat) (x : Int32) (br : Int32) : Int32 := if (g 3 (8 + i) 0) ≤ 0 then (0) else (((br * (g 4 (8 + i) x.toNatClampNeg)) * 2) / (5 * (g 3 (8 + i) 0)))
theorem qX3_shareOf_w1 : Cond.fieldLink RX3 12 "CherryStation$Lot" "mix" "LCherryStation$Mix;" ∈ wsX3_shareOf := List.mem_of_getElem? (i := 1) rfl
theorem qX3_shareOf_w2 : Cond.fieldLink RX3 59 "CherryStation$Mix" "kilos" "I" ∈ wsX3_shareOf := List.mem_of_getElem? (i := 2) rfl
theorem qX3_shareOf_w3 : Cond.fieldLink RX3 42 "CherryStation$Mix" "kilosBy" "[I" ∈ wsX3_shareOf := List.mem_of_getElem? (i := 3) rfl
theorem iX3_shareOf_X3 : ∀ w ∈ wsX30, w ∈ wsX3_shareOf := fun _ h => (List.mem_cons_of_mem _ (List.mem_append_left _ (List.mem_append_right _ h)))
theorem iX3_shareOf_X4 : ∀ w ∈ wsX40, w ∈ wsX3_shareOf := fun _ h => (List.mem_cons_of_mem _ (List.mem_append_right _ h))
set_option maxRecDepth 100000 in
set_option maxHeartbeats 4000000 in
theorem kX3_shareOf (l : Launch) (D : va_G) (cy : Nat → ClassId) {ad : Nat → Nat → Nat} (hI : cI ad) (g : Gd) (sz : Nat) (i : Nat) (hrow_i : i < 13) (x : Int32) (br : Int32) (hx5 : vp_in x 6) (hk : ¬ (g 3 (8 + i) 0) ≤ 0 → ¬ 5 * (g 3 (8 + i) 0) = 0) : Met l yX3_shareOf wsX3_shareOf ({ frames := 0, cells := 0, slots := 0, locals := 0 } : Room) (va_Pc [.ref (ad 5 i), .int x, .int br] (cPre D cy ad g sz)) (cQi D cy ad (fX3_shareOf g i x br) g sz) 0 0 (cA ad sz) := by
  refine q_start (cc := cX3_shareOf) (maxL := 3) (ret := (some .int)) (own := RX3) (by decide) rfl rfl (Nat.le_of_ble_eq_true rfl) ?_
  intro p e s m below meth c hx hb hr hml hts hown hlocks ⟨hsz, hC, hB⟩ ls hl
  subst hsz
  have hS : va_S (cA ad s.heap.size) s.heap s.heap [] := va_S.rf
  have hA : ∀ κ i : Nat, cV κ i → cA ad s.heap.size (ad κ i) := fun κ i h => Or.inl ⟨κ, i, h, rfl⟩
  have hl : lv_has ls 3 [(0, .ref (ad 5 i)), (1, .int x), (2, .int br)] := hl
  refine lv_aload_n hx hb dX3_shareOf_0 rfl (lv_at hl 0 rfl) ?_
  refine gt_5_0 hx hb hts iX3_shareOf_X3 hown hB.1 hC hrow_i qX3_shareOf_w1 dX3_shareOf_1 ?_
  refine gt_6_2 hx hb hts iX3_shareOf_X4 hown hB.1 hC (by omega) qX3_shareOf_w2 dX3_shareOf_4 ?_
  refine lv_if_le (tgt := 36) hx hb dX3_shareOf_7 (by decide) (fun c1 => ?_) (fun c1 => ?_)
  · skip
    refine lv_iconst (v := 0) hx hb dX3_shareOf_36 (by decide) ?_
    exact q_reti hx hb hr hB hC hS rfl (by unfold fX3_shareOf; rw [if_pos c1]) hlocks dX3_shareOf_37
  · skip
    refine lv_iload_n hx hb dX3_shareOf_10 rfl (lv_at hl 2 rfl) ?_
    refine lv_aload_n hx hb dX3_shareOf_11 rfl (lv_at hl 0 rfl) ?_
    refine gt_5_0 hx hb hts iX3_shareOf_X3 hown hB.1 hC hrow_i qX3_shareOf_w1 dX3_shareOf_12 ?_
    refine gt_6_0 hx hb hts iX3_shareOf_X4 hown hB.1 hC (by omega) qX3_shareOf_w3 dX3_shareOf_15 ?_
    refine lv_iload_n hx hb dX3_shareOf_18 rfl (lv_at hl 1 rfl) ?_
    refine ld_7 hx hb hB.1 hC (by omega) (k := x.toNatClampNeg) rfl hx5 dX3_shareOf_19 ?_
    refine lv_imul hx hb dX3_shareOf_20 ?_
    refine lv_iconst (v := 2) hx hb dX3_shareOf_21 (by decide) ?_
    refine lv_imul hx hb dX3_shareOf_22 ?_
    refine lv_iconst (v := 5) hx hb dX3_shareOf_23 (by decide) ?_
    refine lv_aload_n hx hb dX3_shareOf_24 rfl (lv_at hl 0 rfl) ?_
    refine gt_5_0 hx hb hts iX3_shareOf_X3 hown hB.1 hC hrow_i qX3_shareOf_w1 dX3_shareOf_25 ?_
    refine gt_6_2 hx hb hts iX3_shareOf_X4 hown hB.1 hC (by omega) qX3_shareOf_w2 dX3_shareOf_28 ?_
    refine lv_imul hx hb dX3_shareOf_31 ?_
    refine lv_idiv hx hb dX3_shareOf_32 (hk c1) ?_
    refine lv_goto (tgt := 37) hx hb dX3_shareOf_33 (by decide) ?_
    exact q_reti hx hb hr hB hC hS rfl (by unfold fX3_shareOf; rw [if_neg c1]) hlocks dX3_shareOf_37
def fX3_canBlendWith (g : Gd) (i : Nat) (o : Nat) : Int32 := if (g 3 (8 + i) 10) = 0 then (0) else (if (g 3 (8 + o) 10) = 0 then (0) else (if (g 3 (8 + i) 4) = (g 3 (8 + o) 4) then (1) else (0)))
theorem qX3_canBlendWith_w1 : Cond.fieldLink RX3 22 "CherryStation$Lot" "isInStore" "Z" ∈ wsX3_canBlendWith := List.mem_of_getElem? (i := 1) rfl
theorem qX3_canBlendWith_w2 : Cond.fieldLink RX3 26 "CherryStation$Lot" "method" "I" ∈ wsX3_canBlendWith := List.mem_of_getElem? (i := 2) rfl
theorem iX3_canBlendWith_X3 : ∀ w ∈ wsX30, w ∈ wsX3_canBlendWith := fun _ h => (List.mem_cons_of_mem _ (List.mem_append_right _ h))
set_option maxRecDepth 100000 in
set_option maxHeartbeats 4000000 in
theorem kX3_canBlendWith (l : Launch) (D : va_G) (cy : Nat → ClassId) {ad : Nat → Nat → Nat} (hI : cI ad) (g : Gd) (sz : Nat) (i : Nat) (hrow_i : i < 13) (o : Nat) (hrow_o : o < 13) : Met l yX3_canBlendWith wsX3_canBlendWith ({ frames := 0, cells := 0, slots := 0, locals := 0 } : Room) (va_Pc [.ref (ad 5 i), .ref (ad 5 o)] (cPre D cy ad g sz)) (cQi D cy ad (fX3_canBlendWith g i o) g sz) 0 0 (cA ad sz) := by
  refine q_start (cc := cX3_canBlendWith) (maxL := 2) (ret := (some .boolean)) (own := RX3) (by decide) rfl rfl (Nat.le_of_ble_eq_true rfl) ?_
  intro p e s m below meth c hx hb hr hml hts hown hlocks ⟨hsz, hC, hB⟩ ls hl
  subst hsz
  have hS : va_S (cA ad s.heap.size) s.heap s.heap [] := va_S.rf
  have hA : ∀ κ i : Nat, cV κ i → cA ad s.heap.size (ad κ i) := fun κ i h => Or.inl ⟨κ, i, h, rfl⟩
  have hl : lv_has ls 2 [(0, .ref (ad 5 i)), (1, .ref (ad 5 o))] := hl
  refine lv_aload_n hx hb dX3_canBlendWith_0 rfl (lv_at hl 0 rfl) ?_
  refine gt_5_2 hx hb hts iX3_canBlendWith_X3 hown hB.1 hC hrow_i qX3_canBlendWith_w1 dX3_canBlendWith_1 ?_
  refine lv_if_eq (tgt := 29) hx hb dX3_canBlendWith_4 (by decide) (fun c1 => ?_) (fun c1 => ?_)
  · skip
    refine lv_iconst (v := 0) hx hb dX3_canBlendWith_29 (by decide) ?_
    exact q_retz hx hb hr hB hC hS rfl (by unfold fX3_canBlendWith; rw [if_pos c1]) rfl hlocks dX3_canBlendWith_30
  · skip
    refine lv_aload_n hx hb dX3_canBlendWith_7 rfl (lv_at hl 1 rfl) ?_
    refine gt_5_2 hx hb hts iX3_canBlendWith_X3 hown hB.1 hC hrow_o qX3_canBlendWith_w1 dX3_canBlendWith_8 ?_
    refine lv_if_eq (tgt := 29) hx hb dX3_canBlendWith_11 (by decide) (fun c2 => ?_) (fun c2 => ?_)
    · skip
      refine lv_iconst (v := 0) hx hb dX3_canBlendWith_29 (by decide) ?_
      exact q_retz hx hb hr hB hC hS rfl (by unfold fX3_canBlendWith; rw [if_neg c1, if_pos c2]) rfl hlocks dX3_canBlendWith_30
    · skip
      refine lv_aload_n hx hb dX3_canBlendWith_14 rfl (lv_at hl 0 rfl) ?_
      refine gt_5_3 hx hb hts iX3_canBlendWith_X3 hown hB.1 hC hrow_i qX3_canBlendWith_w2 dX3_canBlendWith_15 ?_
      refine lv_aload_n hx hb dX3_canBlendWith_18 rfl (lv_at hl 1 rfl) ?_
      refine gt_5_3 hx hb hts iX3_canBlendWith_X3 hown hB.1 hC hrow_o qX3_canBlendWith_w2 dX3_canBlendWith_19 ?_
      refine lv_icmp_ne (tgt := 29) hx hb dX3_canBlendWith_22 (by decide) (fun c3 => ?_) (fun c3 => ?_)
      · skip
        refine lv_iconst (v := 0) hx hb dX3_canBlendWith_29 (by decide) ?_
        exact q_retz hx hb hr hB hC hS rfl (by unfold fX3_canBlendWith; rw [if_neg c1, if_neg c2, if_neg c3]) rfl hlocks dX3_canBlendWith_30
      · skip
        refine lv_iconst (v := 1) hx hb dX3_canBlendWith_25 (by decide) ?_
        refine lv_goto (tgt := 30) hx hb dX3_canBlendWith_26 (by decide) ?_
        exact q_retz hx hb hr hB hC hS rfl (by unfold fX3_canBlendWith; rw [if_neg c1, if_neg c2, if_pos c3]) rfl hlocks dX3_canBlendWith_30
def fX3_takeIn (g : Gd) (i : Nat) (o : Nat) : Gd := fX4_addMix (up (up (up (up g 3 (8 + i) 3 (fX6_meanByKilos (g 3 (8 + i) 0) (g 3 (8 + i) 3) (g 3 (8 + o) 0) (g 3 (8 + o) 3))) 3 (8 + i) 5 (fX6_meanByKilos (g 3 (8 + i) 0) (g 3 (8 + i) 5) (g 3 (8 + o) 0) (g 3 (8 + o) 5))) 3 (8 + i) 7 (if (g 3 (8 + i) 7) < (g 3 (8 + o) 7) then (g 3 (8 + o) 7) else (g 3 (8 + i) 7))) 3 (8 + i) 2 (if (g 3 (8 + i) 2) < (g 3 (8 + o) 2) then (g 3 (8 + o) 2) else (g 3 (8 + i) 2))) (8 + i) (8 + o)
theorem qX3_takeIn_w1 : Cond.fieldLink RX3 12 "CherryStation$Lot" "mix" "LCherryStation$Mix;" ∈ wsX3_takeIn := List.mem_of_getElem? (i := 1) rfl
theorem qX3_takeIn_w2 : Cond.fieldLink RX3 59 "CherryStation$Mix" "kilos" "I" ∈ wsX3_takeIn := List.mem_of_getElem? (i := 2) rfl
theorem qX3_takeIn_w3 : Cond.fieldLink RX3 30 "CherryStation$Lot" "points" "I" ∈ wsX3_takeIn := List.mem_of_getElem? (i := 3) rfl
theorem qX3_takeIn_w4 : Cond.fieldLink RX3 36 "CherryStation$Lot" "moisture" "I" ∈ wsX3_takeIn := List.mem_of_getElem? (i := 4) rfl
theorem qX3_takeIn_w5 : Cond.fieldLink RX3 33 "CherryStation$Lot" "mould" "I" ∈ wsX3_takeIn := List.mem_of_getElem? (i := 5) rfl
theorem qX3_takeIn_w6 : Cond.methodLink RX3 80 Lib.Math.max.name ∈ wsX3_takeIn := List.mem_of_getElem? (i := 6) rfl
theorem qX3_takeIn_w7 : Cond.static Lib.Math.max.name ∈ wsX3_takeIn := List.mem_of_getElem? (i := 7) rfl
theorem qX3_takeIn_w8 : Cond.initialized "java/lang/Math" ∈ wsX3_takeIn := List.mem_of_getElem? (i := 8) rfl
theorem qX3_takeIn_w9 : Cond.code Lib.Math.max.name Lib.Math.max.code 2 (some .int) ∈ wsX3_takeIn := List.mem_of_getElem? (i := 9) rfl
theorem qX3_takeIn_w10 : Cond.fieldLink RX3 39 "CherryStation$Lot" "age" "I" ∈ wsX3_takeIn := List.mem_of_getElem? (i := 10) rfl
theorem qX3_takeIn_w11 : Cond.static yX6_meanByKilos ∈ wsX3_takeIn := List.mem_of_getElem? (i := 11) rfl
theorem qX3_takeIn_w12 : Cond.initialized RX6 ∈ wsX3_takeIn := List.mem_of_getElem? (i := 12) rfl
theorem iX3_takeIn_X3 : ∀ w ∈ wsX30, w ∈ wsX3_takeIn := fun _ h => (List.mem_cons_of_mem _ (List.mem_append_left _ (List.mem_append_right _ h)))
theorem iX3_takeIn_X4 : ∀ w ∈ wsX40, w ∈ wsX3_takeIn := fun _ h => (List.mem_cons_of_mem _ (List.mem_append_right _ h))
set_option maxRecDepth 100000 in
set_option maxHeartbeats 4000000 in
theorem kX3_takeIn (l : Launch) (D : va_G) (cy : Nat → ClassId) {ad : Nat → Nat → Nat} (hI : cI ad) (g : Gd) (sz : Nat) (i : Nat) (hrow_i : i < 13) (o : Nat) (hrow_o : o < 13) (hne : ¬ i = o) : Met l yX3_takeIn wsX3_takeIn ({ frames := 2, cells := 0, slots := 0, locals := 46 } : Room) (va_Pc [.ref (ad 5 i), .ref (ad 5 o)] (cPre D cy ad g sz)) (cQv D cy ad (fX3_takeIn g i o) sz) 0 0 (cA ad sz) := by
  refine q_start (cc := cX3_takeIn) (maxL := 2) (ret := none) (own := RX3) (by decide) rfl rfl (Nat.le_of_ble_eq_true rfl) ?_
  intro p e s m below meth c hx hb hr hml hts hown hlocks ⟨hsz, hC, hB⟩ ls hl
  subst hsz
  have hS : va_S (cA ad s.heap.size) s.heap s.heap [] := va_S.rf
  have hA : ∀ κ i : Nat, cV κ i → cA ad s.heap.size (ad κ i) := fun κ i h => Or.inl ⟨κ, i, h, rfl⟩
  have hl : lv_has ls 2 [(0, .ref (ad 5 i)), (1, .ref (ad 5 o))] := hl
  refine lv_aload_n hx hb dX3_takeIn_0 rfl (lv_at hl 0 rfl) ?_
  refine lv_aload_n hx hb dX3_takeIn_1 rfl (lv_at hl 0 rfl) ?_
  refine gt_5_0 hx hb hts iX3_takeIn_X3 hown hB.1 hC hrow_i qX3_takeIn_w1 dX3_takeIn_2 ?_
  refine gt_6_2 hx hb hts iX3_takeIn_X4 hown hB.1 hC (by omega) qX3_takeIn_w2 dX3_takeIn_5 ?_
  refine lv_aload_n hx hb dX3_takeIn_8 rfl (lv_at hl 0 rfl) ?_
  refine gt_5_4 hx hb hts iX3_takeIn_X3 hown hB.1 hC hrow_i qX3_takeIn_w3 dX3_takeIn_9 ?_
  refine lv_aload_n hx hb dX3_takeIn_12 rfl (lv_at hl 1 rfl) ?_
  refine gt_5_0 hx hb hts iX3_takeIn_X3 hown hB.1 hC hrow_o qX3_takeIn_w1 dX3_takeIn_13 ?_
  refine gt_6_2 hx hb hts iX3_takeIn_X4 hown hB.1 hC (by omega) qX3_takeIn_w2 dX3_takeIn_16 ?_
  refine lv_aload_n hx hb dX3_takeIn_19 rfl (lv_at hl 1 rfl) ?_
  refine gt_5_4 hx hb hts iX3_takeIn_X3 hown hB.1 hC hrow_o qX3_takeIn_w3 dX3_takeIn_20 ?_
  refine q_callNi (As := [.int (g 3 (8 + i) 0), .int (g 3 (8 + i) 3), .int (g 3 (8 + o) 0), .int (g 3 (8 + o) 3)])  ⟨hx, hb, hml, hown, hts⟩ (kX6_meanByKilos l D cy hI g _  (g 3 (8 + i) 0) (g 3 (8 + i) 3) (g 3 (8 + o) 0) (g 3 (8 + o) 3) ) ⟨va_cnB 4 hts gX3_takeIn_X6_meanByKilos_n76 rfl rfl rfl (hB.2.1.1 _ (List.mem_of_getElem? (i := 7) rfl)) (hts _ qX3_takeIn_w12) (by decide +kernel) ⟨Nat.le_of_ble_eq_true rfl, Nat.le_of_ble_eq_true rfl⟩, hts _ qX3_takeIn_w11, trivial⟩ hB hC hS rfl hl.1 (Nat.le_of_ble_eq_true rfl) dX3_takeIn_23 ⟨Nat.le_of_ble_eq_true rfl, Nat.le_of_ble_eq_true rfl⟩ (fun H locs hC hS => ?_)
  refine pt_5_4 hx hb hts iX3_takeIn_X3 hown hB.1 hC hI hS hA hrow_i qX3_takeIn_w3 dX3_takeIn_26 (fun H locs hC hS => ?_)
  refine lv_aload_n hx hb dX3_takeIn_29 rfl (lv_at hl 0 rfl) ?_
  refine lv_aload_n hx hb dX3_takeIn_30 rfl (lv_at hl 0 rfl) ?_
  refine gt_5_0 hx hb hts iX3_takeIn_X3 hown hB.1 hC hrow_i qX3_takeIn_w1 dX3_takeIn_31 ?_
  refine gt_6_2 hx hb hts iX3_takeIn_X4 hown hB.1 hC (by omega) qX3_takeIn_w2 dX3_takeIn_34 ?_
  refine q_val (v := g 3 (8 + i) 0) ((up_nk (by decide)).trans rfl) ?_
  refine lv_aload_n hx hb dX3_takeIn_37 rfl (lv_at hl 0 rfl) ?_
  refine gt_5_6 hx hb hts iX3_takeIn_X3 hown hB.1 hC hrow_i qX3_takeIn_w4 dX3_takeIn_38 ?_
  refine q_val (v := g 3 (8 + i) 5) ((up_nk (by decide)).trans rfl) ?_
  refine lv_aload_n hx hb dX3_takeIn_41 rfl (lv_at hl 1 rfl) ?_
  refine gt_5_0 hx hb hts iX3_takeIn_X3 hown hB.1 hC hrow_o qX3_takeIn_w1 dX3_takeIn_42 ?_
  refine gt_6_2 hx hb hts iX3_takeIn_X4 hown hB.1 hC (by omega) qX3_takeIn_w2 dX3_takeIn_45 ?_
  refine q_val (v := g 3 (8 + o) 0) ((up_nk (by decide)).trans rfl) ?_
  refine lv_aload_n hx hb dX3_takeIn_48 rfl (lv_at hl 1 rfl) ?_
  refine gt_5_6 hx hb hts iX3_takeIn_X3 hown hB.1 hC hrow_o qX3_takeIn_w4 dX3_takeIn_49 ?_
  refine q_val (v := g 3 (8 + o) 5) ((up_nk (by decide)).trans rfl) ?_
  refine q_callNi (As := [.int (g 3 (8 + i) 0), .int (g 3 (8 + i) 5), .int (g 3 (8 + o) 0), .int (g 3 (8 + o) 5)])  ⟨hx, hb, hml, hown, hts⟩ (kX6_meanByKilos l D cy hI (up g 3 (8 + i) 3 (fX6_meanByKilos (g 3 (8 + i) 0) (g 3 (8 + i) 3) (g 3 (8 + o) 0) (g 3 (8 + o) 3))) _  (g 3 (8 + i) 0) (g 3 (8 + i) 5) (g 3 (8 + o) 0) (g 3 (8 + o) 5) ) ⟨va_cnB 4 hts gX3_takeIn_X6_meanByKilos_n76 rfl rfl rfl (hB.2.1.1 _ (List.mem_of_getElem? (i := 7) rfl)) (hts _ qX3_takeIn_w12) (by decide +kernel) ⟨Nat.le_of_ble_eq_true rfl, Nat.le_of_ble_eq_true rfl⟩, hts _ qX3_takeIn_w11, trivial⟩ hB hC hS rfl hl.1 (Nat.le_of_ble_eq_true rfl) dX3_takeIn_52 ⟨Nat.le_of_ble_eq_true rfl, Nat.le_of_ble_eq_true rfl⟩ (fun H locs hC hS => ?_)
  refine pt_5_6 hx hb hts iX3_takeIn_X3 hown hB.1 hC hI hS hA hrow_i qX3_takeIn_w4 dX3_takeIn_55 (fun H locs hC hS => ?_)
  refine lv_aload_n hx hb dX3_takeIn_58 rfl (lv_at hl 0 rfl) ?_
  refine lv_aload_n hx hb dX3_takeIn_59 rfl (lv_at hl 0 rfl) ?_
  refine gt_5_5 hx hb hts iX3_takeIn_X3 hown hB.1 hC hrow_i qX3_takeIn_w5 dX3_takeIn_60 ?_
  refine q_val (v := g 3 (8 + i) 7) ((up_nk (by decide)).trans ((up_nk (by decide)).trans rfl)) ?_
  refine lv_aload_n hx hb dX3_takeIn_63 rfl (lv_at hl 1 rfl) ?_
  refine gt_5_5 hx hb hts iX3_takeIn_X3 hown hB.1 hC hrow_o qX3_takeIn_w5 dX3_takeIn_64 ?_
  refine q_val (v := g 3 (8 + o) 7) ((up_nk (by decide)).trans ((up_nk (by decide)).trans rfl)) ?_
  refine va_mmax hx hb (hml.trans hl.1.symm) hown (hts _ qX3_takeIn_w6) (hts _ qX3_takeIn_w7) (hts _ qX3_takeIn_w8) (hts _ qX3_takeIn_w9) (Nat.le_of_ble_eq_true rfl) (Nat.le_of_ble_eq_true rfl) (Nat.le_of_ble_eq_true rfl) (Nat.le_of_ble_eq_true rfl) dX3_takeIn_67 ?_
  refine pt_5_5 hx hb hts iX3_takeIn_X3 hown hB.1 hC hI hS hA hrow_i qX3_takeIn_w5 dX3_takeIn_70 (fun H locs hC hS => ?_)
  refine lv_aload_n hx hb dX3_takeIn_73 rfl (lv_at hl 0 rfl) ?_
  refine lv_aload_n hx hb dX3_takeIn_74 rfl (lv_at hl 0 rfl) ?_
  refine gt_5_7 hx hb hts iX3_takeIn_X3 hown hB.1 hC hrow_i qX3_takeIn_w10 dX3_takeIn_75 ?_
  refine q_val (v := g 3 (8 + i) 2) ((up_nk (by decide)).trans ((up_nk (by decide)).trans ((up_nk (by decide)).trans rfl))) ?_
  refine lv_aload_n hx hb dX3_takeIn_78 rfl (lv_at hl 1 rfl) ?_
  refine gt_5_7 hx hb hts iX3_takeIn_X3 hown hB.1 hC hrow_o qX3_takeIn_w10 dX3_takeIn_79 ?_
  refine q_val (v := g 3 (8 + o) 2) ((up_nk (by decide)).trans ((up_nk (by decide)).trans ((up_nk (by decide)).trans rfl))) ?_
  refine va_mmax hx hb (hml.trans hl.1.symm) hown (hts _ qX3_takeIn_w6) (hts _ qX3_takeIn_w7) (hts _ qX3_takeIn_w8) (hts _ qX3_takeIn_w9) (Nat.le_of_ble_eq_true rfl) (Nat.le_of_ble_eq_true rfl) (Nat.le_of_ble_eq_true rfl) (Nat.le_of_ble_eq_true rfl) dX3_takeIn_82 ?_
  refine pt_5_7 hx hb hts iX3_takeIn_X3 hown hB.1 hC hI hS hA hrow_i qX3_takeIn_w10 dX3_takeIn_85 (fun H locs hC hS => ?_)
  refine lv_aload_n hx hb dX3_takeIn_88 rfl (lv_at hl 0 rfl) ?_
  refine gt_5_0 hx hb hts iX3_takeIn_X3 hown hB.1 hC hrow_i qX3_takeIn_w1 dX3_takeIn_89 ?_
  refine lv_aload_n hx hb dX3_takeIn_92 rfl (lv_at hl 1 rfl) ?_
  refine gt_5_0 hx hb hts iX3_takeIn_X3 hown hB.1 hC hrow_o qX3_takeIn_w1 dX3_takeIn_93 ?_
  refine q_callVv (As := [.ref (ad 6 (8 + o))]) (κ := 6) (i := 8 + i) (show (8 + i) < 21 from (by omega)) rfl ⟨_, rfl⟩ rfl ⟨hx, hb, hml, hown, hts⟩ (kX4_addMix l D cy hI (up (up (up (up g 3 (8 + i) 3 (fX6_meanByKilos (g 3 (8 + i) 0) (g 3 (8 + i) 3) (g 3 (8 + o) 0) (g 3 (8 + o) 3))) 3 (8 + i) 5 (fX6_meanByKilos (g 3 (8 + i) 0) (g 3 (8 + i) 5) (g 3 (8 + o) 0) (g 3 (8 + o) 5))) 3 (8 + i) 7 (if (g 3 (8 + i) 7) < (g 3 (8 + o) 7) then (g 3 (8 + o) 7) else (g 3 (8 + i) 7))) 3 (8 + i) 2 (if (g 3 (8 + i) 2) < (g 3 (8 + o) 2) then (g 3 (8 + o) 2) else (g 3 (8 + i) 2))) _ (8 + i) (by omega) (8 + o) (by omega)  (by omega)) (cwV 1 hts gX3_takeIn_X4_addMix rfl rfl rfl (by decide +kernel) ⟨Nat.le_of_ble_eq_true rfl, Nat.le_of_ble_eq_true rfl⟩) hB hC hS rfl hl.1 (Nat.le_of_ble_eq_true rfl) dX3_takeIn_96 ⟨Nat.le_of_ble_eq_true rfl, Nat.le_of_ble_eq_true rfl⟩ (fun H locs hC hS => ?_)
  exact q_retv hx hb hr hB hC hS rfl hlocks dX3_takeIn_99
def fX3_copyFrom (g : Gd) (i : Nat) (o : Nat) : Gd := (up (up (up (up (up (fX4_addMix (fX4_clear g (8 + i)) (8 + i) (8 + o)) 3 (8 + i) 4 ((fX4_addMix (fX4_clear g (8 + i)) (8 + i) (8 + o)) 3 (8 + o) 4)) 3 (8 + i) 3 ((fX4_addMix (fX4_clear g (8 + i)) (8 + i) (8 + o)) 3 (8 + o) 3)) 3 (8 + i) 7 ((fX4_addMix (fX4_clear g (8 + i)) (8 + i) (8 + o)) 3 (8 + o) 7)) 3 (8 + i) 5 ((fX4_addMix (fX4_clear g (8 + i)) (8 + i) (8 + o)) 3 (8 + o) 5)) 3 (8 + i) 2 ((fX4_addMix (fX4_clear g (8 + i)) (8 + i) (8 + o)) 3 (8 + o) 2))
theorem qX3_copyFrom_w1 : Cond.fieldLink RX3 12 "CherryStation$Lot" "mix" "LCherryStation$Mix;" ∈ wsX3_copyFrom := List.mem_of_getElem? (i := 1) rfl
theorem qX3_copyFrom_w2 : Cond.fieldLink RX3 26 "CherryStation$Lot" "method" "I" ∈ wsX3_copyFrom := List.mem_of_getElem? (i := 2) rfl
theorem qX3_copyFrom_w3 : Cond.fieldLink RX3 30 "CherryStation$Lot" "points" "I" ∈ wsX3_copyFrom := List.mem_of_getElem? (i := 3) rfl
theorem qX3_copyFrom_w4 : Cond.fieldLink RX3 33 "CherryStation$Lot" "mould" "I" ∈ wsX3_copyFrom := List.mem_of_getElem? (i := 4) rfl
theorem qX3_copyFrom_w5 : Cond.fieldLink RX3 36 "CherryStation$Lot" "moisture" "I" ∈ wsX3_copyFrom := List.mem_of_getElem? (i := 5) rfl
theorem qX3_copyFrom_w6 : Cond.fieldLink RX3 39 "CherryStation$Lot" "age" "I" ∈ wsX3_copyFrom := List.mem_of_getElem? (i := 6) rfl
theorem iX3_copyFrom_X3 : ∀ w ∈ wsX30, w ∈ wsX3_copyFrom := fun _ h => (List.mem_cons_of_mem _ (List.mem_append_left _ (List.mem_append_right _ h)))
set_option maxRecDepth 100000 in
set_option maxHeartbeats 4000000 in
theorem kX3_copyFrom (l : Launch) (D : va_G) (cy : Nat → ClassId) {ad : Nat → Nat → Nat} (hI : cI ad) (g : Gd) (sz : Nat) (i : Nat) (hrow_i : i < 13) (o : Nat) (hrow_o : o < 13) (hne : ¬ i = o) : Met l yX3_copyFrom wsX3_copyFrom ({ frames := 2, cells := 0, slots := 0, locals := 46 } : Room) (va_Pc [.ref (ad 5 i), .ref (ad 5 o)] (cPre D cy ad g sz)) (cQv D cy ad (fX3_copyFrom g i o) sz) 0 0 (cA ad sz) := by
  refine q_start (cc := cX3_copyFrom) (maxL := 2) (ret := none) (own := RX3) (by decide) rfl rfl (Nat.le_of_ble_eq_true rfl) ?_
  intro p e s m below meth c hx hb hr hml hts hown hlocks ⟨hsz, hC, hB⟩ ls hl
  subst hsz
  have hS : va_S (cA ad s.heap.size) s.heap s.heap [] := va_S.rf
  have hA : ∀ κ i : Nat, cV κ i → cA ad s.heap.size (ad κ i) := fun κ i h => Or.inl ⟨κ, i, h, rfl⟩
  have hl : lv_has ls 2 [(0, .ref (ad 5 i)), (1, .ref (ad 5 o))] := hl
  refine lv_aload_n hx hb dX3_copyFrom_0 rfl (lv_at hl 0 rfl) ?_
  refine gt_5_0 hx hb hts iX3_copyFrom_X3 hown hB.1 hC hrow_i qX3_copyFrom_w1 dX3_copyFrom_1 ?_
  refine q_callVv (As := []) (κ := 6) (i := 8 + i) (show (8 + i) < 21 from (by omega)) rfl ⟨_, rfl⟩ rfl ⟨hx, hb, hml, hown, hts⟩ (kX4_clear l D cy hI g _ (8 + i) (by omega)  ) (cwV 0 hts gX3_copyFrom_X4_clear rfl rfl rfl (by decide +kernel) ⟨Nat.le_of_ble_eq_true rfl, Nat.le_of_ble_eq_true rfl⟩) hB hC hS rfl hl.1 (Nat.le_of_ble_eq_true rfl) dX3_copyFrom_4 ⟨Nat.le_of_ble_eq_true rfl, Nat.le_of_ble_eq_true rfl⟩ (fun H locs hC hS => ?_)
  refine lv_aload_n hx hb dX3_copyFrom_7 rfl (lv_at hl 0 rfl) ?_
  refine gt_5_0 hx hb hts iX3_copyFrom_X3 hown hB.1 hC hrow_i qX3_copyFrom_w1 dX3_copyFrom_8 ?_
  refine lv_aload_n hx hb dX3_copyFrom_11 rfl (lv_at hl 1 rfl) ?_
  refine gt_5_0 hx hb hts iX3_copyFrom_X3 hown hB.1 hC hrow_o qX3_copyFrom_w1 dX3_copyFrom_12 ?_
  refine q_callVv (As := [.ref (ad 6 (8 + o))]) (κ := 6) (i := 8 + i) (show (8 + i) < 21 from (by omega)) rfl ⟨_, rfl⟩ rfl ⟨hx, hb, hml, hown, hts⟩ (kX4_addMix l D cy hI (fX4_clear g (8 + i)) _ (8 + i) (by omega) (8 + o) (by omega)  (by omega)) (cwV 1 hts gX3_copyFrom_X4_addMix rfl rfl rfl (by decide +kernel) ⟨Nat.le_of_ble_eq_true rfl, Nat.le_of_ble_eq_true rfl⟩) hB hC hS rfl hl.1 (Nat.le_of_ble_eq_true rfl) dX3_copyFrom_15 ⟨Nat.le_of_ble_eq_true rfl, Nat.le_of_ble_eq_true rfl⟩ (fun H locs hC hS => ?_)
  refine lv_aload_n hx hb dX3_copyFrom_18 rfl (lv_at hl 0 rfl) ?_
  refine lv_aload_n hx hb dX3_copyFrom_19 rfl (lv_at hl 1 rfl) ?_
  refine gt_5_3 hx hb hts iX3_copyFrom_X3 hown hB.1 hC hrow_o qX3_copyFrom_w2 dX3_copyFrom_20 ?_
  refine pt_5_3 hx hb hts iX3_copyFrom_X3 hown hB.1 hC hI hS hA hrow_i qX3_copyFrom_w2 dX3_copyFrom_23 (fun H locs hC hS => ?_)
  refine lv_aload_n hx hb dX3_copyFrom_26 rfl (lv_at hl 0 rfl) ?_
  refine lv_aload_n hx hb dX3_copyFrom_27 rfl (lv_at hl 1 rfl) ?_
  refine gt_5_4 hx hb hts iX3_copyFrom_X3 hown hB.1 hC hrow_o qX3_copyFrom_w3 dX3_copyFrom_28 ?_
  refine q_val (v := (fX4_addMix (fX4_clear g (8 + i)) (8 + i) (8 + o)) 3 (8 + o) 3) ((up_nk (by decide)).trans rfl) ?_
  refine pt_5_4 hx hb hts iX3_copyFrom_X3 hown hB.1 hC hI hS hA hrow_i qX3_copyFrom_w3 dX3_copyFrom_31 (fun H locs hC hS => ?_)
  refine lv_aload_n hx hb dX3_copyFrom_34 rfl (lv_at hl 0 rfl) ?_
  refine lv_aload_n hx hb dX3_copyFrom_35 rfl (lv_at hl 1 rfl) ?_
  refine gt_5_5 hx hb hts iX3_copyFrom_X3 hown hB.1 hC hrow_o qX3_copyFrom_w4 dX3_copyFrom_36 ?_
  refine q_val (v := (fX4_addMix (fX4_clear g (8 + i)) (8 + i) (8 + o)) 3 (8 + o) 7) ((up_nk (by decide)).trans ((up_nk (by decide)).trans rfl)) ?_
  refine pt_5_5 hx hb hts iX3_copyFrom_X3 hown hB.1 hC hI hS hA hrow_i qX3_copyFrom_w4 dX3_copyFrom_39 (fun H locs hC hS => ?_)
  refine lv_aload_n hx hb dX3_copyFrom_42 rfl (lv_at hl 0 rfl) ?_
  refine lv_aload_n hx hb dX3_copyFrom_43 rfl (lv_at hl 1 rfl) ?_
  refine gt_5_6 hx hb hts iX3_copyFrom_X3 hown hB.1 hC hrow_o qX3_copyFrom_w5 dX3_copyFrom_44 ?_
  refine q_val (v := (fX4_addMix (fX4_clear g (8 + i)) (8 + i) (8 + o)) 3 (8 + o) 5) ((up_nk (by decide)).trans ((up_nk (by decide)).trans ((up_nk (by decide)).trans rfl))) ?_
  refine pt_5_6 hx hb hts iX3_copyFrom_X3 hown hB.1 hC hI hS hA hrow_i qX3_copyFrom_w5 dX3_copyFrom_47 (fun H locs hC hS => ?_)
  refine lv_aload_n hx hb dX3_copyFrom_50 rfl (lv_at hl 0 rfl) ?_
  refine lv_aload_n hx hb dX3_copyFrom_51 rfl (lv_at hl 1 rfl) ?_
  refine gt_5_7 hx hb hts iX3_copyFrom_X3 hown hB.1 hC hrow_o qX3_copyFrom_w6 dX3_copyFrom_52 ?_
  refine q_val (v := (fX4_addMix (fX4_clear g (8 + i)) (8 + i) (8 + o)) 3 (8 + o) 2) ((up_nk (by decide)).trans ((up_nk (by decide)).trans ((up_nk (by decide)).trans ((up_nk (by decide)).trans rfl)))) ?_
  refine pt_5_7 hx hb hts iX3_copyFrom_X3 hown hB.1 hC hI hS hA hrow_i qX3_copyFrom_w6 dX3_copyFrom_55 (fun H locs hC hS => ?_)
  exact q_retv hx hb hr hB hC hS rfl hlocks dX3_copyFrom_58
def fX3_fillFrom (g : Gd) (i : Nat) (b : Nat) : Gd := (up (up (up (up (up (up (up (up (up (up (up (up (up (up (up (up (up (up (up g 4 (8 + i) 0 (fX1_keptOf (g 3 (3 + b) 4) (g 4 (3 + b) 0))) 5 (8 + i) 0 (fX1_keptOf (g 3 (3 + b) 4) (g 5 (3 + b) 0))) 4 (8 + i) 1 (fX1_keptOf (g 3 (3 + b) 4) (g 4 (3 + b) 1))) 5 (8 + i) 1 (fX1_keptOf (g 3 (3 + b) 4) (g 5 (3 + b) 1))) 4 (8 + i) 2 (fX1_keptOf (g 3 (3 + b) 4) (g 4 (3 + b) 2))) 5 (8 + i) 2 (fX1_keptOf (g 3 (3 + b) 4) (g 5 (3 + b) 2))) 4 (8 + i) 3 (fX1_keptOf (g 3 (3 + b) 4) (g 4 (3 + b) 3))) 5 (8 + i) 3 (fX1_keptOf (g 3 (3 + b) 4) (g 5 (3 + b) 3))) 4 (8 + i) 4 (fX1_keptOf (g 3 (3 + b) 4) (g 4 (3 + b) 4))) 5 (8 + i) 4 (fX1_keptOf (g 3 (3 + b) 4) (g 5 (3 + b) 4))) 4 (8 + i) 5 (fX1_keptOf (g 3 (3 + b) 4) (g 4 (3 + b) 5))) 5 (8 + i) 5 (fX1_keptOf (g 3 (3 + b) 4) (g 5 (3 + b) 5))) 3 (8 + i) 0 (fX1_keptKilos (g 3 (3 + b) 4) (g 4 (3 + b) 0) (g 4 (3 + b) 1) (g 4 (3 + b) 2) (g 4 (3 + b) 3) (g 4 (3 + b) 4) (g 4 (3 + b) 5))) 3 (8 + i) 1 (g 3 (3 + b) 1)) 3 (8 + i) 4 (g 3 (3 + b) 4)) 3 (8 + i) 3 (g 3 (3 + b) 3)) 3 (8 + i) 7 (g 3 (3 + b) 7)) 3 (8 + i) 5 (g 3 (3 + b) 5)) 3 (8 + i) 10 1)
theorem qX3_fillFrom_w1 : Cond.fieldLink RX3 12 "CherryStation$Lot" "mix" "LCherryStation$Mix;" ∈ wsX3_fillFrom := List.mem_of_getElem? (i := 1) rfl
theorem qX3_fillFrom_w2 : Cond.fieldLink RX3 42 "CherryStation$Mix" "kilosBy" "[I" ∈ wsX3_fillFrom := List.mem_of_getElem? (i := 2) rfl
theorem qX3_fillFrom_w3 : Cond.fieldLink RX3 45 "CherryStation$Bed" "mix" "LCherryStation$Mix;" ∈ wsX3_fillFrom := List.mem_of_getElem? (i := 3) rfl
theorem qX3_fillFrom_w4 : Cond.fieldLink RX3 52 "CherryStation$Mix" "certifiedBy" "[I" ∈ wsX3_fillFrom := List.mem_of_getElem? (i := 4) rfl
theorem qX3_fillFrom_w5 : Cond.fieldLink RX3 59 "CherryStation$Mix" "kilos" "I" ∈ wsX3_fillFrom := List.mem_of_getElem? (i := 5) rfl
theorem qX3_fillFrom_w6 : Cond.fieldLink RX3 62 "CherryStation$Mix" "ripe" "I" ∈ wsX3_fillFrom := List.mem_of_getElem? (i := 6) rfl
theorem qX3_fillFrom_w7 : Cond.fieldLink RX3 65 "CherryStation$Bed" "method" "I" ∈ wsX3_fillFrom := List.mem_of_getElem? (i := 7) rfl
theorem qX3_fillFrom_w8 : Cond.fieldLink RX3 26 "CherryStation$Lot" "method" "I" ∈ wsX3_fillFrom := List.mem_of_getElem? (i := 8) rfl
theorem qX3_fillFrom_w9 : Cond.fieldLink RX3 66 "CherryStation$Bed" "points" "I" ∈ wsX3_fillFrom := List.mem_of_getElem? (i := 9) rfl
theorem qX3_fillFrom_w10 : Cond.fieldLink RX3 30 "CherryStation$Lot" "points" "I" ∈ wsX3_fillFrom := List.mem_of_getElem? (i := 10) rfl
theorem qX3_fillFrom_w11 : Cond.fieldLink RX3 67 "CherryStation$Bed" "mould" "I" ∈ wsX3_fillFrom := List.mem_of_getElem? (i := 11) rfl
theorem qX3_fillFrom_w12 : Cond.fieldLink RX3 33 "CherryStation$Lot" "mould" "I" ∈ wsX3_fillFrom := List.mem_of_getElem? (i := 12) rfl
theorem qX3_fillFrom_w13 : Cond.fieldLink RX3 68 "CherryStation$Bed" "moisture" "I" ∈ wsX3_fillFrom := List.mem_of_getElem? (i := 13) rfl
theorem qX3_fillFrom_w14 : Cond.fieldLink RX3 36 "CherryStation$Lot" "moisture" "I" ∈ wsX3_fillFrom := List.mem_of_getElem? (i := 14) rfl
theorem qX3_fillFrom_w15 : Cond.fieldLink RX3 22 "CherryStation$Lot" "isInStore" "Z" ∈ wsX3_fillFrom := List.mem_of_getElem? (i := 15) rfl
theorem iX3_fillFrom_X1 : ∀ w ∈ wsX10, w ∈ wsX3_fillFrom := fun _ h => (List.mem_cons_of_mem _ (List.mem_append_right _ h))
theorem iX3_fillFrom_X3 : ∀ w ∈ wsX30, w ∈ wsX3_fillFrom := fun _ h => (List.mem_cons_of_mem _ (List.mem_append_left _ (List.mem_append_left _ (List.mem_append_right _ h))))
theorem iX3_fillFrom_X4 : ∀ w ∈ wsX40, w ∈ wsX3_fillFrom := fun _ h => (List.mem_cons_of_mem _ (List.mem_append_left _ (List.mem_append_right _ h)))
set_option maxRecDepth 100000 in
set_option maxHeartbeats 4000000 in
theorem kX3_fillFrom (l : Launch) (D : va_G) (cy : Nat → ClassId) {ad : Nat → Nat → Nat} (hI : cI ad) (g : Gd) (sz : Nat) (i : Nat) (hrow_i : i < 13) (b : Nat) (hrow_b : b < 5) : Met l yX3_fillFrom wsX3_fillFrom ({ frames := 2, cells := 0, slots := 0, locals := 43 } : Room) (va_Pc [.ref (ad 5 i), .ref (ad 4 b)] (cPre D cy ad g sz)) (cQv D cy ad (fX3_fillFrom g i b) sz) 0 0 (cA ad sz) := by
  refine q_start (cc := cX3_fillFrom) (maxL := 3) (ret := none) (own := RX3) (by decide) rfl rfl (Nat.le_of_ble_eq_true rfl) ?_
  intro p e s m below meth c hx hb hr hml hts hown hlocks ⟨hsz, hC, hB⟩ ls hl
  subst hsz
  have hS : va_S (cA ad s.heap.size) s.heap s.heap [] := va_S.rf
  have hA : ∀ κ i : Nat, cV κ i → cA ad s.heap.size (ad κ i) := fun κ i h => Or.inl ⟨κ, i, h, rfl⟩
  have hl : lv_has ls 3 [(0, .ref (ad 5 i)), (1, .ref (ad 4 b))] := hl
  refine lv_iconst (v := 0) hx hb dX3_fillFrom_0 (by decide) ?_
  refine lv_istore_n (lv' := [(2, .int 0), (0, .ref (ad 5 i)), (1, .ref (ad 4 b))]) hx hb dX3_fillFrom_1 rfl hl (by decide) rfl (fun ls hl => ?_)
  refine lv_iload_n hx hb dX3_fillFrom_2 rfl (lv_at hl 0 rfl) ?_
  refine lv_bipush (v := 6) hx hb dX3_fillFrom_3 (by decide) ?_
  refine lv_icmp_ge (tgt := 58) hx hb dX3_fillFrom_5 (by decide) (fun c => absurd c (by decide)) (fun _ => ?_)
  refine lv_aload_n hx hb dX3_fillFrom_8 rfl (lv_at hl 1 rfl) ?_
  refine gt_5_0 hx hb hts iX3_fillFrom_X3 hown hB.1 hC hrow_i qX3_fillFrom_w1 dX3_fillFrom_9 ?_
  refine gt_6_0 hx hb hts iX3_fillFrom_X4 hown hB.1 hC (by omega) qX3_fillFrom_w2 dX3_fillFrom_12 ?_
  refine lv_iload_n hx hb dX3_fillFrom_15 rfl (lv_at hl 0 rfl) ?_
  refine lv_aload_n hx hb dX3_fillFrom_16 rfl (lv_at hl 2 rfl) ?_
  refine lv_aload_n hx hb dX3_fillFrom_17 rfl (lv_at hl 2 rfl) ?_
  refine gt_4_0 hx hb hts iX3_fillFrom_X1 hown hB.1 hC hrow_b qX3_fillFrom_w3 dX3_fillFrom_18 ?_
  refine gt_6_0 hx hb hts iX3_fillFrom_X4 hown hB.1 hC (by omega) qX3_fillFrom_w2 dX3_fillFrom_21 ?_
  refine lv_iload_n hx hb dX3_fillFrom_24 rfl (lv_at hl 0 rfl) ?_
  refine ld_7 hx hb hB.1 hC (by omega) (k := 0) (by decide) (by unfold vp_in; decide) dX3_fillFrom_25 ?_
  refine q_callVi (As := [.int (g 4 (3 + b) 0)]) (κ := 4) (i := b) (show b < 5 from hrow_b) rfl ⟨_, rfl⟩ rfl ⟨hx, hb, hml, hown, hts⟩ (kX1_keptOf l D cy hI g _ b hrow_b (g 4 (3 + b) 0) ) (cwV 1 hts gX3_fillFrom_X1_keptOf rfl rfl rfl (by decide +kernel) ⟨Nat.le_of_ble_eq_true rfl, Nat.le_of_ble_eq_true rfl⟩) hB hC hS rfl hl.1 (Nat.le_of_ble_eq_true rfl) dX3_fillFrom_26 ⟨Nat.le_of_ble_eq_true rfl, Nat.le_of_ble_eq_true rfl⟩ (fun H locs hC hS => ?_)
  refine st_7 hx hb hB.1 hC hI hS hA (by omega) (k := 0) (by decide) (by unfold vp_in; decide) dX3_fillFrom_29 (fun H locs hC hS => ?_)
  refine lv_aload_n hx hb dX3_fillFrom_30 rfl (lv_at hl 1 rfl) ?_
  refine gt_5_0 hx hb hts iX3_fillFrom_X3 hown hB.1 hC hrow_i qX3_fillFrom_w1 dX3_fillFrom_31 ?_
  refine gt_6_1 hx hb hts iX3_fillFrom_X4 hown hB.1 hC (by omega) qX3_fillFrom_w4 dX3_fillFrom_34 ?_
  refine lv_iload_n hx hb dX3_fillFrom_37 rfl (lv_at hl 0 rfl) ?_
  refine lv_aload_n hx hb dX3_fillFrom_38 rfl (lv_at hl 2 rfl) ?_
  refine lv_aload_n hx hb dX3_fillFrom_39 rfl (lv_at hl 2 rfl) ?_
  refine gt_4_0 hx hb hts iX3_fillFrom_X1 hown hB.1 hC hrow_b qX3_fillFrom_w3 dX3_fillFrom_40 ?_
  refine gt_6_1 hx hb hts iX3_fillFrom_X4 hown hB.1 hC (by omega) qX3_fillFrom_w4 dX3_fillFrom_43 ?_
  refine lv_iload_n hx hb dX3_fillFrom_46 rfl (lv_at hl 0 rfl) ?_
  refine ld_8 hx hb hB.1 hC (by omega) (k := 0) (by decide) (by unfold vp_in; decide) dX3_fillFrom_47 ?_
  refine q_val (v := g 5 (3 + b) 0) ((up_nt (by decide)).trans rfl) ?_
  refine q_callVi (As := [.int (g 5 (3 + b) 0)]) (κ := 4) (i := b) (show b < 5 from hrow_b) rfl ⟨_, rfl⟩ rfl ⟨hx, hb, hml, hown, hts⟩ (kX1_keptOf l D cy hI (up g 4 (8 + i) 0 (fX1_keptOf (g 3 (3 + b) 4) (g 4 (3 + b) 0))) _ b hrow_b (g 5 (3 + b) 0) ) (cwV 1 hts gX3_fillFrom_X1_keptOf rfl rfl rfl (by decide +kernel) ⟨Nat.le_of_ble_eq_true rfl, Nat.le_of_ble_eq_true rfl⟩) hB hC hS rfl hl.1 (Nat.le_of_ble_eq_true rfl) dX3_fillFrom_48 ⟨Nat.le_of_ble_eq_true rfl, Nat.le_of_ble_eq_true rfl⟩ (fun H locs hC hS => ?_)
  refine q_val (v := fX1_keptOf (g 3 (3 + b) 4) (g 5 (3 + b) 0)) (by rw [(show (up g 4 (8 + i) 0 (fX1_keptOf (g 3 (3 + b) 4) (g 4 (3 + b) 0))) 3 (3 + b) 4 = g 3 (3 + b) 4 from ((up_nt (by decide)).trans rfl))]) ?_
  refine st_8 hx hb hB.1 hC hI hS hA (by omega) (k := 0) (by decide) (by unfold vp_in; decide) dX3_fillFrom_51 (fun H locs hC hS => ?_)
  refine lv_iinc (v := 1) (lv' := [(2, .int 1), (0, .ref (ad 5 i)), (1, .ref (ad 4 b))]) hx hb dX3_fillFrom_52 hl (k := 0) rfl (by decide) (by decide) rfl (fun ls hl => ?_)
  refine lv_goto (tgt := 2) hx hb dX3_fillFrom_55 (by decide) ?_
  refine lv_iload_n hx hb dX3_fillFrom_2 rfl (lv_at hl 0 rfl) ?_
  refine lv_bipush (v := 6) hx hb dX3_fillFrom_3 (by decide) ?_
  refine lv_icmp_ge (tgt := 58) hx hb dX3_fillFrom_5 (by decide) (fun c => absurd c (by decide)) (fun _ => ?_)
  refine lv_aload_n hx hb dX3_fillFrom_8 rfl (lv_at hl 1 rfl) ?_
  refine gt_5_0 hx hb hts iX3_fillFrom_X3 hown hB.1 hC hrow_i qX3_fillFrom_w1 dX3_fillFrom_9 ?_
  refine gt_6_0 hx hb hts iX3_fillFrom_X4 hown hB.1 hC (by omega) qX3_fillFrom_w2 dX3_fillFrom_12 ?_
  refine lv_iload_n hx hb dX3_fillFrom_15 rfl (lv_at hl 0 rfl) ?_
  refine lv_aload_n hx hb dX3_fillFrom_16 rfl (lv_at hl 2 rfl) ?_
  refine lv_aload_n hx hb dX3_fillFrom_17 rfl (lv_at hl 2 rfl) ?_
  refine gt_4_0 hx hb hts iX3_fillFrom_X1 hown hB.1 hC hrow_b qX3_fillFrom_w3 dX3_fillFrom_18 ?_
  refine gt_6_0 hx hb hts iX3_fillFrom_X4 hown hB.1 hC (by omega) qX3_fillFrom_w2 dX3_fillFrom_21 ?_
  refine lv_iload_n hx hb dX3_fillFrom_24 rfl (lv_at hl 0 rfl) ?_
  refine ld_7 hx hb hB.1 hC (by omega) (k := 1) (by decide) (by unfold vp_in; decide) dX3_fillFrom_25 ?_
  refine q_val (v := g 4 (3 + b) 1) ((up_nt (by decide)).trans ((up_nk (by decide)).trans rfl)) ?_
  refine q_callVi (As := [.int (g 4 (3 + b) 1)]) (κ := 4) (i := b) (show b < 5 from hrow_b) rfl ⟨_, rfl⟩ rfl ⟨hx, hb, hml, hown, hts⟩ (kX1_keptOf l D cy hI (up (up g 4 (8 + i) 0 (fX1_keptOf (g 3 (3 + b) 4) (g 4 (3 + b) 0))) 5 (8 + i) 0 (fX1_keptOf (g 3 (3 + b) 4) (g 5 (3 + b) 0))) _ b hrow_b (g 4 (3 + b) 1) ) (cwV 1 hts gX3_fillFrom_X1_keptOf rfl rfl rfl (by decide +kernel) ⟨Nat.le_of_ble_eq_true rfl, Nat.le_of_ble_eq_true rfl⟩) hB hC hS rfl hl.1 (Nat.le_of_ble_eq_true rfl) dX3_fillFrom_26 ⟨Nat.le_of_ble_eq_true rfl, Nat.le_of_ble_eq_true rfl⟩ (fun H locs hC hS => ?_)
  refine q_val (v := fX1_keptOf (g 3 (3 + b) 4) (g 4 (3 + b) 1)) (by rw [(show (up (up g 4 (8 + i) 0 (fX1_keptOf (g 3 (3 + b) 4) (g 4 (3 + b) 0))) 5 (8 + i) 0 (fX1_keptOf (g 3 (3 + b) 4) (g 5 (3 + b) 0))) 3 (3 + b) 4 = g 3 (3 + b) 4 from ((up_nt (by decide)).trans ((up_nt (by decide)).trans rfl)))]) ?_
  refine st_7 hx hb hB.1 hC hI hS hA (by omega) (k := 1) (by decide) (by unfold vp_in; decide) dX3_fillFrom_29 (fun H locs hC hS => ?_)
  refine lv_aload_n hx hb dX3_fillFrom_30 rfl (lv_at hl 1 rfl) ?_
  refine gt_5_0 hx hb hts iX3_fillFrom_X3 hown hB.1 hC hrow_i qX3_fillFrom_w1 dX3_fillFrom_31 ?_
  refine gt_6_1 hx hb hts iX3_fillFrom_X4 hown hB.1 hC (by omega) qX3_fillFrom_w4 dX3_fillFrom_34 ?_
  refine lv_iload_n hx hb dX3_fillFrom_37 rfl (lv_at hl 0 rfl) ?_
  refine lv_aload_n hx hb dX3_fillFrom_38 rfl (lv_at hl 2 rfl) ?_
  refine lv_aload_n hx hb dX3_fillFrom_39 rfl (lv_at hl 2 rfl) ?_
  refine gt_4_0 hx hb hts iX3_fillFrom_X1 hown hB.1 hC hrow_b qX3_fillFrom_w3 dX3_fillFrom_40 ?_
  refine gt_6_1 hx hb hts iX3_fillFrom_X4 hown hB.1 hC (by omega) qX3_fillFrom_w4 dX3_fillFrom_43 ?_
  refine lv_iload_n hx hb dX3_fillFrom_46 rfl (lv_at hl 0 rfl) ?_
  refine ld_8 hx hb hB.1 hC (by omega) (k := 1) (by decide) (by unfold vp_in; decide) dX3_fillFrom_47 ?_
  refine q_val (v := g 5 (3 + b) 1) ((up_nt (by decide)).trans ((up_nk (by decide)).trans ((up_nt (by decide)).trans rfl))) ?_
  refine q_callVi (As := [.int (g 5 (3 + b) 1)]) (κ := 4) (i := b) (show b < 5 from hrow_b) rfl ⟨_, rfl⟩ rfl ⟨hx, hb, hml, hown, hts⟩ (kX1_keptOf l D cy hI (up (up (up g 4 (8 + i) 0 (fX1_keptOf (g 3 (3 + b) 4) (g 4 (3 + b) 0))) 5 (8 + i) 0 (fX1_keptOf (g 3 (3 + b) 4) (g 5 (3 + b) 0))) 4 (8 + i) 1 (fX1_keptOf (g 3 (3 + b) 4) (g 4 (3 + b) 1))) _ b hrow_b (g 5 (3 + b) 1) ) (cwV 1 hts gX3_fillFrom_X1_keptOf rfl rfl rfl (by decide +kernel) ⟨Nat.le_of_ble_eq_true rfl, Nat.le_of_ble_eq_true rfl⟩) hB hC hS rfl hl.1 (Nat.le_of_ble_eq_true rfl) dX3_fillFrom_48 ⟨Nat.le_of_ble_eq_true rfl, Nat.le_of_ble_eq_true rfl⟩ (fun H locs hC hS => ?_)
  refine q_val (v := fX1_keptOf (g 3 (3 + b) 4) (g 5 (3 + b) 1)) (by rw [(show (up (up (up g 4 (8 + i) 0 (fX1_keptOf (g 3 (3 + b) 4) (g 4 (3 + b) 0))) 5 (8 + i) 0 (fX1_keptOf (g 3 (3 + b) 4) (g 5 (3 + b) 0))) 4 (8 + i) 1 (fX1_keptOf (g 3 (3 + b) 4) (g 4 (3 + b) 1))) 3 (3 + b) 4 = g 3 (3 + b) 4 from ((up_nt (by decide)).trans ((up_nt (by decide)).trans ((up_nt (by decide)).trans rfl))))]) ?_
  refine st_8 hx hb hB.1 hC hI hS hA (by omega) (k := 1) (by decide) (by unfold vp_in; decide) dX3_fillFrom_51 (fun H locs hC hS => ?_)
  refine lv_iinc (v := 2) (lv' := [(2, .int 2), (0, .ref (ad 5 i)), (1, .ref (ad 4 b))]) hx hb dX3_fillFrom_52 hl (k := 0) rfl (by decide) (by decide) rfl (fun ls hl => ?_)
  refine lv_goto (tgt := 2) hx hb dX3_fillFrom_55 (by decide) ?_
  refine lv_iload_n hx hb dX3_fillFrom_2 rfl (lv_at hl 0 rfl) ?_
  refine lv_bipush (v := 6) hx hb dX3_fillFrom_3 (by decide) ?_
  refine lv_icmp_ge (tgt := 58) hx hb dX3_fillFrom_5 (by decide) (fun c => absurd c (by decide)) (fun _ => ?_)
  refine lv_aload_n hx hb dX3_fillFrom_8 rfl (lv_at hl 1 rfl) ?_
  refine gt_5_0 hx hb hts iX3_fillFrom_X3 hown hB.1 hC hrow_i qX3_fillFrom_w1 dX3_fillFrom_9 ?_
  refine gt_6_0 hx hb hts iX3_fillFrom_X4 hown hB.1 hC (by omega) qX3_fillFrom_w2 dX3_fillFrom_12 ?_
  refine lv_iload_n hx hb dX3_fillFrom_15 rfl (lv_at hl 0 rfl) ?_
  refine lv_aload_n hx hb dX3_fillFrom_16 rfl (lv_at hl 2 rfl) ?_
  refine lv_aload_n hx hb dX3_fillFrom_17 rfl (lv_at hl 2 rfl) ?_
  refine gt_4_0 hx hb hts iX3_fillFrom_X1 hown hB.1 hC hrow_b qX3_fillFrom_w3 dX3_fillFrom_18 ?_
  refine gt_6_0 hx hb hts iX3_fillFrom_X4 hown hB.1 hC (by omega) qX3_fillFrom_w2 dX3_fillFrom_21 ?_
  refine lv_iload_n hx hb dX3_fillFrom_24 rfl (lv_at hl 0 rfl) ?_
  refine ld_7 hx hb hB.1 hC (by omega) (k := 2) (by decide) (by unfold vp_in; decide) dX3_fillFrom_25 ?_
  refine q_val (v := g 4 (3 + b) 2) ((up_nt (by decide)).trans ((up_nk (by decide)).trans ((up_nt (by decide)).trans ((up_nk (by decide)).trans rfl)))) ?_
  refine q_callVi (As := [.int (g 4 (3 + b) 2)]) (κ := 4) (i := b) (show b < 5 from hrow_b) rfl ⟨_, rfl⟩ rfl ⟨hx, hb, hml, hown, hts⟩ (kX1_keptOf l D cy hI (up (up (up (up g 4 (8 + i) 0 (fX1_keptOf (g 3 (3 + b) 4) (g 4 (3 + b) 0))) 5 (8 + i) 0 (fX1_keptOf (g 3 (3 + b) 4) (g 5 (3 + b) 0))) 4 (8 + i) 1 (fX1_keptOf (g 3 (3 + b) 4) (g 4 (3 + b) 1))) 5 (8 + i) 1 (fX1_keptOf (g 3 (3 + b) 4) (g 5 (3 + b) 1))) _ b hrow_b (g 4 (3 + b) 2) ) (cwV 1 hts gX3_fillFrom_X1_keptOf rfl rfl rfl (by decide +kernel) ⟨Nat.le_of_ble_eq_true rfl, Nat.le_of_ble_eq_true rfl⟩) hB hC hS rfl hl.1 (Nat.le_of_ble_eq_true rfl) dX3_fillFrom_26 ⟨Nat.le_of_ble_eq_true rfl, Nat.le_of_ble_eq_true rfl⟩ (fun H locs hC hS => ?_)
  refine q_val (v := fX1_keptOf (g 3 (3 + b) 4) (g 4 (3 + b) 2)) (by rw [(show (up (up (up (up g 4 (8 + i) 0 (fX1_keptOf (g 3 (3 + b) 4) (g 4 (3 + b) 0))) 5 (8 + i) 0 (fX1_keptOf (g 3 (3 + b) 4) (g 5 (3 + b) 0))) 4 (8 + i) 1 (fX1_keptOf (g 3 (3 + b) 4) (g 4 (3 + b) 1))) 5 (8 + i) 1 (fX1_keptOf (g 3 (3 + b) 4) (g 5 (3 + b) 1))) 3 (3 + b) 4 = g 3 (3 + b) 4 from ((up_nt (by decide)).trans ((up_nt (by decide)).trans ((up_nt (by decide)).trans ((up_nt (by decide)).trans rfl)))))]) ?_
  refine st_7 hx hb hB.1 hC hI hS hA (by omega) (k := 2) (by decide) (by unfold vp_in; decide) dX3_fillFrom_29 (fun H locs hC hS => ?_)
  refine lv_aload_n hx hb dX3_fillFrom_30 rfl (lv_at hl 1 rfl) ?_
  refine gt_5_0 hx hb hts iX3_fillFrom_X3 hown hB.1 hC hrow_i qX3_fillFrom_w1 dX3_fillFrom_31 ?_
  refine gt_6_1 hx hb hts iX3_fillFrom_X4 hown hB.1 hC (by omega) qX3_fillFrom_w4 dX3_fillFrom_34 ?_
  refine lv_iload_n hx hb dX3_fillFrom_37 rfl (lv_at hl 0 rfl) ?_
  refine lv_aload_n hx hb dX3_fillFrom_38 rfl (lv_at hl 2 rfl) ?_
  refine lv_aload_n hx hb dX3_fillFrom_39 rfl (lv_at hl 2 rfl) ?_
  refine gt_4_0 hx hb hts iX3_fillFrom_X1 hown hB.1 hC hrow_b qX3_fillFrom_w3 dX3_fillFrom_40 ?_
  refine gt_6_1 hx hb hts iX3_fillFrom_X4 hown hB.1 hC (by omega) qX3_fillFrom_w4 dX3_fillFrom_43 ?_
  refine lv_iload_n hx hb dX3_fillFrom_46 rfl (lv_at hl 0 rfl) ?_
  refine ld_8 hx hb hB.1 hC (by omega) (k := 2) (by decide) (by unfold vp_in; decide) dX3_fillFrom_47 ?_
  refine q_val (v := g 5 (3 + b) 2) ((up_nt (by decide)).trans ((up_nk (by decide)).trans ((up_nt (by decide)).trans ((up_nk (by decide)).trans ((up_nt (by decide)).trans rfl))))) ?_
  refine q_callVi (As := [.int (g 5 (3 + b) 2)]) (κ := 4) (i := b) (show b < 5 from hrow_b) rfl ⟨_, rfl⟩ rfl ⟨hx, hb, hml, hown, hts⟩ (kX1_keptOf l D cy hI (up (up (up (up (up g 4 (8 + i) 0 (fX1_keptOf (g 3 (3 + b) 4) (g 4 (3 + b) 0))) 5 (8 + i) 0 (fX1_keptOf (g 3 (3 + b) 4) (g 5 (3 + b) 0))) 4 (8 + i) 1 (fX1_keptOf (g 3 (3 + b) 4) (g 4 (3 + b) 1))) 5 (8 + i) 1 (fX1_keptOf (g 3 (3 + b) 4) (g 5 (3 + b) 1))) 4 (8 + i) 2 (fX1_keptOf (g 3 (3 + b) 4) (g 4 (3 + b) 2))) _ b hrow_b (g 5 (3 + b) 2) ) (cwV 1 hts gX3_fillFrom_X1_keptOf rfl rfl rfl (by decide +kernel) ⟨Nat.le_of_ble_eq_true rfl, Nat.le_of_ble_eq_true rfl⟩) hB hC hS rfl hl.1 (Nat.le_of_ble_eq_true rfl) dX3_fillFrom_48 ⟨Nat.le_of_ble_eq_true rfl, Nat.le_of_ble_eq_true rfl⟩ (fun H locs hC hS => ?_)
  refine q_val (v := fX1_keptOf (g 3 (3 + b) 4) (g 5 (3 + b) 2)) (by rw [(show (up (up (up (up (up g 4 (8 + i) 0 (fX1_keptOf (g 3 (3 + b) 4) (g 4 (3 + b) 0))) 5 (8 + i) 0 (fX1_keptOf (g 3 (3 + b) 4) (g 5 (3 + b) 0))) 4 (8 + i) 1 (fX1_keptOf (g 3 (3 + b) 4) (g 4 (3 + b) 1))) 5 (8 + i) 1 (fX1_keptOf (g 3 (3 + b) 4) (g 5 (3 + b) 1))) 4 (8 + i) 2 (fX1_keptOf (g 3 (3 + b) 4) (g 4 (3 + b) 2))) 3 (3 + b) 4 = g 3 (3 + b) 4 from ((up_nt (by decide)).trans ((up_nt (by decide)).trans ((up_nt (by decide)).trans ((up_nt (by decide)).trans ((up_nt (by decide)).trans rfl))))))]) ?_
  refine st_8 hx hb hB.1 hC hI hS hA (by omega) (k := 2) (by decide) (by unfold vp_in; decide) dX3_fillFrom_51 (fun H locs hC hS => ?_)
  refine lv_iinc (v := 3) (lv' := [(2, .int 3), (0, .ref (ad 5 i)), (1, .ref (ad 4 b))]) hx hb dX3_fillFrom_52 hl (k := 0) rfl (by decide) (by decide) rfl (fun ls hl => ?_)
  refine lv_goto (tgt := 2) hx hb dX3_fillFrom_55 (by decide) ?_
  refine lv_iload_n hx hb dX3_fillFrom_2 rfl (lv_at hl 0 rfl) ?_
  refine lv_bipush (v := 6) hx hb dX3_fillFrom_3 (by decide) ?_
  refine lv_icmp_ge (tgt := 58) hx hb dX3_fillFrom_5 (by decide) (fun c => absurd c (by decide)) (fun _ => ?_)
  refine lv_aload_n hx hb dX3_fillFrom_8 rfl (lv_at hl 1 rfl) ?_
  refine gt_5_0 hx hb hts iX3_fillFrom_X3 hown hB.1 hC hrow_i qX3_fillFrom_w1 dX3_fillFrom_9 ?_
  refine gt_6_0 hx hb hts iX3_fillFrom_X4 hown hB.1 hC (by omega) qX3_fillFrom_w2 dX3_fillFrom_12 ?_
  refine lv_iload_n hx hb dX3_fillFrom_15 rfl (lv_at hl 0 rfl) ?_
  refine lv_aload_n hx hb dX3_fillFrom_16 rfl (lv_at hl 2 rfl) ?_
  refine lv_aload_n hx hb dX3_fillFrom_17 rfl (lv_at hl 2 rfl) ?_
  refine gt_4_0 hx hb hts iX3_fillFrom_X1 hown hB.1 hC hrow_b qX3_fillFrom_w3 dX3_fillFrom_18 ?_
  refine gt_6_0 hx hb hts iX3_fillFrom_X4 hown hB.1 hC (by omega) qX3_fillFrom_w2 dX3_fillFrom_21 ?_
  refine lv_iload_n hx hb dX3_fillFrom_24 rfl (lv_at hl 0 rfl) ?_
  refine ld_7 hx hb hB.1 hC (by omega) (k := 3) (by decide) (by unfold vp_in; decide) dX3_fillFrom_25 ?_
  refine q_val (v := g 4 (3 + b) 3) ((up_nt (by decide)).trans ((up_nk (by decide)).trans ((up_nt (by decide)).trans ((up_nk (by decide)).trans ((up_nt (by decide)).trans ((up_nk (by decide)).trans rfl)))))) ?_
  refine q_callVi (As := [.int (g 4 (3 + b) 3)]) (κ := 4) (i := b) (show b < 5 from hrow_b) rfl ⟨_, rfl⟩ rfl ⟨hx, hb, hml, hown, hts⟩ (kX1_keptOf l D cy hI (up (up (up (up (up (up g 4 (8 + i) 0 (fX1_keptOf (g 3 (3 + b) 4) (g 4 (3 + b) 0))) 5 (8 + i) 0 (fX1_keptOf (g 3 (3 + b) 4) (g 5 (3 + b) 0))) 4 (8 + i) 1 (fX1_keptOf (g 3 (3 + b) 4) (g 4 (3 + b) 1))) 5 (8 + i) 1 (fX1_keptOf (g 3 (3 + b) 4) (g 5 (3 + b) 1))) 4 (8 + i) 2 (fX1_keptOf (g 3 (3 + b) 4) (g 4 (3 + b) 2))) 5 (8 + i) 2 (fX1_keptOf (g 3 (3 + b) 4) (g 5 (3 + b) 2))) _ b hrow_b (g 4 (3 + b) 3) ) (cwV 1 hts gX3_fillFrom_X1_keptOf rfl rfl rfl (by decide +kernel) ⟨Nat.le_of_ble_eq_true rfl, Nat.le_of_ble_eq_true rfl⟩) hB hC hS rfl hl.1 (Nat.le_of_ble_eq_true rfl) dX3_fillFrom_26 ⟨Nat.le_of_ble_eq_true rfl, Nat.le_of_ble_eq_true rfl⟩ (fun H locs hC hS => ?_)
  refine q_val (v := fX1_keptOf (g 3 (3 + b) 4) (g 4 (3 + b) 3)) (by rw [(show (up (up (up (up (up (up g 4 (8 + i) 0 (fX1_keptOf (g 3 (3 + b) 4) (g 4 (3 + b) 0))) 5 (8 + i) 0 (fX1_keptOf (g 3 (3 + b) 4) (g 5 (3 + b) 0))) 4 (8 + i) 1 (fX1_keptOf (g 3 (3 + b) 4) (g 4 (3 + b) 1))) 5 (8 + i) 1 (fX1_keptOf (g 3 (3 + b) 4) (g 5 (3 + b) 1))) 4 (8 + i) 2 (fX1_keptOf (g 3 (3 + b) 4) (g 4 (3 + b) 2))) 5 (8 + i) 2 (fX1_keptOf (g 3 (3 + b) 4) (g 5 (3 + b) 2))) 3 (3 + b) 4 = g 3 (3 + b) 4 from ((up_nt (by decide)).trans ((up_nt (by decide)).trans ((up_nt (by decide)).trans ((up_nt (by decide)).trans ((up_nt (by decide)).trans ((up_nt (by decide)).trans rfl)))))))]) ?_
  refine st_7 hx hb hB.1 hC hI hS hA (by omega) (k := 3) (by decide) (by unfold vp_in; decide) dX3_fillFrom_29 (fun H locs hC hS => ?_)
  refine lv_aload_n hx hb dX3_fillFrom_30 rfl (lv_at hl 1 rfl) ?_
  refine gt_5_0 hx hb hts iX3_fillFrom_X3 hown hB.1 hC hrow_i qX3_fillFrom_w1 dX3_fillFrom_31 ?_
  refine gt_6_1 hx hb hts iX3_fillFrom_X4 hown hB.1 hC (by omega) qX3_fillFrom_w4 dX3_fillFrom_34 ?_
  refine lv_iload_n hx hb dX3_fillFrom_37 rfl (lv_at hl 0 rfl) ?_
  refine lv_aload_n hx hb dX3_fillFrom_38 rfl (lv_at hl 2 rfl) ?_
  refine lv_aload_n hx hb dX3_fillFrom_39 rfl (lv_at hl 2 rfl) ?_
  refine gt_4_0 hx hb hts iX3_fillFrom_X1 hown hB.1 hC hrow_b qX3_fillFrom_w3 dX3_fillFrom_40 ?_
  refine gt_6_1 hx hb hts iX3_fillFrom_X4 hown hB.1 hC (by omega) qX3_fillFrom_w4 dX3_fillFrom_43 ?_
  refine lv_iload_n hx hb dX3_fillFrom_46 rfl (lv_at hl 0 rfl) ?_
  refine ld_8 hx hb hB.1 hC (by omega) (k := 3) (by decide) (by unfold vp_in; decide) dX3_fillFrom_47 ?_
  refine q_val (v := g 5 (3 + b) 3) ((up_nt (by decide)).trans ((up_nk (by decide)).trans ((up_nt (by decide)).trans ((up_nk (by decide)).trans ((up_nt (by decide)).trans ((up_nk (by decide)).trans ((up_nt (by decide)).trans rfl))))))) ?_
  refine q_callVi (As := [.int (g 5 (3 + b) 3)]) (κ := 4) (i := b) (show b < 5 from hrow_b) rfl ⟨_, rfl⟩ rfl ⟨hx, hb, hml, hown, hts⟩ (kX1_keptOf l D cy hI (up (up (up (up (up (up (up g 4 (8 + i) 0 (fX1_keptOf (g 3 (3 + b) 4) (g 4 (3 + b) 0))) 5 (8 + i) 0 (fX1_keptOf (g 3 (3 + b) 4) (g 5 (3 + b) 0))) 4 (8 + i) 1 (fX1_keptOf (g 3 (3 + b) 4) (g 4 (3 + b) 1))) 5 (8 + i) 1 (fX1_keptOf (g 3 (3 + b) 4) (g 5 (3 + b) 1))) 4 (8 + i) 2 (fX1_keptOf (g 3 (3 + b) 4) (g 4 (3 + b) 2))) 5 (8 + i) 2 (fX1_keptOf (g 3 (3 + b) 4) (g 5 (3 + b) 2))) 4 (8 + i) 3 (fX1_keptOf (g 3 (3 + b) 4) (g 4 (3 + b) 3))) _ b hrow_b (g 5 (3 + b) 3) ) (cwV 1 hts gX3_fillFrom_X1_keptOf rfl rfl rfl (by decide +kernel) ⟨Nat.le_of_ble_eq_true rfl, Nat.le_of_ble_eq_true rfl⟩) hB hC hS rfl hl.1 (Nat.le_of_ble_eq_true rfl) dX3_fillFrom_48 ⟨Nat.le_of_ble_eq_true rfl, Nat.le_of_ble_eq_true rfl⟩ (fun H locs hC hS => ?_)
  refine q_val (v := fX1_keptOf (g 3 (3 + b) 4) (g 5 (3 + b) 3)) (by rw [(show (up (up (up (up (up (up (up g 4 (8 + i) 0 (fX1_keptOf (g 3 (3 + b) 4) (g 4 (3 + b) 0))) 5 (8 + i) 0 (fX1_keptOf (g 3 (3 + b) 4) (g 5 (3 + b) 0))) 4 (8 + i) 1 (fX1_keptOf (g 3 (3 + b) 4) (g 4 (3 + b) 1))) 5 (8 + i) 1 (fX1_keptOf (g 3 (3 + b) 4) (g 5 (3 + b) 1))) 4 (8 + i) 2 (fX1_keptOf (g 3 (3 + b) 4) (g 4 (3 + b) 2))) 5 (8 + i) 2 (fX1_keptOf (g 3 (3 + b) 4) (g 5 (3 + b) 2))) 4 (8 + i) 3 (fX1_keptOf (g 3 (3 + b) 4) (g 4 (3 + b) 3))) 3 (3 + b) 4 = g 3 (3 + b) 4 from ((up_nt (by decide)).trans ((up_nt (by decide)).trans ((up_nt (by decide)).trans ((up_nt (by decide)).trans ((up_nt (by decide)).trans ((up_nt (by decide)).trans ((up_nt (by decide)).trans rfl))))))))]) ?_
  refine st_8 hx hb hB.1 hC hI hS hA (by omega) (k := 3) (by decide) (by unfold vp_in; decide) dX3_fillFrom_51 (fun H locs hC hS => ?_)
  refine lv_iinc (v := 4) (lv' := [(2, .int 4), (0, .ref (ad 5 i)), (1, .ref (ad 4 b))]) hx hb dX3_fillFrom_52 hl (k := 0) rfl (by decide) (by decide) rfl (fun ls hl => ?_)
  refine lv_goto (tgt := 2) hx hb dX3_fillFrom_55 (by decide) ?_
  refine lv_iload_n hx hb dX3_fillFrom_2 rfl (lv_at hl 0 rfl) ?_
  refine lv_bipush (v := 6) hx hb dX3_fillFrom_3 (by decide) ?_
  refine lv_icmp_ge (tgt := 58) hx hb dX3_fillFrom_5 (by decide) (fun c => absurd c (by decide)) (fun _ => ?_)
  refine lv_aload_n hx hb dX3_fillFrom_8 rfl (lv_at hl 1 rfl) ?_
  refine gt_5_0 hx hb hts iX3_fillFrom_X3 hown hB.1 hC hrow_i qX3_fillFrom_w1 dX3_fillFrom_9 ?_
  refine gt_6_0 hx hb hts iX3_fillFrom_X4 hown hB.1 hC (by omega) qX3_fillFrom_w2 dX3_fillFrom_12 ?_
  refine lv_iload_n hx hb dX3_fillFrom_15 rfl (lv_at hl 0 rfl) ?_
  refine lv_aload_n hx hb dX3_fillFrom_16 rfl (lv_at hl 2 rfl) ?_
  refine lv_aload_n hx hb dX3_fillFrom_17 rfl (lv_at hl 2 rfl) ?_
  refine gt_4_0 hx hb hts iX3_fillFrom_X1 hown hB.1 hC hrow_b qX3_fillFrom_w3 dX3_fillFrom_18 ?_
  refine gt_6_0 hx hb hts iX3_fillFrom_X4 hown hB.1 hC (by omega) qX3_fillFrom_w2 dX3_fillFrom_21 ?_
  refine lv_iload_n hx hb dX3_fillFrom_24 rfl (lv_at hl 0 rfl) ?_
  refine ld_7 hx hb hB.1 hC (by omega) (k := 4) (by decide) (by unfold vp_in; decide) dX3_fillFrom_25 ?_
  refine q_val (v := g 4 (3 + b) 4) ((up_nt (by decide)).trans ((up_nk (by decide)).trans ((up_nt (by decide)).trans ((up_nk (by decide)).trans ((up_nt (by decide)).trans ((up_nk (by decide)).trans ((up_nt (by decide)).trans ((up_nk (by decide)).trans rfl)))))))) ?_
  refine q_callVi (As := [.int (g 4 (3 + b) 4)]) (κ := 4) (i := b) (show b < 5 from hrow_b) rfl ⟨_, rfl⟩ rfl ⟨hx, hb, hml, hown, hts⟩ (kX1_keptOf l D cy hI (up (up (up (up (up (up (up (up g 4 (8 + i) 0 (fX1_keptOf (g 3 (3 + b) 4) (g 4 (3 + b) 0))) 5 (8 + i) 0 (fX1_keptOf (g 3 (3 + b) 4) (g 5 (3 + b) 0))) 4 (8 + i) 1 (fX1_keptOf (g 3 (3 + b) 4) (g 4 (3 + b) 1))) 5 (8 + i) 1 (fX1_keptOf (g 3 (3 + b) 4) (g 5 (3 + b) 1))) 4 (8 + i) 2 (fX1_keptOf (g 3 (3 + b) 4) (g 4 (3 + b) 2))) 5 (8 + i) 2 (fX1_keptOf (g 3 (3 + b) 4) (g 5 (3 + b) 2))) 4 (8 + i) 3 (fX1_keptOf (g 3 (3 + b) 4) (g 4 (3 + b) 3))) 5 (8 + i) 3 (fX1_keptOf (g 3 (3 + b) 4) (g 5 (3 + b) 3))) _ b hrow_b (g 4 (3 + b) 4) ) (cwV 1 hts gX3_fillFrom_X1_keptOf rfl rfl rfl (by decide +kernel) ⟨Nat.le_of_ble_eq_true rfl, Nat.le_of_ble_eq_true rfl⟩) hB hC hS rfl hl.1 (Nat.le_of_ble_eq_true rfl) dX3_fillFrom_26 ⟨Nat.le_of_ble_eq_true rfl, Nat.le_of_ble_eq_true rfl⟩ (fun H locs hC hS => ?_)
  refine q_val (v := fX1_keptOf (g 3 (3 + b) 4) (g 4 (3 + b) 4)) (by rw [(show (up (up (up (up (up (up (up (up g 4 (8 + i) 0 (fX1_keptOf (g 3 (3 + b) 4) (g 4 (3 + b) 0))) 5 (8 + i) 0 (fX1_keptOf (g 3 (3 + b) 4) (g 5 (3 + b) 0))) 4 (8 + i) 1 (fX1_keptOf (g 3 (3 + b) 4) (g 4 (3 + b) 1))) 5 (8 + i) 1 (fX1_keptOf (g 3 (3 + b) 4) (g 5 (3 + b) 1))) 4 (8 + i) 2 (fX1_keptOf (g 3 (3 + b) 4) (g 4 (3 + b) 2))) 5 (8 + i) 2 (fX1_keptOf (g 3 (3 + b) 4) (g 5 (3 + b) 2))) 4 (8 + i) 3 (fX1_keptOf (g 3 (3 + b) 4) (g 4 (3 + b) 3))) 5 (8 + i) 3 (fX1_keptOf (g 3 (3 + b) 4) (g 5 (3 + b) 3))) 3 (3 + b) 4 = g 3 (3 + b) 4 from ((up_nt (by decide)).trans ((up_nt (by decide)).trans ((up_nt (by decide)).trans ((up_nt (by decide)).trans ((up_nt (by decide)).trans ((up_nt (by decide)).trans ((up_nt (by decide)).trans ((up_nt (by decide)).trans rfl)))))))))]) ?_
  refine st_7 hx hb hB.1 hC hI hS hA (by omega) (k := 4) (by decide) (by unfold vp_in; decide) dX3_fillFrom_29 (fun H locs hC hS => ?_)
  refine lv_aload_n hx hb dX3_fillFrom_30 rfl (lv_at hl 1 rfl) ?_
  refine gt_5_0 hx hb hts iX3_fillFrom_X3 hown hB.1 hC hrow_i qX3_fillFrom_w1 dX3_fillFrom_31 ?_
  refine gt_6_1 hx hb hts iX3_fillFrom_X4 hown hB.1 hC (by omega) qX3_fillFrom_w4 dX3_fillFrom_34 ?_
  refine lv_iload_n hx hb dX3_fillFrom_37 rfl (lv_at hl 0 rfl) ?_
  refine lv_aload_n hx hb dX3_fillFrom_38 rfl (lv_at hl 2 rfl) ?_
  refine lv_aload_n hx hb dX3_fillFrom_39 rfl (lv_at hl 2 rfl) ?_
  refine gt_4_0 hx hb hts iX3_fillFrom_X1 hown hB.1 hC hrow_b qX3_fillFrom_w3 dX3_fillFrom_40 ?_
  refine gt_6_1 hx hb hts iX3_fillFrom_X4 hown hB.1 hC (by omega) qX3_fillFrom_w4 dX3_fillFrom_43 ?_
  refine lv_iload_n hx hb dX3_fillFrom_46 rfl (lv_at hl 0 rfl) ?_
  refine ld_8 hx hb hB.1 hC (by omega) (k := 4) (by decide) (by unfold vp_in; decide) dX3_fillFrom_47 ?_
  refine q_val (v := g 5 (3 + b) 4) ((up_nt (by decide)).trans ((up_nk (by decide)).trans ((up_nt (by decide)).trans ((up_nk (by decide)).trans ((up_nt (by decide)).trans ((up_nk (by decide)).trans ((up_nt (by decide)).trans ((up_nk (by decide)).trans ((up_nt (by decide)).trans rfl))))))))) ?_
  refine q_callVi (As := [.int (g 5 (3 + b) 4)]) (κ := 4) (i := b) (show b < 5 from hrow_b) rfl ⟨_, rfl⟩ rfl ⟨hx, hb, hml, hown, hts⟩ (kX1_keptOf l D cy hI (up (up (up (up (up (up (up (up (up g 4 (8 + i) 0 (fX1_keptOf (g 3 (3 + b) 4) (g 4 (3 + b) 0))) 5 (8 + i) 0 (fX1_keptOf (g 3 (3 + b) 4) (g 5 (3 + b) 0))) 4 (8 + i) 1 (fX1_keptOf (g 3 (3 + b) 4) (g 4 (3 + b) 1))) 5 (8 + i) 1 (fX1_keptOf (g 3 (3 + b) 4) (g 5 (3 + b) 1))) 4 (8 + i) 2 (fX1_keptOf (g 3 (3 + b) 4) (g 4 (3 + b) 2))) 5 (8 + i) 2 (fX1_keptOf (g 3 (3 + b) 4) (g 5 (3 + b) 2))) 4 (8 + i) 3 (fX1_keptOf (g 3 (3 + b) 4) (g 4 (3 + b) 3))) 5 (8 + i) 3 (fX1_keptOf (g 3 (3 + b) 4) (g 5 (3 + b) 3))) 4 (8 + i) 4 (fX1_keptOf (g 3 (3 + b) 4) (g 4 (3 + b) 4))) _ b hrow_b (g 5 (3 + b) 4) ) (cwV 1 hts gX3_fillFrom_X1_keptOf rfl rfl rfl (by decide +kernel) ⟨Nat.le_of_ble_eq_true rfl, Nat.le_of_ble_eq_true rfl⟩) hB hC hS rfl hl.1 (Nat.le_of_ble_eq_true rfl) dX3_fillFrom_48 ⟨Nat.le_of_ble_eq_true rfl, Nat.le_of_ble_eq_true rfl⟩ (fun H locs hC hS => ?_)
  refine q_val (v := fX1_keptOf (g 3 (3 + b) 4) (g 5 (3 + b) 4)) (by rw [(show (up (up (up (up (up (up (up (up (up g 4 (8 + i) 0 (fX1_keptOf (g 3 (3 + b) 4) (g 4 (3 + b) 0))) 5 (8 + i) 0 (fX1_keptOf (g 3 (3 + b) 4) (g 5 (3 + b) 0))) 4 (8 + i) 1 (fX1_keptOf (g 3 (3 + b) 4) (g 4 (3 + b) 1))) 5 (8 + i) 1 (fX1_keptOf (g 3 (3 + b) 4) (g 5 (3 + b) 1))) 4 (8 + i) 2 (fX1_keptOf (g 3 (3 + b) 4) (g 4 (3 + b) 2))) 5 (8 + i) 2 (fX1_keptOf (g 3 (3 + b) 4) (g 5 (3 + b) 2))) 4 (8 + i) 3 (fX1_keptOf (g 3 (3 + b) 4) (g 4 (3 + b) 3))) 5 (8 + i) 3 (fX1_keptOf (g 3 (3 + b) 4) (g 5 (3 + b) 3))) 4 (8 + i) 4 (fX1_keptOf (g 3 (3 + b) 4) (g 4 (3 + b) 4))) 3 (3 + b) 4 = g 3 (3 + b) 4 from ((up_nt (by decide)).trans ((up_nt (by decide)).trans ((up_nt (by decide)).trans ((up_nt (by decide)).trans ((up_nt (by decide)).trans ((up_nt (by decide)).trans ((up_nt (by decide)).trans ((up_nt (by decide)).trans ((up_nt (by decide)).trans rfl))))))))))]) ?_
  refine st_8 hx hb hB.1 hC hI hS hA (by omega) (k := 4) (by decide) (by unfold vp_in; decide) dX3_fillFrom_51 (fun H locs hC hS => ?_)
  refine lv_iinc (v := 5) (lv' := [(2, .int 5), (0, .ref (ad 5 i)), (1, .ref (ad 4 b))]) hx hb dX3_fillFrom_52 hl (k := 0) rfl (by decide) (by decide) rfl (fun ls hl => ?_)
  refine lv_goto (tgt := 2) hx hb dX3_fillFrom_55 (by decide) ?_
  refine lv_iload_n hx hb dX3_fillFrom_2 rfl (lv_at hl 0 rfl) ?_
  refine lv_bipush (v := 6) hx hb dX3_fillFrom_3 (by decide) ?_
  refine lv_icmp_ge (tgt := 58) hx hb dX3_fillFrom_5 (by decide) (fun c => absurd c (by decide)) (fun _ => ?_)
  refine lv_aload_n hx hb dX3_fillFrom_8 rfl (lv_at hl 1 rfl) ?_
  refine gt_5_0 hx hb hts iX3_fillFrom_X3 hown hB.1 hC hrow_i qX3_fillFrom_w1 dX3_fillFrom_9 ?_
  refine gt_6_0 hx hb hts iX3_fillFrom_X4 hown hB.1 hC (by omega) qX3_fillFrom_w2 dX3_fillFrom_12 ?_
  refine lv_iload_n hx hb dX3_fillFrom_15 rfl (lv_at hl 0 rfl) ?_
  refine lv_aload_n hx hb dX3_fillFrom_16 rfl (lv_at hl 2 rfl) ?_
  refine lv_aload_n hx hb dX3_fillFrom_17 rfl (lv_at hl 2 rfl) ?_
  refine gt_4_0 hx hb hts iX3_fillFrom_X1 hown hB.1 hC hrow_b qX3_fillFrom_w3 dX3_fillFrom_18 ?_
  refine gt_6_0 hx hb hts iX3_fillFrom_X4 hown hB.1 hC (by omega) qX3_fillFrom_w2 dX3_fillFrom_21 ?_
  refine lv_iload_n hx hb dX3_fillFrom_24 rfl (lv_at hl 0 rfl) ?_
  refine ld_7 hx hb hB.1 hC (by omega) (k := 5) (by decide) (by unfold vp_in; decide) dX3_fillFrom_25 ?_
  refine q_val (v := g 4 (3 + b) 5) ((up_nt (by decide)).trans ((up_nk (by decide)).trans ((up_nt (by decide)).trans ((up_nk (by decide)).trans ((up_nt (by decide)).trans ((up_nk (by decide)).trans ((up_nt (by decide)).trans ((up_nk (by decide)).trans ((up_nt (by decide)).trans ((up_nk (by decide)).trans rfl)))))))))) ?_
  refine q_callVi (As := [.int (g 4 (3 + b) 5)]) (κ := 4) (i := b) (show b < 5 from hrow_b) rfl ⟨_, rfl⟩ rfl ⟨hx, hb, hml, hown, hts⟩ (kX1_keptOf l D cy hI (up (up (up (up (up (up (up (up (up (up g 4 (8 + i) 0 (fX1_keptOf (g 3 (3 + b) 4) (g 4 (3 + b) 0))) 5 (8 + i) 0 (fX1_keptOf (g 3 (3 + b) 4) (g 5 (3 + b) 0))) 4 (8 + i) 1 (fX1_keptOf (g 3 (3 + b) 4) (g 4 (3 + b) 1))) 5 (8 + i) 1 (fX1_keptOf (g 3 (3 + b) 4) (g 5 (3 + b) 1))) 4 (8 + i) 2 (fX1_keptOf (g 3 (3 + b) 4) (g 4 (3 + b) 2))) 5 (8 + i) 2 (fX1_keptOf (g 3 (3 + b) 4) (g 5 (3 + b) 2))) 4 (8 + i) 3 (fX1_keptOf (g 3 (3 + b) 4) (g 4 (3 + b) 3))) 5 (8 + i) 3 (fX1_keptOf (g 3 (3 + b) 4) (g 5 (3 + b) 3))) 4 (8 + i) 4 (fX1_keptOf (g 3 (3 + b) 4) (g 4 (3 + b) 4))) 5 (8 + i) 4 (fX1_keptOf (g 3 (3 + b) 4) (g 5 (3 + b) 4))) _ b hrow_b (g 4 (3 + b) 5) ) (cwV 1 hts gX3_fillFrom_X1_keptOf rfl rfl rfl (by decide +kernel) ⟨Nat.le_of_ble_eq_true rfl, Nat.le_of_ble_eq_true rfl⟩) hB hC hS rfl hl.1 (Nat.le_of_ble_eq_true rfl) dX3_fillFrom_26 ⟨Nat.le_of_ble_eq_true rfl, Nat.le_of_ble_eq_true rfl⟩ (fun H locs hC hS => ?_)
  refine q_val (v := fX1_keptOf (g 3 (3 + b) 4) (g 4 (3 + b) 5)) (by rw [(show (up (up (up (up (up (up (up (up (up (up g 4 (8 + i) 0 (fX1_keptOf (g 3 (3 + b) 4) (g 4 (3 + b) 0))) 5 (8 + i) 0 (fX1_keptOf (g 3 (3 + b) 4) (g 5 (3 + b) 0))) 4 (8 + i) 1 (fX1_keptOf (g 3 (3 + b) 4) (g 4 (3 + b) 1))) 5 (8 + i) 1 (fX1_keptOf (g 3 (3 + b) 4) (g 5 (3 + b) 1))) 4 (8 + i) 2 (fX1_keptOf (g 3 (3 + b) 4) (g 4 (3 + b) 2))) 5 (8 + i) 2 (fX1_keptOf (g 3 (3 + b) 4) (g 5 (3 + b) 2))) 4 (8 + i) 3 (fX1_keptOf (g 3 (3 + b) 4) (g 4 (3 + b) 3))) 5 (8 + i) 3 (fX1_keptOf (g 3 (3 + b) 4) (g 5 (3 + b) 3))) 4 (8 + i) 4 (fX1_keptOf (g 3 (3 + b) 4) (g 4 (3 + b) 4))) 5 (8 + i) 4 (fX1_keptOf (g 3 (3 + b) 4) (g 5 (3 + b) 4))) 3 (3 + b) 4 = g 3 (3 + b) 4 from ((up_nt (by decide)).trans ((up_nt (by decide)).trans ((up_nt (by decide)).trans ((up_nt (by decide)).trans ((up_nt (by decide)).trans ((up_nt (by decide)).trans ((up_nt (by decide)).trans ((up_nt (by decide)).trans ((up_nt (by decide)).trans ((up_nt (by decide)).trans rfl)))))))))))]) ?_
  refine st_7 hx hb hB.1 hC hI hS hA (by omega) (k := 5) (by decide) (by unfold vp_in; decide) dX3_fillFrom_29 (fun H locs hC hS => ?_)
  refine lv_aload_n hx hb dX3_fillFrom_30 rfl (lv_at hl 1 rfl) ?_
  refine gt_5_0 hx hb hts iX3_fillFrom_X3 hown hB.1 hC hrow_i qX3_fillFrom_w1 dX3_fillFrom_31 ?_
  refine gt_6_1 hx hb hts iX3_fillFrom_X4 hown hB.1 hC (by omega) qX3_fillFrom_w4 dX3_fillFrom_34 ?_
  refine lv_iload_n hx hb dX3_fillFrom_37 rfl (lv_at hl 0 rfl) ?_
  refine lv_aload_n hx hb dX3_fillFrom_38 rfl (lv_at hl 2 rfl) ?_
  refine lv_aload_n hx hb dX3_fillFrom_39 rfl (lv_at hl 2 rfl) ?_
  refine gt_4_0 hx hb hts iX3_fillFrom_X1 hown hB.1 hC hrow_b qX3_fillFrom_w3 dX3_fillFrom_40 ?_
  refine gt_6_1 hx hb hts iX3_fillFrom_X4 hown hB.1 hC (by omega) qX3_fillFrom_w4 dX3_fillFrom_43 ?_
  refine lv_iload_n hx hb dX3_fillFrom_46 rfl (lv_at hl 0 rfl) ?_
  refine ld_8 hx hb hB.1 hC (by omega) (k := 5) (by decide) (by unfold vp_in; decide) dX3_fillFrom_47 ?_
  refine q_val (v := g 5 (3 + b) 5) ((up_nt (by decide)).trans ((up_nk (by decide)).trans ((up_nt (by decide)).trans ((up_nk (by decide)).trans ((up_nt (by decide)).trans ((up_nk (by decide)).trans ((up_nt (by decide)).trans ((up_nk (by decide)).trans ((up_nt (by decide)).trans ((up_nk (by decide)).trans ((up_nt (by decide)).trans rfl))))))))))) ?_
  refine q_callVi (As := [.int (g 5 (3 + b) 5)]) (κ := 4) (i := b) (show b < 5 from hrow_b) rfl ⟨_, rfl⟩ rfl ⟨hx, hb, hml, hown, hts⟩ (kX1_keptOf l D cy hI (up (up (up (up (up (up (up (up (up (up (up g 4 (8 + i) 0 (fX1_keptOf (g 3 (3 + b) 4) (g 4 (3 + b) 0))) 5 (8 + i) 0 (fX1_keptOf (g 3 (3 + b) 4) (g 5 (3 + b) 0))) 4 (8 + i) 1 (fX1_keptOf (g 3 (3 + b) 4) (g 4 (3 + b) 1))) 5 (8 + i) 1 (fX1_keptOf (g 3 (3 + b) 4) (g 5 (3 + b) 1))) 4 (8 + i) 2 (fX1_keptOf (g 3 (3 + b) 4) (g 4 (3 + b) 2))) 5 (8 + i) 2 (fX1_keptOf (g 3 (3 + b) 4) (g 5 (3 + b) 2))) 4 (8 + i) 3 (fX1_keptOf (g 3 (3 + b) 4) (g 4 (3 + b) 3))) 5 (8 + i) 3 (fX1_keptOf (g 3 (3 + b) 4) (g 5 (3 + b) 3))) 4 (8 + i) 4 (fX1_keptOf (g 3 (3 + b) 4) (g 4 (3 + b) 4))) 5 (8 + i) 4 (fX1_keptOf (g 3 (3 + b) 4) (g 5 (3 + b) 4))) 4 (8 + i) 5 (fX1_keptOf (g 3 (3 + b) 4) (g 4 (3 + b) 5))) _ b hrow_b (g 5 (3 + b) 5) ) (cwV 1 hts gX3_fillFrom_X1_keptOf rfl rfl rfl (by decide +kernel) ⟨Nat.le_of_ble_eq_true rfl, Nat.le_of_ble_eq_true rfl⟩) hB hC hS rfl hl.1 (Nat.le_of_ble_eq_true rfl) dX3_fillFrom_48 ⟨Nat.le_of_ble_eq_true rfl, Nat.le_of_ble_eq_true rfl⟩ (fun H locs hC hS => ?_)
  refine q_val (v := fX1_keptOf (g 3 (3 + b) 4) (g 5 (3 + b) 5)) (by rw [(show (up (up (up (up (up (up (up (up (up (up (up g 4 (8 + i) 0 (fX1_keptOf (g 3 (3 + b) 4) (g 4 (3 + b) 0))) 5 (8 + i) 0 (fX1_keptOf (g 3 (3 + b) 4) (g 5 (3 + b) 0))) 4 (8 + i) 1 (fX1_keptOf (g 3 (3 + b) 4) (g 4 (3 + b) 1))) 5 (8 + i) 1 (fX1_keptOf (g 3 (3 + b) 4) (g 5 (3 + b) 1))) 4 (8 + i) 2 (fX1_keptOf (g 3 (3 + b) 4) (g 4 (3 + b) 2))) 5 (8 + i) 2 (fX1_keptOf (g 3 (3 + b) 4) (g 5 (3 + b) 2))) 4 (8 + i) 3 (fX1_keptOf (g 3 (3 + b) 4) (g 4 (3 + b) 3))) 5 (8 + i) 3 (fX1_keptOf (g 3 (3 + b) 4) (g 5 (3 + b) 3))) 4 (8 + i) 4 (fX1_keptOf (g 3 (3 + b) 4) (g 4 (3 + b) 4))) 5 (8 + i) 4 (fX1_keptOf (g 3 (3 + b) 4) (g 5 (3 + b) 4))) 4 (8 + i) 5 (fX1_keptOf (g 3 (3 + b) 4) (g 4 (3 + b) 5))) 3 (3 + b) 4 = g 3 (3 + b) 4 from ((up_nt (by decide)).trans ((up_nt (by decide)).trans ((up_nt (by decide)).trans ((up_nt (by decide)).trans ((up_nt (by decide)).trans ((up_nt (by decide)).trans ((up_nt (by decide)).trans ((up_nt (by decide)).trans ((up_nt (by decide)).trans ((up_nt (by decide)).trans ((up_nt (by decide)).trans rfl))))))))))))]) ?_
  refine st_8 hx hb hB.1 hC hI hS hA (by omega) (k := 5) (by decide) (by unfold vp_in; decide) dX3_fillFrom_51 (fun H locs hC hS => ?_)
  refine lv_iinc (v := 6) (lv' := [(2, .int 6), (0, .ref (ad 5 i)), (1, .ref (ad 4 b))]) hx hb dX3_fillFrom_52 hl (k := 0) rfl (by decide) (by decide) rfl (fun ls hl => ?_)
  refine lv_goto (tgt := 2) hx hb dX3_fillFrom_55 (by decide) ?_
  refine lv_iload_n hx hb dX3_fillFrom_2 rfl (lv_at hl 0 rfl) ?_
  refine lv_bipush (v := 6) hx hb dX3_fillFrom_3 (by decide) ?_
  refine lv_icmp_ge (tgt := 58) hx hb dX3_fillFrom_5 (by decide) (fun _ => ?_) (fun c => absurd c (by decide))
  refine lv_aload_n hx hb dX3_fillFrom_58 rfl (lv_at hl 1 rfl) ?_
  refine gt_5_0 hx hb hts iX3_fillFrom_X3 hown hB.1 hC hrow_i qX3_fillFrom_w1 dX3_fillFrom_59 ?_
  refine lv_aload_n hx hb dX3_fillFrom_62 rfl (lv_at hl 2 rfl) ?_
  refine q_callVi (As := []) (κ := 4) (i := b) (show b < 5 from hrow_b) rfl ⟨_, rfl⟩ rfl ⟨hx, hb, hml, hown, hts⟩ (kX1_keptKilos l D cy hI (up (up (up (up (up (up (up (up (up (up (up (up g 4 (8 + i) 0 (fX1_keptOf (g 3 (3 + b) 4) (g 4 (3 + b) 0))) 5 (8 + i) 0 (fX1_keptOf (g 3 (3 + b) 4) (g 5 (3 + b) 0))) 4 (8 + i) 1 (fX1_keptOf (g 3 (3 + b) 4) (g 4 (3 + b) 1))) 5 (8 + i) 1 (fX1_keptOf (g 3 (3 + b) 4) (g 5 (3 + b) 1))) 4 (8 + i) 2 (fX1_keptOf (g 3 (3 + b) 4) (g 4 (3 + b) 2))) 5 (8 + i) 2 (fX1_keptOf (g 3 (3 + b) 4) (g 5 (3 + b) 2))) 4 (8 + i) 3 (fX1_keptOf (g 3 (3 + b) 4) (g 4 (3 + b) 3))) 5 (8 + i) 3 (fX1_keptOf (g 3 (3 + b) 4) (g 5 (3 + b) 3))) 4 (8 + i) 4 (fX1_keptOf (g 3 (3 + b) 4) (g 4 (3 + b) 4))) 5 (8 + i) 4 (fX1_keptOf (g 3 (3 + b) 4) (g 5 (3 + b) 4))) 4 (8 + i) 5 (fX1_keptOf (g 3 (3 + b) 4) (g 4 (3 + b) 5))) 5 (8 + i) 5 (fX1_keptOf (g 3 (3 + b) 4) (g 5 (3 + b) 5))) _ b hrow_b  ) (cwV 0 hts gX3_fillFrom_X1_keptKilos rfl rfl rfl (by decide +kernel) ⟨Nat.le_of_ble_eq_true rfl, Nat.le_of_ble_eq_true rfl⟩) hB hC hS rfl hl.1 (Nat.le_of_ble_eq_true rfl) dX3_fillFrom_63 ⟨Nat.le_of_ble_eq_true rfl, Nat.le_of_ble_eq_true rfl⟩ (fun H locs hC hS => ?_)
  refine q_val (v := fX1_keptKilos (g 3 (3 + b) 4) (g 4 (3 + b) 0) (g 4 (3 + b) 1) (g 4 (3 + b) 2) (g 4 (3 + b) 3) (g 4 (3 + b) 4) (g 4 (3 + b) 5)) (by rw [(show (up (up (up (up (up (up (up (up (up (up (up (up g 4 (8 + i) 0 (fX1_keptOf (g 3 (3 + b) 4) (g 4 (3 + b) 0))) 5 (8 + i) 0 (fX1_keptOf (g 3 (3 + b) 4) (g 5 (3 + b) 0))) 4 (8 + i) 1 (fX1_keptOf (g 3 (3 + b) 4) (g 4 (3 + b) 1))) 5 (8 + i) 1 (fX1_keptOf (g 3 (3 + b) 4) (g 5 (3 + b) 1))) 4 (8 + i) 2 (fX1_keptOf (g 3 (3 + b) 4) (g 4 (3 + b) 2))) 5 (8 + i) 2 (fX1_keptOf (g 3 (3 + b) 4) (g 5 (3 + b) 2))) 4 (8 + i) 3 (fX1_keptOf (g 3 (3 + b) 4) (g 4 (3 + b) 3))) 5 (8 + i) 3 (fX1_keptOf (g 3 (3 + b) 4) (g 5 (3 + b) 3))) 4 (8 + i) 4 (fX1_keptOf (g 3 (3 + b) 4) (g 4 (3 + b) 4))) 5 (8 + i) 4 (fX1_keptOf (g 3 (3 + b) 4) (g 5 (3 + b) 4))) 4 (8 + i) 5 (fX1_keptOf (g 3 (3 + b) 4) (g 4 (3 + b) 5))) 5 (8 + i) 5 (fX1_keptOf (g 3 (3 + b) 4) (g 5 (3 + b) 5))) 3 (3 + b) 4 = g 3 (3 + b) 4 from ((up_nt (by decide)).trans ((up_nt (by decide)).trans ((up_nt (by decide)).trans ((up_nt (by decide)).trans ((up_nt (by decide)).trans ((up_nt (by decide)).trans ((up_nt (by decide)).trans ((up_nt (by decide)).trans ((up_nt (by decide)).trans ((up_nt (by decide)).trans ((up_nt (by decide)).trans ((up_nt (by decide)).trans rfl))))))))))))), (show (up (up (up (up (up (up (up (up (up (up (up (up g 4 (8 + i) 0 (fX1_keptOf (g 3 (3 + b) 4) (g 4 (3 + b) 0))) 5 (8 + i) 0 (fX1_keptOf (g 3 (3 + b) 4) (g 5 (3 + b) 0))) 4 (8 + i) 1 (fX1_keptOf (g 3 (3 + b) 4) (g 4 (3 + b) 1))) 5 (8 + i) 1 (fX1_keptOf (g 3 (3 + b) 4) (g 5 (3 + b) 1))) 4 (8 + i) 2 (fX1_keptOf (g 3 (3 + b) 4) (g 4 (3 + b) 2))) 5 (8 + i) 2 (fX1_keptOf (g 3 (3 + b) 4) (g 5 (3 + b) 2))) 4 (8 + i) 3 (fX1_keptOf (g 3 (3 + b) 4) (g 4 (3 + b) 3))) 5 (8 + i) 3 (fX1_keptOf (g 3 (3 + b) 4) (g 5 (3 + b) 3))) 4 (8 + i) 4 (fX1_keptOf (g 3 (3 + b) 4) (g 4 (3 + b) 4))) 5 (8 + i) 4 (fX1_keptOf (g 3 (3 + b) 4) (g 5 (3 + b) 4))) 4 (8 + i) 5 (fX1_keptOf (g 3 (3 + b) 4) (g 4 (3 + b) 5))) 5 (8 + i) 5 (fX1_keptOf (g 3 (3 + b) 4) (g 5 (3 + b) 5))) 4 (3 + b) 0 = g 4 (3 + b) 0 from ((up_nt (by decide)).trans ((up_nk (by decide)).trans ((up_nt (by decide)).trans ((up_nk (by decide)).trans ((up_nt (by decide)).trans ((up_nk (by decide)).trans ((up_nt (by decide)).trans ((up_nk (by decide)).trans ((up_nt (by decide)).trans ((up_nk (by decide)).trans ((up_nt (by decide)).trans ((up_ni (by omega)).trans rfl))))))))))))), (show (up (up (up (up (up (up (up (up (up (up (up (up g 4 (8 + i) 0 (fX1_keptOf (g 3 (3 + b) 4) (g 4 (3 + b) 0))) 5 (8 + i) 0 (fX1_keptOf (g 3 (3 + b) 4) (g 5 (3 + b) 0))) 4 (8 + i) 1 (fX1_keptOf (g 3 (3 + b) 4) (g 4 (3 + b) 1))) 5 (8 + i) 1 (fX1_keptOf (g 3 (3 + b) 4) (g 5 (3 + b) 1))) 4 (8 + i) 2 (fX1_keptOf (g 3 (3 + b) 4) (g 4 (3 + b) 2))) 5 (8 + i) 2 (fX1_keptOf (g 3 (3 + b) 4) (g 5 (3 + b) 2))) 4 (8 + i) 3 (fX1_keptOf (g 3 (3 + b) 4) (g 4 (3 + b) 3))) 5 (8 + i) 3 (fX1_keptOf (g 3 (3 + b) 4) (g 5 (3 + b) 3))) 4 (8 + i) 4 (fX1_keptOf (g 3 (3 + b) 4) (g 4 (3 + b) 4))) 5 (8 + i) 4 (fX1_keptOf (g 3 (3 + b) 4) (g 5 (3 + b) 4))) 4 (8 + i) 5 (fX1_keptOf (g 3 (3 + b) 4) (g 4 (3 + b) 5))) 5 (8 + i) 5 (fX1_keptOf (g 3 (3 + b) 4) (g 5 (3 + b) 5))) 4 (3 + b) 1 = g 4 (3 + b) 1 from ((up_nt (by decide)).trans ((up_nk (by decide)).trans ((up_nt (by decide)).trans ((up_nk (by decide)).trans ((up_nt (by decide)).trans ((up_nk (by decide)).trans ((up_nt (by decide)).trans ((up_nk (by decide)).trans ((up_nt (by decide)).trans ((up_ni (by omega)).trans ((up_nt (by decide)).trans ((up_nk (by decide)).trans rfl))))))))))))), (show (up (up (up (up (up (up (up (up (up (up (up (up g 4 (8 + i) 0 (fX1_keptOf (g 3 (3 + b) 4) (g 4 (3 + b) 0))) 5 (8 + i) 0 (fX1_keptOf (g 3 (3 + b) 4) (g 5 (3 + b) 0))) 4 (8 + i) 1 (fX1_keptOf (g 3 (3 + b) 4) (g 4 (3 + b) 1))) 5 (8 + i) 1 (fX1_keptOf (g 3 (3 + b) 4) (g 5 (3 + b) 1))) 4 (8 + i) 2 (fX1_keptOf (g 3 (3 + b) 4) (g 4 (3 + b) 2))) 5 (8 + i) 2 (fX1_keptOf (g 3 (3 + b) 4) (g 5 (3 + b) 2))) 4 (8 + i) 3 (fX1_keptOf (g 3 (3 + b) 4) (g 4 (3 + b) 3))) 5 (8 + i) 3 (fX1_keptOf (g 3 (3 + b) 4) (g 5 (3 + b) 3))) 4 (8 + i) 4 (fX1_keptOf (g 3 (3 + b) 4) (g 4 (3 + b) 4))) 5 (8 + i) 4 (fX1_keptOf (g 3 (3 + b) 4) (g 5 (3 + b) 4))) 4 (8 + i) 5 (fX1_keptOf (g 3 (3 + b) 4) (g 4 (3 + b) 5))) 5 (8 + i) 5 (fX1_keptOf (g 3 (3 + b) 4) (g 5 (3 + b) 5))) 4 (3 + b) 2 = g 4 (3 + b) 2 from ((up_nt (by decide)).trans ((up_nk (by decide)).trans ((up_nt (by decide)).trans ((up_nk (by decide)).trans ((up_nt (by decide)).trans ((up_nk (by decide)).trans ((up_nt (by decide)).trans ((up_ni (by omega)).trans ((up_nt (by decide)).trans ((up_nk (by decide)).trans ((up_nt (by decide)).trans ((up_nk (by decide)).trans rfl))))))))))))), (show (up (up (up (up (up (up (up (up (up (up (up (up g 4 (8 + i) 0 (fX1_keptOf (g 3 (3 + b) 4) (g 4 (3 + b) 0))) 5 (8 + i) 0 (fX1_keptOf (g 3 (3 + b) 4) (g 5 (3 + b) 0))) 4 (8 + i) 1 (fX1_keptOf (g 3 (3 + b) 4) (g 4 (3 + b) 1))) 5 (8 + i) 1 (fX1_keptOf (g 3 (3 + b) 4) (g 5 (3 + b) 1))) 4 (8 + i) 2 (fX1_keptOf (g 3 (3 + b) 4) (g 4 (3 + b) 2))) 5 (8 + i) 2 (fX1_keptOf (g 3 (3 + b) 4) (g 5 (3 + b) 2))) 4 (8 + i) 3 (fX1_keptOf (g 3 (3 + b) 4) (g 4 (3 + b) 3))) 5 (8 + i) 3 (fX1_keptOf (g 3 (3 + b) 4) (g 5 (3 + b) 3))) 4 (8 + i) 4 (fX1_keptOf (g 3 (3 + b) 4) (g 4 (3 + b) 4))) 5 (8 + i) 4 (fX1_keptOf (g 3 (3 + b) 4) (g 5 (3 + b) 4))) 4 (8 + i) 5 (fX1_keptOf (g 3 (3 + b) 4) (g 4 (3 + b) 5))) 5 (8 + i) 5 (fX1_keptOf (g 3 (3 + b) 4) (g 5 (3 + b) 5))) 4 (3 + b) 3 = g 4 (3 + b) 3 from ((up_nt (by decide)).trans ((up_nk (by decide)).trans ((up_nt (by decide)).trans ((up_nk (by decide)).trans ((up_nt (by decide)).trans ((up_ni (by omega)).trans ((up_nt (by decide)).trans ((up_nk (by decide)).trans ((up_nt (by decide)).trans ((up_nk (by decide)).trans ((up_nt (by decide)).trans ((up_nk (by decide)).trans rfl))))))))))))), (show (up (up (up (up (up (up (up (up (up (up (up (up g 4 (8 + i) 0 (fX1_keptOf (g 3 (3 + b) 4) (g 4 (3 + b) 0))) 5 (8 + i) 0 (fX1_keptOf (g 3 (3 + b) 4) (g 5 (3 + b) 0))) 4 (8 + i) 1 (fX1_keptOf (g 3 (3 + b) 4) (g 4 (3 + b) 1))) 5 (8 + i) 1 (fX1_keptOf (g 3 (3 + b) 4) (g 5 (3 + b) 1))) 4 (8 + i) 2 (fX1_keptOf (g 3 (3 + b) 4) (g 4 (3 + b) 2))) 5 (8 + i) 2 (fX1_keptOf (g 3 (3 + b) 4) (g 5 (3 + b) 2))) 4 (8 + i) 3 (fX1_keptOf (g 3 (3 + b) 4) (g 4 (3 + b) 3))) 5 (8 + i) 3 (fX1_keptOf (g 3 (3 + b) 4) (g 5 (3 + b) 3))) 4 (8 + i) 4 (fX1_keptOf (g 3 (3 + b) 4) (g 4 (3 + b) 4))) 5 (8 + i) 4 (fX1_keptOf (g 3 (3 + b) 4) (g 5 (3 + b) 4))) 4 (8 + i) 5 (fX1_keptOf (g 3 (3 + b) 4) (g 4 (3 + b) 5))) 5 (8 + i) 5 (fX1_keptOf (g 3 (3 + b) 4) (g 5 (3 + b) 5))) 4 (3 + b) 4 = g 4 (3 + b) 4 from ((up_nt (by decide)).trans ((up_nk (by decide)).trans ((up_nt (by decide)).trans ((up_ni (by omega)).trans ((up_nt (by decide)).trans ((up_nk (by decide)).trans ((up_nt (by decide)).trans ((up_nk (by decide)).trans ((up_nt (by decide)).trans ((up_nk (by decide)).trans ((up_nt (by decide)).trans ((up_nk (by decide)).trans rfl))))))))))))), (show (up (up (up (up (up (up (up (up (up (up (up (up g 4 (8 + i) 0 (fX1_keptOf (g 3 (3 + b) 4) (g 4 (3 + b) 0))) 5 (8 + i) 0 (fX1_keptOf (g 3 (3 + b) 4) (g 5 (3 + b) 0))) 4 (8 + i) 1 (fX1_keptOf (g 3 (3 + b) 4) (g 4 (3 + b) 1))) 5 (8 + i) 1 (fX1_keptOf (g 3 (3 + b) 4) (g 5 (3 + b) 1))) 4 (8 + i) 2 (fX1_keptOf (g 3 (3 + b) 4) (g 4 (3 + b) 2))) 5 (8 + i) 2 (fX1_keptOf (g 3 (3 + b) 4) (g 5 (3 + b) 2))) 4 (8 + i) 3 (fX1_keptOf (g 3 (3 + b) 4) (g 4 (3 + b) 3))) 5 (8 + i) 3 (fX1_keptOf (g 3 (3 + b) 4) (g 5 (3 + b) 3))) 4 (8 + i) 4 (fX1_keptOf (g 3 (3 + b) 4) (g 4 (3 + b) 4))) 5 (8 + i) 4 (fX1_keptOf (g 3 (3 + b) 4) (g 5 (3 + b) 4))) 4 (8 + i) 5 (fX1_keptOf (g 3 (3 + b) 4) (g 4 (3 + b) 5))) 5 (8 + i) 5 (fX1_keptOf (g 3 (3 + b) 4) (g 5 (3 + b) 5))) 4 (3 + b) 5 = g 4 (3 + b) 5 from ((up_nt (by decide)).trans ((up_ni (by omega)).trans ((up_nt (by decide)).trans ((up_nk (by decide)).trans ((up_nt (by decide)).trans ((up_nk (by decide)).trans ((up_nt (by decide)).trans ((up_nk (by decide)).trans ((up_nt (by decide)).trans ((up_nk (by decide)).trans ((up_nt (by decide)).trans ((up_nk (by decide)).trans rfl)))))))))))))]) ?_
  refine pt_6_2 hx hb hts iX3_fillFrom_X4 hown hB.1 hC hI hS hA (by omega) qX3_fillFrom_w5 dX3_fillFrom_66 (fun H locs hC hS => ?_)
  refine lv_aload_n hx hb dX3_fillFrom_69 rfl (lv_at hl 1 rfl) ?_
  refine gt_5_0 hx hb hts iX3_fillFrom_X3 hown hB.1 hC hrow_i qX3_fillFrom_w1 dX3_fillFrom_70 ?_
  refine lv_aload_n hx hb dX3_fillFrom_73 rfl (lv_at hl 2 rfl) ?_
  refine gt_4_0 hx hb hts iX3_fillFrom_X1 hown hB.1 hC hrow_b qX3_fillFrom_w3 dX3_fillFrom_74 ?_
  refine gt_6_3 hx hb hts iX3_fillFrom_X4 hown hB.1 hC (by omega) qX3_fillFrom_w6 dX3_fillFrom_77 ?_
  refine q_val (v := g 3 (3 + b) 1) ((up_nk (by decide)).trans ((up_nt (by decide)).trans ((up_nt (by decide)).trans ((up_nt (by decide)).trans ((up_nt (by decide)).trans ((up_nt (by decide)).trans ((up_nt (by decide)).trans ((up_nt (by decide)).trans ((up_nt (by decide)).trans ((up_nt (by decide)).trans ((up_nt (by decide)).trans ((up_nt (by decide)).trans ((up_nt (by decide)).trans rfl))))))))))))) ?_
  refine pt_6_3 hx hb hts iX3_fillFrom_X4 hown hB.1 hC hI hS hA (by omega) qX3_fillFrom_w6 dX3_fillFrom_80 (fun H locs hC hS => ?_)
  refine lv_aload_n hx hb dX3_fillFrom_83 rfl (lv_at hl 1 rfl) ?_
  refine lv_aload_n hx hb dX3_fillFrom_84 rfl (lv_at hl 2 rfl) ?_
  refine gt_4_3 hx hb hts iX3_fillFrom_X1 hown hB.1 hC hrow_b qX3_fillFrom_w7 dX3_fillFrom_85 ?_
  refine q_val (v := g 3 (3 + b) 4) ((up_nk (by decide)).trans ((up_nk (by decide)).trans ((up_nt (by decide)).trans ((up_nt (by decide)).trans ((up_nt (by decide)).trans ((up_nt (by decide)).trans ((up_nt (by decide)).trans ((up_nt (by decide)).trans ((up_nt (by decide)).trans ((up_nt (by decide)).trans ((up_nt (by decide)).trans ((up_nt (by decide)).trans ((up_nt (by decide)).trans ((up_nt (by decide)).trans rfl)))))))))))))) ?_
  refine pt_5_3 hx hb hts iX3_fillFrom_X3 hown hB.1 hC hI hS hA hrow_i qX3_fillFrom_w8 dX3_fillFrom_88 (fun H locs hC hS => ?_)
  refine lv_aload_n hx hb dX3_fillFrom_91 rfl (lv_at hl 1 rfl) ?_
  refine lv_aload_n hx hb dX3_fillFrom_92 rfl (lv_at hl 2 rfl) ?_
  refine gt_4_7 hx hb hts iX3_fillFrom_X1 hown hB.1 hC hrow_b qX3_fillFrom_w9 dX3_fillFrom_93 ?_
  refine q_val (v := g 3 (3 + b) 3) ((up_nk (by decide)).trans ((up_nk (by decide)).trans ((up_nk (by decide)).trans ((up_nt (by decide)).trans ((up_nt (by decide)).trans ((up_nt (by decide)).trans ((up_nt (by decide)).trans ((up_nt (by decide)).trans ((up_nt (by decide)).trans ((up_nt (by decide)).trans ((up_nt (by decide)).trans ((up_nt (by decide)).trans ((up_nt (by decide)).trans ((up_nt (by decide)).trans ((up_nt (by decide)).trans rfl))))))))))))))) ?_
  refine pt_5_4 hx hb hts iX3_fillFrom_X3 hown hB.1 hC hI hS hA hrow_i qX3_fillFrom_w10 dX3_fillFrom_96 (fun H locs hC hS => ?_)
  refine lv_aload_n hx hb dX3_fillFrom_99 rfl (lv_at hl 1 rfl) ?_
  refine lv_aload_n hx hb dX3_fillFrom_100 rfl (lv_at hl 2 rfl) ?_
  refine gt_4_6 hx hb hts iX3_fillFrom_X1 hown hB.1 hC hrow_b qX3_fillFrom_w11 dX3_fillFrom_101 ?_
  refine q_val (v := g 3 (3 + b) 7) ((up_nk (by decide)).trans ((up_nk (by decide)).trans ((up_nk (by decide)).trans ((up_nk (by decide)).trans ((up_nt (by decide)).trans ((up_nt (by decide)).trans ((up_nt (by decide)).trans ((up_nt (by decide)).trans ((up_nt (by decide)).trans ((up_nt (by decide)).trans ((up_nt (by decide)).trans ((up_nt (by decide)).trans ((up_nt (by decide)).trans ((up_nt (by decide)).trans ((up_nt (by decide)).trans ((up_nt (by decide)).trans rfl)))))))))))))))) ?_
  refine pt_5_5 hx hb hts iX3_fillFrom_X3 hown hB.1 hC hI hS hA hrow_i qX3_fillFrom_w12 dX3_fillFrom_104 (fun H locs hC hS => ?_)
  refine lv_aload_n hx hb dX3_fillFrom_107 rfl (lv_at hl 1 rfl) ?_
  refine lv_aload_n hx hb dX3_fillFrom_108 rfl (lv_at hl 2 rfl) ?_
  refine gt_4_4 hx hb hts iX3_fillFrom_X1 hown hB.1 hC hrow_b qX3_fillFrom_w13 dX3_fillFrom_109 ?_
  refine q_val (v := g 3 (3 + b) 5) ((up_nk (by decide)).trans ((up_nk (by decide)).trans ((up_nk (by decide)).trans ((up_nk (by decide)).trans ((up_nk (by decide)).trans ((up_nt (by decide)).trans ((up_nt (by decide)).trans ((up_nt (by decide)).trans ((up_nt (by decide)).trans ((up_nt (by decide)).trans ((up_nt (by decide)).trans ((up_nt (by decide)).trans ((up_nt (by decide)).trans ((up_nt (by decide)).trans ((up_nt (by decide)).trans ((up_nt (by decide)).trans ((up_nt (by decide)).trans rfl))))))))))))))))) ?_
  refine pt_5_6 hx hb hts iX3_fillFrom_X3 hown hB.1 hC hI hS hA hrow_i qX3_fillFrom_w14 dX3_fillFrom_112 (fun H locs hC hS => ?_)
  refine lv_aload_n hx hb dX3_fillFrom_115 rfl (lv_at hl 1 rfl) ?_
  refine lv_iconst (v := 1) hx hb dX3_fillFrom_116 (by decide) ?_
  refine pt_5_2 hx hb hts iX3_fillFrom_X3 hown hB.1 hC hI hS hA hrow_i qX3_fillFrom_w15 rfl rfl dX3_fillFrom_117 (fun H locs hC hS => ?_)
  exact q_retv hx hb hr hB hC hS rfl hlocks dX3_fillFrom_120
