def fX6_meanByKilos (x : Int32) (v : Int32) (y : Int32) (w : Int32) : Int32 := if (x + y) ≤ 0 then (0) else (((x * v) + (y * w)) / (x + y))
set_option maxRecDepth 100000 in
set_option maxHeartbeats 4000000 in
theorem kX6_meanByKilos (l : Launch) (D : va_G) (cy : Nat → ClassId) {ad : Nat → Nat → Nat} (hI : cI ad) (g : Gd) (sz : Nat) (x : Int32) (v : Int32) (y : Int32) (w : Int32) : Met l yX6_meanByKilos wsX6_meanByKilos ({ frames := 0, cells := 0, slots := 0, locals := 0 } : Room) (va_Pc [.int x, .int v, .int y, .int w] (cPre D cy ad g sz)) (cQi D cy ad (fX6_meanByKilos x v y w) g sz) 0 0 (cA ad sz) := by
  refine q_start (cc := cX6_meanByKilos) (maxL := 5) (ret := (some .int)) (own := RX6) (by decide) rfl rfl (Nat.le_of_ble_eq_true rfl) ?_
  intro p e s m below meth c hx hb hr hml hts hown hlocks ⟨hsz, hC, hB⟩ ls hl
  subst hsz
  have hS : va_S (cA ad s.heap.size) s.heap s.heap [] := va_S.rf
  have hA : ∀ κ i : Nat, cV κ i → cA ad s.heap.size (ad κ i) := fun κ i h => Or.inl ⟨κ, i, h, rfl⟩
  have hl : lv_has ls 5 [(0, .int x), (1, .int v), (2, .int y), (3, .int w)] := hl
  refine lv_iload_n hx hb dX6_meanByKilos_0 rfl (lv_at hl 0 rfl) ?_
  refine lv_iload_n hx hb dX6_meanByKilos_1 rfl (lv_at hl 2 rfl) ?_
  refine lv_iadd hx hb dX6_meanByKilos_2 ?_
  refine lv_istore (lv' := [(4, .int (x + y)), (0, .int x), (1, .int v), (2, .int y), (3, .int w)]) hx hb dX6_meanByKilos_3 hl (by decide) rfl (fun ls hl => ?_)
  refine lv_iload hx hb dX6_meanByKilos_5 (lv_at hl 0 rfl) ?_
  refine lv_if_le (tgt := 23) hx hb dX6_meanByKilos_7 (by decide) (fun c1 => ?_) (fun c1 => ?_)
  · skip
    refine lv_iconst (v := 0) hx hb dX6_meanByKilos_23 (by decide) ?_
    exact q_reti hx hb hr hB hC hS rfl (by unfold fX6_meanByKilos; rw [if_pos c1]) hlocks dX6_meanByKilos_24
  · skip
    refine lv_iload_n hx hb dX6_meanByKilos_10 rfl (lv_at hl 1 rfl) ?_
    refine lv_iload_n hx hb dX6_meanByKilos_11 rfl (lv_at hl 2 rfl) ?_
    refine lv_imul hx hb dX6_meanByKilos_12 ?_
    refine lv_iload_n hx hb dX6_meanByKilos_13 rfl (lv_at hl 3 rfl) ?_
    refine lv_iload_n hx hb dX6_meanByKilos_14 rfl (lv_at hl 4 rfl) ?_
    refine lv_imul hx hb dX6_meanByKilos_15 ?_
    refine lv_iadd hx hb dX6_meanByKilos_16 ?_
    refine lv_iload hx hb dX6_meanByKilos_17 (lv_at hl 0 rfl) ?_
    refine lv_idiv hx hb dX6_meanByKilos_19 (fun h => c1 (by rw [h]; decide)) ?_
    refine lv_goto (tgt := 24) hx hb dX6_meanByKilos_20 (by decide) ?_
    exact q_reti hx hb hr hB hC hS rfl (by unfold fX6_meanByKilos; rw [if_neg c1]) hlocks dX6_meanByKilos_24
def fX4_isEmpty (k : Int32) : Int32 := if k = 0 then (1) else (0)
theorem qX4_isEmpty_w1 : Cond.fieldLink RX4 18 "CherryStation$Mix" "kilos" "I" ∈ wsX4_isEmpty := List.mem_of_getElem? (i := 1) rfl
theorem iX4_isEmpty_X4 : ∀ w ∈ wsX40, w ∈ wsX4_isEmpty := fun _ h => (List.mem_cons_of_mem _ (List.mem_append_right _ h))
set_option maxRecDepth 100000 in
set_option maxHeartbeats 4000000 in
theorem kX4_isEmpty (l : Launch) (D : va_G) (cy : Nat → ClassId) {ad : Nat → Nat → Nat} (hI : cI ad) (g : Gd) (sz : Nat) (j : Nat) (hrow_j : j < 21) : Met l yX4_isEmpty wsX4_isEmpty ({ frames := 0, cells := 0, slots := 0, locals := 0 } : Room) (va_Pc [.ref (ad 6 j)] (cPre D cy ad g sz)) (cQi D cy ad (fX4_isEmpty (g 3 j 0)) g sz) 0 0 (cA ad sz) := by
  refine q_start (cc := cX4_isEmpty) (maxL := 1) (ret := (some .boolean)) (own := RX4) (by decide) rfl rfl (Nat.le_of_ble_eq_true rfl) ?_
  intro p e s m below meth c hx hb hr hml hts hown hlocks ⟨hsz, hC, hB⟩ ls hl
  subst hsz
  have hS : va_S (cA ad s.heap.size) s.heap s.heap [] := va_S.rf
  have hA : ∀ κ i : Nat, cV κ i → cA ad s.heap.size (ad κ i) := fun κ i h => Or.inl ⟨κ, i, h, rfl⟩
  have hl : lv_has ls 1 [(0, .ref (ad 6 j))] := hl
  refine lv_aload_n hx hb dX4_isEmpty_0 rfl (lv_at hl 0 rfl) ?_
  refine gt_6_2 hx hb hts iX4_isEmpty_X4 hown hB.1 hC hrow_j qX4_isEmpty_w1 dX4_isEmpty_1 ?_
  refine lv_if_ne (tgt := 11) hx hb dX4_isEmpty_4 (by decide) (fun c1 => ?_) (fun c1 => ?_)
  · skip
    refine lv_iconst (v := 0) hx hb dX4_isEmpty_11 (by decide) ?_
    exact q_retz hx hb hr hB hC hS rfl (by unfold fX4_isEmpty; rw [if_neg c1]) rfl hlocks dX4_isEmpty_12
  · skip
    refine lv_iconst (v := 1) hx hb dX4_isEmpty_7 (by decide) ?_
    refine lv_goto (tgt := 12) hx hb dX4_isEmpty_8 (by decide) ?_
    exact q_retz hx hb hr hB hC hS rfl (by unfold fX4_isEmpty; rw [if_pos c1]) rfl hlocks dX4_isEmpty_12
def fX4_certifiedKilos (g : Gd) (j : Nat) : Int32 := (((((0 + (g 5 j 0)) + (g 5 j 1)) + (g 5 j 2)) + (g 5 j 3)) + (g 5 j 4)) + (g 5 j 5)
theorem qX4_certifiedKilos_w1 : Cond.fieldLink RX4 15 "CherryStation$Mix" "certifiedBy" "[I" ∈ wsX4_certifiedKilos := List.mem_of_getElem? (i := 1) rfl
theorem iX4_certifiedKilos_X4 : ∀ w ∈ wsX40, w ∈ wsX4_certifiedKilos := fun _ h => (List.mem_cons_of_mem _ (List.mem_append_right _ h))
set_option maxRecDepth 100000 in
set_option maxHeartbeats 4000000 in
theorem kX4_certifiedKilos (l : Launch) (D : va_G) (cy : Nat → ClassId) {ad : Nat → Nat → Nat} (hI : cI ad) (g : Gd) (sz : Nat) (j : Nat) (hrow_j : j < 21) : Met l yX4_certifiedKilos wsX4_certifiedKilos ({ frames := 0, cells := 0, slots := 0, locals := 0 } : Room) (va_Pc [.ref (ad 6 j)] (cPre D cy ad g sz)) (cQi D cy ad (fX4_certifiedKilos g j) g sz) 0 0 (cA ad sz) := by
  refine q_start (cc := cX4_certifiedKilos) (maxL := 3) (ret := (some .int)) (own := RX4) (by decide) rfl rfl (Nat.le_of_ble_eq_true rfl) ?_
  intro p e s m below meth c hx hb hr hml hts hown hlocks ⟨hsz, hC, hB⟩ ls hl
  subst hsz
  have hS : va_S (cA ad s.heap.size) s.heap s.heap [] := va_S.rf
  have hA : ∀ κ i : Nat, cV κ i → cA ad s.heap.size (ad κ i) := fun κ i h => Or.inl ⟨κ, i, h, rfl⟩
  have hl : lv_has ls 3 [(0, .ref (ad 6 j))] := hl
  refine lv_iconst (v := 0) hx hb dX4_certifiedKilos_0 (by decide) ?_
  refine lv_istore_n (lv' := [(1, .int 0), (0, .ref (ad 6 j))]) hx hb dX4_certifiedKilos_1 rfl hl (by decide) rfl (fun ls hl => ?_)
  refine lv_iconst (v := 0) hx hb dX4_certifiedKilos_2 (by decide) ?_
  refine lv_istore_n (lv' := [(2, .int 0), (1, .int 0), (0, .ref (ad 6 j))]) hx hb dX4_certifiedKilos_3 rfl hl (by decide) rfl (fun ls hl => ?_)
  refine lv_iload_n hx hb dX4_certifiedKilos_4 rfl (lv_at hl 0 rfl) ?_
  refine lv_bipush (v := 6) hx hb dX4_certifiedKilos_5 (by decide) ?_
  refine lv_icmp_ge (tgt := 25) hx hb dX4_certifiedKilos_7 (by decide) (fun c => absurd c (by decide)) (fun _ => ?_)
  refine lv_iload_n hx hb dX4_certifiedKilos_10 rfl (lv_at hl 1 rfl) ?_
  refine lv_aload_n hx hb dX4_certifiedKilos_11 rfl (lv_at hl 2 rfl) ?_
  refine gt_6_1 hx hb hts iX4_certifiedKilos_X4 hown hB.1 hC hrow_j qX4_certifiedKilos_w1 dX4_certifiedKilos_12 ?_
  refine lv_iload_n hx hb dX4_certifiedKilos_15 rfl (lv_at hl 0 rfl) ?_
  refine ld_8 hx hb hB.1 hC hrow_j (k := 0) (by decide) (by unfold vp_in; decide) dX4_certifiedKilos_16 ?_
  refine lv_iadd hx hb dX4_certifiedKilos_17 ?_
  refine lv_istore_n (lv' := [(1, .int (0 + (g 5 j 0))), (2, .int 0), (0, .ref (ad 6 j))]) hx hb dX4_certifiedKilos_18 rfl hl (by decide) rfl (fun ls hl => ?_)
  refine lv_iinc (v := 1) (lv' := [(2, .int 1), (1, .int (0 + (g 5 j 0))), (0, .ref (ad 6 j))]) hx hb dX4_certifiedKilos_19 hl (k := 1) rfl (by decide) (by decide) rfl (fun ls hl => ?_)
  refine lv_goto (tgt := 4) hx hb dX4_certifiedKilos_22 (by decide) ?_
  refine lv_iload_n hx hb dX4_certifiedKilos_4 rfl (lv_at hl 0 rfl) ?_
  refine lv_bipush (v := 6) hx hb dX4_certifiedKilos_5 (by decide) ?_
  refine lv_icmp_ge (tgt := 25) hx hb dX4_certifiedKilos_7 (by decide) (fun c => absurd c (by decide)) (fun _ => ?_)
  refine lv_iload_n hx hb dX4_certifiedKilos_10 rfl (lv_at hl 1 rfl) ?_
  refine lv_aload_n hx hb dX4_certifiedKilos_11 rfl (lv_at hl 2 rfl) ?_
  refine gt_6_1 hx hb hts iX4_certifiedKilos_X4 hown hB.1 hC hrow_j qX4_certifiedKilos_w1 dX4_certifiedKilos_12 ?_
  refine lv_iload_n hx hb dX4_certifiedKilos_15 rfl (lv_at hl 0 rfl) ?_
  refine ld_8 hx hb hB.1 hC hrow_j (k := 1) (by decide) (by unfold vp_in; decide) dX4_certifiedKilos_16 ?_
  refine lv_iadd hx hb dX4_certifiedKilos_17 ?_
  refine lv_istore_n (lv' := [(1, .int ((0 + (g 5 j 0)) + (g 5 j 1))), (2, .int 1), (0, .ref (ad 6 j))]) hx hb dX4_certifiedKilos_18 rfl hl (by decide) rfl (fun ls hl => ?_)
  refine lv_iinc (v := 2) (lv' := [(2, .int 2), (1, .int ((0 + (g 5 j 0)) + (g 5 j 1))), (0, .ref (ad 6 j))]) hx hb dX4_certifiedKilos_19 hl (k := 1) rfl (by decide) (by decide) rfl (fun ls hl => ?_)
  refine lv_goto (tgt := 4) hx hb dX4_certifiedKilos_22 (by decide) ?_
  refine lv_iload_n hx hb dX4_certifiedKilos_4 rfl (lv_at hl 0 rfl) ?_
  refine lv_bipush (v := 6) hx hb dX4_certifiedKilos_5 (by decide) ?_
  refine lv_icmp_ge (tgt := 25) hx hb dX4_certifiedKilos_7 (by decide) (fun c => absurd c (by decide)) (fun _ => ?_)
  refine lv_iload_n hx hb dX4_certifiedKilos_10 rfl (lv_at hl 1 rfl) ?_
  refine lv_aload_n hx hb dX4_certifiedKilos_11 rfl (lv_at hl 2 rfl) ?_
  refine gt_6_1 hx hb hts iX4_certifiedKilos_X4 hown hB.1 hC hrow_j qX4_certifiedKilos_w1 dX4_certifiedKilos_12 ?_
  refine lv_iload_n hx hb dX4_certifiedKilos_15 rfl (lv_at hl 0 rfl) ?_
  refine ld_8 hx hb hB.1 hC hrow_j (k := 2) (by decide) (by unfold vp_in; decide) dX4_certifiedKilos_16 ?_
  refine lv_iadd hx hb dX4_certifiedKilos_17 ?_
  refine lv_istore_n (lv' := [(1, .int (((0 + (g 5 j 0)) + (g 5 j 1)) + (g 5 j 2))), (2, .int 2), (0, .ref (ad 6 j))]) hx hb dX4_certifiedKilos_18 rfl hl (by decide) rfl (fun ls hl => ?_)
  refine lv_iinc (v := 3) (lv' := [(2, .int 3), (1, .int (((0 + (g 5 j 0)) + (g 5 j 1)) + (g 5 j 2))), (0, .ref (ad 6 j))]) hx hb dX4_certifiedKilos_19 hl (k := 1) rfl (by decide) (by decide) rfl (fun ls hl => ?_)
  refine lv_goto (tgt := 4) hx hb dX4_certifiedKilos_22 (by decide) ?_
  refine lv_iload_n hx hb dX4_certifiedKilos_4 rfl (lv_at hl 0 rfl) ?_
  refine lv_bipush (v := 6) hx hb dX4_certifiedKilos_5 (by decide) ?_
  refine lv_icmp_ge (tgt := 25) hx hb dX4_certifiedKilos_7 (by decide) (fun c => absurd c (by decide)) (fun _ => ?_)
  refine lv_iload_n hx hb dX4_certifiedKilos_10 rfl (lv_at hl 1 rfl) ?_
  refine lv_aload_n hx hb dX4_certifiedKilos_11 rfl (lv_at hl 2 rfl) ?_
  refine gt_6_1 hx hb hts iX4_certifiedKilos_X4 hown hB.1 hC hrow_j qX4_certifiedKilos_w1 dX4_certifiedKilos_12 ?_
  refine lv_iload_n hx hb dX4_certifiedKilos_15 rfl (lv_at hl 0 rfl) ?_
  refine ld_8 hx hb hB.1 hC hrow_j (k := 3) (by decide) (by unfold vp_in; decide) dX4_certifiedKilos_16 ?_
  refine lv_iadd hx hb dX4_certifiedKilos_17 ?_
  refine lv_istore_n (lv' := [(1, .int ((((0 + (g 5 j 0)) + (g 5 j 1)) + (g 5 j 2)) + (g 5 j 3))), (2, .int 3), (0, .ref (ad 6 j))]) hx hb dX4_certifiedKilos_18 rfl hl (by decide) rfl (fun ls hl => ?_)
  refine lv_iinc (v := 4) (lv' := [(2, .int 4), (1, .int ((((0 + (g 5 j 0)) + (g 5 j 1)) + (g 5 j 2)) + (g 5 j 3))), (0, .ref (ad 6 j))]) hx hb dX4_certifiedKilos_19 hl (k := 1) rfl (by decide) (by decide) rfl (fun ls hl => ?_)
  refine lv_goto (tgt := 4) hx hb dX4_certifiedKilos_22 (by decide) ?_
  refine lv_iload_n hx hb dX4_certifiedKilos_4 rfl (lv_at hl 0 rfl) ?_
  refine lv_bipush (v := 6) hx hb dX4_certifiedKilos_5 (by decide) ?_
  refine lv_icmp_ge (tgt := 25) hx hb dX4_certifiedKilos_7 (by decide) (fun c => absurd c (by decide)) (fun _ => ?_)
  refine lv_iload_n hx hb dX4_certifiedKilos_10 rfl (lv_at hl 1 rfl) ?_
  refine lv_aload_n hx hb dX4_certifiedKilos_11 rfl (lv_at hl 2 rfl) ?_
  refine gt_6_1 hx hb hts iX4_certifiedKilos_X4 hown hB.1 hC hrow_j qX4_certifiedKilos_w1 dX4_certifiedKilos_12 ?_
  refine lv_iload_n hx hb dX4_certifiedKilos_15 rfl (lv_at hl 0 rfl) ?_
  refine ld_8 hx hb hB.1 hC hrow_j (k := 4) (by decide) (by unfold vp_in; decide) dX4_certifiedKilos_16 ?_
  refine lv_iadd hx hb dX4_certifiedKilos_17 ?_
  refine lv_istore_n (lv' := [(1, .int (((((0 + (g 5 j 0)) + (g 5 j 1)) + (g 5 j 2)) + (g 5 j 3)) + (g 5 j 4))), (2, .int 4), (0, .ref (ad 6 j))]) hx hb dX4_certifiedKilos_18 rfl hl (by decide) rfl (fun ls hl => ?_)
  refine lv_iinc (v := 5) (lv' := [(2, .int 5), (1, .int (((((0 + (g 5 j 0)) + (g 5 j 1)) + (g 5 j 2)) + (g 5 j 3)) + (g 5 j 4))), (0, .ref (ad 6 j))]) hx hb dX4_certifiedKilos_19 hl (k := 1) rfl (by decide) (by decide) rfl (fun ls hl => ?_)
  refine lv_goto (tgt := 4) hx hb dX4_certifiedKilos_22 (by decide) ?_
  refine lv_iload_n hx hb dX4_certifiedKilos_4 rfl (lv_at hl 0 rfl) ?_
  refine lv_bipush (v := 6) hx hb dX4_certifiedKilos_5 (by decide) ?_
  refine lv_icmp_ge (tgt := 25) hx hb dX4_certifiedKilos_7 (by decide) (fun c => absurd c (by decide)) (fun _ => ?_)
  refine lv_iload_n hx hb dX4_certifiedKilos_10 rfl (lv_at hl 1 rfl) ?_
  refine lv_aload_n hx hb dX4_certifiedKilos_11 rfl (lv_at hl 2 rfl) ?_
  refine gt_6_1 hx hb hts iX4_certifiedKilos_X4 hown hB.1 hC hrow_j qX4_certifiedKilos_w1 dX4_certifiedKilos_12 ?_
  refine lv_iload_n hx hb dX4_certifiedKilos_15 rfl (lv_at hl 0 rfl) ?_
  refine ld_8 hx hb hB.1 hC hrow_j (k := 5) (by decide) (by unfold vp_in; decide) dX4_certifiedKilos_16 ?_
  refine lv_iadd hx hb dX4_certifiedKilos_17 ?_
  refine lv_istore_n (lv' := [(1, .int ((((((0 + (g 5 j 0)) + (g 5 j 1)) + (g 5 j 2)) + (g 5 j 3)) + (g 5 j 4)) + (g 5 j 5))), (2, .int 5), (0, .ref (ad 6 j))]) hx hb dX4_certifiedKilos_18 rfl hl (by decide) rfl (fun ls hl => ?_)
  refine lv_iinc (v := 6) (lv' := [(2, .int 6), (1, .int ((((((0 + (g 5 j 0)) + (g 5 j 1)) + (g 5 j 2)) + (g 5 j 3)) + (g 5 j 4)) + (g 5 j 5))), (0, .ref (ad 6 j))]) hx hb dX4_certifiedKilos_19 hl (k := 1) rfl (by decide) (by decide) rfl (fun ls hl => ?_)
  refine lv_goto (tgt := 4) hx hb dX4_certifiedKilos_22 (by decide) ?_
  refine lv_iload_n hx hb dX4_certifiedKilos_4 rfl (lv_at hl 0 rfl) ?_
  refine lv_bipush (v := 6) hx hb dX4_certifiedKilos_5 (by decide) ?_
  refine lv_icmp_ge (tgt := 25) hx hb dX4_certifiedKilos_7 (by decide) (fun _ => ?_) (fun c => absurd c (by decide))
  refine lv_iload_n hx hb dX4_certifiedKilos_25 rfl (lv_at hl 1 rfl) ?_
  exact q_reti hx hb hr hB hC hS rfl rfl hlocks dX4_certifiedKilos_26
def fX4_height (g : Gd) (j : Nat) : Int32 := if (g 3 j 0) ≤ 0 then (0) else (((((((0 + ((g 4 j 0) * (g 1 0 0))) + ((g 4 j 1) * (g 1 1 0))) + ((g 4 j 2) * (g 1 2 0))) + ((g 4 j 3) * (g 1 3 0))) + ((g 4 j 4) * (g 1 4 0))) + ((g 4 j 5) * (g 1 5 0))) / (g 3 j 0))
theorem qX4_height_w1 : Cond.fieldLink RX4 9 "CherryStation$Mix" "kilosBy" "[I" ∈ wsX4_height := List.mem_of_getElem? (i := 1) rfl
theorem qX4_height_w2 : Cond.fieldLink RX4 25 "CherryStation$Farm" "height" "I" ∈ wsX4_height := List.mem_of_getElem? (i := 2) rfl
theorem qX4_height_w3 : Cond.fieldLink RX4 18 "CherryStation$Mix" "kilos" "I" ∈ wsX4_height := List.mem_of_getElem? (i := 3) rfl
theorem iX4_height_X2 : ∀ w ∈ wsX20, w ∈ wsX4_height := fun _ h => (List.mem_cons_of_mem _ (List.mem_append_right _ h))
theorem iX4_height_X4 : ∀ w ∈ wsX40, w ∈ wsX4_height := fun _ h => (List.mem_cons_of_mem _ (List.mem_append_left _ (List.mem_append_right _ h)))
set_option maxRecDepth 100000 in
set_option maxHeartbeats 4000000 in
theorem kX4_height (l : Launch) (D : va_G) (cy : Nat → ClassId) {ad : Nat → Nat → Nat} (hI : cI ad) (g : Gd) (sz : Nat) (j : Nat) (hrow_j : j < 21) : Met l yX4_height wsX4_height ({ frames := 0, cells := 0, slots := 0, locals := 0 } : Room) (va_Pc [.ref (ad 6 j), .ref (ad 10 0)] (cPre D cy ad g sz)) (cQi D cy ad (fX4_height g j) g sz) 0 0 (cA ad sz) := by
  refine q_start (cc := cX4_height) (maxL := 4) (ret := (some .int)) (own := RX4) (by decide) rfl rfl (Nat.le_of_ble_eq_true rfl) ?_
  intro p e s m below meth c hx hb hr hml hts hown hlocks ⟨hsz, hC, hB⟩ ls hl
  subst hsz
  have hS : va_S (cA ad s.heap.size) s.heap s.heap [] := va_S.rf
  have hA : ∀ κ i : Nat, cV κ i → cA ad s.heap.size (ad κ i) := fun κ i h => Or.inl ⟨κ, i, h, rfl⟩
  have hl : lv_has ls 4 [(0, .ref (ad 6 j)), (1, .ref (ad 10 0))] := hl
  refine lv_iconst (v := 0) hx hb dX4_height_0 (by decide) ?_
  refine lv_istore_n (lv' := [(2, .int 0), (0, .ref (ad 6 j)), (1, .ref (ad 10 0))]) hx hb dX4_height_1 rfl hl (by decide) rfl (fun ls hl => ?_)
  refine lv_iconst (v := 0) hx hb dX4_height_2 (by decide) ?_
  refine lv_istore_n (lv' := [(3, .int 0), (2, .int 0), (0, .ref (ad 6 j)), (1, .ref (ad 10 0))]) hx hb dX4_height_3 rfl hl (by decide) rfl (fun ls hl => ?_)
  refine lv_iload_n hx hb dX4_height_4 rfl (lv_at hl 0 rfl) ?_
  refine lv_bipush (v := 6) hx hb dX4_height_5 (by decide) ?_
  refine lv_icmp_ge (tgt := 38) hx hb dX4_height_7 (by decide) (fun c => absurd c (by decide)) (fun _ => ?_)
  refine lv_iload_n hx hb dX4_height_10 rfl (lv_at hl 0 rfl) ?_
  refine lv_aload_n hx hb dX4_height_11 rfl (lv_at hl 3 rfl) ?_
  refine ln_10 hx hb hB.1 hC dX4_height_12 ?_
  refine lv_icmp_ge (tgt := 38) hx hb dX4_height_13 (by decide) (fun c => absurd c (by decide)) (fun _ => ?_)
  refine lv_iload_n hx hb dX4_height_16 rfl (lv_at hl 1 rfl) ?_
  refine lv_aload_n hx hb dX4_height_17 rfl (lv_at hl 2 rfl) ?_
  refine gt_6_0 hx hb hts iX4_height_X4 hown hB.1 hC hrow_j qX4_height_w1 dX4_height_18 ?_
  refine lv_iload_n hx hb dX4_height_21 rfl (lv_at hl 0 rfl) ?_
  refine ld_7 hx hb hB.1 hC hrow_j (k := 0) (by decide) (by unfold vp_in; decide) dX4_height_22 ?_
  refine lv_aload_n hx hb dX4_height_23 rfl (lv_at hl 3 rfl) ?_
  refine lv_iload_n hx hb dX4_height_24 rfl (lv_at hl 0 rfl) ?_
  refine la_10 hx hb hB.1 hC (k := 0) (by decide) (by unfold vp_in; decide) dX4_height_25 ?_
  refine gt_1_0 hx hb hts iX4_height_X2 hown hB.1 hC (by decide) qX4_height_w2 dX4_height_26 ?_
  refine lv_imul hx hb dX4_height_29 ?_
  refine lv_iadd hx hb dX4_height_30 ?_
  refine lv_istore_n (lv' := [(2, .int (0 + ((g 4 j 0) * (g 1 0 0)))), (3, .int 0), (0, .ref (ad 6 j)), (1, .ref (ad 10 0))]) hx hb dX4_height_31 rfl hl (by decide) rfl (fun ls hl => ?_)
  refine lv_iinc (v := 1) (lv' := [(3, .int 1), (2, .int (0 + ((g 4 j 0) * (g 1 0 0)))), (0, .ref (ad 6 j)), (1, .ref (ad 10 0))]) hx hb dX4_height_32 hl (k := 1) rfl (by decide) (by decide) rfl (fun ls hl => ?_)
  refine lv_goto (tgt := 4) hx hb dX4_height_35 (by decide) ?_
  refine lv_iload_n hx hb dX4_height_4 rfl (lv_at hl 0 rfl) ?_
  refine lv_bipush (v := 6) hx hb dX4_height_5 (by decide) ?_
  refine lv_icmp_ge (tgt := 38) hx hb dX4_height_7 (by decide) (fun c => absurd c (by decide)) (fun _ => ?_)
  refine lv_iload_n hx hb dX4_height_10 rfl (lv_at hl 0 rfl) ?_
  refine lv_aload_n hx hb dX4_height_11 rfl (lv_at hl 3 rfl) ?_
  refine ln_10 hx hb hB.1 hC dX4_height_12 ?_
  refine lv_icmp_ge (tgt := 38) hx hb dX4_height_13 (by decide) (fun c => absurd c (by decide)) (fun _ => ?_)
  refine lv_iload_n hx hb dX4_height_16 rfl (lv_at hl 1 rfl) ?_
  refine lv_aload_n hx hb dX4_height_17 rfl (lv_at hl 2 rfl) ?_
  refine gt_6_0 hx hb hts iX4_height_X4 hown hB.1 hC hrow_j qX4_height_w1 dX4_height_18 ?_
  refine lv_iload_n hx hb dX4_height_21 rfl (lv_at hl 0 rfl) ?_
  refine ld_7 hx hb hB.1 hC hrow_j (k := 1) (by decide) (by unfold vp_in; decide) dX4_height_22 ?_
  refine lv_aload_n hx hb dX4_height_23 rfl (lv_at hl 3 rfl) ?_
  refine lv_iload_n hx hb dX4_height_24 rfl (lv_at hl 0 rfl) ?_
  refine la_10 hx hb hB.1 hC (k := 1) (by decide) (by unfold vp_in; decide) dX4_height_25 ?_
  refine gt_1_0 hx hb hts iX4_height_X2 hown hB.1 hC (by decide) qX4_height_w2 dX4_height_26 ?_
  refine lv_imul hx hb dX4_height_29 ?_
  refine lv_iadd hx hb dX4_height_30 ?_
  refine lv_istore_n (lv' := [(2, .int ((0 + ((g 4 j 0) * (g 1 0 0))) + ((g 4 j 1) * (g 1 1 0)))), (3, .int 1), (0, .ref (ad 6 j)), (1, .ref (ad 10 0))]) hx hb dX4_height_31 rfl hl (by decide) rfl (fun ls hl => ?_)
  refine lv_iinc (v := 2) (lv' := [(3, .int 2), (2, .int ((0 + ((g 4 j 0) * (g 1 0 0))) + ((g 4 j 1) * (g 1 1 0)))), (0, .ref (ad 6 j)), (1, .ref (ad 10 0))]) hx hb dX4_height_32 hl (k := 1) rfl (by decide) (by decide) rfl (fun ls hl => ?_)
  refine lv_goto (tgt := 4) hx hb dX4_height_35 (by decide) ?_
  refine lv_iload_n hx hb dX4_height_4 rfl (lv_at hl 0 rfl) ?_
  refine lv_bipush (v := 6) hx hb dX4_height_5 (by decide) ?_
  refine lv_icmp_ge (tgt := 38) hx hb dX4_height_7 (by decide) (fun c => absurd c (by decide)) (fun _ => ?_)
  refine lv_iload_n hx hb dX4_height_10 rfl (lv_at hl 0 rfl) ?_
  refine lv_aload_n hx hb dX4_height_11 rfl (lv_at hl 3 rfl) ?_
  refine ln_10 hx hb hB.1 hC dX4_height_12 ?_
  refine lv_icmp_ge (tgt := 38) hx hb dX4_height_13 (by decide) (fun c => absurd c (by decide)) (fun _ => ?_)
  refine lv_iload_n hx hb dX4_height_16 rfl (lv_at hl 1 rfl) ?_
  refine lv_aload_n hx hb dX4_height_17 rfl (lv_at hl 2 rfl) ?_
  refine gt_6_0 hx hb hts iX4_height_X4 hown hB.1 hC hrow_j qX4_height_w1 dX4_height_18 ?_
  refine lv_iload_n hx hb dX4_height_21 rfl (lv_at hl 0 rfl) ?_
  refine ld_7 hx hb hB.1 hC hrow_j (k := 2) (by decide) (by unfold vp_in; decide) dX4_height_22 ?_
  refine lv_aload_n hx hb dX4_height_23 rfl (lv_at hl 3 rfl) ?_
  refine lv_iload_n hx hb dX4_height_24 rfl (lv_at hl 0 rfl) ?_
  refine la_10 hx hb hB.1 hC (k := 2) (by decide) (by unfold vp_in; decide) dX4_height_25 ?_
  refine gt_1_0 hx hb hts iX4_height_X2 hown hB.1 hC (by decide) qX4_height_w2 dX4_height_26 ?_
  refine lv_imul hx hb dX4_height_29 ?_
  refine lv_iadd hx hb dX4_height_30 ?_
  refine lv_istore_n (lv' := [(2, .int (((0 + ((g 4 j 0) * (g 1 0 0))) + ((g 4 j 1) * (g 1 1 0))) + ((g 4 j 2) * (g 1 2 0)))), (3, .int 2), (0, .ref (ad 6 j)), (1, .ref (ad 10 0))]) hx hb dX4_height_31 rfl hl (by decide) rfl (fun ls hl => ?_)
  refine lv_iinc (v := 3) (lv' := [(3, .int 3), (2, .int (((0 + ((g 4 j 0) * (g 1 0 0))) + ((g 4 j 1) * (g 1 1 0))) + ((g 4 j 2) * (g 1 2 0)))), (0, .ref (ad 6 j)), (1, .ref (ad 10 0))]) hx hb dX4_height_32 hl (k := 1) rfl (by decide) (by decide) rfl (fun ls hl => ?_)
  refine lv_goto (tgt := 4) hx hb dX4_height_35 (by decide) ?_
  refine lv_iload_n hx hb dX4_height_4 rfl (lv_at hl 0 rfl) ?_
  refine lv_bipush (v := 6) hx hb dX4_height_5 (by decide) ?_
  refine lv_icmp_ge (tgt := 38) hx hb dX4_height_7 (by decide) (fun c => absurd c (by decide)) (fun _ => ?_)
  refine lv_iload_n hx hb dX4_height_10 rfl (lv_at hl 0 rfl) ?_
  refine lv_aload_n hx hb dX4_height_11 rfl (lv_at hl 3 rfl) ?_
  refine ln_10 hx hb hB.1 hC dX4_height_12 ?_
  refine lv_icmp_ge (tgt := 38) hx hb dX4_height_13 (by decide) (fun c => absurd c (by decide)) (fun _ => ?_)
  refine lv_iload_n hx hb dX4_height_16 rfl (lv_at hl 1 rfl) ?_
  refine lv_aload_n hx hb dX4_height_17 rfl (lv_at hl 2 rfl) ?_
  refine gt_6_0 hx hb hts iX4_height_X4 hown hB.1 hC hrow_j qX4_height_w1 dX4_height_18 ?_
  refine lv_iload_n hx hb dX4_height_21 rfl (lv_at hl 0 rfl) ?_
  refine ld_7 hx hb hB.1 hC hrow_j (k := 3) (by decide) (by unfold vp_in; decide) dX4_height_22 ?_
  refine lv_aload_n hx hb dX4_height_23 rfl (lv_at hl 3 rfl) ?_
  refine lv_iload_n hx hb dX4_height_24 rfl (lv_at hl 0 rfl) ?_
  refine la_10 hx hb hB.1 hC (k := 3) (by decide) (by unfold vp_in; decide) dX4_height_25 ?_
  refine gt_1_0 hx hb hts iX4_height_X2 hown hB.1 hC (by decide) qX4_height_w2 dX4_height_26 ?_
  refine lv_imul hx hb dX4_height_29 ?_
  refine lv_iadd hx hb dX4_height_30 ?_
  refine lv_istore_n (lv' := [(2, .int ((((0 + ((g 4 j 0) * (g 1 0 0))) + ((g 4 j 1) * (g 1 1 0))) + ((g 4 j 2) * (g 1 2 0))) + ((g 4 j 3) * (g 1 3 0)))), (3, .int 3), (0, .ref (ad 6 j)), (1, .ref (ad 10 0))]) hx hb dX4_height_31 rfl hl (by decide) rfl (fun ls hl => ?_)
  refine lv_iinc (v := 4) (lv' := [(3, .int 4), (2, .int ((((0 + ((g 4 j 0) * (g 1 0 0))) + ((g 4 j 1) * (g 1 1 0))) + ((g 4 j 2) * (g 1 2 0))) + ((g 4 j 3) * (g 1 3 0)))), (0, .ref (ad 6 j)), (1, .ref (ad 10 0))]) hx hb dX4_height_32 hl (k := 1) rfl (by decide) (by decide) rfl (fun ls hl => ?_)
  refine lv_goto (tgt := 4) hx hb dX4_height_35 (by decide) ?_
  refine lv_iload_n hx hb dX4_height_4 rfl (lv_at hl 0 rfl) ?_
  refine lv_bipush (v := 6) hx hb dX4_height_5 (by decide) ?_
  refine lv_icmp_ge (tgt := 38) hx hb dX4_height_7 (by decide) (fun c => absurd c (by decide)) (fun _ => ?_)
  refine lv_iload_n hx hb dX4_height_10 rfl (lv_at hl 0 rfl) ?_
  refine lv_aload_n hx hb dX4_height_11 rfl (lv_at hl 3 rfl) ?_
  refine ln_10 hx hb hB.1 hC dX4_height_12 ?_
  refine lv_icmp_ge (tgt := 38) hx hb dX4_height_13 (by decide) (fun c => absurd c (by decide)) (fun _ => ?_)
  refine lv_iload_n hx hb dX4_height_16 rfl (lv_at hl 1 rfl) ?_
  refine lv_aload_n hx hb dX4_height_17 rfl (lv_at hl 2 rfl) ?_
  refine gt_6_0 hx hb hts iX4_height_X4 hown hB.1 hC hrow_j qX4_height_w1 dX4_height_18 ?_
  refine lv_iload_n hx hb dX4_height_21 rfl (lv_at hl 0 rfl) ?_
  refine ld_7 hx hb hB.1 hC hrow_j (k := 4) (by decide) (by unfold vp_in; decide) dX4_height_22 ?_
  refine lv_aload_n hx hb dX4_height_23 rfl (lv_at hl 3 rfl) ?_
  refine lv_iload_n hx hb dX4_height_24 rfl (lv_at hl 0 rfl) ?_
  refine la_10 hx hb hB.1 hC (k := 4) (by decide) (by unfold vp_in; decide) dX4_height_25 ?_
  refine gt_1_0 hx hb hts iX4_height_X2 hown hB.1 hC (by decide) qX4_height_w2 dX4_height_26 ?_
  refine lv_imul hx hb dX4_height_29 ?_
  refine lv_iadd hx hb dX4_height_30 ?_
  refine lv_istore_n (lv' := [(2, .int (((((0 + ((g 4 j 0) * (g 1 0 0))) + ((g 4 j 1) * (g 1 1 0))) + ((g 4 j 2) * (g 1 2 0))) + ((g 4 j 3) * (g 1 3 0))) + ((g 4 j 4) * (g 1 4 0)))), (3, .int 4), (0, .ref (ad 6 j)), (1, .ref (ad 10 0))]) hx hb dX4_height_31 rfl hl (by decide) rfl (fun ls hl => ?_)
  refine lv_iinc (v := 5) (lv' := [(3, .int 5), (2, .int (((((0 + ((g 4 j 0) * (g 1 0 0))) + ((g 4 j 1) * (g 1 1 0))) + ((g 4 j 2) * (g 1 2 0))) + ((g 4 j 3) * (g 1 3 0))) + ((g 4 j 4) * (g 1 4 0)))), (0, .ref (ad 6 j)), (1, .ref (ad 10 0))]) hx hb dX4_height_32 hl (k := 1) rfl (by decide) (by decide) rfl (fun ls hl => ?_)
  refine lv_goto (tgt := 4) hx hb dX4_height_35 (by decide) ?_
  refine lv_iload_n hx hb dX4_height_4 rfl (lv_at hl 0 rfl) ?_
  refine lv_bipush (v := 6) hx hb dX4_height_5 (by decide) ?_
  refine lv_icmp_ge (tgt := 38) hx hb dX4_height_7 (by decide) (fun c => absurd c (by decide)) (fun _ => ?_)
  refine lv_iload_n hx hb dX4_height_10 rfl (lv_at hl 0 rfl) ?_
  refine lv_aload_n hx hb dX4_height_11 rfl (lv_at hl 3 rfl) ?_
  refine ln_10 hx hb hB.1 hC dX4_height_12 ?_
  refine lv_icmp_ge (tgt := 38) hx hb dX4_height_13 (by decide) (fun c => absurd c (by decide)) (fun _ => ?_)
  refine lv_iload_n hx hb dX4_height_16 rfl (lv_at hl 1 rfl) ?_
  refine lv_aload_n hx hb dX4_height_17 rfl (lv_at hl 2 rfl) ?_
  refine gt_6_0 hx hb hts iX4_height_X4 hown hB.1 hC hrow_j qX4_height_w1 dX4_height_18 ?_
  refine lv_iload_n hx hb dX4_height_21 rfl (lv_at hl 0 rfl) ?_
  refine ld_7 hx hb hB.1 hC hrow_j (k := 5) (by decide) (by unfold vp_in; decide) dX4_height_22 ?_
  refine lv_aload_n hx hb dX4_height_23 rfl (lv_at hl 3 rfl) ?_
  refine lv_iload_n hx hb dX4_height_24 rfl (lv_at hl 0 rfl) ?_
  refine la_10 hx hb hB.1 hC (k := 5) (by decide) (by unfold vp_in; decide) dX4_height_25 ?_
  refine gt_1_0 hx hb hts iX4_height_X2 hown hB.1 hC (by decide) qX4_height_w2 dX4_height_26 ?_
  refine lv_imul hx hb dX4_height_29 ?_
  refine lv_iadd hx hb dX4_height_30 ?_
  refine lv_istore_n (lv' := [(2, .int ((((((0 + ((g 4 j 0) * (g 1 0 0))) + ((g 4 j 1) * (g 1 1 0))) + ((g 4 j 2) * (g 1 2 0))) + ((g 4 j 3) * (g 1 3 0))) + ((g 4 j 4) * (g 1 4 0))) + ((g 4 j 5) * (g 1 5 0)))), (3, .int 5), (0, .ref (ad 6 j)), (1, .ref (ad 10 0))]) hx hb dX4_height_31 rfl hl (by decide) rfl (fun ls hl => ?_)
  refine lv_iinc (v := 6) (lv' := [(3, .int 6), (2, .int ((((((0 + ((g 4 j 0) * (g 1 0 0))) + ((g 4 j 1) * (g 1 1 0))) + ((g 4 j 2) * (g 1 2 0))) + ((g 4 j 3) * (g 1 3 0))) + ((g 4 j 4) * (g 1 4 0))) + ((g 4 j 5) * (g 1 5 0)))), (0, .ref (ad 6 j)), (1, .ref (ad 10 0))]) hx hb dX4_height_32 hl (k := 1) rfl (by decide) (by decide) rfl (fun ls hl => ?_)
  refine lv_goto (tgt := 4) hx hb dX4_height_35 (by decide) ?_
  refine lv_iload_n hx hb dX4_height_4 rfl (lv_at hl 0 rfl) ?_
  refine lv_bipush (v := 6) hx hb dX4_height_5 (by decide) ?_
  refine lv_icmp_ge (tgt := 38) hx hb dX4_height_7 (by decide) (fun _ => ?_) (fun c => absurd c (by decide))
  refine lv_aload_n hx hb dX4_height_38 rfl (lv_at hl 2 rfl) ?_
  refine gt_6_2 hx hb hts iX4_height_X4 hown hB.1 hC hrow_j qX4_height_w3 dX4_height_39 ?_
  refine lv_if_le (tgt := 54) hx hb dX4_height_42 (by decide) (fun c1 => ?_) (fun c1 => ?_)
  · skip
    refine lv_iconst (v := 0) hx hb dX4_height_54 (by decide) ?_
    exact q_reti hx hb hr hB hC hS rfl (by unfold fX4_height; rw [if_pos c1]) hlocks dX4_height_55
  · skip
    refine lv_iload_n hx hb dX4_height_45 rfl (lv_at hl 1 rfl) ?_
    refine lv_aload_n hx hb dX4_height_46 rfl (lv_at hl 2 rfl) ?_
    refine gt_6_2 hx hb hts iX4_height_X4 hown hB.1 hC hrow_j qX4_height_w3 dX4_height_47 ?_
    refine lv_idiv hx hb dX4_height_50 (fun h => c1 (by rw [h]; decide)) ?_
    refine lv_goto (tgt := 55) hx hb dX4_height_51 (by decide) ?_
    exact q_reti hx hb hr hB hC hS rfl (by unfold fX4_height; rw [if_neg c1]) hlocks dX4_height_55
def fX4_clear (g : Gd) (j : Nat) : Gd := (up (up (up (up (up (up (up (up (up (up (up (up (up (up g 4 j 0 0) 5 j 0 0) 4 j 1 0) 5 j 1 0) 4 j 2 0) 5 j 2 0) 4 j 3 0) 5 j 3 0) 4 j 4 0) 5 j 4 0) 4 j 5 0) 5 j 5 0) 3 j 0 0) 3 j 1 0)
theorem qX4_clear_w1 : Cond.fieldLink RX4 9 "CherryStation$Mix" "kilosBy" "[I" ∈ wsX4_clear := List.mem_of_getElem? (i := 1) rfl
theorem qX4_clear_w2 : Cond.fieldLink RX4 15 "CherryStation$Mix" "certifiedBy" "[I" ∈ wsX4_clear := List.mem_of_getElem? (i := 2) rfl
theorem qX4_clear_w3 : Cond.fieldLink RX4 18 "CherryStation$Mix" "kilos" "I" ∈ wsX4_clear := List.mem_of_getElem? (i := 3) rfl
theorem qX4_clear_w4 : Cond.fieldLink RX4 22 "CherryStation$Mix" "ripe" "I" ∈ wsX4_clear := List.mem_of_getElem? (i := 4) rfl
theorem iX4_clear_X4 : ∀ w ∈ wsX40, w ∈ wsX4_clear := fun _ h => (List.mem_cons_of_mem _ (List.mem_append_right _ h))
set_option maxRecDepth 100000 in
set_option maxHeartbeats 4000000 in
theorem kX4_clear (l : Launch) (D : va_G) (cy : Nat → ClassId) {ad : Nat → Nat → Nat} (hI : cI ad) (g : Gd) (sz : Nat) (j : Nat) (hrow_j : j < 21) : Met l yX4_clear wsX4_clear ({ frames := 0, cells := 0, slots := 0, locals := 0 } : Room) (va_Pc [.ref (ad 6 j)] (cPre D cy ad g sz)) (cQv D cy ad (fX4_clear g j) sz) 0 0 (cA ad sz) := by
  refine q_start (cc := cX4_clear) (maxL := 2) (ret := none) (own := RX4) (by decide) rfl rfl (Nat.le_of_ble_eq_true rfl) ?_
  intro p e s m below meth c hx hb hr hml hts hown hlocks ⟨hsz, hC, hB⟩ ls hl
  subst hsz
  have hS : va_S (cA ad s.heap.size) s.heap s.heap [] := va_S.rf
  have hA : ∀ κ i : Nat, cV κ i → cA ad s.heap.size (ad κ i) := fun κ i h => Or.inl ⟨κ, i, h, rfl⟩
  have hl : lv_has ls 2 [(0, .ref (ad 6 j))] := hl
  refine lv_iconst (v := 0) hx hb dX4_clear_0 (by decide) ?_
  refine lv_istore_n (lv' := [(1, .int 0), (0, .ref (ad 6 j))]) hx hb dX4_clear_1 rfl hl (by decide) rfl (fun ls hl => ?_)
  refine lv_iload_n hx hb dX4_clear_2 rfl (lv_at hl 0 rfl) ?_
  refine lv_bipush (v := 6) hx hb dX4_clear_3 (by decide) ?_
  refine lv_icmp_ge (tgt := 28) hx hb dX4_clear_5 (by decide) (fun c => absurd c (by decide)) (fun _ => ?_)
  refine lv_aload_n hx hb dX4_clear_8 rfl (lv_at hl 1 rfl) ?_
  refine gt_6_0 hx hb hts iX4_clear_X4 hown hB.1 hC hrow_j qX4_clear_w1 dX4_clear_9 ?_
  refine lv_iload_n hx hb dX4_clear_12 rfl (lv_at hl 0 rfl) ?_
  refine lv_iconst (v := 0) hx hb dX4_clear_13 (by decide) ?_
  refine st_7 hx hb hB.1 hC hI hS hA hrow_j (k := 0) (by decide) (by unfold vp_in; decide) dX4_clear_14 (fun H locs hC hS => ?_)
  refine lv_aload_n hx hb dX4_clear_15 rfl (lv_at hl 1 rfl) ?_
  refine gt_6_1 hx hb hts iX4_clear_X4 hown hB.1 hC hrow_j qX4_clear_w2 dX4_clear_16 ?_
  refine lv_iload_n hx hb dX4_clear_19 rfl (lv_at hl 0 rfl) ?_
  refine lv_iconst (v := 0) hx hb dX4_clear_20 (by decide) ?_
  refine st_8 hx hb hB.1 hC hI hS hA hrow_j (k := 0) (by decide) (by unfold vp_in; decide) dX4_clear_21 (fun H locs hC hS => ?_)
  refine lv_iinc (v := 1) (lv' := [(1, .int 1), (0, .ref (ad 6 j))]) hx hb dX4_clear_22 hl (k := 0) rfl (by decide) (by decide) rfl (fun ls hl => ?_)
  refine lv_goto (tgt := 2) hx hb dX4_clear_25 (by decide) ?_
  refine lv_iload_n hx hb dX4_clear_2 rfl (lv_at hl 0 rfl) ?_
  refine lv_bipush (v := 6) hx hb dX4_clear_3 (by decide) ?_
  refine lv_icmp_ge (tgt := 28) hx hb dX4_clear_5 (by decide) (fun c => absurd c (by decide)) (fun _ => ?_)
  refine lv_aload_n hx hb dX4_clear_8 rfl (lv_at hl 1 rfl) ?_
  refine gt_6_0 hx hb hts iX4_clear_X4 hown hB.1 hC hrow_j qX4_clear_w1 dX4_clear_9 ?_
  refine lv_iload_n hx hb dX4_clear_12 rfl (lv_at hl 0 rfl) ?_
  refine lv_iconst (v := 0) hx hb dX4_clear_13 (by decide) ?_
  refine st_7 hx hb hB.1 hC hI hS hA hrow_j (k := 1) (by decide) (by unfold vp_in; decide) dX4_clear_14 (fun H locs hC hS => ?_)
  refine lv_aload_n hx hb dX4_clear_15 rfl (lv_at hl 1 rfl) ?_
  refine gt_6_1 hx hb hts iX4_clear_X4 hown hB.1 hC hrow_j qX4_clear_w2 dX4_clear_16 ?_
  refine lv_iload_n hx hb dX4_clear_19 rfl (lv_at hl 0 rfl) ?_
  refine lv_iconst (v := 0) hx hb dX4_clear_20 (by decide) ?_
  refine st_8 hx hb hB.1 hC hI hS hA hrow_j (k := 1) (by decide) (by unfold vp_in; decide) dX4_clear_21 (fun H locs hC hS => ?_)
  refine lv_iinc (v := 2) (lv' := [(1, .int 2), (0, .ref (ad 6 j))]) hx hb dX4_clear_22 hl (k := 0) rfl (by decide) (by decide) rfl (fun ls hl => ?_)
  refine lv_goto (tgt := 2) hx hb dX4_clear_25 (by decide) ?_
  refine lv_iload_n hx hb dX4_clear_2 rfl (lv_at hl 0 rfl) ?_
  refine lv_bipush (v := 6) hx hb dX4_clear_3 (by decide) ?_
  refine lv_icmp_ge (tgt := 28) hx hb dX4_clear_5 (by decide) (fun c => absurd c (by decide)) (fun _ => ?_)
  refine lv_aload_n hx hb dX4_clear_8 rfl (lv_at hl 1 rfl) ?_
  refine gt_6_0 hx hb hts iX4_clear_X4 hown hB.1 hC hrow_j qX4_clear_w1 dX4_clear_9 ?_
  refine lv_iload_n hx hb dX4_clear_12 rfl (lv_at hl 0 rfl) ?_
  refine lv_iconst (v := 0) hx hb dX4_clear_13 (by decide) ?_
  refine st_7 hx hb hB.1 hC hI hS hA hrow_j (k := 2) (by decide) (by unfold vp_in; decide) dX4_clear_14 (fun H locs hC hS => ?_)
  refine lv_aload_n hx hb dX4_clear_15 rfl (lv_at hl 1 rfl) ?_
  refine gt_6_1 hx hb hts iX4_clear_X4 hown hB.1 hC hrow_j qX4_clear_w2 dX4_clear_16 ?_
  refine lv_iload_n hx hb dX4_clear_19 rfl (lv_at hl 0 rfl) ?_
  refine lv_iconst (v := 0) hx hb dX4_clear_20 (by decide) ?_
  refine st_8 hx hb hB.1 hC hI hS hA hrow_j (k := 2) (by decide) (by unfold vp_in; decide) dX4_clear_21 (fun H locs hC hS => ?_)
  refine lv_iinc (v := 3) (lv' := [(1, .int 3), (0, .ref (ad 6 j))]) hx hb dX4_clear_22 hl (k := 0) rfl (by decide) (by decide) rfl (fun ls hl => ?_)
  refine lv_goto (tgt := 2) hx hb dX4_clear_25 (by decide) ?_
  refine lv_iload_n hx hb dX4_clear_2 rfl (lv_at hl 0 rfl) ?_
  refine lv_bipush (v := 6) hx hb dX4_clear_3 (by decide) ?_
  refine lv_icmp_ge (tgt := 28) hx hb dX4_clear_5 (by decide) (fun c => absurd c (by decide)) (fun _ => ?_)
  refine lv_aload_n hx hb dX4_clear_8 rfl (lv_at hl 1 rfl) ?_
  refine gt_6_0 hx hb hts iX4_clear_X4 hown hB.1 hC hrow_j qX4_clear_w1 dX4_clear_9 ?_
  refine lv_iload_n hx hb dX4_clear_12 rfl (lv_at hl 0 rfl) ?_
  refine lv_iconst (v := 0) hx hb dX4_clear_13 (by decide) ?_
  refine st_7 hx hb hB.1 hC hI hS hA hrow_j (k := 3) (by decide) (by unfold vp_in; decide) dX4_clear_14 (fun H locs hC hS => ?_)
  refine lv_aload_n hx hb dX4_clear_15 rfl (lv_at hl 1 rfl) ?_
  refine gt_6_1 hx hb hts iX4_clear_X4 hown hB.1 hC hrow_j qX4_clear_w2 dX4_clear_16 ?_
  refine lv_iload_n hx hb dX4_clear_19 rfl (lv_at hl 0 rfl) ?_
  refine lv_iconst (v := 0) hx hb dX4_clear_20 (by decide) ?_
  refine st_8 hx hb hB.1 hC hI hS hA hrow_j (k := 3) (by decide) (by unfold vp_in; decide) dX4_clear_21 (fun H locs hC hS => ?_)
  refine lv_iinc (v := 4) (lv' := [(1, .int 4), (0, .ref (ad 6 j))]) hx hb dX4_clear_22 hl (k := 0) rfl (by decide) (by decide) rfl (fun ls hl => ?_)
  refine lv_goto (tgt := 2) hx hb dX4_clear_25 (by decide) ?_
  refine lv_iload_n hx hb dX4_clear_2 rfl (lv_at hl 0 rfl) ?_
  refine lv_bipush (v := 6) hx hb dX4_clear_3 (by decide) ?_
  refine lv_icmp_ge (tgt := 28) hx hb dX4_clear_5 (by decide) (fun c => absurd c (by decide)) (fun _ => ?_)
  refine lv_aload_n hx hb dX4_clear_8 rfl (lv_at hl 1 rfl) ?_
  refine gt_6_0 hx hb hts iX4_clear_X4 hown hB.1 hC hrow_j qX4_clear_w1 dX4_clear_9 ?_
  refine lv_iload_n hx hb dX4_clear_12 rfl (lv_at hl 0 rfl) ?_
  refine lv_iconst (v := 0) hx hb dX4_clear_13 (by decide) ?_
  refine st_7 hx hb hB.1 hC hI hS hA hrow_j (k := 4) (by decide) (by unfold vp_in; decide) dX4_clear_14 (fun H locs hC hS => ?_)
  refine lv_aload_n hx hb dX4_clear_15 rfl (lv_at hl 1 rfl) ?_
  refine gt_6_1 hx hb hts iX4_clear_X4 hown hB.1 hC hrow_j qX4_clear_w2 dX4_clear_16 ?_
  refine lv_iload_n hx hb dX4_clear_19 rfl (lv_at hl 0 rfl) ?_
  refine lv_iconst (v := 0) hx hb dX4_clear_20 (by decide) ?_
  refine st_8 hx hb hB.1 hC hI hS hA hrow_j (k := 4) (by decide) (by unfold vp_in; decide) dX4_clear_21 (fun H locs hC hS => ?_)
  refine lv_iinc (v := 5) (lv' := [(1, .int 5), (0, .ref (ad 6 j))]) hx hb dX4_clear_22 hl (k := 0) rfl (by decide) (by decide) rfl (fun ls hl => ?_)
  refine lv_goto (tgt := 2) hx hb dX4_clear_25 (by decide) ?_
  refine lv_iload_n hx hb dX4_clear_2 rfl (lv_at hl 0 rfl) ?_
  refine lv_bipush (v := 6) hx hb dX4_clear_3 (by decide) ?_
  refine lv_icmp_ge (tgt := 28) hx hb dX4_clear_5 (by decide) (fun c => absurd c (by decide)) (fun _ => ?_)
  refine lv_aload_n hx hb dX4_clear_8 rfl (lv_at hl 1 rfl) ?_
  refine gt_6_0 hx hb hts iX4_clear_X4 hown hB.1 hC hrow_j qX4_clear_w1 dX4_clear_9 ?_
  refine lv_iload_n hx hb dX4_clear_12 rfl (lv_at hl 0 rfl) ?_
  refine lv_iconst (v := 0) hx hb dX4_clear_13 (by decide) ?_
  refine st_7 hx hb hB.1 hC hI hS hA hrow_j (k := 5) (by decide) (by unfold vp_in; decide) dX4_clear_14 (fun H locs hC hS => ?_)
  refine lv_aload_n hx hb dX4_clear_15 rfl (lv_at hl 1 rfl) ?_
  refine gt_6_1 hx hb hts iX4_clear_X4 hown hB.1 hC hrow_j qX4_clear_w2 dX4_clear_16 ?_
  refine lv_iload_n hx hb dX4_clear_19 rfl (lv_at hl 0 rfl) ?_
  refine lv_iconst (v := 0) hx hb dX4_clear_20 (by decide) ?_
  refine st_8 hx hb hB.1 hC hI hS hA hrow_j (k := 5) (by decide) (by unfold vp_in; decide) dX4_clear_21 (fun H locs hC hS => ?_)
  refine lv_iinc (v := 6) (lv' := [(1, .int 6), (0, .ref (ad 6 j))]) hx hb dX4_clear_22 hl (k := 0) rfl (by decide) (by decide) rfl (fun ls hl => ?_)
  refine lv_goto (tgt := 2) hx hb dX4_clear_25 (by decide) ?_
  refine lv_iload_n hx hb dX4_clear_2 rfl (lv_at hl 0 rfl) ?_
  refine lv_bipush (v := 6) hx hb dX4_clear_3 (by decide) ?_
  refine lv_icmp_ge (tgt := 28) hx hb dX4_clear_5 (by decide) (fun _ => ?_) (fun c => absurd c (by decide))
  refine lv_aload_n hx hb dX4_clear_28 rfl (lv_at hl 1 rfl) ?_
  refine lv_iconst (v := 0) hx hb dX4_clear_29 (by decide) ?_
  refine pt_6_2 hx hb hts iX4_clear_X4 hown hB.1 hC hI hS hA hrow_j qX4_clear_w3 dX4_clear_30 (fun H locs hC hS => ?_)
  refine lv_aload_n hx hb dX4_clear_33 rfl (lv_at hl 1 rfl) ?_
  refine lv_iconst (v := 0) hx hb dX4_clear_34 (by decide) ?_
  refine pt_6_3 hx hb hts iX4_clear_X4 hown hB.1 hC hI hS hA hrow_j qX4_clear_w4 dX4_clear_35 (fun H locs hC hS => ?_)
  exact q_retv hx hb hr hB hC hS rfl hlocks dX4_clear_38
def fX4_addBasket (g : Gd) (j : Nat) (b : Nat) (sm : Int32) : Gd := if (g 2 b 5) = 0 then ((up (up (up g 3 j 1 (fX6_meanByKilos (g 3 j 0) (g 3 j 1) sm (g 2 b 2))) 4 j ((g 2 b 0).toNatClampNeg) ((g 4 j ((g 2 b 0).toNatClampNeg)) + sm)) 3 j 0 ((g 3 j 0) + sm))) else ((up (up (up (up g 3 j 1 (fX6_meanByKilos (g 3 j 0) (g 3 j 1) sm (g 2 b 2))) 4 j ((g 2 b 0).toNatClampNeg) ((g 4 j ((g 2 b 0).toNatClampNeg)) + sm)) 5 j ((g 2 b 0).toNatClampNeg) ((g 5 j ((g 2 b 0).toNatClampNeg)) + sm)) 3 j 0 ((g 3 j 0) + sm)))
theorem qX4_addBasket_w1 : Cond.fieldLink RX4 18 "CherryStation$Mix" "kilos" "I" ∈ wsX4_addBasket := List.mem_of_getElem? (i := 1) rfl
theorem qX4_addBasket_w2 : Cond.fieldLink RX4 22 "CherryStation$Mix" "ripe" "I" ∈ wsX4_addBasket := List.mem_of_getElem? (i := 2) rfl
theorem qX4_addBasket_w3 : Cond.fieldLink RX4 30 "CherryStation$Basket" "ripe" "I" ∈ wsX4_addBasket := List.mem_of_getElem? (i := 3) rfl
theorem qX4_addBasket_w4 : Cond.fieldLink RX4 9 "CherryStation$Mix" "kilosBy" "[I" ∈ wsX4_addBasket := List.mem_of_getElem? (i := 4) rfl
theorem qX4_addBasket_w5 : Cond.fieldLink RX4 37 "CherryStation$Basket" "farm" "I" ∈ wsX4_addBasket := List.mem_of_getElem? (i := 5) rfl
theorem qX4_addBasket_w6 : Cond.fieldLink RX4 40 "CherryStation$Basket" "isCertified" "Z" ∈ wsX4_addBasket := List.mem_of_getElem? (i := 6) rfl
theorem qX4_addBasket_w7 : Cond.fieldLink RX4 15 "CherryStation$Mix" "certifiedBy" "[I" ∈ wsX4_addBasket := List.mem_of_getElem? (i := 7) rfl
theorem qX4_addBasket_w8 : Cond.static yX6_meanByKilos ∈ wsX4_addBasket := List.mem_of_getElem? (i := 8) rfl
theorem qX4_addBasket_w9 : Cond.initialized RX6 ∈ wsX4_addBasket := List.mem_of_getElem? (i := 9) rfl
theorem iX4_addBasket_X0 : ∀ w ∈ wsX00, w ∈ wsX4_addBasket := fun _ h => (List.mem_cons_of_mem _ (List.mem_append_right _ h))
theorem iX4_addBasket_X4 : ∀ w ∈ wsX40, w ∈ wsX4_addBasket := fun _ h => (List.mem_cons_of_mem _ (List.mem_append_left _ (List.mem_append_right _ h)))
set_option maxRecDepth 100000 in
set_option maxHeartbeats 4000000 in
theorem kX4_addBasket (l : Launch) (D : va_G) (cy : Nat → ClassId) {ad : Nat → Nat → Nat} (hI : cI ad) (g : Gd) (sz : Nat) (j : Nat) (hrow_j : j < 21) (b : Nat) (hrow_b : b < 20) (sm : Int32) (hf : vp_in (g 2 b 0) 6) : Met l yX4_addBasket wsX4_addBasket ({ frames := 1, cells := 0, slots := 0, locals := 24 } : Room) (va_Pc [.ref (ad 6 j), .ref (ad 2 b), .int sm] (cPre D cy ad g sz)) (cQv D cy ad (fX4_addBasket g j b sm) sz) 0 0 (cA ad sz) := by
  refine q_start (cc := cX4_addBasket) (maxL := 3) (ret := none) (own := RX4) (by decide) rfl rfl (Nat.le_of_ble_eq_true rfl) ?_
  intro p e s m below meth c hx hb hr hml hts hown hlocks ⟨hsz, hC, hB⟩ ls hl
  subst hsz
  have hS : va_S (cA ad s.heap.size) s.heap s.heap [] := va_S.rf
  have hA : ∀ κ i : Nat, cV κ i → cA ad s.heap.size (ad κ i) := fun κ i h => Or.inl ⟨κ, i, h, rfl⟩
  have hl : lv_has ls 3 [(0, .ref (ad 6 j)), (1, .ref (ad 2 b)), (2, .int sm)] := hl
  refine lv_aload_n hx hb dX4_addBasket_0 rfl (lv_at hl 0 rfl) ?_
  refine lv_aload_n hx hb dX4_addBasket_1 rfl (lv_at hl 0 rfl) ?_
  refine gt_6_2 hx hb hts iX4_addBasket_X4 hown hB.1 hC hrow_j qX4_addBasket_w1 dX4_addBasket_2 ?_
  refine lv_aload_n hx hb dX4_addBasket_5 rfl (lv_at hl 0 rfl) ?_
  refine gt_6_3 hx hb hts iX4_addBasket_X4 hown hB.1 hC hrow_j qX4_addBasket_w2 dX4_addBasket_6 ?_
  refine lv_iload_n hx hb dX4_addBasket_9 rfl (lv_at hl 2 rfl) ?_
  refine lv_aload_n hx hb dX4_addBasket_10 rfl (lv_at hl 1 rfl) ?_
  refine gt_2_2 hx hb hts iX4_addBasket_X0 hown hB.1 hC hrow_b qX4_addBasket_w3 dX4_addBasket_11 ?_
  refine q_callNi (As := [.int (g 3 j 0), .int (g 3 j 1), .int sm, .int (g 2 b 2)])  ⟨hx, hb, hml, hown, hts⟩ (kX6_meanByKilos l D cy hI g _  (g 3 j 0) (g 3 j 1) sm (g 2 b 2) ) ⟨va_cnB 4 hts gX4_addBasket_X6_meanByKilos_n33 rfl rfl rfl (hB.2.1.1 _ (List.mem_of_getElem? (i := 8) rfl)) (hts _ qX4_addBasket_w9) (by decide +kernel) ⟨Nat.le_of_ble_eq_true rfl, Nat.le_of_ble_eq_true rfl⟩, hts _ qX4_addBasket_w8, trivial⟩ hB hC hS rfl hl.1 (Nat.le_of_ble_eq_true rfl) dX4_addBasket_14 ⟨Nat.le_of_ble_eq_true rfl, Nat.le_of_ble_eq_true rfl⟩ (fun H locs hC hS => ?_)
  refine pt_6_3 hx hb hts iX4_addBasket_X4 hown hB.1 hC hI hS hA hrow_j qX4_addBasket_w2 dX4_addBasket_17 (fun H locs hC hS => ?_)
  refine lv_aload_n hx hb dX4_addBasket_20 rfl (lv_at hl 0 rfl) ?_
  refine gt_6_0 hx hb hts iX4_addBasket_X4 hown hB.1 hC hrow_j qX4_addBasket_w4 dX4_addBasket_21 ?_
  refine lv_aload_n hx hb dX4_addBasket_24 rfl (lv_at hl 1 rfl) ?_
  refine gt_2_0 hx hb hts iX4_addBasket_X0 hown hB.1 hC hrow_b qX4_addBasket_w5 dX4_addBasket_25 ?_
  refine q_val (v := g 2 b 0) ((up_nt (by decide)).trans rfl) ?_
  refine lv_dup2_11 hx hb dX4_addBasket_28 rfl rfl ?_
  refine ld_7 hx hb hB.1 hC hrow_j (k := (g 2 b 0).toNatClampNeg) rfl hf dX4_addBasket_29 ?_
  refine q_val (v := g 4 j ((g 2 b 0).toNatClampNeg)) ((up_nt (by decide)).trans rfl) ?_
  refine lv_iload_n hx hb dX4_addBasket_30 rfl (lv_at hl 2 rfl) ?_
  refine lv_iadd hx hb dX4_addBasket_31 ?_
  refine st_7 hx hb hB.1 hC hI hS hA hrow_j (k := (g 2 b 0).toNatClampNeg) rfl hf dX4_addBasket_32 (fun H locs hC hS => ?_)
  refine lv_aload_n hx hb dX4_addBasket_33 rfl (lv_at hl 1 rfl) ?_
  refine gt_2_5 hx hb hts iX4_addBasket_X0 hown hB.1 hC hrow_b qX4_addBasket_w6 dX4_addBasket_34 ?_
  refine q_val (v := g 2 b 5) ((up_nt (by decide)).trans ((up_nt (by decide)).trans rfl)) ?_
  refine lv_if_eq (tgt := 53) hx hb dX4_addBasket_37 (by decide) (fun c1 => ?_) (fun c1 => ?_)
  · skip
    refine lv_aload_n hx hb dX4_addBasket_53 rfl (lv_at hl 0 rfl) ?_
    refine lv_dup hx hb dX4_addBasket_54 rfl ?_
    refine gt_6_2 hx hb hts iX4_addBasket_X4 hown hB.1 hC hrow_j qX4_addBasket_w1 dX4_addBasket_55 ?_
    refine q_val (v := g 3 j 0) ((up_nt (by decide)).trans ((up_nk (by decide)).trans rfl)) ?_
    refine lv_iload_n hx hb dX4_addBasket_58 rfl (lv_at hl 2 rfl) ?_
    refine lv_iadd hx hb dX4_addBasket_59 ?_
    refine pt_6_2 hx hb hts iX4_addBasket_X4 hown hB.1 hC hI hS hA hrow_j qX4_addBasket_w1 dX4_addBasket_60 (fun H locs hC hS => ?_)
    exact q_retv hx hb hr hB hC hS (by unfold fX4_addBasket; rw [if_pos c1]) hlocks dX4_addBasket_63
  · skip
    refine lv_aload_n hx hb dX4_addBasket_40 rfl (lv_at hl 0 rfl) ?_
    refine gt_6_1 hx hb hts iX4_addBasket_X4 hown hB.1 hC hrow_j qX4_addBasket_w7 dX4_addBasket_41 ?_
    refine lv_aload_n hx hb dX4_addBasket_44 rfl (lv_at hl 1 rfl) ?_
    refine gt_2_0 hx hb hts iX4_addBasket_X0 hown hB.1 hC hrow_b qX4_addBasket_w5 dX4_addBasket_45 ?_
    refine q_val (v := g 2 b 0) ((up_nt (by decide)).trans ((up_nt (by decide)).trans rfl)) ?_
    refine lv_dup2_11 hx hb dX4_addBasket_48 rfl rfl ?_
    refine ld_8 hx hb hB.1 hC hrow_j (k := (g 2 b 0).toNatClampNeg) rfl hf dX4_addBasket_49 ?_
    refine q_val (v := g 5 j ((g 2 b 0).toNatClampNeg)) ((up_nt (by decide)).trans ((up_nt (by decide)).trans rfl)) ?_
    refine lv_iload_n hx hb dX4_addBasket_50 rfl (lv_at hl 2 rfl) ?_
    refine lv_iadd hx hb dX4_addBasket_51 ?_
    refine st_8 hx hb hB.1 hC hI hS hA hrow_j (k := (g 2 b 0).toNatClampNeg) rfl hf dX4_addBasket_52 (fun H locs hC hS => ?_)
    refine lv_aload_n hx hb dX4_addBasket_53 rfl (lv_at hl 0 rfl) ?_
    refine lv_dup hx hb dX4_addBasket_54 rfl ?_
    refine gt_6_2 hx hb hts iX4_addBasket_X4 hown hB.1 hC hrow_j qX4_addBasket_w1 dX4_addBasket_55 ?_
    refine q_val (v := g 3 j 0) ((up_nt (by decide)).trans ((up_nt (by decide)).trans ((up_nk (by decide)).trans rfl))) ?_
    refine lv_iload_n hx hb dX4_addBasket_58 rfl (lv_at hl 2 rfl) ?_
    refine lv_iadd hx hb dX4_addBasket_59 ?_
    refine pt_6_2 hx hb hts iX4_addBasket_X4 hown hB.1 hC hI hS hA hrow_j qX4_addBasket_w1 dX4_addBasket_60 (fun H locs hC hS => ?_)
    exact q_retv hx hb hr hB hC hS (by unfold fX4_addBasket; rw [if_neg c1]) hlocks dX4_addBasket_63
def fX4_addMix (g : Gd) (j : Nat) (o : Nat) : Gd := (up (up (up (up (up (up (up (up (up (up (up (up (up (up g 3 j 1 (fX6_meanByKilos (g 3 j 0) (g 3 j 1) (g 3 o 0) (g 3 o 1))) 4 j 0 ((g 4 j 0) + (g 4 o 0))) 5 j 0 ((g 5 j 0) + (g 5 o 0))) 4 j 1 ((g 4 j 1) + (g 4 o 1))) 5 j 1 ((g 5 j 1) + (g 5 o 1))) 4 j 2 ((g 4 j 2) + (g 4 o 2))) 5 j 2 ((g 5 j 2) + (g 5 o 2))) 4 j 3 ((g 4 j 3) + (g 4 o 3))) 5 j 3 ((g 5 j 3) + (g 5 o 3))) 4 j 4 ((g 4 j 4) + (g 4 o 4))) 5 j 4 ((g 5 j 4) + (g 5 o 4))) 4 j 5 ((g 4 j 5) + (g 4 o 5))) 5 j 5 ((g 5 j 5) + (g 5 o 5))) 3 j 0 ((g 3 j 0) + (g 3 o 0)))
theorem qX4_addMix_w1 : Cond.fieldLink RX4 18 "CherryStation$Mix" "kilos" "I" ∈ wsX4_addMix := List.mem_of_getElem? (i := 1) rfl
theorem qX4_addMix_w2 : Cond.fieldLink RX4 22 "CherryStation$Mix" "ripe" "I" ∈ wsX4_addMix := List.mem_of_getElem? (i := 2) rfl
theorem qX4_addMix_w3 : Cond.fieldLink RX4 9 "CherryStation$Mix" "kilosBy" "[I" ∈ wsX4_addMix := List.mem_of_getElem? (i := 3) rfl
theorem qX4_addMix_w4 : Cond.fieldLink RX4 15 "CherryStation$Mix" "certifiedBy" "[I" ∈ wsX4_addMix := List.mem_of_getElem? (i := 4) rfl
theorem qX4_addMix_w5 : Cond.static yX6_meanByKilos ∈ wsX4_addMix := List.mem_of_getElem? (i := 5) rfl
theorem qX4_addMix_w6 : Cond.initialized RX6 ∈ wsX4_addMix := List.mem_of_getElem? (i := 6) rfl
theorem iX4_addMix_X4 : ∀ w ∈ wsX40, w ∈ wsX4_addMix := fun _ h => (List.mem_cons_of_mem _ (List.mem_append_right _ h))
set_option maxRecDepth 100000 in
set_option maxHeartbeats 4000000 in
theorem kX4_addMix (l : Launch) (D : va_G) (cy : Nat → ClassId) {ad : Nat → Nat → Nat} (hI : cI ad) (g : Gd) (sz : Nat) (j : Nat) (hrow_j : j < 21) (o : Nat) (hrow_o : o < 21) (hne : ¬ j = o) : Met l yX4_addMix wsX4_addMix ({ frames := 1, cells := 0, slots := 0, locals := 24 } : Room) (va_Pc [.ref (ad 6 j), .ref (ad 6 o)] (cPre D cy ad g sz)) (cQv D cy ad (fX4_addMix g j o) sz) 0 0 (cA ad sz) := by
  refine q_start (cc := cX4_addMix) (maxL := 3) (ret := none) (own := RX4) (by decide) rfl rfl (Nat.le_of_ble_eq_true rfl) ?_
  intro p e s m below meth c hx hb hr hml hts hown hlocks ⟨hsz, hC, hB⟩ ls hl
  subst hsz
  have hS : va_S (cA ad s.heap.size) s.heap s.heap [] := va_S.rf
  have hA : ∀ κ i : Nat, cV κ i → cA ad s.heap.size (ad κ i) := fun κ i h => Or.inl ⟨κ, i, h, rfl⟩
  have hl : lv_has ls 3 [(0, .ref (ad 6 j)), (1, .ref (ad 6 o))] := hl
  refine lv_aload_n hx hb dX4_addMix_0 rfl (lv_at hl 0 rfl) ?_
  refine lv_aload_n hx hb dX4_addMix_1 rfl (lv_at hl 0 rfl) ?_
  refine gt_6_2 hx hb hts iX4_addMix_X4 hown hB.1 hC hrow_j qX4_addMix_w1 dX4_addMix_2 ?_
  refine lv_aload_n hx hb dX4_addMix_5 rfl (lv_at hl 0 rfl) ?_
  refine gt_6_3 hx hb hts iX4_addMix_X4 hown hB.1 hC hrow_j qX4_addMix_w2 dX4_addMix_6 ?_
  refine lv_aload_n hx hb dX4_addMix_9 rfl (lv_at hl 1 rfl) ?_
  refine gt_6_2 hx hb hts iX4_addMix_X4 hown hB.1 hC hrow_o qX4_addMix_w1 dX4_addMix_10 ?_
  refine lv_aload_n hx hb dX4_addMix_13 rfl (lv_at hl 1 rfl) ?_
  refine gt_6_3 hx hb hts iX4_addMix_X4 hown hB.1 hC hrow_o qX4_addMix_w2 dX4_addMix_14 ?_
  refine q_callNi (As := [.int (g 3 j 0), .int (g 3 j 1), .int (g 3 o 0), .int (g 3 o 1)])  ⟨hx, hb, hml, hown, hts⟩ (kX6_meanByKilos l D cy hI g _  (g 3 j 0) (g 3 j 1) (g 3 o 0) (g 3 o 1) ) ⟨va_cnB 4 hts gX4_addMix_X6_meanByKilos_n33 rfl rfl rfl (hB.2.1.1 _ (List.mem_of_getElem? (i := 8) rfl)) (hts _ qX4_addMix_w6) (by decide +kernel) ⟨Nat.le_of_ble_eq_true rfl, Nat.le_of_ble_eq_true rfl⟩, hts _ qX4_addMix_w5, trivial⟩ hB hC hS rfl hl.1 (Nat.le_of_ble_eq_true rfl) dX4_addMix_17 ⟨Nat.le_of_ble_eq_true rfl, Nat.le_of_ble_eq_true rfl⟩ (fun H locs hC hS => ?_)
  refine pt_6_3 hx hb hts iX4_addMix_X4 hown hB.1 hC hI hS hA hrow_j qX4_addMix_w2 dX4_addMix_20 (fun H locs hC hS => ?_)
  refine lv_iconst (v := 0) hx hb dX4_addMix_23 (by decide) ?_
  refine lv_istore_n (lv' := [(2, .int 0), (0, .ref (ad 6 j)), (1, .ref (ad 6 o))]) hx hb dX4_addMix_24 rfl hl (by decide) rfl (fun ls hl => ?_)
  refine lv_iload_n hx hb dX4_addMix_25 rfl (lv_at hl 0 rfl) ?_
  refine lv_bipush (v := 6) hx hb dX4_addMix_26 (by decide) ?_
  refine lv_icmp_ge (tgt := 67) hx hb dX4_addMix_28 (by decide) (fun c => absurd c (by decide)) (fun _ => ?_)
  refine lv_aload_n hx hb dX4_addMix_31 rfl (lv_at hl 1 rfl) ?_
  refine gt_6_0 hx hb hts iX4_addMix_X4 hown hB.1 hC hrow_j qX4_addMix_w3 dX4_addMix_32 ?_
  refine lv_iload_n hx hb dX4_addMix_35 rfl (lv_at hl 0 rfl) ?_
  refine lv_dup2_11 hx hb dX4_addMix_36 rfl rfl ?_
  refine ld_7 hx hb hB.1 hC hrow_j (k := 0) (by decide) (by unfold vp_in; decide) dX4_addMix_37 ?_
  refine q_val (v := g 4 j 0) ((up_nt (by decide)).trans rfl) ?_
  refine lv_aload_n hx hb dX4_addMix_38 rfl (lv_at hl 2 rfl) ?_
  refine gt_6_0 hx hb hts iX4_addMix_X4 hown hB.1 hC hrow_o qX4_addMix_w3 dX4_addMix_39 ?_
  refine lv_iload_n hx hb dX4_addMix_42 rfl (lv_at hl 0 rfl) ?_
  refine ld_7 hx hb hB.1 hC hrow_o (k := 0) (by decide) (by unfold vp_in; decide) dX4_addMix_43 ?_
  refine q_val (v := g 4 o 0) ((up_nt (by decide)).trans rfl) ?_
  refine lv_iadd hx hb dX4_addMix_44 ?_
  refine st_7 hx hb hB.1 hC hI hS hA hrow_j (k := 0) (by decide) (by unfold vp_in; decide) dX4_addMix_45 (fun H locs hC hS => ?_)
  refine lv_aload_n hx hb dX4_addMix_46 rfl (lv_at hl 1 rfl) ?_
  refine gt_6_1 hx hb hts iX4_addMix_X4 hown hB.1 hC hrow_j qX4_addMix_w4 dX4_addMix_47 ?_
  refine lv_iload_n hx hb dX4_addMix_50 rfl (lv_at hl 0 rfl) ?_
  refine lv_dup2_11 hx hb dX4_addMix_51 rfl rfl ?_
  refine ld_8 hx hb hB.1 hC hrow_j (k := 0) (by decide) (by unfold vp_in; decide) dX4_addMix_52 ?_
  refine q_val (v := g 5 j 0) ((up_nt (by decide)).trans ((up_nt (by decide)).trans rfl)) ?_
  refine lv_aload_n hx hb dX4_addMix_53 rfl (lv_at hl 2 rfl) ?_
  refine gt_6_1 hx hb hts iX4_addMix_X4 hown hB.1 hC hrow_o qX4_addMix_w4 dX4_addMix_54 ?_
  refine lv_iload_n hx hb dX4_addMix_57 rfl (lv_at hl 0 rfl) ?_
  refine ld_8 hx hb hB.1 hC hrow_o (k := 0) (by decide) (by unfold vp_in; decide) dX4_addMix_58 ?_
  refine q_val (v := g 5 o 0) ((up_nt (by decide)).trans ((up_nt (by decide)).trans rfl)) ?_
  refine lv_iadd hx hb dX4_addMix_59 ?_
  refine st_8 hx hb hB.1 hC hI hS hA hrow_j (k := 0) (by decide) (by unfold vp_in; decide) dX4_addMix_60 (fun H locs hC hS => ?_)
  refine lv_iinc (v := 1) (lv' := [(2, .int 1), (0, .ref (ad 6 j)), (1, .ref (ad 6 o))]) hx hb dX4_addMix_61 hl (k := 0) rfl (by decide) (by decide) rfl (fun ls hl => ?_)
  refine lv_goto (tgt := 25) hx hb dX4_addMix_64 (by decide) ?_
  refine lv_iload_n hx hb dX4_addMix_25 rfl (lv_at hl 0 rfl) ?_
  refine lv_bipush (v := 6) hx hb dX4_addMix_26 (by decide) ?_
  refine lv_icmp_ge (tgt := 67) hx hb dX4_addMix_28 (by decide) (fun c => absurd c (by decide)) (fun _ => ?_)
  refine lv_aload_n hx hb dX4_addMix_31 rfl (lv_at hl 1 rfl) ?_
  refine gt_6_0 hx hb hts iX4_addMix_X4 hown hB.1 hC hrow_j qX4_addMix_w3 dX4_addMix_32 ?_
  refine lv_iload_n hx hb dX4_addMix_35 rfl (lv_at hl 0 rfl) ?_
  refine lv_dup2_11 hx hb dX4_addMix_36 rfl rfl ?_
  refine ld_7 hx hb hB.1 hC hrow_j (k := 1) (by decide) (by unfold vp_in; decide) dX4_addMix_37 ?_
  refine q_val (v := g 4 j 1) ((up_nt (by decide)).trans ((up_nk (by decide)).trans ((up_nt (by decide)).trans rfl))) ?_
  refine lv_aload_n hx hb dX4_addMix_38 rfl (lv_at hl 2 rfl) ?_
  refine gt_6_0 hx hb hts iX4_addMix_X4 hown hB.1 hC hrow_o qX4_addMix_w3 dX4_addMix_39 ?_
  refine lv_iload_n hx hb dX4_addMix_42 rfl (lv_at hl 0 rfl) ?_
  refine ld_7 hx hb hB.1 hC hrow_o (k := 1) (by decide) (by unfold vp_in; decide) dX4_addMix_43 ?_
  refine q_val (v := g 4 o 1) ((up_nt (by decide)).trans ((up_nk (by decide)).trans ((up_nt (by decide)).trans rfl))) ?_
  refine lv_iadd hx hb dX4_addMix_44 ?_
  refine st_7 hx hb hB.1 hC hI hS hA hrow_j (k := 1) (by decide) (by unfold vp_in; decide) dX4_addMix_45 (fun H locs hC hS => ?_)
  refine lv_aload_n hx hb dX4_addMix_46 rfl (lv_at hl 1 rfl) ?_
  refine gt_6_1 hx hb hts iX4_addMix_X4 hown hB.1 hC hrow_j qX4_addMix_w4 dX4_addMix_47 ?_
  refine lv_iload_n hx hb dX4_addMix_50 rfl (lv_at hl 0 rfl) ?_
  refine lv_dup2_11 hx hb dX4_addMix_51 rfl rfl ?_
  refine ld_8 hx hb hB.1 hC hrow_j (k := 1) (by decide) (by unfold vp_in; decide) dX4_addMix_52 ?_
  refine q_val (v := g 5 j 1) ((up_nt (by decide)).trans ((up_nk (by decide)).trans ((up_nt (by decide)).trans ((up_nt (by decide)).trans rfl)))) ?_
  refine lv_aload_n hx hb dX4_addMix_53 rfl (lv_at hl 2 rfl) ?_
  refine gt_6_1 hx hb hts iX4_addMix_X4 hown hB.1 hC hrow_o qX4_addMix_w4 dX4_addMix_54 ?_
  refine lv_iload_n hx hb dX4_addMix_57 rfl (lv_at hl 0 rfl) ?_
  refine ld_8 hx hb hB.1 hC hrow_o (k := 1) (by decide) (by unfold vp_in; decide) dX4_addMix_58 ?_
  refine q_val (v := g 5 o 1) ((up_nt (by decide)).trans ((up_nk (by decide)).trans ((up_nt (by decide)).trans ((up_nt (by decide)).trans rfl)))) ?_
  refine lv_iadd hx hb dX4_addMix_59 ?_
  refine st_8 hx hb hB.1 hC hI hS hA hrow_j (k := 1) (by decide) (by unfold vp_in; decide) dX4_addMix_60 (fun H locs hC hS => ?_)
  refine lv_iinc (v := 2) (lv' := [(2, .int 2), (0, .ref (ad 6 j)), (1, .ref (ad 6 o))]) hx hb dX4_addMix_61 hl (k := 0) rfl (by decide) (by decide) rfl (fun ls hl => ?_)
  refine lv_goto (tgt := 25) hx hb dX4_addMix_64 (by decide) ?_
  refine lv_iload_n hx hb dX4_addMix_25 rfl (lv_at hl 0 rfl) ?_
  refine lv_bipush (v := 6) hx hb dX4_addMix_26 (by decide) ?_
  refine lv_icmp_ge (tgt := 67) hx hb dX4_addMix_28 (by decide) (fun c => absurd c (by decide)) (fun _ => ?_)
  refine lv_aload_n hx hb dX4_addMix_31 rfl (lv_at hl 1 rfl) ?_
  refine gt_6_0 hx hb hts iX4_addMix_X4 hown hB.1 hC hrow_j qX4_addMix_w3 dX4_addMix_32 ?_
  refine lv_iload_n hx hb dX4_addMix_35 rfl (lv_at hl 0 rfl) ?_
  refine lv_dup2_11 hx hb dX4_addMix_36 rfl rfl ?_
  refine ld_7 hx hb hB.1 hC hrow_j (k := 2) (by decide) (by unfold vp_in; decide) dX4_addMix_37 ?_
  refine q_val (v := g 4 j 2) ((up_nt (by decide)).trans ((up_nk (by decide)).trans ((up_nt (by decide)).trans ((up_nk (by decide)).trans ((up_nt (by decide)).trans rfl))))) ?_
  refine lv_aload_n hx hb dX4_addMix_38 rfl (lv_at hl 2 rfl) ?_
  refine gt_6_0 hx hb hts iX4_addMix_X4 hown hB.1 hC hrow_o qX4_addMix_w3 dX4_addMix_39 ?_
  refine lv_iload_n hx hb dX4_addMix_42 rfl (lv_at hl 0 rfl) ?_
  refine ld_7 hx hb hB.1 hC hrow_o (k := 2) (by decide) (by unfold vp_in; decide) dX4_addMix_43 ?_
  refine q_val (v := g 4 o 2) ((up_nt (by decide)).trans ((up_nk (by decide)).trans ((up_nt (by decide)).trans ((up_nk (by decide)).trans ((up_nt (by decide)).trans rfl))))) ?_
  refine lv_iadd hx hb dX4_addMix_44 ?_
  refine st_7 hx hb hB.1 hC hI hS hA hrow_j (k := 2) (by decide) (by unfold vp_in; decide) dX4_addMix_45 (fun H locs hC hS => ?_)
  refine lv_aload_n hx hb dX4_addMix_46 rfl (lv_at hl 1 rfl) ?_
  refine gt_6_1 hx hb hts iX4_addMix_X4 hown hB.1 hC hrow_j qX4_addMix_w4 dX4_addMix_47 ?_
  refine lv_iload_n hx hb dX4_addMix_50 rfl (lv_at hl 0 rfl) ?_
  refine lv_dup2_11 hx hb dX4_addMix_51 rfl rfl ?_
  refine ld_8 hx hb hB.1 hC hrow_j (k := 2) (by decide) (by unfold vp_in; decide) dX4_addMix_52 ?_
  refine q_val (v := g 5 j 2) ((up_nt (by decide)).trans ((up_nk (by decide)).trans ((up_nt (by decide)).trans ((up_nk (by decide)).trans ((up_nt (by decide)).trans ((up_nt (by decide)).trans rfl)))))) ?_
  refine lv_aload_n hx hb dX4_addMix_53 rfl (lv_at hl 2 rfl) ?_
  refine gt_6_1 hx hb hts iX4_addMix_X4 hown hB.1 hC hrow_o qX4_addMix_w4 dX4_addMix_54 ?_
  refine lv_iload_n hx hb dX4_addMix_57 rfl (lv_at hl 0 rfl) ?_
  refine ld_8 hx hb hB.1 hC hrow_o (k := 2) (by decide) (by unfold vp_in; decide) dX4_addMix_58 ?_
  refine q_val (v := g 5 o 2) ((up_nt (by decide)).trans ((up_nk (by decide)).trans ((up_nt (by decide)).trans ((up_nk (by decide)).trans ((up_nt (by decide)).trans ((up_nt (by decide)).trans rfl)))))) ?_
  refine lv_iadd hx hb dX4_addMix_59 ?_
  refine st_8 hx hb hB.1 hC hI hS hA hrow_j (k := 2) (by decide) (by unfold vp_in; decide) dX4_addMix_60 (fun H locs hC hS => ?_)
  refine lv_iinc (v := 3) (lv' := [(2, .int 3), (0, .ref (ad 6 j)), (1, .ref (ad 6 o))]) hx hb dX4_addMix_61 hl (k := 0) rfl (by decide) (by decide) rfl (fun ls hl => ?_)
  refine lv_goto (tgt := 25) hx hb dX4_addMix_64 (by decide) ?_
  refine lv_iload_n hx hb dX4_addMix_25 rfl (lv_at hl 0 rfl) ?_
  refine lv_bipush (v := 6) hx hb dX4_addMix_26 (by decide) ?_
  refine lv_icmp_ge (tgt := 67) hx hb dX4_addMix_28 (by decide) (fun c => absurd c (by decide)) (fun _ => ?_)
  refine lv_aload_n hx hb dX4_addMix_31 rfl (lv_at hl 1 rfl) ?_
  refine gt_6_0 hx hb hts iX4_addMix_X4 hown hB.1 hC hrow_j qX4_addMix_w3 dX4_addMix_32 ?_
  refine lv_iload_n hx hb dX4_addMix_35 rfl (lv_at hl 0 rfl) ?_
  refine lv_dup2_11 hx hb dX4_addMix_36 rfl rfl ?_
  refine ld_7 hx hb hB.1 hC hrow_j (k := 3) (by decide) (by unfold vp_in; decide) dX4_addMix_37 ?_
  refine q_val (v := g 4 j 3) ((up_nt (by decide)).trans ((up_nk (by decide)).trans ((up_nt (by decide)).trans ((up_nk (by decide)).trans ((up_nt (by decide)).trans ((up_nk (by decide)).trans ((up_nt (by decide)).trans rfl))))))) ?_
  refine lv_aload_n hx hb dX4_addMix_38 rfl (lv_at hl 2 rfl) ?_
  refine gt_6_0 hx hb hts iX4_addMix_X4 hown hB.1 hC hrow_o qX4_addMix_w3 dX4_addMix_39 ?_
  refine lv_iload_n hx hb dX4_addMix_42 rfl (lv_at hl 0 rfl) ?_
  refine ld_7 hx hb hB.1 hC hrow_o (k := 3) (by decide) (by unfold vp_in; decide) dX4_addMix_43 ?_
  refine q_val (v := g 4 o 3) ((up_nt (by decide)).trans ((up_nk (by decide)).trans ((up_nt (by decide)).trans ((up_nk (by decide)).trans ((up_nt (by decide)).trans ((up_nk (by decide)).trans ((up_nt (by decide)).trans rfl))))))) ?_
  refine lv_iadd hx hb dX4_addMix_44 ?_
  refine st_7 hx hb hB.1 hC hI hS hA hrow_j (k := 3) (by decide) (by unfold vp_in; decide) dX4_addMix_45 (fun H locs hC hS => ?_)
  refine lv_aload_n hx hb dX4_addMix_46 rfl (lv_at hl 1 rfl) ?_
  refine gt_6_1 hx hb hts iX4_addMix_X4 hown hB.1 hC hrow_j qX4_addMix_w4 dX4_addMix_47 ?_
  refine lv_iload_n hx hb dX4_addMix_50 rfl (lv_at hl 0 rfl) ?_
  refine lv_dup2_11 hx hb dX4_addMix_51 rfl rfl ?_
  refine ld_8 hx hb hB.1 hC hrow_j (k := 3) (by decide) (by unfold vp_in; decide) dX4_addMix_52 ?_
  refine q_val (v := g 5 j 3) ((up_nt (by decide)).trans ((up_nk (by decide)).trans ((up_nt (by decide)).trans ((up_nk (by decide)).trans ((up_nt (by decide)).trans ((up_nk (by decide)).trans ((up_nt (by decide)).trans ((up_nt (by decide)).trans rfl)))))))) ?_
  refine lv_aload_n hx hb dX4_addMix_53 rfl (lv_at hl 2 rfl) ?_
  refine gt_6_1 hx hb hts iX4_addMix_X4 hown hB.1 hC hrow_o qX4_addMix_w4 dX4_addMix_54 ?_
  refine lv_iload_n hx hb dX4_addMix_57 rfl (lv_at hl 0 rfl) ?_
  refine ld_8 hx hb hB.1 hC hrow_o (k := 3) (by decide) (by unfold vp_in; decide) dX4_addMix_58 ?_
  refine q_val (v := g 5 o 3) ((up_nt (by decide)).trans ((up_nk (by decide)).trans ((up_nt (by decide)).trans ((up_nk (by decide)).trans ((up_nt (by decide)).trans ((up_nk (by decide)).trans ((up_nt (by decide)).trans ((up_nt (by decide)).trans rfl)))))))) ?_
  refine lv_iadd hx hb dX4_addMix_59 ?_
  refine st_8 hx hb hB.1 hC hI hS hA hrow_j (k := 3) (by decide) (by unfold vp_in; decide) dX4_addMix_60 (fun H locs hC hS => ?_)
  refine lv_iinc (v := 4) (lv' := [(2, .int 4), (0, .ref (ad 6 j)), (1, .ref (ad 6 o))]) hx hb dX4_addMix_61 hl (k := 0) rfl (by decide) (by decide) rfl (fun ls hl => ?_)
  refine lv_goto (tgt := 25) hx hb dX4_addMix_64 (by decide) ?_
  refine lv_iload_n hx hb dX4_addMix_25 rfl (lv_at hl 0 rfl) ?_
  refine lv_bipush (v := 6) hx hb dX4_addMix_26 (by decide) ?_
  refine lv_icmp_ge (tgt := 67) hx hb dX4_addMix_28 (by decide) (fun c => absurd c (by decide)) (fun _ => ?_)
  refine lv_aload_n hx hb dX4_addMix_31 rfl (lv_at hl 1 rfl) ?_
  refine gt_6_0 hx hb hts iX4_addMix_X4 hown hB.1 hC hrow_j qX4_addMix_w3 dX4_addMix_32 ?_
  refine lv_iload_n hx hb dX4_addMix_35 rfl (lv_at hl 0 rfl) ?_
  refine lv_dup2_11 hx hb dX4_addMix_36 rfl rfl ?_
  refine ld_7 hx hb hB.1 hC hrow_j (k := 4) (by decide) (by unfold vp_in; decide) dX4_addMix_37 ?_
  refine q_val (v := g 4 j 4) ((up_nt (by decide)).trans ((up_nk (by decide)).trans ((up_nt (by decide)).trans ((up_nk (by decide)).trans ((up_nt (by decide)).trans ((up_nk (by decide)).trans ((up_nt (by decide)).trans ((up_nk (by decide)).trans ((up_nt (by decide)).trans rfl))))))))) ?_
  refine lv_aload_n hx hb dX4_addMix_38 rfl (lv_at hl 2 rfl) ?_
  refine gt_6_0 hx hb hts iX4_addMix_X4 hown hB.1 hC hrow_o qX4_addMix_w3 dX4_addMix_39 ?_
  refine lv_iload_n hx hb dX4_addMix_42 rfl (lv_at hl 0 rfl) ?_
  refine ld_7 hx hb hB.1 hC hrow_o (k := 4) (by decide) (by unfold vp_in; decide) dX4_addMix_43 ?_
  refine q_val (v := g 4 o 4) ((up_nt (by decide)).trans ((up_nk (by decide)).trans ((up_nt (by decide)).trans ((up_nk (by decide)).trans ((up_nt (by decide)).trans ((up_nk (by decide)).trans ((up_nt (by decide)).trans ((up_nk (by decide)).trans ((up_nt (by decide)).trans rfl))))))))) ?_
  refine lv_iadd hx hb dX4_addMix_44 ?_
  refine st_7 hx hb hB.1 hC hI hS hA hrow_j (k := 4) (by decide) (by unfold vp_in; decide) dX4_addMix_45 (fun H locs hC hS => ?_)
  refine lv_aload_n hx hb dX4_addMix_46 rfl (lv_at hl 1 rfl) ?_
  refine gt_6_1 hx hb hts iX4_addMix_X4 hown hB.1 hC hrow_j qX4_addMix_w4 dX4_addMix_47 ?_
  refine lv_iload_n hx hb dX4_addMix_50 rfl (lv_at hl 0 rfl) ?_
  refine lv_dup2_11 hx hb dX4_addMix_51 rfl rfl ?_
  refine ld_8 hx hb hB.1 hC hrow_j (k := 4) (by decide) (by unfold vp_in; decide) dX4_addMix_52 ?_
  refine q_val (v := g 5 j 4) ((up_nt (by decide)).trans ((up_nk (by decide)).trans ((up_nt (by decide)).trans ((up_nk (by decide)).trans ((up_nt (by decide)).trans ((up_nk (by decide)).trans ((up_nt (by decide)).trans ((up_nk (by decide)).trans ((up_nt (by decide)).trans ((up_nt (by decide)).trans rfl)))))))))) ?_
  refine lv_aload_n hx hb dX4_addMix_53 rfl (lv_at hl 2 rfl) ?_
  refine gt_6_1 hx hb hts iX4_addMix_X4 hown hB.1 hC hrow_o qX4_addMix_w4 dX4_addMix_54 ?_
  refine lv_iload_n hx hb dX4_addMix_57 rfl (lv_at hl 0 rfl) ?_
  refine ld_8 hx hb hB.1 hC hrow_o (k := 4) (by decide) (by unfold vp_in; decide) dX4_addMix_58 ?_
  refine q_val (v := g 5 o 4) ((up_nt (by decide)).trans ((up_nk (by decide)).trans ((up_nt (by decide)).trans ((up_nk (by decide)).trans ((up_nt (by decide)).trans ((up_nk (by decide)).trans ((up_nt (by decide)).trans ((up_nk (by decide)).trans ((up_nt (by decide)).trans ((up_nt (by decide)).trans rfl)))))))))) ?_
  refine lv_iadd hx hb dX4_addMix_59 ?_
  refine st_8 hx hb hB.1 hC hI hS hA hrow_j (k := 4) (by decide) (by unfold vp_in; decide) dX4_addMix_60 (fun H locs hC hS => ?_)
  refine lv_iinc (v := 5) (lv' := [(2, .int 5), (0, .ref (ad 6 j)), (1, .ref (ad 6 o))]) hx hb dX4_addMix_61 hl (k := 0) rfl (by decide) (by decide) rfl (fun ls hl => ?_)
  refine lv_goto (tgt := 25) hx hb dX4_addMix_64 (by decide) ?_
  refine lv_iload_n hx hb dX4_addMix_25 rfl (lv_at hl 0 rfl) ?_
  refine lv_bipush (v := 6) hx hb dX4_addMix_26 (by decide) ?_
  refine lv_icmp_ge (tgt := 67) hx hb dX4_addMix_28 (by decide) (fun c => absurd c (by decide)) (fun _ => ?_)
  refine lv_aload_n hx hb dX4_addMix_31 rfl (lv_at hl 1 rfl) ?_
  refine gt_6_0 hx hb hts iX4_addMix_X4 hown hB.1 hC hrow_j qX4_addMix_w3 dX4_addMix_32 ?_
  refine lv_iload_n hx hb dX4_addMix_35 rfl (lv_at hl 0 rfl) ?_
  refine lv_dup2_11 hx hb dX4_addMix_36 rfl rfl ?_
  refine ld_7 hx hb hB.1 hC hrow_j (k := 5) (by decide) (by unfold vp_in; decide) dX4_addMix_37 ?_
  refine q_val (v := g 4 j 5) ((up_nt (by decide)).trans ((up_nk (by decide)).trans ((up_nt (by decide)).trans ((up_nk (by decide)).trans ((up_nt (by decide)).trans ((up_nk (by decide)).trans ((up_nt (by decide)).trans ((up_nk (by decide)).trans ((up_nt (by decide)).trans ((up_nk (by decide)).trans ((up_nt (by decide)).trans rfl))))))))))) ?_
  refine lv_aload_n hx hb dX4_addMix_38 rfl (lv_at hl 2 rfl) ?_
  refine gt_6_0 hx hb hts iX4_addMix_X4 hown hB.1 hC hrow_o qX4_addMix_w3 dX4_addMix_39 ?_
  refine lv_iload_n hx hb dX4_addMix_42 rfl (lv_at hl 0 rfl) ?_
  refine ld_7 hx hb hB.1 hC hrow_o (k := 5) (by decide) (by unfold vp_in; decide) dX4_addMix_43 ?_
  refine q_val (v := g 4 o 5) ((up_nt (by decide)).trans ((up_nk (by decide)).trans ((up_nt (by decide)).trans ((up_nk (by decide)).trans ((up_nt (by decide)).trans ((up_nk (by decide)).trans ((up_nt (by decide)).trans ((up_nk (by decide)).trans ((up_nt (by decide)).trans ((up_nk (by decide)).trans ((up_nt (by decide)).trans rfl))))))))))) ?_
  refine lv_iadd hx hb dX4_addMix_44 ?_
  refine st_7 hx hb hB.1 hC hI hS hA hrow_j (k := 5) (by decide) (by unfold vp_in; decide) dX4_addMix_45 (fun H locs hC hS => ?_)
  refine lv_aload_n hx hb dX4_addMix_46 rfl (lv_at hl 1 rfl) ?_
  refine gt_6_1 hx hb hts iX4_addMix_X4 hown hB.1 hC hrow_j qX4_addMix_w4 dX4_addMix_47 ?_
  refine lv_iload_n hx hb dX4_addMix_50 rfl (lv_at hl 0 rfl) ?_
  refine lv_dup2_11 hx hb dX4_addMix_51 rfl rfl ?_
  refine ld_8 hx hb hB.1 hC hrow_j (k := 5) (by decide) (by unfold vp_in; decide) dX4_addMix_52 ?_
  refine q_val (v := g 5 j 5) ((up_nt (by decide)).trans ((up_nk (by decide)).trans ((up_nt (by decide)).trans ((up_nk (by decide)).trans ((up_nt (by decide)).trans ((up_nk (by decide)).trans ((up_nt (by decide)).trans ((up_nk (by decide)).trans ((up_nt (by decide)).trans ((up_nk (by decide)).trans ((up_nt (by decide)).trans ((up_nt (by decide)).trans rfl)))))))))))) ?_
  refine lv_aload_n hx hb dX4_addMix_53 rfl (lv_at hl 2 rfl) ?_
  refine gt_6_1 hx hb hts iX4_addMix_X4 hown hB.1 hC hrow_o qX4_addMix_w4 dX4_addMix_54 ?_
  refine lv_iload_n hx hb dX4_addMix_57 rfl (lv_at hl 0 rfl) ?_
  refine ld_8 hx hb hB.1 hC hrow_o (k := 5) (by decide) (by unfold vp_in; decide) dX4_addMix_58 ?_
  refine q_val (v := g 5 o 5) ((up_nt (by decide)).trans ((up_nk (by decide)).trans ((up_nt (by decide)).trans ((up_nk (by decide)).trans ((up_nt (by decide)).trans ((up_nk (by decide)).trans ((up_nt (by decide)).trans ((up_nk (by decide)).trans ((up_nt (by decide)).trans ((up_nk (by decide)).trans ((up_nt (by decide)).trans ((up_nt (by decide)).trans rfl)))))))))))) ?_
  refine lv_iadd hx hb dX4_addMix_59 ?_
  refine st_8 hx hb hB.1 hC hI hS hA hrow_j (k := 5) (by decide) (by unfold vp_in; decide) dX4_addMix_60 (fun H locs hC hS => ?_)
  refine lv_iinc (v := 6) (lv' := [(2, .int 6), (0, .ref (ad 6 j)), (1, .ref (ad 6 o))]) hx hb dX4_addMix_61 hl (k := 0) rfl (by decide) (by decide) rfl (fun ls hl => ?_)
  refine lv_goto (tgt := 25) hx hb dX4_addMix_64 (by decide) ?_
  refine lv_iload_n hx hb dX4_addMix_25 rfl (lv_at hl 0 rfl) ?_
  refine lv_bipush (v := 6) hx hb dX4_addMix_26 (by decide) ?_
  refine lv_icmp_ge (tgt := 67) hx hb dX4_addMix_28 (by decide) (fun _ => ?_) (fun c => absurd c (by decide))
  refine lv_aload_n hx hb dX4_addMix_67 rfl (lv_at hl 1 rfl) ?_
  refine lv_dup hx hb dX4_addMix_68 rfl ?_
  refine gt_6_2 hx hb hts iX4_addMix_X4 hown hB.1 hC hrow_j qX4_addMix_w1 dX4_addMix_69 ?_
  refine q_val (v := g 3 j 0) ((up_nt (by decide)).trans ((up_nt (by decide)).trans ((up_nt (by decide)).trans ((up_nt (by decide)).trans ((up_nt (by decide)).trans ((up_nt (by decide)).trans ((up_nt (by decide)).trans ((up_nt (by decide)).trans ((up_nt (by decide)).trans ((up_nt (by decide)).trans ((up_nt (by decide)).trans ((up_nt (by decide)).trans ((up_nk (by decide)).trans rfl))))))))))))) ?_
  refine lv_aload_n hx hb dX4_addMix_72 rfl (lv_at hl 2 rfl) ?_
  refine gt_6_2 hx hb hts iX4_addMix_X4 hown hB.1 hC hrow_o qX4_addMix_w1 dX4_addMix_73 ?_
  refine q_val (v := g 3 o 0) ((up_nt (by decide)).trans ((up_nt (by decide)).trans ((up_nt (by decide)).trans ((up_nt (by decide)).trans ((up_nt (by decide)).trans ((up_nt (by decide)).trans ((up_nt (by decide)).trans ((up_nt (by decide)).trans ((up_nt (by decide)).trans ((up_nt (by decide)).trans ((up_nt (by decide)).trans ((up_nt (by decide)).trans ((up_nk (by decide)).trans rfl))))))))))))) ?_
  refine lv_iadd hx hb dX4_addMix_76 ?_
  refine pt_6_2 hx hb hts iX4_addMix_X4 hown hB.1 hC hI hS hA hrow_j qX4_addMix_w1 dX4_addMix_77 (fun H locs hC hS => ?_)
  exact q_retv hx hb hr hB hC hS rfl hlocks dX4_addMix_80
