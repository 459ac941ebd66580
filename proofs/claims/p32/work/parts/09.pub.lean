def fX6_farm (g : Gd) (x : Int32) : Nat × Int32 × Gd := if x < 10 then ((2, 0, g)) else (if x ≤ 22 then (if (g 0 0 7) < 6 then ((0, ((g 0 0 7) + 1) - 1, (up (up g 1 ((g 0 0 7).toNatClampNeg) 0 x) 0 0 7 ((g 0 0 7) + 1)))) else ((3, 0, g))) else ((2, 0, g)))
theorem qX6_farm_w1 : Cond.classLink RX6 86 "java/lang/IllegalArgumentException" ∈ wsX6_farm := List.mem_of_getElem? (i := 1) rfl
theorem qX6_farm_w2 : Cond.initialized "java/lang/IllegalArgumentException" ∈ wsX6_farm := List.mem_of_getElem? (i := 2) rfl
theorem qX6_farm_w3 : Cond.classLink RX6 93 "java/lang/IllegalStateException" ∈ wsX6_farm := List.mem_of_getElem? (i := 3) rfl
theorem qX6_farm_w4 : Cond.initialized "java/lang/IllegalStateException" ∈ wsX6_farm := List.mem_of_getElem? (i := 4) rfl
theorem qX6_farm_w5 : Cond.fieldLink RX6 48 "CherryStation" "farmCount" "I" ∈ wsX6_farm := List.mem_of_getElem? (i := 5) rfl
theorem qX6_farm_w6 : Cond.fieldLink RX6 11 "CherryStation" "farms" "[LCherryStation$Farm;" ∈ wsX6_farm := List.mem_of_getElem? (i := 6) rfl
theorem qX6_farm_w7 : Cond.fieldLink RX6 98 "CherryStation$Farm" "height" "I" ∈ wsX6_farm := List.mem_of_getElem? (i := 7) rfl
theorem iX6_farm_X2 : ∀ w ∈ wsX20, w ∈ wsX6_farm := fun _ h => (List.mem_cons_of_mem _ (List.mem_append_left _ (List.mem_append_left _ (List.mem_append_right _ h))))
theorem iX6_farm_X6 : ∀ w ∈ wsX60, w ∈ wsX6_farm := fun _ h => (List.mem_cons_of_mem _ (List.mem_append_left _ (List.mem_append_left _ (List.mem_append_left _ (List.mem_append_right _ h)))))
set_option maxRecDepth 100000 in
set_option maxHeartbeats 4000000 in
theorem kX6_farm (l : Launch) (D : va_G) (cy : Nat → ClassId) {ad : Nat → Nat → Nat} (hI : cI ad) (hl0 : l.stackTraces = false) (g : Gd) (sz : Nat) (x : Int32) (hv : IvC g) : vx_Met l yX6_farm wsX6_farm ({ frames := 6, cells := 1, slots := 6, locals := 82 } : Room) (va_Pc [.ref (ad 0 0), .int x] (cPre D cy ad g sz)) (cXi D cy ad (fX6_farm g x).1 (fX6_farm g x).2.1 (fX6_farm g x).2.2 sz) (cXC D cy ad (fX6_farm g x).1 g sz) 1 6 (cA ad sz) := by
  refine q_startX (cc := cX6_farm) (maxL := 2) (ret := (some .int)) (own := RX6) (by decide) rfl rfl (Nat.le_of_ble_eq_true rfl) ?_
  intro p e s m below meth c hx hb hr hml hts hown hlocks hT ⟨hsz, hC, hB⟩ ls hl
  subst hsz
  have hS : va_S (cA ad s.heap.size) s.heap s.heap [] := va_S.rf
  have hA : ∀ κ i : Nat, cV κ i → cA ad s.heap.size (ad κ i) := fun κ i h => Or.inl ⟨κ, i, h, rfl⟩
  have hl : lv_has ls 2 [(0, .ref (ad 0 0)), (1, .int x)] := hl
  refine lv_iload_n hx hb dX6_farm_0 rfl (lv_at hl 1 rfl) ?_
  refine lv_bipush (v := 10) hx hb dX6_farm_1 (by decide) ?_
  refine lv_icmp_lt (tgt := 12) hx hb dX6_farm_3 (by decide) (fun c1 => ?_) (fun c1 => ?_)
  · skip
    exact q_throwS (cdv := 2) (ik := 86) (is := 88) (ic := 90) (cls := "java/lang/IllegalArgumentException") (text := "height is not 10 to 22") hl0 hx hb hown hml hT hlocks hB hC hS hl.1 (by unfold fX6_farm; rw [if_pos c1]) rfl (by decide) ⟨by decide, by decide⟩ (hts _ qX6_farm_w1) (hts _ qX6_farm_w2) (List.mem_of_getElem? (i := 0) rfl) (fun w hw => hts w (List.mem_cons_of_mem _ (List.mem_append_left _ (List.mem_append_right _ hw)))) xN_90 xG_90 dX6_farm_12 dX6_farm_15 dX6_farm_16 dX6_farm_18 dX6_farm_21 ⟨Nat.le_of_ble_eq_true rfl, Nat.le_of_ble_eq_true rfl, Nat.le_of_ble_eq_true rfl, Nat.le_of_ble_eq_true rfl⟩ (Nat.le_of_ble_eq_true rfl) (Nat.le_of_ble_eq_true rfl)
  · skip
    refine lv_iload_n hx hb dX6_farm_6 rfl (lv_at hl 1 rfl) ?_
    refine lv_bipush (v := 22) hx hb dX6_farm_7 (by decide) ?_
    refine lv_icmp_le (tgt := 22) hx hb dX6_farm_9 (by decide) (fun c2 => ?_) (fun c2 => ?_)
    · skip
      refine lv_aload_n hx hb dX6_farm_22 rfl (lv_at hl 0 rfl) ?_
      refine gt_0_7 hx hb hts iX6_farm_X6 hown hB.1 hC qX6_farm_w5 dX6_farm_23 ?_
      refine lv_bipush (v := 6) hx hb dX6_farm_26 (by decide) ?_
      refine lv_icmp_lt (tgt := 41) hx hb dX6_farm_28 (by decide) (fun c3 => ?_) (fun c3 => ?_)
      · skip
        refine lv_aload_n hx hb dX6_farm_41 rfl (lv_at hl 0 rfl) ?_
        refine gt_0_0 hx hb hts iX6_farm_X6 hown hB.1 hC qX6_farm_w6 dX6_farm_42 ?_
        refine lv_aload_n hx hb dX6_farm_45 rfl (lv_at hl 0 rfl) ?_
        refine gt_0_7 hx hb hts iX6_farm_X6 hown hB.1 hC qX6_farm_w5 dX6_farm_46 ?_
        have hlt4 : (g 0 0 7).toNatClampNeg < 6 := vp_lt (in_lt (IvC.n7 hv).1 c3)
        refine la_10 hx hb hB.1 hC (k := (g 0 0 7).toNatClampNeg) rfl (in_lt (IvC.n7 hv).1 c3) dX6_farm_49 ?_
        refine lv_iload_n hx hb dX6_farm_50 rfl (lv_at hl 1 rfl) ?_
        refine pt_1_0 hx hb hts iX6_farm_X2 hown hB.1 hC hI hS hA (by omega) qX6_farm_w7 dX6_farm_51 (fun H locs hC hS => ?_)
        refine lv_aload_n hx hb dX6_farm_54 rfl (lv_at hl 0 rfl) ?_
        refine lv_dup hx hb dX6_farm_55 rfl ?_
        refine gt_0_7 hx hb hts iX6_farm_X6 hown hB.1 hC qX6_farm_w5 dX6_farm_56 ?_
        refine q_val (v := g 0 0 7) ((up_nt (by decide)).trans rfl) ?_
        refine lv_iconst (v := 1) hx hb dX6_farm_59 (by decide) ?_
        refine lv_iadd hx hb dX6_farm_60 ?_
        refine pt_0_7 hx hb hts iX6_farm_X6 hown hB.1 hC hI hS hA qX6_farm_w5 dX6_farm_61 (fun H locs hC hS => ?_)
        refine lv_aload_n hx hb dX6_farm_64 rfl (lv_at hl 0 rfl) ?_
        refine gt_0_7 hx hb hts iX6_farm_X6 hown hB.1 hC qX6_farm_w5 dX6_farm_65 ?_
        refine q_val (v := (g 0 0 7) + 1) (up_eq _ _ _ _ _) ?_
        refine lv_iconst (v := 1) hx hb dX6_farm_68 (by decide) ?_
        refine lv_isub hx hb dX6_farm_69 ?_
        have e9 : fX6_farm g x = (0, ((g 0 0 7) + 1) - 1, (up (up g 1 ((g 0 0 7).toNatClampNeg) 0 x) 0 0 7 ((g 0 0 7) + 1))) := (by unfold fX6_farm; rw [if_neg c1, if_pos c2, if_pos c3])
        exact x_reti hx hb hr hC hS (by rw [e9]) (by rw [e9]) (by rw [e9]) hlocks dX6_farm_70 (Nat.le_of_ble_eq_true rfl) (Nat.le_of_ble_eq_true rfl)
      · skip
        exact q_throwS (cdv := 3) (ik := 93) (is := 95) (ic := 97) (cls := "java/lang/IllegalStateException") (text := "there are 6 farms") hl0 hx hb hown hml hT hlocks hB hC hS hl.1 (by unfold fX6_farm; rw [if_neg c1, if_pos c2, if_neg c3]) rfl (by decide) ⟨by decide, by decide⟩ (hts _ qX6_farm_w3) (hts _ qX6_farm_w4) (List.mem_of_getElem? (i := 1) rfl) (fun w hw => hts w (List.mem_cons_of_mem _ (List.mem_append_right _ hw))) xN_97 xG_97 dX6_farm_31 dX6_farm_34 dX6_farm_35 dX6_farm_37 dX6_farm_40 ⟨Nat.le_of_ble_eq_true rfl, Nat.le_of_ble_eq_true rfl, Nat.le_of_ble_eq_true rfl, Nat.le_of_ble_eq_true rfl⟩ (Nat.le_of_ble_eq_true rfl) (Nat.le_of_ble_eq_true rfl)
    · skip
      exact q_throwS (cdv := 2) (ik := 86) (is := 88) (ic := 90) (cls := "java/lang/IllegalArgumentException") (text := "height is not 10 to 22") hl0 hx hb hown hml hT hlocks hB hC hS hl.1 (by unfold fX6_farm; rw [if_neg c1, if_neg c2]) rfl (by decide) ⟨by decide, by decide⟩ (hts _ qX6_farm_w1) (hts _ qX6_farm_w2) (List.mem_of_getElem? (i := 0) rfl) (fun w hw => hts w (List.mem_cons_of_mem _ (List.mem_append_left _ (List.mem_append_right _ hw)))) xN_90 xG_90 dX6_farm_12 dX6_farm_15 dX6_farm_16 dX6_farm_18 dX6_farm_21 ⟨Nat.le_of_ble_eq_true rfl, Nat.le_of_ble_eq_true rfl, Nat.le_of_ble_eq_true rfl, Nat.le_of_ble_eq_true rfl⟩ (Nat.le_of_ble_eq_true rfl) (Nat.le_of_ble_eq_true rfl)
def fX6_label (g : Gd) (x : Int32) (d : Int32) : Nat × Int32 × Gd := if (fX6_farmAt g x) = 0 then (if d < (-1) then ((2, 0, g)) else (if d ≤ 900 then ((0, g 1 x.toNatClampNeg 1, (up g 1 x.toNatClampNeg 1 d))) else ((2, 0, g)))) else (((fX6_farmAt g x), 0, g))
theorem qX6_label_w1 : Cond.classLink RX6 86 "java/lang/IllegalArgumentException" ∈ wsX6_label := List.mem_of_getElem? (i := 1) rfl
theorem qX6_label_w2 : Cond.initialized "java/lang/IllegalArgumentException" ∈ wsX6_label := List.mem_of_getElem? (i := 2) rfl
theorem qX6_label_w3 : Cond.fieldLink RX6 107 "CherryStation$Farm" "label" "I" ∈ wsX6_label := List.mem_of_getElem? (i := 3) rfl
theorem iX6_label_X2 : ∀ w ∈ wsX20, w ∈ wsX6_label := fun _ h => (List.mem_cons_of_mem _ (List.mem_append_left _ (List.mem_append_left _ (List.mem_append_left _ (List.mem_append_right _ h)))))
set_option maxRecDepth 100000 in
set_option maxHeartbeats 4000000 in
theorem kX6_label (l : Launch) (D : va_G) (cy : Nat → ClassId) {ad : Nat → Nat → Nat} (hI : cI ad) (hl0 : l.stackTraces = false) (g : Gd) (sz : Nat) (x : Int32) (d : Int32) (hv : IvC g) : vx_Met l yX6_label wsX6_label ({ frames := 8, cells := 2, slots := 12, locals := 124 } : Room) (va_Pc [.ref (ad 0 0), .int x, .int d] (cPre D cy ad g sz)) (cXi D cy ad (fX6_label g x d).1 (fX6_label g x d).2.1 (fX6_label g x d).2.2 sz) (cXC D cy ad (fX6_label g x d).1 g sz) 2 12 (cA ad sz) := by
  refine q_startX (cc := cX6_label) (maxL := 5) (ret := (some .int)) (own := RX6) (by decide) rfl rfl (Nat.le_of_ble_eq_true rfl) ?_
  intro p e s m below meth c hx hb hr hml hts hown hlocks hT ⟨hsz, hC, hB⟩ ls hl
  subst hsz
  have hS : va_S (cA ad s.heap.size) s.heap s.heap [] := va_S.rf
  have hA : ∀ κ i : Nat, cV κ i → cA ad s.heap.size (ad κ i) := fun κ i h => Or.inl ⟨κ, i, h, rfl⟩
  have hl : lv_has ls 5 [(0, .ref (ad 0 0)), (1, .int x), (2, .int d)] := hl
  refine lv_aload_n hx hb dX6_label_0 rfl (lv_at hl 0 rfl) ?_
  refine lv_iload_n hx hb dX6_label_1 rfl (lv_at hl 1 rfl) ?_
  refine x_callVr (As := [.int x]) (κ := 0) (i := 0) rfl rfl ⟨_, rfl⟩ rfl ⟨hx, hb, hml, hown, hts⟩ (kX6_farmAt l D cy hI hl0 g _  x hv) (cwV 1 hts gX6_label_X6_farmAt rfl rfl rfl (by decide +kernel) ⟨Nat.le_of_ble_eq_true rfl, Nat.le_of_ble_eq_true rfl⟩) hB hC hS rfl hl.1 (Nat.le_of_ble_eq_true rfl) dX6_label_2 ⟨Nat.le_of_ble_eq_true rfl, Nat.le_of_ble_eq_true rfl⟩ ⟨Nat.le_of_ble_eq_true rfl, Nat.le_of_ble_eq_true rfl⟩ hT hlocks (fun h => by unfold fX6_label; rw [if_neg h]) (fun c1 H locs hC hS => ?_)
  have hr_c1 : x.toNatClampNeg < 6 := vp_lt (farmAt_in hv c1)
  refine lv_astore_n (lv' := [(3, .ref (ad 1 x.toNatClampNeg)), (0, .ref (ad 0 0)), (1, .int x), (2, .int d)]) hx hb dX6_label_5 rfl hl (by decide) rfl (fun ls hl => ?_)
  refine lv_iload_n hx hb dX6_label_6 rfl (lv_at hl 3 rfl) ?_
  refine lv_iconst (v := (-1)) hx hb dX6_label_7 (by decide) ?_
  refine lv_icmp_lt (tgt := 18) hx hb dX6_label_8 (by decide) (fun c2 => ?_) (fun c2 => ?_)
  · skip
    exact q_throwS (cdv := 2) (ik := 86) (is := 105) (ic := 90) (cls := "java/lang/IllegalArgumentException") (text := "day is not -1 to 900") hl0 hx hb hown hml hT hlocks hB hC hS hl.1 (by unfold fX6_label; rw [if_pos c1, if_pos c2]) rfl (by decide) ⟨by decide, by decide⟩ (hts _ qX6_label_w1) (hts _ qX6_label_w2) (List.mem_of_getElem? (i := 2) rfl) (fun w hw => hts w (List.mem_cons_of_mem _ (List.mem_append_left _ (List.mem_append_right _ hw)))) xN_90 xG_90 dX6_label_18 dX6_label_21 dX6_label_22 dX6_label_24 dX6_label_27 ⟨Nat.le_of_ble_eq_true rfl, Nat.le_of_ble_eq_true rfl, Nat.le_of_ble_eq_true rfl, Nat.le_of_ble_eq_true rfl⟩ (Nat.le_of_ble_eq_true rfl) (Nat.le_of_ble_eq_true rfl)
  · skip
    refine lv_iload_n hx hb dX6_label_11 rfl (lv_at hl 3 rfl) ?_
    refine lv_sipush (v := 900) hx hb dX6_label_12 (by decide) ?_
    refine lv_icmp_le (tgt := 28) hx hb dX6_label_15 (by decide) (fun c3 => ?_) (fun c3 => ?_)
    · skip
      refine lv_aload_n hx hb dX6_label_28 rfl (lv_at hl 0 rfl) ?_
      refine gt_1_1 hx hb hts iX6_label_X2 hown hB.1 hC hr_c1 qX6_label_w3 dX6_label_29 ?_
      refine lv_istore (lv' := [(4, .int (g 1 x.toNatClampNeg 1)), (3, .ref (ad 1 x.toNatClampNeg)), (0, .ref (ad 0 0)), (1, .int x), (2, .int d)]) hx hb dX6_label_32 hl (by decide) rfl (fun ls hl => ?_)
      refine lv_aload_n hx hb dX6_label_34 rfl (lv_at hl 1 rfl) ?_
      refine lv_iload_n hx hb dX6_label_35 rfl (lv_at hl 4 rfl) ?_
      refine pt_1_1 hx hb hts iX6_label_X2 hown hB.1 hC hI hS hA hr_c1 qX6_label_w3 dX6_label_36 (fun H locs hC hS => ?_)
      refine lv_iload hx hb dX6_label_39 (lv_at hl 0 rfl) ?_
      have e9 : fX6_label g x d = (0, g 1 x.toNatClampNeg 1, (up g 1 x.toNatClampNeg 1 d)) := (by unfold fX6_label; rw [if_pos c1, if_neg c2, if_pos c3])
      exact x_reti hx hb hr hC hS (by rw [e9]) (by rw [e9]) (by rw [e9]) hlocks dX6_label_41 (Nat.le_of_ble_eq_true rfl) (Nat.le_of_ble_eq_true rfl)
    · skip
      exact q_throwS (cdv := 2) (ik := 86) (is := 105) (ic := 90) (cls := "java/lang/IllegalArgumentException") (text := "day is not -1 to 900") hl0 hx hb hown hml hT hlocks hB hC hS hl.1 (by unfold fX6_label; rw [if_pos c1, if_neg c2, if_neg c3]) rfl (by decide) ⟨by decide, by decide⟩ (hts _ qX6_label_w1) (hts _ qX6_label_w2) (List.mem_of_getElem? (i := 2) rfl) (fun w hw => hts w (List.mem_cons_of_mem _ (List.mem_append_left _ (List.mem_append_right _ hw)))) xN_90 xG_90 dX6_label_18 dX6_label_21 dX6_label_22 dX6_label_24 dX6_label_27 ⟨Nat.le_of_ble_eq_true rfl, Nat.le_of_ble_eq_true rfl, Nat.le_of_ble_eq_true rfl, Nat.le_of_ble_eq_true rfl⟩ (Nat.le_of_ble_eq_true rfl) (Nat.le_of_ble_eq_true rfl)
def fX6_price (g : Gd) (x : Int32) : Nat × Int32 × Gd := if x < 1 then ((2, 0, g)) else (if x ≤ 50 then ((0, g 0 0 2, (up g 0 0 2 x))) else ((2, 0, g)))
theorem qX6_price_w1 : Cond.classLink RX6 86 "java/lang/IllegalArgumentException" ∈ wsX6_price := List.mem_of_getElem? (i := 1) rfl
theorem qX6_price_w2 : Cond.initialized "java/lang/IllegalArgumentException" ∈ wsX6_price := List.mem_of_getElem? (i := 2) rfl
theorem qX6_price_w3 : Cond.fieldLink RX6 67 "CherryStation" "cherryPrice" "I" ∈ wsX6_price := List.mem_of_getElem? (i := 3) rfl
theorem iX6_price_X6 : ∀ w ∈ wsX60, w ∈ wsX6_price := fun _ h => (List.mem_cons_of_mem _ (List.mem_append_left _ (List.mem_append_right _ h)))
set_option maxRecDepth 100000 in
set_option maxHeartbeats 4000000 in
theorem kX6_price (l : Launch) (D : va_G) (cy : Nat → ClassId) {ad : Nat → Nat → Nat} (hI : cI ad) (hl0 : l.stackTraces = false) (g : Gd) (sz : Nat) (x : Int32) : vx_Met l yX6_price wsX6_price ({ frames := 6, cells := 1, slots := 6, locals := 82 } : Room) (va_Pc [.ref (ad 0 0), .int x] (cPre D cy ad g sz)) (cXi D cy ad (fX6_price g x).1 (fX6_price g x).2.1 (fX6_price g x).2.2 sz) (cXC D cy ad (fX6_price g x).1 g sz) 1 6 (cA ad sz) := by
  refine q_startX (cc := cX6_price) (maxL := 3) (ret := (some .int)) (own := RX6) (by decide) rfl rfl (Nat.le_of_ble_eq_true rfl) ?_
  intro p e s m below meth c hx hb hr hml hts hown hlocks hT ⟨hsz, hC, hB⟩ ls hl
  subst hsz
  have hS : va_S (cA ad s.heap.size) s.heap s.heap [] := va_S.rf
  have hA : ∀ κ i : Nat, cV κ i → cA ad s.heap.size (ad κ i) := fun κ i h => Or.inl ⟨κ, i, h, rfl⟩
  have hl : lv_has ls 3 [(0, .ref (ad 0 0)), (1, .int x)] := hl
  refine lv_iload_n hx hb dX6_price_0 rfl (lv_at hl 1 rfl) ?_
  refine lv_iconst (v := 1) hx hb dX6_price_1 (by decide) ?_
  refine lv_icmp_lt (tgt := 11) hx hb dX6_price_2 (by decide) (fun c1 => ?_) (fun c1 => ?_)
  · skip
    exact q_throwS (cdv := 2) (ik := 86) (is := 110) (ic := 90) (cls := "java/lang/IllegalArgumentException") (text := "price is not 1 to 50") hl0 hx hb hown hml hT hlocks hB hC hS hl.1 (by unfold fX6_price; rw [if_pos c1]) rfl (by decide) ⟨by decide, by decide⟩ (hts _ qX6_price_w1) (hts _ qX6_price_w2) (List.mem_of_getElem? (i := 3) rfl) (fun w hw => hts w (List.mem_cons_of_mem _ (List.mem_append_right _ hw))) xN_90 xG_90 dX6_price_11 dX6_price_14 dX6_price_15 dX6_price_17 dX6_price_20 ⟨Nat.le_of_ble_eq_true rfl, Nat.le_of_ble_eq_true rfl, Nat.le_of_ble_eq_true rfl, Nat.le_of_ble_eq_true rfl⟩ (Nat.le_of_ble_eq_true rfl) (Nat.le_of_ble_eq_true rfl)
  · skip
    refine lv_iload_n hx hb dX6_price_5 rfl (lv_at hl 1 rfl) ?_
    refine lv_bipush (v := 50) hx hb dX6_price_6 (by decide) ?_
    refine lv_icmp_le (tgt := 21) hx hb dX6_price_8 (by decide) (fun c2 => ?_) (fun c2 => ?_)
    · skip
      refine lv_aload_n hx hb dX6_price_21 rfl (lv_at hl 0 rfl) ?_
      refine gt_0_13 hx hb hts iX6_price_X6 hown hB.1 hC qX6_price_w3 dX6_price_22 ?_
      refine lv_istore_n (lv' := [(2, .int (g 0 0 2)), (0, .ref (ad 0 0)), (1, .int x)]) hx hb dX6_price_25 rfl hl (by decide) rfl (fun ls hl => ?_)
      refine lv_aload_n hx hb dX6_price_26 rfl (lv_at hl 1 rfl) ?_
      refine lv_iload_n hx hb dX6_price_27 rfl (lv_at hl 2 rfl) ?_
      refine pt_0_13 hx hb hts iX6_price_X6 hown hB.1 hC hI hS hA qX6_price_w3 dX6_price_28 (fun H locs hC hS => ?_)
      refine lv_iload_n hx hb dX6_price_31 rfl (lv_at hl 0 rfl) ?_
      have e9 : fX6_price g x = (0, g 0 0 2, (up g 0 0 2 x)) := (by unfold fX6_price; rw [if_neg c1, if_pos c2])
      exact x_reti hx hb hr hC hS (by rw [e9]) (by rw [e9]) (by rw [e9]) hlocks dX6_price_32 (Nat.le_of_ble_eq_true rfl) (Nat.le_of_ble_eq_true rfl)
    · skip
      exact q_throwS (cdv := 2) (ik := 86) (is := 110) (ic := 90) (cls := "java/lang/IllegalArgumentException") (text := "price is not 1 to 50") hl0 hx hb hown hml hT hlocks hB hC hS hl.1 (by unfold fX6_price; rw [if_neg c1, if_neg c2]) rfl (by decide) ⟨by decide, by decide⟩ (hts _ qX6_price_w1) (hts _ qX6_price_w2) (List.mem_of_getElem? (i := 3) rfl) (fun w hw => hts w (List.mem_cons_of_mem _ (List.mem_append_right _ hw))) xN_90 xG_90 dX6_price_11 dX6_price_14 dX6_price_15 dX6_price_17 dX6_price_20 ⟨Nat.le_of_ble_eq_true rfl, Nat.le_of_ble_eq_true rfl, Nat.le_of_ble_eq_true rfl, Nat.le_of_ble_eq_true rfl⟩ (Nat.le_of_ble_eq_true rfl) (Nat.le_of_ble_eq_true rfl)
def fX6_bring (g : Gd) (x : Int32) (kg : Int32) (rp : Int32) : Nat × Int32 × Gd := if (fX6_farmAt g x) = 0 then (if kg < 1 then ((2, 0, g)) else (if 200 < kg then ((2, 0, g)) else (if rp < 0 then ((2, 0, g)) else (if rp ≤ 100 then (if (g 0 0 8) < 20 then (if (g 1 x.toNatClampNeg 1) < ((g 0 0 0) / 24) then ((0, (((fX0_fill g ((g 0 0 8).toNatClampNeg) x (kg - ((kg * (100 - rp)) / 200)) rp 0) 0 0 8) + 1) - 1, (up (up (up (up (up (fX0_fill g ((g 0 0 8).toNatClampNeg) x (kg - ((kg * (100 - rp)) / 200)) rp 0) 0 0 8 (((fX0_fill g ((g 0 0 8).toNatClampNeg) x (kg - ((kg * (100 - rp)) / 200)) rp 0) 0 0 8) + 1)) 0 0 3 (((fX0_fill g ((g 0 0 8).toNatClampNeg) x (kg - ((kg * (100 - rp)) / 200)) rp 0) 0 0 3) + ((kg * (100 - rp)) / 200))) 1 x.toNatClampNeg 3 (((fX0_fill g ((g 0 0 8).toNatClampNeg) x (kg - ((kg * (100 - rp)) / 200)) rp 0) 1 x.toNatClampNeg 3) + (kg - ((kg * (100 - rp)) / 200)))) 1 x.toNatClampNeg 2 (((fX0_fill g ((g 0 0 8).toNatClampNeg) x (kg - ((kg * (100 - rp)) / 200)) rp 0) 1 x.toNatClampNeg 2) + ((kg - ((kg * (100 - rp)) / 200)) * ((fX0_fill g ((g 0 0 8).toNatClampNeg) x (kg - ((kg * (100 - rp)) / 200)) rp 0) 0 0 2)))) 0 0 1 (((fX0_fill g ((g 0 0 8).toNatClampNeg) x (kg - ((kg * (100 - rp)) / 200)) rp 0) 0 0 1) - ((kg - ((kg * (100 - rp)) / 200)) * ((fX0_fill g ((g 0 0 8).toNatClampNeg) x (kg - ((kg * (100 - rp)) / 200)) rp 0) 0 0 2)))))) else ((0, (((fX0_fill g ((g 0 0 8).toNatClampNeg) x (kg - ((kg * (100 - rp)) / 200)) rp 1) 0 0 8) + 1) - 1, (up (up (up (up (up (fX0_fill g ((g 0 0 8).toNatClampNeg) x (kg - ((kg * (100 - rp)) / 200)) rp 1) 0 0 8 (((fX0_fill g ((g 0 0 8).toNatClampNeg) x (kg - ((kg * (100 - rp)) / 200)) rp 1) 0 0 8) + 1)) 0 0 3 (((fX0_fill g ((g 0 0 8).toNatClampNeg) x (kg - ((kg * (100 - rp)) / 200)) rp 1) 0 0 3) + ((kg * (100 - rp)) / 200))) 1 x.toNatClampNeg 3 (((fX0_fill g ((g 0 0 8).toNatClampNeg) x (kg - ((kg * (100 - rp)) / 200)) rp 1) 1 x.toNatClampNeg 3) + (kg - ((kg * (100 - rp)) / 200)))) 1 x.toNatClampNeg 2 (((fX0_fill g ((g 0 0 8).toNatClampNeg) x (kg - ((kg * (100 - rp)) / 200)) rp 1) 1 x.toNatClampNeg 2) + ((kg - ((kg * (100 - rp)) / 200)) * ((fX0_fill g ((g 0 0 8).toNatClampNeg) x (kg - ((kg * (100 - rp)) / 200)) rp 1) 0 0 2)))) 0 0 1 (((fX0_fill g ((g 0 0 8).toNatClampNeg) x (kg - ((kg * (100 - rp)) / 200)) rp 1) 0 0 1) - ((kg - ((kg * (100 - rp)) / 200)) * ((fX0_fill g ((g 0 0 8).toNatClampNeg) x (kg - ((kg * (100 - rp)) / 200)) rp 1) 0 0 2))))))) else ((3, 0, g))) else ((2, 0, g)))))) else (((fX6_farmAt g x), 0, g))
theorem qX6_bring_w1 : Cond.classLink RX6 86 "java/lang/IllegalArgumentException" ∈ wsX6_bring := List.mem_of_getElem? (i := 1) rfl
theorem qX6_bring_w2 : Cond.initialized "java/lang/IllegalArgumentException" ∈ wsX6_bring := List.mem_of_getElem? (i := 2) rfl
theorem qX6_bring_w3 : Cond.classLink RX6 93 "java/lang/IllegalStateException" ∈ wsX6_bring := List.mem_of_getElem? (i := 3) rfl
theorem qX6_bring_w4 : Cond.initialized "java/lang/IllegalStateException" ∈ wsX6_bring := List.mem_of_getElem? (i := 4) rfl
theorem qX6_bring_w5 : Cond.fieldLink RX6 52 "CherryStation" "basketCount" "I" ∈ wsX6_bring := List.mem_of_getElem? (i := 5) rfl
theorem qX6_bring_w6 : Cond.fieldLink RX6 17 "CherryStation" "baskets" "[LCherryStation$Basket;" ∈ wsX6_bring := List.mem_of_getElem? (i := 6) rfl
theorem qX6_bring_w7 : Cond.fieldLink RX6 107 "CherryStation$Farm" "label" "I" ∈ wsX6_bring := List.mem_of_getElem? (i := 7) rfl
theorem qX6_bring_w8 : Cond.fieldLink RX6 61 "CherryStation" "hour" "I" ∈ wsX6_bring := List.mem_of_getElem? (i := 8) rfl
theorem qX6_bring_w9 : Cond.fieldLink RX6 70 "CherryStation" "floaters" "I" ∈ wsX6_bring := List.mem_of_getElem? (i := 9) rfl
theorem qX6_bring_w10 : Cond.fieldLink RX6 120 "CherryStation$Farm" "kilosEver" "I" ∈ wsX6_bring := List.mem_of_getElem? (i := 10) rfl
theorem qX6_bring_w11 : Cond.fieldLink RX6 123 "CherryStation$Farm" "coins" "I" ∈ wsX6_bring := List.mem_of_getElem? (i := 11) rfl
theorem qX6_bring_w12 : Cond.fieldLink RX6 67 "CherryStation" "cherryPrice" "I" ∈ wsX6_bring := List.mem_of_getElem? (i := 12) rfl
theorem qX6_bring_w13 : Cond.fieldLink RX6 64 "CherryStation" "money" "I" ∈ wsX6_bring := List.mem_of_getElem? (i := 13) rfl
theorem iX6_bring_X2 : ∀ w ∈ wsX20, w ∈ wsX6_bring := fun _ h => (List.mem_cons_of_mem _ (List.mem_append_left _ (List.mem_append_left _ (List.mem_append_left _ (List.mem_append_left _ (List.mem_append_right _ h))))))
theorem iX6_bring_X6 : ∀ w ∈ wsX60, w ∈ wsX6_bring := fun _ h => (List.mem_cons_of_mem _ (List.mem_append_left _ (List.mem_append_left _ (List.mem_append_left _ (List.mem_append_left _ (List.mem_append_left _ (List.mem_append_right _ h)))))))
set_option maxRecDepth 100000 in
set_option maxHeartbeats 4000000 in
theorem kX6_bring (l : Launch) (D : va_G) (cy : Nat → ClassId) {ad : Nat → Nat → Nat} (hI : cI ad) (hl0 : l.stackTraces = false) (g : Gd) (sz : Nat) (x : Int32) (kg : Int32) (rp : Int32) (hv : IvC g) : vx_Met l yX6_bring wsX6_bring ({ frames := 8, cells := 2, slots := 12, locals := 124 } : Room) (va_Pc [.ref (ad 0 0), .int x, .int kg, .int rp] (cPre D cy ad g sz)) (cXi D cy ad (fX6_bring g x kg rp).1 (fX6_bring g x kg rp).2.1 (fX6_bring g x kg rp).2.2 sz) (cXC D cy ad (fX6_bring g x kg rp).1 g sz) 2 12 (cA ad sz) := by
  refine q_startX (cc := cX6_bring) (maxL := 7) (ret := (some .int)) (own := RX6) (by decide) rfl rfl (Nat.le_of_ble_eq_true rfl) ?_
  intro p e s m below meth c hx hb hr hml hts hown hlocks hT ⟨hsz, hC, hB⟩ ls hl
  subst hsz
  have hS : va_S (cA ad s.heap.size) s.heap s.heap [] := va_S.rf
  have hA : ∀ κ i : Nat, cV κ i → cA ad s.heap.size (ad κ i) := fun κ i h => Or.inl ⟨κ, i, h, rfl⟩
  have hl : lv_has ls 7 [(0, .ref (ad 0 0)), (1, .int x), (2, .int kg), (3, .int rp)] := hl
  refine lv_aload_n hx hb dX6_bring_0 rfl (lv_at hl 0 rfl) ?_
  refine lv_iload_n hx hb dX6_bring_1 rfl (lv_at hl 1 rfl) ?_
  refine x_callVr (As := [.int x]) (κ := 0) (i := 0) rfl rfl ⟨_, rfl⟩ rfl ⟨hx, hb, hml, hown, hts⟩ (kX6_farmAt l D cy hI hl0 g _  x hv) (cwV 1 hts gX6_bring_X6_farmAt rfl rfl rfl (by decide +kernel) ⟨Nat.le_of_ble_eq_true rfl, Nat.le_of_ble_eq_true rfl⟩) hB hC hS rfl hl.1 (Nat.le_of_ble_eq_true rfl) dX6_bring_2 ⟨Nat.le_of_ble_eq_true rfl, Nat.le_of_ble_eq_true rfl⟩ ⟨Nat.le_of_ble_eq_true rfl, Nat.le_of_ble_eq_true rfl⟩ hT hlocks (fun h => by unfold fX6_bring; rw [if_neg h]) (fun c1 H locs hC hS => ?_)
  have hr_c1 : x.toNatClampNeg < 6 := vp_lt (farmAt_in hv c1)
  refine lv_astore (lv' := [(4, .ref (ad 1 x.toNatClampNeg)), (0, .ref (ad 0 0)), (1, .int x), (2, .int kg), (3, .int rp)]) hx hb dX6_bring_5 hl (by decide) rfl (fun ls hl => ?_)
  refine lv_iload_n hx hb dX6_bring_7 rfl (lv_at hl 3 rfl) ?_
  refine lv_iconst (v := 1) hx hb dX6_bring_8 (by decide) ?_
  refine lv_icmp_lt (tgt := 29) hx hb dX6_bring_9 (by decide) (fun c2 => ?_) (fun c2 => ?_)
  · skip
    exact q_throwS (cdv := 2) (ik := 86) (is := 112) (ic := 90) (cls := "java/lang/IllegalArgumentException") (text := "kilos is not 1 to 200, or ripe not 0 to 100") hl0 hx hb hown hml hT hlocks hB hC hS hl.1 (by unfold fX6_bring; rw [if_pos c1, if_pos c2]) rfl (by decide) ⟨by decide, by decide⟩ (hts _ qX6_bring_w1) (hts _ qX6_bring_w2) (List.mem_of_getElem? (i := 4) rfl) (fun w hw => hts w (List.mem_cons_of_mem _ (List.mem_append_left _ (List.mem_append_left _ (List.mem_append_right _ hw))))) xN_90 xG_90 dX6_bring_29 dX6_bring_32 dX6_bring_33 dX6_bring_35 dX6_bring_38 ⟨Nat.le_of_ble_eq_true rfl, Nat.le_of_ble_eq_true rfl, Nat.le_of_ble_eq_true rfl, Nat.le_of_ble_eq_true rfl⟩ (Nat.le_of_ble_eq_true rfl) (Nat.le_of_ble_eq_true rfl)
  · skip
    refine lv_iload_n hx hb dX6_bring_12 rfl (lv_at hl 3 rfl) ?_
    refine lv_sipush (v := 200) hx hb dX6_bring_13 (by decide) ?_
    refine lv_icmp_gt (tgt := 29) hx hb dX6_bring_16 (by decide) (fun c3 => ?_) (fun c3 => ?_)
    · skip
      exact q_throwS (cdv := 2) (ik := 86) (is := 112) (ic := 90) (cls := "java/lang/IllegalArgumentException") (text := "kilos is not 1 to 200, or ripe not 0 to 100") hl0 hx hb hown hml hT hlocks hB hC hS hl.1 (by unfold fX6_bring; rw [if_pos c1, if_neg c2, if_pos c3]) rfl (by decide) ⟨by decide, by decide⟩ (hts _ qX6_bring_w1) (hts _ qX6_bring_w2) (List.mem_of_getElem? (i := 4) rfl) (fun w hw => hts w (List.mem_cons_of_mem _ (List.mem_append_left _ (List.mem_append_left _ (List.mem_append_right _ hw))))) xN_90 xG_90 dX6_bring_29 dX6_bring_32 dX6_bring_33 dX6_bring_35 dX6_bring_38 ⟨Nat.le_of_ble_eq_true rfl, Nat.le_of_ble_eq_true rfl, Nat.le_of_ble_eq_true rfl, Nat.le_of_ble_eq_true rfl⟩ (Nat.le_of_ble_eq_true rfl) (Nat.le_of_ble_eq_true rfl)
    · skip
      refine lv_iload_n hx hb dX6_bring_19 rfl (lv_at hl 4 rfl) ?_
      refine lv_if_lt (tgt := 29) hx hb dX6_bring_20 (by decide) (fun c4 => ?_) (fun c4 => ?_)
      · skip
        exact q_throwS (cdv := 2) (ik := 86) (is := 112) (ic := 90) (cls := "java/lang/IllegalArgumentException") (text := "kilos is not 1 to 200, or ripe not 0 to 100") hl0 hx hb hown hml hT hlocks hB hC hS hl.1 (by unfold fX6_bring; rw [if_pos c1, if_neg c2, if_neg c3, if_pos c4]) rfl (by decide) ⟨by decide, by decide⟩ (hts _ qX6_bring_w1) (hts _ qX6_bring_w2) (List.mem_of_getElem? (i := 4) rfl) (fun w hw => hts w (List.mem_cons_of_mem _ (List.mem_append_left _ (List.mem_append_left _ (List.mem_append_right _ hw))))) xN_90 xG_90 dX6_bring_29 dX6_bring_32 dX6_bring_33 dX6_bring_35 dX6_bring_38 ⟨Nat.le_of_ble_eq_true rfl, Nat.le_of_ble_eq_true rfl, Nat.le_of_ble_eq_true rfl, Nat.le_of_ble_eq_true rfl⟩ (Nat.le_of_ble_eq_true rfl) (Nat.le_of_ble_eq_true rfl)
      · skip
        refine lv_iload_n hx hb dX6_bring_23 rfl (lv_at hl 4 rfl) ?_
        refine lv_bipush (v := 100) hx hb dX6_bring_24 (by decide) ?_
        refine lv_icmp_le (tgt := 39) hx hb dX6_bring_26 (by decide) (fun c5 => ?_) (fun c5 => ?_)
        · skip
          refine lv_aload_n hx hb dX6_bring_39 rfl (lv_at hl 1 rfl) ?_
          refine gt_0_8 hx hb hts iX6_bring_X6 hown hB.1 hC qX6_bring_w5 dX6_bring_40 ?_
          refine lv_bipush (v := 20) hx hb dX6_bring_43 (by decide) ?_
          refine lv_icmp_lt (tgt := 58) hx hb dX6_bring_45 (by decide) (fun c6 => ?_) (fun c6 => ?_)
          · skip
            refine lv_iload_n hx hb dX6_bring_58 rfl (lv_at hl 3 rfl) ?_
            refine lv_bipush (v := 100) hx hb dX6_bring_59 (by decide) ?_
            refine lv_iload_n hx hb dX6_bring_61 rfl (lv_at hl 4 rfl) ?_
            refine lv_isub hx hb dX6_bring_62 ?_
            refine lv_imul hx hb dX6_bring_63 ?_
            refine lv_sipush (v := 200) hx hb dX6_bring_64 (by decide) ?_
            refine lv_idiv hx hb dX6_bring_67 (by decide) ?_
            refine lv_istore (lv' := [(5, .int ((kg * (100 - rp)) / 200)), (4, .ref (ad 1 x.toNatClampNeg)), (0, .ref (ad 0 0)), (1, .int x), (2, .int kg), (3, .int rp)]) hx hb dX6_bring_68 hl (by decide) rfl (fun ls hl => ?_)
            refine lv_iload_n hx hb dX6_bring_70 rfl (lv_at hl 4 rfl) ?_
            refine lv_iload hx hb dX6_bring_71 (lv_at hl 0 rfl) ?_
            refine lv_isub hx hb dX6_bring_73 ?_
            refine lv_istore (lv' := [(6, .int (kg - ((kg * (100 - rp)) / 200))), (5, .int ((kg * (100 - rp)) / 200)), (4, .ref (ad 1 x.toNatClampNeg)), (0, .ref (ad 0 0)), (1, .int x), (2, .int kg), (3, .int rp)]) hx hb dX6_bring_74 hl (by decide) rfl (fun ls hl => ?_)
            refine lv_aload_n hx hb dX6_bring_76 rfl (lv_at hl 3 rfl) ?_
            refine gt_0_1 hx hb hts iX6_bring_X6 hown hB.1 hC qX6_bring_w6 dX6_bring_77 ?_
            refine lv_aload_n hx hb dX6_bring_80 rfl (lv_at hl 3 rfl) ?_
            refine gt_0_8 hx hb hts iX6_bring_X6 hown hB.1 hC qX6_bring_w5 dX6_bring_81 ?_
            have hlt7 : (g 0 0 8).toNatClampNeg < 20 := vp_lt (in_lt (IvC.n8 hv).1 c6)
            refine la_11 hx hb hB.1 hC (k := (g 0 0 8).toNatClampNeg) rfl (in_lt (IvC.n8 hv).1 c6) dX6_bring_84 ?_
            refine lv_iload_n hx hb dX6_bring_85 rfl (lv_at hl 4 rfl) ?_
            refine lv_iload hx hb dX6_bring_86 (lv_at hl 0 rfl) ?_
            refine lv_iload_n hx hb dX6_bring_88 rfl (lv_at hl 6 rfl) ?_
            refine lv_aload hx hb dX6_bring_89 (lv_at hl 2 rfl) ?_
            refine gt_1_1 hx hb hts iX6_bring_X2 hown hB.1 hC hr_c1 qX6_bring_w7 dX6_bring_91 ?_
            refine lv_aload_n hx hb dX6_bring_94 rfl (lv_at hl 3 rfl) ?_
            refine gt_0_11 hx hb hts iX6_bring_X6 hown hB.1 hC qX6_bring_w8 dX6_bring_95 ?_
            refine lv_bipush (v := 24) hx hb dX6_bring_98 (by decide) ?_
            refine lv_idiv hx hb dX6_bring_100 (by decide) ?_
            refine lv_icmp_lt (tgt := 108) hx hb dX6_bring_101 (by decide) (fun c8 => ?_) (fun c8 => ?_)
            · skip
              refine lv_iconst (v := 0) hx hb dX6_bring_108 (by decide) ?_
              refine q_callVv (As := [.int x, .int (kg - ((kg * (100 - rp)) / 200)), .int rp, .int 0]) (κ := 2) (i := (g 0 0 8).toNatClampNeg) (show ((g 0 0 8).toNatClampNeg) < 20 from (by omega)) rfl ⟨_, rfl⟩ rfl ⟨hx, hb, hml, hown, hts⟩ (kX0_fill l D cy hI g _ ((g 0 0 8).toNatClampNeg) (by omega) x (kg - ((kg * (100 - rp)) / 200)) rp 0 (by decide)) (cwV 4 hts gX6_bring_X0_fill rfl rfl rfl (by decide +kernel) ⟨Nat.le_of_ble_eq_true rfl, Nat.le_of_ble_eq_true rfl⟩) hB hC hS rfl hl.1 (Nat.le_of_ble_eq_true rfl) dX6_bring_109 ⟨Nat.le_of_ble_eq_true rfl, Nat.le_of_ble_eq_true rfl⟩ (fun H locs hC hS => ?_)
              refine lv_aload_n hx hb dX6_bring_112 rfl (lv_at hl 3 rfl) ?_
              refine lv_dup hx hb dX6_bring_113 rfl ?_
              refine gt_0_8 hx hb hts iX6_bring_X6 hown hB.1 hC qX6_bring_w5 dX6_bring_114 ?_
              refine lv_iconst (v := 1) hx hb dX6_bring_117 (by decide) ?_
              refine lv_iadd hx hb dX6_bring_118 ?_
              refine pt_0_8 hx hb hts iX6_bring_X6 hown hB.1 hC hI hS hA qX6_bring_w5 dX6_bring_119 (fun H locs hC hS => ?_)
              refine lv_aload_n hx hb dX6_bring_122 rfl (lv_at hl 3 rfl) ?_
              refine lv_dup hx hb dX6_bring_123 rfl ?_
              refine gt_0_14 hx hb hts iX6_bring_X6 hown hB.1 hC qX6_bring_w9 dX6_bring_124 ?_
              refine q_val (v := (fX0_fill g ((g 0 0 8).toNatClampNeg) x (kg - ((kg * (100 - rp)) / 200)) rp 0) 0 0 3) ((up_nk (by decide)).trans rfl) ?_
              refine lv_iload hx hb dX6_bring_127 (lv_at hl 1 rfl) ?_
              refine lv_iadd hx hb dX6_bring_129 ?_
              refine pt_0_14 hx hb hts iX6_bring_X6 hown hB.1 hC hI hS hA qX6_bring_w9 dX6_bring_130 (fun H locs hC hS => ?_)
              refine lv_aload hx hb dX6_bring_133 (lv_at hl 2 rfl) ?_
              refine lv_dup hx hb dX6_bring_135 rfl ?_
              refine gt_1_3 hx hb hts iX6_bring_X2 hown hB.1 hC hr_c1 qX6_bring_w10 dX6_bring_136 ?_
              refine q_val (v := (fX0_fill g ((g 0 0 8).toNatClampNeg) x (kg - ((kg * (100 - rp)) / 200)) rp 0) 1 x.toNatClampNeg 3) ((up_nt (by decide)).trans ((up_nt (by decide)).trans rfl)) ?_
              refine lv_iload hx hb dX6_bring_139 (lv_at hl 0 rfl) ?_
              refine lv_iadd hx hb dX6_bring_141 ?_
              refine pt_1_3 hx hb hts iX6_bring_X2 hown hB.1 hC hI hS hA hr_c1 qX6_bring_w10 dX6_bring_142 (fun H locs hC hS => ?_)
              refine lv_aload hx hb dX6_bring_145 (lv_at hl 2 rfl) ?_
              refine lv_dup hx hb dX6_bring_147 rfl ?_
              refine gt_1_2 hx hb hts iX6_bring_X2 hown hB.1 hC hr_c1 qX6_bring_w11 dX6_bring_148 ?_
              refine q_val (v := (fX0_fill g ((g 0 0 8).toNatClampNeg) x (kg - ((kg * (100 - rp)) / 200)) rp 0) 1 x.toNatClampNeg 2) ((up_nk (by decide)).trans ((up_nt (by decide)).trans ((up_nt (by decide)).trans rfl))) ?_
              refine lv_iload hx hb dX6_bring_151 (lv_at hl 0 rfl) ?_
              refine lv_aload_n hx hb dX6_bring_153 rfl (lv_at hl 3 rfl) ?_
              refine gt_0_13 hx hb hts iX6_bring_X6 hown hB.1 hC qX6_bring_w12 dX6_bring_154 ?_
              refine q_val (v := (fX0_fill g ((g 0 0 8).toNatClampNeg) x (kg - ((kg * (100 - rp)) / 200)) rp 0) 0 0 2) ((up_nt (by decide)).trans ((up_nk (by decide)).trans ((up_nk (by decide)).trans rfl))) ?_
              refine lv_imul hx hb dX6_bring_157 ?_
              refine lv_iadd hx hb dX6_bring_158 ?_
              refine pt_1_2 hx hb hts iX6_bring_X2 hown hB.1 hC hI hS hA hr_c1 qX6_bring_w11 dX6_bring_159 (fun H locs hC hS => ?_)
              refine lv_aload_n hx hb dX6_bring_162 rfl (lv_at hl 3 rfl) ?_
              refine lv_dup hx hb dX6_bring_163 rfl ?_
              refine gt_0_12 hx hb hts iX6_bring_X6 hown hB.1 hC qX6_bring_w13 dX6_bring_164 ?_
              refine q_val (v := (fX0_fill g ((g 0 0 8).toNatClampNeg) x (kg - ((kg * (100 - rp)) / 200)) rp 0) 0 0 1) ((up_nt (by decide)).trans ((up_nt (by decide)).trans ((up_nk (by decide)).trans ((up_nk (by decide)).trans rfl)))) ?_
              refine lv_iload hx hb dX6_bring_167 (lv_at hl 0 rfl) ?_
              refine lv_aload_n hx hb dX6_bring_169 rfl (lv_at hl 3 rfl) ?_
              refine gt_0_13 hx hb hts iX6_bring_X6 hown hB.1 hC qX6_bring_w12 dX6_bring_170 ?_
              refine q_val (v := (fX0_fill g ((g 0 0 8).toNatClampNeg) x (kg - ((kg * (100 - rp)) / 200)) rp 0) 0 0 2) ((up_nt (by decide)).trans ((up_nt (by decide)).trans ((up_nk (by decide)).trans ((up_nk (by decide)).trans rfl)))) ?_
              refine lv_imul hx hb dX6_bring_173 ?_
              refine lv_isub hx hb dX6_bring_174 ?_
              refine pt_0_12 hx hb hts iX6_bring_X6 hown hB.1 hC hI hS hA qX6_bring_w13 dX6_bring_175 (fun H locs hC hS => ?_)
              refine lv_aload_n hx hb dX6_bring_178 rfl (lv_at hl 3 rfl) ?_
              refine gt_0_8 hx hb hts iX6_bring_X6 hown hB.1 hC qX6_bring_w5 dX6_bring_179 ?_
              refine q_val (v := ((fX0_fill g ((g 0 0 8).toNatClampNeg) x (kg - ((kg * (100 - rp)) / 200)) rp 0) 0 0 8) + 1) ((up_nk (by decide)).trans ((up_nt (by decide)).trans ((up_nt (by decide)).trans ((up_nk (by decide)).trans (up_eq _ _ _ _ _))))) ?_
              refine lv_iconst (v := 1) hx hb dX6_bring_182 (by decide) ?_
              refine lv_isub hx hb dX6_bring_183 ?_
              have e9 : fX6_bring g x kg rp = (0, (((fX0_fill g ((g 0 0 8).toNatClampNeg) x (kg - ((kg * (100 - rp)) / 200)) rp 0) 0 0 8) + 1) - 1, (up (up (up (up (up (fX0_fill g ((g 0 0 8).toNatClampNeg) x (kg - ((kg * (100 - rp)) / 200)) rp 0) 0 0 8 (((fX0_fill g ((g 0 0 8).toNatClampNeg) x (kg - ((kg * (100 - rp)) / 200)) rp 0) 0 0 8) + 1)) 0 0 3 (((fX0_fill g ((g 0 0 8).toNatClampNeg) x (kg - ((kg * (100 - rp)) / 200)) rp 0) 0 0 3) + ((kg * (100 - rp)) / 200))) 1 x.toNatClampNeg 3 (((fX0_fill g ((g 0 0 8).toNatClampNeg) x (kg - ((kg * (100 - rp)) / 200)) rp 0) 1 x.toNatClampNeg 3) + (kg - ((kg * (100 - rp)) / 200)))) 1 x.toNatClampNeg 2 (((fX0_fill g ((g 0 0 8).toNatClampNeg) x (kg - ((kg * (100 - rp)) / 200)) rp 0) 1 x.toNatClampNeg 2) + ((kg - ((kg * (100 - rp)) / 200)) * ((fX0_fill g ((g 0 0 8).toNatClampNeg) x (kg - ((kg * (100 - rp)) / 200)) rp 0) 0 0 2)))) 0 0 1 (((fX0_fill g ((g 0 0 8).toNatClampNeg) x (kg - ((kg * (100 - rp)) / 200)) rp 0) 0 0 1) - ((kg - ((kg * (100 - rp)) / 200)) * ((fX0_fill g ((g 0 0 8).toNatClampNeg) x (kg - ((kg * (100 - rp)) / 200)) rp 0) 0 0 2))))) := (by unfold fX6_bring; rw [if_pos c1, if_neg c2, if_neg c3, if_neg c4, if_pos c5, if_pos c6, if_pos c8])
              exact x_reti hx hb hr hC hS (by rw [e9]) (by rw [e9]) (by rw [e9]) hlocks dX6_bring_184 (Nat.le_of_ble_eq_true rfl) (Nat.le_of_ble_eq_true rfl)
            · skip
              refine lv_iconst (v := 1) hx hb dX6_bring_104 (by decide) ?_
              refine lv_goto (tgt := 109) hx hb dX6_bring_105 (by decide) ?_
              refine q_callVv (As := [.int x, .int (kg - ((kg * (100 - rp)) / 200)), .int rp, .int 1]) (κ := 2) (i := (g 0 0 8).toNatClampNeg) (show ((g 0 0 8).toNatClampNeg) < 20 from (by omega)) rfl ⟨_, rfl⟩ rfl ⟨hx, hb, hml, hown, hts⟩ (kX0_fill l D cy hI g _ ((g 0 0 8).toNatClampNeg) (by omega) x (kg - ((kg * (100 - rp)) / 200)) rp 1 (by decide)) (cwV 4 hts gX6_bring_X0_fill rfl rfl rfl (by decide +kernel) ⟨Nat.le_of_ble_eq_true rfl, Nat.le_of_ble_eq_true rfl⟩) hB hC hS rfl hl.1 (Nat.le_of_ble_eq_true rfl) dX6_bring_109 ⟨Nat.le_of_ble_eq_true rfl, Nat.le_of_ble_eq_true rfl⟩ (fun H locs hC hS => ?_)
              refine lv_aload_n hx hb dX6_bring_112 rfl (lv_at hl 3 rfl) ?_
              refine lv_dup hx hb dX6_bring_113 rfl ?_
              refine gt_0_8 hx hb hts iX6_bring_X6 hown hB.1 hC qX6_bring_w5 dX6_bring_114 ?_
              refine lv_iconst (v := 1) hx hb dX6_bring_117 (by decide) ?_
              refine lv_iadd hx hb dX6_bring_118 ?_
              refine pt_0_8 hx hb hts iX6_bring_X6 hown hB.1 hC hI hS hA qX6_bring_w5 dX6_bring_119 (fun H locs hC hS => ?_)
              refine lv_aload_n hx hb dX6_bring_122 rfl (lv_at hl 3 rfl) ?_
              refine lv_dup hx hb dX6_bring_123 rfl ?_
              refine gt_0_14 hx hb hts iX6_bring_X6 hown hB.1 hC qX6_bring_w9 dX6_bring_124 ?_
              refine q_val (v := (fX0_fill g ((g 0 0 8).toNatClampNeg) x (kg - ((kg * (100 - rp)) / 200)) rp 1) 0 0 3) ((up_nk (by decide)).trans rfl) ?_
              refine lv_iload hx hb dX6_bring_127 (lv_at hl 1 rfl) ?_
              refine lv_iadd hx hb dX6_bring_129 ?_
              refine pt_0_14 hx hb hts iX6_bring_X6 hown hB.1 hC hI hS hA qX6_bring_w9 dX6_bring_130 (fun H locs hC hS => ?_)
              refine lv_aload hx hb dX6_bring_133 (lv_at hl 2 rfl) ?_
              refine lv_dup hx hb dX6_bring_135 rfl ?_
              refine gt_1_3 hx hb hts iX6_bring_X2 hown hB.1 hC hr_c1 qX6_bring_w10 dX6_bring_136 ?_
              refine q_val (v := (fX0_fill g ((g 0 0 8).toNatClampNeg) x (kg - ((kg * (100 - rp)) / 200)) rp 1) 1 x.toNatClampNeg 3) ((up_nt (by decide)).trans ((up_nt (by decide)).trans rfl)) ?_
              refine lv_iload hx hb dX6_bring_139 (lv_at hl 0 rfl) ?_
              refine lv_iadd hx hb dX6_bring_141 ?_
              refine pt_1_3 hx hb hts iX6_bring_X2 hown hB.1 hC hI hS hA hr_c1 qX6_bring_w10 dX6_bring_142 (fun H locs hC hS => ?_)
              refine lv_aload hx hb dX6_bring_145 (lv_at hl 2 rfl) ?_
              refine lv_dup hx hb dX6_bring_147 rfl ?_
              refine gt_1_2 hx hb hts iX6_bring_X2 hown hB.1 hC hr_c1 qX6_bring_w11 dX6_bring_148 ?_
              refine q_val (v := (fX0_fill g ((g 0 0 8).toNatClampNeg) x (kg - ((kg * (100 - rp)) / 200)) rp 1) 1 x.toNatClampNeg 2) ((up_nk (by decide)).trans ((up_nt (by decide)).trans ((up_nt (by decide)).trans rfl))) ?_
              refine lv_iload hx hb dX6_bring_151 (lv_at hl 0 rfl) ?_
              refine lv_aload_n hx hb dX6_bring_153 rfl (lv_at hl 3 rfl) ?_
              refine gt_0_13 hx hb hts iX6_bring_X6 hown hB.1 hC qX6_bring_w12 dX6_bring_154 ?_
              refine q_val (v := (fX0_fill g ((g 0 0 8).toNatClampNeg) x (kg - ((kg * (100 - rp)) / 200)) rp 1) 0 0 2) ((up_nt (by decide)).trans ((up_nk (by decide)).trans ((up_nk (by decide)).trans rfl))) ?_
              refine lv_imul hx hb dX6_bring_157 ?_
              refine lv_iadd hx hb dX6_bring_158 ?_
              refine pt_1_2 hx hb hts iX6_bring_X2 hown hB.1 hC hI hS hA hr_c1 qX6_bring_w11 dX6_bring_159 (fun H locs hC hS => ?_)
              refine lv_aload_n hx hb dX6_bring_162 rfl (lv_at hl 3 rfl) ?_
              refine lv_dup hx hb dX6_bring_163 rfl ?_
              refine gt_0_12 hx hb hts iX6_bring_X6 hown hB.1 hC qX6_bring_w13 dX6_bring_164 ?_
              refine q_val (v := (fX0_fill g ((g 0 0 8).toNatClampNeg) x (kg - ((kg * (100 - rp)) / 200)) rp 1) 0 0 1) ((up_nt (by decide)).trans ((up_nt (by decide)).trans ((up_nk (by decide)).trans ((up_nk (by decide)).trans rfl)))) ?_
              refine lv_iload hx hb dX6_bring_167 (lv_at hl 0 rfl) ?_
              refine lv_aload_n hx hb dX6_bring_169 rfl (lv_at hl 3 rfl) ?_
              refine gt_0_13 hx hb hts iX6_bring_X6 hown hB.1 hC qX6_bring_w12 dX6_bring_170 ?_
              refine q_val (v := (fX0_fill g ((g 0 0 8).toNatClampNeg) x (kg - ((kg * (100 - rp)) / 200)) rp 1) 0 0 2) ((up_nt (by decide)).trans ((up_nt (by decide)).trans ((up_nk (by decide)).trans ((up_nk (by decide)).trans rfl)))) ?_
              refine lv_imul hx hb dX6_bring_173 ?_
              refine lv_isub hx hb dX6_bring_174 ?_
              refine pt_0_12 hx hb hts iX6_bring_X6 hown hB.1 hC hI hS hA qX6_bring_w13 dX6_bring_175 (fun H locs hC hS => ?_)
              refine lv_aload_n hx hb dX6_bring_178 rfl (lv_at hl 3 rfl) ?_
              refine gt_0_8 hx hb hts iX6_bring_X6 hown hB.1 hC qX6_bring_w5 dX6_bring_179 ?_
              refine q_val (v := ((fX0_fill g ((g 0 0 8).toNatClampNeg) x (kg - ((kg * (100 - rp)) / 200)) rp 1) 0 0 8) + 1) ((up_nk (by decide)).trans ((up_nt (by decide)).trans ((up_nt (by decide)).trans ((up_nk (by decide)).trans (up_eq _ _ _ _ _))))) ?_
              refine lv_iconst (v := 1) hx hb dX6_bring_182 (by decide) ?_
              refine lv_isub hx hb dX6_bring_183 ?_
              have e9 : fX6_bring g x kg rp = (0, (((fX0_fill g ((g 0 0 8).toNatClampNeg) x (kg - ((kg * (100 - rp)) / 200)) rp 1) 0 0 8) + 1) - 1, (up (up (up (up (up (fX0_fill g ((g 0 0 8).toNatClampNeg) x (kg - ((kg * (100 - rp)) / 200)) rp 1) 0 0 8 (((fX0_fill g ((g 0 0 8).toNatClampNeg) x (kg - ((kg * (100 - rp)) / 200)) rp 1) 0 0 8) + 1)) 0 0 3 (((fX0_fill g ((g 0 0 8).toNatClampNeg) x (kg - ((kg * (100 - rp)) / 200)) rp 1) 0 0 3) + ((kg * (100 - rp)) / 200))) 1 x.toNatClampNeg 3 (((fX0_fill g ((g 0 0 8).toNatClampNeg) x (kg - ((kg * (100 - rp)) / 200)) rp 1) 1 x.toNatClampNeg 3) + (kg - ((kg * (100 - rp)) / 200)))) 1 x.toNatClampNeg 2 (((fX0_fill g ((g 0 0 8).toNatClampNeg) x (kg - ((kg * (100 - rp)) / 200)) rp 1) 1 x.toNatClampNeg 2) + ((kg - ((kg * (100 - rp)) / 200)) * ((fX0_fill g ((g 0 0 8).toNatClampNeg) x (kg - ((kg * (100 - rp)) / 200)) rp 1) 0 0 2)))) 0 0 1 (((fX0_fill g ((g 0 0 8).toNatClampNeg) x (kg - ((kg * (100 - rp)) / 200)) rp 1) 0 0 1) - ((kg - ((kg * (100 - rp)) / 200)) * ((fX0_fill g ((g 0 0 8).toNatClampNeg) x (kg - ((kg * (100 - rp)) / 200)) rp 1) 0 0 2))))) := (by unfold fX6_bring; rw [if_pos c1, if_neg c2, if_neg c3, if_neg c4, if_pos c5, if_pos c6, if_neg c8])
              exact x_reti hx hb hr hC hS (by rw [e9]) (by rw [e9]) (by rw [e9]) hlocks dX6_bring_184 (Nat.le_of_ble_eq_true rfl) (Nat.le_of_ble_eq_true rfl)
          · skip
            exact q_throwS (cdv := 3) (ik := 93) (is := 114) (ic := 97) (cls := "java/lang/IllegalStateException") (text := "there were 20 baskets") hl0 hx hb hown hml hT hlocks hB hC hS hl.1 (by unfold fX6_bring; rw [if_pos c1, if_neg c2, if_neg c3, if_neg c4, if_pos c5, if_neg c6]) rfl (by decide) ⟨by decide, by decide⟩ (hts _ qX6_bring_w3) (hts _ qX6_bring_w4) (List.mem_of_getElem? (i := 5) rfl) (fun w hw => hts w (List.mem_cons_of_mem _ (List.mem_append_left _ (List.mem_append_right _ hw)))) xN_97 xG_97 dX6_bring_48 dX6_bring_51 dX6_bring_52 dX6_bring_54 dX6_bring_57 ⟨Nat.le_of_ble_eq_true rfl, Nat.le_of_ble_eq_true rfl, Nat.le_of_ble_eq_true rfl, Nat.le_of_ble_eq_true rfl⟩ (Nat.le_of_ble_eq_true rfl) (Nat.le_of_ble_eq_true rfl)
        · skip
          exact q_throwS (cdv := 2) (ik := 86) (is := 112) (ic := 90) (cls := "java/lang/IllegalArgumentException") (text := "kilos is not 1 to 200, or ripe not 0 to 100") hl0 hx hb hown hml hT hlocks hB hC hS hl.1 (by unfold fX6_bring; rw [if_pos c1, if_neg c2, if_neg c3, if_neg c4, if_neg c5]) rfl (by decide) ⟨by decide, by decide⟩ (hts _ qX6_bring_w1) (hts _ qX6_bring_w2) (List.mem_of_getElem? (i := 4) rfl) (fun w hw => hts w (List.mem_cons_of_mem _ (List.mem_append_left _ (List.mem_append_left _ (List.mem_append_right _ hw))))) xN_90 xG_90 dX6_bring_29 dX6_bring_32 dX6_bring_33 dX6_bring_35 dX6_bring_38 ⟨Nat.le_of_ble_eq_true rfl, Nat.le_of_ble_eq_true rfl, Nat.le_of_ble_eq_true rfl, Nat.le_of_ble_eq_true rfl⟩ (Nat.le_of_ble_eq_true rfl) (Nat.le_of_ble_eq_true rfl)
def fX6_bed (g : Gd) (x : Int32) : Nat × Int32 × Gd := if x < 5 then ((2, 0, g)) else (if x ≤ 40 then (if (g 0 0 9) < 5 then ((0, ((g 0 0 9) + 1) - 1, (up (up g 3 (3 + (g 0 0 9).toNatClampNeg) 8 x) 0 0 9 ((g 0 0 9) + 1)))) else ((3, 0, g))) else ((2, 0, g)))
theorem qX6_bed_w1 : Cond.classLink RX6 86 "java/lang/IllegalArgumentException" ∈ wsX6_bed := List.mem_of_getElem? (i := 1) rfl
theorem qX6_bed_w2 : Cond.initialized "java/lang/IllegalArgumentException" ∈ wsX6_bed := List.mem_of_getElem? (i := 2) rfl
theorem qX6_bed_w3 : Cond.classLink RX6 93 "java/lang/IllegalStateException" ∈ wsX6_bed := List.mem_of_getElem? (i := 3) rfl
theorem qX6_bed_w4 : Cond.initialized "java/lang/IllegalStateException" ∈ wsX6_bed := List.mem_of_getElem? (i := 4) rfl
theorem qX6_bed_w5 : Cond.fieldLink RX6 55 "CherryStation" "bedCount" "I" ∈ wsX6_bed := List.mem_of_getElem? (i := 5) rfl
theorem qX6_bed_w6 : Cond.fieldLink RX6 29 "CherryStation" "beds" "[LCherryStation$Bed;" ∈ wsX6_bed := List.mem_of_getElem? (i := 6) rfl
theorem qX6_bed_w7 : Cond.fieldLink RX6 138 "CherryStation$Bed" "area" "I" ∈ wsX6_bed := List.mem_of_getElem? (i := 7) rfl
theorem iX6_bed_X1 : ∀ w ∈ wsX10, w ∈ wsX6_bed := fun _ h => (List.mem_cons_of_mem _ (List.mem_append_left _ (List.mem_append_left _ (List.mem_append_right _ h))))
theorem iX6_bed_X6 : ∀ w ∈ wsX60, w ∈ wsX6_bed := fun _ h => (List.mem_cons_of_mem _ (List.mem_append_left _ (List.mem_append_left _ (List.mem_append_left _ (List.mem_append_right _ h)))))
set_option maxRecDepth 100000 in
set_option maxHeartbeats 4000000 in
theorem kX6_bed (l : Launch) (D : va_G) (cy : Nat → ClassId) {ad : Nat → Nat → Nat} (hI : cI ad) (hl0 : l.stackTraces = false) (g : Gd) (sz : Nat) (x : Int32) (hv : IvC g) : vx_Met l yX6_bed wsX6_bed ({ frames := 6, cells := 1, slots := 6, locals := 82 } : Room) (va_Pc [.ref (ad 0 0), .int x] (cPre D cy ad g sz)) (cXi D cy ad (fX6_bed g x).1 (fX6_bed g x).2.1 (fX6_bed g x).2.2 sz) (cXC D cy ad (fX6_bed g x).1 g sz) 1 6 (cA ad sz) := by
  refine q_startX (cc := cX6_bed) (maxL := 2) (ret := (some .int)) (own := RX6) (by decide) rfl rfl (Nat.le_of_ble_eq_true rfl) ?_
  intro p e s m below meth c hx hb hr hml hts hown hlocks hT ⟨hsz, hC, hB⟩ ls hl
  subst hsz
  have hS : va_S (cA ad s.heap.size) s.heap s.heap [] := va_S.rf
  have hA : ∀ κ i : Nat, cV κ i → cA ad s.heap.size (ad κ i) := fun κ i h => Or.inl ⟨κ, i, h, rfl⟩
  have hl : lv_has ls 2 [(0, .ref (ad 0 0)), (1, .int x)] := hl
  refine lv_iload_n hx hb dX6_bed_0 rfl (lv_at hl 1 rfl) ?_
  refine lv_iconst (v := 5) hx hb dX6_bed_1 (by decide) ?_
  refine lv_icmp_lt (tgt := 11) hx hb dX6_bed_2 (by decide) (fun c1 => ?_) (fun c1 => ?_)
  · skip
    exact q_throwS (cdv := 2) (ik := 86) (is := 134) (ic := 90) (cls := "java/lang/IllegalArgumentException") (text := "area is not 5 to 40") hl0 hx hb hown hml hT hlocks hB hC hS hl.1 (by unfold fX6_bed; rw [if_pos c1]) rfl (by decide) ⟨by decide, by decide⟩ (hts _ qX6_bed_w1) (hts _ qX6_bed_w2) (List.mem_of_getElem? (i := 8) rfl) (fun w hw => hts w (List.mem_cons_of_mem _ (List.mem_append_left _ (List.mem_append_right _ hw)))) xN_90 xG_90 dX6_bed_11 dX6_bed_14 dX6_bed_15 dX6_bed_17 dX6_bed_20 ⟨Nat.le_of_ble_eq_true rfl, Nat.le_of_ble_eq_true rfl, Nat.le_of_ble_eq_true rfl, Nat.le_of_ble_eq_true rfl⟩ (Nat.le_of_ble_eq_true rfl) (Nat.le_of_ble_eq_true rfl)
  · skip
    refine lv_iload_n hx hb dX6_bed_5 rfl (lv_at hl 1 rfl) ?_
    refine lv_bipush (v := 40) hx hb dX6_bed_6 (by decide) ?_
    refine lv_icmp_le (tgt := 21) hx hb dX6_bed_8 (by decide) (fun c2 => ?_) (fun c2 => ?_)
    · skip
      refine lv_aload_n hx hb dX6_bed_21 rfl (lv_at hl 0 rfl) ?_
      refine gt_0_9 hx hb hts iX6_bed_X6 hown hB.1 hC qX6_bed_w5 dX6_bed_22 ?_
      refine lv_iconst (v := 5) hx hb dX6_bed_25 (by decide) ?_
      refine lv_icmp_lt (tgt := 39) hx hb dX6_bed_26 (by decide) (fun c3 => ?_) (fun c3 => ?_)
      · skip
        refine lv_aload_n hx hb dX6_bed_39 rfl (lv_at hl 0 rfl) ?_
        refine gt_0_3 hx hb hts iX6_bed_X6 hown hB.1 hC qX6_bed_w6 dX6_bed_40 ?_
        refine lv_aload_n hx hb dX6_bed_43 rfl (lv_at hl 0 rfl) ?_
        refine gt_0_9 hx hb hts iX6_bed_X6 hown hB.1 hC qX6_bed_w5 dX6_bed_44 ?_
        have hlt4 : (g 0 0 9).toNatClampNeg < 5 := vp_lt (in_lt (IvC.n9 hv).1 c3)
        refine la_13 hx hb hB.1 hC (k := (g 0 0 9).toNatClampNeg) rfl (in_lt (IvC.n9 hv).1 c3) dX6_bed_47 ?_
        refine lv_iload_n hx hb dX6_bed_48 rfl (lv_at hl 1 rfl) ?_
        refine pt_4_1 hx hb hts iX6_bed_X1 hown hB.1 hC hI hS hA (by omega) qX6_bed_w7 dX6_bed_49 (fun H locs hC hS => ?_)
        refine lv_aload_n hx hb dX6_bed_52 rfl (lv_at hl 0 rfl) ?_
        refine lv_dup hx hb dX6_bed_53 rfl ?_
        refine gt_0_9 hx hb hts iX6_bed_X6 hown hB.1 hC qX6_bed_w5 dX6_bed_54 ?_
        refine q_val (v := g 0 0 9) ((up_nt (by decide)).trans rfl) ?_
        refine lv_iconst (v := 1) hx hb dX6_bed_57 (by decide) ?_
        refine lv_iadd hx hb dX6_bed_58 ?_
        refine pt_0_9 hx hb hts iX6_bed_X6 hown hB.1 hC hI hS hA qX6_bed_w5 dX6_bed_59 (fun H locs hC hS => ?_)
        refine lv_aload_n hx hb dX6_bed_62 rfl (lv_at hl 0 rfl) ?_
        refine gt_0_9 hx hb hts iX6_bed_X6 hown hB.1 hC qX6_bed_w5 dX6_bed_63 ?_
        refine q_val (v := (g 0 0 9) + 1) (up_eq _ _ _ _ _) ?_
        refine lv_iconst (v := 1) hx hb dX6_bed_66 (by decide) ?_
        refine lv_isub hx hb dX6_bed_67 ?_
        have e9 : fX6_bed g x = (0, ((g 0 0 9) + 1) - 1, (up (up g 3 (3 + (g 0 0 9).toNatClampNeg) 8 x) 0 0 9 ((g 0 0 9) + 1))) := (by unfold fX6_bed; rw [if_neg c1, if_pos c2, if_pos c3])
        exact x_reti hx hb hr hC hS (by rw [e9]) (by rw [e9]) (by rw [e9]) hlocks dX6_bed_68 (Nat.le_of_ble_eq_true rfl) (Nat.le_of_ble_eq_true rfl)
      · skip
        exact q_throwS (cdv := 3) (ik := 93) (is := 136) (ic := 97) (cls := "java/lang/IllegalStateException") (text := "there are 5 beds") hl0 hx hb hown hml hT hlocks hB hC hS hl.1 (by unfold fX6_bed; rw [if_neg c1, if_pos c2, if_neg c3]) rfl (by decide) ⟨by decide, by decide⟩ (hts _ qX6_bed_w3) (hts _ qX6_bed_w4) (List.mem_of_getElem? (i := 9) rfl) (fun w hw => hts w (List.mem_cons_of_mem _ (List.mem_append_right _ hw))) xN_97 xG_97 dX6_bed_29 dX6_bed_32 dX6_bed_33 dX6_bed_35 dX6_bed_38 ⟨Nat.le_of_ble_eq_true rfl, Nat.le_of_ble_eq_true rfl, Nat.le_of_ble_eq_true rfl, Nat.le_of_ble_eq_true rfl⟩ (Nat.le_of_ble_eq_true rfl) (Nat.le_of_ble_eq_true rfl)
    · skip
      exact q_throwS (cdv := 2) (ik := 86) (is := 134) (ic := 90) (cls := "java/lang/IllegalArgumentException") (text := "area is not 5 to 40") hl0 hx hb hown hml hT hlocks hB hC hS hl.1 (by unfold fX6_bed; rw [if_neg c1, if_neg c2]) rfl (by decide) ⟨by decide, by decide⟩ (hts _ qX6_bed_w1) (hts _ qX6_bed_w2) (List.mem_of_getElem? (i := 8) rfl) (fun w hw => hts w (List.mem_cons_of_mem _ (List.mem_append_left _ (List.mem_append_right _ hw)))) xN_90 xG_90 dX6_bed_11 dX6_bed_14 dX6_bed_15 dX6_bed_17 dX6_bed_20 ⟨Nat.le_of_ble_eq_true rfl, Nat.le_of_ble_eq_true rfl, Nat.le_of_ble_eq_true rfl, Nat.le_of_ble_eq_true rfl⟩ (Nat.le_of_ble_eq_true rfl) (Nat.le_of_ble_eq_true rfl)
def fX6_pulp (g : Gd) (x : Int32) (t : Int32) : Nat × Int32 × Gd := if (fX6_basketAt g x) = 0 then (if (fX6_tankAt g t) = 0 then (if (g 2 x.toNatClampNeg 3) = 0 then (if ((g 2 x.toNatClampNeg 1) / 2) = 0 then ((3, 0, g)) else (if (fX5_takes g t.toNatClampNeg ((g 2 x.toNatClampNeg 1) / 2)) = 0 then ((3, 0, g)) else ((0, (fX4_addBasket (up g 2 x.toNatClampNeg 3 1) t.toNatClampNeg x.toNatClampNeg ((g 2 x.toNatClampNeg 1) / 2)) 3 t.toNatClampNeg 0, (up (fX4_addBasket (up g 2 x.toNatClampNeg 3 1) t.toNatClampNeg x.toNatClampNeg ((g 2 x.toNatClampNeg 1) / 2)) 0 0 5 (((fX4_addBasket (up g 2 x.toNatClampNeg 3 1) t.toNatClampNeg x.toNatClampNeg ((g 2 x.toNatClampNeg 1) / 2)) 0 0 5) + (((fX4_addBasket (up g 2 x.toNatClampNeg 3 1) t.toNatClampNeg x.toNatClampNeg ((g 2 x.toNatClampNeg 1) / 2)) 2 x.toNatClampNeg 1) - ((g 2 x.toNatClampNeg 1) / 2)))))))) else ((3, 0, g))) else (((fX6_tankAt g t), 0, g))) else (((fX6_basketAt g x), 0, g))
theorem qX6_pulp_w1 : Cond.classLink RX6 93 "java/lang/IllegalStateException" ∈ wsX6_pulp := List.mem_of_getElem? (i := 1) rfl
theorem qX6_pulp_w2 : Cond.initialized "java/lang/IllegalStateException" ∈ wsX6_pulp := List.mem_of_getElem? (i := 2) rfl
theorem qX6_pulp_w3 : Cond.fieldLink RX6 149 "CherryStation$Basket" "kilos" "I" ∈ wsX6_pulp := List.mem_of_getElem? (i := 3) rfl
theorem qX6_pulp_w4 : Cond.fieldLink RX6 152 "CherryStation$Basket" "state" "I" ∈ wsX6_pulp := List.mem_of_getElem? (i := 4) rfl
theorem qX6_pulp_w5 : Cond.fieldLink RX6 161 "CherryStation$Tank" "mix" "LCherryStation$Mix;" ∈ wsX6_pulp := List.mem_of_getElem? (i := 5) rfl
theorem qX6_pulp_w6 : Cond.fieldLink RX6 76 "CherryStation" "lost" "I" ∈ wsX6_pulp := List.mem_of_getElem? (i := 6) rfl
theorem qX6_pulp_w7 : Cond.fieldLink RX6 171 "CherryStation$Mix" "kilos" "I" ∈ wsX6_pulp := List.mem_of_getElem? (i := 7) rfl
theorem iX6_pulp_X0 : ∀ w ∈ wsX00, w ∈ wsX6_pulp := fun _ h => (List.mem_cons_of_mem _ (List.mem_append_left _ (List.mem_append_left _ (List.mem_append_left _ (List.mem_append_left _ (List.mem_append_left _ (List.mem_append_right _ h)))))))
theorem iX6_pulp_X4 : ∀ w ∈ wsX40, w ∈ wsX6_pulp := fun _ h => (List.mem_cons_of_mem _ (List.mem_append_left _ (List.mem_append_left _ (List.mem_append_right _ h))))
theorem iX6_pulp_X5 : ∀ w ∈ wsX50, w ∈ wsX6_pulp := fun _ h => (List.mem_cons_of_mem _ (List.mem_append_left _ (List.mem_append_left _ (List.mem_append_left _ (List.mem_append_left _ (List.mem_append_right _ h))))))
theorem iX6_pulp_X6 : ∀ w ∈ wsX60, w ∈ wsX6_pulp := fun _ h => (List.mem_cons_of_mem _ (List.mem_append_left _ (List.mem_append_left _ (List.mem_append_left _ (List.mem_append_right _ h)))))
set_option maxRecDepth 100000 in
set_option maxHeartbeats 4000000 in
theorem kX6_pulp (l : Launch) (D : va_G) (cy : Nat → ClassId) {ad : Nat → Nat → Nat} (hI : cI ad) (hl0 : l.stackTraces = false) (g : Gd) (sz : Nat) (x : Int32) (t : Int32) (hv : IvC g) : vx_Met l yX6_pulp wsX6_pulp ({ frames := 7, cells := 3, slots := 18, locals := 103 } : Room) (va_Pc [.ref (ad 0 0), .int x, .int t] (cPre D cy ad g sz)) (cXi D cy ad (fX6_pulp g x t).1 (fX6_pulp g x t).2.1 (fX6_pulp g x t).2.2 sz) (cXC D cy ad (fX6_pulp g x t).1 g sz) 3 18 (cA ad sz) := by
  refine q_startX (cc := cX6_pulp) (maxL := 6) (ret := (some .int)) (own := RX6) (by decide) rfl rfl (Nat.le_of_ble_eq_true rfl) ?_
  intro p e s m below meth c hx hb hr hml hts hown hlocks hT ⟨hsz, hC, hB⟩ ls hl
  subst hsz
  have hS : va_S (cA ad s.heap.size) s.heap s.heap [] := va_S.rf
  have hA : ∀ κ i : Nat, cV κ i → cA ad s.heap.size (ad κ i) := fun κ i h => Or.inl ⟨κ, i, h, rfl⟩
  have hl : lv_has ls 6 [(0, .ref (ad 0 0)), (1, .int x), (2, .int t)] := hl
  refine lv_aload_n hx hb dX6_pulp_0 rfl (lv_at hl 0 rfl) ?_
  refine lv_iload_n hx hb dX6_pulp_1 rfl (lv_at hl 1 rfl) ?_
  refine x_callVr (As := [.int x]) (κ := 0) (i := 0) rfl rfl ⟨_, rfl⟩ rfl ⟨hx, hb, hml, hown, hts⟩ (kX6_basketAt l D cy hI hl0 g _  x hv) (cwV 1 hts gX6_pulp_X6_basketAt rfl rfl rfl (by decide +kernel) ⟨Nat.le_of_ble_eq_true rfl, Nat.le_of_ble_eq_true rfl⟩) hB hC hS rfl hl.1 (Nat.le_of_ble_eq_true rfl) dX6_pulp_2 ⟨Nat.le_of_ble_eq_true rfl, Nat.le_of_ble_eq_true rfl⟩ ⟨Nat.le_of_ble_eq_true rfl, Nat.le_of_ble_eq_true rfl⟩ hT hlocks (fun h => by unfold fX6_pulp; rw [if_neg h]) (fun c1 H locs hC hS => ?_)
  have hr_c1 : x.toNatClampNeg < 20 := vp_lt (basketAt_in hv c1)
  refine lv_astore_n (lv' := [(3, .ref (ad 2 x.toNatClampNeg)), (0, .ref (ad 0 0)), (1, .int x), (2, .int t)]) hx hb dX6_pulp_5 rfl hl (by decide) rfl (fun ls hl => ?_)
  refine lv_aload_n hx hb dX6_pulp_6 rfl (lv_at hl 1 rfl) ?_
  refine lv_iload_n hx hb dX6_pulp_7 rfl (lv_at hl 3 rfl) ?_
  refine x_callVr (As := [.int t]) (κ := 0) (i := 0) rfl rfl ⟨_, rfl⟩ rfl ⟨hx, hb, hml, hown, hts⟩ (kX6_tankAt l D cy hI hl0 g _  t ) (cwV 1 hts gX6_pulp_X6_tankAt rfl rfl rfl (by decide +kernel) ⟨Nat.le_of_ble_eq_true rfl, Nat.le_of_ble_eq_true rfl⟩) hB hC hS rfl hl.1 (Nat.le_of_ble_eq_true rfl) dX6_pulp_8 ⟨Nat.le_of_ble_eq_true rfl, Nat.le_of_ble_eq_true rfl⟩ ⟨Nat.le_of_ble_eq_true rfl, Nat.le_of_ble_eq_true rfl⟩ hT hlocks (fun h => by unfold fX6_pulp; rw [if_pos c1, if_neg h]) (fun c2 H locs hC hS => ?_)
  have hr_c2 : t.toNatClampNeg < 3 := vp_lt (tankAt_in c2)
  refine lv_astore (lv' := [(4, .ref (ad 3 t.toNatClampNeg)), (3, .ref (ad 2 x.toNatClampNeg)), (0, .ref (ad 0 0)), (1, .int x), (2, .int t)]) hx hb dX6_pulp_11 hl (by decide) rfl (fun ls hl => ?_)
  refine lv_aload_n hx hb dX6_pulp_13 rfl (lv_at hl 1 rfl) ?_
  refine gt_2_1 hx hb hts iX6_pulp_X0 hown hB.1 hC hr_c1 qX6_pulp_w3 dX6_pulp_14 ?_
  refine lv_iconst (v := 2) hx hb dX6_pulp_17 (by decide) ?_
  refine lv_idiv hx hb dX6_pulp_18 (by decide) ?_
  refine lv_istore (lv' := [(5, .int ((g 2 x.toNatClampNeg 1) / 2)), (4, .ref (ad 3 t.toNatClampNeg)), (3, .ref (ad 2 x.toNatClampNeg)), (0, .ref (ad 0 0)), (1, .int x), (2, .int t)]) hx hb dX6_pulp_19 hl (by decide) rfl (fun ls hl => ?_)
  refine lv_aload_n hx hb dX6_pulp_21 rfl (lv_at hl 2 rfl) ?_
  refine gt_2_3 hx hb hts iX6_pulp_X0 hown hB.1 hC hr_c1 qX6_pulp_w4 dX6_pulp_22 ?_
  refine lv_if_ne (tgt := 43) hx hb dX6_pulp_25 (by decide) (fun c3 => ?_) (fun c3 => ?_)
  · skip
    exact q_throwS (cdv := 3) (ik := 93) (is := 159) (ic := 97) (cls := "java/lang/IllegalStateException") (text := "the basket can't be pulped into that tank") hl0 hx hb hown hml hT hlocks hB hC hS hl.1 (by unfold fX6_pulp; rw [if_pos c1, if_pos c2, if_neg c3]) rfl (by decide) ⟨by decide, by decide⟩ (hts _ qX6_pulp_w1) (hts _ qX6_pulp_w2) (List.mem_of_getElem? (i := 10) rfl) (fun w hw => hts w (List.mem_cons_of_mem _ (List.mem_append_left _ (List.mem_append_right _ hw)))) xN_97 xG_97 dX6_pulp_43 dX6_pulp_46 dX6_pulp_47 dX6_pulp_49 dX6_pulp_52 ⟨Nat.le_of_ble_eq_true rfl, Nat.le_of_ble_eq_true rfl, Nat.le_of_ble_eq_true rfl, Nat.le_of_ble_eq_true rfl⟩ (Nat.le_of_ble_eq_true rfl) (Nat.le_of_ble_eq_true rfl)
  · skip
    refine lv_iload hx hb dX6_pulp_28 (lv_at hl 0 rfl) ?_
    refine lv_if_eq (tgt := 43) hx hb dX6_pulp_30 (by decide) (fun c4 => ?_) (fun c4 => ?_)
    · skip
      exact q_throwS (cdv := 3) (ik := 93) (is := 159) (ic := 97) (cls := "java/lang/IllegalStateException") (text := "the basket can't be pulped into that tank") hl0 hx hb hown hml hT hlocks hB hC hS hl.1 (by unfold fX6_pulp; rw [if_pos c1, if_pos c2, if_pos c3, if_pos c4]) rfl (by decide) ⟨by decide, by decide⟩ (hts _ qX6_pulp_w1) (hts _ qX6_pulp_w2) (List.mem_of_getElem? (i := 10) rfl) (fun w hw => hts w (List.mem_cons_of_mem _ (List.mem_append_left _ (List.mem_append_right _ hw)))) xN_97 xG_97 dX6_pulp_43 dX6_pulp_46 dX6_pulp_47 dX6_pulp_49 dX6_pulp_52 ⟨Nat.le_of_ble_eq_true rfl, Nat.le_of_ble_eq_true rfl, Nat.le_of_ble_eq_true rfl, Nat.le_of_ble_eq_true rfl⟩ (Nat.le_of_ble_eq_true rfl) (Nat.le_of_ble_eq_true rfl)
    · skip
      refine lv_aload hx hb dX6_pulp_33 (lv_at hl 1 rfl) ?_
      refine lv_iload hx hb dX6_pulp_35 (lv_at hl 0 rfl) ?_
      refine q_callVi (As := [.int ((g 2 x.toNatClampNeg 1) / 2)]) (κ := 3) (i := t.toNatClampNeg) (show t.toNatClampNeg < 3 from hr_c2) rfl ⟨_, rfl⟩ rfl ⟨hx, hb, hml, hown, hts⟩ (kX5_takes l D cy hI g _ t.toNatClampNeg hr_c2 ((g 2 x.toNatClampNeg 1) / 2) ) (cwV 1 hts gX6_pulp_X5_takes rfl rfl rfl (by decide +kernel) ⟨Nat.le_of_ble_eq_true rfl, Nat.le_of_ble_eq_true rfl⟩) hB hC hS rfl hl.1 (Nat.le_of_ble_eq_true rfl) dX6_pulp_37 ⟨Nat.le_of_ble_eq_true rfl, Nat.le_of_ble_eq_true rfl⟩ (fun H locs hC hS => ?_)
      refine lv_if_ne (tgt := 53) hx hb dX6_pulp_40 (by decide) (fun c5 => ?_) (fun c5 => ?_)
      · skip
        refine lv_aload_n hx hb dX6_pulp_53 rfl (lv_at hl 2 rfl) ?_
        refine lv_iconst (v := 1) hx hb dX6_pulp_54 (by decide) ?_
        refine pt_2_3 hx hb hts iX6_pulp_X0 hown hB.1 hC hI hS hA hr_c1 qX6_pulp_w4 dX6_pulp_55 (fun H locs hC hS => ?_)
        refine lv_aload hx hb dX6_pulp_58 (lv_at hl 1 rfl) ?_
        refine gt_3_0 hx hb hts iX6_pulp_X5 hown hB.1 hC hr_c2 qX6_pulp_w5 dX6_pulp_60 ?_
        refine lv_aload_n hx hb dX6_pulp_63 rfl (lv_at hl 2 rfl) ?_
        refine lv_iload hx hb dX6_pulp_64 (lv_at hl 0 rfl) ?_
        refine q_callVv (As := [.ref (ad 2 x.toNatClampNeg), .int ((g 2 x.toNatClampNeg 1) / 2)]) (κ := 6) (i := t.toNatClampNeg) (show t.toNatClampNeg < 21 from (by omega)) rfl ⟨_, rfl⟩ rfl ⟨hx, hb, hml, hown, hts⟩ (kX4_addBasket l D cy hI (up g 2 x.toNatClampNeg 3 1) _ t.toNatClampNeg (by omega) x.toNatClampNeg hr_c1 ((g 2 x.toNatClampNeg 1) / 2) (by simpa [up] using IvC.bf hv hr_c1)) (cwV 2 hts gX6_pulp_X4_addBasket rfl rfl rfl (by decide +kernel) ⟨Nat.le_of_ble_eq_true rfl, Nat.le_of_ble_eq_true rfl⟩) hB hC hS rfl hl.1 (Nat.le_of_ble_eq_true rfl) dX6_pulp_66 ⟨Nat.le_of_ble_eq_true rfl, Nat.le_of_ble_eq_true rfl⟩ (fun H locs hC hS => ?_)
        refine lv_aload_n hx hb dX6_pulp_69 rfl (lv_at hl 3 rfl) ?_
        refine lv_dup hx hb dX6_pulp_70 rfl ?_
        refine gt_0_16 hx hb hts iX6_pulp_X6 hown hB.1 hC qX6_pulp_w6 dX6_pulp_71 ?_
        refine lv_aload_n hx hb dX6_pulp_74 rfl (lv_at hl 2 rfl) ?_
        refine gt_2_1 hx hb hts iX6_pulp_X0 hown hB.1 hC hr_c1 qX6_pulp_w3 dX6_pulp_75 ?_
        refine lv_iload hx hb dX6_pulp_78 (lv_at hl 0 rfl) ?_
        refine lv_isub hx hb dX6_pulp_80 ?_
        refine lv_iadd hx hb dX6_pulp_81 ?_
        refine pt_0_16 hx hb hts iX6_pulp_X6 hown hB.1 hC hI hS hA qX6_pulp_w6 dX6_pulp_82 (fun H locs hC hS => ?_)
        refine lv_aload hx hb dX6_pulp_85 (lv_at hl 1 rfl) ?_
        refine gt_3_0 hx hb hts iX6_pulp_X5 hown hB.1 hC hr_c2 qX6_pulp_w5 dX6_pulp_87 ?_
        refine gt_6_2 hx hb hts iX6_pulp_X4 hown hB.1 hC (by omega) qX6_pulp_w7 dX6_pulp_90 ?_
        refine q_val (v := (fX4_addBasket (up g 2 x.toNatClampNeg 3 1) t.toNatClampNeg x.toNatClampNeg ((g 2 x.toNatClampNeg 1) / 2)) 3 t.toNatClampNeg 0) ((up_nt (by decide)).trans rfl) ?_
        have e9 : fX6_pulp g x t = (0, (fX4_addBasket (up g 2 x.toNatClampNeg 3 1) t.toNatClampNeg x.toNatClampNeg ((g 2 x.toNatClampNeg 1) / 2)) 3 t.toNatClampNeg 0, (up (fX4_addBasket (up g 2 x.toNatClampNeg 3 1) t.toNatClampNeg x.toNatClampNeg ((g 2 x.toNatClampNeg 1) / 2)) 0 0 5 (((fX4_addBasket (up g 2 x.toNatClampNeg 3 1) t.toNatClampNeg x.toNatClampNeg ((g 2 x.toNatClampNeg 1) / 2)) 0 0 5) + (((fX4_addBasket (up g 2 x.toNatClampNeg 3 1) t.toNatClampNeg x.toNatClampNeg ((g 2 x.toNatClampNeg 1) / 2)) 2 x.toNatClampNeg 1) - ((g 2 x.toNatClampNeg 1) / 2))))) := (by unfold fX6_pulp; rw [if_pos c1, if_pos c2, if_pos c3, if_neg c4, if_neg c5])
        exact x_reti hx hb hr hC hS (by rw [e9]) (by rw [e9]) (by rw [e9]) hlocks dX6_pulp_93 (Nat.le_of_ble_eq_true rfl) (Nat.le_of_ble_eq_true rfl)
      · skip
        exact q_throwS (cdv := 3) (ik := 93) (is := 159) (ic := 97) (cls := "java/lang/IllegalStateException") (text := "the basket can't be pulped into that tank") hl0 hx hb hown hml hT hlocks hB hC hS hl.1 (by unfold fX6_pulp; rw [if_pos c1, if_pos c2, if_pos c3, if_neg c4, if_pos c5]) rfl (by decide) ⟨by decide, by decide⟩ (hts _ qX6_pulp_w1) (hts _ qX6_pulp_w2) (List.mem_of_getElem? (i := 10) rfl) (fun w hw => hts w (List.mem_cons_of_mem _ (List.mem_append_left _ (List.mem_append_right _ hw)))) xN_97 xG_97 dX6_pulp_43 dX6_pulp_46 dX6_pulp_47 dX6_pulp_49 dX6_pulp_52 ⟨Nat.le_of_ble_eq_true rfl, Nat.le_of_ble_eq_true rfl, Nat.le_of_ble_eq_true rfl, Nat.le_of_ble_eq_true rfl⟩ (Nat.le_of_ble_eq_true rfl) (Nat.le_of_ble_eq_true rfl)
def fX6_wash (g : Gd) (t : Int32) (b : Int32) (ho : Int32) : Nat × Int32 × Gd := if (fX6_tankAt g t) = 0 then (if (fX6_bedAt g b) = 0 then (if (fX4_isEmpty (g 3 t.toNatClampNeg 0)) = 0 then (if (fX1_takes g b.toNatClampNeg (g 3 t.toNatClampNeg 0)) = 0 then ((3, 0, g)) else (if ho = 0 then ((0, g 3 t.toNatClampNeg 0, (up (fX5_empty (fX4_addMix (fX1_begin g b.toNatClampNeg 0 550 (g 3 t.toNatClampNeg 3)) (3 + b.toNatClampNeg) t.toNatClampNeg) t.toNatClampNeg) 0 0 6 (((fX5_empty (fX4_addMix (fX1_begin g b.toNatClampNeg 0 550 (g 3 t.toNatClampNeg 3)) (3 + b.toNatClampNeg) t.toNatClampNeg) t.toNatClampNeg) 0 0 6) + (3 * (g 3 t.toNatClampNeg 0)))))) else (if (g 3 t.toNatClampNeg 3) < 30 then ((0, g 3 t.toNatClampNeg 0, fX5_empty (fX4_addMix (fX1_begin g b.toNatClampNeg 1 570 (g 3 t.toNatClampNeg 3)) (3 + b.toNatClampNeg) t.toNatClampNeg) t.toNatClampNeg)) else ((3, 0, g))))) else ((3, 0, g))) else (((fX6_bedAt g b), 0, g))) else (((fX6_tankAt g t), 0, g))
theorem qX6_wash_w1 : Cond.classLink RX6 93 "java/lang/IllegalStateException" ∈ wsX6_wash := List.mem_of_getElem? (i := 1) rfl
theorem qX6_wash_w2 : Cond.initialized "java/lang/IllegalStateException" ∈ wsX6_wash := List.mem_of_getElem? (i := 2) rfl
theorem qX6_wash_w3 : Cond.fieldLink RX6 161 "CherryStation$Tank" "mix" "LCherryStation$Mix;" ∈ wsX6_wash := List.mem_of_getElem? (i := 3) rfl
theorem qX6_wash_w4 : Cond.fieldLink RX6 171 "CherryStation$Mix" "kilos" "I" ∈ wsX6_wash := List.mem_of_getElem? (i := 4) rfl
theorem qX6_wash_w5 : Cond.fieldLink RX6 181 "CherryStation$Tank" "points" "I" ∈ wsX6_wash := List.mem_of_getElem? (i := 5) rfl
theorem qX6_wash_w6 : Cond.fieldLink RX6 190 "CherryStation$Bed" "mix" "LCherryStation$Mix;" ∈ wsX6_wash := List.mem_of_getElem? (i := 6) rfl
theorem qX6_wash_w7 : Cond.fieldLink RX6 79 "CherryStation" "water" "I" ∈ wsX6_wash := List.mem_of_getElem? (i := 7) rfl
theorem iX6_wash_X1 : ∀ w ∈ wsX10, w ∈ wsX6_wash := fun _ h => (List.mem_cons_of_mem _ (List.mem_append_left _ (List.mem_append_left _ (List.mem_append_left _ (List.mem_append_right _ h)))))
theorem iX6_wash_X4 : ∀ w ∈ wsX40, w ∈ wsX6_wash := fun _ h => (List.mem_cons_of_mem _ (List.mem_append_left _ (List.mem_append_left _ (List.mem_append_left _ (List.mem_append_left _ (List.mem_append_right _ h))))))
theorem iX6_wash_X5 : ∀ w ∈ wsX50, w ∈ wsX6_wash := fun _ h => (List.mem_cons_of_mem _ (List.mem_append_left _ (List.mem_append_left _ (List.mem_append_left _ (List.mem_append_left _ (List.mem_append_left _ (List.mem_append_right _ h)))))))
theorem iX6_wash_X6 : ∀ w ∈ wsX60, w ∈ wsX6_wash := fun _ h => (List.mem_cons_of_mem _ (List.mem_append_left _ (List.mem_append_left _ (List.mem_append_right _ h))))
set_option maxRecDepth 100000 in
set_option maxHeartbeats 4000000 in
theorem kX6_wash (l : Launch) (D : va_G) (cy : Nat → ClassId) {ad : Nat → Nat → Nat} (hI : cI ad) (hl0 : l.stackTraces = false) (g : Gd) (sz : Nat) (t : Int32) (b : Int32) (ho : Int32) (hv : IvC g) : vx_Met l yX6_wash wsX6_wash ({ frames := 7, cells := 3, slots := 18, locals := 103 } : Room) (va_Pc [.ref (ad 0 0), .int t, .int b, .int ho] (cPre D cy ad g sz)) (cXi D cy ad (fX6_wash g t b ho).1 (fX6_wash g t b ho).2.1 (fX6_wash g t b ho).2.2 sz) (cXC D cy ad (fX6_wash g t b ho).1 g sz) 3 18 (cA ad sz) := by
  refine q_startX (cc := cX6_wash) (maxL := 7) (ret := (some .int)) (own := RX6) (by decide) rfl rfl (Nat.le_of_ble_eq_true rfl) ?_
  intro p e s m below meth c hx hb hr hml hts hown hlocks hT ⟨hsz, hC, hB⟩ ls hl
  subst hsz
  have hS : va_S (cA ad s.heap.size) s.heap s.heap [] := va_S.rf
  have hA : ∀ κ i : Nat, cV κ i → cA ad s.heap.size (ad κ i) := fun κ i h => Or.inl ⟨κ, i, h, rfl⟩
  have hl : lv_has ls 7 [(0, .ref (ad 0 0)), (1, .int t), (2, .int b), (3, .int ho)] := hl
  refine lv_aload_n hx hb dX6_wash_0 rfl (lv_at hl 0 rfl) ?_
  refine lv_iload_n hx hb dX6_wash_1 rfl (lv_at hl 1 rfl) ?_
  refine x_callVr (As := [.int t]) (κ := 0) (i := 0) rfl rfl ⟨_, rfl⟩ rfl ⟨hx, hb, hml, hown, hts⟩ (kX6_tankAt l D cy hI hl0 g _  t ) (cwV 1 hts gX6_wash_X6_tankAt rfl rfl rfl (by decide +kernel) ⟨Nat.le_of_ble_eq_true rfl, Nat.le_of_ble_eq_true rfl⟩) hB hC hS rfl hl.1 (Nat.le_of_ble_eq_true rfl) dX6_wash_2 ⟨Nat.le_of_ble_eq_true rfl, Nat.le_of_ble_eq_true rfl⟩ ⟨Nat.le_of_ble_eq_true rfl, Nat.le_of_ble_eq_true rfl⟩ hT hlocks (fun h => by unfold fX6_wash; rw [if_neg h]) (fun c1 H locs hC hS => ?_)
  have hr_c1 : t.toNatClampNeg < 3 := vp_lt (tankAt_in c1)
  refine lv_astore (lv' := [(4, .ref (ad 3 t.toNatClampNeg)), (0, .ref (ad 0 0)), (1, .int t), (2, .int b), (3, .int ho)]) hx hb dX6_wash_5 hl (by decide) rfl (fun ls hl => ?_)
  refine lv_aload_n hx hb dX6_wash_7 rfl (lv_at hl 1 rfl) ?_
  refine lv_iload_n hx hb dX6_wash_8 rfl (lv_at hl 3 rfl) ?_
  refine x_callVr (As := [.int b]) (κ := 0) (i := 0) rfl rfl ⟨_, rfl⟩ rfl ⟨hx, hb, hml, hown, hts⟩ (kX6_bedAt l D cy hI hl0 g _  b hv) (cwV 1 hts gX6_wash_X6_bedAt rfl rfl rfl (by decide +kernel) ⟨Nat.le_of_ble_eq_true rfl, Nat.le_of_ble_eq_true rfl⟩) hB hC hS rfl hl.1 (Nat.le_of_ble_eq_true rfl) dX6_wash_9 ⟨Nat.le_of_ble_eq_true rfl, Nat.le_of_ble_eq_true rfl⟩ ⟨Nat.le_of_ble_eq_true rfl, Nat.le_of_ble_eq_true rfl⟩ hT hlocks (fun h => by unfold fX6_wash; rw [if_pos c1, if_neg h]) (fun c2 H locs hC hS => ?_)
  have hr_c2 : b.toNatClampNeg < 5 := vp_lt (bedAt_in hv c2)
  refine lv_astore (lv' := [(5, .ref (ad 4 b.toNatClampNeg)), (4, .ref (ad 3 t.toNatClampNeg)), (0, .ref (ad 0 0)), (1, .int t), (2, .int b), (3, .int ho)]) hx hb dX6_wash_12 hl (by decide) rfl (fun ls hl => ?_)
  refine lv_aload hx hb dX6_wash_14 (lv_at hl 1 rfl) ?_
  refine gt_3_0 hx hb hts iX6_wash_X5 hown hB.1 hC hr_c1 qX6_wash_w3 dX6_wash_16 ?_
  refine gt_6_2 hx hb hts iX6_wash_X4 hown hB.1 hC (by omega) qX6_wash_w4 dX6_wash_19 ?_
  refine lv_istore (lv' := [(6, .int (g 3 t.toNatClampNeg 0)), (5, .ref (ad 4 b.toNatClampNeg)), (4, .ref (ad 3 t.toNatClampNeg)), (0, .ref (ad 0 0)), (1, .int t), (2, .int b), (3, .int ho)]) hx hb dX6_wash_22 hl (by decide) rfl (fun ls hl => ?_)
  refine lv_aload hx hb dX6_wash_24 (lv_at hl 2 rfl) ?_
  refine gt_3_0 hx hb hts iX6_wash_X5 hown hB.1 hC hr_c1 qX6_wash_w3 dX6_wash_26 ?_
  refine q_callVi (As := []) (κ := 6) (i := t.toNatClampNeg) (show t.toNatClampNeg < 21 from (by omega)) rfl ⟨_, rfl⟩ rfl ⟨hx, hb, hml, hown, hts⟩ (kX4_isEmpty l D cy hI g _ t.toNatClampNeg (by omega)  ) (cwV 0 hts gX6_wash_X4_isEmpty rfl rfl rfl (by decide +kernel) ⟨Nat.le_of_ble_eq_true rfl, Nat.le_of_ble_eq_true rfl⟩) hB hC hS rfl hl.1 (Nat.le_of_ble_eq_true rfl) dX6_wash_29 ⟨Nat.le_of_ble_eq_true rfl, Nat.le_of_ble_eq_true rfl⟩ (fun H locs hC hS => ?_)
  refine lv_if_ne (tgt := 59) hx hb dX6_wash_32 (by decide) (fun c3 => ?_) (fun c3 => ?_)
  · skip
    exact q_throwS (cdv := 3) (ik := 93) (is := 184) (ic := 97) (cls := "java/lang/IllegalStateException") (text := "the tank can't be washed so onto that bed") hl0 hx hb hown hml hT hlocks hB hC hS hl.1 (by unfold fX6_wash; rw [if_pos c1, if_pos c2, if_neg c3]) rfl (by decide) ⟨by decide, by decide⟩ (hts _ qX6_wash_w1) (hts _ qX6_wash_w2) (List.mem_of_getElem? (i := 11) rfl) (fun w hw => hts w (List.mem_cons_of_mem _ (List.mem_append_left _ (List.mem_append_right _ hw)))) xN_97 xG_97 dX6_wash_59 dX6_wash_62 dX6_wash_63 dX6_wash_65 dX6_wash_68 ⟨Nat.le_of_ble_eq_true rfl, Nat.le_of_ble_eq_true rfl, Nat.le_of_ble_eq_true rfl, Nat.le_of_ble_eq_true rfl⟩ (Nat.le_of_ble_eq_true rfl) (Nat.le_of_ble_eq_true rfl)
  · skip
    refine lv_aload hx hb dX6_wash_35 (lv_at hl 1 rfl) ?_
    refine lv_iload hx hb dX6_wash_37 (lv_at hl 0 rfl) ?_
    refine q_callVi (As := [.int (g 3 t.toNatClampNeg 0)]) (κ := 4) (i := b.toNatClampNeg) (show b.toNatClampNeg < 5 from hr_c2) rfl ⟨_, rfl⟩ rfl ⟨hx, hb, hml, hown, hts⟩ (kX1_takes l D cy hI g _ b.toNatClampNeg hr_c2 (g 3 t.toNatClampNeg 0) ) (cwV 1 hts gX6_wash_X1_takes rfl rfl rfl (by decide +kernel) ⟨Nat.le_of_ble_eq_true rfl, Nat.le_of_ble_eq_true rfl⟩) hB hC hS rfl hl.1 (Nat.le_of_ble_eq_true rfl) dX6_wash_39 ⟨Nat.le_of_ble_eq_true rfl, Nat.le_of_ble_eq_true rfl⟩ (fun H locs hC hS => ?_)
    refine lv_if_eq (tgt := 59) hx hb dX6_wash_42 (by decide) (fun c4 => ?_) (fun c4 => ?_)
    · skip
      exact q_throwS (cdv := 3) (ik := 93) (is := 184) (ic := 97) (cls := "java/lang/IllegalStateException") (text := "the tank can't be washed so onto that bed") hl0 hx hb hown hml hT hlocks hB hC hS hl.1 (by unfold fX6_wash; rw [if_pos c1, if_pos c2, if_pos c3, if_pos c4]) rfl (by decide) ⟨by decide, by decide⟩ (hts _ qX6_wash_w1) (hts _ qX6_wash_w2) (List.mem_of_getElem? (i := 11) rfl) (fun w hw => hts w (List.mem_cons_of_mem _ (List.mem_append_left _ (List.mem_append_right _ hw)))) xN_97 xG_97 dX6_wash_59 dX6_wash_62 dX6_wash_63 dX6_wash_65 dX6_wash_68 ⟨Nat.le_of_ble_eq_true rfl, Nat.le_of_ble_eq_true rfl, Nat.le_of_ble_eq_true rfl, Nat.le_of_ble_eq_true rfl⟩ (Nat.le_of_ble_eq_true rfl) (Nat.le_of_ble_eq_true rfl)
    · skip
      refine lv_iload_n hx hb dX6_wash_45 rfl (lv_at hl 6 rfl) ?_
      refine lv_if_eq (tgt := 69) hx hb dX6_wash_46 (by decide) (fun c5 => ?_) (fun c5 => ?_)
      · skip
        refine lv_aload hx hb dX6_wash_69 (lv_at hl 1 rfl) ?_
        refine lv_iload_n hx hb dX6_wash_71 rfl (lv_at hl 6 rfl) ?_
        refine lv_if_eq (tgt := 79) hx hb dX6_wash_72 (by decide) (fun _ => ?_) (fun c => absurd c5 c)
        refine lv_iconst (v := 0) hx hb dX6_wash_79 (by decide) ?_
        refine lv_iload_n hx hb dX6_wash_80 rfl (lv_at hl 6 rfl) ?_
        refine lv_if_eq (tgt := 90) hx hb dX6_wash_81 (by decide) (fun _ => ?_) (fun c => absurd c5 c)
        refine lv_sipush (v := 550) hx hb dX6_wash_90 (by decide) ?_
        refine lv_aload hx hb dX6_wash_93 (lv_at hl 2 rfl) ?_
        refine gt_3_2 hx hb hts iX6_wash_X5 hown hB.1 hC hr_c1 qX6_wash_w5 dX6_wash_95 ?_
        refine q_callVv (As := [.int 0, .int 550, .int (g 3 t.toNatClampNeg 3)]) (κ := 4) (i := b.toNatClampNeg) (show b.toNatClampNeg < 5 from hr_c2) rfl ⟨_, rfl⟩ rfl ⟨hx, hb, hml, hown, hts⟩ (kX1_begin l D cy hI g _ b.toNatClampNeg hr_c2 0 550 (g 3 t.toNatClampNeg 3) ) (cwV 3 hts gX6_wash_X1_begin rfl rfl rfl (by decide +kernel) ⟨Nat.le_of_ble_eq_true rfl, Nat.le_of_ble_eq_true rfl⟩) hB hC hS rfl hl.1 (Nat.le_of_ble_eq_true rfl) dX6_wash_98 ⟨Nat.le_of_ble_eq_true rfl, Nat.le_of_ble_eq_true rfl⟩ (fun H locs hC hS => ?_)
        refine lv_aload hx hb dX6_wash_101 (lv_at hl 1 rfl) ?_
        refine gt_4_0 hx hb hts iX6_wash_X1 hown hB.1 hC hr_c2 qX6_wash_w6 dX6_wash_103 ?_
        refine lv_aload hx hb dX6_wash_106 (lv_at hl 2 rfl) ?_
        refine gt_3_0 hx hb hts iX6_wash_X5 hown hB.1 hC hr_c1 qX6_wash_w3 dX6_wash_108 ?_
        refine q_callVv (As := [.ref (ad 6 t.toNatClampNeg)]) (κ := 6) (i := 3 + b.toNatClampNeg) (show (3 + b.toNatClampNeg) < 21 from (by omega)) rfl ⟨_, rfl⟩ rfl ⟨hx, hb, hml, hown, hts⟩ (kX4_addMix l D cy hI (fX1_begin g b.toNatClampNeg 0 550 (g 3 t.toNatClampNeg 3)) _ (3 + b.toNatClampNeg) (by omega) t.toNatClampNeg (by omega)  (by omega)) (cwV 1 hts gX6_wash_X4_addMix rfl rfl rfl (by decide +kernel) ⟨Nat.le_of_ble_eq_true rfl, Nat.le_of_ble_eq_true rfl⟩) hB hC hS rfl hl.1 (Nat.le_of_ble_eq_true rfl) dX6_wash_111 ⟨Nat.le_of_ble_eq_true rfl, Nat.le_of_ble_eq_true rfl⟩ (fun H locs hC hS => ?_)
        refine lv_aload hx hb dX6_wash_114 (lv_at hl 2 rfl) ?_
        refine q_callVv (As := []) (κ := 3) (i := t.toNatClampNeg) (show t.toNatClampNeg < 3 from hr_c1) rfl ⟨_, rfl⟩ rfl ⟨hx, hb, hml, hown, hts⟩ (kX5_empty l D cy hI (fX4_addMix (fX1_begin g b.toNatClampNeg 0 550 (g 3 t.toNatClampNeg 3)) (3 + b.toNatClampNeg) t.toNatClampNeg) _ t.toNatClampNeg hr_c1  ) (cwV 0 hts gX6_wash_X5_empty rfl rfl rfl (by decide +kernel) ⟨Nat.le_of_ble_eq_true rfl, Nat.le_of_ble_eq_true rfl⟩) hB hC hS rfl hl.1 (Nat.le_of_ble_eq_true rfl) dX6_wash_116 ⟨Nat.le_of_ble_eq_true rfl, Nat.le_of_ble_eq_true rfl⟩ (fun H locs hC hS => ?_)
        refine lv_iload_n hx hb dX6_wash_119 rfl (lv_at hl 6 rfl) ?_
        refine lv_if_ne (tgt := 136) hx hb dX6_wash_120 (by decide) (fun c => absurd c5 c) (fun _ => ?_)
        refine lv_aload_n hx hb dX6_wash_123 rfl (lv_at hl 3 rfl) ?_
        refine lv_dup hx hb dX6_wash_124 rfl ?_
        refine gt_0_17 hx hb hts iX6_wash_X6 hown hB.1 hC qX6_wash_w7 dX6_wash_125 ?_
        refine lv_iconst (v := 3) hx hb dX6_wash_128 (by decide) ?_
        refine lv_iload hx hb dX6_wash_129 (lv_at hl 0 rfl) ?_
        refine lv_imul hx hb dX6_wash_131 ?_
        refine lv_iadd hx hb dX6_wash_132 ?_
        refine pt_0_17 hx hb hts iX6_wash_X6 hown hB.1 hC hI hS hA qX6_wash_w7 dX6_wash_133 (fun H locs hC hS => ?_)
        refine lv_iload hx hb dX6_wash_136 (lv_at hl 0 rfl) ?_
        have e9 : fX6_wash g t b ho = (0, g 3 t.toNatClampNeg 0, (up (fX5_empty (fX4_addMix (fX1_begin g b.toNatClampNeg 0 550 (g 3 t.toNatClampNeg 3)) (3 + b.toNatClampNeg) t.toNatClampNeg) t.toNatClampNeg) 0 0 6 (((fX5_empty (fX4_addMix (fX1_begin g b.toNatClampNeg 0 550 (g 3 t.toNatClampNeg 3)) (3 + b.toNatClampNeg) t.toNatClampNeg) t.toNatClampNeg) 0 0 6) + (3 * (g 3 t.toNatClampNeg 0))))) := (by unfold fX6_wash; rw [if_pos c1, if_pos c2, if_pos c3, if_neg c4, if_pos c5])
        exact x_reti hx hb hr hC hS (by rw [e9]) (by rw [e9]) (by rw [e9]) hlocks dX6_wash_138 (Nat.le_of_ble_eq_true rfl) (Nat.le_of_ble_eq_true rfl)
      · skip
        refine lv_aload hx hb dX6_wash_49 (lv_at hl 2 rfl) ?_
        refine gt_3_2 hx hb hts iX6_wash_X5 hown hB.1 hC hr_c1 qX6_wash_w5 dX6_wash_51 ?_
        refine lv_bipush (v := 30) hx hb dX6_wash_54 (by decide) ?_
        refine lv_icmp_lt (tgt := 69) hx hb dX6_wash_56 (by decide) (fun c6 => ?_) (fun c6 => ?_)
        · skip
          refine lv_aload hx hb dX6_wash_69 (lv_at hl 1 rfl) ?_
          refine lv_iload_n hx hb dX6_wash_71 rfl (lv_at hl 6 rfl) ?_
          refine lv_if_eq (tgt := 79) hx hb dX6_wash_72 (by decide) (fun c => absurd c c5) (fun _ => ?_)
          refine lv_iconst (v := 1) hx hb dX6_wash_75 (by decide) ?_
          refine lv_goto (tgt := 80) hx hb dX6_wash_76 (by decide) ?_
          refine lv_iload_n hx hb dX6_wash_80 rfl (lv_at hl 6 rfl) ?_
          refine lv_if_eq (tgt := 90) hx hb dX6_wash_81 (by decide) (fun c => absurd c c5) (fun _ => ?_)
          refine lv_sipush (v := 570) hx hb dX6_wash_84 (by decide) ?_
          refine lv_goto (tgt := 93) hx hb dX6_wash_87 (by decide) ?_
          refine lv_aload hx hb dX6_wash_93 (lv_at hl 2 rfl) ?_
          refine gt_3_2 hx hb hts iX6_wash_X5 hown hB.1 hC hr_c1 qX6_wash_w5 dX6_wash_95 ?_
          refine q_callVv (As := [.int 1, .int 570, .int (g 3 t.toNatClampNeg 3)]) (κ := 4) (i := b.toNatClampNeg) (show b.toNatClampNeg < 5 from hr_c2) rfl ⟨_, rfl⟩ rfl ⟨hx, hb, hml, hown, hts⟩ (kX1_begin l D cy hI g _ b.toNatClampNeg hr_c2 1 570 (g 3 t.toNatClampNeg 3) ) (cwV 3 hts gX6_wash_X1_begin rfl rfl rfl (by decide +kernel) ⟨Nat.le_of_ble_eq_true rfl, Nat.le_of_ble_eq_true rfl⟩) hB hC hS rfl hl.1 (Nat.le_of_ble_eq_true rfl) dX6_wash_98 ⟨Nat.le_of_ble_eq_true rfl, Nat.le_of_ble_eq_true rfl⟩ (fun H locs hC hS => ?_)
          refine lv_aload hx hb dX6_wash_101 (lv_at hl 1 rfl) ?_
          refine gt_4_0 hx hb hts iX6_wash_X1 hown hB.1 hC hr_c2 qX6_wash_w6 dX6_wash_103 ?_
          refine lv_aload hx hb dX6_wash_106 (lv_at hl 2 rfl) ?_
          refine gt_3_0 hx hb hts iX6_wash_X5 hown hB.1 hC hr_c1 qX6_wash_w3 dX6_wash_108 ?_
          refine q_callVv (As := [.ref (ad 6 t.toNatClampNeg)]) (κ := 6) (i := 3 + b.toNatClampNeg) (show (3 + b.toNatClampNeg) < 21 from (by omega)) rfl ⟨_, rfl⟩ rfl ⟨hx, hb, hml, hown, hts⟩ (kX4_addMix l D cy hI (fX1_begin g b.toNatClampNeg 1 570 (g 3 t.toNatClampNeg 3)) _ (3 + b.toNatClampNeg) (by omega) t.toNatClampNeg (by omega)  (by omega)) (cwV 1 hts gX6_wash_X4_addMix rfl rfl rfl (by decide +kernel) ⟨Nat.le_of_ble_eq_true rfl, Nat.le_of_ble_eq_true rfl⟩) hB hC hS rfl hl.1 (Nat.le_of_ble_eq_true rfl) dX6_wash_111 ⟨Nat.le_of_ble_eq_true rfl, Nat.le_of_ble_eq_true rfl⟩ (fun H locs hC hS => ?_)
          refine lv_aload hx hb dX6_wash_114 (lv_at hl 2 rfl) ?_
          refine q_callVv (As := []) (κ := 3) (i := t.toNatClampNeg) (show t.toNatClampNeg < 3 from hr_c1) rfl ⟨_, rfl⟩ rfl ⟨hx, hb, hml, hown, hts⟩ (kX5_empty l D cy hI (fX4_addMix (fX1_begin g b.toNatClampNeg 1 570 (g 3 t.toNatClampNeg 3)) (3 + b.toNatClampNeg) t.toNatClampNeg) _ t.toNatClampNeg hr_c1  ) (cwV 0 hts gX6_wash_X5_empty rfl rfl rfl (by decide +kernel) ⟨Nat.le_of_ble_eq_true rfl, Nat.le_of_ble_eq_true rfl⟩) hB hC hS rfl hl.1 (Nat.le_of_ble_eq_true rfl) dX6_wash_116 ⟨Nat.le_of_ble_eq_true rfl, Nat.le_of_ble_eq_true rfl⟩ (fun H locs hC hS => ?_)
          refine lv_iload_n hx hb dX6_wash_119 rfl (lv_at hl 6 rfl) ?_
          refine lv_if_ne (tgt := 136) hx hb dX6_wash_120 (by decide) (fun _ => ?_) (fun c => absurd c c5)
          refine lv_iload hx hb dX6_wash_136 (lv_at hl 0 rfl) ?_
          have e9 : fX6_wash g t b ho = (0, g 3 t.toNatClampNeg 0, fX5_empty (fX4_addMix (fX1_begin g b.toNatClampNeg 1 570 (g 3 t.toNatClampNeg 3)) (3 + b.toNatClampNeg) t.toNatClampNeg) t.toNatClampNeg) := (by unfold fX6_wash; rw [if_pos c1, if_pos c2, if_pos c3, if_neg c4, if_neg c5, if_pos c6])
          exact x_reti hx hb hr hC hS (by rw [e9]) (by rw [e9]) (by rw [e9]) hlocks dX6_wash_138 (Nat.le_of_ble_eq_true rfl) (Nat.le_of_ble_eq_true rfl)
        · skip
          exact q_throwS (cdv := 3) (ik := 93) (is := 184) (ic := 97) (cls := "java/lang/IllegalStateException") (text := "the tank can't be washed so onto that bed") hl0 hx hb hown hml hT hlocks hB hC hS hl.1 (by unfold fX6_wash; rw [if_pos c1, if_pos c2, if_pos c3, if_neg c4, if_neg c5, if_neg c6]) rfl (by decide) ⟨by decide, by decide⟩ (hts _ qX6_wash_w1) (hts _ qX6_wash_w2) (List.mem_of_getElem? (i := 11) rfl) (fun w hw => hts w (List.mem_cons_of_mem _ (List.mem_append_left _ (List.mem_append_right _ hw)))) xN_97 xG_97 dX6_wash_59 dX6_wash_62 dX6_wash_63 dX6_wash_65 dX6_wash_68 ⟨Nat.le_of_ble_eq_true rfl, Nat.le_of_ble_eq_true rfl, Nat.le_of_ble_eq_true rfl, Nat.le_of_ble_eq_true rfl⟩ (Nat.le_of_ble_eq_true rfl) (Nat.le_of_ble_eq_true rfl)
def fX6_whole (g : Gd) (x : Int32) (b : Int32) : Nat × Int32 × Gd := if (fX6_basketAt g x) = 0 then (if (fX6_bedAt g b) = 0 then (if (g 2 x.toNatClampNeg 3) = 0 then (if (g 2 x.toNatClampNeg 1) = 0 then ((3, 0, g)) else (if (fX1_takes g b.toNatClampNeg (g 2 x.toNatClampNeg 1)) = 0 then ((3, 0, g)) else ((0, (fX4_addBasket (fX1_begin (up g 2 x.toNatClampNeg 3 2) b.toNatClampNeg 2 600 0) (3 + b.toNatClampNeg) x.toNatClampNeg ((fX1_begin (up g 2 x.toNatClampNeg 3 2) b.toNatClampNeg 2 600 0) 2 x.toNatClampNeg 1)) 3 (3 + b.toNatClampNeg) 0, fX4_addBasket (fX1_begin (up g 2 x.toNatClampNeg 3 2) b.toNatClampNeg 2 600 0) (3 + b.toNatClampNeg) x.toNatClampNeg ((fX1_begin (up g 2 x.toNatClampNeg 3 2) b.toNatClampNeg 2 600 0) 2 x.toNatClampNeg 1))))) else ((3, 0, g))) else (((fX6_bedAt g b), 0, g))) else (((fX6_basketAt g x), 0, g))
theorem qX6_whole_w1 : Cond.classLink RX6 93 "java/lang/IllegalStateException" ∈ wsX6_whole := List.mem_of_getElem? (i := 1) rfl
theorem qX6_whole_w2 : Cond.initialized "java/lang/IllegalStateException" ∈ wsX6_whole := List.mem_of_getElem? (i := 2) rfl
theorem qX6_whole_w3 : Cond.fieldLink RX6 152 "CherryStation$Basket" "state" "I" ∈ wsX6_whole := List.mem_of_getElem? (i := 3) rfl
theorem qX6_whole_w4 : Cond.fieldLink RX6 149 "CherryStation$Basket" "kilos" "I" ∈ wsX6_whole := List.mem_of_getElem? (i := 4) rfl
theorem qX6_whole_w5 : Cond.fieldLink RX6 190 "CherryStation$Bed" "mix" "LCherryStation$Mix;" ∈ wsX6_whole := List.mem_of_getElem? (i := 5) rfl
theorem qX6_whole_w6 : Cond.fieldLink RX6 171 "CherryStation$Mix" "kilos" "I" ∈ wsX6_whole := List.mem_of_getElem? (i := 6) rfl
theorem iX6_whole_X0 : ∀ w ∈ wsX00, w ∈ wsX6_whole := fun _ h => (List.mem_cons_of_mem _ (List.mem_append_left _ (List.mem_append_left _ (List.mem_append_left _ (List.mem_append_left _ (List.mem_append_left _ (List.mem_append_right _ h)))))))
theorem iX6_whole_X1 : ∀ w ∈ wsX10, w ∈ wsX6_whole := fun _ h => (List.mem_cons_of_mem _ (List.mem_append_left _ (List.mem_append_left _ (List.mem_append_left _ (List.mem_append_left _ (List.mem_append_right _ h))))))
theorem iX6_whole_X4 : ∀ w ∈ wsX40, w ∈ wsX6_whole := fun _ h => (List.mem_cons_of_mem _ (List.mem_append_left _ (List.mem_append_left _ (List.mem_append_left _ (List.mem_append_right _ h)))))
set_option maxRecDepth 100000 in
set_option maxHeartbeats 4000000 in
theorem kX6_whole (l : Launch) (D : va_G) (cy : Nat → ClassId) {ad : Nat → Nat → Nat} (hI : cI ad) (hl0 : l.stackTraces = false) (g : Gd) (sz : Nat) (x : Int32) (b : Int32) (hv : IvC g) : vx_Met l yX6_whole wsX6_whole ({ frames := 7, cells := 3, slots := 18, locals := 103 } : Room) (va_Pc [.ref (ad 0 0), .int x, .int b] (cPre D cy ad g sz)) (cXi D cy ad (fX6_whole g x b).1 (fX6_whole g x b).2.1 (fX6_whole g x b).2.2 sz) (cXC D cy ad (fX6_whole g x b).1 g sz) 3 18 (cA ad sz) := by
  refine q_startX (cc := cX6_whole) (maxL := 5) (ret := (some .int)) (own := RX6) (by decide) rfl rfl (Nat.le_of_ble_eq_true rfl) ?_
  intro p e s m below meth c hx hb hr hml hts hown hlocks hT ⟨hsz, hC, hB⟩ ls hl
  subst hsz
  have hS : va_S (cA ad s.heap.size) s.heap s.heap [] := va_S.rf
  have hA : ∀ κ i : Nat, cV κ i → cA ad s.heap.size (ad κ i) := fun κ i h => Or.inl ⟨κ, i, h, rfl⟩
  have hl : lv_has ls 5 [(0, .ref (ad 0 0)), (1, .int x), (2, .int b)] := hl
  refine lv_aload_n hx hb dX6_whole_0 rfl (lv_at hl 0 rfl) ?_
  refine lv_iload_n hx hb dX6_whole_1 rfl (lv_at hl 1 rfl) ?_
  refine x_callVr (As := [.int x]) (κ := 0) (i := 0) rfl rfl ⟨_, rfl⟩ rfl ⟨hx, hb, hml, hown, hts⟩ (kX6_basketAt l D cy hI hl0 g _  x hv) (cwV 1 hts gX6_whole_X6_basketAt rfl rfl rfl (by decide +kernel) ⟨Nat.le_of_ble_eq_true rfl, Nat.le_of_ble_eq_true rfl⟩) hB hC hS rfl hl.1 (Nat.le_of_ble_eq_true rfl) dX6_whole_2 ⟨Nat.le_of_ble_eq_true rfl, Nat.le_of_ble_eq_true rfl⟩ ⟨Nat.le_of_ble_eq_true rfl, Nat.le_of_ble_eq_true rfl⟩ hT hlocks (fun h => by unfold fX6_whole; rw [if_neg h]) (fun c1 H locs hC hS => ?_)
  have hr_c1 : x.toNatClampNeg < 20 := vp_lt (basketAt_in hv c1)
  refine lv_astore_n (lv' := [(3, .ref (ad 2 x.toNatClampNeg)), (0, .ref (ad 0 0)), (1, .int x), (2, .int b)]) hx hb dX6_whole_5 rfl hl (by decide) rfl (fun ls hl => ?_)
  refine lv_aload_n hx hb dX6_whole_6 rfl (lv_at hl 1 rfl) ?_
  refine lv_iload_n hx hb dX6_whole_7 rfl (lv_at hl 3 rfl) ?_
  refine x_callVr (As := [.int b]) (κ := 0) (i := 0) rfl rfl ⟨_, rfl⟩ rfl ⟨hx, hb, hml, hown, hts⟩ (kX6_bedAt l D cy hI hl0 g _  b hv) (cwV 1 hts gX6_whole_X6_bedAt rfl rfl rfl (by decide +kernel) ⟨Nat.le_of_ble_eq_true rfl, Nat.le_of_ble_eq_true rfl⟩) hB hC hS rfl hl.1 (Nat.le_of_ble_eq_true rfl) dX6_whole_8 ⟨Nat.le_of_ble_eq_true rfl, Nat.le_of_ble_eq_true rfl⟩ ⟨Nat.le_of_ble_eq_true rfl, Nat.le_of_ble_eq_true rfl⟩ hT hlocks (fun h => by unfold fX6_whole; rw [if_pos c1, if_neg h]) (fun c2 H locs hC hS => ?_)
  have hr_c2 : b.toNatClampNeg < 5 := vp_lt (bedAt_in hv c2)
  refine lv_astore (lv' := [(4, .ref (ad 4 b.toNatClampNeg)), (3, .ref (ad 2 x.toNatClampNeg)), (0, .ref (ad 0 0)), (1, .int x), (2, .int b)]) hx hb dX6_whole_11 hl (by decide) rfl (fun ls hl => ?_)
  refine lv_aload_n hx hb dX6_whole_13 rfl (lv_at hl 1 rfl) ?_
  refine gt_2_3 hx hb hts iX6_whole_X0 hown hB.1 hC hr_c1 qX6_whole_w3 dX6_whole_14 ?_
  refine lv_if_ne (tgt := 39) hx hb dX6_whole_17 (by decide) (fun c3 => ?_) (fun c3 => ?_)
  · skip
    exact q_throwS (cdv := 3) (ik := 93) (is := 198) (ic := 97) (cls := "java/lang/IllegalStateException") (text := "the basket can't be dried whole on that bed") hl0 hx hb hown hml hT hlocks hB hC hS hl.1 (by unfold fX6_whole; rw [if_pos c1, if_pos c2, if_neg c3]) rfl (by decide) ⟨by decide, by decide⟩ (hts _ qX6_whole_w1) (hts _ qX6_whole_w2) (List.mem_of_getElem? (i := 12) rfl) (fun w hw => hts w (List.mem_cons_of_mem _ (List.mem_append_left _ (List.mem_append_right _ hw)))) xN_97 xG_97 dX6_whole_39 dX6_whole_42 dX6_whole_43 dX6_whole_45 dX6_whole_48 ⟨Nat.le_of_ble_eq_true rfl, Nat.le_of_ble_eq_true rfl, Nat.le_of_ble_eq_true rfl, Nat.le_of_ble_eq_true rfl⟩ (Nat.le_of_ble_eq_true rfl) (Nat.le_of_ble_eq_true rfl)
  · skip
    refine lv_aload_n hx hb dX6_whole_20 rfl (lv_at hl 1 rfl) ?_
    refine gt_2_1 hx hb hts iX6_whole_X0 hown hB.1 hC hr_c1 qX6_whole_w4 dX6_whole_21 ?_
    refine lv_if_eq (tgt := 39) hx hb dX6_whole_24 (by decide) (fun c4 => ?_) (fun c4 => ?_)
    · skip
      exact q_throwS (cdv := 3) (ik := 93) (is := 198) (ic := 97) (cls := "java/lang/IllegalStateException") (text := "the basket can't be dried whole on that bed") hl0 hx hb hown hml hT hlocks hB hC hS hl.1 (by unfold fX6_whole; rw [if_pos c1, if_pos c2, if_pos c3, if_pos c4]) rfl (by decide) ⟨by decide, by decide⟩ (hts _ qX6_whole_w1) (hts _ qX6_whole_w2) (List.mem_of_getElem? (i := 12) rfl) (fun w hw => hts w (List.mem_cons_of_mem _ (List.mem_append_left _ (List.mem_append_right _ hw)))) xN_97 xG_97 dX6_whole_39 dX6_whole_42 dX6_whole_43 dX6_whole_45 dX6_whole_48 ⟨Nat.le_of_ble_eq_true rfl, Nat.le_of_ble_eq_true rfl, Nat.le_of_ble_eq_true rfl, Nat.le_of_ble_eq_true rfl⟩ (Nat.le_of_ble_eq_true rfl) (Nat.le_of_ble_eq_true rfl)
    · skip
      refine lv_aload hx hb dX6_whole_27 (lv_at hl 0 rfl) ?_
      refine lv_aload_n hx hb dX6_whole_29 rfl (lv_at hl 1 rfl) ?_
      refine gt_2_1 hx hb hts iX6_whole_X0 hown hB.1 hC hr_c1 qX6_whole_w4 dX6_whole_30 ?_
      refine q_callVi (As := [.int (g 2 x.toNatClampNeg 1)]) (κ := 4) (i := b.toNatClampNeg) (show b.toNatClampNeg < 5 from hr_c2) rfl ⟨_, rfl⟩ rfl ⟨hx, hb, hml, hown, hts⟩ (kX1_takes l D cy hI g _ b.toNatClampNeg hr_c2 (g 2 x.toNatClampNeg 1) ) (cwV 1 hts gX6_whole_X1_takes rfl rfl rfl (by decide +kernel) ⟨Nat.le_of_ble_eq_true rfl, Nat.le_of_ble_eq_true rfl⟩) hB hC hS rfl hl.1 (Nat.le_of_ble_eq_true rfl) dX6_whole_33 ⟨Nat.le_of_ble_eq_true rfl, Nat.le_of_ble_eq_true rfl⟩ (fun H locs hC hS => ?_)
      refine lv_if_ne (tgt := 49) hx hb dX6_whole_36 (by decide) (fun c5 => ?_) (fun c5 => ?_)
      · skip
        refine lv_aload_n hx hb dX6_whole_49 rfl (lv_at hl 1 rfl) ?_
        refine lv_iconst (v := 2) hx hb dX6_whole_50 (by decide) ?_
        refine pt_2_3 hx hb hts iX6_whole_X0 hown hB.1 hC hI hS hA hr_c1 qX6_whole_w3 dX6_whole_51 (fun H locs hC hS => ?_)
        refine lv_aload hx hb dX6_whole_54 (lv_at hl 0 rfl) ?_
        refine lv_iconst (v := 2) hx hb dX6_whole_56 (by decide) ?_
        refine lv_sipush (v := 600) hx hb dX6_whole_57 (by decide) ?_
        refine lv_iconst (v := 0) hx hb dX6_whole_60 (by decide) ?_
        refine q_callVv (As := [.int 2, .int 600, .int 0]) (κ := 4) (i := b.toNatClampNeg) (show b.toNatClampNeg < 5 from hr_c2) rfl ⟨_, rfl⟩ rfl ⟨hx, hb, hml, hown, hts⟩ (kX1_begin l D cy hI (up g 2 x.toNatClampNeg 3 2) _ b.toNatClampNeg hr_c2 2 600 0 ) (cwV 3 hts gX6_whole_X1_begin rfl rfl rfl (by decide +kernel) ⟨Nat.le_of_ble_eq_true rfl, Nat.le_of_ble_eq_true rfl⟩) hB hC hS rfl hl.1 (Nat.le_of_ble_eq_true rfl) dX6_whole_61 ⟨Nat.le_of_ble_eq_true rfl, Nat.le_of_ble_eq_true rfl⟩ (fun H locs hC hS => ?_)
        refine lv_aload hx hb dX6_whole_64 (lv_at hl 0 rfl) ?_
        refine gt_4_0 hx hb hts iX6_whole_X1 hown hB.1 hC hr_c2 qX6_whole_w5 dX6_whole_66 ?_
        refine lv_aload_n hx hb dX6_whole_69 rfl (lv_at hl 1 rfl) ?_
        refine lv_aload_n hx hb dX6_whole_70 rfl (lv_at hl 1 rfl) ?_
        refine gt_2_1 hx hb hts iX6_whole_X0 hown hB.1 hC hr_c1 qX6_whole_w4 dX6_whole_71 ?_
        refine q_callVv (As := [.ref (ad 2 x.toNatClampNeg), .int ((fX1_begin (up g 2 x.toNatClampNeg 3 2) b.toNatClampNeg 2 600 0) 2 x.toNatClampNeg 1)]) (κ := 6) (i := 3 + b.toNatClampNeg) (show (3 + b.toNatClampNeg) < 21 from (by omega)) rfl ⟨_, rfl⟩ rfl ⟨hx, hb, hml, hown, hts⟩ (kX4_addBasket l D cy hI (fX1_begin (up g 2 x.toNatClampNeg 3 2) b.toNatClampNeg 2 600 0) _ (3 + b.toNatClampNeg) (by omega) x.toNatClampNeg hr_c1 ((fX1_begin (up g 2 x.toNatClampNeg 3 2) b.toNatClampNeg 2 600 0) 2 x.toNatClampNeg 1) (by simpa [fX1_begin, up] using IvC.bf hv hr_c1)) (cwV 2 hts gX6_whole_X4_addBasket rfl rfl rfl (by decide +kernel) ⟨Nat.le_of_ble_eq_true rfl, Nat.le_of_ble_eq_true rfl⟩) hB hC hS rfl hl.1 (Nat.le_of_ble_eq_true rfl) dX6_whole_74 ⟨Nat.le_of_ble_eq_true rfl, Nat.le_of_ble_eq_true rfl⟩ (fun H locs hC hS => ?_)
        refine lv_aload hx hb dX6_whole_77 (lv_at hl 0 rfl) ?_
        refine gt_4_0 hx hb hts iX6_whole_X1 hown hB.1 hC hr_c2 qX6_whole_w5 dX6_whole_79 ?_
        refine gt_6_2 hx hb hts iX6_whole_X4 hown hB.1 hC (by omega) qX6_whole_w6 dX6_whole_82 ?_
        have e9 : fX6_whole g x b = (0, (fX4_addBasket (fX1_begin (up g 2 x.toNatClampNeg 3 2) b.toNatClampNeg 2 600 0) (3 + b.toNatClampNeg) x.toNatClampNeg ((fX1_begin (up g 2 x.toNatClampNeg 3 2) b.toNatClampNeg 2 600 0) 2 x.toNatClampNeg 1)) 3 (3 + b.toNatClampNeg) 0, fX4_addBasket (fX1_begin (up g 2 x.toNatClampNeg 3 2) b.toNatClampNeg 2 600 0) (3 + b.toNatClampNeg) x.toNatClampNeg ((fX1_begin (up g 2 x.toNatClampNeg 3 2) b.toNatClampNeg 2 600 0) 2 x.toNatClampNeg 1)) := (by unfold fX6_whole; rw [if_pos c1, if_pos c2, if_pos c3, if_neg c4, if_neg c5])
        exact x_reti hx hb hr hC hS (by rw [e9]) (by rw [e9]) (by rw [e9]) hlocks dX6_whole_85 (Nat.le_of_ble_eq_true rfl) (Nat.le_of_ble_eq_true rfl)
      · skip
        exact q_throwS (cdv := 3) (ik := 93) (is := 198) (ic := 97) (cls := "java/lang/IllegalStateException") (text := "the basket can't be dried whole on that bed") hl0 hx hb hown hml hT hlocks hB hC hS hl.1 (by unfold fX6_whole; rw [if_pos c1, if_pos c2, if_pos c3, if_neg c4, if_pos c5]) rfl (by decide) ⟨by decide, by decide⟩ (hts _ qX6_whole_w1) (hts _ qX6_whole_w2) (List.mem_of_getElem? (i := 12) rfl) (fun w hw => hts w (List.mem_cons_of_mem _ (List.mem_append_left _ (List.mem_append_right _ hw)))) xN_97 xG_97 dX6_whole_39 dX6_whole_42 dX6_whole_43 dX6_whole_45 dX6_whole_48 ⟨Nat.le_of_ble_eq_true rfl, Nat.le_of_ble_eq_true rfl, Nat.le_of_ble_eq_true rfl, Nat.le_of_ble_eq_true rfl⟩ (Nat.le_of_ble_eq_true rfl) (Nat.le_of_ble_eq_true rfl)
def fX6_turn (g : Gd) (b : Int32) : Nat × Int32 × Gd := if (fX6_bedAt g b) = 0 then (if (fX4_isEmpty (g 3 (3 + b.toNatClampNeg) 0)) = 0 then ((0, g 3 (3 + b.toNatClampNeg) 6, (up g 3 (3 + b.toNatClampNeg) 6 0))) else ((3, 0, g))) else (((fX6_bedAt g b), 0, g))
theorem qX6_turn_w1 : Cond.classLink RX6 93 "java/lang/IllegalStateException" ∈ wsX6_turn := List.mem_of_getElem? (i := 1) rfl
theorem qX6_turn_w2 : Cond.initialized "java/lang/IllegalStateException" ∈ wsX6_turn := List.mem_of_getElem? (i := 2) rfl
theorem qX6_turn_w3 : Cond.fieldLink RX6 190 "CherryStation$Bed" "mix" "LCherryStation$Mix;" ∈ wsX6_turn := List.mem_of_getElem? (i := 3) rfl
theorem qX6_turn_w4 : Cond.fieldLink RX6 202 "CherryStation$Bed" "unturned" "I" ∈ wsX6_turn := List.mem_of_getElem? (i := 4) rfl
theorem iX6_turn_X1 : ∀ w ∈ wsX10, w ∈ wsX6_turn := fun _ h => (List.mem_cons_of_mem _ (List.mem_append_left _ (List.mem_append_left _ (List.mem_append_left _ (List.mem_append_left _ (List.mem_append_right _ h))))))
set_option maxRecDepth 100000 in
set_option maxHeartbeats 4000000 in
theorem kX6_turn (l : Launch) (D : va_G) (cy : Nat → ClassId) {ad : Nat → Nat → Nat} (hI : cI ad) (hl0 : l.stackTraces = false) (g : Gd) (sz : Nat) (b : Int32) (hv : IvC g) : vx_Met l yX6_turn wsX6_turn ({ frames := 7, cells := 2, slots := 12, locals := 103 } : Room) (va_Pc [.ref (ad 0 0), .int b] (cPre D cy ad g sz)) (cXi D cy ad (fX6_turn g b).1 (fX6_turn g b).2.1 (fX6_turn g b).2.2 sz) (cXC D cy ad (fX6_turn g b).1 g sz) 2 12 (cA ad sz) := by
  refine q_startX (cc := cX6_turn) (maxL := 4) (ret := (some .int)) (own := RX6) (by decide) rfl rfl (Nat.le_of_ble_eq_true rfl) ?_
  intro p e s m below meth c hx hb hr hml hts hown hlocks hT ⟨hsz, hC, hB⟩ ls hl
  subst hsz
  have hS : va_S (cA ad s.heap.size) s.heap s.heap [] := va_S.rf
  have hA : ∀ κ i : Nat, cV κ i → cA ad s.heap.size (ad κ i) := fun κ i h => Or.inl ⟨κ, i, h, rfl⟩
  have hl : lv_has ls 4 [(0, .ref (ad 0 0)), (1, .int b)] := hl
  refine lv_aload_n hx hb dX6_turn_0 rfl (lv_at hl 0 rfl) ?_
  refine lv_iload_n hx hb dX6_turn_1 rfl (lv_at hl 1 rfl) ?_
  refine x_callVr (As := [.int b]) (κ := 0) (i := 0) rfl rfl ⟨_, rfl⟩ rfl ⟨hx, hb, hml, hown, hts⟩ (kX6_bedAt l D cy hI hl0 g _  b hv) (cwV 1 hts gX6_turn_X6_bedAt rfl rfl rfl (by decide +kernel) ⟨Nat.le_of_ble_eq_true rfl, Nat.le_of_ble_eq_true rfl⟩) hB hC hS rfl hl.1 (Nat.le_of_ble_eq_true rfl) dX6_turn_2 ⟨Nat.le_of_ble_eq_true rfl, Nat.le_of_ble_eq_true rfl⟩ ⟨Nat.le_of_ble_eq_true rfl, Nat.le_of_ble_eq_true rfl⟩ hT hlocks (fun h => by unfold fX6_turn; rw [if_neg h]) (fun c1 H locs hC hS => ?_)
  have hr_c1 : b.toNatClampNeg < 5 := vp_lt (bedAt_in hv c1)
  refine lv_astore_n (lv' := [(2, .ref (ad 4 b.toNatClampNeg)), (0, .ref (ad 0 0)), (1, .int b)]) hx hb dX6_turn_5 rfl hl (by decide) rfl (fun ls hl => ?_)
  refine lv_aload_n hx hb dX6_turn_6 rfl (lv_at hl 0 rfl) ?_
  refine gt_4_0 hx hb hts iX6_turn_X1 hown hB.1 hC hr_c1 qX6_turn_w3 dX6_turn_7 ?_
  refine q_callVi (As := []) (κ := 6) (i := 3 + b.toNatClampNeg) (show (3 + b.toNatClampNeg) < 21 from (by omega)) rfl ⟨_, rfl⟩ rfl ⟨hx, hb, hml, hown, hts⟩ (kX4_isEmpty l D cy hI g _ (3 + b.toNatClampNeg) (by omega)  ) (cwV 0 hts gX6_turn_X4_isEmpty rfl rfl rfl (by decide +kernel) ⟨Nat.le_of_ble_eq_true rfl, Nat.le_of_ble_eq_true rfl⟩) hB hC hS rfl hl.1 (Nat.le_of_ble_eq_true rfl) dX6_turn_10 ⟨Nat.le_of_ble_eq_true rfl, Nat.le_of_ble_eq_true rfl⟩ (fun H locs hC hS => ?_)
  refine lv_if_eq (tgt := 26) hx hb dX6_turn_13 (by decide) (fun c2 => ?_) (fun c2 => ?_)
  · skip
    refine lv_aload_n hx hb dX6_turn_26 rfl (lv_at hl 0 rfl) ?_
    refine gt_4_5 hx hb hts iX6_turn_X1 hown hB.1 hC hr_c1 qX6_turn_w4 dX6_turn_27 ?_
    refine lv_istore_n (lv' := [(3, .int (g 3 (3 + b.toNatClampNeg) 6)), (2, .ref (ad 4 b.toNatClampNeg)), (0, .ref (ad 0 0)), (1, .int b)]) hx hb dX6_turn_30 rfl hl (by decide) rfl (fun ls hl => ?_)
    refine lv_aload_n hx hb dX6_turn_31 rfl (lv_at hl 1 rfl) ?_
    refine lv_iconst (v := 0) hx hb dX6_turn_32 (by decide) ?_
    refine pt_4_5 hx hb hts iX6_turn_X1 hown hB.1 hC hI hS hA hr_c1 qX6_turn_w4 dX6_turn_33 (fun H locs hC hS => ?_)
    refine lv_iload_n hx hb dX6_turn_36 rfl (lv_at hl 0 rfl) ?_
    have e9 : fX6_turn g b = (0, g 3 (3 + b.toNatClampNeg) 6, (up g 3 (3 + b.toNatClampNeg) 6 0)) := (by unfold fX6_turn; rw [if_pos c1, if_pos c2])
    exact x_reti hx hb hr hC hS (by rw [e9]) (by rw [e9]) (by rw [e9]) hlocks dX6_turn_37 (Nat.le_of_ble_eq_true rfl) (Nat.le_of_ble_eq_true rfl)
  · skip
    exact q_throwS (cdv := 3) (ik := 93) (is := 200) (ic := 97) (cls := "java/lang/IllegalStateException") (text := "the bed is empty") hl0 hx hb hown hml hT hlocks hB hC hS hl.1 (by unfold fX6_turn; rw [if_pos c1, if_neg c2]) rfl (by decide) ⟨by decide, by decide⟩ (hts _ qX6_turn_w1) (hts _ qX6_turn_w2) (List.mem_of_getElem? (i := 13) rfl) (fun w hw => hts w (List.mem_cons_of_mem _ (List.mem_append_left _ (List.mem_append_right _ hw)))) xN_97 xG_97 dX6_turn_16 dX6_turn_19 dX6_turn_20 dX6_turn_22 dX6_turn_25 ⟨Nat.le_of_ble_eq_true rfl, Nat.le_of_ble_eq_true rfl, Nat.le_of_ble_eq_true rfl, Nat.le_of_ble_eq_true rfl⟩ (Nat.le_of_ble_eq_true rfl) (Nat.le_of_ble_eq_true rfl)
def fX6_cover (g : Gd) (b : Int32) (on : Int32) : Nat × Int32 × Gd := if (fX6_bedAt g b) = 0 then ((0, g 3 (3 + b.toNatClampNeg) 9, (up g 3 (3 + b.toNatClampNeg) 9 on))) else (((fX6_bedAt g b), 0, g))
theorem qX6_cover_w1 : Cond.fieldLink RX6 205 "CherryStation$Bed" "isCovered" "Z" ∈ wsX6_cover := List.mem_of_getElem? (i := 1) rfl
theorem iX6_cover_X1 : ∀ w ∈ wsX10, w ∈ wsX6_cover := fun _ h => (List.mem_cons_of_mem _ (List.mem_append_left _ (List.mem_append_left _ (List.mem_append_right _ h))))
set_option maxRecDepth 100000 in
set_option maxHeartbeats 4000000 in
theorem kX6_cover (l : Launch) (D : va_G) (cy : Nat → ClassId) {ad : Nat → Nat → Nat} (hI : cI ad) (hl0 : l.stackTraces = false) (g : Gd) (sz : Nat) (b : Int32) (on : Int32) (hv : IvC g) (hon : on = 0 ∨ on = 1) : vx_Met l yX6_cover wsX6_cover ({ frames := 7, cells := 1, slots := 6, locals := 103 } : Room) (va_Pc [.ref (ad 0 0), .int b, .int on] (cPre D cy ad g sz)) (cXi D cy ad (fX6_cover g b on).1 (fX6_cover g b on).2.1 (fX6_cover g b on).2.2 sz) (cXC D cy ad (fX6_cover g b on).1 g sz) 1 6 (cA ad sz) := by
  refine q_startX (cc := cX6_cover) (maxL := 5) (ret := (some .boolean)) (own := RX6) (by decide) rfl rfl (Nat.le_of_ble_eq_true rfl) ?_
  intro p e s m below meth c hx hb hr hml hts hown hlocks hT ⟨hsz, hC, hB⟩ ls hl
  subst hsz
  have hS : va_S (cA ad s.heap.size) s.heap s.heap [] := va_S.rf
  have hA : ∀ κ i : Nat, cV κ i → cA ad s.heap.size (ad κ i) := fun κ i h => Or.inl ⟨κ, i, h, rfl⟩
  have hl : lv_has ls 5 [(0, .ref (ad 0 0)), (1, .int b), (2, .int on)] := hl
  refine lv_aload_n hx hb dX6_cover_0 rfl (lv_at hl 0 rfl) ?_
  refine lv_iload_n hx hb dX6_cover_1 rfl (lv_at hl 1 rfl) ?_
  refine x_callVr (As := [.int b]) (κ := 0) (i := 0) rfl rfl ⟨_, rfl⟩ rfl ⟨hx, hb, hml, hown, hts⟩ (kX6_bedAt l D cy hI hl0 g _  b hv) (cwV 1 hts gX6_cover_X6_bedAt rfl rfl rfl (by decide +kernel) ⟨Nat.le_of_ble_eq_true rfl, Nat.le_of_ble_eq_true rfl⟩) hB hC hS rfl hl.1 (Nat.le_of_ble_eq_true rfl) dX6_cover_2 ⟨Nat.le_of_ble_eq_true rfl, Nat.le_of_ble_eq_true rfl⟩ ⟨Nat.le_of_ble_eq_true rfl, Nat.le_of_ble_eq_true rfl⟩ hT hlocks (fun h => by unfold fX6_cover; rw [if_neg h]) (fun c1 H locs hC hS => ?_)
  have hr_c1 : b.toNatClampNeg < 5 := vp_lt (bedAt_in hv c1)
  refine lv_astore_n (lv' := [(3, .ref (ad 4 b.toNatClampNeg)), (0, .ref (ad 0 0)), (1, .int b), (2, .int on)]) hx hb dX6_cover_5 rfl hl (by decide) rfl (fun ls hl => ?_)
  refine lv_aload_n hx hb dX6_cover_6 rfl (lv_at hl 0 rfl) ?_
  refine gt_4_2 hx hb hts iX6_cover_X1 hown hB.1 hC hr_c1 qX6_cover_w1 dX6_cover_7 ?_
  refine lv_istore (lv' := [(4, .int (g 3 (3 + b.toNatClampNeg) 9)), (3, .ref (ad 4 b.toNatClampNeg)), (0, .ref (ad 0 0)), (1, .int b), (2, .int on)]) hx hb dX6_cover_10 hl (by decide) rfl (fun ls hl => ?_)
  refine lv_aload_n hx hb dX6_cover_12 rfl (lv_at hl 1 rfl) ?_
  refine lv_iload_n hx hb dX6_cover_13 rfl (lv_at hl 4 rfl) ?_
  refine pt_4_2 hx hb hts iX6_cover_X1 hown hB.1 hC hI hS hA hr_c1 qX6_cover_w1 (q_nb hon) (q_fb hon) dX6_cover_14 (fun H locs hC hS => ?_)
  refine lv_iload hx hb dX6_cover_17 (lv_at hl 0 rfl) ?_
  have e9 : fX6_cover g b on = (0, g 3 (3 + b.toNatClampNeg) 9, (up g 3 (3 + b.toNatClampNeg) 9 on)) := (by unfold fX6_cover; rw [if_pos c1])
  exact x_retz hx hb hr hC hS (by rw [e9]) (by rw [e9]) (by rw [e9]) (q_nb (IvC.cv hv hr_c1)) hlocks dX6_cover_19 (Nat.le_of_ble_eq_true rfl) (Nat.le_of_ble_eq_true rfl)
def fX6_store (g : Gd) (b : Int32) : Nat × Int32 × Gd := if (fX6_bedAt g b) = 0 then (if (fX1_keptKilos (g 3 (3 + b.toNatClampNeg) 4) (g 4 (3 + b.toNatClampNeg) 0) (g 4 (3 + b.toNatClampNeg) 1) (g 4 (3 + b.toNatClampNeg) 2) (g 4 (3 + b.toNatClampNeg) 3) (g 4 (3 + b.toNatClampNeg) 4) (g 4 (3 + b.toNatClampNeg) 5)) = 0 then ((3, 0, g)) else (if (g 0 0 10) < 12 then ((0, ((fX1_empty (up (up (fX3_fillFrom g ((g 0 0 10).toNatClampNeg) b.toNatClampNeg) 0 0 10 (((fX3_fillFrom g ((g 0 0 10).toNatClampNeg) b.toNatClampNeg) 0 0 10) + 1)) 0 0 5 (((fX3_fillFrom g ((g 0 0 10).toNatClampNeg) b.toNatClampNeg) 0 0 5) + (((fX3_fillFrom g ((g 0 0 10).toNatClampNeg) b.toNatClampNeg) 3 (3 + b.toNatClampNeg) 0) - ((fX3_fillFrom g ((g 0 0 10).toNatClampNeg) b.toNatClampNeg) 3 (8 + (g 0 0 10).toNatClampNeg) 0)))) b.toNatClampNeg) 0 0 10) - 1, fX1_empty (up (up (fX3_fillFrom g ((g 0 0 10).toNatClampNeg) b.toNatClampNeg) 0 0 10 (((fX3_fillFrom g ((g 0 0 10).toNatClampNeg) b.toNatClampNeg) 0 0 10) + 1)) 0 0 5 (((fX3_fillFrom g ((g 0 0 10).toNatClampNeg) b.toNatClampNeg) 0 0 5) + (((fX3_fillFrom g ((g 0 0 10).toNatClampNeg) b.toNatClampNeg) 3 (3 + b.toNatClampNeg) 0) - ((fX3_fillFrom g ((g 0 0 10).toNatClampNeg) b.toNatClampNeg) 3 (8 + (g 0 0 10).toNatClampNeg) 0)))) b.toNatClampNeg)) else ((3, 0, g)))) else (((fX6_bedAt g b), 0, g))
theorem qX6_store_w1 : Cond.classLink RX6 93 "java/lang/IllegalStateException" ∈ wsX6_store := List.mem_of_getElem? (i := 1) rfl
theorem qX6_store_w2 : Cond.initialized "java/lang/IllegalStateException" ∈ wsX6_store := List.mem_of_getElem? (i := 2) rfl
theorem qX6_store_w3 : Cond.fieldLink RX6 58 "CherryStation" "lotCount" "I" ∈ wsX6_store := List.mem_of_getElem? (i := 3) rfl
theorem qX6_store_w4 : Cond.fieldLink RX6 35 "CherryStation" "lots" "[LCherryStation$Lot;" ∈ wsX6_store := List.mem_of_getElem? (i := 4) rfl
theorem qX6_store_w5 : Cond.fieldLink RX6 76 "CherryStation" "lost" "I" ∈ wsX6_store := List.mem_of_getElem? (i := 5) rfl
theorem qX6_store_w6 : Cond.fieldLink RX6 190 "CherryStation$Bed" "mix" "LCherryStation$Mix;" ∈ wsX6_store := List.mem_of_getElem? (i := 6) rfl
theorem qX6_store_w7 : Cond.fieldLink RX6 171 "CherryStation$Mix" "kilos" "I" ∈ wsX6_store := List.mem_of_getElem? (i := 7) rfl
theorem qX6_store_w8 : Cond.fieldLink RX6 219 "CherryStation$Lot" "mix" "LCherryStation$Mix;" ∈ wsX6_store := List.mem_of_getElem? (i := 8) rfl
theorem iX6_store_X1 : ∀ w ∈ wsX10, w ∈ wsX6_store := fun _ h => (List.mem_cons_of_mem _ (List.mem_append_left _ (List.mem_append_left _ (List.mem_append_left _ (List.mem_append_left _ (List.mem_append_right _ h))))))
theorem iX6_store_X3 : ∀ w ∈ wsX30, w ∈ wsX6_store := fun _ h => (List.mem_cons_of_mem _ (List.mem_append_left _ (List.mem_append_left _ (List.mem_append_right _ h))))
theorem iX6_store_X4 : ∀ w ∈ wsX40, w ∈ wsX6_store := fun _ h => (List.mem_cons_of_mem _ (List.mem_append_left _ (List.mem_append_left _ (List.mem_append_left _ (List.mem_append_right _ h)))))
theorem iX6_store_X6 : ∀ w ∈ wsX60, w ∈ wsX6_store := fun _ h => (List.mem_cons_of_mem _ (List.mem_append_left _ (List.mem_append_left _ (List.mem_append_left _ (List.mem_append_left _ (List.mem_append_left _ (List.mem_append_right _ h)))))))
set_option maxRecDepth 100000 in
set_option maxHeartbeats 4000000 in
theorem kX6_store (l : Launch) (D : va_G) (cy : Nat → ClassId) {ad : Nat → Nat → Nat} (hI : cI ad) (hl0 : l.stackTraces = false) (g : Gd) (sz : Nat) (b : Int32) (hv : IvC g) : vx_Met l yX6_store wsX6_store ({ frames := 7, cells := 2, slots := 12, locals := 103 } : Room) (va_Pc [.ref (ad 0 0), .int b] (cPre D cy ad g sz)) (cXi D cy ad (fX6_store g b).1 (fX6_store g b).2.1 (fX6_store g b).2.2 sz) (cXC D cy ad (fX6_store g b).1 g sz) 2 12 (cA ad sz) := by
  refine q_startX (cc := cX6_store) (maxL := 4) (ret := (some .int)) (own := RX6) (by decide) rfl rfl (Nat.le_of_ble_eq_true rfl) ?_
  intro p e s m below meth c hx hb hr hml hts hown hlocks hT ⟨hsz, hC, hB⟩ ls hl
  subst hsz
  have hS : va_S (cA ad s.heap.size) s.heap s.heap [] := va_S.rf
  have hA : ∀ κ i : Nat, cV κ i → cA ad s.heap.size (ad κ i) := fun κ i h => Or.inl ⟨κ, i, h, rfl⟩
  have hl : lv_has ls 4 [(0, .ref (ad 0 0)), (1, .int b)] := hl
  refine lv_aload_n hx hb dX6_store_0 rfl (lv_at hl 0 rfl) ?_
  refine lv_iload_n hx hb dX6_store_1 rfl (lv_at hl 1 rfl) ?_
  refine x_callVr (As := [.int b]) (κ := 0) (i := 0) rfl rfl ⟨_, rfl⟩ rfl ⟨hx, hb, hml, hown, hts⟩ (kX6_bedAt l D cy hI hl0 g _  b hv) (cwV 1 hts gX6_store_X6_bedAt rfl rfl rfl (by decide +kernel) ⟨Nat.le_of_ble_eq_true rfl, Nat.le_of_ble_eq_true rfl⟩) hB hC hS rfl hl.1 (Nat.le_of_ble_eq_true rfl) dX6_store_2 ⟨Nat.le_of_ble_eq_true rfl, Nat.le_of_ble_eq_true rfl⟩ ⟨Nat.le_of_ble_eq_true rfl, Nat.le_of_ble_eq_true rfl⟩ hT hlocks (fun h => by unfold fX6_store; rw [if_neg h]) (fun c1 H locs hC hS => ?_)
  have hr_c1 : b.toNatClampNeg < 5 := vp_lt (bedAt_in hv c1)
  refine lv_astore_n (lv' := [(2, .ref (ad 4 b.toNatClampNeg)), (0, .ref (ad 0 0)), (1, .int b)]) hx hb dX6_store_5 rfl hl (by decide) rfl (fun ls hl => ?_)
  refine lv_aload_n hx hb dX6_store_6 rfl (lv_at hl 0 rfl) ?_
  refine q_callVi (As := []) (κ := 4) (i := b.toNatClampNeg) (show b.toNatClampNeg < 5 from hr_c1) rfl ⟨_, rfl⟩ rfl ⟨hx, hb, hml, hown, hts⟩ (kX1_keptKilos l D cy hI g _ b.toNatClampNeg hr_c1  ) (cwV 0 hts gX6_store_X1_keptKilos rfl rfl rfl (by decide +kernel) ⟨Nat.le_of_ble_eq_true rfl, Nat.le_of_ble_eq_true rfl⟩) hB hC hS rfl hl.1 (Nat.le_of_ble_eq_true rfl) dX6_store_7 ⟨Nat.le_of_ble_eq_true rfl, Nat.le_of_ble_eq_true rfl⟩ (fun H locs hC hS => ?_)
  refine lv_if_eq (tgt := 22) hx hb dX6_store_10 (by decide) (fun c2 => ?_) (fun c2 => ?_)
  · skip
    exact q_throwS (cdv := 3) (ik := 93) (is := 213) (ic := 97) (cls := "java/lang/IllegalStateException") (text := "the bed gives no lot, or there were 12") hl0 hx hb hown hml hT hlocks hB hC hS hl.1 (by unfold fX6_store; rw [if_pos c1, if_pos c2]) rfl (by decide) ⟨by decide, by decide⟩ (hts _ qX6_store_w1) (hts _ qX6_store_w2) (List.mem_of_getElem? (i := 14) rfl) (fun w hw => hts w (List.mem_cons_of_mem _ (List.mem_append_left _ (List.mem_append_right _ hw)))) xN_97 xG_97 dX6_store_22 dX6_store_25 dX6_store_26 dX6_store_28 dX6_store_31 ⟨Nat.le_of_ble_eq_true rfl, Nat.le_of_ble_eq_true rfl, Nat.le_of_ble_eq_true rfl, Nat.le_of_ble_eq_true rfl⟩ (Nat.le_of_ble_eq_true rfl) (Nat.le_of_ble_eq_true rfl)
  · skip
    refine lv_aload_n hx hb dX6_store_13 rfl (lv_at hl 1 rfl) ?_
    refine gt_0_10 hx hb hts iX6_store_X6 hown hB.1 hC qX6_store_w3 dX6_store_14 ?_
    refine lv_bipush (v := 12) hx hb dX6_store_17 (by decide) ?_
    refine lv_icmp_lt (tgt := 32) hx hb dX6_store_19 (by decide) (fun c3 => ?_) (fun c3 => ?_)
    · skip
      refine lv_aload_n hx hb dX6_store_32 rfl (lv_at hl 1 rfl) ?_
      refine gt_0_4 hx hb hts iX6_store_X6 hown hB.1 hC qX6_store_w4 dX6_store_33 ?_
      refine lv_aload_n hx hb dX6_store_36 rfl (lv_at hl 1 rfl) ?_
      refine gt_0_10 hx hb hts iX6_store_X6 hown hB.1 hC qX6_store_w3 dX6_store_37 ?_
      have hlt4 : (g 0 0 10).toNatClampNeg < 12 := vp_lt (in_lt (IvC.n10 hv).1 c3)
      refine la_14 hx hb hB.1 hC (k := (g 0 0 10).toNatClampNeg) rfl (in_lt (IvC.n10 hv).1 c3) dX6_store_40 ?_
      refine lv_astore_n (lv' := [(3, .ref (ad 5 ((g 0 0 10).toNatClampNeg))), (2, .ref (ad 4 b.toNatClampNeg)), (0, .ref (ad 0 0)), (1, .int b)]) hx hb dX6_store_41 rfl hl (by decide) rfl (fun ls hl => ?_)
      refine lv_aload_n hx hb dX6_store_42 rfl (lv_at hl 0 rfl) ?_
      refine lv_aload_n hx hb dX6_store_43 rfl (lv_at hl 1 rfl) ?_
      refine q_callVv (As := [.ref (ad 4 b.toNatClampNeg)]) (κ := 5) (i := (g 0 0 10).toNatClampNeg) (show ((g 0 0 10).toNatClampNeg) < 13 from (by omega)) rfl ⟨_, rfl⟩ rfl ⟨hx, hb, hml, hown, hts⟩ (kX3_fillFrom l D cy hI g _ ((g 0 0 10).toNatClampNeg) (by omega) b.toNatClampNeg hr_c1  ) (cwV 1 hts gX6_store_X3_fillFrom rfl rfl rfl (by decide +kernel) ⟨Nat.le_of_ble_eq_true rfl, Nat.le_of_ble_eq_true rfl⟩) hB hC hS rfl hl.1 (Nat.le_of_ble_eq_true rfl) dX6_store_44 ⟨Nat.le_of_ble_eq_true rfl, Nat.le_of_ble_eq_true rfl⟩ (fun H locs hC hS => ?_)
      refine lv_aload_n hx hb dX6_store_47 rfl (lv_at hl 2 rfl) ?_
      refine lv_dup hx hb dX6_store_48 rfl ?_
      refine gt_0_10 hx hb hts iX6_store_X6 hown hB.1 hC qX6_store_w3 dX6_store_49 ?_
      refine lv_iconst (v := 1) hx hb dX6_store_52 (by decide) ?_
      refine lv_iadd hx hb dX6_store_53 ?_
      refine pt_0_10 hx hb hts iX6_store_X6 hown hB.1 hC hI hS hA qX6_store_w3 dX6_store_54 (fun H locs hC hS => ?_)
      refine lv_aload_n hx hb dX6_store_57 rfl (lv_at hl 2 rfl) ?_
      refine lv_dup hx hb dX6_store_58 rfl ?_
      refine gt_0_16 hx hb hts iX6_store_X6 hown hB.1 hC qX6_store_w5 dX6_store_59 ?_
      refine q_val (v := (fX3_fillFrom g ((g 0 0 10).toNatClampNeg) b.toNatClampNeg) 0 0 5) ((up_nk (by decide)).trans rfl) ?_
      refine lv_aload_n hx hb dX6_store_62 rfl (lv_at hl 1 rfl) ?_
      refine gt_4_0 hx hb hts iX6_store_X1 hown hB.1 hC hr_c1 qX6_store_w6 dX6_store_63 ?_
      refine gt_6_2 hx hb hts iX6_store_X4 hown hB.1 hC (by omega) qX6_store_w7 dX6_store_66 ?_
      refine q_val (v := (fX3_fillFrom g ((g 0 0 10).toNatClampNeg) b.toNatClampNeg) 3 (3 + b.toNatClampNeg) 0) ((up_nt (by decide)).trans rfl) ?_
      refine lv_aload_n hx hb dX6_store_69 rfl (lv_at hl 0 rfl) ?_
      refine gt_5_0 hx hb hts iX6_store_X3 hown hB.1 hC (by omega) qX6_store_w8 dX6_store_70 ?_
      refine gt_6_2 hx hb hts iX6_store_X4 hown hB.1 hC (by omega) qX6_store_w7 dX6_store_73 ?_
      refine q_val (v := (fX3_fillFrom g ((g 0 0 10).toNatClampNeg) b.toNatClampNeg) 3 (8 + (g 0 0 10).toNatClampNeg) 0) ((up_nt (by decide)).trans rfl) ?_
      refine lv_isub hx hb dX6_store_76 ?_
      refine lv_iadd hx hb dX6_store_77 ?_
      refine pt_0_16 hx hb hts iX6_store_X6 hown hB.1 hC hI hS hA qX6_store_w5 dX6_store_78 (fun H locs hC hS => ?_)
      refine lv_aload_n hx hb dX6_store_81 rfl (lv_at hl 1 rfl) ?_
      refine q_callVv (As := []) (κ := 4) (i := b.toNatClampNeg) (show b.toNatClampNeg < 5 from hr_c1) rfl ⟨_, rfl⟩ rfl ⟨hx, hb, hml, hown, hts⟩ (kX1_empty l D cy hI (up (up (fX3_fillFrom g ((g 0 0 10).toNatClampNeg) b.toNatClampNeg) 0 0 10 (((fX3_fillFrom g ((g 0 0 10).toNatClampNeg) b.toNatClampNeg) 0 0 10) + 1)) 0 0 5 (((fX3_fillFrom g ((g 0 0 10).toNatClampNeg) b.toNatClampNeg) 0 0 5) + (((fX3_fillFrom g ((g 0 0 10).toNatClampNeg) b.toNatClampNeg) 3 (3 + b.toNatClampNeg) 0) - ((fX3_fillFrom g ((g 0 0 10).toNatClampNeg) b.toNatClampNeg) 3 (8 + (g 0 0 10).toNatClampNeg) 0)))) _ b.toNatClampNeg hr_c1  ) (cwV 0 hts gX6_store_X1_empty rfl rfl rfl (by decide +kernel) ⟨Nat.le_of_ble_eq_true rfl, Nat.le_of_ble_eq_true rfl⟩) hB hC hS rfl hl.1 (Nat.le_of_ble_eq_true rfl) dX6_store_82 ⟨Nat.le_of_ble_eq_true rfl, Nat.le_of_ble_eq_true rfl⟩ (fun H locs hC hS => ?_)
      refine lv_aload_n hx hb dX6_store_85 rfl (lv_at hl 2 rfl) ?_
      refine gt_0_10 hx hb hts iX6_store_X6 hown hB.1 hC qX6_store_w3 dX6_store_86 ?_
      refine lv_iconst (v := 1) hx hb dX6_store_89 (by decide) ?_
      refine lv_isub hx hb dX6_store_90 ?_
      have e9 : fX6_store g b = (0, ((fX1_empty (up (up (fX3_fillFrom g ((g 0 0 10).toNatClampNeg) b.toNatClampNeg) 0 0 10 (((fX3_fillFrom g ((g 0 0 10).toNatClampNeg) b.toNatClampNeg) 0 0 10) + 1)) 0 0 5 (((fX3_fillFrom g ((g 0 0 10).toNatClampNeg) b.toNatClampNeg) 0 0 5) + (((fX3_fillFrom g ((g 0 0 10).toNatClampNeg) b.toNatClampNeg) 3 (3 + b.toNatClampNeg) 0) - ((fX3_fillFrom g ((g 0 0 10).toNatClampNeg) b.toNatClampNeg) 3 (8 + (g 0 0 10).toNatClampNeg) 0)))) b.toNatClampNeg) 0 0 10) - 1, fX1_empty (up (up (fX3_fillFrom g ((g 0 0 10).toNatClampNeg) b.toNatClampNeg) 0 0 10 (((fX3_fillFrom g ((g 0 0 10).toNatClampNeg) b.toNatClampNeg) 0 0 10) + 1)) 0 0 5 (((fX3_fillFrom g ((g 0 0 10).toNatClampNeg) b.toNatClampNeg) 0 0 5) + (((fX3_fillFrom g ((g 0 0 10).toNatClampNeg) b.toNatClampNeg) 3 (3 + b.toNatClampNeg) 0) - ((fX3_fillFrom g ((g 0 0 10).toNatClampNeg) b.toNatClampNeg) 3 (8 + (g 0 0 10).toNatClampNeg) 0)))) b.toNatClampNeg) := (by unfold fX6_store; rw [if_pos c1, if_neg c2, if_pos c3])
      exact x_reti hx hb hr hC hS (by rw [e9]) (by rw [e9]) (by rw [e9]) hlocks dX6_store_91 (Nat.le_of_ble_eq_true rfl) (Nat.le_of_ble_eq_true rfl)
    · skip
      exact q_throwS (cdv := 3) (ik := 93) (is := 213) (ic := 97) (cls := "java/lang/IllegalStateException") (text := "the bed gives no lot, or there were 12") hl0 hx hb hown hml hT hlocks hB hC hS hl.1 (by unfold fX6_store; rw [if_pos c1, if_neg c2, if_neg c3]) rfl (by decide) ⟨by decide, by decide⟩ (hts _ qX6_store_w1) (hts _ qX6_store_w2) (List.mem_of_getElem? (i := 14) rfl) (fun w hw => hts w (List.mem_cons_of_mem _ (List.mem_append_left _ (List.mem_append_right _ hw)))) xN_97 xG_97 dX6_store_22 dX6_store_25 dX6_store_26 dX6_store_28 dX6_store_31 ⟨Nat.le_of_ble_eq_true rfl, Nat.le_of_ble_eq_true rfl, Nat.le_of_ble_eq_true rfl, Nat.le_of_ble_eq_true rfl⟩ (Nat.le_of_ble_eq_true rfl) (Nat.le_of_ble_eq_true rfl)
def fX6_cup (g : Gd) (x : Int32) (t : Int32) : Nat × Int32 × Gd := if (fX6_lotAt g x) = 0 then (if (fX6_needTaster g t) = 0 then (if (g 3 (8 + x.toNatClampNeg) 10) = 0 then ((3, 0, g)) else ((0, (fX3_score g x.toNatClampNeg) + (g 7 0 t.toNatClampNeg), (up g 6 x.toNatClampNeg t.toNatClampNeg ((fX3_score g x.toNatClampNeg) + (g 7 0 t.toNatClampNeg)))))) else (((fX6_needTaster g t), 0, g))) else (((fX6_lotAt g x), 0, g))
theorem qX6_cup_w1 : Cond.classLink RX6 93 "java/lang/IllegalStateException" ∈ wsX6_cup := List.mem_of_getElem? (i := 1) rfl
theorem qX6_cup_w2 : Cond.initialized "java/lang/IllegalStateException" ∈ wsX6_cup := List.mem_of_getElem? (i := 2) rfl
theorem qX6_cup_w3 : Cond.fieldLink RX6 231 "CherryStation$Lot" "isInStore" "Z" ∈ wsX6_cup := List.mem_of_getElem? (i := 3) rfl
theorem qX6_cup_w4 : Cond.fieldLink RX6 11 "CherryStation" "farms" "[LCherryStation$Farm;" ∈ wsX6_cup := List.mem_of_getElem? (i := 4) rfl
theorem qX6_cup_w5 : Cond.fieldLink RX6 44 "CherryStation" "biases" "[I" ∈ wsX6_cup := List.mem_of_getElem? (i := 5) rfl
theorem qX6_cup_w6 : Cond.fieldLink RX6 240 "CherryStation$Lot" "readings" "[I" ∈ wsX6_cup := List.mem_of_getElem? (i := 6) rfl
theorem iX6_cup_X3 : ∀ w ∈ wsX30, w ∈ wsX6_cup := fun _ h => (List.mem_cons_of_mem _ (List.mem_append_left _ (List.mem_append_left _ (List.mem_append_left _ (List.mem_append_left _ (List.mem_append_left _ (List.mem_append_right _ h)))))))
theorem iX6_cup_X6 : ∀ w ∈ wsX60, w ∈ wsX6_cup := fun _ h => (List.mem_cons_of_mem _ (List.mem_append_left _ (List.mem_append_left _ (List.mem_append_left _ (List.mem_append_left _ (List.mem_append_right _ h))))))
set_option maxRecDepth 100000 in
set_option maxHeartbeats 4000000 in
theorem kX6_cup (l : Launch) (D : va_G) (cy : Nat → ClassId) {ad : Nat → Nat → Nat} (hI : cI ad) (hl0 : l.stackTraces = false) (g : Gd) (sz : Nat) (x : Int32) (t : Int32) (hv : IvC g) : vx_Met l yX6_cup wsX6_cup ({ frames := 7, cells := 3, slots := 18, locals := 103 } : Room) (va_Pc [.ref (ad 0 0), .int x, .int t] (cPre D cy ad g sz)) (cXi D cy ad (fX6_cup g x t).1 (fX6_cup g x t).2.1 (fX6_cup g x t).2.2 sz) (cXC D cy ad (fX6_cup g x t).1 g sz) 3 18 (cA ad sz) := by
  refine q_startX (cc := cX6_cup) (maxL := 5) (ret := (some .int)) (own := RX6) (by decide) rfl rfl (Nat.le_of_ble_eq_true rfl) ?_
  intro p e s m below meth c hx hb hr hml hts hown hlocks hT ⟨hsz, hC, hB⟩ ls hl
  subst hsz
  have hS : va_S (cA ad s.heap.size) s.heap s.heap [] := va_S.rf
  have hA : ∀ κ i : Nat, cV κ i → cA ad s.heap.size (ad κ i) := fun κ i h => Or.inl ⟨κ, i, h, rfl⟩
  have hl : lv_has ls 5 [(0, .ref (ad 0 0)), (1, .int x), (2, .int t)] := hl
  refine lv_aload_n hx hb dX6_cup_0 rfl (lv_at hl 0 rfl) ?_
  refine lv_iload_n hx hb dX6_cup_1 rfl (lv_at hl 1 rfl) ?_
  refine x_callVr (As := [.int x]) (κ := 0) (i := 0) rfl rfl ⟨_, rfl⟩ rfl ⟨hx, hb, hml, hown, hts⟩ (kX6_lotAt l D cy hI hl0 g _  x hv) (cwV 1 hts gX6_cup_X6_lotAt rfl rfl rfl (by decide +kernel) ⟨Nat.le_of_ble_eq_true rfl, Nat.le_of_ble_eq_true rfl⟩) hB hC hS rfl hl.1 (Nat.le_of_ble_eq_true rfl) dX6_cup_2 ⟨Nat.le_of_ble_eq_true rfl, Nat.le_of_ble_eq_true rfl⟩ ⟨Nat.le_of_ble_eq_true rfl, Nat.le_of_ble_eq_true rfl⟩ hT hlocks (fun h => by unfold fX6_cup; rw [if_neg h]) (fun c1 H locs hC hS => ?_)
  have hr_c1 : x.toNatClampNeg < 12 := vp_lt (lotAt_in hv c1)
  refine lv_astore_n (lv' := [(3, .ref (ad 5 x.toNatClampNeg)), (0, .ref (ad 0 0)), (1, .int x), (2, .int t)]) hx hb dX6_cup_5 rfl hl (by decide) rfl (fun ls hl => ?_)
  refine lv_iload_n hx hb dX6_cup_6 rfl (lv_at hl 3 rfl) ?_
  refine x_callSv (As := [.int t])  ⟨hx, hb, hml, hown, hts⟩ (kX6_needTaster l D cy hI hl0 g _  t ) (va_cwS 1 hts gX6_cup_X6_needTaster rfl rfl rfl (by decide +kernel) ⟨Nat.le_of_ble_eq_true rfl, Nat.le_of_ble_eq_true rfl⟩) hB hC hS rfl hl.1 (Nat.le_of_ble_eq_true rfl) dX6_cup_7 ⟨Nat.le_of_ble_eq_true rfl, Nat.le_of_ble_eq_true rfl⟩ ⟨Nat.le_of_ble_eq_true rfl, Nat.le_of_ble_eq_true rfl⟩ hT hlocks (fun h => by unfold fX6_cup; rw [if_pos c1, if_neg h]) (fun c2 H locs hC hS => ?_)
  refine lv_aload_n hx hb dX6_cup_10 rfl (lv_at hl 0 rfl) ?_
  refine gt_5_2 hx hb hts iX6_cup_X3 hown hB.1 hC (by omega) qX6_cup_w3 dX6_cup_11 ?_
  refine lv_if_ne (tgt := 27) hx hb dX6_cup_14 (by decide) (fun c3 => ?_) (fun c3 => ?_)
  · skip
    refine lv_aload_n hx hb dX6_cup_27 rfl (lv_at hl 0 rfl) ?_
    refine lv_aload_n hx hb dX6_cup_28 rfl (lv_at hl 1 rfl) ?_
    refine gt_0_0 hx hb hts iX6_cup_X6 hown hB.1 hC qX6_cup_w4 dX6_cup_29 ?_
    refine q_callVi (As := [.ref (ad 10 0)]) (κ := 5) (i := x.toNatClampNeg) (show x.toNatClampNeg < 13 from (by omega)) rfl ⟨_, rfl⟩ rfl ⟨hx, hb, hml, hown, hts⟩ (kX3_score l D cy hI g _ x.toNatClampNeg (by omega)  ) (cwV 1 hts gX6_cup_X3_score rfl rfl rfl (by decide +kernel) ⟨Nat.le_of_ble_eq_true rfl, Nat.le_of_ble_eq_true rfl⟩) hB hC hS rfl hl.1 (Nat.le_of_ble_eq_true rfl) dX6_cup_32 ⟨Nat.le_of_ble_eq_true rfl, Nat.le_of_ble_eq_true rfl⟩ (fun H locs hC hS => ?_)
    refine lv_aload_n hx hb dX6_cup_35 rfl (lv_at hl 1 rfl) ?_
    refine gt_0_6 hx hb hts iX6_cup_X6 hown hB.1 hC qX6_cup_w5 dX6_cup_36 ?_
    refine lv_iload_n hx hb dX6_cup_39 rfl (lv_at hl 3 rfl) ?_
    refine ld_15 hx hb hB.1 hC (k := t.toNatClampNeg) rfl (needTaster_in c2) dX6_cup_40 ?_
    refine lv_iadd hx hb dX6_cup_41 ?_
    refine lv_istore (lv' := [(4, .int ((fX3_score g x.toNatClampNeg) + (g 7 0 t.toNatClampNeg))), (3, .ref (ad 5 x.toNatClampNeg)), (0, .ref (ad 0 0)), (1, .int x), (2, .int t)]) hx hb dX6_cup_42 hl (by decide) rfl (fun ls hl => ?_)
    refine lv_aload_n hx hb dX6_cup_44 rfl (lv_at hl 1 rfl) ?_
    refine gt_5_1 hx hb hts iX6_cup_X3 hown hB.1 hC (by omega) qX6_cup_w6 dX6_cup_45 ?_
    refine lv_iload_n hx hb dX6_cup_48 rfl (lv_at hl 4 rfl) ?_
    refine lv_iload hx hb dX6_cup_49 (lv_at hl 0 rfl) ?_
    refine st_9 hx hb hB.1 hC hI hS hA (by omega) (k := t.toNatClampNeg) rfl (needTaster_in c2) dX6_cup_51 (fun H locs hC hS => ?_)
    refine lv_iload hx hb dX6_cup_52 (lv_at hl 0 rfl) ?_
    have e9 : fX6_cup g x t = (0, (fX3_score g x.toNatClampNeg) + (g 7 0 t.toNatClampNeg), (up g 6 x.toNatClampNeg t.toNatClampNeg ((fX3_score g x.toNatClampNeg) + (g 7 0 t.toNatClampNeg)))) := (by unfold fX6_cup; rw [if_pos c1, if_pos c2, if_neg c3])
    exact x_reti hx hb hr hC hS (by rw [e9]) (by rw [e9]) (by rw [e9]) hlocks dX6_cup_54 (Nat.le_of_ble_eq_true rfl) (Nat.le_of_ble_eq_true rfl)
  · skip
    exact q_throwS (cdv := 3) (ik := 93) (is := 234) (ic := 97) (cls := "java/lang/IllegalStateException") (text := "the lot is not in store") hl0 hx hb hown hml hT hlocks hB hC hS hl.1 (by unfold fX6_cup; rw [if_pos c1, if_pos c2, if_pos c3]) rfl (by decide) ⟨by decide, by decide⟩ (hts _ qX6_cup_w1) (hts _ qX6_cup_w2) (List.mem_of_getElem? (i := 15) rfl) (fun w hw => hts w (List.mem_cons_of_mem _ (List.mem_append_left _ (List.mem_append_right _ hw)))) xN_97 xG_97 dX6_cup_17 dX6_cup_20 dX6_cup_21 dX6_cup_23 dX6_cup_26 ⟨Nat.le_of_ble_eq_true rfl, Nat.le_of_ble_eq_true rfl, Nat.le_of_ble_eq_true rfl, Nat.le_of_ble_eq_true rfl⟩ (Nat.le_of_ble_eq_true rfl) (Nat.le_of_ble_eq_true rfl)
def fX6_blend (g : Gd) (x : Int32) (o : Int32) : Nat × Int32 × Gd := if (fX6_lotAt g x) = 0 then (if (fX6_lotAt g o) = 0 then (if x = o then ((2, 0, g)) else (if (fX3_canBlendWith g x.toNatClampNeg o.toNatClampNeg) = 0 then ((3, 0, g)) else ((0, (fX3_forgetReadings (fX4_clear (fX3_forgetReadings (fX3_takeIn g x.toNatClampNeg o.toNatClampNeg) x.toNatClampNeg) (8 + o.toNatClampNeg)) o.toNatClampNeg) 3 (8 + x.toNatClampNeg) 0, (up (fX3_forgetReadings (fX4_clear (fX3_forgetReadings (fX3_takeIn g x.toNatClampNeg o.toNatClampNeg) x.toNatClampNeg) (8 + o.toNatClampNeg)) o.toNatClampNeg) 3 (8 + o.toNatClampNeg) 10 0))))) else (((fX6_lotAt g o), 0, g))) else (((fX6_lotAt g x), 0, g))
theorem qX6_blend_w1 : Cond.classLink RX6 86 "java/lang/IllegalArgumentException" ∈ wsX6_blend := List.mem_of_getElem? (i := 1) rfl
theorem qX6_blend_w2 : Cond.initialized "java/lang/IllegalArgumentException" ∈ wsX6_blend := List.mem_of_getElem? (i := 2) rfl
theorem qX6_blend_w3 : Cond.classLink RX6 93 "java/lang/IllegalStateException" ∈ wsX6_blend := List.mem_of_getElem? (i := 3) rfl
theorem qX6_blend_w4 : Cond.initialized "java/lang/IllegalStateException" ∈ wsX6_blend := List.mem_of_getElem? (i := 4) rfl
theorem qX6_blend_w5 : Cond.fieldLink RX6 219 "CherryStation$Lot" "mix" "LCherryStation$Mix;" ∈ wsX6_blend := List.mem_of_getElem? (i := 5) rfl
theorem qX6_blend_w6 : Cond.fieldLink RX6 231 "CherryStation$Lot" "isInStore" "Z" ∈ wsX6_blend := List.mem_of_getElem? (i := 6) rfl
theorem qX6_blend_w7 : Cond.fieldLink RX6 171 "CherryStation$Mix" "kilos" "I" ∈ wsX6_blend := List.mem_of_getElem? (i := 7) rfl
theorem iX6_blend_X3 : ∀ w ∈ wsX30, w ∈ wsX6_blend := fun _ h => (List.mem_cons_of_mem _ (List.mem_append_left _ (List.mem_append_left _ (List.mem_append_left _ (List.mem_append_left _ (List.mem_append_left _ (List.mem_append_right _ h)))))))
theorem iX6_blend_X4 : ∀ w ∈ wsX40, w ∈ wsX6_blend := fun _ h => (List.mem_cons_of_mem _ (List.mem_append_left _ (List.mem_append_left _ (List.mem_append_left _ (List.mem_append_left _ (List.mem_append_right _ h))))))
set_option maxRecDepth 100000 in
set_option maxHeartbeats 4000000 in
theorem kX6_blend (l : Launch) (D : va_G) (cy : Nat → ClassId) {ad : Nat → Nat → Nat} (hI : cI ad) (hl0 : l.stackTraces = false) (g : Gd) (sz : Nat) (x : Int32) (o : Int32) (hv : IvC g) : vx_Met l yX6_blend wsX6_blend ({ frames := 7, cells := 3, slots := 18, locals := 103 } : Room) (va_Pc [.ref (ad 0 0), .int x, .int o] (cPre D cy ad g sz)) (cXi D cy ad (fX6_blend g x o).1 (fX6_blend g x o).2.1 (fX6_blend g x o).2.2 sz) (cXC D cy ad (fX6_blend g x o).1 g sz) 3 18 (cA ad sz) := by
  refine q_startX (cc := cX6_blend) (maxL := 5) (ret := (some .int)) (own := RX6) (by decide) rfl rfl (Nat.le_of_ble_eq_true rfl) ?_
  intro p e s m below meth c hx hb hr hml hts hown hlocks hT ⟨hsz, hC, hB⟩ ls hl
  subst hsz
  have hS : va_S (cA ad s.heap.size) s.heap s.heap [] := va_S.rf
  have hA : ∀ κ i : Nat, cV κ i → cA ad s.heap.size (ad κ i) := fun κ i h => Or.inl ⟨κ, i, h, rfl⟩
  have hl : lv_has ls 5 [(0, .ref (ad 0 0)), (1, .int x), (2, .int o)] := hl
  refine lv_aload_n hx hb dX6_blend_0 rfl (lv_at hl 0 rfl) ?_
  refine lv_iload_n hx hb dX6_blend_1 rfl (lv_at hl 1 rfl) ?_
  refine x_callVr (As := [.int x]) (κ := 0) (i := 0) rfl rfl ⟨_, rfl⟩ rfl ⟨hx, hb, hml, hown, hts⟩ (kX6_lotAt l D cy hI hl0 g _  x hv) (cwV 1 hts gX6_blend_X6_lotAt rfl rfl rfl (by decide +kernel) ⟨Nat.le_of_ble_eq_true rfl, Nat.le_of_ble_eq_true rfl⟩) hB hC hS rfl hl.1 (Nat.le_of_ble_eq_true rfl) dX6_blend_2 ⟨Nat.le_of_ble_eq_true rfl, Nat.le_of_ble_eq_true rfl⟩ ⟨Nat.le_of_ble_eq_true rfl, Nat.le_of_ble_eq_true rfl⟩ hT hlocks (fun h => by unfold fX6_blend; rw [if_neg h]) (fun c1 H locs hC hS => ?_)
  have hr_c1 : x.toNatClampNeg < 12 := vp_lt (lotAt_in hv c1)
  refine lv_astore_n (lv' := [(3, .ref (ad 5 x.toNatClampNeg)), (0, .ref (ad 0 0)), (1, .int x), (2, .int o)]) hx hb dX6_blend_5 rfl hl (by decide) rfl (fun ls hl => ?_)
  refine lv_aload_n hx hb dX6_blend_6 rfl (lv_at hl 1 rfl) ?_
  refine lv_iload_n hx hb dX6_blend_7 rfl (lv_at hl 3 rfl) ?_
  refine x_callVr (As := [.int o]) (κ := 0) (i := 0) rfl rfl ⟨_, rfl⟩ rfl ⟨hx, hb, hml, hown, hts⟩ (kX6_lotAt l D cy hI hl0 g _  o hv) (cwV 1 hts gX6_blend_X6_lotAt rfl rfl rfl (by decide +kernel) ⟨Nat.le_of_ble_eq_true rfl, Nat.le_of_ble_eq_true rfl⟩) hB hC hS rfl hl.1 (Nat.le_of_ble_eq_true rfl) dX6_blend_8 ⟨Nat.le_of_ble_eq_true rfl, Nat.le_of_ble_eq_true rfl⟩ ⟨Nat.le_of_ble_eq_true rfl, Nat.le_of_ble_eq_true rfl⟩ hT hlocks (fun h => by unfold fX6_blend; rw [if_pos c1, if_neg h]) (fun c2 H locs hC hS => ?_)
  have hr_c2 : o.toNatClampNeg < 12 := vp_lt (lotAt_in hv c2)
  refine lv_astore (lv' := [(4, .ref (ad 5 o.toNatClampNeg)), (3, .ref (ad 5 x.toNatClampNeg)), (0, .ref (ad 0 0)), (1, .int x), (2, .int o)]) hx hb dX6_blend_11 hl (by decide) rfl (fun ls hl => ?_)
  refine lv_iload_n hx hb dX6_blend_13 rfl (lv_at hl 3 rfl) ?_
  refine lv_iload_n hx hb dX6_blend_14 rfl (lv_at hl 4 rfl) ?_
  refine lv_icmp_ne (tgt := 28) hx hb dX6_blend_15 (by decide) (fun c3 => ?_) (fun c3 => ?_)
  · skip
    refine lv_aload_n hx hb dX6_blend_28 rfl (lv_at hl 1 rfl) ?_
    refine lv_aload hx hb dX6_blend_29 (lv_at hl 0 rfl) ?_
    refine q_callVi (As := [.ref (ad 5 o.toNatClampNeg)]) (κ := 5) (i := x.toNatClampNeg) (show x.toNatClampNeg < 13 from (by omega)) rfl ⟨_, rfl⟩ rfl ⟨hx, hb, hml, hown, hts⟩ (kX3_canBlendWith l D cy hI g _ x.toNatClampNeg (by omega) o.toNatClampNeg (by omega)  ) (cwV 1 hts gX6_blend_X3_canBlendWith rfl rfl rfl (by decide +kernel) ⟨Nat.le_of_ble_eq_true rfl, Nat.le_of_ble_eq_true rfl⟩) hB hC hS rfl hl.1 (Nat.le_of_ble_eq_true rfl) dX6_blend_31 ⟨Nat.le_of_ble_eq_true rfl, Nat.le_of_ble_eq_true rfl⟩ (fun H locs hC hS => ?_)
    refine lv_if_ne (tgt := 47) hx hb dX6_blend_34 (by decide) (fun c4 => ?_) (fun c4 => ?_)
    · skip
      refine lv_aload_n hx hb dX6_blend_47 rfl (lv_at hl 1 rfl) ?_
      refine lv_aload hx hb dX6_blend_48 (lv_at hl 0 rfl) ?_
      refine q_callVv (As := [.ref (ad 5 o.toNatClampNeg)]) (κ := 5) (i := x.toNatClampNeg) (show x.toNatClampNeg < 13 from (by omega)) rfl ⟨_, rfl⟩ rfl ⟨hx, hb, hml, hown, hts⟩ (kX3_takeIn l D cy hI g _ x.toNatClampNeg (by omega) o.toNatClampNeg (by omega)  (nat_ne (lotAt_in hv c1) (lotAt_in hv c2) c3)) (cwV 1 hts gX6_blend_X3_takeIn rfl rfl rfl (by decide +kernel) ⟨Nat.le_of_ble_eq_true rfl, Nat.le_of_ble_eq_true rfl⟩) hB hC hS rfl hl.1 (Nat.le_of_ble_eq_true rfl) dX6_blend_50 ⟨Nat.le_of_ble_eq_true rfl, Nat.le_of_ble_eq_true rfl⟩ (fun H locs hC hS => ?_)
      refine lv_aload_n hx hb dX6_blend_53 rfl (lv_at hl 1 rfl) ?_
      refine q_callVv (As := []) (κ := 5) (i := x.toNatClampNeg) (show x.toNatClampNeg < 13 from (by omega)) rfl ⟨_, rfl⟩ rfl ⟨hx, hb, hml, hown, hts⟩ (kX3_forgetReadings l D cy hI (fX3_takeIn g x.toNatClampNeg o.toNatClampNeg) _ x.toNatClampNeg (by omega)  ) (cwV 0 hts gX6_blend_X3_forgetReadings rfl rfl rfl (by decide +kernel) ⟨Nat.le_of_ble_eq_true rfl, Nat.le_of_ble_eq_true rfl⟩) hB hC hS rfl hl.1 (Nat.le_of_ble_eq_true rfl) dX6_blend_54 ⟨Nat.le_of_ble_eq_true rfl, Nat.le_of_ble_eq_true rfl⟩ (fun H locs hC hS => ?_)
      refine lv_aload hx hb dX6_blend_57 (lv_at hl 0 rfl) ?_
      refine gt_5_0 hx hb hts iX6_blend_X3 hown hB.1 hC (by omega) qX6_blend_w5 dX6_blend_59 ?_
      refine q_callVv (As := []) (κ := 6) (i := 8 + o.toNatClampNeg) (show (8 + o.toNatClampNeg) < 21 from (by omega)) rfl ⟨_, rfl⟩ rfl ⟨hx, hb, hml, hown, hts⟩ (kX4_clear l D cy hI (fX3_forgetReadings (fX3_takeIn g x.toNatClampNeg o.toNatClampNeg) x.toNatClampNeg) _ (8 + o.toNatClampNeg) (by omega)  ) (cwV 0 hts gX6_blend_X4_clear rfl rfl rfl (by decide +kernel) ⟨Nat.le_of_ble_eq_true rfl, Nat.le_of_ble_eq_true rfl⟩) hB hC hS rfl hl.1 (Nat.le_of_ble_eq_true rfl) dX6_blend_62 ⟨Nat.le_of_ble_eq_true rfl, Nat.le_of_ble_eq_true rfl⟩ (fun H locs hC hS => ?_)
      refine lv_aload hx hb dX6_blend_65 (lv_at hl 0 rfl) ?_
      refine q_callVv (As := []) (κ := 5) (i := o.toNatClampNeg) (show o.toNatClampNeg < 13 from (by omega)) rfl ⟨_, rfl⟩ rfl ⟨hx, hb, hml, hown, hts⟩ (kX3_forgetReadings l D cy hI (fX4_clear (fX3_forgetReadings (fX3_takeIn g x.toNatClampNeg o.toNatClampNeg) x.toNatClampNeg) (8 + o.toNatClampNeg)) _ o.toNatClampNeg (by omega)  ) (cwV 0 hts gX6_blend_X3_forgetReadings rfl rfl rfl (by decide +kernel) ⟨Nat.le_of_ble_eq_true rfl, Nat.le_of_ble_eq_true rfl⟩) hB hC hS rfl hl.1 (Nat.le_of_ble_eq_true rfl) dX6_blend_67 ⟨Nat.le_of_ble_eq_true rfl, Nat.le_of_ble_eq_true rfl⟩ (fun H locs hC hS => ?_)
      refine lv_aload hx hb dX6_blend_70 (lv_at hl 0 rfl) ?_
      refine lv_iconst (v := 0) hx hb dX6_blend_72 (by decide) ?_
      refine pt_5_2 hx hb hts iX6_blend_X3 hown hB.1 hC hI hS hA (by omega) qX6_blend_w6 rfl rfl dX6_blend_73 (fun H locs hC hS => ?_)
      refine lv_aload_n hx hb dX6_blend_76 rfl (lv_at hl 1 rfl) ?_
      refine gt_5_0 hx hb hts iX6_blend_X3 hown hB.1 hC (by omega) qX6_blend_w5 dX6_blend_77 ?_
      refine gt_6_2 hx hb hts iX6_blend_X4 hown hB.1 hC (by omega) qX6_blend_w7 dX6_blend_80 ?_
      refine q_val (v := (fX3_forgetReadings (fX4_clear (fX3_forgetReadings (fX3_takeIn g x.toNatClampNeg o.toNatClampNeg) x.toNatClampNeg) (8 + o.toNatClampNeg)) o.toNatClampNeg) 3 (8 + x.toNatClampNeg) 0) ((up_nk (by decide)).trans rfl) ?_
      have e9 : fX6_blend g x o = (0, (fX3_forgetReadings (fX4_clear (fX3_forgetReadings (fX3_takeIn g x.toNatClampNeg o.toNatClampNeg) x.toNatClampNeg) (8 + o.toNatClampNeg)) o.toNatClampNeg) 3 (8 + x.toNatClampNeg) 0, (up (fX3_forgetReadings (fX4_clear (fX3_forgetReadings (fX3_takeIn g x.toNatClampNeg o.toNatClampNeg) x.toNatClampNeg) (8 + o.toNatClampNeg)) o.toNatClampNeg) 3 (8 + o.toNatClampNeg) 10 0)) := (by unfold fX6_blend; rw [if_pos c1, if_pos c2, if_neg c3, if_neg c4])
      exact x_reti hx hb hr hC hS (by rw [e9]) (by rw [e9]) (by rw [e9]) hlocks dX6_blend_83 (Nat.le_of_ble_eq_true rfl) (Nat.le_of_ble_eq_true rfl)
    · skip
      exact q_throwS (cdv := 3) (ik := 93) (is := 249) (ic := 97) (cls := "java/lang/IllegalStateException") (text := "a lot is not in store, or they are of two methods") hl0 hx hb hown hml hT hlocks hB hC hS hl.1 (by unfold fX6_blend; rw [if_pos c1, if_pos c2, if_neg c3, if_pos c4]) rfl (by decide) ⟨by decide, by decide⟩ (hts _ qX6_blend_w3) (hts _ qX6_blend_w4) (List.mem_of_getElem? (i := 17) rfl) (fun w hw => hts w (List.mem_cons_of_mem _ (List.mem_append_left _ (List.mem_append_right _ hw)))) xN_97 xG_97 dX6_blend_37 dX6_blend_40 dX6_blend_41 dX6_blend_43 dX6_blend_46 ⟨Nat.le_of_ble_eq_true rfl, Nat.le_of_ble_eq_true rfl, Nat.le_of_ble_eq_true rfl, Nat.le_of_ble_eq_true rfl⟩ (Nat.le_of_ble_eq_true rfl) (Nat.le_of_ble_eq_true rfl)
  · skip
    exact q_throwS (cdv := 2) (ik := 86) (is := 243) (ic := 90) (cls := "java/lang/IllegalArgumentException") (text := "both are the same lot") hl0 hx hb hown hml hT hlocks hB hC hS hl.1 (by unfold fX6_blend; rw [if_pos c1, if_pos c2, if_pos c3]) rfl (by decide) ⟨by decide, by decide⟩ (hts _ qX6_blend_w1) (hts _ qX6_blend_w2) (List.mem_of_getElem? (i := 16) rfl) (fun w hw => hts w (List.mem_cons_of_mem _ (List.mem_append_left _ (List.mem_append_left _ (List.mem_append_right _ hw))))) xN_90 xG_90 dX6_blend_18 dX6_blend_21 dX6_blend_22 dX6_blend_24 dX6_blend_27 ⟨Nat.le_of_ble_eq_true rfl, Nat.le_of_ble_eq_true rfl, Nat.le_of_ble_eq_true rfl, Nat.le_of_ble_eq_true rfl⟩ (Nat.le_of_ble_eq_true rfl) (Nat.le_of_ble_eq_true rfl)
