def fX6_ofBasket (g : Gd) (x : Int32) (w : Int32) : Nat × Int32 := if (fX6_basketAt g x) = 0 then (if w = 0 then ((0, g 2 x.toNatClampNeg 0)) else (if w = 1 then ((0, g 2 x.toNatClampNeg 1)) else (if w = 2 then ((0, g 2 x.toNatClampNeg 2)) else (if w = 3 then ((0, g 2 x.toNatClampNeg 3)) else (if w = 4 then ((0, g 2 x.toNatClampNeg 4)) else (if w = 5 then (if (g 2 x.toNatClampNeg 5) = 0 then ((0, 0)) else ((0, 1))) else ((2, 0)))))))) else (((fX6_basketAt g x), 0))
theorem qX6_ofBasket_w1 : Cond.classLink RX6 86 "java/lang/IllegalArgumentException" ∈ wsX6_ofBasket := List.mem_of_getElem? (i := 1) rfl
theorem qX6_ofBasket_w2 : Cond.initialized "java/lang/IllegalArgumentException" ∈ wsX6_ofBasket := List.mem_of_getElem? (i := 2) rfl
theorem qX6_ofBasket_w3 : Cond.fieldLink RX6 278 "CherryStation$Basket" "farm" "I" ∈ wsX6_ofBasket := List.mem_of_getElem? (i := 3) rfl
theorem qX6_ofBasket_w4 : Cond.fieldLink RX6 149 "CherryStation$Basket" "kilos" "I" ∈ wsX6_ofBasket := List.mem_of_getElem? (i := 4) rfl
theorem qX6_ofBasket_w5 : Cond.fieldLink RX6 281 "CherryStation$Basket" "ripe" "I" ∈ wsX6_ofBasket := List.mem_of_getElem? (i := 5) rfl
theorem qX6_ofBasket_w6 : Cond.fieldLink RX6 152 "CherryStation$Basket" "state" "I" ∈ wsX6_ofBasket := List.mem_of_getElem? (i := 6) rfl
theorem qX6_ofBasket_w7 : Cond.fieldLink RX6 284 "CherryStation$Basket" "age" "I" ∈ wsX6_ofBasket := List.mem_of_getElem? (i := 7) rfl
theorem qX6_ofBasket_w8 : Cond.fieldLink RX6 287 "CherryStation$Basket" "isCertified" "Z" ∈ wsX6_ofBasket := List.mem_of_getElem? (i := 8) rfl
theorem iX6_ofBasket_X0 : ∀ w ∈ wsX00, w ∈ wsX6_ofBasket := fun _ h => (List.mem_cons_of_mem _ (List.mem_append_left _ (List.mem_append_left _ (List.mem_append_left _ (List.mem_append_right _ h)))))
set_option maxRecDepth 100000 in
set_option maxHeartbeats 4000000 in
theorem kX6_ofBasket (l : Launch) (D : va_G) (cy : Nat → ClassId) {ad : Nat → Nat → Nat} (hI : cI ad) (hl0 : l.stackTraces = false) (g : Gd) (sz : Nat) (x : Int32) (w : Int32) (hv : IvC g) : vx_Met l yX6_ofBasket wsX6_ofBasket ({ frames := 7, cells := 2, slots := 12, locals := 103 } : Room) (va_Pc [.ref (ad 0 0), .int x, .int w] (cPre D cy ad g sz)) (cXi D cy ad (fX6_ofBasket g x w).1 (fX6_ofBasket g x w).2 g sz) (cXC D cy ad (fX6_ofBasket g x w).1 g sz) 2 12 (cA ad sz) := by
  refine q_startX (cc := cX6_ofBasket) (maxL := 4) (ret := (some .int)) (own := RX6) (by decide) rfl rfl (Nat.le_of_ble_eq_true rfl) ?_
  intro p e s m below meth c hx hb hr hml hts hown hlocks hT ⟨hsz, hC, hB⟩ ls hl
  subst hsz
  have hS : va_S (cA ad s.heap.size) s.heap s.heap [] := va_S.rf
  have hA : ∀ κ i : Nat, cV κ i → cA ad s.heap.size (ad κ i) := fun κ i h => Or.inl ⟨κ, i, h, rfl⟩
  have hl : lv_has ls 4 [(0, .ref (ad 0 0)), (1, .int x), (2, .int w)] := hl
  refine lv_aload_n hx hb dX6_ofBasket_0 rfl (lv_at hl 0 rfl) ?_
  refine lv_iload_n hx hb dX6_ofBasket_1 rfl (lv_at hl 1 rfl) ?_
  refine x_callVr (As := [.int x]) (κ := 0) (i := 0) rfl rfl ⟨_, rfl⟩ rfl ⟨hx, hb, hml, hown, hts⟩ (kX6_basketAt l D cy hI hl0 g _  x hv) (cwV 1 hts gX6_ofBasket_X6_basketAt rfl rfl rfl (by decide +kernel) ⟨Nat.le_of_ble_eq_true rfl, Nat.le_of_ble_eq_true rfl⟩) hB hC hS rfl hl.1 (Nat.le_of_ble_eq_true rfl) dX6_ofBasket_2 ⟨Nat.le_of_ble_eq_true rfl, Nat.le_of_ble_eq_true rfl⟩ ⟨Nat.le_of_ble_eq_true rfl, Nat.le_of_ble_eq_true rfl⟩ hT hlocks (fun h => by unfold fX6_ofBasket; rw [if_neg h]) (fun c1 H locs hC hS => ?_)
  have hr_c1 : x.toNatClampNeg < 20 := vp_lt (basketAt_in hv c1)
  refine lv_astore_n (lv' := [(3, .ref (ad 2 x.toNatClampNeg)), (0, .ref (ad 0 0)), (1, .int x), (2, .int w)]) hx hb dX6_ofBasket_5 rfl hl (by decide) rfl (fun ls hl => ?_)
  refine lv_iload_n hx hb dX6_ofBasket_6 rfl (lv_at hl 3 rfl) ?_
  by_cases c2 : w = 0
  · refine q_sw (k := 0) c2 ?_
    refine lv_tableIn (x := 0) (off := 37) (tgt := 44) hx hb dX6_ofBasket_7 (by decide) (by decide) rfl (by decide) ?_
    refine lv_aload_n hx hb dX6_ofBasket_44 rfl (lv_at hl 0 rfl) ?_
    refine gt_2_0 hx hb hts iX6_ofBasket_X0 hown hB.1 hC hr_c1 qX6_ofBasket_w3 dX6_ofBasket_45 ?_
    have e9 : fX6_ofBasket g x w = (0, g 2 x.toNatClampNeg 0) := (by unfold fX6_ofBasket; rw [if_pos c1, if_pos c2])
    exact x_reti hx hb hr hC hS (by rw [e9]) rfl (by rw [e9]) hlocks dX6_ofBasket_48 (Nat.le_of_ble_eq_true rfl) (Nat.le_of_ble_eq_true rfl)
  by_cases c3 : w = 1
  · refine q_sw (k := 1) c3 ?_
    refine lv_tableIn (x := 1) (off := 42) (tgt := 49) hx hb dX6_ofBasket_7 (by decide) (by decide) rfl (by decide) ?_
    refine lv_aload_n hx hb dX6_ofBasket_49 rfl (lv_at hl 0 rfl) ?_
    refine gt_2_1 hx hb hts iX6_ofBasket_X0 hown hB.1 hC hr_c1 qX6_ofBasket_w4 dX6_ofBasket_50 ?_
    have e9 : fX6_ofBasket g x w = (0, g 2 x.toNatClampNeg 1) := (by unfold fX6_ofBasket; rw [if_pos c1, if_neg c2, if_pos c3])
    exact x_reti hx hb hr hC hS (by rw [e9]) rfl (by rw [e9]) hlocks dX6_ofBasket_53 (Nat.le_of_ble_eq_true rfl) (Nat.le_of_ble_eq_true rfl)
  by_cases c4 : w = 2
  · refine q_sw (k := 2) c4 ?_
    refine lv_tableIn (x := 2) (off := 47) (tgt := 54) hx hb dX6_ofBasket_7 (by decide) (by decide) rfl (by decide) ?_
    refine lv_aload_n hx hb dX6_ofBasket_54 rfl (lv_at hl 0 rfl) ?_
    refine gt_2_2 hx hb hts iX6_ofBasket_X0 hown hB.1 hC hr_c1 qX6_ofBasket_w5 dX6_ofBasket_55 ?_
    have e9 : fX6_ofBasket g x w = (0, g 2 x.toNatClampNeg 2) := (by unfold fX6_ofBasket; rw [if_pos c1, if_neg c2, if_neg c3, if_pos c4])
    exact x_reti hx hb hr hC hS (by rw [e9]) rfl (by rw [e9]) hlocks dX6_ofBasket_58 (Nat.le_of_ble_eq_true rfl) (Nat.le_of_ble_eq_true rfl)
  by_cases c5 : w = 3
  · refine q_sw (k := 3) c5 ?_
    refine lv_tableIn (x := 3) (off := 52) (tgt := 59) hx hb dX6_ofBasket_7 (by decide) (by decide) rfl (by decide) ?_
    refine lv_aload_n hx hb dX6_ofBasket_59 rfl (lv_at hl 0 rfl) ?_
    refine gt_2_3 hx hb hts iX6_ofBasket_X0 hown hB.1 hC hr_c1 qX6_ofBasket_w6 dX6_ofBasket_60 ?_
    have e9 : fX6_ofBasket g x w = (0, g 2 x.toNatClampNeg 3) := (by unfold fX6_ofBasket; rw [if_pos c1, if_neg c2, if_neg c3, if_neg c4, if_pos c5])
    exact x_reti hx hb hr hC hS (by rw [e9]) rfl (by rw [e9]) hlocks dX6_ofBasket_63 (Nat.le_of_ble_eq_true rfl) (Nat.le_of_ble_eq_true rfl)
  by_cases c6 : w = 4
  · refine q_sw (k := 4) c6 ?_
    refine lv_tableIn (x := 4) (off := 57) (tgt := 64) hx hb dX6_ofBasket_7 (by decide) (by decide) rfl (by decide) ?_
    refine lv_aload_n hx hb dX6_ofBasket_64 rfl (lv_at hl 0 rfl) ?_
    refine gt_2_4 hx hb hts iX6_ofBasket_X0 hown hB.1 hC hr_c1 qX6_ofBasket_w7 dX6_ofBasket_65 ?_
    have e9 : fX6_ofBasket g x w = (0, g 2 x.toNatClampNeg 4) := (by unfold fX6_ofBasket; rw [if_pos c1, if_neg c2, if_neg c3, if_neg c4, if_neg c5, if_pos c6])
    exact x_reti hx hb hr hC hS (by rw [e9]) rfl (by rw [e9]) hlocks dX6_ofBasket_68 (Nat.le_of_ble_eq_true rfl) (Nat.le_of_ble_eq_true rfl)
  by_cases c7 : w = 5
  · refine q_sw (k := 5) c7 ?_
    refine lv_tableIn (x := 5) (off := 62) (tgt := 69) hx hb dX6_ofBasket_7 (by decide) (by decide) rfl (by decide) ?_
    refine lv_aload_n hx hb dX6_ofBasket_69 rfl (lv_at hl 0 rfl) ?_
    refine gt_2_5 hx hb hts iX6_ofBasket_X0 hown hB.1 hC hr_c1 qX6_ofBasket_w8 dX6_ofBasket_70 ?_
    refine lv_if_eq (tgt := 80) hx hb dX6_ofBasket_73 (by decide) (fun c8 => ?_) (fun c8 => ?_)
    · skip
      refine lv_iconst (v := 0) hx hb dX6_ofBasket_80 (by decide) ?_
      have e9 : fX6_ofBasket g x w = (0, 0) := (by unfold fX6_ofBasket; rw [if_pos c1, if_neg c2, if_neg c3, if_neg c4, if_neg c5, if_neg c6, if_pos c7, if_pos c8])
      exact x_reti hx hb hr hC hS (by rw [e9]) rfl (by rw [e9]) hlocks dX6_ofBasket_81 (Nat.le_of_ble_eq_true rfl) (Nat.le_of_ble_eq_true rfl)
    · skip
      refine lv_iconst (v := 1) hx hb dX6_ofBasket_76 (by decide) ?_
      refine lv_goto (tgt := 81) hx hb dX6_ofBasket_77 (by decide) ?_
      have e9 : fX6_ofBasket g x w = (0, 1) := (by unfold fX6_ofBasket; rw [if_pos c1, if_neg c2, if_neg c3, if_neg c4, if_neg c5, if_neg c6, if_pos c7, if_neg c8])
      exact x_reti hx hb hr hC hS (by rw [e9]) rfl (by rw [e9]) hlocks dX6_ofBasket_81 (Nat.le_of_ble_eq_true rfl) (Nat.le_of_ble_eq_true rfl)
  refine lv_tableOut (tgt := 82) hx hb dX6_ofBasket_7 (sw_0_5 c2 c3 c4 c5 c6 c7) (by decide) ?_
  exact q_throwW (cdv := 2) (ik := 86) (is := 290) (ic := 90) (cls := "java/lang/IllegalArgumentException") (text := "what is not 0 to 5") hl0 hx hb hown hml hT hlocks hB hC hS hl.1 (by unfold fX6_ofBasket; rw [if_pos c1, if_neg c2, if_neg c3, if_neg c4, if_neg c5, if_neg c6, if_neg c7]) rfl (by decide) ⟨by decide, by decide⟩ (hts _ qX6_ofBasket_w1) (hts _ qX6_ofBasket_w2) (List.mem_of_getElem? (i := 19) rfl) (fun w hw => hts w (List.mem_cons_of_mem _ (List.mem_append_left _ (List.mem_append_right _ hw)))) xN_90 xG_90 dX6_ofBasket_82 dX6_ofBasket_85 dX6_ofBasket_86 dX6_ofBasket_89 dX6_ofBasket_92 ⟨Nat.le_of_ble_eq_true rfl, Nat.le_of_ble_eq_true rfl, Nat.le_of_ble_eq_true rfl, Nat.le_of_ble_eq_true rfl⟩ (Nat.le_of_ble_eq_true rfl) (Nat.le_of_ble_eq_true rfl)
def fX6_ofTank (g : Gd) (x : Int32) (w : Int32) : Nat × Int32 := if (fX6_tankAt g x) = 0 then (if w = 0 then ((0, g 3 x.toNatClampNeg 0)) else (if w = 1 then ((0, g 3 x.toNatClampNeg 1)) else (if w = 2 then ((0, g 3 x.toNatClampNeg 2)) else (if w = 3 then ((0, g 3 x.toNatClampNeg 3)) else (if w = 4 then ((0, fX4_certifiedKilos g x.toNatClampNeg)) else ((2, 0))))))) else (((fX6_tankAt g x), 0))
theorem qX6_ofTank_w1 : Cond.classLink RX6 86 "java/lang/IllegalArgumentException" ∈ wsX6_ofTank := List.mem_of_getElem? (i := 1) rfl
theorem qX6_ofTank_w2 : Cond.initialized "java/lang/IllegalArgumentException" ∈ wsX6_ofTank := List.mem_of_getElem? (i := 2) rfl
theorem qX6_ofTank_w3 : Cond.fieldLink RX6 161 "CherryStation$Tank" "mix" "LCherryStation$Mix;" ∈ wsX6_ofTank := List.mem_of_getElem? (i := 3) rfl
theorem qX6_ofTank_w4 : Cond.fieldLink RX6 171 "CherryStation$Mix" "kilos" "I" ∈ wsX6_ofTank := List.mem_of_getElem? (i := 4) rfl
theorem qX6_ofTank_w5 : Cond.fieldLink RX6 292 "CherryStation$Mix" "ripe" "I" ∈ wsX6_ofTank := List.mem_of_getElem? (i := 5) rfl
theorem qX6_ofTank_w6 : Cond.fieldLink RX6 293 "CherryStation$Tank" "age" "I" ∈ wsX6_ofTank := List.mem_of_getElem? (i := 6) rfl
theorem qX6_ofTank_w7 : Cond.fieldLink RX6 181 "CherryStation$Tank" "points" "I" ∈ wsX6_ofTank := List.mem_of_getElem? (i := 7) rfl
theorem iX6_ofTank_X4 : ∀ w ∈ wsX40, w ∈ wsX6_ofTank := fun _ h => (List.mem_cons_of_mem _ (List.mem_append_left _ (List.mem_append_left _ (List.mem_append_left _ (List.mem_append_right _ h)))))
theorem iX6_ofTank_X5 : ∀ w ∈ wsX50, w ∈ wsX6_ofTank := fun _ h => (List.mem_cons_of_mem _ (List.mem_append_left _ (List.mem_append_left _ (List.mem_append_left _ (List.mem_append_left _ (List.mem_append_right _ h))))))
set_option maxRecDepth 100000 in
set_option maxHeartbeats 4000000 in
theorem kX6_ofTank (l : Launch) (D : va_G) (cy : Nat → ClassId) {ad : Nat → Nat → Nat} (hI : cI ad) (hl0 : l.stackTraces = false) (g : Gd) (sz : Nat) (x : Int32) (w : Int32) : vx_Met l yX6_ofTank wsX6_ofTank ({ frames := 7, cells := 2, slots := 12, locals := 103 } : Room) (va_Pc [.ref (ad 0 0), .int x, .int w] (cPre D cy ad g sz)) (cXi D cy ad (fX6_ofTank g x w).1 (fX6_ofTank g x w).2 g sz) (cXC D cy ad (fX6_ofTank g x w).1 g sz) 2 12 (cA ad sz) := by
  refine q_startX (cc := cX6_ofTank) (maxL := 4) (ret := (some .int)) (own := RX6) (by decide) rfl rfl (Nat.le_of_ble_eq_true rfl) ?_
  intro p e s m below meth c hx hb hr hml hts hown hlocks hT ⟨hsz, hC, hB⟩ ls hl
  subst hsz
  have hS : va_S (cA ad s.heap.size) s.heap s.heap [] := va_S.rf
  have hA : ∀ κ i : Nat, cV κ i → cA ad s.heap.size (ad κ i) := fun κ i h => Or.inl ⟨κ, i, h, rfl⟩
  have hl : lv_has ls 4 [(0, .ref (ad 0 0)), (1, .int x), (2, .int w)] := hl
  refine lv_aload_n hx hb dX6_ofTank_0 rfl (lv_at hl 0 rfl) ?_
  refine lv_iload_n hx hb dX6_ofTank_1 rfl (lv_at hl 1 rfl) ?_
  refine x_callVr (As := [.int x]) (κ := 0) (i := 0) rfl rfl ⟨_, rfl⟩ rfl ⟨hx, hb, hml, hown, hts⟩ (kX6_tankAt l D cy hI hl0 g _  x ) (cwV 1 hts gX6_ofTank_X6_tankAt rfl rfl rfl (by decide +kernel) ⟨Nat.le_of_ble_eq_true rfl, Nat.le_of_ble_eq_true rfl⟩) hB hC hS rfl hl.1 (Nat.le_of_ble_eq_true rfl) dX6_ofTank_2 ⟨Nat.le_of_ble_eq_true rfl, Nat.le_of_ble_eq_true rfl⟩ ⟨Nat.le_of_ble_eq_true rfl, Nat.le_of_ble_eq_true rfl⟩ hT hlocks (fun h => by unfold fX6_ofTank; rw [if_neg h]) (fun c1 H locs hC hS => ?_)
  have hr_c1 : x.toNatClampNeg < 3 := vp_lt (tankAt_in c1)
  refine lv_astore_n (lv' := [(3, .ref (ad 3 x.toNatClampNeg)), (0, .ref (ad 0 0)), (1, .int x), (2, .int w)]) hx hb dX6_ofTank_5 rfl hl (by decide) rfl (fun ls hl => ?_)
  refine lv_iload_n hx hb dX6_ofTank_6 rfl (lv_at hl 3 rfl) ?_
  by_cases c2 : w = 0
  · refine q_sw (k := 0) c2 ?_
    refine lv_tableIn (x := 0) (off := 33) (tgt := 40) hx hb dX6_ofTank_7 (by decide) (by decide) rfl (by decide) ?_
    refine lv_aload_n hx hb dX6_ofTank_40 rfl (lv_at hl 0 rfl) ?_
    refine gt_3_0 hx hb hts iX6_ofTank_X5 hown hB.1 hC hr_c1 qX6_ofTank_w3 dX6_ofTank_41 ?_
    refine gt_6_2 hx hb hts iX6_ofTank_X4 hown hB.1 hC (by omega) qX6_ofTank_w4 dX6_ofTank_44 ?_
    have e9 : fX6_ofTank g x w = (0, g 3 x.toNatClampNeg 0) := (by unfold fX6_ofTank; rw [if_pos c1, if_pos c2])
    exact x_reti hx hb hr hC hS (by rw [e9]) rfl (by rw [e9]) hlocks dX6_ofTank_47 (Nat.le_of_ble_eq_true rfl) (Nat.le_of_ble_eq_true rfl)
  by_cases c3 : w = 1
  · refine q_sw (k := 1) c3 ?_
    refine lv_tableIn (x := 1) (off := 41) (tgt := 48) hx hb dX6_ofTank_7 (by decide) (by decide) rfl (by decide) ?_
    refine lv_aload_n hx hb dX6_ofTank_48 rfl (lv_at hl 0 rfl) ?_
    refine gt_3_0 hx hb hts iX6_ofTank_X5 hown hB.1 hC hr_c1 qX6_ofTank_w3 dX6_ofTank_49 ?_
    refine gt_6_3 hx hb hts iX6_ofTank_X4 hown hB.1 hC (by omega) qX6_ofTank_w5 dX6_ofTank_52 ?_
    have e9 : fX6_ofTank g x w = (0, g 3 x.toNatClampNeg 1) := (by unfold fX6_ofTank; rw [if_pos c1, if_neg c2, if_pos c3])
    exact x_reti hx hb hr hC hS (by rw [e9]) rfl (by rw [e9]) hlocks dX6_ofTank_55 (Nat.le_of_ble_eq_true rfl) (Nat.le_of_ble_eq_true rfl)
  by_cases c4 : w = 2
  · refine q_sw (k := 2) c4 ?_
    refine lv_tableIn (x := 2) (off := 49) (tgt := 56) hx hb dX6_ofTank_7 (by decide) (by decide) rfl (by decide) ?_
    refine lv_aload_n hx hb dX6_ofTank_56 rfl (lv_at hl 0 rfl) ?_
    refine gt_3_1 hx hb hts iX6_ofTank_X5 hown hB.1 hC hr_c1 qX6_ofTank_w6 dX6_ofTank_57 ?_
    have e9 : fX6_ofTank g x w = (0, g 3 x.toNatClampNeg 2) := (by unfold fX6_ofTank; rw [if_pos c1, if_neg c2, if_neg c3, if_pos c4])
    exact x_reti hx hb hr hC hS (by rw [e9]) rfl (by rw [e9]) hlocks dX6_ofTank_60 (Nat.le_of_ble_eq_true rfl) (Nat.le_of_ble_eq_true rfl)
  by_cases c5 : w = 3
  · refine q_sw (k := 3) c5 ?_
    refine lv_tableIn (x := 3) (off := 54) (tgt := 61) hx hb dX6_ofTank_7 (by decide) (by decide) rfl (by decide) ?_
    refine lv_aload_n hx hb dX6_ofTank_61 rfl (lv_at hl 0 rfl) ?_
    refine gt_3_2 hx hb hts iX6_ofTank_X5 hown hB.1 hC hr_c1 qX6_ofTank_w7 dX6_ofTank_62 ?_
    have e9 : fX6_ofTank g x w = (0, g 3 x.toNatClampNeg 3) := (by unfold fX6_ofTank; rw [if_pos c1, if_neg c2, if_neg c3, if_neg c4, if_pos c5])
    exact x_reti hx hb hr hC hS (by rw [e9]) rfl (by rw [e9]) hlocks dX6_ofTank_65 (Nat.le_of_ble_eq_true rfl) (Nat.le_of_ble_eq_true rfl)
  by_cases c6 : w = 4
  · refine q_sw (k := 4) c6 ?_
    refine lv_tableIn (x := 4) (off := 59) (tgt := 66) hx hb dX6_ofTank_7 (by decide) (by decide) rfl (by decide) ?_
    refine lv_aload_n hx hb dX6_ofTank_66 rfl (lv_at hl 0 rfl) ?_
    refine gt_3_0 hx hb hts iX6_ofTank_X5 hown hB.1 hC hr_c1 qX6_ofTank_w3 dX6_ofTank_67 ?_
    refine q_callVi (As := []) (κ := 6) (i := x.toNatClampNeg) (show x.toNatClampNeg < 21 from (by omega)) rfl ⟨_, rfl⟩ rfl ⟨hx, hb, hml, hown, hts⟩ (kX4_certifiedKilos l D cy hI g _ x.toNatClampNeg (by omega)  ) (cwV 0 hts gX6_ofTank_X4_certifiedKilos rfl rfl rfl (by decide +kernel) ⟨Nat.le_of_ble_eq_true rfl, Nat.le_of_ble_eq_true rfl⟩) hB hC hS rfl hl.1 (Nat.le_of_ble_eq_true rfl) dX6_ofTank_70 ⟨Nat.le_of_ble_eq_true rfl, Nat.le_of_ble_eq_true rfl⟩ (fun H locs hC hS => ?_)
    have e9 : fX6_ofTank g x w = (0, fX4_certifiedKilos g x.toNatClampNeg) := (by unfold fX6_ofTank; rw [if_pos c1, if_neg c2, if_neg c3, if_neg c4, if_neg c5, if_pos c6])
    exact x_reti hx hb hr hC hS (by rw [e9]) rfl (by rw [e9]) hlocks dX6_ofTank_73 (Nat.le_of_ble_eq_true rfl) (Nat.le_of_ble_eq_true rfl)
  refine lv_tableOut (tgt := 74) hx hb dX6_ofTank_7 (sw_0_4 c2 c3 c4 c5 c6) (by decide) ?_
  exact q_throwW (cdv := 2) (ik := 86) (is := 276) (ic := 90) (cls := "java/lang/IllegalArgumentException") (text := "what is not 0 to 4") hl0 hx hb hown hml hT hlocks hB hC hS hl.1 (by unfold fX6_ofTank; rw [if_pos c1, if_neg c2, if_neg c3, if_neg c4, if_neg c5, if_neg c6]) rfl (by decide) ⟨by decide, by decide⟩ (hts _ qX6_ofTank_w1) (hts _ qX6_ofTank_w2) (List.mem_of_getElem? (i := 18) rfl) (fun w hw => hts w (List.mem_cons_of_mem _ (List.mem_append_left _ (List.mem_append_right _ hw)))) xN_90 xG_90 dX6_ofTank_74 dX6_ofTank_77 dX6_ofTank_78 dX6_ofTank_81 dX6_ofTank_84 ⟨Nat.le_of_ble_eq_true rfl, Nat.le_of_ble_eq_true rfl, Nat.le_of_ble_eq_true rfl, Nat.le_of_ble_eq_true rfl⟩ (Nat.le_of_ble_eq_true rfl) (Nat.le_of_ble_eq_true rfl)
def fX6_ofBed (g : Gd) (x : Int32) (w : Int32) : Nat × Int32 := if (fX6_bedAt g x) = 0 then (if w = 0 then ((0, g 3 (3 + x.toNatClampNeg) 8)) else (if w = 1 then (if (g 3 (3 + x.toNatClampNeg) 9) = 0 then ((0, 0)) else ((0, 1))) else (if w = 2 then ((0, g 3 (3 + x.toNatClampNeg) 0)) else (if w = 3 then ((0, g 3 (3 + x.toNatClampNeg) 4)) else (if w = 4 then ((0, g 3 (3 + x.toNatClampNeg) 5)) else (if w = 5 then ((0, g 3 (3 + x.toNatClampNeg) 6)) else (if w = 6 then ((0, g 3 (3 + x.toNatClampNeg) 7)) else (if w = 7 then ((0, g 3 (3 + x.toNatClampNeg) 3)) else ((2, 0)))))))))) else (((fX6_bedAt g x), 0))
theorem qX6_ofBed_w1 : Cond.classLink RX6 86 "java/lang/IllegalArgumentException" ∈ wsX6_ofBed := List.mem_of_getElem? (i := 1) rfl
theorem qX6_ofBed_w2 : Cond.initialized "java/lang/IllegalArgumentException" ∈ wsX6_ofBed := List.mem_of_getElem? (i := 2) rfl
theorem qX6_ofBed_w3 : Cond.fieldLink RX6 138 "CherryStation$Bed" "area" "I" ∈ wsX6_ofBed := List.mem_of_getElem? (i := 3) rfl
theorem qX6_ofBed_w4 : Cond.fieldLink RX6 205 "CherryStation$Bed" "isCovered" "Z" ∈ wsX6_ofBed := List.mem_of_getElem? (i := 4) rfl
theorem qX6_ofBed_w5 : Cond.fieldLink RX6 190 "CherryStation$Bed" "mix" "LCherryStation$Mix;" ∈ wsX6_ofBed := List.mem_of_getElem? (i := 5) rfl
theorem qX6_ofBed_w6 : Cond.fieldLink RX6 171 "CherryStation$Mix" "kilos" "I" ∈ wsX6_ofBed := List.mem_of_getElem? (i := 6) rfl
theorem qX6_ofBed_w7 : Cond.fieldLink RX6 297 "CherryStation$Bed" "method" "I" ∈ wsX6_ofBed := List.mem_of_getElem? (i := 7) rfl
theorem qX6_ofBed_w8 : Cond.fieldLink RX6 300 "CherryStation$Bed" "moisture" "I" ∈ wsX6_ofBed := List.mem_of_getElem? (i := 8) rfl
theorem qX6_ofBed_w9 : Cond.fieldLink RX6 202 "CherryStation$Bed" "unturned" "I" ∈ wsX6_ofBed := List.mem_of_getElem? (i := 9) rfl
theorem qX6_ofBed_w10 : Cond.fieldLink RX6 303 "CherryStation$Bed" "mould" "I" ∈ wsX6_ofBed := List.mem_of_getElem? (i := 10) rfl
theorem qX6_ofBed_w11 : Cond.fieldLink RX6 306 "CherryStation$Bed" "points" "I" ∈ wsX6_ofBed := List.mem_of_getElem? (i := 11) rfl
theorem iX6_ofBed_X1 : ∀ w ∈ wsX10, w ∈ wsX6_ofBed := fun _ h => (List.mem_cons_of_mem _ (List.mem_append_left _ (List.mem_append_left _ (List.mem_append_left _ (List.mem_append_left _ (List.mem_append_right _ h))))))
theorem iX6_ofBed_X4 : ∀ w ∈ wsX40, w ∈ wsX6_ofBed := fun _ h => (List.mem_cons_of_mem _ (List.mem_append_left _ (List.mem_append_left _ (List.mem_append_left _ (List.mem_append_right _ h)))))
set_option maxRecDepth 100000 in
set_option maxHeartbeats 4000000 in
theorem kX6_ofBed (l : Launch) (D : va_G) (cy : Nat → ClassId) {ad : Nat → Nat → Nat} (hI : cI ad) (hl0 : l.stackTraces = false) (g : Gd) (sz : Nat) (x : Int32) (w : Int32) (hv : IvC g) : vx_Met l yX6_ofBed wsX6_ofBed ({ frames := 7, cells := 2, slots := 12, locals := 103 } : Room) (va_Pc [.ref (ad 0 0), .int x, .int w] (cPre D cy ad g sz)) (cXi D cy ad (fX6_ofBed g x w).1 (fX6_ofBed g x w).2 g sz) (cXC D cy ad (fX6_ofBed g x w).1 g sz) 2 12 (cA ad sz) := by
  refine q_startX (cc := cX6_ofBed) (maxL := 4) (ret := (some .int)) (own := RX6) (by decide) rfl rfl (Nat.le_of_ble_eq_true rfl) ?_
  intro p e s m below meth c hx hb hr hml hts hown hlocks hT ⟨hsz, hC, hB⟩ ls hl
  subst hsz
  have hS : va_S (cA ad s.heap.size) s.heap s.heap [] := va_S.rf
  have hA : ∀ κ i : Nat, cV κ i → cA ad s.heap.size (ad κ i) := fun κ i h => Or.inl ⟨κ, i, h, rfl⟩
  have hl : lv_has ls 4 [(0, .ref (ad 0 0)), (1, .int x), (2, .int w)] := hl
  refine lv_aload_n hx hb dX6_ofBed_0 rfl (lv_at hl 0 rfl) ?_
  refine lv_iload_n hx hb dX6_ofBed_1 rfl (lv_at hl 1 rfl) ?_
  refine x_callVr (As := [.int x]) (κ := 0) (i := 0) rfl rfl ⟨_, rfl⟩ rfl ⟨hx, hb, hml, hown, hts⟩ (kX6_bedAt l D cy hI hl0 g _  x hv) (cwV 1 hts gX6_ofBed_X6_bedAt rfl rfl rfl (by decide +kernel) ⟨Nat.le_of_ble_eq_true rfl, Nat.le_of_ble_eq_true rfl⟩) hB hC hS rfl hl.1 (Nat.le_of_ble_eq_true rfl) dX6_ofBed_2 ⟨Nat.le_of_ble_eq_true rfl, Nat.le_of_ble_eq_true rfl⟩ ⟨Nat.le_of_ble_eq_true rfl, Nat.le_of_ble_eq_true rfl⟩ hT hlocks (fun h => by unfold fX6_ofBed; rw [if_neg h]) (fun c1 H locs hC hS => ?_)
  have hr_c1 : x.toNatClampNeg < 5 := vp_lt (bedAt_in hv c1)
  refine lv_astore_n (lv' := [(3, .ref (ad 4 x.toNatClampNeg)), (0, .ref (ad 0 0)), (1, .int x), (2, .int w)]) hx hb dX6_ofBed_5 rfl hl (by decide) rfl (fun ls hl => ?_)
  refine lv_iload_n hx hb dX6_ofBed_6 rfl (lv_at hl 3 rfl) ?_
  by_cases c2 : w = 0
  · refine q_sw (k := 0) c2 ?_
    refine lv_tableIn (x := 0) (off := 45) (tgt := 52) hx hb dX6_ofBed_7 (by decide) (by decide) rfl (by decide) ?_
    refine lv_aload_n hx hb dX6_ofBed_52 rfl (lv_at hl 0 rfl) ?_
    refine gt_4_1 hx hb hts iX6_ofBed_X1 hown hB.1 hC hr_c1 qX6_ofBed_w3 dX6_ofBed_53 ?_
    have e9 : fX6_ofBed g x w = (0, g 3 (3 + x.toNatClampNeg) 8) := (by unfold fX6_ofBed; rw [if_pos c1, if_pos c2])
    exact x_reti hx hb hr hC hS (by rw [e9]) rfl (by rw [e9]) hlocks dX6_ofBed_56 (Nat.le_of_ble_eq_true rfl) (Nat.le_of_ble_eq_true rfl)
  by_cases c3 : w = 1
  · refine q_sw (k := 1) c3 ?_
    refine lv_tableIn (x := 1) (off := 50) (tgt := 57) hx hb dX6_ofBed_7 (by decide) (by decide) rfl (by decide) ?_
    refine lv_aload_n hx hb dX6_ofBed_57 rfl (lv_at hl 0 rfl) ?_
    refine gt_4_2 hx hb hts iX6_ofBed_X1 hown hB.1 hC hr_c1 qX6_ofBed_w4 dX6_ofBed_58 ?_
    refine lv_if_eq (tgt := 68) hx hb dX6_ofBed_61 (by decide) (fun c4 => ?_) (fun c4 => ?_)
    · skip
      refine lv_iconst (v := 0) hx hb dX6_ofBed_68 (by decide) ?_
      have e9 : fX6_ofBed g x w = (0, 0) := (by unfold fX6_ofBed; rw [if_pos c1, if_neg c2, if_pos c3, if_pos c4])
      exact x_reti hx hb hr hC hS (by rw [e9]) rfl (by rw [e9]) hlocks dX6_ofBed_69 (Nat.le_of_ble_eq_true rfl) (Nat.le_of_ble_eq_true rfl)
    · skip
      refine lv_iconst (v := 1) hx hb dX6_ofBed_64 (by decide) ?_
      refine lv_goto (tgt := 69) hx hb dX6_ofBed_65 (by decide) ?_
      have e9 : fX6_ofBed g x w = (0, 1) := (by unfold fX6_ofBed; rw [if_pos c1, if_neg c2, if_pos c3, if_neg c4])
      exact x_reti hx hb hr hC hS (by rw [e9]) rfl (by rw [e9]) hlocks dX6_ofBed_69 (Nat.le_of_ble_eq_true rfl) (Nat.le_of_ble_eq_true rfl)
  by_cases c5 : w = 2
  · refine q_sw (k := 2) c5 ?_
    refine lv_tableIn (x := 2) (off := 63) (tgt := 70) hx hb dX6_ofBed_7 (by decide) (by decide) rfl (by decide) ?_
    refine lv_aload_n hx hb dX6_ofBed_70 rfl (lv_at hl 0 rfl) ?_
    refine gt_4_0 hx hb hts iX6_ofBed_X1 hown hB.1 hC hr_c1 qX6_ofBed_w5 dX6_ofBed_71 ?_
    refine gt_6_2 hx hb hts iX6_ofBed_X4 hown hB.1 hC (by omega) qX6_ofBed_w6 dX6_ofBed_74 ?_
    have e9 : fX6_ofBed g x w = (0, g 3 (3 + x.toNatClampNeg) 0) := (by unfold fX6_ofBed; rw [if_pos c1, if_neg c2, if_neg c3, if_pos c5])
    exact x_reti hx hb hr hC hS (by rw [e9]) rfl (by rw [e9]) hlocks dX6_ofBed_77 (Nat.le_of_ble_eq_true rfl) (Nat.le_of_ble_eq_true rfl)
  by_cases c6 : w = 3
  · refine q_sw (k := 3) c6 ?_
    refine lv_tableIn (x := 3) (off := 71) (tgt := 78) hx hb dX6_ofBed_7 (by decide) (by decide) rfl (by decide) ?_
    refine lv_aload_n hx hb dX6_ofBed_78 rfl (lv_at hl 0 rfl) ?_
    refine gt_4_3 hx hb hts iX6_ofBed_X1 hown hB.1 hC hr_c1 qX6_ofBed_w7 dX6_ofBed_79 ?_
    have e9 : fX6_ofBed g x w = (0, g 3 (3 + x.toNatClampNeg) 4) := (by unfold fX6_ofBed; rw [if_pos c1, if_neg c2, if_neg c3, if_neg c5, if_pos c6])
    exact x_reti hx hb hr hC hS (by rw [e9]) rfl (by rw [e9]) hlocks dX6_ofBed_82 (Nat.le_of_ble_eq_true rfl) (Nat.le_of_ble_eq_true rfl)
  by_cases c7 : w = 4
  · refine q_sw (k := 4) c7 ?_
    refine lv_tableIn (x := 4) (off := 76) (tgt := 83) hx hb dX6_ofBed_7 (by decide) (by decide) rfl (by decide) ?_
    refine lv_aload_n hx hb dX6_ofBed_83 rfl (lv_at hl 0 rfl) ?_
    refine gt_4_4 hx hb hts iX6_ofBed_X1 hown hB.1 hC hr_c1 qX6_ofBed_w8 dX6_ofBed_84 ?_
    have e9 : fX6_ofBed g x w = (0, g 3 (3 + x.toNatClampNeg) 5) := (by unfold fX6_ofBed; rw [if_pos c1, if_neg c2, if_neg c3, if_neg c5, if_neg c6, if_pos c7])
    exact x_reti hx hb hr hC hS (by rw [e9]) rfl (by rw [e9]) hlocks dX6_ofBed_87 (Nat.le_of_ble_eq_true rfl) (Nat.le_of_ble_eq_true rfl)
  by_cases c8 : w = 5
  · refine q_sw (k := 5) c8 ?_
    refine lv_tableIn (x := 5) (off := 81) (tgt := 88) hx hb dX6_ofBed_7 (by decide) (by decide) rfl (by decide) ?_
    refine lv_aload_n hx hb dX6_ofBed_88 rfl (lv_at hl 0 rfl) ?_
    refine gt_4_5 hx hb hts iX6_ofBed_X1 hown hB.1 hC hr_c1 qX6_ofBed_w9 dX6_ofBed_89 ?_
    have e9 : fX6_ofBed g x w = (0, g 3 (3 + x.toNatClampNeg) 6) := (by unfold fX6_ofBed; rw [if_pos c1, if_neg c2, if_neg c3, if_neg c5, if_neg c6, if_neg c7, if_pos c8])
    exact x_reti hx hb hr hC hS (by rw [e9]) rfl (by rw [e9]) hlocks dX6_ofBed_92 (Nat.le_of_ble_eq_true rfl) (Nat.le_of_ble_eq_true rfl)
  by_cases c9 : w = 6
  · refine q_sw (k := 6) c9 ?_
    refine lv_tableIn (x := 6) (off := 86) (tgt := 93) hx hb dX6_ofBed_7 (by decide) (by decide) rfl (by decide) ?_
    refine lv_aload_n hx hb dX6_ofBed_93 rfl (lv_at hl 0 rfl) ?_
    refine gt_4_6 hx hb hts iX6_ofBed_X1 hown hB.1 hC hr_c1 qX6_ofBed_w10 dX6_ofBed_94 ?_
    have e9 : fX6_ofBed g x w = (0, g 3 (3 + x.toNatClampNeg) 7) := (by unfold fX6_ofBed; rw [if_pos c1, if_neg c2, if_neg c3, if_neg c5, if_neg c6, if_neg c7, if_neg c8, if_pos c9])
    exact x_reti hx hb hr hC hS (by rw [e9]) rfl (by rw [e9]) hlocks dX6_ofBed_97 (Nat.le_of_ble_eq_true rfl) (Nat.le_of_ble_eq_true rfl)
  by_cases c10 : w = 7
  · refine q_sw (k := 7) c10 ?_
    refine lv_tableIn (x := 7) (off := 91) (tgt := 98) hx hb dX6_ofBed_7 (by decide) (by decide) rfl (by decide) ?_
    refine lv_aload_n hx hb dX6_ofBed_98 rfl (lv_at hl 0 rfl) ?_
    refine gt_4_7 hx hb hts iX6_ofBed_X1 hown hB.1 hC hr_c1 qX6_ofBed_w11 dX6_ofBed_99 ?_
    have e9 : fX6_ofBed g x w = (0, g 3 (3 + x.toNatClampNeg) 3) := (by unfold fX6_ofBed; rw [if_pos c1, if_neg c2, if_neg c3, if_neg c5, if_neg c6, if_neg c7, if_neg c8, if_neg c9, if_pos c10])
    exact x_reti hx hb hr hC hS (by rw [e9]) rfl (by rw [e9]) hlocks dX6_ofBed_102 (Nat.le_of_ble_eq_true rfl) (Nat.le_of_ble_eq_true rfl)
  refine lv_tableOut (tgt := 103) hx hb dX6_ofBed_7 (sw_0_7 c2 c3 c5 c6 c7 c8 c9 c10) (by decide) ?_
  exact q_throwW (cdv := 2) (ik := 86) (is := 307) (ic := 90) (cls := "java/lang/IllegalArgumentException") (text := "what is not 0 to 7") hl0 hx hb hown hml hT hlocks hB hC hS hl.1 (by unfold fX6_ofBed; rw [if_pos c1, if_neg c2, if_neg c3, if_neg c5, if_neg c6, if_neg c7, if_neg c8, if_neg c9, if_neg c10]) rfl (by decide) ⟨by decide, by decide⟩ (hts _ qX6_ofBed_w1) (hts _ qX6_ofBed_w2) (List.mem_of_getElem? (i := 20) rfl) (fun w hw => hts w (List.mem_cons_of_mem _ (List.mem_append_left _ (List.mem_append_right _ hw)))) xN_90 xG_90 dX6_ofBed_103 dX6_ofBed_106 dX6_ofBed_107 dX6_ofBed_110 dX6_ofBed_113 ⟨Nat.le_of_ble_eq_true rfl, Nat.le_of_ble_eq_true rfl, Nat.le_of_ble_eq_true rfl, Nat.le_of_ble_eq_true rfl⟩ (Nat.le_of_ble_eq_true rfl) (Nat.le_of_ble_eq_true rfl)
def fX6_ofLot (g : Gd) (x : Int32) (w : Int32) : Nat × Int32 := if (fX6_lotAt g x) = 0 then (if w = 0 then ((0, g 3 (8 + x.toNatClampNeg) 0)) else (if w = 1 then ((0, g 3 (8 + x.toNatClampNeg) 4)) else (if w = 2 then (if (g 3 (8 + x.toNatClampNeg) 10) = 0 then ((0, 0)) else ((0, 1))) else (if w = 3 then ((0, fX4_certifiedKilos g (8 + x.toNatClampNeg))) else (if w = 4 then ((0, g 3 (8 + x.toNatClampNeg) 1)) else (if w = 5 then ((0, g 3 (8 + x.toNatClampNeg) 3)) else (if w = 6 then ((0, g 3 (8 + x.toNatClampNeg) 7)) else (if w = 7 then ((0, g 3 (8 + x.toNatClampNeg) 5)) else (if w = 8 then ((0, g 3 (8 + x.toNatClampNeg) 2)) else (if w = 9 then ((0, fX3_grade g x.toNatClampNeg)) else (if w = 10 then (if (fX4_isEmpty (g 3 (8 + x.toNatClampNeg) 0)) = 0 then ((0, fX3_score g x.toNatClampNeg)) else ((0, 0))) else (if w = 11 then (if (fX4_isEmpty (g 3 (8 + x.toNatClampNeg) 0)) = 0 then ((0, fX3_cause g x.toNatClampNeg)) else ((0, 0))) else ((2, 0)))))))))))))) else (((fX6_lotAt g x), 0))
theorem qX6_ofLot_w1 : Cond.classLink RX6 86 "java/lang/IllegalArgumentException" ∈ wsX6_ofLot := List.mem_of_getElem? (i := 1) rfl
theorem qX6_ofLot_w2 : Cond.initialized "java/lang/IllegalArgumentException" ∈ wsX6_ofLot := List.mem_of_getElem? (i := 2) rfl
theorem qX6_ofLot_w3 : Cond.fieldLink RX6 219 "CherryStation$Lot" "mix" "LCherryStation$Mix;" ∈ wsX6_ofLot := List.mem_of_getElem? (i := 3) rfl
theorem qX6_ofLot_w4 : Cond.fieldLink RX6 171 "CherryStation$Mix" "kilos" "I" ∈ wsX6_ofLot := List.mem_of_getElem? (i := 4) rfl
theorem qX6_ofLot_w5 : Cond.fieldLink RX6 309 "CherryStation$Lot" "method" "I" ∈ wsX6_ofLot := List.mem_of_getElem? (i := 5) rfl
theorem qX6_ofLot_w6 : Cond.fieldLink RX6 231 "CherryStation$Lot" "isInStore" "Z" ∈ wsX6_ofLot := List.mem_of_getElem? (i := 6) rfl
theorem qX6_ofLot_w7 : Cond.fieldLink RX6 292 "CherryStation$Mix" "ripe" "I" ∈ wsX6_ofLot := List.mem_of_getElem? (i := 7) rfl
theorem qX6_ofLot_w8 : Cond.fieldLink RX6 310 "CherryStation$Lot" "points" "I" ∈ wsX6_ofLot := List.mem_of_getElem? (i := 8) rfl
theorem qX6_ofLot_w9 : Cond.fieldLink RX6 311 "CherryStation$Lot" "mould" "I" ∈ wsX6_ofLot := List.mem_of_getElem? (i := 9) rfl
theorem qX6_ofLot_w10 : Cond.fieldLink RX6 312 "CherryStation$Lot" "moisture" "I" ∈ wsX6_ofLot := List.mem_of_getElem? (i := 10) rfl
theorem qX6_ofLot_w11 : Cond.fieldLink RX6 313 "CherryStation$Lot" "age" "I" ∈ wsX6_ofLot := List.mem_of_getElem? (i := 11) rfl
theorem qX6_ofLot_w12 : Cond.fieldLink RX6 11 "CherryStation" "farms" "[LCherryStation$Farm;" ∈ wsX6_ofLot := List.mem_of_getElem? (i := 12) rfl
theorem iX6_ofLot_X3 : ∀ w ∈ wsX30, w ∈ wsX6_ofLot := fun _ h => (List.mem_cons_of_mem _ (List.mem_append_left _ (List.mem_append_left _ (List.mem_append_left _ (List.mem_append_left _ (List.mem_append_left _ (List.mem_append_right _ h)))))))
theorem iX6_ofLot_X4 : ∀ w ∈ wsX40, w ∈ wsX6_ofLot := fun _ h => (List.mem_cons_of_mem _ (List.mem_append_left _ (List.mem_append_left _ (List.mem_append_left _ (List.mem_append_left _ (List.mem_append_right _ h))))))
theorem iX6_ofLot_X6 : ∀ w ∈ wsX60, w ∈ wsX6_ofLot := fun _ h => (List.mem_cons_of_mem _ (List.mem_append_left _ (List.mem_append_left _ (List.mem_append_left _ (List.mem_append_right _ h)))))
set_option maxRecDepth 100000 in
set_option maxHeartbeats 4000000 in
theorem kX6_ofLot (l : Launch) (D : va_G) (cy : Nat → ClassId) {ad : Nat → Nat → Nat} (hI : cI ad) (hl0 : l.stackTraces = false) (g : Gd) (sz : Nat) (x : Int32) (w : Int32) (hv : IvC g) : vx_Met l yX6_ofLot wsX6_ofLot ({ frames := 7, cells := 2, slots := 12, locals := 103 } : Room) (va_Pc [.ref (ad 0 0), .int x, .int w] (cPre D cy ad g sz)) (cXi D cy ad (fX6_ofLot g x w).1 (fX6_ofLot g x w).2 g sz) (cXC D cy ad (fX6_ofLot g x w).1 g sz) 2 12 (cA ad sz) := by
  refine q_startX (cc := cX6_ofLot) (maxL := 4) (ret := (some .int)) (own := RX6) (by decide) rfl rfl (Nat.le_of_ble_eq_true rfl) ?_
  intro p e s m below meth c hx hb hr hml hts hown hlocks hT ⟨hsz, hC, hB⟩ ls hl
  subst hsz
  have hS : va_S (cA ad s.heap.size) s.heap s.heap [] := va_S.rf
  have hA : ∀ κ i : Nat, cV κ i → cA ad s.heap.size (ad κ i) := fun κ i h => Or.inl ⟨κ, i, h, rfl⟩
  have hl : lv_has ls 4 [(0, .ref (ad 0 0)), (1, .int x), (2, .int w)] := hl
  refine lv_aload_n hx hb dX6_ofLot_0 rfl (lv_at hl 0 rfl) ?_
  refine lv_iload_n hx hb dX6_ofLot_1 rfl (lv_at hl 1 rfl) ?_
  refine x_callVr (As := [.int x]) (κ := 0) (i := 0) rfl rfl ⟨_, rfl⟩ rfl ⟨hx, hb, hml, hown, hts⟩ (kX6_lotAt l D cy hI hl0 g _  x hv) (cwV 1 hts gX6_ofLot_X6_lotAt rfl rfl rfl (by decide +kernel) ⟨Nat.le_of_ble_eq_true rfl, Nat.le_of_ble_eq_true rfl⟩) hB hC hS rfl hl.1 (Nat.le_of_ble_eq_true rfl) dX6_ofLot_2 ⟨Nat.le_of_ble_eq_true rfl, Nat.le_of_ble_eq_true rfl⟩ ⟨Nat.le_of_ble_eq_true rfl, Nat.le_of_ble_eq_true rfl⟩ hT hlocks (fun h => by unfold fX6_ofLot; rw [if_neg h]) (fun c1 H locs hC hS => ?_)
  have hr_c1 : x.toNatClampNeg < 12 := vp_lt (lotAt_in hv c1)
  refine lv_astore_n (lv' := [(3, .ref (ad 5 x.toNatClampNeg)), (0, .ref (ad 0 0)), (1, .int x), (2, .int w)]) hx hb dX6_ofLot_5 rfl hl (by decide) rfl (fun ls hl => ?_)
  refine lv_iload_n hx hb dX6_ofLot_6 rfl (lv_at hl 3 rfl) ?_
  by_cases c2 : w = 0
  · refine q_sw (k := 0) c2 ?_
    refine lv_tableIn (x := 0) (off := 61) (tgt := 68) hx hb dX6_ofLot_7 (by decide) (by decide) rfl (by decide) ?_
    refine lv_aload_n hx hb dX6_ofLot_68 rfl (lv_at hl 0 rfl) ?_
    refine gt_5_0 hx hb hts iX6_ofLot_X3 hown hB.1 hC (by omega) qX6_ofLot_w3 dX6_ofLot_69 ?_
    refine gt_6_2 hx hb hts iX6_ofLot_X4 hown hB.1 hC (by omega) qX6_ofLot_w4 dX6_ofLot_72 ?_
    have e9 : fX6_ofLot g x w = (0, g 3 (8 + x.toNatClampNeg) 0) := (by unfold fX6_ofLot; rw [if_pos c1, if_pos c2])
    exact x_reti hx hb hr hC hS (by rw [e9]) rfl (by rw [e9]) hlocks dX6_ofLot_75 (Nat.le_of_ble_eq_true rfl) (Nat.le_of_ble_eq_true rfl)
  by_cases c3 : w = 1
  · refine q_sw (k := 1) c3 ?_
    refine lv_tableIn (x := 1) (off := 69) (tgt := 76) hx hb dX6_ofLot_7 (by decide) (by decide) rfl (by decide) ?_
    refine lv_aload_n hx hb dX6_ofLot_76 rfl (lv_at hl 0 rfl) ?_
    refine gt_5_3 hx hb hts iX6_ofLot_X3 hown hB.1 hC (by omega) qX6_ofLot_w5 dX6_ofLot_77 ?_
    have e9 : fX6_ofLot g x w = (0, g 3 (8 + x.toNatClampNeg) 4) := (by unfold fX6_ofLot; rw [if_pos c1, if_neg c2, if_pos c3])
    exact x_reti hx hb hr hC hS (by rw [e9]) rfl (by rw [e9]) hlocks dX6_ofLot_80 (Nat.le_of_ble_eq_true rfl) (Nat.le_of_ble_eq_true rfl)
  by_cases c4 : w = 2
  · refine q_sw (k := 2) c4 ?_
    refine lv_tableIn (x := 2) (off := 74) (tgt := 81) hx hb dX6_ofLot_7 (by decide) (by decide) rfl (by decide) ?_
    refine lv_aload_n hx hb dX6_ofLot_81 rfl (lv_at hl 0 rfl) ?_
    refine gt_5_2 hx hb hts iX6_ofLot_X3 hown hB.1 hC (by omega) qX6_ofLot_w6 dX6_ofLot_82 ?_
    refine lv_if_eq (tgt := 92) hx hb dX6_ofLot_85 (by decide) (fun c5 => ?_) (fun c5 => ?_)
    · skip
      refine lv_iconst (v := 0) hx hb dX6_ofLot_92 (by decide) ?_
      have e9 : fX6_ofLot g x w = (0, 0) := (by unfold fX6_ofLot; rw [if_pos c1, if_neg c2, if_neg c3, if_pos c4, if_pos c5])
      exact x_reti hx hb hr hC hS (by rw [e9]) rfl (by rw [e9]) hlocks dX6_ofLot_93 (Nat.le_of_ble_eq_true rfl) (Nat.le_of_ble_eq_true rfl)
    · skip
      refine lv_iconst (v := 1) hx hb dX6_ofLot_88 (by decide) ?_
      refine lv_goto (tgt := 93) hx hb dX6_ofLot_89 (by decide) ?_
      have e9 : fX6_ofLot g x w = (0, 1) := (by unfold fX6_ofLot; rw [if_pos c1, if_neg c2, if_neg c3, if_pos c4, if_neg c5])
      exact x_reti hx hb hr hC hS (by rw [e9]) rfl (by rw [e9]) hlocks dX6_ofLot_93 (Nat.le_of_ble_eq_true rfl) (Nat.le_of_ble_eq_true rfl)
  by_cases c6 : w = 3
  · refine q_sw (k := 3) c6 ?_
    refine lv_tableIn (x := 3) (off := 87) (tgt := 94) hx hb dX6_ofLot_7 (by decide) (by decide) rfl (by decide) ?_
    refine lv_aload_n hx hb dX6_ofLot_94 rfl (lv_at hl 0 rfl) ?_
    refine gt_5_0 hx hb hts iX6_ofLot_X3 hown hB.1 hC (by omega) qX6_ofLot_w3 dX6_ofLot_95 ?_
    refine q_callVi (As := []) (κ := 6) (i := 8 + x.toNatClampNeg) (show (8 + x.toNatClampNeg) < 21 from (by omega)) rfl ⟨_, rfl⟩ rfl ⟨hx, hb, hml, hown, hts⟩ (kX4_certifiedKilos l D cy hI g _ (8 + x.toNatClampNeg) (by omega)  ) (cwV 0 hts gX6_ofLot_X4_certifiedKilos rfl rfl rfl (by decide +kernel) ⟨Nat.le_of_ble_eq_true rfl, Nat.le_of_ble_eq_true rfl⟩) hB hC hS rfl hl.1 (Nat.le_of_ble_eq_true rfl) dX6_ofLot_98 ⟨Nat.le_of_ble_eq_true rfl, Nat.le_of_ble_eq_true rfl⟩ (fun H locs hC hS => ?_)
    have e9 : fX6_ofLot g x w = (0, fX4_certifiedKilos g (8 + x.toNatClampNeg)) := (by unfold fX6_ofLot; rw [if_pos c1, if_neg c2, if_neg c3, if_neg c4, if_pos c6])
    exact x_reti hx hb hr hC hS (by rw [e9]) rfl (by rw [e9]) hlocks dX6_ofLot_101 (Nat.le_of_ble_eq_true rfl) (Nat.le_of_ble_eq_true rfl)
  by_cases c7 : w = 4
  · refine q_sw (k := 4) c7 ?_
    refine lv_tableIn (x := 4) (off := 95) (tgt := 102) hx hb dX6_ofLot_7 (by decide) (by decide) rfl (by decide) ?_
    refine lv_aload_n hx hb dX6_ofLot_102 rfl (lv_at hl 0 rfl) ?_
    refine gt_5_0 hx hb hts iX6_ofLot_X3 hown hB.1 hC (by omega) qX6_ofLot_w3 dX6_ofLot_103 ?_
    refine gt_6_3 hx hb hts iX6_ofLot_X4 hown hB.1 hC (by omega) qX6_ofLot_w7 dX6_ofLot_106 ?_
    have e9 : fX6_ofLot g x w = (0, g 3 (8 + x.toNatClampNeg) 1) := (by unfold fX6_ofLot; rw [if_pos c1, if_neg c2, if_neg c3, if_neg c4, if_neg c6, if_pos c7])
    exact x_reti hx hb hr hC hS (by rw [e9]) rfl (by rw [e9]) hlocks dX6_ofLot_109 (Nat.le_of_ble_eq_true rfl) (Nat.le_of_ble_eq_true rfl)
  by_cases c8 : w = 5
  · refine q_sw (k := 5) c8 ?_
    refine lv_tableIn (x := 5) (off := 103) (tgt := 110) hx hb dX6_ofLot_7 (by decide) (by decide) rfl (by decide) ?_
    refine lv_aload_n hx hb dX6_ofLot_110 rfl (lv_at hl 0 rfl) ?_
    refine gt_5_4 hx hb hts iX6_ofLot_X3 hown hB.1 hC (by omega) qX6_ofLot_w8 dX6_ofLot_111 ?_
    have e9 : fX6_ofLot g x w = (0, g 3 (8 + x.toNatClampNeg) 3) := (by unfold fX6_ofLot; rw [if_pos c1, if_neg c2, if_neg c3, if_neg c4, if_neg c6, if_neg c7, if_pos c8])
    exact x_reti hx hb hr hC hS (by rw [e9]) rfl (by rw [e9]) hlocks dX6_ofLot_114 (Nat.le_of_ble_eq_true rfl) (Nat.le_of_ble_eq_true rfl)
  by_cases c9 : w = 6
  · refine q_sw (k := 6) c9 ?_
    refine lv_tableIn (x := 6) (off := 108) (tgt := 115) hx hb dX6_ofLot_7 (by decide) (by decide) rfl (by decide) ?_
    refine lv_aload_n hx hb dX6_ofLot_115 rfl (lv_at hl 0 rfl) ?_
    refine gt_5_5 hx hb hts iX6_ofLot_X3 hown hB.1 hC (by omega) qX6_ofLot_w9 dX6_ofLot_116 ?_
    have e9 : fX6_ofLot g x w = (0, g 3 (8 + x.toNatClampNeg) 7) := (by unfold fX6_ofLot; rw [if_pos c1, if_neg c2, if_neg c3, if_neg c4, if_neg c6, if_neg c7, if_neg c8, if_pos c9])
    exact x_reti hx hb hr hC hS (by rw [e9]) rfl (by rw [e9]) hlocks dX6_ofLot_119 (Nat.le_of_ble_eq_true rfl) (Nat.le_of_ble_eq_true rfl)
  by_cases c10 : w = 7
  · refine q_sw (k := 7) c10 ?_
    refine lv_tableIn (x := 7) (off := 113) (tgt := 120) hx hb dX6_ofLot_7 (by decide) (by decide) rfl (by decide) ?_
    refine lv_aload_n hx hb dX6_ofLot_120 rfl (lv_at hl 0 rfl) ?_
    refine gt_5_6 hx hb hts iX6_ofLot_X3 hown hB.1 hC (by omega) qX6_ofLot_w10 dX6_ofLot_121 ?_
    have e9 : fX6_ofLot g x w = (0, g 3 (8 + x.toNatClampNeg) 5) := (by unfold fX6_ofLot; rw [if_pos c1, if_neg c2, if_neg c3, if_neg c4, if_neg c6, if_neg c7, if_neg c8, if_neg c9, if_pos c10])
    exact x_reti hx hb hr hC hS (by rw [e9]) rfl (by rw [e9]) hlocks dX6_ofLot_124 (Nat.le_of_ble_eq_true rfl) (Nat.le_of_ble_eq_true rfl)
  by_cases c11 : w = 8
  · refine q_sw (k := 8) c11 ?_
    refine lv_tableIn (x := 8) (off := 118) (tgt := 125) hx hb dX6_ofLot_7 (by decide) (by decide) rfl (by decide) ?_
    refine lv_aload_n hx hb dX6_ofLot_125 rfl (lv_at hl 0 rfl) ?_
    refine gt_5_7 hx hb hts iX6_ofLot_X3 hown hB.1 hC (by omega) qX6_ofLot_w11 dX6_ofLot_126 ?_
    have e9 : fX6_ofLot g x w = (0, g 3 (8 + x.toNatClampNeg) 2) := (by unfold fX6_ofLot; rw [if_pos c1, if_neg c2, if_neg c3, if_neg c4, if_neg c6, if_neg c7, if_neg c8, if_neg c9, if_neg c10, if_pos c11])
    exact x_reti hx hb hr hC hS (by rw [e9]) rfl (by rw [e9]) hlocks dX6_ofLot_129 (Nat.le_of_ble_eq_true rfl) (Nat.le_of_ble_eq_true rfl)
  by_cases c12 : w = 9
  · refine q_sw (k := 9) c12 ?_
    refine lv_tableIn (x := 9) (off := 123) (tgt := 130) hx hb dX6_ofLot_7 (by decide) (by decide) rfl (by decide) ?_
    refine lv_aload_n hx hb dX6_ofLot_130 rfl (lv_at hl 0 rfl) ?_
    refine q_callVi (As := []) (κ := 5) (i := x.toNatClampNeg) (show x.toNatClampNeg < 13 from (by omega)) rfl ⟨_, rfl⟩ rfl ⟨hx, hb, hml, hown, hts⟩ (kX3_grade l D cy hI g _ x.toNatClampNeg (by omega)  ) (cwV 0 hts gX6_ofLot_X3_grade rfl rfl rfl (by decide +kernel) ⟨Nat.le_of_ble_eq_true rfl, Nat.le_of_ble_eq_true rfl⟩) hB hC hS rfl hl.1 (Nat.le_of_ble_eq_true rfl) dX6_ofLot_131 ⟨Nat.le_of_ble_eq_true rfl, Nat.le_of_ble_eq_true rfl⟩ (fun H locs hC hS => ?_)
    have e9 : fX6_ofLot g x w = (0, fX3_grade g x.toNatClampNeg) := (by unfold fX6_ofLot; rw [if_pos c1, if_neg c2, if_neg c3, if_neg c4, if_neg c6, if_neg c7, if_neg c8, if_neg c9, if_neg c10, if_neg c11, if_pos c12])
    exact x_reti hx hb hr hC hS (by rw [e9]) rfl (by rw [e9]) hlocks dX6_ofLot_134 (Nat.le_of_ble_eq_true rfl) (Nat.le_of_ble_eq_true rfl)
  by_cases c13 : w = 10
  · refine q_sw (k := 10) c13 ?_
    refine lv_tableIn (x := 10) (off := 128) (tgt := 135) hx hb dX6_ofLot_7 (by decide) (by decide) rfl (by decide) ?_
    refine lv_aload_n hx hb dX6_ofLot_135 rfl (lv_at hl 0 rfl) ?_
    refine gt_5_0 hx hb hts iX6_ofLot_X3 hown hB.1 hC (by omega) qX6_ofLot_w3 dX6_ofLot_136 ?_
    refine q_callVi (As := []) (κ := 6) (i := 8 + x.toNatClampNeg) (show (8 + x.toNatClampNeg) < 21 from (by omega)) rfl ⟨_, rfl⟩ rfl ⟨hx, hb, hml, hown, hts⟩ (kX4_isEmpty l D cy hI g _ (8 + x.toNatClampNeg) (by omega)  ) (cwV 0 hts gX6_ofLot_X4_isEmpty rfl rfl rfl (by decide +kernel) ⟨Nat.le_of_ble_eq_true rfl, Nat.le_of_ble_eq_true rfl⟩) hB hC hS rfl hl.1 (Nat.le_of_ble_eq_true rfl) dX6_ofLot_139 ⟨Nat.le_of_ble_eq_true rfl, Nat.le_of_ble_eq_true rfl⟩ (fun H locs hC hS => ?_)
    refine lv_if_eq (tgt := 149) hx hb dX6_ofLot_142 (by decide) (fun c14 => ?_) (fun c14 => ?_)
    · skip
      refine lv_aload_n hx hb dX6_ofLot_149 rfl (lv_at hl 0 rfl) ?_
      refine lv_aload_n hx hb dX6_ofLot_150 rfl (lv_at hl 1 rfl) ?_
      refine gt_0_0 hx hb hts iX6_ofLot_X6 hown hB.1 hC qX6_ofLot_w12 dX6_ofLot_151 ?_
      refine q_callVi (As := [.ref (ad 10 0)]) (κ := 5) (i := x.toNatClampNeg) (show x.toNatClampNeg < 13 from (by omega)) rfl ⟨_, rfl⟩ rfl ⟨hx, hb, hml, hown, hts⟩ (kX3_score l D cy hI g _ x.toNatClampNeg (by omega)  ) (cwV 1 hts gX6_ofLot_X3_score rfl rfl rfl (by decide +kernel) ⟨Nat.le_of_ble_eq_true rfl, Nat.le_of_ble_eq_true rfl⟩) hB hC hS rfl hl.1 (Nat.le_of_ble_eq_true rfl) dX6_ofLot_154 ⟨Nat.le_of_ble_eq_true rfl, Nat.le_of_ble_eq_true rfl⟩ (fun H locs hC hS => ?_)
      have e9 : fX6_ofLot g x w = (0, fX3_score g x.toNatClampNeg) := (by unfold fX6_ofLot; rw [if_pos c1, if_neg c2, if_neg c3, if_neg c4, if_neg c6, if_neg c7, if_neg c8, if_neg c9, if_neg c10, if_neg c11, if_neg c12, if_pos c13, if_pos c14])
      exact x_reti hx hb hr hC hS (by rw [e9]) rfl (by rw [e9]) hlocks dX6_ofLot_157 (Nat.le_of_ble_eq_true rfl) (Nat.le_of_ble_eq_true rfl)
    · skip
      refine lv_iconst (v := 0) hx hb dX6_ofLot_145 (by decide) ?_
      refine lv_goto (tgt := 157) hx hb dX6_ofLot_146 (by decide) ?_
      have e9 : fX6_ofLot g x w = (0, 0) := (by unfold fX6_ofLot; rw [if_pos c1, if_neg c2, if_neg c3, if_neg c4, if_neg c6, if_neg c7, if_neg c8, if_neg c9, if_neg c10, if_neg c11, if_neg c12, if_pos c13, if_neg c14])
      exact x_reti hx hb hr hC hS (by rw [e9]) rfl (by rw [e9]) hlocks dX6_ofLot_157 (Nat.le_of_ble_eq_true rfl) (Nat.le_of_ble_eq_true rfl)
  by_cases c15 : w = 11
  · refine q_sw (k := 11) c15 ?_
    refine lv_tableIn (x := 11) (off := 151) (tgt := 158) hx hb dX6_ofLot_7 (by decide) (by decide) rfl (by decide) ?_
    refine lv_aload_n hx hb dX6_ofLot_158 rfl (lv_at hl 0 rfl) ?_
    refine gt_5_0 hx hb hts iX6_ofLot_X3 hown hB.1 hC (by omega) qX6_ofLot_w3 dX6_ofLot_159 ?_
    refine q_callVi (As := []) (κ := 6) (i := 8 + x.toNatClampNeg) (show (8 + x.toNatClampNeg) < 21 from (by omega)) rfl ⟨_, rfl⟩ rfl ⟨hx, hb, hml, hown, hts⟩ (kX4_isEmpty l D cy hI g _ (8 + x.toNatClampNeg) (by omega)  ) (cwV 0 hts gX6_ofLot_X4_isEmpty rfl rfl rfl (by decide +kernel) ⟨Nat.le_of_ble_eq_true rfl, Nat.le_of_ble_eq_true rfl⟩) hB hC hS rfl hl.1 (Nat.le_of_ble_eq_true rfl) dX6_ofLot_162 ⟨Nat.le_of_ble_eq_true rfl, Nat.le_of_ble_eq_true rfl⟩ (fun H locs hC hS => ?_)
    refine lv_if_eq (tgt := 172) hx hb dX6_ofLot_165 (by decide) (fun c16 => ?_) (fun c16 => ?_)
    · skip
      refine lv_aload_n hx hb dX6_ofLot_172 rfl (lv_at hl 0 rfl) ?_
      refine q_callVi (As := []) (κ := 5) (i := x.toNatClampNeg) (show x.toNatClampNeg < 13 from (by omega)) rfl ⟨_, rfl⟩ rfl ⟨hx, hb, hml, hown, hts⟩ (kX3_cause l D cy hI g _ x.toNatClampNeg (by omega)  ) (cwV 0 hts gX6_ofLot_X3_cause rfl rfl rfl (by decide +kernel) ⟨Nat.le_of_ble_eq_true rfl, Nat.le_of_ble_eq_true rfl⟩) hB hC hS rfl hl.1 (Nat.le_of_ble_eq_true rfl) dX6_ofLot_173 ⟨Nat.le_of_ble_eq_true rfl, Nat.le_of_ble_eq_true rfl⟩ (fun H locs hC hS => ?_)
      have e9 : fX6_ofLot g x w = (0, fX3_cause g x.toNatClampNeg) := (by unfold fX6_ofLot; rw [if_pos c1, if_neg c2, if_neg c3, if_neg c4, if_neg c6, if_neg c7, if_neg c8, if_neg c9, if_neg c10, if_neg c11, if_neg c12, if_neg c13, if_pos c15, if_pos c16])
      exact x_reti hx hb hr hC hS (by rw [e9]) rfl (by rw [e9]) hlocks dX6_ofLot_176 (Nat.le_of_ble_eq_true rfl) (Nat.le_of_ble_eq_true rfl)
    · skip
      refine lv_iconst (v := 0) hx hb dX6_ofLot_168 (by decide) ?_
      refine lv_goto (tgt := 176) hx hb dX6_ofLot_169 (by decide) ?_
      have e9 : fX6_ofLot g x w = (0, 0) := (by unfold fX6_ofLot; rw [if_pos c1, if_neg c2, if_neg c3, if_neg c4, if_neg c6, if_neg c7, if_neg c8, if_neg c9, if_neg c10, if_neg c11, if_neg c12, if_neg c13, if_pos c15, if_neg c16])
      exact x_reti hx hb hr hC hS (by rw [e9]) rfl (by rw [e9]) hlocks dX6_ofLot_176 (Nat.le_of_ble_eq_true rfl) (Nat.le_of_ble_eq_true rfl)
  refine lv_tableOut (tgt := 177) hx hb dX6_ofLot_7 (sw_0_11 c2 c3 c4 c6 c7 c8 c9 c10 c11 c12 c13 c15) (by decide) ?_
  exact q_throwW (cdv := 2) (ik := 86) (is := 320) (ic := 90) (cls := "java/lang/IllegalArgumentException") (text := "what is not 0 to 11") hl0 hx hb hown hml hT hlocks hB hC hS hl.1 (by unfold fX6_ofLot; rw [if_pos c1, if_neg c2, if_neg c3, if_neg c4, if_neg c6, if_neg c7, if_neg c8, if_neg c9, if_neg c10, if_neg c11, if_neg c12, if_neg c13, if_neg c15]) rfl (by decide) ⟨by decide, by decide⟩ (hts _ qX6_ofLot_w1) (hts _ qX6_ofLot_w2) (List.mem_of_getElem? (i := 21) rfl) (fun w hw => hts w (List.mem_cons_of_mem _ (List.mem_append_left _ (List.mem_append_right _ hw)))) xN_90 xG_90 dX6_ofLot_177 dX6_ofLot_180 dX6_ofLot_181 dX6_ofLot_184 dX6_ofLot_187 ⟨Nat.le_of_ble_eq_true rfl, Nat.le_of_ble_eq_true rfl, Nat.le_of_ble_eq_true rfl, Nat.le_of_ble_eq_true rfl⟩ (Nat.le_of_ble_eq_true rfl) (Nat.le_of_ble_eq_true rfl)
def fX6_kilosOf (g : Gd) (x : Int32) (f : Int32) : Nat × Int32 := if (fX6_lotAt g x) = 0 then (if (fX6_needFarm g f) = 0 then ((0, g 4 (8 + x.toNatClampNeg) f.toNatClampNeg)) else (((fX6_needFarm g f), 0))) else (((fX6_lotAt g x), 0))
theorem qX6_kilosOf_w1 : Cond.fieldLink RX6 219 "CherryStation$Lot" "mix" "LCherryStation$Mix;" ∈ wsX6_kilosOf := List.mem_of_getElem? (i := 1) rfl
theorem qX6_kilosOf_w2 : Cond.fieldLink RX6 325 "CherryStation$Mix" "kilosBy" "[I" ∈ wsX6_kilosOf := List.mem_of_getElem? (i := 2) rfl
theorem iX6_kilosOf_X3 : ∀ w ∈ wsX30, w ∈ wsX6_kilosOf := fun _ h => (List.mem_cons_of_mem _ (List.mem_append_left _ (List.mem_append_left _ (List.mem_append_left _ (List.mem_append_right _ h)))))
theorem iX6_kilosOf_X4 : ∀ w ∈ wsX40, w ∈ wsX6_kilosOf := fun _ h => (List.mem_cons_of_mem _ (List.mem_append_left _ (List.mem_append_left _ (List.mem_append_right _ h))))
set_option maxRecDepth 100000 in
set_option maxHeartbeats 4000000 in
theorem kX6_kilosOf (l : Launch) (D : va_G) (cy : Nat → ClassId) {ad : Nat → Nat → Nat} (hI : cI ad) (hl0 : l.stackTraces = false) (g : Gd) (sz : Nat) (x : Int32) (f : Int32) (hv : IvC g) : vx_Met l yX6_kilosOf wsX6_kilosOf ({ frames := 7, cells := 2, slots := 12, locals := 103 } : Room) (va_Pc [.ref (ad 0 0), .int x, .int f] (cPre D cy ad g sz)) (cXi D cy ad (fX6_kilosOf g x f).1 (fX6_kilosOf g x f).2 g sz) (cXC D cy ad (fX6_kilosOf g x f).1 g sz) 2 12 (cA ad sz) := by
  refine q_startX (cc := cX6_kilosOf) (maxL := 4) (ret := (some .int)) (own := RX6) (by decide) rfl rfl (Nat.le_of_ble_eq_true rfl) ?_
  intro p e s m below meth c hx hb hr hml hts hown hlocks hT ⟨hsz, hC, hB⟩ ls hl
  subst hsz
  have hS : va_S (cA ad s.heap.size) s.heap s.heap [] := va_S.rf
  have hA : ∀ κ i : Nat, cV κ i → cA ad s.heap.size (ad κ i) := fun κ i h => Or.inl ⟨κ, i, h, rfl⟩
  have hl : lv_has ls 4 [(0, .ref (ad 0 0)), (1, .int x), (2, .int f)] := hl
  refine lv_aload_n hx hb dX6_kilosOf_0 rfl (lv_at hl 0 rfl) ?_
  refine lv_iload_n hx hb dX6_kilosOf_1 rfl (lv_at hl 1 rfl) ?_
  refine x_callVr (As := [.int x]) (κ := 0) (i := 0) rfl rfl ⟨_, rfl⟩ rfl ⟨hx, hb, hml, hown, hts⟩ (kX6_lotAt l D cy hI hl0 g _  x hv) (cwV 1 hts gX6_kilosOf_X6_lotAt rfl rfl rfl (by decide +kernel) ⟨Nat.le_of_ble_eq_true rfl, Nat.le_of_ble_eq_true rfl⟩) hB hC hS rfl hl.1 (Nat.le_of_ble_eq_true rfl) dX6_kilosOf_2 ⟨Nat.le_of_ble_eq_true rfl, Nat.le_of_ble_eq_true rfl⟩ ⟨Nat.le_of_ble_eq_true rfl, Nat.le_of_ble_eq_true rfl⟩ hT hlocks (fun h => by unfold fX6_kilosOf; rw [if_neg h]) (fun c1 H locs hC hS => ?_)
  have hr_c1 : x.toNatClampNeg < 12 := vp_lt (lotAt_in hv c1)
  refine lv_astore_n (lv' := [(3, .ref (ad 5 x.toNatClampNeg)), (0, .ref (ad 0 0)), (1, .int x), (2, .int f)]) hx hb dX6_kilosOf_5 rfl hl (by decide) rfl (fun ls hl => ?_)
  refine lv_aload_n hx hb dX6_kilosOf_6 rfl (lv_at hl 1 rfl) ?_
  refine lv_iload_n hx hb dX6_kilosOf_7 rfl (lv_at hl 3 rfl) ?_
  refine x_callVv (As := [.int f]) (κ := 0) (i := 0) rfl rfl ⟨_, rfl⟩ rfl ⟨hx, hb, hml, hown, hts⟩ (kX6_needFarm l D cy hI hl0 g _  f ) (cwV 1 hts gX6_kilosOf_X6_needFarm rfl rfl rfl (by decide +kernel) ⟨Nat.le_of_ble_eq_true rfl, Nat.le_of_ble_eq_true rfl⟩) hB hC hS rfl hl.1 (Nat.le_of_ble_eq_true rfl) dX6_kilosOf_8 ⟨Nat.le_of_ble_eq_true rfl, Nat.le_of_ble_eq_true rfl⟩ ⟨Nat.le_of_ble_eq_true rfl, Nat.le_of_ble_eq_true rfl⟩ hT hlocks (fun h => by unfold fX6_kilosOf; rw [if_pos c1, if_neg h]) (fun c2 H locs hC hS => ?_)
  refine lv_aload_n hx hb dX6_kilosOf_11 rfl (lv_at hl 0 rfl) ?_
  refine gt_5_0 hx hb hts iX6_kilosOf_X3 hown hB.1 hC (by omega) qX6_kilosOf_w1 dX6_kilosOf_12 ?_
  refine gt_6_0 hx hb hts iX6_kilosOf_X4 hown hB.1 hC (by omega) qX6_kilosOf_w2 dX6_kilosOf_15 ?_
  refine lv_iload_n hx hb dX6_kilosOf_18 rfl (lv_at hl 3 rfl) ?_
  refine ld_7 hx hb hB.1 hC (by omega) (k := f.toNatClampNeg) rfl (needFarm_in hv c2) dX6_kilosOf_19 ?_
  have e9 : fX6_kilosOf g x f = (0, g 4 (8 + x.toNatClampNeg) f.toNatClampNeg) := (by unfold fX6_kilosOf; rw [if_pos c1, if_pos c2])
  exact x_reti hx hb hr hC hS (by rw [e9]) rfl (by rw [e9]) hlocks dX6_kilosOf_20 (Nat.le_of_ble_eq_true rfl) (Nat.le_of_ble_eq_true rfl)
