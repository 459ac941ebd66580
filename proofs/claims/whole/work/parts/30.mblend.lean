def fX7_blend (na nb nc nd T : Nat) (g : Md) (x : Int32) (y : Int32) : Int32 × Md := if (fX7_isLot na nb nc nd T (u2 g 0 20 0) x) = 0 then (((fX7_refuse na nb nc nd T (u2 g 0 20 0) 1).1, (fX7_refuse na nb nc nd T (u2 g 0 20 0) 1).2)) else (if (fX7_isLot na nb nc nd T (u2 g 0 20 0) y) = 0 then (((fX7_refuse na nb nc nd T (u2 g 0 20 0) 1).1, (fX7_refuse na nb nc nd T (u2 g 0 20 0) 1).2)) else (if x = y then (((fX7_refuse na nb nc nd T (u2 g 0 20 0) 2).1, (fX7_refuse na nb nc nd T (u2 g 0 20 0) 2).2)) else (if (fX7_canBlend na nb nc nd T (u2 g 0 20 0) (308 + x.toNatClampNeg) (308 + y.toNatClampNeg)) = 0 then (((fX7_refuse na nb nc nd T (u2 g 0 20 0) 3).1, (fX7_refuse na nb nc nd T (u2 g 0 20 0) 3).2)) else (((u2 (u2 (u2 (u2 (u2 (u2 (u2 (u2 (u2 (u2 (u2 (u2 (u2 (u2 (u2 (fX7_forget na nb nc nd T (fX7_forget na nb nc nd T (rz (fX7_blendOf na nb nc nd T (u2 g 0 20 0) (308 + x.toNatClampNeg) (308 + y.toNatClampNeg)) (308 + x.toNatClampNeg) (fun j => (fX7_blendOf na nb nc nd T (u2 g 0 20 0) (308 + x.toNatClampNeg) (308 + y.toNatClampNeg)) (400 + T) j)) x) y) (308 + y.toNatClampNeg) 0 0) (308 + y.toNatClampNeg) 1 0) (308 + y.toNatClampNeg) 10 0) (308 + y.toNatClampNeg) 11 0) (308 + y.toNatClampNeg) 12 0) (308 + y.toNatClampNeg) 13 0) (308 + y.toNatClampNeg) 14 0) (308 + y.toNatClampNeg) 15 0) (308 + y.toNatClampNeg) 16 0) (308 + y.toNatClampNeg) 17 0) (308 + y.toNatClampNeg) 18 0) (308 + y.toNatClampNeg) 19 0) (308 + y.toNatClampNeg) 20 0) (308 + y.toNatClampNeg) 21 0) (308 + y.toNatClampNeg) 22 0) (308 + x.toNatClampNeg) 0, (u2 (u2 (u2 (u2 (u2 (u2 (u2 (u2 (u2 (u2 (u2 (u2 (u2 (u2 (u2 (fX7_forget na nb nc nd T (fX7_forget na nb nc nd T (rz (fX7_blendOf na nb nc nd T (u2 g 0 20 0) (308 + x.toNatClampNeg) (308 + y.toNatClampNeg)) (308 + x.toNatClampNeg) (fun j => (fX7_blendOf na nb nc nd T (u2 g 0 20 0) (308 + x.toNatClampNeg) (308 + y.toNatClampNeg)) (400 + T) j)) x) y) (308 + y.toNatClampNeg) 0 0) (308 + y.toNatClampNeg) 1 0) (308 + y.toNatClampNeg) 10 0) (308 + y.toNatClampNeg) 11 0) (308 + y.toNatClampNeg) 12 0) (308 + y.toNatClampNeg) 13 0) (308 + y.toNatClampNeg) 14 0) (308 + y.toNatClampNeg) 15 0) (308 + y.toNatClampNeg) 16 0) (308 + y.toNatClampNeg) 17 0) (308 + y.toNatClampNeg) 18 0) (308 + y.toNatClampNeg) 19 0) (308 + y.toNatClampNeg) 20 0) (308 + y.toNatClampNeg) 21 0) (308 + y.toNatClampNeg) 22 0))))))
theorem qX7_blend_w1 : Cond.fieldLink RX7 41 "CherryStationModel" "thrown" "I" ∈ wsX7_blend := List.mem_of_getElem? (i := 1) rfl
theorem qX7_blend_w2 : Cond.fieldLink RX7 27 "CherryStationModel" "lots" "Ljava/util/ArrayList;" ∈ wsX7_blend := List.mem_of_getElem? (i := 2) rfl
theorem qX7_blend_w3 : Cond.classLink RX7 72 "[I" ∈ wsX7_blend := List.mem_of_getElem? (i := 3) rfl
theorem iX7_blend_X7 : ∀ w ∈ wsX70, w ∈ wsX7_blend := fun _ h => (List.mem_cons_of_mem _ (List.mem_append_left _ (List.mem_append_right _ h)))
set_option maxRecDepth 100000 in
set_option maxHeartbeats 4000000 in
theorem kX7_blend (l : Launch) (D : va_G) (cy : Nat → ClassId) (e0 : Nat) {bd w : Nat → Nat → Nat} (g : Md) (S : Int64) (sz : Nat) (x : Int32) (y : Int32) (hT4 : w 0 4 + 1 ≤ 50) (hp1 : ¬ ((fX7_isLot (w 0 0) (w 0 1) (w 0 2) (w 0 3) (w 0 4) (u2 g 0 20 0) x) = 0) → ¬ ((fX7_isLot (w 0 0) (w 0 1) (w 0 2) (w 0 3) (w 0 4) (u2 g 0 20 0) y) = 0) → ¬ (x = y) → ¬ ((fX7_canBlend (w 0 0) (w 0 1) (w 0 2) (w 0 3) (w 0 4) (u2 g 0 20 0) (308 + x.toNatClampNeg) (308 + y.toNatClampNeg)) = 0) → ((¬ ((g (308 + x.toNatClampNeg) 0)) + ((g (308 + y.toNatClampNeg) 0)) = 0))) (hp2 : ¬ ((fX7_isLot (w 0 0) (w 0 1) (w 0 2) (w 0 3) (w 0 4) (u2 g 0 20 0) x) = 0) → ¬ ((fX7_isLot (w 0 0) (w 0 1) (w 0 2) (w 0 3) (w 0 4) (u2 g 0 20 0) y) = 0) → ¬ (x = y) → ¬ ((fX7_canBlend (w 0 0) (w 0 1) (w 0 2) (w 0 3) (w 0 4) (u2 g 0 20 0) (308 + x.toNatClampNeg) (308 + y.toNatClampNeg)) = 0) → (vp_in x 12)) (hp3 : ¬ ((fX7_isLot (w 0 0) (w 0 1) (w 0 2) (w 0 3) (w 0 4) (u2 g 0 20 0) x) = 0) → ¬ ((fX7_isLot (w 0 0) (w 0 1) (w 0 2) (w 0 3) (w 0 4) (u2 g 0 20 0) y) = 0) → ¬ (x = y) → ¬ ((fX7_canBlend (w 0 0) (w 0 1) (w 0 2) (w 0 3) (w 0 4) (u2 g 0 20 0) (308 + x.toNatClampNeg) (308 + y.toNatClampNeg)) = 0) → (vp_in y 12)) : Met l yX7_blend wsX7_blend ({ frames := 3, cells := 1, slots := 23, locals := 67 } : Room) (va_Pc [.ref (bd 0 0), .int x, .int y] (mPre D cy e0 bd w g S sz)) (va_Qi (fun (r : Int32) (_ : Nat → Nat → Nat) => r = (fX7_blend (w 0 0) (w 0 1) (w 0 2) (w 0 3) (w 0 4) g x y).1) (fun bd2 t => bd2 0 0 = bd 0 0 ∧ mG0 e0 bd w sz bd2 w ∧ MW D cy bd2 w (fX7_blend (w 0 0) (w 0 1) (w 0 2) (w 0 3) (w 0 4) g x y).2 S t.heap) (mA bd w sz)) 1 23 (mA bd w sz) := by
  refine q_start (cc := cX7_blend) (maxL := 5) (ret := (some .int)) (own := RX7) (by decide) rfl rfl (Nat.le_of_ble_eq_true rfl) ?_
  intro p e s m below meth c hx hb hr hml hts hown hlocks ⟨hsz, hC, hB⟩ ls hl
  subst hsz
  have hS : va_S (mA bd w s.heap.size) s.heap s.heap [] := va_S.rf
  have hG : mG e0 bd w s.heap.size bd w := mG.rf hB.2.2.1
  have hw0 := hC.1
  have hl : lv_has ls 5 [(0, .ref (bd 0 0)), (1, .int x), (2, .int y)] := hl
  refine lv_aload_n hx hb dX7_blend_0 rfl (lv_at hl 0 rfl) ?_
  refine lv_iconst (v := 0) hx hb dX7_blend_1 (by decide) ?_
  refine pt_m0_0 hx hb hts iX7_blend_X7 hown hB.1 hC hS hG.2.1 qX7_blend_w1 dX7_blend_2 (fun H locs hC hS => ?_)
  refine lv_aload_n hx hb dX7_blend_5 rfl (lv_at hl 0 rfl) ?_
  refine lv_iload_n hx hb dX7_blend_6 rfl (lv_at hl 1 rfl) ?_
  refine m_callVi (As := [.int x]) (κ := 0) (i := 0) rfl rfl ⟨_, rfl⟩ rfl ⟨hx, hb, hml, hown, hts⟩ (kX7_isLot l D cy e0 (bd := bd) (w := w) (u2 g 0 20 0) S _ x ) (cwV 1 hts gX7_blend_X7_isLot rfl rfl rfl (by decide +kernel) ⟨Nat.le_of_ble_eq_true rfl, Nat.le_of_ble_eq_true rfl⟩) hB hG.2 hC hS rfl hl.1 (Nat.le_of_ble_eq_true rfl) dX7_blend_7 ⟨Nat.le_of_ble_eq_true rfl, Nat.le_of_ble_eq_true rfl⟩ (fun H locs hC hS => ?_)
  refine lv_if_eq (tgt := 21) hx hb dX7_blend_10 (by decide) (fun c1 => ?_) (fun c1 => ?_)
  · skip
    refine lv_aload_n hx hb dX7_blend_21 rfl (lv_at hl 0 rfl) ?_
    refine lv_iconst (v := 1) hx hb dX7_blend_22 (by decide) ?_
    refine m_callVi (As := [.int 1]) (κ := 0) (i := 0) rfl rfl ⟨_, rfl⟩ rfl ⟨hx, hb, hml, hown, hts⟩ (kX7_refuse l D cy e0 (bd := bd) (w := w) (u2 g 0 20 0) S _ 1 ) (cwV 1 hts gX7_blend_X7_refuse rfl rfl rfl (by decide +kernel) ⟨Nat.le_of_ble_eq_true rfl, Nat.le_of_ble_eq_true rfl⟩) hB hG.2 hC hS rfl hl.1 (Nat.le_of_ble_eq_true rfl) dX7_blend_23 ⟨Nat.le_of_ble_eq_true rfl, Nat.le_of_ble_eq_true rfl⟩ (fun H locs hC hS => ?_)
    refine W.widen (k := 1) (n := 23) (Nat.le_of_ble_eq_true rfl) (Nat.le_of_ble_eq_true rfl) ?_
    have e9 : fX7_blend (w 0 0) (w 0 1) (w 0 2) (w 0 3) (w 0 4) g x y = ((fX7_refuse (w 0 0) (w 0 1) (w 0 2) (w 0 3) (w 0 4) (u2 g 0 20 0) 1).1, (fX7_refuse (w 0 0) (w 0 1) (w 0 2) (w 0 3) (w 0 4) (u2 g 0 20 0) 1).2) := (by unfold fX7_blend; rw [if_pos c1])
    exact W.iret hx hb hr (fun t ht hW => ⟨⟨_, bd, rfl, by rw [e9], rfl, hG.2, by rw [e9]; exact MW.at ht hC⟩, hS.F ht⟩) hS.2.2 dX7_blend_26
  · skip
    refine lv_aload_n hx hb dX7_blend_13 rfl (lv_at hl 0 rfl) ?_
    refine lv_iload_n hx hb dX7_blend_14 rfl (lv_at hl 2 rfl) ?_
    refine m_callVi (As := [.int y]) (κ := 0) (i := 0) rfl rfl ⟨_, rfl⟩ rfl ⟨hx, hb, hml, hown, hts⟩ (kX7_isLot l D cy e0 (bd := bd) (w := w) (u2 g 0 20 0) S _ y ) (cwV 1 hts gX7_blend_X7_isLot rfl rfl rfl (by decide +kernel) ⟨Nat.le_of_ble_eq_true rfl, Nat.le_of_ble_eq_true rfl⟩) hB hG.2 hC hS rfl hl.1 (Nat.le_of_ble_eq_true rfl) dX7_blend_15 ⟨Nat.le_of_ble_eq_true rfl, Nat.le_of_ble_eq_true rfl⟩ (fun H locs hC hS => ?_)
    refine lv_if_ne (tgt := 27) hx hb dX7_blend_18 (by decide) (fun c2 => ?_) (fun c2 => ?_)
    · skip
      refine lv_iload_n hx hb dX7_blend_27 rfl (lv_at hl 1 rfl) ?_
      refine lv_iload_n hx hb dX7_blend_28 rfl (lv_at hl 2 rfl) ?_
      refine lv_icmp_ne (tgt := 38) hx hb dX7_blend_29 (by decide) (fun c3 => ?_) (fun c3 => ?_)
      · skip
        refine lv_aload_n hx hb dX7_blend_38 rfl (lv_at hl 0 rfl) ?_
        refine gt_m0_5 hx hb hts iX7_blend_X7 hown hB.1 hC qX7_blend_w2 dX7_blend_39 ?_
        refine lv_iload_n hx hb dX7_blend_42 rfl (lv_at hl 2 rfl) ?_
        refine m_callVr (As := [.int y]) (κ := 1) (i := 3) (show 3 < 4 by decide) rfl ⟨_, rfl⟩ rfl ⟨hx, hb, hml, hown, hts⟩ (kJx4a65c_get_915e3 l D cy e0 (bd := bd) (w := w) (u2 g 0 20 0) S _ 3 (show 3 < 4 by decide) y (isLot_in (w := w) hw0 c2)) (cwV 1 hts gX7_blend_Jx4a65c_get_915e3 rfl rfl rfl (by decide +kernel) ⟨Nat.le_of_ble_eq_true rfl, Nat.le_of_ble_eq_true rfl⟩) hB hG.2 hC hS rfl hl.1 (Nat.le_of_ble_eq_true rfl) dX7_blend_43 ⟨Nat.le_of_ble_eq_true rfl, Nat.le_of_ble_eq_true rfl⟩ (fun H locs hC hS => ?_)
        refine m_stk (st' := [.ref (bd 3 (308 + y.toNatClampNeg))]) rfl ?_
        refine m_cast hx hb hown (hts _ qX7_blend_w3) hB.1 hC (rV_308 (vp_lt (isLot_in (w := w) hw0 c2))) dX7_blend_46 ?_
        refine lv_astore_n (lv' := [(3, .ref (bd 3 (308 + y.toNatClampNeg))), (0, .ref (bd 0 0)), (1, .int x), (2, .int y)]) hx hb dX7_blend_49 rfl hl (by decide) rfl (fun ls hl => ?_)
        refine lv_aload_n hx hb dX7_blend_50 rfl (lv_at hl 1 rfl) ?_
        refine gt_m0_5 hx hb hts iX7_blend_X7 hown hB.1 hC qX7_blend_w2 dX7_blend_51 ?_
        refine lv_iload_n hx hb dX7_blend_54 rfl (lv_at hl 2 rfl) ?_
        refine m_callVr (As := [.int x]) (κ := 1) (i := 3) (show 3 < 4 by decide) rfl ⟨_, rfl⟩ rfl ⟨hx, hb, hml, hown, hts⟩ (kJx4a65c_get_915e3 l D cy e0 (bd := bd) (w := w) (u2 g 0 20 0) S _ 3 (show 3 < 4 by decide) x (isLot_in (w := w) hw0 c1)) (cwV 1 hts gX7_blend_Jx4a65c_get_915e3 rfl rfl rfl (by decide +kernel) ⟨Nat.le_of_ble_eq_true rfl, Nat.le_of_ble_eq_true rfl⟩) hB hG.2 hC hS rfl hl.1 (Nat.le_of_ble_eq_true rfl) dX7_blend_55 ⟨Nat.le_of_ble_eq_true rfl, Nat.le_of_ble_eq_true rfl⟩ (fun H locs hC hS => ?_)
        refine m_stk (st' := [.ref (bd 3 (308 + x.toNatClampNeg))]) rfl ?_
        refine m_cast hx hb hown (hts _ qX7_blend_w3) hB.1 hC (rV_308 (vp_lt (isLot_in (w := w) hw0 c1))) dX7_blend_58 ?_
        refine lv_aload_n hx hb dX7_blend_61 rfl (lv_at hl 0 rfl) ?_
        refine m_callSi (As := [.ref (bd 3 (308 + x.toNatClampNeg)), .ref (bd 3 (308 + y.toNatClampNeg))])  ⟨hx, hb, hml, hown, hts⟩ (kX7_canBlend l D cy e0 (bd := bd) (w := w) (u2 g 0 20 0) S _ (308 + x.toNatClampNeg) (rV_308 (vp_lt (isLot_in (w := w) hw0 c1))) (rl_308 hC.1 (vp_lt (isLot_in (w := w) hw0 c1))) (308 + y.toNatClampNeg) (rV_308 (vp_lt (isLot_in (w := w) hw0 c2))) (rl_308 hC.1 (vp_lt (isLot_in (w := w) hw0 c2))) ) (va_cwS 2 hts gX7_blend_X7_canBlend rfl rfl rfl (by decide +kernel) ⟨Nat.le_of_ble_eq_true rfl, Nat.le_of_ble_eq_true rfl⟩) hB hG.2 hC hS rfl hl.1 (Nat.le_of_ble_eq_true rfl) dX7_blend_62 ⟨Nat.le_of_ble_eq_true rfl, Nat.le_of_ble_eq_true rfl⟩ (fun H locs hC hS => ?_)
        refine lv_if_ne (tgt := 74) hx hb dX7_blend_65 (by decide) (fun c4 => ?_) (fun c4 => ?_)
        · skip
          refine lv_aload_n hx hb dX7_blend_74 rfl (lv_at hl 1 rfl) ?_
          refine gt_m0_5 hx hb hts iX7_blend_X7 hown hB.1 hC qX7_blend_w2 dX7_blend_75 ?_
          refine lv_iload_n hx hb dX7_blend_78 rfl (lv_at hl 2 rfl) ?_
          refine lv_aload_n hx hb dX7_blend_79 rfl (lv_at hl 1 rfl) ?_
          refine gt_m0_5 hx hb hts iX7_blend_X7 hown hB.1 hC qX7_blend_w2 dX7_blend_80 ?_
          refine lv_iload_n hx hb dX7_blend_83 rfl (lv_at hl 2 rfl) ?_
          refine m_callVr (As := [.int x]) (κ := 1) (i := 3) (show 3 < 4 by decide) rfl ⟨_, rfl⟩ rfl ⟨hx, hb, hml, hown, hts⟩ (kJx4a65c_get_915e3 l D cy e0 (bd := bd) (w := w) (u2 g 0 20 0) S _ 3 (show 3 < 4 by decide) x (isLot_in (w := w) hw0 c1)) (cwV 1 hts gX7_blend_Jx4a65c_get_915e3 rfl rfl rfl (by decide +kernel) ⟨Nat.le_of_ble_eq_true rfl, Nat.le_of_ble_eq_true rfl⟩) hB hG.2 hC hS rfl hl.1 (Nat.le_of_ble_eq_true rfl) dX7_blend_84 ⟨Nat.le_of_ble_eq_true rfl, Nat.le_of_ble_eq_true rfl⟩ (fun H locs hC hS => ?_)
          refine m_stk (st' := [.ref (bd 3 (308 + x.toNatClampNeg)), .int x, .ref (bd 1 3)]) rfl ?_
          refine m_cast hx hb hown (hts _ qX7_blend_w3) hB.1 hC (rV_308 (vp_lt (isLot_in (w := w) hw0 c1))) dX7_blend_87 ?_
          refine lv_aload_n hx hb dX7_blend_90 rfl (lv_at hl 0 rfl) ?_
          have hz9 := hS.1
          have hw9 := hC.1
          refine m_callSn (As := [.ref (bd 3 (308 + x.toNatClampNeg)), .ref (bd 3 (308 + y.toNatClampNeg))])  ⟨hx, hb, hml, hown, hts⟩ (kX7_blendOf l D cy e0 (bd := bd) (w := w) (u2 g 0 20 0) S _ (308 + x.toNatClampNeg) (rV_308 (vp_lt (isLot_in (w := w) hw0 c1))) (rl_308 hC.1 (vp_lt (isLot_in (w := w) hw0 c1))) (308 + y.toNatClampNeg) (rV_308 (vp_lt (isLot_in (w := w) hw0 c2))) (rl_308 hC.1 (vp_lt (isLot_in (w := w) hw0 c2))) (by show w 0 4 + 1 ≤ 50; omega) (by rw [(show (u2 g 0 20 0) (308 + x.toNatClampNeg) 0 = g (308 + x.toNatClampNeg) 0 from ((u2_nk (by decide)).trans rfl)), (show (u2 g 0 20 0) (308 + y.toNatClampNeg) 0 = g (308 + y.toNatClampNeg) 0 from ((u2_nk (by decide)).trans rfl))]; exact (hp1 c1 c2 c3 c4))) (va_cwS 2 hts gX7_blend_X7_blendOf rfl rfl rfl (by decide +kernel) ⟨Nat.le_of_ble_eq_true rfl, Nat.le_of_ble_eq_true rfl⟩) hB hG.2 hC hS rfl hl.1 (Nat.le_of_ble_eq_true rfl) dX7_blend_91 ⟨Nat.le_of_ble_eq_true rfl, Nat.le_of_ble_eq_true rfl⟩ (fun bd5 H locs hN hC hS => ?_)
          have hD9 := wN_mD (N := 23) hN.1 hN.2.1
          have hD1 := hD9
          have hG : mG e0 bd w s.heap.size bd5 (wN w 23) := hG.new hN.1 hN.2.1 hN.2.2.1 (Nat.le_trans hz9 hN.2.2.2)
          have h00 : bd5 0 0 = bd 0 0 := (hN.1 0 0 rfl).trans rfl
          have q0 : bd5 3 (308 + y.toNatClampNeg) = bd 3 (308 + y.toNatClampNeg) := hN.1 3 (308 + y.toNatClampNeg) (rV_308 (vp_lt (isLot_in (w := w) hw0 c2)))
          have q1 : bd5 0 0 = bd 0 0 := hN.1 0 0 rfl
          have q2 : bd5 1 3 = bd 1 3 := hN.1 1 3 (show 3 < 4 by decide)
          rw [← q0, ← q1] at hl
          refine m_stk (st' := [.ref (bd5 3 (400 + w 0 4)), .int x, .ref (bd5 1 3)]) (by rw [q2]) ?_
          have hv6 : rV (wN w 23) (400 + w 0 4) := rV_new
          have hn7 : rl (wN w 23) (400 + w 0 4) = 23 := rl_new
          refine m_setrow (w9 := w) (x := x) ⟨hx, hb, hml, hown, hts⟩ (kJx4a65c_set_bcc79 l D cy e0 (bd := bd5) (w := (wN w 23)) (fX7_blendOf (w 0 0) (w 0 1) (w 0 2) (w 0 3) (w 0 4) (u2 g 0 20 0) (308 + x.toNatClampNeg) (308 + y.toNatClampNeg)) S _ x (isLot_in (w := w) hw0 c1) (Nat.succ_pos _) wN_len) (cwV 2 hts gX7_blend_Jx4a65c_set_bcc79 rfl rfl rfl (by decide +kernel) ⟨Nat.le_of_ble_eq_true rfl, Nat.le_of_ble_eq_true rfl⟩) hB hG.2 hC hS (Nat.succ_pos _) hl.1 (Nat.le_of_ble_eq_true rfl) dX7_blend_94 ⟨Nat.le_of_ble_eq_true rfl, Nat.le_of_ble_eq_true rfl⟩ (fun bd8 b9 H locs hN hG9 hC hS => ?_)
          have hC : MW D cy bd8 w (rz (fX7_blendOf (w 0 0) (w 0 1) (w 0 2) (w 0 3) (w 0 4) (u2 g 0 20 0) (308 + x.toNatClampNeg) (308 + y.toNatClampNeg)) (308 + x.toNatClampNeg) (fun j => (fX7_blendOf (w 0 0) (w 0 1) (w 0 2) (w 0 3) (w 0 4) (u2 g 0 20 0) (308 + x.toNatClampNeg) (308 + y.toNatClampNeg)) (400 + w 0 4) j)) S H := MW.drop hC wSN_mD mEq_rf
          have hG : mG0 e0 bd w s.heap.size bd8 w := ⟨fun κ i hv => hG9.1 κ i ((wSN_mD (bd := bd)).1 κ i hv).1, wS_mE hG9.2⟩
          have q0 : bd8 3 (308 + y.toNatClampNeg) = bd5 3 (308 + y.toNatClampNeg) := hN.1 3 (308 + y.toNatClampNeg) ((wSN_mD (bd := bd)).1 3 (308 + y.toNatClampNeg) (rV_308 (vp_lt (isLot_in (w := w) hw0 c2)))).1 (fun q => absurd (Nat.add_left_cancel q.2) (Ne.symm (set_ne c3 (isLot_in (w := w) hw0 c1) (isLot_in (w := w) hw0 c2))))
          have q1 : bd8 0 0 = bd5 0 0 := hN.1 0 0 ((wSN_mD (bd := bd)).1 0 0 rfl).1 (fun q => absurd q.1 (by decide))
          rw [← q0, ← q1] at hl
          have h00 : bd8 0 0 = bd 0 0 := (hN.1 0 0 ((wSN_mD (bd := bd)).1 0 0 rfl).1 (fun q => absurd q.1 (by decide))).trans h00
          refine lv_pop hx hb dX7_blend_97 rfl ?_
          refine lv_aload_n hx hb dX7_blend_98 rfl (lv_at hl 1 rfl) ?_
          refine lv_iload_n hx hb dX7_blend_99 rfl (lv_at hl 2 rfl) ?_
          refine m_callVv (As := [.int x]) (κ := 0) (i := 0) rfl rfl ⟨_, rfl⟩ rfl ⟨hx, hb, hml, hown, hts⟩ (kX7_forget l D cy e0 (bd := bd8) (w := w) (rz (fX7_blendOf (w 0 0) (w 0 1) (w 0 2) (w 0 3) (w 0 4) (u2 g 0 20 0) (308 + x.toNatClampNeg) (308 + y.toNatClampNeg)) (308 + x.toNatClampNeg) (fun j => (fX7_blendOf (w 0 0) (w 0 1) (w 0 2) (w 0 3) (w 0 4) (u2 g 0 20 0) (308 + x.toNatClampNeg) (308 + y.toNatClampNeg)) (400 + w 0 4) j)) S _ x (hp2 c1 c2 c3 c4)) (cwV 1 hts gX7_blend_X7_forget rfl rfl rfl (by decide +kernel) ⟨Nat.le_of_ble_eq_true rfl, Nat.le_of_ble_eq_true rfl⟩) hB hG hC hS rfl hl.1 (Nat.le_of_ble_eq_true rfl) dX7_blend_100 ⟨Nat.le_of_ble_eq_true rfl, Nat.le_of_ble_eq_true rfl⟩ (fun H locs hC hS => ?_)
          refine lv_aload_n hx hb dX7_blend_103 rfl (lv_at hl 1 rfl) ?_
          refine lv_iload_n hx hb dX7_blend_104 rfl (lv_at hl 3 rfl) ?_
          refine m_callVv (As := [.int y]) (κ := 0) (i := 0) rfl rfl ⟨_, rfl⟩ rfl ⟨hx, hb, hml, hown, hts⟩ (kX7_forget l D cy e0 (bd := bd8) (w := w) (fX7_forget (w 0 0) (w 0 1) (w 0 2) (w 0 3) (w 0 4) (rz (fX7_blendOf (w 0 0) (w 0 1) (w 0 2) (w 0 3) (w 0 4) (u2 g 0 20 0) (308 + x.toNatClampNeg) (308 + y.toNatClampNeg)) (308 + x.toNatClampNeg) (fun j => (fX7_blendOf (w 0 0) (w 0 1) (w 0 2) (w 0 3) (w 0 4) (u2 g 0 20 0) (308 + x.toNatClampNeg) (308 + y.toNatClampNeg)) (400 + w 0 4) j)) x) S _ y (hp3 c1 c2 c3 c4)) (cwV 1 hts gX7_blend_X7_forget rfl rfl rfl (by decide +kernel) ⟨Nat.le_of_ble_eq_true rfl, Nat.le_of_ble_eq_true rfl⟩) hB hG hC hS rfl hl.1 (Nat.le_of_ble_eq_true rfl) dX7_blend_105 ⟨Nat.le_of_ble_eq_true rfl, Nat.le_of_ble_eq_true rfl⟩ (fun H locs hC hS => ?_)
          refine lv_aload_n hx hb dX7_blend_108 rfl (lv_at hl 0 rfl) ?_
          refine lv_iconst (v := 0) hx hb dX7_blend_109 (by decide) ?_
          refine lv_iconst (v := 0) hx hb dX7_blend_110 (by decide) ?_
          refine st_m hx hb hB.1 hC hS hG.1 (rV_308 (vp_lt (isLot_in (w := w) hw0 c2))) (rl_308 hC.1 (vp_lt (isLot_in (w := w) hw0 c2))) (k := 0) (by decide) (by unfold vp_in; decide) dX7_blend_111 (fun H locs hC hS => ?_)
          refine lv_aload_n hx hb dX7_blend_112 rfl (lv_at hl 0 rfl) ?_
          refine lv_iconst (v := 1) hx hb dX7_blend_113 (by decide) ?_
          refine lv_iconst (v := 0) hx hb dX7_blend_114 (by decide) ?_
          refine st_m hx hb hB.1 hC hS hG.1 (rV_308 (vp_lt (isLot_in (w := w) hw0 c2))) (rl_308 hC.1 (vp_lt (isLot_in (w := w) hw0 c2))) (k := 1) (by decide) (by unfold vp_in; decide) dX7_blend_115 (fun H locs hC hS => ?_)
          refine lv_aload_n hx hb dX7_blend_116 rfl (lv_at hl 0 rfl) ?_
          refine lv_bipush (v := 10) hx hb dX7_blend_117 (by decide) ?_
          refine lv_iconst (v := 0) hx hb dX7_blend_119 (by decide) ?_
          refine st_m hx hb hB.1 hC hS hG.1 (rV_308 (vp_lt (isLot_in (w := w) hw0 c2))) (rl_308 hC.1 (vp_lt (isLot_in (w := w) hw0 c2))) (k := 10) (by decide) (by unfold vp_in; decide) dX7_blend_120 (fun H locs hC hS => ?_)
          refine lv_bipush (v := 11) hx hb dX7_blend_121 (by decide) ?_
          refine lv_istore (lv' := [(4, .int 11), (3, .ref (bd8 3 (308 + y.toNatClampNeg))), (0, .ref (bd8 0 0)), (1, .int x), (2, .int y)]) hx hb dX7_blend_123 hl (by decide) rfl (fun ls hl => ?_)
          refine lv_iload hx hb dX7_blend_125 (lv_at hl 0 rfl) ?_
          refine lv_bipush (v := 23) hx hb dX7_blend_127 (by decide) ?_
          refine lv_icmp_ge (tgt := 143) hx hb dX7_blend_129 (by decide) (fun c => absurd c (by decide)) (fun _ => ?_)
          refine lv_aload_n hx hb dX7_blend_132 rfl (lv_at hl 1 rfl) ?_
          refine lv_iload hx hb dX7_blend_133 (lv_at hl 0 rfl) ?_
          refine lv_iconst (v := 0) hx hb dX7_blend_135 (by decide) ?_
          refine st_m hx hb hB.1 hC hS hG.1 (rV_308 (vp_lt (isLot_in (w := w) hw0 c2))) (rl_308 hC.1 (vp_lt (isLot_in (w := w) hw0 c2))) (k := 11) (by decide) (by unfold vp_in; decide) dX7_blend_136 (fun H locs hC hS => ?_)
          refine lv_iinc (v := 12) (lv' := [(4, .int 12), (3, .ref (bd8 3 (308 + y.toNatClampNeg))), (0, .ref (bd8 0 0)), (1, .int x), (2, .int y)]) hx hb dX7_blend_137 hl (k := 0) rfl (by decide) (by decide) rfl (fun ls hl => ?_)
          refine lv_goto (tgt := 125) hx hb dX7_blend_140 (by decide) ?_
          refine lv_iload hx hb dX7_blend_125 (lv_at hl 0 rfl) ?_
          refine lv_bipush (v := 23) hx hb dX7_blend_127 (by decide) ?_
          refine lv_icmp_ge (tgt := 143) hx hb dX7_blend_129 (by decide) (fun c => absurd c (by decide)) (fun _ => ?_)
          refine lv_aload_n hx hb dX7_blend_132 rfl (lv_at hl 1 rfl) ?_
          refine lv_iload hx hb dX7_blend_133 (lv_at hl 0 rfl) ?_
          refine lv_iconst (v := 0) hx hb dX7_blend_135 (by decide) ?_
          refine st_m hx hb hB.1 hC hS hG.1 (rV_308 (vp_lt (isLot_in (w := w) hw0 c2))) (rl_308 hC.1 (vp_lt (isLot_in (w := w) hw0 c2))) (k := 12) (by decide) (by unfold vp_in; decide) dX7_blend_136 (fun H locs hC hS => ?_)
          refine lv_iinc (v := 13) (lv' := [(4, .int 13), (3, .ref (bd8 3 (308 + y.toNatClampNeg))), (0, .ref (bd8 0 0)), (1, .int x), (2, .int y)]) hx hb dX7_blend_137 hl (k := 0) rfl (by decide) (by decide) rfl (fun ls hl => ?_)
          refine lv_goto (tgt := 125) hx hb dX7_blend_140 (by decide) ?_
          refine lv_iload hx hb dX7_blend_125 (lv_at hl 0 rfl) ?_
          refine lv_bipush (v := 23) hx hb dX7_blend_127 (by decide) ?_
          refine lv_icmp_ge (tgt := 143) hx hb dX7_blend_129 (by decide) (fun c => absurd c (by decide)) (fun _ => ?_)
          refine lv_aload_n hx hb dX7_blend_132 rfl (lv_at hl 1 rfl) ?_
          refine lv_iload hx hb dX7_blend_133 (lv_at hl 0 rfl) ?_
          refine lv_iconst (v := 0) hx hb dX7_blend_135 (by decide) ?_
          refine st_m hx hb hB.1 hC hS hG.1 (rV_308 (vp_lt (isLot_in (w := w) hw0 c2))) (rl_308 hC.1 (vp_lt (isLot_in (w := w) hw0 c2))) (k := 13) (by decide) (by unfold vp_in; decide) dX7_blend_136 (fun H locs hC hS => ?_)
          refine lv_iinc (v := 14) (lv' := [(4, .int 14), (3, .ref (bd8 3 (308 + y.toNatClampNeg))), (0, .ref (bd8 0 0)), (1, .int x), (2, .int y)]) hx hb dX7_blend_137 hl (k := 0) rfl (by decide) (by decide) rfl (fun ls hl => ?_)
          refine lv_goto (tgt := 125) hx hb dX7_blend_140 (by decide) ?_
          refine lv_iload hx hb dX7_blend_125 (lv_at hl 0 rfl) ?_
          refine lv_bipush (v := 23) hx hb dX7_blend_127 (by decide) ?_
          refine lv_icmp_ge (tgt := 143) hx hb dX7_blend_129 (by decide) (fun c => absurd c (by decide)) (fun _ => ?_)
          refine lv_aload_n hx hb dX7_blend_132 rfl (lv_at hl 1 rfl) ?_
          refine lv_iload hx hb dX7_blend_133 (lv_at hl 0 rfl) ?_
          refine lv_iconst (v := 0) hx hb dX7_blend_135 (by decide) ?_
          refine st_m hx hb hB.1 hC hS hG.1 (rV_308 (vp_lt (isLot_in (w := w) hw0 c2))) (rl_308 hC.1 (vp_lt (isLot_in (w := w) hw0 c2))) (k := 14) (by decide) (by unfold vp_in; decide) dX7_blend_136 (fun H locs hC hS => ?_)
          refine lv_iinc (v := 15) (lv' := [(4, .int 15), (3, .ref (bd8 3 (308 + y.toNatClampNeg))), (0, .ref (bd8 0 0)), (1, .int x), (2, .int y)]) hx hb dX7_blend_137 hl (k := 0) rfl (by decide) (by decide) rfl (fun ls hl => ?_)
          refine lv_goto (tgt := 125) hx hb dX7_blend_140 (by decide) ?_
          refine lv_iload hx hb dX7_blend_125 (lv_at hl 0 rfl) ?_
          refine lv_bipush (v := 23) hx hb dX7_blend_127 (by decide) ?_
          refine lv_icmp_ge (tgt := 143) hx hb dX7_blend_129 (by decide) (fun c => absurd c (by decide)) (fun _ => ?_)
          refine lv_aload_n hx hb dX7_blend_132 rfl (lv_at hl 1 rfl) ?_
          refine lv_iload hx hb dX7_blend_133 (lv_at hl 0 rfl) ?_
          refine lv_iconst (v := 0) hx hb dX7_blend_135 (by decide) ?_
          refine st_m hx hb hB.1 hC hS hG.1 (rV_308 (vp_lt (isLot_in (w := w) hw0 c2))) (rl_308 hC.1 (vp_lt (isLot_in (w := w) hw0 c2))) (k := 15) (by decide) (by unfold vp_in; decide) dX7_blend_136 (fun H locs hC hS => ?_)
          refine lv_iinc (v := 16) (lv' := [(4, .int 16), (3, .ref (bd8 3 (308 + y.toNatClampNeg))), (0, .ref (bd8 0 0)), (1, .int x), (2, .int y)]) hx hb dX7_blend_137 hl (k := 0) rfl (by decide) (by decide) rfl (fun ls hl => ?_)
          refine lv_goto (tgt := 125) hx hb dX7_blend_140 (by decide) ?_
          refine lv_iload hx hb dX7_blend_125 (lv_at hl 0 rfl) ?_
          refine lv_bipush (v := 23) hx hb dX7_blend_127 (by decide) ?_
          refine lv_icmp_ge (tgt := 143) hx hb dX7_blend_129 (by decide) (fun c => absurd c (by decide)) (fun _ => ?_)
          refine lv_aload_n hx hb dX7_blend_132 rfl (lv_at hl 1 rfl) ?_
          refine lv_iload hx hb dX7_blend_133 (lv_at hl 0 rfl) ?_
          refine lv_iconst (v := 0) hx hb dX7_blend_135 (by decide) ?_
          refine st_m hx hb hB.1 hC hS hG.1 (rV_308 (vp_lt (isLot_in (w := w) hw0 c2))) (rl_308 hC.1 (vp_lt (isLot_in (w := w) hw0 c2))) (k := 16) (by decide) (by unfold vp_in; decide) dX7_blend_136 (fun H locs hC hS => ?_)
          refine lv_iinc (v := 17) (lv' := [(4, .int 17), (3, .ref (bd8 3 (308 + y.toNatClampNeg))), (0, .ref (bd8 0 0)), (1, .int x), (2, .int y)]) hx hb dX7_blend_137 hl (k := 0) rfl (by decide) (by decide) rfl (fun ls hl => ?_)
          refine lv_goto (tgt := 125) hx hb dX7_blend_140 (by decide) ?_
          refine lv_iload hx hb dX7_blend_125 (lv_at hl 0 rfl) ?_
          refine lv_bipush (v := 23) hx hb dX7_blend_127 (by decide) ?_
          refine lv_icmp_ge (tgt := 143) hx hb dX7_blend_129 (by decide) (fun c => absurd c (by decide)) (fun _ => ?_)
          refine lv_aload_n hx hb dX7_blend_132 rfl (lv_at hl 1 rfl) ?_
          refine lv_iload hx hb dX7_blend_133 (lv_at hl 0 rfl) ?_
          refine lv_iconst (v := 0) hx hb dX7_blend_135 (by decide) ?_
          refine st_m hx hb hB.1 hC hS hG.1 (rV_308 (vp_lt (isLot_in (w := w) hw0 c2))) (rl_308 hC.1 (vp_lt (isLot_in (w := w) hw0 c2))) (k := 17) (by decide) (by unfold vp_in; decide) dX7_blend_136 (fun H locs hC hS => ?_)
          refine lv_iinc (v := 18) (lv' := [(4, .int 18), (3, .ref (bd8 3 (308 + y.toNatClampNeg))), (0, .ref (bd8 0 0)), (1, .int x), (2, .int y)]) hx hb dX7_blend_137 hl (k := 0) rfl (by decide) (by decide) rfl (fun ls hl => ?_)
          refine lv_goto (tgt := 125) hx hb dX7_blend_140 (by decide) ?_
          refine lv_iload hx hb dX7_blend_125 (lv_at hl 0 rfl) ?_
          refine lv_bipush (v := 23) hx hb dX7_blend_127 (by decide) ?_
          refine lv_icmp_ge (tgt := 143) hx hb dX7_blend_129 (by decide) (fun c => absurd c (by decide)) (fun _ => ?_)
          refine lv_aload_n hx hb dX7_blend_132 rfl (lv_at hl 1 rfl) ?_
          refine lv_iload hx hb dX7_blend_133 (lv_at hl 0 rfl) ?_
          refine lv_iconst (v := 0) hx hb dX7_blend_135 (by decide) ?_
          refine st_m hx hb hB.1 hC hS hG.1 (rV_308 (vp_lt (isLot_in (w := w) hw0 c2))) (rl_308 hC.1 (vp_lt (isLot_in (w := w) hw0 c2))) (k := 18) (by decide) (by unfold vp_in; decide) dX7_blend_136 (fun H locs hC hS => ?_)
          refine lv_iinc (v := 19) (lv' := [(4, .int 19), (3, .ref (bd8 3 (308 + y.toNatClampNeg))), (0, .ref (bd8 0 0)), (1, .int x), (2, .int y)]) hx hb dX7_blend_137 hl (k := 0) rfl (by decide) (by decide) rfl (fun ls hl => ?_)
          refine lv_goto (tgt := 125) hx hb dX7_blend_140 (by decide) ?_
          refine lv_iload hx hb dX7_blend_125 (lv_at hl 0 rfl) ?_
          refine lv_bipush (v := 23) hx hb dX7_blend_127 (by decide) ?_
          refine lv_icmp_ge (tgt := 143) hx hb dX7_blend_129 (by decide) (fun c => absurd c (by decide)) (fun _ => ?_)
          refine lv_aload_n hx hb dX7_blend_132 rfl (lv_at hl 1 rfl) ?_
          refine lv_iload hx hb dX7_blend_133 (lv_at hl 0 rfl) ?_
          refine lv_iconst (v := 0) hx hb dX7_blend_135 (by decide) ?_
          refine st_m hx hb hB.1 hC hS hG.1 (rV_308 (vp_lt (isLot_in (w := w) hw0 c2))) (rl_308 hC.1 (vp_lt (isLot_in (w := w) hw0 c2))) (k := 19) (by decide) (by unfold vp_in; decide) dX7_blend_136 (fun H locs hC hS => ?_)
          refine lv_iinc (v := 20) (lv' := [(4, .int 20), (3, .ref (bd8 3 (308 + y.toNatClampNeg))), (0, .ref (bd8 0 0)), (1, .int x), (2, .int y)]) hx hb dX7_blend_137 hl (k := 0) rfl (by decide) (by decide) rfl (fun ls hl => ?_)
          refine lv_goto (tgt := 125) hx hb dX7_blend_140 (by decide) ?_
          refine lv_iload hx hb dX7_blend_125 (lv_at hl 0 rfl) ?_
          refine lv_bipush (v := 23) hx hb dX7_blend_127 (by decide) ?_
          refine lv_icmp_ge (tgt := 143) hx hb dX7_blend_129 (by decide) (fun c => absurd c (by decide)) (fun _ => ?_)
          refine lv_aload_n hx hb dX7_blend_132 rfl (lv_at hl 1 rfl) ?_
          refine lv_iload hx hb dX7_blend_133 (lv_at hl 0 rfl) ?_
          refine lv_iconst (v := 0) hx hb dX7_blend_135 (by decide) ?_
          refine st_m hx hb hB.1 hC hS hG.1 (rV_308 (vp_lt (isLot_in (w := w) hw0 c2))) (rl_308 hC.1 (vp_lt (isLot_in (w := w) hw0 c2))) (k := 20) (by decide) (by unfold vp_in; decide) dX7_blend_136 (fun H locs hC hS => ?_)
          refine lv_iinc (v := 21) (lv' := [(4, .int 21), (3, .ref (bd8 3 (308 + y.toNatClampNeg))), (0, .ref (bd8 0 0)), (1, .int x), (2, .int y)]) hx hb dX7_blend_137 hl (k := 0) rfl (by decide) (by decide) rfl (fun ls hl => ?_)
          refine lv_goto (tgt := 125) hx hb dX7_blend_140 (by decide) ?_
          refine lv_iload hx hb dX7_blend_125 (lv_at hl 0 rfl) ?_
          refine lv_bipush (v := 23) hx hb dX7_blend_127 (by decide) ?_
          refine lv_icmp_ge (tgt := 143) hx hb dX7_blend_129 (by decide) (fun c => absurd c (by decide)) (fun _ => ?_)
          refine lv_aload_n hx hb dX7_blend_132 rfl (lv_at hl 1 rfl) ?_
          refine lv_iload hx hb dX7_blend_133 (lv_at hl 0 rfl) ?_
          refine lv_iconst (v := 0) hx hb dX7_blend_135 (by decide) ?_
          refine st_m hx hb hB.1 hC hS hG.1 (rV_308 (vp_lt (isLot_in (w := w) hw0 c2))) (rl_308 hC.1 (vp_lt (isLot_in (w := w) hw0 c2))) (k := 21) (by decide) (by unfold vp_in; decide) dX7_blend_136 (fun H locs hC hS => ?_)
          refine lv_iinc (v := 22) (lv' := [(4, .int 22), (3, .ref (bd8 3 (308 + y.toNatClampNeg))), (0, .ref (bd8 0 0)), (1, .int x), (2, .int y)]) hx hb dX7_blend_137 hl (k := 0) rfl (by decide) (by decide) rfl (fun ls hl => ?_)
          refine lv_goto (tgt := 125) hx hb dX7_blend_140 (by decide) ?_
          refine lv_iload hx hb dX7_blend_125 (lv_at hl 0 rfl) ?_
          refine lv_bipush (v := 23) hx hb dX7_blend_127 (by decide) ?_
          refine lv_icmp_ge (tgt := 143) hx hb dX7_blend_129 (by decide) (fun c => absurd c (by decide)) (fun _ => ?_)
          refine lv_aload_n hx hb dX7_blend_132 rfl (lv_at hl 1 rfl) ?_
          refine lv_iload hx hb dX7_blend_133 (lv_at hl 0 rfl) ?_
          refine lv_iconst (v := 0) hx hb dX7_blend_135 (by decide) ?_
          refine st_m hx hb hB.1 hC hS hG.1 (rV_308 (vp_lt (isLot_in (w := w) hw0 c2))) (rl_308 hC.1 (vp_lt (isLot_in (w := w) hw0 c2))) (k := 22) (by decide) (by unfold vp_in; decide) dX7_blend_136 (fun H locs hC hS => ?_)
          refine lv_iinc (v := 23) (lv' := [(4, .int 23), (3, .ref (bd8 3 (308 + y.toNatClampNeg))), (0, .ref (bd8 0 0)), (1, .int x), (2, .int y)]) hx hb dX7_blend_137 hl (k := 0) rfl (by decide) (by decide) rfl (fun ls hl => ?_)
          refine lv_goto (tgt := 125) hx hb dX7_blend_140 (by decide) ?_
          refine lv_iload hx hb dX7_blend_125 (lv_at hl 0 rfl) ?_
          refine lv_bipush (v := 23) hx hb dX7_blend_127 (by decide) ?_
          refine lv_icmp_ge (tgt := 143) hx hb dX7_blend_129 (by decide) (fun _ => ?_) (fun c => absurd c (by decide))
          refine lv_aload_n hx hb dX7_blend_143 rfl (lv_at hl 2 rfl) ?_
          refine gt_m0_5 hx hb hts iX7_blend_X7 hown hB.1 hC qX7_blend_w2 dX7_blend_144 ?_
          refine lv_iload_n hx hb dX7_blend_147 rfl (lv_at hl 3 rfl) ?_
          refine m_callVr (As := [.int x]) (κ := 1) (i := 3) (show 3 < 4 by decide) rfl ⟨_, rfl⟩ rfl ⟨hx, hb, hml, hown, hts⟩ (kJx4a65c_get_915e3 l D cy e0 (bd := bd8) (w := w) (u2 (u2 (u2 (u2 (u2 (u2 (u2 (u2 (u2 (u2 (u2 (u2 (u2 (u2 (u2 (fX7_forget (w 0 0) (w 0 1) (w 0 2) (w 0 3) (w 0 4) (fX7_forget (w 0 0) (w 0 1) (w 0 2) (w 0 3) (w 0 4) (rz (fX7_blendOf (w 0 0) (w 0 1) (w 0 2) (w 0 3) (w 0 4) (u2 g 0 20 0) (308 + x.toNatClampNeg) (308 + y.toNatClampNeg)) (308 + x.toNatClampNeg) (fun j => (fX7_blendOf (w 0 0) (w 0 1) (w 0 2) (w 0 3) (w 0 4) (u2 g 0 20 0) (308 + x.toNatClampNeg) (308 + y.toNatClampNeg)) (400 + w 0 4) j)) x) y) (308 + y.toNatClampNeg) 0 0) (308 + y.toNatClampNeg) 1 0) (308 + y.toNatClampNeg) 10 0) (308 + y.toNatClampNeg) 11 0) (308 + y.toNatClampNeg) 12 0) (308 + y.toNatClampNeg) 13 0) (308 + y.toNatClampNeg) 14 0) (308 + y.toNatClampNeg) 15 0) (308 + y.toNatClampNeg) 16 0) (308 + y.toNatClampNeg) 17 0) (308 + y.toNatClampNeg) 18 0) (308 + y.toNatClampNeg) 19 0) (308 + y.toNatClampNeg) 20 0) (308 + y.toNatClampNeg) 21 0) (308 + y.toNatClampNeg) 22 0) S _ 3 (show 3 < 4 by decide) x (isLot_in (w := w) hw0 c1)) (cwV 1 hts gX7_blend_Jx4a65c_get_915e3 rfl rfl rfl (by decide +kernel) ⟨Nat.le_of_ble_eq_true rfl, Nat.le_of_ble_eq_true rfl⟩) hB hG hC hS rfl hl.1 (Nat.le_of_ble_eq_true rfl) dX7_blend_148 ⟨Nat.le_of_ble_eq_true rfl, Nat.le_of_ble_eq_true rfl⟩ (fun H locs hC hS => ?_)
          refine m_stk (st' := [.ref (bd8 3 (308 + x.toNatClampNeg))]) rfl ?_
          refine m_cast hx hb hown (hts _ qX7_blend_w3) hB.1 hC (rV_308 (vp_lt (isLot_in (w := w) hw0 c1))) dX7_blend_151 ?_
          refine lv_iconst (v := 0) hx hb dX7_blend_154 (by decide) ?_
          refine ld_m hx hb hB.1 hC (rV_308 (vp_lt (isLot_in (w := w) hw0 c1))) (rl_308 hC.1 (vp_lt (isLot_in (w := w) hw0 c1))) (k := 0) (by decide) (by unfold vp_in; decide) dX7_blend_155 ?_
          refine W.widen (k := 1) (n := 23) (Nat.le_of_ble_eq_true rfl) (Nat.le_of_ble_eq_true rfl) ?_
          have e9 : fX7_blend (w 0 0) (w 0 1) (w 0 2) (w 0 3) (w 0 4) g x y = ((u2 (u2 (u2 (u2 (u2 (u2 (u2 (u2 (u2 (u2 (u2 (u2 (u2 (u2 (u2 (fX7_forget (w 0 0) (w 0 1) (w 0 2) (w 0 3) (w 0 4) (fX7_forget (w 0 0) (w 0 1) (w 0 2) (w 0 3) (w 0 4) (rz (fX7_blendOf (w 0 0) (w 0 1) (w 0 2) (w 0 3) (w 0 4) (u2 g 0 20 0) (308 + x.toNatClampNeg) (308 + y.toNatClampNeg)) (308 + x.toNatClampNeg) (fun j => (fX7_blendOf (w 0 0) (w 0 1) (w 0 2) (w 0 3) (w 0 4) (u2 g 0 20 0) (308 + x.toNatClampNeg) (308 + y.toNatClampNeg)) (400 + w 0 4) j)) x) y) (308 + y.toNatClampNeg) 0 0) (308 + y.toNatClampNeg) 1 0) (308 + y.toNatClampNeg) 10 0) (308 + y.toNatClampNeg) 11 0) (308 + y.toNatClampNeg) 12 0) (308 + y.toNatClampNeg) 13 0) (308 + y.toNatClampNeg) 14 0) (308 + y.toNatClampNeg) 15 0) (308 + y.toNatClampNeg) 16 0) (308 + y.toNatClampNeg) 17 0) (308 + y.toNatClampNeg) 18 0) (308 + y.toNatClampNeg) 19 0) (308 + y.toNatClampNeg) 20 0) (308 + y.toNatClampNeg) 21 0) (308 + y.toNatClampNeg) 22 0) (308 + x.toNatClampNeg) 0, (u2 (u2 (u2 (u2 (u2 (u2 (u2 (u2 (u2 (u2 (u2 (u2 (u2 (u2 (u2 (fX7_forget (w 0 0) (w 0 1) (w 0 2) (w 0 3) (w 0 4) (fX7_forget (w 0 0) (w 0 1) (w 0 2) (w 0 3) (w 0 4) (rz (fX7_blendOf (w 0 0) (w 0 1) (w 0 2) (w 0 3) (w 0 4) (u2 g 0 20 0) (308 + x.toNatClampNeg) (308 + y.toNatClampNeg)) (308 + x.toNatClampNeg) (fun j => (fX7_blendOf (w 0 0) (w 0 1) (w 0 2) (w 0 3) (w 0 4) (u2 g 0 20 0) (308 + x.toNatClampNeg) (308 + y.toNatClampNeg)) (400 + w 0 4) j)) x) y) (308 + y.toNatClampNeg) 0 0) (308 + y.toNatClampNeg) 1 0) (308 + y.toNatClampNeg) 10 0) (308 + y.toNatClampNeg) 11 0) (308 + y.toNatClampNeg) 12 0) (308 + y.toNatClampNeg) 13 0) (308 + y.toNatClampNeg) 14 0) (308 + y.toNatClampNeg) 15 0) (308 + y.toNatClampNeg) 16 0) (308 + y.toNatClampNeg) 17 0) (308 + y.toNatClampNeg) 18 0) (308 + y.toNatClampNeg) 19 0) (308 + y.toNatClampNeg) 20 0) (308 + y.toNatClampNeg) 21 0) (308 + y.toNatClampNeg) 22 0)) := (by unfold fX7_blend; rw [if_neg c1, if_neg c2, if_neg c3, if_neg c4])
          exact W.iret hx hb hr (fun t ht hW => ⟨⟨_, bd8, rfl, by rw [e9], h00, hG, by rw [e9]; exact MW.at ht hC⟩, hS.F ht⟩) hS.2.2 dX7_blend_156
        · skip
          refine lv_aload_n hx hb dX7_blend_68 rfl (lv_at hl 1 rfl) ?_
          refine lv_iconst (v := 3) hx hb dX7_blend_69 (by decide) ?_
          refine m_callVi (As := [.int 3]) (κ := 0) (i := 0) rfl rfl ⟨_, rfl⟩ rfl ⟨hx, hb, hml, hown, hts⟩ (kX7_refuse l D cy e0 (bd := bd) (w := w) (u2 g 0 20 0) S _ 3 ) (cwV 1 hts gX7_blend_X7_refuse rfl rfl rfl (by decide +kernel) ⟨Nat.le_of_ble_eq_true rfl, Nat.le_of_ble_eq_true rfl⟩) hB hG.2 hC hS rfl hl.1 (Nat.le_of_ble_eq_true rfl) dX7_blend_70 ⟨Nat.le_of_ble_eq_true rfl, Nat.le_of_ble_eq_true rfl⟩ (fun H locs hC hS => ?_)
          refine W.widen (k := 1) (n := 23) (Nat.le_of_ble_eq_true rfl) (Nat.le_of_ble_eq_true rfl) ?_
          have e9 : fX7_blend (w 0 0) (w 0 1) (w 0 2) (w 0 3) (w 0 4) g x y = ((fX7_refuse (w 0 0) (w 0 1) (w 0 2) (w 0 3) (w 0 4) (u2 g 0 20 0) 3).1, (fX7_refuse (w 0 0) (w 0 1) (w 0 2) (w 0 3) (w 0 4) (u2 g 0 20 0) 3).2) := (by unfold fX7_blend; rw [if_neg c1, if_neg c2, if_neg c3, if_pos c4])
          exact W.iret hx hb hr (fun t ht hW => ⟨⟨_, bd, rfl, by rw [e9], rfl, hG.2, by rw [e9]; exact MW.at ht hC⟩, hS.F ht⟩) hS.2.2 dX7_blend_73
      · skip
        refine lv_aload_n hx hb dX7_blend_32 rfl (lv_at hl 0 rfl) ?_
        refine lv_iconst (v := 2) hx hb dX7_blend_33 (by decide) ?_
        refine m_callVi (As := [.int 2]) (κ := 0) (i := 0) rfl rfl ⟨_, rfl⟩ rfl ⟨hx, hb, hml, hown, hts⟩ (kX7_refuse l D cy e0 (bd := bd) (w := w) (u2 g 0 20 0) S _ 2 ) (cwV 1 hts gX7_blend_X7_refuse rfl rfl rfl (by decide +kernel) ⟨Nat.le_of_ble_eq_true rfl, Nat.le_of_ble_eq_true rfl⟩) hB hG.2 hC hS rfl hl.1 (Nat.le_of_ble_eq_true rfl) dX7_blend_34 ⟨Nat.le_of_ble_eq_true rfl, Nat.le_of_ble_eq_true rfl⟩ (fun H locs hC hS => ?_)
        refine W.widen (k := 1) (n := 23) (Nat.le_of_ble_eq_true rfl) (Nat.le_of_ble_eq_true rfl) ?_
        have e9 : fX7_blend (w 0 0) (w 0 1) (w 0 2) (w 0 3) (w 0 4) g x y = ((fX7_refuse (w 0 0) (w 0 1) (w 0 2) (w 0 3) (w 0 4) (u2 g 0 20 0) 2).1, (fX7_refuse (w 0 0) (w 0 1) (w 0 2) (w 0 3) (w 0 4) (u2 g 0 20 0) 2).2) := (by unfold fX7_blend; rw [if_neg c1, if_neg c2, if_pos c3])
        exact W.iret hx hb hr (fun t ht hW => ⟨⟨_, bd, rfl, by rw [e9], rfl, hG.2, by rw [e9]; exact MW.at ht hC⟩, hS.F ht⟩) hS.2.2 dX7_blend_37
    · skip
      refine lv_aload_n hx hb dX7_blend_21 rfl (lv_at hl 0 rfl) ?_
      refine lv_iconst (v := 1) hx hb dX7_blend_22 (by decide) ?_
      refine m_callVi (As := [.int 1]) (κ := 0) (i := 0) rfl rfl ⟨_, rfl⟩ rfl ⟨hx, hb, hml, hown, hts⟩ (kX7_refuse l D cy e0 (bd := bd) (w := w) (u2 g 0 20 0) S _ 1 ) (cwV 1 hts gX7_blend_X7_refuse rfl rfl rfl (by decide +kernel) ⟨Nat.le_of_ble_eq_true rfl, Nat.le_of_ble_eq_true rfl⟩) hB hG.2 hC hS rfl hl.1 (Nat.le_of_ble_eq_true rfl) dX7_blend_23 ⟨Nat.le_of_ble_eq_true rfl, Nat.le_of_ble_eq_true rfl⟩ (fun H locs hC hS => ?_)
      refine W.widen (k := 1) (n := 23) (Nat.le_of_ble_eq_true rfl) (Nat.le_of_ble_eq_true rfl) ?_
      have e9 : fX7_blend (w 0 0) (w 0 1) (w 0 2) (w 0 3) (w 0 4) g x y = ((fX7_refuse (w 0 0) (w 0 1) (w 0 2) (w 0 3) (w 0 4) (u2 g 0 20 0) 1).1, (fX7_refuse (w 0 0) (w 0 1) (w 0 2) (w 0 3) (w 0 4) (u2 g 0 20 0) 1).2) := (by unfold fX7_blend; rw [if_neg c1, if_pos c2])
      exact W.iret hx hb hr (fun t ht hW => ⟨⟨_, bd, rfl, by rw [e9], rfl, hG.2, by rw [e9]; exact MW.at ht hC⟩, hS.F ht⟩) hS.2.2 dX7_blend_26
