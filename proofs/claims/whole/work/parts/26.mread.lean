def fX7_gradeOf (na nb nc nd T : Nat) (g : Md) (lo : Int32) : Int32 := if (g (340 + lo.toNatClampNeg) 0) = (-1) then (if (g (340 + lo.toNatClampNeg) 1) = (-1) then (if (g (340 + lo.toNatClampNeg) 2) = (-1) then ((-1)) else ((0 + (g (340 + lo.toNatClampNeg) 2)) / 1)) else (if (g (340 + lo.toNatClampNeg) 2) = (-1) then ((0 + (g (340 + lo.toNatClampNeg) 1)) / 1) else (((0 + (g (340 + lo.toNatClampNeg) 1)) + (g (340 + lo.toNatClampNeg) 2)) / 2))) else (if (g (340 + lo.toNatClampNeg) 1) = (-1) then (if (g (340 + lo.toNatClampNeg) 2) = (-1) then ((0 + (g (340 + lo.toNatClampNeg) 0)) / 1) else (((0 + (g (340 + lo.toNatClampNeg) 0)) + (g (340 + lo.toNatClampNeg) 2)) / 2)) else (if (g (340 + lo.toNatClampNeg) 2) = (-1) then (((0 + (g (340 + lo.toNatClampNeg) 0)) + (g (340 + lo.toNatClampNeg) 1)) / 2) else ((((0 + (g (340 + lo.toNatClampNeg) 0)) + (g (340 + lo.toNatClampNeg) 1)) + (g (340 + lo.toNatClampNeg) 2)) / 3)))
theorem qX7_gradeOf_w1 : Cond.fieldLink RX7 30 "CherryStationModel" "readings" "[[I" ∈ wsX7_gradeOf := List.mem_of_getElem? (i := 1) rfl
theorem iX7_gradeOf_X7 : ∀ w ∈ wsX70, w ∈ wsX7_gradeOf := fun _ h => (List.mem_cons_of_mem _ (List.mem_append_right _ h))
set_option maxRecDepth 100000 in
set_option maxHeartbeats 4000000 in
theorem kX7_gradeOf (l : Launch) (D : va_G) (cy : Nat → ClassId) (e0 : Nat) {bd w : Nat → Nat → Nat} (g : Md) (S : Int64) (sz : Nat) (lo : Int32) (h_lo : vp_in lo (w 0 3)) : Met l yX7_gradeOf wsX7_gradeOf ({ frames := 0, cells := 0, slots := 0, locals := 0 } : Room) (va_Pc [.ref (bd 0 0), .int lo] (mPre D cy e0 bd w g S sz)) (mQi D cy bd w (fX7_gradeOf (w 0 0) (w 0 1) (w 0 2) (w 0 3) (w 0 4) g lo) g S sz) 0 0 (mA bd w sz) := by
  refine q_start (cc := cX7_gradeOf) (maxL := 8) (ret := (some .int)) (own := RX7) (by decide) rfl rfl (Nat.le_of_ble_eq_true rfl) ?_
  intro p e s m below meth c hx hb hr hml hts hown hlocks ⟨hsz, hC, hB⟩ ls hl
  subst hsz
  have hS : va_S (mA bd w s.heap.size) s.heap s.heap [] := va_S.rf
  have hG : mG e0 bd w s.heap.size bd w := mG.rf hB.2.2.1
  have hw0 := hC.1
  have hl : lv_has ls 8 [(0, .ref (bd 0 0)), (1, .int lo)] := hl
  refine lv_iconst (v := 0) hx hb dX7_gradeOf_0 (by decide) ?_
  refine lv_istore_n (lv' := [(2, .int 0), (0, .ref (bd 0 0)), (1, .int lo)]) hx hb dX7_gradeOf_1 rfl hl (by decide) rfl (fun ls hl => ?_)
  refine lv_iconst (v := 0) hx hb dX7_gradeOf_2 (by decide) ?_
  refine lv_istore_n (lv' := [(3, .int 0), (2, .int 0), (0, .ref (bd 0 0)), (1, .int lo)]) hx hb dX7_gradeOf_3 rfl hl (by decide) rfl (fun ls hl => ?_)
  refine lv_aload_n hx hb dX7_gradeOf_4 rfl (lv_at hl 2 rfl) ?_
  refine gt_m0_6 hx hb hts iX7_gradeOf_X7 hown hB.1 hC qX7_gradeOf_w1 dX7_gradeOf_5 ?_
  refine lv_iload_n hx hb dX7_gradeOf_8 rfl (lv_at hl 3 rfl) ?_
  refine la_m5 hx hb hB.1 hC (k := lo.toNatClampNeg) rfl (ix_wide h_lo (wNB_3 hw0)) dX7_gradeOf_9 ?_
  refine lv_astore (lv' := [(4, .ref (bd 3 (340 + lo.toNatClampNeg))), (3, .int 0), (2, .int 0), (0, .ref (bd 0 0)), (1, .int lo)]) hx hb dX7_gradeOf_10 hl (by decide) rfl (fun ls hl => ?_)
  refine lv_aload hx hb dX7_gradeOf_12 (lv_at hl 0 rfl) ?_
  refine ln_m hx hb hB.1 hC (rV_340 (vp_lt (ix_wide h_lo (wNB_3 hw0)))) 3 (rl_340 (vp_lt (ix_wide h_lo (wNB_3 hw0)))) dX7_gradeOf_14 ?_
  refine q_val (v := 3) (by decide) ?_
  refine lv_istore (lv' := [(5, .int 3), (4, .ref (bd 3 (340 + lo.toNatClampNeg))), (3, .int 0), (2, .int 0), (0, .ref (bd 0 0)), (1, .int lo)]) hx hb dX7_gradeOf_15 hl (by decide) rfl (fun ls hl => ?_)
  refine lv_iconst (v := 0) hx hb dX7_gradeOf_17 (by decide) ?_
  refine lv_istore (lv' := [(6, .int 0), (5, .int 3), (4, .ref (bd 3 (340 + lo.toNatClampNeg))), (3, .int 0), (2, .int 0), (0, .ref (bd 0 0)), (1, .int lo)]) hx hb dX7_gradeOf_18 hl (by decide) rfl (fun ls hl => ?_)
  refine lv_iload hx hb dX7_gradeOf_20 (lv_at hl 0 rfl) ?_
  refine lv_iload hx hb dX7_gradeOf_22 (lv_at hl 1 rfl) ?_
  refine lv_icmp_ge (tgt := 57) hx hb dX7_gradeOf_24 (by decide) (fun c => absurd c (by decide)) (fun _ => ?_)
  refine lv_aload hx hb dX7_gradeOf_27 (lv_at hl 2 rfl) ?_
  refine lv_iload hx hb dX7_gradeOf_29 (lv_at hl 0 rfl) ?_
  refine ld_m hx hb hB.1 hC (rV_340 (vp_lt (ix_wide h_lo (wNB_3 hw0)))) (rl_340 (vp_lt (ix_wide h_lo (wNB_3 hw0)))) (k := 0) (by decide) (by unfold vp_in; decide) dX7_gradeOf_31 ?_
  refine lv_istore (lv' := [(7, .int (g (340 + lo.toNatClampNeg) 0)), (6, .int 0), (5, .int 3), (4, .ref (bd 3 (340 + lo.toNatClampNeg))), (3, .int 0), (2, .int 0), (0, .ref (bd 0 0)), (1, .int lo)]) hx hb dX7_gradeOf_32 hl (by decide) rfl (fun ls hl => ?_)
  refine lv_iload hx hb dX7_gradeOf_34 (lv_at hl 0 rfl) ?_
  refine lv_iconst (v := (-1)) hx hb dX7_gradeOf_36 (by decide) ?_
  refine lv_icmp_ne (tgt := 43) hx hb dX7_gradeOf_37 (by decide) (fun c1 => ?_) (fun c1 => ?_)
  · skip
    refine lv_iload_n hx hb dX7_gradeOf_43 rfl (lv_at hl 5 rfl) ?_
    refine lv_iload hx hb dX7_gradeOf_44 (lv_at hl 0 rfl) ?_
    refine lv_iadd hx hb dX7_gradeOf_46 ?_
    refine lv_istore_n (lv' := [(2, .int (0 + (g (340 + lo.toNatClampNeg) 0))), (7, .int (g (340 + lo.toNatClampNeg) 0)), (6, .int 0), (5, .int 3), (4, .ref (bd 3 (340 + lo.toNatClampNeg))), (3, .int 0), (0, .ref (bd 0 0)), (1, .int lo)]) hx hb dX7_gradeOf_47 rfl hl (by decide) rfl (fun ls hl => ?_)
    refine lv_iinc (v := 1) (lv' := [(3, .int 1), (2, .int (0 + (g (340 + lo.toNatClampNeg) 0))), (7, .int (g (340 + lo.toNatClampNeg) 0)), (6, .int 0), (5, .int 3), (4, .ref (bd 3 (340 + lo.toNatClampNeg))), (0, .ref (bd 0 0)), (1, .int lo)]) hx hb dX7_gradeOf_48 hl (k := 5) rfl (by decide) (by decide) rfl (fun ls hl => ?_)
    refine lv_iinc (v := 1) (lv' := [(6, .int 1), (3, .int 1), (2, .int (0 + (g (340 + lo.toNatClampNeg) 0))), (7, .int (g (340 + lo.toNatClampNeg) 0)), (5, .int 3), (4, .ref (bd 3 (340 + lo.toNatClampNeg))), (0, .ref (bd 0 0)), (1, .int lo)]) hx hb dX7_gradeOf_51 hl (k := 3) rfl (by decide) (by decide) rfl (fun ls hl => ?_)
    refine lv_goto (tgt := 20) hx hb dX7_gradeOf_54 (by decide) ?_
    refine lv_iload hx hb dX7_gradeOf_20 (lv_at hl 0 rfl) ?_
    refine lv_iload hx hb dX7_gradeOf_22 (lv_at hl 4 rfl) ?_
    refine lv_icmp_ge (tgt := 57) hx hb dX7_gradeOf_24 (by decide) (fun c => absurd c (by decide)) (fun _ => ?_)
    refine lv_aload hx hb dX7_gradeOf_27 (lv_at hl 5 rfl) ?_
    refine lv_iload hx hb dX7_gradeOf_29 (lv_at hl 0 rfl) ?_
    refine ld_m hx hb hB.1 hC (rV_340 (vp_lt (ix_wide h_lo (wNB_3 hw0)))) (rl_340 (vp_lt (ix_wide h_lo (wNB_3 hw0)))) (k := 1) (by decide) (by unfold vp_in; decide) dX7_gradeOf_31 ?_
    refine lv_istore (lv' := [(7, .int (g (340 + lo.toNatClampNeg) 1)), (6, .int 1), (3, .int 1), (2, .int (0 + (g (340 + lo.toNatClampNeg) 0))), (5, .int 3), (4, .ref (bd 3 (340 + lo.toNatClampNeg))), (0, .ref (bd 0 0)), (1, .int lo)]) hx hb dX7_gradeOf_32 hl (by decide) rfl (fun ls hl => ?_)
    refine lv_iload hx hb dX7_gradeOf_34 (lv_at hl 0 rfl) ?_
    refine lv_iconst (v := (-1)) hx hb dX7_gradeOf_36 (by decide) ?_
    refine lv_icmp_ne (tgt := 43) hx hb dX7_gradeOf_37 (by decide) (fun c2 => ?_) (fun c2 => ?_)
    · skip
      refine lv_iload_n hx hb dX7_gradeOf_43 rfl (lv_at hl 3 rfl) ?_
      refine lv_iload hx hb dX7_gradeOf_44 (lv_at hl 0 rfl) ?_
      refine lv_iadd hx hb dX7_gradeOf_46 ?_
      refine lv_istore_n (lv' := [(2, .int ((0 + (g (340 + lo.toNatClampNeg) 0)) + (g (340 + lo.toNatClampNeg) 1))), (7, .int (g (340 + lo.toNatClampNeg) 1)), (6, .int 1), (3, .int 1), (5, .int 3), (4, .ref (bd 3 (340 + lo.toNatClampNeg))), (0, .ref (bd 0 0)), (1, .int lo)]) hx hb dX7_gradeOf_47 rfl hl (by decide) rfl (fun ls hl => ?_)
      refine lv_iinc (v := 2) (lv' := [(3, .int 2), (2, .int ((0 + (g (340 + lo.toNatClampNeg) 0)) + (g (340 + lo.toNatClampNeg) 1))), (7, .int (g (340 + lo.toNatClampNeg) 1)), (6, .int 1), (5, .int 3), (4, .ref (bd 3 (340 + lo.toNatClampNeg))), (0, .ref (bd 0 0)), (1, .int lo)]) hx hb dX7_gradeOf_48 hl (k := 3) rfl (by decide) (by decide) rfl (fun ls hl => ?_)
      refine lv_iinc (v := 2) (lv' := [(6, .int 2), (3, .int 2), (2, .int ((0 + (g (340 + lo.toNatClampNeg) 0)) + (g (340 + lo.toNatClampNeg) 1))), (7, .int (g (340 + lo.toNatClampNeg) 1)), (5, .int 3), (4, .ref (bd 3 (340 + lo.toNatClampNeg))), (0, .ref (bd 0 0)), (1, .int lo)]) hx hb dX7_gradeOf_51 hl (k := 3) rfl (by decide) (by decide) rfl (fun ls hl => ?_)
      refine lv_goto (tgt := 20) hx hb dX7_gradeOf_54 (by decide) ?_
      refine lv_iload hx hb dX7_gradeOf_20 (lv_at hl 0 rfl) ?_
      refine lv_iload hx hb dX7_gradeOf_22 (lv_at hl 4 rfl) ?_
      refine lv_icmp_ge (tgt := 57) hx hb dX7_gradeOf_24 (by decide) (fun c => absurd c (by decide)) (fun _ => ?_)
      refine lv_aload hx hb dX7_gradeOf_27 (lv_at hl 5 rfl) ?_
      refine lv_iload hx hb dX7_gradeOf_29 (lv_at hl 0 rfl) ?_
      refine ld_m hx hb hB.1 hC (rV_340 (vp_lt (ix_wide h_lo (wNB_3 hw0)))) (rl_340 (vp_lt (ix_wide h_lo (wNB_3 hw0)))) (k := 2) (by decide) (by unfold vp_in; decide) dX7_gradeOf_31 ?_
      refine lv_istore (lv' := [(7, .int (g (340 + lo.toNatClampNeg) 2)), (6, .int 2), (3, .int 2), (2, .int ((0 + (g (340 + lo.toNatClampNeg) 0)) + (g (340 + lo.toNatClampNeg) 1))), (5, .int 3), (4, .ref (bd 3 (340 + lo.toNatClampNeg))), (0, .ref (bd 0 0)), (1, .int lo)]) hx hb dX7_gradeOf_32 hl (by decide) rfl (fun ls hl => ?_)
      refine lv_iload hx hb dX7_gradeOf_34 (lv_at hl 0 rfl) ?_
      refine lv_iconst (v := (-1)) hx hb dX7_gradeOf_36 (by decide) ?_
      refine lv_icmp_ne (tgt := 43) hx hb dX7_gradeOf_37 (by decide) (fun c3 => ?_) (fun c3 => ?_)
      · skip
        refine lv_iload_n hx hb dX7_gradeOf_43 rfl (lv_at hl 3 rfl) ?_
        refine lv_iload hx hb dX7_gradeOf_44 (lv_at hl 0 rfl) ?_
        refine lv_iadd hx hb dX7_gradeOf_46 ?_
        refine lv_istore_n (lv' := [(2, .int (((0 + (g (340 + lo.toNatClampNeg) 0)) + (g (340 + lo.toNatClampNeg) 1)) + (g (340 + lo.toNatClampNeg) 2))), (7, .int (g (340 + lo.toNatClampNeg) 2)), (6, .int 2), (3, .int 2), (5, .int 3), (4, .ref (bd 3 (340 + lo.toNatClampNeg))), (0, .ref (bd 0 0)), (1, .int lo)]) hx hb dX7_gradeOf_47 rfl hl (by decide) rfl (fun ls hl => ?_)
        refine lv_iinc (v := 3) (lv' := [(3, .int 3), (2, .int (((0 + (g (340 + lo.toNatClampNeg) 0)) + (g (340 + lo.toNatClampNeg) 1)) + (g (340 + lo.toNatClampNeg) 2))), (7, .int (g (340 + lo.toNatClampNeg) 2)), (6, .int 2), (5, .int 3), (4, .ref (bd 3 (340 + lo.toNatClampNeg))), (0, .ref (bd 0 0)), (1, .int lo)]) hx hb dX7_gradeOf_48 hl (k := 3) rfl (by decide) (by decide) rfl (fun ls hl => ?_)
        refine lv_iinc (v := 3) (lv' := [(6, .int 3), (3, .int 3), (2, .int (((0 + (g (340 + lo.toNatClampNeg) 0)) + (g (340 + lo.toNatClampNeg) 1)) + (g (340 + lo.toNatClampNeg) 2))), (7, .int (g (340 + lo.toNatClampNeg) 2)), (5, .int 3), (4, .ref (bd 3 (340 + lo.toNatClampNeg))), (0, .ref (bd 0 0)), (1, .int lo)]) hx hb dX7_gradeOf_51 hl (k := 3) rfl (by decide) (by decide) rfl (fun ls hl => ?_)
        refine lv_goto (tgt := 20) hx hb dX7_gradeOf_54 (by decide) ?_
        refine lv_iload hx hb dX7_gradeOf_20 (lv_at hl 0 rfl) ?_
        refine lv_iload hx hb dX7_gradeOf_22 (lv_at hl 4 rfl) ?_
        refine lv_icmp_ge (tgt := 57) hx hb dX7_gradeOf_24 (by decide) (fun _ => ?_) (fun c => absurd c (by decide))
        refine lv_iload_n hx hb dX7_gradeOf_57 rfl (lv_at hl 1 rfl) ?_
        refine lv_if_ne (tgt := 65) hx hb dX7_gradeOf_58 (by decide) (fun _ => ?_) (fun c => absurd c (by decide))
        refine lv_iload_n hx hb dX7_gradeOf_65 rfl (lv_at hl 2 rfl) ?_
        refine lv_iload_n hx hb dX7_gradeOf_66 rfl (lv_at hl 1 rfl) ?_
        refine lv_idiv hx hb dX7_gradeOf_67 (by decide) ?_
        exact m_reti hx hb hr hG hC hS mEq_rf (by unfold fX7_gradeOf; rw [if_neg c1, if_neg c2, if_neg c3]) hlocks dX7_gradeOf_68
      · skip
        refine lv_goto (tgt := 51) hx hb dX7_gradeOf_40 (by decide) ?_
        refine lv_iinc (v := 3) (lv' := [(6, .int 3), (7, .int (g (340 + lo.toNatClampNeg) 2)), (3, .int 2), (2, .int ((0 + (g (340 + lo.toNatClampNeg) 0)) + (g (340 + lo.toNatClampNeg) 1))), (5, .int 3), (4, .ref (bd 3 (340 + lo.toNatClampNeg))), (0, .ref (bd 0 0)), (1, .int lo)]) hx hb dX7_gradeOf_51 hl (k := 1) rfl (by decide) (by decide) rfl (fun ls hl => ?_)
        refine lv_goto (tgt := 20) hx hb dX7_gradeOf_54 (by decide) ?_
        refine lv_iload hx hb dX7_gradeOf_20 (lv_at hl 0 rfl) ?_
        refine lv_iload hx hb dX7_gradeOf_22 (lv_at hl 4 rfl) ?_
        refine lv_icmp_ge (tgt := 57) hx hb dX7_gradeOf_24 (by decide) (fun _ => ?_) (fun c => absurd c (by decide))
        refine lv_iload_n hx hb dX7_gradeOf_57 rfl (lv_at hl 2 rfl) ?_
        refine lv_if_ne (tgt := 65) hx hb dX7_gradeOf_58 (by decide) (fun _ => ?_) (fun c => absurd c (by decide))
        refine lv_iload_n hx hb dX7_gradeOf_65 rfl (lv_at hl 3 rfl) ?_
        refine lv_iload_n hx hb dX7_gradeOf_66 rfl (lv_at hl 2 rfl) ?_
        refine lv_idiv hx hb dX7_gradeOf_67 (by decide) ?_
        exact m_reti hx hb hr hG hC hS mEq_rf (by unfold fX7_gradeOf; rw [if_neg c1, if_neg c2, if_pos c3]) hlocks dX7_gradeOf_68
    · skip
      refine lv_goto (tgt := 51) hx hb dX7_gradeOf_40 (by decide) ?_
      refine lv_iinc (v := 2) (lv' := [(6, .int 2), (7, .int (g (340 + lo.toNatClampNeg) 1)), (3, .int 1), (2, .int (0 + (g (340 + lo.toNatClampNeg) 0))), (5, .int 3), (4, .ref (bd 3 (340 + lo.toNatClampNeg))), (0, .ref (bd 0 0)), (1, .int lo)]) hx hb dX7_gradeOf_51 hl (k := 1) rfl (by decide) (by decide) rfl (fun ls hl => ?_)
      refine lv_goto (tgt := 20) hx hb dX7_gradeOf_54 (by decide) ?_
      refine lv_iload hx hb dX7_gradeOf_20 (lv_at hl 0 rfl) ?_
      refine lv_iload hx hb dX7_gradeOf_22 (lv_at hl 4 rfl) ?_
      refine lv_icmp_ge (tgt := 57) hx hb dX7_gradeOf_24 (by decide) (fun c => absurd c (by decide)) (fun _ => ?_)
      refine lv_aload hx hb dX7_gradeOf_27 (lv_at hl 5 rfl) ?_
      refine lv_iload hx hb dX7_gradeOf_29 (lv_at hl 0 rfl) ?_
      refine ld_m hx hb hB.1 hC (rV_340 (vp_lt (ix_wide h_lo (wNB_3 hw0)))) (rl_340 (vp_lt (ix_wide h_lo (wNB_3 hw0)))) (k := 2) (by decide) (by unfold vp_in; decide) dX7_gradeOf_31 ?_
      refine lv_istore (lv' := [(7, .int (g (340 + lo.toNatClampNeg) 2)), (6, .int 2), (3, .int 1), (2, .int (0 + (g (340 + lo.toNatClampNeg) 0))), (5, .int 3), (4, .ref (bd 3 (340 + lo.toNatClampNeg))), (0, .ref (bd 0 0)), (1, .int lo)]) hx hb dX7_gradeOf_32 hl (by decide) rfl (fun ls hl => ?_)
      refine lv_iload hx hb dX7_gradeOf_34 (lv_at hl 0 rfl) ?_
      refine lv_iconst (v := (-1)) hx hb dX7_gradeOf_36 (by decide) ?_
      refine lv_icmp_ne (tgt := 43) hx hb dX7_gradeOf_37 (by decide) (fun c4 => ?_) (fun c4 => ?_)
      · skip
        refine lv_iload_n hx hb dX7_gradeOf_43 rfl (lv_at hl 3 rfl) ?_
        refine lv_iload hx hb dX7_gradeOf_44 (lv_at hl 0 rfl) ?_
        refine lv_iadd hx hb dX7_gradeOf_46 ?_
        refine lv_istore_n (lv' := [(2, .int ((0 + (g (340 + lo.toNatClampNeg) 0)) + (g (340 + lo.toNatClampNeg) 2))), (7, .int (g (340 + lo.toNatClampNeg) 2)), (6, .int 2), (3, .int 1), (5, .int 3), (4, .ref (bd 3 (340 + lo.toNatClampNeg))), (0, .ref (bd 0 0)), (1, .int lo)]) hx hb dX7_gradeOf_47 rfl hl (by decide) rfl (fun ls hl => ?_)
        refine lv_iinc (v := 2) (lv' := [(3, .int 2), (2, .int ((0 + (g (340 + lo.toNatClampNeg) 0)) + (g (340 + lo.toNatClampNeg) 2))), (7, .int (g (340 + lo.toNatClampNeg) 2)), (6, .int 2), (5, .int 3), (4, .ref (bd 3 (340 + lo.toNatClampNeg))), (0, .ref (bd 0 0)), (1, .int lo)]) hx hb dX7_gradeOf_48 hl (k := 3) rfl (by decide) (by decide) rfl (fun ls hl => ?_)
        refine lv_iinc (v := 3) (lv' := [(6, .int 3), (3, .int 2), (2, .int ((0 + (g (340 + lo.toNatClampNeg) 0)) + (g (340 + lo.toNatClampNeg) 2))), (7, .int (g (340 + lo.toNatClampNeg) 2)), (5, .int 3), (4, .ref (bd 3 (340 + lo.toNatClampNeg))), (0, .ref (bd 0 0)), (1, .int lo)]) hx hb dX7_gradeOf_51 hl (k := 3) rfl (by decide) (by decide) rfl (fun ls hl => ?_)
        refine lv_goto (tgt := 20) hx hb dX7_gradeOf_54 (by decide) ?_
        refine lv_iload hx hb dX7_gradeOf_20 (lv_at hl 0 rfl) ?_
        refine lv_iload hx hb dX7_gradeOf_22 (lv_at hl 4 rfl) ?_
        refine lv_icmp_ge (tgt := 57) hx hb dX7_gradeOf_24 (by decide) (fun _ => ?_) (fun c => absurd c (by decide))
        refine lv_iload_n hx hb dX7_gradeOf_57 rfl (lv_at hl 1 rfl) ?_
        refine lv_if_ne (tgt := 65) hx hb dX7_gradeOf_58 (by decide) (fun _ => ?_) (fun c => absurd c (by decide))
        refine lv_iload_n hx hb dX7_gradeOf_65 rfl (lv_at hl 2 rfl) ?_
        refine lv_iload_n hx hb dX7_gradeOf_66 rfl (lv_at hl 1 rfl) ?_
        refine lv_idiv hx hb dX7_gradeOf_67 (by decide) ?_
        exact m_reti hx hb hr hG hC hS mEq_rf (by unfold fX7_gradeOf; rw [if_neg c1, if_pos c2, if_neg c4]) hlocks dX7_gradeOf_68
      · skip
        refine lv_goto (tgt := 51) hx hb dX7_gradeOf_40 (by decide) ?_
        refine lv_iinc (v := 3) (lv' := [(6, .int 3), (7, .int (g (340 + lo.toNatClampNeg) 2)), (3, .int 1), (2, .int (0 + (g (340 + lo.toNatClampNeg) 0))), (5, .int 3), (4, .ref (bd 3 (340 + lo.toNatClampNeg))), (0, .ref (bd 0 0)), (1, .int lo)]) hx hb dX7_gradeOf_51 hl (k := 1) rfl (by decide) (by decide) rfl (fun ls hl => ?_)
        refine lv_goto (tgt := 20) hx hb dX7_gradeOf_54 (by decide) ?_
        refine lv_iload hx hb dX7_gradeOf_20 (lv_at hl 0 rfl) ?_
        refine lv_iload hx hb dX7_gradeOf_22 (lv_at hl 4 rfl) ?_
        refine lv_icmp_ge (tgt := 57) hx hb dX7_gradeOf_24 (by decide) (fun _ => ?_) (fun c => absurd c (by decide))
        refine lv_iload_n hx hb dX7_gradeOf_57 rfl (lv_at hl 2 rfl) ?_
        refine lv_if_ne (tgt := 65) hx hb dX7_gradeOf_58 (by decide) (fun _ => ?_) (fun c => absurd c (by decide))
        refine lv_iload_n hx hb dX7_gradeOf_65 rfl (lv_at hl 3 rfl) ?_
        refine lv_iload_n hx hb dX7_gradeOf_66 rfl (lv_at hl 2 rfl) ?_
        refine lv_idiv hx hb dX7_gradeOf_67 (by decide) ?_
        exact m_reti hx hb hr hG hC hS mEq_rf (by unfold fX7_gradeOf; rw [if_neg c1, if_pos c2, if_pos c4]) hlocks dX7_gradeOf_68
  · skip
    refine lv_goto (tgt := 51) hx hb dX7_gradeOf_40 (by decide) ?_
    refine lv_iinc (v := 1) (lv' := [(6, .int 1), (7, .int (g (340 + lo.toNatClampNeg) 0)), (5, .int 3), (4, .ref (bd 3 (340 + lo.toNatClampNeg))), (3, .int 0), (2, .int 0), (0, .ref (bd 0 0)), (1, .int lo)]) hx hb dX7_gradeOf_51 hl (k := 1) rfl (by decide) (by decide) rfl (fun ls hl => ?_)
    refine lv_goto (tgt := 20) hx hb dX7_gradeOf_54 (by decide) ?_
    refine lv_iload hx hb dX7_gradeOf_20 (lv_at hl 0 rfl) ?_
    refine lv_iload hx hb dX7_gradeOf_22 (lv_at hl 2 rfl) ?_
    refine lv_icmp_ge (tgt := 57) hx hb dX7_gradeOf_24 (by decide) (fun c => absurd c (by decide)) (fun _ => ?_)
    refine lv_aload hx hb dX7_gradeOf_27 (lv_at hl 3 rfl) ?_
    refine lv_iload hx hb dX7_gradeOf_29 (lv_at hl 0 rfl) ?_
    refine ld_m hx hb hB.1 hC (rV_340 (vp_lt (ix_wide h_lo (wNB_3 hw0)))) (rl_340 (vp_lt (ix_wide h_lo (wNB_3 hw0)))) (k := 1) (by decide) (by unfold vp_in; decide) dX7_gradeOf_31 ?_
    refine lv_istore (lv' := [(7, .int (g (340 + lo.toNatClampNeg) 1)), (6, .int 1), (5, .int 3), (4, .ref (bd 3 (340 + lo.toNatClampNeg))), (3, .int 0), (2, .int 0), (0, .ref (bd 0 0)), (1, .int lo)]) hx hb dX7_gradeOf_32 hl (by decide) rfl (fun ls hl => ?_)
    refine lv_iload hx hb dX7_gradeOf_34 (lv_at hl 0 rfl) ?_
    refine lv_iconst (v := (-1)) hx hb dX7_gradeOf_36 (by decide) ?_
    refine lv_icmp_ne (tgt := 43) hx hb dX7_gradeOf_37 (by decide) (fun c5 => ?_) (fun c5 => ?_)
    · skip
      refine lv_iload_n hx hb dX7_gradeOf_43 rfl (lv_at hl 5 rfl) ?_
      refine lv_iload hx hb dX7_gradeOf_44 (lv_at hl 0 rfl) ?_
      refine lv_iadd hx hb dX7_gradeOf_46 ?_
      refine lv_istore_n (lv' := [(2, .int (0 + (g (340 + lo.toNatClampNeg) 1))), (7, .int (g (340 + lo.toNatClampNeg) 1)), (6, .int 1), (5, .int 3), (4, .ref (bd 3 (340 + lo.toNatClampNeg))), (3, .int 0), (0, .ref (bd 0 0)), (1, .int lo)]) hx hb dX7_gradeOf_47 rfl hl (by decide) rfl (fun ls hl => ?_)
      refine lv_iinc (v := 1) (lv' := [(3, .int 1), (2, .int (0 + (g (340 + lo.toNatClampNeg) 1))), (7, .int (g (340 + lo.toNatClampNeg) 1)), (6, .int 1), (5, .int 3), (4, .ref (bd 3 (340 + lo.toNatClampNeg))), (0, .ref (bd 0 0)), (1, .int lo)]) hx hb dX7_gradeOf_48 hl (k := 5) rfl (by decide) (by decide) rfl (fun ls hl => ?_)
      refine lv_iinc (v := 2) (lv' := [(6, .int 2), (3, .int 1), (2, .int (0 + (g (340 + lo.toNatClampNeg) 1))), (7, .int (g (340 + lo.toNatClampNeg) 1)), (5, .int 3), (4, .ref (bd 3 (340 + lo.toNatClampNeg))), (0, .ref (bd 0 0)), (1, .int lo)]) hx hb dX7_gradeOf_51 hl (k := 3) rfl (by decide) (by decide) rfl (fun ls hl => ?_)
      refine lv_goto (tgt := 20) hx hb dX7_gradeOf_54 (by decide) ?_
      refine lv_iload hx hb dX7_gradeOf_20 (lv_at hl 0 rfl) ?_
      refine lv_iload hx hb dX7_gradeOf_22 (lv_at hl 4 rfl) ?_
      refine lv_icmp_ge (tgt := 57) hx hb dX7_gradeOf_24 (by decide) (fun c => absurd c (by decide)) (fun _ => ?_)
      refine lv_aload hx hb dX7_gradeOf_27 (lv_at hl 5 rfl) ?_
      refine lv_iload hx hb dX7_gradeOf_29 (lv_at hl 0 rfl) ?_
      refine ld_m hx hb hB.1 hC (rV_340 (vp_lt (ix_wide h_lo (wNB_3 hw0)))) (rl_340 (vp_lt (ix_wide h_lo (wNB_3 hw0)))) (k := 2) (by decide) (by unfold vp_in; decide) dX7_gradeOf_31 ?_
      refine lv_istore (lv' := [(7, .int (g (340 + lo.toNatClampNeg) 2)), (6, .int 2), (3, .int 1), (2, .int (0 + (g (340 + lo.toNatClampNeg) 1))), (5, .int 3), (4, .ref (bd 3 (340 + lo.toNatClampNeg))), (0, .ref (bd 0 0)), (1, .int lo)]) hx hb dX7_gradeOf_32 hl (by decide) rfl (fun ls hl => ?_)
      refine lv_iload hx hb dX7_gradeOf_34 (lv_at hl 0 rfl) ?_
      refine lv_iconst (v := (-1)) hx hb dX7_gradeOf_36 (by decide) ?_
      refine lv_icmp_ne (tgt := 43) hx hb dX7_gradeOf_37 (by decide) (fun c6 => ?_) (fun c6 => ?_)
      · skip
        refine lv_iload_n hx hb dX7_gradeOf_43 rfl (lv_at hl 3 rfl) ?_
        refine lv_iload hx hb dX7_gradeOf_44 (lv_at hl 0 rfl) ?_
        refine lv_iadd hx hb dX7_gradeOf_46 ?_
        refine lv_istore_n (lv' := [(2, .int ((0 + (g (340 + lo.toNatClampNeg) 1)) + (g (340 + lo.toNatClampNeg) 2))), (7, .int (g (340 + lo.toNatClampNeg) 2)), (6, .int 2), (3, .int 1), (5, .int 3), (4, .ref (bd 3 (340 + lo.toNatClampNeg))), (0, .ref (bd 0 0)), (1, .int lo)]) hx hb dX7_gradeOf_47 rfl hl (by decide) rfl (fun ls hl => ?_)
        refine lv_iinc (v := 2) (lv' := [(3, .int 2), (2, .int ((0 + (g (340 + lo.toNatClampNeg) 1)) + (g (340 + lo.toNatClampNeg) 2))), (7, .int (g (340 + lo.toNatClampNeg) 2)), (6, .int 2), (5, .int 3), (4, .ref (bd 3 (340 + lo.toNatClampNeg))), (0, .ref (bd 0 0)), (1, .int lo)]) hx hb dX7_gradeOf_48 hl (k := 3) rfl (by decide) (by decide) rfl (fun ls hl => ?_)
        refine lv_iinc (v := 3) (lv' := [(6, .int 3), (3, .int 2), (2, .int ((0 + (g (340 + lo.toNatClampNeg) 1)) + (g (340 + lo.toNatClampNeg) 2))), (7, .int (g (340 + lo.toNatClampNeg) 2)), (5, .int 3), (4, .ref (bd 3 (340 + lo.toNatClampNeg))), (0, .ref (bd 0 0)), (1, .int lo)]) hx hb dX7_gradeOf_51 hl (k := 3) rfl (by decide) (by decide) rfl (fun ls hl => ?_)
        refine lv_goto (tgt := 20) hx hb dX7_gradeOf_54 (by decide) ?_
        refine lv_iload hx hb dX7_gradeOf_20 (lv_at hl 0 rfl) ?_
        refine lv_iload hx hb dX7_gradeOf_22 (lv_at hl 4 rfl) ?_
        refine lv_icmp_ge (tgt := 57) hx hb dX7_gradeOf_24 (by decide) (fun _ => ?_) (fun c => absurd c (by decide))
        refine lv_iload_n hx hb dX7_gradeOf_57 rfl (lv_at hl 1 rfl) ?_
        refine lv_if_ne (tgt := 65) hx hb dX7_gradeOf_58 (by decide) (fun _ => ?_) (fun c => absurd c (by decide))
        refine lv_iload_n hx hb dX7_gradeOf_65 rfl (lv_at hl 2 rfl) ?_
        refine lv_iload_n hx hb dX7_gradeOf_66 rfl (lv_at hl 1 rfl) ?_
        refine lv_idiv hx hb dX7_gradeOf_67 (by decide) ?_
        exact m_reti hx hb hr hG hC hS mEq_rf (by unfold fX7_gradeOf; rw [if_pos c1, if_neg c5, if_neg c6]) hlocks dX7_gradeOf_68
      · skip
        refine lv_goto (tgt := 51) hx hb dX7_gradeOf_40 (by decide) ?_
        refine lv_iinc (v := 3) (lv' := [(6, .int 3), (7, .int (g (340 + lo.toNatClampNeg) 2)), (3, .int 1), (2, .int (0 + (g (340 + lo.toNatClampNeg) 1))), (5, .int 3), (4, .ref (bd 3 (340 + lo.toNatClampNeg))), (0, .ref (bd 0 0)), (1, .int lo)]) hx hb dX7_gradeOf_51 hl (k := 1) rfl (by decide) (by decide) rfl (fun ls hl => ?_)
        refine lv_goto (tgt := 20) hx hb dX7_gradeOf_54 (by decide) ?_
        refine lv_iload hx hb dX7_gradeOf_20 (lv_at hl 0 rfl) ?_
        refine lv_iload hx hb dX7_gradeOf_22 (lv_at hl 4 rfl) ?_
        refine lv_icmp_ge (tgt := 57) hx hb dX7_gradeOf_24 (by decide) (fun _ => ?_) (fun c => absurd c (by decide))
        refine lv_iload_n hx hb dX7_gradeOf_57 rfl (lv_at hl 2 rfl) ?_
        refine lv_if_ne (tgt := 65) hx hb dX7_gradeOf_58 (by decide) (fun _ => ?_) (fun c => absurd c (by decide))
        refine lv_iload_n hx hb dX7_gradeOf_65 rfl (lv_at hl 3 rfl) ?_
        refine lv_iload_n hx hb dX7_gradeOf_66 rfl (lv_at hl 2 rfl) ?_
        refine lv_idiv hx hb dX7_gradeOf_67 (by decide) ?_
        exact m_reti hx hb hr hG hC hS mEq_rf (by unfold fX7_gradeOf; rw [if_pos c1, if_neg c5, if_pos c6]) hlocks dX7_gradeOf_68
    · skip
      refine lv_goto (tgt := 51) hx hb dX7_gradeOf_40 (by decide) ?_
      refine lv_iinc (v := 2) (lv' := [(6, .int 2), (7, .int (g (340 + lo.toNatClampNeg) 1)), (5, .int 3), (4, .ref (bd 3 (340 + lo.toNatClampNeg))), (3, .int 0), (2, .int 0), (0, .ref (bd 0 0)), (1, .int lo)]) hx hb dX7_gradeOf_51 hl (k := 1) rfl (by decide) (by decide) rfl (fun ls hl => ?_)
      refine lv_goto (tgt := 20) hx hb dX7_gradeOf_54 (by decide) ?_
      refine lv_iload hx hb dX7_gradeOf_20 (lv_at hl 0 rfl) ?_
      refine lv_iload hx hb dX7_gradeOf_22 (lv_at hl 2 rfl) ?_
      refine lv_icmp_ge (tgt := 57) hx hb dX7_gradeOf_24 (by decide) (fun c => absurd c (by decide)) (fun _ => ?_)
      refine lv_aload hx hb dX7_gradeOf_27 (lv_at hl 3 rfl) ?_
      refine lv_iload hx hb dX7_gradeOf_29 (lv_at hl 0 rfl) ?_
      refine ld_m hx hb hB.1 hC (rV_340 (vp_lt (ix_wide h_lo (wNB_3 hw0)))) (rl_340 (vp_lt (ix_wide h_lo (wNB_3 hw0)))) (k := 2) (by decide) (by unfold vp_in; decide) dX7_gradeOf_31 ?_
      refine lv_istore (lv' := [(7, .int (g (340 + lo.toNatClampNeg) 2)), (6, .int 2), (5, .int 3), (4, .ref (bd 3 (340 + lo.toNatClampNeg))), (3, .int 0), (2, .int 0), (0, .ref (bd 0 0)), (1, .int lo)]) hx hb dX7_gradeOf_32 hl (by decide) rfl (fun ls hl => ?_)
      refine lv_iload hx hb dX7_gradeOf_34 (lv_at hl 0 rfl) ?_
      refine lv_iconst (v := (-1)) hx hb dX7_gradeOf_36 (by decide) ?_
      refine lv_icmp_ne (tgt := 43) hx hb dX7_gradeOf_37 (by decide) (fun c7 => ?_) (fun c7 => ?_)
      · skip
        refine lv_iload_n hx hb dX7_gradeOf_43 rfl (lv_at hl 5 rfl) ?_
        refine lv_iload hx hb dX7_gradeOf_44 (lv_at hl 0 rfl) ?_
        refine lv_iadd hx hb dX7_gradeOf_46 ?_
        refine lv_istore_n (lv' := [(2, .int (0 + (g (340 + lo.toNatClampNeg) 2))), (7, .int (g (340 + lo.toNatClampNeg) 2)), (6, .int 2), (5, .int 3), (4, .ref (bd 3 (340 + lo.toNatClampNeg))), (3, .int 0), (0, .ref (bd 0 0)), (1, .int lo)]) hx hb dX7_gradeOf_47 rfl hl (by decide) rfl (fun ls hl => ?_)
        refine lv_iinc (v := 1) (lv' := [(3, .int 1), (2, .int (0 + (g (340 + lo.toNatClampNeg) 2))), (7, .int (g (340 + lo.toNatClampNeg) 2)), (6, .int 2), (5, .int 3), (4, .ref (bd 3 (340 + lo.toNatClampNeg))), (0, .ref (bd 0 0)), (1, .int lo)]) hx hb dX7_gradeOf_48 hl (k := 5) rfl (by decide) (by decide) rfl (fun ls hl => ?_)
        refine lv_iinc (v := 3) (lv' := [(6, .int 3), (3, .int 1), (2, .int (0 + (g (340 + lo.toNatClampNeg) 2))), (7, .int (g (340 + lo.toNatClampNeg) 2)), (5, .int 3), (4, .ref (bd 3 (340 + lo.toNatClampNeg))), (0, .ref (bd 0 0)), (1, .int lo)]) hx hb dX7_gradeOf_51 hl (k := 3) rfl (by decide) (by decide) rfl (fun ls hl => ?_)
        refine lv_goto (tgt := 20) hx hb dX7_gradeOf_54 (by decide) ?_
        refine lv_iload hx hb dX7_gradeOf_20 (lv_at hl 0 rfl) ?_
        refine lv_iload hx hb dX7_gradeOf_22 (lv_at hl 4 rfl) ?_
        refine lv_icmp_ge (tgt := 57) hx hb dX7_gradeOf_24 (by decide) (fun _ => ?_) (fun c => absurd c (by decide))
        refine lv_iload_n hx hb dX7_gradeOf_57 rfl (lv_at hl 1 rfl) ?_
        refine lv_if_ne (tgt := 65) hx hb dX7_gradeOf_58 (by decide) (fun _ => ?_) (fun c => absurd c (by decide))
        refine lv_iload_n hx hb dX7_gradeOf_65 rfl (lv_at hl 2 rfl) ?_
        refine lv_iload_n hx hb dX7_gradeOf_66 rfl (lv_at hl 1 rfl) ?_
        refine lv_idiv hx hb dX7_gradeOf_67 (by decide) ?_
        exact m_reti hx hb hr hG hC hS mEq_rf (by unfold fX7_gradeOf; rw [if_pos c1, if_pos c5, if_neg c7]) hlocks dX7_gradeOf_68
      · skip
        refine lv_goto (tgt := 51) hx hb dX7_gradeOf_40 (by decide) ?_
        refine lv_iinc (v := 3) (lv' := [(6, .int 3), (7, .int (g (340 + lo.toNatClampNeg) 2)), (5, .int 3), (4, .ref (bd 3 (340 + lo.toNatClampNeg))), (3, .int 0), (2, .int 0), (0, .ref (bd 0 0)), (1, .int lo)]) hx hb dX7_gradeOf_51 hl (k := 1) rfl (by decide) (by decide) rfl (fun ls hl => ?_)
        refine lv_goto (tgt := 20) hx hb dX7_gradeOf_54 (by decide) ?_
        refine lv_iload hx hb dX7_gradeOf_20 (lv_at hl 0 rfl) ?_
        refine lv_iload hx hb dX7_gradeOf_22 (lv_at hl 2 rfl) ?_
        refine lv_icmp_ge (tgt := 57) hx hb dX7_gradeOf_24 (by decide) (fun _ => ?_) (fun c => absurd c (by decide))
        refine lv_iload_n hx hb dX7_gradeOf_57 rfl (lv_at hl 4 rfl) ?_
        refine lv_if_ne (tgt := 65) hx hb dX7_gradeOf_58 (by decide) (fun c => absurd c (by decide)) (fun _ => ?_)
        refine lv_iconst (v := (-1)) hx hb dX7_gradeOf_61 (by decide) ?_
        refine lv_goto (tgt := 68) hx hb dX7_gradeOf_62 (by decide) ?_
        exact m_reti hx hb hr hG hC hS mEq_rf (by unfold fX7_gradeOf; rw [if_pos c1, if_pos c5, if_pos c7]) hlocks dX7_gradeOf_68
def fX7_brings (na nb nc nd T : Nat) (g : Md) (lo : Int32) (pr : Int32) (lb : Int32) : Int32 := if lb = 0 then (((g (308 + lo.toNatClampNeg) 0) * pr) + 0) else (if (fX7_gradeOf na nb nc nd T g lo) < 80 then (((g (308 + lo.toNatClampNeg) 0) * pr) + 0) else (((g (308 + lo.toNatClampNeg) 0) * pr) + (10 * (fX7_sum na nb nc nd T g (308 + lo.toNatClampNeg) 17))))
theorem qX7_brings_w1 : Cond.fieldLink RX7 27 "CherryStationModel" "lots" "Ljava/util/ArrayList;" ∈ wsX7_brings := List.mem_of_getElem? (i := 1) rfl
theorem qX7_brings_w2 : Cond.classLink RX7 72 "[I" ∈ wsX7_brings := List.mem_of_getElem? (i := 2) rfl
theorem iX7_brings_X7 : ∀ w ∈ wsX70, w ∈ wsX7_brings := fun _ h => (List.mem_cons_of_mem _ (List.mem_append_left _ (List.mem_append_right _ h)))
set_option maxRecDepth 100000 in
set_option maxHeartbeats 4000000 in
theorem kX7_brings (l : Launch) (D : va_G) (cy : Nat → ClassId) (e0 : Nat) {bd w : Nat → Nat → Nat} (g : Md) (S : Int64) (sz : Nat) (lo : Int32) (h_lo : vp_in lo (w 0 3)) (pr : Int32) (lb : Int32) : Met l yX7_brings wsX7_brings ({ frames := 3, cells := 0, slots := 0, locals := 64 } : Room) (va_Pc [.ref (bd 0 0), .int lo, .int pr, .int lb] (mPre D cy e0 bd w g S sz)) (mQi D cy bd w (fX7_brings (w 0 0) (w 0 1) (w 0 2) (w 0 3) (w 0 4) g lo pr lb) g S sz) 0 0 (mA bd w sz) := by
  refine q_start (cc := cX7_brings) (maxL := 5) (ret := (some .int)) (own := RX7) (by decide) rfl rfl (Nat.le_of_ble_eq_true rfl) ?_
  intro p e s m below meth c hx hb hr hml hts hown hlocks ⟨hsz, hC, hB⟩ ls hl
  subst hsz
  have hS : va_S (mA bd w s.heap.size) s.heap s.heap [] := va_S.rf
  have hG : mG e0 bd w s.heap.size bd w := mG.rf hB.2.2.1
  have hw0 := hC.1
  have hl : lv_has ls 5 [(0, .ref (bd 0 0)), (1, .int lo), (2, .int pr), (3, .int lb)] := hl
  refine lv_aload_n hx hb dX7_brings_0 rfl (lv_at hl 0 rfl) ?_
  refine gt_m0_5 hx hb hts iX7_brings_X7 hown hB.1 hC qX7_brings_w1 dX7_brings_1 ?_
  refine lv_iload_n hx hb dX7_brings_4 rfl (lv_at hl 1 rfl) ?_
  refine m_callVr (As := [.int lo]) (κ := 1) (i := 3) (show 3 < 4 by decide) rfl ⟨_, rfl⟩ rfl ⟨hx, hb, hml, hown, hts⟩ (kJx4a65c_get_915e3 l D cy e0 (bd := bd) (w := w) g S _ 3 (show 3 < 4 by decide) lo h_lo) (cwV 1 hts gX7_brings_Jx4a65c_get_915e3 rfl rfl rfl (by decide +kernel) ⟨Nat.le_of_ble_eq_true rfl, Nat.le_of_ble_eq_true rfl⟩) hB hG.2 hC hS rfl hl.1 (Nat.le_of_ble_eq_true rfl) dX7_brings_5 ⟨Nat.le_of_ble_eq_true rfl, Nat.le_of_ble_eq_true rfl⟩ (fun H locs hC hS => ?_)
  refine m_stk (st' := [.ref (bd 3 (308 + lo.toNatClampNeg))]) rfl ?_
  refine m_cast hx hb hown (hts _ qX7_brings_w2) hB.1 hC (rV_308 (vp_lt h_lo)) dX7_brings_8 ?_
  refine lv_astore (lv' := [(4, .ref (bd 3 (308 + lo.toNatClampNeg))), (0, .ref (bd 0 0)), (1, .int lo), (2, .int pr), (3, .int lb)]) hx hb dX7_brings_11 hl (by decide) rfl (fun ls hl => ?_)
  refine lv_aload hx hb dX7_brings_13 (lv_at hl 0 rfl) ?_
  refine lv_iconst (v := 0) hx hb dX7_brings_15 (by decide) ?_
  refine ld_m hx hb hB.1 hC (rV_308 (vp_lt h_lo)) (rl_308 hC.1 (vp_lt h_lo)) (k := 0) (by decide) (by unfold vp_in; decide) dX7_brings_16 ?_
  refine lv_iload_n hx hb dX7_brings_17 rfl (lv_at hl 3 rfl) ?_
  refine lv_imul hx hb dX7_brings_18 ?_
  refine lv_iload_n hx hb dX7_brings_19 rfl (lv_at hl 4 rfl) ?_
  refine lv_if_eq (tgt := 46) hx hb dX7_brings_20 (by decide) (fun c1 => ?_) (fun c1 => ?_)
  · skip
    refine lv_iconst (v := 0) hx hb dX7_brings_46 (by decide) ?_
    refine lv_iadd hx hb dX7_brings_47 ?_
    exact m_reti hx hb hr hG hC hS mEq_rf (by unfold fX7_brings; rw [if_pos c1]) hlocks dX7_brings_48
  · skip
    refine lv_aload_n hx hb dX7_brings_23 rfl (lv_at hl 1 rfl) ?_
    refine lv_iload_n hx hb dX7_brings_24 rfl (lv_at hl 2 rfl) ?_
    refine m_callVi (As := [.int lo]) (κ := 0) (i := 0) rfl rfl ⟨_, rfl⟩ rfl ⟨hx, hb, hml, hown, hts⟩ (kX7_gradeOf l D cy e0 (bd := bd) (w := w) g S _ lo h_lo ) (cwV 1 hts gX7_brings_X7_gradeOf rfl rfl rfl (by decide +kernel) ⟨Nat.le_of_ble_eq_true rfl, Nat.le_of_ble_eq_true rfl⟩) hB hG.2 hC hS rfl hl.1 (Nat.le_of_ble_eq_true rfl) dX7_brings_25 ⟨Nat.le_of_ble_eq_true rfl, Nat.le_of_ble_eq_true rfl⟩ (fun H locs hC hS => ?_)
    refine lv_bipush (v := 80) hx hb dX7_brings_28 (by decide) ?_
    refine lv_icmp_lt (tgt := 46) hx hb dX7_brings_30 (by decide) (fun c2 => ?_) (fun c2 => ?_)
    · skip
      refine lv_iconst (v := 0) hx hb dX7_brings_46 (by decide) ?_
      refine lv_iadd hx hb dX7_brings_47 ?_
      exact m_reti hx hb hr hG hC hS mEq_rf (by unfold fX7_brings; rw [if_neg c1, if_pos c2]) hlocks dX7_brings_48
    · skip
      refine lv_bipush (v := 10) hx hb dX7_brings_33 (by decide) ?_
      refine lv_aload hx hb dX7_brings_35 (lv_at hl 0 rfl) ?_
      refine lv_bipush (v := 17) hx hb dX7_brings_37 (by decide) ?_
      refine m_callSi (As := [.ref (bd 3 (308 + lo.toNatClampNeg)), .int 17])  ⟨hx, hb, hml, hown, hts⟩ (kX7_sum l D cy e0 (bd := bd) (w := w) g S _ (308 + lo.toNatClampNeg) (rV_308 (vp_lt h_lo)) (rl_308 hC.1 (vp_lt h_lo)) 17 (by unfold vp_in; decide) (by unfold vp_in; decide) (by unfold vp_in; decide) (by unfold vp_in; decide) (by unfold vp_in; decide) (by unfold vp_in; decide)) (va_cwS 2 hts gX7_brings_X7_sum rfl rfl rfl (by decide +kernel) ⟨Nat.le_of_ble_eq_true rfl, Nat.le_of_ble_eq_true rfl⟩) hB hG.2 hC hS rfl hl.1 (Nat.le_of_ble_eq_true rfl) dX7_brings_39 ⟨Nat.le_of_ble_eq_true rfl, Nat.le_of_ble_eq_true rfl⟩ (fun H locs hC hS => ?_)
      refine lv_imul hx hb dX7_brings_42 ?_
      refine lv_goto (tgt := 47) hx hb dX7_brings_43 (by decide) ?_
      refine lv_iadd hx hb dX7_brings_47 ?_
      exact m_reti hx hb hr hG hC hS mEq_rf (by unfold fX7_brings; rw [if_neg c1, if_neg c2]) hlocks dX7_brings_48
def fX7_share (na nb nc nd T : Nat) (g : Md) (lo : Int32) (fa : Int32) (pr : Int32) (lb : Int32) : Int32 := (((((fX7_brings na nb nc nd T g lo pr lb).toInt64) * ((g (308 + lo.toNatClampNeg) (11 + fa.toNatClampNeg)).toInt64)) * 2) / (5 * ((g (308 + lo.toNatClampNeg) 0).toInt64))).toInt32
theorem qX7_share_w1 : Cond.fieldLink RX7 27 "CherryStationModel" "lots" "Ljava/util/ArrayList;" ∈ wsX7_share := List.mem_of_getElem? (i := 1) rfl
theorem qX7_share_w2 : Cond.classLink RX7 72 "[I" ∈ wsX7_share := List.mem_of_getElem? (i := 2) rfl
theorem qX7_share_w3 : Cond.constantLong RX7 203 (2) ∈ wsX7_share := List.mem_of_getElem? (i := 3) rfl
theorem qX7_share_w4 : Cond.constantLong RX7 205 (5) ∈ wsX7_share := List.mem_of_getElem? (i := 4) rfl
theorem iX7_share_X7 : ∀ w ∈ wsX70, w ∈ wsX7_share := fun _ h => (List.mem_cons_of_mem _ (List.mem_append_left _ (List.mem_append_right _ h)))
set_option maxRecDepth 100000 in
set_option maxHeartbeats 4000000 in
theorem kX7_share (l : Launch) (D : va_G) (cy : Nat → ClassId) (e0 : Nat) {bd w : Nat → Nat → Nat} (g : Md) (S : Int64) (sz : Nat) (lo : Int32) (h_lo : vp_in lo (w 0 3)) (fa : Int32) (h_fa : vp_in fa (w 0 0)) (pr : Int32) (lb : Int32) (hp1 : (¬ (5 * ((g (308 + lo.toNatClampNeg) 0).toInt64)) = 0)) : Met l yX7_share wsX7_share ({ frames := 4, cells := 0, slots := 0, locals := 88 } : Room) (va_Pc [.ref (bd 0 0), .int lo, .int fa, .int pr, .int lb] (mPre D cy e0 bd w g S sz)) (mQi D cy bd w (fX7_share (w 0 0) (w 0 1) (w 0 2) (w 0 3) (w 0 4) g lo fa pr lb) g S sz) 0 0 (mA bd w sz) := by
  refine q_start (cc := cX7_share) (maxL := 6) (ret := (some .int)) (own := RX7) (by decide) rfl rfl (Nat.le_of_ble_eq_true rfl) ?_
  intro p e s m below meth c hx hb hr hml hts hown hlocks ⟨hsz, hC, hB⟩ ls hl
  subst hsz
  have hS : va_S (mA bd w s.heap.size) s.heap s.heap [] := va_S.rf
  have hG : mG e0 bd w s.heap.size bd w := mG.rf hB.2.2.1
  have hw0 := hC.1
  have hl : lv_has ls 6 [(0, .ref (bd 0 0)), (1, .int lo), (2, .int fa), (3, .int pr), (4, .int lb)] := hl
  refine lv_aload_n hx hb dX7_share_0 rfl (lv_at hl 0 rfl) ?_
  refine gt_m0_5 hx hb hts iX7_share_X7 hown hB.1 hC qX7_share_w1 dX7_share_1 ?_
  refine lv_iload_n hx hb dX7_share_4 rfl (lv_at hl 1 rfl) ?_
  refine m_callVr (As := [.int lo]) (κ := 1) (i := 3) (show 3 < 4 by decide) rfl ⟨_, rfl⟩ rfl ⟨hx, hb, hml, hown, hts⟩ (kJx4a65c_get_915e3 l D cy e0 (bd := bd) (w := w) g S _ 3 (show 3 < 4 by decide) lo h_lo) (cwV 1 hts gX7_share_Jx4a65c_get_915e3 rfl rfl rfl (by decide +kernel) ⟨Nat.le_of_ble_eq_true rfl, Nat.le_of_ble_eq_true rfl⟩) hB hG.2 hC hS rfl hl.1 (Nat.le_of_ble_eq_true rfl) dX7_share_5 ⟨Nat.le_of_ble_eq_true rfl, Nat.le_of_ble_eq_true rfl⟩ (fun H locs hC hS => ?_)
  refine m_stk (st' := [.ref (bd 3 (308 + lo.toNatClampNeg))]) rfl ?_
  refine m_cast hx hb hown (hts _ qX7_share_w2) hB.1 hC (rV_308 (vp_lt h_lo)) dX7_share_8 ?_
  refine lv_astore (lv' := [(5, .ref (bd 3 (308 + lo.toNatClampNeg))), (0, .ref (bd 0 0)), (1, .int lo), (2, .int fa), (3, .int pr), (4, .int lb)]) hx hb dX7_share_11 hl (by decide) rfl (fun ls hl => ?_)
  refine lv_aload_n hx hb dX7_share_13 rfl (lv_at hl 1 rfl) ?_
  refine lv_iload_n hx hb dX7_share_14 rfl (lv_at hl 2 rfl) ?_
  refine lv_iload_n hx hb dX7_share_15 rfl (lv_at hl 4 rfl) ?_
  refine lv_iload hx hb dX7_share_16 (lv_at hl 5 rfl) ?_
  refine m_callVi (As := [.int lo, .int pr, .int lb]) (κ := 0) (i := 0) rfl rfl ⟨_, rfl⟩ rfl ⟨hx, hb, hml, hown, hts⟩ (kX7_brings l D cy e0 (bd := bd) (w := w) g S _ lo h_lo pr lb ) (cwV 3 hts gX7_share_X7_brings rfl rfl rfl (by decide +kernel) ⟨Nat.le_of_ble_eq_true rfl, Nat.le_of_ble_eq_true rfl⟩) hB hG.2 hC hS rfl hl.1 (Nat.le_of_ble_eq_true rfl) dX7_share_18 ⟨Nat.le_of_ble_eq_true rfl, Nat.le_of_ble_eq_true rfl⟩ (fun H locs hC hS => ?_)
  refine lv_i2l hx hb dX7_share_21 rfl ?_
  refine lv_aload hx hb dX7_share_22 (lv_at hl 0 rfl) ?_
  refine lv_bipush (v := 11) hx hb dX7_share_24 (by decide) ?_
  refine lv_iload_n hx hb dX7_share_26 rfl (lv_at hl 3 rfl) ?_
  refine lv_iadd hx hb dX7_share_27 ?_
  refine ld_m hx hb hB.1 hC (rV_308 (vp_lt h_lo)) (rl_308 hC.1 (vp_lt h_lo)) (k := 11 + fa.toNatClampNeg) (ix_add (c := 11) (ix_wide h_fa (wNB_0 hw0)) (by decide)).1 (ix_wide (ix_add (c := 11) (ix_wide h_fa (wNB_0 hw0)) (by decide)).2 (by decide)) dX7_share_28 ?_
  refine lv_i2l hx hb dX7_share_29 rfl ?_
  refine lv_lmul hx hb dX7_share_30 ?_
  refine lv_ldc2 hx hb hown (hts _ qX7_share_w3) dX7_share_31 ?_
  refine lv_lmul hx hb dX7_share_34 ?_
  refine lv_ldc2 hx hb hown (hts _ qX7_share_w4) dX7_share_35 ?_
  refine lv_aload hx hb dX7_share_38 (lv_at hl 0 rfl) ?_
  refine lv_iconst (v := 0) hx hb dX7_share_40 (by decide) ?_
  refine ld_m hx hb hB.1 hC (rV_308 (vp_lt h_lo)) (rl_308 hC.1 (vp_lt h_lo)) (k := 0) (by decide) (by unfold vp_in; decide) dX7_share_41 ?_
  refine lv_i2l hx hb dX7_share_42 rfl ?_
  refine lv_lmul hx hb dX7_share_43 ?_
  refine lv_ldiv hx hb dX7_share_44 hp1 ?_
  refine lv_l2i hx hb dX7_share_45 rfl ?_
  exact m_reti hx hb hr hG hC hS mEq_rf rfl hlocks dX7_share_46
def fX7_canSell (na nb nc nd T : Nat) (g : Md) (lo : Int32) : Int32 := if (fX7_isIn na nb nc nd T g (308 + lo.toNatClampNeg)) = 0 then (0) else (if (fX7_gradeOf na nb nc nd T g lo) = (-1) then (0) else (1))
theorem qX7_canSell_w1 : Cond.fieldLink RX7 27 "CherryStationModel" "lots" "Ljava/util/ArrayList;" ∈ wsX7_canSell := List.mem_of_getElem? (i := 1) rfl
theorem qX7_canSell_w2 : Cond.classLink RX7 72 "[I" ∈ wsX7_canSell := List.mem_of_getElem? (i := 2) rfl
theorem iX7_canSell_X7 : ∀ w ∈ wsX70, w ∈ wsX7_canSell := fun _ h => (List.mem_cons_of_mem _ (List.mem_append_left _ (List.mem_append_right _ h)))
set_option maxRecDepth 100000 in
set_option maxHeartbeats 4000000 in
theorem kX7_canSell (l : Launch) (D : va_G) (cy : Nat → ClassId) (e0 : Nat) {bd w : Nat → Nat → Nat} (g : Md) (S : Int64) (sz : Nat) (lo : Int32) (h_lo : vp_in lo (w 0 3)) : Met l yX7_canSell wsX7_canSell ({ frames := 3, cells := 0, slots := 0, locals := 64 } : Room) (va_Pc [.ref (bd 0 0), .int lo] (mPre D cy e0 bd w g S sz)) (mQi D cy bd w (fX7_canSell (w 0 0) (w 0 1) (w 0 2) (w 0 3) (w 0 4) g lo) g S sz) 0 0 (mA bd w sz) := by
  refine q_start (cc := cX7_canSell) (maxL := 2) (ret := (some .boolean)) (own := RX7) (by decide) rfl rfl (Nat.le_of_ble_eq_true rfl) ?_
  intro p e s m below meth c hx hb hr hml hts hown hlocks ⟨hsz, hC, hB⟩ ls hl
  subst hsz
  have hS : va_S (mA bd w s.heap.size) s.heap s.heap [] := va_S.rf
  have hG : mG e0 bd w s.heap.size bd w := mG.rf hB.2.2.1
  have hw0 := hC.1
  have hl : lv_has ls 2 [(0, .ref (bd 0 0)), (1, .int lo)] := hl
  refine lv_aload_n hx hb dX7_canSell_0 rfl (lv_at hl 0 rfl) ?_
  refine gt_m0_5 hx hb hts iX7_canSell_X7 hown hB.1 hC qX7_canSell_w1 dX7_canSell_1 ?_
  refine lv_iload_n hx hb dX7_canSell_4 rfl (lv_at hl 1 rfl) ?_
  refine m_callVr (As := [.int lo]) (κ := 1) (i := 3) (show 3 < 4 by decide) rfl ⟨_, rfl⟩ rfl ⟨hx, hb, hml, hown, hts⟩ (kJx4a65c_get_915e3 l D cy e0 (bd := bd) (w := w) g S _ 3 (show 3 < 4 by decide) lo h_lo) (cwV 1 hts gX7_canSell_Jx4a65c_get_915e3 rfl rfl rfl (by decide +kernel) ⟨Nat.le_of_ble_eq_true rfl, Nat.le_of_ble_eq_true rfl⟩) hB hG.2 hC hS rfl hl.1 (Nat.le_of_ble_eq_true rfl) dX7_canSell_5 ⟨Nat.le_of_ble_eq_true rfl, Nat.le_of_ble_eq_true rfl⟩ (fun H locs hC hS => ?_)
  refine m_stk (st' := [.ref (bd 3 (308 + lo.toNatClampNeg))]) rfl ?_
  refine m_cast hx hb hown (hts _ qX7_canSell_w2) hB.1 hC (rV_308 (vp_lt h_lo)) dX7_canSell_8 ?_
  refine m_callSi (As := [.ref (bd 3 (308 + lo.toNatClampNeg))])  ⟨hx, hb, hml, hown, hts⟩ (kX7_isIn l D cy e0 (bd := bd) (w := w) g S _ (308 + lo.toNatClampNeg) (rV_308 (vp_lt h_lo)) (rl_308 hC.1 (vp_lt h_lo)) ) (va_cwS 1 hts gX7_canSell_X7_isIn rfl rfl rfl (by decide +kernel) ⟨Nat.le_of_ble_eq_true rfl, Nat.le_of_ble_eq_true rfl⟩) hB hG.2 hC hS rfl hl.1 (Nat.le_of_ble_eq_true rfl) dX7_canSell_11 ⟨Nat.le_of_ble_eq_true rfl, Nat.le_of_ble_eq_true rfl⟩ (fun H locs hC hS => ?_)
  refine lv_if_eq (tgt := 30) hx hb dX7_canSell_14 (by decide) (fun c1 => ?_) (fun c1 => ?_)
  · skip
    refine lv_iconst (v := 0) hx hb dX7_canSell_30 (by decide) ?_
    exact m_retz hx hb hr hG hC hS mEq_rf (by unfold fX7_canSell; rw [if_pos c1]) rfl hlocks dX7_canSell_31
  · skip
    refine lv_aload_n hx hb dX7_canSell_17 rfl (lv_at hl 0 rfl) ?_
    refine lv_iload_n hx hb dX7_canSell_18 rfl (lv_at hl 1 rfl) ?_
    refine m_callVi (As := [.int lo]) (κ := 0) (i := 0) rfl rfl ⟨_, rfl⟩ rfl ⟨hx, hb, hml, hown, hts⟩ (kX7_gradeOf l D cy e0 (bd := bd) (w := w) g S _ lo h_lo ) (cwV 1 hts gX7_canSell_X7_gradeOf rfl rfl rfl (by decide +kernel) ⟨Nat.le_of_ble_eq_true rfl, Nat.le_of_ble_eq_true rfl⟩) hB hG.2 hC hS rfl hl.1 (Nat.le_of_ble_eq_true rfl) dX7_canSell_19 ⟨Nat.le_of_ble_eq_true rfl, Nat.le_of_ble_eq_true rfl⟩ (fun H locs hC hS => ?_)
    refine lv_iconst (v := (-1)) hx hb dX7_canSell_22 (by decide) ?_
    refine lv_icmp_eq (tgt := 30) hx hb dX7_canSell_23 (by decide) (fun c2 => ?_) (fun c2 => ?_)
    · skip
      refine lv_iconst (v := 0) hx hb dX7_canSell_30 (by decide) ?_
      exact m_retz hx hb hr hG hC hS mEq_rf (by unfold fX7_canSell; rw [if_neg c1, if_pos c2]) rfl hlocks dX7_canSell_31
    · skip
      refine lv_iconst (v := 1) hx hb dX7_canSell_26 (by decide) ?_
      refine lv_goto (tgt := 31) hx hb dX7_canSell_27 (by decide) ?_
      exact m_retz hx hb hr hG hC hS mEq_rf (by unfold fX7_canSell; rw [if_neg c1, if_neg c2]) rfl hlocks dX7_canSell_31
def fX7_kilosOf (na nb nc nd T : Nat) (g : Md) (x : Int32) (fa : Int32) : Int32 × Md := if (fX7_isLot na nb nc nd T (u2 g 0 20 0) x) = 0 then (((fX7_refuse na nb nc nd T (u2 g 0 20 0) 1).1, (fX7_refuse na nb nc nd T (u2 g 0 20 0) 1).2)) else (if (fX7_isFarm na nb nc nd T (u2 g 0 20 0) fa) = 0 then (((fX7_refuse na nb nc nd T (u2 g 0 20 0) 1).1, (fX7_refuse na nb nc nd T (u2 g 0 20 0) 1).2)) else ((g (308 + x.toNatClampNeg) (11 + fa.toNatClampNeg), (u2 g 0 20 0))))
theorem qX7_kilosOf_w1 : Cond.fieldLink RX7 41 "CherryStationModel" "thrown" "I" ∈ wsX7_kilosOf := List.mem_of_getElem? (i := 1) rfl
theorem qX7_kilosOf_w2 : Cond.fieldLink RX7 27 "CherryStationModel" "lots" "Ljava/util/ArrayList;" ∈ wsX7_kilosOf := List.mem_of_getElem? (i := 2) rfl
theorem qX7_kilosOf_w3 : Cond.classLink RX7 72 "[I" ∈ wsX7_kilosOf := List.mem_of_getElem? (i := 3) rfl
theorem iX7_kilosOf_X7 : ∀ w ∈ wsX70, w ∈ wsX7_kilosOf := fun _ h => (List.mem_cons_of_mem _ (List.mem_append_left _ (List.mem_append_right _ h)))
set_option maxRecDepth 100000 in
set_option maxHeartbeats 4000000 in
theorem kX7_kilosOf (l : Launch) (D : va_G) (cy : Nat → ClassId) (e0 : Nat) {bd w : Nat → Nat → Nat} (g : Md) (S : Int64) (sz : Nat) (x : Int32) (fa : Int32) : Met l yX7_kilosOf wsX7_kilosOf ({ frames := 3, cells := 0, slots := 0, locals := 64 } : Room) (va_Pc [.ref (bd 0 0), .int x, .int fa] (mPre D cy e0 bd w g S sz)) (mQi D cy bd w (fX7_kilosOf (w 0 0) (w 0 1) (w 0 2) (w 0 3) (w 0 4) g x fa).1 (fX7_kilosOf (w 0 0) (w 0 1) (w 0 2) (w 0 3) (w 0 4) g x fa).2 S sz) 0 0 (mA bd w sz) := by
  refine q_start (cc := cX7_kilosOf) (maxL := 3) (ret := (some .int)) (own := RX7) (by decide) rfl rfl (Nat.le_of_ble_eq_true rfl) ?_
  intro p e s m below meth c hx hb hr hml hts hown hlocks ⟨hsz, hC, hB⟩ ls hl
  subst hsz
  have hS : va_S (mA bd w s.heap.size) s.heap s.heap [] := va_S.rf
  have hG : mG e0 bd w s.heap.size bd w := mG.rf hB.2.2.1
  have hw0 := hC.1
  have hl : lv_has ls 3 [(0, .ref (bd 0 0)), (1, .int x), (2, .int fa)] := hl
  refine lv_aload_n hx hb dX7_kilosOf_0 rfl (lv_at hl 0 rfl) ?_
  refine lv_iconst (v := 0) hx hb dX7_kilosOf_1 (by decide) ?_
  refine pt_m0_0 hx hb hts iX7_kilosOf_X7 hown hB.1 hC hS hG.2.1 qX7_kilosOf_w1 dX7_kilosOf_2 (fun H locs hC hS => ?_)
  refine lv_aload_n hx hb dX7_kilosOf_5 rfl (lv_at hl 0 rfl) ?_
  refine lv_iload_n hx hb dX7_kilosOf_6 rfl (lv_at hl 1 rfl) ?_
  refine m_callVi (As := [.int x]) (κ := 0) (i := 0) rfl rfl ⟨_, rfl⟩ rfl ⟨hx, hb, hml, hown, hts⟩ (kX7_isLot l D cy e0 (bd := bd) (w := w) (u2 g 0 20 0) S _ x ) (cwV 1 hts gX7_kilosOf_X7_isLot rfl rfl rfl (by decide +kernel) ⟨Nat.le_of_ble_eq_true rfl, Nat.le_of_ble_eq_true rfl⟩) hB hG.2 hC hS rfl hl.1 (Nat.le_of_ble_eq_true rfl) dX7_kilosOf_7 ⟨Nat.le_of_ble_eq_true rfl, Nat.le_of_ble_eq_true rfl⟩ (fun H locs hC hS => ?_)
  refine lv_if_eq (tgt := 40) hx hb dX7_kilosOf_10 (by decide) (fun c1 => ?_) (fun c1 => ?_)
  · skip
    refine lv_aload_n hx hb dX7_kilosOf_40 rfl (lv_at hl 0 rfl) ?_
    refine lv_iconst (v := 1) hx hb dX7_kilosOf_41 (by decide) ?_
    refine m_callVi (As := [.int 1]) (κ := 0) (i := 0) rfl rfl ⟨_, rfl⟩ rfl ⟨hx, hb, hml, hown, hts⟩ (kX7_refuse l D cy e0 (bd := bd) (w := w) (u2 g 0 20 0) S _ 1 ) (cwV 1 hts gX7_kilosOf_X7_refuse rfl rfl rfl (by decide +kernel) ⟨Nat.le_of_ble_eq_true rfl, Nat.le_of_ble_eq_true rfl⟩) hB hG.2 hC hS rfl hl.1 (Nat.le_of_ble_eq_true rfl) dX7_kilosOf_42 ⟨Nat.le_of_ble_eq_true rfl, Nat.le_of_ble_eq_true rfl⟩ (fun H locs hC hS => ?_)
    have e9 : fX7_kilosOf (w 0 0) (w 0 1) (w 0 2) (w 0 3) (w 0 4) g x fa = ((fX7_refuse (w 0 0) (w 0 1) (w 0 2) (w 0 3) (w 0 4) (u2 g 0 20 0) 1).1, (fX7_refuse (w 0 0) (w 0 1) (w 0 2) (w 0 3) (w 0 4) (u2 g 0 20 0) 1).2) := (by unfold fX7_kilosOf; rw [if_pos c1])
    exact m_reti hx hb hr hG hC hS (mEq_of (by rw [e9])) (by rw [e9]) hlocks dX7_kilosOf_45
  · skip
    refine lv_aload_n hx hb dX7_kilosOf_13 rfl (lv_at hl 0 rfl) ?_
    refine lv_iload_n hx hb dX7_kilosOf_14 rfl (lv_at hl 2 rfl) ?_
    refine m_callVi (As := [.int fa]) (κ := 0) (i := 0) rfl rfl ⟨_, rfl⟩ rfl ⟨hx, hb, hml, hown, hts⟩ (kX7_isFarm l D cy e0 (bd := bd) (w := w) (u2 g 0 20 0) S _ fa ) (cwV 1 hts gX7_kilosOf_X7_isFarm rfl rfl rfl (by decide +kernel) ⟨Nat.le_of_ble_eq_true rfl, Nat.le_of_ble_eq_true rfl⟩) hB hG.2 hC hS rfl hl.1 (Nat.le_of_ble_eq_true rfl) dX7_kilosOf_15 ⟨Nat.le_of_ble_eq_true rfl, Nat.le_of_ble_eq_true rfl⟩ (fun H locs hC hS => ?_)
    refine lv_if_eq (tgt := 40) hx hb dX7_kilosOf_18 (by decide) (fun c2 => ?_) (fun c2 => ?_)
    · skip
      refine lv_aload_n hx hb dX7_kilosOf_40 rfl (lv_at hl 0 rfl) ?_
      refine lv_iconst (v := 1) hx hb dX7_kilosOf_41 (by decide) ?_
      refine m_callVi (As := [.int 1]) (κ := 0) (i := 0) rfl rfl ⟨_, rfl⟩ rfl ⟨hx, hb, hml, hown, hts⟩ (kX7_refuse l D cy e0 (bd := bd) (w := w) (u2 g 0 20 0) S _ 1 ) (cwV 1 hts gX7_kilosOf_X7_refuse rfl rfl rfl (by decide +kernel) ⟨Nat.le_of_ble_eq_true rfl, Nat.le_of_ble_eq_true rfl⟩) hB hG.2 hC hS rfl hl.1 (Nat.le_of_ble_eq_true rfl) dX7_kilosOf_42 ⟨Nat.le_of_ble_eq_true rfl, Nat.le_of_ble_eq_true rfl⟩ (fun H locs hC hS => ?_)
      have e9 : fX7_kilosOf (w 0 0) (w 0 1) (w 0 2) (w 0 3) (w 0 4) g x fa = ((fX7_refuse (w 0 0) (w 0 1) (w 0 2) (w 0 3) (w 0 4) (u2 g 0 20 0) 1).1, (fX7_refuse (w 0 0) (w 0 1) (w 0 2) (w 0 3) (w 0 4) (u2 g 0 20 0) 1).2) := (by unfold fX7_kilosOf; rw [if_neg c1, if_pos c2])
      exact m_reti hx hb hr hG hC hS (mEq_of (by rw [e9])) (by rw [e9]) hlocks dX7_kilosOf_45
    · skip
      refine lv_aload_n hx hb dX7_kilosOf_21 rfl (lv_at hl 0 rfl) ?_
      refine gt_m0_5 hx hb hts iX7_kilosOf_X7 hown hB.1 hC qX7_kilosOf_w2 dX7_kilosOf_22 ?_
      refine lv_iload_n hx hb dX7_kilosOf_25 rfl (lv_at hl 1 rfl) ?_
      refine m_callVr (As := [.int x]) (κ := 1) (i := 3) (show 3 < 4 by decide) rfl ⟨_, rfl⟩ rfl ⟨hx, hb, hml, hown, hts⟩ (kJx4a65c_get_915e3 l D cy e0 (bd := bd) (w := w) (u2 g 0 20 0) S _ 3 (show 3 < 4 by decide) x (isLot_in (w := w) hw0 c1)) (cwV 1 hts gX7_kilosOf_Jx4a65c_get_915e3 rfl rfl rfl (by decide +kernel) ⟨Nat.le_of_ble_eq_true rfl, Nat.le_of_ble_eq_true rfl⟩) hB hG.2 hC hS rfl hl.1 (Nat.le_of_ble_eq_true rfl) dX7_kilosOf_26 ⟨Nat.le_of_ble_eq_true rfl, Nat.le_of_ble_eq_true rfl⟩ (fun H locs hC hS => ?_)
      refine m_stk (st' := [.ref (bd 3 (308 + x.toNatClampNeg))]) rfl ?_
      refine m_cast hx hb hown (hts _ qX7_kilosOf_w3) hB.1 hC (rV_308 (vp_lt (isLot_in (w := w) hw0 c1))) dX7_kilosOf_29 ?_
      refine lv_bipush (v := 11) hx hb dX7_kilosOf_32 (by decide) ?_
      refine lv_iload_n hx hb dX7_kilosOf_34 rfl (lv_at hl 2 rfl) ?_
      refine lv_iadd hx hb dX7_kilosOf_35 ?_
      refine ld_m hx hb hB.1 hC (rV_308 (vp_lt (isLot_in (w := w) hw0 c1))) (rl_308 hC.1 (vp_lt (isLot_in (w := w) hw0 c1))) (k := 11 + fa.toNatClampNeg) (ix_add (c := 11) (ix_wide (isFarm_in (w := w) hw0 c2) (wNB_0 hw0)) (by decide)).1 (ix_wide (ix_add (c := 11) (ix_wide (isFarm_in (w := w) hw0 c2) (wNB_0 hw0)) (by decide)).2 (by decide)) dX7_kilosOf_36 ?_
      refine q_val (v := g (308 + x.toNatClampNeg) (11 + fa.toNatClampNeg)) ((u2_nr (rV_ne0 (rV_308 (vp_lt (isLot_in (w := w) hw0 c1))))).trans rfl) ?_
      refine lv_goto (tgt := 45) hx hb dX7_kilosOf_37 (by decide) ?_
      have e9 : fX7_kilosOf (w 0 0) (w 0 1) (w 0 2) (w 0 3) (w 0 4) g x fa = (g (308 + x.toNatClampNeg) (11 + fa.toNatClampNeg), (u2 g 0 20 0)) := (by unfold fX7_kilosOf; rw [if_neg c1, if_neg c2])
      exact m_reti hx hb hr hG hC hS (mEq_of (by rw [e9])) (by rw [e9]) hlocks dX7_kilosOf_45
def fX7_ofTankNow (na nb nc nd T : Nat) (g : Md) (x : Int32) (u : Int32) : Int32 := if 4 ≤ u then (fX7_sum na nb nc nd T g (300 + x.toNatClampNeg) 17) else (g (300 + x.toNatClampNeg) u.toNatClampNeg)
theorem qX7_ofTankNow_w1 : Cond.fieldLink RX7 21 "CherryStationModel" "tanks" "[[I" ∈ wsX7_ofTankNow := List.mem_of_getElem? (i := 1) rfl
theorem iX7_ofTankNow_X7 : ∀ w ∈ wsX70, w ∈ wsX7_ofTankNow := fun _ h => (List.mem_cons_of_mem _ (List.mem_append_right _ h))
set_option maxRecDepth 100000 in
set_option maxHeartbeats 4000000 in
theorem kX7_ofTankNow (l : Launch) (D : va_G) (cy : Nat → ClassId) (e0 : Nat) {bd w : Nat → Nat → Nat} (g : Md) (S : Int64) (sz : Nat) (x : Int32) (u : Int32) (h3 : vp_in x 3) (hp1 : ¬ (4 ≤ u) → (vp_in u 23)) : Met l yX7_ofTankNow wsX7_ofTankNow ({ frames := 1, cells := 0, slots := 0, locals := 23 } : Room) (va_Pc [.ref (bd 0 0), .int x, .int u] (mPre D cy e0 bd w g S sz)) (mQi D cy bd w (fX7_ofTankNow (w 0 0) (w 0 1) (w 0 2) (w 0 3) (w 0 4) g x u) g S sz) 0 0 (mA bd w sz) := by
  refine q_start (cc := cX7_ofTankNow) (maxL := 3) (ret := (some .int)) (own := RX7) (by decide) rfl rfl (Nat.le_of_ble_eq_true rfl) ?_
  intro p e s m below meth c hx hb hr hml hts hown hlocks ⟨hsz, hC, hB⟩ ls hl
  subst hsz
  have hS : va_S (mA bd w s.heap.size) s.heap s.heap [] := va_S.rf
  have hG : mG e0 bd w s.heap.size bd w := mG.rf hB.2.2.1
  have hw0 := hC.1
  have hl : lv_has ls 3 [(0, .ref (bd 0 0)), (1, .int x), (2, .int u)] := hl
  refine lv_iload_n hx hb dX7_ofTankNow_0 rfl (lv_at hl 2 rfl) ?_
  refine lv_iconst (v := 4) hx hb dX7_ofTankNow_1 (by decide) ?_
  refine lv_icmp_ge (tgt := 16) hx hb dX7_ofTankNow_2 (by decide) (fun c1 => ?_) (fun c1 => ?_)
  · skip
    refine lv_aload_n hx hb dX7_ofTankNow_16 rfl (lv_at hl 0 rfl) ?_
    refine gt_m0_3 hx hb hts iX7_ofTankNow_X7 hown hB.1 hC qX7_ofTankNow_w1 dX7_ofTankNow_17 ?_
    refine lv_iload_n hx hb dX7_ofTankNow_20 rfl (lv_at hl 1 rfl) ?_
    refine la_m4 hx hb hB.1 hC (k := x.toNatClampNeg) rfl h3 dX7_ofTankNow_21 ?_
    refine lv_bipush (v := 17) hx hb dX7_ofTankNow_22 (by decide) ?_
    refine m_callSi (As := [.ref (bd 3 (300 + x.toNatClampNeg)), .int 17])  ⟨hx, hb, hml, hown, hts⟩ (kX7_sum l D cy e0 (bd := bd) (w := w) g S _ (300 + x.toNatClampNeg) (rV_300 (vp_lt h3)) (rl_300 (vp_lt h3)) 17 (by unfold vp_in; decide) (by unfold vp_in; decide) (by unfold vp_in; decide) (by unfold vp_in; decide) (by unfold vp_in; decide) (by unfold vp_in; decide)) (va_cwS 2 hts gX7_ofTankNow_X7_sum rfl rfl rfl (by decide +kernel) ⟨Nat.le_of_ble_eq_true rfl, Nat.le_of_ble_eq_true rfl⟩) hB hG.2 hC hS rfl hl.1 (Nat.le_of_ble_eq_true rfl) dX7_ofTankNow_24 ⟨Nat.le_of_ble_eq_true rfl, Nat.le_of_ble_eq_true rfl⟩ (fun H locs hC hS => ?_)
    exact m_reti hx hb hr hG hC hS mEq_rf (by unfold fX7_ofTankNow; rw [if_pos c1]) hlocks dX7_ofTankNow_27
  · skip
    refine lv_aload_n hx hb dX7_ofTankNow_5 rfl (lv_at hl 0 rfl) ?_
    refine gt_m0_3 hx hb hts iX7_ofTankNow_X7 hown hB.1 hC qX7_ofTankNow_w1 dX7_ofTankNow_6 ?_
    refine lv_iload_n hx hb dX7_ofTankNow_9 rfl (lv_at hl 1 rfl) ?_
    refine la_m4 hx hb hB.1 hC (k := x.toNatClampNeg) rfl h3 dX7_ofTankNow_10 ?_
    refine lv_iload_n hx hb dX7_ofTankNow_11 rfl (lv_at hl 2 rfl) ?_
    refine ld_m hx hb hB.1 hC (rV_300 (vp_lt h3)) (rl_300 (vp_lt h3)) (k := u.toNatClampNeg) rfl (hp1 c1) dX7_ofTankNow_12 ?_
    refine lv_goto (tgt := 27) hx hb dX7_ofTankNow_13 (by decide) ?_
    exact m_reti hx hb hr hG hC hS mEq_rf (by unfold fX7_ofTankNow; rw [if_neg c1]) hlocks dX7_ofTankNow_27
def fX7_ofBasket (na nb nc nd T : Nat) (g : Md) (x : Int32) (u : Int32) : Int32 × Md := if (fX7_isBasket na nb nc nd T (u2 g 0 20 0) x) = 0 then (((fX7_refuse na nb nc nd T (u2 g 0 20 0) 1).1, (fX7_refuse na nb nc nd T (u2 g 0 20 0) 1).2)) else (if (fX7_is u 0 5) = 0 then (((fX7_refuse na nb nc nd T (u2 g 0 20 0) 2).1, (fX7_refuse na nb nc nd T (u2 g 0 20 0) 2).2)) else ((g (200 + x.toNatClampNeg) u.toNatClampNeg, (u2 g 0 20 0))))
theorem qX7_ofBasket_w1 : Cond.fieldLink RX7 41 "CherryStationModel" "thrown" "I" ∈ wsX7_ofBasket := List.mem_of_getElem? (i := 1) rfl
theorem qX7_ofBasket_w2 : Cond.fieldLink RX7 16 "CherryStationModel" "baskets" "Ljava/util/ArrayList;" ∈ wsX7_ofBasket := List.mem_of_getElem? (i := 2) rfl
theorem qX7_ofBasket_w3 : Cond.classLink RX7 72 "[I" ∈ wsX7_ofBasket := List.mem_of_getElem? (i := 3) rfl
theorem iX7_ofBasket_X7 : ∀ w ∈ wsX70, w ∈ wsX7_ofBasket := fun _ h => (List.mem_cons_of_mem _ (List.mem_append_left _ (List.mem_append_right _ h)))
set_option maxRecDepth 100000 in
set_option maxHeartbeats 4000000 in
theorem kX7_ofBasket (l : Launch) (D : va_G) (cy : Nat → ClassId) (e0 : Nat) {bd w : Nat → Nat → Nat} (g : Md) (S : Int64) (sz : Nat) (x : Int32) (u : Int32) (hp1 : ¬ ((fX7_isBasket (w 0 0) (w 0 1) (w 0 2) (w 0 3) (w 0 4) (u2 g 0 20 0) x) = 0) → ¬ ((fX7_is u 0 5) = 0) → (vp_in u 6)) : Met l yX7_ofBasket wsX7_ofBasket ({ frames := 3, cells := 0, slots := 0, locals := 64 } : Room) (va_Pc [.ref (bd 0 0), .int x, .int u] (mPre D cy e0 bd w g S sz)) (mQi D cy bd w (fX7_ofBasket (w 0 0) (w 0 1) (w 0 2) (w 0 3) (w 0 4) g x u).1 (fX7_ofBasket (w 0 0) (w 0 1) (w 0 2) (w 0 3) (w 0 4) g x u).2 S sz) 0 0 (mA bd w sz) := by
  refine q_start (cc := cX7_ofBasket) (maxL := 3) (ret := (some .int)) (own := RX7) (by decide) rfl rfl (Nat.le_of_ble_eq_true rfl) ?_
  intro p e s m below meth c hx hb hr hml hts hown hlocks ⟨hsz, hC, hB⟩ ls hl
  subst hsz
  have hS : va_S (mA bd w s.heap.size) s.heap s.heap [] := va_S.rf
  have hG : mG e0 bd w s.heap.size bd w := mG.rf hB.2.2.1
  have hw0 := hC.1
  have hl : lv_has ls 3 [(0, .ref (bd 0 0)), (1, .int x), (2, .int u)] := hl
  refine lv_aload_n hx hb dX7_ofBasket_0 rfl (lv_at hl 0 rfl) ?_
  refine lv_iconst (v := 0) hx hb dX7_ofBasket_1 (by decide) ?_
  refine pt_m0_0 hx hb hts iX7_ofBasket_X7 hown hB.1 hC hS hG.2.1 qX7_ofBasket_w1 dX7_ofBasket_2 (fun H locs hC hS => ?_)
  refine lv_aload_n hx hb dX7_ofBasket_5 rfl (lv_at hl 0 rfl) ?_
  refine lv_iload_n hx hb dX7_ofBasket_6 rfl (lv_at hl 1 rfl) ?_
  refine m_callVi (As := [.int x]) (κ := 0) (i := 0) rfl rfl ⟨_, rfl⟩ rfl ⟨hx, hb, hml, hown, hts⟩ (kX7_isBasket l D cy e0 (bd := bd) (w := w) (u2 g 0 20 0) S _ x ) (cwV 1 hts gX7_ofBasket_X7_isBasket rfl rfl rfl (by decide +kernel) ⟨Nat.le_of_ble_eq_true rfl, Nat.le_of_ble_eq_true rfl⟩) hB hG.2 hC hS rfl hl.1 (Nat.le_of_ble_eq_true rfl) dX7_ofBasket_7 ⟨Nat.le_of_ble_eq_true rfl, Nat.le_of_ble_eq_true rfl⟩ (fun H locs hC hS => ?_)
  refine lv_if_ne (tgt := 19) hx hb dX7_ofBasket_10 (by decide) (fun c1 => ?_) (fun c1 => ?_)
  · skip
    refine lv_iload_n hx hb dX7_ofBasket_19 rfl (lv_at hl 2 rfl) ?_
    refine lv_iconst (v := 0) hx hb dX7_ofBasket_20 (by decide) ?_
    refine lv_iconst (v := 5) hx hb dX7_ofBasket_21 (by decide) ?_
    refine m_callSi (As := [.int u, .int 0, .int 5])  ⟨hx, hb, hml, hown, hts⟩ (kX7_is l D cy e0 (bd := bd) (w := w) (u2 g 0 20 0) S _ u 0 5 ) (va_cwS 3 hts gX7_ofBasket_X7_is rfl rfl rfl (by decide +kernel) ⟨Nat.le_of_ble_eq_true rfl, Nat.le_of_ble_eq_true rfl⟩) hB hG.2 hC hS rfl hl.1 (Nat.le_of_ble_eq_true rfl) dX7_ofBasket_22 ⟨Nat.le_of_ble_eq_true rfl, Nat.le_of_ble_eq_true rfl⟩ (fun H locs hC hS => ?_)
    refine lv_if_eq (tgt := 44) hx hb dX7_ofBasket_25 (by decide) (fun c2 => ?_) (fun c2 => ?_)
    · skip
      refine lv_aload_n hx hb dX7_ofBasket_44 rfl (lv_at hl 0 rfl) ?_
      refine lv_iconst (v := 2) hx hb dX7_ofBasket_45 (by decide) ?_
      refine m_callVi (As := [.int 2]) (κ := 0) (i := 0) rfl rfl ⟨_, rfl⟩ rfl ⟨hx, hb, hml, hown, hts⟩ (kX7_refuse l D cy e0 (bd := bd) (w := w) (u2 g 0 20 0) S _ 2 ) (cwV 1 hts gX7_ofBasket_X7_refuse rfl rfl rfl (by decide +kernel) ⟨Nat.le_of_ble_eq_true rfl, Nat.le_of_ble_eq_true rfl⟩) hB hG.2 hC hS rfl hl.1 (Nat.le_of_ble_eq_true rfl) dX7_ofBasket_46 ⟨Nat.le_of_ble_eq_true rfl, Nat.le_of_ble_eq_true rfl⟩ (fun H locs hC hS => ?_)
      have e9 : fX7_ofBasket (w 0 0) (w 0 1) (w 0 2) (w 0 3) (w 0 4) g x u = ((fX7_refuse (w 0 0) (w 0 1) (w 0 2) (w 0 3) (w 0 4) (u2 g 0 20 0) 2).1, (fX7_refuse (w 0 0) (w 0 1) (w 0 2) (w 0 3) (w 0 4) (u2 g 0 20 0) 2).2) := (by unfold fX7_ofBasket; rw [if_neg c1, if_pos c2])
      exact m_reti hx hb hr hG hC hS (mEq_of (by rw [e9])) (by rw [e9]) hlocks dX7_ofBasket_49
    · skip
      refine lv_aload_n hx hb dX7_ofBasket_28 rfl (lv_at hl 0 rfl) ?_
      refine gt_m0_2 hx hb hts iX7_ofBasket_X7 hown hB.1 hC qX7_ofBasket_w2 dX7_ofBasket_29 ?_
      refine lv_iload_n hx hb dX7_ofBasket_32 rfl (lv_at hl 1 rfl) ?_
      refine m_callVr (As := [.int x]) (κ := 1) (i := 1) (show 1 < 4 by decide) rfl ⟨_, rfl⟩ rfl ⟨hx, hb, hml, hown, hts⟩ (kJx4a65c_get_915e3 l D cy e0 (bd := bd) (w := w) (u2 g 0 20 0) S _ 1 (show 1 < 4 by decide) x (isBasket_in (w := w) hw0 c1)) (cwV 1 hts gX7_ofBasket_Jx4a65c_get_915e3 rfl rfl rfl (by decide +kernel) ⟨Nat.le_of_ble_eq_true rfl, Nat.le_of_ble_eq_true rfl⟩) hB hG.2 hC hS rfl hl.1 (Nat.le_of_ble_eq_true rfl) dX7_ofBasket_33 ⟨Nat.le_of_ble_eq_true rfl, Nat.le_of_ble_eq_true rfl⟩ (fun H locs hC hS => ?_)
      refine m_stk (st' := [.ref (bd 3 (200 + x.toNatClampNeg))]) rfl ?_
      refine m_cast hx hb hown (hts _ qX7_ofBasket_w3) hB.1 hC (rV_200 (vp_lt (isBasket_in (w := w) hw0 c1))) dX7_ofBasket_36 ?_
      refine lv_iload_n hx hb dX7_ofBasket_39 rfl (lv_at hl 2 rfl) ?_
      refine ld_m hx hb hB.1 hC (rV_200 (vp_lt (isBasket_in (w := w) hw0 c1))) (rl_200 hC.1 (vp_lt (isBasket_in (w := w) hw0 c1))) (k := u.toNatClampNeg) rfl (hp1 c1 c2) dX7_ofBasket_40 ?_
      refine q_val (v := g (200 + x.toNatClampNeg) u.toNatClampNeg) ((u2_nr (rV_ne0 (rV_200 (vp_lt (isBasket_in (w := w) hw0 c1))))).trans rfl) ?_
      refine lv_goto (tgt := 49) hx hb dX7_ofBasket_41 (by decide) ?_
      have e9 : fX7_ofBasket (w 0 0) (w 0 1) (w 0 2) (w 0 3) (w 0 4) g x u = (g (200 + x.toNatClampNeg) u.toNatClampNeg, (u2 g 0 20 0)) := (by unfold fX7_ofBasket; rw [if_neg c1, if_neg c2])
      exact m_reti hx hb hr hG hC hS (mEq_of (by rw [e9])) (by rw [e9]) hlocks dX7_ofBasket_49
  · skip
    refine lv_aload_n hx hb dX7_ofBasket_13 rfl (lv_at hl 0 rfl) ?_
    refine lv_iconst (v := 1) hx hb dX7_ofBasket_14 (by decide) ?_
    refine m_callVi (As := [.int 1]) (κ := 0) (i := 0) rfl rfl ⟨_, rfl⟩ rfl ⟨hx, hb, hml, hown, hts⟩ (kX7_refuse l D cy e0 (bd := bd) (w := w) (u2 g 0 20 0) S _ 1 ) (cwV 1 hts gX7_ofBasket_X7_refuse rfl rfl rfl (by decide +kernel) ⟨Nat.le_of_ble_eq_true rfl, Nat.le_of_ble_eq_true rfl⟩) hB hG.2 hC hS rfl hl.1 (Nat.le_of_ble_eq_true rfl) dX7_ofBasket_15 ⟨Nat.le_of_ble_eq_true rfl, Nat.le_of_ble_eq_true rfl⟩ (fun H locs hC hS => ?_)
    have e9 : fX7_ofBasket (w 0 0) (w 0 1) (w 0 2) (w 0 3) (w 0 4) g x u = ((fX7_refuse (w 0 0) (w 0 1) (w 0 2) (w 0 3) (w 0 4) (u2 g 0 20 0) 1).1, (fX7_refuse (w 0 0) (w 0 1) (w 0 2) (w 0 3) (w 0 4) (u2 g 0 20 0) 1).2) := (by unfold fX7_ofBasket; rw [if_pos c1])
    exact m_reti hx hb hr hG hC hS (mEq_of (by rw [e9])) (by rw [e9]) hlocks dX7_ofBasket_18
def fX7_cup (na nb nc nd T : Nat) (g : Md) (x : Int32) (ta : Int32) : Int32 × Md := if (fX7_isLot na nb nc nd T (u2 g 0 20 0) x) = 0 then (((fX7_refuse na nb nc nd T (u2 g 0 20 0) 1).1, (fX7_refuse na nb nc nd T (u2 g 0 20 0) 1).2)) else (if (fX7_isTaster ta) = 0 then (((fX7_refuse na nb nc nd T (u2 g 0 20 0) 1).1, (fX7_refuse na nb nc nd T (u2 g 0 20 0) 1).2)) else (if (fX7_isIn na nb nc nd T (u2 g 0 20 0) (308 + x.toNatClampNeg)) = 0 then (((fX7_refuse na nb nc nd T (u2 g 0 20 0) 2).1, (fX7_refuse na nb nc nd T (u2 g 0 20 0) 2).2)) else (((fX7_scoreOf na nb nc nd T (u2 g 0 20 0) (308 + x.toNatClampNeg)) + (g 360 ta.toNatClampNeg), (u2 (u2 g 0 20 0) (340 + x.toNatClampNeg) ta.toNatClampNeg ((fX7_scoreOf na nb nc nd T (u2 g 0 20 0) (308 + x.toNatClampNeg)) + (g 360 ta.toNatClampNeg)))))))
theorem qX7_cup_w1 : Cond.fieldLink RX7 41 "CherryStationModel" "thrown" "I" ∈ wsX7_cup := List.mem_of_getElem? (i := 1) rfl
theorem qX7_cup_w2 : Cond.fieldLink RX7 27 "CherryStationModel" "lots" "Ljava/util/ArrayList;" ∈ wsX7_cup := List.mem_of_getElem? (i := 2) rfl
theorem qX7_cup_w3 : Cond.classLink RX7 72 "[I" ∈ wsX7_cup := List.mem_of_getElem? (i := 3) rfl
theorem qX7_cup_w4 : Cond.fieldLink RX7 30 "CherryStationModel" "readings" "[[I" ∈ wsX7_cup := List.mem_of_getElem? (i := 4) rfl
theorem qX7_cup_w5 : Cond.fieldLink RX7 33 "CherryStationModel" "biases" "[I" ∈ wsX7_cup := List.mem_of_getElem? (i := 5) rfl
theorem iX7_cup_X7 : ∀ w ∈ wsX70, w ∈ wsX7_cup := fun _ h => (List.mem_cons_of_mem _ (List.mem_append_left _ (List.mem_append_right _ h)))
set_option maxRecDepth 100000 in
set_option maxHeartbeats 4000000 in
theorem kX7_cup (l : Launch) (D : va_G) (cy : Nat → ClassId) (e0 : Nat) {bd w : Nat → Nat → Nat} (g : Md) (S : Int64) (sz : Nat) (x : Int32) (ta : Int32) : Met l yX7_cup wsX7_cup ({ frames := 4, cells := 0, slots := 0, locals := 88 } : Room) (va_Pc [.ref (bd 0 0), .int x, .int ta] (mPre D cy e0 bd w g S sz)) (mQi D cy bd w (fX7_cup (w 0 0) (w 0 1) (w 0 2) (w 0 3) (w 0 4) g x ta).1 (fX7_cup (w 0 0) (w 0 1) (w 0 2) (w 0 3) (w 0 4) g x ta).2 S sz) 0 0 (mA bd w sz) := by
  refine q_start (cc := cX7_cup) (maxL := 3) (ret := (some .int)) (own := RX7) (by decide) rfl rfl (Nat.le_of_ble_eq_true rfl) ?_
  intro p e s m below meth c hx hb hr hml hts hown hlocks ⟨hsz, hC, hB⟩ ls hl
  subst hsz
  have hS : va_S (mA bd w s.heap.size) s.heap s.heap [] := va_S.rf
  have hG : mG e0 bd w s.heap.size bd w := mG.rf hB.2.2.1
  have hw0 := hC.1
  have hl : lv_has ls 3 [(0, .ref (bd 0 0)), (1, .int x), (2, .int ta)] := hl
  refine lv_aload_n hx hb dX7_cup_0 rfl (lv_at hl 0 rfl) ?_
  refine lv_iconst (v := 0) hx hb dX7_cup_1 (by decide) ?_
  refine pt_m0_0 hx hb hts iX7_cup_X7 hown hB.1 hC hS hG.2.1 qX7_cup_w1 dX7_cup_2 (fun H locs hC hS => ?_)
  refine lv_aload_n hx hb dX7_cup_5 rfl (lv_at hl 0 rfl) ?_
  refine lv_iload_n hx hb dX7_cup_6 rfl (lv_at hl 1 rfl) ?_
  refine m_callVi (As := [.int x]) (κ := 0) (i := 0) rfl rfl ⟨_, rfl⟩ rfl ⟨hx, hb, hml, hown, hts⟩ (kX7_isLot l D cy e0 (bd := bd) (w := w) (u2 g 0 20 0) S _ x ) (cwV 1 hts gX7_cup_X7_isLot rfl rfl rfl (by decide +kernel) ⟨Nat.le_of_ble_eq_true rfl, Nat.le_of_ble_eq_true rfl⟩) hB hG.2 hC hS rfl hl.1 (Nat.le_of_ble_eq_true rfl) dX7_cup_7 ⟨Nat.le_of_ble_eq_true rfl, Nat.le_of_ble_eq_true rfl⟩ (fun H locs hC hS => ?_)
  refine lv_if_eq (tgt := 20) hx hb dX7_cup_10 (by decide) (fun c1 => ?_) (fun c1 => ?_)
  · skip
    refine lv_aload_n hx hb dX7_cup_20 rfl (lv_at hl 0 rfl) ?_
    refine lv_iconst (v := 1) hx hb dX7_cup_21 (by decide) ?_
    refine m_callVi (As := [.int 1]) (κ := 0) (i := 0) rfl rfl ⟨_, rfl⟩ rfl ⟨hx, hb, hml, hown, hts⟩ (kX7_refuse l D cy e0 (bd := bd) (w := w) (u2 g 0 20 0) S _ 1 ) (cwV 1 hts gX7_cup_X7_refuse rfl rfl rfl (by decide +kernel) ⟨Nat.le_of_ble_eq_true rfl, Nat.le_of_ble_eq_true rfl⟩) hB hG.2 hC hS rfl hl.1 (Nat.le_of_ble_eq_true rfl) dX7_cup_22 ⟨Nat.le_of_ble_eq_true rfl, Nat.le_of_ble_eq_true rfl⟩ (fun H locs hC hS => ?_)
    have e9 : fX7_cup (w 0 0) (w 0 1) (w 0 2) (w 0 3) (w 0 4) g x ta = ((fX7_refuse (w 0 0) (w 0 1) (w 0 2) (w 0 3) (w 0 4) (u2 g 0 20 0) 1).1, (fX7_refuse (w 0 0) (w 0 1) (w 0 2) (w 0 3) (w 0 4) (u2 g 0 20 0) 1).2) := (by unfold fX7_cup; rw [if_pos c1])
    exact m_reti hx hb hr hG hC hS (mEq_of (by rw [e9])) (by rw [e9]) hlocks dX7_cup_25
  · skip
    refine lv_iload_n hx hb dX7_cup_13 rfl (lv_at hl 2 rfl) ?_
    refine m_callSi (As := [.int ta])  ⟨hx, hb, hml, hown, hts⟩ (kX7_isTaster l D cy e0 (bd := bd) (w := w) (u2 g 0 20 0) S _ ta ) (va_cwS 1 hts gX7_cup_X7_isTaster rfl rfl rfl (by decide +kernel) ⟨Nat.le_of_ble_eq_true rfl, Nat.le_of_ble_eq_true rfl⟩) hB hG.2 hC hS rfl hl.1 (Nat.le_of_ble_eq_true rfl) dX7_cup_14 ⟨Nat.le_of_ble_eq_true rfl, Nat.le_of_ble_eq_true rfl⟩ (fun H locs hC hS => ?_)
    refine lv_if_ne (tgt := 26) hx hb dX7_cup_17 (by decide) (fun c2 => ?_) (fun c2 => ?_)
    · skip
      refine lv_aload_n hx hb dX7_cup_26 rfl (lv_at hl 0 rfl) ?_
      refine gt_m0_5 hx hb hts iX7_cup_X7 hown hB.1 hC qX7_cup_w2 dX7_cup_27 ?_
      refine lv_iload_n hx hb dX7_cup_30 rfl (lv_at hl 1 rfl) ?_
      refine m_callVr (As := [.int x]) (κ := 1) (i := 3) (show 3 < 4 by decide) rfl ⟨_, rfl⟩ rfl ⟨hx, hb, hml, hown, hts⟩ (kJx4a65c_get_915e3 l D cy e0 (bd := bd) (w := w) (u2 g 0 20 0) S _ 3 (show 3 < 4 by decide) x (isLot_in (w := w) hw0 c1)) (cwV 1 hts gX7_cup_Jx4a65c_get_915e3 rfl rfl rfl (by decide +kernel) ⟨Nat.le_of_ble_eq_true rfl, Nat.le_of_ble_eq_true rfl⟩) hB hG.2 hC hS rfl hl.1 (Nat.le_of_ble_eq_true rfl) dX7_cup_31 ⟨Nat.le_of_ble_eq_true rfl, Nat.le_of_ble_eq_true rfl⟩ (fun H locs hC hS => ?_)
      refine m_stk (st' := [.ref (bd 3 (308 + x.toNatClampNeg))]) rfl ?_
      refine m_cast hx hb hown (hts _ qX7_cup_w3) hB.1 hC (rV_308 (vp_lt (isLot_in (w := w) hw0 c1))) dX7_cup_34 ?_
      refine m_callSi (As := [.ref (bd 3 (308 + x.toNatClampNeg))])  ⟨hx, hb, hml, hown, hts⟩ (kX7_isIn l D cy e0 (bd := bd) (w := w) (u2 g 0 20 0) S _ (308 + x.toNatClampNeg) (rV_308 (vp_lt (isLot_in (w := w) hw0 c1))) (rl_308 hC.1 (vp_lt (isLot_in (w := w) hw0 c1))) ) (va_cwS 1 hts gX7_cup_X7_isIn rfl rfl rfl (by decide +kernel) ⟨Nat.le_of_ble_eq_true rfl, Nat.le_of_ble_eq_true rfl⟩) hB hG.2 hC hS rfl hl.1 (Nat.le_of_ble_eq_true rfl) dX7_cup_37 ⟨Nat.le_of_ble_eq_true rfl, Nat.le_of_ble_eq_true rfl⟩ (fun H locs hC hS => ?_)
      refine lv_if_ne (tgt := 49) hx hb dX7_cup_40 (by decide) (fun c3 => ?_) (fun c3 => ?_)
      · skip
        refine lv_aload_n hx hb dX7_cup_49 rfl (lv_at hl 0 rfl) ?_
        refine gt_m0_6 hx hb hts iX7_cup_X7 hown hB.1 hC qX7_cup_w4 dX7_cup_50 ?_
        refine lv_iload_n hx hb dX7_cup_53 rfl (lv_at hl 1 rfl) ?_
        refine la_m5 hx hb hB.1 hC (k := x.toNatClampNeg) rfl (ix_wide (isLot_in (w := w) hw0 c1) (wNB_3 hw0)) dX7_cup_54 ?_
        refine lv_iload_n hx hb dX7_cup_55 rfl (lv_at hl 2 rfl) ?_
        refine lv_aload_n hx hb dX7_cup_56 rfl (lv_at hl 0 rfl) ?_
        refine lv_aload_n hx hb dX7_cup_57 rfl (lv_at hl 0 rfl) ?_
        refine gt_m0_5 hx hb hts iX7_cup_X7 hown hB.1 hC qX7_cup_w2 dX7_cup_58 ?_
        refine lv_iload_n hx hb dX7_cup_61 rfl (lv_at hl 1 rfl) ?_
        refine m_callVr (As := [.int x]) (κ := 1) (i := 3) (show 3 < 4 by decide) rfl ⟨_, rfl⟩ rfl ⟨hx, hb, hml, hown, hts⟩ (kJx4a65c_get_915e3 l D cy e0 (bd := bd) (w := w) (u2 g 0 20 0) S _ 3 (show 3 < 4 by decide) x (isLot_in (w := w) hw0 c1)) (cwV 1 hts gX7_cup_Jx4a65c_get_915e3 rfl rfl rfl (by decide +kernel) ⟨Nat.le_of_ble_eq_true rfl, Nat.le_of_ble_eq_true rfl⟩) hB hG.2 hC hS rfl hl.1 (Nat.le_of_ble_eq_true rfl) dX7_cup_62 ⟨Nat.le_of_ble_eq_true rfl, Nat.le_of_ble_eq_true rfl⟩ (fun H locs hC hS => ?_)
        refine m_stk (st' := [.ref (bd 3 (308 + x.toNatClampNeg)), .ref (bd 0 0), .int ta, .ref (bd 3 (340 + x.toNatClampNeg))]) rfl ?_
        refine m_cast hx hb hown (hts _ qX7_cup_w3) hB.1 hC (rV_308 (vp_lt (isLot_in (w := w) hw0 c1))) dX7_cup_65 ?_
        refine m_callVi (As := [.ref (bd 3 (308 + x.toNatClampNeg))]) (κ := 0) (i := 0) rfl rfl ⟨_, rfl⟩ rfl ⟨hx, hb, hml, hown, hts⟩ (kX7_scoreOf l D cy e0 (bd := bd) (w := w) (u2 g 0 20 0) S _ (308 + x.toNatClampNeg) (rV_308 (vp_lt (isLot_in (w := w) hw0 c1))) (rl_308 hC.1 (vp_lt (isLot_in (w := w) hw0 c1))) ) (cwV 1 hts gX7_cup_X7_scoreOf rfl rfl rfl (by decide +kernel) ⟨Nat.le_of_ble_eq_true rfl, Nat.le_of_ble_eq_true rfl⟩) hB hG.2 hC hS rfl hl.1 (Nat.le_of_ble_eq_true rfl) dX7_cup_68 ⟨Nat.le_of_ble_eq_true rfl, Nat.le_of_ble_eq_true rfl⟩ (fun H locs hC hS => ?_)
        refine lv_aload_n hx hb dX7_cup_71 rfl (lv_at hl 0 rfl) ?_
        refine gt_m0_7 hx hb hts iX7_cup_X7 hown hB.1 hC qX7_cup_w5 dX7_cup_72 ?_
        refine lv_iload_n hx hb dX7_cup_75 rfl (lv_at hl 2 rfl) ?_
        refine ld_m hx hb hB.1 hC rV_360 rl_360 (k := ta.toNatClampNeg) rfl (isTaster_in c2) dX7_cup_76 ?_
        refine q_val (v := g 360 ta.toNatClampNeg) ((u2_nr (by decide)).trans rfl) ?_
        refine lv_iadd hx hb dX7_cup_77 ?_
        refine st_m hx hb hB.1 hC hS hG.2.1 (rV_340 (vp_lt (ix_wide (isLot_in (w := w) hw0 c1) (wNB_3 hw0)))) (rl_340 (vp_lt (ix_wide (isLot_in (w := w) hw0 c1) (wNB_3 hw0)))) (k := ta.toNatClampNeg) rfl (isTaster_in c2) dX7_cup_78 (fun H locs hC hS => ?_)
        refine lv_aload_n hx hb dX7_cup_79 rfl (lv_at hl 0 rfl) ?_
        refine gt_m0_6 hx hb hts iX7_cup_X7 hown hB.1 hC qX7_cup_w4 dX7_cup_80 ?_
        refine lv_iload_n hx hb dX7_cup_83 rfl (lv_at hl 1 rfl) ?_
        refine la_m5 hx hb hB.1 hC (k := x.toNatClampNeg) rfl (ix_wide (isLot_in (w := w) hw0 c1) (wNB_3 hw0)) dX7_cup_84 ?_
        refine lv_iload_n hx hb dX7_cup_85 rfl (lv_at hl 2 rfl) ?_
        refine ld_m hx hb hB.1 hC (rV_340 (vp_lt (ix_wide (isLot_in (w := w) hw0 c1) (wNB_3 hw0)))) (rl_340 (vp_lt (ix_wide (isLot_in (w := w) hw0 c1) (wNB_3 hw0)))) (k := ta.toNatClampNeg) rfl (isTaster_in c2) dX7_cup_86 ?_
        refine q_val (v := (fX7_scoreOf (w 0 0) (w 0 1) (w 0 2) (w 0 3) (w 0 4) (u2 g 0 20 0) (308 + x.toNatClampNeg)) + (g 360 ta.toNatClampNeg)) (u2_eq _ _ _ _) ?_
        have e9 : fX7_cup (w 0 0) (w 0 1) (w 0 2) (w 0 3) (w 0 4) g x ta = ((fX7_scoreOf (w 0 0) (w 0 1) (w 0 2) (w 0 3) (w 0 4) (u2 g 0 20 0) (308 + x.toNatClampNeg)) + (g 360 ta.toNatClampNeg), (u2 (u2 g 0 20 0) (340 + x.toNatClampNeg) ta.toNatClampNeg ((fX7_scoreOf (w 0 0) (w 0 1) (w 0 2) (w 0 3) (w 0 4) (u2 g 0 20 0) (308 + x.toNatClampNeg)) + (g 360 ta.toNatClampNeg)))) := (by unfold fX7_cup; rw [if_neg c1, if_neg c2, if_neg c3])
        exact m_reti hx hb hr hG hC hS (mEq_of (by rw [e9])) (by rw [e9]) hlocks dX7_cup_87
      · skip
        refine lv_aload_n hx hb dX7_cup_43 rfl (lv_at hl 0 rfl) ?_
        refine lv_iconst (v := 2) hx hb dX7_cup_44 (by decide) ?_
        refine m_callVi (As := [.int 2]) (κ := 0) (i := 0) rfl rfl ⟨_, rfl⟩ rfl ⟨hx, hb, hml, hown, hts⟩ (kX7_refuse l D cy e0 (bd := bd) (w := w) (u2 g 0 20 0) S _ 2 ) (cwV 1 hts gX7_cup_X7_refuse rfl rfl rfl (by decide +kernel) ⟨Nat.le_of_ble_eq_true rfl, Nat.le_of_ble_eq_true rfl⟩) hB hG.2 hC hS rfl hl.1 (Nat.le_of_ble_eq_true rfl) dX7_cup_45 ⟨Nat.le_of_ble_eq_true rfl, Nat.le_of_ble_eq_true rfl⟩ (fun H locs hC hS => ?_)
        have e9 : fX7_cup (w 0 0) (w 0 1) (w 0 2) (w 0 3) (w 0 4) g x ta = ((fX7_refuse (w 0 0) (w 0 1) (w 0 2) (w 0 3) (w 0 4) (u2 g 0 20 0) 2).1, (fX7_refuse (w 0 0) (w 0 1) (w 0 2) (w 0 3) (w 0 4) (u2 g 0 20 0) 2).2) := (by unfold fX7_cup; rw [if_neg c1, if_neg c2, if_pos c3])
        exact m_reti hx hb hr hG hC hS (mEq_of (by rw [e9])) (by rw [e9]) hlocks dX7_cup_48
    · skip
      refine lv_aload_n hx hb dX7_cup_20 rfl (lv_at hl 0 rfl) ?_
      refine lv_iconst (v := 1) hx hb dX7_cup_21 (by decide) ?_
      refine m_callVi (As := [.int 1]) (κ := 0) (i := 0) rfl rfl ⟨_, rfl⟩ rfl ⟨hx, hb, hml, hown, hts⟩ (kX7_refuse l D cy e0 (bd := bd) (w := w) (u2 g 0 20 0) S _ 1 ) (cwV 1 hts gX7_cup_X7_refuse rfl rfl rfl (by decide +kernel) ⟨Nat.le_of_ble_eq_true rfl, Nat.le_of_ble_eq_true rfl⟩) hB hG.2 hC hS rfl hl.1 (Nat.le_of_ble_eq_true rfl) dX7_cup_22 ⟨Nat.le_of_ble_eq_true rfl, Nat.le_of_ble_eq_true rfl⟩ (fun H locs hC hS => ?_)
      have e9 : fX7_cup (w 0 0) (w 0 1) (w 0 2) (w 0 3) (w 0 4) g x ta = ((fX7_refuse (w 0 0) (w 0 1) (w 0 2) (w 0 3) (w 0 4) (u2 g 0 20 0) 1).1, (fX7_refuse (w 0 0) (w 0 1) (w 0 2) (w 0 3) (w 0 4) (u2 g 0 20 0) 1).2) := (by unfold fX7_cup; rw [if_neg c1, if_pos c2])
      exact m_reti hx hb hr hG hC hS (mEq_of (by rw [e9])) (by rw [e9]) hlocks dX7_cup_25
