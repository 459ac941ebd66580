/-! ===== the law's loop ===== -/
theorem sw_0_28 {x : Int32} (h0 : ¬ x = 0) (h1 : ¬ x = 1) (h2 : ¬ x = 2) (h3 : ¬ x = 3) (h4 : ¬ x = 4) (h5 : ¬ x = 5) (h6 : ¬ x = 6) (h7 : ¬ x = 7) (h8 : ¬ x = 8) (h9 : ¬ x = 9) (h10 : ¬ x = 10) (h11 : ¬ x = 11) (h12 : ¬ x = 12) (h13 : ¬ x = 13) (h14 : ¬ x = 14) (h15 : ¬ x = 15) (h16 : ¬ x = 16) (h17 : ¬ x = 17) (h18 : ¬ x = 18) (h19 : ¬ x = 19) (h20 : ¬ x = 20) (h21 : ¬ x = 21) (h22 : ¬ x = 22) (h23 : ¬ x = 23) (h24 : ¬ x = 24) (h25 : ¬ x = 25) (h26 : ¬ x = 26) (h27 : ¬ x = 27) (h28 : ¬ x = 28) : x.toInt < 0 ∨ 28 < x.toInt := by
  have e0 : ¬ x.toInt = 0 := fun h => h0 (Int32.toInt_inj.mp h)
  have e1 : ¬ x.toInt = 1 := fun h => h1 (Int32.toInt_inj.mp h)
  have e2 : ¬ x.toInt = 2 := fun h => h2 (Int32.toInt_inj.mp h)
  have e3 : ¬ x.toInt = 3 := fun h => h3 (Int32.toInt_inj.mp h)
  have e4 : ¬ x.toInt = 4 := fun h => h4 (Int32.toInt_inj.mp h)
  have e5 : ¬ x.toInt = 5 := fun h => h5 (Int32.toInt_inj.mp h)
  have e6 : ¬ x.toInt = 6 := fun h => h6 (Int32.toInt_inj.mp h)
  have e7 : ¬ x.toInt = 7 := fun h => h7 (Int32.toInt_inj.mp h)
  have e8 : ¬ x.toInt = 8 := fun h => h8 (Int32.toInt_inj.mp h)
  have e9 : ¬ x.toInt = 9 := fun h => h9 (Int32.toInt_inj.mp h)
  have e10 : ¬ x.toInt = 10 := fun h => h10 (Int32.toInt_inj.mp h)
  have e11 : ¬ x.toInt = 11 := fun h => h11 (Int32.toInt_inj.mp h)
  have e12 : ¬ x.toInt = 12 := fun h => h12 (Int32.toInt_inj.mp h)
  have e13 : ¬ x.toInt = 13 := fun h => h13 (Int32.toInt_inj.mp h)
  have e14 : ¬ x.toInt = 14 := fun h => h14 (Int32.toInt_inj.mp h)
  have e15 : ¬ x.toInt = 15 := fun h => h15 (Int32.toInt_inj.mp h)
  have e16 : ¬ x.toInt = 16 := fun h => h16 (Int32.toInt_inj.mp h)
  have e17 : ¬ x.toInt = 17 := fun h => h17 (Int32.toInt_inj.mp h)
  have e18 : ¬ x.toInt = 18 := fun h => h18 (Int32.toInt_inj.mp h)
  have e19 : ¬ x.toInt = 19 := fun h => h19 (Int32.toInt_inj.mp h)
  have e20 : ¬ x.toInt = 20 := fun h => h20 (Int32.toInt_inj.mp h)
  have e21 : ¬ x.toInt = 21 := fun h => h21 (Int32.toInt_inj.mp h)
  have e22 : ¬ x.toInt = 22 := fun h => h22 (Int32.toInt_inj.mp h)
  have e23 : ¬ x.toInt = 23 := fun h => h23 (Int32.toInt_inj.mp h)
  have e24 : ¬ x.toInt = 24 := fun h => h24 (Int32.toInt_inj.mp h)
  have e25 : ¬ x.toInt = 25 := fun h => h25 (Int32.toInt_inj.mp h)
  have e26 : ¬ x.toInt = 26 := fun h => h26 (Int32.toInt_inj.mp h)
  have e27 : ¬ x.toInt = 27 := fun h => h27 (Int32.toInt_inj.mp h)
  have e28 : ¬ x.toInt = 28 := fun h => h28 (Int32.toInt_inj.mp h)
  omega
theorem gt_5 {L k : Nat} (h1 : L ≤ 2560) (h2 : 5 * k ≤ L + 5) (h3 : L < 5 * k + 5) : nI L - 5 < nI (5 * k) := by
  have q5 : (5 : Int32).toInt = 5 := rfl
  rw [lt_ti, ti_sub (by rw [ti_nI (by omega), q5]; omega) (by rw [ti_nI (by omega), q5]; omega), ti_nI (by omega), ti_nI (by omega), q5]
  omega
section LP
variable {p : Program} {l : Launch} {e : Env} {s : State} {m : MethodId} {below : List Frame} {meth : Method} {c : Code} {Q : State → Prop}
variable {b L : Nat} {xs : Nat → Int32} {D : va_G} {cy : Nat → ClassId} {ad : Nat → Nat → Nat} {o e0 mq : Nat}
set_option maxRecDepth 100000 in
set_option maxHeartbeats 4000000 in
theorem law_loop (C : LC p l s m c b L xs) (hI : cI ad) (hB : LWB D cy e0 s)
    (kend : ∀ (H1 : Heap) (locs1 : List Loc) (cells slots : Nat) (ls1 : Array Slot), va_S (LA0 s) s.heap H1 locs1 → cells ≤ 400000 → slots ≤ 4000000 → W p l e room_1 s m #[Value.ref b] below meth c H1 locs1 cells slots Q (F0 m 2081 ls1 [])) :
    ∀ (n k : Nat) (g : Gd) (vo : Int64) (bd w : Nat → Nat → Nat) (mm : Md) (SS : Int64) (H : Heap) (locs : List Loc) (ls : Array Slot) (cells slots : Nat), L + 5 ≤ 5 * k + 5 * n + 5 → 5 * k ≤ L + 5 → cells + 450 * (512 - k) ≤ 400000 → slots + 6200 * (512 - k) ≤ 4000000 → cells ≤ 400000 → slots ≤ 4000000 →
      LWS D cy ad o e0 s g vo bd w mm SS H → RS g mm w → va_S (LA0 s) s.heap H locs → bd 0 0 = mq → lv_has ls 9 [(4, .int (nI (5 * k))), (0, .ref b), (1, .ref (ad 0 0)), (2, .ref mq), (3, .ref o)] →
      W p l e room_1 s m #[Value.ref b] below meth c H locs cells slots Q (F0 m 23 ls []) := by
  have hLe := C.le
  intro n
  induction n with
  | zero =>
    intro k g vo bd w mm SS H locs ls cells slots hn hk hc hs hc1 hs1 hL hR hS hmq hl
    refine lv_iload C.hx C.hb dL_law_23 (lv_at hl 0 rfl) ?_
    refine lv_aload_n C.hx C.hb dL_law_25 rfl (lv_at hl 1 rfl) ?_
    refine va_slen C.hx C.hb C.X C.bl (LA0_no C.bl) hS dL_law_26 ?_
    refine lv_iconst (v := 5) C.hx C.hb dL_law_27 (by decide) ?_
    refine lv_isub C.hx C.hb dL_law_28 ?_
    refine lv_icmp_gt (tgt := 2081) C.hx C.hb dL_law_29 (by decide) (fun _ => ?_) (fun hg => absurd (gt_5 (by omega) (by omega) (by omega)) hg)
    exact kend _ _ _ _ _ hS hc1 hs1
  | succ n ih =>
    intro k g vo bd w mm SS H locs ls cells slots hn hk hc hs hc1 hs1 hL hR hS hmq hl
    refine lv_iload C.hx C.hb dL_law_23 (lv_at hl 0 rfl) ?_
    refine lv_aload_n C.hx C.hb dL_law_25 rfl (lv_at hl 1 rfl) ?_
    refine va_slen C.hx C.hb C.X C.bl (LA0_no C.bl) hS dL_law_26 ?_
    refine lv_iconst (v := 5) C.hx C.hb dL_law_27 (by decide) ?_
    refine lv_isub C.hx C.hb dL_law_28 ?_
    refine lv_icmp_gt (tgt := 2081) C.hx C.hb dL_law_29 (by decide) (fun _ => kend _ _ _ _ _ hS hc1 hs1) (fun hg => ?_)
    have hi : 5 * k + 5 ≤ L := by
      refine Nat.le_of_not_lt (fun q => hg ?_)
      exact gt_5 (by omega) (by omega) (by omega)
    have hc2 : cells + 450 ≤ 400000 := by omega
    have hs2 : slots + 6200 ≤ 4000000 := by omega
    have K : ∀ (g2 : Gd) (v2 : Int64) (bd2 w2 : Nat → Nat → Nat) (m2 : Md) (S2 : Int64) (H1 : Heap) (locs1 : List Loc) (ls1 : Array Slot), LWS D cy ad o e0 s g2 v2 bd2 w2 m2 S2 H1 → RS g2 m2 w2 → va_S (LA0 s) s.heap H1 locs1 → bd2 0 0 = mq → lv_has ls1 9 [(4, .int (nI (5 * k))), (0, .ref b), (1, .ref (ad 0 0)), (2, .ref mq), (3, .ref o)] → W p l e room_1 s m #[Value.ref b] below meth c H1 locs1 (cells + 450) (slots + 6200) Q (F0 m 2075 ls1 []) := by
      intro g2 v2 bd2 w2 m2 S2 H1 locs1 ls1 hL hR hS hmq hl
      refine lv_iinc (v := nI (5 * (k + 1))) (lv' := [(4, .int (nI (5 * (k + 1)))), (0, .ref b), (1, .ref (ad 0 0)), (2, .ref mq), (3, .ref o)]) C.hx C.hb dL_law_2075 hl (k := 0) rfl (nI_add (5 * k) 5) (by decide) rfl (fun ls hl => ?_)
      refine lv_goto (tgt := 23) C.hx C.hb dL_law_2078 (by decide) ?_
      exact ih (k + 1) g2 v2 bd2 w2 m2 S2 H1 locs1 ls _ _ (by omega) (by omega) (by omega) (by omega) hc2 hs2 hL hR hS hmq hl
    refine lv_aload_n C.hx C.hb dL_law_32 rfl (lv_at hl 1 rfl) ?_
    refine lv_iload C.hx C.hb dL_law_33 (lv_at hl 0 rfl) ?_
    refine va_sld C.hx C.hb C.X C.bl (LA0_no C.bl) hS (vp_in_nI (by omega) (by omega)) dL_law_35 ?_
    refine lv_bipush (v := 31) C.hx C.hb dL_law_36 (by decide) ?_
    refine lv_iand C.hx C.hb dL_law_38 ?_
    generalize hv9 : xs (nI (5 * k)).toNatClampNeg &&& 31 = v9
    by_cases h0 : v9 = 0
    · refine q_sw (k := 0) h0 ?_
      refine lv_tableIn (x := 0) (off := 129) (tgt := 168) C.hx C.hb dL_law_39 (by decide) (by decide) rfl (by decide) ?_
      exact op_farm C hI hB hL hR hS hmq hi hc2 hs2 hl K
    by_cases h1 : v9 = 1
    · refine q_sw (k := 1) h1 ?_
      refine lv_tableIn (x := 1) (off := 185) (tgt := 224) C.hx C.hb dL_law_39 (by decide) (by decide) rfl (by decide) ?_
      exact op_label C hI hB hL hR hS hmq hi hc2 hs2 hl K
    by_cases h2 : v9 = 2
    · refine q_sw (k := 2) h2 ?_
      refine lv_tableIn (x := 2) (off := 253) (tgt := 292) C.hx C.hb dL_law_39 (by decide) (by decide) rfl (by decide) ?_
      exact op_price C hI hB hL hR hS hmq hi hc2 hs2 hl K
    by_cases h3 : v9 = 3
    · refine q_sw (k := 3) h3 ?_
      refine lv_tableIn (x := 3) (off := 309) (tgt := 348) C.hx C.hb dL_law_39 (by decide) (by decide) rfl (by decide) ?_
      exact op_bring C hI hB hL hR hS hmq hi hc2 hs2 hl K
    by_cases h4 : v9 = 4
    · refine q_sw (k := 4) h4 ?_
      refine lv_tableIn (x := 4) (off := 389) (tgt := 428) C.hx C.hb dL_law_39 (by decide) (by decide) rfl (by decide) ?_
      exact op_pass C hI hB hL hR hS hmq hi hc2 hs2 hl K
    by_cases h5 : v9 = 5
    · refine q_sw (k := 5) h5 ?_
      refine lv_tableIn (x := 5) (off := 469) (tgt := 508) C.hx C.hb dL_law_39 (by decide) (by decide) rfl (by decide) ?_
      exact op_bed C hI hB hL hR hS hmq hi hc2 hs2 hl K
    by_cases h6 : v9 = 6
    · refine q_sw (k := 6) h6 ?_
      refine lv_tableIn (x := 6) (off := 525) (tgt := 564) C.hx C.hb dL_law_39 (by decide) (by decide) rfl (by decide) ?_
      exact op_pulp C hI hB hL hR hS hmq hi hc2 hs2 hl K
    by_cases h7 : v9 = 7
    · refine q_sw (k := 7) h7 ?_
      refine lv_tableIn (x := 7) (off := 593) (tgt := 632) C.hx C.hb dL_law_39 (by decide) (by decide) rfl (by decide) ?_
      exact op_wash C hI hB hL hR hS hmq hi hc2 hs2 hl K
    by_cases h8 : v9 = 8
    · refine q_sw (k := 8) h8 ?_
      refine lv_tableIn (x := 8) (off := 689) (tgt := 728) C.hx C.hb dL_law_39 (by decide) (by decide) rfl (by decide) ?_
      exact op_whole C hI hB hL hR hS hmq hi hc2 hs2 hl K
    by_cases h9 : v9 = 9
    · refine q_sw (k := 9) h9 ?_
      refine lv_tableIn (x := 9) (off := 757) (tgt := 796) C.hx C.hb dL_law_39 (by decide) (by decide) rfl (by decide) ?_
      exact op_turn C hI hB hL hR hS hmq hi hc2 hs2 hl K
    by_cases h10 : v9 = 10
    · refine q_sw (k := 10) h10 ?_
      refine lv_tableIn (x := 10) (off := 813) (tgt := 852) C.hx C.hb dL_law_39 (by decide) (by decide) rfl (by decide) ?_
      exact op_cover C hI hB hL hR hS hmq hi hc2 hs2 hl K
    by_cases h11 : v9 = 11
    · refine q_sw (k := 11) h11 ?_
      refine lv_tableIn (x := 11) (off := 904) (tgt := 943) C.hx C.hb dL_law_39 (by decide) (by decide) rfl (by decide) ?_
      exact op_store C hI hB hL hR hS hmq hi hc2 hs2 hl K
    by_cases h12 : v9 = 12
    · refine q_sw (k := 12) h12 ?_
      refine lv_tableIn (x := 12) (off := 960) (tgt := 999) C.hx C.hb dL_law_39 (by decide) (by decide) rfl (by decide) ?_
      exact op_bias C hI hB hL hR hS hmq hi hc2 hs2 hl K
    by_cases h13 : v9 = 13
    · refine q_sw (k := 13) h13 ?_
      refine lv_tableIn (x := 13) (off := 1028) (tgt := 1067) C.hx C.hb dL_law_39 (by decide) (by decide) rfl (by decide) ?_
      exact op_cup C hI hB hL hR hS hmq hi hc2 hs2 hl K
    by_cases h14 : v9 = 14
    · refine q_sw (k := 14) h14 ?_
      refine lv_tableIn (x := 14) (off := 1096) (tgt := 1135) C.hx C.hb dL_law_39 (by decide) (by decide) rfl (by decide) ?_
      exact op_blend C hI hB hL hR hS hmq hi hc2 hs2 hl K
    by_cases h15 : v9 = 15
    · refine q_sw (k := 15) h15 ?_
      refine lv_tableIn (x := 15) (off := 1164) (tgt := 1203) C.hx C.hb dL_law_39 (by decide) (by decide) rfl (by decide) ?_
      exact op_sell C hI hB hL hR hS hmq hi hc2 hs2 hl K
    by_cases h16 : v9 = 16
    · refine q_sw (k := 16) h16 ?_
      refine lv_tableIn (x := 16) (off := 1260) (tgt := 1299) C.hx C.hb dL_law_39 (by decide) (by decide) rfl (by decide) ?_
      exact op_ofFarm C hI hB hL hR hS hmq hi hc2 hs2 hl K
    by_cases h17 : v9 = 17
    · refine q_sw (k := 17) h17 ?_
      refine lv_tableIn (x := 17) (off := 1328) (tgt := 1367) C.hx C.hb dL_law_39 (by decide) (by decide) rfl (by decide) ?_
      exact op_ofBasket C hI hB hL hR hS hmq hi hc2 hs2 hl K
    by_cases h18 : v9 = 18
    · refine q_sw (k := 18) h18 ?_
      refine lv_tableIn (x := 18) (off := 1396) (tgt := 1435) C.hx C.hb dL_law_39 (by decide) (by decide) rfl (by decide) ?_
      exact op_ofTank C hI hB hL hR hS hmq hi hc2 hs2 hl K
    by_cases h19 : v9 = 19
    · refine q_sw (k := 19) h19 ?_
      refine lv_tableIn (x := 19) (off := 1464) (tgt := 1503) C.hx C.hb dL_law_39 (by decide) (by decide) rfl (by decide) ?_
      exact op_ofBed C hI hB hL hR hS hmq hi hc2 hs2 hl K
    by_cases h20 : v9 = 20
    · refine q_sw (k := 20) h20 ?_
      refine lv_tableIn (x := 20) (off := 1532) (tgt := 1571) C.hx C.hb dL_law_39 (by decide) (by decide) rfl (by decide) ?_
      exact op_ofLot C hI hB hL hR hS hmq hi hc2 hs2 hl K
    by_cases h21 : v9 = 21
    · refine q_sw (k := 21) h21 ?_
      refine lv_tableIn (x := 21) (off := 1600) (tgt := 1639) C.hx C.hb dL_law_39 (by decide) (by decide) rfl (by decide) ?_
      exact op_kilosOf C hI hB hL hR hS hmq hi hc2 hs2 hl K
    by_cases h22 : v9 = 22
    · refine q_sw (k := 22) h22 ?_
      refine lv_tableIn (x := 22) (off := 1668) (tgt := 1707) C.hx C.hb dL_law_39 (by decide) (by decide) rfl (by decide) ?_
      exact op_many C hI hB hL hR hS hmq hi hc2 hs2 hl K
    by_cases h23 : v9 = 23
    · refine q_sw (k := 23) h23 ?_
      refine lv_tableIn (x := 23) (off := 1724) (tgt := 1763) C.hx C.hb dL_law_39 (by decide) (by decide) rfl (by decide) ?_
      exact op_meanScore C hI hB hL hR hS hmq hi hc2 hs2 hl K
    by_cases h24 : v9 = 24
    · refine q_sw (k := 24) h24 ?_
      refine lv_tableIn (x := 24) (off := 1765) (tgt := 1804) C.hx C.hb dL_law_39 (by decide) (by decide) rfl (by decide) ?_
      exact op_readyIn C hI hB hL hR hS hmq hi hc2 hs2 hl K
    by_cases h25 : v9 = 25
    · refine q_sw (k := 25) h25 ?_
      refine lv_tableIn (x := 25) (off := 1833) (tgt := 1872) C.hx C.hb dL_law_39 (by decide) (by decide) rfl (by decide) ?_
      exact op_dryIn C hI hB hL hR hS hmq hi hc2 hs2 hl K
    by_cases h26 : v9 = 26
    · refine q_sw (k := 26) h26 ?_
      refine lv_tableIn (x := 26) (off := 1901) (tgt := 1940) C.hx C.hb dL_law_39 (by decide) (by decide) rfl (by decide) ?_
      exact op_bestBlend C hI hB hL hR hS hmq hi hc2 hs2 hl K
    by_cases h27 : v9 = 27
    · refine q_sw (k := 27) h27 ?_
      refine lv_tableIn (x := 27) (off := 1914) (tgt := 1953) C.hx C.hb dL_law_39 (by decide) (by decide) rfl (by decide) ?_
      exact op_wouldShare C hI hB hL hR hS hmq hi hc2 hs2 hl K
    by_cases h28 : v9 = 28
    · refine q_sw (k := 28) h28 ?_
      refine lv_tableIn (x := 28) (off := 2022) (tgt := 2061) C.hx C.hb dL_law_39 (by decide) (by decide) rfl (by decide) ?_
      exact op_digest C hI hB hL hR hS hmq hi hc2 hs2 hl K
    refine lv_tableOut (tgt := 2075) C.hx C.hb dL_law_39 (sw_0_28 h0 h1 h2 h3 h4 h5 h6 h7 h8 h9 h10 h11 h12 h13 h14 h15 h16 h17 h18 h19 h20 h21 h22 h23 h24 h25 h26 h27 h28) (by decide) ?_
    refine W.widen (k := cells + 450) (n := slots + 6200) (by omega) (by omega) ?_
    exact K g vo bd w mm SS H locs ls hL hR hS hmq hl
end LP
