def fX6_blendedScore (g : Gd) (i : Nat) (o : Nat) : Int32 × Gd := (fX3_score (fX3_takeIn (fX3_copyFrom g 12 i) 12 o) 12, fX3_takeIn (fX3_copyFrom g 12 i) 12 o)
theorem qX6_blendedScore_w1 : Cond.fieldLink RX6 40 "CherryStation" "trial" "LCherryStation$Lot;" ∈ wsX6_blendedScore := List.mem_of_getElem? (i := 1) rfl
theorem qX6_blendedScore_w2 : Cond.fieldLink RX6 11 "CherryStation" "farms" "[LCherryStation$Farm;" ∈ wsX6_blendedScore := List.mem_of_getElem? (i := 2) rfl
theorem iX6_blendedScore_X6 : ∀ w ∈ wsX60, w ∈ wsX6_blendedScore := fun _ h => (List.mem_cons_of_mem _ (List.mem_append_left _ (List.mem_append_left _ (List.mem_append_left _ (List.mem_append_right _ h)))))
set_option maxRecDepth 100000 in
set_option maxHeartbeats 4000000 in
theorem kX6_blendedScore (l : Launch) (D : va_G) (cy : Nat → ClassId) {ad : Nat → Nat → Nat} (hI : cI ad) (g : Gd) (sz : Nat) (i : Nat) (hrow_i : i < 13) (o : Nat) (hrow_o : o < 13) (h12 : ¬ 12 = i) (h12o : ¬ 12 = o) : Met l yX6_blendedScore wsX6_blendedScore ({ frames := 3, cells := 0, slots := 0, locals := 67 } : Room) (va_Pc [.ref (ad 0 0), .ref (ad 5 i), .ref (ad 5 o)] (cPre D cy ad g sz)) (cQi D cy ad (fX6_blendedScore g i o).1 (fX6_blendedScore g i o).2 sz) 0 0 (cA ad sz) := by
  refine q_start (cc := cX6_blendedScore) (maxL := 3) (ret := (some .int)) (own := RX6) (by decide) rfl rfl (Nat.le_of_ble_eq_true rfl) ?_
  intro p e s m below meth c hx hb hr hml hts hown hlocks ⟨hsz, hC, hB⟩ ls hl
  subst hsz
  have hS : va_S (cA ad s.heap.size) s.heap s.heap [] := va_S.rf
  have hA : ∀ κ i : Nat, cV κ i → cA ad s.heap.size (ad κ i) := fun κ i h => Or.inl ⟨κ, i, h, rfl⟩
  have hl : lv_has ls 3 [(0, .ref (ad 0 0)), (1, .ref (ad 5 i)), (2, .ref (ad 5 o))] := hl
  refine lv_aload_n hx hb dX6_blendedScore_0 rfl (lv_at hl 0 rfl) ?_
  refine gt_0_5 hx hb hts iX6_blendedScore_X6 hown hB.1 hC qX6_blendedScore_w1 dX6_blendedScore_1 ?_
  refine lv_aload_n hx hb dX6_blendedScore_4 rfl (lv_at hl 1 rfl) ?_
  refine q_callVv (As := [.ref (ad 5 i)]) (κ := 5) (i := 12) (show 12 < 13 from (by decide)) rfl ⟨_, rfl⟩ rfl ⟨hx, hb, hml, hown, hts⟩ (kX3_copyFrom l D cy hI g _ 12 (by decide) i hrow_i  h12) (cwV 1 hts gX6_blendedScore_X3_copyFrom rfl rfl rfl (by decide +kernel) ⟨Nat.le_of_ble_eq_true rfl, Nat.le_of_ble_eq_true rfl⟩) hB hC hS rfl hl.1 (Nat.le_of_ble_eq_true rfl) dX6_blendedScore_5 ⟨Nat.le_of_ble_eq_true rfl, Nat.le_of_ble_eq_true rfl⟩ (fun H locs hC hS => ?_)
  refine lv_aload_n hx hb dX6_blendedScore_8 rfl (lv_at hl 0 rfl) ?_
  refine gt_0_5 hx hb hts iX6_blendedScore_X6 hown hB.1 hC qX6_blendedScore_w1 dX6_blendedScore_9 ?_
  refine lv_aload_n hx hb dX6_blendedScore_12 rfl (lv_at hl 2 rfl) ?_
  refine q_callVv (As := [.ref (ad 5 o)]) (κ := 5) (i := 12) (show 12 < 13 from (by decide)) rfl ⟨_, rfl⟩ rfl ⟨hx, hb, hml, hown, hts⟩ (kX3_takeIn l D cy hI (fX3_copyFrom g 12 i) _ 12 (by decide) o hrow_o  h12o) (cwV 1 hts gX6_blendedScore_X3_takeIn rfl rfl rfl (by decide +kernel) ⟨Nat.le_of_ble_eq_true rfl, Nat.le_of_ble_eq_true rfl⟩) hB hC hS rfl hl.1 (Nat.le_of_ble_eq_true rfl) dX6_blendedScore_13 ⟨Nat.le_of_ble_eq_true rfl, Nat.le_of_ble_eq_true rfl⟩ (fun H locs hC hS => ?_)
  refine lv_aload_n hx hb dX6_blendedScore_16 rfl (lv_at hl 0 rfl) ?_
  refine gt_0_5 hx hb hts iX6_blendedScore_X6 hown hB.1 hC qX6_blendedScore_w1 dX6_blendedScore_17 ?_
  refine lv_aload_n hx hb dX6_blendedScore_20 rfl (lv_at hl 0 rfl) ?_
  refine gt_0_0 hx hb hts iX6_blendedScore_X6 hown hB.1 hC qX6_blendedScore_w2 dX6_blendedScore_21 ?_
  refine q_callVi (As := [.ref (ad 10 0)]) (κ := 5) (i := 12) (show 12 < 13 from (by decide)) rfl ⟨_, rfl⟩ rfl ⟨hx, hb, hml, hown, hts⟩ (kX3_score l D cy hI (fX3_takeIn (fX3_copyFrom g 12 i) 12 o) _ 12 (by decide)  ) (cwV 1 hts gX6_blendedScore_X3_score rfl rfl rfl (by decide +kernel) ⟨Nat.le_of_ble_eq_true rfl, Nat.le_of_ble_eq_true rfl⟩) hB hC hS rfl hl.1 (Nat.le_of_ble_eq_true rfl) dX6_blendedScore_24 ⟨Nat.le_of_ble_eq_true rfl, Nat.le_of_ble_eq_true rfl⟩ (fun H locs hC hS => ?_)
  have e9 : fX6_blendedScore g i o = (fX3_score (fX3_takeIn (fX3_copyFrom g 12 i) 12 o) 12, fX3_takeIn (fX3_copyFrom g 12 i) 12 o) := rfl
  exact q_reti hx hb hr hB hC hS (by rw [e9]) (by rw [e9]) hlocks dX6_blendedScore_27
theorem kp_blended (g : Gd) (i o : Nat) : (∀ c, (fX6_blendedScore g i o).2 0 0 c = g 0 0 c) := by
  intro c
  simp [fX6_blendedScore, fX3_takeIn, fX3_copyFrom, fX4_addMix, fX4_clear, up]
def fX6_bestBlend_L19 (g : Gd) (i : Nat) : Nat → Nat → Int32 → Int32 → Gd → Int32 × Int32 × Gd
  | 0, j, best, bs, g1 => (best, bs, g1)
  | n + 1, j, best, bs, g1 => if (g1 0 0 10) ≤ (nI j) then ((best, bs, g1)) else (if (fX3_canBlendWith g1 i j) = 0 then (if (-1) ≤ bs then (fX6_bestBlend_L19 g i n (j + 1) best bs g1) else (fX6_bestBlend_L19 g i n (j + 1) ((20 * (nI i)) + (nI j)) (-1) g1)) else (if ((fX6_blendedScore g1 i j).1) ≤ bs then (fX6_bestBlend_L19 g i n (j + 1) best bs ((fX6_blendedScore g1 i j).2)) else (fX6_bestBlend_L19 g i n (j + 1) ((20 * (nI i)) + (nI j)) ((fX6_blendedScore g1 i j).1) ((fX6_blendedScore g1 i j).2))))
def fX6_bestBlend_L6 (g : Gd) : Nat → Nat → Int32 → Int32 → Gd → Int32 × Int32 × Gd
  | 0, i, best, bs, g1 => (best, bs, g1)
  | n + 1, i, best, bs, g1 => if (g1 0 0 10) ≤ (nI i) then ((best, bs, g1)) else (fX6_bestBlend_L6 g n (i + 1) ((fX6_bestBlend_L19 g i (12 - i) (i + 1) best bs g1).1) ((fX6_bestBlend_L19 g i (12 - i) (i + 1) best bs g1).2.1) ((fX6_bestBlend_L19 g i (12 - i) (i + 1) best bs g1).2.2))
def fX6_bestBlend (g : Gd) : Int32 × Gd := ((fX6_bestBlend_L6 g 13 0 (-1) (-1) g).1, (fX6_bestBlend_L6 g 13 0 (-1) (-1) g).2.2)
theorem qX6_bestBlend_w1 : Cond.fieldLink RX6 58 "CherryStation" "lotCount" "I" ∈ wsX6_bestBlend := List.mem_of_getElem? (i := 1) rfl
theorem qX6_bestBlend_w2 : Cond.fieldLink RX6 35 "CherryStation" "lots" "[LCherryStation$Lot;" ∈ wsX6_bestBlend := List.mem_of_getElem? (i := 2) rfl
theorem iX6_bestBlend_X6 : ∀ w ∈ wsX60, w ∈ wsX6_bestBlend := fun _ h => (List.mem_cons_of_mem _ (List.mem_append_left _ (List.mem_append_left _ (List.mem_append_left _ (List.mem_append_right _ h)))))
set_option maxRecDepth 100000 in
set_option maxHeartbeats 4000000 in
theorem kX6_bestBlend_L19 (l : Launch) (D : va_G) (cy : Nat → ClassId) {ad : Nat → Nat → Nat} (hI : cI ad) (g : Gd) (i : Nat) (hv : IvC g) (hi : i < 12) {p : Program} {e : Env} {s : State} {m : MethodId} {below : List Frame} {meth : Method} {c : Code} {Q : State → Prop} (hx : p.tables.exec = Jvm.exec) (hb : c.code = cX6_bestBlend) (hr : meth.sig.returnType = (some .int)) (hml : c.maxLocals = 6) (hts : ∀ w ∈ wsX6_bestBlend, w.before [.ref (ad 0 0)].toArray s = true) (hown : s.vm.findClass RX6 = some m.cls) (hlocks : meth.locks = false) (hB : CB D cy ad s) : ∀ (n j : Nat) (best : Int32) (bs : Int32) (g1 : Gd) (hn : j + n = 13) (hk : (j : Int) ≤ (g1 0 0 10).toInt) (hc1 : (g1 0 0 10).toInt ≤ 12)   (H : Heap) (locs : List Loc) (ls : Array Slot) (hC : CW D cy ad g1 H) (hS : va_S (cA ad s.heap.size) s.heap H locs) (hl : lv_has ls 6 [(4, .int (nI j)), (3, .int (nI i)), (2, .int bs), (1, .int best), (0, .ref (ad 0 0))]) (kk : ∀ (H : Heap) (locs : List Loc) (ls : Array Slot), CW D cy ad ((fX6_bestBlend_L19 g i n j best bs g1).2.2) H → va_S (cA ad s.heap.size) s.heap H locs → lv_has ls 6 [(3, .int (nI i)), (2, .int ((fX6_bestBlend_L19 g i n j best bs g1).2.1)), (1, .int ((fX6_bestBlend_L19 g i n j best bs g1).1)), (0, .ref (ad 0 0))] → W p l e ({ frames := 4, cells := 0, slots := 0, locals := 89 } : Room) s m [.ref (ad 0 0)].toArray below meth c H locs 0 0 Q (F0 m 93 ls [])), W p l e ({ frames := 4, cells := 0, slots := 0, locals := 89 } : Room) s m [.ref (ad 0 0)].toArray below meth c H locs 0 0 Q (F0 m 19 ls []) := by
  have hA : ∀ κ i : Nat, cV κ i → cA ad s.heap.size (ad κ i) := fun κ i h => Or.inl ⟨κ, i, h, rfl⟩
  intro n
  induction n with
  | zero => intro j best bs g1 hn hk hc1 H locs ls hC hS hl kk; exact absurd hk (by omega)
  | succ n ih =>
    intro j best bs g1 hn hk hc1 H locs ls hC hS hl kk
    refine lv_iload hx hb dX6_bestBlend_19 (lv_at hl 0 rfl) ?_
    refine lv_aload_n hx hb dX6_bestBlend_21 rfl (lv_at hl 4 rfl) ?_
    refine gt_0_10 hx hb hts iX6_bestBlend_X6 hown hB.1 hC qX6_bestBlend_w1 dX6_bestBlend_22 ?_
    refine lv_icmp_ge (tgt := 93) hx hb dX6_bestBlend_25 (by decide) (fun c2 => ?_) (fun c2 => ?_)
    · skip
      have e9 : fX6_bestBlend_L19 g i (n + 1) j best bs g1 = (best, bs, g1) := by rw [fX6_bestBlend_L19, if_pos c2]
      rw [e9] at kk
      exact kk H locs ls hC hS (lv_sub hl [1, 2, 3, 4] rfl)
    · skip
      refine lv_aload_n hx hb dX6_bestBlend_28 rfl (lv_at hl 4 rfl) ?_
      refine gt_0_4 hx hb hts iX6_bestBlend_X6 hown hB.1 hC qX6_bestBlend_w2 dX6_bestBlend_29 ?_
      refine lv_iload_n hx hb dX6_bestBlend_32 rfl (lv_at hl 1 rfl) ?_
      refine la_14 hx hb hB.1 hC (k := i) (nI_clamp (by omega)) (vp_in_nI (by omega) (by decide)) dX6_bestBlend_33 ?_
      refine lv_aload_n hx hb dX6_bestBlend_34 rfl (lv_at hl 4 rfl) ?_
      refine gt_0_4 hx hb hts iX6_bestBlend_X6 hown hB.1 hC qX6_bestBlend_w2 dX6_bestBlend_35 ?_
      refine lv_iload hx hb dX6_bestBlend_38 (lv_at hl 0 rfl) ?_
      have hk_j : j < 12 := lk_nat c2 hc1 (by omega)
      refine la_14 hx hb hB.1 hC (k := j) (nI_clamp (by omega)) (vp_in_nI (by omega) (by decide)) dX6_bestBlend_40 ?_
      refine q_callVi (As := [.ref (ad 5 j)]) (κ := 5) (i := i) (show i < 13 from (by omega)) rfl ⟨_, rfl⟩ rfl ⟨hx, hb, hml, hown, hts⟩ (kX3_canBlendWith l D cy hI g1 _ i (by omega) j (by omega)  ) (cwV 1 hts gX6_bestBlend_X3_canBlendWith rfl rfl rfl (by decide +kernel) ⟨Nat.le_of_ble_eq_true rfl, Nat.le_of_ble_eq_true rfl⟩) hB hC hS rfl hl.1 (Nat.le_of_ble_eq_true rfl) dX6_bestBlend_41 ⟨Nat.le_of_ble_eq_true rfl, Nat.le_of_ble_eq_true rfl⟩ (fun H locs hC hS => ?_)
      refine lv_if_eq (tgt := 67) hx hb dX6_bestBlend_44 (by decide) (fun c3 => ?_) (fun c3 => ?_)
      · skip
        refine lv_iconst (v := (-1)) hx hb dX6_bestBlend_67 (by decide) ?_
        refine lv_istore (lv' := [(5, .int (-1)), (4, .int (nI j)), (3, .int (nI i)), (2, .int bs), (1, .int best), (0, .ref (ad 0 0))]) hx hb dX6_bestBlend_68 hl (by decide) rfl (fun ls hl => ?_)
        refine lv_iload hx hb dX6_bestBlend_70 (lv_at hl 0 rfl) ?_
        refine lv_iload_n hx hb dX6_bestBlend_72 rfl (lv_at hl 3 rfl) ?_
        refine lv_icmp_le (tgt := 87) hx hb dX6_bestBlend_73 (by decide) (fun c4 => ?_) (fun c4 => ?_)
        · skip
          refine lv_iinc (v := nI (j + 1)) (lv' := [(4, .int (nI (j + 1))), (5, .int (-1)), (3, .int (nI i)), (2, .int bs), (1, .int best), (0, .ref (ad 0 0))]) hx hb dX6_bestBlend_87 hl (k := 1) rfl (nI_1 _) (by decide) rfl (fun ls hl => ?_)
          refine lv_goto (tgt := 19) hx hb dX6_bestBlend_90 (by decide) ?_
          have e9 : fX6_bestBlend_L19 g i (n + 1) j best bs g1 = fX6_bestBlend_L19 g i n (j + 1) best bs g1 := by rw [fX6_bestBlend_L19, if_neg c2, if_pos c3, if_pos c4]
          rw [e9] at kk
          exact ih (j + 1) best bs g1 (by omega) (by have q9 := lk_lt c2 (by omega); rw [(show g1 0 0 10 = g1 0 0 10 from rfl)]; omega) (by rw [(show g1 0 0 10 = g1 0 0 10 from rfl)]; exact hc1)  H locs ls hC hS (lv_sub hl [0, 2, 3, 4, 5] rfl) kk
        · skip
          refine lv_iload hx hb dX6_bestBlend_76 (lv_at hl 0 rfl) ?_
          refine lv_istore_n (lv' := [(2, .int (-1)), (5, .int (-1)), (4, .int (nI j)), (3, .int (nI i)), (1, .int best), (0, .ref (ad 0 0))]) hx hb dX6_bestBlend_78 rfl hl (by decide) rfl (fun ls hl => ?_)
          refine lv_bipush (v := 20) hx hb dX6_bestBlend_79 (by decide) ?_
          refine lv_iload_n hx hb dX6_bestBlend_81 rfl (lv_at hl 3 rfl) ?_
          refine lv_imul hx hb dX6_bestBlend_82 ?_
          refine lv_iload hx hb dX6_bestBlend_83 (lv_at hl 2 rfl) ?_
          refine lv_iadd hx hb dX6_bestBlend_85 ?_
          refine lv_istore_n (lv' := [(1, .int ((20 * (nI i)) + (nI j))), (2, .int (-1)), (5, .int (-1)), (4, .int (nI j)), (3, .int (nI i)), (0, .ref (ad 0 0))]) hx hb dX6_bestBlend_86 rfl hl (by decide) rfl (fun ls hl => ?_)
          refine lv_iinc (v := nI (j + 1)) (lv' := [(4, .int (nI (j + 1))), (1, .int ((20 * (nI i)) + (nI j))), (2, .int (-1)), (5, .int (-1)), (3, .int (nI i)), (0, .ref (ad 0 0))]) hx hb dX6_bestBlend_87 hl (k := 3) rfl (nI_1 _) (by decide) rfl (fun ls hl => ?_)
          refine lv_goto (tgt := 19) hx hb dX6_bestBlend_90 (by decide) ?_
          have e9 : fX6_bestBlend_L19 g i (n + 1) j best bs g1 = fX6_bestBlend_L19 g i n (j + 1) ((20 * (nI i)) + (nI j)) (-1) g1 := by rw [fX6_bestBlend_L19, if_neg c2, if_pos c3, if_neg c4]
          rw [e9] at kk
          exact ih (j + 1) ((20 * (nI i)) + (nI j)) (-1) g1 (by omega) (by have q9 := lk_lt c2 (by omega); rw [(show g1 0 0 10 = g1 0 0 10 from rfl)]; omega) (by rw [(show g1 0 0 10 = g1 0 0 10 from rfl)]; exact hc1)  H locs ls hC hS (lv_sub hl [0, 4, 2, 1, 5] rfl) kk
      · skip
        refine lv_aload_n hx hb dX6_bestBlend_47 rfl (lv_at hl 4 rfl) ?_
        refine lv_aload_n hx hb dX6_bestBlend_48 rfl (lv_at hl 4 rfl) ?_
        refine gt_0_4 hx hb hts iX6_bestBlend_X6 hown hB.1 hC qX6_bestBlend_w2 dX6_bestBlend_49 ?_
        refine lv_iload_n hx hb dX6_bestBlend_52 rfl (lv_at hl 1 rfl) ?_
        refine la_14 hx hb hB.1 hC (k := i) (nI_clamp (by omega)) (vp_in_nI (by omega) (by decide)) dX6_bestBlend_53 ?_
        refine lv_aload_n hx hb dX6_bestBlend_54 rfl (lv_at hl 4 rfl) ?_
        refine gt_0_4 hx hb hts iX6_bestBlend_X6 hown hB.1 hC qX6_bestBlend_w2 dX6_bestBlend_55 ?_
        refine lv_iload hx hb dX6_bestBlend_58 (lv_at hl 0 rfl) ?_
        refine la_14 hx hb hB.1 hC (k := j) (nI_clamp (by omega)) (vp_in_nI (by omega) (by decide)) dX6_bestBlend_60 ?_
        refine q_callVi (As := [.ref (ad 5 i), .ref (ad 5 j)]) (κ := 0) (i := 0) rfl rfl ⟨_, rfl⟩ rfl ⟨hx, hb, hml, hown, hts⟩ (kX6_blendedScore l D cy hI g1 _ i (by omega) j (by omega)  (by omega) (by omega)) (cwV 2 hts gX6_bestBlend_X6_blendedScore rfl rfl rfl (by decide +kernel) ⟨Nat.le_of_ble_eq_true rfl, Nat.le_of_ble_eq_true rfl⟩) hB hC hS rfl hl.1 (Nat.le_of_ble_eq_true rfl) dX6_bestBlend_61 ⟨Nat.le_of_ble_eq_true rfl, Nat.le_of_ble_eq_true rfl⟩ (fun H locs hC hS => ?_)
        refine lv_goto (tgt := 68) hx hb dX6_bestBlend_64 (by decide) ?_
        refine lv_istore (lv' := [(5, .int ((fX6_blendedScore g1 i j).1)), (4, .int (nI j)), (3, .int (nI i)), (2, .int bs), (1, .int best), (0, .ref (ad 0 0))]) hx hb dX6_bestBlend_68 hl (by decide) rfl (fun ls hl => ?_)
        refine lv_iload hx hb dX6_bestBlend_70 (lv_at hl 0 rfl) ?_
        refine lv_iload_n hx hb dX6_bestBlend_72 rfl (lv_at hl 3 rfl) ?_
        refine lv_icmp_le (tgt := 87) hx hb dX6_bestBlend_73 (by decide) (fun c5 => ?_) (fun c5 => ?_)
        · skip
          refine lv_iinc (v := nI (j + 1)) (lv' := [(4, .int (nI (j + 1))), (5, .int ((fX6_blendedScore g1 i j).1)), (3, .int (nI i)), (2, .int bs), (1, .int best), (0, .ref (ad 0 0))]) hx hb dX6_bestBlend_87 hl (k := 1) rfl (nI_1 _) (by decide) rfl (fun ls hl => ?_)
          refine lv_goto (tgt := 19) hx hb dX6_bestBlend_90 (by decide) ?_
          have e9 : fX6_bestBlend_L19 g i (n + 1) j best bs g1 = fX6_bestBlend_L19 g i n (j + 1) best bs ((fX6_blendedScore g1 i j).2) := by rw [fX6_bestBlend_L19, if_neg c2, if_neg c3, if_pos c5]
          rw [e9] at kk
          exact ih (j + 1) best bs ((fX6_blendedScore g1 i j).2) (by omega) (by have q9 := lk_lt c2 (by omega); rw [(show ((fX6_blendedScore g1 i j).2) 0 0 10 = g1 0 0 10 from (kp_blended _ _ _ _))]; omega) (by rw [(show ((fX6_blendedScore g1 i j).2) 0 0 10 = g1 0 0 10 from (kp_blended _ _ _ _))]; exact hc1)  H locs ls hC hS (lv_sub hl [0, 2, 3, 4, 5] rfl) kk
        · skip
          refine lv_iload hx hb dX6_bestBlend_76 (lv_at hl 0 rfl) ?_
          refine lv_istore_n (lv' := [(2, .int ((fX6_blendedScore g1 i j).1)), (5, .int ((fX6_blendedScore g1 i j).1)), (4, .int (nI j)), (3, .int (nI i)), (1, .int best), (0, .ref (ad 0 0))]) hx hb dX6_bestBlend_78 rfl hl (by decide) rfl (fun ls hl => ?_)
          refine lv_bipush (v := 20) hx hb dX6_bestBlend_79 (by decide) ?_
          refine lv_iload_n hx hb dX6_bestBlend_81 rfl (lv_at hl 3 rfl) ?_
          refine lv_imul hx hb dX6_bestBlend_82 ?_
          refine lv_iload hx hb dX6_bestBlend_83 (lv_at hl 2 rfl) ?_
          refine lv_iadd hx hb dX6_bestBlend_85 ?_
          refine lv_istore_n (lv' := [(1, .int ((20 * (nI i)) + (nI j))), (2, .int ((fX6_blendedScore g1 i j).1)), (5, .int ((fX6_blendedScore g1 i j).1)), (4, .int (nI j)), (3, .int (nI i)), (0, .ref (ad 0 0))]) hx hb dX6_bestBlend_86 rfl hl (by decide) rfl (fun ls hl => ?_)
          refine lv_iinc (v := nI (j + 1)) (lv' := [(4, .int (nI (j + 1))), (1, .int ((20 * (nI i)) + (nI j))), (2, .int ((fX6_blendedScore g1 i j).1)), (5, .int ((fX6_blendedScore g1 i j).1)), (3, .int (nI i)), (0, .ref (ad 0 0))]) hx hb dX6_bestBlend_87 hl (k := 3) rfl (nI_1 _) (by decide) rfl (fun ls hl => ?_)
          refine lv_goto (tgt := 19) hx hb dX6_bestBlend_90 (by decide) ?_
          have e9 : fX6_bestBlend_L19 g i (n + 1) j best bs g1 = fX6_bestBlend_L19 g i n (j + 1) ((20 * (nI i)) + (nI j)) ((fX6_blendedScore g1 i j).1) ((fX6_blendedScore g1 i j).2) := by rw [fX6_bestBlend_L19, if_neg c2, if_neg c3, if_neg c5]
          rw [e9] at kk
          exact ih (j + 1) ((20 * (nI i)) + (nI j)) ((fX6_blendedScore g1 i j).1) ((fX6_blendedScore g1 i j).2) (by omega) (by have q9 := lk_lt c2 (by omega); rw [(show ((fX6_blendedScore g1 i j).2) 0 0 10 = g1 0 0 10 from (kp_blended _ _ _ _))]; omega) (by rw [(show ((fX6_blendedScore g1 i j).2) 0 0 10 = g1 0 0 10 from (kp_blended _ _ _ _))]; exact hc1)  H locs ls hC hS (lv_sub hl [0, 4, 2, 1, 5] rfl) kk
theorem best_L19 (g : Gd) (i : Nat) : ∀ (n j : Nat) (best bs : Int32) (g1 : Gd) (c : Nat), (fX6_bestBlend_L19 g i n j best bs g1).2.2 0 0 c = g1 0 0 c := by
  intro n
  induction n with
  | zero => intro j best bs g1 c; rfl
  | succ n ih =>
    intro j best bs g1 c
    rw [fX6_bestBlend_L19]
    repeat' split
    all_goals first | rfl | exact ih _ _ _ _ _ | exact (ih _ _ _ _ _).trans (kp_blended _ _ _ _)
set_option maxRecDepth 100000 in
set_option maxHeartbeats 4000000 in
theorem kX6_bestBlend_L6 (l : Launch) (D : va_G) (cy : Nat → ClassId) {ad : Nat → Nat → Nat} (hI : cI ad) (g : Gd) (hv : IvC g)  {p : Program} {e : Env} {s : State} {m : MethodId} {below : List Frame} {meth : Method} {c : Code} {Q : State → Prop} (hx : p.tables.exec = Jvm.exec) (hb : c.code = cX6_bestBlend) (hr : meth.sig.returnType = (some .int)) (hml : c.maxLocals = 6) (hts : ∀ w ∈ wsX6_bestBlend, w.before [.ref (ad 0 0)].toArray s = true) (hown : s.vm.findClass RX6 = some m.cls) (hlocks : meth.locks = false) (hB : CB D cy ad s) : ∀ (n i : Nat) (best : Int32) (bs : Int32) (g1 : Gd) (hn : i + n = 13) (hk : (i : Int) ≤ (g1 0 0 10).toInt) (hc1 : (g1 0 0 10).toInt ≤ 12)   (H : Heap) (locs : List Loc) (ls : Array Slot) (hC : CW D cy ad g1 H) (hS : va_S (cA ad s.heap.size) s.heap H locs) (hl : lv_has ls 6 [(3, .int (nI i)), (2, .int bs), (1, .int best), (0, .ref (ad 0 0))]) (kk : ∀ (H : Heap) (locs : List Loc) (ls : Array Slot), CW D cy ad ((fX6_bestBlend_L6 g n i best bs g1).2.2) H → va_S (cA ad s.heap.size) s.heap H locs → lv_has ls 6 [(2, .int ((fX6_bestBlend_L6 g n i best bs g1).2.1)), (1, .int ((fX6_bestBlend_L6 g n i best bs g1).1)), (0, .ref (ad 0 0))] → W p l e ({ frames := 4, cells := 0, slots := 0, locals := 89 } : Room) s m [.ref (ad 0 0)].toArray below meth c H locs 0 0 Q (F0 m 99 ls [])), W p l e ({ frames := 4, cells := 0, slots := 0, locals := 89 } : Room) s m [.ref (ad 0 0)].toArray below meth c H locs 0 0 Q (F0 m 6 ls []) := by
  have hA : ∀ κ i : Nat, cV κ i → cA ad s.heap.size (ad κ i) := fun κ i h => Or.inl ⟨κ, i, h, rfl⟩
  intro n
  induction n with
  | zero => intro i best bs g1 hn hk hc1 H locs ls hC hS hl kk; exact absurd hk (by omega)
  | succ n ih =>
    intro i best bs g1 hn hk hc1 H locs ls hC hS hl kk
    refine lv_iload_n hx hb dX6_bestBlend_6 rfl (lv_at hl 0 rfl) ?_
    refine lv_aload_n hx hb dX6_bestBlend_7 rfl (lv_at hl 3 rfl) ?_
    refine gt_0_10 hx hb hts iX6_bestBlend_X6 hown hB.1 hC qX6_bestBlend_w1 dX6_bestBlend_8 ?_
    refine lv_icmp_ge (tgt := 99) hx hb dX6_bestBlend_11 (by decide) (fun c1 => ?_) (fun c1 => ?_)
    · skip
      have e9 : fX6_bestBlend_L6 g (n + 1) i best bs g1 = (best, bs, g1) := by rw [fX6_bestBlend_L6, if_pos c1]
      rw [e9] at kk
      exact kk H locs ls hC hS (lv_sub hl [1, 2, 3] rfl)
    · skip
      refine lv_iload_n hx hb dX6_bestBlend_14 rfl (lv_at hl 0 rfl) ?_
      refine lv_iconst (v := 1) hx hb dX6_bestBlend_15 (by decide) ?_
      refine lv_iadd hx hb dX6_bestBlend_16 ?_
      refine q_val (v := nI (i + 1)) (nI_1 _) ?_
      refine lv_istore (lv' := [(4, .int (nI (i + 1))), (3, .int (nI i)), (2, .int bs), (1, .int best), (0, .ref (ad 0 0))]) hx hb dX6_bestBlend_17 hl (by decide) rfl (fun ls hl => ?_)
      refine kX6_bestBlend_L19 l D cy hI g i  hv (lk_nat c1 hc1 (by omega)) hx hb hr hml hts hown hlocks hB (12 - i) (i + 1) best bs g1 (by omega) (by have q9 := lk_lt c1 (by omega); omega) hc1  _ _ ls hC hS (lv_sub hl [0, 1, 2, 3, 4] rfl) (fun H locs ls hC hS hl => ?_)
      refine lv_iinc (v := nI (i + 1)) (lv' := [(3, .int (nI (i + 1))), (2, .int ((fX6_bestBlend_L19 g i (12 - i) (i + 1) best bs g1).2.1)), (1, .int ((fX6_bestBlend_L19 g i (12 - i) (i + 1) best bs g1).1)), (0, .ref (ad 0 0))]) hx hb dX6_bestBlend_93 hl (k := 0) rfl (nI_1 _) (by decide) rfl (fun ls hl => ?_)
      refine lv_goto (tgt := 6) hx hb dX6_bestBlend_96 (by decide) ?_
      have e9 : fX6_bestBlend_L6 g (n + 1) i best bs g1 = fX6_bestBlend_L6 g n (i + 1) ((fX6_bestBlend_L19 g i (12 - i) (i + 1) best bs g1).1) ((fX6_bestBlend_L19 g i (12 - i) (i + 1) best bs g1).2.1) ((fX6_bestBlend_L19 g i (12 - i) (i + 1) best bs g1).2.2) := by rw [fX6_bestBlend_L6, if_neg c1]
      rw [e9] at kk
      exact ih (i + 1) ((fX6_bestBlend_L19 g i (12 - i) (i + 1) best bs g1).1) ((fX6_bestBlend_L19 g i (12 - i) (i + 1) best bs g1).2.1) ((fX6_bestBlend_L19 g i (12 - i) (i + 1) best bs g1).2.2) (by omega) (by have q9 := lk_lt c1 (by omega); rw [(show ((fX6_bestBlend_L19 g i (12 - i) (i + 1) best bs g1).2.2) 0 0 10 = g1 0 0 10 from (best_L19 g i _ _ _ _ _ _))]; omega) (by rw [(show ((fX6_bestBlend_L19 g i (12 - i) (i + 1) best bs g1).2.2) 0 0 10 = g1 0 0 10 from (best_L19 g i _ _ _ _ _ _))]; exact hc1)  H locs ls hC hS (lv_sub hl [0, 1, 2, 3] rfl) kk
set_option maxRecDepth 100000 in
set_option maxHeartbeats 4000000 in
theorem kX6_bestBlend (l : Launch) (D : va_G) (cy : Nat → ClassId) {ad : Nat → Nat → Nat} (hI : cI ad) (g : Gd) (sz : Nat) (hv : IvC g) : Met l yX6_bestBlend wsX6_bestBlend ({ frames := 4, cells := 0, slots := 0, locals := 89 } : Room) (va_Pc [.ref (ad 0 0)] (cPre D cy ad g sz)) (cQi D cy ad (fX6_bestBlend g).1 (fX6_bestBlend g).2 sz) 0 0 (cA ad sz) := by
  refine q_start (cc := cX6_bestBlend) (maxL := 6) (ret := (some .int)) (own := RX6) (by decide) rfl rfl (Nat.le_of_ble_eq_true rfl) ?_
  intro p e s m below meth c hx hb hr hml hts hown hlocks ⟨hsz, hC, hB⟩ ls hl
  subst hsz
  have hS : va_S (cA ad s.heap.size) s.heap s.heap [] := va_S.rf
  have hA : ∀ κ i : Nat, cV κ i → cA ad s.heap.size (ad κ i) := fun κ i h => Or.inl ⟨κ, i, h, rfl⟩
  have hl : lv_has ls 6 [(0, .ref (ad 0 0))] := hl
  refine lv_iconst (v := (-1)) hx hb dX6_bestBlend_0 (by decide) ?_
  refine lv_istore_n (lv' := [(1, .int (-1)), (0, .ref (ad 0 0))]) hx hb dX6_bestBlend_1 rfl hl (by decide) rfl (fun ls hl => ?_)
  refine lv_iconst (v := (-1)) hx hb dX6_bestBlend_2 (by decide) ?_
  refine lv_istore_n (lv' := [(2, .int (-1)), (1, .int (-1)), (0, .ref (ad 0 0))]) hx hb dX6_bestBlend_3 rfl hl (by decide) rfl (fun ls hl => ?_)
  refine lv_iconst (v := 0) hx hb dX6_bestBlend_4 (by decide) ?_
  refine lv_istore_n (lv' := [(3, .int 0), (2, .int (-1)), (1, .int (-1)), (0, .ref (ad 0 0))]) hx hb dX6_bestBlend_5 rfl hl (by decide) rfl (fun ls hl => ?_)
  refine kX6_bestBlend_L6 l D cy hI g  hv  hx hb hr hml hts hown hlocks hB 13 0 (-1) (-1) g (by omega) (by have := (IvC.n10 hv).1; omega) (IvC.n10 hv).2  _ _ ls hC hS (lv_sub hl [0, 1, 2, 3] rfl) (fun H locs ls hC hS hl => ?_)
  refine lv_iload_n hx hb dX6_bestBlend_99 rfl (lv_at hl 1 rfl) ?_
  have e9 : fX6_bestBlend g = ((fX6_bestBlend_L6 g 13 0 (-1) (-1) g).1, (fX6_bestBlend_L6 g 13 0 (-1) (-1) g).2.2) := rfl
  exact q_reti hx hb hr hB hC hS (by rw [e9]) (by rw [e9]) hlocks dX6_bestBlend_100
