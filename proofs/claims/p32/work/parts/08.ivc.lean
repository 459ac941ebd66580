/-! ===== what the class's methods ask of a grid, so that no index, no divisor is wrong ===== -/
theorem vp_lt {x : Int32} {n : Nat} (h : vp_in x n) : x.toNatClampNeg < n := Nat.not_le.mp fun q => h (Or.inr q)
theorem in_lt {x y : Int32} (h0 : 0 ≤ x.toInt) (h : x < y) {n : Nat} (hn : y.toInt ≤ n := by decide) : vp_in x n := vp_in_iff.mpr ⟨h0, by have := Int32.lt_iff_toInt_lt.mp h; omega⟩
theorem in_of {x n : Int32} {N : Nat} (h0 : ¬ x < 0) (h1 : ¬ n ≤ x) (hn : n.toInt ≤ N) : vp_in x N := by
  refine vp_in_iff.mpr ⟨?_, ?_⟩
  · have h := Int32.not_lt.mp h0
    have := Int32.le_iff_toInt_le.mp h
    simpa using this
  · have h := Int32.not_le.mp h1
    have := Int32.lt_iff_toInt_lt.mp h
    omega
theorem nat_ne {x y : Int32} {n m : Nat} (hx : vp_in x n) (hy : vp_in y m) (h : ¬ x = y) : ¬ x.toNatClampNeg = y.toNatClampNeg := by
  intro e
  have h1 := vp_in_iff.mp hx
  have h2 := vp_in_iff.mp hy
  apply h
  apply Int32.toInt_inj.mp
  have e1 : x.toInt.toNat = y.toInt.toNat := e
  omega
def IvC (g : Gd) : Prop := (0 ≤ (g 0 0 7).toInt ∧ (g 0 0 7).toInt ≤ 6) ∧ (0 ≤ (g 0 0 8).toInt ∧ (g 0 0 8).toInt ≤ 20) ∧ (0 ≤ (g 0 0 9).toInt ∧ (g 0 0 9).toInt ≤ 5) ∧ (0 ≤ (g 0 0 10).toInt ∧ (g 0 0 10).toInt ≤ 12) ∧ (∀ b, b < 20 → vp_in (g 2 b 0) 6) ∧ (∀ i, i < 5 → ¬ 10 + fX1_depth g i = 0) ∧ (∀ i, i < 13 → ¬ (g 3 (8 + i) 0) ≤ 0 → ¬ 5 * (g 3 (8 + i) 0) = 0) ∧ (∀ i, i < 5 → g 3 (3 + i) 9 = 0 ∨ g 3 (3 + i) 9 = 1)
theorem IvC.n7 {g : Gd} (h : IvC g) : 0 ≤ (g 0 0 7).toInt ∧ (g 0 0 7).toInt ≤ (6 : Nat) := h.1
theorem IvC.n8 {g : Gd} (h : IvC g) : 0 ≤ (g 0 0 8).toInt ∧ (g 0 0 8).toInt ≤ (20 : Nat) := h.2.1
theorem IvC.n9 {g : Gd} (h : IvC g) : 0 ≤ (g 0 0 9).toInt ∧ (g 0 0 9).toInt ≤ (5 : Nat) := h.2.2.1
theorem IvC.n10 {g : Gd} (h : IvC g) : 0 ≤ (g 0 0 10).toInt ∧ (g 0 0 10).toInt ≤ (12 : Nat) := h.2.2.2.1
theorem IvC.bf {g : Gd} (h : IvC g) {b : Nat} (hb : b < 20) : vp_in (g 2 b 0) 6 := h.2.2.2.2.1 b hb
theorem IvC.dp {g : Gd} (h : IvC g) {i : Nat} (hi : i < 5) : ¬ 10 + fX1_depth g i = 0 := h.2.2.2.2.2.1 i hi
theorem IvC.k5 {g : Gd} (h : IvC g) {i : Nat} (hi : i < 13) : ¬ (g 3 (8 + i) 0) ≤ 0 → ¬ 5 * (g 3 (8 + i) 0) = 0 := h.2.2.2.2.2.2.1 i hi
theorem IvC.cv {g : Gd} (h : IvC g) {i : Nat} (hi : i < 5) : g 3 (3 + i) 9 = 0 ∨ g 3 (3 + i) 9 = 1 := h.2.2.2.2.2.2.2 i hi
theorem xN_90 : ∀ w ∈ (vx_atS RX6 90 "java/lang/IllegalArgumentException" ["java/lang/RuntimeException", "java/lang/Exception"]).filter (fun w => !goodWord w), w ∈ qNl := by decide +kernel
theorem xG_90 : ∀ w ∈ Cond.classLink RX6 86 "java/lang/IllegalArgumentException" :: Cond.initialized "java/lang/IllegalArgumentException" :: vx_atS RX6 90 "java/lang/IllegalArgumentException" ["java/lang/RuntimeException", "java/lang/Exception"], vx_ot w = true := by decide +kernel
theorem xN_97 : ∀ w ∈ (vx_atS RX6 97 "java/lang/IllegalStateException" ["java/lang/RuntimeException", "java/lang/Exception"]).filter (fun w => !goodWord w), w ∈ qNl := by decide +kernel
theorem xG_97 : ∀ w ∈ Cond.classLink RX6 93 "java/lang/IllegalStateException" :: Cond.initialized "java/lang/IllegalStateException" :: vx_atS RX6 97 "java/lang/IllegalStateException" ["java/lang/RuntimeException", "java/lang/Exception"], vx_ot w = true := by decide +kernel
theorem xN_416 : ∀ w ∈ (vx_atS RX6 416 "java/lang/IndexOutOfBoundsException" ["java/lang/RuntimeException", "java/lang/Exception"]).filter (fun w => !goodWord w), w ∈ qNl := by decide +kernel
theorem xG_416 : ∀ w ∈ Cond.classLink RX6 412 "java/lang/IndexOutOfBoundsException" :: Cond.initialized "java/lang/IndexOutOfBoundsException" :: vx_atS RX6 416 "java/lang/IndexOutOfBoundsException" ["java/lang/RuntimeException", "java/lang/Exception"], vx_ot w = true := by decide +kernel
def fX6_needFarm (g : Gd) (x : Int32) : Nat := if x < 0 then (1) else (if x < (g 0 0 7) then (0) else (1))
theorem qX6_needFarm_w1 : Cond.classLink RX6 412 "java/lang/IndexOutOfBoundsException" ∈ wsX6_needFarm := List.mem_of_getElem? (i := 1) rfl
theorem qX6_needFarm_w2 : Cond.initialized "java/lang/IndexOutOfBoundsException" ∈ wsX6_needFarm := List.mem_of_getElem? (i := 2) rfl
theorem qX6_needFarm_w3 : Cond.fieldLink RX6 48 "CherryStation" "farmCount" "I" ∈ wsX6_needFarm := List.mem_of_getElem? (i := 3) rfl
theorem iX6_needFarm_X6 : ∀ w ∈ wsX60, w ∈ wsX6_needFarm := fun _ h => (List.mem_cons_of_mem _ (List.mem_append_left _ (List.mem_append_right _ h)))
set_option maxRecDepth 100000 in
set_option maxHeartbeats 4000000 in
theorem kX6_needFarm (l : Launch) (D : va_G) (cy : Nat → ClassId) {ad : Nat → Nat → Nat} (hI : cI ad) (hl0 : l.stackTraces = false) (g : Gd) (sz : Nat) (x : Int32) : vx_Met l yX6_needFarm wsX6_needFarm ({ frames := 6, cells := 1, slots := 6, locals := 82 } : Room) (va_Pc [.ref (ad 0 0), .int x] (cPre D cy ad g sz)) (cXv D cy ad (fX6_needFarm g x) g sz) (cXC D cy ad (fX6_needFarm g x) g sz) 1 6 (cA ad sz) := by
  refine q_startX (cc := cX6_needFarm) (maxL := 2) (ret := none) (own := RX6) (by decide) rfl rfl (Nat.le_of_ble_eq_true rfl) ?_
  intro p e s m below meth c hx hb hr hml hts hown hlocks hT ⟨hsz, hC, hB⟩ ls hl
  subst hsz
  have hS : va_S (cA ad s.heap.size) s.heap s.heap [] := va_S.rf
  have hA : ∀ κ i : Nat, cV κ i → cA ad s.heap.size (ad κ i) := fun κ i h => Or.inl ⟨κ, i, h, rfl⟩
  have hl : lv_has ls 2 [(0, .ref (ad 0 0)), (1, .int x)] := hl
  refine lv_iload_n hx hb dX6_needFarm_0 rfl (lv_at hl 1 rfl) ?_
  refine lv_if_lt (tgt := 12) hx hb dX6_needFarm_1 (by decide) (fun c1 => ?_) (fun c1 => ?_)
  · skip
    exact q_throwW (cdv := 1) (ik := 412) (is := 414) (ic := 416) (cls := "java/lang/IndexOutOfBoundsException") (text := "there is no such farm") hl0 hx hb hown hml hT hlocks hB hC hS hl.1 (by unfold fX6_needFarm; rw [if_pos c1]) rfl (by decide) ⟨by decide, by decide⟩ (hts _ qX6_needFarm_w1) (hts _ qX6_needFarm_w2) (List.mem_of_getElem? (i := 23) rfl) (fun w hw => hts w (List.mem_cons_of_mem _ (List.mem_append_right _ hw))) xN_416 xG_416 dX6_needFarm_12 dX6_needFarm_15 dX6_needFarm_16 dX6_needFarm_19 dX6_needFarm_22 ⟨Nat.le_of_ble_eq_true rfl, Nat.le_of_ble_eq_true rfl, Nat.le_of_ble_eq_true rfl, Nat.le_of_ble_eq_true rfl⟩ (Nat.le_of_ble_eq_true rfl) (Nat.le_of_ble_eq_true rfl)
  · skip
    refine lv_iload_n hx hb dX6_needFarm_4 rfl (lv_at hl 1 rfl) ?_
    refine lv_aload_n hx hb dX6_needFarm_5 rfl (lv_at hl 0 rfl) ?_
    refine gt_0_7 hx hb hts iX6_needFarm_X6 hown hB.1 hC qX6_needFarm_w3 dX6_needFarm_6 ?_
    refine lv_icmp_lt (tgt := 23) hx hb dX6_needFarm_9 (by decide) (fun c2 => ?_) (fun c2 => ?_)
    · skip
      have e9 : fX6_needFarm g x = 0 := (by unfold fX6_needFarm; rw [if_neg c1, if_pos c2])
      exact x_retv hx hb hr hC hS e9 rfl hlocks dX6_needFarm_23 (Nat.le_of_ble_eq_true rfl) (Nat.le_of_ble_eq_true rfl)
    · skip
      exact q_throwW (cdv := 1) (ik := 412) (is := 414) (ic := 416) (cls := "java/lang/IndexOutOfBoundsException") (text := "there is no such farm") hl0 hx hb hown hml hT hlocks hB hC hS hl.1 (by unfold fX6_needFarm; rw [if_neg c1, if_neg c2]) rfl (by decide) ⟨by decide, by decide⟩ (hts _ qX6_needFarm_w1) (hts _ qX6_needFarm_w2) (List.mem_of_getElem? (i := 23) rfl) (fun w hw => hts w (List.mem_cons_of_mem _ (List.mem_append_right _ hw))) xN_416 xG_416 dX6_needFarm_12 dX6_needFarm_15 dX6_needFarm_16 dX6_needFarm_19 dX6_needFarm_22 ⟨Nat.le_of_ble_eq_true rfl, Nat.le_of_ble_eq_true rfl, Nat.le_of_ble_eq_true rfl, Nat.le_of_ble_eq_true rfl⟩ (Nat.le_of_ble_eq_true rfl) (Nat.le_of_ble_eq_true rfl)
def fX6_needTaster (g : Gd) (x : Int32) : Nat := if x < 0 then (1) else (if x < 3 then (0) else (1))
theorem qX6_needTaster_w1 : Cond.classLink RX6 412 "java/lang/IndexOutOfBoundsException" ∈ wsX6_needTaster := List.mem_of_getElem? (i := 1) rfl
theorem qX6_needTaster_w2 : Cond.initialized "java/lang/IndexOutOfBoundsException" ∈ wsX6_needTaster := List.mem_of_getElem? (i := 2) rfl
set_option maxRecDepth 100000 in
set_option maxHeartbeats 4000000 in
theorem kX6_needTaster (l : Launch) (D : va_G) (cy : Nat → ClassId) {ad : Nat → Nat → Nat} (hI : cI ad) (hl0 : l.stackTraces = false) (g : Gd) (sz : Nat) (x : Int32) : vx_Met l yX6_needTaster wsX6_needTaster ({ frames := 6, cells := 1, slots := 6, locals := 82 } : Room) (va_Pc [.int x] (cPre D cy ad g sz)) (cXv D cy ad (fX6_needTaster g x) g sz) (cXC D cy ad (fX6_needTaster g x) g sz) 1 6 (cA ad sz) := by
  refine q_startX (cc := cX6_needTaster) (maxL := 1) (ret := none) (own := RX6) (by decide) rfl rfl (Nat.le_of_ble_eq_true rfl) ?_
  intro p e s m below meth c hx hb hr hml hts hown hlocks hT ⟨hsz, hC, hB⟩ ls hl
  subst hsz
  have hS : va_S (cA ad s.heap.size) s.heap s.heap [] := va_S.rf
  have hA : ∀ κ i : Nat, cV κ i → cA ad s.heap.size (ad κ i) := fun κ i h => Or.inl ⟨κ, i, h, rfl⟩
  have hl : lv_has ls 1 [(0, .int x)] := hl
  refine lv_iload_n hx hb dX6_needTaster_0 rfl (lv_at hl 0 rfl) ?_
  refine lv_if_lt (tgt := 9) hx hb dX6_needTaster_1 (by decide) (fun c1 => ?_) (fun c1 => ?_)
  · skip
    exact q_throwW (cdv := 1) (ik := 412) (is := 417) (ic := 416) (cls := "java/lang/IndexOutOfBoundsException") (text := "taster is not 0 to 2") hl0 hx hb hown hml hT hlocks hB hC hS hl.1 (by unfold fX6_needTaster; rw [if_pos c1]) rfl (by decide) ⟨by decide, by decide⟩ (hts _ qX6_needTaster_w1) (hts _ qX6_needTaster_w2) (List.mem_of_getElem? (i := 24) rfl) (fun w hw => hts w (List.mem_cons_of_mem _ (List.mem_append_right _ hw))) xN_416 xG_416 dX6_needTaster_9 dX6_needTaster_12 dX6_needTaster_13 dX6_needTaster_16 dX6_needTaster_19 ⟨Nat.le_of_ble_eq_true rfl, Nat.le_of_ble_eq_true rfl, Nat.le_of_ble_eq_true rfl, Nat.le_of_ble_eq_true rfl⟩ (Nat.le_of_ble_eq_true rfl) (Nat.le_of_ble_eq_true rfl)
  · skip
    refine lv_iload_n hx hb dX6_needTaster_4 rfl (lv_at hl 0 rfl) ?_
    refine lv_iconst (v := 3) hx hb dX6_needTaster_5 (by decide) ?_
    refine lv_icmp_lt (tgt := 20) hx hb dX6_needTaster_6 (by decide) (fun c2 => ?_) (fun c2 => ?_)
    · skip
      have e9 : fX6_needTaster g x = 0 := (by unfold fX6_needTaster; rw [if_neg c1, if_pos c2])
      exact x_retv hx hb hr hC hS e9 rfl hlocks dX6_needTaster_20 (Nat.le_of_ble_eq_true rfl) (Nat.le_of_ble_eq_true rfl)
    · skip
      exact q_throwW (cdv := 1) (ik := 412) (is := 417) (ic := 416) (cls := "java/lang/IndexOutOfBoundsException") (text := "taster is not 0 to 2") hl0 hx hb hown hml hT hlocks hB hC hS hl.1 (by unfold fX6_needTaster; rw [if_neg c1, if_neg c2]) rfl (by decide) ⟨by decide, by decide⟩ (hts _ qX6_needTaster_w1) (hts _ qX6_needTaster_w2) (List.mem_of_getElem? (i := 24) rfl) (fun w hw => hts w (List.mem_cons_of_mem _ (List.mem_append_right _ hw))) xN_416 xG_416 dX6_needTaster_9 dX6_needTaster_12 dX6_needTaster_13 dX6_needTaster_16 dX6_needTaster_19 ⟨Nat.le_of_ble_eq_true rfl, Nat.le_of_ble_eq_true rfl, Nat.le_of_ble_eq_true rfl, Nat.le_of_ble_eq_true rfl⟩ (Nat.le_of_ble_eq_true rfl) (Nat.le_of_ble_eq_true rfl)
def fX6_needWarmth (g : Gd) (x : Int32) : Nat := if x < 0 then (2) else (if x ≤ 40 then (0) else (2))
theorem qX6_needWarmth_w1 : Cond.classLink RX6 86 "java/lang/IllegalArgumentException" ∈ wsX6_needWarmth := List.mem_of_getElem? (i := 1) rfl
theorem qX6_needWarmth_w2 : Cond.initialized "java/lang/IllegalArgumentException" ∈ wsX6_needWarmth := List.mem_of_getElem? (i := 2) rfl
set_option maxRecDepth 100000 in
set_option maxHeartbeats 4000000 in
theorem kX6_needWarmth (l : Launch) (D : va_G) (cy : Nat → ClassId) {ad : Nat → Nat → Nat} (hI : cI ad) (hl0 : l.stackTraces = false) (g : Gd) (sz : Nat) (x : Int32) : vx_Met l yX6_needWarmth wsX6_needWarmth ({ frames := 6, cells := 1, slots := 6, locals := 82 } : Room) (va_Pc [.int x] (cPre D cy ad g sz)) (cXv D cy ad (fX6_needWarmth g x) g sz) (cXC D cy ad (fX6_needWarmth g x) g sz) 1 6 (cA ad sz) := by
  refine q_startX (cc := cX6_needWarmth) (maxL := 1) (ret := none) (own := RX6) (by decide) rfl rfl (Nat.le_of_ble_eq_true rfl) ?_
  intro p e s m below meth c hx hb hr hml hts hown hlocks hT ⟨hsz, hC, hB⟩ ls hl
  subst hsz
  have hS : va_S (cA ad s.heap.size) s.heap s.heap [] := va_S.rf
  have hA : ∀ κ i : Nat, cV κ i → cA ad s.heap.size (ad κ i) := fun κ i h => Or.inl ⟨κ, i, h, rfl⟩
  have hl : lv_has ls 1 [(0, .int x)] := hl
  refine lv_iload_n hx hb dX6_needWarmth_0 rfl (lv_at hl 0 rfl) ?_
  refine lv_if_lt (tgt := 10) hx hb dX6_needWarmth_1 (by decide) (fun c1 => ?_) (fun c1 => ?_)
  · skip
    exact q_throwW (cdv := 2) (ik := 86) (is := 419) (ic := 90) (cls := "java/lang/IllegalArgumentException") (text := "warmth is not 0 to 40") hl0 hx hb hown hml hT hlocks hB hC hS hl.1 (by unfold fX6_needWarmth; rw [if_pos c1]) rfl (by decide) ⟨by decide, by decide⟩ (hts _ qX6_needWarmth_w1) (hts _ qX6_needWarmth_w2) (List.mem_of_getElem? (i := 25) rfl) (fun w hw => hts w (List.mem_cons_of_mem _ (List.mem_append_right _ hw))) xN_90 xG_90 dX6_needWarmth_10 dX6_needWarmth_13 dX6_needWarmth_14 dX6_needWarmth_17 dX6_needWarmth_20 ⟨Nat.le_of_ble_eq_true rfl, Nat.le_of_ble_eq_true rfl, Nat.le_of_ble_eq_true rfl, Nat.le_of_ble_eq_true rfl⟩ (Nat.le_of_ble_eq_true rfl) (Nat.le_of_ble_eq_true rfl)
  · skip
    refine lv_iload_n hx hb dX6_needWarmth_4 rfl (lv_at hl 0 rfl) ?_
    refine lv_bipush (v := 40) hx hb dX6_needWarmth_5 (by decide) ?_
    refine lv_icmp_le (tgt := 21) hx hb dX6_needWarmth_7 (by decide) (fun c2 => ?_) (fun c2 => ?_)
    · skip
      have e9 : fX6_needWarmth g x = 0 := (by unfold fX6_needWarmth; rw [if_neg c1, if_pos c2])
      exact x_retv hx hb hr hC hS e9 rfl hlocks dX6_needWarmth_21 (Nat.le_of_ble_eq_true rfl) (Nat.le_of_ble_eq_true rfl)
    · skip
      exact q_throwW (cdv := 2) (ik := 86) (is := 419) (ic := 90) (cls := "java/lang/IllegalArgumentException") (text := "warmth is not 0 to 40") hl0 hx hb hown hml hT hlocks hB hC hS hl.1 (by unfold fX6_needWarmth; rw [if_neg c1, if_neg c2]) rfl (by decide) ⟨by decide, by decide⟩ (hts _ qX6_needWarmth_w1) (hts _ qX6_needWarmth_w2) (List.mem_of_getElem? (i := 25) rfl) (fun w hw => hts w (List.mem_cons_of_mem _ (List.mem_append_right _ hw))) xN_90 xG_90 dX6_needWarmth_10 dX6_needWarmth_13 dX6_needWarmth_14 dX6_needWarmth_17 dX6_needWarmth_20 ⟨Nat.le_of_ble_eq_true rfl, Nat.le_of_ble_eq_true rfl, Nat.le_of_ble_eq_true rfl, Nat.le_of_ble_eq_true rfl⟩ (Nat.le_of_ble_eq_true rfl) (Nat.le_of_ble_eq_true rfl)
def fX6_needSale (g : Gd) (i : Nat) (pr : Int32) : Nat := if pr < 1 then (2) else (if pr ≤ 200 then (if (g 3 (8 + i) 10) = 0 then (3) else (if (fX3_grade g i) = (-1) then (3) else (0))) else (2))
theorem qX6_needSale_w1 : Cond.classLink RX6 86 "java/lang/IllegalArgumentException" ∈ wsX6_needSale := List.mem_of_getElem? (i := 1) rfl
theorem qX6_needSale_w2 : Cond.initialized "java/lang/IllegalArgumentException" ∈ wsX6_needSale := List.mem_of_getElem? (i := 2) rfl
theorem qX6_needSale_w3 : Cond.classLink RX6 93 "java/lang/IllegalStateException" ∈ wsX6_needSale := List.mem_of_getElem? (i := 3) rfl
theorem qX6_needSale_w4 : Cond.initialized "java/lang/IllegalStateException" ∈ wsX6_needSale := List.mem_of_getElem? (i := 4) rfl
theorem qX6_needSale_w5 : Cond.fieldLink RX6 231 "CherryStation$Lot" "isInStore" "Z" ∈ wsX6_needSale := List.mem_of_getElem? (i := 5) rfl
theorem iX6_needSale_X3 : ∀ w ∈ wsX30, w ∈ wsX6_needSale := fun _ h => (List.mem_cons_of_mem _ (List.mem_append_left _ (List.mem_append_left _ (List.mem_append_right _ h))))
set_option maxRecDepth 100000 in
set_option maxHeartbeats 4000000 in
theorem kX6_needSale (l : Launch) (D : va_G) (cy : Nat → ClassId) {ad : Nat → Nat → Nat} (hI : cI ad) (hl0 : l.stackTraces = false) (g : Gd) (sz : Nat) (i : Nat) (hrow_i : i < 13) (pr : Int32) : vx_Met l yX6_needSale wsX6_needSale ({ frames := 6, cells := 1, slots := 6, locals := 82 } : Room) (va_Pc [.ref (ad 5 i), .int pr] (cPre D cy ad g sz)) (cXv D cy ad (fX6_needSale g i pr) g sz) (cXC D cy ad (fX6_needSale g i pr) g sz) 1 6 (cA ad sz) := by
  refine q_startX (cc := cX6_needSale) (maxL := 2) (ret := none) (own := RX6) (by decide) rfl rfl (Nat.le_of_ble_eq_true rfl) ?_
  intro p e s m below meth c hx hb hr hml hts hown hlocks hT ⟨hsz, hC, hB⟩ ls hl
  subst hsz
  have hS : va_S (cA ad s.heap.size) s.heap s.heap [] := va_S.rf
  have hA : ∀ κ i : Nat, cV κ i → cA ad s.heap.size (ad κ i) := fun κ i h => Or.inl ⟨κ, i, h, rfl⟩
  have hl : lv_has ls 2 [(0, .ref (ad 5 i)), (1, .int pr)] := hl
  refine lv_iload_n hx hb dX6_needSale_0 rfl (lv_at hl 1 rfl) ?_
  refine lv_iconst (v := 1) hx hb dX6_needSale_1 (by decide) ?_
  refine lv_icmp_lt (tgt := 12) hx hb dX6_needSale_2 (by decide) (fun c1 => ?_) (fun c1 => ?_)
  · skip
    exact q_throwW (cdv := 2) (ik := 86) (is := 421) (ic := 90) (cls := "java/lang/IllegalArgumentException") (text := "price is not 1 to 200") hl0 hx hb hown hml hT hlocks hB hC hS hl.1 (by unfold fX6_needSale; rw [if_pos c1]) rfl (by decide) ⟨by decide, by decide⟩ (hts _ qX6_needSale_w1) (hts _ qX6_needSale_w2) (List.mem_of_getElem? (i := 26) rfl) (fun w hw => hts w (List.mem_cons_of_mem _ (List.mem_append_left _ (List.mem_append_right _ hw)))) xN_90 xG_90 dX6_needSale_12 dX6_needSale_15 dX6_needSale_16 dX6_needSale_19 dX6_needSale_22 ⟨Nat.le_of_ble_eq_true rfl, Nat.le_of_ble_eq_true rfl, Nat.le_of_ble_eq_true rfl, Nat.le_of_ble_eq_true rfl⟩ (Nat.le_of_ble_eq_true rfl) (Nat.le_of_ble_eq_true rfl)
  · skip
    refine lv_iload_n hx hb dX6_needSale_5 rfl (lv_at hl 1 rfl) ?_
    refine lv_sipush (v := 200) hx hb dX6_needSale_6 (by decide) ?_
    refine lv_icmp_le (tgt := 23) hx hb dX6_needSale_9 (by decide) (fun c2 => ?_) (fun c2 => ?_)
    · skip
      refine lv_aload_n hx hb dX6_needSale_23 rfl (lv_at hl 0 rfl) ?_
      refine gt_5_2 hx hb hts iX6_needSale_X3 hown hB.1 hC hrow_i qX6_needSale_w5 dX6_needSale_24 ?_
      refine lv_if_eq (tgt := 38) hx hb dX6_needSale_27 (by decide) (fun c3 => ?_) (fun c3 => ?_)
      · skip
        exact q_throwW (cdv := 3) (ik := 93) (is := 423) (ic := 97) (cls := "java/lang/IllegalStateException") (text := "the lot is not in store, or has no grade") hl0 hx hb hown hml hT hlocks hB hC hS hl.1 (by unfold fX6_needSale; rw [if_neg c1, if_pos c2, if_pos c3]) rfl (by decide) ⟨by decide, by decide⟩ (hts _ qX6_needSale_w3) (hts _ qX6_needSale_w4) (List.mem_of_getElem? (i := 27) rfl) (fun w hw => hts w (List.mem_cons_of_mem _ (List.mem_append_right _ hw))) xN_97 xG_97 dX6_needSale_38 dX6_needSale_41 dX6_needSale_42 dX6_needSale_45 dX6_needSale_48 ⟨Nat.le_of_ble_eq_true rfl, Nat.le_of_ble_eq_true rfl, Nat.le_of_ble_eq_true rfl, Nat.le_of_ble_eq_true rfl⟩ (Nat.le_of_ble_eq_true rfl) (Nat.le_of_ble_eq_true rfl)
      · skip
        refine lv_aload_n hx hb dX6_needSale_30 rfl (lv_at hl 0 rfl) ?_
        refine q_callVi (As := []) (κ := 5) (i := i) (show i < 13 from hrow_i) rfl ⟨_, rfl⟩ rfl ⟨hx, hb, hml, hown, hts⟩ (kX3_grade l D cy hI g _ i hrow_i  ) (cwV 0 hts gX6_needSale_X3_grade rfl rfl rfl (by decide +kernel) ⟨Nat.le_of_ble_eq_true rfl, Nat.le_of_ble_eq_true rfl⟩) hB hC hS rfl hl.1 (Nat.le_of_ble_eq_true rfl) dX6_needSale_31 ⟨Nat.le_of_ble_eq_true rfl, Nat.le_of_ble_eq_true rfl⟩ (fun H locs hC hS => ?_)
        refine lv_iconst (v := (-1)) hx hb dX6_needSale_34 (by decide) ?_
        refine lv_icmp_ne (tgt := 49) hx hb dX6_needSale_35 (by decide) (fun c4 => ?_) (fun c4 => ?_)
        · skip
          have e9 : fX6_needSale g i pr = 0 := (by unfold fX6_needSale; rw [if_neg c1, if_pos c2, if_neg c3, if_neg c4])
          exact x_retv hx hb hr hC hS e9 rfl hlocks dX6_needSale_49 (Nat.le_of_ble_eq_true rfl) (Nat.le_of_ble_eq_true rfl)
        · skip
          exact q_throwW (cdv := 3) (ik := 93) (is := 423) (ic := 97) (cls := "java/lang/IllegalStateException") (text := "the lot is not in store, or has no grade") hl0 hx hb hown hml hT hlocks hB hC hS hl.1 (by unfold fX6_needSale; rw [if_neg c1, if_pos c2, if_neg c3, if_pos c4]) rfl (by decide) ⟨by decide, by decide⟩ (hts _ qX6_needSale_w3) (hts _ qX6_needSale_w4) (List.mem_of_getElem? (i := 27) rfl) (fun w hw => hts w (List.mem_cons_of_mem _ (List.mem_append_right _ hw))) xN_97 xG_97 dX6_needSale_38 dX6_needSale_41 dX6_needSale_42 dX6_needSale_45 dX6_needSale_48 ⟨Nat.le_of_ble_eq_true rfl, Nat.le_of_ble_eq_true rfl, Nat.le_of_ble_eq_true rfl, Nat.le_of_ble_eq_true rfl⟩ (Nat.le_of_ble_eq_true rfl) (Nat.le_of_ble_eq_true rfl)
    · skip
      exact q_throwW (cdv := 2) (ik := 86) (is := 421) (ic := 90) (cls := "java/lang/IllegalArgumentException") (text := "price is not 1 to 200") hl0 hx hb hown hml hT hlocks hB hC hS hl.1 (by unfold fX6_needSale; rw [if_neg c1, if_neg c2]) rfl (by decide) ⟨by decide, by decide⟩ (hts _ qX6_needSale_w1) (hts _ qX6_needSale_w2) (List.mem_of_getElem? (i := 26) rfl) (fun w hw => hts w (List.mem_cons_of_mem _ (List.mem_append_left _ (List.mem_append_right _ hw)))) xN_90 xG_90 dX6_needSale_12 dX6_needSale_15 dX6_needSale_16 dX6_needSale_19 dX6_needSale_22 ⟨Nat.le_of_ble_eq_true rfl, Nat.le_of_ble_eq_true rfl, Nat.le_of_ble_eq_true rfl, Nat.le_of_ble_eq_true rfl⟩ (Nat.le_of_ble_eq_true rfl) (Nat.le_of_ble_eq_true rfl)
theorem needFarm_in {g : Gd} {x : Int32} (hv : IvC g) (h : fX6_needFarm g x = 0) : vp_in x 6 := by
  unfold fX6_needFarm at h
  by_cases h0 : x < 0
  · rw [if_pos h0] at h; cases h
  · rw [if_neg h0] at h
    by_cases h1 : x < (g 0 0 7)
    · exact in_of h0 (Int32.not_le.mpr h1) (IvC.n7 hv).2
    · rw [if_neg h1] at h; cases h
theorem needTaster_in {g : Gd} {x : Int32} (h : fX6_needTaster g x = 0) : vp_in x 3 := by
  unfold fX6_needTaster at h
  by_cases h0 : x < 0
  · rw [if_pos h0] at h; cases h
  · rw [if_neg h0] at h
    by_cases h1 : x < 3
    · exact in_of h0 (Int32.not_le.mpr h1) (by decide)
    · rw [if_neg h1] at h; cases h
def fX6_farmAt (g : Gd) (x : Int32) : Nat := if (fX6_needFarm g x) = 0 then (0) else ((fX6_needFarm g x))
theorem qX6_farmAt_w1 : Cond.fieldLink RX6 11 "CherryStation" "farms" "[LCherryStation$Farm;" ∈ wsX6_farmAt := List.mem_of_getElem? (i := 1) rfl
theorem iX6_farmAt_X6 : ∀ w ∈ wsX60, w ∈ wsX6_farmAt := fun _ h => (List.mem_cons_of_mem _ (List.mem_append_left _ (List.mem_append_right _ h)))
set_option maxRecDepth 100000 in
set_option maxHeartbeats 4000000 in
theorem kX6_farmAt (l : Launch) (D : va_G) (cy : Nat → ClassId) {ad : Nat → Nat → Nat} (hI : cI ad) (hl0 : l.stackTraces = false) (g : Gd) (sz : Nat) (x : Int32) (hv : IvC g) : vx_Met l yX6_farmAt wsX6_farmAt ({ frames := 7, cells := 1, slots := 6, locals := 103 } : Room) (va_Pc [.ref (ad 0 0), .int x] (cPre D cy ad g sz)) (cXr D cy ad (fX6_farmAt g x) (ad 1 x.toNatClampNeg) g sz) (cXC D cy ad (fX6_farmAt g x) g sz) 1 6 (cA ad sz) := by
  refine q_startX (cc := cX6_farmAt) (maxL := 2) (ret := (some (.object "CherryStation$Farm"))) (own := RX6) (by decide) rfl rfl (Nat.le_of_ble_eq_true rfl) ?_
  intro p e s m below meth c hx hb hr hml hts hown hlocks hT ⟨hsz, hC, hB⟩ ls hl
  subst hsz
  have hS : va_S (cA ad s.heap.size) s.heap s.heap [] := va_S.rf
  have hA : ∀ κ i : Nat, cV κ i → cA ad s.heap.size (ad κ i) := fun κ i h => Or.inl ⟨κ, i, h, rfl⟩
  have hl : lv_has ls 2 [(0, .ref (ad 0 0)), (1, .int x)] := hl
  refine lv_aload_n hx hb dX6_farmAt_0 rfl (lv_at hl 0 rfl) ?_
  refine lv_iload_n hx hb dX6_farmAt_1 rfl (lv_at hl 1 rfl) ?_
  refine x_callVv (As := [.int x]) (κ := 0) (i := 0) rfl rfl ⟨_, rfl⟩ rfl ⟨hx, hb, hml, hown, hts⟩ (kX6_needFarm l D cy hI hl0 g _  x ) (cwV 1 hts gX6_farmAt_X6_needFarm rfl rfl rfl (by decide +kernel) ⟨Nat.le_of_ble_eq_true rfl, Nat.le_of_ble_eq_true rfl⟩) hB hC hS rfl hl.1 (Nat.le_of_ble_eq_true rfl) dX6_farmAt_2 ⟨Nat.le_of_ble_eq_true rfl, Nat.le_of_ble_eq_true rfl⟩ ⟨Nat.le_of_ble_eq_true rfl, Nat.le_of_ble_eq_true rfl⟩ hT hlocks (fun h => by unfold fX6_farmAt; rw [if_neg h]) (fun c1 H locs hC hS => ?_)
  refine lv_aload_n hx hb dX6_farmAt_5 rfl (lv_at hl 0 rfl) ?_
  refine gt_0_0 hx hb hts iX6_farmAt_X6 hown hB.1 hC qX6_farmAt_w1 dX6_farmAt_6 ?_
  refine lv_iload_n hx hb dX6_farmAt_9 rfl (lv_at hl 1 rfl) ?_
  have hlt2 : x.toNatClampNeg < 6 := vp_lt (needFarm_in hv c1)
  refine la_10 hx hb hB.1 hC (k := x.toNatClampNeg) rfl (needFarm_in hv c1) dX6_farmAt_10 ?_
  have e9 : fX6_farmAt g x = 0 := (by unfold fX6_farmAt; rw [if_pos c1])
  exact x_reta hx hb  hC hS e9 rfl rfl hr hlocks dX6_farmAt_11 (Nat.le_of_ble_eq_true rfl) (Nat.le_of_ble_eq_true rfl)
theorem farmAt_in {g : Gd} {x : Int32} (hv : IvC g) (h : fX6_farmAt g x = 0) : vp_in x 6 := by
  unfold fX6_farmAt at h
  split at h
  · next h0 => exact needFarm_in hv h0
  · exact absurd h (by assumption)
def fX6_basketAt (g : Gd) (x : Int32) : Nat := if x < 0 then (1) else (if x < (g 0 0 8) then (0) else (1))
theorem qX6_basketAt_w1 : Cond.classLink RX6 412 "java/lang/IndexOutOfBoundsException" ∈ wsX6_basketAt := List.mem_of_getElem? (i := 1) rfl
theorem qX6_basketAt_w2 : Cond.initialized "java/lang/IndexOutOfBoundsException" ∈ wsX6_basketAt := List.mem_of_getElem? (i := 2) rfl
theorem qX6_basketAt_w3 : Cond.fieldLink RX6 52 "CherryStation" "basketCount" "I" ∈ wsX6_basketAt := List.mem_of_getElem? (i := 3) rfl
theorem qX6_basketAt_w4 : Cond.fieldLink RX6 17 "CherryStation" "baskets" "[LCherryStation$Basket;" ∈ wsX6_basketAt := List.mem_of_getElem? (i := 4) rfl
theorem iX6_basketAt_X6 : ∀ w ∈ wsX60, w ∈ wsX6_basketAt := fun _ h => (List.mem_cons_of_mem _ (List.mem_append_left _ (List.mem_append_right _ h)))
set_option maxRecDepth 100000 in
set_option maxHeartbeats 4000000 in
theorem kX6_basketAt (l : Launch) (D : va_G) (cy : Nat → ClassId) {ad : Nat → Nat → Nat} (hI : cI ad) (hl0 : l.stackTraces = false) (g : Gd) (sz : Nat) (x : Int32) (hv : IvC g) : vx_Met l yX6_basketAt wsX6_basketAt ({ frames := 6, cells := 1, slots := 6, locals := 82 } : Room) (va_Pc [.ref (ad 0 0), .int x] (cPre D cy ad g sz)) (cXr D cy ad (fX6_basketAt g x) (ad 2 x.toNatClampNeg) g sz) (cXC D cy ad (fX6_basketAt g x) g sz) 1 6 (cA ad sz) := by
  refine q_startX (cc := cX6_basketAt) (maxL := 2) (ret := (some (.object "CherryStation$Basket"))) (own := RX6) (by decide) rfl rfl (Nat.le_of_ble_eq_true rfl) ?_
  intro p e s m below meth c hx hb hr hml hts hown hlocks hT ⟨hsz, hC, hB⟩ ls hl
  subst hsz
  have hS : va_S (cA ad s.heap.size) s.heap s.heap [] := va_S.rf
  have hA : ∀ κ i : Nat, cV κ i → cA ad s.heap.size (ad κ i) := fun κ i h => Or.inl ⟨κ, i, h, rfl⟩
  have hl : lv_has ls 2 [(0, .ref (ad 0 0)), (1, .int x)] := hl
  refine lv_iload_n hx hb dX6_basketAt_0 rfl (lv_at hl 1 rfl) ?_
  refine lv_if_lt (tgt := 12) hx hb dX6_basketAt_1 (by decide) (fun c1 => ?_) (fun c1 => ?_)
  · skip
    exact q_throwW (cdv := 1) (ik := 412) (is := 425) (ic := 416) (cls := "java/lang/IndexOutOfBoundsException") (text := "there is no such basket") hl0 hx hb hown hml hT hlocks hB hC hS hl.1 (by unfold fX6_basketAt; rw [if_pos c1]) rfl (by decide) ⟨by decide, by decide⟩ (hts _ qX6_basketAt_w1) (hts _ qX6_basketAt_w2) (List.mem_of_getElem? (i := 28) rfl) (fun w hw => hts w (List.mem_cons_of_mem _ (List.mem_append_right _ hw))) xN_416 xG_416 dX6_basketAt_12 dX6_basketAt_15 dX6_basketAt_16 dX6_basketAt_19 dX6_basketAt_22 ⟨Nat.le_of_ble_eq_true rfl, Nat.le_of_ble_eq_true rfl, Nat.le_of_ble_eq_true rfl, Nat.le_of_ble_eq_true rfl⟩ (Nat.le_of_ble_eq_true rfl) (Nat.le_of_ble_eq_true rfl)
  · skip
    refine lv_iload_n hx hb dX6_basketAt_4 rfl (lv_at hl 1 rfl) ?_
    refine lv_aload_n hx hb dX6_basketAt_5 rfl (lv_at hl 0 rfl) ?_
    refine gt_0_8 hx hb hts iX6_basketAt_X6 hown hB.1 hC qX6_basketAt_w3 dX6_basketAt_6 ?_
    refine lv_icmp_lt (tgt := 23) hx hb dX6_basketAt_9 (by decide) (fun c2 => ?_) (fun c2 => ?_)
    · skip
      refine lv_aload_n hx hb dX6_basketAt_23 rfl (lv_at hl 0 rfl) ?_
      refine gt_0_1 hx hb hts iX6_basketAt_X6 hown hB.1 hC qX6_basketAt_w4 dX6_basketAt_24 ?_
      refine lv_iload_n hx hb dX6_basketAt_27 rfl (lv_at hl 1 rfl) ?_
      have hlt3 : x.toNatClampNeg < 20 := vp_lt (in_of c1 (Int32.not_le.mpr c2) (IvC.n8 hv).2)
      refine la_11 hx hb hB.1 hC (k := x.toNatClampNeg) rfl (in_of c1 (Int32.not_le.mpr c2) (IvC.n8 hv).2) dX6_basketAt_28 ?_
      have e9 : fX6_basketAt g x = 0 := (by unfold fX6_basketAt; rw [if_neg c1, if_pos c2])
      exact x_reta hx hb  hC hS e9 rfl rfl hr hlocks dX6_basketAt_29 (Nat.le_of_ble_eq_true rfl) (Nat.le_of_ble_eq_true rfl)
    · skip
      exact q_throwW (cdv := 1) (ik := 412) (is := 425) (ic := 416) (cls := "java/lang/IndexOutOfBoundsException") (text := "there is no such basket") hl0 hx hb hown hml hT hlocks hB hC hS hl.1 (by unfold fX6_basketAt; rw [if_neg c1, if_neg c2]) rfl (by decide) ⟨by decide, by decide⟩ (hts _ qX6_basketAt_w1) (hts _ qX6_basketAt_w2) (List.mem_of_getElem? (i := 28) rfl) (fun w hw => hts w (List.mem_cons_of_mem _ (List.mem_append_right _ hw))) xN_416 xG_416 dX6_basketAt_12 dX6_basketAt_15 dX6_basketAt_16 dX6_basketAt_19 dX6_basketAt_22 ⟨Nat.le_of_ble_eq_true rfl, Nat.le_of_ble_eq_true rfl, Nat.le_of_ble_eq_true rfl, Nat.le_of_ble_eq_true rfl⟩ (Nat.le_of_ble_eq_true rfl) (Nat.le_of_ble_eq_true rfl)
theorem basketAt_in {g : Gd} {x : Int32} (hv : IvC g) (h : fX6_basketAt g x = 0) : vp_in x 20 := by
  unfold fX6_basketAt at h
  by_cases h0 : x < 0
  · rw [if_pos h0] at h; cases h
  · rw [if_neg h0] at h
    by_cases h1 : x < (g 0 0 8)
    · exact in_of h0 (Int32.not_le.mpr h1) (IvC.n8 hv).2
    · rw [if_neg h1] at h; cases h
def fX6_tankAt (g : Gd) (x : Int32) : Nat := if x < 0 then (1) else (if x < 3 then (0) else (1))
theorem qX6_tankAt_w1 : Cond.classLink RX6 412 "java/lang/IndexOutOfBoundsException" ∈ wsX6_tankAt := List.mem_of_getElem? (i := 1) rfl
theorem qX6_tankAt_w2 : Cond.initialized "java/lang/IndexOutOfBoundsException" ∈ wsX6_tankAt := List.mem_of_getElem? (i := 2) rfl
theorem qX6_tankAt_w3 : Cond.fieldLink RX6 23 "CherryStation" "tanks" "[LCherryStation$Tank;" ∈ wsX6_tankAt := List.mem_of_getElem? (i := 3) rfl
theorem iX6_tankAt_X6 : ∀ w ∈ wsX60, w ∈ wsX6_tankAt := fun _ h => (List.mem_cons_of_mem _ (List.mem_append_left _ (List.mem_append_right _ h)))
set_option maxRecDepth 100000 in
set_option maxHeartbeats 4000000 in
theorem kX6_tankAt (l : Launch) (D : va_G) (cy : Nat → ClassId) {ad : Nat → Nat → Nat} (hI : cI ad) (hl0 : l.stackTraces = false) (g : Gd) (sz : Nat) (x : Int32) : vx_Met l yX6_tankAt wsX6_tankAt ({ frames := 6, cells := 1, slots := 6, locals := 82 } : Room) (va_Pc [.ref (ad 0 0), .int x] (cPre D cy ad g sz)) (cXr D cy ad (fX6_tankAt g x) (ad 3 x.toNatClampNeg) g sz) (cXC D cy ad (fX6_tankAt g x) g sz) 1 6 (cA ad sz) := by
  refine q_startX (cc := cX6_tankAt) (maxL := 2) (ret := (some (.object "CherryStation$Tank"))) (own := RX6) (by decide) rfl rfl (Nat.le_of_ble_eq_true rfl) ?_
  intro p e s m below meth c hx hb hr hml hts hown hlocks hT ⟨hsz, hC, hB⟩ ls hl
  subst hsz
  have hS : va_S (cA ad s.heap.size) s.heap s.heap [] := va_S.rf
  have hA : ∀ κ i : Nat, cV κ i → cA ad s.heap.size (ad κ i) := fun κ i h => Or.inl ⟨κ, i, h, rfl⟩
  have hl : lv_has ls 2 [(0, .ref (ad 0 0)), (1, .int x)] := hl
  refine lv_iload_n hx hb dX6_tankAt_0 rfl (lv_at hl 1 rfl) ?_
  refine lv_if_lt (tgt := 9) hx hb dX6_tankAt_1 (by decide) (fun c1 => ?_) (fun c1 => ?_)
  · skip
    exact q_throwW (cdv := 1) (ik := 412) (is := 427) (ic := 416) (cls := "java/lang/IndexOutOfBoundsException") (text := "tank is not 0 to 2") hl0 hx hb hown hml hT hlocks hB hC hS hl.1 (by unfold fX6_tankAt; rw [if_pos c1]) rfl (by decide) ⟨by decide, by decide⟩ (hts _ qX6_tankAt_w1) (hts _ qX6_tankAt_w2) (List.mem_of_getElem? (i := 29) rfl) (fun w hw => hts w (List.mem_cons_of_mem _ (List.mem_append_right _ hw))) xN_416 xG_416 dX6_tankAt_9 dX6_tankAt_12 dX6_tankAt_13 dX6_tankAt_16 dX6_tankAt_19 ⟨Nat.le_of_ble_eq_true rfl, Nat.le_of_ble_eq_true rfl, Nat.le_of_ble_eq_true rfl, Nat.le_of_ble_eq_true rfl⟩ (Nat.le_of_ble_eq_true rfl) (Nat.le_of_ble_eq_true rfl)
  · skip
    refine lv_iload_n hx hb dX6_tankAt_4 rfl (lv_at hl 1 rfl) ?_
    refine lv_iconst (v := 3) hx hb dX6_tankAt_5 (by decide) ?_
    refine lv_icmp_lt (tgt := 20) hx hb dX6_tankAt_6 (by decide) (fun c2 => ?_) (fun c2 => ?_)
    · skip
      refine lv_aload_n hx hb dX6_tankAt_20 rfl (lv_at hl 0 rfl) ?_
      refine gt_0_2 hx hb hts iX6_tankAt_X6 hown hB.1 hC qX6_tankAt_w3 dX6_tankAt_21 ?_
      refine lv_iload_n hx hb dX6_tankAt_24 rfl (lv_at hl 1 rfl) ?_
      have hlt3 : x.toNatClampNeg < 3 := vp_lt (in_of c1 (Int32.not_le.mpr c2) (by decide))
      refine la_12 hx hb hB.1 hC (k := x.toNatClampNeg) rfl (in_of c1 (Int32.not_le.mpr c2) (by decide)) dX6_tankAt_25 ?_
      have e9 : fX6_tankAt g x = 0 := (by unfold fX6_tankAt; rw [if_neg c1, if_pos c2])
      exact x_reta hx hb  hC hS e9 rfl rfl hr hlocks dX6_tankAt_26 (Nat.le_of_ble_eq_true rfl) (Nat.le_of_ble_eq_true rfl)
    · skip
      exact q_throwW (cdv := 1) (ik := 412) (is := 427) (ic := 416) (cls := "java/lang/IndexOutOfBoundsException") (text := "tank is not 0 to 2") hl0 hx hb hown hml hT hlocks hB hC hS hl.1 (by unfold fX6_tankAt; rw [if_neg c1, if_neg c2]) rfl (by decide) ⟨by decide, by decide⟩ (hts _ qX6_tankAt_w1) (hts _ qX6_tankAt_w2) (List.mem_of_getElem? (i := 29) rfl) (fun w hw => hts w (List.mem_cons_of_mem _ (List.mem_append_right _ hw))) xN_416 xG_416 dX6_tankAt_9 dX6_tankAt_12 dX6_tankAt_13 dX6_tankAt_16 dX6_tankAt_19 ⟨Nat.le_of_ble_eq_true rfl, Nat.le_of_ble_eq_true rfl, Nat.le_of_ble_eq_true rfl, Nat.le_of_ble_eq_true rfl⟩ (Nat.le_of_ble_eq_true rfl) (Nat.le_of_ble_eq_true rfl)
theorem tankAt_in {g : Gd} {x : Int32} (h : fX6_tankAt g x = 0) : vp_in x 3 := by
  unfold fX6_tankAt at h
  by_cases h0 : x < 0
  · rw [if_pos h0] at h; cases h
  · rw [if_neg h0] at h
    by_cases h1 : x < 3
    · exact in_of h0 (Int32.not_le.mpr h1) (by decide)
    · rw [if_neg h1] at h; cases h
def fX6_bedAt (g : Gd) (x : Int32) : Nat := if x < 0 then (1) else (if x < (g 0 0 9) then (0) else (1))
theorem qX6_bedAt_w1 : Cond.classLink RX6 412 "java/lang/IndexOutOfBoundsException" ∈ wsX6_bedAt := List.mem_of_getElem? (i := 1) rfl
theorem qX6_bedAt_w2 : Cond.initialized "java/lang/IndexOutOfBoundsException" ∈ wsX6_bedAt := List.mem_of_getElem? (i := 2) rfl
theorem qX6_bedAt_w3 : Cond.fieldLink RX6 55 "CherryStation" "bedCount" "I" ∈ wsX6_bedAt := List.mem_of_getElem? (i := 3) rfl
theorem qX6_bedAt_w4 : Cond.fieldLink RX6 29 "CherryStation" "beds" "[LCherryStation$Bed;" ∈ wsX6_bedAt := List.mem_of_getElem? (i := 4) rfl
theorem iX6_bedAt_X6 : ∀ w ∈ wsX60, w ∈ wsX6_bedAt := fun _ h => (List.mem_cons_of_mem _ (List.mem_append_left _ (List.mem_append_right _ h)))
set_option maxRecDepth 100000 in
set_option maxHeartbeats 4000000 in
theorem kX6_bedAt (l : Launch) (D : va_G) (cy : Nat → ClassId) {ad : Nat → Nat → Nat} (hI : cI ad) (hl0 : l.stackTraces = false) (g : Gd) (sz : Nat) (x : Int32) (hv : IvC g) : vx_Met l yX6_bedAt wsX6_bedAt ({ frames := 6, cells := 1, slots := 6, locals := 82 } : Room) (va_Pc [.ref (ad 0 0), .int x] (cPre D cy ad g sz)) (cXr D cy ad (fX6_bedAt g x) (ad 4 x.toNatClampNeg) g sz) (cXC D cy ad (fX6_bedAt g x) g sz) 1 6 (cA ad sz) := by
  refine q_startX (cc := cX6_bedAt) (maxL := 2) (ret := (some (.object "CherryStation$Bed"))) (own := RX6) (by decide) rfl rfl (Nat.le_of_ble_eq_true rfl) ?_
  intro p e s m below meth c hx hb hr hml hts hown hlocks hT ⟨hsz, hC, hB⟩ ls hl
  subst hsz
  have hS : va_S (cA ad s.heap.size) s.heap s.heap [] := va_S.rf
  have hA : ∀ κ i : Nat, cV κ i → cA ad s.heap.size (ad κ i) := fun κ i h => Or.inl ⟨κ, i, h, rfl⟩
  have hl : lv_has ls 2 [(0, .ref (ad 0 0)), (1, .int x)] := hl
  refine lv_iload_n hx hb dX6_bedAt_0 rfl (lv_at hl 1 rfl) ?_
  refine lv_if_lt (tgt := 12) hx hb dX6_bedAt_1 (by decide) (fun c1 => ?_) (fun c1 => ?_)
  · skip
    exact q_throwW (cdv := 1) (ik := 412) (is := 429) (ic := 416) (cls := "java/lang/IndexOutOfBoundsException") (text := "there is no such bed") hl0 hx hb hown hml hT hlocks hB hC hS hl.1 (by unfold fX6_bedAt; rw [if_pos c1]) rfl (by decide) ⟨by decide, by decide⟩ (hts _ qX6_bedAt_w1) (hts _ qX6_bedAt_w2) (List.mem_of_getElem? (i := 30) rfl) (fun w hw => hts w (List.mem_cons_of_mem _ (List.mem_append_right _ hw))) xN_416 xG_416 dX6_bedAt_12 dX6_bedAt_15 dX6_bedAt_16 dX6_bedAt_19 dX6_bedAt_22 ⟨Nat.le_of_ble_eq_true rfl, Nat.le_of_ble_eq_true rfl, Nat.le_of_ble_eq_true rfl, Nat.le_of_ble_eq_true rfl⟩ (Nat.le_of_ble_eq_true rfl) (Nat.le_of_ble_eq_true rfl)
  · skip
    refine lv_iload_n hx hb dX6_bedAt_4 rfl (lv_at hl 1 rfl) ?_
    refine lv_aload_n hx hb dX6_bedAt_5 rfl (lv_at hl 0 rfl) ?_
    refine gt_0_9 hx hb hts iX6_bedAt_X6 hown hB.1 hC qX6_bedAt_w3 dX6_bedAt_6 ?_
    refine lv_icmp_lt (tgt := 23) hx hb dX6_bedAt_9 (by decide) (fun c2 => ?_) (fun c2 => ?_)
    · skip
      refine lv_aload_n hx hb dX6_bedAt_23 rfl (lv_at hl 0 rfl) ?_
      refine gt_0_3 hx hb hts iX6_bedAt_X6 hown hB.1 hC qX6_bedAt_w4 dX6_bedAt_24 ?_
      refine lv_iload_n hx hb dX6_bedAt_27 rfl (lv_at hl 1 rfl) ?_
      have hlt3 : x.toNatClampNeg < 5 := vp_lt (in_of c1 (Int32.not_le.mpr c2) (IvC.n9 hv).2)
      refine la_13 hx hb hB.1 hC (k := x.toNatClampNeg) rfl (in_of c1 (Int32.not_le.mpr c2) (IvC.n9 hv).2) dX6_bedAt_28 ?_
      have e9 : fX6_bedAt g x = 0 := (by unfold fX6_bedAt; rw [if_neg c1, if_pos c2])
      exact x_reta hx hb  hC hS e9 rfl rfl hr hlocks dX6_bedAt_29 (Nat.le_of_ble_eq_true rfl) (Nat.le_of_ble_eq_true rfl)
    · skip
      exact q_throwW (cdv := 1) (ik := 412) (is := 429) (ic := 416) (cls := "java/lang/IndexOutOfBoundsException") (text := "there is no such bed") hl0 hx hb hown hml hT hlocks hB hC hS hl.1 (by unfold fX6_bedAt; rw [if_neg c1, if_neg c2]) rfl (by decide) ⟨by decide, by decide⟩ (hts _ qX6_bedAt_w1) (hts _ qX6_bedAt_w2) (List.mem_of_getElem? (i := 30) rfl) (fun w hw => hts w (List.mem_cons_of_mem _ (List.mem_append_right _ hw))) xN_416 xG_416 dX6_bedAt_12 dX6_bedAt_15 dX6_bedAt_16 dX6_bedAt_19 dX6_bedAt_22 ⟨Nat.le_of_ble_eq_true rfl, Nat.le_of_ble_eq_true rfl, Nat.le_of_ble_eq_true rfl, Nat.le_of_ble_eq_true rfl⟩ (Nat.le_of_ble_eq_true rfl) (Nat.le_of_ble_eq_true rfl)
theorem bedAt_in {g : Gd} {x : Int32} (hv : IvC g) (h : fX6_bedAt g x = 0) : vp_in x 5 := by
  unfold fX6_bedAt at h
  by_cases h0 : x < 0
  · rw [if_pos h0] at h; cases h
  · rw [if_neg h0] at h
    by_cases h1 : x < (g 0 0 9)
    · exact in_of h0 (Int32.not_le.mpr h1) (IvC.n9 hv).2
    · rw [if_neg h1] at h; cases h
def fX6_lotAt (g : Gd) (x : Int32) : Nat := if x < 0 then (1) else (if x < (g 0 0 10) then (0) else (1))
theorem qX6_lotAt_w1 : Cond.classLink RX6 412 "java/lang/IndexOutOfBoundsException" ∈ wsX6_lotAt := List.mem_of_getElem? (i := 1) rfl
theorem qX6_lotAt_w2 : Cond.initialized "java/lang/IndexOutOfBoundsException" ∈ wsX6_lotAt := List.mem_of_getElem? (i := 2) rfl
theorem qX6_lotAt_w3 : Cond.fieldLink RX6 58 "CherryStation" "lotCount" "I" ∈ wsX6_lotAt := List.mem_of_getElem? (i := 3) rfl
theorem qX6_lotAt_w4 : Cond.fieldLink RX6 35 "CherryStation" "lots" "[LCherryStation$Lot;" ∈ wsX6_lotAt := List.mem_of_getElem? (i := 4) rfl
theorem iX6_lotAt_X6 : ∀ w ∈ wsX60, w ∈ wsX6_lotAt := fun _ h => (List.mem_cons_of_mem _ (List.mem_append_left _ (List.mem_append_right _ h)))
set_option maxRecDepth 100000 in
set_option maxHeartbeats 4000000 in
theorem kX6_lotAt (l : Launch) (D : va_G) (cy : Nat → ClassId) {ad : Nat → Nat → Nat} (hI : cI ad) (hl0 : l.stackTraces = false) (g : Gd) (sz : Nat) (x : Int32) (hv : IvC g) : vx_Met l yX6_lotAt wsX6_lotAt ({ frames := 6, cells := 1, slots := 6, locals := 82 } : Room) (va_Pc [.ref (ad 0 0), .int x] (cPre D cy ad g sz)) (cXr D cy ad (fX6_lotAt g x) (ad 5 x.toNatClampNeg) g sz) (cXC D cy ad (fX6_lotAt g x) g sz) 1 6 (cA ad sz) := by
  refine q_startX (cc := cX6_lotAt) (maxL := 2) (ret := (some (.object "CherryStation$Lot"))) (own := RX6) (by decide) rfl rfl (Nat.le_of_ble_eq_true rfl) ?_
  intro p e s m below meth c hx hb hr hml hts hown hlocks hT ⟨hsz, hC, hB⟩ ls hl
  subst hsz
  have hS : va_S (cA ad s.heap.size) s.heap s.heap [] := va_S.rf
  have hA : ∀ κ i : Nat, cV κ i → cA ad s.heap.size (ad κ i) := fun κ i h => Or.inl ⟨κ, i, h, rfl⟩
  have hl : lv_has ls 2 [(0, .ref (ad 0 0)), (1, .int x)] := hl
  refine lv_iload_n hx hb dX6_lotAt_0 rfl (lv_at hl 1 rfl) ?_
  refine lv_if_lt (tgt := 12) hx hb dX6_lotAt_1 (by decide) (fun c1 => ?_) (fun c1 => ?_)
  · skip
    exact q_throwW (cdv := 1) (ik := 412) (is := 431) (ic := 416) (cls := "java/lang/IndexOutOfBoundsException") (text := "there is no such lot") hl0 hx hb hown hml hT hlocks hB hC hS hl.1 (by unfold fX6_lotAt; rw [if_pos c1]) rfl (by decide) ⟨by decide, by decide⟩ (hts _ qX6_lotAt_w1) (hts _ qX6_lotAt_w2) (List.mem_of_getElem? (i := 31) rfl) (fun w hw => hts w (List.mem_cons_of_mem _ (List.mem_append_right _ hw))) xN_416 xG_416 dX6_lotAt_12 dX6_lotAt_15 dX6_lotAt_16 dX6_lotAt_19 dX6_lotAt_22 ⟨Nat.le_of_ble_eq_true rfl, Nat.le_of_ble_eq_true rfl, Nat.le_of_ble_eq_true rfl, Nat.le_of_ble_eq_true rfl⟩ (Nat.le_of_ble_eq_true rfl) (Nat.le_of_ble_eq_true rfl)
  · skip
    refine lv_iload_n hx hb dX6_lotAt_4 rfl (lv_at hl 1 rfl) ?_
    refine lv_aload_n hx hb dX6_lotAt_5 rfl (lv_at hl 0 rfl) ?_
    refine gt_0_10 hx hb hts iX6_lotAt_X6 hown hB.1 hC qX6_lotAt_w3 dX6_lotAt_6 ?_
    refine lv_icmp_lt (tgt := 23) hx hb dX6_lotAt_9 (by decide) (fun c2 => ?_) (fun c2 => ?_)
    · skip
      refine lv_aload_n hx hb dX6_lotAt_23 rfl (lv_at hl 0 rfl) ?_
      refine gt_0_4 hx hb hts iX6_lotAt_X6 hown hB.1 hC qX6_lotAt_w4 dX6_lotAt_24 ?_
      refine lv_iload_n hx hb dX6_lotAt_27 rfl (lv_at hl 1 rfl) ?_
      have hlt3 : x.toNatClampNeg < 12 := vp_lt (in_of c1 (Int32.not_le.mpr c2) (IvC.n10 hv).2)
      refine la_14 hx hb hB.1 hC (k := x.toNatClampNeg) rfl (in_of c1 (Int32.not_le.mpr c2) (IvC.n10 hv).2) dX6_lotAt_28 ?_
      have e9 : fX6_lotAt g x = 0 := (by unfold fX6_lotAt; rw [if_neg c1, if_pos c2])
      exact x_reta hx hb  hC hS e9 rfl rfl hr hlocks dX6_lotAt_29 (Nat.le_of_ble_eq_true rfl) (Nat.le_of_ble_eq_true rfl)
    · skip
      exact q_throwW (cdv := 1) (ik := 412) (is := 431) (ic := 416) (cls := "java/lang/IndexOutOfBoundsException") (text := "there is no such lot") hl0 hx hb hown hml hT hlocks hB hC hS hl.1 (by unfold fX6_lotAt; rw [if_neg c1, if_neg c2]) rfl (by decide) ⟨by decide, by decide⟩ (hts _ qX6_lotAt_w1) (hts _ qX6_lotAt_w2) (List.mem_of_getElem? (i := 31) rfl) (fun w hw => hts w (List.mem_cons_of_mem _ (List.mem_append_right _ hw))) xN_416 xG_416 dX6_lotAt_12 dX6_lotAt_15 dX6_lotAt_16 dX6_lotAt_19 dX6_lotAt_22 ⟨Nat.le_of_ble_eq_true rfl, Nat.le_of_ble_eq_true rfl, Nat.le_of_ble_eq_true rfl, Nat.le_of_ble_eq_true rfl⟩ (Nat.le_of_ble_eq_true rfl) (Nat.le_of_ble_eq_true rfl)
theorem lotAt_in {g : Gd} {x : Int32} (hv : IvC g) (h : fX6_lotAt g x = 0) : vp_in x 12 := by
  unfold fX6_lotAt at h
  by_cases h0 : x < 0
  · rw [if_pos h0] at h; cases h
  · rw [if_neg h0] at h
    by_cases h1 : x < (g 0 0 10)
    · exact in_of h0 (Int32.not_le.mpr h1) (IvC.n10 hv).2
    · rw [if_neg h1] at h; cases h
