theorem farmAt_okk {g : Gd} {k : Nat} (c : ¬ (g 0 0 7) ≤ (nI k)) (hk : k < 2147483648) : fX6_farmAt g (nI k) = 0 := by
  unfold fX6_farmAt fX6_needFarm
  have h0 : ¬ nI k < 0 := nI_pos (by omega)
  have h1 : nI k < g 0 0 7 := Int32.not_le.mp c
  simp [h0, h1, Int32.not_le.mpr h1]
theorem basketAt_okk {g : Gd} {k : Nat} (c : ¬ (g 0 0 8) ≤ (nI k)) (hk : k < 2147483648) : fX6_basketAt g (nI k) = 0 := by
  unfold fX6_basketAt
  have h0 : ¬ nI k < 0 := nI_pos (by omega)
  have h1 : nI k < g 0 0 8 := Int32.not_le.mp c
  simp [h0, h1, Int32.not_le.mpr h1]
theorem bedAt_okk {g : Gd} {k : Nat} (c : ¬ (g 0 0 9) ≤ (nI k)) (hk : k < 2147483648) : fX6_bedAt g (nI k) = 0 := by
  unfold fX6_bedAt
  have h0 : ¬ nI k < 0 := nI_pos (by omega)
  have h1 : nI k < g 0 0 9 := Int32.not_le.mp c
  simp [h0, h1, Int32.not_le.mpr h1]
theorem lotAt_okk {g : Gd} {k : Nat} (c : ¬ (g 0 0 10) ≤ (nI k)) (hk : k < 2147483648) : fX6_lotAt g (nI k) = 0 := by
  unfold fX6_lotAt
  have h0 : ¬ nI k < 0 := nI_pos (by omega)
  have h1 : nI k < g 0 0 10 := Int32.not_le.mp c
  simp [h0, h1, Int32.not_le.mpr h1]
theorem tankAt_okk (g : Gd) {x : Int32} (hx : x = 0 ∨ x = 1 ∨ x = 2) : fX6_tankAt g x = 0 := by
  unfold fX6_tankAt
  rcases hx with rfl | rfl | rfl <;> decide
theorem ofFarm_ok {g : Gd} {x : Int32} (h : fX6_farmAt g x = 0) {w : Int32} (hw : w = 0 ∨ w = 1 ∨ w = 2 ∨ w = 3 ∨ w = 4) : (fX6_ofFarm g x w).1 = 0 := by
  unfold fX6_ofFarm
  rw [if_pos h]
  rcases hw with rfl | rfl | rfl | rfl | rfl <;> first | rfl | (simp; done) | (simp; split <;> rfl)
theorem ofBasket_ok {g : Gd} {x : Int32} (h : fX6_basketAt g x = 0) {w : Int32} (hw : w = 0 ∨ w = 1 ∨ w = 2 ∨ w = 3 ∨ w = 4 ∨ w = 5) : (fX6_ofBasket g x w).1 = 0 := by
  unfold fX6_ofBasket
  rw [if_pos h]
  rcases hw with rfl | rfl | rfl | rfl | rfl | rfl <;> first | rfl | (simp; done) | (simp; split <;> rfl)
theorem ofTank_ok {g : Gd} {x : Int32} (h : fX6_tankAt g x = 0) {w : Int32} (hw : w = 0 ∨ w = 1 ∨ w = 2 ∨ w = 3 ∨ w = 4) : (fX6_ofTank g x w).1 = 0 := by
  unfold fX6_ofTank
  rw [if_pos h]
  rcases hw with rfl | rfl | rfl | rfl | rfl <;> first | rfl | (simp; done) | (simp; split <;> rfl)
theorem ofBed_ok {g : Gd} {x : Int32} (h : fX6_bedAt g x = 0) {w : Int32} (hw : w = 0 ∨ w = 1 ∨ w = 2 ∨ w = 3 ∨ w = 4 ∨ w = 5 ∨ w = 6 ∨ w = 7) : (fX6_ofBed g x w).1 = 0 := by
  unfold fX6_ofBed
  rw [if_pos h]
  rcases hw with rfl | rfl | rfl | rfl | rfl | rfl | rfl | rfl <;> first | rfl | (simp; done) | (simp; split <;> rfl)
theorem ofLot_ok {g : Gd} {x : Int32} (h : fX6_lotAt g x = 0) {w : Int32} (hw : w = 0 ∨ w = 1 ∨ w = 2 ∨ w = 3 ∨ w = 4 ∨ w = 5 ∨ w = 6 ∨ w = 7 ∨ w = 8 ∨ w = 9 ∨ w = 10 ∨ w = 11) : (fX6_ofLot g x w).1 = 0 := by
  unfold fX6_ofLot
  rw [if_pos h]
  rcases hw with rfl | rfl | rfl | rfl | rfl | rfl | rfl | rfl | rfl | rfl | rfl | rfl <;> first | rfl | (simp; done) | (simp; split <;> rfl)
theorem many_ok {g : Gd} {w : Int32} (hw : w = 0 ∨ w = 1 ∨ w = 2 ∨ w = 3 ∨ w = 4 ∨ w = 5 ∨ w = 6 ∨ w = 7 ∨ w = 8 ∨ w = 9 ∨ w = 10 ∨ w = 11 ∨ w = 12 ∨ w = 13 ∨ w = 14 ∨ w = 15) : (fX6_many g w).1 = 0 := by
  unfold fX6_many
  rcases hw with rfl | rfl | rfl | rfl | rfl | rfl | rfl | rfl | rfl | rfl | rfl | rfl | rfl | rfl | rfl | rfl <;> rfl
theorem kilosOf_ok {g : Gd} {x f : Int32} (h : fX6_lotAt g x = 0) (h2 : fX6_needFarm g f = 0) : (fX6_kilosOf g x f).1 = 0 := by
  unfold fX6_kilosOf
  rw [if_pos h, if_pos h2]
theorem needFarm_okk {g : Gd} {k : Nat} (c : ¬ (g 0 0 7) ≤ (nI k)) (hk : k < 2147483648) : fX6_needFarm g (nI k) = 0 := by
  unfold fX6_needFarm
  have h0 : ¬ nI k < 0 := nI_pos (by omega)
  have h1 : nI k < g 0 0 7 := Int32.not_le.mp c
  simp [h0, h1, Int32.not_le.mpr h1]
theorem readyIn_okL (g : Gd) (x w : Int32) : ∀ n k : Nat, (fX6_readyIn_L25 g x w n k).1 = 0 := by
  intro n
  induction n with
  | zero => intro k; rfl
  | succ n ih =>
    intro k
    rw [fX6_readyIn_L25]
    repeat' split
    all_goals first | rfl | exact ih _
theorem readyIn_ok {g : Gd} {x w : Int32} (h : fX6_tankAt g x = 0) (h2 : fX6_needWarmth g w = 0) : (fX6_readyIn g x w).1 = 0 := by
  unfold fX6_readyIn
  rw [if_pos h, if_pos h2]
  split
  · exact readyIn_okL g x w _ _
  · rfl
theorem dryIn_okL (g : Gd) (x w : Int32) : ∀ (n k : Nat) (mo : Int32), (fX6_dryIn_L31 g x w n k mo).1 = 0 := by
  intro n
  induction n with
  | zero => intro k mo; rfl
  | succ n ih =>
    intro k mo
    rw [fX6_dryIn_L31]
    repeat' split
    all_goals first | rfl | exact ih _ _
theorem dryIn_ok {g : Gd} {x w : Int32} (h : fX6_bedAt g x = 0) (h2 : fX6_needWarmth g w = 0) : (fX6_dryIn g x w).1 = 0 := by
  unfold fX6_dryIn
  rw [if_pos h, if_pos h2]
  split
  · exact dryIn_okL g x w _ _ _
  · rfl
def fX6_digestFarms_L5 (g : Gd) (d0 : Int64) : Nat → Nat → Int64 → Int64
  | 0, k, d => d
  | n + 1, k, d => if (g 0 0 7) ≤ (nI k) then (d) else (fX6_digestFarms_L5 g d0 n (k + 1) ((((((((((d * 31) + (((fX6_ofFarm g (nI k) 0).2).toInt64)) * 31) + (((fX6_ofFarm g (nI k) 1).2).toInt64)) * 31) + (((fX6_ofFarm g (nI k) 2).2).toInt64)) * 31) + (((fX6_ofFarm g (nI k) 3).2).toInt64)) * 31) + (((fX6_ofFarm g (nI k) 4).2).toInt64)))
def fX6_digestFarms (g : Gd) (d0 : Int64) : Int64 := fX6_digestFarms_L5 g d0 7 0 d0
theorem qX6_digestFarms_w1 : Cond.fieldLink RX6 48 "CherryStation" "farmCount" "I" ∈ wsX6_digestFarms := List.mem_of_getElem? (i := 1) rfl
theorem qX6_digestFarms_w2 : Cond.constantLong RX6 364 (31) ∈ wsX6_digestFarms := List.mem_of_getElem? (i := 2) rfl
theorem iX6_digestFarms_X6 : ∀ w ∈ wsX60, w ∈ wsX6_digestFarms := fun _ h => (List.mem_cons_of_mem _ (List.mem_append_left _ (List.mem_append_left _ (List.mem_append_left _ (List.mem_append_left _ (List.mem_append_left _ (List.mem_append_right _ h)))))))
set_option maxRecDepth 100000 in
set_option maxHeartbeats 4000000 in
theorem kX6_digestFarms_L5 (l : Launch) (D : va_G) (cy : Nat → ClassId) {ad : Nat → Nat → Nat} (hI : cI ad) (g : Gd) (d0 : Int64) (hv : IvC g)  {p : Program} {e : Env} {s : State} {m : MethodId} {below : List Frame} {meth : Method} {c : Code} {Q : State → Prop} (hx : p.tables.exec = Jvm.exec) (hb : c.code = cX6_digestFarms) (hr : meth.sig.returnType = (some .long)) (hml : c.maxLocals = 7) (hts : ∀ w ∈ wsX6_digestFarms, w.before [.ref (ad 0 0), .long d0].toArray s = true) (hown : s.vm.findClass RX6 = some m.cls) (hlocks : meth.locks = false) (hB : CB D cy ad s) : ∀ (n k : Nat) (d : Int64) (hn : k + n = 7) (hk : (k : Int) ≤ (g 0 0 7).toInt) (hc1 : (g 0 0 7).toInt ≤ 6)   (H : Heap) (locs : List Loc) (ls : Array Slot) (hC : CW D cy ad g H) (hS : va_S (cA ad s.heap.size) s.heap H locs) (hl : lv_has ls 7 [(5, .int (nI k)), (3, .long d), (0, .ref (ad 0 0)), (1, .long d0)]) (kk : ∀ (H : Heap) (locs : List Loc) (ls : Array Slot), CW D cy ad g H → va_S (cA ad s.heap.size) s.heap H locs → lv_has ls 7 [(3, .long (fX6_digestFarms_L5 g d0 n k d)), (0, .ref (ad 0 0)), (1, .long d0)] → W p l e ({ frames := 3, cells := 0, slots := 0, locals := 65 } : Room) s m [.ref (ad 0 0), .long d0].toArray below meth c H locs 0 0 Q (F0 m 51 ls [])), W p l e ({ frames := 3, cells := 0, slots := 0, locals := 65 } : Room) s m [.ref (ad 0 0), .long d0].toArray below meth c H locs 0 0 Q (F0 m 5 ls []) := by
  have hA : ∀ κ i : Nat, cV κ i → cA ad s.heap.size (ad κ i) := fun κ i h => Or.inl ⟨κ, i, h, rfl⟩
  intro n
  induction n with
  | zero => intro k d hn hk hc1 H locs ls hC hS hl kk; exact absurd hk (by omega)
  | succ n ih =>
    intro k d hn hk hc1 H locs ls hC hS hl kk
    refine lv_iload hx hb dX6_digestFarms_5 (lv_at hl 0 rfl) ?_
    refine lv_aload_n hx hb dX6_digestFarms_7 rfl (lv_at hl 2 rfl) ?_
    refine gt_0_7 hx hb hts iX6_digestFarms_X6 hown hB.1 hC qX6_digestFarms_w1 dX6_digestFarms_8 ?_
    refine lv_icmp_ge (tgt := 51) hx hb dX6_digestFarms_11 (by decide) (fun c1 => ?_) (fun c1 => ?_)
    · skip
      have e9 : fX6_digestFarms_L5 g d0 (n + 1) k d = d := by rw [fX6_digestFarms_L5, if_pos c1]
      rw [e9] at kk
      exact kk H locs ls hC hS (lv_sub hl [1, 2, 3] rfl)
    · skip
      refine lv_iconst (v := 0) hx hb dX6_digestFarms_14 (by decide) ?_
      refine lv_istore (lv' := [(6, .int 0), (5, .int (nI k)), (3, .long d), (0, .ref (ad 0 0)), (1, .long d0)]) hx hb dX6_digestFarms_15 hl (by decide) rfl (fun ls hl => ?_)
      refine lv_iload hx hb dX6_digestFarms_17 (lv_at hl 0 rfl) ?_
      refine lv_iconst (v := 4) hx hb dX6_digestFarms_19 (by decide) ?_
      refine lv_icmp_gt (tgt := 45) hx hb dX6_digestFarms_20 (by decide) (fun c => absurd c (by decide)) (fun _ => ?_)
      refine lv_lload_n hx hb dX6_digestFarms_23 rfl (lv_at hl 2 rfl) ?_
      refine lv_ldc2 hx hb hown (hts _ qX6_digestFarms_w2) dX6_digestFarms_24 ?_
      refine lv_lmul hx hb dX6_digestFarms_27 ?_
      refine lv_aload_n hx hb dX6_digestFarms_28 rfl (lv_at hl 3 rfl) ?_
      refine lv_iload hx hb dX6_digestFarms_29 (lv_at hl 1 rfl) ?_
      refine lv_iload hx hb dX6_digestFarms_31 (lv_at hl 0 rfl) ?_
      refine q_callVi (As := [.int (nI k), .int 0]) (κ := 0) (i := 0) rfl rfl ⟨_, rfl⟩ rfl ⟨hx, hb, hml, hown, hts⟩ (kX6_ofFarm_ok l D cy hI g _  (nI k) 0 hv (ofFarm_ok (farmAt_okk c1 (by omega)) (by decide))) (cwV 2 hts gX6_digestFarms_X6_ofFarm rfl rfl rfl (by decide +kernel) ⟨Nat.le_of_ble_eq_true rfl, Nat.le_of_ble_eq_true rfl⟩) hB hC hS rfl hl.1 (Nat.le_of_ble_eq_true rfl) dX6_digestFarms_33 ⟨Nat.le_of_ble_eq_true rfl, Nat.le_of_ble_eq_true rfl⟩ (fun H locs hC hS => ?_)
      refine lv_i2l hx hb dX6_digestFarms_36 rfl ?_
      refine lv_ladd hx hb dX6_digestFarms_37 ?_
      refine lv_lstore_n (lv' := [(3, .long ((d * 31) + (((fX6_ofFarm g (nI k) 0).2).toInt64))), (6, .int 0), (5, .int (nI k)), (0, .ref (ad 0 0)), (1, .long d0)]) hx hb dX6_digestFarms_38 rfl hl (by decide) rfl (fun ls hl => ?_)
      refine lv_iinc (v := 1) (lv' := [(6, .int 1), (3, .long ((d * 31) + (((fX6_ofFarm g (nI k) 0).2).toInt64))), (5, .int (nI k)), (0, .ref (ad 0 0)), (1, .long d0)]) hx hb dX6_digestFarms_39 hl (k := 1) rfl (by decide) (by decide) rfl (fun ls hl => ?_)
      refine lv_goto (tgt := 17) hx hb dX6_digestFarms_42 (by decide) ?_
      refine lv_iload hx hb dX6_digestFarms_17 (lv_at hl 0 rfl) ?_
      refine lv_iconst (v := 4) hx hb dX6_digestFarms_19 (by decide) ?_
      refine lv_icmp_gt (tgt := 45) hx hb dX6_digestFarms_20 (by decide) (fun c => absurd c (by decide)) (fun _ => ?_)
      refine lv_lload_n hx hb dX6_digestFarms_23 rfl (lv_at hl 1 rfl) ?_
      refine lv_ldc2 hx hb hown (hts _ qX6_digestFarms_w2) dX6_digestFarms_24 ?_
      refine lv_lmul hx hb dX6_digestFarms_27 ?_
      refine lv_aload_n hx hb dX6_digestFarms_28 rfl (lv_at hl 3 rfl) ?_
      refine lv_iload hx hb dX6_digestFarms_29 (lv_at hl 2 rfl) ?_
      refine lv_iload hx hb dX6_digestFarms_31 (lv_at hl 0 rfl) ?_
      refine q_callVi (As := [.int (nI k), .int 1]) (κ := 0) (i := 0) rfl rfl ⟨_, rfl⟩ rfl ⟨hx, hb, hml, hown, hts⟩ (kX6_ofFarm_ok l D cy hI g _  (nI k) 1 hv (ofFarm_ok (farmAt_okk c1 (by omega)) (by decide))) (cwV 2 hts gX6_digestFarms_X6_ofFarm rfl rfl rfl (by decide +kernel) ⟨Nat.le_of_ble_eq_true rfl, Nat.le_of_ble_eq_true rfl⟩) hB hC hS rfl hl.1 (Nat.le_of_ble_eq_true rfl) dX6_digestFarms_33 ⟨Nat.le_of_ble_eq_true rfl, Nat.le_of_ble_eq_true rfl⟩ (fun H locs hC hS => ?_)
      refine lv_i2l hx hb dX6_digestFarms_36 rfl ?_
      refine lv_ladd hx hb dX6_digestFarms_37 ?_
      refine lv_lstore_n (lv' := [(3, .long ((((d * 31) + (((fX6_ofFarm g (nI k) 0).2).toInt64)) * 31) + (((fX6_ofFarm g (nI k) 1).2).toInt64))), (6, .int 1), (5, .int (nI k)), (0, .ref (ad 0 0)), (1, .long d0)]) hx hb dX6_digestFarms_38 rfl hl (by decide) rfl (fun ls hl => ?_)
      refine lv_iinc (v := 2) (lv' := [(6, .int 2), (3, .long ((((d * 31) + (((fX6_ofFarm g (nI k) 0).2).toInt64)) * 31) + (((fX6_ofFarm g (nI k) 1).2).toInt64))), (5, .int (nI k)), (0, .ref (ad 0 0)), (1, .long d0)]) hx hb dX6_digestFarms_39 hl (k := 1) rfl (by decide) (by decide) rfl (fun ls hl => ?_)
      refine lv_goto (tgt := 17) hx hb dX6_digestFarms_42 (by decide) ?_
      refine lv_iload hx hb dX6_digestFarms_17 (lv_at hl 0 rfl) ?_
      refine lv_iconst (v := 4) hx hb dX6_digestFarms_19 (by decide) ?_
      refine lv_icmp_gt (tgt := 45) hx hb dX6_digestFarms_20 (by decide) (fun c => absurd c (by decide)) (fun _ => ?_)
      refine lv_lload_n hx hb dX6_digestFarms_23 rfl (lv_at hl 1 rfl) ?_
      refine lv_ldc2 hx hb hown (hts _ qX6_digestFarms_w2) dX6_digestFarms_24 ?_
      refine lv_lmul hx hb dX6_digestFarms_27 ?_
      refine lv_aload_n hx hb dX6_digestFarms_28 rfl (lv_at hl 3 rfl) ?_
      refine lv_iload hx hb dX6_digestFarms_29 (lv_at hl 2 rfl) ?_
      refine lv_iload hx hb dX6_digestFarms_31 (lv_at hl 0 rfl) ?_
      refine q_callVi (As := [.int (nI k), .int 2]) (κ := 0) (i := 0) rfl rfl ⟨_, rfl⟩ rfl ⟨hx, hb, hml, hown, hts⟩ (kX6_ofFarm_ok l D cy hI g _  (nI k) 2 hv (ofFarm_ok (farmAt_okk c1 (by omega)) (by decide))) (cwV 2 hts gX6_digestFarms_X6_ofFarm rfl rfl rfl (by decide +kernel) ⟨Nat.le_of_ble_eq_true rfl, Nat.le_of_ble_eq_true rfl⟩) hB hC hS rfl hl.1 (Nat.le_of_ble_eq_true rfl) dX6_digestFarms_33 ⟨Nat.le_of_ble_eq_true rfl, Nat.le_of_ble_eq_true rfl⟩ (fun H locs hC hS => ?_)
      refine lv_i2l hx hb dX6_digestFarms_36 rfl ?_
      refine lv_ladd hx hb dX6_digestFarms_37 ?_
      refine lv_lstore_n (lv' := [(3, .long ((((((d * 31) + (((fX6_ofFarm g (nI k) 0).2).toInt64)) * 31) + (((fX6_ofFarm g (nI k) 1).2).toInt64)) * 31) + (((fX6_ofFarm g (nI k) 2).2).toInt64))), (6, .int 2), (5, .int (nI k)), (0, .ref (ad 0 0)), (1, .long d0)]) hx hb dX6_digestFarms_38 rfl hl (by decide) rfl (fun ls hl => ?_)
      refine lv_iinc (v := 3) (lv' := [(6, .int 3), (3, .long ((((((d * 31) + (((fX6_ofFarm g (nI k) 0).2).toInt64)) * 31) + (((fX6_ofFarm g (nI k) 1).2).toInt64)) * 31) + (((fX6_ofFarm g (nI k) 2).2).toInt64))), (5, .int (nI k)), (0, .ref (ad 0 0)), (1, .long d0)]) hx hb dX6_digestFarms_39 hl (k := 1) rfl (by decide) (by decide) rfl (fun ls hl => ?_)
      refine lv_goto (tgt := 17) hx hb dX6_digestFarms_42 (by decide) ?_
      refine lv_iload hx hb dX6_digestFarms_17 (lv_at hl 0 rfl) ?_
      refine lv_iconst (v := 4) hx hb dX6_digestFarms_19 (by decide) ?_
      refine lv_icmp_gt (tgt := 45) hx hb dX6_digestFarms_20 (by decide) (fun c => absurd c (by decide)) (fun _ => ?_)
      refine lv_lload_n hx hb dX6_digestFarms_23 rfl (lv_at hl 1 rfl) ?_
      refine lv_ldc2 hx hb hown (hts _ qX6_digestFarms_w2) dX6_digestFarms_24 ?_
      refine lv_lmul hx hb dX6_digestFarms_27 ?_
      refine lv_aload_n hx hb dX6_digestFarms_28 rfl (lv_at hl 3 rfl) ?_
      refine lv_iload hx hb dX6_digestFarms_29 (lv_at hl 2 rfl) ?_
      refine lv_iload hx hb dX6_digestFarms_31 (lv_at hl 0 rfl) ?_
      refine q_callVi (As := [.int (nI k), .int 3]) (κ := 0) (i := 0) rfl rfl ⟨_, rfl⟩ rfl ⟨hx, hb, hml, hown, hts⟩ (kX6_ofFarm_ok l D cy hI g _  (nI k) 3 hv (ofFarm_ok (farmAt_okk c1 (by omega)) (by decide))) (cwV 2 hts gX6_digestFarms_X6_ofFarm rfl rfl rfl (by decide +kernel) ⟨Nat.le_of_ble_eq_true rfl, Nat.le_of_ble_eq_true rfl⟩) hB hC hS rfl hl.1 (Nat.le_of_ble_eq_true rfl) dX6_digestFarms_33 ⟨Nat.le_of_ble_eq_true rfl, Nat.le_of_ble_eq_true rfl⟩ (fun H locs hC hS => ?_)
      refine lv_i2l hx hb dX6_digestFarms_36 rfl ?_
      refine lv_ladd hx hb dX6_digestFarms_37 ?_
      refine lv_lstore_n (lv' := [(3, .long ((((((((d * 31) + (((fX6_ofFarm g (nI k) 0).2).toInt64)) * 31) + (((fX6_ofFarm g (nI k) 1).2).toInt64)) * 31) + (((fX6_ofFarm g (nI k) 2).2).toInt64)) * 31) + (((fX6_ofFarm g (nI k) 3).2).toInt64))), (6, .int 3), (5, .int (nI k)), (0, .ref (ad 0 0)), (1, .long d0)]) hx hb dX6_digestFarms_38 rfl hl (by decide) rfl (fun ls hl => ?_)
      refine lv_iinc (v := 4) (lv' := [(6, .int 4), (3, .long ((((((((d * 31) + (((fX6_ofFarm g (nI k) 0).2).toInt64)) * 31) + (((fX6_ofFarm g (nI k) 1).2).toInt64)) * 31) + (((fX6_ofFarm g (nI k) 2).2).toInt64)) * 31) + (((fX6_ofFarm g (nI k) 3).2).toInt64))), (5, .int (nI k)), (0, .ref (ad 0 0)), (1, .long d0)]) hx hb dX6_digestFarms_39 hl (k := 1) rfl (by decide) (by decide) rfl (fun ls hl => ?_)
      refine lv_goto (tgt := 17) hx hb dX6_digestFarms_42 (by decide) ?_
      refine lv_iload hx hb dX6_digestFarms_17 (lv_at hl 0 rfl) ?_
      refine lv_iconst (v := 4) hx hb dX6_digestFarms_19 (by decide) ?_
      refine lv_icmp_gt (tgt := 45) hx hb dX6_digestFarms_20 (by decide) (fun c => absurd c (by decide)) (fun _ => ?_)
      refine lv_lload_n hx hb dX6_digestFarms_23 rfl (lv_at hl 1 rfl) ?_
      refine lv_ldc2 hx hb hown (hts _ qX6_digestFarms_w2) dX6_digestFarms_24 ?_
      refine lv_lmul hx hb dX6_digestFarms_27 ?_
      refine lv_aload_n hx hb dX6_digestFarms_28 rfl (lv_at hl 3 rfl) ?_
      refine lv_iload hx hb dX6_digestFarms_29 (lv_at hl 2 rfl) ?_
      refine lv_iload hx hb dX6_digestFarms_31 (lv_at hl 0 rfl) ?_
      refine q_callVi (As := [.int (nI k), .int 4]) (κ := 0) (i := 0) rfl rfl ⟨_, rfl⟩ rfl ⟨hx, hb, hml, hown, hts⟩ (kX6_ofFarm_ok l D cy hI g _  (nI k) 4 hv (ofFarm_ok (farmAt_okk c1 (by omega)) (by decide))) (cwV 2 hts gX6_digestFarms_X6_ofFarm rfl rfl rfl (by decide +kernel) ⟨Nat.le_of_ble_eq_true rfl, Nat.le_of_ble_eq_true rfl⟩) hB hC hS rfl hl.1 (Nat.le_of_ble_eq_true rfl) dX6_digestFarms_33 ⟨Nat.le_of_ble_eq_true rfl, Nat.le_of_ble_eq_true rfl⟩ (fun H locs hC hS => ?_)
      refine lv_i2l hx hb dX6_digestFarms_36 rfl ?_
      refine lv_ladd hx hb dX6_digestFarms_37 ?_
      refine lv_lstore_n (lv' := [(3, .long ((((((((((d * 31) + (((fX6_ofFarm g (nI k) 0).2).toInt64)) * 31) + (((fX6_ofFarm g (nI k) 1).2).toInt64)) * 31) + (((fX6_ofFarm g (nI k) 2).2).toInt64)) * 31) + (((fX6_ofFarm g (nI k) 3).2).toInt64)) * 31) + (((fX6_ofFarm g (nI k) 4).2).toInt64))), (6, .int 4), (5, .int (nI k)), (0, .ref (ad 0 0)), (1, .long d0)]) hx hb dX6_digestFarms_38 rfl hl (by decide) rfl (fun ls hl => ?_)
      refine lv_iinc (v := 5) (lv' := [(6, .int 5), (3, .long ((((((((((d * 31) + (((fX6_ofFarm g (nI k) 0).2).toInt64)) * 31) + (((fX6_ofFarm g (nI k) 1).2).toInt64)) * 31) + (((fX6_ofFarm g (nI k) 2).2).toInt64)) * 31) + (((fX6_ofFarm g (nI k) 3).2).toInt64)) * 31) + (((fX6_ofFarm g (nI k) 4).2).toInt64))), (5, .int (nI k)), (0, .ref (ad 0 0)), (1, .long d0)]) hx hb dX6_digestFarms_39 hl (k := 1) rfl (by decide) (by decide) rfl (fun ls hl => ?_)
      refine lv_goto (tgt := 17) hx hb dX6_digestFarms_42 (by decide) ?_
      refine lv_iload hx hb dX6_digestFarms_17 (lv_at hl 0 rfl) ?_
      refine lv_iconst (v := 4) hx hb dX6_digestFarms_19 (by decide) ?_
      refine lv_icmp_gt (tgt := 45) hx hb dX6_digestFarms_20 (by decide) (fun _ => ?_) (fun c => absurd c (by decide))
      refine lv_iinc (v := nI (k + 1)) (lv' := [(5, .int (nI (k + 1))), (6, .int 5), (3, .long ((((((((((d * 31) + (((fX6_ofFarm g (nI k) 0).2).toInt64)) * 31) + (((fX6_ofFarm g (nI k) 1).2).toInt64)) * 31) + (((fX6_ofFarm g (nI k) 2).2).toInt64)) * 31) + (((fX6_ofFarm g (nI k) 3).2).toInt64)) * 31) + (((fX6_ofFarm g (nI k) 4).2).toInt64))), (0, .ref (ad 0 0)), (1, .long d0)]) hx hb dX6_digestFarms_45 hl (k := 2) rfl (nI_1 _) (by decide) rfl (fun ls hl => ?_)
      refine lv_goto (tgt := 5) hx hb dX6_digestFarms_48 (by decide) ?_
      have e9 : fX6_digestFarms_L5 g d0 (n + 1) k d = fX6_digestFarms_L5 g d0 n (k + 1) ((((((((((d * 31) + (((fX6_ofFarm g (nI k) 0).2).toInt64)) * 31) + (((fX6_ofFarm g (nI k) 1).2).toInt64)) * 31) + (((fX6_ofFarm g (nI k) 2).2).toInt64)) * 31) + (((fX6_ofFarm g (nI k) 3).2).toInt64)) * 31) + (((fX6_ofFarm g (nI k) 4).2).toInt64)) := by rw [fX6_digestFarms_L5, if_neg c1]
      rw [e9] at kk
      exact ih (k + 1) ((((((((((d * 31) + (((fX6_ofFarm g (nI k) 0).2).toInt64)) * 31) + (((fX6_ofFarm g (nI k) 1).2).toInt64)) * 31) + (((fX6_ofFarm g (nI k) 2).2).toInt64)) * 31) + (((fX6_ofFarm g (nI k) 3).2).toInt64)) * 31) + (((fX6_ofFarm g (nI k) 4).2).toInt64)) (by omega) (by have q9 := lk_lt c1 (by omega); omega) hc1  H locs ls hC hS (lv_sub hl [0, 2, 3, 4] rfl) kk
set_option maxRecDepth 100000 in
set_option maxHeartbeats 4000000 in
theorem kX6_digestFarms (l : Launch) (D : va_G) (cy : Nat → ClassId) {ad : Nat → Nat → Nat} (hI : cI ad) (g : Gd) (sz : Nat) (d0 : Int64) (hv : IvC g) : Met l yX6_digestFarms wsX6_digestFarms ({ frames := 3, cells := 0, slots := 0, locals := 65 } : Room) (va_Pc [.ref (ad 0 0), .long d0] (cPre D cy ad g sz)) (cQl D cy ad (fX6_digestFarms g d0) g sz) 0 0 (cA ad sz) := by
  refine q_start (cc := cX6_digestFarms) (maxL := 7) (ret := (some .long)) (own := RX6) (by decide) rfl rfl (Nat.le_of_ble_eq_true rfl) ?_
  intro p e s m below meth c hx hb hr hml hts hown hlocks ⟨hsz, hC, hB⟩ ls hl
  subst hsz
  have hS : va_S (cA ad s.heap.size) s.heap s.heap [] := va_S.rf
  have hA : ∀ κ i : Nat, cV κ i → cA ad s.heap.size (ad κ i) := fun κ i h => Or.inl ⟨κ, i, h, rfl⟩
  have hl : lv_has ls 7 [(0, .ref (ad 0 0)), (1, .long d0)] := hl
  refine lv_lload_n hx hb dX6_digestFarms_0 rfl (lv_at hl 1 rfl) ?_
  refine lv_lstore_n (lv' := [(3, .long d0), (0, .ref (ad 0 0)), (1, .long d0)]) hx hb dX6_digestFarms_1 rfl hl (by decide) rfl (fun ls hl => ?_)
  refine lv_iconst (v := 0) hx hb dX6_digestFarms_2 (by decide) ?_
  refine lv_istore (lv' := [(5, .int 0), (3, .long d0), (0, .ref (ad 0 0)), (1, .long d0)]) hx hb dX6_digestFarms_3 hl (by decide) rfl (fun ls hl => ?_)
  refine kX6_digestFarms_L5 l D cy hI g d0  hv  hx hb hr hml hts hown hlocks hB 7 0 d0 (by omega) (by have := (IvC.n7 hv).1; omega) (IvC.n7 hv).2  _ _ ls hC hS (lv_sub hl [0, 1, 2, 3] rfl) (fun H locs ls hC hS hl => ?_)
  refine lv_lload_n hx hb dX6_digestFarms_51 rfl (lv_at hl 0 rfl) ?_
  exact q_retl hx hb hr hB hC hS rfl rfl hlocks dX6_digestFarms_52
def fX6_digestBaskets_L5 (g : Gd) (d0 : Int64) : Nat → Nat → Int64 → Int64
  | 0, k, d => d
  | n + 1, k, d => if (g 0 0 8) ≤ (nI k) then (d) else (fX6_digestBaskets_L5 g d0 n (k + 1) ((((((((((((d * 31) + (((fX6_ofBasket g (nI k) 0).2).toInt64)) * 31) + (((fX6_ofBasket g (nI k) 1).2).toInt64)) * 31) + (((fX6_ofBasket g (nI k) 2).2).toInt64)) * 31) + (((fX6_ofBasket g (nI k) 3).2).toInt64)) * 31) + (((fX6_ofBasket g (nI k) 4).2).toInt64)) * 31) + (((fX6_ofBasket g (nI k) 5).2).toInt64)))
def fX6_digestBaskets (g : Gd) (d0 : Int64) : Int64 := fX6_digestBaskets_L5 g d0 21 0 d0
theorem qX6_digestBaskets_w1 : Cond.fieldLink RX6 52 "CherryStation" "basketCount" "I" ∈ wsX6_digestBaskets := List.mem_of_getElem? (i := 1) rfl
theorem qX6_digestBaskets_w2 : Cond.constantLong RX6 364 (31) ∈ wsX6_digestBaskets := List.mem_of_getElem? (i := 2) rfl
theorem iX6_digestBaskets_X6 : ∀ w ∈ wsX60, w ∈ wsX6_digestBaskets := fun _ h => (List.mem_cons_of_mem _ (List.mem_append_left _ (List.mem_append_left _ (List.mem_append_left _ (List.mem_append_right _ h)))))
set_option maxRecDepth 100000 in
set_option maxHeartbeats 4000000 in
theorem kX6_digestBaskets_L5 (l : Launch) (D : va_G) (cy : Nat → ClassId) {ad : Nat → Nat → Nat} (hI : cI ad) (g : Gd) (d0 : Int64) (hv : IvC g)  {p : Program} {e : Env} {s : State} {m : MethodId} {below : List Frame} {meth : Method} {c : Code} {Q : State → Prop} (hx : p.tables.exec = Jvm.exec) (hb : c.code = cX6_digestBaskets) (hr : meth.sig.returnType = (some .long)) (hml : c.maxLocals = 7) (hts : ∀ w ∈ wsX6_digestBaskets, w.before [.ref (ad 0 0), .long d0].toArray s = true) (hown : s.vm.findClass RX6 = some m.cls) (hlocks : meth.locks = false) (hB : CB D cy ad s) : ∀ (n k : Nat) (d : Int64) (hn : k + n = 21) (hk : (k : Int) ≤ (g 0 0 8).toInt) (hc1 : (g 0 0 8).toInt ≤ 20)   (H : Heap) (locs : List Loc) (ls : Array Slot) (hC : CW D cy ad g H) (hS : va_S (cA ad s.heap.size) s.heap H locs) (hl : lv_has ls 7 [(5, .int (nI k)), (3, .long d), (0, .ref (ad 0 0)), (1, .long d0)]) (kk : ∀ (H : Heap) (locs : List Loc) (ls : Array Slot), CW D cy ad g H → va_S (cA ad s.heap.size) s.heap H locs → lv_has ls 7 [(3, .long (fX6_digestBaskets_L5 g d0 n k d)), (0, .ref (ad 0 0)), (1, .long d0)] → W p l e ({ frames := 2, cells := 0, slots := 0, locals := 44 } : Room) s m [.ref (ad 0 0), .long d0].toArray below meth c H locs 0 0 Q (F0 m 51 ls [])), W p l e ({ frames := 2, cells := 0, slots := 0, locals := 44 } : Room) s m [.ref (ad 0 0), .long d0].toArray below meth c H locs 0 0 Q (F0 m 5 ls []) := by
  have hA : ∀ κ i : Nat, cV κ i → cA ad s.heap.size (ad κ i) := fun κ i h => Or.inl ⟨κ, i, h, rfl⟩
  intro n
  induction n with
  | zero => intro k d hn hk hc1 H locs ls hC hS hl kk; exact absurd hk (by omega)
  | succ n ih =>
    intro k d hn hk hc1 H locs ls hC hS hl kk
    refine lv_iload hx hb dX6_digestBaskets_5 (lv_at hl 0 rfl) ?_
    refine lv_aload_n hx hb dX6_digestBaskets_7 rfl (lv_at hl 2 rfl) ?_
    refine gt_0_8 hx hb hts iX6_digestBaskets_X6 hown hB.1 hC qX6_digestBaskets_w1 dX6_digestBaskets_8 ?_
    refine lv_icmp_ge (tgt := 51) hx hb dX6_digestBaskets_11 (by decide) (fun c1 => ?_) (fun c1 => ?_)
    · skip
      have e9 : fX6_digestBaskets_L5 g d0 (n + 1) k d = d := by rw [fX6_digestBaskets_L5, if_pos c1]
      rw [e9] at kk
      exact kk H locs ls hC hS (lv_sub hl [1, 2, 3] rfl)
    · skip
      refine lv_iconst (v := 0) hx hb dX6_digestBaskets_14 (by decide) ?_
      refine lv_istore (lv' := [(6, .int 0), (5, .int (nI k)), (3, .long d), (0, .ref (ad 0 0)), (1, .long d0)]) hx hb dX6_digestBaskets_15 hl (by decide) rfl (fun ls hl => ?_)
      refine lv_iload hx hb dX6_digestBaskets_17 (lv_at hl 0 rfl) ?_
      refine lv_iconst (v := 5) hx hb dX6_digestBaskets_19 (by decide) ?_
      refine lv_icmp_gt (tgt := 45) hx hb dX6_digestBaskets_20 (by decide) (fun c => absurd c (by decide)) (fun _ => ?_)
      refine lv_lload_n hx hb dX6_digestBaskets_23 rfl (lv_at hl 2 rfl) ?_
      refine lv_ldc2 hx hb hown (hts _ qX6_digestBaskets_w2) dX6_digestBaskets_24 ?_
      refine lv_lmul hx hb dX6_digestBaskets_27 ?_
      refine lv_aload_n hx hb dX6_digestBaskets_28 rfl (lv_at hl 3 rfl) ?_
      refine lv_iload hx hb dX6_digestBaskets_29 (lv_at hl 1 rfl) ?_
      refine lv_iload hx hb dX6_digestBaskets_31 (lv_at hl 0 rfl) ?_
      refine q_callVi (As := [.int (nI k), .int 0]) (κ := 0) (i := 0) rfl rfl ⟨_, rfl⟩ rfl ⟨hx, hb, hml, hown, hts⟩ (kX6_ofBasket_ok l D cy hI g _  (nI k) 0 hv (ofBasket_ok (basketAt_okk c1 (by omega)) (by decide))) (cwV 2 hts gX6_digestBaskets_X6_ofBasket rfl rfl rfl (by decide +kernel) ⟨Nat.le_of_ble_eq_true rfl, Nat.le_of_ble_eq_true rfl⟩) hB hC hS rfl hl.1 (Nat.le_of_ble_eq_true rfl) dX6_digestBaskets_33 ⟨Nat.le_of_ble_eq_true rfl, Nat.le_of_ble_eq_true rfl⟩ (fun H locs hC hS => ?_)
      refine lv_i2l hx hb dX6_digestBaskets_36 rfl ?_
      refine lv_ladd hx hb dX6_digestBaskets_37 ?_
      refine lv_lstore_n (lv' := [(3, .long ((d * 31) + (((fX6_ofBasket g (nI k) 0).2).toInt64))), (6, .int 0), (5, .int (nI k)), (0, .ref (ad 0 0)), (1, .long d0)]) hx hb dX6_digestBaskets_38 rfl hl (by decide) rfl (fun ls hl => ?_)
      refine lv_iinc (v := 1) (lv' := [(6, .int 1), (3, .long ((d * 31) + (((fX6_ofBasket g (nI k) 0).2).toInt64))), (5, .int (nI k)), (0, .ref (ad 0 0)), (1, .long d0)]) hx hb dX6_digestBaskets_39 hl (k := 1) rfl (by decide) (by decide) rfl (fun ls hl => ?_)
      refine lv_goto (tgt := 17) hx hb dX6_digestBaskets_42 (by decide) ?_
      refine lv_iload hx hb dX6_digestBaskets_17 (lv_at hl 0 rfl) ?_
      refine lv_iconst (v := 5) hx hb dX6_digestBaskets_19 (by decide) ?_
      refine lv_icmp_gt (tgt := 45) hx hb dX6_digestBaskets_20 (by decide) (fun c => absurd c (by decide)) (fun _ => ?_)
      refine lv_lload_n hx hb dX6_digestBaskets_23 rfl (lv_at hl 1 rfl) ?_
      refine lv_ldc2 hx hb hown (hts _ qX6_digestBaskets_w2) dX6_digestBaskets_24 ?_
      refine lv_lmul hx hb dX6_digestBaskets_27 ?_
      refine lv_aload_n hx hb dX6_digestBaskets_28 rfl (lv_at hl 3 rfl) ?_
      refine lv_iload hx hb dX6_digestBaskets_29 (lv_at hl 2 rfl) ?_
      refine lv_iload hx hb dX6_digestBaskets_31 (lv_at hl 0 rfl) ?_
      refine q_callVi (As := [.int (nI k), .int 1]) (κ := 0) (i := 0) rfl rfl ⟨_, rfl⟩ rfl ⟨hx, hb, hml, hown, hts⟩ (kX6_ofBasket_ok l D cy hI g _  (nI k) 1 hv (ofBasket_ok (basketAt_okk c1 (by omega)) (by decide))) (cwV 2 hts gX6_digestBaskets_X6_ofBasket rfl rfl rfl (by decide +kernel) ⟨Nat.le_of_ble_eq_true rfl, Nat.le_of_ble_eq_true rfl⟩) hB hC hS rfl hl.1 (Nat.le_of_ble_eq_true rfl) dX6_digestBaskets_33 ⟨Nat.le_of_ble_eq_true rfl, Nat.le_of_ble_eq_true rfl⟩ (fun H locs hC hS => ?_)
      refine lv_i2l hx hb dX6_digestBaskets_36 rfl ?_
      refine lv_ladd hx hb dX6_digestBaskets_37 ?_
      refine lv_lstore_n (lv' := [(3, .long ((((d * 31) + (((fX6_ofBasket g (nI k) 0).2).toInt64)) * 31) + (((fX6_ofBasket g (nI k) 1).2).toInt64))), (6, .int 1), (5, .int (nI k)), (0, .ref (ad 0 0)), (1, .long d0)]) hx hb dX6_digestBaskets_38 rfl hl (by decide) rfl (fun ls hl => ?_)
      refine lv_iinc (v := 2) (lv' := [(6, .int 2), (3, .long ((((d * 31) + (((fX6_ofBasket g (nI k) 0).2).toInt64)) * 31) + (((fX6_ofBasket g (nI k) 1).2).toInt64))), (5, .int (nI k)), (0, .ref (ad 0 0)), (1, .long d0)]) hx hb dX6_digestBaskets_39 hl (k := 1) rfl (by decide) (by decide) rfl (fun ls hl => ?_)
      refine lv_goto (tgt := 17) hx hb dX6_digestBaskets_42 (by decide) ?_
      refine lv_iload hx hb dX6_digestBaskets_17 (lv_at hl 0 rfl) ?_
      refine lv_iconst (v := 5) hx hb dX6_digestBaskets_19 (by decide) ?_
      refine lv_icmp_gt (tgt := 45) hx hb dX6_digestBaskets_20 (by decide) (fun c => absurd c (by decide)) (fun _ => ?_)
      refine lv_lload_n hx hb dX6_digestBaskets_23 rfl (lv_at hl 1 rfl) ?_
      refine lv_ldc2 hx hb hown (hts _ qX6_digestBaskets_w2) dX6_digestBaskets_24 ?_
      refine lv_lmul hx hb dX6_digestBaskets_27 ?_
      refine lv_aload_n hx hb dX6_digestBaskets_28 rfl (lv_at hl 3 rfl) ?_
      refine lv_iload hx hb dX6_digestBaskets_29 (lv_at hl 2 rfl) ?_
      refine lv_iload hx hb dX6_digestBaskets_31 (lv_at hl 0 rfl) ?_
      refine q_callVi (As := [.int (nI k), .int 2]) (κ := 0) (i := 0) rfl rfl ⟨_, rfl⟩ rfl ⟨hx, hb, hml, hown, hts⟩ (kX6_ofBasket_ok l D cy hI g _  (nI k) 2 hv (ofBasket_ok (basketAt_okk c1 (by omega)) (by decide))) (cwV 2 hts gX6_digestBaskets_X6_ofBasket rfl rfl rfl (by decide +kernel) ⟨Nat.le_of_ble_eq_true rfl, Nat.le_of_ble_eq_true rfl⟩) hB hC hS rfl hl.1 (Nat.le_of_ble_eq_true rfl) dX6_digestBaskets_33 ⟨Nat.le_of_ble_eq_true rfl, Nat.le_of_ble_eq_true rfl⟩ (fun H locs hC hS => ?_)
      refine lv_i2l hx hb dX6_digestBaskets_36 rfl ?_
      refine lv_ladd hx hb dX6_digestBaskets_37 ?_
      refine lv_lstore_n (lv' := [(3, .long ((((((d * 31) + (((fX6_ofBasket g (nI k) 0).2).toInt64)) * 31) + (((fX6_ofBasket g (nI k) 1).2).toInt64)) * 31) + (((fX6_ofBasket g (nI k) 2).2).toInt64))), (6, .int 2), (5, .int (nI k)), (0, .ref (ad 0 0)), (1, .long d0)]) hx hb dX6_digestBaskets_38 rfl hl (by decide) rfl (fun ls hl => ?_)
      refine lv_iinc (v := 3) (lv' := [(6, .int 3), (3, .long ((((((d * 31) + (((fX6_ofBasket g (nI k) 0).2).toInt64)) * 31) + (((fX6_ofBasket g (nI k) 1).2).toInt64)) * 31) + (((fX6_ofBasket g (nI k) 2).2).toInt64))), (5, .int (nI k)), (0, .ref (ad 0 0)), (1, .long d0)]) hx hb dX6_digestBaskets_39 hl (k := 1) rfl (by decide) (by decide) rfl (fun ls hl => ?_)
      refine lv_goto (tgt := 17) hx hb dX6_digestBaskets_42 (by decide) ?_
      refine lv_iload hx hb dX6_digestBaskets_17 (lv_at hl 0 rfl) ?_
      refine lv_iconst (v := 5) hx hb dX6_digestBaskets_19 (by decide) ?_
      refine lv_icmp_gt (tgt := 45) hx hb dX6_digestBaskets_20 (by decide) (fun c => absurd c (by decide)) (fun _ => ?_)
      refine lv_lload_n hx hb dX6_digestBaskets_23 rfl (lv_at hl 1 rfl) ?_
      refine lv_ldc2 hx hb hown (hts _ qX6_digestBaskets_w2) dX6_digestBaskets_24 ?_
      refine lv_lmul hx hb dX6_digestBaskets_27 ?_
      refine lv_aload_n hx hb dX6_digestBaskets_28 rfl (lv_at hl 3 rfl) ?_
      refine lv_iload hx hb dX6_digestBaskets_29 (lv_at hl 2 rfl) ?_
      refine lv_iload hx hb dX6_digestBaskets_31 (lv_at hl 0 rfl) ?_
      refine q_callVi (As := [.int (nI k), .int 3]) (κ := 0) (i := 0) rfl rfl ⟨_, rfl⟩ rfl ⟨hx, hb, hml, hown, hts⟩ (kX6_ofBasket_ok l D cy hI g _  (nI k) 3 hv (ofBasket_ok (basketAt_okk c1 (by omega)) (by decide))) (cwV 2 hts gX6_digestBaskets_X6_ofBasket rfl rfl rfl (by decide +kernel) ⟨Nat.le_of_ble_eq_true rfl, Nat.le_of_ble_eq_true rfl⟩) hB hC hS rfl hl.1 (Nat.le_of_ble_eq_true rfl) dX6_digestBaskets_33 ⟨Nat.le_of_ble_eq_true rfl, Nat.le_of_ble_eq_true rfl⟩ (fun H locs hC hS => ?_)
      refine lv_i2l hx hb dX6_digestBaskets_36 rfl ?_
      refine lv_ladd hx hb dX6_digestBaskets_37 ?_
      refine lv_lstore_n (lv' := [(3, .long ((((((((d * 31) + (((fX6_ofBasket g (nI k) 0).2).toInt64)) * 31) + (((fX6_ofBasket g (nI k) 1).2).toInt64)) * 31) + (((fX6_ofBasket g (nI k) 2).2).toInt64)) * 31) + (((fX6_ofBasket g (nI k) 3).2).toInt64))), (6, .int 3), (5, .int (nI k)), (0, .ref (ad 0 0)), (1, .long d0)]) hx hb dX6_digestBaskets_38 rfl hl (by decide) rfl (fun ls hl => ?_)
      refine lv_iinc (v := 4) (lv' := [(6, .int 4), (3, .long ((((((((d * 31) + (((fX6_ofBasket g (nI k) 0).2).toInt64)) * 31) + (((fX6_ofBasket g (nI k) 1).2).toInt64)) * 31) + (((fX6_ofBasket g (nI k) 2).2).toInt64)) * 31) + (((fX6_ofBasket g (nI k) 3).2).toInt64))), (5, .int (nI k)), (0, .ref (ad 0 0)), (1, .long d0)]) hx hb dX6_digestBaskets_39 hl (k := 1) rfl (by decide) (by decide) rfl (fun ls hl => ?_)
      refine lv_goto (tgt := 17) hx hb dX6_digestBaskets_42 (by decide) ?_
      refine lv_iload hx hb dX6_digestBaskets_17 (lv_at hl 0 rfl) ?_
      refine lv_iconst (v := 5) hx hb dX6_digestBaskets_19 (by decide) ?_
      refine lv_icmp_gt (tgt := 45) hx hb dX6_digestBaskets_20 (by decide) (fun c => absurd c (by decide)) (fun _ => ?_)
      refine lv_lload_n hx hb dX6_digestBaskets_23 rfl (lv_at hl 1 rfl) ?_
      refine lv_ldc2 hx hb hown (hts _ qX6_digestBaskets_w2) dX6_digestBaskets_24 ?_
      refine lv_lmul hx hb dX6_digestBaskets_27 ?_
      refine lv_aload_n hx hb dX6_digestBaskets_28 rfl (lv_at hl 3 rfl) ?_
      refine lv_iload hx hb dX6_digestBaskets_29 (lv_at hl 2 rfl) ?_
      refine lv_iload hx hb dX6_digestBaskets_31 (lv_at hl 0 rfl) ?_
      refine q_callVi (As := [.int (nI k), .int 4]) (κ := 0) (i := 0) rfl rfl ⟨_, rfl⟩ rfl ⟨hx, hb, hml, hown, hts⟩ (kX6_ofBasket_ok l D cy hI g _  (nI k) 4 hv (ofBasket_ok (basketAt_okk c1 (by omega)) (by decide))) (cwV 2 hts gX6_digestBaskets_X6_ofBasket rfl rfl rfl (by decide +kernel) ⟨Nat.le_of_ble_eq_true rfl, Nat.le_of_ble_eq_true rfl⟩) hB hC hS rfl hl.1 (Nat.le_of_ble_eq_true rfl) dX6_digestBaskets_33 ⟨Nat.le_of_ble_eq_true rfl, Nat.le_of_ble_eq_true rfl⟩ (fun H locs hC hS => ?_)
      refine lv_i2l hx hb dX6_digestBaskets_36 rfl ?_
      refine lv_ladd hx hb dX6_digestBaskets_37 ?_
      refine lv_lstore_n (lv' := [(3, .long ((((((((((d * 31) + (((fX6_ofBasket g (nI k) 0).2).toInt64)) * 31) + (((fX6_ofBasket g (nI k) 1).2).toInt64)) * 31) + (((fX6_ofBasket g (nI k) 2).2).toInt64)) * 31) + (((fX6_ofBasket g (nI k) 3).2).toInt64)) * 31) + (((fX6_ofBasket g (nI k) 4).2).toInt64))), (6, .int 4), (5, .int (nI k)), (0, .ref (ad 0 0)), (1, .long d0)]) hx hb dX6_digestBaskets_38 rfl hl (by decide) rfl (fun ls hl => ?_)
      refine lv_iinc (v := 5) (lv' := [(6, .int 5), (3, .long ((((((((((d * 31) + (((fX6_ofBasket g (nI k) 0).2).toInt64)) * 31) + (((fX6_ofBasket g (nI k) 1).2).toInt64)) * 31) + (((fX6_ofBasket g (nI k) 2).2).toInt64)) * 31) + (((fX6_ofBasket g (nI k) 3).2).toInt64)) * 31) + (((fX6_ofBasket g (nI k) 4).2).toInt64))), (5, .int (nI k)), (0, .ref (ad 0 0)), (1, .long d0)]) hx hb dX6_digestBaskets_39 hl (k := 1) rfl (by decide) (by decide) rfl (fun ls hl => ?_)
      refine lv_goto (tgt := 17) hx hb dX6_digestBaskets_42 (by decide) ?_
      refine lv_iload hx hb dX6_digestBaskets_17 (lv_at hl 0 rfl) ?_
      refine lv_iconst (v := 5) hx hb dX6_digestBaskets_19 (by decide) ?_
      refine lv_icmp_gt (tgt := 45) hx hb dX6_digestBaskets_20 (by decide) (fun c => absurd c (by decide)) (fun _ => ?_)
      refine lv_lload_n hx hb dX6_digestBaskets_23 rfl (lv_at hl 1 rfl) ?_
      refine lv_ldc2 hx hb hown (hts _ qX6_digestBaskets_w2) dX6_digestBaskets_24 ?_
      refine lv_lmul hx hb dX6_digestBaskets_27 ?_
      refine lv_aload_n hx hb dX6_digestBaskets_28 rfl (lv_at hl 3 rfl) ?_
      refine lv_iload hx hb dX6_digestBaskets_29 (lv_at hl 2 rfl) ?_
      refine lv_iload hx hb dX6_digestBaskets_31 (lv_at hl 0 rfl) ?_
      refine q_callVi (As := [.int (nI k), .int 5]) (κ := 0) (i := 0) rfl rfl ⟨_, rfl⟩ rfl ⟨hx, hb, hml, hown, hts⟩ (kX6_ofBasket_ok l D cy hI g _  (nI k) 5 hv (ofBasket_ok (basketAt_okk c1 (by omega)) (by decide))) (cwV 2 hts gX6_digestBaskets_X6_ofBasket rfl rfl rfl (by decide +kernel) ⟨Nat.le_of_ble_eq_true rfl, Nat.le_of_ble_eq_true rfl⟩) hB hC hS rfl hl.1 (Nat.le_of_ble_eq_true rfl) dX6_digestBaskets_33 ⟨Nat.le_of_ble_eq_true rfl, Nat.le_of_ble_eq_true rfl⟩ (fun H locs hC hS => ?_)
      refine lv_i2l hx hb dX6_digestBaskets_36 rfl ?_
      refine lv_ladd hx hb dX6_digestBaskets_37 ?_
      refine lv_lstore_n (lv' := [(3, .long ((((((((((((d * 31) + (((fX6_ofBasket g (nI k) 0).2).toInt64)) * 31) + (((fX6_ofBasket g (nI k) 1).2).toInt64)) * 31) + (((fX6_ofBasket g (nI k) 2).2).toInt64)) * 31) + (((fX6_ofBasket g (nI k) 3).2).toInt64)) * 31) + (((fX6_ofBasket g (nI k) 4).2).toInt64)) * 31) + (((fX6_ofBasket g (nI k) 5).2).toInt64))), (6, .int 5), (5, .int (nI k)), (0, .ref (ad 0 0)), (1, .long d0)]) hx hb dX6_digestBaskets_38 rfl hl (by decide) rfl (fun ls hl => ?_)
      refine lv_iinc (v := 6) (lv' := [(6, .int 6), (3, .long ((((((((((((d * 31) + (((fX6_ofBasket g (nI k) 0).2).toInt64)) * 31) + (((fX6_ofBasket g (nI k) 1).2).toInt64)) * 31) + (((fX6_ofBasket g (nI k) 2).2).toInt64)) * 31) + (((fX6_ofBasket g (nI k) 3).2).toInt64)) * 31) + (((fX6_ofBasket g (nI k) 4).2).toInt64)) * 31) + (((fX6_ofBasket g (nI k) 5).2).toInt64))), (5, .int (nI k)), (0, .ref (ad 0 0)), (1, .long d0)]) hx hb dX6_digestBaskets_39 hl (k := 1) rfl (by decide) (by decide) rfl (fun ls hl => ?_)
      refine lv_goto (tgt := 17) hx hb dX6_digestBaskets_42 (by decide) ?_
      refine lv_iload hx hb dX6_digestBaskets_17 (lv_at hl 0 rfl) ?_
      refine lv_iconst (v := 5) hx hb dX6_digestBaskets_19 (by decide) ?_
      refine lv_icmp_gt (tgt := 45) hx hb dX6_digestBaskets_20 (by decide) (fun _ => ?_) (fun c => absurd c (by decide))
      refine lv_iinc (v := nI (k + 1)) (lv' := [(5, .int (nI (k + 1))), (6, .int 6), (3, .long ((((((((((((d * 31) + (((fX6_ofBasket g (nI k) 0).2).toInt64)) * 31) + (((fX6_ofBasket g (nI k) 1).2).toInt64)) * 31) + (((fX6_ofBasket g (nI k) 2).2).toInt64)) * 31) + (((fX6_ofBasket g (nI k) 3).2).toInt64)) * 31) + (((fX6_ofBasket g (nI k) 4).2).toInt64)) * 31) + (((fX6_ofBasket g (nI k) 5).2).toInt64))), (0, .ref (ad 0 0)), (1, .long d0)]) hx hb dX6_digestBaskets_45 hl (k := 2) rfl (nI_1 _) (by decide) rfl (fun ls hl => ?_)
      refine lv_goto (tgt := 5) hx hb dX6_digestBaskets_48 (by decide) ?_
      have e9 : fX6_digestBaskets_L5 g d0 (n + 1) k d = fX6_digestBaskets_L5 g d0 n (k + 1) ((((((((((((d * 31) + (((fX6_ofBasket g (nI k) 0).2).toInt64)) * 31) + (((fX6_ofBasket g (nI k) 1).2).toInt64)) * 31) + (((fX6_ofBasket g (nI k) 2).2).toInt64)) * 31) + (((fX6_ofBasket g (nI k) 3).2).toInt64)) * 31) + (((fX6_ofBasket g (nI k) 4).2).toInt64)) * 31) + (((fX6_ofBasket g (nI k) 5).2).toInt64)) := by rw [fX6_digestBaskets_L5, if_neg c1]
      rw [e9] at kk
      exact ih (k + 1) ((((((((((((d * 31) + (((fX6_ofBasket g (nI k) 0).2).toInt64)) * 31) + (((fX6_ofBasket g (nI k) 1).2).toInt64)) * 31) + (((fX6_ofBasket g (nI k) 2).2).toInt64)) * 31) + (((fX6_ofBasket g (nI k) 3).2).toInt64)) * 31) + (((fX6_ofBasket g (nI k) 4).2).toInt64)) * 31) + (((fX6_ofBasket g (nI k) 5).2).toInt64)) (by omega) (by have q9 := lk_lt c1 (by omega); omega) hc1  H locs ls hC hS (lv_sub hl [0, 2, 3, 4] rfl) kk
set_option maxRecDepth 100000 in
set_option maxHeartbeats 4000000 in
theorem kX6_digestBaskets (l : Launch) (D : va_G) (cy : Nat → ClassId) {ad : Nat → Nat → Nat} (hI : cI ad) (g : Gd) (sz : Nat) (d0 : Int64) (hv : IvC g) : Met l yX6_digestBaskets wsX6_digestBaskets ({ frames := 2, cells := 0, slots := 0, locals := 44 } : Room) (va_Pc [.ref (ad 0 0), .long d0] (cPre D cy ad g sz)) (cQl D cy ad (fX6_digestBaskets g d0) g sz) 0 0 (cA ad sz) := by
  refine q_start (cc := cX6_digestBaskets) (maxL := 7) (ret := (some .long)) (own := RX6) (by decide) rfl rfl (Nat.le_of_ble_eq_true rfl) ?_
  intro p e s m below meth c hx hb hr hml hts hown hlocks ⟨hsz, hC, hB⟩ ls hl
  subst hsz
  have hS : va_S (cA ad s.heap.size) s.heap s.heap [] := va_S.rf
  have hA : ∀ κ i : Nat, cV κ i → cA ad s.heap.size (ad κ i) := fun κ i h => Or.inl ⟨κ, i, h, rfl⟩
  have hl : lv_has ls 7 [(0, .ref (ad 0 0)), (1, .long d0)] := hl
  refine lv_lload_n hx hb dX6_digestBaskets_0 rfl (lv_at hl 1 rfl) ?_
  refine lv_lstore_n (lv' := [(3, .long d0), (0, .ref (ad 0 0)), (1, .long d0)]) hx hb dX6_digestBaskets_1 rfl hl (by decide) rfl (fun ls hl => ?_)
  refine lv_iconst (v := 0) hx hb dX6_digestBaskets_2 (by decide) ?_
  refine lv_istore (lv' := [(5, .int 0), (3, .long d0), (0, .ref (ad 0 0)), (1, .long d0)]) hx hb dX6_digestBaskets_3 hl (by decide) rfl (fun ls hl => ?_)
  refine kX6_digestBaskets_L5 l D cy hI g d0  hv  hx hb hr hml hts hown hlocks hB 21 0 d0 (by omega) (by have := (IvC.n8 hv).1; omega) (IvC.n8 hv).2  _ _ ls hC hS (lv_sub hl [0, 1, 2, 3] rfl) (fun H locs ls hC hS hl => ?_)
  refine lv_lload_n hx hb dX6_digestBaskets_51 rfl (lv_at hl 0 rfl) ?_
  exact q_retl hx hb hr hB hC hS rfl rfl hlocks dX6_digestBaskets_52
def fX6_digestTanks (g : Gd) (d0 : Int64) : Int64 := (((((((((((((((((((((((((((((((((((d0 * 31) + (((fX6_ofTank g 0 0).2).toInt64)) * 31) + (((fX6_ofTank g 0 1).2).toInt64)) * 31) + (((fX6_ofTank g 0 2).2).toInt64)) * 31) + (((fX6_ofTank g 0 3).2).toInt64)) * 31) + (((fX6_ofTank g 0 4).2).toInt64)) * 31) + (((fX6_readyIn g 0 20).2).toInt64)) * 31) + (((fX6_ofTank g 1 0).2).toInt64)) * 31) + (((fX6_ofTank g 1 1).2).toInt64)) * 31) + (((fX6_ofTank g 1 2).2).toInt64)) * 31) + (((fX6_ofTank g 1 3).2).toInt64)) * 31) + (((fX6_ofTank g 1 4).2).toInt64)) * 31) + (((fX6_readyIn g 1 20).2).toInt64)) * 31) + (((fX6_ofTank g 2 0).2).toInt64)) * 31) + (((fX6_ofTank g 2 1).2).toInt64)) * 31) + (((fX6_ofTank g 2 2).2).toInt64)) * 31) + (((fX6_ofTank g 2 3).2).toInt64)) * 31) + (((fX6_ofTank g 2 4).2).toInt64)) * 31) + (((fX6_readyIn g 2 20).2).toInt64)
theorem qX6_digestTanks_w1 : Cond.constantLong RX6 364 (31) ∈ wsX6_digestTanks := List.mem_of_getElem? (i := 1) rfl
set_option maxRecDepth 100000 in
set_option maxHeartbeats 4000000 in
theorem kX6_digestTanks (l : Launch) (D : va_G) (cy : Nat → ClassId) {ad : Nat → Nat → Nat} (hI : cI ad) (g : Gd) (sz : Nat) (d0 : Int64) (hv : IvC g) : Met l yX6_digestTanks wsX6_digestTanks ({ frames := 2, cells := 0, slots := 0, locals := 45 } : Room) (va_Pc [.ref (ad 0 0), .long d0] (cPre D cy ad g sz)) (cQl D cy ad (fX6_digestTanks g d0) g sz) 0 0 (cA ad sz) := by
  refine q_start (cc := cX6_digestTanks) (maxL := 7) (ret := (some .long)) (own := RX6) (by decide) rfl rfl (Nat.le_of_ble_eq_true rfl) ?_
  intro p e s m below meth c hx hb hr hml hts hown hlocks ⟨hsz, hC, hB⟩ ls hl
  subst hsz
  have hS : va_S (cA ad s.heap.size) s.heap s.heap [] := va_S.rf
  have hA : ∀ κ i : Nat, cV κ i → cA ad s.heap.size (ad κ i) := fun κ i h => Or.inl ⟨κ, i, h, rfl⟩
  have hl : lv_has ls 7 [(0, .ref (ad 0 0)), (1, .long d0)] := hl
  refine lv_lload_n hx hb dX6_digestTanks_0 rfl (lv_at hl 1 rfl) ?_
  refine lv_lstore_n (lv' := [(3, .long d0), (0, .ref (ad 0 0)), (1, .long d0)]) hx hb dX6_digestTanks_1 rfl hl (by decide) rfl (fun ls hl => ?_)
  refine lv_iconst (v := 0) hx hb dX6_digestTanks_2 (by decide) ?_
  refine lv_istore (lv' := [(5, .int 0), (3, .long d0), (0, .ref (ad 0 0)), (1, .long d0)]) hx hb dX6_digestTanks_3 hl (by decide) rfl (fun ls hl => ?_)
  refine lv_iload hx hb dX6_digestTanks_5 (lv_at hl 0 rfl) ?_
  refine lv_iconst (v := 3) hx hb dX6_digestTanks_7 (by decide) ?_
  refine lv_icmp_ge (tgt := 64) hx hb dX6_digestTanks_8 (by decide) (fun c => absurd c (by decide)) (fun _ => ?_)
  refine lv_iconst (v := 0) hx hb dX6_digestTanks_11 (by decide) ?_
  refine lv_istore (lv' := [(6, .int 0), (5, .int 0), (3, .long d0), (0, .ref (ad 0 0)), (1, .long d0)]) hx hb dX6_digestTanks_12 hl (by decide) rfl (fun ls hl => ?_)
  refine lv_iload hx hb dX6_digestTanks_14 (lv_at hl 0 rfl) ?_
  refine lv_iconst (v := 4) hx hb dX6_digestTanks_16 (by decide) ?_
  refine lv_icmp_gt (tgt := 42) hx hb dX6_digestTanks_17 (by decide) (fun c => absurd c (by decide)) (fun _ => ?_)
  refine lv_lload_n hx hb dX6_digestTanks_20 rfl (lv_at hl 2 rfl) ?_
  refine lv_ldc2 hx hb hown (hts _ qX6_digestTanks_w1) dX6_digestTanks_21 ?_
  refine lv_lmul hx hb dX6_digestTanks_24 ?_
  refine lv_aload_n hx hb dX6_digestTanks_25 rfl (lv_at hl 3 rfl) ?_
  refine lv_iload hx hb dX6_digestTanks_26 (lv_at hl 1 rfl) ?_
  refine lv_iload hx hb dX6_digestTanks_28 (lv_at hl 0 rfl) ?_
  refine q_callVi (As := [.int 0, .int 0]) (κ := 0) (i := 0) rfl rfl ⟨_, rfl⟩ rfl ⟨hx, hb, hml, hown, hts⟩ (kX6_ofTank_ok l D cy hI g _  0 0  (ofTank_ok (tankAt_okk g (by decide)) (by decide))) (cwV 2 hts gX6_digestTanks_X6_ofTank rfl rfl rfl (by decide +kernel) ⟨Nat.le_of_ble_eq_true rfl, Nat.le_of_ble_eq_true rfl⟩) hB hC hS rfl hl.1 (Nat.le_of_ble_eq_true rfl) dX6_digestTanks_30 ⟨Nat.le_of_ble_eq_true rfl, Nat.le_of_ble_eq_true rfl⟩ (fun H locs hC hS => ?_)
  refine lv_i2l hx hb dX6_digestTanks_33 rfl ?_
  refine lv_ladd hx hb dX6_digestTanks_34 ?_
  refine lv_lstore_n (lv' := [(3, .long ((d0 * 31) + (((fX6_ofTank g 0 0).2).toInt64))), (6, .int 0), (5, .int 0), (0, .ref (ad 0 0)), (1, .long d0)]) hx hb dX6_digestTanks_35 rfl hl (by decide) rfl (fun ls hl => ?_)
  refine lv_iinc (v := 1) (lv' := [(6, .int 1), (3, .long ((d0 * 31) + (((fX6_ofTank g 0 0).2).toInt64))), (5, .int 0), (0, .ref (ad 0 0)), (1, .long d0)]) hx hb dX6_digestTanks_36 hl (k := 1) rfl (by decide) (by decide) rfl (fun ls hl => ?_)
  refine lv_goto (tgt := 14) hx hb dX6_digestTanks_39 (by decide) ?_
  refine lv_iload hx hb dX6_digestTanks_14 (lv_at hl 0 rfl) ?_
  refine lv_iconst (v := 4) hx hb dX6_digestTanks_16 (by decide) ?_
  refine lv_icmp_gt (tgt := 42) hx hb dX6_digestTanks_17 (by decide) (fun c => absurd c (by decide)) (fun _ => ?_)
  refine lv_lload_n hx hb dX6_digestTanks_20 rfl (lv_at hl 1 rfl) ?_
  refine lv_ldc2 hx hb hown (hts _ qX6_digestTanks_w1) dX6_digestTanks_21 ?_
  refine lv_lmul hx hb dX6_digestTanks_24 ?_
  refine lv_aload_n hx hb dX6_digestTanks_25 rfl (lv_at hl 3 rfl) ?_
  refine lv_iload hx hb dX6_digestTanks_26 (lv_at hl 2 rfl) ?_
  refine lv_iload hx hb dX6_digestTanks_28 (lv_at hl 0 rfl) ?_
  refine q_callVi (As := [.int 0, .int 1]) (κ := 0) (i := 0) rfl rfl ⟨_, rfl⟩ rfl ⟨hx, hb, hml, hown, hts⟩ (kX6_ofTank_ok l D cy hI g _  0 1  (ofTank_ok (tankAt_okk g (by decide)) (by decide))) (cwV 2 hts gX6_digestTanks_X6_ofTank rfl rfl rfl (by decide +kernel) ⟨Nat.le_of_ble_eq_true rfl, Nat.le_of_ble_eq_true rfl⟩) hB hC hS rfl hl.1 (Nat.le_of_ble_eq_true rfl) dX6_digestTanks_30 ⟨Nat.le_of_ble_eq_true rfl, Nat.le_of_ble_eq_true rfl⟩ (fun H locs hC hS => ?_)
  refine lv_i2l hx hb dX6_digestTanks_33 rfl ?_
  refine lv_ladd hx hb dX6_digestTanks_34 ?_
  refine lv_lstore_n (lv' := [(3, .long ((((d0 * 31) + (((fX6_ofTank g 0 0).2).toInt64)) * 31) + (((fX6_ofTank g 0 1).2).toInt64))), (6, .int 1), (5, .int 0), (0, .ref (ad 0 0)), (1, .long d0)]) hx hb dX6_digestTanks_35 rfl hl (by decide) rfl (fun ls hl => ?_)
  refine lv_iinc (v := 2) (lv' := [(6, .int 2), (3, .long ((((d0 * 31) + (((fX6_ofTank g 0 0).2).toInt64)) * 31) + (((fX6_ofTank g 0 1).2).toInt64))), (5, .int 0), (0, .ref (ad 0 0)), (1, .long d0)]) hx hb dX6_digestTanks_36 hl (k := 1) rfl (by decide) (by decide) rfl (fun ls hl => ?_)
  refine lv_goto (tgt := 14) hx hb dX6_digestTanks_39 (by decide) ?_
  refine lv_iload hx hb dX6_digestTanks_14 (lv_at hl 0 rfl) ?_
  refine lv_iconst (v := 4) hx hb dX6_digestTanks_16 (by decide) ?_
  refine lv_icmp_gt (tgt := 42) hx hb dX6_digestTanks_17 (by decide) (fun c => absurd c (by decide)) (fun _ => ?_)
  refine lv_lload_n hx hb dX6_digestTanks_20 rfl (lv_at hl 1 rfl) ?_
  refine lv_ldc2 hx hb hown (hts _ qX6_digestTanks_w1) dX6_digestTanks_21 ?_
  refine lv_lmul hx hb dX6_digestTanks_24 ?_
  refine lv_aload_n hx hb dX6_digestTanks_25 rfl (lv_at hl 3 rfl) ?_
  refine lv_iload hx hb dX6_digestTanks_26 (lv_at hl 2 rfl) ?_
  refine lv_iload hx hb dX6_digestTanks_28 (lv_at hl 0 rfl) ?_
  refine q_callVi (As := [.int 0, .int 2]) (κ := 0) (i := 0) rfl rfl ⟨_, rfl⟩ rfl ⟨hx, hb, hml, hown, hts⟩ (kX6_ofTank_ok l D cy hI g _  0 2  (ofTank_ok (tankAt_okk g (by decide)) (by decide))) (cwV 2 hts gX6_digestTanks_X6_ofTank rfl rfl rfl (by decide +kernel) ⟨Nat.le_of_ble_eq_true rfl, Nat.le_of_ble_eq_true rfl⟩) hB hC hS rfl hl.1 (Nat.le_of_ble_eq_true rfl) dX6_digestTanks_30 ⟨Nat.le_of_ble_eq_true rfl, Nat.le_of_ble_eq_true rfl⟩ (fun H locs hC hS => ?_)
  refine lv_i2l hx hb dX6_digestTanks_33 rfl ?_
  refine lv_ladd hx hb dX6_digestTanks_34 ?_
  refine lv_lstore_n (lv' := [(3, .long ((((((d0 * 31) + (((fX6_ofTank g 0 0).2).toInt64)) * 31) + (((fX6_ofTank g 0 1).2).toInt64)) * 31) + (((fX6_ofTank g 0 2).2).toInt64))), (6, .int 2), (5, .int 0), (0, .ref (ad 0 0)), (1, .long d0)]) hx hb dX6_digestTanks_35 rfl hl (by decide) rfl (fun ls hl => ?_)
  refine lv_iinc (v := 3) (lv' := [(6, .int 3), (3, .long ((((((d0 * 31) + (((fX6_ofTank g 0 0).2).toInt64)) * 31) + (((fX6_ofTank g 0 1).2).toInt64)) * 31) + (((fX6_ofTank g 0 2).2).toInt64))), (5, .int 0), (0, .ref (ad 0 0)), (1, .long d0)]) hx hb dX6_digestTanks_36 hl (k := 1) rfl (by decide) (by decide) rfl (fun ls hl => ?_)
  refine lv_goto (tgt := 14) hx hb dX6_digestTanks_39 (by decide) ?_
  refine lv_iload hx hb dX6_digestTanks_14 (lv_at hl 0 rfl) ?_
  refine lv_iconst (v := 4) hx hb dX6_digestTanks_16 (by decide) ?_
  refine lv_icmp_gt (tgt := 42) hx hb dX6_digestTanks_17 (by decide) (fun c => absurd c (by decide)) (fun _ => ?_)
  refine lv_lload_n hx hb dX6_digestTanks_20 rfl (lv_at hl 1 rfl) ?_
  refine lv_ldc2 hx hb hown (hts _ qX6_digestTanks_w1) dX6_digestTanks_21 ?_
  refine lv_lmul hx hb dX6_digestTanks_24 ?_
  refine lv_aload_n hx hb dX6_digestTanks_25 rfl (lv_at hl 3 rfl) ?_
  refine lv_iload hx hb dX6_digestTanks_26 (lv_at hl 2 rfl) ?_
  refine lv_iload hx hb dX6_digestTanks_28 (lv_at hl 0 rfl) ?_
  refine q_callVi (As := [.int 0, .int 3]) (κ := 0) (i := 0) rfl rfl ⟨_, rfl⟩ rfl ⟨hx, hb, hml, hown, hts⟩ (kX6_ofTank_ok l D cy hI g _  0 3  (ofTank_ok (tankAt_okk g (by decide)) (by decide))) (cwV 2 hts gX6_digestTanks_X6_ofTank rfl rfl rfl (by decide +kernel) ⟨Nat.le_of_ble_eq_true rfl, Nat.le_of_ble_eq_true rfl⟩) hB hC hS rfl hl.1 (Nat.le_of_ble_eq_true rfl) dX6_digestTanks_30 ⟨Nat.le_of_ble_eq_true rfl, Nat.le_of_ble_eq_true rfl⟩ (fun H locs hC hS => ?_)
  refine lv_i2l hx hb dX6_digestTanks_33 rfl ?_
  refine lv_ladd hx hb dX6_digestTanks_34 ?_
  refine lv_lstore_n (lv' := [(3, .long ((((((((d0 * 31) + (((fX6_ofTank g 0 0).2).toInt64)) * 31) + (((fX6_ofTank g 0 1).2).toInt64)) * 31) + (((fX6_ofTank g 0 2).2).toInt64)) * 31) + (((fX6_ofTank g 0 3).2).toInt64))), (6, .int 3), (5, .int 0), (0, .ref (ad 0 0)), (1, .long d0)]) hx hb dX6_digestTanks_35 rfl hl (by decide) rfl (fun ls hl => ?_)
  refine lv_iinc (v := 4) (lv' := [(6, .int 4), (3, .long ((((((((d0 * 31) + (((fX6_ofTank g 0 0).2).toInt64)) * 31) + (((fX6_ofTank g 0 1).2).toInt64)) * 31) + (((fX6_ofTank g 0 2).2).toInt64)) * 31) + (((fX6_ofTank g 0 3).2).toInt64))), (5, .int 0), (0, .ref (ad 0 0)), (1, .long d0)]) hx hb dX6_digestTanks_36 hl (k := 1) rfl (by decide) (by decide) rfl (fun ls hl => ?_)
  refine lv_goto (tgt := 14) hx hb dX6_digestTanks_39 (by decide) ?_
  refine lv_iload hx hb dX6_digestTanks_14 (lv_at hl 0 rfl) ?_
  refine lv_iconst (v := 4) hx hb dX6_digestTanks_16 (by decide) ?_
  refine lv_icmp_gt (tgt := 42) hx hb dX6_digestTanks_17 (by decide) (fun c => absurd c (by decide)) (fun _ => ?_)
  refine lv_lload_n hx hb dX6_digestTanks_20 rfl (lv_at hl 1 rfl) ?_
  refine lv_ldc2 hx hb hown (hts _ qX6_digestTanks_w1) dX6_digestTanks_21 ?_
  refine lv_lmul hx hb dX6_digestTanks_24 ?_
  refine lv_aload_n hx hb dX6_digestTanks_25 rfl (lv_at hl 3 rfl) ?_
  refine lv_iload hx hb dX6_digestTanks_26 (lv_at hl 2 rfl) ?_
  refine lv_iload hx hb dX6_digestTanks_28 (lv_at hl 0 rfl) ?_
  refine q_callVi (As := [.int 0, .int 4]) (κ := 0) (i := 0) rfl rfl ⟨_, rfl⟩ rfl ⟨hx, hb, hml, hown, hts⟩ (kX6_ofTank_ok l D cy hI g _  0 4  (ofTank_ok (tankAt_okk g (by decide)) (by decide))) (cwV 2 hts gX6_digestTanks_X6_ofTank rfl rfl rfl (by decide +kernel) ⟨Nat.le_of_ble_eq_true rfl, Nat.le_of_ble_eq_true rfl⟩) hB hC hS rfl hl.1 (Nat.le_of_ble_eq_true rfl) dX6_digestTanks_30 ⟨Nat.le_of_ble_eq_true rfl, Nat.le_of_ble_eq_true rfl⟩ (fun H locs hC hS => ?_)
  refine lv_i2l hx hb dX6_digestTanks_33 rfl ?_
  refine lv_ladd hx hb dX6_digestTanks_34 ?_
  refine lv_lstore_n (lv' := [(3, .long ((((((((((d0 * 31) + (((fX6_ofTank g 0 0).2).toInt64)) * 31) + (((fX6_ofTank g 0 1).2).toInt64)) * 31) + (((fX6_ofTank g 0 2).2).toInt64)) * 31) + (((fX6_ofTank g 0 3).2).toInt64)) * 31) + (((fX6_ofTank g 0 4).2).toInt64))), (6, .int 4), (5, .int 0), (0, .ref (ad 0 0)), (1, .long d0)]) hx hb dX6_digestTanks_35 rfl hl (by decide) rfl (fun ls hl => ?_)
  refine lv_iinc (v := 5) (lv' := [(6, .int 5), (3, .long ((((((((((d0 * 31) + (((fX6_ofTank g 0 0).2).toInt64)) * 31) + (((fX6_ofTank g 0 1).2).toInt64)) * 31) + (((fX6_ofTank g 0 2).2).toInt64)) * 31) + (((fX6_ofTank g 0 3).2).toInt64)) * 31) + (((fX6_ofTank g 0 4).2).toInt64))), (5, .int 0), (0, .ref (ad 0 0)), (1, .long d0)]) hx hb dX6_digestTanks_36 hl (k := 1) rfl (by decide) (by decide) rfl (fun ls hl => ?_)
  refine lv_goto (tgt := 14) hx hb dX6_digestTanks_39 (by decide) ?_
  refine lv_iload hx hb dX6_digestTanks_14 (lv_at hl 0 rfl) ?_
  refine lv_iconst (v := 4) hx hb dX6_digestTanks_16 (by decide) ?_
  refine lv_icmp_gt (tgt := 42) hx hb dX6_digestTanks_17 (by decide) (fun _ => ?_) (fun c => absurd c (by decide))
  refine lv_lload_n hx hb dX6_digestTanks_42 rfl (lv_at hl 1 rfl) ?_
  refine lv_ldc2 hx hb hown (hts _ qX6_digestTanks_w1) dX6_digestTanks_43 ?_
  refine lv_lmul hx hb dX6_digestTanks_46 ?_
  refine lv_aload_n hx hb dX6_digestTanks_47 rfl (lv_at hl 3 rfl) ?_
  refine lv_iload hx hb dX6_digestTanks_48 (lv_at hl 2 rfl) ?_
  refine lv_bipush (v := 20) hx hb dX6_digestTanks_50 (by decide) ?_
  refine q_callVi (As := [.int 0, .int 20]) (κ := 0) (i := 0) rfl rfl ⟨_, rfl⟩ rfl ⟨hx, hb, hml, hown, hts⟩ (kX6_readyIn_ok l D cy hI g _  0 20  (readyIn_ok (tankAt_okk g (by decide)) (by unfold fX6_needWarmth; decide))) (cwV 2 hts gX6_digestTanks_X6_readyIn rfl rfl rfl (by decide +kernel) ⟨Nat.le_of_ble_eq_true rfl, Nat.le_of_ble_eq_true rfl⟩) hB hC hS rfl hl.1 (Nat.le_of_ble_eq_true rfl) dX6_digestTanks_52 ⟨Nat.le_of_ble_eq_true rfl, Nat.le_of_ble_eq_true rfl⟩ (fun H locs hC hS => ?_)
  refine lv_i2l hx hb dX6_digestTanks_55 rfl ?_
  refine lv_ladd hx hb dX6_digestTanks_56 ?_
  refine lv_lstore_n (lv' := [(3, .long ((((((((((((d0 * 31) + (((fX6_ofTank g 0 0).2).toInt64)) * 31) + (((fX6_ofTank g 0 1).2).toInt64)) * 31) + (((fX6_ofTank g 0 2).2).toInt64)) * 31) + (((fX6_ofTank g 0 3).2).toInt64)) * 31) + (((fX6_ofTank g 0 4).2).toInt64)) * 31) + (((fX6_readyIn g 0 20).2).toInt64))), (6, .int 5), (5, .int 0), (0, .ref (ad 0 0)), (1, .long d0)]) hx hb dX6_digestTanks_57 rfl hl (by decide) rfl (fun ls hl => ?_)
  refine lv_iinc (v := 1) (lv' := [(5, .int 1), (3, .long ((((((((((((d0 * 31) + (((fX6_ofTank g 0 0).2).toInt64)) * 31) + (((fX6_ofTank g 0 1).2).toInt64)) * 31) + (((fX6_ofTank g 0 2).2).toInt64)) * 31) + (((fX6_ofTank g 0 3).2).toInt64)) * 31) + (((fX6_ofTank g 0 4).2).toInt64)) * 31) + (((fX6_readyIn g 0 20).2).toInt64))), (6, .int 5), (0, .ref (ad 0 0)), (1, .long d0)]) hx hb dX6_digestTanks_58 hl (k := 2) rfl (by decide) (by decide) rfl (fun ls hl => ?_)
  refine lv_goto (tgt := 5) hx hb dX6_digestTanks_61 (by decide) ?_
  refine lv_iload hx hb dX6_digestTanks_5 (lv_at hl 0 rfl) ?_
  refine lv_iconst (v := 3) hx hb dX6_digestTanks_7 (by decide) ?_
  refine lv_icmp_ge (tgt := 64) hx hb dX6_digestTanks_8 (by decide) (fun c => absurd c (by decide)) (fun _ => ?_)
  refine lv_iconst (v := 0) hx hb dX6_digestTanks_11 (by decide) ?_
  refine lv_istore (lv' := [(6, .int 0), (5, .int 1), (3, .long ((((((((((((d0 * 31) + (((fX6_ofTank g 0 0).2).toInt64)) * 31) + (((fX6_ofTank g 0 1).2).toInt64)) * 31) + (((fX6_ofTank g 0 2).2).toInt64)) * 31) + (((fX6_ofTank g 0 3).2).toInt64)) * 31) + (((fX6_ofTank g 0 4).2).toInt64)) * 31) + (((fX6_readyIn g 0 20).2).toInt64))), (0, .ref (ad 0 0)), (1, .long d0)]) hx hb dX6_digestTanks_12 hl (by decide) rfl (fun ls hl => ?_)
  refine lv_iload hx hb dX6_digestTanks_14 (lv_at hl 0 rfl) ?_
  refine lv_iconst (v := 4) hx hb dX6_digestTanks_16 (by decide) ?_
  refine lv_icmp_gt (tgt := 42) hx hb dX6_digestTanks_17 (by decide) (fun c => absurd c (by decide)) (fun _ => ?_)
  refine lv_lload_n hx hb dX6_digestTanks_20 rfl (lv_at hl 2 rfl) ?_
  refine lv_ldc2 hx hb hown (hts _ qX6_digestTanks_w1) dX6_digestTanks_21 ?_
  refine lv_lmul hx hb dX6_digestTanks_24 ?_
  refine lv_aload_n hx hb dX6_digestTanks_25 rfl (lv_at hl 3 rfl) ?_
  refine lv_iload hx hb dX6_digestTanks_26 (lv_at hl 1 rfl) ?_
  refine lv_iload hx hb dX6_digestTanks_28 (lv_at hl 0 rfl) ?_
  refine q_callVi (As := [.int 1, .int 0]) (κ := 0) (i := 0) rfl rfl ⟨_, rfl⟩ rfl ⟨hx, hb, hml, hown, hts⟩ (kX6_ofTank_ok l D cy hI g _  1 0  (ofTank_ok (tankAt_okk g (by decide)) (by decide))) (cwV 2 hts gX6_digestTanks_X6_ofTank rfl rfl rfl (by decide +kernel) ⟨Nat.le_of_ble_eq_true rfl, Nat.le_of_ble_eq_true rfl⟩) hB hC hS rfl hl.1 (Nat.le_of_ble_eq_true rfl) dX6_digestTanks_30 ⟨Nat.le_of_ble_eq_true rfl, Nat.le_of_ble_eq_true rfl⟩ (fun H locs hC hS => ?_)
  refine lv_i2l hx hb dX6_digestTanks_33 rfl ?_
  refine lv_ladd hx hb dX6_digestTanks_34 ?_
  refine lv_lstore_n (lv' := [(3, .long ((((((((((((((d0 * 31) + (((fX6_ofTank g 0 0).2).toInt64)) * 31) + (((fX6_ofTank g 0 1).2).toInt64)) * 31) + (((fX6_ofTank g 0 2).2).toInt64)) * 31) + (((fX6_ofTank g 0 3).2).toInt64)) * 31) + (((fX6_ofTank g 0 4).2).toInt64)) * 31) + (((fX6_readyIn g 0 20).2).toInt64)) * 31) + (((fX6_ofTank g 1 0).2).toInt64))), (6, .int 0), (5, .int 1), (0, .ref (ad 0 0)), (1, .long d0)]) hx hb dX6_digestTanks_35 rfl hl (by decide) rfl (fun ls hl => ?_)
  refine lv_iinc (v := 1) (lv' := [(6, .int 1), (3, .long ((((((((((((((d0 * 31) + (((fX6_ofTank g 0 0).2).toInt64)) * 31) + (((fX6_ofTank g 0 1).2).toInt64)) * 31) + (((fX6_ofTank g 0 2).2).toInt64)) * 31) + (((fX6_ofTank g 0 3).2).toInt64)) * 31) + (((fX6_ofTank g 0 4).2).toInt64)) * 31) + (((fX6_readyIn g 0 20).2).toInt64)) * 31) + (((fX6_ofTank g 1 0).2).toInt64))), (5, .int 1), (0, .ref (ad 0 0)), (1, .long d0)]) hx hb dX6_digestTanks_36 hl (k := 1) rfl (by decide) (by decide) rfl (fun ls hl => ?_)
  refine lv_goto (tgt := 14) hx hb dX6_digestTanks_39 (by decide) ?_
  refine lv_iload hx hb dX6_digestTanks_14 (lv_at hl 0 rfl) ?_
  refine lv_iconst (v := 4) hx hb dX6_digestTanks_16 (by decide) ?_
  refine lv_icmp_gt (tgt := 42) hx hb dX6_digestTanks_17 (by decide) (fun c => absurd c (by decide)) (fun _ => ?_)
  refine lv_lload_n hx hb dX6_digestTanks_20 rfl (lv_at hl 1 rfl) ?_
  refine lv_ldc2 hx hb hown (hts _ qX6_digestTanks_w1) dX6_digestTanks_21 ?_
  refine lv_lmul hx hb dX6_digestTanks_24 ?_
  refine lv_aload_n hx hb dX6_digestTanks_25 rfl (lv_at hl 3 rfl) ?_
  refine lv_iload hx hb dX6_digestTanks_26 (lv_at hl 2 rfl) ?_
  refine lv_iload hx hb dX6_digestTanks_28 (lv_at hl 0 rfl) ?_
  refine q_callVi (As := [.int 1, .int 1]) (κ := 0) (i := 0) rfl rfl ⟨_, rfl⟩ rfl ⟨hx, hb, hml, hown, hts⟩ (kX6_ofTank_ok l D cy hI g _  1 1  (ofTank_ok (tankAt_okk g (by decide)) (by decide))) (cwV 2 hts gX6_digestTanks_X6_ofTank rfl rfl rfl (by decide +kernel) ⟨Nat.le_of_ble_eq_true rfl, Nat.le_of_ble_eq_true rfl⟩) hB hC hS rfl hl.1 (Nat.le_of_ble_eq_true rfl) dX6_digestTanks_30 ⟨Nat.le_of_ble_eq_true rfl, Nat.le_of_ble_eq_true rfl⟩ (fun H locs hC hS => ?_)
  refine lv_i2l hx hb dX6_digestTanks_33 rfl ?_
  refine lv_ladd hx hb dX6_digestTanks_34 ?_
  refine lv_lstore_n (lv' := [(3, .long ((((((((((((((((d0 * 31) + (((fX6_ofTank g 0 0).2).toInt64)) * 31) + (((fX6_ofTank g 0 1).2).toInt64)) * 31) + (((fX6_ofTank g 0 2).2).toInt64)) * 31) + (((fX6_ofTank g 0 3).2).toInt64)) * 31) + (((fX6_ofTank g 0 4).2).toInt64)) * 31) + (((fX6_readyIn g 0 20).2).toInt64)) * 31) + (((fX6_ofTank g 1 0).2).toInt64)) * 31) + (((fX6_ofTank g 1 1).2).toInt64))), (6, .int 1), (5, .int 1), (0, .ref (ad 0 0)), (1, .long d0)]) hx hb dX6_digestTanks_35 rfl hl (by decide) rfl (fun ls hl => ?_)
  refine lv_iinc (v := 2) (lv' := [(6, .int 2), (3, .long ((((((((((((((((d0 * 31) + (((fX6_ofTank g 0 0).2).toInt64)) * 31) + (((fX6_ofTank g 0 1).2).toInt64)) * 31) + (((fX6_ofTank g 0 2).2).toInt64)) * 31) + (((fX6_ofTank g 0 3).2).toInt64)) * 31) + (((fX6_ofTank g 0 4).2).toInt64)) * 31) + (((fX6_readyIn g 0 20).2).toInt64)) * 31) + (((fX6_ofTank g 1 0).2).toInt64)) * 31) + (((fX6_ofTank g 1 1).2).toInt64))), (5, .int 1), (0, .ref (ad 0 0)), (1, .long d0)]) hx hb dX6_digestTanks_36 hl (k := 1) rfl (by decide) (by decide) rfl (fun ls hl => ?_)
  refine lv_goto (tgt := 14) hx hb dX6_digestTanks_39 (by decide) ?_
  refine lv_iload hx hb dX6_digestTanks_14 (lv_at hl 0 rfl) ?_
  refine lv_iconst (v := 4) hx hb dX6_digestTanks_16 (by decide) ?_
  refine lv_icmp_gt (tgt := 42) hx hb dX6_digestTanks_17 (by decide) (fun c => absurd c (by decide)) (fun _ => ?_)
  refine lv_lload_n hx hb dX6_digestTanks_20 rfl (lv_at hl 1 rfl) ?_
  refine lv_ldc2 hx hb hown (hts _ qX6_digestTanks_w1) dX6_digestTanks_21 ?_
  refine lv_lmul hx hb dX6_digestTanks_24 ?_
  refine lv_aload_n hx hb dX6_digestTanks_25 rfl (lv_at hl 3 rfl) ?_
  refine lv_iload hx hb dX6_digestTanks_26 (lv_at hl 2 rfl) ?_
  refine lv_iload hx hb dX6_digestTanks_28 (lv_at hl 0 rfl) ?_
  refine q_callVi (As := [.int 1, .int 2]) (κ := 0) (i := 0) rfl rfl ⟨_, rfl⟩ rfl ⟨hx, hb, hml, hown, hts⟩ (kX6_ofTank_ok l D cy hI g _  1 2  (ofTank_ok (tankAt_okk g (by decide)) (by decide))) (cwV 2 hts gX6_digestTanks_X6_ofTank rfl rfl rfl (by decide +kernel) ⟨Nat.le_of_ble_eq_true rfl, Nat.le_of_ble_eq_true rfl⟩) hB hC hS rfl hl.1 (Nat.le_of_ble_eq_true rfl) dX6_digestTanks_30 ⟨Nat.le_of_ble_eq_true rfl, Nat.le_of_ble_eq_true rfl⟩ (fun H locs hC hS => ?_)
  refine lv_i2l hx hb dX6_digestTanks_33 rfl ?_
  refine lv_ladd hx hb dX6_digestTanks_34 ?_
  refine lv_lstore_n (lv' := [(3, .long ((((((((((((((((((d0 * 31) + (((fX6_ofTank g 0 0).2).toInt64)) * 31) + (((fX6_ofTank g 0 1).2).toInt64)) * 31) + (((fX6_ofTank g 0 2).2).toInt64)) * 31) + (((fX6_ofTank g 0 3).2).toInt64)) * 31) + (((fX6_ofTank g 0 4).2).toInt64)) * 31) + (((fX6_readyIn g 0 20).2).toInt64)) * 31) + (((fX6_ofTank g 1 0).2).toInt64)) * 31) + (((fX6_ofTank g 1 1).2).toInt64)) * 31) + (((fX6_ofTank g 1 2).2).toInt64))), (6, .int 2), (5, .int 1), (0, .ref (ad 0 0)), (1, .long d0)]) hx hb dX6_digestTanks_35 rfl hl (by decide) rfl (fun ls hl => ?_)
  refine lv_iinc (v := 3) (lv' := [(6, .int 3), (3, .long ((((((((((((((((((d0 * 31) + (((fX6_ofTank g 0 0).2).toInt64)) * 31) + (((fX6_ofTank g 0 1).2).toInt64)) * 31) + (((fX6_ofTank g 0 2).2).toInt64)) * 31) + (((fX6_ofTank g 0 3).2).toInt64)) * 31) + (((fX6_ofTank g 0 4).2).toInt64)) * 31) + (((fX6_readyIn g 0 20).2).toInt64)) * 31) + (((fX6_ofTank g 1 0).2).toInt64)) * 31) + (((fX6_ofTank g 1 1).2).toInt64)) * 31) + (((fX6_ofTank g 1 2).2).toInt64))), (5, .int 1), (0, .ref (ad 0 0)), (1, .long d0)]) hx hb dX6_digestTanks_36 hl (k := 1) rfl (by decide) (by decide) rfl (fun ls hl => ?_)
  refine lv_goto (tgt := 14) hx hb dX6_digestTanks_39 (by decide) ?_
  refine lv_iload hx hb dX6_digestTanks_14 (lv_at hl 0 rfl) ?_
  refine lv_iconst (v := 4) hx hb dX6_digestTanks_16 (by decide) ?_
  refine lv_icmp_gt (tgt := 42) hx hb dX6_digestTanks_17 (by decide) (fun c => absurd c (by decide)) (fun _ => ?_)
  refine lv_lload_n hx hb dX6_digestTanks_20 rfl (lv_at hl 1 rfl) ?_
  refine lv_ldc2 hx hb hown (hts _ qX6_digestTanks_w1) dX6_digestTanks_21 ?_
  refine lv_lmul hx hb dX6_digestTanks_24 ?_
  refine lv_aload_n hx hb dX6_digestTanks_25 rfl (lv_at hl 3 rfl) ?_
  refine lv_iload hx hb dX6_digestTanks_26 (lv_at hl 2 rfl) ?_
  refine lv_iload hx hb dX6_digestTanks_28 (lv_at hl 0 rfl) ?_
  refine q_callVi (As := [.int 1, .int 3]) (κ := 0) (i := 0) rfl rfl ⟨_, rfl⟩ rfl ⟨hx, hb, hml, hown, hts⟩ (kX6_ofTank_ok l D cy hI g _  1 3  (ofTank_ok (tankAt_okk g (by decide)) (by decide))) (cwV 2 hts gX6_digestTanks_X6_ofTank rfl rfl rfl (by decide +kernel) ⟨Nat.le_of_ble_eq_true rfl, Nat.le_of_ble_eq_true rfl⟩) hB hC hS rfl hl.1 (Nat.le_of_ble_eq_true rfl) dX6_digestTanks_30 ⟨Nat.le_of_ble_eq_true rfl, Nat.le_of_ble_eq_true rfl⟩ (fun H locs hC hS => ?_)
  refine lv_i2l hx hb dX6_digestTanks_33 rfl ?_
  refine lv_ladd hx hb dX6_digestTanks_34 ?_
  refine lv_lstore_n (lv' := [(3, .long ((((((((((((((((((((d0 * 31) + (((fX6_ofTank g 0 0).2).toInt64)) * 31) + (((fX6_ofTank g 0 1).2).toInt64)) * 31) + (((fX6_ofTank g 0 2).2).toInt64)) * 31) + (((fX6_ofTank g 0 3).2).toInt64)) * 31) + (((fX6_ofTank g 0 4).2).toInt64)) * 31) + (((fX6_readyIn g 0 20).2).toInt64)) * 31) + (((fX6_ofTank g 1 0).2).toInt64)) * 31) + (((fX6_ofTank g 1 1).2).toInt64)) * 31) + (((fX6_ofTank g 1 2).2).toInt64)) * 31) + (((fX6_ofTank g 1 3).2).toInt64))), (6, .int 3), (5, .int 1), (0, .ref (ad 0 0)), (1, .long d0)]) hx hb dX6_digestTanks_35 rfl hl (by decide) rfl (fun ls hl => ?_)
  refine lv_iinc (v := 4) (lv' := [(6, .int 4), (3, .long ((((((((((((((((((((d0 * 31) + (((fX6_ofTank g 0 0).2).toInt64)) * 31) + (((fX6_ofTank g 0 1).2).toInt64)) * 31) + (((fX6_ofTank g 0 2).2).toInt64)) * 31) + (((fX6_ofTank g 0 3).2).toInt64)) * 31) + (((fX6_ofTank g 0 4).2).toInt64)) * 31) + (((fX6_readyIn g 0 20).2).toInt64)) * 31) + (((fX6_ofTank g 1 0).2).toInt64)) * 31) + (((fX6_ofTank g 1 1).2).toInt64)) * 31) + (((fX6_ofTank g 1 2).2).toInt64)) * 31) + (((fX6_ofTank g 1 3).2).toInt64))), (5, .int 1), (0, .ref (ad 0 0)), (1, .long d0)]) hx hb dX6_digestTanks_36 hl (k := 1) rfl (by decide) (by decide) rfl (fun ls hl => ?_)
  refine lv_goto (tgt := 14) hx hb dX6_digestTanks_39 (by decide) ?_
  refine lv_iload hx hb dX6_digestTanks_14 (lv_at hl 0 rfl) ?_
  refine lv_iconst (v := 4) hx hb dX6_digestTanks_16 (by decide) ?_
  refine lv_icmp_gt (tgt := 42) hx hb dX6_digestTanks_17 (by decide) (fun c => absurd c (by decide)) (fun _ => ?_)
  refine lv_lload_n hx hb dX6_digestTanks_20 rfl (lv_at hl 1 rfl) ?_
  refine lv_ldc2 hx hb hown (hts _ qX6_digestTanks_w1) dX6_digestTanks_21 ?_
  refine lv_lmul hx hb dX6_digestTanks_24 ?_
  refine lv_aload_n hx hb dX6_digestTanks_25 rfl (lv_at hl 3 rfl) ?_
  refine lv_iload hx hb dX6_digestTanks_26 (lv_at hl 2 rfl) ?_
  refine lv_iload hx hb dX6_digestTanks_28 (lv_at hl 0 rfl) ?_
  refine q_callVi (As := [.int 1, .int 4]) (κ := 0) (i := 0) rfl rfl ⟨_, rfl⟩ rfl ⟨hx, hb, hml, hown, hts⟩ (kX6_ofTank_ok l D cy hI g _  1 4  (ofTank_ok (tankAt_okk g (by decide)) (by decide))) (cwV 2 hts gX6_digestTanks_X6_ofTank rfl rfl rfl (by decide +kernel) ⟨Nat.le_of_ble_eq_true rfl, Nat.le_of_ble_eq_true rfl⟩) hB hC hS rfl hl.1 (Nat.le_of_ble_eq_true rfl) dX6_digestTanks_30 ⟨Nat.le_of_ble_eq_true rfl, Nat.le_of_ble_eq_true rfl⟩ (fun H locs hC hS => ?_)
  refine lv_i2l hx hb dX6_digestTanks_33 rfl ?_
  refine lv_ladd hx hb dX6_digestTanks_34 ?_
  refine lv_lstore_n (lv' := [(3, .long ((((((((((((((((((((((d0 * 31) + (((fX6_ofTank g 0 0).2).toInt64)) * 31) + (((fX6_ofTank g 0 1).2).toInt64)) * 31) + (((fX6_ofTank g 0 2).2).toInt64)) * 31) + (((fX6_ofTank g 0 3).2).toInt64)) * 31) + (((fX6_ofTank g 0 4).2).toInt64)) * 31) + (((fX6_readyIn g 0 20).2).toInt64)) * 31) + (((fX6_ofTank g 1 0).2).toInt64)) * 31) + (((fX6_ofTank g 1 1).2).toInt64)) * 31) + (((fX6_ofTank g 1 2).2).toInt64)) * 31) + (((fX6_ofTank g 1 3).2).toInt64)) * 31) + (((fX6_ofTank g 1 4).2).toInt64))), (6, .int 4), (5, .int 1), (0, .ref (ad 0 0)), (1, .long d0)]) hx hb dX6_digestTanks_35 rfl hl (by decide) rfl (fun ls hl => ?_)
  refine lv_iinc (v := 5) (lv' := [(6, .int 5), (3, .long ((((((((((((((((((((((d0 * 31) + (((fX6_ofTank g 0 0).2).toInt64)) * 31) + (((fX6_ofTank g 0 1).2).toInt64)) * 31) + (((fX6_ofTank g 0 2).2).toInt64)) * 31) + (((fX6_ofTank g 0 3).2).toInt64)) * 31) + (((fX6_ofTank g 0 4).2).toInt64)) * 31) + (((fX6_readyIn g 0 20).2).toInt64)) * 31) + (((fX6_ofTank g 1 0).2).toInt64)) * 31) + (((fX6_ofTank g 1 1).2).toInt64)) * 31) + (((fX6_ofTank g 1 2).2).toInt64)) * 31) + (((fX6_ofTank g 1 3).2).toInt64)) * 31) + (((fX6_ofTank g 1 4).2).toInt64))), (5, .int 1), (0, .ref (ad 0 0)), (1, .long d0)]) hx hb dX6_digestTanks_36 hl (k := 1) rfl (by decide) (by decide) rfl (fun ls hl => ?_)
  refine lv_goto (tgt := 14) hx hb dX6_digestTanks_39 (by decide) ?_
  refine lv_iload hx hb dX6_digestTanks_14 (lv_at hl 0 rfl) ?_
  refine lv_iconst (v := 4) hx hb dX6_digestTanks_16 (by decide) ?_
  refine lv_icmp_gt (tgt := 42) hx hb dX6_digestTanks_17 (by decide) (fun _ => ?_) (fun c => absurd c (by decide))
  refine lv_lload_n hx hb dX6_digestTanks_42 rfl (lv_at hl 1 rfl) ?_
  refine lv_ldc2 hx hb hown (hts _ qX6_digestTanks_w1) dX6_digestTanks_43 ?_
  refine lv_lmul hx hb dX6_digestTanks_46 ?_
  refine lv_aload_n hx hb dX6_digestTanks_47 rfl (lv_at hl 3 rfl) ?_
  refine lv_iload hx hb dX6_digestTanks_48 (lv_at hl 2 rfl) ?_
  refine lv_bipush (v := 20) hx hb dX6_digestTanks_50 (by decide) ?_
  refine q_callVi (As := [.int 1, .int 20]) (κ := 0) (i := 0) rfl rfl ⟨_, rfl⟩ rfl ⟨hx, hb, hml, hown, hts⟩ (kX6_readyIn_ok l D cy hI g _  1 20  (readyIn_ok (tankAt_okk g (by decide)) (by unfold fX6_needWarmth; decide))) (cwV 2 hts gX6_digestTanks_X6_readyIn rfl rfl rfl (by decide +kernel) ⟨Nat.le_of_ble_eq_true rfl, Nat.le_of_ble_eq_true rfl⟩) hB hC hS rfl hl.1 (Nat.le_of_ble_eq_true rfl) dX6_digestTanks_52 ⟨Nat.le_of_ble_eq_true rfl, Nat.le_of_ble_eq_true rfl⟩ (fun H locs hC hS => ?_)
  refine lv_i2l hx hb dX6_digestTanks_55 rfl ?_
  refine lv_ladd hx hb dX6_digestTanks_56 ?_
  refine lv_lstore_n (lv' := [(3, .long ((((((((((((((((((((((((d0 * 31) + (((fX6_ofTank g 0 0).2).toInt64)) * 31) + (((fX6_ofTank g 0 1).2).toInt64)) * 31) + (((fX6_ofTank g 0 2).2).toInt64)) * 31) + (((fX6_ofTank g 0 3).2).toInt64)) * 31) + (((fX6_ofTank g 0 4).2).toInt64)) * 31) + (((fX6_readyIn g 0 20).2).toInt64)) * 31) + (((fX6_ofTank g 1 0).2).toInt64)) * 31) + (((fX6_ofTank g 1 1).2).toInt64)) * 31) + (((fX6_ofTank g 1 2).2).toInt64)) * 31) + (((fX6_ofTank g 1 3).2).toInt64)) * 31) + (((fX6_ofTank g 1 4).2).toInt64)) * 31) + (((fX6_readyIn g 1 20).2).toInt64))), (6, .int 5), (5, .int 1), (0, .ref (ad 0 0)), (1, .long d0)]) hx hb dX6_digestTanks_57 rfl hl (by decide) rfl (fun ls hl => ?_)
  refine lv_iinc (v := 2) (lv' := [(5, .int 2), (3, .long ((((((((((((((((((((((((d0 * 31) + (((fX6_ofTank g 0 0).2).toInt64)) * 31) + (((fX6_ofTank g 0 1).2).toInt64)) * 31) + (((fX6_ofTank g 0 2).2).toInt64)) * 31) + (((fX6_ofTank g 0 3).2).toInt64)) * 31) + (((fX6_ofTank g 0 4).2).toInt64)) * 31) + (((fX6_readyIn g 0 20).2).toInt64)) * 31) + (((fX6_ofTank g 1 0).2).toInt64)) * 31) + (((fX6_ofTank g 1 1).2).toInt64)) * 31) + (((fX6_ofTank g 1 2).2).toInt64)) * 31) + (((fX6_ofTank g 1 3).2).toInt64)) * 31) + (((fX6_ofTank g 1 4).2).toInt64)) * 31) + (((fX6_readyIn g 1 20).2).toInt64))), (6, .int 5), (0, .ref (ad 0 0)), (1, .long d0)]) hx hb dX6_digestTanks_58 hl (k := 2) rfl (by decide) (by decide) rfl (fun ls hl => ?_)
  refine lv_goto (tgt := 5) hx hb dX6_digestTanks_61 (by decide) ?_
  refine lv_iload hx hb dX6_digestTanks_5 (lv_at hl 0 rfl) ?_
  refine lv_iconst (v := 3) hx hb dX6_digestTanks_7 (by decide) ?_
  refine lv_icmp_ge (tgt := 64) hx hb dX6_digestTanks_8 (by decide) (fun c => absurd c (by decide)) (fun _ => ?_)
  refine lv_iconst (v := 0) hx hb dX6_digestTanks_11 (by decide) ?_
  refine lv_istore (lv' := [(6, .int 0), (5, .int 2), (3, .long ((((((((((((((((((((((((d0 * 31) + (((fX6_ofTank g 0 0).2).toInt64)) * 31) + (((fX6_ofTank g 0 1).2).toInt64)) * 31) + (((fX6_ofTank g 0 2).2).toInt64)) * 31) + (((fX6_ofTank g 0 3).2).toInt64)) * 31) + (((fX6_ofTank g 0 4).2).toInt64)) * 31) + (((fX6_readyIn g 0 20).2).toInt64)) * 31) + (((fX6_ofTank g 1 0).2).toInt64)) * 31) + (((fX6_ofTank g 1 1).2).toInt64)) * 31) + (((fX6_ofTank g 1 2).2).toInt64)) * 31) + (((fX6_ofTank g 1 3).2).toInt64)) * 31) + (((fX6_ofTank g 1 4).2).toInt64)) * 31) + (((fX6_readyIn g 1 20).2).toInt64))), (0, .ref (ad 0 0)), (1, .long d0)]) hx hb dX6_digestTanks_12 hl (by decide) rfl (fun ls hl => ?_)
  refine lv_iload hx hb dX6_digestTanks_14 (lv_at hl 0 rfl) ?_
  refine lv_iconst (v := 4) hx hb dX6_digestTanks_16 (by decide) ?_
  refine lv_icmp_gt (tgt := 42) hx hb dX6_digestTanks_17 (by decide) (fun c => absurd c (by decide)) (fun _ => ?_)
  refine lv_lload_n hx hb dX6_digestTanks_20 rfl (lv_at hl 2 rfl) ?_
  refine lv_ldc2 hx hb hown (hts _ qX6_digestTanks_w1) dX6_digestTanks_21 ?_
  refine lv_lmul hx hb dX6_digestTanks_24 ?_
  refine lv_aload_n hx hb dX6_digestTanks_25 rfl (lv_at hl 3 rfl) ?_
  refine lv_iload hx hb dX6_digestTanks_26 (lv_at hl 1 rfl) ?_
  refine lv_iload hx hb dX6_digestTanks_28 (lv_at hl 0 rfl) ?_
  refine q_callVi (As := [.int 2, .int 0]) (κ := 0) (i := 0) rfl rfl ⟨_, rfl⟩ rfl ⟨hx, hb, hml, hown, hts⟩ (kX6_ofTank_ok l D cy hI g _  2 0  (ofTank_ok (tankAt_okk g (by decide)) (by decide))) (cwV 2 hts gX6_digestTanks_X6_ofTank rfl rfl rfl (by decide +kernel) ⟨Nat.le_of_ble_eq_true rfl, Nat.le_of_ble_eq_true rfl⟩) hB hC hS rfl hl.1 (Nat.le_of_ble_eq_true rfl) dX6_digestTanks_30 ⟨Nat.le_of_ble_eq_true rfl, Nat.le_of_ble_eq_true rfl⟩ (fun H locs hC hS => ?_)
  refine lv_i2l hx hb dX6_digestTanks_33 rfl ?_
  refine lv_ladd hx hb dX6_digestTanks_34 ?_
  refine lv_lstore_n (lv' := [(3, .long ((((((((((((((((((((((((((d0 * 31) + (((fX6_ofTank g 0 0).2).toInt64)) * 31) + (((fX6_ofTank g 0 1).2).toInt64)) * 31) + (((fX6_ofTank g 0 2).2).toInt64)) * 31) + (((fX6_ofTank g 0 3).2).toInt64)) * 31) + (((fX6_ofTank g 0 4).2).toInt64)) * 31) + (((fX6_readyIn g 0 20).2).toInt64)) * 31) + (((fX6_ofTank g 1 0).2).toInt64)) * 31) + (((fX6_ofTank g 1 1).2).toInt64)) * 31) + (((fX6_ofTank g 1 2).2).toInt64)) * 31) + (((fX6_ofTank g 1 3).2).toInt64)) * 31) + (((fX6_ofTank g 1 4).2).toInt64)) * 31) + (((fX6_readyIn g 1 20).2).toInt64)) * 31) + (((fX6_ofTank g 2 0).2).toInt64))), (6, .int 0), (5, .int 2), (0, .ref (ad 0 0)), (1, .long d0)]) hx hb dX6_digestTanks_35 rfl hl (by decide) rfl (fun ls hl => ?_)
  refine lv_iinc (v := 1) (lv' := [(6, .int 1), (3, .long ((((((((((((((((((((((((((d0 * 31) + (((fX6_ofTank g 0 0).2).toInt64)) * 31) + (((fX6_ofTank g 0 1).2).toInt64)) * 31) + (((fX6_ofTank g 0 2).2).toInt64)) * 31) + (((fX6_ofTank g 0 3).2).toInt64)) * 31) + (((fX6_ofTank g 0 4).2).toInt64)) * 31) + (((fX6_readyIn g 0 20).2).toInt64)) * 31) + (((fX6_ofTank g 1 0).2).toInt64)) * 31) + (((fX6_ofTank g 1 1).2).toInt64)) * 31) + (((fX6_ofTank g 1 2).2).toInt64)) * 31) + (((fX6_ofTank g 1 3).2).toInt64)) * 31) + (((fX6_ofTank g 1 4).2).toInt64)) * 31) + (((fX6_readyIn g 1 20).2).toInt64)) * 31) + (((fX6_ofTank g 2 0).2).toInt64))), (5, .int 2), (0, .ref (ad 0 0)), (1, .long d0)]) hx hb dX6_digestTanks_36 hl (k := 1) rfl (by decide) (by decide) rfl (fun ls hl => ?_)
  refine lv_goto (tgt := 14) hx hb dX6_digestTanks_39 (by decide) ?_
  refine lv_iload hx hb dX6_digestTanks_14 (lv_at hl 0 rfl) ?_
  refine lv_iconst (v := 4) hx hb dX6_digestTanks_16 (by decide) ?_
  refine lv_icmp_gt (tgt := 42) hx hb dX6_digestTanks_17 (by decide) (fun c => absurd c (by decide)) (fun _ => ?_)
  refine lv_lload_n hx hb dX6_digestTanks_20 rfl (lv_at hl 1 rfl) ?_
  refine lv_ldc2 hx hb hown (hts _ qX6_digestTanks_w1) dX6_digestTanks_21 ?_
  refine lv_lmul hx hb dX6_digestTanks_24 ?_
  refine lv_aload_n hx hb dX6_digestTanks_25 rfl (lv_at hl 3 rfl) ?_
  refine lv_iload hx hb dX6_digestTanks_26 (lv_at hl 2 rfl) ?_
  refine lv_iload hx hb dX6_digestTanks_28 (lv_at hl 0 rfl) ?_
  refine q_callVi (As := [.int 2, .int 1]) (κ := 0) (i := 0) rfl rfl ⟨_, rfl⟩ rfl ⟨hx, hb, hml, hown, hts⟩ (kX6_ofTank_ok l D cy hI g _  2 1  (ofTank_ok (tankAt_okk g (by decide)) (by decide))) (cwV 2 hts gX6_digestTanks_X6_ofTank rfl rfl rfl (by decide +kernel) ⟨Nat.le_of_ble_eq_true rfl, Nat.le_of_ble_eq_true rfl⟩) hB hC hS rfl hl.1 (Nat.le_of_ble_eq_true rfl) dX6_digestTanks_30 ⟨Nat.le_of_ble_eq_true rfl, Nat.le_of_ble_eq_true rfl⟩ (fun H locs hC hS => ?_)
  refine lv_i2l hx hb dX6_digestTanks_33 rfl ?_
  refine lv_ladd hx hb dX6_digestTanks_34 ?_
  refine lv_lstore_n (lv' := [(3, .long ((((((((((((((((((((((((((((d0 * 31) + (((fX6_ofTank g 0 0).2).toInt64)) * 31) + (((fX6_ofTank g 0 1).2).toInt64)) * 31) + (((fX6_ofTank g 0 2).2).toInt64)) * 31) + (((fX6_ofTank g 0 3).2).toInt64)) * 31) + (((fX6_ofTank g 0 4).2).toInt64)) * 31) + (((fX6_readyIn g 0 20).2).toInt64)) * 31) + (((fX6_ofTank g 1 0).2).toInt64)) * 31) + (((fX6_ofTank g 1 1).2).toInt64)) * 31) + (((fX6_ofTank g 1 2).2).toInt64)) * 31) + (((fX6_ofTank g 1 3).2).toInt64)) * 31) + (((fX6_ofTank g 1 4).2).toInt64)) * 31) + (((fX6_readyIn g 1 20).2).toInt64)) * 31) + (((fX6_ofTank g 2 0).2).toInt64)) * 31) + (((fX6_ofTank g 2 1).2).toInt64))), (6, .int 1), (5, .int 2), (0, .ref (ad 0 0)), (1, .long d0)]) hx hb dX6_digestTanks_35 rfl hl (by decide) rfl (fun ls hl => ?_)
  refine lv_iinc (v := 2) (lv' := [(6, .int 2), (3, .long ((((((((((((((((((((((((((((d0 * 31) + (((fX6_ofTank g 0 0).2).toInt64)) * 31) + (((fX6_ofTank g 0 1).2).toInt64)) * 31) + (((fX6_ofTank g 0 2).2).toInt64)) * 31) + (((fX6_ofTank g 0 3).2).toInt64)) * 31) + (((fX6_ofTank g 0 4).2).toInt64)) * 31) + (((fX6_readyIn g 0 20).2).toInt64)) * 31) + (((fX6_ofTank g 1 0).2).toInt64)) * 31) + (((fX6_ofTank g 1 1).2).toInt64)) * 31) + (((fX6_ofTank g 1 2).2).toInt64)) * 31) + (((fX6_ofTank g 1 3).2).toInt64)) * 31) + (((fX6_ofTank g 1 4).2).toInt64)) * 31) + (((fX6_readyIn g 1 20).2).toInt64)) * 31) + (((fX6_ofTank g 2 0).2).toInt64)) * 31) + (((fX6_ofTank g 2 1).2).toInt64))), (5, .int 2), (0, .ref (ad 0 0)), (1, .long d0)]) hx hb dX6_digestTanks_36 hl (k := 1) rfl (by decide) (by decide) rfl (fun ls hl => ?_)
  refine lv_goto (tgt := 14) hx hb dX6_digestTanks_39 (by decide) ?_
  refine lv_iload hx hb dX6_digestTanks_14 (lv_at hl 0 rfl) ?_
  refine lv_iconst (v := 4) hx hb dX6_digestTanks_16 (by decide) ?_
  refine lv_icmp_gt (tgt := 42) hx hb dX6_digestTanks_17 (by decide) (fun c => absurd c (by decide)) (fun _ => ?_)
  refine lv_lload_n hx hb dX6_digestTanks_20 rfl (lv_at hl 1 rfl) ?_
  refine lv_ldc2 hx hb hown (hts _ qX6_digestTanks_w1) dX6_digestTanks_21 ?_
  refine lv_lmul hx hb dX6_digestTanks_24 ?_
  refine lv_aload_n hx hb dX6_digestTanks_25 rfl (lv_at hl 3 rfl) ?_
  refine lv_iload hx hb dX6_digestTanks_26 (lv_at hl 2 rfl) ?_
  refine lv_iload hx hb dX6_digestTanks_28 (lv_at hl 0 rfl) ?_
  refine q_callVi (As := [.int 2, .int 2]) (κ := 0) (i := 0) rfl rfl ⟨_, rfl⟩ rfl ⟨hx, hb, hml, hown, hts⟩ (kX6_ofTank_ok l D cy hI g _  2 2  (ofTank_ok (tankAt_okk g (by decide)) (by decide))) (cwV 2 hts gX6_digestTanks_X6_ofTank rfl rfl rfl (by decide +kernel) ⟨Nat.le_of_ble_eq_true rfl, Nat.le_of_ble_eq_true rfl⟩) hB hC hS rfl hl.1 (Nat.le_of_ble_eq_true rfl) dX6_digestTanks_30 ⟨Nat.le_of_ble_eq_true rfl, Nat.le_of_ble_eq_true rfl⟩ (fun H locs hC hS => ?_)
  refine lv_i2l hx hb dX6_digestTanks_33 rfl ?_
  refine lv_ladd hx hb dX6_digestTanks_34 ?_
  refine lv_lstore_n (lv' := [(3, .long ((((((((((((((((((((((((((((((d0 * 31) + (((fX6_ofTank g 0 0).2).toInt64)) * 31) + (((fX6_ofTank g 0 1).2).toInt64)) * 31) + (((fX6_ofTank g 0 2).2).toInt64)) * 31) + (((fX6_ofTank g 0 3).2).toInt64)) * 31) + (((fX6_ofTank g 0 4).2).toInt64)) * 31) + (((fX6_readyIn g 0 20).2).toInt64)) * 31) + (((fX6_ofTank g 1 0).2).toInt64)) * 31) + (((fX6_ofTank g 1 1).2).toInt64)) * 31) + (((fX6_ofTank g 1 2).2).toInt64)) * 31) + (((fX6_ofTank g 1 3).2).toInt64)) * 31) + (((fX6_ofTank g 1 4).2).toInt64)) * 31) + (((fX6_readyIn g 1 20).2).toInt64)) * 31) + (((fX6_ofTank g 2 0).2).toInt64)) * 31) + (((fX6_ofTank g 2 1).2).toInt64)) * 31) + (((fX6_ofTank g 2 2).2).toInt64))), (6, .int 2), (5, .int 2), (0, .ref (ad 0 0)), (1, .long d0)]) hx hb dX6_digestTanks_35 rfl hl (by decide) rfl (fun ls hl => ?_)
  refine lv_iinc (v := 3) (lv' := [(6, .int 3), (3, .long ((((((((((((((((((((((((((((((d0 * 31) + (((fX6_ofTank g 0 0).2).toInt64)) * 31) + (((fX6_ofTank g 0 1).2).toInt64)) * 31) + (((fX6_ofTank g 0 2).2).toInt64)) * 31) + (((fX6_ofTank g 0 3).2).toInt64)) * 31) + (((fX6_ofTank g 0 4).2).toInt64)) * 31) + (((fX6_readyIn g 0 20).2).toInt64)) * 31) + (((fX6_ofTank g 1 0).2).toInt64)) * 31) + (((fX6_ofTank g 1 1).2).toInt64)) * 31) + (((fX6_ofTank g 1 2).2).toInt64)) * 31) + (((fX6_ofTank g 1 3).2).toInt64)) * 31) + (((fX6_ofTank g 1 4).2).toInt64)) * 31) + (((fX6_readyIn g 1 20).2).toInt64)) * 31) + (((fX6_ofTank g 2 0).2).toInt64)) * 31) + (((fX6_ofTank g 2 1).2).toInt64)) * 31) + (((fX6_ofTank g 2 2).2).toInt64))), (5, .int 2), (0, .ref (ad 0 0)), (1, .long d0)]) hx hb dX6_digestTanks_36 hl (k := 1) rfl (by decide) (by decide) rfl (fun ls hl => ?_)
  refine lv_goto (tgt := 14) hx hb dX6_digestTanks_39 (by decide) ?_
  refine lv_iload hx hb dX6_digestTanks_14 (lv_at hl 0 rfl) ?_
  refine lv_iconst (v := 4) hx hb dX6_digestTanks_16 (by decide) ?_
  refine lv_icmp_gt (tgt := 42) hx hb dX6_digestTanks_17 (by decide) (fun c => absurd c (by decide)) (fun _ => ?_)
  refine lv_lload_n hx hb dX6_digestTanks_20 rfl (lv_at hl 1 rfl) ?_
  refine lv_ldc2 hx hb hown (hts _ qX6_digestTanks_w1) dX6_digestTanks_21 ?_
  refine lv_lmul hx hb dX6_digestTanks_24 ?_
  refine lv_aload_n hx hb dX6_digestTanks_25 rfl (lv_at hl 3 rfl) ?_
  refine lv_iload hx hb dX6_digestTanks_26 (lv_at hl 2 rfl) ?_
  refine lv_iload hx hb dX6_digestTanks_28 (lv_at hl 0 rfl) ?_
  refine q_callVi (As := [.int 2, .int 3]) (κ := 0) (i := 0) rfl rfl ⟨_, rfl⟩ rfl ⟨hx, hb, hml, hown, hts⟩ (kX6_ofTank_ok l D cy hI g _  2 3  (ofTank_ok (tankAt_okk g (by decide)) (by decide))) (cwV 2 hts gX6_digestTanks_X6_ofTank rfl rfl rfl (by decide +kernel) ⟨Nat.le_of_ble_eq_true rfl, Nat.le_of_ble_eq_true rfl⟩) hB hC hS rfl hl.1 (Nat.le_of_ble_eq_true rfl) dX6_digestTanks_30 ⟨Nat.le_of_ble_eq_true rfl, Nat.le_of_ble_eq_true rfl⟩ (fun H locs hC hS => ?_)
  refine lv_i2l hx hb dX6_digestTanks_33 rfl ?_
  refine lv_ladd hx hb dX6_digestTanks_34 ?_
  refine lv_lstore_n (lv' := [(3, .long ((((((((((((((((((((((((((((((((d0 * 31) + (((fX6_ofTank g 0 0).2).toInt64)) * 31) + (((fX6_ofTank g 0 1).2).toInt64)) * 31) + (((fX6_ofTank g 0 2).2).toInt64)) * 31) + (((fX6_ofTank g 0 3).2).toInt64)) * 31) + (((fX6_ofTank g 0 4).2).toInt64)) * 31) + (((fX6_readyIn g 0 20).2).toInt64)) * 31) + (((fX6_ofTank g 1 0).2).toInt64)) * 31) + (((fX6_ofTank g 1 1).2).toInt64)) * 31) + (((fX6_ofTank g 1 2).2).toInt64)) * 31) + (((fX6_ofTank g 1 3).2).toInt64)) * 31) + (((fX6_ofTank g 1 4).2).toInt64)) * 31) + (((fX6_readyIn g 1 20).2).toInt64)) * 31) + (((fX6_ofTank g 2 0).2).toInt64)) * 31) + (((fX6_ofTank g 2 1).2).toInt64)) * 31) + (((fX6_ofTank g 2 2).2).toInt64)) * 31) + (((fX6_ofTank g 2 3).2).toInt64))), (6, .int 3), (5, .int 2), (0, .ref (ad 0 0)), (1, .long d0)]) hx hb dX6_digestTanks_35 rfl hl (by decide) rfl (fun ls hl => ?_)
  refine lv_iinc (v := 4) (lv' := [(6, .int 4), (3, .long ((((((((((((((((((((((((((((((((d0 * 31) + (((fX6_ofTank g 0 0).2).toInt64)) * 31) + (((fX6_ofTank g 0 1).2).toInt64)) * 31) + (((fX6_ofTank g 0 2).2).toInt64)) * 31) + (((fX6_ofTank g 0 3).2).toInt64)) * 31) + (((fX6_ofTank g 0 4).2).toInt64)) * 31) + (((fX6_readyIn g 0 20).2).toInt64)) * 31) + (((fX6_ofTank g 1 0).2).toInt64)) * 31) + (((fX6_ofTank g 1 1).2).toInt64)) * 31) + (((fX6_ofTank g 1 2).2).toInt64)) * 31) + (((fX6_ofTank g 1 3).2).toInt64)) * 31) + (((fX6_ofTank g 1 4).2).toInt64)) * 31) + (((fX6_readyIn g 1 20).2).toInt64)) * 31) + (((fX6_ofTank g 2 0).2).toInt64)) * 31) + (((fX6_ofTank g 2 1).2).toInt64)) * 31) + (((fX6_ofTank g 2 2).2).toInt64)) * 31) + (((fX6_ofTank g 2 3).2).toInt64))), (5, .int 2), (0, .ref (ad 0 0)), (1, .long d0)]) hx hb dX6_digestTanks_36 hl (k := 1) rfl (by decide) (by decide) rfl (fun ls hl => ?_)
  refine lv_goto (tgt := 14) hx hb dX6_digestTanks_39 (by decide) ?_
  refine lv_iload hx hb dX6_digestTanks_14 (lv_at hl 0 rfl) ?_
  refine lv_iconst (v := 4) hx hb dX6_digestTanks_16 (by decide) ?_
  refine lv_icmp_gt (tgt := 42) hx hb dX6_digestTanks_17 (by decide) (fun c => absurd c (by decide)) (fun _ => ?_)
  refine lv_lload_n hx hb dX6_digestTanks_20 rfl (lv_at hl 1 rfl) ?_
  refine lv_ldc2 hx hb hown (hts _ qX6_digestTanks_w1) dX6_digestTanks_21 ?_
  refine lv_lmul hx hb dX6_digestTanks_24 ?_
  refine lv_aload_n hx hb dX6_digestTanks_25 rfl (lv_at hl 3 rfl) ?_
  refine lv_iload hx hb dX6_digestTanks_26 (lv_at hl 2 rfl) ?_
  refine lv_iload hx hb dX6_digestTanks_28 (lv_at hl 0 rfl) ?_
  refine q_callVi (As := [.int 2, .int 4]) (κ := 0) (i := 0) rfl rfl ⟨_, rfl⟩ rfl ⟨hx, hb, hml, hown, hts⟩ (kX6_ofTank_ok l D cy hI g _  2 4  (ofTank_ok (tankAt_okk g (by decide)) (by decide))) (cwV 2 hts gX6_digestTanks_X6_ofTank rfl rfl rfl (by decide +kernel) ⟨Nat.le_of_ble_eq_true rfl, Nat.le_of_ble_eq_true rfl⟩) hB hC hS rfl hl.1 (Nat.le_of_ble_eq_true rfl) dX6_digestTanks_30 ⟨Nat.le_of_ble_eq_true rfl, Nat.le_of_ble_eq_true rfl⟩ (fun H locs hC hS => ?_)
  refine lv_i2l hx hb dX6_digestTanks_33 rfl ?_
  refine lv_ladd hx hb dX6_digestTanks_34 ?_
  refine lv_lstore_n (lv' := [(3, .long ((((((((((((((((((((((((((((((((((d0 * 31) + (((fX6_ofTank g 0 0).2).toInt64)) * 31) + (((fX6_ofTank g 0 1).2).toInt64)) * 31) + (((fX6_ofTank g 0 2).2).toInt64)) * 31) + (((fX6_ofTank g 0 3).2).toInt64)) * 31) + (((fX6_ofTank g 0 4).2).toInt64)) * 31) + (((fX6_readyIn g 0 20).2).toInt64)) * 31) + (((fX6_ofTank g 1 0).2).toInt64)) * 31) + (((fX6_ofTank g 1 1).2).toInt64)) * 31) + (((fX6_ofTank g 1 2).2).toInt64)) * 31) + (((fX6_ofTank g 1 3).2).toInt64)) * 31) + (((fX6_ofTank g 1 4).2).toInt64)) * 31) + (((fX6_readyIn g 1 20).2).toInt64)) * 31) + (((fX6_ofTank g 2 0).2).toInt64)) * 31) + (((fX6_ofTank g 2 1).2).toInt64)) * 31) + (((fX6_ofTank g 2 2).2).toInt64)) * 31) + (((fX6_ofTank g 2 3).2).toInt64)) * 31) + (((fX6_ofTank g 2 4).2).toInt64))), (6, .int 4), (5, .int 2), (0, .ref (ad 0 0)), (1, .long d0)]) hx hb dX6_digestTanks_35 rfl hl (by decide) rfl (fun ls hl => ?_)
  refine lv_iinc (v := 5) (lv' := [(6, .int 5), (3, .long ((((((((((((((((((((((((((((((((((d0 * 31) + (((fX6_ofTank g 0 0).2).toInt64)) * 31) + (((fX6_ofTank g 0 1).2).toInt64)) * 31) + (((fX6_ofTank g 0 2).2).toInt64)) * 31) + (((fX6_ofTank g 0 3).2).toInt64)) * 31) + (((fX6_ofTank g 0 4).2).toInt64)) * 31) + (((fX6_readyIn g 0 20).2).toInt64)) * 31) + (((fX6_ofTank g 1 0).2).toInt64)) * 31) + (((fX6_ofTank g 1 1).2).toInt64)) * 31) + (((fX6_ofTank g 1 2).2).toInt64)) * 31) + (((fX6_ofTank g 1 3).2).toInt64)) * 31) + (((fX6_ofTank g 1 4).2).toInt64)) * 31) + (((fX6_readyIn g 1 20).2).toInt64)) * 31) + (((fX6_ofTank g 2 0).2).toInt64)) * 31) + (((fX6_ofTank g 2 1).2).toInt64)) * 31) + (((fX6_ofTank g 2 2).2).toInt64)) * 31) + (((fX6_ofTank g 2 3).2).toInt64)) * 31) + (((fX6_ofTank g 2 4).2).toInt64))), (5, .int 2), (0, .ref (ad 0 0)), (1, .long d0)]) hx hb dX6_digestTanks_36 hl (k := 1) rfl (by decide) (by decide) rfl (fun ls hl => ?_)
  refine lv_goto (tgt := 14) hx hb dX6_digestTanks_39 (by decide) ?_
  refine lv_iload hx hb dX6_digestTanks_14 (lv_at hl 0 rfl) ?_
  refine lv_iconst (v := 4) hx hb dX6_digestTanks_16 (by decide) ?_
  refine lv_icmp_gt (tgt := 42) hx hb dX6_digestTanks_17 (by decide) (fun _ => ?_) (fun c => absurd c (by decide))
  refine lv_lload_n hx hb dX6_digestTanks_42 rfl (lv_at hl 1 rfl) ?_
  refine lv_ldc2 hx hb hown (hts _ qX6_digestTanks_w1) dX6_digestTanks_43 ?_
  refine lv_lmul hx hb dX6_digestTanks_46 ?_
  refine lv_aload_n hx hb dX6_digestTanks_47 rfl (lv_at hl 3 rfl) ?_
  refine lv_iload hx hb dX6_digestTanks_48 (lv_at hl 2 rfl) ?_
  refine lv_bipush (v := 20) hx hb dX6_digestTanks_50 (by decide) ?_
  refine q_callVi (As := [.int 2, .int 20]) (κ := 0) (i := 0) rfl rfl ⟨_, rfl⟩ rfl ⟨hx, hb, hml, hown, hts⟩ (kX6_readyIn_ok l D cy hI g _  2 20  (readyIn_ok (tankAt_okk g (by decide)) (by unfold fX6_needWarmth; decide))) (cwV 2 hts gX6_digestTanks_X6_readyIn rfl rfl rfl (by decide +kernel) ⟨Nat.le_of_ble_eq_true rfl, Nat.le_of_ble_eq_true rfl⟩) hB hC hS rfl hl.1 (Nat.le_of_ble_eq_true rfl) dX6_digestTanks_52 ⟨Nat.le_of_ble_eq_true rfl, Nat.le_of_ble_eq_true rfl⟩ (fun H locs hC hS => ?_)
  refine lv_i2l hx hb dX6_digestTanks_55 rfl ?_
  refine lv_ladd hx hb dX6_digestTanks_56 ?_
  refine lv_lstore_n (lv' := [(3, .long ((((((((((((((((((((((((((((((((((((d0 * 31) + (((fX6_ofTank g 0 0).2).toInt64)) * 31) + (((fX6_ofTank g 0 1).2).toInt64)) * 31) + (((fX6_ofTank g 0 2).2).toInt64)) * 31) + (((fX6_ofTank g 0 3).2).toInt64)) * 31) + (((fX6_ofTank g 0 4).2).toInt64)) * 31) + (((fX6_readyIn g 0 20).2).toInt64)) * 31) + (((fX6_ofTank g 1 0).2).toInt64)) * 31) + (((fX6_ofTank g 1 1).2).toInt64)) * 31) + (((fX6_ofTank g 1 2).2).toInt64)) * 31) + (((fX6_ofTank g 1 3).2).toInt64)) * 31) + (((fX6_ofTank g 1 4).2).toInt64)) * 31) + (((fX6_readyIn g 1 20).2).toInt64)) * 31) + (((fX6_ofTank g 2 0).2).toInt64)) * 31) + (((fX6_ofTank g 2 1).2).toInt64)) * 31) + (((fX6_ofTank g 2 2).2).toInt64)) * 31) + (((fX6_ofTank g 2 3).2).toInt64)) * 31) + (((fX6_ofTank g 2 4).2).toInt64)) * 31) + (((fX6_readyIn g 2 20).2).toInt64))), (6, .int 5), (5, .int 2), (0, .ref (ad 0 0)), (1, .long d0)]) hx hb dX6_digestTanks_57 rfl hl (by decide) rfl (fun ls hl => ?_)
  refine lv_iinc (v := 3) (lv' := [(5, .int 3), (3, .long ((((((((((((((((((((((((((((((((((((d0 * 31) + (((fX6_ofTank g 0 0).2).toInt64)) * 31) + (((fX6_ofTank g 0 1).2).toInt64)) * 31) + (((fX6_ofTank g 0 2).2).toInt64)) * 31) + (((fX6_ofTank g 0 3).2).toInt64)) * 31) + (((fX6_ofTank g 0 4).2).toInt64)) * 31) + (((fX6_readyIn g 0 20).2).toInt64)) * 31) + (((fX6_ofTank g 1 0).2).toInt64)) * 31) + (((fX6_ofTank g 1 1).2).toInt64)) * 31) + (((fX6_ofTank g 1 2).2).toInt64)) * 31) + (((fX6_ofTank g 1 3).2).toInt64)) * 31) + (((fX6_ofTank g 1 4).2).toInt64)) * 31) + (((fX6_readyIn g 1 20).2).toInt64)) * 31) + (((fX6_ofTank g 2 0).2).toInt64)) * 31) + (((fX6_ofTank g 2 1).2).toInt64)) * 31) + (((fX6_ofTank g 2 2).2).toInt64)) * 31) + (((fX6_ofTank g 2 3).2).toInt64)) * 31) + (((fX6_ofTank g 2 4).2).toInt64)) * 31) + (((fX6_readyIn g 2 20).2).toInt64))), (6, .int 5), (0, .ref (ad 0 0)), (1, .long d0)]) hx hb dX6_digestTanks_58 hl (k := 2) rfl (by decide) (by decide) rfl (fun ls hl => ?_)
  refine lv_goto (tgt := 5) hx hb dX6_digestTanks_61 (by decide) ?_
  refine lv_iload hx hb dX6_digestTanks_5 (lv_at hl 0 rfl) ?_
  refine lv_iconst (v := 3) hx hb dX6_digestTanks_7 (by decide) ?_
  refine lv_icmp_ge (tgt := 64) hx hb dX6_digestTanks_8 (by decide) (fun _ => ?_) (fun c => absurd c (by decide))
  refine lv_lload_n hx hb dX6_digestTanks_64 rfl (lv_at hl 1 rfl) ?_
  exact q_retl hx hb hr hB hC hS rfl rfl hlocks dX6_digestTanks_65
def fX6_digestBeds_L5 (g : Gd) (d0 : Int64) : Nat → Nat → Int64 → Int64
  | 0, k, d => d
  | n + 1, k, d => if (g 0 0 9) ≤ (nI k) then (d) else (fX6_digestBeds_L5 g d0 n (k + 1) ((((((((((((((((((d * 31) + (((fX6_ofBed g (nI k) 0).2).toInt64)) * 31) + (((fX6_ofBed g (nI k) 1).2).toInt64)) * 31) + (((fX6_ofBed g (nI k) 2).2).toInt64)) * 31) + (((fX6_ofBed g (nI k) 3).2).toInt64)) * 31) + (((fX6_ofBed g (nI k) 4).2).toInt64)) * 31) + (((fX6_ofBed g (nI k) 5).2).toInt64)) * 31) + (((fX6_ofBed g (nI k) 6).2).toInt64)) * 31) + (((fX6_ofBed g (nI k) 7).2).toInt64)) * 31) + (((fX6_dryIn g (nI k) 25).2).toInt64)))
def fX6_digestBeds (g : Gd) (d0 : Int64) : Int64 := fX6_digestBeds_L5 g d0 6 0 d0
theorem qX6_digestBeds_w1 : Cond.fieldLink RX6 55 "CherryStation" "bedCount" "I" ∈ wsX6_digestBeds := List.mem_of_getElem? (i := 1) rfl
theorem qX6_digestBeds_w2 : Cond.constantLong RX6 364 (31) ∈ wsX6_digestBeds := List.mem_of_getElem? (i := 2) rfl
theorem iX6_digestBeds_X6 : ∀ w ∈ wsX60, w ∈ wsX6_digestBeds := fun _ h => (List.mem_cons_of_mem _ (List.mem_append_left _ (List.mem_append_left _ (List.mem_append_left _ (List.mem_append_left _ (List.mem_append_right _ h))))))
set_option maxRecDepth 100000 in
set_option maxHeartbeats 4000000 in
theorem kX6_digestBeds_L5 (l : Launch) (D : va_G) (cy : Nat → ClassId) {ad : Nat → Nat → Nat} (hI : cI ad) (g : Gd) (d0 : Int64) (hv : IvC g)  {p : Program} {e : Env} {s : State} {m : MethodId} {below : List Frame} {meth : Method} {c : Code} {Q : State → Prop} (hx : p.tables.exec = Jvm.exec) (hb : c.code = cX6_digestBeds) (hr : meth.sig.returnType = (some .long)) (hml : c.maxLocals = 7) (hts : ∀ w ∈ wsX6_digestBeds, w.before [.ref (ad 0 0), .long d0].toArray s = true) (hown : s.vm.findClass RX6 = some m.cls) (hlocks : meth.locks = false) (hB : CB D cy ad s) : ∀ (n k : Nat) (d : Int64) (hn : k + n = 6) (hk : (k : Int) ≤ (g 0 0 9).toInt) (hc1 : (g 0 0 9).toInt ≤ 5)   (H : Heap) (locs : List Loc) (ls : Array Slot) (hC : CW D cy ad g H) (hS : va_S (cA ad s.heap.size) s.heap H locs) (hl : lv_has ls 7 [(5, .int (nI k)), (3, .long d), (0, .ref (ad 0 0)), (1, .long d0)]) (kk : ∀ (H : Heap) (locs : List Loc) (ls : Array Slot), CW D cy ad g H → va_S (cA ad s.heap.size) s.heap H locs → lv_has ls 7 [(3, .long (fX6_digestBeds_L5 g d0 n k d)), (0, .ref (ad 0 0)), (1, .long d0)] → W p l e ({ frames := 3, cells := 0, slots := 0, locals := 70 } : Room) s m [.ref (ad 0 0), .long d0].toArray below meth c H locs 0 0 Q (F0 m 68 ls [])), W p l e ({ frames := 3, cells := 0, slots := 0, locals := 70 } : Room) s m [.ref (ad 0 0), .long d0].toArray below meth c H locs 0 0 Q (F0 m 5 ls []) := by
  have hA : ∀ κ i : Nat, cV κ i → cA ad s.heap.size (ad κ i) := fun κ i h => Or.inl ⟨κ, i, h, rfl⟩
  intro n
  induction n with
  | zero => intro k d hn hk hc1 H locs ls hC hS hl kk; exact absurd hk (by omega)
  | succ n ih =>
    intro k d hn hk hc1 H locs ls hC hS hl kk
    refine lv_iload hx hb dX6_digestBeds_5 (lv_at hl 0 rfl) ?_
    refine lv_aload_n hx hb dX6_digestBeds_7 rfl (lv_at hl 2 rfl) ?_
    refine gt_0_9 hx hb hts iX6_digestBeds_X6 hown hB.1 hC qX6_digestBeds_w1 dX6_digestBeds_8 ?_
    refine lv_icmp_ge (tgt := 68) hx hb dX6_digestBeds_11 (by decide) (fun c1 => ?_) (fun c1 => ?_)
    · skip
      have e9 : fX6_digestBeds_L5 g d0 (n + 1) k d = d := by rw [fX6_digestBeds_L5, if_pos c1]
      rw [e9] at kk
      exact kk H locs ls hC hS (lv_sub hl [1, 2, 3] rfl)
    · skip
      refine lv_iconst (v := 0) hx hb dX6_digestBeds_14 (by decide) ?_
      refine lv_istore (lv' := [(6, .int 0), (5, .int (nI k)), (3, .long d), (0, .ref (ad 0 0)), (1, .long d0)]) hx hb dX6_digestBeds_15 hl (by decide) rfl (fun ls hl => ?_)
      refine lv_iload hx hb dX6_digestBeds_17 (lv_at hl 0 rfl) ?_
      refine lv_bipush (v := 7) hx hb dX6_digestBeds_19 (by decide) ?_
      refine lv_icmp_gt (tgt := 46) hx hb dX6_digestBeds_21 (by decide) (fun c => absurd c (by decide)) (fun _ => ?_)
      refine lv_lload_n hx hb dX6_digestBeds_24 rfl (lv_at hl 2 rfl) ?_
      refine lv_ldc2 hx hb hown (hts _ qX6_digestBeds_w2) dX6_digestBeds_25 ?_
      refine lv_lmul hx hb dX6_digestBeds_28 ?_
      refine lv_aload_n hx hb dX6_digestBeds_29 rfl (lv_at hl 3 rfl) ?_
      refine lv_iload hx hb dX6_digestBeds_30 (lv_at hl 1 rfl) ?_
      refine lv_iload hx hb dX6_digestBeds_32 (lv_at hl 0 rfl) ?_
      refine q_callVi (As := [.int (nI k), .int 0]) (κ := 0) (i := 0) rfl rfl ⟨_, rfl⟩ rfl ⟨hx, hb, hml, hown, hts⟩ (kX6_ofBed_ok l D cy hI g _  (nI k) 0 hv (ofBed_ok (bedAt_okk c1 (by omega)) (by decide))) (cwV 2 hts gX6_digestBeds_X6_ofBed rfl rfl rfl (by decide +kernel) ⟨Nat.le_of_ble_eq_true rfl, Nat.le_of_ble_eq_true rfl⟩) hB hC hS rfl hl.1 (Nat.le_of_ble_eq_true rfl) dX6_digestBeds_34 ⟨Nat.le_of_ble_eq_true rfl, Nat.le_of_ble_eq_true rfl⟩ (fun H locs hC hS => ?_)
      refine lv_i2l hx hb dX6_digestBeds_37 rfl ?_
      refine lv_ladd hx hb dX6_digestBeds_38 ?_
      refine lv_lstore_n (lv' := [(3, .long ((d * 31) + (((fX6_ofBed g (nI k) 0).2).toInt64))), (6, .int 0), (5, .int (nI k)), (0, .ref (ad 0 0)), (1, .long d0)]) hx hb dX6_digestBeds_39 rfl hl (by decide) rfl (fun ls hl => ?_)
      refine lv_iinc (v := 1) (lv' := [(6, .int 1), (3, .long ((d * 31) + (((fX6_ofBed g (nI k) 0).2).toInt64))), (5, .int (nI k)), (0, .ref (ad 0 0)), (1, .long d0)]) hx hb dX6_digestBeds_40 hl (k := 1) rfl (by decide) (by decide) rfl (fun ls hl => ?_)
      refine lv_goto (tgt := 17) hx hb dX6_digestBeds_43 (by decide) ?_
      refine lv_iload hx hb dX6_digestBeds_17 (lv_at hl 0 rfl) ?_
      refine lv_bipush (v := 7) hx hb dX6_digestBeds_19 (by decide) ?_
      refine lv_icmp_gt (tgt := 46) hx hb dX6_digestBeds_21 (by decide) (fun c => absurd c (by decide)) (fun _ => ?_)
      refine lv_lload_n hx hb dX6_digestBeds_24 rfl (lv_at hl 1 rfl) ?_
      refine lv_ldc2 hx hb hown (hts _ qX6_digestBeds_w2) dX6_digestBeds_25 ?_
      refine lv_lmul hx hb dX6_digestBeds_28 ?_
      refine lv_aload_n hx hb dX6_digestBeds_29 rfl (lv_at hl 3 rfl) ?_
      refine lv_iload hx hb dX6_digestBeds_30 (lv_at hl 2 rfl) ?_
      refine lv_iload hx hb dX6_digestBeds_32 (lv_at hl 0 rfl) ?_
      refine q_callVi (As := [.int (nI k), .int 1]) (κ := 0) (i := 0) rfl rfl ⟨_, rfl⟩ rfl ⟨hx, hb, hml, hown, hts⟩ (kX6_ofBed_ok l D cy hI g _  (nI k) 1 hv (ofBed_ok (bedAt_okk c1 (by omega)) (by decide))) (cwV 2 hts gX6_digestBeds_X6_ofBed rfl rfl rfl (by decide +kernel) ⟨Nat.le_of_ble_eq_true rfl, Nat.le_of_ble_eq_true rfl⟩) hB hC hS rfl hl.1 (Nat.le_of_ble_eq_true rfl) dX6_digestBeds_34 ⟨Nat.le_of_ble_eq_true rfl, Nat.le_of_ble_eq_true rfl⟩ (fun H locs hC hS => ?_)
      refine lv_i2l hx hb dX6_digestBeds_37 rfl ?_
      refine lv_ladd hx hb dX6_digestBeds_38 ?_
      refine lv_lstore_n (lv' := [(3, .long ((((d * 31) + (((fX6_ofBed g (nI k) 0).2).toInt64)) * 31) + (((fX6_ofBed g (nI k) 1).2).toInt64))), (6, .int 1), (5, .int (nI k)), (0, .ref (ad 0 0)), (1, .long d0)]) hx hb dX6_digestBeds_39 rfl hl (by decide) rfl (fun ls hl => ?_)
      refine lv_iinc (v := 2) (lv' := [(6, .int 2), (3, .long ((((d * 31) + (((fX6_ofBed g (nI k) 0).2).toInt64)) * 31) + (((fX6_ofBed g (nI k) 1).2).toInt64))), (5, .int (nI k)), (0, .ref (ad 0 0)), (1, .long d0)]) hx hb dX6_digestBeds_40 hl (k := 1) rfl (by decide) (by decide) rfl (fun ls hl => ?_)
      refine lv_goto (tgt := 17) hx hb dX6_digestBeds_43 (by decide) ?_
      refine lv_iload hx hb dX6_digestBeds_17 (lv_at hl 0 rfl) ?_
      refine lv_bipush (v := 7) hx hb dX6_digestBeds_19 (by decide) ?_
      refine lv_icmp_gt (tgt := 46) hx hb dX6_digestBeds_21 (by decide) (fun c => absurd c (by decide)) (fun _ => ?_)
      refine lv_lload_n hx hb dX6_digestBeds_24 rfl (lv_at hl 1 rfl) ?_
      refine lv_ldc2 hx hb hown (hts _ qX6_digestBeds_w2) dX6_digestBeds_25 ?_
      refine lv_lmul hx hb dX6_digestBeds_28 ?_
      refine lv_aload_n hx hb dX6_digestBeds_29 rfl (lv_at hl 3 rfl) ?_
      refine lv_iload hx hb dX6_digestBeds_30 (lv_at hl 2 rfl) ?_
      refine lv_iload hx hb dX6_digestBeds_32 (lv_at hl 0 rfl) ?_
      refine q_callVi (As := [.int (nI k), .int 2]) (κ := 0) (i := 0) rfl rfl ⟨_, rfl⟩ rfl ⟨hx, hb, hml, hown, hts⟩ (kX6_ofBed_ok l D cy hI g _  (nI k) 2 hv (ofBed_ok (bedAt_okk c1 (by omega)) (by decide))) (cwV 2 hts gX6_digestBeds_X6_ofBed rfl rfl rfl (by decide +kernel) ⟨Nat.le_of_ble_eq_true rfl, Nat.le_of_ble_eq_true rfl⟩) hB hC hS rfl hl.1 (Nat.le_of_ble_eq_true rfl) dX6_digestBeds_34 ⟨Nat.le_of_ble_eq_true rfl, Nat.le_of_ble_eq_true rfl⟩ (fun H locs hC hS => ?_)
      refine lv_i2l hx hb dX6_digestBeds_37 rfl ?_
      refine lv_ladd hx hb dX6_digestBeds_38 ?_
      refine lv_lstore_n (lv' := [(3, .long ((((((d * 31) + (((fX6_ofBed g (nI k) 0).2).toInt64)) * 31) + (((fX6_ofBed g (nI k) 1).2).toInt64)) * 31) + (((fX6_ofBed g (nI k) 2).2).toInt64))), (6, .int 2), (5, .int (nI k)), (0, .ref (ad 0 0)), (1, .long d0)]) hx hb dX6_digestBeds_39 rfl hl (by decide) rfl (fun ls hl => ?_)
      refine lv_iinc (v := 3) (lv' := [(6, .int 3), (3, .long ((((((d * 31) + (((fX6_ofBed g (nI k) 0).2).toInt64)) * 31) + (((fX6_ofBed g (nI k) 1).2).toInt64)) * 31) + (((fX6_ofBed g (nI k) 2).2).toInt64))), (5, .int (nI k)), (0, .ref (ad 0 0)), (1, .long d0)]) hx hb dX6_digestBeds_40 hl (k := 1) rfl (by decide) (by decide) rfl (fun ls hl => ?_)
      refine lv_goto (tgt := 17) hx hb dX6_digestBeds_43 (by decide) ?_
      refine lv_iload hx hb dX6_digestBeds_17 (lv_at hl 0 rfl) ?_
      refine lv_bipush (v := 7) hx hb dX6_digestBeds_19 (by decide) ?_
      refine lv_icmp_gt (tgt := 46) hx hb dX6_digestBeds_21 (by decide) (fun c => absurd c (by decide)) (fun _ => ?_)
      refine lv_lload_n hx hb dX6_digestBeds_24 rfl (lv_at hl 1 rfl) ?_
      refine lv_ldc2 hx hb hown (hts _ qX6_digestBeds_w2) dX6_digestBeds_25 ?_
      refine lv_lmul hx hb dX6_digestBeds_28 ?_
      refine lv_aload_n hx hb dX6_digestBeds_29 rfl (lv_at hl 3 rfl) ?_
      refine lv_iload hx hb dX6_digestBeds_30 (lv_at hl 2 rfl) ?_
      refine lv_iload hx hb dX6_digestBeds_32 (lv_at hl 0 rfl) ?_
      refine q_callVi (As := [.int (nI k), .int 3]) (κ := 0) (i := 0) rfl rfl ⟨_, rfl⟩ rfl ⟨hx, hb, hml, hown, hts⟩ (kX6_ofBed_ok l D cy hI g _  (nI k) 3 hv (ofBed_ok (bedAt_okk c1 (by omega)) (by decide))) (cwV 2 hts gX6_digestBeds_X6_ofBed rfl rfl rfl (by decide +kernel) ⟨Nat.le_of_ble_eq_true rfl, Nat.le_of_ble_eq_true rfl⟩) hB hC hS rfl hl.1 (Nat.le_of_ble_eq_true rfl) dX6_digestBeds_34 ⟨Nat.le_of_ble_eq_true rfl, Nat.le_of_ble_eq_true rfl⟩ (fun H locs hC hS => ?_)
      refine lv_i2l hx hb dX6_digestBeds_37 rfl ?_
      refine lv_ladd hx hb dX6_digestBeds_38 ?_
      refine lv_lstore_n (lv' := [(3, .long ((((((((d * 31) + (((fX6_ofBed g (nI k) 0).2).toInt64)) * 31) + (((fX6_ofBed g (nI k) 1).2).toInt64)) * 31) + (((fX6_ofBed g (nI k) 2).2).toInt64)) * 31) + (((fX6_ofBed g (nI k) 3).2).toInt64))), (6, .int 3), (5, .int (nI k)), (0, .ref (ad 0 0)), (1, .long d0)]) hx hb dX6_digestBeds_39 rfl hl (by decide) rfl (fun ls hl => ?_)
      refine lv_iinc (v := 4) (lv' := [(6, .int 4), (3, .long ((((((((d * 31) + (((fX6_ofBed g (nI k) 0).2).toInt64)) * 31) + (((fX6_ofBed g (nI k) 1).2).toInt64)) * 31) + (((fX6_ofBed g (nI k) 2).2).toInt64)) * 31) + (((fX6_ofBed g (nI k) 3).2).toInt64))), (5, .int (nI k)), (0, .ref (ad 0 0)), (1, .long d0)]) hx hb dX6_digestBeds_40 hl (k := 1) rfl (by decide) (by decide) rfl (fun ls hl => ?_)
      refine lv_goto (tgt := 17) hx hb dX6_digestBeds_43 (by decide) ?_
      refine lv_iload hx hb dX6_digestBeds_17 (lv_at hl 0 rfl) ?_
      refine lv_bipush (v := 7) hx hb dX6_digestBeds_19 (by decide) ?_
      refine lv_icmp_gt (tgt := 46) hx hb dX6_digestBeds_21 (by decide) (fun c => absurd c (by decide)) (fun _ => ?_)
      refine lv_lload_n hx hb dX6_digestBeds_24 rfl (lv_at hl 1 rfl) ?_
      refine lv_ldc2 hx hb hown (hts _ qX6_digestBeds_w2) dX6_digestBeds_25 ?_
      refine lv_lmul hx hb dX6_digestBeds_28 ?_
      refine lv_aload_n hx hb dX6_digestBeds_29 rfl (lv_at hl 3 rfl) ?_
      refine lv_iload hx hb dX6_digestBeds_30 (lv_at hl 2 rfl) ?_
      refine lv_iload hx hb dX6_digestBeds_32 (lv_at hl 0 rfl) ?_
      refine q_callVi (As := [.int (nI k), .int 4]) (κ := 0) (i := 0) rfl rfl ⟨_, rfl⟩ rfl ⟨hx, hb, hml, hown, hts⟩ (kX6_ofBed_ok l D cy hI g _  (nI k) 4 hv (ofBed_ok (bedAt_okk c1 (by omega)) (by decide))) (cwV 2 hts gX6_digestBeds_X6_ofBed rfl rfl rfl (by decide +kernel) ⟨Nat.le_of_ble_eq_true rfl, Nat.le_of_ble_eq_true rfl⟩) hB hC hS rfl hl.1 (Nat.le_of_ble_eq_true rfl) dX6_digestBeds_34 ⟨Nat.le_of_ble_eq_true rfl, Nat.le_of_ble_eq_true rfl⟩ (fun H locs hC hS => ?_)
      refine lv_i2l hx hb dX6_digestBeds_37 rfl ?_
      refine lv_ladd hx hb dX6_digestBeds_38 ?_
      refine lv_lstore_n (lv' := [(3, .long ((((((((((d * 31) + (((fX6_ofBed g (nI k) 0).2).toInt64)) * 31) + (((fX6_ofBed g (nI k) 1).2).toInt64)) * 31) + (((fX6_ofBed g (nI k) 2).2).toInt64)) * 31) + (((fX6_ofBed g (nI k) 3).2).toInt64)) * 31) + (((fX6_ofBed g (nI k) 4).2).toInt64))), (6, .int 4), (5, .int (nI k)), (0, .ref (ad 0 0)), (1, .long d0)]) hx hb dX6_digestBeds_39 rfl hl (by decide) rfl (fun ls hl => ?_)
      refine lv_iinc (v := 5) (lv' := [(6, .int 5), (3, .long ((((((((((d * 31) + (((fX6_ofBed g (nI k) 0).2).toInt64)) * 31) + (((fX6_ofBed g (nI k) 1).2).toInt64)) * 31) + (((fX6_ofBed g (nI k) 2).2).toInt64)) * 31) + (((fX6_ofBed g (nI k) 3).2).toInt64)) * 31) + (((fX6_ofBed g (nI k) 4).2).toInt64))), (5, .int (nI k)), (0, .ref (ad 0 0)), (1, .long d0)]) hx hb dX6_digestBeds_40 hl (k := 1) rfl (by decide) (by decide) rfl (fun ls hl => ?_)
      refine lv_goto (tgt := 17) hx hb dX6_digestBeds_43 (by decide) ?_
      refine lv_iload hx hb dX6_digestBeds_17 (lv_at hl 0 rfl) ?_
      refine lv_bipush (v := 7) hx hb dX6_digestBeds_19 (by decide) ?_
      refine lv_icmp_gt (tgt := 46) hx hb dX6_digestBeds_21 (by decide) (fun c => absurd c (by decide)) (fun _ => ?_)
      refine lv_lload_n hx hb dX6_digestBeds_24 rfl (lv_at hl 1 rfl) ?_
      refine lv_ldc2 hx hb hown (hts _ qX6_digestBeds_w2) dX6_digestBeds_25 ?_
      refine lv_lmul hx hb dX6_digestBeds_28 ?_
      refine lv_aload_n hx hb dX6_digestBeds_29 rfl (lv_at hl 3 rfl) ?_
      refine lv_iload hx hb dX6_digestBeds_30 (lv_at hl 2 rfl) ?_
      refine lv_iload hx hb dX6_digestBeds_32 (lv_at hl 0 rfl) ?_
      refine q_callVi (As := [.int (nI k), .int 5]) (κ := 0) (i := 0) rfl rfl ⟨_, rfl⟩ rfl ⟨hx, hb, hml, hown, hts⟩ (kX6_ofBed_ok l D cy hI g _  (nI k) 5 hv (ofBed_ok (bedAt_okk c1 (by omega)) (by decide))) (cwV 2 hts gX6_digestBeds_X6_ofBed rfl rfl rfl (by decide +kernel) ⟨Nat.le_of_ble_eq_true rfl, Nat.le_of_ble_eq_true rfl⟩) hB hC hS rfl hl.1 (Nat.le_of_ble_eq_true rfl) dX6_digestBeds_34 ⟨Nat.le_of_ble_eq_true rfl, Nat.le_of_ble_eq_true rfl⟩ (fun H locs hC hS => ?_)
      refine lv_i2l hx hb dX6_digestBeds_37 rfl ?_
      refine lv_ladd hx hb dX6_digestBeds_38 ?_
      refine lv_lstore_n (lv' := [(3, .long ((((((((((((d * 31) + (((fX6_ofBed g (nI k) 0).2).toInt64)) * 31) + (((fX6_ofBed g (nI k) 1).2).toInt64)) * 31) + (((fX6_ofBed g (nI k) 2).2).toInt64)) * 31) + (((fX6_ofBed g (nI k) 3).2).toInt64)) * 31) + (((fX6_ofBed g (nI k) 4).2).toInt64)) * 31) + (((fX6_ofBed g (nI k) 5).2).toInt64))), (6, .int 5), (5, .int (nI k)), (0, .ref (ad 0 0)), (1, .long d0)]) hx hb dX6_digestBeds_39 rfl hl (by decide) rfl (fun ls hl => ?_)
      refine lv_iinc (v := 6) (lv' := [(6, .int 6), (3, .long ((((((((((((d * 31) + (((fX6_ofBed g (nI k) 0).2).toInt64)) * 31) + (((fX6_ofBed g (nI k) 1).2).toInt64)) * 31) + (((fX6_ofBed g (nI k) 2).2).toInt64)) * 31) + (((fX6_ofBed g (nI k) 3).2).toInt64)) * 31) + (((fX6_ofBed g (nI k) 4).2).toInt64)) * 31) + (((fX6_ofBed g (nI k) 5).2).toInt64))), (5, .int (nI k)), (0, .ref (ad 0 0)), (1, .long d0)]) hx hb dX6_digestBeds_40 hl (k := 1) rfl (by decide) (by decide) rfl (fun ls hl => ?_)
      refine lv_goto (tgt := 17) hx hb dX6_digestBeds_43 (by decide) ?_
      refine lv_iload hx hb dX6_digestBeds_17 (lv_at hl 0 rfl) ?_
      refine lv_bipush (v := 7) hx hb dX6_digestBeds_19 (by decide) ?_
      refine lv_icmp_gt (tgt := 46) hx hb dX6_digestBeds_21 (by decide) (fun c => absurd c (by decide)) (fun _ => ?_)
      refine lv_lload_n hx hb dX6_digestBeds_24 rfl (lv_at hl 1 rfl) ?_
      refine lv_ldc2 hx hb hown (hts _ qX6_digestBeds_w2) dX6_digestBeds_25 ?_
      refine lv_lmul hx hb dX6_digestBeds_28 ?_
      refine lv_aload_n hx hb dX6_digestBeds_29 rfl (lv_at hl 3 rfl) ?_
      refine lv_iload hx hb dX6_digestBeds_30 (lv_at hl 2 rfl) ?_
      refine lv_iload hx hb dX6_digestBeds_32 (lv_at hl 0 rfl) ?_
      refine q_callVi (As := [.int (nI k), .int 6]) (κ := 0) (i := 0) rfl rfl ⟨_, rfl⟩ rfl ⟨hx, hb, hml, hown, hts⟩ (kX6_ofBed_ok l D cy hI g _  (nI k) 6 hv (ofBed_ok (bedAt_okk c1 (by omega)) (by decide))) (cwV 2 hts gX6_digestBeds_X6_ofBed rfl rfl rfl (by decide +kernel) ⟨Nat.le_of_ble_eq_true rfl, Nat.le_of_ble_eq_true rfl⟩) hB hC hS rfl hl.1 (Nat.le_of_ble_eq_true rfl) dX6_digestBeds_34 ⟨Nat.le_of_ble_eq_true rfl, Nat.le_of_ble_eq_true rfl⟩ (fun H locs hC hS => ?_)
      refine lv_i2l hx hb dX6_digestBeds_37 rfl ?_
      refine lv_ladd hx hb dX6_digestBeds_38 ?_
      refine lv_lstore_n (lv' := [(3, .long ((((((((((((((d * 31) + (((fX6_ofBed g (nI k) 0).2).toInt64)) * 31) + (((fX6_ofBed g (nI k) 1).2).toInt64)) * 31) + (((fX6_ofBed g (nI k) 2).2).toInt64)) * 31) + (((fX6_ofBed g (nI k) 3).2).toInt64)) * 31) + (((fX6_ofBed g (nI k) 4).2).toInt64)) * 31) + (((fX6_ofBed g (nI k) 5).2).toInt64)) * 31) + (((fX6_ofBed g (nI k) 6).2).toInt64))), (6, .int 6), (5, .int (nI k)), (0, .ref (ad 0 0)), (1, .long d0)]) hx hb dX6_digestBeds_39 rfl hl (by decide) rfl (fun ls hl => ?_)
      refine lv_iinc (v := 7) (lv' := [(6, .int 7), (3, .long ((((((((((((((d * 31) + (((fX6_ofBed g (nI k) 0).2).toInt64)) * 31) + (((fX6_ofBed g (nI k) 1).2).toInt64)) * 31) + (((fX6_ofBed g (nI k) 2).2).toInt64)) * 31) + (((fX6_ofBed g (nI k) 3).2).toInt64)) * 31) + (((fX6_ofBed g (nI k) 4).2).toInt64)) * 31) + (((fX6_ofBed g (nI k) 5).2).toInt64)) * 31) + (((fX6_ofBed g (nI k) 6).2).toInt64))), (5, .int (nI k)), (0, .ref (ad 0 0)), (1, .long d0)]) hx hb dX6_digestBeds_40 hl (k := 1) rfl (by decide) (by decide) rfl (fun ls hl => ?_)
      refine lv_goto (tgt := 17) hx hb dX6_digestBeds_43 (by decide) ?_
      refine lv_iload hx hb dX6_digestBeds_17 (lv_at hl 0 rfl) ?_
      refine lv_bipush (v := 7) hx hb dX6_digestBeds_19 (by decide) ?_
      refine lv_icmp_gt (tgt := 46) hx hb dX6_digestBeds_21 (by decide) (fun c => absurd c (by decide)) (fun _ => ?_)
      refine lv_lload_n hx hb dX6_digestBeds_24 rfl (lv_at hl 1 rfl) ?_
      refine lv_ldc2 hx hb hown (hts _ qX6_digestBeds_w2) dX6_digestBeds_25 ?_
      refine lv_lmul hx hb dX6_digestBeds_28 ?_
      refine lv_aload_n hx hb dX6_digestBeds_29 rfl (lv_at hl 3 rfl) ?_
      refine lv_iload hx hb dX6_digestBeds_30 (lv_at hl 2 rfl) ?_
      refine lv_iload hx hb dX6_digestBeds_32 (lv_at hl 0 rfl) ?_
      refine q_callVi (As := [.int (nI k), .int 7]) (κ := 0) (i := 0) rfl rfl ⟨_, rfl⟩ rfl ⟨hx, hb, hml, hown, hts⟩ (kX6_ofBed_ok l D cy hI g _  (nI k) 7 hv (ofBed_ok (bedAt_okk c1 (by omega)) (by decide))) (cwV 2 hts gX6_digestBeds_X6_ofBed rfl rfl rfl (by decide +kernel) ⟨Nat.le_of_ble_eq_true rfl, Nat.le_of_ble_eq_true rfl⟩) hB hC hS rfl hl.1 (Nat.le_of_ble_eq_true rfl) dX6_digestBeds_34 ⟨Nat.le_of_ble_eq_true rfl, Nat.le_of_ble_eq_true rfl⟩ (fun H locs hC hS => ?_)
      refine lv_i2l hx hb dX6_digestBeds_37 rfl ?_
      refine lv_ladd hx hb dX6_digestBeds_38 ?_
      refine lv_lstore_n (lv' := [(3, .long ((((((((((((((((d * 31) + (((fX6_ofBed g (nI k) 0).2).toInt64)) * 31) + (((fX6_ofBed g (nI k) 1).2).toInt64)) * 31) + (((fX6_ofBed g (nI k) 2).2).toInt64)) * 31) + (((fX6_ofBed g (nI k) 3).2).toInt64)) * 31) + (((fX6_ofBed g (nI k) 4).2).toInt64)) * 31) + (((fX6_ofBed g (nI k) 5).2).toInt64)) * 31) + (((fX6_ofBed g (nI k) 6).2).toInt64)) * 31) + (((fX6_ofBed g (nI k) 7).2).toInt64))), (6, .int 7), (5, .int (nI k)), (0, .ref (ad 0 0)), (1, .long d0)]) hx hb dX6_digestBeds_39 rfl hl (by decide) rfl (fun ls hl => ?_)
      refine lv_iinc (v := 8) (lv' := [(6, .int 8), (3, .long ((((((((((((((((d * 31) + (((fX6_ofBed g (nI k) 0).2).toInt64)) * 31) + (((fX6_ofBed g (nI k) 1).2).toInt64)) * 31) + (((fX6_ofBed g (nI k) 2).2).toInt64)) * 31) + (((fX6_ofBed g (nI k) 3).2).toInt64)) * 31) + (((fX6_ofBed g (nI k) 4).2).toInt64)) * 31) + (((fX6_ofBed g (nI k) 5).2).toInt64)) * 31) + (((fX6_ofBed g (nI k) 6).2).toInt64)) * 31) + (((fX6_ofBed g (nI k) 7).2).toInt64))), (5, .int (nI k)), (0, .ref (ad 0 0)), (1, .long d0)]) hx hb dX6_digestBeds_40 hl (k := 1) rfl (by decide) (by decide) rfl (fun ls hl => ?_)
      refine lv_goto (tgt := 17) hx hb dX6_digestBeds_43 (by decide) ?_
      refine lv_iload hx hb dX6_digestBeds_17 (lv_at hl 0 rfl) ?_
      refine lv_bipush (v := 7) hx hb dX6_digestBeds_19 (by decide) ?_
      refine lv_icmp_gt (tgt := 46) hx hb dX6_digestBeds_21 (by decide) (fun _ => ?_) (fun c => absurd c (by decide))
      refine lv_lload_n hx hb dX6_digestBeds_46 rfl (lv_at hl 1 rfl) ?_
      refine lv_ldc2 hx hb hown (hts _ qX6_digestBeds_w2) dX6_digestBeds_47 ?_
      refine lv_lmul hx hb dX6_digestBeds_50 ?_
      refine lv_aload_n hx hb dX6_digestBeds_51 rfl (lv_at hl 3 rfl) ?_
      refine lv_iload hx hb dX6_digestBeds_52 (lv_at hl 2 rfl) ?_
      refine lv_bipush (v := 25) hx hb dX6_digestBeds_54 (by decide) ?_
      refine q_callVi (As := [.int (nI k), .int 25]) (κ := 0) (i := 0) rfl rfl ⟨_, rfl⟩ rfl ⟨hx, hb, hml, hown, hts⟩ (kX6_dryIn_ok l D cy hI g _  (nI k) 25 hv (dryIn_ok (bedAt_okk c1 (by omega)) (by unfold fX6_needWarmth; decide))) (cwV 2 hts gX6_digestBeds_X6_dryIn rfl rfl rfl (by decide +kernel) ⟨Nat.le_of_ble_eq_true rfl, Nat.le_of_ble_eq_true rfl⟩) hB hC hS rfl hl.1 (Nat.le_of_ble_eq_true rfl) dX6_digestBeds_56 ⟨Nat.le_of_ble_eq_true rfl, Nat.le_of_ble_eq_true rfl⟩ (fun H locs hC hS => ?_)
      refine lv_i2l hx hb dX6_digestBeds_59 rfl ?_
      refine lv_ladd hx hb dX6_digestBeds_60 ?_
      refine lv_lstore_n (lv' := [(3, .long ((((((((((((((((((d * 31) + (((fX6_ofBed g (nI k) 0).2).toInt64)) * 31) + (((fX6_ofBed g (nI k) 1).2).toInt64)) * 31) + (((fX6_ofBed g (nI k) 2).2).toInt64)) * 31) + (((fX6_ofBed g (nI k) 3).2).toInt64)) * 31) + (((fX6_ofBed g (nI k) 4).2).toInt64)) * 31) + (((fX6_ofBed g (nI k) 5).2).toInt64)) * 31) + (((fX6_ofBed g (nI k) 6).2).toInt64)) * 31) + (((fX6_ofBed g (nI k) 7).2).toInt64)) * 31) + (((fX6_dryIn g (nI k) 25).2).toInt64))), (6, .int 8), (5, .int (nI k)), (0, .ref (ad 0 0)), (1, .long d0)]) hx hb dX6_digestBeds_61 rfl hl (by decide) rfl (fun ls hl => ?_)
      refine lv_iinc (v := nI (k + 1)) (lv' := [(5, .int (nI (k + 1))), (3, .long ((((((((((((((((((d * 31) + (((fX6_ofBed g (nI k) 0).2).toInt64)) * 31) + (((fX6_ofBed g (nI k) 1).2).toInt64)) * 31) + (((fX6_ofBed g (nI k) 2).2).toInt64)) * 31) + (((fX6_ofBed g (nI k) 3).2).toInt64)) * 31) + (((fX6_ofBed g (nI k) 4).2).toInt64)) * 31) + (((fX6_ofBed g (nI k) 5).2).toInt64)) * 31) + (((fX6_ofBed g (nI k) 6).2).toInt64)) * 31) + (((fX6_ofBed g (nI k) 7).2).toInt64)) * 31) + (((fX6_dryIn g (nI k) 25).2).toInt64))), (6, .int 8), (0, .ref (ad 0 0)), (1, .long d0)]) hx hb dX6_digestBeds_62 hl (k := 2) rfl (nI_1 _) (by decide) rfl (fun ls hl => ?_)
      refine lv_goto (tgt := 5) hx hb dX6_digestBeds_65 (by decide) ?_
      have e9 : fX6_digestBeds_L5 g d0 (n + 1) k d = fX6_digestBeds_L5 g d0 n (k + 1) ((((((((((((((((((d * 31) + (((fX6_ofBed g (nI k) 0).2).toInt64)) * 31) + (((fX6_ofBed g (nI k) 1).2).toInt64)) * 31) + (((fX6_ofBed g (nI k) 2).2).toInt64)) * 31) + (((fX6_ofBed g (nI k) 3).2).toInt64)) * 31) + (((fX6_ofBed g (nI k) 4).2).toInt64)) * 31) + (((fX6_ofBed g (nI k) 5).2).toInt64)) * 31) + (((fX6_ofBed g (nI k) 6).2).toInt64)) * 31) + (((fX6_ofBed g (nI k) 7).2).toInt64)) * 31) + (((fX6_dryIn g (nI k) 25).2).toInt64)) := by rw [fX6_digestBeds_L5, if_neg c1]
      rw [e9] at kk
      exact ih (k + 1) ((((((((((((((((((d * 31) + (((fX6_ofBed g (nI k) 0).2).toInt64)) * 31) + (((fX6_ofBed g (nI k) 1).2).toInt64)) * 31) + (((fX6_ofBed g (nI k) 2).2).toInt64)) * 31) + (((fX6_ofBed g (nI k) 3).2).toInt64)) * 31) + (((fX6_ofBed g (nI k) 4).2).toInt64)) * 31) + (((fX6_ofBed g (nI k) 5).2).toInt64)) * 31) + (((fX6_ofBed g (nI k) 6).2).toInt64)) * 31) + (((fX6_ofBed g (nI k) 7).2).toInt64)) * 31) + (((fX6_dryIn g (nI k) 25).2).toInt64)) (by omega) (by have q9 := lk_lt c1 (by omega); omega) hc1  H locs ls hC hS (lv_sub hl [0, 1, 3, 4] rfl) kk
set_option maxRecDepth 100000 in
set_option maxHeartbeats 4000000 in
theorem kX6_digestBeds (l : Launch) (D : va_G) (cy : Nat → ClassId) {ad : Nat → Nat → Nat} (hI : cI ad) (g : Gd) (sz : Nat) (d0 : Int64) (hv : IvC g) : Met l yX6_digestBeds wsX6_digestBeds ({ frames := 3, cells := 0, slots := 0, locals := 70 } : Room) (va_Pc [.ref (ad 0 0), .long d0] (cPre D cy ad g sz)) (cQl D cy ad (fX6_digestBeds g d0) g sz) 0 0 (cA ad sz) := by
  refine q_start (cc := cX6_digestBeds) (maxL := 7) (ret := (some .long)) (own := RX6) (by decide) rfl rfl (Nat.le_of_ble_eq_true rfl) ?_
  intro p e s m below meth c hx hb hr hml hts hown hlocks ⟨hsz, hC, hB⟩ ls hl
  subst hsz
  have hS : va_S (cA ad s.heap.size) s.heap s.heap [] := va_S.rf
  have hA : ∀ κ i : Nat, cV κ i → cA ad s.heap.size (ad κ i) := fun κ i h => Or.inl ⟨κ, i, h, rfl⟩
  have hl : lv_has ls 7 [(0, .ref (ad 0 0)), (1, .long d0)] := hl
  refine lv_lload_n hx hb dX6_digestBeds_0 rfl (lv_at hl 1 rfl) ?_
  refine lv_lstore_n (lv' := [(3, .long d0), (0, .ref (ad 0 0)), (1, .long d0)]) hx hb dX6_digestBeds_1 rfl hl (by decide) rfl (fun ls hl => ?_)
  refine lv_iconst (v := 0) hx hb dX6_digestBeds_2 (by decide) ?_
  refine lv_istore (lv' := [(5, .int 0), (3, .long d0), (0, .ref (ad 0 0)), (1, .long d0)]) hx hb dX6_digestBeds_3 hl (by decide) rfl (fun ls hl => ?_)
  refine kX6_digestBeds_L5 l D cy hI g d0  hv  hx hb hr hml hts hown hlocks hB 6 0 d0 (by omega) (by have := (IvC.n9 hv).1; omega) (IvC.n9 hv).2  _ _ ls hC hS (lv_sub hl [0, 1, 2, 3] rfl) (fun H locs ls hC hS hl => ?_)
  refine lv_lload_n hx hb dX6_digestBeds_68 rfl (lv_at hl 0 rfl) ?_
  exact q_retl hx hb hr hB hC hS rfl rfl hlocks dX6_digestBeds_69
def fX6_digestLots_L49 (g : Gd) (d0 : Int64) (k : Nat) : Nat → Nat → Int64 → Int64
  | 0, j, d => d
  | n + 1, j, d => if (g 0 0 7) ≤ (nI j) then (d) else (fX6_digestLots_L49 g d0 k n (j + 1) ((d * 31) + (((fX6_kilosOf g (nI k) (nI j)).2).toInt64)))
def fX6_digestLots_L5 (g : Gd) (d0 : Int64) : Nat → Nat → Int64 → Int64
  | 0, k, d => d
  | n + 1, k, d => if (g 0 0 10) ≤ (nI k) then (d) else (fX6_digestLots_L5 g d0 n (k + 1) (fX6_digestLots_L49 g d0 k 7 0 ((((((((((((((((((((((((d * 31) + (((fX6_ofLot g (nI k) 0).2).toInt64)) * 31) + (((fX6_ofLot g (nI k) 1).2).toInt64)) * 31) + (((fX6_ofLot g (nI k) 2).2).toInt64)) * 31) + (((fX6_ofLot g (nI k) 3).2).toInt64)) * 31) + (((fX6_ofLot g (nI k) 4).2).toInt64)) * 31) + (((fX6_ofLot g (nI k) 5).2).toInt64)) * 31) + (((fX6_ofLot g (nI k) 6).2).toInt64)) * 31) + (((fX6_ofLot g (nI k) 7).2).toInt64)) * 31) + (((fX6_ofLot g (nI k) 8).2).toInt64)) * 31) + (((fX6_ofLot g (nI k) 9).2).toInt64)) * 31) + (((fX6_ofLot g (nI k) 10).2).toInt64)) * 31) + (((fX6_ofLot g (nI k) 11).2).toInt64))))
def fX6_digestLots (g : Gd) (d0 : Int64) : Int64 := fX6_digestLots_L5 g d0 13 0 d0
theorem qX6_digestLots_w1 : Cond.fieldLink RX6 58 "CherryStation" "lotCount" "I" ∈ wsX6_digestLots := List.mem_of_getElem? (i := 1) rfl
theorem qX6_digestLots_w2 : Cond.constantLong RX6 364 (31) ∈ wsX6_digestLots := List.mem_of_getElem? (i := 2) rfl
theorem qX6_digestLots_w3 : Cond.fieldLink RX6 48 "CherryStation" "farmCount" "I" ∈ wsX6_digestLots := List.mem_of_getElem? (i := 3) rfl
theorem iX6_digestLots_X6 : ∀ w ∈ wsX60, w ∈ wsX6_digestLots := fun _ h => (List.mem_cons_of_mem _ (List.mem_append_left _ (List.mem_append_left _ (List.mem_append_left _ (List.mem_append_left _ (List.mem_append_left _ (List.mem_append_right _ h)))))))
set_option maxRecDepth 100000 in
set_option maxHeartbeats 4000000 in
theorem kX6_digestLots_L49 (l : Launch) (D : va_G) (cy : Nat → ClassId) {ad : Nat → Nat → Nat} (hI : cI ad) (g : Gd) (d0 : Int64) (k : Nat) (hv : IvC g) (hlot : fX6_lotAt g (nI k) = 0) {p : Program} {e : Env} {s : State} {m : MethodId} {below : List Frame} {meth : Method} {c : Code} {Q : State → Prop} (hx : p.tables.exec = Jvm.exec) (hb : c.code = cX6_digestLots) (hr : meth.sig.returnType = (some .long)) (hml : c.maxLocals = 7) (hts : ∀ w ∈ wsX6_digestLots, w.before [.ref (ad 0 0), .long d0].toArray s = true) (hown : s.vm.findClass RX6 = some m.cls) (hlocks : meth.locks = false) (hB : CB D cy ad s) : ∀ (n j : Nat) (d : Int64) (hn : j + n = 7) (hk : (j : Int) ≤ (g 0 0 7).toInt) (hc1 : (g 0 0 7).toInt ≤ 6)   (H : Heap) (locs : List Loc) (ls : Array Slot) (hC : CW D cy ad g H) (hS : va_S (cA ad s.heap.size) s.heap H locs) (hl : lv_has ls 7 [(6, .int (nI j)), (3, .long d), (5, .int (nI k)), (0, .ref (ad 0 0)), (1, .long d0)]) (kk : ∀ (H : Heap) (locs : List Loc) (ls : Array Slot), CW D cy ad g H → va_S (cA ad s.heap.size) s.heap H locs → lv_has ls 7 [(3, .long (fX6_digestLots_L49 g d0 k n j d)), (5, .int (nI k)), (0, .ref (ad 0 0)), (1, .long d0)] → W p l e ({ frames := 4, cells := 0, slots := 0, locals := 87 } : Room) s m [.ref (ad 0 0), .long d0].toArray below meth c H locs 0 0 Q (F0 m 80 ls [])), W p l e ({ frames := 4, cells := 0, slots := 0, locals := 87 } : Room) s m [.ref (ad 0 0), .long d0].toArray below meth c H locs 0 0 Q (F0 m 49 ls []) := by
  have hA : ∀ κ i : Nat, cV κ i → cA ad s.heap.size (ad κ i) := fun κ i h => Or.inl ⟨κ, i, h, rfl⟩
  intro n
  induction n with
  | zero => intro j d hn hk hc1 H locs ls hC hS hl kk; exact absurd hk (by omega)
  | succ n ih =>
    intro j d hn hk hc1 H locs ls hC hS hl kk
    refine lv_iload hx hb dX6_digestLots_49 (lv_at hl 0 rfl) ?_
    refine lv_aload_n hx hb dX6_digestLots_51 rfl (lv_at hl 3 rfl) ?_
    refine gt_0_7 hx hb hts iX6_digestLots_X6 hown hB.1 hC qX6_digestLots_w3 dX6_digestLots_52 ?_
    refine lv_icmp_ge (tgt := 80) hx hb dX6_digestLots_55 (by decide) (fun c2 => ?_) (fun c2 => ?_)
    · skip
      have e9 : fX6_digestLots_L49 g d0 k (n + 1) j d = d := by rw [fX6_digestLots_L49, if_pos c2]
      rw [e9] at kk
      exact kk H locs ls hC hS (lv_sub hl [1, 2, 3, 4] rfl)
    · skip
      refine lv_lload_n hx hb dX6_digestLots_58 rfl (lv_at hl 1 rfl) ?_
      refine lv_ldc2 hx hb hown (hts _ qX6_digestLots_w2) dX6_digestLots_59 ?_
      refine lv_lmul hx hb dX6_digestLots_62 ?_
      refine lv_aload_n hx hb dX6_digestLots_63 rfl (lv_at hl 3 rfl) ?_
      refine lv_iload hx hb dX6_digestLots_64 (lv_at hl 2 rfl) ?_
      refine lv_iload hx hb dX6_digestLots_66 (lv_at hl 0 rfl) ?_
      refine q_callVi (As := [.int (nI k), .int (nI j)]) (κ := 0) (i := 0) rfl rfl ⟨_, rfl⟩ rfl ⟨hx, hb, hml, hown, hts⟩ (kX6_kilosOf_ok l D cy hI g _  (nI k) (nI j) hv (kilosOf_ok hlot (needFarm_okk c2 (by omega)))) (cwV 2 hts gX6_digestLots_X6_kilosOf rfl rfl rfl (by decide +kernel) ⟨Nat.le_of_ble_eq_true rfl, Nat.le_of_ble_eq_true rfl⟩) hB hC hS rfl hl.1 (Nat.le_of_ble_eq_true rfl) dX6_digestLots_68 ⟨Nat.le_of_ble_eq_true rfl, Nat.le_of_ble_eq_true rfl⟩ (fun H locs hC hS => ?_)
      refine lv_i2l hx hb dX6_digestLots_71 rfl ?_
      refine lv_ladd hx hb dX6_digestLots_72 ?_
      refine lv_lstore_n (lv' := [(3, .long ((d * 31) + (((fX6_kilosOf g (nI k) (nI j)).2).toInt64))), (6, .int (nI j)), (5, .int (nI k)), (0, .ref (ad 0 0)), (1, .long d0)]) hx hb dX6_digestLots_73 rfl hl (by decide) rfl (fun ls hl => ?_)
      refine lv_iinc (v := nI (j + 1)) (lv' := [(6, .int (nI (j + 1))), (3, .long ((d * 31) + (((fX6_kilosOf g (nI k) (nI j)).2).toInt64))), (5, .int (nI k)), (0, .ref (ad 0 0)), (1, .long d0)]) hx hb dX6_digestLots_74 hl (k := 1) rfl (nI_1 _) (by decide) rfl (fun ls hl => ?_)
      refine lv_goto (tgt := 49) hx hb dX6_digestLots_77 (by decide) ?_
      have e9 : fX6_digestLots_L49 g d0 k (n + 1) j d = fX6_digestLots_L49 g d0 k n (j + 1) ((d * 31) + (((fX6_kilosOf g (nI k) (nI j)).2).toInt64)) := by rw [fX6_digestLots_L49, if_neg c2]
      rw [e9] at kk
      exact ih (j + 1) ((d * 31) + (((fX6_kilosOf g (nI k) (nI j)).2).toInt64)) (by omega) (by have q9 := lk_lt c2 (by omega); omega) hc1  H locs ls hC hS (lv_sub hl [0, 1, 2, 3, 4] rfl) kk
set_option maxRecDepth 100000 in
set_option maxHeartbeats 4000000 in
theorem kX6_digestLots_L5 (l : Launch) (D : va_G) (cy : Nat → ClassId) {ad : Nat → Nat → Nat} (hI : cI ad) (g : Gd) (d0 : Int64) (hv : IvC g)  {p : Program} {e : Env} {s : State} {m : MethodId} {below : List Frame} {meth : Method} {c : Code} {Q : State → Prop} (hx : p.tables.exec = Jvm.exec) (hb : c.code = cX6_digestLots) (hr : meth.sig.returnType = (some .long)) (hml : c.maxLocals = 7) (hts : ∀ w ∈ wsX6_digestLots, w.before [.ref (ad 0 0), .long d0].toArray s = true) (hown : s.vm.findClass RX6 = some m.cls) (hlocks : meth.locks = false) (hB : CB D cy ad s) : ∀ (n k : Nat) (d : Int64) (hn : k + n = 13) (hk : (k : Int) ≤ (g 0 0 10).toInt) (hc1 : (g 0 0 10).toInt ≤ 12)   (H : Heap) (locs : List Loc) (ls : Array Slot) (hC : CW D cy ad g H) (hS : va_S (cA ad s.heap.size) s.heap H locs) (hl : lv_has ls 7 [(5, .int (nI k)), (3, .long d), (0, .ref (ad 0 0)), (1, .long d0)]) (kk : ∀ (H : Heap) (locs : List Loc) (ls : Array Slot), CW D cy ad g H → va_S (cA ad s.heap.size) s.heap H locs → lv_has ls 7 [(3, .long (fX6_digestLots_L5 g d0 n k d)), (0, .ref (ad 0 0)), (1, .long d0)] → W p l e ({ frames := 4, cells := 0, slots := 0, locals := 87 } : Room) s m [.ref (ad 0 0), .long d0].toArray below meth c H locs 0 0 Q (F0 m 86 ls [])), W p l e ({ frames := 4, cells := 0, slots := 0, locals := 87 } : Room) s m [.ref (ad 0 0), .long d0].toArray below meth c H locs 0 0 Q (F0 m 5 ls []) := by
  have hA : ∀ κ i : Nat, cV κ i → cA ad s.heap.size (ad κ i) := fun κ i h => Or.inl ⟨κ, i, h, rfl⟩
  intro n
  induction n with
  | zero => intro k d hn hk hc1 H locs ls hC hS hl kk; exact absurd hk (by omega)
  | succ n ih =>
    intro k d hn hk hc1 H locs ls hC hS hl kk
    refine lv_iload hx hb dX6_digestLots_5 (lv_at hl 0 rfl) ?_
    refine lv_aload_n hx hb dX6_digestLots_7 rfl (lv_at hl 2 rfl) ?_
    refine gt_0_10 hx hb hts iX6_digestLots_X6 hown hB.1 hC qX6_digestLots_w1 dX6_digestLots_8 ?_
    refine lv_icmp_ge (tgt := 86) hx hb dX6_digestLots_11 (by decide) (fun c1 => ?_) (fun c1 => ?_)
    · skip
      have e9 : fX6_digestLots_L5 g d0 (n + 1) k d = d := by rw [fX6_digestLots_L5, if_pos c1]
      rw [e9] at kk
      exact kk H locs ls hC hS (lv_sub hl [1, 2, 3] rfl)
    · skip
      refine lv_iconst (v := 0) hx hb dX6_digestLots_14 (by decide) ?_
      refine lv_istore (lv' := [(6, .int 0), (5, .int (nI k)), (3, .long d), (0, .ref (ad 0 0)), (1, .long d0)]) hx hb dX6_digestLots_15 hl (by decide) rfl (fun ls hl => ?_)
      refine lv_iload hx hb dX6_digestLots_17 (lv_at hl 0 rfl) ?_
      refine lv_bipush (v := 11) hx hb dX6_digestLots_19 (by decide) ?_
      refine lv_icmp_gt (tgt := 46) hx hb dX6_digestLots_21 (by decide) (fun c => absurd c (by decide)) (fun _ => ?_)
      refine lv_lload_n hx hb dX6_digestLots_24 rfl (lv_at hl 2 rfl) ?_
      refine lv_ldc2 hx hb hown (hts _ qX6_digestLots_w2) dX6_digestLots_25 ?_
      refine lv_lmul hx hb dX6_digestLots_28 ?_
      refine lv_aload_n hx hb dX6_digestLots_29 rfl (lv_at hl 3 rfl) ?_
      refine lv_iload hx hb dX6_digestLots_30 (lv_at hl 1 rfl) ?_
      refine lv_iload hx hb dX6_digestLots_32 (lv_at hl 0 rfl) ?_
      refine q_callVi (As := [.int (nI k), .int 0]) (κ := 0) (i := 0) rfl rfl ⟨_, rfl⟩ rfl ⟨hx, hb, hml, hown, hts⟩ (kX6_ofLot_ok l D cy hI g _  (nI k) 0 hv (ofLot_ok (lotAt_okk c1 (by omega)) (by decide))) (cwV 2 hts gX6_digestLots_X6_ofLot rfl rfl rfl (by decide +kernel) ⟨Nat.le_of_ble_eq_true rfl, Nat.le_of_ble_eq_true rfl⟩) hB hC hS rfl hl.1 (Nat.le_of_ble_eq_true rfl) dX6_digestLots_34 ⟨Nat.le_of_ble_eq_true rfl, Nat.le_of_ble_eq_true rfl⟩ (fun H locs hC hS => ?_)
      refine lv_i2l hx hb dX6_digestLots_37 rfl ?_
      refine lv_ladd hx hb dX6_digestLots_38 ?_
      refine lv_lstore_n (lv' := [(3, .long ((d * 31) + (((fX6_ofLot g (nI k) 0).2).toInt64))), (6, .int 0), (5, .int (nI k)), (0, .ref (ad 0 0)), (1, .long d0)]) hx hb dX6_digestLots_39 rfl hl (by decide) rfl (fun ls hl => ?_)
      refine lv_iinc (v := 1) (lv' := [(6, .int 1), (3, .long ((d * 31) + (((fX6_ofLot g (nI k) 0).2).toInt64))), (5, .int (nI k)), (0, .ref (ad 0 0)), (1, .long d0)]) hx hb dX6_digestLots_40 hl (k := 1) rfl (by decide) (by decide) rfl (fun ls hl => ?_)
      refine lv_goto (tgt := 17) hx hb dX6_digestLots_43 (by decide) ?_
      refine lv_iload hx hb dX6_digestLots_17 (lv_at hl 0 rfl) ?_
      refine lv_bipush (v := 11) hx hb dX6_digestLots_19 (by decide) ?_
      refine lv_icmp_gt (tgt := 46) hx hb dX6_digestLots_21 (by decide) (fun c => absurd c (by decide)) (fun _ => ?_)
      refine lv_lload_n hx hb dX6_digestLots_24 rfl (lv_at hl 1 rfl) ?_
      refine lv_ldc2 hx hb hown (hts _ qX6_digestLots_w2) dX6_digestLots_25 ?_
      refine lv_lmul hx hb dX6_digestLots_28 ?_
      refine lv_aload_n hx hb dX6_digestLots_29 rfl (lv_at hl 3 rfl) ?_
      refine lv_iload hx hb dX6_digestLots_30 (lv_at hl 2 rfl) ?_
      refine lv_iload hx hb dX6_digestLots_32 (lv_at hl 0 rfl) ?_
      refine q_callVi (As := [.int (nI k), .int 1]) (κ := 0) (i := 0) rfl rfl ⟨_, rfl⟩ rfl ⟨hx, hb, hml, hown, hts⟩ (kX6_ofLot_ok l D cy hI g _  (nI k) 1 hv (ofLot_ok (lotAt_okk c1 (by omega)) (by decide))) (cwV 2 hts gX6_digestLots_X6_ofLot rfl rfl rfl (by decide +kernel) ⟨Nat.le_of_ble_eq_true rfl, Nat.le_of_ble_eq_true rfl⟩) hB hC hS rfl hl.1 (Nat.le_of_ble_eq_true rfl) dX6_digestLots_34 ⟨Nat.le_of_ble_eq_true rfl, Nat.le_of_ble_eq_true rfl⟩ (fun H locs hC hS => ?_)
      refine lv_i2l hx hb dX6_digestLots_37 rfl ?_
      refine lv_ladd hx hb dX6_digestLots_38 ?_
      refine lv_lstore_n (lv' := [(3, .long ((((d * 31) + (((fX6_ofLot g (nI k) 0).2).toInt64)) * 31) + (((fX6_ofLot g (nI k) 1).2).toInt64))), (6, .int 1), (5, .int (nI k)), (0, .ref (ad 0 0)), (1, .long d0)]) hx hb dX6_digestLots_39 rfl hl (by decide) rfl (fun ls hl => ?_)
      refine lv_iinc (v := 2) (lv' := [(6, .int 2), (3, .long ((((d * 31) + (((fX6_ofLot g (nI k) 0).2).toInt64)) * 31) + (((fX6_ofLot g (nI k) 1).2).toInt64))), (5, .int (nI k)), (0, .ref (ad 0 0)), (1, .long d0)]) hx hb dX6_digestLots_40 hl (k := 1) rfl (by decide) (by decide) rfl (fun ls hl => ?_)
      refine lv_goto (tgt := 17) hx hb dX6_digestLots_43 (by decide) ?_
      refine lv_iload hx hb dX6_digestLots_17 (lv_at hl 0 rfl) ?_
      refine lv_bipush (v := 11) hx hb dX6_digestLots_19 (by decide) ?_
      refine lv_icmp_gt (tgt := 46) hx hb dX6_digestLots_21 (by decide) (fun c => absurd c (by decide)) (fun _ => ?_)
      refine lv_lload_n hx hb dX6_digestLots_24 rfl (lv_at hl 1 rfl) ?_
      refine lv_ldc2 hx hb hown (hts _ qX6_digestLots_w2) dX6_digestLots_25 ?_
      refine lv_lmul hx hb dX6_digestLots_28 ?_
      refine lv_aload_n hx hb dX6_digestLots_29 rfl (lv_at hl 3 rfl) ?_
      refine lv_iload hx hb dX6_digestLots_30 (lv_at hl 2 rfl) ?_
      refine lv_iload hx hb dX6_digestLots_32 (lv_at hl 0 rfl) ?_
      refine q_callVi (As := [.int (nI k), .int 2]) (κ := 0) (i := 0) rfl rfl ⟨_, rfl⟩ rfl ⟨hx, hb, hml, hown, hts⟩ (kX6_ofLot_ok l D cy hI g _  (nI k) 2 hv (ofLot_ok (lotAt_okk c1 (by omega)) (by decide))) (cwV 2 hts gX6_digestLots_X6_ofLot rfl rfl rfl (by decide +kernel) ⟨Nat.le_of_ble_eq_true rfl, Nat.le_of_ble_eq_true rfl⟩) hB hC hS rfl hl.1 (Nat.le_of_ble_eq_true rfl) dX6_digestLots_34 ⟨Nat.le_of_ble_eq_true rfl, Nat.le_of_ble_eq_true rfl⟩ (fun H locs hC hS => ?_)
      refine lv_i2l hx hb dX6_digestLots_37 rfl ?_
      refine lv_ladd hx hb dX6_digestLots_38 ?_
      refine lv_lstore_n (lv' := [(3, .long ((((((d * 31) + (((fX6_ofLot g (nI k) 0).2).toInt64)) * 31) + (((fX6_ofLot g (nI k) 1).2).toInt64)) * 31) + (((fX6_ofLot g (nI k) 2).2).toInt64))), (6, .int 2), (5, .int (nI k)), (0, .ref (ad 0 0)), (1, .long d0)]) hx hb dX6_digestLots_39 rfl hl (by decide) rfl (fun ls hl => ?_)
      refine lv_iinc (v := 3) (lv' := [(6, .int 3), (3, .long ((((((d * 31) + (((fX6_ofLot g (nI k) 0).2).toInt64)) * 31) + (((fX6_ofLot g (nI k) 1).2).toInt64)) * 31) + (((fX6_ofLot g (nI k) 2).2).toInt64))), (5, .int (nI k)), (0, .ref (ad 0 0)), (1, .long d0)]) hx hb dX6_digestLots_40 hl (k := 1) rfl (by decide) (by decide) rfl (fun ls hl => ?_)
      refine lv_goto (tgt := 17) hx hb dX6_digestLots_43 (by decide) ?_
      refine lv_iload hx hb dX6_digestLots_17 (lv_at hl 0 rfl) ?_
      refine lv_bipush (v := 11) hx hb dX6_digestLots_19 (by decide) ?_
      refine lv_icmp_gt (tgt := 46) hx hb dX6_digestLots_21 (by decide) (fun c => absurd c (by decide)) (fun _ => ?_)
      refine lv_lload_n hx hb dX6_digestLots_24 rfl (lv_at hl 1 rfl) ?_
      refine lv_ldc2 hx hb hown (hts _ qX6_digestLots_w2) dX6_digestLots_25 ?_
      refine lv_lmul hx hb dX6_digestLots_28 ?_
      refine lv_aload_n hx hb dX6_digestLots_29 rfl (lv_at hl 3 rfl) ?_
      refine lv_iload hx hb dX6_digestLots_30 (lv_at hl 2 rfl) ?_
      refine lv_iload hx hb dX6_digestLots_32 (lv_at hl 0 rfl) ?_
      refine q_callVi (As := [.int (nI k), .int 3]) (κ := 0) (i := 0) rfl rfl ⟨_, rfl⟩ rfl ⟨hx, hb, hml, hown, hts⟩ (kX6_ofLot_ok l D cy hI g _  (nI k) 3 hv (ofLot_ok (lotAt_okk c1 (by omega)) (by decide))) (cwV 2 hts gX6_digestLots_X6_ofLot rfl rfl rfl (by decide +kernel) ⟨Nat.le_of_ble_eq_true rfl, Nat.le_of_ble_eq_true rfl⟩) hB hC hS rfl hl.1 (Nat.le_of_ble_eq_true rfl) dX6_digestLots_34 ⟨Nat.le_of_ble_eq_true rfl, Nat.le_of_ble_eq_true rfl⟩ (fun H locs hC hS => ?_)
      refine lv_i2l hx hb dX6_digestLots_37 rfl ?_
      refine lv_ladd hx hb dX6_digestLots_38 ?_
      refine lv_lstore_n (lv' := [(3, .long ((((((((d * 31) + (((fX6_ofLot g (nI k) 0).2).toInt64)) * 31) + (((fX6_ofLot g (nI k) 1).2).toInt64)) * 31) + (((fX6_ofLot g (nI k) 2).2).toInt64)) * 31) + (((fX6_ofLot g (nI k) 3).2).toInt64))), (6, .int 3), (5, .int (nI k)), (0, .ref (ad 0 0)), (1, .long d0)]) hx hb dX6_digestLots_39 rfl hl (by decide) rfl (fun ls hl => ?_)
      refine lv_iinc (v := 4) (lv' := [(6, .int 4), (3, .long ((((((((d * 31) + (((fX6_ofLot g (nI k) 0).2).toInt64)) * 31) + (((fX6_ofLot g (nI k) 1).2).toInt64)) * 31) + (((fX6_ofLot g (nI k) 2).2).toInt64)) * 31) + (((fX6_ofLot g (nI k) 3).2).toInt64))), (5, .int (nI k)), (0, .ref (ad 0 0)), (1, .long d0)]) hx hb dX6_digestLots_40 hl (k := 1) rfl (by decide) (by decide) rfl (fun ls hl => ?_)
      refine lv_goto (tgt := 17) hx hb dX6_digestLots_43 (by decide) ?_
      refine lv_iload hx hb dX6_digestLots_17 (lv_at hl 0 rfl) ?_
      refine lv_bipush (v := 11) hx hb dX6_digestLots_19 (by decide) ?_
      refine lv_icmp_gt (tgt := 46) hx hb dX6_digestLots_21 (by decide) (fun c => absurd c (by decide)) (fun _ => ?_)
      refine lv_lload_n hx hb dX6_digestLots_24 rfl (lv_at hl 1 rfl) ?_
      refine lv_ldc2 hx hb hown (hts _ qX6_digestLots_w2) dX6_digestLots_25 ?_
      refine lv_lmul hx hb dX6_digestLots_28 ?_
      refine lv_aload_n hx hb dX6_digestLots_29 rfl (lv_at hl 3 rfl) ?_
      refine lv_iload hx hb dX6_digestLots_30 (lv_at hl 2 rfl) ?_
      refine lv_iload hx hb dX6_digestLots_32 (lv_at hl 0 rfl) ?_
      refine q_callVi (As := [.int (nI k), .int 4]) (κ := 0) (i := 0) rfl rfl ⟨_, rfl⟩ rfl ⟨hx, hb, hml, hown, hts⟩ (kX6_ofLot_ok l D cy hI g _  (nI k) 4 hv (ofLot_ok (lotAt_okk c1 (by omega)) (by decide))) (cwV 2 hts gX6_digestLots_X6_ofLot rfl rfl rfl (by decide +kernel) ⟨Nat.le_of_ble_eq_true rfl, Nat.le_of_ble_eq_true rfl⟩) hB hC hS rfl hl.1 (Nat.le_of_ble_eq_true rfl) dX6_digestLots_34 ⟨Nat.le_of_ble_eq_true rfl, Nat.le_of_ble_eq_true rfl⟩ (fun H locs hC hS => ?_)
      refine lv_i2l hx hb dX6_digestLots_37 rfl ?_
      refine lv_ladd hx hb dX6_digestLots_38 ?_
      refine lv_lstore_n (lv' := [(3, .long ((((((((((d * 31) + (((fX6_ofLot g (nI k) 0).2).toInt64)) * 31) + (((fX6_ofLot g (nI k) 1).2).toInt64)) * 31) + (((fX6_ofLot g (nI k) 2).2).toInt64)) * 31) + (((fX6_ofLot g (nI k) 3).2).toInt64)) * 31) + (((fX6_ofLot g (nI k) 4).2).toInt64))), (6, .int 4), (5, .int (nI k)), (0, .ref (ad 0 0)), (1, .long d0)]) hx hb dX6_digestLots_39 rfl hl (by decide) rfl (fun ls hl => ?_)
      refine lv_iinc (v := 5) (lv' := [(6, .int 5), (3, .long ((((((((((d * 31) + (((fX6_ofLot g (nI k) 0).2).toInt64)) * 31) + (((fX6_ofLot g (nI k) 1).2).toInt64)) * 31) + (((fX6_ofLot g (nI k) 2).2).toInt64)) * 31) + (((fX6_ofLot g (nI k) 3).2).toInt64)) * 31) + (((fX6_ofLot g (nI k) 4).2).toInt64))), (5, .int (nI k)), (0, .ref (ad 0 0)), (1, .long d0)]) hx hb dX6_digestLots_40 hl (k := 1) rfl (by decide) (by decide) rfl (fun ls hl => ?_)
      refine lv_goto (tgt := 17) hx hb dX6_digestLots_43 (by decide) ?_
      refine lv_iload hx hb dX6_digestLots_17 (lv_at hl 0 rfl) ?_
      refine lv_bipush (v := 11) hx hb dX6_digestLots_19 (by decide) ?_
      refine lv_icmp_gt (tgt := 46) hx hb dX6_digestLots_21 (by decide) (fun c => absurd c (by decide)) (fun _ => ?_)
      refine lv_lload_n hx hb dX6_digestLots_24 rfl (lv_at hl 1 rfl) ?_
      refine lv_ldc2 hx hb hown (hts _ qX6_digestLots_w2) dX6_digestLots_25 ?_
      refine lv_lmul hx hb dX6_digestLots_28 ?_
      refine lv_aload_n hx hb dX6_digestLots_29 rfl (lv_at hl 3 rfl) ?_
      refine lv_iload hx hb dX6_digestLots_30 (lv_at hl 2 rfl) ?_
      refine lv_iload hx hb dX6_digestLots_32 (lv_at hl 0 rfl) ?_
      refine q_callVi (As := [.int (nI k), .int 5]) (κ := 0) (i := 0) rfl rfl ⟨_, rfl⟩ rfl ⟨hx, hb, hml, hown, hts⟩ (kX6_ofLot_ok l D cy hI g _  (nI k) 5 hv (ofLot_ok (lotAt_okk c1 (by omega)) (by decide))) (cwV 2 hts gX6_digestLots_X6_ofLot rfl rfl rfl (by decide +kernel) ⟨Nat.le_of_ble_eq_true rfl, Nat.le_of_ble_eq_true rfl⟩) hB hC hS rfl hl.1 (Nat.le_of_ble_eq_true rfl) dX6_digestLots_34 ⟨Nat.le_of_ble_eq_true rfl, Nat.le_of_ble_eq_true rfl⟩ (fun H locs hC hS => ?_)
      refine lv_i2l hx hb dX6_digestLots_37 rfl ?_
      refine lv_ladd hx hb dX6_digestLots_38 ?_
      refine lv_lstore_n (lv' := [(3, .long ((((((((((((d * 31) + (((fX6_ofLot g (nI k) 0).2).toInt64)) * 31) + (((fX6_ofLot g (nI k) 1).2).toInt64)) * 31) + (((fX6_ofLot g (nI k) 2).2).toInt64)) * 31) + (((fX6_ofLot g (nI k) 3).2).toInt64)) * 31) + (((fX6_ofLot g (nI k) 4).2).toInt64)) * 31) + (((fX6_ofLot g (nI k) 5).2).toInt64))), (6, .int 5), (5, .int (nI k)), (0, .ref (ad 0 0)), (1, .long d0)]) hx hb dX6_digestLots_39 rfl hl (by decide) rfl (fun ls hl => ?_)
      refine lv_iinc (v := 6) (lv' := [(6, .int 6), (3, .long ((((((((((((d * 31) + (((fX6_ofLot g (nI k) 0).2).toInt64)) * 31) + (((fX6_ofLot g (nI k) 1).2).toInt64)) * 31) + (((fX6_ofLot g (nI k) 2).2).toInt64)) * 31) + (((fX6_ofLot g (nI k) 3).2).toInt64)) * 31) + (((fX6_ofLot g (nI k) 4).2).toInt64)) * 31) + (((fX6_ofLot g (nI k) 5).2).toInt64))), (5, .int (nI k)), (0, .ref (ad 0 0)), (1, .long d0)]) hx hb dX6_digestLots_40 hl (k := 1) rfl (by decide) (by decide) rfl (fun ls hl => ?_)
      refine lv_goto (tgt := 17) hx hb dX6_digestLots_43 (by decide) ?_
      refine lv_iload hx hb dX6_digestLots_17 (lv_at hl 0 rfl) ?_
      refine lv_bipush (v := 11) hx hb dX6_digestLots_19 (by decide) ?_
      refine lv_icmp_gt (tgt := 46) hx hb dX6_digestLots_21 (by decide) (fun c => absurd c (by decide)) (fun _ => ?_)
      refine lv_lload_n hx hb dX6_digestLots_24 rfl (lv_at hl 1 rfl) ?_
      refine lv_ldc2 hx hb hown (hts _ qX6_digestLots_w2) dX6_digestLots_25 ?_
      refine lv_lmul hx hb dX6_digestLots_28 ?_
      refine lv_aload_n hx hb dX6_digestLots_29 rfl (lv_at hl 3 rfl) ?_
      refine lv_iload hx hb dX6_digestLots_30 (lv_at hl 2 rfl) ?_
      refine lv_iload hx hb dX6_digestLots_32 (lv_at hl 0 rfl) ?_
      refine q_callVi (As := [.int (nI k), .int 6]) (κ := 0) (i := 0) rfl rfl ⟨_, rfl⟩ rfl ⟨hx, hb, hml, hown, hts⟩ (kX6_ofLot_ok l D cy hI g _  (nI k) 6 hv (ofLot_ok (lotAt_okk c1 (by omega)) (by decide))) (cwV 2 hts gX6_digestLots_X6_ofLot rfl rfl rfl (by decide +kernel) ⟨Nat.le_of_ble_eq_true rfl, Nat.le_of_ble_eq_true rfl⟩) hB hC hS rfl hl.1 (Nat.le_of_ble_eq_true rfl) dX6_digestLots_34 ⟨Nat.le_of_ble_eq_true rfl, Nat.le_of_ble_eq_true rfl⟩ (fun H locs hC hS => ?_)
      refine lv_i2l hx hb dX6_digestLots_37 rfl ?_
      refine lv_ladd hx hb dX6_digestLots_38 ?_
      refine lv_lstore_n (lv' := [(3, .long ((((((((((((((d * 31) + (((fX6_ofLot g (nI k) 0).2).toInt64)) * 31) + (((fX6_ofLot g (nI k) 1).2).toInt64)) * 31) + (((fX6_ofLot g (nI k) 2).2).toInt64)) * 31) + (((fX6_ofLot g (nI k) 3).2).toInt64)) * 31) + (((fX6_ofLot g (nI k) 4).2).toInt64)) * 31) + (((fX6_ofLot g (nI k) 5).2).toInt64)) * 31) + (((fX6_ofLot g (nI k) 6).2).toInt64))), (6, .int 6), (5, .int (nI k)), (0, .ref (ad 0 0)), (1, .long d0)]) hx hb dX6_digestLots_39 rfl hl (by decide) rfl (fun ls hl => ?_)
      refine lv_iinc (v := 7) (lv' := [(6, .int 7), (3, .long ((((((((((((((d * 31) + (((fX6_ofLot g (nI k) 0).2).toInt64)) * 31) + (((fX6_ofLot g (nI k) 1).2).toInt64)) * 31) + (((fX6_ofLot g (nI k) 2).2).toInt64)) * 31) + (((fX6_ofLot g (nI k) 3).2).toInt64)) * 31) + (((fX6_ofLot g (nI k) 4).2).toInt64)) * 31) + (((fX6_ofLot g (nI k) 5).2).toInt64)) * 31) + (((fX6_ofLot g (nI k) 6).2).toInt64))), (5, .int (nI k)), (0, .ref (ad 0 0)), (1, .long d0)]) hx hb dX6_digestLots_40 hl (k := 1) rfl (by decide) (by decide) rfl (fun ls hl => ?_)
      refine lv_goto (tgt := 17) hx hb dX6_digestLots_43 (by decide) ?_
      refine lv_iload hx hb dX6_digestLots_17 (lv_at hl 0 rfl) ?_
      refine lv_bipush (v := 11) hx hb dX6_digestLots_19 (by decide) ?_
      refine lv_icmp_gt (tgt := 46) hx hb dX6_digestLots_21 (by decide) (fun c => absurd c (by decide)) (fun _ => ?_)
      refine lv_lload_n hx hb dX6_digestLots_24 rfl (lv_at hl 1 rfl) ?_
      refine lv_ldc2 hx hb hown (hts _ qX6_digestLots_w2) dX6_digestLots_25 ?_
      refine lv_lmul hx hb dX6_digestLots_28 ?_
      refine lv_aload_n hx hb dX6_digestLots_29 rfl (lv_at hl 3 rfl) ?_
      refine lv_iload hx hb dX6_digestLots_30 (lv_at hl 2 rfl) ?_
      refine lv_iload hx hb dX6_digestLots_32 (lv_at hl 0 rfl) ?_
      refine q_callVi (As := [.int (nI k), .int 7]) (κ := 0) (i := 0) rfl rfl ⟨_, rfl⟩ rfl ⟨hx, hb, hml, hown, hts⟩ (kX6_ofLot_ok l D cy hI g _  (nI k) 7 hv (ofLot_ok (lotAt_okk c1 (by omega)) (by decide))) (cwV 2 hts gX6_digestLots_X6_ofLot rfl rfl rfl (by decide +kernel) ⟨Nat.le_of_ble_eq_true rfl, Nat.le_of_ble_eq_true rfl⟩) hB hC hS rfl hl.1 (Nat.le_of_ble_eq_true rfl) dX6_digestLots_34 ⟨Nat.le_of_ble_eq_true rfl, Nat.le_of_ble_eq_true rfl⟩ (fun H locs hC hS => ?_)
      refine lv_i2l hx hb dX6_digestLots_37 rfl ?_
      refine lv_ladd hx hb dX6_digestLots_38 ?_
      refine lv_lstore_n (lv' := [(3, .long ((((((((((((((((d * 31) + (((fX6_ofLot g (nI k) 0).2).toInt64)) * 31) + (((fX6_ofLot g (nI k) 1).2).toInt64)) * 31) + (((fX6_ofLot g (nI k) 2).2).toInt64)) * 31) + (((fX6_ofLot g (nI k) 3).2).toInt64)) * 31) + (((fX6_ofLot g (nI k) 4).2).toInt64)) * 31) + (((fX6_ofLot g (nI k) 5).2).toInt64)) * 31) + (((fX6_ofLot g (nI k) 6).2).toInt64)) * 31) + (((fX6_ofLot g (nI k) 7).2).toInt64))), (6, .int 7), (5, .int (nI k)), (0, .ref (ad 0 0)), (1, .long d0)]) hx hb dX6_digestLots_39 rfl hl (by decide) rfl (fun ls hl => ?_)
      refine lv_iinc (v := 8) (lv' := [(6, .int 8), (3, .long ((((((((((((((((d * 31) + (((fX6_ofLot g (nI k) 0).2).toInt64)) * 31) + (((fX6_ofLot g (nI k) 1).2).toInt64)) * 31) + (((fX6_ofLot g (nI k) 2).2).toInt64)) * 31) + (((fX6_ofLot g (nI k) 3).2).toInt64)) * 31) + (((fX6_ofLot g (nI k) 4).2).toInt64)) * 31) + (((fX6_ofLot g (nI k) 5).2).toInt64)) * 31) + (((fX6_ofLot g (nI k) 6).2).toInt64)) * 31) + (((fX6_ofLot g (nI k) 7).2).toInt64))), (5, .int (nI k)), (0, .ref (ad 0 0)), (1, .long d0)]) hx hb dX6_digestLots_40 hl (k := 1) rfl (by decide) (by decide) rfl (fun ls hl => ?_)
      refine lv_goto (tgt := 17) hx hb dX6_digestLots_43 (by decide) ?_
      refine lv_iload hx hb dX6_digestLots_17 (lv_at hl 0 rfl) ?_
      refine lv_bipush (v := 11) hx hb dX6_digestLots_19 (by decide) ?_
      refine lv_icmp_gt (tgt := 46) hx hb dX6_digestLots_21 (by decide) (fun c => absurd c (by decide)) (fun _ => ?_)
      refine lv_lload_n hx hb dX6_digestLots_24 rfl (lv_at hl 1 rfl) ?_
      refine lv_ldc2 hx hb hown (hts _ qX6_digestLots_w2) dX6_digestLots_25 ?_
      refine lv_lmul hx hb dX6_digestLots_28 ?_
      refine lv_aload_n hx hb dX6_digestLots_29 rfl (lv_at hl 3 rfl) ?_
      refine lv_iload hx hb dX6_digestLots_30 (lv_at hl 2 rfl) ?_
      refine lv_iload hx hb dX6_digestLots_32 (lv_at hl 0 rfl) ?_
      refine q_callVi (As := [.int (nI k), .int 8]) (κ := 0) (i := 0) rfl rfl ⟨_, rfl⟩ rfl ⟨hx, hb, hml, hown, hts⟩ (kX6_ofLot_ok l D cy hI g _  (nI k) 8 hv (ofLot_ok (lotAt_okk c1 (by omega)) (by decide))) (cwV 2 hts gX6_digestLots_X6_ofLot rfl rfl rfl (by decide +kernel) ⟨Nat.le_of_ble_eq_true rfl, Nat.le_of_ble_eq_true rfl⟩) hB hC hS rfl hl.1 (Nat.le_of_ble_eq_true rfl) dX6_digestLots_34 ⟨Nat.le_of_ble_eq_true rfl, Nat.le_of_ble_eq_true rfl⟩ (fun H locs hC hS => ?_)
      refine lv_i2l hx hb dX6_digestLots_37 rfl ?_
      refine lv_ladd hx hb dX6_digestLots_38 ?_
      refine lv_lstore_n (lv' := [(3, .long ((((((((((((((((((d * 31) + (((fX6_ofLot g (nI k) 0).2).toInt64)) * 31) + (((fX6_ofLot g (nI k) 1).2).toInt64)) * 31) + (((fX6_ofLot g (nI k) 2).2).toInt64)) * 31) + (((fX6_ofLot g (nI k) 3).2).toInt64)) * 31) + (((fX6_ofLot g (nI k) 4).2).toInt64)) * 31) + (((fX6_ofLot g (nI k) 5).2).toInt64)) * 31) + (((fX6_ofLot g (nI k) 6).2).toInt64)) * 31) + (((fX6_ofLot g (nI k) 7).2).toInt64)) * 31) + (((fX6_ofLot g (nI k) 8).2).toInt64))), (6, .int 8), (5, .int (nI k)), (0, .ref (ad 0 0)), (1, .long d0)]) hx hb dX6_digestLots_39 rfl hl (by decide) rfl (fun ls hl => ?_)
      refine lv_iinc (v := 9) (lv' := [(6, .int 9), (3, .long ((((((((((((((((((d * 31) + (((fX6_ofLot g (nI k) 0).2).toInt64)) * 31) + (((fX6_ofLot g (nI k) 1).2).toInt64)) * 31) + (((fX6_ofLot g (nI k) 2).2).toInt64)) * 31) + (((fX6_ofLot g (nI k) 3).2).toInt64)) * 31) + (((fX6_ofLot g (nI k) 4).2).toInt64)) * 31) + (((fX6_ofLot g (nI k) 5).2).toInt64)) * 31) + (((fX6_ofLot g (nI k) 6).2).toInt64)) * 31) + (((fX6_ofLot g (nI k) 7).2).toInt64)) * 31) + (((fX6_ofLot g (nI k) 8).2).toInt64))), (5, .int (nI k)), (0, .ref (ad 0 0)), (1, .long d0)]) hx hb dX6_digestLots_40 hl (k := 1) rfl (by decide) (by decide) rfl (fun ls hl => ?_)
      refine lv_goto (tgt := 17) hx hb dX6_digestLots_43 (by decide) ?_
      refine lv_iload hx hb dX6_digestLots_17 (lv_at hl 0 rfl) ?_
      refine lv_bipush (v := 11) hx hb dX6_digestLots_19 (by decide) ?_
      refine lv_icmp_gt (tgt := 46) hx hb dX6_digestLots_21 (by decide) (fun c => absurd c (by decide)) (fun _ => ?_)
      refine lv_lload_n hx hb dX6_digestLots_24 rfl (lv_at hl 1 rfl) ?_
      refine lv_ldc2 hx hb hown (hts _ qX6_digestLots_w2) dX6_digestLots_25 ?_
      refine lv_lmul hx hb dX6_digestLots_28 ?_
      refine lv_aload_n hx hb dX6_digestLots_29 rfl (lv_at hl 3 rfl) ?_
      refine lv_iload hx hb dX6_digestLots_30 (lv_at hl 2 rfl) ?_
      refine lv_iload hx hb dX6_digestLots_32 (lv_at hl 0 rfl) ?_
      refine q_callVi (As := [.int (nI k), .int 9]) (κ := 0) (i := 0) rfl rfl ⟨_, rfl⟩ rfl ⟨hx, hb, hml, hown, hts⟩ (kX6_ofLot_ok l D cy hI g _  (nI k) 9 hv (ofLot_ok (lotAt_okk c1 (by omega)) (by decide))) (cwV 2 hts gX6_digestLots_X6_ofLot rfl rfl rfl (by decide +kernel) ⟨Nat.le_of_ble_eq_true rfl, Nat.le_of_ble_eq_true rfl⟩) hB hC hS rfl hl.1 (Nat.le_of_ble_eq_true rfl) dX6_digestLots_34 ⟨Nat.le_of_ble_eq_true rfl, Nat.le_of_ble_eq_true rfl⟩ (fun H locs hC hS => ?_)
      refine lv_i2l hx hb dX6_digestLots_37 rfl ?_
      refine lv_ladd hx hb dX6_digestLots_38 ?_
      refine lv_lstore_n (lv' := [(3, .long ((((((((((((((((((((d * 31) + (((fX6_ofLot g (nI k) 0).2).toInt64)) * 31) + (((fX6_ofLot g (nI k) 1).2).toInt64)) * 31) + (((fX6_ofLot g (nI k) 2).2).toInt64)) * 31) + (((fX6_ofLot g (nI k) 3).2).toInt64)) * 31) + (((fX6_ofLot g (nI k) 4).2).toInt64)) * 31) + (((fX6_ofLot g (nI k) 5).2).toInt64)) * 31) + (((fX6_ofLot g (nI k) 6).2).toInt64)) * 31) + (((fX6_ofLot g (nI k) 7).2).toInt64)) * 31) + (((fX6_ofLot g (nI k) 8).2).toInt64)) * 31) + (((fX6_ofLot g (nI k) 9).2).toInt64))), (6, .int 9), (5, .int (nI k)), (0, .ref (ad 0 0)), (1, .long d0)]) hx hb dX6_digestLots_39 rfl hl (by decide) rfl (fun ls hl => ?_)
      refine lv_iinc (v := 10) (lv' := [(6, .int 10), (3, .long ((((((((((((((((((((d * 31) + (((fX6_ofLot g (nI k) 0).2).toInt64)) * 31) + (((fX6_ofLot g (nI k) 1).2).toInt64)) * 31) + (((fX6_ofLot g (nI k) 2).2).toInt64)) * 31) + (((fX6_ofLot g (nI k) 3).2).toInt64)) * 31) + (((fX6_ofLot g (nI k) 4).2).toInt64)) * 31) + (((fX6_ofLot g (nI k) 5).2).toInt64)) * 31) + (((fX6_ofLot g (nI k) 6).2).toInt64)) * 31) + (((fX6_ofLot g (nI k) 7).2).toInt64)) * 31) + (((fX6_ofLot g (nI k) 8).2).toInt64)) * 31) + (((fX6_ofLot g (nI k) 9).2).toInt64))), (5, .int (nI k)), (0, .ref (ad 0 0)), (1, .long d0)]) hx hb dX6_digestLots_40 hl (k := 1) rfl (by decide) (by decide) rfl (fun ls hl => ?_)
      refine lv_goto (tgt := 17) hx hb dX6_digestLots_43 (by decide) ?_
      refine lv_iload hx hb dX6_digestLots_17 (lv_at hl 0 rfl) ?_
      refine lv_bipush (v := 11) hx hb dX6_digestLots_19 (by decide) ?_
      refine lv_icmp_gt (tgt := 46) hx hb dX6_digestLots_21 (by decide) (fun c => absurd c (by decide)) (fun _ => ?_)
      refine lv_lload_n hx hb dX6_digestLots_24 rfl (lv_at hl 1 rfl) ?_
      refine lv_ldc2 hx hb hown (hts _ qX6_digestLots_w2) dX6_digestLots_25 ?_
      refine lv_lmul hx hb dX6_digestLots_28 ?_
      refine lv_aload_n hx hb dX6_digestLots_29 rfl (lv_at hl 3 rfl) ?_
      refine lv_iload hx hb dX6_digestLots_30 (lv_at hl 2 rfl) ?_
      refine lv_iload hx hb dX6_digestLots_32 (lv_at hl 0 rfl) ?_
      refine q_callVi (As := [.int (nI k), .int 10]) (κ := 0) (i := 0) rfl rfl ⟨_, rfl⟩ rfl ⟨hx, hb, hml, hown, hts⟩ (kX6_ofLot_ok l D cy hI g _  (nI k) 10 hv (ofLot_ok (lotAt_okk c1 (by omega)) (by decide))) (cwV 2 hts gX6_digestLots_X6_ofLot rfl rfl rfl (by decide +kernel) ⟨Nat.le_of_ble_eq_true rfl, Nat.le_of_ble_eq_true rfl⟩) hB hC hS rfl hl.1 (Nat.le_of_ble_eq_true rfl) dX6_digestLots_34 ⟨Nat.le_of_ble_eq_true rfl, Nat.le_of_ble_eq_true rfl⟩ (fun H locs hC hS => ?_)
      refine lv_i2l hx hb dX6_digestLots_37 rfl ?_
      refine lv_ladd hx hb dX6_digestLots_38 ?_
      refine lv_lstore_n (lv' := [(3, .long ((((((((((((((((((((((d * 31) + (((fX6_ofLot g (nI k) 0).2).toInt64)) * 31) + (((fX6_ofLot g (nI k) 1).2).toInt64)) * 31) + (((fX6_ofLot g (nI k) 2).2).toInt64)) * 31) + (((fX6_ofLot g (nI k) 3).2).toInt64)) * 31) + (((fX6_ofLot g (nI k) 4).2).toInt64)) * 31) + (((fX6_ofLot g (nI k) 5).2).toInt64)) * 31) + (((fX6_ofLot g (nI k) 6).2).toInt64)) * 31) + (((fX6_ofLot g (nI k) 7).2).toInt64)) * 31) + (((fX6_ofLot g (nI k) 8).2).toInt64)) * 31) + (((fX6_ofLot g (nI k) 9).2).toInt64)) * 31) + (((fX6_ofLot g (nI k) 10).2).toInt64))), (6, .int 10), (5, .int (nI k)), (0, .ref (ad 0 0)), (1, .long d0)]) hx hb dX6_digestLots_39 rfl hl (by decide) rfl (fun ls hl => ?_)
      refine lv_iinc (v := 11) (lv' := [(6, .int 11), (3, .long ((((((((((((((((((((((d * 31) + (((fX6_ofLot g (nI k) 0).2).toInt64)) * 31) + (((fX6_ofLot g (nI k) 1).2).toInt64)) * 31) + (((fX6_ofLot g (nI k) 2).2).toInt64)) * 31) + (((fX6_ofLot g (nI k) 3).2).toInt64)) * 31) + (((fX6_ofLot g (nI k) 4).2).toInt64)) * 31) + (((fX6_ofLot g (nI k) 5).2).toInt64)) * 31) + (((fX6_ofLot g (nI k) 6).2).toInt64)) * 31) + (((fX6_ofLot g (nI k) 7).2).toInt64)) * 31) + (((fX6_ofLot g (nI k) 8).2).toInt64)) * 31) + (((fX6_ofLot g (nI k) 9).2).toInt64)) * 31) + (((fX6_ofLot g (nI k) 10).2).toInt64))), (5, .int (nI k)), (0, .ref (ad 0 0)), (1, .long d0)]) hx hb dX6_digestLots_40 hl (k := 1) rfl (by decide) (by decide) rfl (fun ls hl => ?_)
      refine lv_goto (tgt := 17) hx hb dX6_digestLots_43 (by decide) ?_
      refine lv_iload hx hb dX6_digestLots_17 (lv_at hl 0 rfl) ?_
      refine lv_bipush (v := 11) hx hb dX6_digestLots_19 (by decide) ?_
      refine lv_icmp_gt (tgt := 46) hx hb dX6_digestLots_21 (by decide) (fun c => absurd c (by decide)) (fun _ => ?_)
      refine lv_lload_n hx hb dX6_digestLots_24 rfl (lv_at hl 1 rfl) ?_
      refine lv_ldc2 hx hb hown (hts _ qX6_digestLots_w2) dX6_digestLots_25 ?_
      refine lv_lmul hx hb dX6_digestLots_28 ?_
      refine lv_aload_n hx hb dX6_digestLots_29 rfl (lv_at hl 3 rfl) ?_
      refine lv_iload hx hb dX6_digestLots_30 (lv_at hl 2 rfl) ?_
      refine lv_iload hx hb dX6_digestLots_32 (lv_at hl 0 rfl) ?_
      refine q_callVi (As := [.int (nI k), .int 11]) (κ := 0) (i := 0) rfl rfl ⟨_, rfl⟩ rfl ⟨hx, hb, hml, hown, hts⟩ (kX6_ofLot_ok l D cy hI g _  (nI k) 11 hv (ofLot_ok (lotAt_okk c1 (by omega)) (by decide))) (cwV 2 hts gX6_digestLots_X6_ofLot rfl rfl rfl (by decide +kernel) ⟨Nat.le_of_ble_eq_true rfl, Nat.le_of_ble_eq_true rfl⟩) hB hC hS rfl hl.1 (Nat.le_of_ble_eq_true rfl) dX6_digestLots_34 ⟨Nat.le_of_ble_eq_true rfl, Nat.le_of_ble_eq_true rfl⟩ (fun H locs hC hS => ?_)
      refine lv_i2l hx hb dX6_digestLots_37 rfl ?_
      refine lv_ladd hx hb dX6_digestLots_38 ?_
      refine lv_lstore_n (lv' := [(3, .long ((((((((((((((((((((((((d * 31) + (((fX6_ofLot g (nI k) 0).2).toInt64)) * 31) + (((fX6_ofLot g (nI k) 1).2).toInt64)) * 31) + (((fX6_ofLot g (nI k) 2).2).toInt64)) * 31) + (((fX6_ofLot g (nI k) 3).2).toInt64)) * 31) + (((fX6_ofLot g (nI k) 4).2).toInt64)) * 31) + (((fX6_ofLot g (nI k) 5).2).toInt64)) * 31) + (((fX6_ofLot g (nI k) 6).2).toInt64)) * 31) + (((fX6_ofLot g (nI k) 7).2).toInt64)) * 31) + (((fX6_ofLot g (nI k) 8).2).toInt64)) * 31) + (((fX6_ofLot g (nI k) 9).2).toInt64)) * 31) + (((fX6_ofLot g (nI k) 10).2).toInt64)) * 31) + (((fX6_ofLot g (nI k) 11).2).toInt64))), (6, .int 11), (5, .int (nI k)), (0, .ref (ad 0 0)), (1, .long d0)]) hx hb dX6_digestLots_39 rfl hl (by decide) rfl (fun ls hl => ?_)
      refine lv_iinc (v := 12) (lv' := [(6, .int 12), (3, .long ((((((((((((((((((((((((d * 31) + (((fX6_ofLot g (nI k) 0).2).toInt64)) * 31) + (((fX6_ofLot g (nI k) 1).2).toInt64)) * 31) + (((fX6_ofLot g (nI k) 2).2).toInt64)) * 31) + (((fX6_ofLot g (nI k) 3).2).toInt64)) * 31) + (((fX6_ofLot g (nI k) 4).2).toInt64)) * 31) + (((fX6_ofLot g (nI k) 5).2).toInt64)) * 31) + (((fX6_ofLot g (nI k) 6).2).toInt64)) * 31) + (((fX6_ofLot g (nI k) 7).2).toInt64)) * 31) + (((fX6_ofLot g (nI k) 8).2).toInt64)) * 31) + (((fX6_ofLot g (nI k) 9).2).toInt64)) * 31) + (((fX6_ofLot g (nI k) 10).2).toInt64)) * 31) + (((fX6_ofLot g (nI k) 11).2).toInt64))), (5, .int (nI k)), (0, .ref (ad 0 0)), (1, .long d0)]) hx hb dX6_digestLots_40 hl (k := 1) rfl (by decide) (by decide) rfl (fun ls hl => ?_)
      refine lv_goto (tgt := 17) hx hb dX6_digestLots_43 (by decide) ?_
      refine lv_iload hx hb dX6_digestLots_17 (lv_at hl 0 rfl) ?_
      refine lv_bipush (v := 11) hx hb dX6_digestLots_19 (by decide) ?_
      refine lv_icmp_gt (tgt := 46) hx hb dX6_digestLots_21 (by decide) (fun _ => ?_) (fun c => absurd c (by decide))
      refine lv_iconst (v := 0) hx hb dX6_digestLots_46 (by decide) ?_
      refine lv_istore (lv' := [(6, .int 0), (3, .long ((((((((((((((((((((((((d * 31) + (((fX6_ofLot g (nI k) 0).2).toInt64)) * 31) + (((fX6_ofLot g (nI k) 1).2).toInt64)) * 31) + (((fX6_ofLot g (nI k) 2).2).toInt64)) * 31) + (((fX6_ofLot g (nI k) 3).2).toInt64)) * 31) + (((fX6_ofLot g (nI k) 4).2).toInt64)) * 31) + (((fX6_ofLot g (nI k) 5).2).toInt64)) * 31) + (((fX6_ofLot g (nI k) 6).2).toInt64)) * 31) + (((fX6_ofLot g (nI k) 7).2).toInt64)) * 31) + (((fX6_ofLot g (nI k) 8).2).toInt64)) * 31) + (((fX6_ofLot g (nI k) 9).2).toInt64)) * 31) + (((fX6_ofLot g (nI k) 10).2).toInt64)) * 31) + (((fX6_ofLot g (nI k) 11).2).toInt64))), (5, .int (nI k)), (0, .ref (ad 0 0)), (1, .long d0)]) hx hb dX6_digestLots_47 hl (by decide) rfl (fun ls hl => ?_)
      refine kX6_digestLots_L49 l D cy hI g d0 k  hv (lotAt_okk c1 (by omega)) hx hb hr hml hts hown hlocks hB 7 0 ((((((((((((((((((((((((d * 31) + (((fX6_ofLot g (nI k) 0).2).toInt64)) * 31) + (((fX6_ofLot g (nI k) 1).2).toInt64)) * 31) + (((fX6_ofLot g (nI k) 2).2).toInt64)) * 31) + (((fX6_ofLot g (nI k) 3).2).toInt64)) * 31) + (((fX6_ofLot g (nI k) 4).2).toInt64)) * 31) + (((fX6_ofLot g (nI k) 5).2).toInt64)) * 31) + (((fX6_ofLot g (nI k) 6).2).toInt64)) * 31) + (((fX6_ofLot g (nI k) 7).2).toInt64)) * 31) + (((fX6_ofLot g (nI k) 8).2).toInt64)) * 31) + (((fX6_ofLot g (nI k) 9).2).toInt64)) * 31) + (((fX6_ofLot g (nI k) 10).2).toInt64)) * 31) + (((fX6_ofLot g (nI k) 11).2).toInt64)) (by omega) (by have := (IvC.n7 hv).1; omega) (IvC.n7 hv).2  _ _ ls hC hS (lv_sub hl [0, 1, 2, 3, 4] rfl) (fun H locs ls hC hS hl => ?_)
      refine lv_iinc (v := nI (k + 1)) (lv' := [(5, .int (nI (k + 1))), (3, .long (fX6_digestLots_L49 g d0 k 7 0 ((((((((((((((((((((((((d * 31) + (((fX6_ofLot g (nI k) 0).2).toInt64)) * 31) + (((fX6_ofLot g (nI k) 1).2).toInt64)) * 31) + (((fX6_ofLot g (nI k) 2).2).toInt64)) * 31) + (((fX6_ofLot g (nI k) 3).2).toInt64)) * 31) + (((fX6_ofLot g (nI k) 4).2).toInt64)) * 31) + (((fX6_ofLot g (nI k) 5).2).toInt64)) * 31) + (((fX6_ofLot g (nI k) 6).2).toInt64)) * 31) + (((fX6_ofLot g (nI k) 7).2).toInt64)) * 31) + (((fX6_ofLot g (nI k) 8).2).toInt64)) * 31) + (((fX6_ofLot g (nI k) 9).2).toInt64)) * 31) + (((fX6_ofLot g (nI k) 10).2).toInt64)) * 31) + (((fX6_ofLot g (nI k) 11).2).toInt64)))), (0, .ref (ad 0 0)), (1, .long d0)]) hx hb dX6_digestLots_80 hl (k := 1) rfl (nI_1 _) (by decide) rfl (fun ls hl => ?_)
      refine lv_goto (tgt := 5) hx hb dX6_digestLots_83 (by decide) ?_
      have e9 : fX6_digestLots_L5 g d0 (n + 1) k d = fX6_digestLots_L5 g d0 n (k + 1) (fX6_digestLots_L49 g d0 k 7 0 ((((((((((((((((((((((((d * 31) + (((fX6_ofLot g (nI k) 0).2).toInt64)) * 31) + (((fX6_ofLot g (nI k) 1).2).toInt64)) * 31) + (((fX6_ofLot g (nI k) 2).2).toInt64)) * 31) + (((fX6_ofLot g (nI k) 3).2).toInt64)) * 31) + (((fX6_ofLot g (nI k) 4).2).toInt64)) * 31) + (((fX6_ofLot g (nI k) 5).2).toInt64)) * 31) + (((fX6_ofLot g (nI k) 6).2).toInt64)) * 31) + (((fX6_ofLot g (nI k) 7).2).toInt64)) * 31) + (((fX6_ofLot g (nI k) 8).2).toInt64)) * 31) + (((fX6_ofLot g (nI k) 9).2).toInt64)) * 31) + (((fX6_ofLot g (nI k) 10).2).toInt64)) * 31) + (((fX6_ofLot g (nI k) 11).2).toInt64))) := by rw [fX6_digestLots_L5, if_neg c1]
      rw [e9] at kk
      exact ih (k + 1) (fX6_digestLots_L49 g d0 k 7 0 ((((((((((((((((((((((((d * 31) + (((fX6_ofLot g (nI k) 0).2).toInt64)) * 31) + (((fX6_ofLot g (nI k) 1).2).toInt64)) * 31) + (((fX6_ofLot g (nI k) 2).2).toInt64)) * 31) + (((fX6_ofLot g (nI k) 3).2).toInt64)) * 31) + (((fX6_ofLot g (nI k) 4).2).toInt64)) * 31) + (((fX6_ofLot g (nI k) 5).2).toInt64)) * 31) + (((fX6_ofLot g (nI k) 6).2).toInt64)) * 31) + (((fX6_ofLot g (nI k) 7).2).toInt64)) * 31) + (((fX6_ofLot g (nI k) 8).2).toInt64)) * 31) + (((fX6_ofLot g (nI k) 9).2).toInt64)) * 31) + (((fX6_ofLot g (nI k) 10).2).toInt64)) * 31) + (((fX6_ofLot g (nI k) 11).2).toInt64))) (by omega) (by have q9 := lk_lt c1 (by omega); omega) hc1  H locs ls hC hS (lv_sub hl [0, 1, 2, 3] rfl) kk
set_option maxRecDepth 100000 in
set_option maxHeartbeats 4000000 in
theorem kX6_digestLots (l : Launch) (D : va_G) (cy : Nat → ClassId) {ad : Nat → Nat → Nat} (hI : cI ad) (g : Gd) (sz : Nat) (d0 : Int64) (hv : IvC g) : Met l yX6_digestLots wsX6_digestLots ({ frames := 4, cells := 0, slots := 0, locals := 87 } : Room) (va_Pc [.ref (ad 0 0), .long d0] (cPre D cy ad g sz)) (cQl D cy ad (fX6_digestLots g d0) g sz) 0 0 (cA ad sz) := by
  refine q_start (cc := cX6_digestLots) (maxL := 7) (ret := (some .long)) (own := RX6) (by decide) rfl rfl (Nat.le_of_ble_eq_true rfl) ?_
  intro p e s m below meth c hx hb hr hml hts hown hlocks ⟨hsz, hC, hB⟩ ls hl
  subst hsz
  have hS : va_S (cA ad s.heap.size) s.heap s.heap [] := va_S.rf
  have hA : ∀ κ i : Nat, cV κ i → cA ad s.heap.size (ad κ i) := fun κ i h => Or.inl ⟨κ, i, h, rfl⟩
  have hl : lv_has ls 7 [(0, .ref (ad 0 0)), (1, .long d0)] := hl
  refine lv_lload_n hx hb dX6_digestLots_0 rfl (lv_at hl 1 rfl) ?_
  refine lv_lstore_n (lv' := [(3, .long d0), (0, .ref (ad 0 0)), (1, .long d0)]) hx hb dX6_digestLots_1 rfl hl (by decide) rfl (fun ls hl => ?_)
  refine lv_iconst (v := 0) hx hb dX6_digestLots_2 (by decide) ?_
  refine lv_istore (lv' := [(5, .int 0), (3, .long d0), (0, .ref (ad 0 0)), (1, .long d0)]) hx hb dX6_digestLots_3 hl (by decide) rfl (fun ls hl => ?_)
  refine kX6_digestLots_L5 l D cy hI g d0  hv  hx hb hr hml hts hown hlocks hB 13 0 d0 (by omega) (by have := (IvC.n10 hv).1; omega) (IvC.n10 hv).2  _ _ ls hC hS (lv_sub hl [0, 1, 2, 3] rfl) (fun H locs ls hC hS hl => ?_)
  refine lv_lload_n hx hb dX6_digestLots_86 rfl (lv_at hl 0 rfl) ?_
  exact q_retl hx hb hr hB hC hS rfl rfl hlocks dX6_digestLots_87
def fX6_digest (g : Gd) : Int64 × Gd := (((fX6_digestLots g (fX6_digestBeds g (fX6_digestTanks g (fX6_digestBaskets g (fX6_digestFarms g ((((((((((((((((((((((((((((((((7802 * 31) + (((fX6_many g 0).2).toInt64)) * 31) + (((fX6_many g 1).2).toInt64)) * 31) + (((fX6_many g 2).2).toInt64)) * 31) + (((fX6_many g 3).2).toInt64)) * 31) + (((fX6_many g 4).2).toInt64)) * 31) + (((fX6_many g 5).2).toInt64)) * 31) + (((fX6_many g 6).2).toInt64)) * 31) + (((fX6_many g 7).2).toInt64)) * 31) + (((fX6_many g 8).2).toInt64)) * 31) + (((fX6_many g 9).2).toInt64)) * 31) + (((fX6_many g 10).2).toInt64)) * 31) + (((fX6_many g 11).2).toInt64)) * 31) + (((fX6_many g 12).2).toInt64)) * 31) + (((fX6_many g 13).2).toInt64)) * 31) + (((fX6_many g 14).2).toInt64)) * 31) + (((fX6_many g 15).2).toInt64))))))) * 31) + (((fX6_bestBlend g).1).toInt64), (fX6_bestBlend g).2)
theorem qX6_digest_w1 : Cond.constantLong RX6 362 (7802) ∈ wsX6_digest := List.mem_of_getElem? (i := 1) rfl
theorem qX6_digest_w2 : Cond.constantLong RX6 364 (31) ∈ wsX6_digest := List.mem_of_getElem? (i := 2) rfl
set_option maxRecDepth 100000 in
set_option maxHeartbeats 4000000 in
theorem kX6_digest (l : Launch) (D : va_G) (cy : Nat → ClassId) {ad : Nat → Nat → Nat} (hI : cI ad) (g : Gd) (sz : Nat) (hv : IvC g) : Met l yX6_digest wsX6_digest ({ frames := 5, cells := 0, slots := 0, locals := 114 } : Room) (va_Pc [.ref (ad 0 0)] (cPre D cy ad g sz)) (cQl D cy ad (fX6_digest g).1 (fX6_digest g).2 sz) 0 0 (cA ad sz) := by
  refine q_start (cc := cX6_digest) (maxL := 4) (ret := (some .long)) (own := RX6) (by decide) rfl rfl (Nat.le_of_ble_eq_true rfl) ?_
  intro p e s m below meth c hx hb hr hml hts hown hlocks ⟨hsz, hC, hB⟩ ls hl
  subst hsz
  have hS : va_S (cA ad s.heap.size) s.heap s.heap [] := va_S.rf
  have hA : ∀ κ i : Nat, cV κ i → cA ad s.heap.size (ad κ i) := fun κ i h => Or.inl ⟨κ, i, h, rfl⟩
  have hl : lv_has ls 4 [(0, .ref (ad 0 0))] := hl
  refine lv_ldc2 hx hb hown (hts _ qX6_digest_w1) dX6_digest_0 ?_
  refine lv_lstore_n (lv' := [(1, .long 7802), (0, .ref (ad 0 0))]) hx hb dX6_digest_3 rfl hl (by decide) rfl (fun ls hl => ?_)
  refine lv_iconst (v := 0) hx hb dX6_digest_4 (by decide) ?_
  refine lv_istore_n (lv' := [(3, .int 0), (1, .long 7802), (0, .ref (ad 0 0))]) hx hb dX6_digest_5 rfl hl (by decide) rfl (fun ls hl => ?_)
  refine lv_iload_n hx hb dX6_digest_6 rfl (lv_at hl 0 rfl) ?_
  refine lv_bipush (v := 15) hx hb dX6_digest_7 (by decide) ?_
  refine lv_icmp_gt (tgt := 31) hx hb dX6_digest_9 (by decide) (fun c => absurd c (by decide)) (fun _ => ?_)
  refine lv_lload_n hx hb dX6_digest_12 rfl (lv_at hl 1 rfl) ?_
  refine lv_ldc2 hx hb hown (hts _ qX6_digest_w2) dX6_digest_13 ?_
  refine lv_lmul hx hb dX6_digest_16 ?_
  refine lv_aload_n hx hb dX6_digest_17 rfl (lv_at hl 2 rfl) ?_
  refine lv_iload_n hx hb dX6_digest_18 rfl (lv_at hl 0 rfl) ?_
  refine q_callVi (As := [.int 0]) (κ := 0) (i := 0) rfl rfl ⟨_, rfl⟩ rfl ⟨hx, hb, hml, hown, hts⟩ (kX6_many_ok l D cy hI g _  0 hv (many_ok (by decide))) (cwV 1 hts gX6_digest_X6_many rfl rfl rfl (by decide +kernel) ⟨Nat.le_of_ble_eq_true rfl, Nat.le_of_ble_eq_true rfl⟩) hB hC hS rfl hl.1 (Nat.le_of_ble_eq_true rfl) dX6_digest_19 ⟨Nat.le_of_ble_eq_true rfl, Nat.le_of_ble_eq_true rfl⟩ (fun H locs hC hS => ?_)
  refine lv_i2l hx hb dX6_digest_22 rfl ?_
  refine lv_ladd hx hb dX6_digest_23 ?_
  refine lv_lstore_n (lv' := [(1, .long ((7802 * 31) + (((fX6_many g 0).2).toInt64))), (3, .int 0), (0, .ref (ad 0 0))]) hx hb dX6_digest_24 rfl hl (by decide) rfl (fun ls hl => ?_)
  refine lv_iinc (v := 1) (lv' := [(3, .int 1), (1, .long ((7802 * 31) + (((fX6_many g 0).2).toInt64))), (0, .ref (ad 0 0))]) hx hb dX6_digest_25 hl (k := 1) rfl (by decide) (by decide) rfl (fun ls hl => ?_)
  refine lv_goto (tgt := 6) hx hb dX6_digest_28 (by decide) ?_
  refine lv_iload_n hx hb dX6_digest_6 rfl (lv_at hl 0 rfl) ?_
  refine lv_bipush (v := 15) hx hb dX6_digest_7 (by decide) ?_
  refine lv_icmp_gt (tgt := 31) hx hb dX6_digest_9 (by decide) (fun c => absurd c (by decide)) (fun _ => ?_)
  refine lv_lload_n hx hb dX6_digest_12 rfl (lv_at hl 1 rfl) ?_
  refine lv_ldc2 hx hb hown (hts _ qX6_digest_w2) dX6_digest_13 ?_
  refine lv_lmul hx hb dX6_digest_16 ?_
  refine lv_aload_n hx hb dX6_digest_17 rfl (lv_at hl 2 rfl) ?_
  refine lv_iload_n hx hb dX6_digest_18 rfl (lv_at hl 0 rfl) ?_
  refine q_callVi (As := [.int 1]) (κ := 0) (i := 0) rfl rfl ⟨_, rfl⟩ rfl ⟨hx, hb, hml, hown, hts⟩ (kX6_many_ok l D cy hI g _  1 hv (many_ok (by decide))) (cwV 1 hts gX6_digest_X6_many rfl rfl rfl (by decide +kernel) ⟨Nat.le_of_ble_eq_true rfl, Nat.le_of_ble_eq_true rfl⟩) hB hC hS rfl hl.1 (Nat.le_of_ble_eq_true rfl) dX6_digest_19 ⟨Nat.le_of_ble_eq_true rfl, Nat.le_of_ble_eq_true rfl⟩ (fun H locs hC hS => ?_)
  refine lv_i2l hx hb dX6_digest_22 rfl ?_
  refine lv_ladd hx hb dX6_digest_23 ?_
  refine lv_lstore_n (lv' := [(1, .long ((((7802 * 31) + (((fX6_many g 0).2).toInt64)) * 31) + (((fX6_many g 1).2).toInt64))), (3, .int 1), (0, .ref (ad 0 0))]) hx hb dX6_digest_24 rfl hl (by decide) rfl (fun ls hl => ?_)
  refine lv_iinc (v := 2) (lv' := [(3, .int 2), (1, .long ((((7802 * 31) + (((fX6_many g 0).2).toInt64)) * 31) + (((fX6_many g 1).2).toInt64))), (0, .ref (ad 0 0))]) hx hb dX6_digest_25 hl (k := 1) rfl (by decide) (by decide) rfl (fun ls hl => ?_)
  refine lv_goto (tgt := 6) hx hb dX6_digest_28 (by decide) ?_
  refine lv_iload_n hx hb dX6_digest_6 rfl (lv_at hl 0 rfl) ?_
  refine lv_bipush (v := 15) hx hb dX6_digest_7 (by decide) ?_
  refine lv_icmp_gt (tgt := 31) hx hb dX6_digest_9 (by decide) (fun c => absurd c (by decide)) (fun _ => ?_)
  refine lv_lload_n hx hb dX6_digest_12 rfl (lv_at hl 1 rfl) ?_
  refine lv_ldc2 hx hb hown (hts _ qX6_digest_w2) dX6_digest_13 ?_
  refine lv_lmul hx hb dX6_digest_16 ?_
  refine lv_aload_n hx hb dX6_digest_17 rfl (lv_at hl 2 rfl) ?_
  refine lv_iload_n hx hb dX6_digest_18 rfl (lv_at hl 0 rfl) ?_
  refine q_callVi (As := [.int 2]) (κ := 0) (i := 0) rfl rfl ⟨_, rfl⟩ rfl ⟨hx, hb, hml, hown, hts⟩ (kX6_many_ok l D cy hI g _  2 hv (many_ok (by decide))) (cwV 1 hts gX6_digest_X6_many rfl rfl rfl (by decide +kernel) ⟨Nat.le_of_ble_eq_true rfl, Nat.le_of_ble_eq_true rfl⟩) hB hC hS rfl hl.1 (Nat.le_of_ble_eq_true rfl) dX6_digest_19 ⟨Nat.le_of_ble_eq_true rfl, Nat.le_of_ble_eq_true rfl⟩ (fun H locs hC hS => ?_)
  refine lv_i2l hx hb dX6_digest_22 rfl ?_
  refine lv_ladd hx hb dX6_digest_23 ?_
  refine lv_lstore_n (lv' := [(1, .long ((((((7802 * 31) + (((fX6_many g 0).2).toInt64)) * 31) + (((fX6_many g 1).2).toInt64)) * 31) + (((fX6_many g 2).2).toInt64))), (3, .int 2), (0, .ref (ad 0 0))]) hx hb dX6_digest_24 rfl hl (by decide) rfl (fun ls hl => ?_)
  refine lv_iinc (v := 3) (lv' := [(3, .int 3), (1, .long ((((((7802 * 31) + (((fX6_many g 0).2).toInt64)) * 31) + (((fX6_many g 1).2).toInt64)) * 31) + (((fX6_many g 2).2).toInt64))), (0, .ref (ad 0 0))]) hx hb dX6_digest_25 hl (k := 1) rfl (by decide) (by decide) rfl (fun ls hl => ?_)
  refine lv_goto (tgt := 6) hx hb dX6_digest_28 (by decide) ?_
  refine lv_iload_n hx hb dX6_digest_6 rfl (lv_at hl 0 rfl) ?_
  refine lv_bipush (v := 15) hx hb dX6_digest_7 (by decide) ?_
  refine lv_icmp_gt (tgt := 31) hx hb dX6_digest_9 (by decide) (fun c => absurd c (by decide)) (fun _ => ?_)
  refine lv_lload_n hx hb dX6_digest_12 rfl (lv_at hl 1 rfl) ?_
  refine lv_ldc2 hx hb hown (hts _ qX6_digest_w2) dX6_digest_13 ?_
  refine lv_lmul hx hb dX6_digest_16 ?_
  refine lv_aload_n hx hb dX6_digest_17 rfl (lv_at hl 2 rfl) ?_
  refine lv_iload_n hx hb dX6_digest_18 rfl (lv_at hl 0 rfl) ?_
  refine q_callVi (As := [.int 3]) (κ := 0) (i := 0) rfl rfl ⟨_, rfl⟩ rfl ⟨hx, hb, hml, hown, hts⟩ (kX6_many_ok l D cy hI g _  3 hv (many_ok (by decide))) (cwV 1 hts gX6_digest_X6_many rfl rfl rfl (by decide +kernel) ⟨Nat.le_of_ble_eq_true rfl, Nat.le_of_ble_eq_true rfl⟩) hB hC hS rfl hl.1 (Nat.le_of_ble_eq_true rfl) dX6_digest_19 ⟨Nat.le_of_ble_eq_true rfl, Nat.le_of_ble_eq_true rfl⟩ (fun H locs hC hS => ?_)
  refine lv_i2l hx hb dX6_digest_22 rfl ?_
  refine lv_ladd hx hb dX6_digest_23 ?_
  refine lv_lstore_n (lv' := [(1, .long ((((((((7802 * 31) + (((fX6_many g 0).2).toInt64)) * 31) + (((fX6_many g 1).2).toInt64)) * 31) + (((fX6_many g 2).2).toInt64)) * 31) + (((fX6_many g 3).2).toInt64))), (3, .int 3), (0, .ref (ad 0 0))]) hx hb dX6_digest_24 rfl hl (by decide) rfl (fun ls hl => ?_)
  refine lv_iinc (v := 4) (lv' := [(3, .int 4), (1, .long ((((((((7802 * 31) + (((fX6_many g 0).2).toInt64)) * 31) + (((fX6_many g 1).2).toInt64)) * 31) + (((fX6_many g 2).2).toInt64)) * 31) + (((fX6_many g 3).2).toInt64))), (0, .ref (ad 0 0))]) hx hb dX6_digest_25 hl (k := 1) rfl (by decide) (by decide) rfl (fun ls hl => ?_)
  refine lv_goto (tgt := 6) hx hb dX6_digest_28 (by decide) ?_
  refine lv_iload_n hx hb dX6_digest_6 rfl (lv_at hl 0 rfl) ?_
  refine lv_bipush (v := 15) hx hb dX6_digest_7 (by decide) ?_
  refine lv_icmp_gt (tgt := 31) hx hb dX6_digest_9 (by decide) (fun c => absurd c (by decide)) (fun _ => ?_)
  refine lv_lload_n hx hb dX6_digest_12 rfl (lv_at hl 1 rfl) ?_
  refine lv_ldc2 hx hb hown (hts _ qX6_digest_w2) dX6_digest_13 ?_
  refine lv_lmul hx hb dX6_digest_16 ?_
  refine lv_aload_n hx hb dX6_digest_17 rfl (lv_at hl 2 rfl) ?_
  refine lv_iload_n hx hb dX6_digest_18 rfl (lv_at hl 0 rfl) ?_
  refine q_callVi (As := [.int 4]) (κ := 0) (i := 0) rfl rfl ⟨_, rfl⟩ rfl ⟨hx, hb, hml, hown, hts⟩ (kX6_many_ok l D cy hI g _  4 hv (many_ok (by decide))) (cwV 1 hts gX6_digest_X6_many rfl rfl rfl (by decide +kernel) ⟨Nat.le_of_ble_eq_true rfl, Nat.le_of_ble_eq_true rfl⟩) hB hC hS rfl hl.1 (Nat.le_of_ble_eq_true rfl) dX6_digest_19 ⟨Nat.le_of_ble_eq_true rfl, Nat.le_of_ble_eq_true rfl⟩ (fun H locs hC hS => ?_)
  refine lv_i2l hx hb dX6_digest_22 rfl ?_
  refine lv_ladd hx hb dX6_digest_23 ?_
  refine lv_lstore_n (lv' := [(1, .long ((((((((((7802 * 31) + (((fX6_many g 0).2).toInt64)) * 31) + (((fX6_many g 1).2).toInt64)) * 31) + (((fX6_many g 2).2).toInt64)) * 31) + (((fX6_many g 3).2).toInt64)) * 31) + (((fX6_many g 4).2).toInt64))), (3, .int 4), (0, .ref (ad 0 0))]) hx hb dX6_digest_24 rfl hl (by decide) rfl (fun ls hl => ?_)
  refine lv_iinc (v := 5) (lv' := [(3, .int 5), (1, .long ((((((((((7802 * 31) + (((fX6_many g 0).2).toInt64)) * 31) + (((fX6_many g 1).2).toInt64)) * 31) + (((fX6_many g 2).2).toInt64)) * 31) + (((fX6_many g 3).2).toInt64)) * 31) + (((fX6_many g 4).2).toInt64))), (0, .ref (ad 0 0))]) hx hb dX6_digest_25 hl (k := 1) rfl (by decide) (by decide) rfl (fun ls hl => ?_)
  refine lv_goto (tgt := 6) hx hb dX6_digest_28 (by decide) ?_
  refine lv_iload_n hx hb dX6_digest_6 rfl (lv_at hl 0 rfl) ?_
  refine lv_bipush (v := 15) hx hb dX6_digest_7 (by decide) ?_
  refine lv_icmp_gt (tgt := 31) hx hb dX6_digest_9 (by decide) (fun c => absurd c (by decide)) (fun _ => ?_)
  refine lv_lload_n hx hb dX6_digest_12 rfl (lv_at hl 1 rfl) ?_
  refine lv_ldc2 hx hb hown (hts _ qX6_digest_w2) dX6_digest_13 ?_
  refine lv_lmul hx hb dX6_digest_16 ?_
  refine lv_aload_n hx hb dX6_digest_17 rfl (lv_at hl 2 rfl) ?_
  refine lv_iload_n hx hb dX6_digest_18 rfl (lv_at hl 0 rfl) ?_
  refine q_callVi (As := [.int 5]) (κ := 0) (i := 0) rfl rfl ⟨_, rfl⟩ rfl ⟨hx, hb, hml, hown, hts⟩ (kX6_many_ok l D cy hI g _  5 hv (many_ok (by decide))) (cwV 1 hts gX6_digest_X6_many rfl rfl rfl (by decide +kernel) ⟨Nat.le_of_ble_eq_true rfl, Nat.le_of_ble_eq_true rfl⟩) hB hC hS rfl hl.1 (Nat.le_of_ble_eq_true rfl) dX6_digest_19 ⟨Nat.le_of_ble_eq_true rfl, Nat.le_of_ble_eq_true rfl⟩ (fun H locs hC hS => ?_)
  refine lv_i2l hx hb dX6_digest_22 rfl ?_
  refine lv_ladd hx hb dX6_digest_23 ?_
  refine lv_lstore_n (lv' := [(1, .long ((((((((((((7802 * 31) + (((fX6_many g 0).2).toInt64)) * 31) + (((fX6_many g 1).2).toInt64)) * 31) + (((fX6_many g 2).2).toInt64)) * 31) + (((fX6_many g 3).2).toInt64)) * 31) + (((fX6_many g 4).2).toInt64)) * 31) + (((fX6_many g 5).2).toInt64))), (3, .int 5), (0, .ref (ad 0 0))]) hx hb dX6_digest_24 rfl hl (by decide) rfl (fun ls hl => ?_)
  refine lv_iinc (v := 6) (lv' := [(3, .int 6), (1, .long ((((((((((((7802 * 31) + (((fX6_many g 0).2).toInt64)) * 31) + (((fX6_many g 1).2).toInt64)) * 31) + (((fX6_many g 2).2).toInt64)) * 31) + (((fX6_many g 3).2).toInt64)) * 31) + (((fX6_many g 4).2).toInt64)) * 31) + (((fX6_many g 5).2).toInt64))), (0, .ref (ad 0 0))]) hx hb dX6_digest_25 hl (k := 1) rfl (by decide) (by decide) rfl (fun ls hl => ?_)
  refine lv_goto (tgt := 6) hx hb dX6_digest_28 (by decide) ?_
  refine lv_iload_n hx hb dX6_digest_6 rfl (lv_at hl 0 rfl) ?_
  refine lv_bipush (v := 15) hx hb dX6_digest_7 (by decide) ?_
  refine lv_icmp_gt (tgt := 31) hx hb dX6_digest_9 (by decide) (fun c => absurd c (by decide)) (fun _ => ?_)
  refine lv_lload_n hx hb dX6_digest_12 rfl (lv_at hl 1 rfl) ?_
  refine lv_ldc2 hx hb hown (hts _ qX6_digest_w2) dX6_digest_13 ?_
  refine lv_lmul hx hb dX6_digest_16 ?_
  refine lv_aload_n hx hb dX6_digest_17 rfl (lv_at hl 2 rfl) ?_
  refine lv_iload_n hx hb dX6_digest_18 rfl (lv_at hl 0 rfl) ?_
  refine q_callVi (As := [.int 6]) (κ := 0) (i := 0) rfl rfl ⟨_, rfl⟩ rfl ⟨hx, hb, hml, hown, hts⟩ (kX6_many_ok l D cy hI g _  6 hv (many_ok (by decide))) (cwV 1 hts gX6_digest_X6_many rfl rfl rfl (by decide +kernel) ⟨Nat.le_of_ble_eq_true rfl, Nat.le_of_ble_eq_true rfl⟩) hB hC hS rfl hl.1 (Nat.le_of_ble_eq_true rfl) dX6_digest_19 ⟨Nat.le_of_ble_eq_true rfl, Nat.le_of_ble_eq_true rfl⟩ (fun H locs hC hS => ?_)
  refine lv_i2l hx hb dX6_digest_22 rfl ?_
  refine lv_ladd hx hb dX6_digest_23 ?_
  refine lv_lstore_n (lv' := [(1, .long ((((((((((((((7802 * 31) + (((fX6_many g 0).2).toInt64)) * 31) + (((fX6_many g 1).2).toInt64)) * 31) + (((fX6_many g 2).2).toInt64)) * 31) + (((fX6_many g 3).2).toInt64)) * 31) + (((fX6_many g 4).2).toInt64)) * 31) + (((fX6_many g 5).2).toInt64)) * 31) + (((fX6_many g 6).2).toInt64))), (3, .int 6), (0, .ref (ad 0 0))]) hx hb dX6_digest_24 rfl hl (by decide) rfl (fun ls hl => ?_)
  refine lv_iinc (v := 7) (lv' := [(3, .int 7), (1, .long ((((((((((((((7802 * 31) + (((fX6_many g 0).2).toInt64)) * 31) + (((fX6_many g 1).2).toInt64)) * 31) + (((fX6_many g 2).2).toInt64)) * 31) + (((fX6_many g 3).2).toInt64)) * 31) + (((fX6_many g 4).2).toInt64)) * 31) + (((fX6_many g 5).2).toInt64)) * 31) + (((fX6_many g 6).2).toInt64))), (0, .ref (ad 0 0))]) hx hb dX6_digest_25 hl (k := 1) rfl (by decide) (by decide) rfl (fun ls hl => ?_)
  refine lv_goto (tgt := 6) hx hb dX6_digest_28 (by decide) ?_
  refine lv_iload_n hx hb dX6_digest_6 rfl (lv_at hl 0 rfl) ?_
  refine lv_bipush (v := 15) hx hb dX6_digest_7 (by decide) ?_
  refine lv_icmp_gt (tgt := 31) hx hb dX6_digest_9 (by decide) (fun c => absurd c (by decide)) (fun _ => ?_)
  refine lv_lload_n hx hb dX6_digest_12 rfl (lv_at hl 1 rfl) ?_
  refine lv_ldc2 hx hb hown (hts _ qX6_digest_w2) dX6_digest_13 ?_
  refine lv_lmul hx hb dX6_digest_16 ?_
  refine lv_aload_n hx hb dX6_digest_17 rfl (lv_at hl 2 rfl) ?_
  refine lv_iload_n hx hb dX6_digest_18 rfl (lv_at hl 0 rfl) ?_
  refine q_callVi (As := [.int 7]) (κ := 0) (i := 0) rfl rfl ⟨_, rfl⟩ rfl ⟨hx, hb, hml, hown, hts⟩ (kX6_many_ok l D cy hI g _  7 hv (many_ok (by decide))) (cwV 1 hts gX6_digest_X6_many rfl rfl rfl (by decide +kernel) ⟨Nat.le_of_ble_eq_true rfl, Nat.le_of_ble_eq_true rfl⟩) hB hC hS rfl hl.1 (Nat.le_of_ble_eq_true rfl) dX6_digest_19 ⟨Nat.le_of_ble_eq_true rfl, Nat.le_of_ble_eq_true rfl⟩ (fun H locs hC hS => ?_)
  refine lv_i2l hx hb dX6_digest_22 rfl ?_
  refine lv_ladd hx hb dX6_digest_23 ?_
  refine lv_lstore_n (lv' := [(1, .long ((((((((((((((((7802 * 31) + (((fX6_many g 0).2).toInt64)) * 31) + (((fX6_many g 1).2).toInt64)) * 31) + (((fX6_many g 2).2).toInt64)) * 31) + (((fX6_many g 3).2).toInt64)) * 31) + (((fX6_many g 4).2).toInt64)) * 31) + (((fX6_many g 5).2).toInt64)) * 31) + (((fX6_many g 6).2).toInt64)) * 31) + (((fX6_many g 7).2).toInt64))), (3, .int 7), (0, .ref (ad 0 0))]) hx hb dX6_digest_24 rfl hl (by decide) rfl (fun ls hl => ?_)
  refine lv_iinc (v := 8) (lv' := [(3, .int 8), (1, .long ((((((((((((((((7802 * 31) + (((fX6_many g 0).2).toInt64)) * 31) + (((fX6_many g 1).2).toInt64)) * 31) + (((fX6_many g 2).2).toInt64)) * 31) + (((fX6_many g 3).2).toInt64)) * 31) + (((fX6_many g 4).2).toInt64)) * 31) + (((fX6_many g 5).2).toInt64)) * 31) + (((fX6_many g 6).2).toInt64)) * 31) + (((fX6_many g 7).2).toInt64))), (0, .ref (ad 0 0))]) hx hb dX6_digest_25 hl (k := 1) rfl (by decide) (by decide) rfl (fun ls hl => ?_)
  refine lv_goto (tgt := 6) hx hb dX6_digest_28 (by decide) ?_
  refine lv_iload_n hx hb dX6_digest_6 rfl (lv_at hl 0 rfl) ?_
  refine lv_bipush (v := 15) hx hb dX6_digest_7 (by decide) ?_
  refine lv_icmp_gt (tgt := 31) hx hb dX6_digest_9 (by decide) (fun c => absurd c (by decide)) (fun _ => ?_)
  refine lv_lload_n hx hb dX6_digest_12 rfl (lv_at hl 1 rfl) ?_
  refine lv_ldc2 hx hb hown (hts _ qX6_digest_w2) dX6_digest_13 ?_
  refine lv_lmul hx hb dX6_digest_16 ?_
  refine lv_aload_n hx hb dX6_digest_17 rfl (lv_at hl 2 rfl) ?_
  refine lv_iload_n hx hb dX6_digest_18 rfl (lv_at hl 0 rfl) ?_
  refine q_callVi (As := [.int 8]) (κ := 0) (i := 0) rfl rfl ⟨_, rfl⟩ rfl ⟨hx, hb, hml, hown, hts⟩ (kX6_many_ok l D cy hI g _  8 hv (many_ok (by decide))) (cwV 1 hts gX6_digest_X6_many rfl rfl rfl (by decide +kernel) ⟨Nat.le_of_ble_eq_true rfl, Nat.le_of_ble_eq_true rfl⟩) hB hC hS rfl hl.1 (Nat.le_of_ble_eq_true rfl) dX6_digest_19 ⟨Nat.le_of_ble_eq_true rfl, Nat.le_of_ble_eq_true rfl⟩ (fun H locs hC hS => ?_)
  refine lv_i2l hx hb dX6_digest_22 rfl ?_
  refine lv_ladd hx hb dX6_digest_23 ?_
  refine lv_lstore_n (lv' := [(1, .long ((((((((((((((((((7802 * 31) + (((fX6_many g 0).2).toInt64)) * 31) + (((fX6_many g 1).2).toInt64)) * 31) + (((fX6_many g 2).2).toInt64)) * 31) + (((fX6_many g 3).2).toInt64)) * 31) + (((fX6_many g 4).2).toInt64)) * 31) + (((fX6_many g 5).2).toInt64)) * 31) + (((fX6_many g 6).2).toInt64)) * 31) + (((fX6_many g 7).2).toInt64)) * 31) + (((fX6_many g 8).2).toInt64))), (3, .int 8), (0, .ref (ad 0 0))]) hx hb dX6_digest_24 rfl hl (by decide) rfl (fun ls hl => ?_)
  refine lv_iinc (v := 9) (lv' := [(3, .int 9), (1, .long ((((((((((((((((((7802 * 31) + (((fX6_many g 0).2).toInt64)) * 31) + (((fX6_many g 1).2).toInt64)) * 31) + (((fX6_many g 2).2).toInt64)) * 31) + (((fX6_many g 3).2).toInt64)) * 31) + (((fX6_many g 4).2).toInt64)) * 31) + (((fX6_many g 5).2).toInt64)) * 31) + (((fX6_many g 6).2).toInt64)) * 31) + (((fX6_many g 7).2).toInt64)) * 31) + (((fX6_many g 8).2).toInt64))), (0, .ref (ad 0 0))]) hx hb dX6_digest_25 hl (k := 1) rfl (by decide) (by decide) rfl (fun ls hl => ?_)
  refine lv_goto (tgt := 6) hx hb dX6_digest_28 (by decide) ?_
  refine lv_iload_n hx hb dX6_digest_6 rfl (lv_at hl 0 rfl) ?_
  refine lv_bipush (v := 15) hx hb dX6_digest_7 (by decide) ?_
  refine lv_icmp_gt (tgt := 31) hx hb dX6_digest_9 (by decide) (fun c => absurd c (by decide)) (fun _ => ?_)
  refine lv_lload_n hx hb dX6_digest_12 rfl (lv_at hl 1 rfl) ?_
  refine lv_ldc2 hx hb hown (hts _ qX6_digest_w2) dX6_digest_13 ?_
  refine lv_lmul hx hb dX6_digest_16 ?_
  refine lv_aload_n hx hb dX6_digest_17 rfl (lv_at hl 2 rfl) ?_
  refine lv_iload_n hx hb dX6_digest_18 rfl (lv_at hl 0 rfl) ?_
  refine q_callVi (As := [.int 9]) (κ := 0) (i := 0) rfl rfl ⟨_, rfl⟩ rfl ⟨hx, hb, hml, hown, hts⟩ (kX6_many_ok l D cy hI g _  9 hv (many_ok (by decide))) (cwV 1 hts gX6_digest_X6_many rfl rfl rfl (by decide +kernel) ⟨Nat.le_of_ble_eq_true rfl, Nat.le_of_ble_eq_true rfl⟩) hB hC hS rfl hl.1 (Nat.le_of_ble_eq_true rfl) dX6_digest_19 ⟨Nat.le_of_ble_eq_true rfl, Nat.le_of_ble_eq_true rfl⟩ (fun H locs hC hS => ?_)
  refine lv_i2l hx hb dX6_digest_22 rfl ?_
  refine lv_ladd hx hb dX6_digest_23 ?_
  refine lv_lstore_n (lv' := [(1, .long ((((((((((((((((((((7802 * 31) + (((fX6_many g 0).2).toInt64)) * 31) + (((fX6_many g 1).2).toInt64)) * 31) + (((fX6_many g 2).2).toInt64)) * 31) + (((fX6_many g 3).2).toInt64)) * 31) + (((fX6_many g 4).2).toInt64)) * 31) + (((fX6_many g 5).2).toInt64)) * 31) + (((fX6_many g 6).2).toInt64)) * 31) + (((fX6_many g 7).2).toInt64)) * 31) + (((fX6_many g 8).2).toInt64)) * 31) + (((fX6_many g 9).2).toInt64))), (3, .int 9), (0, .ref (ad 0 0))]) hx hb dX6_digest_24 rfl hl (by decide) rfl (fun ls hl => ?_)
  refine lv_iinc (v := 10) (lv' := [(3, .int 10), (1, .long ((((((((((((((((((((7802 * 31) + (((fX6_many g 0).2).toInt64)) * 31) + (((fX6_many g 1).2).toInt64)) * 31) + (((fX6_many g 2).2).toInt64)) * 31) + (((fX6_many g 3).2).toInt64)) * 31) + (((fX6_many g 4).2).toInt64)) * 31) + (((fX6_many g 5).2).toInt64)) * 31) + (((fX6_many g 6).2).toInt64)) * 31) + (((fX6_many g 7).2).toInt64)) * 31) + (((fX6_many g 8).2).toInt64)) * 31) + (((fX6_many g 9).2).toInt64))), (0, .ref (ad 0 0))]) hx hb dX6_digest_25 hl (k := 1) rfl (by decide) (by decide) rfl (fun ls hl => ?_)
  refine lv_goto (tgt := 6) hx hb dX6_digest_28 (by decide) ?_
  refine lv_iload_n hx hb dX6_digest_6 rfl (lv_at hl 0 rfl) ?_
  refine lv_bipush (v := 15) hx hb dX6_digest_7 (by decide) ?_
  refine lv_icmp_gt (tgt := 31) hx hb dX6_digest_9 (by decide) (fun c => absurd c (by decide)) (fun _ => ?_)
  refine lv_lload_n hx hb dX6_digest_12 rfl (lv_at hl 1 rfl) ?_
  refine lv_ldc2 hx hb hown (hts _ qX6_digest_w2) dX6_digest_13 ?_
  refine lv_lmul hx hb dX6_digest_16 ?_
  refine lv_aload_n hx hb dX6_digest_17 rfl (lv_at hl 2 rfl) ?_
  refine lv_iload_n hx hb dX6_digest_18 rfl (lv_at hl 0 rfl) ?_
  refine q_callVi (As := [.int 10]) (κ := 0) (i := 0) rfl rfl ⟨_, rfl⟩ rfl ⟨hx, hb, hml, hown, hts⟩ (kX6_many_ok l D cy hI g _  10 hv (many_ok (by decide))) (cwV 1 hts gX6_digest_X6_many rfl rfl rfl (by decide +kernel) ⟨Nat.le_of_ble_eq_true rfl, Nat.le_of_ble_eq_true rfl⟩) hB hC hS rfl hl.1 (Nat.le_of_ble_eq_true rfl) dX6_digest_19 ⟨Nat.le_of_ble_eq_true rfl, Nat.le_of_ble_eq_true rfl⟩ (fun H locs hC hS => ?_)
  refine lv_i2l hx hb dX6_digest_22 rfl ?_
  refine lv_ladd hx hb dX6_digest_23 ?_
  refine lv_lstore_n (lv' := [(1, .long ((((((((((((((((((((((7802 * 31) + (((fX6_many g 0).2).toInt64)) * 31) + (((fX6_many g 1).2).toInt64)) * 31) + (((fX6_many g 2).2).toInt64)) * 31) + (((fX6_many g 3).2).toInt64)) * 31) + (((fX6_many g 4).2).toInt64)) * 31) + (((fX6_many g 5).2).toInt64)) * 31) + (((fX6_many g 6).2).toInt64)) * 31) + (((fX6_many g 7).2).toInt64)) * 31) + (((fX6_many g 8).2).toInt64)) * 31) + (((fX6_many g 9).2).toInt64)) * 31) + (((fX6_many g 10).2).toInt64))), (3, .int 10), (0, .ref (ad 0 0))]) hx hb dX6_digest_24 rfl hl (by decide) rfl (fun ls hl => ?_)
  refine lv_iinc (v := 11) (lv' := [(3, .int 11), (1, .long ((((((((((((((((((((((7802 * 31) + (((fX6_many g 0).2).toInt64)) * 31) + (((fX6_many g 1).2).toInt64)) * 31) + (((fX6_many g 2).2).toInt64)) * 31) + (((fX6_many g 3).2).toInt64)) * 31) + (((fX6_many g 4).2).toInt64)) * 31) + (((fX6_many g 5).2).toInt64)) * 31) + (((fX6_many g 6).2).toInt64)) * 31) + (((fX6_many g 7).2).toInt64)) * 31) + (((fX6_many g 8).2).toInt64)) * 31) + (((fX6_many g 9).2).toInt64)) * 31) + (((fX6_many g 10).2).toInt64))), (0, .ref (ad 0 0))]) hx hb dX6_digest_25 hl (k := 1) rfl (by decide) (by decide) rfl (fun ls hl => ?_)
  refine lv_goto (tgt := 6) hx hb dX6_digest_28 (by decide) ?_
  refine lv_iload_n hx hb dX6_digest_6 rfl (lv_at hl 0 rfl) ?_
  refine lv_bipush (v := 15) hx hb dX6_digest_7 (by decide) ?_
  refine lv_icmp_gt (tgt := 31) hx hb dX6_digest_9 (by decide) (fun c => absurd c (by decide)) (fun _ => ?_)
  refine lv_lload_n hx hb dX6_digest_12 rfl (lv_at hl 1 rfl) ?_
  refine lv_ldc2 hx hb hown (hts _ qX6_digest_w2) dX6_digest_13 ?_
  refine lv_lmul hx hb dX6_digest_16 ?_
  refine lv_aload_n hx hb dX6_digest_17 rfl (lv_at hl 2 rfl) ?_
  refine lv_iload_n hx hb dX6_digest_18 rfl (lv_at hl 0 rfl) ?_
  refine q_callVi (As := [.int 11]) (κ := 0) (i := 0) rfl rfl ⟨_, rfl⟩ rfl ⟨hx, hb, hml, hown, hts⟩ (kX6_many_ok l D cy hI g _  11 hv (many_ok (by decide))) (cwV 1 hts gX6_digest_X6_many rfl rfl rfl (by decide +kernel) ⟨Nat.le_of_ble_eq_true rfl, Nat.le_of_ble_eq_true rfl⟩) hB hC hS rfl hl.1 (Nat.le_of_ble_eq_true rfl) dX6_digest_19 ⟨Nat.le_of_ble_eq_true rfl, Nat.le_of_ble_eq_true rfl⟩ (fun H locs hC hS => ?_)
  refine lv_i2l hx hb dX6_digest_22 rfl ?_
  refine lv_ladd hx hb dX6_digest_23 ?_
  refine lv_lstore_n (lv' := [(1, .long ((((((((((((((((((((((((7802 * 31) + (((fX6_many g 0).2).toInt64)) * 31) + (((fX6_many g 1).2).toInt64)) * 31) + (((fX6_many g 2).2).toInt64)) * 31) + (((fX6_many g 3).2).toInt64)) * 31) + (((fX6_many g 4).2).toInt64)) * 31) + (((fX6_many g 5).2).toInt64)) * 31) + (((fX6_many g 6).2).toInt64)) * 31) + (((fX6_many g 7).2).toInt64)) * 31) + (((fX6_many g 8).2).toInt64)) * 31) + (((fX6_many g 9).2).toInt64)) * 31) + (((fX6_many g 10).2).toInt64)) * 31) + (((fX6_many g 11).2).toInt64))), (3, .int 11), (0, .ref (ad 0 0))]) hx hb dX6_digest_24 rfl hl (by decide) rfl (fun ls hl => ?_)
  refine lv_iinc (v := 12) (lv' := [(3, .int 12), (1, .long ((((((((((((((((((((((((7802 * 31) + (((fX6_many g 0).2).toInt64)) * 31) + (((fX6_many g 1).2).toInt64)) * 31) + (((fX6_many g 2).2).toInt64)) * 31) + (((fX6_many g 3).2).toInt64)) * 31) + (((fX6_many g 4).2).toInt64)) * 31) + (((fX6_many g 5).2).toInt64)) * 31) + (((fX6_many g 6).2).toInt64)) * 31) + (((fX6_many g 7).2).toInt64)) * 31) + (((fX6_many g 8).2).toInt64)) * 31) + (((fX6_many g 9).2).toInt64)) * 31) + (((fX6_many g 10).2).toInt64)) * 31) + (((fX6_many g 11).2).toInt64))), (0, .ref (ad 0 0))]) hx hb dX6_digest_25 hl (k := 1) rfl (by decide) (by decide) rfl (fun ls hl => ?_)
  refine lv_goto (tgt := 6) hx hb dX6_digest_28 (by decide) ?_
  refine lv_iload_n hx hb dX6_digest_6 rfl (lv_at hl 0 rfl) ?_
  refine lv_bipush (v := 15) hx hb dX6_digest_7 (by decide) ?_
  refine lv_icmp_gt (tgt := 31) hx hb dX6_digest_9 (by decide) (fun c => absurd c (by decide)) (fun _ => ?_)
  refine lv_lload_n hx hb dX6_digest_12 rfl (lv_at hl 1 rfl) ?_
  refine lv_ldc2 hx hb hown (hts _ qX6_digest_w2) dX6_digest_13 ?_
  refine lv_lmul hx hb dX6_digest_16 ?_
  refine lv_aload_n hx hb dX6_digest_17 rfl (lv_at hl 2 rfl) ?_
  refine lv_iload_n hx hb dX6_digest_18 rfl (lv_at hl 0 rfl) ?_
  refine q_callVi (As := [.int 12]) (κ := 0) (i := 0) rfl rfl ⟨_, rfl⟩ rfl ⟨hx, hb, hml, hown, hts⟩ (kX6_many_ok l D cy hI g _  12 hv (many_ok (by decide))) (cwV 1 hts gX6_digest_X6_many rfl rfl rfl (by decide +kernel) ⟨Nat.le_of_ble_eq_true rfl, Nat.le_of_ble_eq_true rfl⟩) hB hC hS rfl hl.1 (Nat.le_of_ble_eq_true rfl) dX6_digest_19 ⟨Nat.le_of_ble_eq_true rfl, Nat.le_of_ble_eq_true rfl⟩ (fun H locs hC hS => ?_)
  refine lv_i2l hx hb dX6_digest_22 rfl ?_
  refine lv_ladd hx hb dX6_digest_23 ?_
  refine lv_lstore_n (lv' := [(1, .long ((((((((((((((((((((((((((7802 * 31) + (((fX6_many g 0).2).toInt64)) * 31) + (((fX6_many g 1).2).toInt64)) * 31) + (((fX6_many g 2).2).toInt64)) * 31) + (((fX6_many g 3).2).toInt64)) * 31) + (((fX6_many g 4).2).toInt64)) * 31) + (((fX6_many g 5).2).toInt64)) * 31) + (((fX6_many g 6).2).toInt64)) * 31) + (((fX6_many g 7).2).toInt64)) * 31) + (((fX6_many g 8).2).toInt64)) * 31) + (((fX6_many g 9).2).toInt64)) * 31) + (((fX6_many g 10).2).toInt64)) * 31) + (((fX6_many g 11).2).toInt64)) * 31) + (((fX6_many g 12).2).toInt64))), (3, .int 12), (0, .ref (ad 0 0))]) hx hb dX6_digest_24 rfl hl (by decide) rfl (fun ls hl => ?_)
  refine lv_iinc (v := 13) (lv' := [(3, .int 13), (1, .long ((((((((((((((((((((((((((7802 * 31) + (((fX6_many g 0).2).toInt64)) * 31) + (((fX6_many g 1).2).toInt64)) * 31) + (((fX6_many g 2).2).toInt64)) * 31) + (((fX6_many g 3).2).toInt64)) * 31) + (((fX6_many g 4).2).toInt64)) * 31) + (((fX6_many g 5).2).toInt64)) * 31) + (((fX6_many g 6).2).toInt64)) * 31) + (((fX6_many g 7).2).toInt64)) * 31) + (((fX6_many g 8).2).toInt64)) * 31) + (((fX6_many g 9).2).toInt64)) * 31) + (((fX6_many g 10).2).toInt64)) * 31) + (((fX6_many g 11).2).toInt64)) * 31) + (((fX6_many g 12).2).toInt64))), (0, .ref (ad 0 0))]) hx hb dX6_digest_25 hl (k := 1) rfl (by decide) (by decide) rfl (fun ls hl => ?_)
  refine lv_goto (tgt := 6) hx hb dX6_digest_28 (by decide) ?_
  refine lv_iload_n hx hb dX6_digest_6 rfl (lv_at hl 0 rfl) ?_
  refine lv_bipush (v := 15) hx hb dX6_digest_7 (by decide) ?_
  refine lv_icmp_gt (tgt := 31) hx hb dX6_digest_9 (by decide) (fun c => absurd c (by decide)) (fun _ => ?_)
  refine lv_lload_n hx hb dX6_digest_12 rfl (lv_at hl 1 rfl) ?_
  refine lv_ldc2 hx hb hown (hts _ qX6_digest_w2) dX6_digest_13 ?_
  refine lv_lmul hx hb dX6_digest_16 ?_
  refine lv_aload_n hx hb dX6_digest_17 rfl (lv_at hl 2 rfl) ?_
  refine lv_iload_n hx hb dX6_digest_18 rfl (lv_at hl 0 rfl) ?_
  refine q_callVi (As := [.int 13]) (κ := 0) (i := 0) rfl rfl ⟨_, rfl⟩ rfl ⟨hx, hb, hml, hown, hts⟩ (kX6_many_ok l D cy hI g _  13 hv (many_ok (by decide))) (cwV 1 hts gX6_digest_X6_many rfl rfl rfl (by decide +kernel) ⟨Nat.le_of_ble_eq_true rfl, Nat.le_of_ble_eq_true rfl⟩) hB hC hS rfl hl.1 (Nat.le_of_ble_eq_true rfl) dX6_digest_19 ⟨Nat.le_of_ble_eq_true rfl, Nat.le_of_ble_eq_true rfl⟩ (fun H locs hC hS => ?_)
  refine lv_i2l hx hb dX6_digest_22 rfl ?_
  refine lv_ladd hx hb dX6_digest_23 ?_
  refine lv_lstore_n (lv' := [(1, .long ((((((((((((((((((((((((((((7802 * 31) + (((fX6_many g 0).2).toInt64)) * 31) + (((fX6_many g 1).2).toInt64)) * 31) + (((fX6_many g 2).2).toInt64)) * 31) + (((fX6_many g 3).2).toInt64)) * 31) + (((fX6_many g 4).2).toInt64)) * 31) + (((fX6_many g 5).2).toInt64)) * 31) + (((fX6_many g 6).2).toInt64)) * 31) + (((fX6_many g 7).2).toInt64)) * 31) + (((fX6_many g 8).2).toInt64)) * 31) + (((fX6_many g 9).2).toInt64)) * 31) + (((fX6_many g 10).2).toInt64)) * 31) + (((fX6_many g 11).2).toInt64)) * 31) + (((fX6_many g 12).2).toInt64)) * 31) + (((fX6_many g 13).2).toInt64))), (3, .int 13), (0, .ref (ad 0 0))]) hx hb dX6_digest_24 rfl hl (by decide) rfl (fun ls hl => ?_)
  refine lv_iinc (v := 14) (lv' := [(3, .int 14), (1, .long ((((((((((((((((((((((((((((7802 * 31) + (((fX6_many g 0).2).toInt64)) * 31) + (((fX6_many g 1).2).toInt64)) * 31) + (((fX6_many g 2).2).toInt64)) * 31) + (((fX6_many g 3).2).toInt64)) * 31) + (((fX6_many g 4).2).toInt64)) * 31) + (((fX6_many g 5).2).toInt64)) * 31) + (((fX6_many g 6).2).toInt64)) * 31) + (((fX6_many g 7).2).toInt64)) * 31) + (((fX6_many g 8).2).toInt64)) * 31) + (((fX6_many g 9).2).toInt64)) * 31) + (((fX6_many g 10).2).toInt64)) * 31) + (((fX6_many g 11).2).toInt64)) * 31) + (((fX6_many g 12).2).toInt64)) * 31) + (((fX6_many g 13).2).toInt64))), (0, .ref (ad 0 0))]) hx hb dX6_digest_25 hl (k := 1) rfl (by decide) (by decide) rfl (fun ls hl => ?_)
  refine lv_goto (tgt := 6) hx hb dX6_digest_28 (by decide) ?_
  refine lv_iload_n hx hb dX6_digest_6 rfl (lv_at hl 0 rfl) ?_
  refine lv_bipush (v := 15) hx hb dX6_digest_7 (by decide) ?_
  refine lv_icmp_gt (tgt := 31) hx hb dX6_digest_9 (by decide) (fun c => absurd c (by decide)) (fun _ => ?_)
  refine lv_lload_n hx hb dX6_digest_12 rfl (lv_at hl 1 rfl) ?_
  refine lv_ldc2 hx hb hown (hts _ qX6_digest_w2) dX6_digest_13 ?_
  refine lv_lmul hx hb dX6_digest_16 ?_
  refine lv_aload_n hx hb dX6_digest_17 rfl (lv_at hl 2 rfl) ?_
  refine lv_iload_n hx hb dX6_digest_18 rfl (lv_at hl 0 rfl) ?_
  refine q_callVi (As := [.int 14]) (κ := 0) (i := 0) rfl rfl ⟨_, rfl⟩ rfl ⟨hx, hb, hml, hown, hts⟩ (kX6_many_ok l D cy hI g _  14 hv (many_ok (by decide))) (cwV 1 hts gX6_digest_X6_many rfl rfl rfl (by decide +kernel) ⟨Nat.le_of_ble_eq_true rfl, Nat.le_of_ble_eq_true rfl⟩) hB hC hS rfl hl.1 (Nat.le_of_ble_eq_true rfl) dX6_digest_19 ⟨Nat.le_of_ble_eq_true rfl, Nat.le_of_ble_eq_true rfl⟩ (fun H locs hC hS => ?_)
  refine lv_i2l hx hb dX6_digest_22 rfl ?_
  refine lv_ladd hx hb dX6_digest_23 ?_
  refine lv_lstore_n (lv' := [(1, .long ((((((((((((((((((((((((((((((7802 * 31) + (((fX6_many g 0).2).toInt64)) * 31) + (((fX6_many g 1).2).toInt64)) * 31) + (((fX6_many g 2).2).toInt64)) * 31) + (((fX6_many g 3).2).toInt64)) * 31) + (((fX6_many g 4).2).toInt64)) * 31) + (((fX6_many g 5).2).toInt64)) * 31) + (((fX6_many g 6).2).toInt64)) * 31) + (((fX6_many g 7).2).toInt64)) * 31) + (((fX6_many g 8).2).toInt64)) * 31) + (((fX6_many g 9).2).toInt64)) * 31) + (((fX6_many g 10).2).toInt64)) * 31) + (((fX6_many g 11).2).toInt64)) * 31) + (((fX6_many g 12).2).toInt64)) * 31) + (((fX6_many g 13).2).toInt64)) * 31) + (((fX6_many g 14).2).toInt64))), (3, .int 14), (0, .ref (ad 0 0))]) hx hb dX6_digest_24 rfl hl (by decide) rfl (fun ls hl => ?_)
  refine lv_iinc (v := 15) (lv' := [(3, .int 15), (1, .long ((((((((((((((((((((((((((((((7802 * 31) + (((fX6_many g 0).2).toInt64)) * 31) + (((fX6_many g 1).2).toInt64)) * 31) + (((fX6_many g 2).2).toInt64)) * 31) + (((fX6_many g 3).2).toInt64)) * 31) + (((fX6_many g 4).2).toInt64)) * 31) + (((fX6_many g 5).2).toInt64)) * 31) + (((fX6_many g 6).2).toInt64)) * 31) + (((fX6_many g 7).2).toInt64)) * 31) + (((fX6_many g 8).2).toInt64)) * 31) + (((fX6_many g 9).2).toInt64)) * 31) + (((fX6_many g 10).2).toInt64)) * 31) + (((fX6_many g 11).2).toInt64)) * 31) + (((fX6_many g 12).2).toInt64)) * 31) + (((fX6_many g 13).2).toInt64)) * 31) + (((fX6_many g 14).2).toInt64))), (0, .ref (ad 0 0))]) hx hb dX6_digest_25 hl (k := 1) rfl (by decide) (by decide) rfl (fun ls hl => ?_)
  refine lv_goto (tgt := 6) hx hb dX6_digest_28 (by decide) ?_
  refine lv_iload_n hx hb dX6_digest_6 rfl (lv_at hl 0 rfl) ?_
  refine lv_bipush (v := 15) hx hb dX6_digest_7 (by decide) ?_
  refine lv_icmp_gt (tgt := 31) hx hb dX6_digest_9 (by decide) (fun c => absurd c (by decide)) (fun _ => ?_)
  refine lv_lload_n hx hb dX6_digest_12 rfl (lv_at hl 1 rfl) ?_
  refine lv_ldc2 hx hb hown (hts _ qX6_digest_w2) dX6_digest_13 ?_
  refine lv_lmul hx hb dX6_digest_16 ?_
  refine lv_aload_n hx hb dX6_digest_17 rfl (lv_at hl 2 rfl) ?_
  refine lv_iload_n hx hb dX6_digest_18 rfl (lv_at hl 0 rfl) ?_
  refine q_callVi (As := [.int 15]) (κ := 0) (i := 0) rfl rfl ⟨_, rfl⟩ rfl ⟨hx, hb, hml, hown, hts⟩ (kX6_many_ok l D cy hI g _  15 hv (many_ok (by decide))) (cwV 1 hts gX6_digest_X6_many rfl rfl rfl (by decide +kernel) ⟨Nat.le_of_ble_eq_true rfl, Nat.le_of_ble_eq_true rfl⟩) hB hC hS rfl hl.1 (Nat.le_of_ble_eq_true rfl) dX6_digest_19 ⟨Nat.le_of_ble_eq_true rfl, Nat.le_of_ble_eq_true rfl⟩ (fun H locs hC hS => ?_)
  refine lv_i2l hx hb dX6_digest_22 rfl ?_
  refine lv_ladd hx hb dX6_digest_23 ?_
  refine lv_lstore_n (lv' := [(1, .long ((((((((((((((((((((((((((((((((7802 * 31) + (((fX6_many g 0).2).toInt64)) * 31) + (((fX6_many g 1).2).toInt64)) * 31) + (((fX6_many g 2).2).toInt64)) * 31) + (((fX6_many g 3).2).toInt64)) * 31) + (((fX6_many g 4).2).toInt64)) * 31) + (((fX6_many g 5).2).toInt64)) * 31) + (((fX6_many g 6).2).toInt64)) * 31) + (((fX6_many g 7).2).toInt64)) * 31) + (((fX6_many g 8).2).toInt64)) * 31) + (((fX6_many g 9).2).toInt64)) * 31) + (((fX6_many g 10).2).toInt64)) * 31) + (((fX6_many g 11).2).toInt64)) * 31) + (((fX6_many g 12).2).toInt64)) * 31) + (((fX6_many g 13).2).toInt64)) * 31) + (((fX6_many g 14).2).toInt64)) * 31) + (((fX6_many g 15).2).toInt64))), (3, .int 15), (0, .ref (ad 0 0))]) hx hb dX6_digest_24 rfl hl (by decide) rfl (fun ls hl => ?_)
  refine lv_iinc (v := 16) (lv' := [(3, .int 16), (1, .long ((((((((((((((((((((((((((((((((7802 * 31) + (((fX6_many g 0).2).toInt64)) * 31) + (((fX6_many g 1).2).toInt64)) * 31) + (((fX6_many g 2).2).toInt64)) * 31) + (((fX6_many g 3).2).toInt64)) * 31) + (((fX6_many g 4).2).toInt64)) * 31) + (((fX6_many g 5).2).toInt64)) * 31) + (((fX6_many g 6).2).toInt64)) * 31) + (((fX6_many g 7).2).toInt64)) * 31) + (((fX6_many g 8).2).toInt64)) * 31) + (((fX6_many g 9).2).toInt64)) * 31) + (((fX6_many g 10).2).toInt64)) * 31) + (((fX6_many g 11).2).toInt64)) * 31) + (((fX6_many g 12).2).toInt64)) * 31) + (((fX6_many g 13).2).toInt64)) * 31) + (((fX6_many g 14).2).toInt64)) * 31) + (((fX6_many g 15).2).toInt64))), (0, .ref (ad 0 0))]) hx hb dX6_digest_25 hl (k := 1) rfl (by decide) (by decide) rfl (fun ls hl => ?_)
  refine lv_goto (tgt := 6) hx hb dX6_digest_28 (by decide) ?_
  refine lv_iload_n hx hb dX6_digest_6 rfl (lv_at hl 0 rfl) ?_
  refine lv_bipush (v := 15) hx hb dX6_digest_7 (by decide) ?_
  refine lv_icmp_gt (tgt := 31) hx hb dX6_digest_9 (by decide) (fun _ => ?_) (fun c => absurd c (by decide))
  refine lv_aload_n hx hb dX6_digest_31 rfl (lv_at hl 2 rfl) ?_
  refine lv_lload_n hx hb dX6_digest_32 rfl (lv_at hl 1 rfl) ?_
  refine q_callVl (As := [.long ((((((((((((((((((((((((((((((((7802 * 31) + (((fX6_many g 0).2).toInt64)) * 31) + (((fX6_many g 1).2).toInt64)) * 31) + (((fX6_many g 2).2).toInt64)) * 31) + (((fX6_many g 3).2).toInt64)) * 31) + (((fX6_many g 4).2).toInt64)) * 31) + (((fX6_many g 5).2).toInt64)) * 31) + (((fX6_many g 6).2).toInt64)) * 31) + (((fX6_many g 7).2).toInt64)) * 31) + (((fX6_many g 8).2).toInt64)) * 31) + (((fX6_many g 9).2).toInt64)) * 31) + (((fX6_many g 10).2).toInt64)) * 31) + (((fX6_many g 11).2).toInt64)) * 31) + (((fX6_many g 12).2).toInt64)) * 31) + (((fX6_many g 13).2).toInt64)) * 31) + (((fX6_many g 14).2).toInt64)) * 31) + (((fX6_many g 15).2).toInt64))]) (κ := 0) (i := 0) rfl rfl ⟨_, rfl⟩ rfl ⟨hx, hb, hml, hown, hts⟩ (kX6_digestFarms l D cy hI g _  ((((((((((((((((((((((((((((((((7802 * 31) + (((fX6_many g 0).2).toInt64)) * 31) + (((fX6_many g 1).2).toInt64)) * 31) + (((fX6_many g 2).2).toInt64)) * 31) + (((fX6_many g 3).2).toInt64)) * 31) + (((fX6_many g 4).2).toInt64)) * 31) + (((fX6_many g 5).2).toInt64)) * 31) + (((fX6_many g 6).2).toInt64)) * 31) + (((fX6_many g 7).2).toInt64)) * 31) + (((fX6_many g 8).2).toInt64)) * 31) + (((fX6_many g 9).2).toInt64)) * 31) + (((fX6_many g 10).2).toInt64)) * 31) + (((fX6_many g 11).2).toInt64)) * 31) + (((fX6_many g 12).2).toInt64)) * 31) + (((fX6_many g 13).2).toInt64)) * 31) + (((fX6_many g 14).2).toInt64)) * 31) + (((fX6_many g 15).2).toInt64)) hv) (cwV 1 hts gX6_digest_X6_digestFarms rfl rfl rfl (by decide +kernel) ⟨Nat.le_of_ble_eq_true rfl, Nat.le_of_ble_eq_true rfl⟩) hB hC hS rfl hl.1 (Nat.le_of_ble_eq_true rfl) dX6_digest_33 ⟨Nat.le_of_ble_eq_true rfl, Nat.le_of_ble_eq_true rfl⟩ (fun H locs hC hS => ?_)
  refine lv_lstore_n (lv' := [(1, .long (fX6_digestFarms g ((((((((((((((((((((((((((((((((7802 * 31) + (((fX6_many g 0).2).toInt64)) * 31) + (((fX6_many g 1).2).toInt64)) * 31) + (((fX6_many g 2).2).toInt64)) * 31) + (((fX6_many g 3).2).toInt64)) * 31) + (((fX6_many g 4).2).toInt64)) * 31) + (((fX6_many g 5).2).toInt64)) * 31) + (((fX6_many g 6).2).toInt64)) * 31) + (((fX6_many g 7).2).toInt64)) * 31) + (((fX6_many g 8).2).toInt64)) * 31) + (((fX6_many g 9).2).toInt64)) * 31) + (((fX6_many g 10).2).toInt64)) * 31) + (((fX6_many g 11).2).toInt64)) * 31) + (((fX6_many g 12).2).toInt64)) * 31) + (((fX6_many g 13).2).toInt64)) * 31) + (((fX6_many g 14).2).toInt64)) * 31) + (((fX6_many g 15).2).toInt64)))), (3, .int 16), (0, .ref (ad 0 0))]) hx hb dX6_digest_36 rfl hl (by decide) rfl (fun ls hl => ?_)
  refine lv_aload_n hx hb dX6_digest_37 rfl (lv_at hl 2 rfl) ?_
  refine lv_lload_n hx hb dX6_digest_38 rfl (lv_at hl 0 rfl) ?_
  refine q_callVl (As := [.long (fX6_digestFarms g ((((((((((((((((((((((((((((((((7802 * 31) + (((fX6_many g 0).2).toInt64)) * 31) + (((fX6_many g 1).2).toInt64)) * 31) + (((fX6_many g 2).2).toInt64)) * 31) + (((fX6_many g 3).2).toInt64)) * 31) + (((fX6_many g 4).2).toInt64)) * 31) + (((fX6_many g 5).2).toInt64)) * 31) + (((fX6_many g 6).2).toInt64)) * 31) + (((fX6_many g 7).2).toInt64)) * 31) + (((fX6_many g 8).2).toInt64)) * 31) + (((fX6_many g 9).2).toInt64)) * 31) + (((fX6_many g 10).2).toInt64)) * 31) + (((fX6_many g 11).2).toInt64)) * 31) + (((fX6_many g 12).2).toInt64)) * 31) + (((fX6_many g 13).2).toInt64)) * 31) + (((fX6_many g 14).2).toInt64)) * 31) + (((fX6_many g 15).2).toInt64)))]) (κ := 0) (i := 0) rfl rfl ⟨_, rfl⟩ rfl ⟨hx, hb, hml, hown, hts⟩ (kX6_digestBaskets l D cy hI g _  (fX6_digestFarms g ((((((((((((((((((((((((((((((((7802 * 31) + (((fX6_many g 0).2).toInt64)) * 31) + (((fX6_many g 1).2).toInt64)) * 31) + (((fX6_many g 2).2).toInt64)) * 31) + (((fX6_many g 3).2).toInt64)) * 31) + (((fX6_many g 4).2).toInt64)) * 31) + (((fX6_many g 5).2).toInt64)) * 31) + (((fX6_many g 6).2).toInt64)) * 31) + (((fX6_many g 7).2).toInt64)) * 31) + (((fX6_many g 8).2).toInt64)) * 31) + (((fX6_many g 9).2).toInt64)) * 31) + (((fX6_many g 10).2).toInt64)) * 31) + (((fX6_many g 11).2).toInt64)) * 31) + (((fX6_many g 12).2).toInt64)) * 31) + (((fX6_many g 13).2).toInt64)) * 31) + (((fX6_many g 14).2).toInt64)) * 31) + (((fX6_many g 15).2).toInt64))) hv) (cwV 1 hts gX6_digest_X6_digestBaskets rfl rfl rfl (by decide +kernel) ⟨Nat.le_of_ble_eq_true rfl, Nat.le_of_ble_eq_true rfl⟩) hB hC hS rfl hl.1 (Nat.le_of_ble_eq_true rfl) dX6_digest_39 ⟨Nat.le_of_ble_eq_true rfl, Nat.le_of_ble_eq_true rfl⟩ (fun H locs hC hS => ?_)
  refine lv_lstore_n (lv' := [(1, .long (fX6_digestBaskets g (fX6_digestFarms g ((((((((((((((((((((((((((((((((7802 * 31) + (((fX6_many g 0).2).toInt64)) * 31) + (((fX6_many g 1).2).toInt64)) * 31) + (((fX6_many g 2).2).toInt64)) * 31) + (((fX6_many g 3).2).toInt64)) * 31) + (((fX6_many g 4).2).toInt64)) * 31) + (((fX6_many g 5).2).toInt64)) * 31) + (((fX6_many g 6).2).toInt64)) * 31) + (((fX6_many g 7).2).toInt64)) * 31) + (((fX6_many g 8).2).toInt64)) * 31) + (((fX6_many g 9).2).toInt64)) * 31) + (((fX6_many g 10).2).toInt64)) * 31) + (((fX6_many g 11).2).toInt64)) * 31) + (((fX6_many g 12).2).toInt64)) * 31) + (((fX6_many g 13).2).toInt64)) * 31) + (((fX6_many g 14).2).toInt64)) * 31) + (((fX6_many g 15).2).toInt64))))), (3, .int 16), (0, .ref (ad 0 0))]) hx hb dX6_digest_42 rfl hl (by decide) rfl (fun ls hl => ?_)
  refine lv_aload_n hx hb dX6_digest_43 rfl (lv_at hl 2 rfl) ?_
  refine lv_lload_n hx hb dX6_digest_44 rfl (lv_at hl 0 rfl) ?_
  refine q_callVl (As := [.long (fX6_digestBaskets g (fX6_digestFarms g ((((((((((((((((((((((((((((((((7802 * 31) + (((fX6_many g 0).2).toInt64)) * 31) + (((fX6_many g 1).2).toInt64)) * 31) + (((fX6_many g 2).2).toInt64)) * 31) + (((fX6_many g 3).2).toInt64)) * 31) + (((fX6_many g 4).2).toInt64)) * 31) + (((fX6_many g 5).2).toInt64)) * 31) + (((fX6_many g 6).2).toInt64)) * 31) + (((fX6_many g 7).2).toInt64)) * 31) + (((fX6_many g 8).2).toInt64)) * 31) + (((fX6_many g 9).2).toInt64)) * 31) + (((fX6_many g 10).2).toInt64)) * 31) + (((fX6_many g 11).2).toInt64)) * 31) + (((fX6_many g 12).2).toInt64)) * 31) + (((fX6_many g 13).2).toInt64)) * 31) + (((fX6_many g 14).2).toInt64)) * 31) + (((fX6_many g 15).2).toInt64))))]) (κ := 0) (i := 0) rfl rfl ⟨_, rfl⟩ rfl ⟨hx, hb, hml, hown, hts⟩ (kX6_digestTanks l D cy hI g _  (fX6_digestBaskets g (fX6_digestFarms g ((((((((((((((((((((((((((((((((7802 * 31) + (((fX6_many g 0).2).toInt64)) * 31) + (((fX6_many g 1).2).toInt64)) * 31) + (((fX6_many g 2).2).toInt64)) * 31) + (((fX6_many g 3).2).toInt64)) * 31) + (((fX6_many g 4).2).toInt64)) * 31) + (((fX6_many g 5).2).toInt64)) * 31) + (((fX6_many g 6).2).toInt64)) * 31) + (((fX6_many g 7).2).toInt64)) * 31) + (((fX6_many g 8).2).toInt64)) * 31) + (((fX6_many g 9).2).toInt64)) * 31) + (((fX6_many g 10).2).toInt64)) * 31) + (((fX6_many g 11).2).toInt64)) * 31) + (((fX6_many g 12).2).toInt64)) * 31) + (((fX6_many g 13).2).toInt64)) * 31) + (((fX6_many g 14).2).toInt64)) * 31) + (((fX6_many g 15).2).toInt64)))) hv) (cwV 1 hts gX6_digest_X6_digestTanks rfl rfl rfl (by decide +kernel) ⟨Nat.le_of_ble_eq_true rfl, Nat.le_of_ble_eq_true rfl⟩) hB hC hS rfl hl.1 (Nat.le_of_ble_eq_true rfl) dX6_digest_45 ⟨Nat.le_of_ble_eq_true rfl, Nat.le_of_ble_eq_true rfl⟩ (fun H locs hC hS => ?_)
  refine lv_lstore_n (lv' := [(1, .long (fX6_digestTanks g (fX6_digestBaskets g (fX6_digestFarms g ((((((((((((((((((((((((((((((((7802 * 31) + (((fX6_many g 0).2).toInt64)) * 31) + (((fX6_many g 1).2).toInt64)) * 31) + (((fX6_many g 2).2).toInt64)) * 31) + (((fX6_many g 3).2).toInt64)) * 31) + (((fX6_many g 4).2).toInt64)) * 31) + (((fX6_many g 5).2).toInt64)) * 31) + (((fX6_many g 6).2).toInt64)) * 31) + (((fX6_many g 7).2).toInt64)) * 31) + (((fX6_many g 8).2).toInt64)) * 31) + (((fX6_many g 9).2).toInt64)) * 31) + (((fX6_many g 10).2).toInt64)) * 31) + (((fX6_many g 11).2).toInt64)) * 31) + (((fX6_many g 12).2).toInt64)) * 31) + (((fX6_many g 13).2).toInt64)) * 31) + (((fX6_many g 14).2).toInt64)) * 31) + (((fX6_many g 15).2).toInt64)))))), (3, .int 16), (0, .ref (ad 0 0))]) hx hb dX6_digest_48 rfl hl (by decide) rfl (fun ls hl => ?_)
  refine lv_aload_n hx hb dX6_digest_49 rfl (lv_at hl 2 rfl) ?_
  refine lv_lload_n hx hb dX6_digest_50 rfl (lv_at hl 0 rfl) ?_
  refine q_callVl (As := [.long (fX6_digestTanks g (fX6_digestBaskets g (fX6_digestFarms g ((((((((((((((((((((((((((((((((7802 * 31) + (((fX6_many g 0).2).toInt64)) * 31) + (((fX6_many g 1).2).toInt64)) * 31) + (((fX6_many g 2).2).toInt64)) * 31) + (((fX6_many g 3).2).toInt64)) * 31) + (((fX6_many g 4).2).toInt64)) * 31) + (((fX6_many g 5).2).toInt64)) * 31) + (((fX6_many g 6).2).toInt64)) * 31) + (((fX6_many g 7).2).toInt64)) * 31) + (((fX6_many g 8).2).toInt64)) * 31) + (((fX6_many g 9).2).toInt64)) * 31) + (((fX6_many g 10).2).toInt64)) * 31) + (((fX6_many g 11).2).toInt64)) * 31) + (((fX6_many g 12).2).toInt64)) * 31) + (((fX6_many g 13).2).toInt64)) * 31) + (((fX6_many g 14).2).toInt64)) * 31) + (((fX6_many g 15).2).toInt64)))))]) (κ := 0) (i := 0) rfl rfl ⟨_, rfl⟩ rfl ⟨hx, hb, hml, hown, hts⟩ (kX6_digestBeds l D cy hI g _  (fX6_digestTanks g (fX6_digestBaskets g (fX6_digestFarms g ((((((((((((((((((((((((((((((((7802 * 31) + (((fX6_many g 0).2).toInt64)) * 31) + (((fX6_many g 1).2).toInt64)) * 31) + (((fX6_many g 2).2).toInt64)) * 31) + (((fX6_many g 3).2).toInt64)) * 31) + (((fX6_many g 4).2).toInt64)) * 31) + (((fX6_many g 5).2).toInt64)) * 31) + (((fX6_many g 6).2).toInt64)) * 31) + (((fX6_many g 7).2).toInt64)) * 31) + (((fX6_many g 8).2).toInt64)) * 31) + (((fX6_many g 9).2).toInt64)) * 31) + (((fX6_many g 10).2).toInt64)) * 31) + (((fX6_many g 11).2).toInt64)) * 31) + (((fX6_many g 12).2).toInt64)) * 31) + (((fX6_many g 13).2).toInt64)) * 31) + (((fX6_many g 14).2).toInt64)) * 31) + (((fX6_many g 15).2).toInt64))))) hv) (cwV 1 hts gX6_digest_X6_digestBeds rfl rfl rfl (by decide +kernel) ⟨Nat.le_of_ble_eq_true rfl, Nat.le_of_ble_eq_true rfl⟩) hB hC hS rfl hl.1 (Nat.le_of_ble_eq_true rfl) dX6_digest_51 ⟨Nat.le_of_ble_eq_true rfl, Nat.le_of_ble_eq_true rfl⟩ (fun H locs hC hS => ?_)
  refine lv_lstore_n (lv' := [(1, .long (fX6_digestBeds g (fX6_digestTanks g (fX6_digestBaskets g (fX6_digestFarms g ((((((((((((((((((((((((((((((((7802 * 31) + (((fX6_many g 0).2).toInt64)) * 31) + (((fX6_many g 1).2).toInt64)) * 31) + (((fX6_many g 2).2).toInt64)) * 31) + (((fX6_many g 3).2).toInt64)) * 31) + (((fX6_many g 4).2).toInt64)) * 31) + (((fX6_many g 5).2).toInt64)) * 31) + (((fX6_many g 6).2).toInt64)) * 31) + (((fX6_many g 7).2).toInt64)) * 31) + (((fX6_many g 8).2).toInt64)) * 31) + (((fX6_many g 9).2).toInt64)) * 31) + (((fX6_many g 10).2).toInt64)) * 31) + (((fX6_many g 11).2).toInt64)) * 31) + (((fX6_many g 12).2).toInt64)) * 31) + (((fX6_many g 13).2).toInt64)) * 31) + (((fX6_many g 14).2).toInt64)) * 31) + (((fX6_many g 15).2).toInt64))))))), (3, .int 16), (0, .ref (ad 0 0))]) hx hb dX6_digest_54 rfl hl (by decide) rfl (fun ls hl => ?_)
  refine lv_aload_n hx hb dX6_digest_55 rfl (lv_at hl 2 rfl) ?_
  refine lv_lload_n hx hb dX6_digest_56 rfl (lv_at hl 0 rfl) ?_
  refine q_callVl (As := [.long (fX6_digestBeds g (fX6_digestTanks g (fX6_digestBaskets g (fX6_digestFarms g ((((((((((((((((((((((((((((((((7802 * 31) + (((fX6_many g 0).2).toInt64)) * 31) + (((fX6_many g 1).2).toInt64)) * 31) + (((fX6_many g 2).2).toInt64)) * 31) + (((fX6_many g 3).2).toInt64)) * 31) + (((fX6_many g 4).2).toInt64)) * 31) + (((fX6_many g 5).2).toInt64)) * 31) + (((fX6_many g 6).2).toInt64)) * 31) + (((fX6_many g 7).2).toInt64)) * 31) + (((fX6_many g 8).2).toInt64)) * 31) + (((fX6_many g 9).2).toInt64)) * 31) + (((fX6_many g 10).2).toInt64)) * 31) + (((fX6_many g 11).2).toInt64)) * 31) + (((fX6_many g 12).2).toInt64)) * 31) + (((fX6_many g 13).2).toInt64)) * 31) + (((fX6_many g 14).2).toInt64)) * 31) + (((fX6_many g 15).2).toInt64))))))]) (κ := 0) (i := 0) rfl rfl ⟨_, rfl⟩ rfl ⟨hx, hb, hml, hown, hts⟩ (kX6_digestLots l D cy hI g _  (fX6_digestBeds g (fX6_digestTanks g (fX6_digestBaskets g (fX6_digestFarms g ((((((((((((((((((((((((((((((((7802 * 31) + (((fX6_many g 0).2).toInt64)) * 31) + (((fX6_many g 1).2).toInt64)) * 31) + (((fX6_many g 2).2).toInt64)) * 31) + (((fX6_many g 3).2).toInt64)) * 31) + (((fX6_many g 4).2).toInt64)) * 31) + (((fX6_many g 5).2).toInt64)) * 31) + (((fX6_many g 6).2).toInt64)) * 31) + (((fX6_many g 7).2).toInt64)) * 31) + (((fX6_many g 8).2).toInt64)) * 31) + (((fX6_many g 9).2).toInt64)) * 31) + (((fX6_many g 10).2).toInt64)) * 31) + (((fX6_many g 11).2).toInt64)) * 31) + (((fX6_many g 12).2).toInt64)) * 31) + (((fX6_many g 13).2).toInt64)) * 31) + (((fX6_many g 14).2).toInt64)) * 31) + (((fX6_many g 15).2).toInt64)))))) hv) (cwV 1 hts gX6_digest_X6_digestLots rfl rfl rfl (by decide +kernel) ⟨Nat.le_of_ble_eq_true rfl, Nat.le_of_ble_eq_true rfl⟩) hB hC hS rfl hl.1 (Nat.le_of_ble_eq_true rfl) dX6_digest_57 ⟨Nat.le_of_ble_eq_true rfl, Nat.le_of_ble_eq_true rfl⟩ (fun H locs hC hS => ?_)
  refine lv_lstore_n (lv' := [(1, .long (fX6_digestLots g (fX6_digestBeds g (fX6_digestTanks g (fX6_digestBaskets g (fX6_digestFarms g ((((((((((((((((((((((((((((((((7802 * 31) + (((fX6_many g 0).2).toInt64)) * 31) + (((fX6_many g 1).2).toInt64)) * 31) + (((fX6_many g 2).2).toInt64)) * 31) + (((fX6_many g 3).2).toInt64)) * 31) + (((fX6_many g 4).2).toInt64)) * 31) + (((fX6_many g 5).2).toInt64)) * 31) + (((fX6_many g 6).2).toInt64)) * 31) + (((fX6_many g 7).2).toInt64)) * 31) + (((fX6_many g 8).2).toInt64)) * 31) + (((fX6_many g 9).2).toInt64)) * 31) + (((fX6_many g 10).2).toInt64)) * 31) + (((fX6_many g 11).2).toInt64)) * 31) + (((fX6_many g 12).2).toInt64)) * 31) + (((fX6_many g 13).2).toInt64)) * 31) + (((fX6_many g 14).2).toInt64)) * 31) + (((fX6_many g 15).2).toInt64)))))))), (3, .int 16), (0, .ref (ad 0 0))]) hx hb dX6_digest_60 rfl hl (by decide) rfl (fun ls hl => ?_)
  refine lv_lload_n hx hb dX6_digest_61 rfl (lv_at hl 0 rfl) ?_
  refine lv_ldc2 hx hb hown (hts _ qX6_digest_w2) dX6_digest_62 ?_
  refine lv_lmul hx hb dX6_digest_65 ?_
  refine lv_aload_n hx hb dX6_digest_66 rfl (lv_at hl 2 rfl) ?_
  refine q_callVi (As := []) (κ := 0) (i := 0) rfl rfl ⟨_, rfl⟩ rfl ⟨hx, hb, hml, hown, hts⟩ (kX6_bestBlend l D cy hI g _   hv) (cwV 0 hts gX6_digest_X6_bestBlend rfl rfl rfl (by decide +kernel) ⟨Nat.le_of_ble_eq_true rfl, Nat.le_of_ble_eq_true rfl⟩) hB hC hS rfl hl.1 (Nat.le_of_ble_eq_true rfl) dX6_digest_67 ⟨Nat.le_of_ble_eq_true rfl, Nat.le_of_ble_eq_true rfl⟩ (fun H locs hC hS => ?_)
  refine lv_i2l hx hb dX6_digest_70 rfl ?_
  refine lv_ladd hx hb dX6_digest_71 ?_
  have e9 : fX6_digest g = (((fX6_digestLots g (fX6_digestBeds g (fX6_digestTanks g (fX6_digestBaskets g (fX6_digestFarms g ((((((((((((((((((((((((((((((((7802 * 31) + (((fX6_many g 0).2).toInt64)) * 31) + (((fX6_many g 1).2).toInt64)) * 31) + (((fX6_many g 2).2).toInt64)) * 31) + (((fX6_many g 3).2).toInt64)) * 31) + (((fX6_many g 4).2).toInt64)) * 31) + (((fX6_many g 5).2).toInt64)) * 31) + (((fX6_many g 6).2).toInt64)) * 31) + (((fX6_many g 7).2).toInt64)) * 31) + (((fX6_many g 8).2).toInt64)) * 31) + (((fX6_many g 9).2).toInt64)) * 31) + (((fX6_many g 10).2).toInt64)) * 31) + (((fX6_many g 11).2).toInt64)) * 31) + (((fX6_many g 12).2).toInt64)) * 31) + (((fX6_many g 13).2).toInt64)) * 31) + (((fX6_many g 14).2).toInt64)) * 31) + (((fX6_many g 15).2).toInt64))))))) * 31) + (((fX6_bestBlend g).1).toInt64), (fX6_bestBlend g).2) := rfl
  exact q_retl hx hb hr hB hC hS (by rw [e9]) (by rw [e9]) hlocks dX6_digest_72
