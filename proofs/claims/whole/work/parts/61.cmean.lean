def fX6_meanScore_L6 (g : Gd) : Nat → Nat → Int32 → Int32 → Int32 × Int32
  | 0, k, a, b => (a, b)
  | n + 1, k, a, b => if (g 0 0 10) ≤ (nI k) then ((a, b)) else (if (g 3 (8 + k) 10) = 0 then (fX6_meanScore_L6 g n (k + 1) a b) else (fX6_meanScore_L6 g n (k + 1) (a + ((g 3 (8 + k) 0) * (fX3_score g k))) (b + (g 3 (8 + k) 0))))
def fX6_meanScore (g : Gd) : UInt64 := if ((fX6_meanScore_L6 g 13 0 0 0).2) = 0 then (FP.dconst0) else (FP.ddiv (FP.i2d ((fX6_meanScore_L6 g 13 0 0 0).1)) (FP.i2d ((fX6_meanScore_L6 g 13 0 0 0).2)))
theorem qX6_meanScore_w1 : Cond.fieldLink RX6 58 "CherryStation" "lotCount" "I" ∈ wsX6_meanScore := List.mem_of_getElem? (i := 1) rfl
theorem qX6_meanScore_w2 : Cond.fieldLink RX6 35 "CherryStation" "lots" "[LCherryStation$Lot;" ∈ wsX6_meanScore := List.mem_of_getElem? (i := 2) rfl
theorem qX6_meanScore_w3 : Cond.fieldLink RX6 231 "CherryStation$Lot" "isInStore" "Z" ∈ wsX6_meanScore := List.mem_of_getElem? (i := 3) rfl
theorem qX6_meanScore_w4 : Cond.fieldLink RX6 219 "CherryStation$Lot" "mix" "LCherryStation$Mix;" ∈ wsX6_meanScore := List.mem_of_getElem? (i := 4) rfl
theorem qX6_meanScore_w5 : Cond.fieldLink RX6 171 "CherryStation$Mix" "kilos" "I" ∈ wsX6_meanScore := List.mem_of_getElem? (i := 5) rfl
theorem qX6_meanScore_w6 : Cond.fieldLink RX6 11 "CherryStation" "farms" "[LCherryStation$Farm;" ∈ wsX6_meanScore := List.mem_of_getElem? (i := 6) rfl
theorem iX6_meanScore_X3 : ∀ w ∈ wsX30, w ∈ wsX6_meanScore := fun _ h => (List.mem_cons_of_mem _ (List.mem_append_left _ (List.mem_append_left _ (List.mem_append_right _ h))))
theorem iX6_meanScore_X4 : ∀ w ∈ wsX40, w ∈ wsX6_meanScore := fun _ h => (List.mem_cons_of_mem _ (List.mem_append_left _ (List.mem_append_right _ h)))
theorem iX6_meanScore_X6 : ∀ w ∈ wsX60, w ∈ wsX6_meanScore := fun _ h => (List.mem_cons_of_mem _ (List.mem_append_left _ (List.mem_append_left _ (List.mem_append_left _ (List.mem_append_right _ h)))))
set_option maxRecDepth 100000 in
set_option maxHeartbeats 4000000 in
theorem kX6_meanScore_L6 (l : Launch) (D : va_G) (cy : Nat → ClassId) {ad : Nat → Nat → Nat} (hI : cI ad) (g : Gd) (hv : IvC g)  {p : Program} {e : Env} {s : State} {m : MethodId} {below : List Frame} {meth : Method} {c : Code} {Q : State → Prop} (hx : p.tables.exec = Jvm.exec) (hb : c.code = cX6_meanScore) (hr : meth.sig.returnType = (some .double)) (hml : c.maxLocals = 4) (hts : ∀ w ∈ wsX6_meanScore, w.before [.ref (ad 0 0)].toArray s = true) (hown : s.vm.findClass RX6 = some m.cls) (hlocks : meth.locks = false) (hB : CB D cy ad s) : ∀ (n k : Nat) (a : Int32) (b : Int32) (hn : k + n = 13) (hk : (k : Int) ≤ (g 0 0 10).toInt) (hc1 : (g 0 0 10).toInt ≤ 12)   (H : Heap) (locs : List Loc) (ls : Array Slot) (hC : CW D cy ad g H) (hS : va_S (cA ad s.heap.size) s.heap H locs) (hl : lv_has ls 4 [(3, .int (nI k)), (2, .int b), (1, .int a), (0, .ref (ad 0 0))]) (kk : ∀ (H : Heap) (locs : List Loc) (ls : Array Slot), CW D cy ad g H → va_S (cA ad s.heap.size) s.heap H locs → lv_has ls 4 [(2, .int ((fX6_meanScore_L6 g n k a b).2)), (1, .int ((fX6_meanScore_L6 g n k a b).1)), (0, .ref (ad 0 0))] → W p l e ({ frames := 3, cells := 0, slots := 0, locals := 64 } : Room) s m [.ref (ad 0 0)].toArray below meth c H locs 0 0 Q (F0 m 76 ls [])), W p l e ({ frames := 3, cells := 0, slots := 0, locals := 64 } : Room) s m [.ref (ad 0 0)].toArray below meth c H locs 0 0 Q (F0 m 6 ls []) := by
  have hA : ∀ κ i : Nat, cV κ i → cA ad s.heap.size (ad κ i) := fun κ i h => Or.inl ⟨κ, i, h, rfl⟩
  intro n
  induction n with
  | zero => intro k a b hn hk hc1 H locs ls hC hS hl kk; exact absurd hk (by omega)
  | succ n ih =>
    intro k a b hn hk hc1 H locs ls hC hS hl kk
    refine lv_iload_n hx hb dX6_meanScore_6 rfl (lv_at hl 0 rfl) ?_
    refine lv_aload_n hx hb dX6_meanScore_7 rfl (lv_at hl 3 rfl) ?_
    refine gt_0_10 hx hb hts iX6_meanScore_X6 hown hB.1 hC qX6_meanScore_w1 dX6_meanScore_8 ?_
    refine lv_icmp_ge (tgt := 76) hx hb dX6_meanScore_11 (by decide) (fun c1 => ?_) (fun c1 => ?_)
    · skip
      have e9 : fX6_meanScore_L6 g (n + 1) k a b = (a, b) := by rw [fX6_meanScore_L6, if_pos c1]
      rw [e9] at kk
      exact kk H locs ls hC hS (lv_sub hl [1, 2, 3] rfl)
    · skip
      refine lv_aload_n hx hb dX6_meanScore_14 rfl (lv_at hl 3 rfl) ?_
      refine gt_0_4 hx hb hts iX6_meanScore_X6 hown hB.1 hC qX6_meanScore_w2 dX6_meanScore_15 ?_
      refine lv_iload_n hx hb dX6_meanScore_18 rfl (lv_at hl 0 rfl) ?_
      have hk_k : k < 12 := lk_nat c1 hc1 (by omega)
      refine la_14 hx hb hB.1 hC (k := k) (nI_clamp (by omega)) (vp_in_nI (by omega) (by decide)) dX6_meanScore_19 ?_
      refine gt_5_2 hx hb hts iX6_meanScore_X3 hown hB.1 hC (by omega) qX6_meanScore_w3 dX6_meanScore_20 ?_
      refine lv_if_eq (tgt := 70) hx hb dX6_meanScore_23 (by decide) (fun c2 => ?_) (fun c2 => ?_)
      · skip
        refine lv_iinc (v := nI (k + 1)) (lv' := [(3, .int (nI (k + 1))), (2, .int b), (1, .int a), (0, .ref (ad 0 0))]) hx hb dX6_meanScore_70 hl (k := 0) rfl (nI_1 _) (by decide) rfl (fun ls hl => ?_)
        refine lv_goto (tgt := 6) hx hb dX6_meanScore_73 (by decide) ?_
        have e9 : fX6_meanScore_L6 g (n + 1) k a b = fX6_meanScore_L6 g n (k + 1) a b := by rw [fX6_meanScore_L6, if_neg c1, if_pos c2]
        rw [e9] at kk
        exact ih (k + 1) a b (by omega) (by have q9 := lk_lt c1 (by omega); omega) hc1  H locs ls hC hS (lv_sub hl [0, 1, 2, 3] rfl) kk
      · skip
        refine lv_iload_n hx hb dX6_meanScore_26 rfl (lv_at hl 2 rfl) ?_
        refine lv_aload_n hx hb dX6_meanScore_27 rfl (lv_at hl 3 rfl) ?_
        refine gt_0_4 hx hb hts iX6_meanScore_X6 hown hB.1 hC qX6_meanScore_w2 dX6_meanScore_28 ?_
        refine lv_iload_n hx hb dX6_meanScore_31 rfl (lv_at hl 0 rfl) ?_
        refine la_14 hx hb hB.1 hC (k := k) (nI_clamp (by omega)) (vp_in_nI (by omega) (by decide)) dX6_meanScore_32 ?_
        refine gt_5_0 hx hb hts iX6_meanScore_X3 hown hB.1 hC (by omega) qX6_meanScore_w4 dX6_meanScore_33 ?_
        refine gt_6_2 hx hb hts iX6_meanScore_X4 hown hB.1 hC (by omega) qX6_meanScore_w5 dX6_meanScore_36 ?_
        refine lv_aload_n hx hb dX6_meanScore_39 rfl (lv_at hl 3 rfl) ?_
        refine gt_0_4 hx hb hts iX6_meanScore_X6 hown hB.1 hC qX6_meanScore_w2 dX6_meanScore_40 ?_
        refine lv_iload_n hx hb dX6_meanScore_43 rfl (lv_at hl 0 rfl) ?_
        refine la_14 hx hb hB.1 hC (k := k) (nI_clamp (by omega)) (vp_in_nI (by omega) (by decide)) dX6_meanScore_44 ?_
        refine lv_aload_n hx hb dX6_meanScore_45 rfl (lv_at hl 3 rfl) ?_
        refine gt_0_0 hx hb hts iX6_meanScore_X6 hown hB.1 hC qX6_meanScore_w6 dX6_meanScore_46 ?_
        refine q_callVi (As := [.ref (ad 10 0)]) (κ := 5) (i := k) (show k < 13 from (by omega)) rfl ⟨_, rfl⟩ rfl ⟨hx, hb, hml, hown, hts⟩ (kX3_score l D cy hI g _ k (by omega)  ) (cwV 1 hts gX6_meanScore_X3_score rfl rfl rfl (by decide +kernel) ⟨Nat.le_of_ble_eq_true rfl, Nat.le_of_ble_eq_true rfl⟩) hB hC hS rfl hl.1 (Nat.le_of_ble_eq_true rfl) dX6_meanScore_49 ⟨Nat.le_of_ble_eq_true rfl, Nat.le_of_ble_eq_true rfl⟩ (fun H locs hC hS => ?_)
        refine lv_imul hx hb dX6_meanScore_52 ?_
        refine lv_iadd hx hb dX6_meanScore_53 ?_
        refine lv_istore_n (lv' := [(1, .int (a + ((g 3 (8 + k) 0) * (fX3_score g k)))), (3, .int (nI k)), (2, .int b), (0, .ref (ad 0 0))]) hx hb dX6_meanScore_54 rfl hl (by decide) rfl (fun ls hl => ?_)
        refine lv_iload_n hx hb dX6_meanScore_55 rfl (lv_at hl 2 rfl) ?_
        refine lv_aload_n hx hb dX6_meanScore_56 rfl (lv_at hl 3 rfl) ?_
        refine gt_0_4 hx hb hts iX6_meanScore_X6 hown hB.1 hC qX6_meanScore_w2 dX6_meanScore_57 ?_
        refine lv_iload_n hx hb dX6_meanScore_60 rfl (lv_at hl 1 rfl) ?_
        refine la_14 hx hb hB.1 hC (k := k) (nI_clamp (by omega)) (vp_in_nI (by omega) (by decide)) dX6_meanScore_61 ?_
        refine gt_5_0 hx hb hts iX6_meanScore_X3 hown hB.1 hC (by omega) qX6_meanScore_w4 dX6_meanScore_62 ?_
        refine gt_6_2 hx hb hts iX6_meanScore_X4 hown hB.1 hC (by omega) qX6_meanScore_w5 dX6_meanScore_65 ?_
        refine lv_iadd hx hb dX6_meanScore_68 ?_
        refine lv_istore_n (lv' := [(2, .int (b + (g 3 (8 + k) 0))), (1, .int (a + ((g 3 (8 + k) 0) * (fX3_score g k)))), (3, .int (nI k)), (0, .ref (ad 0 0))]) hx hb dX6_meanScore_69 rfl hl (by decide) rfl (fun ls hl => ?_)
        refine lv_iinc (v := nI (k + 1)) (lv' := [(3, .int (nI (k + 1))), (2, .int (b + (g 3 (8 + k) 0))), (1, .int (a + ((g 3 (8 + k) 0) * (fX3_score g k)))), (0, .ref (ad 0 0))]) hx hb dX6_meanScore_70 hl (k := 2) rfl (nI_1 _) (by decide) rfl (fun ls hl => ?_)
        refine lv_goto (tgt := 6) hx hb dX6_meanScore_73 (by decide) ?_
        have e9 : fX6_meanScore_L6 g (n + 1) k a b = fX6_meanScore_L6 g n (k + 1) (a + ((g 3 (8 + k) 0) * (fX3_score g k))) (b + (g 3 (8 + k) 0)) := by rw [fX6_meanScore_L6, if_neg c1, if_neg c2]
        rw [e9] at kk
        exact ih (k + 1) (a + ((g 3 (8 + k) 0) * (fX3_score g k))) (b + (g 3 (8 + k) 0)) (by omega) (by have q9 := lk_lt c1 (by omega); omega) hc1  H locs ls hC hS (lv_sub hl [0, 1, 2, 3] rfl) kk
set_option maxRecDepth 100000 in
set_option maxHeartbeats 4000000 in
theorem kX6_meanScore (l : Launch) (D : va_G) (cy : Nat → ClassId) {ad : Nat → Nat → Nat} (hI : cI ad) (g : Gd) (sz : Nat) (hv : IvC g) : Met l yX6_meanScore wsX6_meanScore ({ frames := 3, cells := 0, slots := 0, locals := 64 } : Room) (va_Pc [.ref (ad 0 0)] (cPre D cy ad g sz)) (cQd D cy ad (fX6_meanScore g) g sz) 0 0 (cA ad sz) := by
  refine q_start (cc := cX6_meanScore) (maxL := 4) (ret := (some .double)) (own := RX6) (by decide) rfl rfl (Nat.le_of_ble_eq_true rfl) ?_
  intro p e s m below meth c hx hb hr hml hts hown hlocks ⟨hsz, hC, hB⟩ ls hl
  subst hsz
  have hS : va_S (cA ad s.heap.size) s.heap s.heap [] := va_S.rf
  have hA : ∀ κ i : Nat, cV κ i → cA ad s.heap.size (ad κ i) := fun κ i h => Or.inl ⟨κ, i, h, rfl⟩
  have hl : lv_has ls 4 [(0, .ref (ad 0 0))] := hl
  refine lv_iconst (v := 0) hx hb dX6_meanScore_0 (by decide) ?_
  refine lv_istore_n (lv' := [(1, .int 0), (0, .ref (ad 0 0))]) hx hb dX6_meanScore_1 rfl hl (by decide) rfl (fun ls hl => ?_)
  refine lv_iconst (v := 0) hx hb dX6_meanScore_2 (by decide) ?_
  refine lv_istore_n (lv' := [(2, .int 0), (1, .int 0), (0, .ref (ad 0 0))]) hx hb dX6_meanScore_3 rfl hl (by decide) rfl (fun ls hl => ?_)
  refine lv_iconst (v := 0) hx hb dX6_meanScore_4 (by decide) ?_
  refine lv_istore_n (lv' := [(3, .int 0), (2, .int 0), (1, .int 0), (0, .ref (ad 0 0))]) hx hb dX6_meanScore_5 rfl hl (by decide) rfl (fun ls hl => ?_)
  refine kX6_meanScore_L6 l D cy hI g  hv  hx hb hr hml hts hown hlocks hB 13 0 0 0 (by omega) (by have := (IvC.n10 hv).1; omega) (IvC.n10 hv).2  _ _ ls hC hS (lv_sub hl [0, 1, 2, 3] rfl) (fun H locs ls hC hS hl => ?_)
  refine lv_iload_n hx hb dX6_meanScore_76 rfl (lv_at hl 0 rfl) ?_
  refine lv_if_ne (tgt := 84) hx hb dX6_meanScore_77 (by decide) (fun c3 => ?_) (fun c3 => ?_)
  · skip
    refine lv_iload_n hx hb dX6_meanScore_84 rfl (lv_at hl 1 rfl) ?_
    refine lv_i2d hx hb dX6_meanScore_85 ?_
    refine lv_iload_n hx hb dX6_meanScore_86 rfl (lv_at hl 0 rfl) ?_
    refine lv_i2d hx hb dX6_meanScore_87 ?_
    refine lv_ddiv hx hb dX6_meanScore_88 (vf_ii c3) ?_
    exact q_retd hx hb hr hB hC hS rfl (by unfold fX6_meanScore; rw [if_neg c3]) hlocks dX6_meanScore_89
  · skip
    refine lv_dconst0 hx hb dX6_meanScore_80 ?_
    refine lv_goto (tgt := 89) hx hb dX6_meanScore_81 (by decide) ?_
    exact q_retd hx hb hr hB hC hS rfl (by unfold fX6_meanScore; rw [if_pos c3]) hlocks dX6_meanScore_89
