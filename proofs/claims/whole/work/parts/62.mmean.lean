def fX7_meanScore_L15 (na nb nc nd T : Nat) (g : Md) : Nat → Nat → Int64 → Int64
  | 0, k, a1 => a1
  | n + 1, k, a1 => if (fX7_isIn na nb nc nd T g (308 + k)) = 0 then (fX7_meanScore_L15 na nb nc nd T g  n (k + 1) (a1 + 0)) else (fX7_meanScore_L15 na nb nc nd T g  n (k + 1) (a1 + (((g (308 + k) 0).toInt64) * ((fX7_scoreOf na nb nc nd T g (308 + k)).toInt64))))
def fX7_meanScore (na nb nc nd T : Nat) (g : Md) : UInt64 × Md := if (fX7_manyNow na nb nc nd T (u2 g 0 20 0) 11) = 0 then ((FP.dconst0, (u2 g 0 20 0))) else ((FP.ddiv (FP.l2d (fX7_meanScore_L15 na nb nc nd T (u2 g 0 20 0)  nd 0 0)) (FP.i2d (fX7_manyNow na nb nc nd T (u2 g 0 20 0) 11)), (u2 g 0 20 0)))
theorem qX7_meanScore_w1 : Cond.fieldLink RX7 41 "CherryStationModel" "thrown" "I" ∈ wsX7_meanScore := List.mem_of_getElem? (i := 1) rfl
theorem qX7_meanScore_w2 : Cond.fieldLink RX7 27 "CherryStationModel" "lots" "Ljava/util/ArrayList;" ∈ wsX7_meanScore := List.mem_of_getElem? (i := 2) rfl
theorem qX7_meanScore_w3 : Cond.classLink RX7 72 "[I" ∈ wsX7_meanScore := List.mem_of_getElem? (i := 3) rfl
theorem iX7_meanScore_X7 : ∀ w ∈ wsX70, w ∈ wsX7_meanScore := fun _ h => (List.mem_cons_of_mem _ (List.mem_append_left _ (List.mem_append_left _ (List.mem_append_right _ h))))
set_option maxRecDepth 100000 in
set_option maxHeartbeats 4000000 in
theorem kX7_meanScore_L15 (l : Launch) (D : va_G) (cy : Nat → ClassId) (e0 : Nat) {bd w bd1 w1 : Nat → Nat → Nat} (g : Md) (S : Int64) (c0 s0 : Nat) (hc0 : c0 + 0 ≤ 11) (hs0 : s0 + 0 ≤ 68) {p : Program} {e : Env} {s : State} {m : MethodId} {below : List Frame} {meth : Method} {c : Code} {Q : State → Prop} (hx : p.tables.exec = Jvm.exec) (hb : c.code = cX7_meanScore) (hr : meth.sig.returnType = (some .double)) (hml : c.maxLocals = 5) (hts : ∀ w ∈ wsX7_meanScore, w.before [.ref (bd 0 0)].toArray s = true) (hown : s.vm.findClass RX7 = some m.cls) (hlocks : meth.locks = false) (hB : MB D cy e0 bd w s) (hG : mG e0 bd w s.heap.size bd1 w1) (hI : ∀ k, mG e0 bd w s.heap.size bd1 (wI w1 3 k)) : ∀ (n k : Nat) (a1 : Int64) (hn : k + n = w1 0 3)   (H : Heap) (locs : List Loc) (ls : Array Slot) (hC : MW D cy bd1 (wI w1 3 k) g S H) (hS : va_S (mA bd w s.heap.size) s.heap H locs) (hl : lv_has ls 5 [(3, .ref (bd1 6 (w1 0 5))), (1, .long a1), (0, .ref (bd1 0 0))]) (kk : ∀ (H : Heap) (locs : List Loc) (ls : Array Slot), MW D cy bd1 w1 g S H → va_S (mA bd w s.heap.size) s.heap H locs → lv_has ls 5 [(1, .long (fX7_meanScore_L15 (w1 0 0) (w1 0 1) (w1 0 2) (w1 0 3) (w1 0 4) g  n k a1)), (0, .ref (bd1 0 0))] → W p l e ({ frames := 4, cells := 11, slots := 68, locals := 88 } : Room) s m [.ref (bd 0 0)].toArray below meth c H locs (c0) (s0) Q (F0 m 66 ls [])), W p l e ({ frames := 4, cells := 11, slots := 68, locals := 88 } : Room) s m [.ref (bd 0 0)].toArray below meth c H locs c0 s0 Q (F0 m 15 ls []) := by
  intro n
  induction n with
  | zero =>
    intro k a1 hn H locs ls hC hS hl kk
    have hk1 : k = w1 0 3 := by omega
    have hkb : w1 0 3 ≤ 12 := (wNB_3 hC.1)
    have hw0 : wB w1 := hC.1
    refine lv_aload_n hx hb dX7_meanScore_15 rfl (lv_at hl 0 rfl) ?_
    refine m_callFi (As := []) (i := w1 0 5) it_v rfl ⟨hx, hb, hml, hown, hts⟩ (kJx35411_hasNext_aae02 l D cy e0 (bd := bd1) (w := w1) g S _ 3 k (by decide)) (va_cwF 0 hts gX7_meanScore_Jx35411_hasNext_aae02_f96Jx35411 rfl rfl rfl hB.2.2.2.2.1 (by decide +kernel) ⟨Nat.le_of_ble_eq_true rfl, Nat.le_of_ble_eq_true rfl⟩) hB (hI k).2 hC hS rfl hl.1 (Nat.le_of_ble_eq_true rfl) dX7_meanScore_16 ⟨by dsimp only; omega, by dsimp only; omega⟩ (fun H locs hC hS => ?_)
    refine q_val (v := 0) (if_pos (by rw [hk1])) ?_
    refine lv_if_eq (tgt := 66) hx hb dX7_meanScore_21 (by decide) (fun _ => ?_) (fun c => absurd c (by decide))
    have e9 : fX7_meanScore_L15 (w1 0 0) (w1 0 1) (w1 0 2) (w1 0 3) (w1 0 4) g  0 k a1 = a1 := by rw [fX7_meanScore_L15]
    rw [e9] at kk
    have hC := hC.unI
    exact kk H locs ls hC hS (lv_sub hl [1, 2] rfl)
  | succ n ih =>
    intro k a1 hn H locs ls hC hS hl kk
    have hk1 : k < w1 0 3 := by omega
    have hkb : w1 0 3 ≤ 12 := (wNB_3 hC.1)
    have hw0 : wB w1 := hC.1
    refine lv_aload_n hx hb dX7_meanScore_15 rfl (lv_at hl 0 rfl) ?_
    refine m_callFi (As := []) (i := w1 0 5) it_v rfl ⟨hx, hb, hml, hown, hts⟩ (kJx35411_hasNext_aae02 l D cy e0 (bd := bd1) (w := w1) g S _ 3 k (by decide)) (va_cwF 0 hts gX7_meanScore_Jx35411_hasNext_aae02_f96Jx35411 rfl rfl rfl hB.2.2.2.2.1 (by decide +kernel) ⟨Nat.le_of_ble_eq_true rfl, Nat.le_of_ble_eq_true rfl⟩) hB (hI k).2 hC hS rfl hl.1 (Nat.le_of_ble_eq_true rfl) dX7_meanScore_16 ⟨by dsimp only; omega, by dsimp only; omega⟩ (fun H locs hC hS => ?_)
    refine q_val (v := 1) (if_neg (fun h => nI_ne9 hk1 (Nat.le_trans (w0_20 (w := w1) hC.1 (show 3 < 4 by decide)) (by decide)) h)) ?_
    refine lv_if_eq (tgt := 66) hx hb dX7_meanScore_21 (by decide) (fun c => absurd c (by decide)) (fun _ => ?_)
    refine lv_aload_n hx hb dX7_meanScore_24 rfl (lv_at hl 0 rfl) ?_
    refine m_feNext (li := 3) (k := k) (by decide) ⟨hx, hb, hml, hown, hts⟩ (kJx35411_next_0502b l D cy e0 (bd := bd1) (w := w1) g S _ 3 k (by decide) hk1) (va_cwF 0 hts gX7_meanScore_Jx35411_next_0502b_f102Jx35411 rfl rfl rfl hB.2.2.2.2.2.1 (by decide +kernel) ⟨Nat.le_of_ble_eq_true rfl, Nat.le_of_ble_eq_true rfl⟩) hB (hI k).2 hC hS hl.1 (Nat.le_of_ble_eq_true rfl) dX7_meanScore_25 ⟨by dsimp only; omega, by dsimp only; omega⟩ (fun H locs hC hS => ?_)
    have hG := hI (k + 1)
    refine m_stk (st' := [.ref (bd1 3 (308 + k))]) rfl ?_
    refine m_cast hx hb hown (hts _ qX7_meanScore_w3) hB.1 hC (rV_308 hk1) dX7_meanScore_30 ?_
    refine lv_astore (lv' := [(4, .ref (bd1 3 (308 + k))), (3, .ref (bd1 6 (w1 0 5))), (1, .long a1), (0, .ref (bd1 0 0))]) hx hb dX7_meanScore_33 hl (by decide) rfl (fun ls hl => ?_)
    refine lv_lload_n hx hb dX7_meanScore_35 rfl (lv_at hl 2 rfl) ?_
    refine lv_aload hx hb dX7_meanScore_36 (lv_at hl 0 rfl) ?_
    refine m_callSi (As := [.ref (bd1 3 (308 + k))])  ⟨hx, hb, hml, hown, hts⟩ (kX7_isIn l D cy e0 (bd := bd1) (w := (wI w1 3 (k + 1))) g S _ (308 + k) (rV_308 hk1) (rl_308 hC.1 hk1) ) (va_cwS 1 hts gX7_meanScore_X7_isIn rfl rfl rfl (by decide +kernel) ⟨Nat.le_of_ble_eq_true rfl, Nat.le_of_ble_eq_true rfl⟩) hB hG.2 hC hS rfl hl.1 (Nat.le_of_ble_eq_true rfl) dX7_meanScore_38 ⟨by dsimp only; omega, by dsimp only; omega⟩ (fun H locs hC hS => ?_)
    refine q_val (v := fX7_isIn (w1 0 0) (w1 0 1) (w1 0 2) (w1 0 3) (w1 0 4) g (308 + k)) rfl ?_
    refine lv_if_eq (tgt := 60) hx hb dX7_meanScore_41 (by decide) (fun c2 => ?_) (fun c2 => ?_)
    · skip
      refine lv_lconst (v := 0) hx hb dX7_meanScore_60 (by decide) ?_
      refine lv_ladd hx hb dX7_meanScore_61 ?_
      refine lv_lstore_n (lv' := [(1, .long (a1 + 0)), (4, .ref (bd1 3 (308 + k))), (3, .ref (bd1 6 (w1 0 5))), (0, .ref (bd1 0 0))]) hx hb dX7_meanScore_62 rfl hl (by decide) rfl (fun ls hl => ?_)
      refine lv_goto (tgt := 15) hx hb dX7_meanScore_63 (by decide) ?_
      have e9 : fX7_meanScore_L15 (w1 0 0) (w1 0 1) (w1 0 2) (w1 0 3) (w1 0 4) g  (n + 1) k a1 = fX7_meanScore_L15 (w1 0 0) (w1 0 1) (w1 0 2) (w1 0 3) (w1 0 4) g  n (k + 1) (a1 + 0) := by rw [fX7_meanScore_L15, if_pos c2]
      rw [e9] at kk
      exact ih (k + 1) (a1 + 0) (by omega)  H locs ls hC hS (lv_sub hl [2, 0, 3] rfl) kk
    · skip
      refine lv_aload hx hb dX7_meanScore_44 (lv_at hl 0 rfl) ?_
      refine lv_iconst (v := 0) hx hb dX7_meanScore_46 (by decide) ?_
      refine ld_m hx hb hB.1 hC (rV_308 hk1) (rl_308 hC.1 hk1) (k := 0) (by decide) (by unfold vp_in; decide) dX7_meanScore_47 ?_
      refine lv_i2l hx hb dX7_meanScore_48 rfl ?_
      refine lv_aload_n hx hb dX7_meanScore_49 rfl (lv_at hl 3 rfl) ?_
      refine lv_aload hx hb dX7_meanScore_50 (lv_at hl 0 rfl) ?_
      refine m_callVi (As := [.ref (bd1 3 (308 + k))]) (κ := 0) (i := 0) rfl rfl ⟨_, rfl⟩ rfl ⟨hx, hb, hml, hown, hts⟩ (kX7_scoreOf l D cy e0 (bd := bd1) (w := (wI w1 3 (k + 1))) g S _ (308 + k) (rV_308 hk1) (rl_308 hC.1 hk1) ) (cwV 1 hts gX7_meanScore_X7_scoreOf rfl rfl rfl (by decide +kernel) ⟨Nat.le_of_ble_eq_true rfl, Nat.le_of_ble_eq_true rfl⟩) hB hG.2 hC hS rfl hl.1 (Nat.le_of_ble_eq_true rfl) dX7_meanScore_52 ⟨by dsimp only; omega, by dsimp only; omega⟩ (fun H locs hC hS => ?_)
      refine q_val (v := fX7_scoreOf (w1 0 0) (w1 0 1) (w1 0 2) (w1 0 3) (w1 0 4) g (308 + k)) rfl ?_
      refine lv_i2l hx hb dX7_meanScore_55 rfl ?_
      refine lv_lmul hx hb dX7_meanScore_56 ?_
      refine lv_goto (tgt := 61) hx hb dX7_meanScore_57 (by decide) ?_
      refine lv_ladd hx hb dX7_meanScore_61 ?_
      refine lv_lstore_n (lv' := [(1, .long (a1 + (((g (308 + k) 0).toInt64) * ((fX7_scoreOf (w1 0 0) (w1 0 1) (w1 0 2) (w1 0 3) (w1 0 4) g (308 + k)).toInt64)))), (4, .ref (bd1 3 (308 + k))), (3, .ref (bd1 6 (w1 0 5))), (0, .ref (bd1 0 0))]) hx hb dX7_meanScore_62 rfl hl (by decide) rfl (fun ls hl => ?_)
      refine lv_goto (tgt := 15) hx hb dX7_meanScore_63 (by decide) ?_
      have e9 : fX7_meanScore_L15 (w1 0 0) (w1 0 1) (w1 0 2) (w1 0 3) (w1 0 4) g  (n + 1) k a1 = fX7_meanScore_L15 (w1 0 0) (w1 0 1) (w1 0 2) (w1 0 3) (w1 0 4) g  n (k + 1) (a1 + (((g (308 + k) 0).toInt64) * ((fX7_scoreOf (w1 0 0) (w1 0 1) (w1 0 2) (w1 0 3) (w1 0 4) g (308 + k)).toInt64))) := by rw [fX7_meanScore_L15, if_neg c2]
      rw [e9] at kk
      exact ih (k + 1) (a1 + (((g (308 + k) 0).toInt64) * ((fX7_scoreOf (w1 0 0) (w1 0 1) (w1 0 2) (w1 0 3) (w1 0 4) g (308 + k)).toInt64))) (by omega)  H locs ls hC hS (lv_sub hl [2, 0, 3] rfl) kk
set_option maxRecDepth 100000 in
set_option maxHeartbeats 4000000 in
theorem kX7_meanScore (l : Launch) (D : va_G) (cy : Nat → ClassId) (e0 : Nat) {bd w : Nat → Nat → Nat} (g : Md) (S : Int64) (sz : Nat) (hT4 : w 0 4 + 1 ≤ 50) : Met l yX7_meanScore wsX7_meanScore ({ frames := 4, cells := 11, slots := 68, locals := 88 } : Room) (va_Pc [.ref (bd 0 0)] (mPre D cy e0 bd w g S sz)) (mQd D cy bd w (fX7_meanScore (w 0 0) (w 0 1) (w 0 2) (w 0 3) (w 0 4) g).1 (fX7_meanScore (w 0 0) (w 0 1) (w 0 2) (w 0 3) (w 0 4) g).2 S sz) 11 68 (mA bd w sz) := by
  refine q_start (cc := cX7_meanScore) (maxL := 5) (ret := (some .double)) (own := RX7) (by decide) rfl rfl (Nat.le_of_ble_eq_true rfl) ?_
  intro p e s m below meth c hx hb hr hml hts hown hlocks ⟨hsz, hC, hB⟩ ls hl
  subst hsz
  have hS : va_S (mA bd w s.heap.size) s.heap s.heap [] := va_S.rf
  have hG : mG e0 bd w s.heap.size bd w := mG.rf hB.2.2.1
  have hw0 := hC.1
  have hl : lv_has ls 5 [(0, .ref (bd 0 0))] := hl
  refine lv_aload_n hx hb dX7_meanScore_0 rfl (lv_at hl 0 rfl) ?_
  refine lv_iconst (v := 0) hx hb dX7_meanScore_1 (by decide) ?_
  refine pt_m0_0 hx hb hts iX7_meanScore_X7 hown hB.1 hC hS hG.2.1 qX7_meanScore_w1 dX7_meanScore_2 (fun H locs hC hS => ?_)
  refine lv_lconst (v := 0) hx hb dX7_meanScore_5 (by decide) ?_
  refine lv_lstore_n (lv' := [(1, .long 0), (0, .ref (bd 0 0))]) hx hb dX7_meanScore_6 rfl hl (by decide) rfl (fun ls hl => ?_)
  refine lv_aload_n hx hb dX7_meanScore_7 rfl (lv_at hl 1 rfl) ?_
  refine gt_m0_5 hx hb hts iX7_meanScore_X7 hown hB.1 hC qX7_meanScore_w2 dX7_meanScore_8 ?_
  have hz9 := hS.1
  refine m_iter (show 3 < 4 by decide) ⟨hx, hb, hml, hown, hts⟩ (kJx4a65c_iterator_32c93 l D cy e0 (bd := bd) (w := w) (u2 g 0 20 0) S _ 3 (show 3 < 4 by decide)) (cwV 0 hts gX7_meanScore_Jx4a65c_iterator_32c93 rfl rfl rfl (by decide +kernel) ⟨Nat.le_of_ble_eq_true rfl, Nat.le_of_ble_eq_true rfl⟩) hB hG.2 hC hS hl.1 (Nat.le_of_ble_eq_true rfl) dX7_meanScore_11 ⟨Nat.le_of_ble_eq_true rfl, Nat.le_of_ble_eq_true rfl⟩ (fun bd1 H locs hN hC hS => ?_)
  have hG9 := hG.itr hN hz9
  have hI := hG9.2 3
  have hG := hG9.1
  have q0 : bd1 0 0 = bd 0 0 := hN.1 0 0 rfl
  rw [← q0] at hl
  refine lv_astore_n (lv' := [(3, .ref (bd1 6 (w 0 5))), (1, .long 0), (0, .ref (bd1 0 0))]) hx hb dX7_meanScore_14 rfl hl (by decide) rfl (fun ls hl => ?_)
  refine kX7_meanScore_L15 l D cy e0 (bd := bd) (w := w) (bd1 := bd1) (w1 := w) (u2 g 0 20 0) S  _ _ (Nat.le_of_ble_eq_true rfl) (Nat.le_of_ble_eq_true rfl)  hx hb hr hml hts hown hlocks hB hG hI (w 0 3) 0 0 (by omega)  _ _ ls hC hS (lv_sub hl [0, 1, 2] rfl) (fun H locs ls hC hS hl => ?_)
  refine lv_aload_n hx hb dX7_meanScore_66 rfl (lv_at hl 1 rfl) ?_
  refine lv_bipush (v := 11) hx hb dX7_meanScore_67 (by decide) ?_
  refine m_callVi (As := [.int 11]) (κ := 0) (i := 0) rfl rfl ⟨_, rfl⟩ rfl ⟨hx, hb, hml, hown, hts⟩ (kX7_manyNow l D cy e0 (bd := bd1) (w := w) (u2 g 0 20 0) S _ 11 (by show w 0 4 + 1 ≤ 50; omega) (by unfold vp_in; decide)) (cwV 1 hts gX7_meanScore_X7_manyNow rfl rfl rfl (by decide +kernel) ⟨Nat.le_of_ble_eq_true rfl, Nat.le_of_ble_eq_true rfl⟩) hB hG.2 hC hS rfl hl.1 (Nat.le_of_ble_eq_true rfl) dX7_meanScore_69 ⟨Nat.le_of_ble_eq_true rfl, Nat.le_of_ble_eq_true rfl⟩ (fun H locs hC hS => ?_)
  refine lv_if_ne (tgt := 79) hx hb dX7_meanScore_72 (by decide) (fun c3 => ?_) (fun c3 => ?_)
  · skip
    refine lv_lload_n hx hb dX7_meanScore_79 rfl (lv_at hl 0 rfl) ?_
    refine lv_l2d hx hb dX7_meanScore_80 ?_
    refine lv_aload_n hx hb dX7_meanScore_81 rfl (lv_at hl 1 rfl) ?_
    refine lv_bipush (v := 11) hx hb dX7_meanScore_82 (by decide) ?_
    refine m_callVi (As := [.int 11]) (κ := 0) (i := 0) rfl rfl ⟨_, rfl⟩ rfl ⟨hx, hb, hml, hown, hts⟩ (kX7_manyNow l D cy e0 (bd := bd1) (w := w) (u2 g 0 20 0) S _ 11 (by show w 0 4 + 1 ≤ 50; omega) (by unfold vp_in; decide)) (cwV 1 hts gX7_meanScore_X7_manyNow rfl rfl rfl (by decide +kernel) ⟨Nat.le_of_ble_eq_true rfl, Nat.le_of_ble_eq_true rfl⟩) hB hG.2 hC hS rfl hl.1 (Nat.le_of_ble_eq_true rfl) dX7_meanScore_84 ⟨Nat.le_of_ble_eq_true rfl, Nat.le_of_ble_eq_true rfl⟩ (fun H locs hC hS => ?_)
    refine lv_i2d hx hb dX7_meanScore_87 ?_
    refine lv_ddiv hx hb dX7_meanScore_88 (vf_il c3) ?_
    refine W.widen (k := 11) (n := 68) (Nat.le_of_ble_eq_true rfl) (Nat.le_of_ble_eq_true rfl) ?_
    have e9 : fX7_meanScore (w 0 0) (w 0 1) (w 0 2) (w 0 3) (w 0 4) g = (FP.ddiv (FP.l2d (fX7_meanScore_L15 (w 0 0) (w 0 1) (w 0 2) (w 0 3) (w 0 4) (u2 g 0 20 0)  (w 0 3) 0 0)) (FP.i2d (fX7_manyNow (w 0 0) (w 0 1) (w 0 2) (w 0 3) (w 0 4) (u2 g 0 20 0) 11)), (u2 g 0 20 0)) := (by unfold fX7_meanScore; rw [if_neg c3])
    exact m_retd hx hb hr hG hC hS (mEq_of (by rw [e9])) (by rw [e9]) hlocks dX7_meanScore_89
  · skip
    refine lv_dconst0 hx hb dX7_meanScore_75 ?_
    refine lv_goto (tgt := 89) hx hb dX7_meanScore_76 (by decide) ?_
    refine W.widen (k := 11) (n := 68) (Nat.le_of_ble_eq_true rfl) (Nat.le_of_ble_eq_true rfl) ?_
    have e9 : fX7_meanScore (w 0 0) (w 0 1) (w 0 2) (w 0 3) (w 0 4) g = (FP.dconst0, (u2 g 0 20 0)) := (by unfold fX7_meanScore; rw [if_pos c3])
    exact m_retd hx hb hr hG hC hS (mEq_of (by rw [e9])) (by rw [e9]) hlocks dX7_meanScore_89
