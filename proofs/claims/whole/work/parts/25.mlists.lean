/-! ===== the reference's methods over its lists ===== -/
def fX7_label (na nb nc nd T : Nat) (g : Md) (x : Int32) (dy : Int32) : Int32 × Md := if (fX7_isFarm na nb nc nd T (u2 g 0 20 0) x) = 0 then (((fX7_refuse na nb nc nd T (u2 g 0 20 0) 1).1, (fX7_refuse na nb nc nd T (u2 g 0 20 0) 1).2)) else (if (fX7_is dy (-1) 900) = 0 then (((fX7_refuse na nb nc nd T (u2 g 0 20 0) 2).1, (fX7_refuse na nb nc nd T (u2 g 0 20 0) 2).2)) else ((g (100 + x.toNatClampNeg) 1, (u2 (u2 g 0 20 0) (100 + x.toNatClampNeg) 1 dy))))
theorem qX7_label_w1 : Cond.fieldLink RX7 41 "CherryStationModel" "thrown" "I" ∈ wsX7_label := List.mem_of_getElem? (i := 1) rfl
theorem qX7_label_w2 : Cond.fieldLink RX7 12 "CherryStationModel" "farms" "Ljava/util/ArrayList;" ∈ wsX7_label := List.mem_of_getElem? (i := 2) rfl
theorem qX7_label_w3 : Cond.classLink RX7 72 "[I" ∈ wsX7_label := List.mem_of_getElem? (i := 3) rfl
theorem iX7_label_X7 : ∀ w ∈ wsX70, w ∈ wsX7_label := fun _ h => (List.mem_cons_of_mem _ (List.mem_append_left _ (List.mem_append_right _ h)))
set_option maxRecDepth 100000 in
set_option maxHeartbeats 4000000 in
theorem kX7_label (l : Launch) (D : va_G) (cy : Nat → ClassId) (e0 : Nat) {bd w : Nat → Nat → Nat} (g : Md) (S : Int64) (sz : Nat) (x : Int32) (dy : Int32) : Met l yX7_label wsX7_label ({ frames := 3, cells := 0, slots := 0, locals := 64 } : Room) (va_Pc [.ref (bd 0 0), .int x, .int dy] (mPre D cy e0 bd w g S sz)) (mQi D cy bd w (fX7_label (w 0 0) (w 0 1) (w 0 2) (w 0 3) (w 0 4) g x dy).1 (fX7_label (w 0 0) (w 0 1) (w 0 2) (w 0 3) (w 0 4) g x dy).2 S sz) 0 0 (mA bd w sz) := by
  refine q_start (cc := cX7_label) (maxL := 4) (ret := (some .int)) (own := RX7) (by decide) rfl rfl (Nat.le_of_ble_eq_true rfl) ?_
  intro p e s m below meth c hx hb hr hml hts hown hlocks ⟨hsz, hC, hB⟩ ls hl
  subst hsz
  have hS : va_S (mA bd w s.heap.size) s.heap s.heap [] := va_S.rf
  have hG : mG e0 bd w s.heap.size bd w := mG.rf hB.2.2.1
  have hw0 := hC.1
  have hl : lv_has ls 4 [(0, .ref (bd 0 0)), (1, .int x), (2, .int dy)] := hl
  refine lv_aload_n hx hb dX7_label_0 rfl (lv_at hl 0 rfl) ?_
  refine lv_iconst (v := 0) hx hb dX7_label_1 (by decide) ?_
  refine pt_m0_0 hx hb hts iX7_label_X7 hown hB.1 hC hS hG.2.1 qX7_label_w1 dX7_label_2 (fun H locs hC hS => ?_)
  refine lv_aload_n hx hb dX7_label_5 rfl (lv_at hl 0 rfl) ?_
  refine lv_iload_n hx hb dX7_label_6 rfl (lv_at hl 1 rfl) ?_
  refine m_callVi (As := [.int x]) (κ := 0) (i := 0) rfl rfl ⟨_, rfl⟩ rfl ⟨hx, hb, hml, hown, hts⟩ (kX7_isFarm l D cy e0 (bd := bd) (w := w) (u2 g 0 20 0) S _ x ) (cwV 1 hts gX7_label_X7_isFarm rfl rfl rfl (by decide +kernel) ⟨Nat.le_of_ble_eq_true rfl, Nat.le_of_ble_eq_true rfl⟩) hB hG.2 hC hS rfl hl.1 (Nat.le_of_ble_eq_true rfl) dX7_label_7 ⟨Nat.le_of_ble_eq_true rfl, Nat.le_of_ble_eq_true rfl⟩ (fun H locs hC hS => ?_)
  refine lv_if_ne (tgt := 19) hx hb dX7_label_10 (by decide) (fun c1 => ?_) (fun c1 => ?_)
  · skip
    refine lv_iload_n hx hb dX7_label_19 rfl (lv_at hl 2 rfl) ?_
    refine lv_iconst (v := (-1)) hx hb dX7_label_20 (by decide) ?_
    refine lv_sipush (v := 900) hx hb dX7_label_21 (by decide) ?_
    refine m_callSi (As := [.int dy, .int (-1), .int 900])  ⟨hx, hb, hml, hown, hts⟩ (kX7_is l D cy e0 (bd := bd) (w := w) (u2 g 0 20 0) S _ dy (-1) 900 ) (va_cwS 3 hts gX7_label_X7_is rfl rfl rfl (by decide +kernel) ⟨Nat.le_of_ble_eq_true rfl, Nat.le_of_ble_eq_true rfl⟩) hB hG.2 hC hS rfl hl.1 (Nat.le_of_ble_eq_true rfl) dX7_label_24 ⟨Nat.le_of_ble_eq_true rfl, Nat.le_of_ble_eq_true rfl⟩ (fun H locs hC hS => ?_)
    refine lv_if_ne (tgt := 36) hx hb dX7_label_27 (by decide) (fun c2 => ?_) (fun c2 => ?_)
    · skip
      refine lv_aload_n hx hb dX7_label_36 rfl (lv_at hl 0 rfl) ?_
      refine gt_m0_1 hx hb hts iX7_label_X7 hown hB.1 hC qX7_label_w2 dX7_label_37 ?_
      refine lv_iload_n hx hb dX7_label_40 rfl (lv_at hl 1 rfl) ?_
      refine m_callVr (As := [.int x]) (κ := 1) (i := 0) (show 0 < 4 by decide) rfl ⟨_, rfl⟩ rfl ⟨hx, hb, hml, hown, hts⟩ (kJx4a65c_get_915e3 l D cy e0 (bd := bd) (w := w) (u2 g 0 20 0) S _ 0 (show 0 < 4 by decide) x (isFarm_in (w := w) hw0 c1)) (cwV 1 hts gX7_label_Jx4a65c_get_915e3 rfl rfl rfl (by decide +kernel) ⟨Nat.le_of_ble_eq_true rfl, Nat.le_of_ble_eq_true rfl⟩) hB hG.2 hC hS rfl hl.1 (Nat.le_of_ble_eq_true rfl) dX7_label_41 ⟨Nat.le_of_ble_eq_true rfl, Nat.le_of_ble_eq_true rfl⟩ (fun H locs hC hS => ?_)
      refine m_stk (st' := [.ref (bd 3 (100 + x.toNatClampNeg))]) rfl ?_
      refine m_cast hx hb hown (hts _ qX7_label_w3) hB.1 hC (rV_100 (vp_lt (isFarm_in (w := w) hw0 c1))) dX7_label_44 ?_
      refine lv_iconst (v := 1) hx hb dX7_label_47 (by decide) ?_
      refine ld_m hx hb hB.1 hC (rV_100 (vp_lt (isFarm_in (w := w) hw0 c1))) (rl_100 hC.1 (vp_lt (isFarm_in (w := w) hw0 c1))) (k := 1) (by decide) (by unfold vp_in; decide) dX7_label_48 ?_
      refine q_val (v := g (100 + x.toNatClampNeg) 1) ((u2_nk (by decide)).trans rfl) ?_
      refine lv_istore_n (lv' := [(3, .int (g (100 + x.toNatClampNeg) 1)), (0, .ref (bd 0 0)), (1, .int x), (2, .int dy)]) hx hb dX7_label_49 rfl hl (by decide) rfl (fun ls hl => ?_)
      refine lv_aload_n hx hb dX7_label_50 rfl (lv_at hl 1 rfl) ?_
      refine gt_m0_1 hx hb hts iX7_label_X7 hown hB.1 hC qX7_label_w2 dX7_label_51 ?_
      refine lv_iload_n hx hb dX7_label_54 rfl (lv_at hl 2 rfl) ?_
      refine m_callVr (As := [.int x]) (κ := 1) (i := 0) (show 0 < 4 by decide) rfl ⟨_, rfl⟩ rfl ⟨hx, hb, hml, hown, hts⟩ (kJx4a65c_get_915e3 l D cy e0 (bd := bd) (w := w) (u2 g 0 20 0) S _ 0 (show 0 < 4 by decide) x (isFarm_in (w := w) hw0 c1)) (cwV 1 hts gX7_label_Jx4a65c_get_915e3 rfl rfl rfl (by decide +kernel) ⟨Nat.le_of_ble_eq_true rfl, Nat.le_of_ble_eq_true rfl⟩) hB hG.2 hC hS rfl hl.1 (Nat.le_of_ble_eq_true rfl) dX7_label_55 ⟨Nat.le_of_ble_eq_true rfl, Nat.le_of_ble_eq_true rfl⟩ (fun H locs hC hS => ?_)
      refine m_stk (st' := [.ref (bd 3 (100 + x.toNatClampNeg))]) rfl ?_
      refine m_cast hx hb hown (hts _ qX7_label_w3) hB.1 hC (rV_100 (vp_lt (isFarm_in (w := w) hw0 c1))) dX7_label_58 ?_
      refine lv_iconst (v := 1) hx hb dX7_label_61 (by decide) ?_
      refine lv_iload_n hx hb dX7_label_62 rfl (lv_at hl 3 rfl) ?_
      refine st_m hx hb hB.1 hC hS hG.2.1 (rV_100 (vp_lt (isFarm_in (w := w) hw0 c1))) (rl_100 hC.1 (vp_lt (isFarm_in (w := w) hw0 c1))) (k := 1) (by decide) (by unfold vp_in; decide) dX7_label_63 (fun H locs hC hS => ?_)
      refine lv_iload_n hx hb dX7_label_64 rfl (lv_at hl 0 rfl) ?_
      have e9 : fX7_label (w 0 0) (w 0 1) (w 0 2) (w 0 3) (w 0 4) g x dy = (g (100 + x.toNatClampNeg) 1, (u2 (u2 g 0 20 0) (100 + x.toNatClampNeg) 1 dy)) := (by unfold fX7_label; rw [if_neg c1, if_neg c2])
      exact m_reti hx hb hr hG hC hS (mEq_of (by rw [e9])) (by rw [e9]) hlocks dX7_label_65
    · skip
      refine lv_aload_n hx hb dX7_label_30 rfl (lv_at hl 0 rfl) ?_
      refine lv_iconst (v := 2) hx hb dX7_label_31 (by decide) ?_
      refine m_callVi (As := [.int 2]) (κ := 0) (i := 0) rfl rfl ⟨_, rfl⟩ rfl ⟨hx, hb, hml, hown, hts⟩ (kX7_refuse l D cy e0 (bd := bd) (w := w) (u2 g 0 20 0) S _ 2 ) (cwV 1 hts gX7_label_X7_refuse rfl rfl rfl (by decide +kernel) ⟨Nat.le_of_ble_eq_true rfl, Nat.le_of_ble_eq_true rfl⟩) hB hG.2 hC hS rfl hl.1 (Nat.le_of_ble_eq_true rfl) dX7_label_32 ⟨Nat.le_of_ble_eq_true rfl, Nat.le_of_ble_eq_true rfl⟩ (fun H locs hC hS => ?_)
      have e9 : fX7_label (w 0 0) (w 0 1) (w 0 2) (w 0 3) (w 0 4) g x dy = ((fX7_refuse (w 0 0) (w 0 1) (w 0 2) (w 0 3) (w 0 4) (u2 g 0 20 0) 2).1, (fX7_refuse (w 0 0) (w 0 1) (w 0 2) (w 0 3) (w 0 4) (u2 g 0 20 0) 2).2) := (by unfold fX7_label; rw [if_neg c1, if_pos c2])
      exact m_reti hx hb hr hG hC hS (mEq_of (by rw [e9])) (by rw [e9]) hlocks dX7_label_35
  · skip
    refine lv_aload_n hx hb dX7_label_13 rfl (lv_at hl 0 rfl) ?_
    refine lv_iconst (v := 1) hx hb dX7_label_14 (by decide) ?_
    refine m_callVi (As := [.int 1]) (κ := 0) (i := 0) rfl rfl ⟨_, rfl⟩ rfl ⟨hx, hb, hml, hown, hts⟩ (kX7_refuse l D cy e0 (bd := bd) (w := w) (u2 g 0 20 0) S _ 1 ) (cwV 1 hts gX7_label_X7_refuse rfl rfl rfl (by decide +kernel) ⟨Nat.le_of_ble_eq_true rfl, Nat.le_of_ble_eq_true rfl⟩) hB hG.2 hC hS rfl hl.1 (Nat.le_of_ble_eq_true rfl) dX7_label_15 ⟨Nat.le_of_ble_eq_true rfl, Nat.le_of_ble_eq_true rfl⟩ (fun H locs hC hS => ?_)
    have e9 : fX7_label (w 0 0) (w 0 1) (w 0 2) (w 0 3) (w 0 4) g x dy = ((fX7_refuse (w 0 0) (w 0 1) (w 0 2) (w 0 3) (w 0 4) (u2 g 0 20 0) 1).1, (fX7_refuse (w 0 0) (w 0 1) (w 0 2) (w 0 3) (w 0 4) (u2 g 0 20 0) 1).2) := (by unfold fX7_label; rw [if_pos c1])
    exact m_reti hx hb hr hG hC hS (mEq_of (by rw [e9])) (by rw [e9]) hlocks dX7_label_18
def fX7_ofFarmNow_L30 (na nb nc nd T : Nat) (g : Md) (fa : Int32) (u : Int32) : Nat → Nat → Int32 → Int32
  | 0, k, a1 => a1
  | n + 1, k, a1 => if (fX7_isIn na nb nc nd T g (308 + k)) = 0 then (fX7_ofFarmNow_L30 na nb nc nd T g fa u n (k + 1) (a1 + 0)) else (fX7_ofFarmNow_L30 na nb nc nd T g fa u n (k + 1) (a1 + (g (308 + k) (11 + fa.toNatClampNeg))))
def fX7_ofFarmNow (na nb nc nd T : Nat) (g : Md) (fa : Int32) (u : Int32) : Int32 := if 4 ≤ u then (fX7_ofFarmNow_L30 na nb nc nd T g fa u nd 0 0) else (g (100 + fa.toNatClampNeg) u.toNatClampNeg)
theorem qX7_ofFarmNow_w1 : Cond.fieldLink RX7 12 "CherryStationModel" "farms" "Ljava/util/ArrayList;" ∈ wsX7_ofFarmNow := List.mem_of_getElem? (i := 1) rfl
theorem qX7_ofFarmNow_w2 : Cond.classLink RX7 72 "[I" ∈ wsX7_ofFarmNow := List.mem_of_getElem? (i := 2) rfl
theorem qX7_ofFarmNow_w3 : Cond.fieldLink RX7 27 "CherryStationModel" "lots" "Ljava/util/ArrayList;" ∈ wsX7_ofFarmNow := List.mem_of_getElem? (i := 3) rfl
theorem iX7_ofFarmNow_X7 : ∀ w ∈ wsX70, w ∈ wsX7_ofFarmNow := fun _ h => (List.mem_cons_of_mem _ (List.mem_append_left _ (List.mem_append_left _ (List.mem_append_right _ h))))
set_option maxRecDepth 100000 in
set_option maxHeartbeats 4000000 in
theorem kX7_ofFarmNow_L30 (l : Launch) (D : va_G) (cy : Nat → ClassId) (e0 : Nat) {bd w bd1 w1 : Nat → Nat → Nat} (g : Md) (S : Int64) (fa : Int32) (h_fa : vp_in fa (w1 0 0)) (u : Int32) (c0 s0 : Nat) (hc0 : c0 + 0 ≤ 1) (hs0 : s0 + 0 ≤ 4) {p : Program} {e : Env} {s : State} {m : MethodId} {below : List Frame} {meth : Method} {c : Code} {Q : State → Prop} (hx : p.tables.exec = Jvm.exec) (hb : c.code = cX7_ofFarmNow) (hr : meth.sig.returnType = (some .int)) (hml : c.maxLocals = 6) (hts : ∀ w ∈ wsX7_ofFarmNow, w.before [.ref (bd 0 0), .int fa, .int u].toArray s = true) (hown : s.vm.findClass RX7 = some m.cls) (hlocks : meth.locks = false) (hB : MB D cy e0 bd w s) (hG : mG e0 bd w s.heap.size bd1 w1) (hI : ∀ k, mG e0 bd w s.heap.size bd1 (wI w1 3 k)) : ∀ (n k : Nat) (a1 : Int32) (hn : k + n = w1 0 3)   (H : Heap) (locs : List Loc) (ls : Array Slot) (hC : MW D cy bd1 (wI w1 3 k) g S H) (hS : va_S (mA bd w s.heap.size) s.heap H locs) (hl : lv_has ls 6 [(4, .ref (bd1 6 (w1 0 5))), (3, .int a1), (0, .ref (bd1 0 0)), (1, .int fa), (2, .int u)]) (kk : ∀ (H : Heap) (locs : List Loc) (ls : Array Slot), MW D cy bd1 w1 g S H → va_S (mA bd w s.heap.size) s.heap H locs → lv_has ls 6 [(3, .int (fX7_ofFarmNow_L30 (w1 0 0) (w1 0 1) (w1 0 2) (w1 0 3) (w1 0 4) g fa u n k a1)), (0, .ref (bd1 0 0)), (1, .int fa), (2, .int u)] → W p l e ({ frames := 3, cells := 1, slots := 4, locals := 64 } : Room) s m [.ref (bd 0 0), .int fa, .int u].toArray below meth c H locs (c0) (s0) Q (F0 m 77 ls [])), W p l e ({ frames := 3, cells := 1, slots := 4, locals := 64 } : Room) s m [.ref (bd 0 0), .int fa, .int u].toArray below meth c H locs c0 s0 Q (F0 m 30 ls []) := by
  intro n
  induction n with
  | zero =>
    intro k a1 hn H locs ls hC hS hl kk
    have hk1 : k = w1 0 3 := by omega
    have hkb : w1 0 3 ≤ 12 := (wNB_3 hC.1)
    have hw0 : wB w1 := hC.1
    refine lv_aload hx hb dX7_ofFarmNow_30 (lv_at hl 0 rfl) ?_
    refine m_callFi (As := []) (i := w1 0 5) it_v rfl ⟨hx, hb, hml, hown, hts⟩ (kJx35411_hasNext_aae02 l D cy e0 (bd := bd1) (w := w1) g S _ 3 k (by decide)) (va_cwF 0 hts gX7_ofFarmNow_Jx35411_hasNext_aae02_f96Jx35411 rfl rfl rfl hB.2.2.2.2.1 (by decide +kernel) ⟨Nat.le_of_ble_eq_true rfl, Nat.le_of_ble_eq_true rfl⟩) hB (hI k).2 hC hS rfl hl.1 (Nat.le_of_ble_eq_true rfl) dX7_ofFarmNow_32 ⟨by dsimp only; omega, by dsimp only; omega⟩ (fun H locs hC hS => ?_)
    refine q_val (v := 0) (if_pos (by rw [hk1])) ?_
    refine lv_if_eq (tgt := 77) hx hb dX7_ofFarmNow_37 (by decide) (fun _ => ?_) (fun c => absurd c (by decide))
    have e9 : fX7_ofFarmNow_L30 (w1 0 0) (w1 0 1) (w1 0 2) (w1 0 3) (w1 0 4) g fa u 0 k a1 = a1 := by rw [fX7_ofFarmNow_L30]
    rw [e9] at kk
    have hC := hC.unI
    exact kk H locs ls hC hS (lv_sub hl [1, 2, 3, 4] rfl)
  | succ n ih =>
    intro k a1 hn H locs ls hC hS hl kk
    have hk1 : k < w1 0 3 := by omega
    have hkb : w1 0 3 ≤ 12 := (wNB_3 hC.1)
    have hw0 : wB w1 := hC.1
    refine lv_aload hx hb dX7_ofFarmNow_30 (lv_at hl 0 rfl) ?_
    refine m_callFi (As := []) (i := w1 0 5) it_v rfl ⟨hx, hb, hml, hown, hts⟩ (kJx35411_hasNext_aae02 l D cy e0 (bd := bd1) (w := w1) g S _ 3 k (by decide)) (va_cwF 0 hts gX7_ofFarmNow_Jx35411_hasNext_aae02_f96Jx35411 rfl rfl rfl hB.2.2.2.2.1 (by decide +kernel) ⟨Nat.le_of_ble_eq_true rfl, Nat.le_of_ble_eq_true rfl⟩) hB (hI k).2 hC hS rfl hl.1 (Nat.le_of_ble_eq_true rfl) dX7_ofFarmNow_32 ⟨by dsimp only; omega, by dsimp only; omega⟩ (fun H locs hC hS => ?_)
    refine q_val (v := 1) (if_neg (fun h => nI_ne9 hk1 (Nat.le_trans (w0_20 (w := w1) hC.1 (show 3 < 4 by decide)) (by decide)) h)) ?_
    refine lv_if_eq (tgt := 77) hx hb dX7_ofFarmNow_37 (by decide) (fun c => absurd c (by decide)) (fun _ => ?_)
    refine lv_aload hx hb dX7_ofFarmNow_40 (lv_at hl 0 rfl) ?_
    refine m_feNext (li := 3) (k := k) (by decide) ⟨hx, hb, hml, hown, hts⟩ (kJx35411_next_0502b l D cy e0 (bd := bd1) (w := w1) g S _ 3 k (by decide) hk1) (va_cwF 0 hts gX7_ofFarmNow_Jx35411_next_0502b_f102Jx35411 rfl rfl rfl hB.2.2.2.2.2.1 (by decide +kernel) ⟨Nat.le_of_ble_eq_true rfl, Nat.le_of_ble_eq_true rfl⟩) hB (hI k).2 hC hS hl.1 (Nat.le_of_ble_eq_true rfl) dX7_ofFarmNow_42 ⟨by dsimp only; omega, by dsimp only; omega⟩ (fun H locs hC hS => ?_)
    have hG := hI (k + 1)
    refine m_stk (st' := [.ref (bd1 3 (308 + k))]) rfl ?_
    refine m_cast hx hb hown (hts _ qX7_ofFarmNow_w2) hB.1 hC (rV_308 hk1) dX7_ofFarmNow_47 ?_
    refine lv_astore (lv' := [(5, .ref (bd1 3 (308 + k))), (4, .ref (bd1 6 (w1 0 5))), (3, .int a1), (0, .ref (bd1 0 0)), (1, .int fa), (2, .int u)]) hx hb dX7_ofFarmNow_50 hl (by decide) rfl (fun ls hl => ?_)
    refine lv_iload_n hx hb dX7_ofFarmNow_52 rfl (lv_at hl 2 rfl) ?_
    refine lv_aload hx hb dX7_ofFarmNow_53 (lv_at hl 0 rfl) ?_
    refine m_callSi (As := [.ref (bd1 3 (308 + k))])  ⟨hx, hb, hml, hown, hts⟩ (kX7_isIn l D cy e0 (bd := bd1) (w := (wI w1 3 (k + 1))) g S _ (308 + k) (rV_308 hk1) (rl_308 hC.1 hk1) ) (va_cwS 1 hts gX7_ofFarmNow_X7_isIn rfl rfl rfl (by decide +kernel) ⟨Nat.le_of_ble_eq_true rfl, Nat.le_of_ble_eq_true rfl⟩) hB hG.2 hC hS rfl hl.1 (Nat.le_of_ble_eq_true rfl) dX7_ofFarmNow_55 ⟨by dsimp only; omega, by dsimp only; omega⟩ (fun H locs hC hS => ?_)
    refine q_val (v := fX7_isIn (w1 0 0) (w1 0 1) (w1 0 2) (w1 0 3) (w1 0 4) g (308 + k)) rfl ?_
    refine lv_if_eq (tgt := 71) hx hb dX7_ofFarmNow_58 (by decide) (fun c3 => ?_) (fun c3 => ?_)
    · skip
      refine lv_iconst (v := 0) hx hb dX7_ofFarmNow_71 (by decide) ?_
      refine lv_iadd hx hb dX7_ofFarmNow_72 ?_
      refine lv_istore_n (lv' := [(3, .int (a1 + 0)), (5, .ref (bd1 3 (308 + k))), (4, .ref (bd1 6 (w1 0 5))), (0, .ref (bd1 0 0)), (1, .int fa), (2, .int u)]) hx hb dX7_ofFarmNow_73 rfl hl (by decide) rfl (fun ls hl => ?_)
      refine lv_goto (tgt := 30) hx hb dX7_ofFarmNow_74 (by decide) ?_
      have e9 : fX7_ofFarmNow_L30 (w1 0 0) (w1 0 1) (w1 0 2) (w1 0 3) (w1 0 4) g fa u (n + 1) k a1 = fX7_ofFarmNow_L30 (w1 0 0) (w1 0 1) (w1 0 2) (w1 0 3) (w1 0 4) g fa u n (k + 1) (a1 + 0) := by rw [fX7_ofFarmNow_L30, if_pos c3]
      rw [e9] at kk
      exact ih (k + 1) (a1 + 0) (by omega)  H locs ls hC hS (lv_sub hl [2, 0, 3, 4, 5] rfl) kk
    · skip
      refine lv_aload hx hb dX7_ofFarmNow_61 (lv_at hl 0 rfl) ?_
      refine lv_bipush (v := 11) hx hb dX7_ofFarmNow_63 (by decide) ?_
      refine lv_iload_n hx hb dX7_ofFarmNow_65 rfl (lv_at hl 4 rfl) ?_
      refine lv_iadd hx hb dX7_ofFarmNow_66 ?_
      refine ld_m hx hb hB.1 hC (rV_308 hk1) (rl_308 hC.1 hk1) (k := 11 + fa.toNatClampNeg) (ix_add (c := 11) (ix_wide h_fa (wNB_0 hw0)) (by decide)).1 (ix_wide (ix_add (c := 11) (ix_wide h_fa (wNB_0 hw0)) (by decide)).2 (by decide)) dX7_ofFarmNow_67 ?_
      refine lv_goto (tgt := 72) hx hb dX7_ofFarmNow_68 (by decide) ?_
      refine lv_iadd hx hb dX7_ofFarmNow_72 ?_
      refine lv_istore_n (lv' := [(3, .int (a1 + (g (308 + k) (11 + fa.toNatClampNeg)))), (5, .ref (bd1 3 (308 + k))), (4, .ref (bd1 6 (w1 0 5))), (0, .ref (bd1 0 0)), (1, .int fa), (2, .int u)]) hx hb dX7_ofFarmNow_73 rfl hl (by decide) rfl (fun ls hl => ?_)
      refine lv_goto (tgt := 30) hx hb dX7_ofFarmNow_74 (by decide) ?_
      have e9 : fX7_ofFarmNow_L30 (w1 0 0) (w1 0 1) (w1 0 2) (w1 0 3) (w1 0 4) g fa u (n + 1) k a1 = fX7_ofFarmNow_L30 (w1 0 0) (w1 0 1) (w1 0 2) (w1 0 3) (w1 0 4) g fa u n (k + 1) (a1 + (g (308 + k) (11 + fa.toNatClampNeg))) := by rw [fX7_ofFarmNow_L30, if_neg c3]
      rw [e9] at kk
      exact ih (k + 1) (a1 + (g (308 + k) (11 + fa.toNatClampNeg))) (by omega)  H locs ls hC hS (lv_sub hl [2, 0, 3, 4, 5] rfl) kk
set_option maxRecDepth 100000 in
set_option maxHeartbeats 4000000 in
theorem kX7_ofFarmNow (l : Launch) (D : va_G) (cy : Nat → ClassId) (e0 : Nat) {bd w : Nat → Nat → Nat} (g : Md) (S : Int64) (sz : Nat) (fa : Int32) (h_fa : vp_in fa (w 0 0)) (u : Int32) (hu : ¬ (4 ≤ u) → vp_in u 4) : Met l yX7_ofFarmNow wsX7_ofFarmNow ({ frames := 3, cells := 1, slots := 4, locals := 64 } : Room) (va_Pc [.ref (bd 0 0), .int fa, .int u] (mPre D cy e0 bd w g S sz)) (mQi D cy bd w (fX7_ofFarmNow (w 0 0) (w 0 1) (w 0 2) (w 0 3) (w 0 4) g fa u) g S sz) 1 4 (mA bd w sz) := by
  refine q_start (cc := cX7_ofFarmNow) (maxL := 6) (ret := (some .int)) (own := RX7) (by decide) rfl rfl (Nat.le_of_ble_eq_true rfl) ?_
  intro p e s m below meth c hx hb hr hml hts hown hlocks ⟨hsz, hC, hB⟩ ls hl
  subst hsz
  have hS : va_S (mA bd w s.heap.size) s.heap s.heap [] := va_S.rf
  have hG : mG e0 bd w s.heap.size bd w := mG.rf hB.2.2.1
  have hw0 := hC.1
  have hl : lv_has ls 6 [(0, .ref (bd 0 0)), (1, .int fa), (2, .int u)] := hl
  refine lv_iload_n hx hb dX7_ofFarmNow_0 rfl (lv_at hl 2 rfl) ?_
  refine lv_iconst (v := 4) hx hb dX7_ofFarmNow_1 (by decide) ?_
  refine lv_icmp_ge (tgt := 19) hx hb dX7_ofFarmNow_2 (by decide) (fun c1 => ?_) (fun c1 => ?_)
  · skip
    refine lv_iconst (v := 0) hx hb dX7_ofFarmNow_19 (by decide) ?_
    refine lv_istore_n (lv' := [(3, .int 0), (0, .ref (bd 0 0)), (1, .int fa), (2, .int u)]) hx hb dX7_ofFarmNow_20 rfl hl (by decide) rfl (fun ls hl => ?_)
    refine lv_aload_n hx hb dX7_ofFarmNow_21 rfl (lv_at hl 1 rfl) ?_
    refine gt_m0_5 hx hb hts iX7_ofFarmNow_X7 hown hB.1 hC qX7_ofFarmNow_w3 dX7_ofFarmNow_22 ?_
    have hz9 := hS.1
    refine m_iter (show 3 < 4 by decide) ⟨hx, hb, hml, hown, hts⟩ (kJx4a65c_iterator_32c93 l D cy e0 (bd := bd) (w := w) g S _ 3 (show 3 < 4 by decide)) (cwV 0 hts gX7_ofFarmNow_Jx4a65c_iterator_32c93 rfl rfl rfl (by decide +kernel) ⟨Nat.le_of_ble_eq_true rfl, Nat.le_of_ble_eq_true rfl⟩) hB hG.2 hC hS hl.1 (Nat.le_of_ble_eq_true rfl) dX7_ofFarmNow_25 ⟨Nat.le_of_ble_eq_true rfl, Nat.le_of_ble_eq_true rfl⟩ (fun bd2 H locs hN hC hS => ?_)
    have hG9 := hG.itr hN hz9
    have hI := hG9.2 3
    have hG := hG9.1
    have q0 : bd2 0 0 = bd 0 0 := hN.1 0 0 rfl
    rw [← q0] at hl
    refine lv_astore (lv' := [(4, .ref (bd2 6 (w 0 5))), (3, .int 0), (0, .ref (bd2 0 0)), (1, .int fa), (2, .int u)]) hx hb dX7_ofFarmNow_28 hl (by decide) rfl (fun ls hl => ?_)
    refine kX7_ofFarmNow_L30 l D cy e0 (bd := bd) (w := w) (bd1 := bd2) (w1 := w) g S fa h_fa u _ _ (Nat.le_of_ble_eq_true rfl) (Nat.le_of_ble_eq_true rfl)  hx hb hr hml hts hown hlocks hB hG hI (w 0 3) 0 0 (by omega)  _ _ ls hC hS (lv_sub hl [0, 1, 2, 3, 4] rfl) (fun H locs ls hC hS hl => ?_)
    refine lv_iload_n hx hb dX7_ofFarmNow_77 rfl (lv_at hl 0 rfl) ?_
    refine W.widen (k := 1) (n := 4) (Nat.le_of_ble_eq_true rfl) (Nat.le_of_ble_eq_true rfl) ?_
    exact m_reti hx hb hr hG hC hS mEq_rf (by unfold fX7_ofFarmNow; rw [if_pos c1]) hlocks dX7_ofFarmNow_78
  · skip
    refine lv_aload_n hx hb dX7_ofFarmNow_5 rfl (lv_at hl 0 rfl) ?_
    refine gt_m0_1 hx hb hts iX7_ofFarmNow_X7 hown hB.1 hC qX7_ofFarmNow_w1 dX7_ofFarmNow_6 ?_
    refine lv_iload_n hx hb dX7_ofFarmNow_9 rfl (lv_at hl 1 rfl) ?_
    refine m_callVr (As := [.int fa]) (κ := 1) (i := 0) (show 0 < 4 by decide) rfl ⟨_, rfl⟩ rfl ⟨hx, hb, hml, hown, hts⟩ (kJx4a65c_get_915e3 l D cy e0 (bd := bd) (w := w) g S _ 0 (show 0 < 4 by decide) fa h_fa) (cwV 1 hts gX7_ofFarmNow_Jx4a65c_get_915e3 rfl rfl rfl (by decide +kernel) ⟨Nat.le_of_ble_eq_true rfl, Nat.le_of_ble_eq_true rfl⟩) hB hG.2 hC hS rfl hl.1 (Nat.le_of_ble_eq_true rfl) dX7_ofFarmNow_10 ⟨Nat.le_of_ble_eq_true rfl, Nat.le_of_ble_eq_true rfl⟩ (fun H locs hC hS => ?_)
    refine m_stk (st' := [.ref (bd 3 (100 + fa.toNatClampNeg))]) rfl ?_
    refine m_cast hx hb hown (hts _ qX7_ofFarmNow_w2) hB.1 hC (rV_100 (vp_lt h_fa)) dX7_ofFarmNow_13 ?_
    refine lv_iload_n hx hb dX7_ofFarmNow_16 rfl (lv_at hl 2 rfl) ?_
    refine ld_m hx hb hB.1 hC (rV_100 (vp_lt h_fa)) (rl_100 hC.1 (vp_lt h_fa)) (k := u.toNatClampNeg) rfl (hu c1) dX7_ofFarmNow_17 ?_
    refine W.widen (k := 1) (n := 4) (Nat.le_of_ble_eq_true rfl) (Nat.le_of_ble_eq_true rfl) ?_
    exact m_reti hx hb hr hG hC hS mEq_rf (by unfold fX7_ofFarmNow; rw [if_neg c1]) hlocks dX7_ofFarmNow_18
def fX7_scoreOf_L12 (na nb nc nd T : Nat) (g : Md) (r : Nat) : Nat → Nat → Int32 → Int32
  | 0, k, a1 => a1
  | n + 1, k, a1 => fX7_scoreOf_L12 na nb nc nd T g r n (k + 1) (a1 + ((g r (11 + k)) * (g (100 + k) 0)))
def fX7_scoreOf (na nb nc nd T : Nat) (g : Md) (r : Nat) : Int32 := if (g r 0) = 0 then (0) else (if 40 < (((((((68 + ((fX7_scoreOf_L12 na nb nc nd T g r na 0 0) / (g r 0))) + (g r 4)) - (fX7_fault na nb nc nd T g r 1)) - (fX7_fault na nb nc nd T g r 2)) - (fX7_fault na nb nc nd T g r 3)) - (fX7_fault na nb nc nd T g r 4)) - (fX7_fault na nb nc nd T g r 5)) then (((((((68 + ((fX7_scoreOf_L12 na nb nc nd T g r na 0 0) / (g r 0))) + (g r 4)) - (fX7_fault na nb nc nd T g r 1)) - (fX7_fault na nb nc nd T g r 2)) - (fX7_fault na nb nc nd T g r 3)) - (fX7_fault na nb nc nd T g r 4)) - (fX7_fault na nb nc nd T g r 5)) else 40)
theorem qX7_scoreOf_w1 : Cond.fieldLink RX7 12 "CherryStationModel" "farms" "Ljava/util/ArrayList;" ∈ wsX7_scoreOf := List.mem_of_getElem? (i := 1) rfl
theorem qX7_scoreOf_w2 : Cond.classLink RX7 72 "[I" ∈ wsX7_scoreOf := List.mem_of_getElem? (i := 2) rfl
theorem qX7_scoreOf_w3 : Cond.methodLink RX7 86 Lib.Math.max.name ∈ wsX7_scoreOf := List.mem_of_getElem? (i := 3) rfl
theorem qX7_scoreOf_w4 : Cond.static Lib.Math.max.name ∈ wsX7_scoreOf := List.mem_of_getElem? (i := 4) rfl
theorem qX7_scoreOf_w5 : Cond.initialized "java/lang/Math" ∈ wsX7_scoreOf := List.mem_of_getElem? (i := 5) rfl
theorem qX7_scoreOf_w6 : Cond.code Lib.Math.max.name Lib.Math.max.code 2 (some .int) ∈ wsX7_scoreOf := List.mem_of_getElem? (i := 6) rfl
theorem iX7_scoreOf_X7 : ∀ w ∈ wsX70, w ∈ wsX7_scoreOf := fun _ h => (List.mem_cons_of_mem _ (List.mem_append_left _ (List.mem_append_right _ h)))
set_option maxRecDepth 100000 in
set_option maxHeartbeats 4000000 in
theorem kX7_scoreOf_L12 (l : Launch) (D : va_G) (cy : Nat → ClassId) (e0 : Nat) {bd w bd1 w1 : Nat → Nat → Nat} (g : Md) (S : Int64) (r : Nat) (hv_r : rV w1 r) (hn_r : rl w1 r = 23) (c0 s0 : Nat) (hc0 : c0 + 0 ≤ 0) (hs0 : s0 + 0 ≤ 0) {p : Program} {e : Env} {s : State} {m : MethodId} {below : List Frame} {meth : Method} {c : Code} {Q : State → Prop} (hx : p.tables.exec = Jvm.exec) (hb : c.code = cX7_scoreOf) (hr : meth.sig.returnType = (some .int)) (hml : c.maxLocals = 5) (hts : ∀ w ∈ wsX7_scoreOf, w.before [.ref (bd 0 0), .ref (bd 3 r)].toArray s = true) (hown : s.vm.findClass RX7 = some m.cls) (hlocks : meth.locks = false) (hB : MB D cy e0 bd w s) (hG : mG e0 bd w s.heap.size bd1 w1) : ∀ (n k : Nat) (a1 : Int32) (hn : k + n = w1 0 0)   (H : Heap) (locs : List Loc) (ls : Array Slot) (hC : MW D cy bd1 w1 g S H) (hS : va_S (mA bd w s.heap.size) s.heap H locs) (hl : lv_has ls 5 [(3, .int (nI k)), (2, .int a1), (0, .ref (bd1 0 0)), (1, .ref (bd1 3 r))]) (kk : ∀ (H : Heap) (locs : List Loc) (ls : Array Slot), MW D cy bd1 w1 g S H → va_S (mA bd w s.heap.size) s.heap H locs → lv_has ls 5 [(2, .int (fX7_scoreOf_L12 (w1 0 0) (w1 0 1) (w1 0 2) (w1 0 3) (w1 0 4) g r n k a1)), (0, .ref (bd1 0 0)), (1, .ref (bd1 3 r))] → W p l e ({ frames := 3, cells := 0, slots := 0, locals := 64 } : Room) s m [.ref (bd 0 0), .ref (bd 3 r)].toArray below meth c H locs (c0) (s0) Q (F0 m 52 ls [])), W p l e ({ frames := 3, cells := 0, slots := 0, locals := 64 } : Room) s m [.ref (bd 0 0), .ref (bd 3 r)].toArray below meth c H locs c0 s0 Q (F0 m 12 ls []) := by
  intro n
  induction n with
  | zero =>
    intro k a1 hn H locs ls hC hS hl kk
    have hk1 : k = w1 0 0 := by omega
    have hkb : w1 0 0 ≤ 6 := (wNB_0 hC.1)
    have hk9 : (nI (w1 0 0)) ≤ (nI k) := by rw [hk1]; exact Int32.le_refl _
    have hw0 : wB w1 := hC.1
    refine lv_iload_n hx hb dX7_scoreOf_12 rfl (lv_at hl 0 rfl) ?_
    refine lv_aload_n hx hb dX7_scoreOf_13 rfl (lv_at hl 2 rfl) ?_
    refine gt_m0_1 hx hb hts iX7_scoreOf_X7 hown hB.1 hC qX7_scoreOf_w1 dX7_scoreOf_14 ?_
    refine m_callVi (As := []) (κ := 1) (i := 0) (show 0 < 4 by decide) rfl ⟨_, rfl⟩ rfl ⟨hx, hb, hml, hown, hts⟩ (kJx4a65c_size_8abf5 l D cy e0 (bd := bd1) (w := w1) g S _ 0 (show 0 < 4 by decide)) (cwV 0 hts gX7_scoreOf_Jx4a65c_size_8abf5 rfl rfl rfl (by decide +kernel) ⟨Nat.le_of_ble_eq_true rfl, Nat.le_of_ble_eq_true rfl⟩) hB hG.2 hC hS rfl hl.1 (Nat.le_of_ble_eq_true rfl) dX7_scoreOf_17 ⟨by dsimp only; omega, by dsimp only; omega⟩ (fun H locs hC hS => ?_)
    refine lv_icmp_ge (tgt := 52) hx hb dX7_scoreOf_20 (by decide) (fun _ => ?_) (fun c => absurd hk9 c)
    have e9 : fX7_scoreOf_L12 (w1 0 0) (w1 0 1) (w1 0 2) (w1 0 3) (w1 0 4) g r 0 k a1 = a1 := by rw [fX7_scoreOf_L12]
    rw [e9] at kk
    exact kk H locs ls hC hS (lv_sub hl [1, 2, 3] rfl)
  | succ n ih =>
    intro k a1 hn H locs ls hC hS hl kk
    have hk1 : k < w1 0 0 := by omega
    have hkb : w1 0 0 ≤ 6 := (wNB_0 hC.1)
    have hk9 : ¬ (nI (w1 0 0)) ≤ (nI k) := nI_ge hk1 (by have := w0_20 hC.1 (show 0 < 4 by decide); omega)
    have hw0 : wB w1 := hC.1
    refine lv_iload_n hx hb dX7_scoreOf_12 rfl (lv_at hl 0 rfl) ?_
    refine lv_aload_n hx hb dX7_scoreOf_13 rfl (lv_at hl 2 rfl) ?_
    refine gt_m0_1 hx hb hts iX7_scoreOf_X7 hown hB.1 hC qX7_scoreOf_w1 dX7_scoreOf_14 ?_
    refine m_callVi (As := []) (κ := 1) (i := 0) (show 0 < 4 by decide) rfl ⟨_, rfl⟩ rfl ⟨hx, hb, hml, hown, hts⟩ (kJx4a65c_size_8abf5 l D cy e0 (bd := bd1) (w := w1) g S _ 0 (show 0 < 4 by decide)) (cwV 0 hts gX7_scoreOf_Jx4a65c_size_8abf5 rfl rfl rfl (by decide +kernel) ⟨Nat.le_of_ble_eq_true rfl, Nat.le_of_ble_eq_true rfl⟩) hB hG.2 hC hS rfl hl.1 (Nat.le_of_ble_eq_true rfl) dX7_scoreOf_17 ⟨by dsimp only; omega, by dsimp only; omega⟩ (fun H locs hC hS => ?_)
    refine lv_icmp_ge (tgt := 52) hx hb dX7_scoreOf_20 (by decide) (fun c => absurd c hk9) (fun _ => ?_)
    refine lv_iload_n hx hb dX7_scoreOf_23 rfl (lv_at hl 1 rfl) ?_
    refine lv_aload_n hx hb dX7_scoreOf_24 rfl (lv_at hl 3 rfl) ?_
    refine lv_bipush (v := 11) hx hb dX7_scoreOf_25 (by decide) ?_
    refine lv_iload_n hx hb dX7_scoreOf_27 rfl (lv_at hl 0 rfl) ?_
    refine lv_iadd hx hb dX7_scoreOf_28 ?_
    refine ld_m hx hb hB.1 hC hv_r hn_r (k := 11 + k) (ixk (c := 11) (N := 23) (by omega) (by decide)).1 (ixk (c := 11) (N := 23) (by omega) (by decide)).2 dX7_scoreOf_29 ?_
    refine lv_aload_n hx hb dX7_scoreOf_30 rfl (lv_at hl 2 rfl) ?_
    refine gt_m0_1 hx hb hts iX7_scoreOf_X7 hown hB.1 hC qX7_scoreOf_w1 dX7_scoreOf_31 ?_
    refine lv_iload_n hx hb dX7_scoreOf_34 rfl (lv_at hl 0 rfl) ?_
    refine m_callVr (As := [.int (nI k)]) (κ := 1) (i := 0) (show 0 < 4 by decide) rfl ⟨_, rfl⟩ rfl ⟨hx, hb, hml, hown, hts⟩ (kJx4a65c_get_915e3 l D cy e0 (bd := bd1) (w := w1) g S _ 0 (show 0 < 4 by decide) (nI k) (nk_in hk1 (Nat.le_trans (w0_20 (w := w1) hw0 (show 0 < 4 by decide)) (by decide)))) (cwV 1 hts gX7_scoreOf_Jx4a65c_get_915e3 rfl rfl rfl (by decide +kernel) ⟨Nat.le_of_ble_eq_true rfl, Nat.le_of_ble_eq_true rfl⟩) hB hG.2 hC hS rfl hl.1 (Nat.le_of_ble_eq_true rfl) dX7_scoreOf_35 ⟨by dsimp only; omega, by dsimp only; omega⟩ (fun H locs hC hS => ?_)
    refine m_stk (st' := [.ref (bd1 3 (100 + k)), .int (g r (11 + k)), .int a1]) (by rw [(nk_clamp hk1 (Nat.le_trans (w0_20 (w := w1) hw0 (show 0 < 4 by decide)) (by decide)))] <;> rfl) ?_
    refine m_cast hx hb hown (hts _ qX7_scoreOf_w2) hB.1 hC (rV_100 hk1) dX7_scoreOf_38 ?_
    refine lv_iconst (v := 0) hx hb dX7_scoreOf_41 (by decide) ?_
    refine ld_m hx hb hB.1 hC (rV_100 hk1) (rl_100 hC.1 hk1) (k := 0) (by decide) (by unfold vp_in; decide) dX7_scoreOf_42 ?_
    refine lv_imul hx hb dX7_scoreOf_43 ?_
    refine lv_iadd hx hb dX7_scoreOf_44 ?_
    refine lv_istore_n (lv' := [(2, .int (a1 + ((g r (11 + k)) * (g (100 + k) 0)))), (3, .int (nI k)), (0, .ref (bd1 0 0)), (1, .ref (bd1 3 r))]) hx hb dX7_scoreOf_45 rfl hl (by decide) rfl (fun ls hl => ?_)
    refine lv_iinc (v := nI (k + 1)) (lv' := [(3, .int (nI (k + 1))), (2, .int (a1 + ((g r (11 + k)) * (g (100 + k) 0)))), (0, .ref (bd1 0 0)), (1, .ref (bd1 3 r))]) hx hb dX7_scoreOf_46 hl (k := 1) rfl (nI_1 _) (by decide) rfl (fun ls hl => ?_)
    refine lv_goto (tgt := 12) hx hb dX7_scoreOf_49 (by decide) ?_
    have e9 : fX7_scoreOf_L12 (w1 0 0) (w1 0 1) (w1 0 2) (w1 0 3) (w1 0 4) g r (n + 1) k a1 = fX7_scoreOf_L12 (w1 0 0) (w1 0 1) (w1 0 2) (w1 0 3) (w1 0 4) g r n (k + 1) (a1 + ((g r (11 + k)) * (g (100 + k) 0))) := by rw [fX7_scoreOf_L12]
    rw [e9] at kk
    exact ih (k + 1) (a1 + ((g r (11 + k)) * (g (100 + k) 0))) (by omega)  H locs ls hC hS (lv_sub hl [0, 1, 2, 3] rfl) kk
set_option maxRecDepth 100000 in
set_option maxHeartbeats 4000000 in
theorem kX7_scoreOf (l : Launch) (D : va_G) (cy : Nat → ClassId) (e0 : Nat) {bd w : Nat → Nat → Nat} (g : Md) (S : Int64) (sz : Nat) (r : Nat) (hv_r : rV w r) (hn_r : rl w r = 23) : Met l yX7_scoreOf wsX7_scoreOf ({ frames := 3, cells := 0, slots := 0, locals := 64 } : Room) (va_Pc [.ref (bd 0 0), .ref (bd 3 r)] (mPre D cy e0 bd w g S sz)) (mQi D cy bd w (fX7_scoreOf (w 0 0) (w 0 1) (w 0 2) (w 0 3) (w 0 4) g r) g S sz) 0 0 (mA bd w sz) := by
  refine q_start (cc := cX7_scoreOf) (maxL := 5) (ret := (some .int)) (own := RX7) (by decide) rfl rfl (Nat.le_of_ble_eq_true rfl) ?_
  intro p e s m below meth c hx hb hr hml hts hown hlocks ⟨hsz, hC, hB⟩ ls hl
  subst hsz
  have hS : va_S (mA bd w s.heap.size) s.heap s.heap [] := va_S.rf
  have hG : mG e0 bd w s.heap.size bd w := mG.rf hB.2.2.1
  have hw0 := hC.1
  have hl : lv_has ls 5 [(0, .ref (bd 0 0)), (1, .ref (bd 3 r))] := hl
  refine lv_aload_n hx hb dX7_scoreOf_0 rfl (lv_at hl 1 rfl) ?_
  refine lv_iconst (v := 0) hx hb dX7_scoreOf_1 (by decide) ?_
  refine ld_m hx hb hB.1 hC hv_r hn_r (k := 0) (by decide) (by unfold vp_in; decide) dX7_scoreOf_2 ?_
  refine lv_if_ne (tgt := 8) hx hb dX7_scoreOf_3 (by decide) (fun c1 => ?_) (fun c1 => ?_)
  · skip
    refine lv_iconst (v := 0) hx hb dX7_scoreOf_8 (by decide) ?_
    refine lv_istore_n (lv' := [(2, .int 0), (0, .ref (bd 0 0)), (1, .ref (bd 3 r))]) hx hb dX7_scoreOf_9 rfl hl (by decide) rfl (fun ls hl => ?_)
    refine lv_iconst (v := 0) hx hb dX7_scoreOf_10 (by decide) ?_
    refine lv_istore_n (lv' := [(3, .int 0), (2, .int 0), (0, .ref (bd 0 0)), (1, .ref (bd 3 r))]) hx hb dX7_scoreOf_11 rfl hl (by decide) rfl (fun ls hl => ?_)
    refine kX7_scoreOf_L12 l D cy e0 (bd := bd) (w := w) (bd1 := bd) (w1 := w) g S r hv_r hn_r _ _ (Nat.le_of_ble_eq_true rfl) (Nat.le_of_ble_eq_true rfl)  hx hb hr hml hts hown hlocks hB hG (w 0 0) 0 0 (by omega)  _ _ ls hC hS (lv_sub hl [0, 1, 2, 3] rfl) (fun H locs ls hC hS hl => ?_)
    refine lv_bipush (v := 68) hx hb dX7_scoreOf_52 (by decide) ?_
    refine lv_iload_n hx hb dX7_scoreOf_54 rfl (lv_at hl 0 rfl) ?_
    refine lv_aload_n hx hb dX7_scoreOf_55 rfl (lv_at hl 2 rfl) ?_
    refine lv_iconst (v := 0) hx hb dX7_scoreOf_56 (by decide) ?_
    refine ld_m hx hb hB.1 hC hv_r hn_r (k := 0) (by decide) (by unfold vp_in; decide) dX7_scoreOf_57 ?_
    refine lv_idiv hx hb dX7_scoreOf_58 c1 ?_
    refine lv_iadd hx hb dX7_scoreOf_59 ?_
    refine lv_aload_n hx hb dX7_scoreOf_60 rfl (lv_at hl 2 rfl) ?_
    refine lv_iconst (v := 4) hx hb dX7_scoreOf_61 (by decide) ?_
    refine ld_m hx hb hB.1 hC hv_r hn_r (k := 4) (by decide) (by unfold vp_in; decide) dX7_scoreOf_62 ?_
    refine lv_iadd hx hb dX7_scoreOf_63 ?_
    refine lv_istore_n (lv' := [(3, .int ((68 + ((fX7_scoreOf_L12 (w 0 0) (w 0 1) (w 0 2) (w 0 3) (w 0 4) g r (w 0 0) 0 0) / (g r 0))) + (g r 4))), (2, .int (fX7_scoreOf_L12 (w 0 0) (w 0 1) (w 0 2) (w 0 3) (w 0 4) g r (w 0 0) 0 0)), (0, .ref (bd 0 0)), (1, .ref (bd 3 r))]) hx hb dX7_scoreOf_64 rfl hl (by decide) rfl (fun ls hl => ?_)
    refine lv_iconst (v := 1) hx hb dX7_scoreOf_65 (by decide) ?_
    refine lv_istore (lv' := [(4, .int 1), (3, .int ((68 + ((fX7_scoreOf_L12 (w 0 0) (w 0 1) (w 0 2) (w 0 3) (w 0 4) g r (w 0 0) 0 0) / (g r 0))) + (g r 4))), (2, .int (fX7_scoreOf_L12 (w 0 0) (w 0 1) (w 0 2) (w 0 3) (w 0 4) g r (w 0 0) 0 0)), (0, .ref (bd 0 0)), (1, .ref (bd 3 r))]) hx hb dX7_scoreOf_66 hl (by decide) rfl (fun ls hl => ?_)
    refine lv_iload hx hb dX7_scoreOf_68 (lv_at hl 0 rfl) ?_
    refine lv_bipush (v := 6) hx hb dX7_scoreOf_70 (by decide) ?_
    refine lv_icmp_ge (tgt := 90) hx hb dX7_scoreOf_72 (by decide) (fun c => absurd c (by decide)) (fun _ => ?_)
    refine lv_iload_n hx hb dX7_scoreOf_75 rfl (lv_at hl 1 rfl) ?_
    refine lv_aload_n hx hb dX7_scoreOf_76 rfl (lv_at hl 4 rfl) ?_
    refine lv_iload hx hb dX7_scoreOf_77 (lv_at hl 0 rfl) ?_
    refine m_callSi (As := [.ref (bd 3 r), .int 1])  ⟨hx, hb, hml, hown, hts⟩ (kX7_fault l D cy e0 (bd := bd) (w := w) g S _ r hv_r hn_r 1 ) (va_cwS 2 hts gX7_scoreOf_X7_fault rfl rfl rfl (by decide +kernel) ⟨Nat.le_of_ble_eq_true rfl, Nat.le_of_ble_eq_true rfl⟩) hB hG.2 hC hS rfl hl.1 (Nat.le_of_ble_eq_true rfl) dX7_scoreOf_79 ⟨Nat.le_of_ble_eq_true rfl, Nat.le_of_ble_eq_true rfl⟩ (fun H locs hC hS => ?_)
    refine lv_isub hx hb dX7_scoreOf_82 ?_
    refine lv_istore_n (lv' := [(3, .int (((68 + ((fX7_scoreOf_L12 (w 0 0) (w 0 1) (w 0 2) (w 0 3) (w 0 4) g r (w 0 0) 0 0) / (g r 0))) + (g r 4)) - (fX7_fault (w 0 0) (w 0 1) (w 0 2) (w 0 3) (w 0 4) g r 1))), (4, .int 1), (2, .int (fX7_scoreOf_L12 (w 0 0) (w 0 1) (w 0 2) (w 0 3) (w 0 4) g r (w 0 0) 0 0)), (0, .ref (bd 0 0)), (1, .ref (bd 3 r))]) hx hb dX7_scoreOf_83 rfl hl (by decide) rfl (fun ls hl => ?_)
    refine lv_iinc (v := 2) (lv' := [(4, .int 2), (3, .int (((68 + ((fX7_scoreOf_L12 (w 0 0) (w 0 1) (w 0 2) (w 0 3) (w 0 4) g r (w 0 0) 0 0) / (g r 0))) + (g r 4)) - (fX7_fault (w 0 0) (w 0 1) (w 0 2) (w 0 3) (w 0 4) g r 1))), (2, .int (fX7_scoreOf_L12 (w 0 0) (w 0 1) (w 0 2) (w 0 3) (w 0 4) g r (w 0 0) 0 0)), (0, .ref (bd 0 0)), (1, .ref (bd 3 r))]) hx hb dX7_scoreOf_84 hl (k := 1) rfl (by decide) (by decide) rfl (fun ls hl => ?_)
    refine lv_goto (tgt := 68) hx hb dX7_scoreOf_87 (by decide) ?_
    refine lv_iload hx hb dX7_scoreOf_68 (lv_at hl 0 rfl) ?_
    refine lv_bipush (v := 6) hx hb dX7_scoreOf_70 (by decide) ?_
    refine lv_icmp_ge (tgt := 90) hx hb dX7_scoreOf_72 (by decide) (fun c => absurd c (by decide)) (fun _ => ?_)
    refine lv_iload_n hx hb dX7_scoreOf_75 rfl (lv_at hl 1 rfl) ?_
    refine lv_aload_n hx hb dX7_scoreOf_76 rfl (lv_at hl 4 rfl) ?_
    refine lv_iload hx hb dX7_scoreOf_77 (lv_at hl 0 rfl) ?_
    refine m_callSi (As := [.ref (bd 3 r), .int 2])  ⟨hx, hb, hml, hown, hts⟩ (kX7_fault l D cy e0 (bd := bd) (w := w) g S _ r hv_r hn_r 2 ) (va_cwS 2 hts gX7_scoreOf_X7_fault rfl rfl rfl (by decide +kernel) ⟨Nat.le_of_ble_eq_true rfl, Nat.le_of_ble_eq_true rfl⟩) hB hG.2 hC hS rfl hl.1 (Nat.le_of_ble_eq_true rfl) dX7_scoreOf_79 ⟨Nat.le_of_ble_eq_true rfl, Nat.le_of_ble_eq_true rfl⟩ (fun H locs hC hS => ?_)
    refine lv_isub hx hb dX7_scoreOf_82 ?_
    refine lv_istore_n (lv' := [(3, .int ((((68 + ((fX7_scoreOf_L12 (w 0 0) (w 0 1) (w 0 2) (w 0 3) (w 0 4) g r (w 0 0) 0 0) / (g r 0))) + (g r 4)) - (fX7_fault (w 0 0) (w 0 1) (w 0 2) (w 0 3) (w 0 4) g r 1)) - (fX7_fault (w 0 0) (w 0 1) (w 0 2) (w 0 3) (w 0 4) g r 2))), (4, .int 2), (2, .int (fX7_scoreOf_L12 (w 0 0) (w 0 1) (w 0 2) (w 0 3) (w 0 4) g r (w 0 0) 0 0)), (0, .ref (bd 0 0)), (1, .ref (bd 3 r))]) hx hb dX7_scoreOf_83 rfl hl (by decide) rfl (fun ls hl => ?_)
    refine lv_iinc (v := 3) (lv' := [(4, .int 3), (3, .int ((((68 + ((fX7_scoreOf_L12 (w 0 0) (w 0 1) (w 0 2) (w 0 3) (w 0 4) g r (w 0 0) 0 0) / (g r 0))) + (g r 4)) - (fX7_fault (w 0 0) (w 0 1) (w 0 2) (w 0 3) (w 0 4) g r 1)) - (fX7_fault (w 0 0) (w 0 1) (w 0 2) (w 0 3) (w 0 4) g r 2))), (2, .int (fX7_scoreOf_L12 (w 0 0) (w 0 1) (w 0 2) (w 0 3) (w 0 4) g r (w 0 0) 0 0)), (0, .ref (bd 0 0)), (1, .ref (bd 3 r))]) hx hb dX7_scoreOf_84 hl (k := 1) rfl (by decide) (by decide) rfl (fun ls hl => ?_)
    refine lv_goto (tgt := 68) hx hb dX7_scoreOf_87 (by decide) ?_
    refine lv_iload hx hb dX7_scoreOf_68 (lv_at hl 0 rfl) ?_
    refine lv_bipush (v := 6) hx hb dX7_scoreOf_70 (by decide) ?_
    refine lv_icmp_ge (tgt := 90) hx hb dX7_scoreOf_72 (by decide) (fun c => absurd c (by decide)) (fun _ => ?_)
    refine lv_iload_n hx hb dX7_scoreOf_75 rfl (lv_at hl 1 rfl) ?_
    refine lv_aload_n hx hb dX7_scoreOf_76 rfl (lv_at hl 4 rfl) ?_
    refine lv_iload hx hb dX7_scoreOf_77 (lv_at hl 0 rfl) ?_
    refine m_callSi (As := [.ref (bd 3 r), .int 3])  ⟨hx, hb, hml, hown, hts⟩ (kX7_fault l D cy e0 (bd := bd) (w := w) g S _ r hv_r hn_r 3 ) (va_cwS 2 hts gX7_scoreOf_X7_fault rfl rfl rfl (by decide +kernel) ⟨Nat.le_of_ble_eq_true rfl, Nat.le_of_ble_eq_true rfl⟩) hB hG.2 hC hS rfl hl.1 (Nat.le_of_ble_eq_true rfl) dX7_scoreOf_79 ⟨Nat.le_of_ble_eq_true rfl, Nat.le_of_ble_eq_true rfl⟩ (fun H locs hC hS => ?_)
    refine lv_isub hx hb dX7_scoreOf_82 ?_
    refine lv_istore_n (lv' := [(3, .int (((((68 + ((fX7_scoreOf_L12 (w 0 0) (w 0 1) (w 0 2) (w 0 3) (w 0 4) g r (w 0 0) 0 0) / (g r 0))) + (g r 4)) - (fX7_fault (w 0 0) (w 0 1) (w 0 2) (w 0 3) (w 0 4) g r 1)) - (fX7_fault (w 0 0) (w 0 1) (w 0 2) (w 0 3) (w 0 4) g r 2)) - (fX7_fault (w 0 0) (w 0 1) (w 0 2) (w 0 3) (w 0 4) g r 3))), (4, .int 3), (2, .int (fX7_scoreOf_L12 (w 0 0) (w 0 1) (w 0 2) (w 0 3) (w 0 4) g r (w 0 0) 0 0)), (0, .ref (bd 0 0)), (1, .ref (bd 3 r))]) hx hb dX7_scoreOf_83 rfl hl (by decide) rfl (fun ls hl => ?_)
    refine lv_iinc (v := 4) (lv' := [(4, .int 4), (3, .int (((((68 + ((fX7_scoreOf_L12 (w 0 0) (w 0 1) (w 0 2) (w 0 3) (w 0 4) g r (w 0 0) 0 0) / (g r 0))) + (g r 4)) - (fX7_fault (w 0 0) (w 0 1) (w 0 2) (w 0 3) (w 0 4) g r 1)) - (fX7_fault (w 0 0) (w 0 1) (w 0 2) (w 0 3) (w 0 4) g r 2)) - (fX7_fault (w 0 0) (w 0 1) (w 0 2) (w 0 3) (w 0 4) g r 3))), (2, .int (fX7_scoreOf_L12 (w 0 0) (w 0 1) (w 0 2) (w 0 3) (w 0 4) g r (w 0 0) 0 0)), (0, .ref (bd 0 0)), (1, .ref (bd 3 r))]) hx hb dX7_scoreOf_84 hl (k := 1) rfl (by decide) (by decide) rfl (fun ls hl => ?_)
    refine lv_goto (tgt := 68) hx hb dX7_scoreOf_87 (by decide) ?_
    refine lv_iload hx hb dX7_scoreOf_68 (lv_at hl 0 rfl) ?_
    refine lv_bipush (v := 6) hx hb dX7_scoreOf_70 (by decide) ?_
    refine lv_icmp_ge (tgt := 90) hx hb dX7_scoreOf_72 (by decide) (fun c => absurd c (by decide)) (fun _ => ?_)
    refine lv_iload_n hx hb dX7_scoreOf_75 rfl (lv_at hl 1 rfl) ?_
    refine lv_aload_n hx hb dX7_scoreOf_76 rfl (lv_at hl 4 rfl) ?_
    refine lv_iload hx hb dX7_scoreOf_77 (lv_at hl 0 rfl) ?_
    refine m_callSi (As := [.ref (bd 3 r), .int 4])  ⟨hx, hb, hml, hown, hts⟩ (kX7_fault l D cy e0 (bd := bd) (w := w) g S _ r hv_r hn_r 4 ) (va_cwS 2 hts gX7_scoreOf_X7_fault rfl rfl rfl (by decide +kernel) ⟨Nat.le_of_ble_eq_true rfl, Nat.le_of_ble_eq_true rfl⟩) hB hG.2 hC hS rfl hl.1 (Nat.le_of_ble_eq_true rfl) dX7_scoreOf_79 ⟨Nat.le_of_ble_eq_true rfl, Nat.le_of_ble_eq_true rfl⟩ (fun H locs hC hS => ?_)
    refine lv_isub hx hb dX7_scoreOf_82 ?_
    refine lv_istore_n (lv' := [(3, .int ((((((68 + ((fX7_scoreOf_L12 (w 0 0) (w 0 1) (w 0 2) (w 0 3) (w 0 4) g r (w 0 0) 0 0) / (g r 0))) + (g r 4)) - (fX7_fault (w 0 0) (w 0 1) (w 0 2) (w 0 3) (w 0 4) g r 1)) - (fX7_fault (w 0 0) (w 0 1) (w 0 2) (w 0 3) (w 0 4) g r 2)) - (fX7_fault (w 0 0) (w 0 1) (w 0 2) (w 0 3) (w 0 4) g r 3)) - (fX7_fault (w 0 0) (w 0 1) (w 0 2) (w 0 3) (w 0 4) g r 4))), (4, .int 4), (2, .int (fX7_scoreOf_L12 (w 0 0) (w 0 1) (w 0 2) (w 0 3) (w 0 4) g r (w 0 0) 0 0)), (0, .ref (bd 0 0)), (1, .ref (bd 3 r))]) hx hb dX7_scoreOf_83 rfl hl (by decide) rfl (fun ls hl => ?_)
    refine lv_iinc (v := 5) (lv' := [(4, .int 5), (3, .int ((((((68 + ((fX7_scoreOf_L12 (w 0 0) (w 0 1) (w 0 2) (w 0 3) (w 0 4) g r (w 0 0) 0 0) / (g r 0))) + (g r 4)) - (fX7_fault (w 0 0) (w 0 1) (w 0 2) (w 0 3) (w 0 4) g r 1)) - (fX7_fault (w 0 0) (w 0 1) (w 0 2) (w 0 3) (w 0 4) g r 2)) - (fX7_fault (w 0 0) (w 0 1) (w 0 2) (w 0 3) (w 0 4) g r 3)) - (fX7_fault (w 0 0) (w 0 1) (w 0 2) (w 0 3) (w 0 4) g r 4))), (2, .int (fX7_scoreOf_L12 (w 0 0) (w 0 1) (w 0 2) (w 0 3) (w 0 4) g r (w 0 0) 0 0)), (0, .ref (bd 0 0)), (1, .ref (bd 3 r))]) hx hb dX7_scoreOf_84 hl (k := 1) rfl (by decide) (by decide) rfl (fun ls hl => ?_)
    refine lv_goto (tgt := 68) hx hb dX7_scoreOf_87 (by decide) ?_
    refine lv_iload hx hb dX7_scoreOf_68 (lv_at hl 0 rfl) ?_
    refine lv_bipush (v := 6) hx hb dX7_scoreOf_70 (by decide) ?_
    refine lv_icmp_ge (tgt := 90) hx hb dX7_scoreOf_72 (by decide) (fun c => absurd c (by decide)) (fun _ => ?_)
    refine lv_iload_n hx hb dX7_scoreOf_75 rfl (lv_at hl 1 rfl) ?_
    refine lv_aload_n hx hb dX7_scoreOf_76 rfl (lv_at hl 4 rfl) ?_
    refine lv_iload hx hb dX7_scoreOf_77 (lv_at hl 0 rfl) ?_
    refine m_callSi (As := [.ref (bd 3 r), .int 5])  ⟨hx, hb, hml, hown, hts⟩ (kX7_fault l D cy e0 (bd := bd) (w := w) g S _ r hv_r hn_r 5 ) (va_cwS 2 hts gX7_scoreOf_X7_fault rfl rfl rfl (by decide +kernel) ⟨Nat.le_of_ble_eq_true rfl, Nat.le_of_ble_eq_true rfl⟩) hB hG.2 hC hS rfl hl.1 (Nat.le_of_ble_eq_true rfl) dX7_scoreOf_79 ⟨Nat.le_of_ble_eq_true rfl, Nat.le_of_ble_eq_true rfl⟩ (fun H locs hC hS => ?_)
    refine lv_isub hx hb dX7_scoreOf_82 ?_
    refine lv_istore_n (lv' := [(3, .int (((((((68 + ((fX7_scoreOf_L12 (w 0 0) (w 0 1) (w 0 2) (w 0 3) (w 0 4) g r (w 0 0) 0 0) / (g r 0))) + (g r 4)) - (fX7_fault (w 0 0) (w 0 1) (w 0 2) (w 0 3) (w 0 4) g r 1)) - (fX7_fault (w 0 0) (w 0 1) (w 0 2) (w 0 3) (w 0 4) g r 2)) - (fX7_fault (w 0 0) (w 0 1) (w 0 2) (w 0 3) (w 0 4) g r 3)) - (fX7_fault (w 0 0) (w 0 1) (w 0 2) (w 0 3) (w 0 4) g r 4)) - (fX7_fault (w 0 0) (w 0 1) (w 0 2) (w 0 3) (w 0 4) g r 5))), (4, .int 5), (2, .int (fX7_scoreOf_L12 (w 0 0) (w 0 1) (w 0 2) (w 0 3) (w 0 4) g r (w 0 0) 0 0)), (0, .ref (bd 0 0)), (1, .ref (bd 3 r))]) hx hb dX7_scoreOf_83 rfl hl (by decide) rfl (fun ls hl => ?_)
    refine lv_iinc (v := 6) (lv' := [(4, .int 6), (3, .int (((((((68 + ((fX7_scoreOf_L12 (w 0 0) (w 0 1) (w 0 2) (w 0 3) (w 0 4) g r (w 0 0) 0 0) / (g r 0))) + (g r 4)) - (fX7_fault (w 0 0) (w 0 1) (w 0 2) (w 0 3) (w 0 4) g r 1)) - (fX7_fault (w 0 0) (w 0 1) (w 0 2) (w 0 3) (w 0 4) g r 2)) - (fX7_fault (w 0 0) (w 0 1) (w 0 2) (w 0 3) (w 0 4) g r 3)) - (fX7_fault (w 0 0) (w 0 1) (w 0 2) (w 0 3) (w 0 4) g r 4)) - (fX7_fault (w 0 0) (w 0 1) (w 0 2) (w 0 3) (w 0 4) g r 5))), (2, .int (fX7_scoreOf_L12 (w 0 0) (w 0 1) (w 0 2) (w 0 3) (w 0 4) g r (w 0 0) 0 0)), (0, .ref (bd 0 0)), (1, .ref (bd 3 r))]) hx hb dX7_scoreOf_84 hl (k := 1) rfl (by decide) (by decide) rfl (fun ls hl => ?_)
    refine lv_goto (tgt := 68) hx hb dX7_scoreOf_87 (by decide) ?_
    refine lv_iload hx hb dX7_scoreOf_68 (lv_at hl 0 rfl) ?_
    refine lv_bipush (v := 6) hx hb dX7_scoreOf_70 (by decide) ?_
    refine lv_icmp_ge (tgt := 90) hx hb dX7_scoreOf_72 (by decide) (fun _ => ?_) (fun c => absurd c (by decide))
    refine lv_bipush (v := 40) hx hb dX7_scoreOf_90 (by decide) ?_
    refine lv_iload_n hx hb dX7_scoreOf_92 rfl (lv_at hl 1 rfl) ?_
    refine va_mmax hx hb (hml.trans hl.1.symm) hown (hts _ qX7_scoreOf_w3) (hts _ qX7_scoreOf_w4) (hts _ qX7_scoreOf_w5) (hts _ qX7_scoreOf_w6) (Nat.le_of_ble_eq_true rfl) (Nat.le_of_ble_eq_true rfl) (Nat.le_of_ble_eq_true rfl) (Nat.le_of_ble_eq_true rfl) dX7_scoreOf_93 ?_
    exact m_reti hx hb hr hG hC hS mEq_rf (by unfold fX7_scoreOf; rw [if_neg c1]) hlocks dX7_scoreOf_96
  · skip
    refine lv_iconst (v := 0) hx hb dX7_scoreOf_6 (by decide) ?_
    exact m_reti hx hb hr hG hC hS mEq_rf (by unfold fX7_scoreOf; rw [if_pos c1]) hlocks dX7_scoreOf_7
def fX7_turn (na nb nc nd T : Nat) (g : Md) (x : Int32) : Int32 × Md := if (fX7_isBed na nb nc nd T (u2 g 0 20 0) x) = 0 then (((fX7_refuse na nb nc nd T (u2 g 0 20 0) 1).1, (fX7_refuse na nb nc nd T (u2 g 0 20 0) 1).2)) else (if (g (303 + x.toNatClampNeg) 0) = 0 then (((fX7_refuse na nb nc nd T (u2 g 0 20 0) 2).1, (fX7_refuse na nb nc nd T (u2 g 0 20 0) 2).2)) else ((g (303 + x.toNatClampNeg) 6, (u2 (u2 g 0 20 0) (303 + x.toNatClampNeg) 6 0))))
theorem qX7_turn_w1 : Cond.fieldLink RX7 41 "CherryStationModel" "thrown" "I" ∈ wsX7_turn := List.mem_of_getElem? (i := 1) rfl
theorem qX7_turn_w2 : Cond.fieldLink RX7 24 "CherryStationModel" "beds" "Ljava/util/ArrayList;" ∈ wsX7_turn := List.mem_of_getElem? (i := 2) rfl
theorem qX7_turn_w3 : Cond.classLink RX7 72 "[I" ∈ wsX7_turn := List.mem_of_getElem? (i := 3) rfl
theorem iX7_turn_X7 : ∀ w ∈ wsX70, w ∈ wsX7_turn := fun _ h => (List.mem_cons_of_mem _ (List.mem_append_left _ (List.mem_append_right _ h)))
set_option maxRecDepth 100000 in
set_option maxHeartbeats 4000000 in
theorem kX7_turn (l : Launch) (D : va_G) (cy : Nat → ClassId) (e0 : Nat) {bd w : Nat → Nat → Nat} (g : Md) (S : Int64) (sz : Nat) (x : Int32) : Met l yX7_turn wsX7_turn ({ frames := 3, cells := 0, slots := 0, locals := 64 } : Room) (va_Pc [.ref (bd 0 0), .int x] (mPre D cy e0 bd w g S sz)) (mQi D cy bd w (fX7_turn (w 0 0) (w 0 1) (w 0 2) (w 0 3) (w 0 4) g x).1 (fX7_turn (w 0 0) (w 0 1) (w 0 2) (w 0 3) (w 0 4) g x).2 S sz) 0 0 (mA bd w sz) := by
  refine q_start (cc := cX7_turn) (maxL := 4) (ret := (some .int)) (own := RX7) (by decide) rfl rfl (Nat.le_of_ble_eq_true rfl) ?_
  intro p e s m below meth c hx hb hr hml hts hown hlocks ⟨hsz, hC, hB⟩ ls hl
  subst hsz
  have hS : va_S (mA bd w s.heap.size) s.heap s.heap [] := va_S.rf
  have hG : mG e0 bd w s.heap.size bd w := mG.rf hB.2.2.1
  have hw0 := hC.1
  have hl : lv_has ls 4 [(0, .ref (bd 0 0)), (1, .int x)] := hl
  refine lv_aload_n hx hb dX7_turn_0 rfl (lv_at hl 0 rfl) ?_
  refine lv_iconst (v := 0) hx hb dX7_turn_1 (by decide) ?_
  refine pt_m0_0 hx hb hts iX7_turn_X7 hown hB.1 hC hS hG.2.1 qX7_turn_w1 dX7_turn_2 (fun H locs hC hS => ?_)
  refine lv_aload_n hx hb dX7_turn_5 rfl (lv_at hl 0 rfl) ?_
  refine lv_iload_n hx hb dX7_turn_6 rfl (lv_at hl 1 rfl) ?_
  refine m_callVi (As := [.int x]) (κ := 0) (i := 0) rfl rfl ⟨_, rfl⟩ rfl ⟨hx, hb, hml, hown, hts⟩ (kX7_isBed l D cy e0 (bd := bd) (w := w) (u2 g 0 20 0) S _ x ) (cwV 1 hts gX7_turn_X7_isBed rfl rfl rfl (by decide +kernel) ⟨Nat.le_of_ble_eq_true rfl, Nat.le_of_ble_eq_true rfl⟩) hB hG.2 hC hS rfl hl.1 (Nat.le_of_ble_eq_true rfl) dX7_turn_7 ⟨Nat.le_of_ble_eq_true rfl, Nat.le_of_ble_eq_true rfl⟩ (fun H locs hC hS => ?_)
  refine lv_if_ne (tgt := 19) hx hb dX7_turn_10 (by decide) (fun c1 => ?_) (fun c1 => ?_)
  · skip
    refine lv_aload_n hx hb dX7_turn_19 rfl (lv_at hl 0 rfl) ?_
    refine gt_m0_4 hx hb hts iX7_turn_X7 hown hB.1 hC qX7_turn_w2 dX7_turn_20 ?_
    refine lv_iload_n hx hb dX7_turn_23 rfl (lv_at hl 1 rfl) ?_
    refine m_callVr (As := [.int x]) (κ := 1) (i := 2) (show 2 < 4 by decide) rfl ⟨_, rfl⟩ rfl ⟨hx, hb, hml, hown, hts⟩ (kJx4a65c_get_915e3 l D cy e0 (bd := bd) (w := w) (u2 g 0 20 0) S _ 2 (show 2 < 4 by decide) x (isBed_in (w := w) hw0 c1)) (cwV 1 hts gX7_turn_Jx4a65c_get_915e3 rfl rfl rfl (by decide +kernel) ⟨Nat.le_of_ble_eq_true rfl, Nat.le_of_ble_eq_true rfl⟩) hB hG.2 hC hS rfl hl.1 (Nat.le_of_ble_eq_true rfl) dX7_turn_24 ⟨Nat.le_of_ble_eq_true rfl, Nat.le_of_ble_eq_true rfl⟩ (fun H locs hC hS => ?_)
    refine m_stk (st' := [.ref (bd 3 (303 + x.toNatClampNeg))]) rfl ?_
    refine m_cast hx hb hown (hts _ qX7_turn_w3) hB.1 hC (rV_303 (vp_lt (isBed_in (w := w) hw0 c1))) dX7_turn_27 ?_
    refine lv_astore_n (lv' := [(2, .ref (bd 3 (303 + x.toNatClampNeg))), (0, .ref (bd 0 0)), (1, .int x)]) hx hb dX7_turn_30 rfl hl (by decide) rfl (fun ls hl => ?_)
    refine lv_aload_n hx hb dX7_turn_31 rfl (lv_at hl 0 rfl) ?_
    refine lv_iconst (v := 0) hx hb dX7_turn_32 (by decide) ?_
    refine ld_m hx hb hB.1 hC (rV_303 (vp_lt (isBed_in (w := w) hw0 c1))) (rl_303 hC.1 (vp_lt (isBed_in (w := w) hw0 c1))) (k := 0) (by decide) (by unfold vp_in; decide) dX7_turn_33 ?_
    refine q_val (v := g (303 + x.toNatClampNeg) 0) ((u2_nk (by decide)).trans rfl) ?_
    refine lv_if_ne (tgt := 43) hx hb dX7_turn_34 (by decide) (fun c2 => ?_) (fun c2 => ?_)
    · skip
      refine lv_aload_n hx hb dX7_turn_43 rfl (lv_at hl 0 rfl) ?_
      refine lv_bipush (v := 6) hx hb dX7_turn_44 (by decide) ?_
      refine ld_m hx hb hB.1 hC (rV_303 (vp_lt (isBed_in (w := w) hw0 c1))) (rl_303 hC.1 (vp_lt (isBed_in (w := w) hw0 c1))) (k := 6) (by decide) (by unfold vp_in; decide) dX7_turn_46 ?_
      refine q_val (v := g (303 + x.toNatClampNeg) 6) ((u2_nk (by decide)).trans rfl) ?_
      refine lv_istore_n (lv' := [(3, .int (g (303 + x.toNatClampNeg) 6)), (2, .ref (bd 3 (303 + x.toNatClampNeg))), (0, .ref (bd 0 0)), (1, .int x)]) hx hb dX7_turn_47 rfl hl (by decide) rfl (fun ls hl => ?_)
      refine lv_aload_n hx hb dX7_turn_48 rfl (lv_at hl 1 rfl) ?_
      refine lv_bipush (v := 6) hx hb dX7_turn_49 (by decide) ?_
      refine lv_iconst (v := 0) hx hb dX7_turn_51 (by decide) ?_
      refine st_m hx hb hB.1 hC hS hG.2.1 (rV_303 (vp_lt (isBed_in (w := w) hw0 c1))) (rl_303 hC.1 (vp_lt (isBed_in (w := w) hw0 c1))) (k := 6) (by decide) (by unfold vp_in; decide) dX7_turn_52 (fun H locs hC hS => ?_)
      refine lv_iload_n hx hb dX7_turn_53 rfl (lv_at hl 0 rfl) ?_
      have e9 : fX7_turn (w 0 0) (w 0 1) (w 0 2) (w 0 3) (w 0 4) g x = (g (303 + x.toNatClampNeg) 6, (u2 (u2 g 0 20 0) (303 + x.toNatClampNeg) 6 0)) := (by unfold fX7_turn; rw [if_neg c1, if_neg c2])
      exact m_reti hx hb hr hG hC hS (mEq_of (by rw [e9])) (by rw [e9]) hlocks dX7_turn_54
    · skip
      refine lv_aload_n hx hb dX7_turn_37 rfl (lv_at hl 1 rfl) ?_
      refine lv_iconst (v := 2) hx hb dX7_turn_38 (by decide) ?_
      refine m_callVi (As := [.int 2]) (κ := 0) (i := 0) rfl rfl ⟨_, rfl⟩ rfl ⟨hx, hb, hml, hown, hts⟩ (kX7_refuse l D cy e0 (bd := bd) (w := w) (u2 g 0 20 0) S _ 2 ) (cwV 1 hts gX7_turn_X7_refuse rfl rfl rfl (by decide +kernel) ⟨Nat.le_of_ble_eq_true rfl, Nat.le_of_ble_eq_true rfl⟩) hB hG.2 hC hS rfl hl.1 (Nat.le_of_ble_eq_true rfl) dX7_turn_39 ⟨Nat.le_of_ble_eq_true rfl, Nat.le_of_ble_eq_true rfl⟩ (fun H locs hC hS => ?_)
      have e9 : fX7_turn (w 0 0) (w 0 1) (w 0 2) (w 0 3) (w 0 4) g x = ((fX7_refuse (w 0 0) (w 0 1) (w 0 2) (w 0 3) (w 0 4) (u2 g 0 20 0) 2).1, (fX7_refuse (w 0 0) (w 0 1) (w 0 2) (w 0 3) (w 0 4) (u2 g 0 20 0) 2).2) := (by unfold fX7_turn; rw [if_neg c1, if_pos c2])
      exact m_reti hx hb hr hG hC hS (mEq_of (by rw [e9])) (by rw [e9]) hlocks dX7_turn_42
  · skip
    refine lv_aload_n hx hb dX7_turn_13 rfl (lv_at hl 0 rfl) ?_
    refine lv_iconst (v := 1) hx hb dX7_turn_14 (by decide) ?_
    refine m_callVi (As := [.int 1]) (κ := 0) (i := 0) rfl rfl ⟨_, rfl⟩ rfl ⟨hx, hb, hml, hown, hts⟩ (kX7_refuse l D cy e0 (bd := bd) (w := w) (u2 g 0 20 0) S _ 1 ) (cwV 1 hts gX7_turn_X7_refuse rfl rfl rfl (by decide +kernel) ⟨Nat.le_of_ble_eq_true rfl, Nat.le_of_ble_eq_true rfl⟩) hB hG.2 hC hS rfl hl.1 (Nat.le_of_ble_eq_true rfl) dX7_turn_15 ⟨Nat.le_of_ble_eq_true rfl, Nat.le_of_ble_eq_true rfl⟩ (fun H locs hC hS => ?_)
    have e9 : fX7_turn (w 0 0) (w 0 1) (w 0 2) (w 0 3) (w 0 4) g x = ((fX7_refuse (w 0 0) (w 0 1) (w 0 2) (w 0 3) (w 0 4) (u2 g 0 20 0) 1).1, (fX7_refuse (w 0 0) (w 0 1) (w 0 2) (w 0 3) (w 0 4) (u2 g 0 20 0) 1).2) := (by unfold fX7_turn; rw [if_pos c1])
    exact m_reti hx hb hr hG hC hS (mEq_of (by rw [e9])) (by rw [e9]) hlocks dX7_turn_18
def fX7_cover (na nb nc nd T : Nat) (g : Md) (x : Int32) (on : Int32) : Int32 × Md := if (fX7_isBed na nb nc nd T g x) = 0 then ((0, (u2 g 0 20 1))) else (if (g (303 + x.toNatClampNeg) 9) = 1 then (if on = 0 then ((1, (u2 (u2 g 0 20 0) (303 + x.toNatClampNeg) 9 0))) else ((1, (u2 (u2 g 0 20 0) (303 + x.toNatClampNeg) 9 1)))) else (if on = 0 then ((0, (u2 (u2 g 0 20 0) (303 + x.toNatClampNeg) 9 0))) else ((0, (u2 (u2 g 0 20 0) (303 + x.toNatClampNeg) 9 1)))))
theorem qX7_cover_w1 : Cond.fieldLink RX7 41 "CherryStationModel" "thrown" "I" ∈ wsX7_cover := List.mem_of_getElem? (i := 1) rfl
theorem qX7_cover_w2 : Cond.fieldLink RX7 24 "CherryStationModel" "beds" "Ljava/util/ArrayList;" ∈ wsX7_cover := List.mem_of_getElem? (i := 2) rfl
theorem qX7_cover_w3 : Cond.classLink RX7 72 "[I" ∈ wsX7_cover := List.mem_of_getElem? (i := 3) rfl
theorem iX7_cover_X7 : ∀ w ∈ wsX70, w ∈ wsX7_cover := fun _ h => (List.mem_cons_of_mem _ (List.mem_append_left _ (List.mem_append_right _ h)))
set_option maxRecDepth 100000 in
set_option maxHeartbeats 4000000 in
theorem kX7_cover (l : Launch) (D : va_G) (cy : Nat → ClassId) (e0 : Nat) {bd w : Nat → Nat → Nat} (g : Md) (S : Int64) (sz : Nat) (x : Int32) (on : Int32) : Met l yX7_cover wsX7_cover ({ frames := 3, cells := 0, slots := 0, locals := 64 } : Room) (va_Pc [.ref (bd 0 0), .int x, .int on] (mPre D cy e0 bd w g S sz)) (mQi D cy bd w (fX7_cover (w 0 0) (w 0 1) (w 0 2) (w 0 3) (w 0 4) g x on).1 (fX7_cover (w 0 0) (w 0 1) (w 0 2) (w 0 3) (w 0 4) g x on).2 S sz) 0 0 (mA bd w sz) := by
  refine q_start (cc := cX7_cover) (maxL := 4) (ret := (some .boolean)) (own := RX7) (by decide) rfl rfl (Nat.le_of_ble_eq_true rfl) ?_
  intro p e s m below meth c hx hb hr hml hts hown hlocks ⟨hsz, hC, hB⟩ ls hl
  subst hsz
  have hS : va_S (mA bd w s.heap.size) s.heap s.heap [] := va_S.rf
  have hG : mG e0 bd w s.heap.size bd w := mG.rf hB.2.2.1
  have hw0 := hC.1
  have hl : lv_has ls 4 [(0, .ref (bd 0 0)), (1, .int x), (2, .int on)] := hl
  refine lv_aload_n hx hb dX7_cover_0 rfl (lv_at hl 0 rfl) ?_
  refine lv_aload_n hx hb dX7_cover_1 rfl (lv_at hl 0 rfl) ?_
  refine lv_iload_n hx hb dX7_cover_2 rfl (lv_at hl 1 rfl) ?_
  refine m_callVi (As := [.int x]) (κ := 0) (i := 0) rfl rfl ⟨_, rfl⟩ rfl ⟨hx, hb, hml, hown, hts⟩ (kX7_isBed l D cy e0 (bd := bd) (w := w) g S _ x ) (cwV 1 hts gX7_cover_X7_isBed rfl rfl rfl (by decide +kernel) ⟨Nat.le_of_ble_eq_true rfl, Nat.le_of_ble_eq_true rfl⟩) hB hG.2 hC hS rfl hl.1 (Nat.le_of_ble_eq_true rfl) dX7_cover_3 ⟨Nat.le_of_ble_eq_true rfl, Nat.le_of_ble_eq_true rfl⟩ (fun H locs hC hS => ?_)
  refine lv_if_eq (tgt := 13) hx hb dX7_cover_6 (by decide) (fun c1 => ?_) (fun c1 => ?_)
  · skip
    refine lv_iconst (v := 1) hx hb dX7_cover_13 (by decide) ?_
    refine pt_m0_0 hx hb hts iX7_cover_X7 hown hB.1 hC hS hG.2.1 qX7_cover_w1 dX7_cover_14 (fun H locs hC hS => ?_)
    refine lv_aload_n hx hb dX7_cover_17 rfl (lv_at hl 0 rfl) ?_
    refine gt_m0_0 hx hb hts iX7_cover_X7 hown hB.1 hC qX7_cover_w1 dX7_cover_18 ?_
    refine q_val (v := 1) (u2_eq _ _ _ _) ?_
    refine lv_if_le (tgt := 26) hx hb dX7_cover_21 (by decide) (fun c => absurd c (by decide)) (fun _ => ?_)
    refine lv_iconst (v := 0) hx hb dX7_cover_24 (by decide) ?_
    have e9 : fX7_cover (w 0 0) (w 0 1) (w 0 2) (w 0 3) (w 0 4) g x on = (0, (u2 g 0 20 1)) := (by unfold fX7_cover; rw [if_pos c1])
    exact m_retz hx hb hr hG hC hS (mEq_of (by rw [e9])) (by rw [e9]) rfl hlocks dX7_cover_25
  · skip
    refine lv_iconst (v := 0) hx hb dX7_cover_9 (by decide) ?_
    refine lv_goto (tgt := 14) hx hb dX7_cover_10 (by decide) ?_
    refine pt_m0_0 hx hb hts iX7_cover_X7 hown hB.1 hC hS hG.2.1 qX7_cover_w1 dX7_cover_14 (fun H locs hC hS => ?_)
    refine lv_aload_n hx hb dX7_cover_17 rfl (lv_at hl 0 rfl) ?_
    refine gt_m0_0 hx hb hts iX7_cover_X7 hown hB.1 hC qX7_cover_w1 dX7_cover_18 ?_
    refine q_val (v := 0) (u2_eq _ _ _ _) ?_
    refine lv_if_le (tgt := 26) hx hb dX7_cover_21 (by decide) (fun _ => ?_) (fun c => absurd c (by decide))
    refine lv_aload_n hx hb dX7_cover_26 rfl (lv_at hl 0 rfl) ?_
    refine gt_m0_4 hx hb hts iX7_cover_X7 hown hB.1 hC qX7_cover_w2 dX7_cover_27 ?_
    refine lv_iload_n hx hb dX7_cover_30 rfl (lv_at hl 1 rfl) ?_
    refine m_callVr (As := [.int x]) (κ := 1) (i := 2) (show 2 < 4 by decide) rfl ⟨_, rfl⟩ rfl ⟨hx, hb, hml, hown, hts⟩ (kJx4a65c_get_915e3 l D cy e0 (bd := bd) (w := w) (u2 g 0 20 0) S _ 2 (show 2 < 4 by decide) x (isBed_in (w := w) hw0 c1)) (cwV 1 hts gX7_cover_Jx4a65c_get_915e3 rfl rfl rfl (by decide +kernel) ⟨Nat.le_of_ble_eq_true rfl, Nat.le_of_ble_eq_true rfl⟩) hB hG.2 hC hS rfl hl.1 (Nat.le_of_ble_eq_true rfl) dX7_cover_31 ⟨Nat.le_of_ble_eq_true rfl, Nat.le_of_ble_eq_true rfl⟩ (fun H locs hC hS => ?_)
    refine m_stk (st' := [.ref (bd 3 (303 + x.toNatClampNeg))]) rfl ?_
    refine m_cast hx hb hown (hts _ qX7_cover_w3) hB.1 hC (rV_303 (vp_lt (isBed_in (w := w) hw0 c1))) dX7_cover_34 ?_
    refine lv_bipush (v := 9) hx hb dX7_cover_37 (by decide) ?_
    refine ld_m hx hb hB.1 hC (rV_303 (vp_lt (isBed_in (w := w) hw0 c1))) (rl_303 hC.1 (vp_lt (isBed_in (w := w) hw0 c1))) (k := 9) (by decide) (by unfold vp_in; decide) dX7_cover_39 ?_
    refine q_val (v := g (303 + x.toNatClampNeg) 9) ((u2_nk (by decide)).trans rfl) ?_
    refine lv_iconst (v := 1) hx hb dX7_cover_40 (by decide) ?_
    refine lv_icmp_ne (tgt := 48) hx hb dX7_cover_41 (by decide) (fun c2 => ?_) (fun c2 => ?_)
    · skip
      refine lv_iconst (v := 0) hx hb dX7_cover_48 (by decide) ?_
      refine lv_istore_n (lv' := [(3, .int 0), (0, .ref (bd 0 0)), (1, .int x), (2, .int on)]) hx hb dX7_cover_49 rfl hl (by decide) rfl (fun ls hl => ?_)
      refine lv_aload_n hx hb dX7_cover_50 rfl (lv_at hl 1 rfl) ?_
      refine gt_m0_4 hx hb hts iX7_cover_X7 hown hB.1 hC qX7_cover_w2 dX7_cover_51 ?_
      refine lv_iload_n hx hb dX7_cover_54 rfl (lv_at hl 2 rfl) ?_
      refine m_callVr (As := [.int x]) (κ := 1) (i := 2) (show 2 < 4 by decide) rfl ⟨_, rfl⟩ rfl ⟨hx, hb, hml, hown, hts⟩ (kJx4a65c_get_915e3 l D cy e0 (bd := bd) (w := w) (u2 g 0 20 0) S _ 2 (show 2 < 4 by decide) x (isBed_in (w := w) hw0 c1)) (cwV 1 hts gX7_cover_Jx4a65c_get_915e3 rfl rfl rfl (by decide +kernel) ⟨Nat.le_of_ble_eq_true rfl, Nat.le_of_ble_eq_true rfl⟩) hB hG.2 hC hS rfl hl.1 (Nat.le_of_ble_eq_true rfl) dX7_cover_55 ⟨Nat.le_of_ble_eq_true rfl, Nat.le_of_ble_eq_true rfl⟩ (fun H locs hC hS => ?_)
      refine m_stk (st' := [.ref (bd 3 (303 + x.toNatClampNeg))]) rfl ?_
      refine m_cast hx hb hown (hts _ qX7_cover_w3) hB.1 hC (rV_303 (vp_lt (isBed_in (w := w) hw0 c1))) dX7_cover_58 ?_
      refine lv_bipush (v := 9) hx hb dX7_cover_61 (by decide) ?_
      refine lv_iload_n hx hb dX7_cover_63 rfl (lv_at hl 3 rfl) ?_
      refine lv_if_eq (tgt := 71) hx hb dX7_cover_64 (by decide) (fun c3 => ?_) (fun c3 => ?_)
      · skip
        refine lv_iconst (v := 0) hx hb dX7_cover_71 (by decide) ?_
        refine st_m hx hb hB.1 hC hS hG.2.1 (rV_303 (vp_lt (isBed_in (w := w) hw0 c1))) (rl_303 hC.1 (vp_lt (isBed_in (w := w) hw0 c1))) (k := 9) (by decide) (by unfold vp_in; decide) dX7_cover_72 (fun H locs hC hS => ?_)
        refine lv_iload_n hx hb dX7_cover_73 rfl (lv_at hl 0 rfl) ?_
        have e9 : fX7_cover (w 0 0) (w 0 1) (w 0 2) (w 0 3) (w 0 4) g x on = (0, (u2 (u2 g 0 20 0) (303 + x.toNatClampNeg) 9 0)) := (by unfold fX7_cover; rw [if_neg c1, if_neg c2, if_pos c3])
        exact m_retz hx hb hr hG hC hS (mEq_of (by rw [e9])) (by rw [e9]) rfl hlocks dX7_cover_74
      · skip
        refine lv_iconst (v := 1) hx hb dX7_cover_67 (by decide) ?_
        refine lv_goto (tgt := 72) hx hb dX7_cover_68 (by decide) ?_
        refine st_m hx hb hB.1 hC hS hG.2.1 (rV_303 (vp_lt (isBed_in (w := w) hw0 c1))) (rl_303 hC.1 (vp_lt (isBed_in (w := w) hw0 c1))) (k := 9) (by decide) (by unfold vp_in; decide) dX7_cover_72 (fun H locs hC hS => ?_)
        refine lv_iload_n hx hb dX7_cover_73 rfl (lv_at hl 0 rfl) ?_
        have e9 : fX7_cover (w 0 0) (w 0 1) (w 0 2) (w 0 3) (w 0 4) g x on = (0, (u2 (u2 g 0 20 0) (303 + x.toNatClampNeg) 9 1)) := (by unfold fX7_cover; rw [if_neg c1, if_neg c2, if_neg c3])
        exact m_retz hx hb hr hG hC hS (mEq_of (by rw [e9])) (by rw [e9]) rfl hlocks dX7_cover_74
    · skip
      refine lv_iconst (v := 1) hx hb dX7_cover_44 (by decide) ?_
      refine lv_goto (tgt := 49) hx hb dX7_cover_45 (by decide) ?_
      refine lv_istore_n (lv' := [(3, .int 1), (0, .ref (bd 0 0)), (1, .int x), (2, .int on)]) hx hb dX7_cover_49 rfl hl (by decide) rfl (fun ls hl => ?_)
      refine lv_aload_n hx hb dX7_cover_50 rfl (lv_at hl 1 rfl) ?_
      refine gt_m0_4 hx hb hts iX7_cover_X7 hown hB.1 hC qX7_cover_w2 dX7_cover_51 ?_
      refine lv_iload_n hx hb dX7_cover_54 rfl (lv_at hl 2 rfl) ?_
      refine m_callVr (As := [.int x]) (κ := 1) (i := 2) (show 2 < 4 by decide) rfl ⟨_, rfl⟩ rfl ⟨hx, hb, hml, hown, hts⟩ (kJx4a65c_get_915e3 l D cy e0 (bd := bd) (w := w) (u2 g 0 20 0) S _ 2 (show 2 < 4 by decide) x (isBed_in (w := w) hw0 c1)) (cwV 1 hts gX7_cover_Jx4a65c_get_915e3 rfl rfl rfl (by decide +kernel) ⟨Nat.le_of_ble_eq_true rfl, Nat.le_of_ble_eq_true rfl⟩) hB hG.2 hC hS rfl hl.1 (Nat.le_of_ble_eq_true rfl) dX7_cover_55 ⟨Nat.le_of_ble_eq_true rfl, Nat.le_of_ble_eq_true rfl⟩ (fun H locs hC hS => ?_)
      refine m_stk (st' := [.ref (bd 3 (303 + x.toNatClampNeg))]) rfl ?_
      refine m_cast hx hb hown (hts _ qX7_cover_w3) hB.1 hC (rV_303 (vp_lt (isBed_in (w := w) hw0 c1))) dX7_cover_58 ?_
      refine lv_bipush (v := 9) hx hb dX7_cover_61 (by decide) ?_
      refine lv_iload_n hx hb dX7_cover_63 rfl (lv_at hl 3 rfl) ?_
      refine lv_if_eq (tgt := 71) hx hb dX7_cover_64 (by decide) (fun c4 => ?_) (fun c4 => ?_)
      · skip
        refine lv_iconst (v := 0) hx hb dX7_cover_71 (by decide) ?_
        refine st_m hx hb hB.1 hC hS hG.2.1 (rV_303 (vp_lt (isBed_in (w := w) hw0 c1))) (rl_303 hC.1 (vp_lt (isBed_in (w := w) hw0 c1))) (k := 9) (by decide) (by unfold vp_in; decide) dX7_cover_72 (fun H locs hC hS => ?_)
        refine lv_iload_n hx hb dX7_cover_73 rfl (lv_at hl 0 rfl) ?_
        have e9 : fX7_cover (w 0 0) (w 0 1) (w 0 2) (w 0 3) (w 0 4) g x on = (1, (u2 (u2 g 0 20 0) (303 + x.toNatClampNeg) 9 0)) := (by unfold fX7_cover; rw [if_neg c1, if_pos c2, if_pos c4])
        exact m_retz hx hb hr hG hC hS (mEq_of (by rw [e9])) (by rw [e9]) rfl hlocks dX7_cover_74
      · skip
        refine lv_iconst (v := 1) hx hb dX7_cover_67 (by decide) ?_
        refine lv_goto (tgt := 72) hx hb dX7_cover_68 (by decide) ?_
        refine st_m hx hb hB.1 hC hS hG.2.1 (rV_303 (vp_lt (isBed_in (w := w) hw0 c1))) (rl_303 hC.1 (vp_lt (isBed_in (w := w) hw0 c1))) (k := 9) (by decide) (by unfold vp_in; decide) dX7_cover_72 (fun H locs hC hS => ?_)
        refine lv_iload_n hx hb dX7_cover_73 rfl (lv_at hl 0 rfl) ?_
        have e9 : fX7_cover (w 0 0) (w 0 1) (w 0 2) (w 0 3) (w 0 4) g x on = (1, (u2 (u2 g 0 20 0) (303 + x.toNatClampNeg) 9 1)) := (by unfold fX7_cover; rw [if_neg c1, if_pos c2, if_neg c4])
        exact m_retz hx hb hr hG hC hS (mEq_of (by rw [e9])) (by rw [e9]) rfl hlocks dX7_cover_74
