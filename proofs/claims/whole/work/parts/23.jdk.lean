/-! ===== rows' places; the lists' methods that only read ===== -/
theorem rV_100 {w : Nat → Nat → Nat} {k : Nat} (h : k < w 0 0) : rV w (100 + k) := by unfold rV; omega
theorem rV_200 {w : Nat → Nat → Nat} {k : Nat} (h : k < w 0 1) : rV w (200 + k) := by unfold rV; omega
theorem rV_300 {w : Nat → Nat → Nat} {k : Nat} (h : k < 3) : rV w (300 + k) := by unfold rV; omega
theorem rV_303 {w : Nat → Nat → Nat} {k : Nat} (h : k < w 0 2) : rV w (303 + k) := by unfold rV; omega
theorem rV_308 {w : Nat → Nat → Nat} {k : Nat} (h : k < w 0 3) : rV w (308 + k) := by unfold rV; omega
theorem rV_340 {w : Nat → Nat → Nat} {k : Nat} (h : k < 12) : rV w (340 + k) := by unfold rV; omega
theorem rV_360 {w : Nat → Nat → Nat} : rV w 360 := by unfold rV; omega
theorem rl_100 {w : Nat → Nat → Nat} {k : Nat} (hw : wB w) (h : k < w 0 0) : rl w (100 + k) = 4 := by unfold wB at hw; unfold rl; rw [if_pos (by omega)]
theorem rl_200 {w : Nat → Nat → Nat} {k : Nat} (hw : wB w) (h : k < w 0 1) : rl w (200 + k) = 6 := by unfold wB at hw; unfold rl; rw [if_neg (by omega), if_pos (by omega)]
theorem rl_300 {w : Nat → Nat → Nat} {k : Nat} (h : k < 3) : rl w (300 + k) = 23 := by unfold rl; rw [if_neg (by omega), if_neg (by omega), if_pos (by omega)]
theorem rl_303 {w : Nat → Nat → Nat} {k : Nat} (hw : wB w) (h : k < w 0 2) : rl w (303 + k) = 23 := by unfold wB at hw; unfold rl; rw [if_neg (by omega), if_neg (by omega), if_pos (by omega)]
theorem rl_308 {w : Nat → Nat → Nat} {k : Nat} (hw : wB w) (h : k < w 0 3) : rl w (308 + k) = 23 := by unfold wB at hw; unfold rl; rw [if_neg (by omega), if_neg (by omega), if_pos (by omega)]
theorem rl_340 {w : Nat → Nat → Nat} {k : Nat} (h : k < 12) : rl w (340 + k) = 3 := by unfold rl; rw [if_neg (by omega), if_neg (by omega), if_neg (by omega), if_pos (by omega)]
theorem rl_360 {w : Nat → Nat → Nat} : rl w 360 = 3 := rfl
theorem rV_ne0 {w : Nat → Nat → Nat} {r : Nat} (h : rV w r) : r ≠ 0 := by unfold rV at h; omega
theorem rV_neT {w : Nat → Nat → Nat} {r : Nat} (hw : wB w) (h : rV w r) : r ≠ 400 + w 0 4 := by unfold rV at h; unfold wB at hw; omega
theorem w0_20 {w : Nat → Nat → Nat} {l : Nat} (hw : wB w) (h : l < 4) : w 0 l ≤ 20 := by
  unfold wB at hw
  match l, h with
  | 0, _ => omega
  | 1, _ => omega
  | 2, _ => omega
  | 3, _ => omega
theorem mI_in {x : Int32} {n : Nat} (h : vp_in x n) (hn : n ≤ 1000) : ¬ x < 0 ∧ x < nI n := by
  unfold vp_in at h
  have h0 : ¬ x < 0 := fun q => h (Or.inl q)
  have h1 : x.toNatClampNeg < n := Nat.not_le.mp fun q => h (Or.inr q)
  refine ⟨h0, ?_⟩
  have e : (nI n).toInt = n := nI_toInt (by omega)
  rw [Int32.lt_iff_toInt_lt, e]
  rw [Int32.lt_iff_toInt_lt] at h0
  have : x.toNatClampNeg = x.toInt.toNat := rfl
  have z : (0 : Int32).toInt = 0 := rfl
  rw [z] at h0
  omega
section GL
variable {p : Program} {l : Launch} {e : Env} {R : Room} {s : State} {m : MethodId} {args : Array Value} {below : List Frame} {meth : Method} {c : Code} {H : Heap} {locs : List Loc} {cells slots : Nat} {Q : State → Prop}
variable {cc : ByteArray} {pc : Nat} {ls : Array Slot} {rest : List Value} {D : va_G} {cy : Nat → ClassId} {e0 : Nat} {bd w bd1 w1 : Nat → Nat → Nat} {mm m2 : Md} {S S2 : Int64}
variable {Ts ws ws' : List Cond} {bytes : ByteArray} {nL maxL index n mc ms : Nat} {own : String} {y : MethodName} {ret : Option FieldType} {rm : Room}

theorem nk_clamp {k n : Nat} (h : k < n) (hn : n ≤ 1000) : (nI k).toNatClampNeg = k := nI_clamp (by omega)
theorem nk_in {k n : Nat} (h : k < n) (hn : n ≤ 1000) : vp_in (nI k) n := by
  intro q
  rcases q with q | q
  · rw [Int32.lt_iff_toInt_lt, nI_toInt (by omega)] at q
    have z : (0 : Int32).toInt = 0 := rfl
    omega
  · rw [nk_clamp h hn] at q; omega
theorem la_m2 {i k : Nat} (hx : p.tables.exec = Jvm.exec) (hb : c.code = cc) (hK : va_K D vwCl (qtys cy) s) (hM : MW D cy bd w mm S H) (hi : i < 4) {x : Int32} (hk : x.toNatClampNeg = k) (hj : vp_in x (w 0 i)) (hdg : decode cc pc = .ok (.aaload, 1)) (kk : W p l e R s m args below meth c H locs cells slots Q (F0 m (pc + 1) ls (.ref (bd 3 (rb i + k)) :: rest))) : W p l e R s m args below meth c H locs cells slots Q (F0 m pc ls (.int x :: .ref (bd 2 i) :: rest)) := by
  subst hk
  have h0 : ¬ x < 0 := fun q => hj (Or.inl q)
  have h1 : x.toNatClampNeg < w 0 i := Nat.not_le.mp fun q => hj (Or.inr q)
  have hc := hM.2.2.1.1 i hi (by omega)
  exact q_aaldA hx hb hK 7 (f := fun k => if k < w 0 i then some (bd 3 (rb i + k)) else none) (hM.2.2.2 2 i ⟨hi, by omega⟩) rfl rfl (fun q => q.elim h0 (fun q => by omega)) (if_pos h1) hdg kk
theorem ln_m2 {i : Nat} (hx : p.tables.exec = Jvm.exec) (hb : c.code = cc) (hK : va_K D vwCl (qtys cy) s) (hM : MW D cy bd w mm S H) (hi : i < 4) (h0 : 0 < w 0 i) (hdg : decode cc pc = .ok (.arraylength, 1)) (kk : W p l e R s m args below meth c H locs cells slots Q (F0 m (pc + 1) ls (.int (nI (w 1 i)) :: rest))) : W p l e R s m args below meth c H locs cells slots Q (F0 m pc ls (.ref (bd 2 i) :: rest)) :=
  q_alen hx hb hK 7 (x := (w 1 i, q_opt (fun k => if k < w 0 i then some (bd 3 (rb i + k)) else none))) (hM.2.2.2 2 i ⟨hi, h0⟩) rfl _ rfl hdg kk
theorem gt_m1_2N {i : Nat} (hx : p.tables.exec = Jvm.exec) (hb : c.code = cc) {Ts : List Cond} (hts : ∀ w ∈ Ts, w.before args s = true) (hin : ∀ w ∈ wsJx4a65c0, w ∈ Ts) (hown : s.vm.findClass "java/util/ArrayList$Itr" = some m.cls) (hB : MB D cy e0 bd1 w1 s) (hM : MW D cy bd w mm S H) (hi : i < 4) (hdg : decode cc pc = .ok (.getfield 28, 3)) (kk : W p l e R s m args below meth c H locs cells slots Q (F0 m (pc + 3) ls (.int (nI (w 0 i)) :: rest))) : W p l e R s m args below meth c H locs cells slots Q (F0 m pc ls (.ref (bd 1 i) :: rest)) :=
  va_getN (own := "java/util/ArrayList$Itr") (ref := "java/util/ArrayList") (host := "java/util/ArrayList") hx hb hts hin hown hB.1 (q_one (hM.2.2.2 1 i hi)) 0 rfl rfl 2 (by decide) (qB_use hB.2.1 (List.mem_of_getElem? (i := 10) rfl) rfl) (fun x h => h) rfl hdg kk
end GL
def fJ3_checkIndex_8e157 (x : Int32) (n : Int32) : Int32 := x
set_option maxRecDepth 100000 in
set_option maxHeartbeats 4000000 in
theorem kJ3_checkIndex_8e157 (l : Launch) (D : va_G) (cy : Nat → ClassId) (e0 : Nat) {bd w : Nat → Nat → Nat} (g : Md) (S : Int64) (sz : Nat) (x : Int32) (n : Int32) (h1 : ¬ x < 0) (h2 : x < n) : Met l yJ3_checkIndex_8e157 wsJ3_checkIndex_8e157 ({ frames := 0, cells := 0, slots := 0, locals := 0 } : Room) (va_Pc [.int x, .int n, .null] (mPre D cy e0 bd w g S sz)) (mQi D cy bd w (fJ3_checkIndex_8e157 x n) g S sz) 0 0 (mA bd w sz) := by
  refine q_start (cc := cJ3_checkIndex_8e157) (maxL := 3) (ret := (some .int)) (own := RJ3) (by decide) rfl rfl (Nat.le_of_ble_eq_true rfl) ?_
  intro p e s m below meth c hx hb hr hml hts hown hlocks ⟨hsz, hC, hB⟩ ls hl
  subst hsz
  have hS : va_S (mA bd w s.heap.size) s.heap s.heap [] := va_S.rf
  have hG : mG e0 bd w s.heap.size bd w := mG.rf hB.2.2.1
  have hw0 := hC.1
  have hl : lv_has ls 3 [(0, .int x), (1, .int n), (2, .null)] := hl
  refine lv_iload_n hx hb dJ3_checkIndex_8e157_0 rfl (lv_at hl 0 rfl) ?_
  refine lv_if_lt (tgt := 9) hx hb dJ3_checkIndex_8e157_1 (by decide) (fun c => absurd c h1) (fun _ => ?_)
  refine lv_iload_n hx hb dJ3_checkIndex_8e157_4 rfl (lv_at hl 0 rfl) ?_
  refine lv_iload_n hx hb dJ3_checkIndex_8e157_5 rfl (lv_at hl 1 rfl) ?_
  refine lv_icmp_lt (tgt := 16) hx hb dJ3_checkIndex_8e157_6 (by decide) (fun _ => ?_) (fun c => absurd h2 c)
  refine lv_iload_n hx hb dJ3_checkIndex_8e157_16 rfl (lv_at hl 0 rfl) ?_
  exact m_reti hx hb hr hG hC hS mEq_rf rfl hlocks dJ3_checkIndex_8e157_17
def fJ15_checkIndex_7cf53 (x : Int32) (n : Int32) : Int32 := fJ3_checkIndex_8e157 x n
set_option maxRecDepth 100000 in
set_option maxHeartbeats 4000000 in
theorem kJ15_checkIndex_7cf53 (l : Launch) (D : va_G) (cy : Nat → ClassId) (e0 : Nat) {bd w : Nat → Nat → Nat} (g : Md) (S : Int64) (sz : Nat) (x : Int32) (n : Int32) (h1 : ¬ x < 0) (h2 : x < n) : Met l yJ15_checkIndex_7cf53 wsJ15_checkIndex_7cf53 ({ frames := 1, cells := 0, slots := 0, locals := 22 } : Room) (va_Pc [.int x, .int n] (mPre D cy e0 bd w g S sz)) (mQi D cy bd w (fJ15_checkIndex_7cf53 x n) g S sz) 0 0 (mA bd w sz) := by
  refine q_start (cc := cJ15_checkIndex_7cf53) (maxL := 2) (ret := (some .int)) (own := RJ15) (by decide) rfl rfl (Nat.le_of_ble_eq_true rfl) ?_
  intro p e s m below meth c hx hb hr hml hts hown hlocks ⟨hsz, hC, hB⟩ ls hl
  subst hsz
  have hS : va_S (mA bd w s.heap.size) s.heap s.heap [] := va_S.rf
  have hG : mG e0 bd w s.heap.size bd w := mG.rf hB.2.2.1
  have hw0 := hC.1
  have hl : lv_has ls 2 [(0, .int x), (1, .int n)] := hl
  refine lv_iload_n hx hb dJ15_checkIndex_7cf53_0 rfl (lv_at hl 0 rfl) ?_
  refine lv_iload_n hx hb dJ15_checkIndex_7cf53_1 rfl (lv_at hl 1 rfl) ?_
  refine lv_null hx hb dJ15_checkIndex_7cf53_2 ?_
  refine m_callSi (As := [.int x, .int n, .null])  ⟨hx, hb, hml, hown, hts⟩ (kJ3_checkIndex_8e157 l D cy e0 (bd := bd) (w := w) g S _ x n h1 h2) (va_cwS 3 hts gJ15_checkIndex_7cf53_J3_checkIndex_8e157 rfl rfl rfl (by decide +kernel) ⟨Nat.le_of_ble_eq_true rfl, Nat.le_of_ble_eq_true rfl⟩) hB hG.2 hC hS rfl hl.1 (Nat.le_of_ble_eq_true rfl) dJ15_checkIndex_7cf53_3 ⟨Nat.le_of_ble_eq_true rfl, Nat.le_of_ble_eq_true rfl⟩ (fun H locs hC hS => ?_)
  exact m_reti hx hb hr hG hC hS mEq_rf rfl hlocks dJ15_checkIndex_7cf53_6
theorem qJx4a65c_size_8abf5_w1 : Cond.fieldLink RJx4a65c 48 "java/util/ArrayList" "size" "I" ∈ wsJx4a65c_size_8abf5 := List.mem_of_getElem? (i := 1) rfl
theorem iJx4a65c_size_8abf5_Jx4a65c : ∀ w ∈ wsJx4a65c0, w ∈ wsJx4a65c_size_8abf5 := fun _ h => (List.mem_cons_of_mem _ (List.mem_append_right _ h))
set_option maxRecDepth 100000 in
set_option maxHeartbeats 4000000 in
theorem kJx4a65c_size_8abf5 (l : Launch) (D : va_G) (cy : Nat → ClassId) (e0 : Nat) {bd w : Nat → Nat → Nat} (g : Md) (S : Int64) (sz : Nat) (i : Nat) (hl4 : i < 4) : Met l yJx4a65c_size_8abf5 wsJx4a65c_size_8abf5 ({ frames := 0, cells := 0, slots := 0, locals := 0 } : Room) (va_Pc [.ref (bd 1 i)] (mPre D cy e0 bd w g S sz)) (mQi D cy bd w ((nI (w 0 i))) g S sz) 0 0 (mA bd w sz) := by
  refine q_start (cc := cJx4a65c_size_8abf5) (maxL := 1) (ret := (some .int)) (own := RJx4a65c) (by decide) rfl rfl (Nat.le_of_ble_eq_true rfl) ?_
  intro p e s m below meth c hx hb hr hml hts hown hlocks ⟨hsz, hC, hB⟩ ls hl
  subst hsz
  have hS : va_S (mA bd w s.heap.size) s.heap s.heap [] := va_S.rf
  have hG : mG e0 bd w s.heap.size bd w := mG.rf hB.2.2.1
  have hw0 := hC.1
  have hl : lv_has ls 1 [(0, .ref (bd 1 i))] := hl
  refine lv_aload_n hx hb dJx4a65c_size_8abf5_0 rfl (lv_at hl 0 rfl) ?_
  refine gt_m1_2 hx hb hts iJx4a65c_size_8abf5_Jx4a65c hown hB.1 hC hl4 qJx4a65c_size_8abf5_w1 dJx4a65c_size_8abf5_1 ?_
  exact m_reti hx hb hr hG hC hS mEq_rf rfl hlocks dJx4a65c_size_8abf5_4
theorem qJx4a65c_elementData_915e3_w1 : Cond.fieldLink RJx4a65c 9 "java/util/ArrayList" "elementData" "[Ljava/lang/Object;" ∈ wsJx4a65c_elementData_915e3 := List.mem_of_getElem? (i := 1) rfl
theorem iJx4a65c_elementData_915e3_Jx4a65c : ∀ w ∈ wsJx4a65c0, w ∈ wsJx4a65c_elementData_915e3 := fun _ h => (List.mem_cons_of_mem _ (List.mem_append_right _ h))
set_option maxRecDepth 100000 in
set_option maxHeartbeats 4000000 in
theorem kJx4a65c_elementData_915e3 (l : Launch) (D : va_G) (cy : Nat → ClassId) (e0 : Nat) {bd w : Nat → Nat → Nat} (g : Md) (S : Int64) (sz : Nat) (i : Nat) (hl4 : i < 4) (x : Int32) (hj : vp_in x (w 0 i)) : Met l yJx4a65c_elementData_915e3 wsJx4a65c_elementData_915e3 ({ frames := 0, cells := 0, slots := 0, locals := 0 } : Room) (va_Pc [.ref (bd 1 i), .int x] (mPre D cy e0 bd w g S sz)) (mQr D cy bd w ((bd 3 (rb i + x.toNatClampNeg))) g S sz) 0 0 (mA bd w sz) := by
  refine q_start (cc := cJx4a65c_elementData_915e3) (maxL := 2) (ret := (some (.object "java/lang/Object"))) (own := RJx4a65c) (by decide) rfl rfl (Nat.le_of_ble_eq_true rfl) ?_
  intro p e s m below meth c hx hb hr hml hts hown hlocks ⟨hsz, hC, hB⟩ ls hl
  subst hsz
  have hS : va_S (mA bd w s.heap.size) s.heap s.heap [] := va_S.rf
  have hG : mG e0 bd w s.heap.size bd w := mG.rf hB.2.2.1
  have hw0 := hC.1
  have hl : lv_has ls 2 [(0, .ref (bd 1 i)), (1, .int x)] := hl
  refine lv_aload_n hx hb dJx4a65c_elementData_915e3_0 rfl (lv_at hl 0 rfl) ?_
  refine gt_m1_1 hx hb hts iJx4a65c_elementData_915e3_Jx4a65c hown hB.1 hC hl4 qJx4a65c_elementData_915e3_w1 dJx4a65c_elementData_915e3_1 ?_
  refine lv_iload_n hx hb dJx4a65c_elementData_915e3_4 rfl (lv_at hl 1 rfl) ?_
  refine la_m2 hx hb hB.1 hC hl4 (k := x.toNatClampNeg) rfl hj dJx4a65c_elementData_915e3_5 ?_
  exact m_reta hx hb hG hC hS mEq_rf rfl hr (Or.inl ⟨_, rfl⟩) hlocks dJx4a65c_elementData_915e3_6
theorem qJx4a65c_get_915e3_w1 : Cond.fieldLink RJx4a65c 48 "java/util/ArrayList" "size" "I" ∈ wsJx4a65c_get_915e3 := List.mem_of_getElem? (i := 1) rfl
theorem iJx4a65c_get_915e3_Jx4a65c : ∀ w ∈ wsJx4a65c0, w ∈ wsJx4a65c_get_915e3 := fun _ h => (List.mem_cons_of_mem _ (List.mem_append_right _ h))
set_option maxRecDepth 100000 in
set_option maxHeartbeats 4000000 in
theorem kJx4a65c_get_915e3 (l : Launch) (D : va_G) (cy : Nat → ClassId) (e0 : Nat) {bd w : Nat → Nat → Nat} (g : Md) (S : Int64) (sz : Nat) (i : Nat) (hl4 : i < 4) (x : Int32) (hj : vp_in x (w 0 i)) : Met l yJx4a65c_get_915e3 wsJx4a65c_get_915e3 ({ frames := 2, cells := 0, slots := 0, locals := 43 } : Room) (va_Pc [.ref (bd 1 i), .int x] (mPre D cy e0 bd w g S sz)) (mQr D cy bd w ((bd 3 (rb i + x.toNatClampNeg))) g S sz) 0 0 (mA bd w sz) := by
  refine q_start (cc := cJx4a65c_get_915e3) (maxL := 2) (ret := (some (.object "java/lang/Object"))) (own := RJx4a65c) (by decide) rfl rfl (Nat.le_of_ble_eq_true rfl) ?_
  intro p e s m below meth c hx hb hr hml hts hown hlocks ⟨hsz, hC, hB⟩ ls hl
  subst hsz
  have hS : va_S (mA bd w s.heap.size) s.heap s.heap [] := va_S.rf
  have hG : mG e0 bd w s.heap.size bd w := mG.rf hB.2.2.1
  have hw0 := hC.1
  have hl : lv_has ls 2 [(0, .ref (bd 1 i)), (1, .int x)] := hl
  refine lv_iload_n hx hb dJx4a65c_get_915e3_0 rfl (lv_at hl 1 rfl) ?_
  refine lv_aload_n hx hb dJx4a65c_get_915e3_1 rfl (lv_at hl 0 rfl) ?_
  refine gt_m1_2 hx hb hts iJx4a65c_get_915e3_Jx4a65c hown hB.1 hC hl4 qJx4a65c_get_915e3_w1 dJx4a65c_get_915e3_2 ?_
  refine m_callSi (As := [.int x, .int (nI (w 0 i))])  ⟨hx, hb, hml, hown, hts⟩ (kJ15_checkIndex_7cf53 l D cy e0 (bd := bd) (w := w) g S _ x (nI (w 0 i)) (mI_in hj (Nat.le_trans (w0_20 hC.1 hl4) (by decide))).1 (mI_in hj (Nat.le_trans (w0_20 hC.1 hl4) (by decide))).2) (va_cwS 2 hts gJx4a65c_get_915e3_J15_checkIndex_7cf53 rfl rfl rfl (by decide +kernel) ⟨Nat.le_of_ble_eq_true rfl, Nat.le_of_ble_eq_true rfl⟩) hB hG.2 hC hS rfl hl.1 (Nat.le_of_ble_eq_true rfl) dJx4a65c_get_915e3_5 ⟨Nat.le_of_ble_eq_true rfl, Nat.le_of_ble_eq_true rfl⟩ (fun H locs hC hS => ?_)
  refine lv_pop hx hb dJx4a65c_get_915e3_8 rfl ?_
  refine lv_aload_n hx hb dJx4a65c_get_915e3_9 rfl (lv_at hl 0 rfl) ?_
  refine lv_iload_n hx hb dJx4a65c_get_915e3_10 rfl (lv_at hl 1 rfl) ?_
  refine m_callVr (As := [.int x]) (κ := 1) (i := i) hl4 rfl ⟨_, rfl⟩ rfl ⟨hx, hb, hml, hown, hts⟩ (kJx4a65c_elementData_915e3 l D cy e0 (bd := bd) (w := w) g S _ i hl4 x hj) (cwV 1 hts gJx4a65c_get_915e3_Jx4a65c_elementData_915e3 rfl rfl rfl (by decide +kernel) ⟨Nat.le_of_ble_eq_true rfl, Nat.le_of_ble_eq_true rfl⟩) hB hG.2 hC hS rfl hl.1 (Nat.le_of_ble_eq_true rfl) dJx4a65c_get_915e3_11 ⟨Nat.le_of_ble_eq_true rfl, Nat.le_of_ble_eq_true rfl⟩ (fun H locs hC hS => ?_)
  exact m_reta hx hb hG hC hS mEq_rf rfl hr (Or.inl ⟨_, rfl⟩) hlocks dJx4a65c_get_915e3_14
def fJx35411_checkForComodification_da8c8 (na nb nc nd T : Nat) (g : Md) (t : Nat) : Md := g
theorem qJx35411_checkForComodification_da8c8_w1 : Cond.fieldLink RJx35411 1 "java/util/ArrayList$Itr" "this$0" "Ljava/util/ArrayList;" ∈ wsJx35411_checkForComodification_da8c8 := List.mem_of_getElem? (i := 1) rfl
theorem qJx35411_checkForComodification_da8c8_w2 : Cond.fieldLink RJx35411 17 "java/util/ArrayList" "modCount" "I" ∈ wsJx35411_checkForComodification_da8c8 := List.mem_of_getElem? (i := 2) rfl
theorem qJx35411_checkForComodification_da8c8_w3 : Cond.sameField "java/util/ArrayList" "java/util/AbstractList" "modCount" "I" ∈ wsJx35411_checkForComodification_da8c8 := List.mem_of_getElem? (i := 3) rfl
theorem qJx35411_checkForComodification_da8c8_w4 : Cond.fieldLink RJx35411 22 "java/util/ArrayList$Itr" "expectedModCount" "I" ∈ wsJx35411_checkForComodification_da8c8 := List.mem_of_getElem? (i := 4) rfl
theorem iJx35411_checkForComodification_da8c8_Jx35411 : ∀ w ∈ wsJx354110, w ∈ wsJx35411_checkForComodification_da8c8 := fun _ h => (List.mem_cons_of_mem _ (List.mem_append_left _ (List.mem_append_right _ h)))
theorem iJx35411_checkForComodification_da8c8_Jx4a65c : ∀ w ∈ wsJx4a65c0, w ∈ wsJx35411_checkForComodification_da8c8 := fun _ h => (List.mem_cons_of_mem _ (List.mem_append_right _ h))
set_option maxRecDepth 100000 in
set_option maxHeartbeats 4000000 in
theorem kJx35411_checkForComodification_da8c8 (l : Launch) (D : va_G) (cy : Nat → ClassId) (e0 : Nat) {bd w : Nat → Nat → Nat} (g : Md) (S : Int64) (sz : Nat) (t : Nat) (ht5 : t < w 0 5) (hcm : w 5 t = w 6 (w 3 t)) : Met l yJx35411_checkForComodification_da8c8 wsJx35411_checkForComodification_da8c8 ({ frames := 0, cells := 0, slots := 0, locals := 0 } : Room) (va_Pc [.ref (bd 6 t)] (mPre D cy e0 bd w g S sz)) (mQv D cy bd w (fJx35411_checkForComodification_da8c8 (w 0 0) (w 0 1) (w 0 2) (w 0 3) (w 0 4) g t) S sz) 0 0 (mA bd w sz) := by
  refine q_start (cc := cJx35411_checkForComodification_da8c8) (maxL := 1) (ret := none) (own := RJx35411) (by decide) rfl rfl (Nat.le_of_ble_eq_true rfl) ?_
  intro p e s m below meth c hx hb hr hml hts hown hlocks ⟨hsz, hC, hB⟩ ls hl
  subst hsz
  have hS : va_S (mA bd w s.heap.size) s.heap s.heap [] := va_S.rf
  have hG : mG e0 bd w s.heap.size bd w := mG.rf hB.2.2.1
  have hw0 := hC.1
  have hl : lv_has ls 1 [(0, .ref (bd 6 t))] := hl
  refine lv_aload_n hx hb dJx35411_checkForComodification_da8c8_0 rfl (lv_at hl 0 rfl) ?_
  refine gt_m6_3 hx hb hts iJx35411_checkForComodification_da8c8_Jx35411 hown hB.1 hC ht5 qJx35411_checkForComodification_da8c8_w1 dJx35411_checkForComodification_da8c8_1 ?_
  refine gt_m1_0 hx hb hts iJx35411_checkForComodification_da8c8_Jx4a65c hown hB.1 hC (hC.2.2.1.2.2 _ ht5) qJx35411_checkForComodification_da8c8_w2 qJx35411_checkForComodification_da8c8_w3 dJx35411_checkForComodification_da8c8_4 ?_
  refine lv_aload_n hx hb dJx35411_checkForComodification_da8c8_7 rfl (lv_at hl 0 rfl) ?_
  refine gt_m6_2 hx hb hts iJx35411_checkForComodification_da8c8_Jx35411 hown hB.1 hC ht5 qJx35411_checkForComodification_da8c8_w4 dJx35411_checkForComodification_da8c8_8 ?_
  refine lv_icmp_eq (tgt := 22) hx hb dJx35411_checkForComodification_da8c8_11 (by decide) (fun _ => ?_) (fun c => absurd (by rw [hcm]) c)
  exact m_retv hx hb hr hG hC hS (mEq_of rfl) hlocks dJx35411_checkForComodification_da8c8_22
