/-! ===== the reference's methods, without the lists' loops ===== -/
theorem ix_add {x : Int32} {c : Nat} (h : vp_in x 6) (hc : c ≤ 17) : (nI c + x).toNatClampNeg = c + x.toNatClampNeg ∧ vp_in (nI c + x) (c + 6) := by
  unfold vp_in at h
  have h0 : ¬ x < 0 := fun q => h (Or.inl q)
  have h1 : x.toNatClampNeg < 6 := Nat.not_le.mp fun q => h (Or.inr q)
  have e0 : (nI c).toInt = c := nI_toInt (by omega)
  rw [Int32.lt_iff_toInt_lt] at h0
  have z : (0 : Int32).toInt = 0 := rfl
  rw [z] at h0
  have hx : x.toNatClampNeg = x.toInt.toNat := rfl
  have e : (nI c + x).toInt = c + x.toInt := by
    rw [Int32.toInt_add, e0]
    rw [Int.bmod_def]
    have : ((2 ^ 32 : Nat) : Int) = 4294967296 := rfl
    omega
  have hs : (nI c + x).toNatClampNeg = (nI c + x).toInt.toNat := rfl
  refine ⟨by rw [hs, hx, e]; omega, fun q => q.elim (fun q => ?_) (fun q => ?_)⟩
  · rw [Int32.lt_iff_toInt_lt, e, z] at q; omega
  · rw [hs, e] at q; omega
theorem ixk {c k N : Nat} (h : c + k < N) (hN : N ≤ 1000) : (nI c + nI k).toNatClampNeg = c + k ∧ vp_in (nI c + nI k) N := by
  have e0 : (nI c).toInt = c := nI_toInt (by omega)
  have e1 : (nI k).toInt = k := nI_toInt (by omega)
  have e : (nI c + nI k).toInt = c + k := by
    rw [Int32.toInt_add, e0, e1, Int.bmod_def]
    have : ((2 ^ 32 : Nat) : Int) = 4294967296 := rfl
    omega
  have hs : (nI c + nI k).toNatClampNeg = (nI c + nI k).toInt.toNat := rfl
  have z : (0 : Int32).toInt = 0 := rfl
  refine ⟨by rw [hs, e]; omega, fun q => q.elim (fun q => ?_) (fun q => ?_)⟩
  · rw [Int32.lt_iff_toInt_lt, e, z] at q; omega
  · rw [hs, e] at q; omega
def fX7_thrown (na nb nc nd T : Nat) (g : Md) : Int32 := g 0 20
theorem qX7_thrown_w1 : Cond.fieldLink RX7 41 "CherryStationModel" "thrown" "I" ∈ wsX7_thrown := List.mem_of_getElem? (i := 1) rfl
theorem iX7_thrown_X7 : ∀ w ∈ wsX70, w ∈ wsX7_thrown := fun _ h => (List.mem_cons_of_mem _ (List.mem_append_right _ h))
set_option maxRecDepth 100000 in
set_option maxHeartbeats 4000000 in
theorem kX7_thrown (l : Launch) (D : va_G) (cy : Nat → ClassId) (e0 : Nat) {bd w : Nat → Nat → Nat} (g : Md) (S : Int64) (sz : Nat)  : Met l yX7_thrown wsX7_thrown ({ frames := 0, cells := 0, slots := 0, locals := 0 } : Room) (va_Pc [.ref (bd 0 0)] (mPre D cy e0 bd w g S sz)) (mQi D cy bd w (fX7_thrown (w 0 0) (w 0 1) (w 0 2) (w 0 3) (w 0 4) g) g S sz) 0 0 (mA bd w sz) := by
  refine q_start (cc := cX7_thrown) (maxL := 1) (ret := (some .int)) (own := RX7) (by decide) rfl rfl (Nat.le_of_ble_eq_true rfl) ?_
  intro p e s m below meth c hx hb hr hml hts hown hlocks ⟨hsz, hC, hB⟩ ls hl
  subst hsz
  have hS : va_S (mA bd w s.heap.size) s.heap s.heap [] := va_S.rf
  have hG : mG e0 bd w s.heap.size bd w := mG.rf hB.2.2.1
  have hw0 := hC.1
  have hl : lv_has ls 1 [(0, .ref (bd 0 0))] := hl
  refine lv_aload_n hx hb dX7_thrown_0 rfl (lv_at hl 0 rfl) ?_
  refine gt_m0_0 hx hb hts iX7_thrown_X7 hown hB.1 hC qX7_thrown_w1 dX7_thrown_1 ?_
  exact m_reti hx hb hr hG hC hS mEq_rf rfl hlocks dX7_thrown_4
def fX7_refuse (na nb nc nd T : Nat) (g : Md) (x : Int32) : Int32 × Md := (0, (u2 g 0 20 x))
theorem qX7_refuse_w1 : Cond.fieldLink RX7 41 "CherryStationModel" "thrown" "I" ∈ wsX7_refuse := List.mem_of_getElem? (i := 1) rfl
theorem iX7_refuse_X7 : ∀ w ∈ wsX70, w ∈ wsX7_refuse := fun _ h => (List.mem_cons_of_mem _ (List.mem_append_right _ h))
set_option maxRecDepth 100000 in
set_option maxHeartbeats 4000000 in
theorem kX7_refuse (l : Launch) (D : va_G) (cy : Nat → ClassId) (e0 : Nat) {bd w : Nat → Nat → Nat} (g : Md) (S : Int64) (sz : Nat) (x : Int32) : Met l yX7_refuse wsX7_refuse ({ frames := 0, cells := 0, slots := 0, locals := 0 } : Room) (va_Pc [.ref (bd 0 0), .int x] (mPre D cy e0 bd w g S sz)) (mQi D cy bd w (fX7_refuse (w 0 0) (w 0 1) (w 0 2) (w 0 3) (w 0 4) g x).1 (fX7_refuse (w 0 0) (w 0 1) (w 0 2) (w 0 3) (w 0 4) g x).2 S sz) 0 0 (mA bd w sz) := by
  refine q_start (cc := cX7_refuse) (maxL := 2) (ret := (some .int)) (own := RX7) (by decide) rfl rfl (Nat.le_of_ble_eq_true rfl) ?_
  intro p e s m below meth c hx hb hr hml hts hown hlocks ⟨hsz, hC, hB⟩ ls hl
  subst hsz
  have hS : va_S (mA bd w s.heap.size) s.heap s.heap [] := va_S.rf
  have hG : mG e0 bd w s.heap.size bd w := mG.rf hB.2.2.1
  have hw0 := hC.1
  have hl : lv_has ls 2 [(0, .ref (bd 0 0)), (1, .int x)] := hl
  refine lv_aload_n hx hb dX7_refuse_0 rfl (lv_at hl 0 rfl) ?_
  refine lv_iload_n hx hb dX7_refuse_1 rfl (lv_at hl 1 rfl) ?_
  refine pt_m0_0 hx hb hts iX7_refuse_X7 hown hB.1 hC hS hG.2.1 qX7_refuse_w1 dX7_refuse_2 (fun H locs hC hS => ?_)
  refine lv_iconst (v := 0) hx hb dX7_refuse_5 (by decide) ?_
  have e9 : fX7_refuse (w 0 0) (w 0 1) (w 0 2) (w 0 3) (w 0 4) g x = (0, (u2 g 0 20 x)) := rfl
  exact m_reti hx hb hr hG hC hS (mEq_of (by rw [e9])) (by rw [e9]) hlocks dX7_refuse_6
def fX7_is (x : Int32) (lo : Int32) (hi : Int32) : Int32 := if x < lo then (0) else (if hi < x then (0) else (1))
set_option maxRecDepth 100000 in
set_option maxHeartbeats 4000000 in
theorem kX7_is (l : Launch) (D : va_G) (cy : Nat → ClassId) (e0 : Nat) {bd w : Nat → Nat → Nat} (g : Md) (S : Int64) (sz : Nat) (x : Int32) (lo : Int32) (hi : Int32) : Met l yX7_is wsX7_is ({ frames := 0, cells := 0, slots := 0, locals := 0 } : Room) (va_Pc [.int x, .int lo, .int hi] (mPre D cy e0 bd w g S sz)) (mQi D cy bd w (fX7_is x lo hi) g S sz) 0 0 (mA bd w sz) := by
  refine q_start (cc := cX7_is) (maxL := 3) (ret := (some .boolean)) (own := RX7) (by decide) rfl rfl (Nat.le_of_ble_eq_true rfl) ?_
  intro p e s m below meth c hx hb hr hml hts hown hlocks ⟨hsz, hC, hB⟩ ls hl
  subst hsz
  have hS : va_S (mA bd w s.heap.size) s.heap s.heap [] := va_S.rf
  have hG : mG e0 bd w s.heap.size bd w := mG.rf hB.2.2.1
  have hw0 := hC.1
  have hl : lv_has ls 3 [(0, .int x), (1, .int lo), (2, .int hi)] := hl
  refine lv_iload_n hx hb dX7_is_0 rfl (lv_at hl 0 rfl) ?_
  refine lv_iload_n hx hb dX7_is_1 rfl (lv_at hl 1 rfl) ?_
  refine lv_icmp_lt (tgt := 14) hx hb dX7_is_2 (by decide) (fun c1 => ?_) (fun c1 => ?_)
  · skip
    refine lv_iconst (v := 0) hx hb dX7_is_14 (by decide) ?_
    exact m_retz hx hb hr hG hC hS mEq_rf (by unfold fX7_is; rw [if_pos c1]) rfl hlocks dX7_is_15
  · skip
    refine lv_iload_n hx hb dX7_is_5 rfl (lv_at hl 0 rfl) ?_
    refine lv_iload_n hx hb dX7_is_6 rfl (lv_at hl 2 rfl) ?_
    refine lv_icmp_gt (tgt := 14) hx hb dX7_is_7 (by decide) (fun c2 => ?_) (fun c2 => ?_)
    · skip
      refine lv_iconst (v := 0) hx hb dX7_is_14 (by decide) ?_
      exact m_retz hx hb hr hG hC hS mEq_rf (by unfold fX7_is; rw [if_neg c1, if_pos c2]) rfl hlocks dX7_is_15
    · skip
      refine lv_iconst (v := 1) hx hb dX7_is_10 (by decide) ?_
      refine lv_goto (tgt := 15) hx hb dX7_is_11 (by decide) ?_
      exact m_retz hx hb hr hG hC hS mEq_rf (by unfold fX7_is; rw [if_neg c1, if_neg c2]) rfl hlocks dX7_is_15
theorem is01 (x lo hi : Int32) : fX7_is x lo hi = 0 ∨ fX7_is x lo hi = 1 := by
  unfold fX7_is
  split
  · exact Or.inl rfl
  · split
    · exact Or.inl rfl
    · exact Or.inr rfl
theorem is_in {x hi : Int32} {n : Nat} (h : ¬ fX7_is x 0 hi = 0) (hh : hi.toInt + 1 = n) : vp_in x n := by
  unfold fX7_is at h
  by_cases h1 : x < 0
  · rw [if_pos h1] at h; exact absurd rfl h
  · rw [if_neg h1] at h
    by_cases h2 : hi < x
    · rw [if_pos h2] at h; exact absurd rfl h
    · rw [Int32.lt_iff_toInt_lt] at h1 h2
      have z : (0 : Int32).toInt = 0 := rfl
      rw [z] at h1
      have hx : x.toNatClampNeg = x.toInt.toNat := rfl
      intro q
      rcases q with q | q
      · rw [Int32.lt_iff_toInt_lt, z] at q; omega
      · rw [hx] at q; omega
theorem pred_toInt {n : Nat} (h : n ≤ 1000) : (nI n - 1).toInt + 1 = n := by
  have e0 : (nI n).toInt = n := nI_toInt (by omega)
  rw [Int32.toInt_sub, e0]
  have z : (1 : Int32).toInt = 1 := rfl
  rw [z, Int.bmod_def]
  have : ((2 ^ 32 : Nat) : Int) = 4294967296 := rfl
  omega
def fX7_isTank (x : Int32) : Int32 := fX7_is x 0 2
set_option maxRecDepth 100000 in
set_option maxHeartbeats 4000000 in
theorem kX7_isTank (l : Launch) (D : va_G) (cy : Nat → ClassId) (e0 : Nat) {bd w : Nat → Nat → Nat} (g : Md) (S : Int64) (sz : Nat) (x : Int32) : Met l yX7_isTank wsX7_isTank ({ frames := 1, cells := 0, slots := 0, locals := 22 } : Room) (va_Pc [.int x] (mPre D cy e0 bd w g S sz)) (mQi D cy bd w (fX7_isTank x) g S sz) 0 0 (mA bd w sz) := by
  refine q_start (cc := cX7_isTank) (maxL := 1) (ret := (some .boolean)) (own := RX7) (by decide) rfl rfl (Nat.le_of_ble_eq_true rfl) ?_
  intro p e s m below meth c hx hb hr hml hts hown hlocks ⟨hsz, hC, hB⟩ ls hl
  subst hsz
  have hS : va_S (mA bd w s.heap.size) s.heap s.heap [] := va_S.rf
  have hG : mG e0 bd w s.heap.size bd w := mG.rf hB.2.2.1
  have hw0 := hC.1
  have hl : lv_has ls 1 [(0, .int x)] := hl
  refine lv_iload_n hx hb dX7_isTank_0 rfl (lv_at hl 0 rfl) ?_
  refine lv_iconst (v := 0) hx hb dX7_isTank_1 (by decide) ?_
  refine lv_iconst (v := 2) hx hb dX7_isTank_2 (by decide) ?_
  refine m_callSi (As := [.int x, .int 0, .int 2])  ⟨hx, hb, hml, hown, hts⟩ (kX7_is l D cy e0 (bd := bd) (w := w) g S _ x 0 2 ) (va_cwS 3 hts gX7_isTank_X7_is rfl rfl rfl (by decide +kernel) ⟨Nat.le_of_ble_eq_true rfl, Nat.le_of_ble_eq_true rfl⟩) hB hG.2 hC hS rfl hl.1 (Nat.le_of_ble_eq_true rfl) dX7_isTank_3 ⟨Nat.le_of_ble_eq_true rfl, Nat.le_of_ble_eq_true rfl⟩ (fun H locs hC hS => ?_)
  exact m_retz hx hb hr hG hC hS mEq_rf rfl (q_nb (is01 _ _ _)) hlocks dX7_isTank_6
def fX7_isWarmth (x : Int32) : Int32 := fX7_is x 0 40
set_option maxRecDepth 100000 in
set_option maxHeartbeats 4000000 in
theorem kX7_isWarmth (l : Launch) (D : va_G) (cy : Nat → ClassId) (e0 : Nat) {bd w : Nat → Nat → Nat} (g : Md) (S : Int64) (sz : Nat) (x : Int32) : Met l yX7_isWarmth wsX7_isWarmth ({ frames := 1, cells := 0, slots := 0, locals := 22 } : Room) (va_Pc [.int x] (mPre D cy e0 bd w g S sz)) (mQi D cy bd w (fX7_isWarmth x) g S sz) 0 0 (mA bd w sz) := by
  refine q_start (cc := cX7_isWarmth) (maxL := 1) (ret := (some .boolean)) (own := RX7) (by decide) rfl rfl (Nat.le_of_ble_eq_true rfl) ?_
  intro p e s m below meth c hx hb hr hml hts hown hlocks ⟨hsz, hC, hB⟩ ls hl
  subst hsz
  have hS : va_S (mA bd w s.heap.size) s.heap s.heap [] := va_S.rf
  have hG : mG e0 bd w s.heap.size bd w := mG.rf hB.2.2.1
  have hw0 := hC.1
  have hl : lv_has ls 1 [(0, .int x)] := hl
  refine lv_iload_n hx hb dX7_isWarmth_0 rfl (lv_at hl 0 rfl) ?_
  refine lv_iconst (v := 0) hx hb dX7_isWarmth_1 (by decide) ?_
  refine lv_bipush (v := 40) hx hb dX7_isWarmth_2 (by decide) ?_
  refine m_callSi (As := [.int x, .int 0, .int 40])  ⟨hx, hb, hml, hown, hts⟩ (kX7_is l D cy e0 (bd := bd) (w := w) g S _ x 0 40 ) (va_cwS 3 hts gX7_isWarmth_X7_is rfl rfl rfl (by decide +kernel) ⟨Nat.le_of_ble_eq_true rfl, Nat.le_of_ble_eq_true rfl⟩) hB hG.2 hC hS rfl hl.1 (Nat.le_of_ble_eq_true rfl) dX7_isWarmth_4 ⟨Nat.le_of_ble_eq_true rfl, Nat.le_of_ble_eq_true rfl⟩ (fun H locs hC hS => ?_)
  exact m_retz hx hb hr hG hC hS mEq_rf rfl (q_nb (is01 _ _ _)) hlocks dX7_isWarmth_7
def fX7_isTaster (x : Int32) : Int32 := fX7_is x 0 2
set_option maxRecDepth 100000 in
set_option maxHeartbeats 4000000 in
theorem kX7_isTaster (l : Launch) (D : va_G) (cy : Nat → ClassId) (e0 : Nat) {bd w : Nat → Nat → Nat} (g : Md) (S : Int64) (sz : Nat) (x : Int32) : Met l yX7_isTaster wsX7_isTaster ({ frames := 1, cells := 0, slots := 0, locals := 22 } : Room) (va_Pc [.int x] (mPre D cy e0 bd w g S sz)) (mQi D cy bd w (fX7_isTaster x) g S sz) 0 0 (mA bd w sz) := by
  refine q_start (cc := cX7_isTaster) (maxL := 1) (ret := (some .boolean)) (own := RX7) (by decide) rfl rfl (Nat.le_of_ble_eq_true rfl) ?_
  intro p e s m below meth c hx hb hr hml hts hown hlocks ⟨hsz, hC, hB⟩ ls hl
  subst hsz
  have hS : va_S (mA bd w s.heap.size) s.heap s.heap [] := va_S.rf
  have hG : mG e0 bd w s.heap.size bd w := mG.rf hB.2.2.1
  have hw0 := hC.1
  have hl : lv_has ls 1 [(0, .int x)] := hl
  refine lv_iload_n hx hb dX7_isTaster_0 rfl (lv_at hl 0 rfl) ?_
  refine lv_iconst (v := 0) hx hb dX7_isTaster_1 (by decide) ?_
  refine lv_iconst (v := 2) hx hb dX7_isTaster_2 (by decide) ?_
  refine m_callSi (As := [.int x, .int 0, .int 2])  ⟨hx, hb, hml, hown, hts⟩ (kX7_is l D cy e0 (bd := bd) (w := w) g S _ x 0 2 ) (va_cwS 3 hts gX7_isTaster_X7_is rfl rfl rfl (by decide +kernel) ⟨Nat.le_of_ble_eq_true rfl, Nat.le_of_ble_eq_true rfl⟩) hB hG.2 hC hS rfl hl.1 (Nat.le_of_ble_eq_true rfl) dX7_isTaster_3 ⟨Nat.le_of_ble_eq_true rfl, Nat.le_of_ble_eq_true rfl⟩ (fun H locs hC hS => ?_)
  exact m_retz hx hb hr hG hC hS mEq_rf rfl (q_nb (is01 _ _ _)) hlocks dX7_isTaster_6
def fX7_isFarm (na nb nc nd T : Nat) (g : Md) (x : Int32) : Int32 := fX7_is x 0 ((nI na) - 1)
theorem qX7_isFarm_w1 : Cond.fieldLink RX7 12 "CherryStationModel" "farms" "Ljava/util/ArrayList;" ∈ wsX7_isFarm := List.mem_of_getElem? (i := 1) rfl
theorem iX7_isFarm_X7 : ∀ w ∈ wsX70, w ∈ wsX7_isFarm := fun _ h => (List.mem_cons_of_mem _ (List.mem_append_left _ (List.mem_append_right _ h)))
set_option maxRecDepth 100000 in
set_option maxHeartbeats 4000000 in
theorem kX7_isFarm (l : Launch) (D : va_G) (cy : Nat → ClassId) (e0 : Nat) {bd w : Nat → Nat → Nat} (g : Md) (S : Int64) (sz : Nat) (x : Int32) : Met l yX7_isFarm wsX7_isFarm ({ frames := 1, cells := 0, slots := 0, locals := 22 } : Room) (va_Pc [.ref (bd 0 0), .int x] (mPre D cy e0 bd w g S sz)) (mQi D cy bd w (fX7_isFarm (w 0 0) (w 0 1) (w 0 2) (w 0 3) (w 0 4) g x) g S sz) 0 0 (mA bd w sz) := by
  refine q_start (cc := cX7_isFarm) (maxL := 2) (ret := (some .boolean)) (own := RX7) (by decide) rfl rfl (Nat.le_of_ble_eq_true rfl) ?_
  intro p e s m below meth c hx hb hr hml hts hown hlocks ⟨hsz, hC, hB⟩ ls hl
  subst hsz
  have hS : va_S (mA bd w s.heap.size) s.heap s.heap [] := va_S.rf
  have hG : mG e0 bd w s.heap.size bd w := mG.rf hB.2.2.1
  have hw0 := hC.1
  have hl : lv_has ls 2 [(0, .ref (bd 0 0)), (1, .int x)] := hl
  refine lv_iload_n hx hb dX7_isFarm_0 rfl (lv_at hl 1 rfl) ?_
  refine lv_iconst (v := 0) hx hb dX7_isFarm_1 (by decide) ?_
  refine lv_aload_n hx hb dX7_isFarm_2 rfl (lv_at hl 0 rfl) ?_
  refine gt_m0_1 hx hb hts iX7_isFarm_X7 hown hB.1 hC qX7_isFarm_w1 dX7_isFarm_3 ?_
  refine m_callVi (As := []) (κ := 1) (i := 0) (show 0 < 4 by decide) rfl ⟨_, rfl⟩ rfl ⟨hx, hb, hml, hown, hts⟩ (kJx4a65c_size_8abf5 l D cy e0 (bd := bd) (w := w) g S _ 0 (show 0 < 4 by decide)) (cwV 0 hts gX7_isFarm_Jx4a65c_size_8abf5 rfl rfl rfl (by decide +kernel) ⟨Nat.le_of_ble_eq_true rfl, Nat.le_of_ble_eq_true rfl⟩) hB hG.2 hC hS rfl hl.1 (Nat.le_of_ble_eq_true rfl) dX7_isFarm_6 ⟨Nat.le_of_ble_eq_true rfl, Nat.le_of_ble_eq_true rfl⟩ (fun H locs hC hS => ?_)
  refine lv_iconst (v := 1) hx hb dX7_isFarm_9 (by decide) ?_
  refine lv_isub hx hb dX7_isFarm_10 ?_
  refine m_callSi (As := [.int x, .int 0, .int ((nI (w 0 0)) - 1)])  ⟨hx, hb, hml, hown, hts⟩ (kX7_is l D cy e0 (bd := bd) (w := w) g S _ x 0 ((nI (w 0 0)) - 1) ) (va_cwS 3 hts gX7_isFarm_X7_is rfl rfl rfl (by decide +kernel) ⟨Nat.le_of_ble_eq_true rfl, Nat.le_of_ble_eq_true rfl⟩) hB hG.2 hC hS rfl hl.1 (Nat.le_of_ble_eq_true rfl) dX7_isFarm_11 ⟨Nat.le_of_ble_eq_true rfl, Nat.le_of_ble_eq_true rfl⟩ (fun H locs hC hS => ?_)
  exact m_retz hx hb hr hG hC hS mEq_rf rfl (q_nb (is01 _ _ _)) hlocks dX7_isFarm_14
def fX7_isBasket (na nb nc nd T : Nat) (g : Md) (x : Int32) : Int32 := fX7_is x 0 ((nI nb) - 1)
theorem qX7_isBasket_w1 : Cond.fieldLink RX7 16 "CherryStationModel" "baskets" "Ljava/util/ArrayList;" ∈ wsX7_isBasket := List.mem_of_getElem? (i := 1) rfl
theorem iX7_isBasket_X7 : ∀ w ∈ wsX70, w ∈ wsX7_isBasket := fun _ h => (List.mem_cons_of_mem _ (List.mem_append_left _ (List.mem_append_right _ h)))
set_option maxRecDepth 100000 in
set_option maxHeartbeats 4000000 in
theorem kX7_isBasket (l : Launch) (D : va_G) (cy : Nat → ClassId) (e0 : Nat) {bd w : Nat → Nat → Nat} (g : Md) (S : Int64) (sz : Nat) (x : Int32) : Met l yX7_isBasket wsX7_isBasket ({ frames := 1, cells := 0, slots := 0, locals := 22 } : Room) (va_Pc [.ref (bd 0 0), .int x] (mPre D cy e0 bd w g S sz)) (mQi D cy bd w (fX7_isBasket (w 0 0) (w 0 1) (w 0 2) (w 0 3) (w 0 4) g x) g S sz) 0 0 (mA bd w sz) := by
  refine q_start (cc := cX7_isBasket) (maxL := 2) (ret := (some .boolean)) (own := RX7) (by decide) rfl rfl (Nat.le_of_ble_eq_true rfl) ?_
  intro p e s m below meth c hx hb hr hml hts hown hlocks ⟨hsz, hC, hB⟩ ls hl
  subst hsz
  have hS : va_S (mA bd w s.heap.size) s.heap s.heap [] := va_S.rf
  have hG : mG e0 bd w s.heap.size bd w := mG.rf hB.2.2.1
  have hw0 := hC.1
  have hl : lv_has ls 2 [(0, .ref (bd 0 0)), (1, .int x)] := hl
  refine lv_iload_n hx hb dX7_isBasket_0 rfl (lv_at hl 1 rfl) ?_
  refine lv_iconst (v := 0) hx hb dX7_isBasket_1 (by decide) ?_
  refine lv_aload_n hx hb dX7_isBasket_2 rfl (lv_at hl 0 rfl) ?_
  refine gt_m0_2 hx hb hts iX7_isBasket_X7 hown hB.1 hC qX7_isBasket_w1 dX7_isBasket_3 ?_
  refine m_callVi (As := []) (κ := 1) (i := 1) (show 1 < 4 by decide) rfl ⟨_, rfl⟩ rfl ⟨hx, hb, hml, hown, hts⟩ (kJx4a65c_size_8abf5 l D cy e0 (bd := bd) (w := w) g S _ 1 (show 1 < 4 by decide)) (cwV 0 hts gX7_isBasket_Jx4a65c_size_8abf5 rfl rfl rfl (by decide +kernel) ⟨Nat.le_of_ble_eq_true rfl, Nat.le_of_ble_eq_true rfl⟩) hB hG.2 hC hS rfl hl.1 (Nat.le_of_ble_eq_true rfl) dX7_isBasket_6 ⟨Nat.le_of_ble_eq_true rfl, Nat.le_of_ble_eq_true rfl⟩ (fun H locs hC hS => ?_)
  refine lv_iconst (v := 1) hx hb dX7_isBasket_9 (by decide) ?_
  refine lv_isub hx hb dX7_isBasket_10 ?_
  refine m_callSi (As := [.int x, .int 0, .int ((nI (w 0 1)) - 1)])  ⟨hx, hb, hml, hown, hts⟩ (kX7_is l D cy e0 (bd := bd) (w := w) g S _ x 0 ((nI (w 0 1)) - 1) ) (va_cwS 3 hts gX7_isBasket_X7_is rfl rfl rfl (by decide +kernel) ⟨Nat.le_of_ble_eq_true rfl, Nat.le_of_ble_eq_true rfl⟩) hB hG.2 hC hS rfl hl.1 (Nat.le_of_ble_eq_true rfl) dX7_isBasket_11 ⟨Nat.le_of_ble_eq_true rfl, Nat.le_of_ble_eq_true rfl⟩ (fun H locs hC hS => ?_)
  exact m_retz hx hb hr hG hC hS mEq_rf rfl (q_nb (is01 _ _ _)) hlocks dX7_isBasket_14
def fX7_isBed (na nb nc nd T : Nat) (g : Md) (x : Int32) : Int32 := fX7_is x 0 ((nI nc) - 1)
theorem qX7_isBed_w1 : Cond.fieldLink RX7 24 "CherryStationModel" "beds" "Ljava/util/ArrayList;" ∈ wsX7_isBed := List.mem_of_getElem? (i := 1) rfl
theorem iX7_isBed_X7 : ∀ w ∈ wsX70, w ∈ wsX7_isBed := fun _ h => (List.mem_cons_of_mem _ (List.mem_append_left _ (List.mem_append_right _ h)))
set_option maxRecDepth 100000 in
set_option maxHeartbeats 4000000 in
theorem kX7_isBed (l : Launch) (D : va_G) (cy : Nat → ClassId) (e0 : Nat) {bd w : Nat → Nat → Nat} (g : Md) (S : Int64) (sz : Nat) (x : Int32) : Met l yX7_isBed wsX7_isBed ({ frames := 1, cells := 0, slots := 0, locals := 22 } : Room) (va_Pc [.ref (bd 0 0), .int x] (mPre D cy e0 bd w g S sz)) (mQi D cy bd w (fX7_isBed (w 0 0) (w 0 1) (w 0 2) (w 0 3) (w 0 4) g x) g S sz) 0 0 (mA bd w sz) := by
  refine q_start (cc := cX7_isBed) (maxL := 2) (ret := (some .boolean)) (own := RX7) (by decide) rfl rfl (Nat.le_of_ble_eq_true rfl) ?_
  intro p e s m below meth c hx hb hr hml hts hown hlocks ⟨hsz, hC, hB⟩ ls hl
  subst hsz
  have hS : va_S (mA bd w s.heap.size) s.heap s.heap [] := va_S.rf
  have hG : mG e0 bd w s.heap.size bd w := mG.rf hB.2.2.1
  have hw0 := hC.1
  have hl : lv_has ls 2 [(0, .ref (bd 0 0)), (1, .int x)] := hl
  refine lv_iload_n hx hb dX7_isBed_0 rfl (lv_at hl 1 rfl) ?_
  refine lv_iconst (v := 0) hx hb dX7_isBed_1 (by decide) ?_
  refine lv_aload_n hx hb dX7_isBed_2 rfl (lv_at hl 0 rfl) ?_
  refine gt_m0_4 hx hb hts iX7_isBed_X7 hown hB.1 hC qX7_isBed_w1 dX7_isBed_3 ?_
  refine m_callVi (As := []) (κ := 1) (i := 2) (show 2 < 4 by decide) rfl ⟨_, rfl⟩ rfl ⟨hx, hb, hml, hown, hts⟩ (kJx4a65c_size_8abf5 l D cy e0 (bd := bd) (w := w) g S _ 2 (show 2 < 4 by decide)) (cwV 0 hts gX7_isBed_Jx4a65c_size_8abf5 rfl rfl rfl (by decide +kernel) ⟨Nat.le_of_ble_eq_true rfl, Nat.le_of_ble_eq_true rfl⟩) hB hG.2 hC hS rfl hl.1 (Nat.le_of_ble_eq_true rfl) dX7_isBed_6 ⟨Nat.le_of_ble_eq_true rfl, Nat.le_of_ble_eq_true rfl⟩ (fun H locs hC hS => ?_)
  refine lv_iconst (v := 1) hx hb dX7_isBed_9 (by decide) ?_
  refine lv_isub hx hb dX7_isBed_10 ?_
  refine m_callSi (As := [.int x, .int 0, .int ((nI (w 0 2)) - 1)])  ⟨hx, hb, hml, hown, hts⟩ (kX7_is l D cy e0 (bd := bd) (w := w) g S _ x 0 ((nI (w 0 2)) - 1) ) (va_cwS 3 hts gX7_isBed_X7_is rfl rfl rfl (by decide +kernel) ⟨Nat.le_of_ble_eq_true rfl, Nat.le_of_ble_eq_true rfl⟩) hB hG.2 hC hS rfl hl.1 (Nat.le_of_ble_eq_true rfl) dX7_isBed_11 ⟨Nat.le_of_ble_eq_true rfl, Nat.le_of_ble_eq_true rfl⟩ (fun H locs hC hS => ?_)
  exact m_retz hx hb hr hG hC hS mEq_rf rfl (q_nb (is01 _ _ _)) hlocks dX7_isBed_14
def fX7_isLot (na nb nc nd T : Nat) (g : Md) (x : Int32) : Int32 := fX7_is x 0 ((nI nd) - 1)
theorem qX7_isLot_w1 : Cond.fieldLink RX7 27 "CherryStationModel" "lots" "Ljava/util/ArrayList;" ∈ wsX7_isLot := List.mem_of_getElem? (i := 1) rfl
theorem iX7_isLot_X7 : ∀ w ∈ wsX70, w ∈ wsX7_isLot := fun _ h => (List.mem_cons_of_mem _ (List.mem_append_left _ (List.mem_append_right _ h)))
set_option maxRecDepth 100000 in
set_option maxHeartbeats 4000000 in
theorem kX7_isLot (l : Launch) (D : va_G) (cy : Nat → ClassId) (e0 : Nat) {bd w : Nat → Nat → Nat} (g : Md) (S : Int64) (sz : Nat) (x : Int32) : Met l yX7_isLot wsX7_isLot ({ frames := 1, cells := 0, slots := 0, locals := 22 } : Room) (va_Pc [.ref (bd 0 0), .int x] (mPre D cy e0 bd w g S sz)) (mQi D cy bd w (fX7_isLot (w 0 0) (w 0 1) (w 0 2) (w 0 3) (w 0 4) g x) g S sz) 0 0 (mA bd w sz) := by
  refine q_start (cc := cX7_isLot) (maxL := 2) (ret := (some .boolean)) (own := RX7) (by decide) rfl rfl (Nat.le_of_ble_eq_true rfl) ?_
  intro p e s m below meth c hx hb hr hml hts hown hlocks ⟨hsz, hC, hB⟩ ls hl
  subst hsz
  have hS : va_S (mA bd w s.heap.size) s.heap s.heap [] := va_S.rf
  have hG : mG e0 bd w s.heap.size bd w := mG.rf hB.2.2.1
  have hw0 := hC.1
  have hl : lv_has ls 2 [(0, .ref (bd 0 0)), (1, .int x)] := hl
  refine lv_iload_n hx hb dX7_isLot_0 rfl (lv_at hl 1 rfl) ?_
  refine lv_iconst (v := 0) hx hb dX7_isLot_1 (by decide) ?_
  refine lv_aload_n hx hb dX7_isLot_2 rfl (lv_at hl 0 rfl) ?_
  refine gt_m0_5 hx hb hts iX7_isLot_X7 hown hB.1 hC qX7_isLot_w1 dX7_isLot_3 ?_
  refine m_callVi (As := []) (κ := 1) (i := 3) (show 3 < 4 by decide) rfl ⟨_, rfl⟩ rfl ⟨hx, hb, hml, hown, hts⟩ (kJx4a65c_size_8abf5 l D cy e0 (bd := bd) (w := w) g S _ 3 (show 3 < 4 by decide)) (cwV 0 hts gX7_isLot_Jx4a65c_size_8abf5 rfl rfl rfl (by decide +kernel) ⟨Nat.le_of_ble_eq_true rfl, Nat.le_of_ble_eq_true rfl⟩) hB hG.2 hC hS rfl hl.1 (Nat.le_of_ble_eq_true rfl) dX7_isLot_6 ⟨Nat.le_of_ble_eq_true rfl, Nat.le_of_ble_eq_true rfl⟩ (fun H locs hC hS => ?_)
  refine lv_iconst (v := 1) hx hb dX7_isLot_9 (by decide) ?_
  refine lv_isub hx hb dX7_isLot_10 ?_
  refine m_callSi (As := [.int x, .int 0, .int ((nI (w 0 3)) - 1)])  ⟨hx, hb, hml, hown, hts⟩ (kX7_is l D cy e0 (bd := bd) (w := w) g S _ x 0 ((nI (w 0 3)) - 1) ) (va_cwS 3 hts gX7_isLot_X7_is rfl rfl rfl (by decide +kernel) ⟨Nat.le_of_ble_eq_true rfl, Nat.le_of_ble_eq_true rfl⟩) hB hG.2 hC hS rfl hl.1 (Nat.le_of_ble_eq_true rfl) dX7_isLot_11 ⟨Nat.le_of_ble_eq_true rfl, Nat.le_of_ble_eq_true rfl⟩ (fun H locs hC hS => ?_)
  exact m_retz hx hb hr hG hC hS mEq_rf rfl (q_nb (is01 _ _ _)) hlocks dX7_isLot_14
theorem isTank_in {x : Int32} (h : ¬ fX7_isTank x = 0) : vp_in x 3 := is_in h rfl
theorem isTaster_in {x : Int32} (h : ¬ fX7_isTaster x = 0) : vp_in x 3 := is_in h rfl
theorem isFarm_in {w : Nat → Nat → Nat} {na nb nc nd T : Nat} {g : Md} {x : Int32} (hw : wB w) (h : ¬ fX7_isFarm na nb nc nd T g x = 0) (e : na = w 0 0 := by rfl) : vp_in x (w 0 0) := by
  subst e
  exact is_in h (pred_toInt (Nat.le_trans (w0_20 hw (by decide)) (by decide)))
theorem isBasket_in {w : Nat → Nat → Nat} {na nb nc nd T : Nat} {g : Md} {x : Int32} (hw : wB w) (h : ¬ fX7_isBasket na nb nc nd T g x = 0) (e : nb = w 0 1 := by rfl) : vp_in x (w 0 1) := by
  subst e
  exact is_in h (pred_toInt (Nat.le_trans (w0_20 hw (by decide)) (by decide)))
theorem isBed_in {w : Nat → Nat → Nat} {na nb nc nd T : Nat} {g : Md} {x : Int32} (hw : wB w) (h : ¬ fX7_isBed na nb nc nd T g x = 0) (e : nc = w 0 2 := by rfl) : vp_in x (w 0 2) := by
  subst e
  exact is_in h (pred_toInt (Nat.le_trans (w0_20 hw (by decide)) (by decide)))
theorem isLot_in {w : Nat → Nat → Nat} {na nb nc nd T : Nat} {g : Md} {x : Int32} (hw : wB w) (h : ¬ fX7_isLot na nb nc nd T g x = 0) (e : nd = w 0 3 := by rfl) : vp_in x (w 0 3) := by
  subst e
  exact is_in h (pred_toInt (Nat.le_trans (w0_20 hw (by decide)) (by decide)))
def fX7_isIn (na nb nc nd T : Nat) (g : Md) (r : Nat) : Int32 := if (g r 10) = 1 then (1) else (0)
set_option maxRecDepth 100000 in
set_option maxHeartbeats 4000000 in
theorem kX7_isIn (l : Launch) (D : va_G) (cy : Nat → ClassId) (e0 : Nat) {bd w : Nat → Nat → Nat} (g : Md) (S : Int64) (sz : Nat) (r : Nat) (hv_r : rV w r) (hn_r : rl w r = 23) : Met l yX7_isIn wsX7_isIn ({ frames := 0, cells := 0, slots := 0, locals := 0 } : Room) (va_Pc [.ref (bd 3 r)] (mPre D cy e0 bd w g S sz)) (mQi D cy bd w (fX7_isIn (w 0 0) (w 0 1) (w 0 2) (w 0 3) (w 0 4) g r) g S sz) 0 0 (mA bd w sz) := by
  refine q_start (cc := cX7_isIn) (maxL := 1) (ret := (some .boolean)) (own := RX7) (by decide) rfl rfl (Nat.le_of_ble_eq_true rfl) ?_
  intro p e s m below meth c hx hb hr hml hts hown hlocks ⟨hsz, hC, hB⟩ ls hl
  subst hsz
  have hS : va_S (mA bd w s.heap.size) s.heap s.heap [] := va_S.rf
  have hG : mG e0 bd w s.heap.size bd w := mG.rf hB.2.2.1
  have hw0 := hC.1
  have hl : lv_has ls 1 [(0, .ref (bd 3 r))] := hl
  refine lv_aload_n hx hb dX7_isIn_0 rfl (lv_at hl 0 rfl) ?_
  refine lv_bipush (v := 10) hx hb dX7_isIn_1 (by decide) ?_
  refine ld_m hx hb hB.1 hC hv_r hn_r (k := 10) (by decide) (by unfold vp_in; decide) dX7_isIn_3 ?_
  refine lv_iconst (v := 1) hx hb dX7_isIn_4 (by decide) ?_
  refine lv_icmp_ne (tgt := 12) hx hb dX7_isIn_5 (by decide) (fun c1 => ?_) (fun c1 => ?_)
  · skip
    refine lv_iconst (v := 0) hx hb dX7_isIn_12 (by decide) ?_
    exact m_retz hx hb hr hG hC hS mEq_rf (by unfold fX7_isIn; rw [if_neg c1]) rfl hlocks dX7_isIn_13
  · skip
    refine lv_iconst (v := 1) hx hb dX7_isIn_8 (by decide) ?_
    refine lv_goto (tgt := 13) hx hb dX7_isIn_9 (by decide) ?_
    exact m_retz hx hb hr hG hC hS mEq_rf (by unfold fX7_isIn; rw [if_pos c1]) rfl hlocks dX7_isIn_13
def fX7_rises (na nb nc nd T : Nat) (g : Md) (r : Nat) (x : Int32) : Int32 := (x / 4) + ((g r 0) / 100)
set_option maxRecDepth 100000 in
set_option maxHeartbeats 4000000 in
theorem kX7_rises (l : Launch) (D : va_G) (cy : Nat → ClassId) (e0 : Nat) {bd w : Nat → Nat → Nat} (g : Md) (S : Int64) (sz : Nat) (r : Nat) (hv_r : rV w r) (hn_r : rl w r = 23) (x : Int32) : Met l yX7_rises wsX7_rises ({ frames := 0, cells := 0, slots := 0, locals := 0 } : Room) (va_Pc [.ref (bd 3 r), .int x] (mPre D cy e0 bd w g S sz)) (mQi D cy bd w (fX7_rises (w 0 0) (w 0 1) (w 0 2) (w 0 3) (w 0 4) g r x) g S sz) 0 0 (mA bd w sz) := by
  refine q_start (cc := cX7_rises) (maxL := 2) (ret := (some .int)) (own := RX7) (by decide) rfl rfl (Nat.le_of_ble_eq_true rfl) ?_
  intro p e s m below meth c hx hb hr hml hts hown hlocks ⟨hsz, hC, hB⟩ ls hl
  subst hsz
  have hS : va_S (mA bd w s.heap.size) s.heap s.heap [] := va_S.rf
  have hG : mG e0 bd w s.heap.size bd w := mG.rf hB.2.2.1
  have hw0 := hC.1
  have hl : lv_has ls 2 [(0, .ref (bd 3 r)), (1, .int x)] := hl
  refine lv_iload_n hx hb dX7_rises_0 rfl (lv_at hl 1 rfl) ?_
  refine lv_iconst (v := 4) hx hb dX7_rises_1 (by decide) ?_
  refine lv_idiv hx hb dX7_rises_2 (by decide) ?_
  refine lv_aload_n hx hb dX7_rises_3 rfl (lv_at hl 0 rfl) ?_
  refine lv_iconst (v := 0) hx hb dX7_rises_4 (by decide) ?_
  refine ld_m hx hb hB.1 hC hv_r hn_r (k := 0) (by decide) (by unfold vp_in; decide) dX7_rises_5 ?_
  refine lv_bipush (v := 100) hx hb dX7_rises_6 (by decide) ?_
  refine lv_idiv hx hb dX7_rises_8 (by decide) ?_
  refine lv_iadd hx hb dX7_rises_9 ?_
  exact m_reti hx hb hr hG hC hS mEq_rf rfl hlocks dX7_rises_10
def fX7_mean (x : Int32) (v : Int32) (y : Int32) (u : Int32) : Int32 := ((x * v) + (y * u)) / (x + y)
set_option maxRecDepth 100000 in
set_option maxHeartbeats 4000000 in
theorem kX7_mean (l : Launch) (D : va_G) (cy : Nat → ClassId) (e0 : Nat) {bd w : Nat → Nat → Nat} (g : Md) (S : Int64) (sz : Nat) (x : Int32) (v : Int32) (y : Int32) (u : Int32) (hne : ¬ x + y = 0) : Met l yX7_mean wsX7_mean ({ frames := 0, cells := 0, slots := 0, locals := 0 } : Room) (va_Pc [.int x, .int v, .int y, .int u] (mPre D cy e0 bd w g S sz)) (mQi D cy bd w (fX7_mean x v y u) g S sz) 0 0 (mA bd w sz) := by
  refine q_start (cc := cX7_mean) (maxL := 4) (ret := (some .int)) (own := RX7) (by decide) rfl rfl (Nat.le_of_ble_eq_true rfl) ?_
  intro p e s m below meth c hx hb hr hml hts hown hlocks ⟨hsz, hC, hB⟩ ls hl
  subst hsz
  have hS : va_S (mA bd w s.heap.size) s.heap s.heap [] := va_S.rf
  have hG : mG e0 bd w s.heap.size bd w := mG.rf hB.2.2.1
  have hw0 := hC.1
  have hl : lv_has ls 4 [(0, .int x), (1, .int v), (2, .int y), (3, .int u)] := hl
  refine lv_iload_n hx hb dX7_mean_0 rfl (lv_at hl 0 rfl) ?_
  refine lv_iload_n hx hb dX7_mean_1 rfl (lv_at hl 1 rfl) ?_
  refine lv_imul hx hb dX7_mean_2 ?_
  refine lv_iload_n hx hb dX7_mean_3 rfl (lv_at hl 2 rfl) ?_
  refine lv_iload_n hx hb dX7_mean_4 rfl (lv_at hl 3 rfl) ?_
  refine lv_imul hx hb dX7_mean_5 ?_
  refine lv_iadd hx hb dX7_mean_6 ?_
  refine lv_iload_n hx hb dX7_mean_7 rfl (lv_at hl 0 rfl) ?_
  refine lv_iload_n hx hb dX7_mean_8 rfl (lv_at hl 2 rfl) ?_
  refine lv_iadd hx hb dX7_mean_9 ?_
  refine lv_idiv hx hb dX7_mean_10 hne ?_
  exact m_reti hx hb hr hG hC hS mEq_rf rfl hlocks dX7_mean_11
def fX7_isRoom (na nb nc nd T : Nat) (g : Md) (r : Nat) (x : Int32) : Int32 := if (g r 0) = 0 then (if (12 * (g r 8)) < x then (0) else (1)) else (0)
set_option maxRecDepth 100000 in
set_option maxHeartbeats 4000000 in
theorem kX7_isRoom (l : Launch) (D : va_G) (cy : Nat → ClassId) (e0 : Nat) {bd w : Nat → Nat → Nat} (g : Md) (S : Int64) (sz : Nat) (r : Nat) (hv_r : rV w r) (hn_r : rl w r = 23) (x : Int32) : Met l yX7_isRoom wsX7_isRoom ({ frames := 0, cells := 0, slots := 0, locals := 0 } : Room) (va_Pc [.ref (bd 3 r), .int x] (mPre D cy e0 bd w g S sz)) (mQi D cy bd w (fX7_isRoom (w 0 0) (w 0 1) (w 0 2) (w 0 3) (w 0 4) g r x) g S sz) 0 0 (mA bd w sz) := by
  refine q_start (cc := cX7_isRoom) (maxL := 2) (ret := (some .boolean)) (own := RX7) (by decide) rfl rfl (Nat.le_of_ble_eq_true rfl) ?_
  intro p e s m below meth c hx hb hr hml hts hown hlocks ⟨hsz, hC, hB⟩ ls hl
  subst hsz
  have hS : va_S (mA bd w s.heap.size) s.heap s.heap [] := va_S.rf
  have hG : mG e0 bd w s.heap.size bd w := mG.rf hB.2.2.1
  have hw0 := hC.1
  have hl : lv_has ls 2 [(0, .ref (bd 3 r)), (1, .int x)] := hl
  refine lv_aload_n hx hb dX7_isRoom_0 rfl (lv_at hl 0 rfl) ?_
  refine lv_iconst (v := 0) hx hb dX7_isRoom_1 (by decide) ?_
  refine ld_m hx hb hB.1 hC hv_r hn_r (k := 0) (by decide) (by unfold vp_in; decide) dX7_isRoom_2 ?_
  refine lv_if_ne (tgt := 21) hx hb dX7_isRoom_3 (by decide) (fun c1 => ?_) (fun c1 => ?_)
  · skip
    refine lv_iconst (v := 0) hx hb dX7_isRoom_21 (by decide) ?_
    exact m_retz hx hb hr hG hC hS mEq_rf (by unfold fX7_isRoom; rw [if_neg c1]) rfl hlocks dX7_isRoom_22
  · skip
    refine lv_bipush (v := 12) hx hb dX7_isRoom_6 (by decide) ?_
    refine lv_aload_n hx hb dX7_isRoom_8 rfl (lv_at hl 0 rfl) ?_
    refine lv_bipush (v := 8) hx hb dX7_isRoom_9 (by decide) ?_
    refine ld_m hx hb hB.1 hC hv_r hn_r (k := 8) (by decide) (by unfold vp_in; decide) dX7_isRoom_11 ?_
    refine lv_imul hx hb dX7_isRoom_12 ?_
    refine lv_iload_n hx hb dX7_isRoom_13 rfl (lv_at hl 1 rfl) ?_
    refine lv_icmp_lt (tgt := 21) hx hb dX7_isRoom_14 (by decide) (fun c2 => ?_) (fun c2 => ?_)
    · skip
      refine lv_iconst (v := 0) hx hb dX7_isRoom_21 (by decide) ?_
      exact m_retz hx hb hr hG hC hS mEq_rf (by unfold fX7_isRoom; rw [if_pos c1, if_pos c2]) rfl hlocks dX7_isRoom_22
    · skip
      refine lv_iconst (v := 1) hx hb dX7_isRoom_17 (by decide) ?_
      refine lv_goto (tgt := 22) hx hb dX7_isRoom_18 (by decide) ?_
      exact m_retz hx hb hr hG hC hS mEq_rf (by unfold fX7_isRoom; rw [if_pos c1, if_neg c2]) rfl hlocks dX7_isRoom_22
def fX7_sum (na nb nc nd T : Nat) (g : Md) (r : Nat) (x : Int32) : Int32 := (((((0 + (g r ((x + 0).toNatClampNeg))) + (g r ((x + 1).toNatClampNeg))) + (g r ((x + 2).toNatClampNeg))) + (g r ((x + 3).toNatClampNeg))) + (g r ((x + 4).toNatClampNeg))) + (g r ((x + 5).toNatClampNeg))
set_option maxRecDepth 100000 in
set_option maxHeartbeats 4000000 in
theorem kX7_sum (l : Launch) (D : va_G) (cy : Nat → ClassId) (e0 : Nat) {bd w : Nat → Nat → Nat} (g : Md) (S : Int64) (sz : Nat) (r : Nat) (hv_r : rV w r) (hn_r : rl w r = 23) (x : Int32) (h0 : vp_in (x + 0) 23) (h1 : vp_in (x + 1) 23) (h2 : vp_in (x + 2) 23) (h3 : vp_in (x + 3) 23) (h4 : vp_in (x + 4) 23) (h5 : vp_in (x + 5) 23) : Met l yX7_sum wsX7_sum ({ frames := 0, cells := 0, slots := 0, locals := 0 } : Room) (va_Pc [.ref (bd 3 r), .int x] (mPre D cy e0 bd w g S sz)) (mQi D cy bd w (fX7_sum (w 0 0) (w 0 1) (w 0 2) (w 0 3) (w 0 4) g r x) g S sz) 0 0 (mA bd w sz) := by
  refine q_start (cc := cX7_sum) (maxL := 4) (ret := (some .int)) (own := RX7) (by decide) rfl rfl (Nat.le_of_ble_eq_true rfl) ?_
  intro p e s m below meth c hx hb hr hml hts hown hlocks ⟨hsz, hC, hB⟩ ls hl
  subst hsz
  have hS : va_S (mA bd w s.heap.size) s.heap s.heap [] := va_S.rf
  have hG : mG e0 bd w s.heap.size bd w := mG.rf hB.2.2.1
  have hw0 := hC.1
  have hl : lv_has ls 4 [(0, .ref (bd 3 r)), (1, .int x)] := hl
  refine lv_iconst (v := 0) hx hb dX7_sum_0 (by decide) ?_
  refine lv_istore_n (lv' := [(2, .int 0), (0, .ref (bd 3 r)), (1, .int x)]) hx hb dX7_sum_1 rfl hl (by decide) rfl (fun ls hl => ?_)
  refine lv_iconst (v := 0) hx hb dX7_sum_2 (by decide) ?_
  refine lv_istore_n (lv' := [(3, .int 0), (2, .int 0), (0, .ref (bd 3 r)), (1, .int x)]) hx hb dX7_sum_3 rfl hl (by decide) rfl (fun ls hl => ?_)
  refine lv_iload_n hx hb dX7_sum_4 rfl (lv_at hl 0 rfl) ?_
  refine lv_bipush (v := 6) hx hb dX7_sum_5 (by decide) ?_
  refine lv_icmp_ge (tgt := 24) hx hb dX7_sum_7 (by decide) (fun c => absurd c (by decide)) (fun _ => ?_)
  refine lv_iload_n hx hb dX7_sum_10 rfl (lv_at hl 1 rfl) ?_
  refine lv_aload_n hx hb dX7_sum_11 rfl (lv_at hl 2 rfl) ?_
  refine lv_iload_n hx hb dX7_sum_12 rfl (lv_at hl 3 rfl) ?_
  refine lv_iload_n hx hb dX7_sum_13 rfl (lv_at hl 0 rfl) ?_
  refine lv_iadd hx hb dX7_sum_14 ?_
  refine ld_m hx hb hB.1 hC hv_r hn_r (k := (x + 0).toNatClampNeg) rfl h0 dX7_sum_15 ?_
  refine lv_iadd hx hb dX7_sum_16 ?_
  refine lv_istore_n (lv' := [(2, .int (0 + (g r ((x + 0).toNatClampNeg)))), (3, .int 0), (0, .ref (bd 3 r)), (1, .int x)]) hx hb dX7_sum_17 rfl hl (by decide) rfl (fun ls hl => ?_)
  refine lv_iinc (v := 1) (lv' := [(3, .int 1), (2, .int (0 + (g r ((x + 0).toNatClampNeg)))), (0, .ref (bd 3 r)), (1, .int x)]) hx hb dX7_sum_18 hl (k := 1) rfl (by decide) (by decide) rfl (fun ls hl => ?_)
  refine lv_goto (tgt := 4) hx hb dX7_sum_21 (by decide) ?_
  refine lv_iload_n hx hb dX7_sum_4 rfl (lv_at hl 0 rfl) ?_
  refine lv_bipush (v := 6) hx hb dX7_sum_5 (by decide) ?_
  refine lv_icmp_ge (tgt := 24) hx hb dX7_sum_7 (by decide) (fun c => absurd c (by decide)) (fun _ => ?_)
  refine lv_iload_n hx hb dX7_sum_10 rfl (lv_at hl 1 rfl) ?_
  refine lv_aload_n hx hb dX7_sum_11 rfl (lv_at hl 2 rfl) ?_
  refine lv_iload_n hx hb dX7_sum_12 rfl (lv_at hl 3 rfl) ?_
  refine lv_iload_n hx hb dX7_sum_13 rfl (lv_at hl 0 rfl) ?_
  refine lv_iadd hx hb dX7_sum_14 ?_
  refine ld_m hx hb hB.1 hC hv_r hn_r (k := (x + 1).toNatClampNeg) rfl h1 dX7_sum_15 ?_
  refine lv_iadd hx hb dX7_sum_16 ?_
  refine lv_istore_n (lv' := [(2, .int ((0 + (g r ((x + 0).toNatClampNeg))) + (g r ((x + 1).toNatClampNeg)))), (3, .int 1), (0, .ref (bd 3 r)), (1, .int x)]) hx hb dX7_sum_17 rfl hl (by decide) rfl (fun ls hl => ?_)
  refine lv_iinc (v := 2) (lv' := [(3, .int 2), (2, .int ((0 + (g r ((x + 0).toNatClampNeg))) + (g r ((x + 1).toNatClampNeg)))), (0, .ref (bd 3 r)), (1, .int x)]) hx hb dX7_sum_18 hl (k := 1) rfl (by decide) (by decide) rfl (fun ls hl => ?_)
  refine lv_goto (tgt := 4) hx hb dX7_sum_21 (by decide) ?_
  refine lv_iload_n hx hb dX7_sum_4 rfl (lv_at hl 0 rfl) ?_
  refine lv_bipush (v := 6) hx hb dX7_sum_5 (by decide) ?_
  refine lv_icmp_ge (tgt := 24) hx hb dX7_sum_7 (by decide) (fun c => absurd c (by decide)) (fun _ => ?_)
  refine lv_iload_n hx hb dX7_sum_10 rfl (lv_at hl 1 rfl) ?_
  refine lv_aload_n hx hb dX7_sum_11 rfl (lv_at hl 2 rfl) ?_
  refine lv_iload_n hx hb dX7_sum_12 rfl (lv_at hl 3 rfl) ?_
  refine lv_iload_n hx hb dX7_sum_13 rfl (lv_at hl 0 rfl) ?_
  refine lv_iadd hx hb dX7_sum_14 ?_
  refine ld_m hx hb hB.1 hC hv_r hn_r (k := (x + 2).toNatClampNeg) rfl h2 dX7_sum_15 ?_
  refine lv_iadd hx hb dX7_sum_16 ?_
  refine lv_istore_n (lv' := [(2, .int (((0 + (g r ((x + 0).toNatClampNeg))) + (g r ((x + 1).toNatClampNeg))) + (g r ((x + 2).toNatClampNeg)))), (3, .int 2), (0, .ref (bd 3 r)), (1, .int x)]) hx hb dX7_sum_17 rfl hl (by decide) rfl (fun ls hl => ?_)
  refine lv_iinc (v := 3) (lv' := [(3, .int 3), (2, .int (((0 + (g r ((x + 0).toNatClampNeg))) + (g r ((x + 1).toNatClampNeg))) + (g r ((x + 2).toNatClampNeg)))), (0, .ref (bd 3 r)), (1, .int x)]) hx hb dX7_sum_18 hl (k := 1) rfl (by decide) (by decide) rfl (fun ls hl => ?_)
  refine lv_goto (tgt := 4) hx hb dX7_sum_21 (by decide) ?_
  refine lv_iload_n hx hb dX7_sum_4 rfl (lv_at hl 0 rfl) ?_
  refine lv_bipush (v := 6) hx hb dX7_sum_5 (by decide) ?_
  refine lv_icmp_ge (tgt := 24) hx hb dX7_sum_7 (by decide) (fun c => absurd c (by decide)) (fun _ => ?_)
  refine lv_iload_n hx hb dX7_sum_10 rfl (lv_at hl 1 rfl) ?_
  refine lv_aload_n hx hb dX7_sum_11 rfl (lv_at hl 2 rfl) ?_
  refine lv_iload_n hx hb dX7_sum_12 rfl (lv_at hl 3 rfl) ?_
  refine lv_iload_n hx hb dX7_sum_13 rfl (lv_at hl 0 rfl) ?_
  refine lv_iadd hx hb dX7_sum_14 ?_
  refine ld_m hx hb hB.1 hC hv_r hn_r (k := (x + 3).toNatClampNeg) rfl h3 dX7_sum_15 ?_
  refine lv_iadd hx hb dX7_sum_16 ?_
  refine lv_istore_n (lv' := [(2, .int ((((0 + (g r ((x + 0).toNatClampNeg))) + (g r ((x + 1).toNatClampNeg))) + (g r ((x + 2).toNatClampNeg))) + (g r ((x + 3).toNatClampNeg)))), (3, .int 3), (0, .ref (bd 3 r)), (1, .int x)]) hx hb dX7_sum_17 rfl hl (by decide) rfl (fun ls hl => ?_)
  refine lv_iinc (v := 4) (lv' := [(3, .int 4), (2, .int ((((0 + (g r ((x + 0).toNatClampNeg))) + (g r ((x + 1).toNatClampNeg))) + (g r ((x + 2).toNatClampNeg))) + (g r ((x + 3).toNatClampNeg)))), (0, .ref (bd 3 r)), (1, .int x)]) hx hb dX7_sum_18 hl (k := 1) rfl (by decide) (by decide) rfl (fun ls hl => ?_)
  refine lv_goto (tgt := 4) hx hb dX7_sum_21 (by decide) ?_
  refine lv_iload_n hx hb dX7_sum_4 rfl (lv_at hl 0 rfl) ?_
  refine lv_bipush (v := 6) hx hb dX7_sum_5 (by decide) ?_
  refine lv_icmp_ge (tgt := 24) hx hb dX7_sum_7 (by decide) (fun c => absurd c (by decide)) (fun _ => ?_)
  refine lv_iload_n hx hb dX7_sum_10 rfl (lv_at hl 1 rfl) ?_
  refine lv_aload_n hx hb dX7_sum_11 rfl (lv_at hl 2 rfl) ?_
  refine lv_iload_n hx hb dX7_sum_12 rfl (lv_at hl 3 rfl) ?_
  refine lv_iload_n hx hb dX7_sum_13 rfl (lv_at hl 0 rfl) ?_
  refine lv_iadd hx hb dX7_sum_14 ?_
  refine ld_m hx hb hB.1 hC hv_r hn_r (k := (x + 4).toNatClampNeg) rfl h4 dX7_sum_15 ?_
  refine lv_iadd hx hb dX7_sum_16 ?_
  refine lv_istore_n (lv' := [(2, .int (((((0 + (g r ((x + 0).toNatClampNeg))) + (g r ((x + 1).toNatClampNeg))) + (g r ((x + 2).toNatClampNeg))) + (g r ((x + 3).toNatClampNeg))) + (g r ((x + 4).toNatClampNeg)))), (3, .int 4), (0, .ref (bd 3 r)), (1, .int x)]) hx hb dX7_sum_17 rfl hl (by decide) rfl (fun ls hl => ?_)
  refine lv_iinc (v := 5) (lv' := [(3, .int 5), (2, .int (((((0 + (g r ((x + 0).toNatClampNeg))) + (g r ((x + 1).toNatClampNeg))) + (g r ((x + 2).toNatClampNeg))) + (g r ((x + 3).toNatClampNeg))) + (g r ((x + 4).toNatClampNeg)))), (0, .ref (bd 3 r)), (1, .int x)]) hx hb dX7_sum_18 hl (k := 1) rfl (by decide) (by decide) rfl (fun ls hl => ?_)
  refine lv_goto (tgt := 4) hx hb dX7_sum_21 (by decide) ?_
  refine lv_iload_n hx hb dX7_sum_4 rfl (lv_at hl 0 rfl) ?_
  refine lv_bipush (v := 6) hx hb dX7_sum_5 (by decide) ?_
  refine lv_icmp_ge (tgt := 24) hx hb dX7_sum_7 (by decide) (fun c => absurd c (by decide)) (fun _ => ?_)
  refine lv_iload_n hx hb dX7_sum_10 rfl (lv_at hl 1 rfl) ?_
  refine lv_aload_n hx hb dX7_sum_11 rfl (lv_at hl 2 rfl) ?_
  refine lv_iload_n hx hb dX7_sum_12 rfl (lv_at hl 3 rfl) ?_
  refine lv_iload_n hx hb dX7_sum_13 rfl (lv_at hl 0 rfl) ?_
  refine lv_iadd hx hb dX7_sum_14 ?_
  refine ld_m hx hb hB.1 hC hv_r hn_r (k := (x + 5).toNatClampNeg) rfl h5 dX7_sum_15 ?_
  refine lv_iadd hx hb dX7_sum_16 ?_
  refine lv_istore_n (lv' := [(2, .int ((((((0 + (g r ((x + 0).toNatClampNeg))) + (g r ((x + 1).toNatClampNeg))) + (g r ((x + 2).toNatClampNeg))) + (g r ((x + 3).toNatClampNeg))) + (g r ((x + 4).toNatClampNeg))) + (g r ((x + 5).toNatClampNeg)))), (3, .int 5), (0, .ref (bd 3 r)), (1, .int x)]) hx hb dX7_sum_17 rfl hl (by decide) rfl (fun ls hl => ?_)
  refine lv_iinc (v := 6) (lv' := [(3, .int 6), (2, .int ((((((0 + (g r ((x + 0).toNatClampNeg))) + (g r ((x + 1).toNatClampNeg))) + (g r ((x + 2).toNatClampNeg))) + (g r ((x + 3).toNatClampNeg))) + (g r ((x + 4).toNatClampNeg))) + (g r ((x + 5).toNatClampNeg)))), (0, .ref (bd 3 r)), (1, .int x)]) hx hb dX7_sum_18 hl (k := 1) rfl (by decide) (by decide) rfl (fun ls hl => ?_)
  refine lv_goto (tgt := 4) hx hb dX7_sum_21 (by decide) ?_
  refine lv_iload_n hx hb dX7_sum_4 rfl (lv_at hl 0 rfl) ?_
  refine lv_bipush (v := 6) hx hb dX7_sum_5 (by decide) ?_
  refine lv_icmp_ge (tgt := 24) hx hb dX7_sum_7 (by decide) (fun _ => ?_) (fun c => absurd c (by decide))
  refine lv_iload_n hx hb dX7_sum_24 rfl (lv_at hl 1 rfl) ?_
  exact m_reti hx hb hr hG hC hS mEq_rf rfl hlocks dX7_sum_25
def fX7_empty (na nb nc nd T : Nat) (g : Md) (r : Nat) : Md := (u2 (u2 (u2 (u2 (u2 (u2 (u2 (u2 (u2 (u2 (u2 (u2 (u2 (u2 (u2 (u2 (u2 (u2 (u2 (u2 (u2 g r 0 0) r 1 0) r 2 0) r 3 0) r 4 0) r 5 0) r 6 0) r 7 0) r 10 0) r 11 0) r 12 0) r 13 0) r 14 0) r 15 0) r 16 0) r 17 0) r 18 0) r 19 0) r 20 0) r 21 0) r 22 0)
set_option maxRecDepth 100000 in
set_option maxHeartbeats 4000000 in
theorem kX7_empty (l : Launch) (D : va_G) (cy : Nat → ClassId) (e0 : Nat) {bd w : Nat → Nat → Nat} (g : Md) (S : Int64) (sz : Nat) (r : Nat) (hv_r : rV w r) (hn_r : rl w r = 23) : Met l yX7_empty wsX7_empty ({ frames := 0, cells := 0, slots := 0, locals := 0 } : Room) (va_Pc [.ref (bd 3 r)] (mPre D cy e0 bd w g S sz)) (mQv D cy bd w (fX7_empty (w 0 0) (w 0 1) (w 0 2) (w 0 3) (w 0 4) g r) S sz) 0 0 (mA bd w sz) := by
  refine q_start (cc := cX7_empty) (maxL := 2) (ret := none) (own := RX7) (by decide) rfl rfl (Nat.le_of_ble_eq_true rfl) ?_
  intro p e s m below meth c hx hb hr hml hts hown hlocks ⟨hsz, hC, hB⟩ ls hl
  subst hsz
  have hS : va_S (mA bd w s.heap.size) s.heap s.heap [] := va_S.rf
  have hG : mG e0 bd w s.heap.size bd w := mG.rf hB.2.2.1
  have hw0 := hC.1
  have hl : lv_has ls 2 [(0, .ref (bd 3 r))] := hl
  refine lv_iconst (v := 0) hx hb dX7_empty_0 (by decide) ?_
  refine lv_istore_n (lv' := [(1, .int 0), (0, .ref (bd 3 r))]) hx hb dX7_empty_1 rfl hl (by decide) rfl (fun ls hl => ?_)
  refine lv_iload_n hx hb dX7_empty_2 rfl (lv_at hl 0 rfl) ?_
  refine lv_bipush (v := 23) hx hb dX7_empty_3 (by decide) ?_
  refine lv_icmp_ge (tgt := 30) hx hb dX7_empty_5 (by decide) (fun c => absurd c (by decide)) (fun _ => ?_)
  refine lv_iload_n hx hb dX7_empty_8 rfl (lv_at hl 0 rfl) ?_
  refine lv_bipush (v := 8) hx hb dX7_empty_9 (by decide) ?_
  refine lv_icmp_eq (tgt := 24) hx hb dX7_empty_11 (by decide) (fun c => absurd c (by decide)) (fun _ => ?_)
  refine lv_iload_n hx hb dX7_empty_14 rfl (lv_at hl 0 rfl) ?_
  refine lv_bipush (v := 9) hx hb dX7_empty_15 (by decide) ?_
  refine lv_icmp_eq (tgt := 24) hx hb dX7_empty_17 (by decide) (fun c => absurd c (by decide)) (fun _ => ?_)
  refine lv_aload_n hx hb dX7_empty_20 rfl (lv_at hl 1 rfl) ?_
  refine lv_iload_n hx hb dX7_empty_21 rfl (lv_at hl 0 rfl) ?_
  refine lv_iconst (v := 0) hx hb dX7_empty_22 (by decide) ?_
  refine st_m hx hb hB.1 hC hS hG.2.1 hv_r hn_r (k := 0) (by decide) (by unfold vp_in; decide) dX7_empty_23 (fun H locs hC hS => ?_)
  refine lv_iinc (v := 1) (lv' := [(1, .int 1), (0, .ref (bd 3 r))]) hx hb dX7_empty_24 hl (k := 0) rfl (by decide) (by decide) rfl (fun ls hl => ?_)
  refine lv_goto (tgt := 2) hx hb dX7_empty_27 (by decide) ?_
  refine lv_iload_n hx hb dX7_empty_2 rfl (lv_at hl 0 rfl) ?_
  refine lv_bipush (v := 23) hx hb dX7_empty_3 (by decide) ?_
  refine lv_icmp_ge (tgt := 30) hx hb dX7_empty_5 (by decide) (fun c => absurd c (by decide)) (fun _ => ?_)
  refine lv_iload_n hx hb dX7_empty_8 rfl (lv_at hl 0 rfl) ?_
  refine lv_bipush (v := 8) hx hb dX7_empty_9 (by decide) ?_
  refine lv_icmp_eq (tgt := 24) hx hb dX7_empty_11 (by decide) (fun c => absurd c (by decide)) (fun _ => ?_)
  refine lv_iload_n hx hb dX7_empty_14 rfl (lv_at hl 0 rfl) ?_
  refine lv_bipush (v := 9) hx hb dX7_empty_15 (by decide) ?_
  refine lv_icmp_eq (tgt := 24) hx hb dX7_empty_17 (by decide) (fun c => absurd c (by decide)) (fun _ => ?_)
  refine lv_aload_n hx hb dX7_empty_20 rfl (lv_at hl 1 rfl) ?_
  refine lv_iload_n hx hb dX7_empty_21 rfl (lv_at hl 0 rfl) ?_
  refine lv_iconst (v := 0) hx hb dX7_empty_22 (by decide) ?_
  refine st_m hx hb hB.1 hC hS hG.2.1 hv_r hn_r (k := 1) (by decide) (by unfold vp_in; decide) dX7_empty_23 (fun H locs hC hS => ?_)
  refine lv_iinc (v := 2) (lv' := [(1, .int 2), (0, .ref (bd 3 r))]) hx hb dX7_empty_24 hl (k := 0) rfl (by decide) (by decide) rfl (fun ls hl => ?_)
  refine lv_goto (tgt := 2) hx hb dX7_empty_27 (by decide) ?_
  refine lv_iload_n hx hb dX7_empty_2 rfl (lv_at hl 0 rfl) ?_
  refine lv_bipush (v := 23) hx hb dX7_empty_3 (by decide) ?_
  refine lv_icmp_ge (tgt := 30) hx hb dX7_empty_5 (by decide) (fun c => absurd c (by decide)) (fun _ => ?_)
  refine lv_iload_n hx hb dX7_empty_8 rfl (lv_at hl 0 rfl) ?_
  refine lv_bipush (v := 8) hx hb dX7_empty_9 (by decide) ?_
  refine lv_icmp_eq (tgt := 24) hx hb dX7_empty_11 (by decide) (fun c => absurd c (by decide)) (fun _ => ?_)
  refine lv_iload_n hx hb dX7_empty_14 rfl (lv_at hl 0 rfl) ?_
  refine lv_bipush (v := 9) hx hb dX7_empty_15 (by decide) ?_
  refine lv_icmp_eq (tgt := 24) hx hb dX7_empty_17 (by decide) (fun c => absurd c (by decide)) (fun _ => ?_)
  refine lv_aload_n hx hb dX7_empty_20 rfl (lv_at hl 1 rfl) ?_
  refine lv_iload_n hx hb dX7_empty_21 rfl (lv_at hl 0 rfl) ?_
  refine lv_iconst (v := 0) hx hb dX7_empty_22 (by decide) ?_
  refine st_m hx hb hB.1 hC hS hG.2.1 hv_r hn_r (k := 2) (by decide) (by unfold vp_in; decide) dX7_empty_23 (fun H locs hC hS => ?_)
  refine lv_iinc (v := 3) (lv' := [(1, .int 3), (0, .ref (bd 3 r))]) hx hb dX7_empty_24 hl (k := 0) rfl (by decide) (by decide) rfl (fun ls hl => ?_)
  refine lv_goto (tgt := 2) hx hb dX7_empty_27 (by decide) ?_
  refine lv_iload_n hx hb dX7_empty_2 rfl (lv_at hl 0 rfl) ?_
  refine lv_bipush (v := 23) hx hb dX7_empty_3 (by decide) ?_
  refine lv_icmp_ge (tgt := 30) hx hb dX7_empty_5 (by decide) (fun c => absurd c (by decide)) (fun _ => ?_)
  refine lv_iload_n hx hb dX7_empty_8 rfl (lv_at hl 0 rfl) ?_
  refine lv_bipush (v := 8) hx hb dX7_empty_9 (by decide) ?_
  refine lv_icmp_eq (tgt := 24) hx hb dX7_empty_11 (by decide) (fun c => absurd c (by decide)) (fun _ => ?_)
  refine lv_iload_n hx hb dX7_empty_14 rfl (lv_at hl 0 rfl) ?_
  refine lv_bipush (v := 9) hx hb dX7_empty_15 (by decide) ?_
  refine lv_icmp_eq (tgt := 24) hx hb dX7_empty_17 (by decide) (fun c => absurd c (by decide)) (fun _ => ?_)
  refine lv_aload_n hx hb dX7_empty_20 rfl (lv_at hl 1 rfl) ?_
  refine lv_iload_n hx hb dX7_empty_21 rfl (lv_at hl 0 rfl) ?_
  refine lv_iconst (v := 0) hx hb dX7_empty_22 (by decide) ?_
  refine st_m hx hb hB.1 hC hS hG.2.1 hv_r hn_r (k := 3) (by decide) (by unfold vp_in; decide) dX7_empty_23 (fun H locs hC hS => ?_)
  refine lv_iinc (v := 4) (lv' := [(1, .int 4), (0, .ref (bd 3 r))]) hx hb dX7_empty_24 hl (k := 0) rfl (by decide) (by decide) rfl (fun ls hl => ?_)
  refine lv_goto (tgt := 2) hx hb dX7_empty_27 (by decide) ?_
  refine lv_iload_n hx hb dX7_empty_2 rfl (lv_at hl 0 rfl) ?_
  refine lv_bipush (v := 23) hx hb dX7_empty_3 (by decide) ?_
  refine lv_icmp_ge (tgt := 30) hx hb dX7_empty_5 (by decide) (fun c => absurd c (by decide)) (fun _ => ?_)
  refine lv_iload_n hx hb dX7_empty_8 rfl (lv_at hl 0 rfl) ?_
  refine lv_bipush (v := 8) hx hb dX7_empty_9 (by decide) ?_
  refine lv_icmp_eq (tgt := 24) hx hb dX7_empty_11 (by decide) (fun c => absurd c (by decide)) (fun _ => ?_)
  refine lv_iload_n hx hb dX7_empty_14 rfl (lv_at hl 0 rfl) ?_
  refine lv_bipush (v := 9) hx hb dX7_empty_15 (by decide) ?_
  refine lv_icmp_eq (tgt := 24) hx hb dX7_empty_17 (by decide) (fun c => absurd c (by decide)) (fun _ => ?_)
  refine lv_aload_n hx hb dX7_empty_20 rfl (lv_at hl 1 rfl) ?_
  refine lv_iload_n hx hb dX7_empty_21 rfl (lv_at hl 0 rfl) ?_
  refine lv_iconst (v := 0) hx hb dX7_empty_22 (by decide) ?_
  refine st_m hx hb hB.1 hC hS hG.2.1 hv_r hn_r (k := 4) (by decide) (by unfold vp_in; decide) dX7_empty_23 (fun H locs hC hS => ?_)
  refine lv_iinc (v := 5) (lv' := [(1, .int 5), (0, .ref (bd 3 r))]) hx hb dX7_empty_24 hl (k := 0) rfl (by decide) (by decide) rfl (fun ls hl => ?_)
  refine lv_goto (tgt := 2) hx hb dX7_empty_27 (by decide) ?_
  refine lv_iload_n hx hb dX7_empty_2 rfl (lv_at hl 0 rfl) ?_
  refine lv_bipush (v := 23) hx hb dX7_empty_3 (by decide) ?_
  refine lv_icmp_ge (tgt := 30) hx hb dX7_empty_5 (by decide) (fun c => absurd c (by decide)) (fun _ => ?_)
  refine lv_iload_n hx hb dX7_empty_8 rfl (lv_at hl 0 rfl) ?_
  refine lv_bipush (v := 8) hx hb dX7_empty_9 (by decide) ?_
  refine lv_icmp_eq (tgt := 24) hx hb dX7_empty_11 (by decide) (fun c => absurd c (by decide)) (fun _ => ?_)
  refine lv_iload_n hx hb dX7_empty_14 rfl (lv_at hl 0 rfl) ?_
  refine lv_bipush (v := 9) hx hb dX7_empty_15 (by decide) ?_
  refine lv_icmp_eq (tgt := 24) hx hb dX7_empty_17 (by decide) (fun c => absurd c (by decide)) (fun _ => ?_)
  refine lv_aload_n hx hb dX7_empty_20 rfl (lv_at hl 1 rfl) ?_
  refine lv_iload_n hx hb dX7_empty_21 rfl (lv_at hl 0 rfl) ?_
  refine lv_iconst (v := 0) hx hb dX7_empty_22 (by decide) ?_
  refine st_m hx hb hB.1 hC hS hG.2.1 hv_r hn_r (k := 5) (by decide) (by unfold vp_in; decide) dX7_empty_23 (fun H locs hC hS => ?_)
  refine lv_iinc (v := 6) (lv' := [(1, .int 6), (0, .ref (bd 3 r))]) hx hb dX7_empty_24 hl (k := 0) rfl (by decide) (by decide) rfl (fun ls hl => ?_)
  refine lv_goto (tgt := 2) hx hb dX7_empty_27 (by decide) ?_
  refine lv_iload_n hx hb dX7_empty_2 rfl (lv_at hl 0 rfl) ?_
  refine lv_bipush (v := 23) hx hb dX7_empty_3 (by decide) ?_
  refine lv_icmp_ge (tgt := 30) hx hb dX7_empty_5 (by decide) (fun c => absurd c (by decide)) (fun _ => ?_)
  refine lv_iload_n hx hb dX7_empty_8 rfl (lv_at hl 0 rfl) ?_
  refine lv_bipush (v := 8) hx hb dX7_empty_9 (by decide) ?_
  refine lv_icmp_eq (tgt := 24) hx hb dX7_empty_11 (by decide) (fun c => absurd c (by decide)) (fun _ => ?_)
  refine lv_iload_n hx hb dX7_empty_14 rfl (lv_at hl 0 rfl) ?_
  refine lv_bipush (v := 9) hx hb dX7_empty_15 (by decide) ?_
  refine lv_icmp_eq (tgt := 24) hx hb dX7_empty_17 (by decide) (fun c => absurd c (by decide)) (fun _ => ?_)
  refine lv_aload_n hx hb dX7_empty_20 rfl (lv_at hl 1 rfl) ?_
  refine lv_iload_n hx hb dX7_empty_21 rfl (lv_at hl 0 rfl) ?_
  refine lv_iconst (v := 0) hx hb dX7_empty_22 (by decide) ?_
  refine st_m hx hb hB.1 hC hS hG.2.1 hv_r hn_r (k := 6) (by decide) (by unfold vp_in; decide) dX7_empty_23 (fun H locs hC hS => ?_)
  refine lv_iinc (v := 7) (lv' := [(1, .int 7), (0, .ref (bd 3 r))]) hx hb dX7_empty_24 hl (k := 0) rfl (by decide) (by decide) rfl (fun ls hl => ?_)
  refine lv_goto (tgt := 2) hx hb dX7_empty_27 (by decide) ?_
  refine lv_iload_n hx hb dX7_empty_2 rfl (lv_at hl 0 rfl) ?_
  refine lv_bipush (v := 23) hx hb dX7_empty_3 (by decide) ?_
  refine lv_icmp_ge (tgt := 30) hx hb dX7_empty_5 (by decide) (fun c => absurd c (by decide)) (fun _ => ?_)
  refine lv_iload_n hx hb dX7_empty_8 rfl (lv_at hl 0 rfl) ?_
  refine lv_bipush (v := 8) hx hb dX7_empty_9 (by decide) ?_
  refine lv_icmp_eq (tgt := 24) hx hb dX7_empty_11 (by decide) (fun c => absurd c (by decide)) (fun _ => ?_)
  refine lv_iload_n hx hb dX7_empty_14 rfl (lv_at hl 0 rfl) ?_
  refine lv_bipush (v := 9) hx hb dX7_empty_15 (by decide) ?_
  refine lv_icmp_eq (tgt := 24) hx hb dX7_empty_17 (by decide) (fun c => absurd c (by decide)) (fun _ => ?_)
  refine lv_aload_n hx hb dX7_empty_20 rfl (lv_at hl 1 rfl) ?_
  refine lv_iload_n hx hb dX7_empty_21 rfl (lv_at hl 0 rfl) ?_
  refine lv_iconst (v := 0) hx hb dX7_empty_22 (by decide) ?_
  refine st_m hx hb hB.1 hC hS hG.2.1 hv_r hn_r (k := 7) (by decide) (by unfold vp_in; decide) dX7_empty_23 (fun H locs hC hS => ?_)
  refine lv_iinc (v := 8) (lv' := [(1, .int 8), (0, .ref (bd 3 r))]) hx hb dX7_empty_24 hl (k := 0) rfl (by decide) (by decide) rfl (fun ls hl => ?_)
  refine lv_goto (tgt := 2) hx hb dX7_empty_27 (by decide) ?_
  refine lv_iload_n hx hb dX7_empty_2 rfl (lv_at hl 0 rfl) ?_
  refine lv_bipush (v := 23) hx hb dX7_empty_3 (by decide) ?_
  refine lv_icmp_ge (tgt := 30) hx hb dX7_empty_5 (by decide) (fun c => absurd c (by decide)) (fun _ => ?_)
  refine lv_iload_n hx hb dX7_empty_8 rfl (lv_at hl 0 rfl) ?_
  refine lv_bipush (v := 8) hx hb dX7_empty_9 (by decide) ?_
  refine lv_icmp_eq (tgt := 24) hx hb dX7_empty_11 (by decide) (fun _ => ?_) (fun c => absurd c (by decide))
  refine lv_iinc (v := 9) (lv' := [(1, .int 9), (0, .ref (bd 3 r))]) hx hb dX7_empty_24 hl (k := 0) rfl (by decide) (by decide) rfl (fun ls hl => ?_)
  refine lv_goto (tgt := 2) hx hb dX7_empty_27 (by decide) ?_
  refine lv_iload_n hx hb dX7_empty_2 rfl (lv_at hl 0 rfl) ?_
  refine lv_bipush (v := 23) hx hb dX7_empty_3 (by decide) ?_
  refine lv_icmp_ge (tgt := 30) hx hb dX7_empty_5 (by decide) (fun c => absurd c (by decide)) (fun _ => ?_)
  refine lv_iload_n hx hb dX7_empty_8 rfl (lv_at hl 0 rfl) ?_
  refine lv_bipush (v := 8) hx hb dX7_empty_9 (by decide) ?_
  refine lv_icmp_eq (tgt := 24) hx hb dX7_empty_11 (by decide) (fun c => absurd c (by decide)) (fun _ => ?_)
  refine lv_iload_n hx hb dX7_empty_14 rfl (lv_at hl 0 rfl) ?_
  refine lv_bipush (v := 9) hx hb dX7_empty_15 (by decide) ?_
  refine lv_icmp_eq (tgt := 24) hx hb dX7_empty_17 (by decide) (fun _ => ?_) (fun c => absurd c (by decide))
  refine lv_iinc (v := 10) (lv' := [(1, .int 10), (0, .ref (bd 3 r))]) hx hb dX7_empty_24 hl (k := 0) rfl (by decide) (by decide) rfl (fun ls hl => ?_)
  refine lv_goto (tgt := 2) hx hb dX7_empty_27 (by decide) ?_
  refine lv_iload_n hx hb dX7_empty_2 rfl (lv_at hl 0 rfl) ?_
  refine lv_bipush (v := 23) hx hb dX7_empty_3 (by decide) ?_
  refine lv_icmp_ge (tgt := 30) hx hb dX7_empty_5 (by decide) (fun c => absurd c (by decide)) (fun _ => ?_)
  refine lv_iload_n hx hb dX7_empty_8 rfl (lv_at hl 0 rfl) ?_
  refine lv_bipush (v := 8) hx hb dX7_empty_9 (by decide) ?_
  refine lv_icmp_eq (tgt := 24) hx hb dX7_empty_11 (by decide) (fun c => absurd c (by decide)) (fun _ => ?_)
  refine lv_iload_n hx hb dX7_empty_14 rfl (lv_at hl 0 rfl) ?_
  refine lv_bipush (v := 9) hx hb dX7_empty_15 (by decide) ?_
  refine lv_icmp_eq (tgt := 24) hx hb dX7_empty_17 (by decide) (fun c => absurd c (by decide)) (fun _ => ?_)
  refine lv_aload_n hx hb dX7_empty_20 rfl (lv_at hl 1 rfl) ?_
  refine lv_iload_n hx hb dX7_empty_21 rfl (lv_at hl 0 rfl) ?_
  refine lv_iconst (v := 0) hx hb dX7_empty_22 (by decide) ?_
  refine st_m hx hb hB.1 hC hS hG.2.1 hv_r hn_r (k := 10) (by decide) (by unfold vp_in; decide) dX7_empty_23 (fun H locs hC hS => ?_)
  refine lv_iinc (v := 11) (lv' := [(1, .int 11), (0, .ref (bd 3 r))]) hx hb dX7_empty_24 hl (k := 0) rfl (by decide) (by decide) rfl (fun ls hl => ?_)
  refine lv_goto (tgt := 2) hx hb dX7_empty_27 (by decide) ?_
  refine lv_iload_n hx hb dX7_empty_2 rfl (lv_at hl 0 rfl) ?_
  refine lv_bipush (v := 23) hx hb dX7_empty_3 (by decide) ?_
  refine lv_icmp_ge (tgt := 30) hx hb dX7_empty_5 (by decide) (fun c => absurd c (by decide)) (fun _ => ?_)
  refine lv_iload_n hx hb dX7_empty_8 rfl (lv_at hl 0 rfl) ?_
  refine lv_bipush (v := 8) hx hb dX7_empty_9 (by decide) ?_
  refine lv_icmp_eq (tgt := 24) hx hb dX7_empty_11 (by decide) (fun c => absurd c (by decide)) (fun _ => ?_)
  refine lv_iload_n hx hb dX7_empty_14 rfl (lv_at hl 0 rfl) ?_
  refine lv_bipush (v := 9) hx hb dX7_empty_15 (by decide) ?_
  refine lv_icmp_eq (tgt := 24) hx hb dX7_empty_17 (by decide) (fun c => absurd c (by decide)) (fun _ => ?_)
  refine lv_aload_n hx hb dX7_empty_20 rfl (lv_at hl 1 rfl) ?_
  refine lv_iload_n hx hb dX7_empty_21 rfl (lv_at hl 0 rfl) ?_
  refine lv_iconst (v := 0) hx hb dX7_empty_22 (by decide) ?_
  refine st_m hx hb hB.1 hC hS hG.2.1 hv_r hn_r (k := 11) (by decide) (by unfold vp_in; decide) dX7_empty_23 (fun H locs hC hS => ?_)
  refine lv_iinc (v := 12) (lv' := [(1, .int 12), (0, .ref (bd 3 r))]) hx hb dX7_empty_24 hl (k := 0) rfl (by decide) (by decide) rfl (fun ls hl => ?_)
  refine lv_goto (tgt := 2) hx hb dX7_empty_27 (by decide) ?_
  refine lv_iload_n hx hb dX7_empty_2 rfl (lv_at hl 0 rfl) ?_
  refine lv_bipush (v := 23) hx hb dX7_empty_3 (by decide) ?_
  refine lv_icmp_ge (tgt := 30) hx hb dX7_empty_5 (by decide) (fun c => absurd c (by decide)) (fun _ => ?_)
  refine lv_iload_n hx hb dX7_empty_8 rfl (lv_at hl 0 rfl) ?_
  refine lv_bipush (v := 8) hx hb dX7_empty_9 (by decide) ?_
  refine lv_icmp_eq (tgt := 24) hx hb dX7_empty_11 (by decide) (fun c => absurd c (by decide)) (fun _ => ?_)
  refine lv_iload_n hx hb dX7_empty_14 rfl (lv_at hl 0 rfl) ?_
  refine lv_bipush (v := 9) hx hb dX7_empty_15 (by decide) ?_
  refine lv_icmp_eq (tgt := 24) hx hb dX7_empty_17 (by decide) (fun c => absurd c (by decide)) (fun _ => ?_)
  refine lv_aload_n hx hb dX7_empty_20 rfl (lv_at hl 1 rfl) ?_
  refine lv_iload_n hx hb dX7_empty_21 rfl (lv_at hl 0 rfl) ?_
  refine lv_iconst (v := 0) hx hb dX7_empty_22 (by decide) ?_
  refine st_m hx hb hB.1 hC hS hG.2.1 hv_r hn_r (k := 12) (by decide) (by unfold vp_in; decide) dX7_empty_23 (fun H locs hC hS => ?_)
  refine lv_iinc (v := 13) (lv' := [(1, .int 13), (0, .ref (bd 3 r))]) hx hb dX7_empty_24 hl (k := 0) rfl (by decide) (by decide) rfl (fun ls hl => ?_)
  refine lv_goto (tgt := 2) hx hb dX7_empty_27 (by decide) ?_
  refine lv_iload_n hx hb dX7_empty_2 rfl (lv_at hl 0 rfl) ?_
  refine lv_bipush (v := 23) hx hb dX7_empty_3 (by decide) ?_
  refine lv_icmp_ge (tgt := 30) hx hb dX7_empty_5 (by decide) (fun c => absurd c (by decide)) (fun _ => ?_)
  refine lv_iload_n hx hb dX7_empty_8 rfl (lv_at hl 0 rfl) ?_
  refine lv_bipush (v := 8) hx hb dX7_empty_9 (by decide) ?_
  refine lv_icmp_eq (tgt := 24) hx hb dX7_empty_11 (by decide) (fun c => absurd c (by decide)) (fun _ => ?_)
  refine lv_iload_n hx hb dX7_empty_14 rfl (lv_at hl 0 rfl) ?_
  refine lv_bipush (v := 9) hx hb dX7_empty_15 (by decide) ?_
  refine lv_icmp_eq (tgt := 24) hx hb dX7_empty_17 (by decide) (fun c => absurd c (by decide)) (fun _ => ?_)
  refine lv_aload_n hx hb dX7_empty_20 rfl (lv_at hl 1 rfl) ?_
  refine lv_iload_n hx hb dX7_empty_21 rfl (lv_at hl 0 rfl) ?_
  refine lv_iconst (v := 0) hx hb dX7_empty_22 (by decide) ?_
  refine st_m hx hb hB.1 hC hS hG.2.1 hv_r hn_r (k := 13) (by decide) (by unfold vp_in; decide) dX7_empty_23 (fun H locs hC hS => ?_)
  refine lv_iinc (v := 14) (lv' := [(1, .int 14), (0, .ref (bd 3 r))]) hx hb dX7_empty_24 hl (k := 0) rfl (by decide) (by decide) rfl (fun ls hl => ?_)
  refine lv_goto (tgt := 2) hx hb dX7_empty_27 (by decide) ?_
  refine lv_iload_n hx hb dX7_empty_2 rfl (lv_at hl 0 rfl) ?_
  refine lv_bipush (v := 23) hx hb dX7_empty_3 (by decide) ?_
  refine lv_icmp_ge (tgt := 30) hx hb dX7_empty_5 (by decide) (fun c => absurd c (by decide)) (fun _ => ?_)
  refine lv_iload_n hx hb dX7_empty_8 rfl (lv_at hl 0 rfl) ?_
  refine lv_bipush (v := 8) hx hb dX7_empty_9 (by decide) ?_
  refine lv_icmp_eq (tgt := 24) hx hb dX7_empty_11 (by decide) (fun c => absurd c (by decide)) (fun _ => ?_)
  refine lv_iload_n hx hb dX7_empty_14 rfl (lv_at hl 0 rfl) ?_
  refine lv_bipush (v := 9) hx hb dX7_empty_15 (by decide) ?_
  refine lv_icmp_eq (tgt := 24) hx hb dX7_empty_17 (by decide) (fun c => absurd c (by decide)) (fun _ => ?_)
  refine lv_aload_n hx hb dX7_empty_20 rfl (lv_at hl 1 rfl) ?_
  refine lv_iload_n hx hb dX7_empty_21 rfl (lv_at hl 0 rfl) ?_
  refine lv_iconst (v := 0) hx hb dX7_empty_22 (by decide) ?_
  refine st_m hx hb hB.1 hC hS hG.2.1 hv_r hn_r (k := 14) (by decide) (by unfold vp_in; decide) dX7_empty_23 (fun H locs hC hS => ?_)
  refine lv_iinc (v := 15) (lv' := [(1, .int 15), (0, .ref (bd 3 r))]) hx hb dX7_empty_24 hl (k := 0) rfl (by decide) (by decide) rfl (fun ls hl => ?_)
  refine lv_goto (tgt := 2) hx hb dX7_empty_27 (by decide) ?_
  refine lv_iload_n hx hb dX7_empty_2 rfl (lv_at hl 0 rfl) ?_
  refine lv_bipush (v := 23) hx hb dX7_empty_3 (by decide) ?_
  refine lv_icmp_ge (tgt := 30) hx hb dX7_empty_5 (by decide) (fun c => absurd c (by decide)) (fun _ => ?_)
  refine lv_iload_n hx hb dX7_empty_8 rfl (lv_at hl 0 rfl) ?_
  refine lv_bipush (v := 8) hx hb dX7_empty_9 (by decide) ?_
  refine lv_icmp_eq (tgt := 24) hx hb dX7_empty_11 (by decide) (fun c => absurd c (by decide)) (fun _ => ?_)
  refine lv_iload_n hx hb dX7_empty_14 rfl (lv_at hl 0 rfl) ?_
  refine lv_bipush (v := 9) hx hb dX7_empty_15 (by decide) ?_
  refine lv_icmp_eq (tgt := 24) hx hb dX7_empty_17 (by decide) (fun c => absurd c (by decide)) (fun _ => ?_)
  refine lv_aload_n hx hb dX7_empty_20 rfl (lv_at hl 1 rfl) ?_
  refine lv_iload_n hx hb dX7_empty_21 rfl (lv_at hl 0 rfl) ?_
  refine lv_iconst (v := 0) hx hb dX7_empty_22 (by decide) ?_
  refine st_m hx hb hB.1 hC hS hG.2.1 hv_r hn_r (k := 15) (by decide) (by unfold vp_in; decide) dX7_empty_23 (fun H locs hC hS => ?_)
  refine lv_iinc (v := 16) (lv' := [(1, .int 16), (0, .ref (bd 3 r))]) hx hb dX7_empty_24 hl (k := 0) rfl (by decide) (by decide) rfl (fun ls hl => ?_)
  refine lv_goto (tgt := 2) hx hb dX7_empty_27 (by decide) ?_
  refine lv_iload_n hx hb dX7_empty_2 rfl (lv_at hl 0 rfl) ?_
  refine lv_bipush (v := 23) hx hb dX7_empty_3 (by decide) ?_
  refine lv_icmp_ge (tgt := 30) hx hb dX7_empty_5 (by decide) (fun c => absurd c (by decide)) (fun _ => ?_)
  refine lv_iload_n hx hb dX7_empty_8 rfl (lv_at hl 0 rfl) ?_
  refine lv_bipush (v := 8) hx hb dX7_empty_9 (by decide) ?_
  refine lv_icmp_eq (tgt := 24) hx hb dX7_empty_11 (by decide) (fun c => absurd c (by decide)) (fun _ => ?_)
  refine lv_iload_n hx hb dX7_empty_14 rfl (lv_at hl 0 rfl) ?_
  refine lv_bipush (v := 9) hx hb dX7_empty_15 (by decide) ?_
  refine lv_icmp_eq (tgt := 24) hx hb dX7_empty_17 (by decide) (fun c => absurd c (by decide)) (fun _ => ?_)
  refine lv_aload_n hx hb dX7_empty_20 rfl (lv_at hl 1 rfl) ?_
  refine lv_iload_n hx hb dX7_empty_21 rfl (lv_at hl 0 rfl) ?_
  refine lv_iconst (v := 0) hx hb dX7_empty_22 (by decide) ?_
  refine st_m hx hb hB.1 hC hS hG.2.1 hv_r hn_r (k := 16) (by decide) (by unfold vp_in; decide) dX7_empty_23 (fun H locs hC hS => ?_)
  refine lv_iinc (v := 17) (lv' := [(1, .int 17), (0, .ref (bd 3 r))]) hx hb dX7_empty_24 hl (k := 0) rfl (by decide) (by decide) rfl (fun ls hl => ?_)
  refine lv_goto (tgt := 2) hx hb dX7_empty_27 (by decide) ?_
  refine lv_iload_n hx hb dX7_empty_2 rfl (lv_at hl 0 rfl) ?_
  refine lv_bipush (v := 23) hx hb dX7_empty_3 (by decide) ?_
  refine lv_icmp_ge (tgt := 30) hx hb dX7_empty_5 (by decide) (fun c => absurd c (by decide)) (fun _ => ?_)
  refine lv_iload_n hx hb dX7_empty_8 rfl (lv_at hl 0 rfl) ?_
  refine lv_bipush (v := 8) hx hb dX7_empty_9 (by decide) ?_
  refine lv_icmp_eq (tgt := 24) hx hb dX7_empty_11 (by decide) (fun c => absurd c (by decide)) (fun _ => ?_)
  refine lv_iload_n hx hb dX7_empty_14 rfl (lv_at hl 0 rfl) ?_
  refine lv_bipush (v := 9) hx hb dX7_empty_15 (by decide) ?_
  refine lv_icmp_eq (tgt := 24) hx hb dX7_empty_17 (by decide) (fun c => absurd c (by decide)) (fun _ => ?_)
  refine lv_aload_n hx hb dX7_empty_20 rfl (lv_at hl 1 rfl) ?_
  refine lv_iload_n hx hb dX7_empty_21 rfl (lv_at hl 0 rfl) ?_
  refine lv_iconst (v := 0) hx hb dX7_empty_22 (by decide) ?_
  refine st_m hx hb hB.1 hC hS hG.2.1 hv_r hn_r (k := 17) (by decide) (by unfold vp_in; decide) dX7_empty_23 (fun H locs hC hS => ?_)
  refine lv_iinc (v := 18) (lv' := [(1, .int 18), (0, .ref (bd 3 r))]) hx hb dX7_empty_24 hl (k := 0) rfl (by decide) (by decide) rfl (fun ls hl => ?_)
  refine lv_goto (tgt := 2) hx hb dX7_empty_27 (by decide) ?_
  refine lv_iload_n hx hb dX7_empty_2 rfl (lv_at hl 0 rfl) ?_
  refine lv_bipush (v := 23) hx hb dX7_empty_3 (by decide) ?_
  refine lv_icmp_ge (tgt := 30) hx hb dX7_empty_5 (by decide) (fun c => absurd c (by decide)) (fun _ => ?_)
  refine lv_iload_n hx hb dX7_empty_8 rfl (lv_at hl 0 rfl) ?_
  refine lv_bipush (v := 8) hx hb dX7_empty_9 (by decide) ?_
  refine lv_icmp_eq (tgt := 24) hx hb dX7_empty_11 (by decide) (fun c => absurd c (by decide)) (fun _ => ?_)
  refine lv_iload_n hx hb dX7_empty_14 rfl (lv_at hl 0 rfl) ?_
  refine lv_bipush (v := 9) hx hb dX7_empty_15 (by decide) ?_
  refine lv_icmp_eq (tgt := 24) hx hb dX7_empty_17 (by decide) (fun c => absurd c (by decide)) (fun _ => ?_)
  refine lv_aload_n hx hb dX7_empty_20 rfl (lv_at hl 1 rfl) ?_
  refine lv_iload_n hx hb dX7_empty_21 rfl (lv_at hl 0 rfl) ?_
  refine lv_iconst (v := 0) hx hb dX7_empty_22 (by decide) ?_
  refine st_m hx hb hB.1 hC hS hG.2.1 hv_r hn_r (k := 18) (by decide) (by unfold vp_in; decide) dX7_empty_23 (fun H locs hC hS => ?_)
  refine lv_iinc (v := 19) (lv' := [(1, .int 19), (0, .ref (bd 3 r))]) hx hb dX7_empty_24 hl (k := 0) rfl (by decide) (by decide) rfl (fun ls hl => ?_)
  refine lv_goto (tgt := 2) hx hb dX7_empty_27 (by decide) ?_
  refine lv_iload_n hx hb dX7_empty_2 rfl (lv_at hl 0 rfl) ?_
  refine lv_bipush (v := 23) hx hb dX7_empty_3 (by decide) ?_
  refine lv_icmp_ge (tgt := 30) hx hb dX7_empty_5 (by decide) (fun c => absurd c (by decide)) (fun _ => ?_)
  refine lv_iload_n hx hb dX7_empty_8 rfl (lv_at hl 0 rfl) ?_
  refine lv_bipush (v := 8) hx hb dX7_empty_9 (by decide) ?_
  refine lv_icmp_eq (tgt := 24) hx hb dX7_empty_11 (by decide) (fun c => absurd c (by decide)) (fun _ => ?_)
  refine lv_iload_n hx hb dX7_empty_14 rfl (lv_at hl 0 rfl) ?_
  refine lv_bipush (v := 9) hx hb dX7_empty_15 (by decide) ?_
  refine lv_icmp_eq (tgt := 24) hx hb dX7_empty_17 (by decide) (fun c => absurd c (by decide)) (fun _ => ?_)
  refine lv_aload_n hx hb dX7_empty_20 rfl (lv_at hl 1 rfl) ?_
  refine lv_iload_n hx hb dX7_empty_21 rfl (lv_at hl 0 rfl) ?_
  refine lv_iconst (v := 0) hx hb dX7_empty_22 (by decide) ?_
  refine st_m hx hb hB.1 hC hS hG.2.1 hv_r hn_r (k := 19) (by decide) (by unfold vp_in; decide) dX7_empty_23 (fun H locs hC hS => ?_)
  refine lv_iinc (v := 20) (lv' := [(1, .int 20), (0, .ref (bd 3 r))]) hx hb dX7_empty_24 hl (k := 0) rfl (by decide) (by decide) rfl (fun ls hl => ?_)
  refine lv_goto (tgt := 2) hx hb dX7_empty_27 (by decide) ?_
  refine lv_iload_n hx hb dX7_empty_2 rfl (lv_at hl 0 rfl) ?_
  refine lv_bipush (v := 23) hx hb dX7_empty_3 (by decide) ?_
  refine lv_icmp_ge (tgt := 30) hx hb dX7_empty_5 (by decide) (fun c => absurd c (by decide)) (fun _ => ?_)
  refine lv_iload_n hx hb dX7_empty_8 rfl (lv_at hl 0 rfl) ?_
  refine lv_bipush (v := 8) hx hb dX7_empty_9 (by decide) ?_
  refine lv_icmp_eq (tgt := 24) hx hb dX7_empty_11 (by decide) (fun c => absurd c (by decide)) (fun _ => ?_)
  refine lv_iload_n hx hb dX7_empty_14 rfl (lv_at hl 0 rfl) ?_
  refine lv_bipush (v := 9) hx hb dX7_empty_15 (by decide) ?_
  refine lv_icmp_eq (tgt := 24) hx hb dX7_empty_17 (by decide) (fun c => absurd c (by decide)) (fun _ => ?_)
  refine lv_aload_n hx hb dX7_empty_20 rfl (lv_at hl 1 rfl) ?_
  refine lv_iload_n hx hb dX7_empty_21 rfl (lv_at hl 0 rfl) ?_
  refine lv_iconst (v := 0) hx hb dX7_empty_22 (by decide) ?_
  refine st_m hx hb hB.1 hC hS hG.2.1 hv_r hn_r (k := 20) (by decide) (by unfold vp_in; decide) dX7_empty_23 (fun H locs hC hS => ?_)
  refine lv_iinc (v := 21) (lv' := [(1, .int 21), (0, .ref (bd 3 r))]) hx hb dX7_empty_24 hl (k := 0) rfl (by decide) (by decide) rfl (fun ls hl => ?_)
  refine lv_goto (tgt := 2) hx hb dX7_empty_27 (by decide) ?_
  refine lv_iload_n hx hb dX7_empty_2 rfl (lv_at hl 0 rfl) ?_
  refine lv_bipush (v := 23) hx hb dX7_empty_3 (by decide) ?_
  refine lv_icmp_ge (tgt := 30) hx hb dX7_empty_5 (by decide) (fun c => absurd c (by decide)) (fun _ => ?_)
  refine lv_iload_n hx hb dX7_empty_8 rfl (lv_at hl 0 rfl) ?_
  refine lv_bipush (v := 8) hx hb dX7_empty_9 (by decide) ?_
  refine lv_icmp_eq (tgt := 24) hx hb dX7_empty_11 (by decide) (fun c => absurd c (by decide)) (fun _ => ?_)
  refine lv_iload_n hx hb dX7_empty_14 rfl (lv_at hl 0 rfl) ?_
  refine lv_bipush (v := 9) hx hb dX7_empty_15 (by decide) ?_
  refine lv_icmp_eq (tgt := 24) hx hb dX7_empty_17 (by decide) (fun c => absurd c (by decide)) (fun _ => ?_)
  refine lv_aload_n hx hb dX7_empty_20 rfl (lv_at hl 1 rfl) ?_
  refine lv_iload_n hx hb dX7_empty_21 rfl (lv_at hl 0 rfl) ?_
  refine lv_iconst (v := 0) hx hb dX7_empty_22 (by decide) ?_
  refine st_m hx hb hB.1 hC hS hG.2.1 hv_r hn_r (k := 21) (by decide) (by unfold vp_in; decide) dX7_empty_23 (fun H locs hC hS => ?_)
  refine lv_iinc (v := 22) (lv' := [(1, .int 22), (0, .ref (bd 3 r))]) hx hb dX7_empty_24 hl (k := 0) rfl (by decide) (by decide) rfl (fun ls hl => ?_)
  refine lv_goto (tgt := 2) hx hb dX7_empty_27 (by decide) ?_
  refine lv_iload_n hx hb dX7_empty_2 rfl (lv_at hl 0 rfl) ?_
  refine lv_bipush (v := 23) hx hb dX7_empty_3 (by decide) ?_
  refine lv_icmp_ge (tgt := 30) hx hb dX7_empty_5 (by decide) (fun c => absurd c (by decide)) (fun _ => ?_)
  refine lv_iload_n hx hb dX7_empty_8 rfl (lv_at hl 0 rfl) ?_
  refine lv_bipush (v := 8) hx hb dX7_empty_9 (by decide) ?_
  refine lv_icmp_eq (tgt := 24) hx hb dX7_empty_11 (by decide) (fun c => absurd c (by decide)) (fun _ => ?_)
  refine lv_iload_n hx hb dX7_empty_14 rfl (lv_at hl 0 rfl) ?_
  refine lv_bipush (v := 9) hx hb dX7_empty_15 (by decide) ?_
  refine lv_icmp_eq (tgt := 24) hx hb dX7_empty_17 (by decide) (fun c => absurd c (by decide)) (fun _ => ?_)
  refine lv_aload_n hx hb dX7_empty_20 rfl (lv_at hl 1 rfl) ?_
  refine lv_iload_n hx hb dX7_empty_21 rfl (lv_at hl 0 rfl) ?_
  refine lv_iconst (v := 0) hx hb dX7_empty_22 (by decide) ?_
  refine st_m hx hb hB.1 hC hS hG.2.1 hv_r hn_r (k := 22) (by decide) (by unfold vp_in; decide) dX7_empty_23 (fun H locs hC hS => ?_)
  refine lv_iinc (v := 23) (lv' := [(1, .int 23), (0, .ref (bd 3 r))]) hx hb dX7_empty_24 hl (k := 0) rfl (by decide) (by decide) rfl (fun ls hl => ?_)
  refine lv_goto (tgt := 2) hx hb dX7_empty_27 (by decide) ?_
  refine lv_iload_n hx hb dX7_empty_2 rfl (lv_at hl 0 rfl) ?_
  refine lv_bipush (v := 23) hx hb dX7_empty_3 (by decide) ?_
  refine lv_icmp_ge (tgt := 30) hx hb dX7_empty_5 (by decide) (fun _ => ?_) (fun c => absurd c (by decide))
  exact m_retv hx hb hr hG hC hS (mEq_of rfl) hlocks dX7_empty_30
def fX7_dries (na nb nc nd T : Nat) (g : Md) (r : Nat) (x : Int32) : Int32 := if (g r 9) = 1 then (((x * 10) / (10 + ((g r 0) / (g r 8)))) / 4) else ((x * 10) / (10 + ((g r 0) / (g r 8))))
set_option maxRecDepth 100000 in
set_option maxHeartbeats 4000000 in
theorem kX7_dries (l : Launch) (D : va_G) (cy : Nat → ClassId) (e0 : Nat) {bd w : Nat → Nat → Nat} (g : Md) (S : Int64) (sz : Nat) (r : Nat) (hv_r : rV w r) (hn_r : rl w r = 23) (x : Int32) (ha : ¬ g r 8 = 0) (hd : ¬ 10 + g r 0 / g r 8 = 0) : Met l yX7_dries wsX7_dries ({ frames := 0, cells := 0, slots := 0, locals := 0 } : Room) (va_Pc [.ref (bd 3 r), .int x] (mPre D cy e0 bd w g S sz)) (mQi D cy bd w (fX7_dries (w 0 0) (w 0 1) (w 0 2) (w 0 3) (w 0 4) g r x) g S sz) 0 0 (mA bd w sz) := by
  refine q_start (cc := cX7_dries) (maxL := 3) (ret := (some .int)) (own := RX7) (by decide) rfl rfl (Nat.le_of_ble_eq_true rfl) ?_
  intro p e s m below meth c hx hb hr hml hts hown hlocks ⟨hsz, hC, hB⟩ ls hl
  subst hsz
  have hS : va_S (mA bd w s.heap.size) s.heap s.heap [] := va_S.rf
  have hG : mG e0 bd w s.heap.size bd w := mG.rf hB.2.2.1
  have hw0 := hC.1
  have hl : lv_has ls 3 [(0, .ref (bd 3 r)), (1, .int x)] := hl
  refine lv_iload_n hx hb dX7_dries_0 rfl (lv_at hl 1 rfl) ?_
  refine lv_bipush (v := 10) hx hb dX7_dries_1 (by decide) ?_
  refine lv_imul hx hb dX7_dries_3 ?_
  refine lv_bipush (v := 10) hx hb dX7_dries_4 (by decide) ?_
  refine lv_aload_n hx hb dX7_dries_6 rfl (lv_at hl 0 rfl) ?_
  refine lv_iconst (v := 0) hx hb dX7_dries_7 (by decide) ?_
  refine ld_m hx hb hB.1 hC hv_r hn_r (k := 0) (by decide) (by unfold vp_in; decide) dX7_dries_8 ?_
  refine lv_aload_n hx hb dX7_dries_9 rfl (lv_at hl 0 rfl) ?_
  refine lv_bipush (v := 8) hx hb dX7_dries_10 (by decide) ?_
  refine ld_m hx hb hB.1 hC hv_r hn_r (k := 8) (by decide) (by unfold vp_in; decide) dX7_dries_12 ?_
  refine lv_idiv hx hb dX7_dries_13 ha ?_
  refine lv_iadd hx hb dX7_dries_14 ?_
  refine lv_idiv hx hb dX7_dries_15 hd ?_
  refine lv_istore_n (lv' := [(2, .int ((x * 10) / (10 + ((g r 0) / (g r 8))))), (0, .ref (bd 3 r)), (1, .int x)]) hx hb dX7_dries_16 rfl hl (by decide) rfl (fun ls hl => ?_)
  refine lv_aload_n hx hb dX7_dries_17 rfl (lv_at hl 1 rfl) ?_
  refine lv_bipush (v := 9) hx hb dX7_dries_18 (by decide) ?_
  refine ld_m hx hb hB.1 hC hv_r hn_r (k := 9) (by decide) (by unfold vp_in; decide) dX7_dries_20 ?_
  refine lv_iconst (v := 1) hx hb dX7_dries_21 (by decide) ?_
  refine lv_icmp_ne (tgt := 31) hx hb dX7_dries_22 (by decide) (fun c1 => ?_) (fun c1 => ?_)
  · skip
    refine lv_iload_n hx hb dX7_dries_31 rfl (lv_at hl 0 rfl) ?_
    exact m_reti hx hb hr hG hC hS mEq_rf (by unfold fX7_dries; rw [if_neg c1]) hlocks dX7_dries_32
  · skip
    refine lv_iload_n hx hb dX7_dries_25 rfl (lv_at hl 0 rfl) ?_
    refine lv_iconst (v := 4) hx hb dX7_dries_26 (by decide) ?_
    refine lv_idiv hx hb dX7_dries_27 (by decide) ?_
    refine lv_goto (tgt := 32) hx hb dX7_dries_28 (by decide) ?_
    exact m_reti hx hb hr hG hC hS mEq_rf (by unfold fX7_dries; rw [if_pos c1]) hlocks dX7_dries_32
def fX7_dry (na nb nc nd T : Nat) (g : Md) (r : Nat) (tm : Int32) (wm : Int32) : Md := if (fX7_is tm 8 17) = 0 then (g) else ((u2 g r 5 (if 80 < ((g r 5) - (fX7_dries na nb nc nd T g r wm)) then ((g r 5) - (fX7_dries na nb nc nd T g r wm)) else 80)))
theorem qX7_dry_w1 : Cond.methodLink RX7 86 Lib.Math.max.name ∈ wsX7_dry := List.mem_of_getElem? (i := 1) rfl
theorem qX7_dry_w2 : Cond.static Lib.Math.max.name ∈ wsX7_dry := List.mem_of_getElem? (i := 2) rfl
theorem qX7_dry_w3 : Cond.initialized "java/lang/Math" ∈ wsX7_dry := List.mem_of_getElem? (i := 3) rfl
theorem qX7_dry_w4 : Cond.code Lib.Math.max.name Lib.Math.max.code 2 (some .int) ∈ wsX7_dry := List.mem_of_getElem? (i := 4) rfl
set_option maxRecDepth 100000 in
set_option maxHeartbeats 4000000 in
theorem kX7_dry (l : Launch) (D : va_G) (cy : Nat → ClassId) (e0 : Nat) {bd w : Nat → Nat → Nat} (g : Md) (S : Int64) (sz : Nat) (r : Nat) (hv_r : rV w r) (hn_r : rl w r = 23) (tm : Int32) (wm : Int32) (ha : ¬ g r 8 = 0) (hd : ¬ 10 + g r 0 / g r 8 = 0) : Met l yX7_dry wsX7_dry ({ frames := 1, cells := 0, slots := 0, locals := 22 } : Room) (va_Pc [.ref (bd 3 r), .int tm, .int wm] (mPre D cy e0 bd w g S sz)) (mQv D cy bd w (fX7_dry (w 0 0) (w 0 1) (w 0 2) (w 0 3) (w 0 4) g r tm wm) S sz) 0 0 (mA bd w sz) := by
  refine q_start (cc := cX7_dry) (maxL := 3) (ret := none) (own := RX7) (by decide) rfl rfl (Nat.le_of_ble_eq_true rfl) ?_
  intro p e s m below meth c hx hb hr hml hts hown hlocks ⟨hsz, hC, hB⟩ ls hl
  subst hsz
  have hS : va_S (mA bd w s.heap.size) s.heap s.heap [] := va_S.rf
  have hG : mG e0 bd w s.heap.size bd w := mG.rf hB.2.2.1
  have hw0 := hC.1
  have hl : lv_has ls 3 [(0, .ref (bd 3 r)), (1, .int tm), (2, .int wm)] := hl
  refine lv_iload_n hx hb dX7_dry_0 rfl (lv_at hl 1 rfl) ?_
  refine lv_bipush (v := 8) hx hb dX7_dry_1 (by decide) ?_
  refine lv_bipush (v := 17) hx hb dX7_dry_3 (by decide) ?_
  refine m_callSi (As := [.int tm, .int 8, .int 17])  ⟨hx, hb, hml, hown, hts⟩ (kX7_is l D cy e0 (bd := bd) (w := w) g S _ tm 8 17 ) (va_cwS 3 hts gX7_dry_X7_is rfl rfl rfl (by decide +kernel) ⟨Nat.le_of_ble_eq_true rfl, Nat.le_of_ble_eq_true rfl⟩) hB hG.2 hC hS rfl hl.1 (Nat.le_of_ble_eq_true rfl) dX7_dry_5 ⟨Nat.le_of_ble_eq_true rfl, Nat.le_of_ble_eq_true rfl⟩ (fun H locs hC hS => ?_)
  refine lv_if_eq (tgt := 28) hx hb dX7_dry_8 (by decide) (fun c1 => ?_) (fun c1 => ?_)
  · skip
    exact m_retv hx hb hr hG hC hS (mEq_of (Eq.symm (by unfold fX7_dry; rw [if_pos c1]))) hlocks dX7_dry_28
  · skip
    refine lv_aload_n hx hb dX7_dry_11 rfl (lv_at hl 0 rfl) ?_
    refine lv_iconst (v := 5) hx hb dX7_dry_12 (by decide) ?_
    refine lv_bipush (v := 80) hx hb dX7_dry_13 (by decide) ?_
    refine lv_aload_n hx hb dX7_dry_15 rfl (lv_at hl 0 rfl) ?_
    refine lv_iconst (v := 5) hx hb dX7_dry_16 (by decide) ?_
    refine ld_m hx hb hB.1 hC hv_r hn_r (k := 5) (by decide) (by unfold vp_in; decide) dX7_dry_17 ?_
    refine lv_aload_n hx hb dX7_dry_18 rfl (lv_at hl 0 rfl) ?_
    refine lv_iload_n hx hb dX7_dry_19 rfl (lv_at hl 2 rfl) ?_
    refine m_callSi (As := [.ref (bd 3 r), .int wm])  ⟨hx, hb, hml, hown, hts⟩ (kX7_dries l D cy e0 (bd := bd) (w := w) g S _ r hv_r hn_r wm ha hd) (va_cwS 2 hts gX7_dry_X7_dries rfl rfl rfl (by decide +kernel) ⟨Nat.le_of_ble_eq_true rfl, Nat.le_of_ble_eq_true rfl⟩) hB hG.2 hC hS rfl hl.1 (Nat.le_of_ble_eq_true rfl) dX7_dry_20 ⟨Nat.le_of_ble_eq_true rfl, Nat.le_of_ble_eq_true rfl⟩ (fun H locs hC hS => ?_)
    refine lv_isub hx hb dX7_dry_23 ?_
    refine va_mmax hx hb (hml.trans hl.1.symm) hown (hts _ qX7_dry_w1) (hts _ qX7_dry_w2) (hts _ qX7_dry_w3) (hts _ qX7_dry_w4) (Nat.le_of_ble_eq_true rfl) (Nat.le_of_ble_eq_true rfl) (Nat.le_of_ble_eq_true rfl) (Nat.le_of_ble_eq_true rfl) dX7_dry_24 ?_
    refine st_m hx hb hB.1 hC hS hG.2.1 hv_r hn_r (k := 5) (by decide) (by unfold vp_in; decide) dX7_dry_27 (fun H locs hC hS => ?_)
    exact m_retv hx hb hr hG hC hS (mEq_of (Eq.symm (by unfold fX7_dry; rw [if_neg c1]))) hlocks dX7_dry_28
def fX7_fault (na nb nc nd T : Nat) (g : Md) (r : Nat) (x : Int32) : Int32 := if x = 1 then ((100 - (g r 1)) / 5) else (if x = 2 then (if (g r 4) = 0 then (if 60 ≤ (g r 3) then ((if 0 < ((g r 3) - 100) then ((g r 3) - 100) else 0) / 5) else ((60 - (g r 3)) / 5)) else (0)) else (if x = 3 then (if (g r 4) = 2 then ((g r 7) * 2) else ((g r 7) * 1)) else (if x = 4 then (if (g r 5) ≤ 125 then ((if 0 < (95 - (g r 5)) then (95 - (g r 5)) else 0) / 5) else (((g r 5) - 125) / 10)) else ((g r 2) / 30))))
theorem qX7_fault_w1 : Cond.methodLink RX7 86 Lib.Math.max.name ∈ wsX7_fault := List.mem_of_getElem? (i := 1) rfl
theorem qX7_fault_w2 : Cond.static Lib.Math.max.name ∈ wsX7_fault := List.mem_of_getElem? (i := 2) rfl
theorem qX7_fault_w3 : Cond.initialized "java/lang/Math" ∈ wsX7_fault := List.mem_of_getElem? (i := 3) rfl
theorem qX7_fault_w4 : Cond.code Lib.Math.max.name Lib.Math.max.code 2 (some .int) ∈ wsX7_fault := List.mem_of_getElem? (i := 4) rfl
set_option maxRecDepth 100000 in
set_option maxHeartbeats 4000000 in
theorem kX7_fault (l : Launch) (D : va_G) (cy : Nat → ClassId) (e0 : Nat) {bd w : Nat → Nat → Nat} (g : Md) (S : Int64) (sz : Nat) (r : Nat) (hv_r : rV w r) (hn_r : rl w r = 23) (x : Int32) : Met l yX7_fault wsX7_fault ({ frames := 1, cells := 0, slots := 0, locals := 13 } : Room) (va_Pc [.ref (bd 3 r), .int x] (mPre D cy e0 bd w g S sz)) (mQi D cy bd w (fX7_fault (w 0 0) (w 0 1) (w 0 2) (w 0 3) (w 0 4) g r x) g S sz) 0 0 (mA bd w sz) := by
  refine q_start (cc := cX7_fault) (maxL := 4) (ret := (some .int)) (own := RX7) (by decide) rfl rfl (Nat.le_of_ble_eq_true rfl) ?_
  intro p e s m below meth c hx hb hr hml hts hown hlocks ⟨hsz, hC, hB⟩ ls hl
  subst hsz
  have hS : va_S (mA bd w s.heap.size) s.heap s.heap [] := va_S.rf
  have hG : mG e0 bd w s.heap.size bd w := mG.rf hB.2.2.1
  have hw0 := hC.1
  have hl : lv_has ls 4 [(0, .ref (bd 3 r)), (1, .int x)] := hl
  refine lv_aload_n hx hb dX7_fault_0 rfl (lv_at hl 0 rfl) ?_
  refine lv_iconst (v := 3) hx hb dX7_fault_1 (by decide) ?_
  refine ld_m hx hb hB.1 hC hv_r hn_r (k := 3) (by decide) (by unfold vp_in; decide) dX7_fault_2 ?_
  refine lv_istore_n (lv' := [(2, .int (g r 3)), (0, .ref (bd 3 r)), (1, .int x)]) hx hb dX7_fault_3 rfl hl (by decide) rfl (fun ls hl => ?_)
  refine lv_aload_n hx hb dX7_fault_4 rfl (lv_at hl 1 rfl) ?_
  refine lv_iconst (v := 5) hx hb dX7_fault_5 (by decide) ?_
  refine ld_m hx hb hB.1 hC hv_r hn_r (k := 5) (by decide) (by unfold vp_in; decide) dX7_fault_6 ?_
  refine lv_istore_n (lv' := [(3, .int (g r 5)), (2, .int (g r 3)), (0, .ref (bd 3 r)), (1, .int x)]) hx hb dX7_fault_7 rfl hl (by decide) rfl (fun ls hl => ?_)
  refine lv_iload_n hx hb dX7_fault_8 rfl (lv_at hl 3 rfl) ?_
  by_cases c1 : x = 1
  · refine q_sw (k := 1) c1 ?_
    refine lv_tableIn (x := 1) (off := 31) (tgt := 40) hx hb dX7_fault_9 (by decide) (by decide) rfl (by decide) ?_
    refine lv_bipush (v := 100) hx hb dX7_fault_40 (by decide) ?_
    refine lv_aload_n hx hb dX7_fault_42 rfl (lv_at hl 2 rfl) ?_
    refine lv_iconst (v := 1) hx hb dX7_fault_43 (by decide) ?_
    refine ld_m hx hb hB.1 hC hv_r hn_r (k := 1) (by decide) (by unfold vp_in; decide) dX7_fault_44 ?_
    refine lv_isub hx hb dX7_fault_45 ?_
    refine lv_iconst (v := 5) hx hb dX7_fault_46 (by decide) ?_
    refine lv_idiv hx hb dX7_fault_47 (by decide) ?_
    exact m_reti hx hb hr hG hC hS mEq_rf (by unfold fX7_fault; rw [if_pos c1]) hlocks dX7_fault_48
  by_cases c2 : x = 2
  · refine q_sw (k := 2) c2 ?_
    refine lv_tableIn (x := 2) (off := 40) (tgt := 49) hx hb dX7_fault_9 (by decide) (by decide) rfl (by decide) ?_
    refine lv_aload_n hx hb dX7_fault_49 rfl (lv_at hl 2 rfl) ?_
    refine lv_iconst (v := 4) hx hb dX7_fault_50 (by decide) ?_
    refine ld_m hx hb hB.1 hC hv_r hn_r (k := 4) (by decide) (by unfold vp_in; decide) dX7_fault_51 ?_
    refine lv_if_eq (tgt := 59) hx hb dX7_fault_52 (by decide) (fun c3 => ?_) (fun c3 => ?_)
    · skip
      refine lv_iload_n hx hb dX7_fault_59 rfl (lv_at hl 1 rfl) ?_
      refine lv_bipush (v := 60) hx hb dX7_fault_60 (by decide) ?_
      refine lv_icmp_ge (tgt := 74) hx hb dX7_fault_62 (by decide) (fun c4 => ?_) (fun c4 => ?_)
      · skip
        refine lv_iconst (v := 0) hx hb dX7_fault_74 (by decide) ?_
        refine lv_iload_n hx hb dX7_fault_75 rfl (lv_at hl 1 rfl) ?_
        refine lv_bipush (v := 100) hx hb dX7_fault_76 (by decide) ?_
        refine lv_isub hx hb dX7_fault_78 ?_
        refine va_mmax hx hb (hml.trans hl.1.symm) hown (hts _ qX7_fault_w1) (hts _ qX7_fault_w2) (hts _ qX7_fault_w3) (hts _ qX7_fault_w4) (Nat.le_of_ble_eq_true rfl) (Nat.le_of_ble_eq_true rfl) (Nat.le_of_ble_eq_true rfl) (Nat.le_of_ble_eq_true rfl) dX7_fault_79 ?_
        refine lv_iconst (v := 5) hx hb dX7_fault_82 (by decide) ?_
        refine lv_idiv hx hb dX7_fault_83 (by decide) ?_
        exact m_reti hx hb hr hG hC hS mEq_rf (by unfold fX7_fault; rw [if_neg c1, if_pos c2, if_pos c3, if_pos c4]) hlocks dX7_fault_84
      · skip
        refine lv_bipush (v := 60) hx hb dX7_fault_65 (by decide) ?_
        refine lv_iload_n hx hb dX7_fault_67 rfl (lv_at hl 1 rfl) ?_
        refine lv_isub hx hb dX7_fault_68 ?_
        refine lv_iconst (v := 5) hx hb dX7_fault_69 (by decide) ?_
        refine lv_idiv hx hb dX7_fault_70 (by decide) ?_
        refine lv_goto (tgt := 84) hx hb dX7_fault_71 (by decide) ?_
        exact m_reti hx hb hr hG hC hS mEq_rf (by unfold fX7_fault; rw [if_neg c1, if_pos c2, if_pos c3, if_neg c4]) hlocks dX7_fault_84
    · skip
      refine lv_iconst (v := 0) hx hb dX7_fault_55 (by decide) ?_
      refine lv_goto (tgt := 84) hx hb dX7_fault_56 (by decide) ?_
      exact m_reti hx hb hr hG hC hS mEq_rf (by unfold fX7_fault; rw [if_neg c1, if_pos c2, if_neg c3]) hlocks dX7_fault_84
  by_cases c5 : x = 3
  · refine q_sw (k := 3) c5 ?_
    refine lv_tableIn (x := 3) (off := 76) (tgt := 85) hx hb dX7_fault_9 (by decide) (by decide) rfl (by decide) ?_
    refine lv_aload_n hx hb dX7_fault_85 rfl (lv_at hl 2 rfl) ?_
    refine lv_bipush (v := 7) hx hb dX7_fault_86 (by decide) ?_
    refine ld_m hx hb hB.1 hC hv_r hn_r (k := 7) (by decide) (by unfold vp_in; decide) dX7_fault_88 ?_
    refine lv_aload_n hx hb dX7_fault_89 rfl (lv_at hl 2 rfl) ?_
    refine lv_iconst (v := 4) hx hb dX7_fault_90 (by decide) ?_
    refine ld_m hx hb hB.1 hC hv_r hn_r (k := 4) (by decide) (by unfold vp_in; decide) dX7_fault_91 ?_
    refine lv_iconst (v := 2) hx hb dX7_fault_92 (by decide) ?_
    refine lv_icmp_ne (tgt := 100) hx hb dX7_fault_93 (by decide) (fun c6 => ?_) (fun c6 => ?_)
    · skip
      refine lv_iconst (v := 1) hx hb dX7_fault_100 (by decide) ?_
      refine lv_imul hx hb dX7_fault_101 ?_
      exact m_reti hx hb hr hG hC hS mEq_rf (by unfold fX7_fault; rw [if_neg c1, if_neg c2, if_pos c5, if_neg c6]) hlocks dX7_fault_102
    · skip
      refine lv_iconst (v := 2) hx hb dX7_fault_96 (by decide) ?_
      refine lv_goto (tgt := 101) hx hb dX7_fault_97 (by decide) ?_
      refine lv_imul hx hb dX7_fault_101 ?_
      exact m_reti hx hb hr hG hC hS mEq_rf (by unfold fX7_fault; rw [if_neg c1, if_neg c2, if_pos c5, if_pos c6]) hlocks dX7_fault_102
  by_cases c7 : x = 4
  · refine q_sw (k := 4) c7 ?_
    refine lv_tableIn (x := 4) (off := 94) (tgt := 103) hx hb dX7_fault_9 (by decide) (by decide) rfl (by decide) ?_
    refine lv_iload_n hx hb dX7_fault_103 rfl (lv_at hl 0 rfl) ?_
    refine lv_bipush (v := 125) hx hb dX7_fault_104 (by decide) ?_
    refine lv_icmp_le (tgt := 119) hx hb dX7_fault_106 (by decide) (fun c8 => ?_) (fun c8 => ?_)
    · skip
      refine lv_iconst (v := 0) hx hb dX7_fault_119 (by decide) ?_
      refine lv_bipush (v := 95) hx hb dX7_fault_120 (by decide) ?_
      refine lv_iload_n hx hb dX7_fault_122 rfl (lv_at hl 0 rfl) ?_
      refine lv_isub hx hb dX7_fault_123 ?_
      refine va_mmax hx hb (hml.trans hl.1.symm) hown (hts _ qX7_fault_w1) (hts _ qX7_fault_w2) (hts _ qX7_fault_w3) (hts _ qX7_fault_w4) (Nat.le_of_ble_eq_true rfl) (Nat.le_of_ble_eq_true rfl) (Nat.le_of_ble_eq_true rfl) (Nat.le_of_ble_eq_true rfl) dX7_fault_124 ?_
      refine lv_iconst (v := 5) hx hb dX7_fault_127 (by decide) ?_
      refine lv_idiv hx hb dX7_fault_128 (by decide) ?_
      exact m_reti hx hb hr hG hC hS mEq_rf (by unfold fX7_fault; rw [if_neg c1, if_neg c2, if_neg c5, if_pos c7, if_pos c8]) hlocks dX7_fault_129
    · skip
      refine lv_iload_n hx hb dX7_fault_109 rfl (lv_at hl 0 rfl) ?_
      refine lv_bipush (v := 125) hx hb dX7_fault_110 (by decide) ?_
      refine lv_isub hx hb dX7_fault_112 ?_
      refine lv_bipush (v := 10) hx hb dX7_fault_113 (by decide) ?_
      refine lv_idiv hx hb dX7_fault_115 (by decide) ?_
      refine lv_goto (tgt := 129) hx hb dX7_fault_116 (by decide) ?_
      exact m_reti hx hb hr hG hC hS mEq_rf (by unfold fX7_fault; rw [if_neg c1, if_neg c2, if_neg c5, if_pos c7, if_neg c8]) hlocks dX7_fault_129
  refine lv_tableOut (tgt := 130) hx hb dX7_fault_9 (sw_1_4 c1 c2 c5 c7) (by decide) ?_
  refine lv_aload_n hx hb dX7_fault_130 rfl (lv_at hl 2 rfl) ?_
  refine lv_iconst (v := 2) hx hb dX7_fault_131 (by decide) ?_
  refine ld_m hx hb hB.1 hC hv_r hn_r (k := 2) (by decide) (by unfold vp_in; decide) dX7_fault_132 ?_
  refine lv_bipush (v := 30) hx hb dX7_fault_133 (by decide) ?_
  refine lv_idiv hx hb dX7_fault_135 (by decide) ?_
  exact m_reti hx hb hr hG hC hS mEq_rf (by unfold fX7_fault; rw [if_neg c1, if_neg c2, if_neg c5, if_neg c7]) hlocks dX7_fault_136
def fX7_causeOf (na nb nc nd T : Nat) (g : Md) (r : Nat) : Int32 := if (g r 0) = 0 then (0) else (if 0 < (fX7_fault na nb nc nd T g r 1) then (if (fX7_fault na nb nc nd T g r 1) < (fX7_fault na nb nc nd T g r 2) then (if (fX7_fault na nb nc nd T g r 2) < (fX7_fault na nb nc nd T g r 3) then (if (fX7_fault na nb nc nd T g r 3) < (fX7_fault na nb nc nd T g r 4) then (if (fX7_fault na nb nc nd T g r 4) < (fX7_fault na nb nc nd T g r 5) then (5) else (4)) else (if (fX7_fault na nb nc nd T g r 3) < (fX7_fault na nb nc nd T g r 5) then (5) else (3))) else (if (fX7_fault na nb nc nd T g r 2) < (fX7_fault na nb nc nd T g r 4) then (if (fX7_fault na nb nc nd T g r 4) < (fX7_fault na nb nc nd T g r 5) then (5) else (4)) else (if (fX7_fault na nb nc nd T g r 2) < (fX7_fault na nb nc nd T g r 5) then (5) else (2)))) else (if (fX7_fault na nb nc nd T g r 1) < (fX7_fault na nb nc nd T g r 3) then (if (fX7_fault na nb nc nd T g r 3) < (fX7_fault na nb nc nd T g r 4) then (if (fX7_fault na nb nc nd T g r 4) < (fX7_fault na nb nc nd T g r 5) then (5) else (4)) else (if (fX7_fault na nb nc nd T g r 3) < (fX7_fault na nb nc nd T g r 5) then (5) else (3))) else (if (fX7_fault na nb nc nd T g r 1) < (fX7_fault na nb nc nd T g r 4) then (if (fX7_fault na nb nc nd T g r 4) < (fX7_fault na nb nc nd T g r 5) then (5) else (4)) else (if (fX7_fault na nb nc nd T g r 1) < (fX7_fault na nb nc nd T g r 5) then (5) else (1))))) else (if 0 < (fX7_fault na nb nc nd T g r 2) then (if (fX7_fault na nb nc nd T g r 2) < (fX7_fault na nb nc nd T g r 3) then (if (fX7_fault na nb nc nd T g r 3) < (fX7_fault na nb nc nd T g r 4) then (if (fX7_fault na nb nc nd T g r 4) < (fX7_fault na nb nc nd T g r 5) then (5) else (4)) else (if (fX7_fault na nb nc nd T g r 3) < (fX7_fault na nb nc nd T g r 5) then (5) else (3))) else (if (fX7_fault na nb nc nd T g r 2) < (fX7_fault na nb nc nd T g r 4) then (if (fX7_fault na nb nc nd T g r 4) < (fX7_fault na nb nc nd T g r 5) then (5) else (4)) else (if (fX7_fault na nb nc nd T g r 2) < (fX7_fault na nb nc nd T g r 5) then (5) else (2)))) else (if 0 < (fX7_fault na nb nc nd T g r 3) then (if (fX7_fault na nb nc nd T g r 3) < (fX7_fault na nb nc nd T g r 4) then (if (fX7_fault na nb nc nd T g r 4) < (fX7_fault na nb nc nd T g r 5) then (5) else (4)) else (if (fX7_fault na nb nc nd T g r 3) < (fX7_fault na nb nc nd T g r 5) then (5) else (3))) else (if 0 < (fX7_fault na nb nc nd T g r 4) then (if (fX7_fault na nb nc nd T g r 4) < (fX7_fault na nb nc nd T g r 5) then (5) else (4)) else (if 0 < (fX7_fault na nb nc nd T g r 5) then (5) else (0))))))
set_option maxRecDepth 100000 in
set_option maxHeartbeats 4000000 in
theorem kX7_causeOf (l : Launch) (D : va_G) (cy : Nat → ClassId) (e0 : Nat) {bd w : Nat → Nat → Nat} (g : Md) (S : Int64) (sz : Nat) (r : Nat) (hv_r : rV w r) (hn_r : rl w r = 23) : Met l yX7_causeOf wsX7_causeOf ({ frames := 2, cells := 0, slots := 0, locals := 36 } : Room) (va_Pc [.ref (bd 3 r)] (mPre D cy e0 bd w g S sz)) (mQi D cy bd w (fX7_causeOf (w 0 0) (w 0 1) (w 0 2) (w 0 3) (w 0 4) g r) g S sz) 0 0 (mA bd w sz) := by
  refine q_start (cc := cX7_causeOf) (maxL := 4) (ret := (some .int)) (own := RX7) (by decide) rfl rfl (Nat.le_of_ble_eq_true rfl) ?_
  intro p e s m below meth c hx hb hr hml hts hown hlocks ⟨hsz, hC, hB⟩ ls hl
  subst hsz
  have hS : va_S (mA bd w s.heap.size) s.heap s.heap [] := va_S.rf
  have hG : mG e0 bd w s.heap.size bd w := mG.rf hB.2.2.1
  have hw0 := hC.1
  have hl : lv_has ls 4 [(0, .ref (bd 3 r))] := hl
  refine lv_aload_n hx hb dX7_causeOf_0 rfl (lv_at hl 0 rfl) ?_
  refine lv_iconst (v := 0) hx hb dX7_causeOf_1 (by decide) ?_
  refine ld_m hx hb hB.1 hC hv_r hn_r (k := 0) (by decide) (by unfold vp_in; decide) dX7_causeOf_2 ?_
  refine lv_if_ne (tgt := 8) hx hb dX7_causeOf_3 (by decide) (fun c1 => ?_) (fun c1 => ?_)
  · skip
    refine lv_iconst (v := 0) hx hb dX7_causeOf_8 (by decide) ?_
    refine lv_istore_n (lv' := [(1, .int 0), (0, .ref (bd 3 r))]) hx hb dX7_causeOf_9 rfl hl (by decide) rfl (fun ls hl => ?_)
    refine lv_iconst (v := 0) hx hb dX7_causeOf_10 (by decide) ?_
    refine lv_istore_n (lv' := [(2, .int 0), (1, .int 0), (0, .ref (bd 3 r))]) hx hb dX7_causeOf_11 rfl hl (by decide) rfl (fun ls hl => ?_)
    refine lv_iconst (v := 1) hx hb dX7_causeOf_12 (by decide) ?_
    refine lv_istore_n (lv' := [(3, .int 1), (2, .int 0), (1, .int 0), (0, .ref (bd 3 r))]) hx hb dX7_causeOf_13 rfl hl (by decide) rfl (fun ls hl => ?_)
    refine lv_iload_n hx hb dX7_causeOf_14 rfl (lv_at hl 0 rfl) ?_
    refine lv_bipush (v := 6) hx hb dX7_causeOf_15 (by decide) ?_
    refine lv_icmp_ge (tgt := 46) hx hb dX7_causeOf_17 (by decide) (fun c => absurd c (by decide)) (fun _ => ?_)
    refine lv_aload_n hx hb dX7_causeOf_20 rfl (lv_at hl 3 rfl) ?_
    refine lv_iload_n hx hb dX7_causeOf_21 rfl (lv_at hl 0 rfl) ?_
    refine m_callSi (As := [.ref (bd 3 r), .int 1])  ⟨hx, hb, hml, hown, hts⟩ (kX7_fault l D cy e0 (bd := bd) (w := w) g S _ r hv_r hn_r 1 ) (va_cwS 2 hts gX7_causeOf_X7_fault rfl rfl rfl (by decide +kernel) ⟨Nat.le_of_ble_eq_true rfl, Nat.le_of_ble_eq_true rfl⟩) hB hG.2 hC hS rfl hl.1 (Nat.le_of_ble_eq_true rfl) dX7_causeOf_22 ⟨Nat.le_of_ble_eq_true rfl, Nat.le_of_ble_eq_true rfl⟩ (fun H locs hC hS => ?_)
    refine lv_iload_n hx hb dX7_causeOf_25 rfl (lv_at hl 1 rfl) ?_
    refine lv_icmp_gt (tgt := 32) hx hb dX7_causeOf_26 (by decide) (fun c2 => ?_) (fun c2 => ?_)
    · skip
      refine lv_aload_n hx hb dX7_causeOf_32 rfl (lv_at hl 3 rfl) ?_
      refine lv_iload_n hx hb dX7_causeOf_33 rfl (lv_at hl 0 rfl) ?_
      refine m_callSi (As := [.ref (bd 3 r), .int 1])  ⟨hx, hb, hml, hown, hts⟩ (kX7_fault l D cy e0 (bd := bd) (w := w) g S _ r hv_r hn_r 1 ) (va_cwS 2 hts gX7_causeOf_X7_fault rfl rfl rfl (by decide +kernel) ⟨Nat.le_of_ble_eq_true rfl, Nat.le_of_ble_eq_true rfl⟩) hB hG.2 hC hS rfl hl.1 (Nat.le_of_ble_eq_true rfl) dX7_causeOf_34 ⟨Nat.le_of_ble_eq_true rfl, Nat.le_of_ble_eq_true rfl⟩ (fun H locs hC hS => ?_)
      refine lv_istore_n (lv' := [(2, .int (fX7_fault (w 0 0) (w 0 1) (w 0 2) (w 0 3) (w 0 4) g r 1)), (3, .int 1), (1, .int 0), (0, .ref (bd 3 r))]) hx hb dX7_causeOf_37 rfl hl (by decide) rfl (fun ls hl => ?_)
      refine lv_iload_n hx hb dX7_causeOf_38 rfl (lv_at hl 1 rfl) ?_
      refine lv_istore_n (lv' := [(1, .int 1), (2, .int (fX7_fault (w 0 0) (w 0 1) (w 0 2) (w 0 3) (w 0 4) g r 1)), (3, .int 1), (0, .ref (bd 3 r))]) hx hb dX7_causeOf_39 rfl hl (by decide) rfl (fun ls hl => ?_)
      refine lv_iinc (v := 2) (lv' := [(3, .int 2), (1, .int 1), (2, .int (fX7_fault (w 0 0) (w 0 1) (w 0 2) (w 0 3) (w 0 4) g r 1)), (0, .ref (bd 3 r))]) hx hb dX7_causeOf_40 hl (k := 2) rfl (by decide) (by decide) rfl (fun ls hl => ?_)
      refine lv_goto (tgt := 14) hx hb dX7_causeOf_43 (by decide) ?_
      refine lv_iload_n hx hb dX7_causeOf_14 rfl (lv_at hl 0 rfl) ?_
      refine lv_bipush (v := 6) hx hb dX7_causeOf_15 (by decide) ?_
      refine lv_icmp_ge (tgt := 46) hx hb dX7_causeOf_17 (by decide) (fun c => absurd c (by decide)) (fun _ => ?_)
      refine lv_aload_n hx hb dX7_causeOf_20 rfl (lv_at hl 3 rfl) ?_
      refine lv_iload_n hx hb dX7_causeOf_21 rfl (lv_at hl 0 rfl) ?_
      refine m_callSi (As := [.ref (bd 3 r), .int 2])  ⟨hx, hb, hml, hown, hts⟩ (kX7_fault l D cy e0 (bd := bd) (w := w) g S _ r hv_r hn_r 2 ) (va_cwS 2 hts gX7_causeOf_X7_fault rfl rfl rfl (by decide +kernel) ⟨Nat.le_of_ble_eq_true rfl, Nat.le_of_ble_eq_true rfl⟩) hB hG.2 hC hS rfl hl.1 (Nat.le_of_ble_eq_true rfl) dX7_causeOf_22 ⟨Nat.le_of_ble_eq_true rfl, Nat.le_of_ble_eq_true rfl⟩ (fun H locs hC hS => ?_)
      refine lv_iload_n hx hb dX7_causeOf_25 rfl (lv_at hl 2 rfl) ?_
      refine lv_icmp_gt (tgt := 32) hx hb dX7_causeOf_26 (by decide) (fun c3 => ?_) (fun c3 => ?_)
      · skip
        refine lv_aload_n hx hb dX7_causeOf_32 rfl (lv_at hl 3 rfl) ?_
        refine lv_iload_n hx hb dX7_causeOf_33 rfl (lv_at hl 0 rfl) ?_
        refine m_callSi (As := [.ref (bd 3 r), .int 2])  ⟨hx, hb, hml, hown, hts⟩ (kX7_fault l D cy e0 (bd := bd) (w := w) g S _ r hv_r hn_r 2 ) (va_cwS 2 hts gX7_causeOf_X7_fault rfl rfl rfl (by decide +kernel) ⟨Nat.le_of_ble_eq_true rfl, Nat.le_of_ble_eq_true rfl⟩) hB hG.2 hC hS rfl hl.1 (Nat.le_of_ble_eq_true rfl) dX7_causeOf_34 ⟨Nat.le_of_ble_eq_true rfl, Nat.le_of_ble_eq_true rfl⟩ (fun H locs hC hS => ?_)
        refine lv_istore_n (lv' := [(2, .int (fX7_fault (w 0 0) (w 0 1) (w 0 2) (w 0 3) (w 0 4) g r 2)), (3, .int 2), (1, .int 1), (0, .ref (bd 3 r))]) hx hb dX7_causeOf_37 rfl hl (by decide) rfl (fun ls hl => ?_)
        refine lv_iload_n hx hb dX7_causeOf_38 rfl (lv_at hl 1 rfl) ?_
        refine lv_istore_n (lv' := [(1, .int 2), (2, .int (fX7_fault (w 0 0) (w 0 1) (w 0 2) (w 0 3) (w 0 4) g r 2)), (3, .int 2), (0, .ref (bd 3 r))]) hx hb dX7_causeOf_39 rfl hl (by decide) rfl (fun ls hl => ?_)
        refine lv_iinc (v := 3) (lv' := [(3, .int 3), (1, .int 2), (2, .int (fX7_fault (w 0 0) (w 0 1) (w 0 2) (w 0 3) (w 0 4) g r 2)), (0, .ref (bd 3 r))]) hx hb dX7_causeOf_40 hl (k := 2) rfl (by decide) (by decide) rfl (fun ls hl => ?_)
        refine lv_goto (tgt := 14) hx hb dX7_causeOf_43 (by decide) ?_
        refine lv_iload_n hx hb dX7_causeOf_14 rfl (lv_at hl 0 rfl) ?_
        refine lv_bipush (v := 6) hx hb dX7_causeOf_15 (by decide) ?_
        refine lv_icmp_ge (tgt := 46) hx hb dX7_causeOf_17 (by decide) (fun c => absurd c (by decide)) (fun _ => ?_)
        refine lv_aload_n hx hb dX7_causeOf_20 rfl (lv_at hl 3 rfl) ?_
        refine lv_iload_n hx hb dX7_causeOf_21 rfl (lv_at hl 0 rfl) ?_
        refine m_callSi (As := [.ref (bd 3 r), .int 3])  ⟨hx, hb, hml, hown, hts⟩ (kX7_fault l D cy e0 (bd := bd) (w := w) g S _ r hv_r hn_r 3 ) (va_cwS 2 hts gX7_causeOf_X7_fault rfl rfl rfl (by decide +kernel) ⟨Nat.le_of_ble_eq_true rfl, Nat.le_of_ble_eq_true rfl⟩) hB hG.2 hC hS rfl hl.1 (Nat.le_of_ble_eq_true rfl) dX7_causeOf_22 ⟨Nat.le_of_ble_eq_true rfl, Nat.le_of_ble_eq_true rfl⟩ (fun H locs hC hS => ?_)
        refine lv_iload_n hx hb dX7_causeOf_25 rfl (lv_at hl 2 rfl) ?_
        refine lv_icmp_gt (tgt := 32) hx hb dX7_causeOf_26 (by decide) (fun c4 => ?_) (fun c4 => ?_)
        · skip
          refine lv_aload_n hx hb dX7_causeOf_32 rfl (lv_at hl 3 rfl) ?_
          refine lv_iload_n hx hb dX7_causeOf_33 rfl (lv_at hl 0 rfl) ?_
          refine m_callSi (As := [.ref (bd 3 r), .int 3])  ⟨hx, hb, hml, hown, hts⟩ (kX7_fault l D cy e0 (bd := bd) (w := w) g S _ r hv_r hn_r 3 ) (va_cwS 2 hts gX7_causeOf_X7_fault rfl rfl rfl (by decide +kernel) ⟨Nat.le_of_ble_eq_true rfl, Nat.le_of_ble_eq_true rfl⟩) hB hG.2 hC hS rfl hl.1 (Nat.le_of_ble_eq_true rfl) dX7_causeOf_34 ⟨Nat.le_of_ble_eq_true rfl, Nat.le_of_ble_eq_true rfl⟩ (fun H locs hC hS => ?_)
          refine lv_istore_n (lv' := [(2, .int (fX7_fault (w 0 0) (w 0 1) (w 0 2) (w 0 3) (w 0 4) g r 3)), (3, .int 3), (1, .int 2), (0, .ref (bd 3 r))]) hx hb dX7_causeOf_37 rfl hl (by decide) rfl (fun ls hl => ?_)
          refine lv_iload_n hx hb dX7_causeOf_38 rfl (lv_at hl 1 rfl) ?_
          refine lv_istore_n (lv' := [(1, .int 3), (2, .int (fX7_fault (w 0 0) (w 0 1) (w 0 2) (w 0 3) (w 0 4) g r 3)), (3, .int 3), (0, .ref (bd 3 r))]) hx hb dX7_causeOf_39 rfl hl (by decide) rfl (fun ls hl => ?_)
          refine lv_iinc (v := 4) (lv' := [(3, .int 4), (1, .int 3), (2, .int (fX7_fault (w 0 0) (w 0 1) (w 0 2) (w 0 3) (w 0 4) g r 3)), (0, .ref (bd 3 r))]) hx hb dX7_causeOf_40 hl (k := 2) rfl (by decide) (by decide) rfl (fun ls hl => ?_)
          refine lv_goto (tgt := 14) hx hb dX7_causeOf_43 (by decide) ?_
          refine lv_iload_n hx hb dX7_causeOf_14 rfl (lv_at hl 0 rfl) ?_
          refine lv_bipush (v := 6) hx hb dX7_causeOf_15 (by decide) ?_
          refine lv_icmp_ge (tgt := 46) hx hb dX7_causeOf_17 (by decide) (fun c => absurd c (by decide)) (fun _ => ?_)
          refine lv_aload_n hx hb dX7_causeOf_20 rfl (lv_at hl 3 rfl) ?_
          refine lv_iload_n hx hb dX7_causeOf_21 rfl (lv_at hl 0 rfl) ?_
          refine m_callSi (As := [.ref (bd 3 r), .int 4])  ⟨hx, hb, hml, hown, hts⟩ (kX7_fault l D cy e0 (bd := bd) (w := w) g S _ r hv_r hn_r 4 ) (va_cwS 2 hts gX7_causeOf_X7_fault rfl rfl rfl (by decide +kernel) ⟨Nat.le_of_ble_eq_true rfl, Nat.le_of_ble_eq_true rfl⟩) hB hG.2 hC hS rfl hl.1 (Nat.le_of_ble_eq_true rfl) dX7_causeOf_22 ⟨Nat.le_of_ble_eq_true rfl, Nat.le_of_ble_eq_true rfl⟩ (fun H locs hC hS => ?_)
          refine lv_iload_n hx hb dX7_causeOf_25 rfl (lv_at hl 2 rfl) ?_
          refine lv_icmp_gt (tgt := 32) hx hb dX7_causeOf_26 (by decide) (fun c5 => ?_) (fun c5 => ?_)
          · skip
            refine lv_aload_n hx hb dX7_causeOf_32 rfl (lv_at hl 3 rfl) ?_
            refine lv_iload_n hx hb dX7_causeOf_33 rfl (lv_at hl 0 rfl) ?_
            refine m_callSi (As := [.ref (bd 3 r), .int 4])  ⟨hx, hb, hml, hown, hts⟩ (kX7_fault l D cy e0 (bd := bd) (w := w) g S _ r hv_r hn_r 4 ) (va_cwS 2 hts gX7_causeOf_X7_fault rfl rfl rfl (by decide +kernel) ⟨Nat.le_of_ble_eq_true rfl, Nat.le_of_ble_eq_true rfl⟩) hB hG.2 hC hS rfl hl.1 (Nat.le_of_ble_eq_true rfl) dX7_causeOf_34 ⟨Nat.le_of_ble_eq_true rfl, Nat.le_of_ble_eq_true rfl⟩ (fun H locs hC hS => ?_)
            refine lv_istore_n (lv' := [(2, .int (fX7_fault (w 0 0) (w 0 1) (w 0 2) (w 0 3) (w 0 4) g r 4)), (3, .int 4), (1, .int 3), (0, .ref (bd 3 r))]) hx hb dX7_causeOf_37 rfl hl (by decide) rfl (fun ls hl => ?_)
            refine lv_iload_n hx hb dX7_causeOf_38 rfl (lv_at hl 1 rfl) ?_
            refine lv_istore_n (lv' := [(1, .int 4), (2, .int (fX7_fault (w 0 0) (w 0 1) (w 0 2) (w 0 3) (w 0 4) g r 4)), (3, .int 4), (0, .ref (bd 3 r))]) hx hb dX7_causeOf_39 rfl hl (by decide) rfl (fun ls hl => ?_)
            refine lv_iinc (v := 5) (lv' := [(3, .int 5), (1, .int 4), (2, .int (fX7_fault (w 0 0) (w 0 1) (w 0 2) (w 0 3) (w 0 4) g r 4)), (0, .ref (bd 3 r))]) hx hb dX7_causeOf_40 hl (k := 2) rfl (by decide) (by decide) rfl (fun ls hl => ?_)
            refine lv_goto (tgt := 14) hx hb dX7_causeOf_43 (by decide) ?_
            refine lv_iload_n hx hb dX7_causeOf_14 rfl (lv_at hl 0 rfl) ?_
            refine lv_bipush (v := 6) hx hb dX7_causeOf_15 (by decide) ?_
            refine lv_icmp_ge (tgt := 46) hx hb dX7_causeOf_17 (by decide) (fun c => absurd c (by decide)) (fun _ => ?_)
            refine lv_aload_n hx hb dX7_causeOf_20 rfl (lv_at hl 3 rfl) ?_
            refine lv_iload_n hx hb dX7_causeOf_21 rfl (lv_at hl 0 rfl) ?_
            refine m_callSi (As := [.ref (bd 3 r), .int 5])  ⟨hx, hb, hml, hown, hts⟩ (kX7_fault l D cy e0 (bd := bd) (w := w) g S _ r hv_r hn_r 5 ) (va_cwS 2 hts gX7_causeOf_X7_fault rfl rfl rfl (by decide +kernel) ⟨Nat.le_of_ble_eq_true rfl, Nat.le_of_ble_eq_true rfl⟩) hB hG.2 hC hS rfl hl.1 (Nat.le_of_ble_eq_true rfl) dX7_causeOf_22 ⟨Nat.le_of_ble_eq_true rfl, Nat.le_of_ble_eq_true rfl⟩ (fun H locs hC hS => ?_)
            refine lv_iload_n hx hb dX7_causeOf_25 rfl (lv_at hl 2 rfl) ?_
            refine lv_icmp_gt (tgt := 32) hx hb dX7_causeOf_26 (by decide) (fun c6 => ?_) (fun c6 => ?_)
            · skip
              refine lv_aload_n hx hb dX7_causeOf_32 rfl (lv_at hl 3 rfl) ?_
              refine lv_iload_n hx hb dX7_causeOf_33 rfl (lv_at hl 0 rfl) ?_
              refine m_callSi (As := [.ref (bd 3 r), .int 5])  ⟨hx, hb, hml, hown, hts⟩ (kX7_fault l D cy e0 (bd := bd) (w := w) g S _ r hv_r hn_r 5 ) (va_cwS 2 hts gX7_causeOf_X7_fault rfl rfl rfl (by decide +kernel) ⟨Nat.le_of_ble_eq_true rfl, Nat.le_of_ble_eq_true rfl⟩) hB hG.2 hC hS rfl hl.1 (Nat.le_of_ble_eq_true rfl) dX7_causeOf_34 ⟨Nat.le_of_ble_eq_true rfl, Nat.le_of_ble_eq_true rfl⟩ (fun H locs hC hS => ?_)
              refine lv_istore_n (lv' := [(2, .int (fX7_fault (w 0 0) (w 0 1) (w 0 2) (w 0 3) (w 0 4) g r 5)), (3, .int 5), (1, .int 4), (0, .ref (bd 3 r))]) hx hb dX7_causeOf_37 rfl hl (by decide) rfl (fun ls hl => ?_)
              refine lv_iload_n hx hb dX7_causeOf_38 rfl (lv_at hl 1 rfl) ?_
              refine lv_istore_n (lv' := [(1, .int 5), (2, .int (fX7_fault (w 0 0) (w 0 1) (w 0 2) (w 0 3) (w 0 4) g r 5)), (3, .int 5), (0, .ref (bd 3 r))]) hx hb dX7_causeOf_39 rfl hl (by decide) rfl (fun ls hl => ?_)
              refine lv_iinc (v := 6) (lv' := [(3, .int 6), (1, .int 5), (2, .int (fX7_fault (w 0 0) (w 0 1) (w 0 2) (w 0 3) (w 0 4) g r 5)), (0, .ref (bd 3 r))]) hx hb dX7_causeOf_40 hl (k := 2) rfl (by decide) (by decide) rfl (fun ls hl => ?_)
              refine lv_goto (tgt := 14) hx hb dX7_causeOf_43 (by decide) ?_
              refine lv_iload_n hx hb dX7_causeOf_14 rfl (lv_at hl 0 rfl) ?_
              refine lv_bipush (v := 6) hx hb dX7_causeOf_15 (by decide) ?_
              refine lv_icmp_ge (tgt := 46) hx hb dX7_causeOf_17 (by decide) (fun _ => ?_) (fun c => absurd c (by decide))
              refine lv_iload_n hx hb dX7_causeOf_46 rfl (lv_at hl 1 rfl) ?_
              exact m_reti hx hb hr hG hC hS mEq_rf (by unfold fX7_causeOf; rw [if_neg c1, if_pos c2, if_pos c3, if_pos c4, if_pos c5, if_pos c6]) hlocks dX7_causeOf_47
            · skip
              refine lv_goto (tgt := 40) hx hb dX7_causeOf_29 (by decide) ?_
              refine lv_iinc (v := 6) (lv' := [(3, .int 6), (1, .int 4), (2, .int (fX7_fault (w 0 0) (w 0 1) (w 0 2) (w 0 3) (w 0 4) g r 4)), (0, .ref (bd 3 r))]) hx hb dX7_causeOf_40 hl (k := 0) rfl (by decide) (by decide) rfl (fun ls hl => ?_)
              refine lv_goto (tgt := 14) hx hb dX7_causeOf_43 (by decide) ?_
              refine lv_iload_n hx hb dX7_causeOf_14 rfl (lv_at hl 0 rfl) ?_
              refine lv_bipush (v := 6) hx hb dX7_causeOf_15 (by decide) ?_
              refine lv_icmp_ge (tgt := 46) hx hb dX7_causeOf_17 (by decide) (fun _ => ?_) (fun c => absurd c (by decide))
              refine lv_iload_n hx hb dX7_causeOf_46 rfl (lv_at hl 1 rfl) ?_
              exact m_reti hx hb hr hG hC hS mEq_rf (by unfold fX7_causeOf; rw [if_neg c1, if_pos c2, if_pos c3, if_pos c4, if_pos c5, if_neg c6]) hlocks dX7_causeOf_47
          · skip
            refine lv_goto (tgt := 40) hx hb dX7_causeOf_29 (by decide) ?_
            refine lv_iinc (v := 5) (lv' := [(3, .int 5), (1, .int 3), (2, .int (fX7_fault (w 0 0) (w 0 1) (w 0 2) (w 0 3) (w 0 4) g r 3)), (0, .ref (bd 3 r))]) hx hb dX7_causeOf_40 hl (k := 0) rfl (by decide) (by decide) rfl (fun ls hl => ?_)
            refine lv_goto (tgt := 14) hx hb dX7_causeOf_43 (by decide) ?_
            refine lv_iload_n hx hb dX7_causeOf_14 rfl (lv_at hl 0 rfl) ?_
            refine lv_bipush (v := 6) hx hb dX7_causeOf_15 (by decide) ?_
            refine lv_icmp_ge (tgt := 46) hx hb dX7_causeOf_17 (by decide) (fun c => absurd c (by decide)) (fun _ => ?_)
            refine lv_aload_n hx hb dX7_causeOf_20 rfl (lv_at hl 3 rfl) ?_
            refine lv_iload_n hx hb dX7_causeOf_21 rfl (lv_at hl 0 rfl) ?_
            refine m_callSi (As := [.ref (bd 3 r), .int 5])  ⟨hx, hb, hml, hown, hts⟩ (kX7_fault l D cy e0 (bd := bd) (w := w) g S _ r hv_r hn_r 5 ) (va_cwS 2 hts gX7_causeOf_X7_fault rfl rfl rfl (by decide +kernel) ⟨Nat.le_of_ble_eq_true rfl, Nat.le_of_ble_eq_true rfl⟩) hB hG.2 hC hS rfl hl.1 (Nat.le_of_ble_eq_true rfl) dX7_causeOf_22 ⟨Nat.le_of_ble_eq_true rfl, Nat.le_of_ble_eq_true rfl⟩ (fun H locs hC hS => ?_)
            refine lv_iload_n hx hb dX7_causeOf_25 rfl (lv_at hl 2 rfl) ?_
            refine lv_icmp_gt (tgt := 32) hx hb dX7_causeOf_26 (by decide) (fun c7 => ?_) (fun c7 => ?_)
            · skip
              refine lv_aload_n hx hb dX7_causeOf_32 rfl (lv_at hl 3 rfl) ?_
              refine lv_iload_n hx hb dX7_causeOf_33 rfl (lv_at hl 0 rfl) ?_
              refine m_callSi (As := [.ref (bd 3 r), .int 5])  ⟨hx, hb, hml, hown, hts⟩ (kX7_fault l D cy e0 (bd := bd) (w := w) g S _ r hv_r hn_r 5 ) (va_cwS 2 hts gX7_causeOf_X7_fault rfl rfl rfl (by decide +kernel) ⟨Nat.le_of_ble_eq_true rfl, Nat.le_of_ble_eq_true rfl⟩) hB hG.2 hC hS rfl hl.1 (Nat.le_of_ble_eq_true rfl) dX7_causeOf_34 ⟨Nat.le_of_ble_eq_true rfl, Nat.le_of_ble_eq_true rfl⟩ (fun H locs hC hS => ?_)
              refine lv_istore_n (lv' := [(2, .int (fX7_fault (w 0 0) (w 0 1) (w 0 2) (w 0 3) (w 0 4) g r 5)), (3, .int 5), (1, .int 3), (0, .ref (bd 3 r))]) hx hb dX7_causeOf_37 rfl hl (by decide) rfl (fun ls hl => ?_)
              refine lv_iload_n hx hb dX7_causeOf_38 rfl (lv_at hl 1 rfl) ?_
              refine lv_istore_n (lv' := [(1, .int 5), (2, .int (fX7_fault (w 0 0) (w 0 1) (w 0 2) (w 0 3) (w 0 4) g r 5)), (3, .int 5), (0, .ref (bd 3 r))]) hx hb dX7_causeOf_39 rfl hl (by decide) rfl (fun ls hl => ?_)
              refine lv_iinc (v := 6) (lv' := [(3, .int 6), (1, .int 5), (2, .int (fX7_fault (w 0 0) (w 0 1) (w 0 2) (w 0 3) (w 0 4) g r 5)), (0, .ref (bd 3 r))]) hx hb dX7_causeOf_40 hl (k := 2) rfl (by decide) (by decide) rfl (fun ls hl => ?_)
              refine lv_goto (tgt := 14) hx hb dX7_causeOf_43 (by decide) ?_
              refine lv_iload_n hx hb dX7_causeOf_14 rfl (lv_at hl 0 rfl) ?_
              refine lv_bipush (v := 6) hx hb dX7_causeOf_15 (by decide) ?_
              refine lv_icmp_ge (tgt := 46) hx hb dX7_causeOf_17 (by decide) (fun _ => ?_) (fun c => absurd c (by decide))
              refine lv_iload_n hx hb dX7_causeOf_46 rfl (lv_at hl 1 rfl) ?_
              exact m_reti hx hb hr hG hC hS mEq_rf (by unfold fX7_causeOf; rw [if_neg c1, if_pos c2, if_pos c3, if_pos c4, if_neg c5, if_pos c7]) hlocks dX7_causeOf_47
            · skip
              refine lv_goto (tgt := 40) hx hb dX7_causeOf_29 (by decide) ?_
              refine lv_iinc (v := 6) (lv' := [(3, .int 6), (1, .int 3), (2, .int (fX7_fault (w 0 0) (w 0 1) (w 0 2) (w 0 3) (w 0 4) g r 3)), (0, .ref (bd 3 r))]) hx hb dX7_causeOf_40 hl (k := 0) rfl (by decide) (by decide) rfl (fun ls hl => ?_)
              refine lv_goto (tgt := 14) hx hb dX7_causeOf_43 (by decide) ?_
              refine lv_iload_n hx hb dX7_causeOf_14 rfl (lv_at hl 0 rfl) ?_
              refine lv_bipush (v := 6) hx hb dX7_causeOf_15 (by decide) ?_
              refine lv_icmp_ge (tgt := 46) hx hb dX7_causeOf_17 (by decide) (fun _ => ?_) (fun c => absurd c (by decide))
              refine lv_iload_n hx hb dX7_causeOf_46 rfl (lv_at hl 1 rfl) ?_
              exact m_reti hx hb hr hG hC hS mEq_rf (by unfold fX7_causeOf; rw [if_neg c1, if_pos c2, if_pos c3, if_pos c4, if_neg c5, if_neg c7]) hlocks dX7_causeOf_47
        · skip
          refine lv_goto (tgt := 40) hx hb dX7_causeOf_29 (by decide) ?_
          refine lv_iinc (v := 4) (lv' := [(3, .int 4), (1, .int 2), (2, .int (fX7_fault (w 0 0) (w 0 1) (w 0 2) (w 0 3) (w 0 4) g r 2)), (0, .ref (bd 3 r))]) hx hb dX7_causeOf_40 hl (k := 0) rfl (by decide) (by decide) rfl (fun ls hl => ?_)
          refine lv_goto (tgt := 14) hx hb dX7_causeOf_43 (by decide) ?_
          refine lv_iload_n hx hb dX7_causeOf_14 rfl (lv_at hl 0 rfl) ?_
          refine lv_bipush (v := 6) hx hb dX7_causeOf_15 (by decide) ?_
          refine lv_icmp_ge (tgt := 46) hx hb dX7_causeOf_17 (by decide) (fun c => absurd c (by decide)) (fun _ => ?_)
          refine lv_aload_n hx hb dX7_causeOf_20 rfl (lv_at hl 3 rfl) ?_
          refine lv_iload_n hx hb dX7_causeOf_21 rfl (lv_at hl 0 rfl) ?_
          refine m_callSi (As := [.ref (bd 3 r), .int 4])  ⟨hx, hb, hml, hown, hts⟩ (kX7_fault l D cy e0 (bd := bd) (w := w) g S _ r hv_r hn_r 4 ) (va_cwS 2 hts gX7_causeOf_X7_fault rfl rfl rfl (by decide +kernel) ⟨Nat.le_of_ble_eq_true rfl, Nat.le_of_ble_eq_true rfl⟩) hB hG.2 hC hS rfl hl.1 (Nat.le_of_ble_eq_true rfl) dX7_causeOf_22 ⟨Nat.le_of_ble_eq_true rfl, Nat.le_of_ble_eq_true rfl⟩ (fun H locs hC hS => ?_)
          refine lv_iload_n hx hb dX7_causeOf_25 rfl (lv_at hl 2 rfl) ?_
          refine lv_icmp_gt (tgt := 32) hx hb dX7_causeOf_26 (by decide) (fun c8 => ?_) (fun c8 => ?_)
          · skip
            refine lv_aload_n hx hb dX7_causeOf_32 rfl (lv_at hl 3 rfl) ?_
            refine lv_iload_n hx hb dX7_causeOf_33 rfl (lv_at hl 0 rfl) ?_
            refine m_callSi (As := [.ref (bd 3 r), .int 4])  ⟨hx, hb, hml, hown, hts⟩ (kX7_fault l D cy e0 (bd := bd) (w := w) g S _ r hv_r hn_r 4 ) (va_cwS 2 hts gX7_causeOf_X7_fault rfl rfl rfl (by decide +kernel) ⟨Nat.le_of_ble_eq_true rfl, Nat.le_of_ble_eq_true rfl⟩) hB hG.2 hC hS rfl hl.1 (Nat.le_of_ble_eq_true rfl) dX7_causeOf_34 ⟨Nat.le_of_ble_eq_true rfl, Nat.le_of_ble_eq_true rfl⟩ (fun H locs hC hS => ?_)
            refine lv_istore_n (lv' := [(2, .int (fX7_fault (w 0 0) (w 0 1) (w 0 2) (w 0 3) (w 0 4) g r 4)), (3, .int 4), (1, .int 2), (0, .ref (bd 3 r))]) hx hb dX7_causeOf_37 rfl hl (by decide) rfl (fun ls hl => ?_)
            refine lv_iload_n hx hb dX7_causeOf_38 rfl (lv_at hl 1 rfl) ?_
            refine lv_istore_n (lv' := [(1, .int 4), (2, .int (fX7_fault (w 0 0) (w 0 1) (w 0 2) (w 0 3) (w 0 4) g r 4)), (3, .int 4), (0, .ref (bd 3 r))]) hx hb dX7_causeOf_39 rfl hl (by decide) rfl (fun ls hl => ?_)
            refine lv_iinc (v := 5) (lv' := [(3, .int 5), (1, .int 4), (2, .int (fX7_fault (w 0 0) (w 0 1) (w 0 2) (w 0 3) (w 0 4) g r 4)), (0, .ref (bd 3 r))]) hx hb dX7_causeOf_40 hl (k := 2) rfl (by decide) (by decide) rfl (fun ls hl => ?_)
            refine lv_goto (tgt := 14) hx hb dX7_causeOf_43 (by decide) ?_
            refine lv_iload_n hx hb dX7_causeOf_14 rfl (lv_at hl 0 rfl) ?_
            refine lv_bipush (v := 6) hx hb dX7_causeOf_15 (by decide) ?_
            refine lv_icmp_ge (tgt := 46) hx hb dX7_causeOf_17 (by decide) (fun c => absurd c (by decide)) (fun _ => ?_)
            refine lv_aload_n hx hb dX7_causeOf_20 rfl (lv_at hl 3 rfl) ?_
            refine lv_iload_n hx hb dX7_causeOf_21 rfl (lv_at hl 0 rfl) ?_
            refine m_callSi (As := [.ref (bd 3 r), .int 5])  ⟨hx, hb, hml, hown, hts⟩ (kX7_fault l D cy e0 (bd := bd) (w := w) g S _ r hv_r hn_r 5 ) (va_cwS 2 hts gX7_causeOf_X7_fault rfl rfl rfl (by decide +kernel) ⟨Nat.le_of_ble_eq_true rfl, Nat.le_of_ble_eq_true rfl⟩) hB hG.2 hC hS rfl hl.1 (Nat.le_of_ble_eq_true rfl) dX7_causeOf_22 ⟨Nat.le_of_ble_eq_true rfl, Nat.le_of_ble_eq_true rfl⟩ (fun H locs hC hS => ?_)
            refine lv_iload_n hx hb dX7_causeOf_25 rfl (lv_at hl 2 rfl) ?_
            refine lv_icmp_gt (tgt := 32) hx hb dX7_causeOf_26 (by decide) (fun c9 => ?_) (fun c9 => ?_)
            · skip
              refine lv_aload_n hx hb dX7_causeOf_32 rfl (lv_at hl 3 rfl) ?_
              refine lv_iload_n hx hb dX7_causeOf_33 rfl (lv_at hl 0 rfl) ?_
              refine m_callSi (As := [.ref (bd 3 r), .int 5])  ⟨hx, hb, hml, hown, hts⟩ (kX7_fault l D cy e0 (bd := bd) (w := w) g S _ r hv_r hn_r 5 ) (va_cwS 2 hts gX7_causeOf_X7_fault rfl rfl rfl (by decide +kernel) ⟨Nat.le_of_ble_eq_true rfl, Nat.le_of_ble_eq_true rfl⟩) hB hG.2 hC hS rfl hl.1 (Nat.le_of_ble_eq_true rfl) dX7_causeOf_34 ⟨Nat.le_of_ble_eq_true rfl, Nat.le_of_ble_eq_true rfl⟩ (fun H locs hC hS => ?_)
              refine lv_istore_n (lv' := [(2, .int (fX7_fault (w 0 0) (w 0 1) (w 0 2) (w 0 3) (w 0 4) g r 5)), (3, .int 5), (1, .int 4), (0, .ref (bd 3 r))]) hx hb dX7_causeOf_37 rfl hl (by decide) rfl (fun ls hl => ?_)
              refine lv_iload_n hx hb dX7_causeOf_38 rfl (lv_at hl 1 rfl) ?_
              refine lv_istore_n (lv' := [(1, .int 5), (2, .int (fX7_fault (w 0 0) (w 0 1) (w 0 2) (w 0 3) (w 0 4) g r 5)), (3, .int 5), (0, .ref (bd 3 r))]) hx hb dX7_causeOf_39 rfl hl (by decide) rfl (fun ls hl => ?_)
              refine lv_iinc (v := 6) (lv' := [(3, .int 6), (1, .int 5), (2, .int (fX7_fault (w 0 0) (w 0 1) (w 0 2) (w 0 3) (w 0 4) g r 5)), (0, .ref (bd 3 r))]) hx hb dX7_causeOf_40 hl (k := 2) rfl (by decide) (by decide) rfl (fun ls hl => ?_)
              refine lv_goto (tgt := 14) hx hb dX7_causeOf_43 (by decide) ?_
              refine lv_iload_n hx hb dX7_causeOf_14 rfl (lv_at hl 0 rfl) ?_
              refine lv_bipush (v := 6) hx hb dX7_causeOf_15 (by decide) ?_
              refine lv_icmp_ge (tgt := 46) hx hb dX7_causeOf_17 (by decide) (fun _ => ?_) (fun c => absurd c (by decide))
              refine lv_iload_n hx hb dX7_causeOf_46 rfl (lv_at hl 1 rfl) ?_
              exact m_reti hx hb hr hG hC hS mEq_rf (by unfold fX7_causeOf; rw [if_neg c1, if_pos c2, if_pos c3, if_neg c4, if_pos c8, if_pos c9]) hlocks dX7_causeOf_47
            · skip
              refine lv_goto (tgt := 40) hx hb dX7_causeOf_29 (by decide) ?_
              refine lv_iinc (v := 6) (lv' := [(3, .int 6), (1, .int 4), (2, .int (fX7_fault (w 0 0) (w 0 1) (w 0 2) (w 0 3) (w 0 4) g r 4)), (0, .ref (bd 3 r))]) hx hb dX7_causeOf_40 hl (k := 0) rfl (by decide) (by decide) rfl (fun ls hl => ?_)
              refine lv_goto (tgt := 14) hx hb dX7_causeOf_43 (by decide) ?_
              refine lv_iload_n hx hb dX7_causeOf_14 rfl (lv_at hl 0 rfl) ?_
              refine lv_bipush (v := 6) hx hb dX7_causeOf_15 (by decide) ?_
              refine lv_icmp_ge (tgt := 46) hx hb dX7_causeOf_17 (by decide) (fun _ => ?_) (fun c => absurd c (by decide))
              refine lv_iload_n hx hb dX7_causeOf_46 rfl (lv_at hl 1 rfl) ?_
              exact m_reti hx hb hr hG hC hS mEq_rf (by unfold fX7_causeOf; rw [if_neg c1, if_pos c2, if_pos c3, if_neg c4, if_pos c8, if_neg c9]) hlocks dX7_causeOf_47
          · skip
            refine lv_goto (tgt := 40) hx hb dX7_causeOf_29 (by decide) ?_
            refine lv_iinc (v := 5) (lv' := [(3, .int 5), (1, .int 2), (2, .int (fX7_fault (w 0 0) (w 0 1) (w 0 2) (w 0 3) (w 0 4) g r 2)), (0, .ref (bd 3 r))]) hx hb dX7_causeOf_40 hl (k := 0) rfl (by decide) (by decide) rfl (fun ls hl => ?_)
            refine lv_goto (tgt := 14) hx hb dX7_causeOf_43 (by decide) ?_
            refine lv_iload_n hx hb dX7_causeOf_14 rfl (lv_at hl 0 rfl) ?_
            refine lv_bipush (v := 6) hx hb dX7_causeOf_15 (by decide) ?_
            refine lv_icmp_ge (tgt := 46) hx hb dX7_causeOf_17 (by decide) (fun c => absurd c (by decide)) (fun _ => ?_)
            refine lv_aload_n hx hb dX7_causeOf_20 rfl (lv_at hl 3 rfl) ?_
            refine lv_iload_n hx hb dX7_causeOf_21 rfl (lv_at hl 0 rfl) ?_
            refine m_callSi (As := [.ref (bd 3 r), .int 5])  ⟨hx, hb, hml, hown, hts⟩ (kX7_fault l D cy e0 (bd := bd) (w := w) g S _ r hv_r hn_r 5 ) (va_cwS 2 hts gX7_causeOf_X7_fault rfl rfl rfl (by decide +kernel) ⟨Nat.le_of_ble_eq_true rfl, Nat.le_of_ble_eq_true rfl⟩) hB hG.2 hC hS rfl hl.1 (Nat.le_of_ble_eq_true rfl) dX7_causeOf_22 ⟨Nat.le_of_ble_eq_true rfl, Nat.le_of_ble_eq_true rfl⟩ (fun H locs hC hS => ?_)
            refine lv_iload_n hx hb dX7_causeOf_25 rfl (lv_at hl 2 rfl) ?_
            refine lv_icmp_gt (tgt := 32) hx hb dX7_causeOf_26 (by decide) (fun c10 => ?_) (fun c10 => ?_)
            · skip
              refine lv_aload_n hx hb dX7_causeOf_32 rfl (lv_at hl 3 rfl) ?_
              refine lv_iload_n hx hb dX7_causeOf_33 rfl (lv_at hl 0 rfl) ?_
              refine m_callSi (As := [.ref (bd 3 r), .int 5])  ⟨hx, hb, hml, hown, hts⟩ (kX7_fault l D cy e0 (bd := bd) (w := w) g S _ r hv_r hn_r 5 ) (va_cwS 2 hts gX7_causeOf_X7_fault rfl rfl rfl (by decide +kernel) ⟨Nat.le_of_ble_eq_true rfl, Nat.le_of_ble_eq_true rfl⟩) hB hG.2 hC hS rfl hl.1 (Nat.le_of_ble_eq_true rfl) dX7_causeOf_34 ⟨Nat.le_of_ble_eq_true rfl, Nat.le_of_ble_eq_true rfl⟩ (fun H locs hC hS => ?_)
              refine lv_istore_n (lv' := [(2, .int (fX7_fault (w 0 0) (w 0 1) (w 0 2) (w 0 3) (w 0 4) g r 5)), (3, .int 5), (1, .int 2), (0, .ref (bd 3 r))]) hx hb dX7_causeOf_37 rfl hl (by decide) rfl (fun ls hl => ?_)
              refine lv_iload_n hx hb dX7_causeOf_38 rfl (lv_at hl 1 rfl) ?_
              refine lv_istore_n (lv' := [(1, .int 5), (2, .int (fX7_fault (w 0 0) (w 0 1) (w 0 2) (w 0 3) (w 0 4) g r 5)), (3, .int 5), (0, .ref (bd 3 r))]) hx hb dX7_causeOf_39 rfl hl (by decide) rfl (fun ls hl => ?_)
              refine lv_iinc (v := 6) (lv' := [(3, .int 6), (1, .int 5), (2, .int (fX7_fault (w 0 0) (w 0 1) (w 0 2) (w 0 3) (w 0 4) g r 5)), (0, .ref (bd 3 r))]) hx hb dX7_causeOf_40 hl (k := 2) rfl (by decide) (by decide) rfl (fun ls hl => ?_)
              refine lv_goto (tgt := 14) hx hb dX7_causeOf_43 (by decide) ?_
              refine lv_iload_n hx hb dX7_causeOf_14 rfl (lv_at hl 0 rfl) ?_
              refine lv_bipush (v := 6) hx hb dX7_causeOf_15 (by decide) ?_
              refine lv_icmp_ge (tgt := 46) hx hb dX7_causeOf_17 (by decide) (fun _ => ?_) (fun c => absurd c (by decide))
              refine lv_iload_n hx hb dX7_causeOf_46 rfl (lv_at hl 1 rfl) ?_
              exact m_reti hx hb hr hG hC hS mEq_rf (by unfold fX7_causeOf; rw [if_neg c1, if_pos c2, if_pos c3, if_neg c4, if_neg c8, if_pos c10]) hlocks dX7_causeOf_47
            · skip
              refine lv_goto (tgt := 40) hx hb dX7_causeOf_29 (by decide) ?_
              refine lv_iinc (v := 6) (lv' := [(3, .int 6), (1, .int 2), (2, .int (fX7_fault (w 0 0) (w 0 1) (w 0 2) (w 0 3) (w 0 4) g r 2)), (0, .ref (bd 3 r))]) hx hb dX7_causeOf_40 hl (k := 0) rfl (by decide) (by decide) rfl (fun ls hl => ?_)
              refine lv_goto (tgt := 14) hx hb dX7_causeOf_43 (by decide) ?_
              refine lv_iload_n hx hb dX7_causeOf_14 rfl (lv_at hl 0 rfl) ?_
              refine lv_bipush (v := 6) hx hb dX7_causeOf_15 (by decide) ?_
              refine lv_icmp_ge (tgt := 46) hx hb dX7_causeOf_17 (by decide) (fun _ => ?_) (fun c => absurd c (by decide))
              refine lv_iload_n hx hb dX7_causeOf_46 rfl (lv_at hl 1 rfl) ?_
              exact m_reti hx hb hr hG hC hS mEq_rf (by unfold fX7_causeOf; rw [if_neg c1, if_pos c2, if_pos c3, if_neg c4, if_neg c8, if_neg c10]) hlocks dX7_causeOf_47
      · skip
        refine lv_goto (tgt := 40) hx hb dX7_causeOf_29 (by decide) ?_
        refine lv_iinc (v := 3) (lv' := [(3, .int 3), (1, .int 1), (2, .int (fX7_fault (w 0 0) (w 0 1) (w 0 2) (w 0 3) (w 0 4) g r 1)), (0, .ref (bd 3 r))]) hx hb dX7_causeOf_40 hl (k := 0) rfl (by decide) (by decide) rfl (fun ls hl => ?_)
        refine lv_goto (tgt := 14) hx hb dX7_causeOf_43 (by decide) ?_
        refine lv_iload_n hx hb dX7_causeOf_14 rfl (lv_at hl 0 rfl) ?_
        refine lv_bipush (v := 6) hx hb dX7_causeOf_15 (by decide) ?_
        refine lv_icmp_ge (tgt := 46) hx hb dX7_causeOf_17 (by decide) (fun c => absurd c (by decide)) (fun _ => ?_)
        refine lv_aload_n hx hb dX7_causeOf_20 rfl (lv_at hl 3 rfl) ?_
        refine lv_iload_n hx hb dX7_causeOf_21 rfl (lv_at hl 0 rfl) ?_
        refine m_callSi (As := [.ref (bd 3 r), .int 3])  ⟨hx, hb, hml, hown, hts⟩ (kX7_fault l D cy e0 (bd := bd) (w := w) g S _ r hv_r hn_r 3 ) (va_cwS 2 hts gX7_causeOf_X7_fault rfl rfl rfl (by decide +kernel) ⟨Nat.le_of_ble_eq_true rfl, Nat.le_of_ble_eq_true rfl⟩) hB hG.2 hC hS rfl hl.1 (Nat.le_of_ble_eq_true rfl) dX7_causeOf_22 ⟨Nat.le_of_ble_eq_true rfl, Nat.le_of_ble_eq_true rfl⟩ (fun H locs hC hS => ?_)
        refine lv_iload_n hx hb dX7_causeOf_25 rfl (lv_at hl 2 rfl) ?_
        refine lv_icmp_gt (tgt := 32) hx hb dX7_causeOf_26 (by decide) (fun c11 => ?_) (fun c11 => ?_)
        · skip
          refine lv_aload_n hx hb dX7_causeOf_32 rfl (lv_at hl 3 rfl) ?_
          refine lv_iload_n hx hb dX7_causeOf_33 rfl (lv_at hl 0 rfl) ?_
          refine m_callSi (As := [.ref (bd 3 r), .int 3])  ⟨hx, hb, hml, hown, hts⟩ (kX7_fault l D cy e0 (bd := bd) (w := w) g S _ r hv_r hn_r 3 ) (va_cwS 2 hts gX7_causeOf_X7_fault rfl rfl rfl (by decide +kernel) ⟨Nat.le_of_ble_eq_true rfl, Nat.le_of_ble_eq_true rfl⟩) hB hG.2 hC hS rfl hl.1 (Nat.le_of_ble_eq_true rfl) dX7_causeOf_34 ⟨Nat.le_of_ble_eq_true rfl, Nat.le_of_ble_eq_true rfl⟩ (fun H locs hC hS => ?_)
          refine lv_istore_n (lv' := [(2, .int (fX7_fault (w 0 0) (w 0 1) (w 0 2) (w 0 3) (w 0 4) g r 3)), (3, .int 3), (1, .int 1), (0, .ref (bd 3 r))]) hx hb dX7_causeOf_37 rfl hl (by decide) rfl (fun ls hl => ?_)
          refine lv_iload_n hx hb dX7_causeOf_38 rfl (lv_at hl 1 rfl) ?_
          refine lv_istore_n (lv' := [(1, .int 3), (2, .int (fX7_fault (w 0 0) (w 0 1) (w 0 2) (w 0 3) (w 0 4) g r 3)), (3, .int 3), (0, .ref (bd 3 r))]) hx hb dX7_causeOf_39 rfl hl (by decide) rfl (fun ls hl => ?_)
          refine lv_iinc (v := 4) (lv' := [(3, .int 4), (1, .int 3), (2, .int (fX7_fault (w 0 0) (w 0 1) (w 0 2) (w 0 3) (w 0 4) g r 3)), (0, .ref (bd 3 r))]) hx hb dX7_causeOf_40 hl (k := 2) rfl (by decide) (by decide) rfl (fun ls hl => ?_)
          refine lv_goto (tgt := 14) hx hb dX7_causeOf_43 (by decide) ?_
          refine lv_iload_n hx hb dX7_causeOf_14 rfl (lv_at hl 0 rfl) ?_
          refine lv_bipush (v := 6) hx hb dX7_causeOf_15 (by decide) ?_
          refine lv_icmp_ge (tgt := 46) hx hb dX7_causeOf_17 (by decide) (fun c => absurd c (by decide)) (fun _ => ?_)
          refine lv_aload_n hx hb dX7_causeOf_20 rfl (lv_at hl 3 rfl) ?_
          refine lv_iload_n hx hb dX7_causeOf_21 rfl (lv_at hl 0 rfl) ?_
          refine m_callSi (As := [.ref (bd 3 r), .int 4])  ⟨hx, hb, hml, hown, hts⟩ (kX7_fault l D cy e0 (bd := bd) (w := w) g S _ r hv_r hn_r 4 ) (va_cwS 2 hts gX7_causeOf_X7_fault rfl rfl rfl (by decide +kernel) ⟨Nat.le_of_ble_eq_true rfl, Nat.le_of_ble_eq_true rfl⟩) hB hG.2 hC hS rfl hl.1 (Nat.le_of_ble_eq_true rfl) dX7_causeOf_22 ⟨Nat.le_of_ble_eq_true rfl, Nat.le_of_ble_eq_true rfl⟩ (fun H locs hC hS => ?_)
          refine lv_iload_n hx hb dX7_causeOf_25 rfl (lv_at hl 2 rfl) ?_
          refine lv_icmp_gt (tgt := 32) hx hb dX7_causeOf_26 (by decide) (fun c12 => ?_) (fun c12 => ?_)
          · skip
            refine lv_aload_n hx hb dX7_causeOf_32 rfl (lv_at hl 3 rfl) ?_
            refine lv_iload_n hx hb dX7_causeOf_33 rfl (lv_at hl 0 rfl) ?_
            refine m_callSi (As := [.ref (bd 3 r), .int 4])  ⟨hx, hb, hml, hown, hts⟩ (kX7_fault l D cy e0 (bd := bd) (w := w) g S _ r hv_r hn_r 4 ) (va_cwS 2 hts gX7_causeOf_X7_fault rfl rfl rfl (by decide +kernel) ⟨Nat.le_of_ble_eq_true rfl, Nat.le_of_ble_eq_true rfl⟩) hB hG.2 hC hS rfl hl.1 (Nat.le_of_ble_eq_true rfl) dX7_causeOf_34 ⟨Nat.le_of_ble_eq_true rfl, Nat.le_of_ble_eq_true rfl⟩ (fun H locs hC hS => ?_)
            refine lv_istore_n (lv' := [(2, .int (fX7_fault (w 0 0) (w 0 1) (w 0 2) (w 0 3) (w 0 4) g r 4)), (3, .int 4), (1, .int 3), (0, .ref (bd 3 r))]) hx hb dX7_causeOf_37 rfl hl (by decide) rfl (fun ls hl => ?_)
            refine lv_iload_n hx hb dX7_causeOf_38 rfl (lv_at hl 1 rfl) ?_
            refine lv_istore_n (lv' := [(1, .int 4), (2, .int (fX7_fault (w 0 0) (w 0 1) (w 0 2) (w 0 3) (w 0 4) g r 4)), (3, .int 4), (0, .ref (bd 3 r))]) hx hb dX7_causeOf_39 rfl hl (by decide) rfl (fun ls hl => ?_)
            refine lv_iinc (v := 5) (lv' := [(3, .int 5), (1, .int 4), (2, .int (fX7_fault (w 0 0) (w 0 1) (w 0 2) (w 0 3) (w 0 4) g r 4)), (0, .ref (bd 3 r))]) hx hb dX7_causeOf_40 hl (k := 2) rfl (by decide) (by decide) rfl (fun ls hl => ?_)
            refine lv_goto (tgt := 14) hx hb dX7_causeOf_43 (by decide) ?_
            refine lv_iload_n hx hb dX7_causeOf_14 rfl (lv_at hl 0 rfl) ?_
            refine lv_bipush (v := 6) hx hb dX7_causeOf_15 (by decide) ?_
            refine lv_icmp_ge (tgt := 46) hx hb dX7_causeOf_17 (by decide) (fun c => absurd c (by decide)) (fun _ => ?_)
            refine lv_aload_n hx hb dX7_causeOf_20 rfl (lv_at hl 3 rfl) ?_
            refine lv_iload_n hx hb dX7_causeOf_21 rfl (lv_at hl 0 rfl) ?_
            refine m_callSi (As := [.ref (bd 3 r), .int 5])  ⟨hx, hb, hml, hown, hts⟩ (kX7_fault l D cy e0 (bd := bd) (w := w) g S _ r hv_r hn_r 5 ) (va_cwS 2 hts gX7_causeOf_X7_fault rfl rfl rfl (by decide +kernel) ⟨Nat.le_of_ble_eq_true rfl, Nat.le_of_ble_eq_true rfl⟩) hB hG.2 hC hS rfl hl.1 (Nat.le_of_ble_eq_true rfl) dX7_causeOf_22 ⟨Nat.le_of_ble_eq_true rfl, Nat.le_of_ble_eq_true rfl⟩ (fun H locs hC hS => ?_)
            refine lv_iload_n hx hb dX7_causeOf_25 rfl (lv_at hl 2 rfl) ?_
            refine lv_icmp_gt (tgt := 32) hx hb dX7_causeOf_26 (by decide) (fun c13 => ?_) (fun c13 => ?_)
            · skip
              refine lv_aload_n hx hb dX7_causeOf_32 rfl (lv_at hl 3 rfl) ?_
              refine lv_iload_n hx hb dX7_causeOf_33 rfl (lv_at hl 0 rfl) ?_
              refine m_callSi (As := [.ref (bd 3 r), .int 5])  ⟨hx, hb, hml, hown, hts⟩ (kX7_fault l D cy e0 (bd := bd) (w := w) g S _ r hv_r hn_r 5 ) (va_cwS 2 hts gX7_causeOf_X7_fault rfl rfl rfl (by decide +kernel) ⟨Nat.le_of_ble_eq_true rfl, Nat.le_of_ble_eq_true rfl⟩) hB hG.2 hC hS rfl hl.1 (Nat.le_of_ble_eq_true rfl) dX7_causeOf_34 ⟨Nat.le_of_ble_eq_true rfl, Nat.le_of_ble_eq_true rfl⟩ (fun H locs hC hS => ?_)
              refine lv_istore_n (lv' := [(2, .int (fX7_fault (w 0 0) (w 0 1) (w 0 2) (w 0 3) (w 0 4) g r 5)), (3, .int 5), (1, .int 4), (0, .ref (bd 3 r))]) hx hb dX7_causeOf_37 rfl hl (by decide) rfl (fun ls hl => ?_)
              refine lv_iload_n hx hb dX7_causeOf_38 rfl (lv_at hl 1 rfl) ?_
              refine lv_istore_n (lv' := [(1, .int 5), (2, .int (fX7_fault (w 0 0) (w 0 1) (w 0 2) (w 0 3) (w 0 4) g r 5)), (3, .int 5), (0, .ref (bd 3 r))]) hx hb dX7_causeOf_39 rfl hl (by decide) rfl (fun ls hl => ?_)
              refine lv_iinc (v := 6) (lv' := [(3, .int 6), (1, .int 5), (2, .int (fX7_fault (w 0 0) (w 0 1) (w 0 2) (w 0 3) (w 0 4) g r 5)), (0, .ref (bd 3 r))]) hx hb dX7_causeOf_40 hl (k := 2) rfl (by decide) (by decide) rfl (fun ls hl => ?_)
              refine lv_goto (tgt := 14) hx hb dX7_causeOf_43 (by decide) ?_
              refine lv_iload_n hx hb dX7_causeOf_14 rfl (lv_at hl 0 rfl) ?_
              refine lv_bipush (v := 6) hx hb dX7_causeOf_15 (by decide) ?_
              refine lv_icmp_ge (tgt := 46) hx hb dX7_causeOf_17 (by decide) (fun _ => ?_) (fun c => absurd c (by decide))
              refine lv_iload_n hx hb dX7_causeOf_46 rfl (lv_at hl 1 rfl) ?_
              exact m_reti hx hb hr hG hC hS mEq_rf (by unfold fX7_causeOf; rw [if_neg c1, if_pos c2, if_neg c3, if_pos c11, if_pos c12, if_pos c13]) hlocks dX7_causeOf_47
            · skip
              refine lv_goto (tgt := 40) hx hb dX7_causeOf_29 (by decide) ?_
              refine lv_iinc (v := 6) (lv' := [(3, .int 6), (1, .int 4), (2, .int (fX7_fault (w 0 0) (w 0 1) (w 0 2) (w 0 3) (w 0 4) g r 4)), (0, .ref (bd 3 r))]) hx hb dX7_causeOf_40 hl (k := 0) rfl (by decide) (by decide) rfl (fun ls hl => ?_)
              refine lv_goto (tgt := 14) hx hb dX7_causeOf_43 (by decide) ?_
              refine lv_iload_n hx hb dX7_causeOf_14 rfl (lv_at hl 0 rfl) ?_
              refine lv_bipush (v := 6) hx hb dX7_causeOf_15 (by decide) ?_
              refine lv_icmp_ge (tgt := 46) hx hb dX7_causeOf_17 (by decide) (fun _ => ?_) (fun c => absurd c (by decide))
              refine lv_iload_n hx hb dX7_causeOf_46 rfl (lv_at hl 1 rfl) ?_
              exact m_reti hx hb hr hG hC hS mEq_rf (by unfold fX7_causeOf; rw [if_neg c1, if_pos c2, if_neg c3, if_pos c11, if_pos c12, if_neg c13]) hlocks dX7_causeOf_47
          · skip
            refine lv_goto (tgt := 40) hx hb dX7_causeOf_29 (by decide) ?_
            refine lv_iinc (v := 5) (lv' := [(3, .int 5), (1, .int 3), (2, .int (fX7_fault (w 0 0) (w 0 1) (w 0 2) (w 0 3) (w 0 4) g r 3)), (0, .ref (bd 3 r))]) hx hb dX7_causeOf_40 hl (k := 0) rfl (by decide) (by decide) rfl (fun ls hl => ?_)
            refine lv_goto (tgt := 14) hx hb dX7_causeOf_43 (by decide) ?_
            refine lv_iload_n hx hb dX7_causeOf_14 rfl (lv_at hl 0 rfl) ?_
            refine lv_bipush (v := 6) hx hb dX7_causeOf_15 (by decide) ?_
            refine lv_icmp_ge (tgt := 46) hx hb dX7_causeOf_17 (by decide) (fun c => absurd c (by decide)) (fun _ => ?_)
            refine lv_aload_n hx hb dX7_causeOf_20 rfl (lv_at hl 3 rfl) ?_
            refine lv_iload_n hx hb dX7_causeOf_21 rfl (lv_at hl 0 rfl) ?_
            refine m_callSi (As := [.ref (bd 3 r), .int 5])  ⟨hx, hb, hml, hown, hts⟩ (kX7_fault l D cy e0 (bd := bd) (w := w) g S _ r hv_r hn_r 5 ) (va_cwS 2 hts gX7_causeOf_X7_fault rfl rfl rfl (by decide +kernel) ⟨Nat.le_of_ble_eq_true rfl, Nat.le_of_ble_eq_true rfl⟩) hB hG.2 hC hS rfl hl.1 (Nat.le_of_ble_eq_true rfl) dX7_causeOf_22 ⟨Nat.le_of_ble_eq_true rfl, Nat.le_of_ble_eq_true rfl⟩ (fun H locs hC hS => ?_)
            refine lv_iload_n hx hb dX7_causeOf_25 rfl (lv_at hl 2 rfl) ?_
            refine lv_icmp_gt (tgt := 32) hx hb dX7_causeOf_26 (by decide) (fun c14 => ?_) (fun c14 => ?_)
            · skip
              refine lv_aload_n hx hb dX7_causeOf_32 rfl (lv_at hl 3 rfl) ?_
              refine lv_iload_n hx hb dX7_causeOf_33 rfl (lv_at hl 0 rfl) ?_
              refine m_callSi (As := [.ref (bd 3 r), .int 5])  ⟨hx, hb, hml, hown, hts⟩ (kX7_fault l D cy e0 (bd := bd) (w := w) g S _ r hv_r hn_r 5 ) (va_cwS 2 hts gX7_causeOf_X7_fault rfl rfl rfl (by decide +kernel) ⟨Nat.le_of_ble_eq_true rfl, Nat.le_of_ble_eq_true rfl⟩) hB hG.2 hC hS rfl hl.1 (Nat.le_of_ble_eq_true rfl) dX7_causeOf_34 ⟨Nat.le_of_ble_eq_true rfl, Nat.le_of_ble_eq_true rfl⟩ (fun H locs hC hS => ?_)
              refine lv_istore_n (lv' := [(2, .int (fX7_fault (w 0 0) (w 0 1) (w 0 2) (w 0 3) (w 0 4) g r 5)), (3, .int 5), (1, .int 3), (0, .ref (bd 3 r))]) hx hb dX7_causeOf_37 rfl hl (by decide) rfl (fun ls hl => ?_)
              refine lv_iload_n hx hb dX7_causeOf_38 rfl (lv_at hl 1 rfl) ?_
              refine lv_istore_n (lv' := [(1, .int 5), (2, .int (fX7_fault (w 0 0) (w 0 1) (w 0 2) (w 0 3) (w 0 4) g r 5)), (3, .int 5), (0, .ref (bd 3 r))]) hx hb dX7_causeOf_39 rfl hl (by decide) rfl (fun ls hl => ?_)
              refine lv_iinc (v := 6) (lv' := [(3, .int 6), (1, .int 5), (2, .int (fX7_fault (w 0 0) (w 0 1) (w 0 2) (w 0 3) (w 0 4) g r 5)), (0, .ref (bd 3 r))]) hx hb dX7_causeOf_40 hl (k := 2) rfl (by decide) (by decide) rfl (fun ls hl => ?_)
              refine lv_goto (tgt := 14) hx hb dX7_causeOf_43 (by decide) ?_
              refine lv_iload_n hx hb dX7_causeOf_14 rfl (lv_at hl 0 rfl) ?_
              refine lv_bipush (v := 6) hx hb dX7_causeOf_15 (by decide) ?_
              refine lv_icmp_ge (tgt := 46) hx hb dX7_causeOf_17 (by decide) (fun _ => ?_) (fun c => absurd c (by decide))
              refine lv_iload_n hx hb dX7_causeOf_46 rfl (lv_at hl 1 rfl) ?_
              exact m_reti hx hb hr hG hC hS mEq_rf (by unfold fX7_causeOf; rw [if_neg c1, if_pos c2, if_neg c3, if_pos c11, if_neg c12, if_pos c14]) hlocks dX7_causeOf_47
            · skip
              refine lv_goto (tgt := 40) hx hb dX7_causeOf_29 (by decide) ?_
              refine lv_iinc (v := 6) (lv' := [(3, .int 6), (1, .int 3), (2, .int (fX7_fault (w 0 0) (w 0 1) (w 0 2) (w 0 3) (w 0 4) g r 3)), (0, .ref (bd 3 r))]) hx hb dX7_causeOf_40 hl (k := 0) rfl (by decide) (by decide) rfl (fun ls hl => ?_)
              refine lv_goto (tgt := 14) hx hb dX7_causeOf_43 (by decide) ?_
              refine lv_iload_n hx hb dX7_causeOf_14 rfl (lv_at hl 0 rfl) ?_
              refine lv_bipush (v := 6) hx hb dX7_causeOf_15 (by decide) ?_
              refine lv_icmp_ge (tgt := 46) hx hb dX7_causeOf_17 (by decide) (fun _ => ?_) (fun c => absurd c (by decide))
              refine lv_iload_n hx hb dX7_causeOf_46 rfl (lv_at hl 1 rfl) ?_
              exact m_reti hx hb hr hG hC hS mEq_rf (by unfold fX7_causeOf; rw [if_neg c1, if_pos c2, if_neg c3, if_pos c11, if_neg c12, if_neg c14]) hlocks dX7_causeOf_47
        · skip
          refine lv_goto (tgt := 40) hx hb dX7_causeOf_29 (by decide) ?_
          refine lv_iinc (v := 4) (lv' := [(3, .int 4), (1, .int 1), (2, .int (fX7_fault (w 0 0) (w 0 1) (w 0 2) (w 0 3) (w 0 4) g r 1)), (0, .ref (bd 3 r))]) hx hb dX7_causeOf_40 hl (k := 0) rfl (by decide) (by decide) rfl (fun ls hl => ?_)
          refine lv_goto (tgt := 14) hx hb dX7_causeOf_43 (by decide) ?_
          refine lv_iload_n hx hb dX7_causeOf_14 rfl (lv_at hl 0 rfl) ?_
          refine lv_bipush (v := 6) hx hb dX7_causeOf_15 (by decide) ?_
          refine lv_icmp_ge (tgt := 46) hx hb dX7_causeOf_17 (by decide) (fun c => absurd c (by decide)) (fun _ => ?_)
          refine lv_aload_n hx hb dX7_causeOf_20 rfl (lv_at hl 3 rfl) ?_
          refine lv_iload_n hx hb dX7_causeOf_21 rfl (lv_at hl 0 rfl) ?_
          refine m_callSi (As := [.ref (bd 3 r), .int 4])  ⟨hx, hb, hml, hown, hts⟩ (kX7_fault l D cy e0 (bd := bd) (w := w) g S _ r hv_r hn_r 4 ) (va_cwS 2 hts gX7_causeOf_X7_fault rfl rfl rfl (by decide +kernel) ⟨Nat.le_of_ble_eq_true rfl, Nat.le_of_ble_eq_true rfl⟩) hB hG.2 hC hS rfl hl.1 (Nat.le_of_ble_eq_true rfl) dX7_causeOf_22 ⟨Nat.le_of_ble_eq_true rfl, Nat.le_of_ble_eq_true rfl⟩ (fun H locs hC hS => ?_)
          refine lv_iload_n hx hb dX7_causeOf_25 rfl (lv_at hl 2 rfl) ?_
          refine lv_icmp_gt (tgt := 32) hx hb dX7_causeOf_26 (by decide) (fun c15 => ?_) (fun c15 => ?_)
          · skip
            refine lv_aload_n hx hb dX7_causeOf_32 rfl (lv_at hl 3 rfl) ?_
            refine lv_iload_n hx hb dX7_causeOf_33 rfl (lv_at hl 0 rfl) ?_
            refine m_callSi (As := [.ref (bd 3 r), .int 4])  ⟨hx, hb, hml, hown, hts⟩ (kX7_fault l D cy e0 (bd := bd) (w := w) g S _ r hv_r hn_r 4 ) (va_cwS 2 hts gX7_causeOf_X7_fault rfl rfl rfl (by decide +kernel) ⟨Nat.le_of_ble_eq_true rfl, Nat.le_of_ble_eq_true rfl⟩) hB hG.2 hC hS rfl hl.1 (Nat.le_of_ble_eq_true rfl) dX7_causeOf_34 ⟨Nat.le_of_ble_eq_true rfl, Nat.le_of_ble_eq_true rfl⟩ (fun H locs hC hS => ?_)
            refine lv_istore_n (lv' := [(2, .int (fX7_fault (w 0 0) (w 0 1) (w 0 2) (w 0 3) (w 0 4) g r 4)), (3, .int 4), (1, .int 1), (0, .ref (bd 3 r))]) hx hb dX7_causeOf_37 rfl hl (by decide) rfl (fun ls hl => ?_)
            refine lv_iload_n hx hb dX7_causeOf_38 rfl (lv_at hl 1 rfl) ?_
            refine lv_istore_n (lv' := [(1, .int 4), (2, .int (fX7_fault (w 0 0) (w 0 1) (w 0 2) (w 0 3) (w 0 4) g r 4)), (3, .int 4), (0, .ref (bd 3 r))]) hx hb dX7_causeOf_39 rfl hl (by decide) rfl (fun ls hl => ?_)
            refine lv_iinc (v := 5) (lv' := [(3, .int 5), (1, .int 4), (2, .int (fX7_fault (w 0 0) (w 0 1) (w 0 2) (w 0 3) (w 0 4) g r 4)), (0, .ref (bd 3 r))]) hx hb dX7_causeOf_40 hl (k := 2) rfl (by decide) (by decide) rfl (fun ls hl => ?_)
            refine lv_goto (tgt := 14) hx hb dX7_causeOf_43 (by decide) ?_
            refine lv_iload_n hx hb dX7_causeOf_14 rfl (lv_at hl 0 rfl) ?_
            refine lv_bipush (v := 6) hx hb dX7_causeOf_15 (by decide) ?_
            refine lv_icmp_ge (tgt := 46) hx hb dX7_causeOf_17 (by decide) (fun c => absurd c (by decide)) (fun _ => ?_)
            refine lv_aload_n hx hb dX7_causeOf_20 rfl (lv_at hl 3 rfl) ?_
            refine lv_iload_n hx hb dX7_causeOf_21 rfl (lv_at hl 0 rfl) ?_
            refine m_callSi (As := [.ref (bd 3 r), .int 5])  ⟨hx, hb, hml, hown, hts⟩ (kX7_fault l D cy e0 (bd := bd) (w := w) g S _ r hv_r hn_r 5 ) (va_cwS 2 hts gX7_causeOf_X7_fault rfl rfl rfl (by decide +kernel) ⟨Nat.le_of_ble_eq_true rfl, Nat.le_of_ble_eq_true rfl⟩) hB hG.2 hC hS rfl hl.1 (Nat.le_of_ble_eq_true rfl) dX7_causeOf_22 ⟨Nat.le_of_ble_eq_true rfl, Nat.le_of_ble_eq_true rfl⟩ (fun H locs hC hS => ?_)
            refine lv_iload_n hx hb dX7_causeOf_25 rfl (lv_at hl 2 rfl) ?_
            refine lv_icmp_gt (tgt := 32) hx hb dX7_causeOf_26 (by decide) (fun c16 => ?_) (fun c16 => ?_)
            · skip
              refine lv_aload_n hx hb dX7_causeOf_32 rfl (lv_at hl 3 rfl) ?_
              refine lv_iload_n hx hb dX7_causeOf_33 rfl (lv_at hl 0 rfl) ?_
              refine m_callSi (As := [.ref (bd 3 r), .int 5])  ⟨hx, hb, hml, hown, hts⟩ (kX7_fault l D cy e0 (bd := bd) (w := w) g S _ r hv_r hn_r 5 ) (va_cwS 2 hts gX7_causeOf_X7_fault rfl rfl rfl (by decide +kernel) ⟨Nat.le_of_ble_eq_true rfl, Nat.le_of_ble_eq_true rfl⟩) hB hG.2 hC hS rfl hl.1 (Nat.le_of_ble_eq_true rfl) dX7_causeOf_34 ⟨Nat.le_of_ble_eq_true rfl, Nat.le_of_ble_eq_true rfl⟩ (fun H locs hC hS => ?_)
              refine lv_istore_n (lv' := [(2, .int (fX7_fault (w 0 0) (w 0 1) (w 0 2) (w 0 3) (w 0 4) g r 5)), (3, .int 5), (1, .int 4), (0, .ref (bd 3 r))]) hx hb dX7_causeOf_37 rfl hl (by decide) rfl (fun ls hl => ?_)
              refine lv_iload_n hx hb dX7_causeOf_38 rfl (lv_at hl 1 rfl) ?_
              refine lv_istore_n (lv' := [(1, .int 5), (2, .int (fX7_fault (w 0 0) (w 0 1) (w 0 2) (w 0 3) (w 0 4) g r 5)), (3, .int 5), (0, .ref (bd 3 r))]) hx hb dX7_causeOf_39 rfl hl (by decide) rfl (fun ls hl => ?_)
              refine lv_iinc (v := 6) (lv' := [(3, .int 6), (1, .int 5), (2, .int (fX7_fault (w 0 0) (w 0 1) (w 0 2) (w 0 3) (w 0 4) g r 5)), (0, .ref (bd 3 r))]) hx hb dX7_causeOf_40 hl (k := 2) rfl (by decide) (by decide) rfl (fun ls hl => ?_)
              refine lv_goto (tgt := 14) hx hb dX7_causeOf_43 (by decide) ?_
              refine lv_iload_n hx hb dX7_causeOf_14 rfl (lv_at hl 0 rfl) ?_
              refine lv_bipush (v := 6) hx hb dX7_causeOf_15 (by decide) ?_
              refine lv_icmp_ge (tgt := 46) hx hb dX7_causeOf_17 (by decide) (fun _ => ?_) (fun c => absurd c (by decide))
              refine lv_iload_n hx hb dX7_causeOf_46 rfl (lv_at hl 1 rfl) ?_
              exact m_reti hx hb hr hG hC hS mEq_rf (by unfold fX7_causeOf; rw [if_neg c1, if_pos c2, if_neg c3, if_neg c11, if_pos c15, if_pos c16]) hlocks dX7_causeOf_47
            · skip
              refine lv_goto (tgt := 40) hx hb dX7_causeOf_29 (by decide) ?_
              refine lv_iinc (v := 6) (lv' := [(3, .int 6), (1, .int 4), (2, .int (fX7_fault (w 0 0) (w 0 1) (w 0 2) (w 0 3) (w 0 4) g r 4)), (0, .ref (bd 3 r))]) hx hb dX7_causeOf_40 hl (k := 0) rfl (by decide) (by decide) rfl (fun ls hl => ?_)
              refine lv_goto (tgt := 14) hx hb dX7_causeOf_43 (by decide) ?_
              refine lv_iload_n hx hb dX7_causeOf_14 rfl (lv_at hl 0 rfl) ?_
              refine lv_bipush (v := 6) hx hb dX7_causeOf_15 (by decide) ?_
              refine lv_icmp_ge (tgt := 46) hx hb dX7_causeOf_17 (by decide) (fun _ => ?_) (fun c => absurd c (by decide))
              refine lv_iload_n hx hb dX7_causeOf_46 rfl (lv_at hl 1 rfl) ?_
              exact m_reti hx hb hr hG hC hS mEq_rf (by unfold fX7_causeOf; rw [if_neg c1, if_pos c2, if_neg c3, if_neg c11, if_pos c15, if_neg c16]) hlocks dX7_causeOf_47
          · skip
            refine lv_goto (tgt := 40) hx hb dX7_causeOf_29 (by decide) ?_
            refine lv_iinc (v := 5) (lv' := [(3, .int 5), (1, .int 1), (2, .int (fX7_fault (w 0 0) (w 0 1) (w 0 2) (w 0 3) (w 0 4) g r 1)), (0, .ref (bd 3 r))]) hx hb dX7_causeOf_40 hl (k := 0) rfl (by decide) (by decide) rfl (fun ls hl => ?_)
            refine lv_goto (tgt := 14) hx hb dX7_causeOf_43 (by decide) ?_
            refine lv_iload_n hx hb dX7_causeOf_14 rfl (lv_at hl 0 rfl) ?_
            refine lv_bipush (v := 6) hx hb dX7_causeOf_15 (by decide) ?_
            refine lv_icmp_ge (tgt := 46) hx hb dX7_causeOf_17 (by decide) (fun c => absurd c (by decide)) (fun _ => ?_)
            refine lv_aload_n hx hb dX7_causeOf_20 rfl (lv_at hl 3 rfl) ?_
            refine lv_iload_n hx hb dX7_causeOf_21 rfl (lv_at hl 0 rfl) ?_
            refine m_callSi (As := [.ref (bd 3 r), .int 5])  ⟨hx, hb, hml, hown, hts⟩ (kX7_fault l D cy e0 (bd := bd) (w := w) g S _ r hv_r hn_r 5 ) (va_cwS 2 hts gX7_causeOf_X7_fault rfl rfl rfl (by decide +kernel) ⟨Nat.le_of_ble_eq_true rfl, Nat.le_of_ble_eq_true rfl⟩) hB hG.2 hC hS rfl hl.1 (Nat.le_of_ble_eq_true rfl) dX7_causeOf_22 ⟨Nat.le_of_ble_eq_true rfl, Nat.le_of_ble_eq_true rfl⟩ (fun H locs hC hS => ?_)
            refine lv_iload_n hx hb dX7_causeOf_25 rfl (lv_at hl 2 rfl) ?_
            refine lv_icmp_gt (tgt := 32) hx hb dX7_causeOf_26 (by decide) (fun c17 => ?_) (fun c17 => ?_)
            · skip
              refine lv_aload_n hx hb dX7_causeOf_32 rfl (lv_at hl 3 rfl) ?_
              refine lv_iload_n hx hb dX7_causeOf_33 rfl (lv_at hl 0 rfl) ?_
              refine m_callSi (As := [.ref (bd 3 r), .int 5])  ⟨hx, hb, hml, hown, hts⟩ (kX7_fault l D cy e0 (bd := bd) (w := w) g S _ r hv_r hn_r 5 ) (va_cwS 2 hts gX7_causeOf_X7_fault rfl rfl rfl (by decide +kernel) ⟨Nat.le_of_ble_eq_true rfl, Nat.le_of_ble_eq_true rfl⟩) hB hG.2 hC hS rfl hl.1 (Nat.le_of_ble_eq_true rfl) dX7_causeOf_34 ⟨Nat.le_of_ble_eq_true rfl, Nat.le_of_ble_eq_true rfl⟩ (fun H locs hC hS => ?_)
              refine lv_istore_n (lv' := [(2, .int (fX7_fault (w 0 0) (w 0 1) (w 0 2) (w 0 3) (w 0 4) g r 5)), (3, .int 5), (1, .int 1), (0, .ref (bd 3 r))]) hx hb dX7_causeOf_37 rfl hl (by decide) rfl (fun ls hl => ?_)
              refine lv_iload_n hx hb dX7_causeOf_38 rfl (lv_at hl 1 rfl) ?_
              refine lv_istore_n (lv' := [(1, .int 5), (2, .int (fX7_fault (w 0 0) (w 0 1) (w 0 2) (w 0 3) (w 0 4) g r 5)), (3, .int 5), (0, .ref (bd 3 r))]) hx hb dX7_causeOf_39 rfl hl (by decide) rfl (fun ls hl => ?_)
              refine lv_iinc (v := 6) (lv' := [(3, .int 6), (1, .int 5), (2, .int (fX7_fault (w 0 0) (w 0 1) (w 0 2) (w 0 3) (w 0 4) g r 5)), (0, .ref (bd 3 r))]) hx hb dX7_causeOf_40 hl (k := 2) rfl (by decide) (by decide) rfl (fun ls hl => ?_)
              refine lv_goto (tgt := 14) hx hb dX7_causeOf_43 (by decide) ?_
              refine lv_iload_n hx hb dX7_causeOf_14 rfl (lv_at hl 0 rfl) ?_
              refine lv_bipush (v := 6) hx hb dX7_causeOf_15 (by decide) ?_
              refine lv_icmp_ge (tgt := 46) hx hb dX7_causeOf_17 (by decide) (fun _ => ?_) (fun c => absurd c (by decide))
              refine lv_iload_n hx hb dX7_causeOf_46 rfl (lv_at hl 1 rfl) ?_
              exact m_reti hx hb hr hG hC hS mEq_rf (by unfold fX7_causeOf; rw [if_neg c1, if_pos c2, if_neg c3, if_neg c11, if_neg c15, if_pos c17]) hlocks dX7_causeOf_47
            · skip
              refine lv_goto (tgt := 40) hx hb dX7_causeOf_29 (by decide) ?_
              refine lv_iinc (v := 6) (lv' := [(3, .int 6), (1, .int 1), (2, .int (fX7_fault (w 0 0) (w 0 1) (w 0 2) (w 0 3) (w 0 4) g r 1)), (0, .ref (bd 3 r))]) hx hb dX7_causeOf_40 hl (k := 0) rfl (by decide) (by decide) rfl (fun ls hl => ?_)
              refine lv_goto (tgt := 14) hx hb dX7_causeOf_43 (by decide) ?_
              refine lv_iload_n hx hb dX7_causeOf_14 rfl (lv_at hl 0 rfl) ?_
              refine lv_bipush (v := 6) hx hb dX7_causeOf_15 (by decide) ?_
              refine lv_icmp_ge (tgt := 46) hx hb dX7_causeOf_17 (by decide) (fun _ => ?_) (fun c => absurd c (by decide))
              refine lv_iload_n hx hb dX7_causeOf_46 rfl (lv_at hl 1 rfl) ?_
              exact m_reti hx hb hr hG hC hS mEq_rf (by unfold fX7_causeOf; rw [if_neg c1, if_pos c2, if_neg c3, if_neg c11, if_neg c15, if_neg c17]) hlocks dX7_causeOf_47
    · skip
      refine lv_goto (tgt := 40) hx hb dX7_causeOf_29 (by decide) ?_
      refine lv_iinc (v := 2) (lv' := [(3, .int 2), (2, .int 0), (1, .int 0), (0, .ref (bd 3 r))]) hx hb dX7_causeOf_40 hl (k := 0) rfl (by decide) (by decide) rfl (fun ls hl => ?_)
      refine lv_goto (tgt := 14) hx hb dX7_causeOf_43 (by decide) ?_
      refine lv_iload_n hx hb dX7_causeOf_14 rfl (lv_at hl 0 rfl) ?_
      refine lv_bipush (v := 6) hx hb dX7_causeOf_15 (by decide) ?_
      refine lv_icmp_ge (tgt := 46) hx hb dX7_causeOf_17 (by decide) (fun c => absurd c (by decide)) (fun _ => ?_)
      refine lv_aload_n hx hb dX7_causeOf_20 rfl (lv_at hl 3 rfl) ?_
      refine lv_iload_n hx hb dX7_causeOf_21 rfl (lv_at hl 0 rfl) ?_
      refine m_callSi (As := [.ref (bd 3 r), .int 2])  ⟨hx, hb, hml, hown, hts⟩ (kX7_fault l D cy e0 (bd := bd) (w := w) g S _ r hv_r hn_r 2 ) (va_cwS 2 hts gX7_causeOf_X7_fault rfl rfl rfl (by decide +kernel) ⟨Nat.le_of_ble_eq_true rfl, Nat.le_of_ble_eq_true rfl⟩) hB hG.2 hC hS rfl hl.1 (Nat.le_of_ble_eq_true rfl) dX7_causeOf_22 ⟨Nat.le_of_ble_eq_true rfl, Nat.le_of_ble_eq_true rfl⟩ (fun H locs hC hS => ?_)
      refine lv_iload_n hx hb dX7_causeOf_25 rfl (lv_at hl 1 rfl) ?_
      refine lv_icmp_gt (tgt := 32) hx hb dX7_causeOf_26 (by decide) (fun c18 => ?_) (fun c18 => ?_)
      · skip
        refine lv_aload_n hx hb dX7_causeOf_32 rfl (lv_at hl 3 rfl) ?_
        refine lv_iload_n hx hb dX7_causeOf_33 rfl (lv_at hl 0 rfl) ?_
        refine m_callSi (As := [.ref (bd 3 r), .int 2])  ⟨hx, hb, hml, hown, hts⟩ (kX7_fault l D cy e0 (bd := bd) (w := w) g S _ r hv_r hn_r 2 ) (va_cwS 2 hts gX7_causeOf_X7_fault rfl rfl rfl (by decide +kernel) ⟨Nat.le_of_ble_eq_true rfl, Nat.le_of_ble_eq_true rfl⟩) hB hG.2 hC hS rfl hl.1 (Nat.le_of_ble_eq_true rfl) dX7_causeOf_34 ⟨Nat.le_of_ble_eq_true rfl, Nat.le_of_ble_eq_true rfl⟩ (fun H locs hC hS => ?_)
        refine lv_istore_n (lv' := [(2, .int (fX7_fault (w 0 0) (w 0 1) (w 0 2) (w 0 3) (w 0 4) g r 2)), (3, .int 2), (1, .int 0), (0, .ref (bd 3 r))]) hx hb dX7_causeOf_37 rfl hl (by decide) rfl (fun ls hl => ?_)
        refine lv_iload_n hx hb dX7_causeOf_38 rfl (lv_at hl 1 rfl) ?_
        refine lv_istore_n (lv' := [(1, .int 2), (2, .int (fX7_fault (w 0 0) (w 0 1) (w 0 2) (w 0 3) (w 0 4) g r 2)), (3, .int 2), (0, .ref (bd 3 r))]) hx hb dX7_causeOf_39 rfl hl (by decide) rfl (fun ls hl => ?_)
        refine lv_iinc (v := 3) (lv' := [(3, .int 3), (1, .int 2), (2, .int (fX7_fault (w 0 0) (w 0 1) (w 0 2) (w 0 3) (w 0 4) g r 2)), (0, .ref (bd 3 r))]) hx hb dX7_causeOf_40 hl (k := 2) rfl (by decide) (by decide) rfl (fun ls hl => ?_)
        refine lv_goto (tgt := 14) hx hb dX7_causeOf_43 (by decide) ?_
        refine lv_iload_n hx hb dX7_causeOf_14 rfl (lv_at hl 0 rfl) ?_
        refine lv_bipush (v := 6) hx hb dX7_causeOf_15 (by decide) ?_
        refine lv_icmp_ge (tgt := 46) hx hb dX7_causeOf_17 (by decide) (fun c => absurd c (by decide)) (fun _ => ?_)
        refine lv_aload_n hx hb dX7_causeOf_20 rfl (lv_at hl 3 rfl) ?_
        refine lv_iload_n hx hb dX7_causeOf_21 rfl (lv_at hl 0 rfl) ?_
        refine m_callSi (As := [.ref (bd 3 r), .int 3])  ⟨hx, hb, hml, hown, hts⟩ (kX7_fault l D cy e0 (bd := bd) (w := w) g S _ r hv_r hn_r 3 ) (va_cwS 2 hts gX7_causeOf_X7_fault rfl rfl rfl (by decide +kernel) ⟨Nat.le_of_ble_eq_true rfl, Nat.le_of_ble_eq_true rfl⟩) hB hG.2 hC hS rfl hl.1 (Nat.le_of_ble_eq_true rfl) dX7_causeOf_22 ⟨Nat.le_of_ble_eq_true rfl, Nat.le_of_ble_eq_true rfl⟩ (fun H locs hC hS => ?_)
        refine lv_iload_n hx hb dX7_causeOf_25 rfl (lv_at hl 2 rfl) ?_
        refine lv_icmp_gt (tgt := 32) hx hb dX7_causeOf_26 (by decide) (fun c19 => ?_) (fun c19 => ?_)
        · skip
          refine lv_aload_n hx hb dX7_causeOf_32 rfl (lv_at hl 3 rfl) ?_
          refine lv_iload_n hx hb dX7_causeOf_33 rfl (lv_at hl 0 rfl) ?_
          refine m_callSi (As := [.ref (bd 3 r), .int 3])  ⟨hx, hb, hml, hown, hts⟩ (kX7_fault l D cy e0 (bd := bd) (w := w) g S _ r hv_r hn_r 3 ) (va_cwS 2 hts gX7_causeOf_X7_fault rfl rfl rfl (by decide +kernel) ⟨Nat.le_of_ble_eq_true rfl, Nat.le_of_ble_eq_true rfl⟩) hB hG.2 hC hS rfl hl.1 (Nat.le_of_ble_eq_true rfl) dX7_causeOf_34 ⟨Nat.le_of_ble_eq_true rfl, Nat.le_of_ble_eq_true rfl⟩ (fun H locs hC hS => ?_)
          refine lv_istore_n (lv' := [(2, .int (fX7_fault (w 0 0) (w 0 1) (w 0 2) (w 0 3) (w 0 4) g r 3)), (3, .int 3), (1, .int 2), (0, .ref (bd 3 r))]) hx hb dX7_causeOf_37 rfl hl (by decide) rfl (fun ls hl => ?_)
          refine lv_iload_n hx hb dX7_causeOf_38 rfl (lv_at hl 1 rfl) ?_
          refine lv_istore_n (lv' := [(1, .int 3), (2, .int (fX7_fault (w 0 0) (w 0 1) (w 0 2) (w 0 3) (w 0 4) g r 3)), (3, .int 3), (0, .ref (bd 3 r))]) hx hb dX7_causeOf_39 rfl hl (by decide) rfl (fun ls hl => ?_)
          refine lv_iinc (v := 4) (lv' := [(3, .int 4), (1, .int 3), (2, .int (fX7_fault (w 0 0) (w 0 1) (w 0 2) (w 0 3) (w 0 4) g r 3)), (0, .ref (bd 3 r))]) hx hb dX7_causeOf_40 hl (k := 2) rfl (by decide) (by decide) rfl (fun ls hl => ?_)
          refine lv_goto (tgt := 14) hx hb dX7_causeOf_43 (by decide) ?_
          refine lv_iload_n hx hb dX7_causeOf_14 rfl (lv_at hl 0 rfl) ?_
          refine lv_bipush (v := 6) hx hb dX7_causeOf_15 (by decide) ?_
          refine lv_icmp_ge (tgt := 46) hx hb dX7_causeOf_17 (by decide) (fun c => absurd c (by decide)) (fun _ => ?_)
          refine lv_aload_n hx hb dX7_causeOf_20 rfl (lv_at hl 3 rfl) ?_
          refine lv_iload_n hx hb dX7_causeOf_21 rfl (lv_at hl 0 rfl) ?_
          refine m_callSi (As := [.ref (bd 3 r), .int 4])  ⟨hx, hb, hml, hown, hts⟩ (kX7_fault l D cy e0 (bd := bd) (w := w) g S _ r hv_r hn_r 4 ) (va_cwS 2 hts gX7_causeOf_X7_fault rfl rfl rfl (by decide +kernel) ⟨Nat.le_of_ble_eq_true rfl, Nat.le_of_ble_eq_true rfl⟩) hB hG.2 hC hS rfl hl.1 (Nat.le_of_ble_eq_true rfl) dX7_causeOf_22 ⟨Nat.le_of_ble_eq_true rfl, Nat.le_of_ble_eq_true rfl⟩ (fun H locs hC hS => ?_)
          refine lv_iload_n hx hb dX7_causeOf_25 rfl (lv_at hl 2 rfl) ?_
          refine lv_icmp_gt (tgt := 32) hx hb dX7_causeOf_26 (by decide) (fun c20 => ?_) (fun c20 => ?_)
          · skip
            refine lv_aload_n hx hb dX7_causeOf_32 rfl (lv_at hl 3 rfl) ?_
            refine lv_iload_n hx hb dX7_causeOf_33 rfl (lv_at hl 0 rfl) ?_
            refine m_callSi (As := [.ref (bd 3 r), .int 4])  ⟨hx, hb, hml, hown, hts⟩ (kX7_fault l D cy e0 (bd := bd) (w := w) g S _ r hv_r hn_r 4 ) (va_cwS 2 hts gX7_causeOf_X7_fault rfl rfl rfl (by decide +kernel) ⟨Nat.le_of_ble_eq_true rfl, Nat.le_of_ble_eq_true rfl⟩) hB hG.2 hC hS rfl hl.1 (Nat.le_of_ble_eq_true rfl) dX7_causeOf_34 ⟨Nat.le_of_ble_eq_true rfl, Nat.le_of_ble_eq_true rfl⟩ (fun H locs hC hS => ?_)
            refine lv_istore_n (lv' := [(2, .int (fX7_fault (w 0 0) (w 0 1) (w 0 2) (w 0 3) (w 0 4) g r 4)), (3, .int 4), (1, .int 3), (0, .ref (bd 3 r))]) hx hb dX7_causeOf_37 rfl hl (by decide) rfl (fun ls hl => ?_)
            refine lv_iload_n hx hb dX7_causeOf_38 rfl (lv_at hl 1 rfl) ?_
            refine lv_istore_n (lv' := [(1, .int 4), (2, .int (fX7_fault (w 0 0) (w 0 1) (w 0 2) (w 0 3) (w 0 4) g r 4)), (3, .int 4), (0, .ref (bd 3 r))]) hx hb dX7_causeOf_39 rfl hl (by decide) rfl (fun ls hl => ?_)
            refine lv_iinc (v := 5) (lv' := [(3, .int 5), (1, .int 4), (2, .int (fX7_fault (w 0 0) (w 0 1) (w 0 2) (w 0 3) (w 0 4) g r 4)), (0, .ref (bd 3 r))]) hx hb dX7_causeOf_40 hl (k := 2) rfl (by decide) (by decide) rfl (fun ls hl => ?_)
            refine lv_goto (tgt := 14) hx hb dX7_causeOf_43 (by decide) ?_
            refine lv_iload_n hx hb dX7_causeOf_14 rfl (lv_at hl 0 rfl) ?_
            refine lv_bipush (v := 6) hx hb dX7_causeOf_15 (by decide) ?_
            refine lv_icmp_ge (tgt := 46) hx hb dX7_causeOf_17 (by decide) (fun c => absurd c (by decide)) (fun _ => ?_)
            refine lv_aload_n hx hb dX7_causeOf_20 rfl (lv_at hl 3 rfl) ?_
            refine lv_iload_n hx hb dX7_causeOf_21 rfl (lv_at hl 0 rfl) ?_
            refine m_callSi (As := [.ref (bd 3 r), .int 5])  ⟨hx, hb, hml, hown, hts⟩ (kX7_fault l D cy e0 (bd := bd) (w := w) g S _ r hv_r hn_r 5 ) (va_cwS 2 hts gX7_causeOf_X7_fault rfl rfl rfl (by decide +kernel) ⟨Nat.le_of_ble_eq_true rfl, Nat.le_of_ble_eq_true rfl⟩) hB hG.2 hC hS rfl hl.1 (Nat.le_of_ble_eq_true rfl) dX7_causeOf_22 ⟨Nat.le_of_ble_eq_true rfl, Nat.le_of_ble_eq_true rfl⟩ (fun H locs hC hS => ?_)
            refine lv_iload_n hx hb dX7_causeOf_25 rfl (lv_at hl 2 rfl) ?_
            refine lv_icmp_gt (tgt := 32) hx hb dX7_causeOf_26 (by decide) (fun c21 => ?_) (fun c21 => ?_)
            · skip
              refine lv_aload_n hx hb dX7_causeOf_32 rfl (lv_at hl 3 rfl) ?_
              refine lv_iload_n hx hb dX7_causeOf_33 rfl (lv_at hl 0 rfl) ?_
              refine m_callSi (As := [.ref (bd 3 r), .int 5])  ⟨hx, hb, hml, hown, hts⟩ (kX7_fault l D cy e0 (bd := bd) (w := w) g S _ r hv_r hn_r 5 ) (va_cwS 2 hts gX7_causeOf_X7_fault rfl rfl rfl (by decide +kernel) ⟨Nat.le_of_ble_eq_true rfl, Nat.le_of_ble_eq_true rfl⟩) hB hG.2 hC hS rfl hl.1 (Nat.le_of_ble_eq_true rfl) dX7_causeOf_34 ⟨Nat.le_of_ble_eq_true rfl, Nat.le_of_ble_eq_true rfl⟩ (fun H locs hC hS => ?_)
              refine lv_istore_n (lv' := [(2, .int (fX7_fault (w 0 0) (w 0 1) (w 0 2) (w 0 3) (w 0 4) g r 5)), (3, .int 5), (1, .int 4), (0, .ref (bd 3 r))]) hx hb dX7_causeOf_37 rfl hl (by decide) rfl (fun ls hl => ?_)
              refine lv_iload_n hx hb dX7_causeOf_38 rfl (lv_at hl 1 rfl) ?_
              refine lv_istore_n (lv' := [(1, .int 5), (2, .int (fX7_fault (w 0 0) (w 0 1) (w 0 2) (w 0 3) (w 0 4) g r 5)), (3, .int 5), (0, .ref (bd 3 r))]) hx hb dX7_causeOf_39 rfl hl (by decide) rfl (fun ls hl => ?_)
              refine lv_iinc (v := 6) (lv' := [(3, .int 6), (1, .int 5), (2, .int (fX7_fault (w 0 0) (w 0 1) (w 0 2) (w 0 3) (w 0 4) g r 5)), (0, .ref (bd 3 r))]) hx hb dX7_causeOf_40 hl (k := 2) rfl (by decide) (by decide) rfl (fun ls hl => ?_)
              refine lv_goto (tgt := 14) hx hb dX7_causeOf_43 (by decide) ?_
              refine lv_iload_n hx hb dX7_causeOf_14 rfl (lv_at hl 0 rfl) ?_
              refine lv_bipush (v := 6) hx hb dX7_causeOf_15 (by decide) ?_
              refine lv_icmp_ge (tgt := 46) hx hb dX7_causeOf_17 (by decide) (fun _ => ?_) (fun c => absurd c (by decide))
              refine lv_iload_n hx hb dX7_causeOf_46 rfl (lv_at hl 1 rfl) ?_
              exact m_reti hx hb hr hG hC hS mEq_rf (by unfold fX7_causeOf; rw [if_neg c1, if_neg c2, if_pos c18, if_pos c19, if_pos c20, if_pos c21]) hlocks dX7_causeOf_47
            · skip
              refine lv_goto (tgt := 40) hx hb dX7_causeOf_29 (by decide) ?_
              refine lv_iinc (v := 6) (lv' := [(3, .int 6), (1, .int 4), (2, .int (fX7_fault (w 0 0) (w 0 1) (w 0 2) (w 0 3) (w 0 4) g r 4)), (0, .ref (bd 3 r))]) hx hb dX7_causeOf_40 hl (k := 0) rfl (by decide) (by decide) rfl (fun ls hl => ?_)
              refine lv_goto (tgt := 14) hx hb dX7_causeOf_43 (by decide) ?_
              refine lv_iload_n hx hb dX7_causeOf_14 rfl (lv_at hl 0 rfl) ?_
              refine lv_bipush (v := 6) hx hb dX7_causeOf_15 (by decide) ?_
              refine lv_icmp_ge (tgt := 46) hx hb dX7_causeOf_17 (by decide) (fun _ => ?_) (fun c => absurd c (by decide))
              refine lv_iload_n hx hb dX7_causeOf_46 rfl (lv_at hl 1 rfl) ?_
              exact m_reti hx hb hr hG hC hS mEq_rf (by unfold fX7_causeOf; rw [if_neg c1, if_neg c2, if_pos c18, if_pos c19, if_pos c20, if_neg c21]) hlocks dX7_causeOf_47
          · skip
            refine lv_goto (tgt := 40) hx hb dX7_causeOf_29 (by decide) ?_
            refine lv_iinc (v := 5) (lv' := [(3, .int 5), (1, .int 3), (2, .int (fX7_fault (w 0 0) (w 0 1) (w 0 2) (w 0 3) (w 0 4) g r 3)), (0, .ref (bd 3 r))]) hx hb dX7_causeOf_40 hl (k := 0) rfl (by decide) (by decide) rfl (fun ls hl => ?_)
            refine lv_goto (tgt := 14) hx hb dX7_causeOf_43 (by decide) ?_
            refine lv_iload_n hx hb dX7_causeOf_14 rfl (lv_at hl 0 rfl) ?_
            refine lv_bipush (v := 6) hx hb dX7_causeOf_15 (by decide) ?_
            refine lv_icmp_ge (tgt := 46) hx hb dX7_causeOf_17 (by decide) (fun c => absurd c (by decide)) (fun _ => ?_)
            refine lv_aload_n hx hb dX7_causeOf_20 rfl (lv_at hl 3 rfl) ?_
            refine lv_iload_n hx hb dX7_causeOf_21 rfl (lv_at hl 0 rfl) ?_
            refine m_callSi (As := [.ref (bd 3 r), .int 5])  ⟨hx, hb, hml, hown, hts⟩ (kX7_fault l D cy e0 (bd := bd) (w := w) g S _ r hv_r hn_r 5 ) (va_cwS 2 hts gX7_causeOf_X7_fault rfl rfl rfl (by decide +kernel) ⟨Nat.le_of_ble_eq_true rfl, Nat.le_of_ble_eq_true rfl⟩) hB hG.2 hC hS rfl hl.1 (Nat.le_of_ble_eq_true rfl) dX7_causeOf_22 ⟨Nat.le_of_ble_eq_true rfl, Nat.le_of_ble_eq_true rfl⟩ (fun H locs hC hS => ?_)
            refine lv_iload_n hx hb dX7_causeOf_25 rfl (lv_at hl 2 rfl) ?_
            refine lv_icmp_gt (tgt := 32) hx hb dX7_causeOf_26 (by decide) (fun c22 => ?_) (fun c22 => ?_)
            · skip
              refine lv_aload_n hx hb dX7_causeOf_32 rfl (lv_at hl 3 rfl) ?_
              refine lv_iload_n hx hb dX7_causeOf_33 rfl (lv_at hl 0 rfl) ?_
              refine m_callSi (As := [.ref (bd 3 r), .int 5])  ⟨hx, hb, hml, hown, hts⟩ (kX7_fault l D cy e0 (bd := bd) (w := w) g S _ r hv_r hn_r 5 ) (va_cwS 2 hts gX7_causeOf_X7_fault rfl rfl rfl (by decide +kernel) ⟨Nat.le_of_ble_eq_true rfl, Nat.le_of_ble_eq_true rfl⟩) hB hG.2 hC hS rfl hl.1 (Nat.le_of_ble_eq_true rfl) dX7_causeOf_34 ⟨Nat.le_of_ble_eq_true rfl, Nat.le_of_ble_eq_true rfl⟩ (fun H locs hC hS => ?_)
              refine lv_istore_n (lv' := [(2, .int (fX7_fault (w 0 0) (w 0 1) (w 0 2) (w 0 3) (w 0 4) g r 5)), (3, .int 5), (1, .int 3), (0, .ref (bd 3 r))]) hx hb dX7_causeOf_37 rfl hl (by decide) rfl (fun ls hl => ?_)
              refine lv_iload_n hx hb dX7_causeOf_38 rfl (lv_at hl 1 rfl) ?_
              refine lv_istore_n (lv' := [(1, .int 5), (2, .int (fX7_fault (w 0 0) (w 0 1) (w 0 2) (w 0 3) (w 0 4) g r 5)), (3, .int 5), (0, .ref (bd 3 r))]) hx hb dX7_causeOf_39 rfl hl (by decide) rfl (fun ls hl => ?_)
              refine lv_iinc (v := 6) (lv' := [(3, .int 6), (1, .int 5), (2, .int (fX7_fault (w 0 0) (w 0 1) (w 0 2) (w 0 3) (w 0 4) g r 5)), (0, .ref (bd 3 r))]) hx hb dX7_causeOf_40 hl (k := 2) rfl (by decide) (by decide) rfl (fun ls hl => ?_)
              refine lv_goto (tgt := 14) hx hb dX7_causeOf_43 (by decide) ?_
              refine lv_iload_n hx hb dX7_causeOf_14 rfl (lv_at hl 0 rfl) ?_
              refine lv_bipush (v := 6) hx hb dX7_causeOf_15 (by decide) ?_
              refine lv_icmp_ge (tgt := 46) hx hb dX7_causeOf_17 (by decide) (fun _ => ?_) (fun c => absurd c (by decide))
              refine lv_iload_n hx hb dX7_causeOf_46 rfl (lv_at hl 1 rfl) ?_
              exact m_reti hx hb hr hG hC hS mEq_rf (by unfold fX7_causeOf; rw [if_neg c1, if_neg c2, if_pos c18, if_pos c19, if_neg c20, if_pos c22]) hlocks dX7_causeOf_47
            · skip
              refine lv_goto (tgt := 40) hx hb dX7_causeOf_29 (by decide) ?_
              refine lv_iinc (v := 6) (lv' := [(3, .int 6), (1, .int 3), (2, .int (fX7_fault (w 0 0) (w 0 1) (w 0 2) (w 0 3) (w 0 4) g r 3)), (0, .ref (bd 3 r))]) hx hb dX7_causeOf_40 hl (k := 0) rfl (by decide) (by decide) rfl (fun ls hl => ?_)
              refine lv_goto (tgt := 14) hx hb dX7_causeOf_43 (by decide) ?_
              refine lv_iload_n hx hb dX7_causeOf_14 rfl (lv_at hl 0 rfl) ?_
              refine lv_bipush (v := 6) hx hb dX7_causeOf_15 (by decide) ?_
              refine lv_icmp_ge (tgt := 46) hx hb dX7_causeOf_17 (by decide) (fun _ => ?_) (fun c => absurd c (by decide))
              refine lv_iload_n hx hb dX7_causeOf_46 rfl (lv_at hl 1 rfl) ?_
              exact m_reti hx hb hr hG hC hS mEq_rf (by unfold fX7_causeOf; rw [if_neg c1, if_neg c2, if_pos c18, if_pos c19, if_neg c20, if_neg c22]) hlocks dX7_causeOf_47
        · skip
          refine lv_goto (tgt := 40) hx hb dX7_causeOf_29 (by decide) ?_
          refine lv_iinc (v := 4) (lv' := [(3, .int 4), (1, .int 2), (2, .int (fX7_fault (w 0 0) (w 0 1) (w 0 2) (w 0 3) (w 0 4) g r 2)), (0, .ref (bd 3 r))]) hx hb dX7_causeOf_40 hl (k := 0) rfl (by decide) (by decide) rfl (fun ls hl => ?_)
          refine lv_goto (tgt := 14) hx hb dX7_causeOf_43 (by decide) ?_
          refine lv_iload_n hx hb dX7_causeOf_14 rfl (lv_at hl 0 rfl) ?_
          refine lv_bipush (v := 6) hx hb dX7_causeOf_15 (by decide) ?_
          refine lv_icmp_ge (tgt := 46) hx hb dX7_causeOf_17 (by decide) (fun c => absurd c (by decide)) (fun _ => ?_)
          refine lv_aload_n hx hb dX7_causeOf_20 rfl (lv_at hl 3 rfl) ?_
          refine lv_iload_n hx hb dX7_causeOf_21 rfl (lv_at hl 0 rfl) ?_
          refine m_callSi (As := [.ref (bd 3 r), .int 4])  ⟨hx, hb, hml, hown, hts⟩ (kX7_fault l D cy e0 (bd := bd) (w := w) g S _ r hv_r hn_r 4 ) (va_cwS 2 hts gX7_causeOf_X7_fault rfl rfl rfl (by decide +kernel) ⟨Nat.le_of_ble_eq_true rfl, Nat.le_of_ble_eq_true rfl⟩) hB hG.2 hC hS rfl hl.1 (Nat.le_of_ble_eq_true rfl) dX7_causeOf_22 ⟨Nat.le_of_ble_eq_true rfl, Nat.le_of_ble_eq_true rfl⟩ (fun H locs hC hS => ?_)
          refine lv_iload_n hx hb dX7_causeOf_25 rfl (lv_at hl 2 rfl) ?_
          refine lv_icmp_gt (tgt := 32) hx hb dX7_causeOf_26 (by decide) (fun c23 => ?_) (fun c23 => ?_)
          · skip
            refine lv_aload_n hx hb dX7_causeOf_32 rfl (lv_at hl 3 rfl) ?_
            refine lv_iload_n hx hb dX7_causeOf_33 rfl (lv_at hl 0 rfl) ?_
            refine m_callSi (As := [.ref (bd 3 r), .int 4])  ⟨hx, hb, hml, hown, hts⟩ (kX7_fault l D cy e0 (bd := bd) (w := w) g S _ r hv_r hn_r 4 ) (va_cwS 2 hts gX7_causeOf_X7_fault rfl rfl rfl (by decide +kernel) ⟨Nat.le_of_ble_eq_true rfl, Nat.le_of_ble_eq_true rfl⟩) hB hG.2 hC hS rfl hl.1 (Nat.le_of_ble_eq_true rfl) dX7_causeOf_34 ⟨Nat.le_of_ble_eq_true rfl, Nat.le_of_ble_eq_true rfl⟩ (fun H locs hC hS => ?_)
            refine lv_istore_n (lv' := [(2, .int (fX7_fault (w 0 0) (w 0 1) (w 0 2) (w 0 3) (w 0 4) g r 4)), (3, .int 4), (1, .int 2), (0, .ref (bd 3 r))]) hx hb dX7_causeOf_37 rfl hl (by decide) rfl (fun ls hl => ?_)
            refine lv_iload_n hx hb dX7_causeOf_38 rfl (lv_at hl 1 rfl) ?_
            refine lv_istore_n (lv' := [(1, .int 4), (2, .int (fX7_fault (w 0 0) (w 0 1) (w 0 2) (w 0 3) (w 0 4) g r 4)), (3, .int 4), (0, .ref (bd 3 r))]) hx hb dX7_causeOf_39 rfl hl (by decide) rfl (fun ls hl => ?_)
            refine lv_iinc (v := 5) (lv' := [(3, .int 5), (1, .int 4), (2, .int (fX7_fault (w 0 0) (w 0 1) (w 0 2) (w 0 3) (w 0 4) g r 4)), (0, .ref (bd 3 r))]) hx hb dX7_causeOf_40 hl (k := 2) rfl (by decide) (by decide) rfl (fun ls hl => ?_)
            refine lv_goto (tgt := 14) hx hb dX7_causeOf_43 (by decide) ?_
            refine lv_iload_n hx hb dX7_causeOf_14 rfl (lv_at hl 0 rfl) ?_
            refine lv_bipush (v := 6) hx hb dX7_causeOf_15 (by decide) ?_
            refine lv_icmp_ge (tgt := 46) hx hb dX7_causeOf_17 (by decide) (fun c => absurd c (by decide)) (fun _ => ?_)
            refine lv_aload_n hx hb dX7_causeOf_20 rfl (lv_at hl 3 rfl) ?_
            refine lv_iload_n hx hb dX7_causeOf_21 rfl (lv_at hl 0 rfl) ?_
            refine m_callSi (As := [.ref (bd 3 r), .int 5])  ⟨hx, hb, hml, hown, hts⟩ (kX7_fault l D cy e0 (bd := bd) (w := w) g S _ r hv_r hn_r 5 ) (va_cwS 2 hts gX7_causeOf_X7_fault rfl rfl rfl (by decide +kernel) ⟨Nat.le_of_ble_eq_true rfl, Nat.le_of_ble_eq_true rfl⟩) hB hG.2 hC hS rfl hl.1 (Nat.le_of_ble_eq_true rfl) dX7_causeOf_22 ⟨Nat.le_of_ble_eq_true rfl, Nat.le_of_ble_eq_true rfl⟩ (fun H locs hC hS => ?_)
            refine lv_iload_n hx hb dX7_causeOf_25 rfl (lv_at hl 2 rfl) ?_
            refine lv_icmp_gt (tgt := 32) hx hb dX7_causeOf_26 (by decide) (fun c24 => ?_) (fun c24 => ?_)
            · skip
              refine lv_aload_n hx hb dX7_causeOf_32 rfl (lv_at hl 3 rfl) ?_
              refine lv_iload_n hx hb dX7_causeOf_33 rfl (lv_at hl 0 rfl) ?_
              refine m_callSi (As := [.ref (bd 3 r), .int 5])  ⟨hx, hb, hml, hown, hts⟩ (kX7_fault l D cy e0 (bd := bd) (w := w) g S _ r hv_r hn_r 5 ) (va_cwS 2 hts gX7_causeOf_X7_fault rfl rfl rfl (by decide +kernel) ⟨Nat.le_of_ble_eq_true rfl, Nat.le_of_ble_eq_true rfl⟩) hB hG.2 hC hS rfl hl.1 (Nat.le_of_ble_eq_true rfl) dX7_causeOf_34 ⟨Nat.le_of_ble_eq_true rfl, Nat.le_of_ble_eq_true rfl⟩ (fun H locs hC hS => ?_)
              refine lv_istore_n (lv' := [(2, .int (fX7_fault (w 0 0) (w 0 1) (w 0 2) (w 0 3) (w 0 4) g r 5)), (3, .int 5), (1, .int 4), (0, .ref (bd 3 r))]) hx hb dX7_causeOf_37 rfl hl (by decide) rfl (fun ls hl => ?_)
              refine lv_iload_n hx hb dX7_causeOf_38 rfl (lv_at hl 1 rfl) ?_
              refine lv_istore_n (lv' := [(1, .int 5), (2, .int (fX7_fault (w 0 0) (w 0 1) (w 0 2) (w 0 3) (w 0 4) g r 5)), (3, .int 5), (0, .ref (bd 3 r))]) hx hb dX7_causeOf_39 rfl hl (by decide) rfl (fun ls hl => ?_)
              refine lv_iinc (v := 6) (lv' := [(3, .int 6), (1, .int 5), (2, .int (fX7_fault (w 0 0) (w 0 1) (w 0 2) (w 0 3) (w 0 4) g r 5)), (0, .ref (bd 3 r))]) hx hb dX7_causeOf_40 hl (k := 2) rfl (by decide) (by decide) rfl (fun ls hl => ?_)
              refine lv_goto (tgt := 14) hx hb dX7_causeOf_43 (by decide) ?_
              refine lv_iload_n hx hb dX7_causeOf_14 rfl (lv_at hl 0 rfl) ?_
              refine lv_bipush (v := 6) hx hb dX7_causeOf_15 (by decide) ?_
              refine lv_icmp_ge (tgt := 46) hx hb dX7_causeOf_17 (by decide) (fun _ => ?_) (fun c => absurd c (by decide))
              refine lv_iload_n hx hb dX7_causeOf_46 rfl (lv_at hl 1 rfl) ?_
              exact m_reti hx hb hr hG hC hS mEq_rf (by unfold fX7_causeOf; rw [if_neg c1, if_neg c2, if_pos c18, if_neg c19, if_pos c23, if_pos c24]) hlocks dX7_causeOf_47
            · skip
              refine lv_goto (tgt := 40) hx hb dX7_causeOf_29 (by decide) ?_
              refine lv_iinc (v := 6) (lv' := [(3, .int 6), (1, .int 4), (2, .int (fX7_fault (w 0 0) (w 0 1) (w 0 2) (w 0 3) (w 0 4) g r 4)), (0, .ref (bd 3 r))]) hx hb dX7_causeOf_40 hl (k := 0) rfl (by decide) (by decide) rfl (fun ls hl => ?_)
              refine lv_goto (tgt := 14) hx hb dX7_causeOf_43 (by decide) ?_
              refine lv_iload_n hx hb dX7_causeOf_14 rfl (lv_at hl 0 rfl) ?_
              refine lv_bipush (v := 6) hx hb dX7_causeOf_15 (by decide) ?_
              refine lv_icmp_ge (tgt := 46) hx hb dX7_causeOf_17 (by decide) (fun _ => ?_) (fun c => absurd c (by decide))
              refine lv_iload_n hx hb dX7_causeOf_46 rfl (lv_at hl 1 rfl) ?_
              exact m_reti hx hb hr hG hC hS mEq_rf (by unfold fX7_causeOf; rw [if_neg c1, if_neg c2, if_pos c18, if_neg c19, if_pos c23, if_neg c24]) hlocks dX7_causeOf_47
          · skip
            refine lv_goto (tgt := 40) hx hb dX7_causeOf_29 (by decide) ?_
            refine lv_iinc (v := 5) (lv' := [(3, .int 5), (1, .int 2), (2, .int (fX7_fault (w 0 0) (w 0 1) (w 0 2) (w 0 3) (w 0 4) g r 2)), (0, .ref (bd 3 r))]) hx hb dX7_causeOf_40 hl (k := 0) rfl (by decide) (by decide) rfl (fun ls hl => ?_)
            refine lv_goto (tgt := 14) hx hb dX7_causeOf_43 (by decide) ?_
            refine lv_iload_n hx hb dX7_causeOf_14 rfl (lv_at hl 0 rfl) ?_
            refine lv_bipush (v := 6) hx hb dX7_causeOf_15 (by decide) ?_
            refine lv_icmp_ge (tgt := 46) hx hb dX7_causeOf_17 (by decide) (fun c => absurd c (by decide)) (fun _ => ?_)
            refine lv_aload_n hx hb dX7_causeOf_20 rfl (lv_at hl 3 rfl) ?_
            refine lv_iload_n hx hb dX7_causeOf_21 rfl (lv_at hl 0 rfl) ?_
            refine m_callSi (As := [.ref (bd 3 r), .int 5])  ⟨hx, hb, hml, hown, hts⟩ (kX7_fault l D cy e0 (bd := bd) (w := w) g S _ r hv_r hn_r 5 ) (va_cwS 2 hts gX7_causeOf_X7_fault rfl rfl rfl (by decide +kernel) ⟨Nat.le_of_ble_eq_true rfl, Nat.le_of_ble_eq_true rfl⟩) hB hG.2 hC hS rfl hl.1 (Nat.le_of_ble_eq_true rfl) dX7_causeOf_22 ⟨Nat.le_of_ble_eq_true rfl, Nat.le_of_ble_eq_true rfl⟩ (fun H locs hC hS => ?_)
            refine lv_iload_n hx hb dX7_causeOf_25 rfl (lv_at hl 2 rfl) ?_
            refine lv_icmp_gt (tgt := 32) hx hb dX7_causeOf_26 (by decide) (fun c25 => ?_) (fun c25 => ?_)
            · skip
              refine lv_aload_n hx hb dX7_causeOf_32 rfl (lv_at hl 3 rfl) ?_
              refine lv_iload_n hx hb dX7_causeOf_33 rfl (lv_at hl 0 rfl) ?_
              refine m_callSi (As := [.ref (bd 3 r), .int 5])  ⟨hx, hb, hml, hown, hts⟩ (kX7_fault l D cy e0 (bd := bd) (w := w) g S _ r hv_r hn_r 5 ) (va_cwS 2 hts gX7_causeOf_X7_fault rfl rfl rfl (by decide +kernel) ⟨Nat.le_of_ble_eq_true rfl, Nat.le_of_ble_eq_true rfl⟩) hB hG.2 hC hS rfl hl.1 (Nat.le_of_ble_eq_true rfl) dX7_causeOf_34 ⟨Nat.le_of_ble_eq_true rfl, Nat.le_of_ble_eq_true rfl⟩ (fun H locs hC hS => ?_)
              refine lv_istore_n (lv' := [(2, .int (fX7_fault (w 0 0) (w 0 1) (w 0 2) (w 0 3) (w 0 4) g r 5)), (3, .int 5), (1, .int 2), (0, .ref (bd 3 r))]) hx hb dX7_causeOf_37 rfl hl (by decide) rfl (fun ls hl => ?_)
              refine lv_iload_n hx hb dX7_causeOf_38 rfl (lv_at hl 1 rfl) ?_
              refine lv_istore_n (lv' := [(1, .int 5), (2, .int (fX7_fault (w 0 0) (w 0 1) (w 0 2) (w 0 3) (w 0 4) g r 5)), (3, .int 5), (0, .ref (bd 3 r))]) hx hb dX7_causeOf_39 rfl hl (by decide) rfl (fun ls hl => ?_)
              refine lv_iinc (v := 6) (lv' := [(3, .int 6), (1, .int 5), (2, .int (fX7_fault (w 0 0) (w 0 1) (w 0 2) (w 0 3) (w 0 4) g r 5)), (0, .ref (bd 3 r))]) hx hb dX7_causeOf_40 hl (k := 2) rfl (by decide) (by decide) rfl (fun ls hl => ?_)
              refine lv_goto (tgt := 14) hx hb dX7_causeOf_43 (by decide) ?_
              refine lv_iload_n hx hb dX7_causeOf_14 rfl (lv_at hl 0 rfl) ?_
              refine lv_bipush (v := 6) hx hb dX7_causeOf_15 (by decide) ?_
              refine lv_icmp_ge (tgt := 46) hx hb dX7_causeOf_17 (by decide) (fun _ => ?_) (fun c => absurd c (by decide))
              refine lv_iload_n hx hb dX7_causeOf_46 rfl (lv_at hl 1 rfl) ?_
              exact m_reti hx hb hr hG hC hS mEq_rf (by unfold fX7_causeOf; rw [if_neg c1, if_neg c2, if_pos c18, if_neg c19, if_neg c23, if_pos c25]) hlocks dX7_causeOf_47
            · skip
              refine lv_goto (tgt := 40) hx hb dX7_causeOf_29 (by decide) ?_
              refine lv_iinc (v := 6) (lv' := [(3, .int 6), (1, .int 2), (2, .int (fX7_fault (w 0 0) (w 0 1) (w 0 2) (w 0 3) (w 0 4) g r 2)), (0, .ref (bd 3 r))]) hx hb dX7_causeOf_40 hl (k := 0) rfl (by decide) (by decide) rfl (fun ls hl => ?_)
              refine lv_goto (tgt := 14) hx hb dX7_causeOf_43 (by decide) ?_
              refine lv_iload_n hx hb dX7_causeOf_14 rfl (lv_at hl 0 rfl) ?_
              refine lv_bipush (v := 6) hx hb dX7_causeOf_15 (by decide) ?_
              refine lv_icmp_ge (tgt := 46) hx hb dX7_causeOf_17 (by decide) (fun _ => ?_) (fun c => absurd c (by decide))
              refine lv_iload_n hx hb dX7_causeOf_46 rfl (lv_at hl 1 rfl) ?_
              exact m_reti hx hb hr hG hC hS mEq_rf (by unfold fX7_causeOf; rw [if_neg c1, if_neg c2, if_pos c18, if_neg c19, if_neg c23, if_neg c25]) hlocks dX7_causeOf_47
      · skip
        refine lv_goto (tgt := 40) hx hb dX7_causeOf_29 (by decide) ?_
        refine lv_iinc (v := 3) (lv' := [(3, .int 3), (2, .int 0), (1, .int 0), (0, .ref (bd 3 r))]) hx hb dX7_causeOf_40 hl (k := 0) rfl (by decide) (by decide) rfl (fun ls hl => ?_)
        refine lv_goto (tgt := 14) hx hb dX7_causeOf_43 (by decide) ?_
        refine lv_iload_n hx hb dX7_causeOf_14 rfl (lv_at hl 0 rfl) ?_
        refine lv_bipush (v := 6) hx hb dX7_causeOf_15 (by decide) ?_
        refine lv_icmp_ge (tgt := 46) hx hb dX7_causeOf_17 (by decide) (fun c => absurd c (by decide)) (fun _ => ?_)
        refine lv_aload_n hx hb dX7_causeOf_20 rfl (lv_at hl 3 rfl) ?_
        refine lv_iload_n hx hb dX7_causeOf_21 rfl (lv_at hl 0 rfl) ?_
        refine m_callSi (As := [.ref (bd 3 r), .int 3])  ⟨hx, hb, hml, hown, hts⟩ (kX7_fault l D cy e0 (bd := bd) (w := w) g S _ r hv_r hn_r 3 ) (va_cwS 2 hts gX7_causeOf_X7_fault rfl rfl rfl (by decide +kernel) ⟨Nat.le_of_ble_eq_true rfl, Nat.le_of_ble_eq_true rfl⟩) hB hG.2 hC hS rfl hl.1 (Nat.le_of_ble_eq_true rfl) dX7_causeOf_22 ⟨Nat.le_of_ble_eq_true rfl, Nat.le_of_ble_eq_true rfl⟩ (fun H locs hC hS => ?_)
        refine lv_iload_n hx hb dX7_causeOf_25 rfl (lv_at hl 1 rfl) ?_
        refine lv_icmp_gt (tgt := 32) hx hb dX7_causeOf_26 (by decide) (fun c26 => ?_) (fun c26 => ?_)
        · skip
          refine lv_aload_n hx hb dX7_causeOf_32 rfl (lv_at hl 3 rfl) ?_
          refine lv_iload_n hx hb dX7_causeOf_33 rfl (lv_at hl 0 rfl) ?_
          refine m_callSi (As := [.ref (bd 3 r), .int 3])  ⟨hx, hb, hml, hown, hts⟩ (kX7_fault l D cy e0 (bd := bd) (w := w) g S _ r hv_r hn_r 3 ) (va_cwS 2 hts gX7_causeOf_X7_fault rfl rfl rfl (by decide +kernel) ⟨Nat.le_of_ble_eq_true rfl, Nat.le_of_ble_eq_true rfl⟩) hB hG.2 hC hS rfl hl.1 (Nat.le_of_ble_eq_true rfl) dX7_causeOf_34 ⟨Nat.le_of_ble_eq_true rfl, Nat.le_of_ble_eq_true rfl⟩ (fun H locs hC hS => ?_)
          refine lv_istore_n (lv' := [(2, .int (fX7_fault (w 0 0) (w 0 1) (w 0 2) (w 0 3) (w 0 4) g r 3)), (3, .int 3), (1, .int 0), (0, .ref (bd 3 r))]) hx hb dX7_causeOf_37 rfl hl (by decide) rfl (fun ls hl => ?_)
          refine lv_iload_n hx hb dX7_causeOf_38 rfl (lv_at hl 1 rfl) ?_
          refine lv_istore_n (lv' := [(1, .int 3), (2, .int (fX7_fault (w 0 0) (w 0 1) (w 0 2) (w 0 3) (w 0 4) g r 3)), (3, .int 3), (0, .ref (bd 3 r))]) hx hb dX7_causeOf_39 rfl hl (by decide) rfl (fun ls hl => ?_)
          refine lv_iinc (v := 4) (lv' := [(3, .int 4), (1, .int 3), (2, .int (fX7_fault (w 0 0) (w 0 1) (w 0 2) (w 0 3) (w 0 4) g r 3)), (0, .ref (bd 3 r))]) hx hb dX7_causeOf_40 hl (k := 2) rfl (by decide) (by decide) rfl (fun ls hl => ?_)
          refine lv_goto (tgt := 14) hx hb dX7_causeOf_43 (by decide) ?_
          refine lv_iload_n hx hb dX7_causeOf_14 rfl (lv_at hl 0 rfl) ?_
          refine lv_bipush (v := 6) hx hb dX7_causeOf_15 (by decide) ?_
          refine lv_icmp_ge (tgt := 46) hx hb dX7_causeOf_17 (by decide) (fun c => absurd c (by decide)) (fun _ => ?_)
          refine lv_aload_n hx hb dX7_causeOf_20 rfl (lv_at hl 3 rfl) ?_
          refine lv_iload_n hx hb dX7_causeOf_21 rfl (lv_at hl 0 rfl) ?_
          refine m_callSi (As := [.ref (bd 3 r), .int 4])  ⟨hx, hb, hml, hown, hts⟩ (kX7_fault l D cy e0 (bd := bd) (w := w) g S _ r hv_r hn_r 4 ) (va_cwS 2 hts gX7_causeOf_X7_fault rfl rfl rfl (by decide +kernel) ⟨Nat.le_of_ble_eq_true rfl, Nat.le_of_ble_eq_true rfl⟩) hB hG.2 hC hS rfl hl.1 (Nat.le_of_ble_eq_true rfl) dX7_causeOf_22 ⟨Nat.le_of_ble_eq_true rfl, Nat.le_of_ble_eq_true rfl⟩ (fun H locs hC hS => ?_)
          refine lv_iload_n hx hb dX7_causeOf_25 rfl (lv_at hl 2 rfl) ?_
          refine lv_icmp_gt (tgt := 32) hx hb dX7_causeOf_26 (by decide) (fun c27 => ?_) (fun c27 => ?_)
          · skip
            refine lv_aload_n hx hb dX7_causeOf_32 rfl (lv_at hl 3 rfl) ?_
            refine lv_iload_n hx hb dX7_causeOf_33 rfl (lv_at hl 0 rfl) ?_
            refine m_callSi (As := [.ref (bd 3 r), .int 4])  ⟨hx, hb, hml, hown, hts⟩ (kX7_fault l D cy e0 (bd := bd) (w := w) g S _ r hv_r hn_r 4 ) (va_cwS 2 hts gX7_causeOf_X7_fault rfl rfl rfl (by decide +kernel) ⟨Nat.le_of_ble_eq_true rfl, Nat.le_of_ble_eq_true rfl⟩) hB hG.2 hC hS rfl hl.1 (Nat.le_of_ble_eq_true rfl) dX7_causeOf_34 ⟨Nat.le_of_ble_eq_true rfl, Nat.le_of_ble_eq_true rfl⟩ (fun H locs hC hS => ?_)
            refine lv_istore_n (lv' := [(2, .int (fX7_fault (w 0 0) (w 0 1) (w 0 2) (w 0 3) (w 0 4) g r 4)), (3, .int 4), (1, .int 3), (0, .ref (bd 3 r))]) hx hb dX7_causeOf_37 rfl hl (by decide) rfl (fun ls hl => ?_)
            refine lv_iload_n hx hb dX7_causeOf_38 rfl (lv_at hl 1 rfl) ?_
            refine lv_istore_n (lv' := [(1, .int 4), (2, .int (fX7_fault (w 0 0) (w 0 1) (w 0 2) (w 0 3) (w 0 4) g r 4)), (3, .int 4), (0, .ref (bd 3 r))]) hx hb dX7_causeOf_39 rfl hl (by decide) rfl (fun ls hl => ?_)
            refine lv_iinc (v := 5) (lv' := [(3, .int 5), (1, .int 4), (2, .int (fX7_fault (w 0 0) (w 0 1) (w 0 2) (w 0 3) (w 0 4) g r 4)), (0, .ref (bd 3 r))]) hx hb dX7_causeOf_40 hl (k := 2) rfl (by decide) (by decide) rfl (fun ls hl => ?_)
            refine lv_goto (tgt := 14) hx hb dX7_causeOf_43 (by decide) ?_
            refine lv_iload_n hx hb dX7_causeOf_14 rfl (lv_at hl 0 rfl) ?_
            refine lv_bipush (v := 6) hx hb dX7_causeOf_15 (by decide) ?_
            refine lv_icmp_ge (tgt := 46) hx hb dX7_causeOf_17 (by decide) (fun c => absurd c (by decide)) (fun _ => ?_)
            refine lv_aload_n hx hb dX7_causeOf_20 rfl (lv_at hl 3 rfl) ?_
            refine lv_iload_n hx hb dX7_causeOf_21 rfl (lv_at hl 0 rfl) ?_
            refine m_callSi (As := [.ref (bd 3 r), .int 5])  ⟨hx, hb, hml, hown, hts⟩ (kX7_fault l D cy e0 (bd := bd) (w := w) g S _ r hv_r hn_r 5 ) (va_cwS 2 hts gX7_causeOf_X7_fault rfl rfl rfl (by decide +kernel) ⟨Nat.le_of_ble_eq_true rfl, Nat.le_of_ble_eq_true rfl⟩) hB hG.2 hC hS rfl hl.1 (Nat.le_of_ble_eq_true rfl) dX7_causeOf_22 ⟨Nat.le_of_ble_eq_true rfl, Nat.le_of_ble_eq_true rfl⟩ (fun H locs hC hS => ?_)
            refine lv_iload_n hx hb dX7_causeOf_25 rfl (lv_at hl 2 rfl) ?_
            refine lv_icmp_gt (tgt := 32) hx hb dX7_causeOf_26 (by decide) (fun c28 => ?_) (fun c28 => ?_)
            · skip
              refine lv_aload_n hx hb dX7_causeOf_32 rfl (lv_at hl 3 rfl) ?_
              refine lv_iload_n hx hb dX7_causeOf_33 rfl (lv_at hl 0 rfl) ?_
              refine m_callSi (As := [.ref (bd 3 r), .int 5])  ⟨hx, hb, hml, hown, hts⟩ (kX7_fault l D cy e0 (bd := bd) (w := w) g S _ r hv_r hn_r 5 ) (va_cwS 2 hts gX7_causeOf_X7_fault rfl rfl rfl (by decide +kernel) ⟨Nat.le_of_ble_eq_true rfl, Nat.le_of_ble_eq_true rfl⟩) hB hG.2 hC hS rfl hl.1 (Nat.le_of_ble_eq_true rfl) dX7_causeOf_34 ⟨Nat.le_of_ble_eq_true rfl, Nat.le_of_ble_eq_true rfl⟩ (fun H locs hC hS => ?_)
              refine lv_istore_n (lv' := [(2, .int (fX7_fault (w 0 0) (w 0 1) (w 0 2) (w 0 3) (w 0 4) g r 5)), (3, .int 5), (1, .int 4), (0, .ref (bd 3 r))]) hx hb dX7_causeOf_37 rfl hl (by decide) rfl (fun ls hl => ?_)
              refine lv_iload_n hx hb dX7_causeOf_38 rfl (lv_at hl 1 rfl) ?_
              refine lv_istore_n (lv' := [(1, .int 5), (2, .int (fX7_fault (w 0 0) (w 0 1) (w 0 2) (w 0 3) (w 0 4) g r 5)), (3, .int 5), (0, .ref (bd 3 r))]) hx hb dX7_causeOf_39 rfl hl (by decide) rfl (fun ls hl => ?_)
              refine lv_iinc (v := 6) (lv' := [(3, .int 6), (1, .int 5), (2, .int (fX7_fault (w 0 0) (w 0 1) (w 0 2) (w 0 3) (w 0 4) g r 5)), (0, .ref (bd 3 r))]) hx hb dX7_causeOf_40 hl (k := 2) rfl (by decide) (by decide) rfl (fun ls hl => ?_)
              refine lv_goto (tgt := 14) hx hb dX7_causeOf_43 (by decide) ?_
              refine lv_iload_n hx hb dX7_causeOf_14 rfl (lv_at hl 0 rfl) ?_
              refine lv_bipush (v := 6) hx hb dX7_causeOf_15 (by decide) ?_
              refine lv_icmp_ge (tgt := 46) hx hb dX7_causeOf_17 (by decide) (fun _ => ?_) (fun c => absurd c (by decide))
              refine lv_iload_n hx hb dX7_causeOf_46 rfl (lv_at hl 1 rfl) ?_
              exact m_reti hx hb hr hG hC hS mEq_rf (by unfold fX7_causeOf; rw [if_neg c1, if_neg c2, if_neg c18, if_pos c26, if_pos c27, if_pos c28]) hlocks dX7_causeOf_47
            · skip
              refine lv_goto (tgt := 40) hx hb dX7_causeOf_29 (by decide) ?_
              refine lv_iinc (v := 6) (lv' := [(3, .int 6), (1, .int 4), (2, .int (fX7_fault (w 0 0) (w 0 1) (w 0 2) (w 0 3) (w 0 4) g r 4)), (0, .ref (bd 3 r))]) hx hb dX7_causeOf_40 hl (k := 0) rfl (by decide) (by decide) rfl (fun ls hl => ?_)
              refine lv_goto (tgt := 14) hx hb dX7_causeOf_43 (by decide) ?_
              refine lv_iload_n hx hb dX7_causeOf_14 rfl (lv_at hl 0 rfl) ?_
              refine lv_bipush (v := 6) hx hb dX7_causeOf_15 (by decide) ?_
              refine lv_icmp_ge (tgt := 46) hx hb dX7_causeOf_17 (by decide) (fun _ => ?_) (fun c => absurd c (by decide))
              refine lv_iload_n hx hb dX7_causeOf_46 rfl (lv_at hl 1 rfl) ?_
              exact m_reti hx hb hr hG hC hS mEq_rf (by unfold fX7_causeOf; rw [if_neg c1, if_neg c2, if_neg c18, if_pos c26, if_pos c27, if_neg c28]) hlocks dX7_causeOf_47
          · skip
            refine lv_goto (tgt := 40) hx hb dX7_causeOf_29 (by decide) ?_
            refine lv_iinc (v := 5) (lv' := [(3, .int 5), (1, .int 3), (2, .int (fX7_fault (w 0 0) (w 0 1) (w 0 2) (w 0 3) (w 0 4) g r 3)), (0, .ref (bd 3 r))]) hx hb dX7_causeOf_40 hl (k := 0) rfl (by decide) (by decide) rfl (fun ls hl => ?_)
            refine lv_goto (tgt := 14) hx hb dX7_causeOf_43 (by decide) ?_
            refine lv_iload_n hx hb dX7_causeOf_14 rfl (lv_at hl 0 rfl) ?_
            refine lv_bipush (v := 6) hx hb dX7_causeOf_15 (by decide) ?_
            refine lv_icmp_ge (tgt := 46) hx hb dX7_causeOf_17 (by decide) (fun c => absurd c (by decide)) (fun _ => ?_)
            refine lv_aload_n hx hb dX7_causeOf_20 rfl (lv_at hl 3 rfl) ?_
            refine lv_iload_n hx hb dX7_causeOf_21 rfl (lv_at hl 0 rfl) ?_
            refine m_callSi (As := [.ref (bd 3 r), .int 5])  ⟨hx, hb, hml, hown, hts⟩ (kX7_fault l D cy e0 (bd := bd) (w := w) g S _ r hv_r hn_r 5 ) (va_cwS 2 hts gX7_causeOf_X7_fault rfl rfl rfl (by decide +kernel) ⟨Nat.le_of_ble_eq_true rfl, Nat.le_of_ble_eq_true rfl⟩) hB hG.2 hC hS rfl hl.1 (Nat.le_of_ble_eq_true rfl) dX7_causeOf_22 ⟨Nat.le_of_ble_eq_true rfl, Nat.le_of_ble_eq_true rfl⟩ (fun H locs hC hS => ?_)
            refine lv_iload_n hx hb dX7_causeOf_25 rfl (lv_at hl 2 rfl) ?_
            refine lv_icmp_gt (tgt := 32) hx hb dX7_causeOf_26 (by decide) (fun c29 => ?_) (fun c29 => ?_)
            · skip
              refine lv_aload_n hx hb dX7_causeOf_32 rfl (lv_at hl 3 rfl) ?_
              refine lv_iload_n hx hb dX7_causeOf_33 rfl (lv_at hl 0 rfl) ?_
              refine m_callSi (As := [.ref (bd 3 r), .int 5])  ⟨hx, hb, hml, hown, hts⟩ (kX7_fault l D cy e0 (bd := bd) (w := w) g S _ r hv_r hn_r 5 ) (va_cwS 2 hts gX7_causeOf_X7_fault rfl rfl rfl (by decide +kernel) ⟨Nat.le_of_ble_eq_true rfl, Nat.le_of_ble_eq_true rfl⟩) hB hG.2 hC hS rfl hl.1 (Nat.le_of_ble_eq_true rfl) dX7_causeOf_34 ⟨Nat.le_of_ble_eq_true rfl, Nat.le_of_ble_eq_true rfl⟩ (fun H locs hC hS => ?_)
              refine lv_istore_n (lv' := [(2, .int (fX7_fault (w 0 0) (w 0 1) (w 0 2) (w 0 3) (w 0 4) g r 5)), (3, .int 5), (1, .int 3), (0, .ref (bd 3 r))]) hx hb dX7_causeOf_37 rfl hl (by decide) rfl (fun ls hl => ?_)
              refine lv_iload_n hx hb dX7_causeOf_38 rfl (lv_at hl 1 rfl) ?_
              refine lv_istore_n (lv' := [(1, .int 5), (2, .int (fX7_fault (w 0 0) (w 0 1) (w 0 2) (w 0 3) (w 0 4) g r 5)), (3, .int 5), (0, .ref (bd 3 r))]) hx hb dX7_causeOf_39 rfl hl (by decide) rfl (fun ls hl => ?_)
              refine lv_iinc (v := 6) (lv' := [(3, .int 6), (1, .int 5), (2, .int (fX7_fault (w 0 0) (w 0 1) (w 0 2) (w 0 3) (w 0 4) g r 5)), (0, .ref (bd 3 r))]) hx hb dX7_causeOf_40 hl (k := 2) rfl (by decide) (by decide) rfl (fun ls hl => ?_)
              refine lv_goto (tgt := 14) hx hb dX7_causeOf_43 (by decide) ?_
              refine lv_iload_n hx hb dX7_causeOf_14 rfl (lv_at hl 0 rfl) ?_
              refine lv_bipush (v := 6) hx hb dX7_causeOf_15 (by decide) ?_
              refine lv_icmp_ge (tgt := 46) hx hb dX7_causeOf_17 (by decide) (fun _ => ?_) (fun c => absurd c (by decide))
              refine lv_iload_n hx hb dX7_causeOf_46 rfl (lv_at hl 1 rfl) ?_
              exact m_reti hx hb hr hG hC hS mEq_rf (by unfold fX7_causeOf; rw [if_neg c1, if_neg c2, if_neg c18, if_pos c26, if_neg c27, if_pos c29]) hlocks dX7_causeOf_47
            · skip
              refine lv_goto (tgt := 40) hx hb dX7_causeOf_29 (by decide) ?_
              refine lv_iinc (v := 6) (lv' := [(3, .int 6), (1, .int 3), (2, .int (fX7_fault (w 0 0) (w 0 1) (w 0 2) (w 0 3) (w 0 4) g r 3)), (0, .ref (bd 3 r))]) hx hb dX7_causeOf_40 hl (k := 0) rfl (by decide) (by decide) rfl (fun ls hl => ?_)
              refine lv_goto (tgt := 14) hx hb dX7_causeOf_43 (by decide) ?_
              refine lv_iload_n hx hb dX7_causeOf_14 rfl (lv_at hl 0 rfl) ?_
              refine lv_bipush (v := 6) hx hb dX7_causeOf_15 (by decide) ?_
              refine lv_icmp_ge (tgt := 46) hx hb dX7_causeOf_17 (by decide) (fun _ => ?_) (fun c => absurd c (by decide))
              refine lv_iload_n hx hb dX7_causeOf_46 rfl (lv_at hl 1 rfl) ?_
              exact m_reti hx hb hr hG hC hS mEq_rf (by unfold fX7_causeOf; rw [if_neg c1, if_neg c2, if_neg c18, if_pos c26, if_neg c27, if_neg c29]) hlocks dX7_causeOf_47
        · skip
          refine lv_goto (tgt := 40) hx hb dX7_causeOf_29 (by decide) ?_
          refine lv_iinc (v := 4) (lv' := [(3, .int 4), (2, .int 0), (1, .int 0), (0, .ref (bd 3 r))]) hx hb dX7_causeOf_40 hl (k := 0) rfl (by decide) (by decide) rfl (fun ls hl => ?_)
          refine lv_goto (tgt := 14) hx hb dX7_causeOf_43 (by decide) ?_
          refine lv_iload_n hx hb dX7_causeOf_14 rfl (lv_at hl 0 rfl) ?_
          refine lv_bipush (v := 6) hx hb dX7_causeOf_15 (by decide) ?_
          refine lv_icmp_ge (tgt := 46) hx hb dX7_causeOf_17 (by decide) (fun c => absurd c (by decide)) (fun _ => ?_)
          refine lv_aload_n hx hb dX7_causeOf_20 rfl (lv_at hl 3 rfl) ?_
          refine lv_iload_n hx hb dX7_causeOf_21 rfl (lv_at hl 0 rfl) ?_
          refine m_callSi (As := [.ref (bd 3 r), .int 4])  ⟨hx, hb, hml, hown, hts⟩ (kX7_fault l D cy e0 (bd := bd) (w := w) g S _ r hv_r hn_r 4 ) (va_cwS 2 hts gX7_causeOf_X7_fault rfl rfl rfl (by decide +kernel) ⟨Nat.le_of_ble_eq_true rfl, Nat.le_of_ble_eq_true rfl⟩) hB hG.2 hC hS rfl hl.1 (Nat.le_of_ble_eq_true rfl) dX7_causeOf_22 ⟨Nat.le_of_ble_eq_true rfl, Nat.le_of_ble_eq_true rfl⟩ (fun H locs hC hS => ?_)
          refine lv_iload_n hx hb dX7_causeOf_25 rfl (lv_at hl 1 rfl) ?_
          refine lv_icmp_gt (tgt := 32) hx hb dX7_causeOf_26 (by decide) (fun c30 => ?_) (fun c30 => ?_)
          · skip
            refine lv_aload_n hx hb dX7_causeOf_32 rfl (lv_at hl 3 rfl) ?_
            refine lv_iload_n hx hb dX7_causeOf_33 rfl (lv_at hl 0 rfl) ?_
            refine m_callSi (As := [.ref (bd 3 r), .int 4])  ⟨hx, hb, hml, hown, hts⟩ (kX7_fault l D cy e0 (bd := bd) (w := w) g S _ r hv_r hn_r 4 ) (va_cwS 2 hts gX7_causeOf_X7_fault rfl rfl rfl (by decide +kernel) ⟨Nat.le_of_ble_eq_true rfl, Nat.le_of_ble_eq_true rfl⟩) hB hG.2 hC hS rfl hl.1 (Nat.le_of_ble_eq_true rfl) dX7_causeOf_34 ⟨Nat.le_of_ble_eq_true rfl, Nat.le_of_ble_eq_true rfl⟩ (fun H locs hC hS => ?_)
            refine lv_istore_n (lv' := [(2, .int (fX7_fault (w 0 0) (w 0 1) (w 0 2) (w 0 3) (w 0 4) g r 4)), (3, .int 4), (1, .int 0), (0, .ref (bd 3 r))]) hx hb dX7_causeOf_37 rfl hl (by decide) rfl (fun ls hl => ?_)
            refine lv_iload_n hx hb dX7_causeOf_38 rfl (lv_at hl 1 rfl) ?_
            refine lv_istore_n (lv' := [(1, .int 4), (2, .int (fX7_fault (w 0 0) (w 0 1) (w 0 2) (w 0 3) (w 0 4) g r 4)), (3, .int 4), (0, .ref (bd 3 r))]) hx hb dX7_causeOf_39 rfl hl (by decide) rfl (fun ls hl => ?_)
            refine lv_iinc (v := 5) (lv' := [(3, .int 5), (1, .int 4), (2, .int (fX7_fault (w 0 0) (w 0 1) (w 0 2) (w 0 3) (w 0 4) g r 4)), (0, .ref (bd 3 r))]) hx hb dX7_causeOf_40 hl (k := 2) rfl (by decide) (by decide) rfl (fun ls hl => ?_)
            refine lv_goto (tgt := 14) hx hb dX7_causeOf_43 (by decide) ?_
            refine lv_iload_n hx hb dX7_causeOf_14 rfl (lv_at hl 0 rfl) ?_
            refine lv_bipush (v := 6) hx hb dX7_causeOf_15 (by decide) ?_
            refine lv_icmp_ge (tgt := 46) hx hb dX7_causeOf_17 (by decide) (fun c => absurd c (by decide)) (fun _ => ?_)
            refine lv_aload_n hx hb dX7_causeOf_20 rfl (lv_at hl 3 rfl) ?_
            refine lv_iload_n hx hb dX7_causeOf_21 rfl (lv_at hl 0 rfl) ?_
            refine m_callSi (As := [.ref (bd 3 r), .int 5])  ⟨hx, hb, hml, hown, hts⟩ (kX7_fault l D cy e0 (bd := bd) (w := w) g S _ r hv_r hn_r 5 ) (va_cwS 2 hts gX7_causeOf_X7_fault rfl rfl rfl (by decide +kernel) ⟨Nat.le_of_ble_eq_true rfl, Nat.le_of_ble_eq_true rfl⟩) hB hG.2 hC hS rfl hl.1 (Nat.le_of_ble_eq_true rfl) dX7_causeOf_22 ⟨Nat.le_of_ble_eq_true rfl, Nat.le_of_ble_eq_true rfl⟩ (fun H locs hC hS => ?_)
            refine lv_iload_n hx hb dX7_causeOf_25 rfl (lv_at hl 2 rfl) ?_
            refine lv_icmp_gt (tgt := 32) hx hb dX7_causeOf_26 (by decide) (fun c31 => ?_) (fun c31 => ?_)
            · skip
              refine lv_aload_n hx hb dX7_causeOf_32 rfl (lv_at hl 3 rfl) ?_
              refine lv_iload_n hx hb dX7_causeOf_33 rfl (lv_at hl 0 rfl) ?_
              refine m_callSi (As := [.ref (bd 3 r), .int 5])  ⟨hx, hb, hml, hown, hts⟩ (kX7_fault l D cy e0 (bd := bd) (w := w) g S _ r hv_r hn_r 5 ) (va_cwS 2 hts gX7_causeOf_X7_fault rfl rfl rfl (by decide +kernel) ⟨Nat.le_of_ble_eq_true rfl, Nat.le_of_ble_eq_true rfl⟩) hB hG.2 hC hS rfl hl.1 (Nat.le_of_ble_eq_true rfl) dX7_causeOf_34 ⟨Nat.le_of_ble_eq_true rfl, Nat.le_of_ble_eq_true rfl⟩ (fun H locs hC hS => ?_)
              refine lv_istore_n (lv' := [(2, .int (fX7_fault (w 0 0) (w 0 1) (w 0 2) (w 0 3) (w 0 4) g r 5)), (3, .int 5), (1, .int 4), (0, .ref (bd 3 r))]) hx hb dX7_causeOf_37 rfl hl (by decide) rfl (fun ls hl => ?_)
              refine lv_iload_n hx hb dX7_causeOf_38 rfl (lv_at hl 1 rfl) ?_
              refine lv_istore_n (lv' := [(1, .int 5), (2, .int (fX7_fault (w 0 0) (w 0 1) (w 0 2) (w 0 3) (w 0 4) g r 5)), (3, .int 5), (0, .ref (bd 3 r))]) hx hb dX7_causeOf_39 rfl hl (by decide) rfl (fun ls hl => ?_)
              refine lv_iinc (v := 6) (lv' := [(3, .int 6), (1, .int 5), (2, .int (fX7_fault (w 0 0) (w 0 1) (w 0 2) (w 0 3) (w 0 4) g r 5)), (0, .ref (bd 3 r))]) hx hb dX7_causeOf_40 hl (k := 2) rfl (by decide) (by decide) rfl (fun ls hl => ?_)
              refine lv_goto (tgt := 14) hx hb dX7_causeOf_43 (by decide) ?_
              refine lv_iload_n hx hb dX7_causeOf_14 rfl (lv_at hl 0 rfl) ?_
              refine lv_bipush (v := 6) hx hb dX7_causeOf_15 (by decide) ?_
              refine lv_icmp_ge (tgt := 46) hx hb dX7_causeOf_17 (by decide) (fun _ => ?_) (fun c => absurd c (by decide))
              refine lv_iload_n hx hb dX7_causeOf_46 rfl (lv_at hl 1 rfl) ?_
              exact m_reti hx hb hr hG hC hS mEq_rf (by unfold fX7_causeOf; rw [if_neg c1, if_neg c2, if_neg c18, if_neg c26, if_pos c30, if_pos c31]) hlocks dX7_causeOf_47
            · skip
              refine lv_goto (tgt := 40) hx hb dX7_causeOf_29 (by decide) ?_
              refine lv_iinc (v := 6) (lv' := [(3, .int 6), (1, .int 4), (2, .int (fX7_fault (w 0 0) (w 0 1) (w 0 2) (w 0 3) (w 0 4) g r 4)), (0, .ref (bd 3 r))]) hx hb dX7_causeOf_40 hl (k := 0) rfl (by decide) (by decide) rfl (fun ls hl => ?_)
              refine lv_goto (tgt := 14) hx hb dX7_causeOf_43 (by decide) ?_
              refine lv_iload_n hx hb dX7_causeOf_14 rfl (lv_at hl 0 rfl) ?_
              refine lv_bipush (v := 6) hx hb dX7_causeOf_15 (by decide) ?_
              refine lv_icmp_ge (tgt := 46) hx hb dX7_causeOf_17 (by decide) (fun _ => ?_) (fun c => absurd c (by decide))
              refine lv_iload_n hx hb dX7_causeOf_46 rfl (lv_at hl 1 rfl) ?_
              exact m_reti hx hb hr hG hC hS mEq_rf (by unfold fX7_causeOf; rw [if_neg c1, if_neg c2, if_neg c18, if_neg c26, if_pos c30, if_neg c31]) hlocks dX7_causeOf_47
          · skip
            refine lv_goto (tgt := 40) hx hb dX7_causeOf_29 (by decide) ?_
            refine lv_iinc (v := 5) (lv' := [(3, .int 5), (2, .int 0), (1, .int 0), (0, .ref (bd 3 r))]) hx hb dX7_causeOf_40 hl (k := 0) rfl (by decide) (by decide) rfl (fun ls hl => ?_)
            refine lv_goto (tgt := 14) hx hb dX7_causeOf_43 (by decide) ?_
            refine lv_iload_n hx hb dX7_causeOf_14 rfl (lv_at hl 0 rfl) ?_
            refine lv_bipush (v := 6) hx hb dX7_causeOf_15 (by decide) ?_
            refine lv_icmp_ge (tgt := 46) hx hb dX7_causeOf_17 (by decide) (fun c => absurd c (by decide)) (fun _ => ?_)
            refine lv_aload_n hx hb dX7_causeOf_20 rfl (lv_at hl 3 rfl) ?_
            refine lv_iload_n hx hb dX7_causeOf_21 rfl (lv_at hl 0 rfl) ?_
            refine m_callSi (As := [.ref (bd 3 r), .int 5])  ⟨hx, hb, hml, hown, hts⟩ (kX7_fault l D cy e0 (bd := bd) (w := w) g S _ r hv_r hn_r 5 ) (va_cwS 2 hts gX7_causeOf_X7_fault rfl rfl rfl (by decide +kernel) ⟨Nat.le_of_ble_eq_true rfl, Nat.le_of_ble_eq_true rfl⟩) hB hG.2 hC hS rfl hl.1 (Nat.le_of_ble_eq_true rfl) dX7_causeOf_22 ⟨Nat.le_of_ble_eq_true rfl, Nat.le_of_ble_eq_true rfl⟩ (fun H locs hC hS => ?_)
            refine lv_iload_n hx hb dX7_causeOf_25 rfl (lv_at hl 1 rfl) ?_
            refine lv_icmp_gt (tgt := 32) hx hb dX7_causeOf_26 (by decide) (fun c32 => ?_) (fun c32 => ?_)
            · skip
              refine lv_aload_n hx hb dX7_causeOf_32 rfl (lv_at hl 3 rfl) ?_
              refine lv_iload_n hx hb dX7_causeOf_33 rfl (lv_at hl 0 rfl) ?_
              refine m_callSi (As := [.ref (bd 3 r), .int 5])  ⟨hx, hb, hml, hown, hts⟩ (kX7_fault l D cy e0 (bd := bd) (w := w) g S _ r hv_r hn_r 5 ) (va_cwS 2 hts gX7_causeOf_X7_fault rfl rfl rfl (by decide +kernel) ⟨Nat.le_of_ble_eq_true rfl, Nat.le_of_ble_eq_true rfl⟩) hB hG.2 hC hS rfl hl.1 (Nat.le_of_ble_eq_true rfl) dX7_causeOf_34 ⟨Nat.le_of_ble_eq_true rfl, Nat.le_of_ble_eq_true rfl⟩ (fun H locs hC hS => ?_)
              refine lv_istore_n (lv' := [(2, .int (fX7_fault (w 0 0) (w 0 1) (w 0 2) (w 0 3) (w 0 4) g r 5)), (3, .int 5), (1, .int 0), (0, .ref (bd 3 r))]) hx hb dX7_causeOf_37 rfl hl (by decide) rfl (fun ls hl => ?_)
              refine lv_iload_n hx hb dX7_causeOf_38 rfl (lv_at hl 1 rfl) ?_
              refine lv_istore_n (lv' := [(1, .int 5), (2, .int (fX7_fault (w 0 0) (w 0 1) (w 0 2) (w 0 3) (w 0 4) g r 5)), (3, .int 5), (0, .ref (bd 3 r))]) hx hb dX7_causeOf_39 rfl hl (by decide) rfl (fun ls hl => ?_)
              refine lv_iinc (v := 6) (lv' := [(3, .int 6), (1, .int 5), (2, .int (fX7_fault (w 0 0) (w 0 1) (w 0 2) (w 0 3) (w 0 4) g r 5)), (0, .ref (bd 3 r))]) hx hb dX7_causeOf_40 hl (k := 2) rfl (by decide) (by decide) rfl (fun ls hl => ?_)
              refine lv_goto (tgt := 14) hx hb dX7_causeOf_43 (by decide) ?_
              refine lv_iload_n hx hb dX7_causeOf_14 rfl (lv_at hl 0 rfl) ?_
              refine lv_bipush (v := 6) hx hb dX7_causeOf_15 (by decide) ?_
              refine lv_icmp_ge (tgt := 46) hx hb dX7_causeOf_17 (by decide) (fun _ => ?_) (fun c => absurd c (by decide))
              refine lv_iload_n hx hb dX7_causeOf_46 rfl (lv_at hl 1 rfl) ?_
              exact m_reti hx hb hr hG hC hS mEq_rf (by unfold fX7_causeOf; rw [if_neg c1, if_neg c2, if_neg c18, if_neg c26, if_neg c30, if_pos c32]) hlocks dX7_causeOf_47
            · skip
              refine lv_goto (tgt := 40) hx hb dX7_causeOf_29 (by decide) ?_
              refine lv_iinc (v := 6) (lv' := [(3, .int 6), (2, .int 0), (1, .int 0), (0, .ref (bd 3 r))]) hx hb dX7_causeOf_40 hl (k := 0) rfl (by decide) (by decide) rfl (fun ls hl => ?_)
              refine lv_goto (tgt := 14) hx hb dX7_causeOf_43 (by decide) ?_
              refine lv_iload_n hx hb dX7_causeOf_14 rfl (lv_at hl 0 rfl) ?_
              refine lv_bipush (v := 6) hx hb dX7_causeOf_15 (by decide) ?_
              refine lv_icmp_ge (tgt := 46) hx hb dX7_causeOf_17 (by decide) (fun _ => ?_) (fun c => absurd c (by decide))
              refine lv_iload_n hx hb dX7_causeOf_46 rfl (lv_at hl 2 rfl) ?_
              exact m_reti hx hb hr hG hC hS mEq_rf (by unfold fX7_causeOf; rw [if_neg c1, if_neg c2, if_neg c18, if_neg c26, if_neg c30, if_neg c32]) hlocks dX7_causeOf_47
  · skip
    refine lv_iconst (v := 0) hx hb dX7_causeOf_6 (by decide) ?_
    exact m_reti hx hb hr hG hC hS mEq_rf (by unfold fX7_causeOf; rw [if_pos c1]) hlocks dX7_causeOf_7
def fX7_mixOf (na nb nc nd T : Nat) (g : Md) (x : Int32) (ki : Int32) (ri : Int32) (su : Int32) : Md := if su = 0 then ((u2 (u2 (u2 (u2 (rz g (400 + T) (fun _ => 0)) (400 + T) 0 ki) (400 + T) 1 ri) (400 + T) (11 + x.toNatClampNeg) ki) (400 + T) (17 + x.toNatClampNeg) 0)) else ((u2 (u2 (u2 (u2 (rz g (400 + T) (fun _ => 0)) (400 + T) 0 ki) (400 + T) 1 ri) (400 + T) (11 + x.toNatClampNeg) ki) (400 + T) (17 + x.toNatClampNeg) ki))
theorem qX7_mixOf_w1 : Cond.arrayClass .int ∈ wsX7_mixOf := List.mem_of_getElem? (i := 1) rfl
set_option maxRecDepth 100000 in
set_option maxHeartbeats 4000000 in
theorem kX7_mixOf (l : Launch) (D : va_G) (cy : Nat → ClassId) (e0 : Nat) {bd w : Nat → Nat → Nat} (g : Md) (S : Int64) (sz : Nat) (x : Int32) (ki : Int32) (ri : Int32) (su : Int32) (hT4 : w 0 4 + 1 ≤ 50) (hf : vp_in x 6) : Met l yX7_mixOf wsX7_mixOf ({ frames := 0, cells := 1, slots := 23, locals := 0 } : Room) (va_Pc [.int x, .int ki, .int ri, .int su] (mPre D cy e0 bd w g S sz)) (mQn D cy bd w 23 (fX7_mixOf (w 0 0) (w 0 1) (w 0 2) (w 0 3) (w 0 4) g x ki ri su) S sz) 1 23 (mA bd w sz) := by
  refine q_start (cc := cX7_mixOf) (maxL := 5) (ret := (some (.array .int))) (own := RX7) (by decide) rfl rfl (Nat.le_of_ble_eq_true rfl) ?_
  intro p e s m below meth c hx hb hr hml hts hown hlocks ⟨hsz, hC, hB⟩ ls hl
  subst hsz
  have hS : va_S (mA bd w s.heap.size) s.heap s.heap [] := va_S.rf
  have hG : mG e0 bd w s.heap.size bd w := mG.rf hB.2.2.1
  have hw0 := hC.1
  have hl : lv_has ls 5 [(0, .int x), (1, .int ki), (2, .int ri), (3, .int su)] := hl
  refine lv_bipush (v := 23) hx hb dX7_mixOf_0 (by decide) ?_
  have hz9 := hS.1
  have hw9 := hC.1
  refine m_newarr hx hb (hts _ qX7_mixOf_w1) hB.1 hC hS (by show w 0 4 < 50; omega) 23 (by decide) (by decide) (by decide) ⟨Nat.le_of_ble_eq_true rfl, Nat.le_of_ble_eq_true rfl⟩ dX7_mixOf_2 (fun bd1 H hN hC hS => ?_)
  have hD9 := wN_mD (N := 23) hN.1 hN.2.1
  have hD1 := hD9
  have hG : mG e0 bd w s.heap.size bd1 (wN w 23) := hG.new hN.1 hN.2.1 hN.2.2.1 (Nat.le_trans hz9 hN.2.2.2)
  have hv2 : rV (wN w 23) (400 + w 0 4) := rV_new
  have hn3 : rl (wN w 23) (400 + w 0 4) = 23 := rl_new
  refine lv_astore (lv' := [(4, .ref (bd1 3 (400 + w 0 4))), (0, .int x), (1, .int ki), (2, .int ri), (3, .int su)]) hx hb dX7_mixOf_4 hl (by decide) rfl (fun ls hl => ?_)
  refine lv_aload hx hb dX7_mixOf_6 (lv_at hl 0 rfl) ?_
  refine lv_iconst (v := 0) hx hb dX7_mixOf_8 (by decide) ?_
  refine lv_iload_n hx hb dX7_mixOf_9 rfl (lv_at hl 2 rfl) ?_
  refine st_m hx hb hB.1 hC hS hG.2.1 hv2 hn3 (k := 0) (by decide) (by unfold vp_in; decide) dX7_mixOf_10 (fun H locs hC hS => ?_)
  refine lv_aload hx hb dX7_mixOf_11 (lv_at hl 0 rfl) ?_
  refine lv_iconst (v := 1) hx hb dX7_mixOf_13 (by decide) ?_
  refine lv_iload_n hx hb dX7_mixOf_14 rfl (lv_at hl 3 rfl) ?_
  refine st_m hx hb hB.1 hC hS hG.2.1 hv2 hn3 (k := 1) (by decide) (by unfold vp_in; decide) dX7_mixOf_15 (fun H locs hC hS => ?_)
  refine lv_aload hx hb dX7_mixOf_16 (lv_at hl 0 rfl) ?_
  refine lv_bipush (v := 11) hx hb dX7_mixOf_18 (by decide) ?_
  refine lv_iload_n hx hb dX7_mixOf_20 rfl (lv_at hl 1 rfl) ?_
  refine lv_iadd hx hb dX7_mixOf_21 ?_
  refine lv_iload_n hx hb dX7_mixOf_22 rfl (lv_at hl 2 rfl) ?_
  refine st_m hx hb hB.1 hC hS hG.2.1 hv2 hn3 (k := 11 + x.toNatClampNeg) (ix_add (c := 11) hf (by decide)).1 (ix_wide (ix_add (c := 11) hf (by decide)).2 (by decide)) dX7_mixOf_23 (fun H locs hC hS => ?_)
  refine lv_aload hx hb dX7_mixOf_24 (lv_at hl 0 rfl) ?_
  refine lv_bipush (v := 17) hx hb dX7_mixOf_26 (by decide) ?_
  refine lv_iload_n hx hb dX7_mixOf_28 rfl (lv_at hl 1 rfl) ?_
  refine lv_iadd hx hb dX7_mixOf_29 ?_
  refine lv_iload_n hx hb dX7_mixOf_30 rfl (lv_at hl 4 rfl) ?_
  refine lv_if_eq (tgt := 38) hx hb dX7_mixOf_31 (by decide) (fun c4 => ?_) (fun c4 => ?_)
  · skip
    refine lv_iconst (v := 0) hx hb dX7_mixOf_38 (by decide) ?_
    refine st_m hx hb hB.1 hC hS hG.2.1 hv2 hn3 (k := 17 + x.toNatClampNeg) (ix_add (c := 17) hf (by decide)).1 (ix_add (c := 17) hf (by decide)).2 dX7_mixOf_39 (fun H locs hC hS => ?_)
    refine lv_aload hx hb dX7_mixOf_40 (lv_at hl 0 rfl) ?_
    refine W.widen (k := 1) (n := 23) (Nat.le_of_ble_eq_true rfl) (Nat.le_of_ble_eq_true rfl) ?_
    exact m_retn hx hb ⟨hN.1, hN.2.1, rfl, (by rw [hN.2.2.1]; exact Nat.le_trans hz9 hN.2.2.2)⟩ hC hS (by unfold fX7_mixOf; rw [if_pos c4]) hr (Or.inr ⟨_, rfl⟩) hlocks dX7_mixOf_42
  · skip
    refine lv_iload_n hx hb dX7_mixOf_34 rfl (lv_at hl 2 rfl) ?_
    refine lv_goto (tgt := 39) hx hb dX7_mixOf_35 (by decide) ?_
    refine st_m hx hb hB.1 hC hS hG.2.1 hv2 hn3 (k := 17 + x.toNatClampNeg) (ix_add (c := 17) hf (by decide)).1 (ix_add (c := 17) hf (by decide)).2 dX7_mixOf_39 (fun H locs hC hS => ?_)
    refine lv_aload hx hb dX7_mixOf_40 (lv_at hl 0 rfl) ?_
    refine W.widen (k := 1) (n := 23) (Nat.le_of_ble_eq_true rfl) (Nat.le_of_ble_eq_true rfl) ?_
    exact m_retn hx hb ⟨hN.1, hN.2.1, rfl, (by rw [hN.2.2.1]; exact Nat.le_trans hz9 hN.2.2.2)⟩ hC hS (by unfold fX7_mixOf; rw [if_neg c4]) hr (Or.inr ⟨_, rfl⟩) hlocks dX7_mixOf_42
def fX7_come (na nb nc nd T : Nat) (g : Md) (r : Nat) (o : Nat) : Md := (u2 (u2 (u2 (u2 (u2 (u2 (u2 (u2 (u2 (u2 (u2 (u2 (u2 (u2 g r 1 (fX7_mean (g r 0) (g r 1) (g o 0) (g o 1))) r 0 ((g r 0) + (g o 0))) r 11 ((g r 11) + (g o 11))) r 12 ((g r 12) + (g o 12))) r 13 ((g r 13) + (g o 13))) r 14 ((g r 14) + (g o 14))) r 15 ((g r 15) + (g o 15))) r 16 ((g r 16) + (g o 16))) r 17 ((g r 17) + (g o 17))) r 18 ((g r 18) + (g o 18))) r 19 ((g r 19) + (g o 19))) r 20 ((g r 20) + (g o 20))) r 21 ((g r 21) + (g o 21))) r 22 ((g r 22) + (g o 22)))
set_option maxRecDepth 100000 in
set_option maxHeartbeats 4000000 in
theorem kX7_come (l : Launch) (D : va_G) (cy : Nat → ClassId) (e0 : Nat) {bd w : Nat → Nat → Nat} (g : Md) (S : Int64) (sz : Nat) (r : Nat) (hv_r : rV w r) (hn_r : rl w r = 23) (o : Nat) (hv_o : rV w o) (hn_o : rl w o = 23) (hne : ¬ g r 0 + g o 0 = 0) : Met l yX7_come wsX7_come ({ frames := 1, cells := 0, slots := 0, locals := 23 } : Room) (va_Pc [.ref (bd 3 r), .ref (bd 3 o)] (mPre D cy e0 bd w g S sz)) (mQv D cy bd w (fX7_come (w 0 0) (w 0 1) (w 0 2) (w 0 3) (w 0 4) g r o) S sz) 0 0 (mA bd w sz) := by
  refine q_start (cc := cX7_come) (maxL := 3) (ret := none) (own := RX7) (by decide) rfl rfl (Nat.le_of_ble_eq_true rfl) ?_
  intro p e s m below meth c hx hb hr hml hts hown hlocks ⟨hsz, hC, hB⟩ ls hl
  subst hsz
  have hS : va_S (mA bd w s.heap.size) s.heap s.heap [] := va_S.rf
  have hG : mG e0 bd w s.heap.size bd w := mG.rf hB.2.2.1
  have hw0 := hC.1
  have hl : lv_has ls 3 [(0, .ref (bd 3 r)), (1, .ref (bd 3 o))] := hl
  refine lv_aload_n hx hb dX7_come_0 rfl (lv_at hl 0 rfl) ?_
  refine lv_iconst (v := 1) hx hb dX7_come_1 (by decide) ?_
  refine lv_aload_n hx hb dX7_come_2 rfl (lv_at hl 0 rfl) ?_
  refine lv_iconst (v := 0) hx hb dX7_come_3 (by decide) ?_
  refine ld_m hx hb hB.1 hC hv_r hn_r (k := 0) (by decide) (by unfold vp_in; decide) dX7_come_4 ?_
  refine lv_aload_n hx hb dX7_come_5 rfl (lv_at hl 0 rfl) ?_
  refine lv_iconst (v := 1) hx hb dX7_come_6 (by decide) ?_
  refine ld_m hx hb hB.1 hC hv_r hn_r (k := 1) (by decide) (by unfold vp_in; decide) dX7_come_7 ?_
  refine lv_aload_n hx hb dX7_come_8 rfl (lv_at hl 1 rfl) ?_
  refine lv_iconst (v := 0) hx hb dX7_come_9 (by decide) ?_
  refine ld_m hx hb hB.1 hC hv_o hn_o (k := 0) (by decide) (by unfold vp_in; decide) dX7_come_10 ?_
  refine lv_aload_n hx hb dX7_come_11 rfl (lv_at hl 1 rfl) ?_
  refine lv_iconst (v := 1) hx hb dX7_come_12 (by decide) ?_
  refine ld_m hx hb hB.1 hC hv_o hn_o (k := 1) (by decide) (by unfold vp_in; decide) dX7_come_13 ?_
  refine m_callSi (As := [.int (g r 0), .int (g r 1), .int (g o 0), .int (g o 1)])  ⟨hx, hb, hml, hown, hts⟩ (kX7_mean l D cy e0 (bd := bd) (w := w) g S _ (g r 0) (g r 1) (g o 0) (g o 1) hne) (va_cwS 4 hts gX7_come_X7_mean rfl rfl rfl (by decide +kernel) ⟨Nat.le_of_ble_eq_true rfl, Nat.le_of_ble_eq_true rfl⟩) hB hG.2 hC hS rfl hl.1 (Nat.le_of_ble_eq_true rfl) dX7_come_14 ⟨Nat.le_of_ble_eq_true rfl, Nat.le_of_ble_eq_true rfl⟩ (fun H locs hC hS => ?_)
  refine st_m hx hb hB.1 hC hS hG.2.1 hv_r hn_r (k := 1) (by decide) (by unfold vp_in; decide) dX7_come_17 (fun H locs hC hS => ?_)
  refine lv_aload_n hx hb dX7_come_18 rfl (lv_at hl 0 rfl) ?_
  refine lv_iconst (v := 0) hx hb dX7_come_19 (by decide) ?_
  refine lv_dup2_11 hx hb dX7_come_20 rfl rfl ?_
  refine ld_m hx hb hB.1 hC hv_r hn_r (k := 0) (by decide) (by unfold vp_in; decide) dX7_come_21 ?_
  refine q_val (v := g r 0) ((u2_nk (by decide)).trans rfl) ?_
  refine lv_aload_n hx hb dX7_come_22 rfl (lv_at hl 1 rfl) ?_
  refine lv_iconst (v := 0) hx hb dX7_come_23 (by decide) ?_
  refine ld_m hx hb hB.1 hC hv_o hn_o (k := 0) (by decide) (by unfold vp_in; decide) dX7_come_24 ?_
  refine q_val (v := g o 0) ((u2_nk (by decide)).trans rfl) ?_
  refine lv_iadd hx hb dX7_come_25 ?_
  refine st_m hx hb hB.1 hC hS hG.2.1 hv_r hn_r (k := 0) (by decide) (by unfold vp_in; decide) dX7_come_26 (fun H locs hC hS => ?_)
  refine lv_bipush (v := 11) hx hb dX7_come_27 (by decide) ?_
  refine lv_istore_n (lv' := [(2, .int 11), (0, .ref (bd 3 r)), (1, .ref (bd 3 o))]) hx hb dX7_come_29 rfl hl (by decide) rfl (fun ls hl => ?_)
  refine lv_iload_n hx hb dX7_come_30 rfl (lv_at hl 0 rfl) ?_
  refine lv_bipush (v := 23) hx hb dX7_come_31 (by decide) ?_
  refine lv_icmp_ge (tgt := 51) hx hb dX7_come_33 (by decide) (fun c => absurd c (by decide)) (fun _ => ?_)
  refine lv_aload_n hx hb dX7_come_36 rfl (lv_at hl 1 rfl) ?_
  refine lv_iload_n hx hb dX7_come_37 rfl (lv_at hl 0 rfl) ?_
  refine lv_dup2_11 hx hb dX7_come_38 rfl rfl ?_
  refine ld_m hx hb hB.1 hC hv_r hn_r (k := 11) (by decide) (by unfold vp_in; decide) dX7_come_39 ?_
  refine q_val (v := g r 11) ((u2_nk (by decide)).trans ((u2_nk (by decide)).trans rfl)) ?_
  refine lv_aload_n hx hb dX7_come_40 rfl (lv_at hl 2 rfl) ?_
  refine lv_iload_n hx hb dX7_come_41 rfl (lv_at hl 0 rfl) ?_
  refine ld_m hx hb hB.1 hC hv_o hn_o (k := 11) (by decide) (by unfold vp_in; decide) dX7_come_42 ?_
  refine q_val (v := g o 11) ((u2_nk (by decide)).trans ((u2_nk (by decide)).trans rfl)) ?_
  refine lv_iadd hx hb dX7_come_43 ?_
  refine st_m hx hb hB.1 hC hS hG.2.1 hv_r hn_r (k := 11) (by decide) (by unfold vp_in; decide) dX7_come_44 (fun H locs hC hS => ?_)
  refine lv_iinc (v := 12) (lv' := [(2, .int 12), (0, .ref (bd 3 r)), (1, .ref (bd 3 o))]) hx hb dX7_come_45 hl (k := 0) rfl (by decide) (by decide) rfl (fun ls hl => ?_)
  refine lv_goto (tgt := 30) hx hb dX7_come_48 (by decide) ?_
  refine lv_iload_n hx hb dX7_come_30 rfl (lv_at hl 0 rfl) ?_
  refine lv_bipush (v := 23) hx hb dX7_come_31 (by decide) ?_
  refine lv_icmp_ge (tgt := 51) hx hb dX7_come_33 (by decide) (fun c => absurd c (by decide)) (fun _ => ?_)
  refine lv_aload_n hx hb dX7_come_36 rfl (lv_at hl 1 rfl) ?_
  refine lv_iload_n hx hb dX7_come_37 rfl (lv_at hl 0 rfl) ?_
  refine lv_dup2_11 hx hb dX7_come_38 rfl rfl ?_
  refine ld_m hx hb hB.1 hC hv_r hn_r (k := 12) (by decide) (by unfold vp_in; decide) dX7_come_39 ?_
  refine q_val (v := g r 12) ((u2_nk (by decide)).trans ((u2_nk (by decide)).trans ((u2_nk (by decide)).trans rfl))) ?_
  refine lv_aload_n hx hb dX7_come_40 rfl (lv_at hl 2 rfl) ?_
  refine lv_iload_n hx hb dX7_come_41 rfl (lv_at hl 0 rfl) ?_
  refine ld_m hx hb hB.1 hC hv_o hn_o (k := 12) (by decide) (by unfold vp_in; decide) dX7_come_42 ?_
  refine q_val (v := g o 12) ((u2_nk (by decide)).trans ((u2_nk (by decide)).trans ((u2_nk (by decide)).trans rfl))) ?_
  refine lv_iadd hx hb dX7_come_43 ?_
  refine st_m hx hb hB.1 hC hS hG.2.1 hv_r hn_r (k := 12) (by decide) (by unfold vp_in; decide) dX7_come_44 (fun H locs hC hS => ?_)
  refine lv_iinc (v := 13) (lv' := [(2, .int 13), (0, .ref (bd 3 r)), (1, .ref (bd 3 o))]) hx hb dX7_come_45 hl (k := 0) rfl (by decide) (by decide) rfl (fun ls hl => ?_)
  refine lv_goto (tgt := 30) hx hb dX7_come_48 (by decide) ?_
  refine lv_iload_n hx hb dX7_come_30 rfl (lv_at hl 0 rfl) ?_
  refine lv_bipush (v := 23) hx hb dX7_come_31 (by decide) ?_
  refine lv_icmp_ge (tgt := 51) hx hb dX7_come_33 (by decide) (fun c => absurd c (by decide)) (fun _ => ?_)
  refine lv_aload_n hx hb dX7_come_36 rfl (lv_at hl 1 rfl) ?_
  refine lv_iload_n hx hb dX7_come_37 rfl (lv_at hl 0 rfl) ?_
  refine lv_dup2_11 hx hb dX7_come_38 rfl rfl ?_
  refine ld_m hx hb hB.1 hC hv_r hn_r (k := 13) (by decide) (by unfold vp_in; decide) dX7_come_39 ?_
  refine q_val (v := g r 13) ((u2_nk (by decide)).trans ((u2_nk (by decide)).trans ((u2_nk (by decide)).trans ((u2_nk (by decide)).trans rfl)))) ?_
  refine lv_aload_n hx hb dX7_come_40 rfl (lv_at hl 2 rfl) ?_
  refine lv_iload_n hx hb dX7_come_41 rfl (lv_at hl 0 rfl) ?_
  refine ld_m hx hb hB.1 hC hv_o hn_o (k := 13) (by decide) (by unfold vp_in; decide) dX7_come_42 ?_
  refine q_val (v := g o 13) ((u2_nk (by decide)).trans ((u2_nk (by decide)).trans ((u2_nk (by decide)).trans ((u2_nk (by decide)).trans rfl)))) ?_
  refine lv_iadd hx hb dX7_come_43 ?_
  refine st_m hx hb hB.1 hC hS hG.2.1 hv_r hn_r (k := 13) (by decide) (by unfold vp_in; decide) dX7_come_44 (fun H locs hC hS => ?_)
  refine lv_iinc (v := 14) (lv' := [(2, .int 14), (0, .ref (bd 3 r)), (1, .ref (bd 3 o))]) hx hb dX7_come_45 hl (k := 0) rfl (by decide) (by decide) rfl (fun ls hl => ?_)
  refine lv_goto (tgt := 30) hx hb dX7_come_48 (by decide) ?_
  refine lv_iload_n hx hb dX7_come_30 rfl (lv_at hl 0 rfl) ?_
  refine lv_bipush (v := 23) hx hb dX7_come_31 (by decide) ?_
  refine lv_icmp_ge (tgt := 51) hx hb dX7_come_33 (by decide) (fun c => absurd c (by decide)) (fun _ => ?_)
  refine lv_aload_n hx hb dX7_come_36 rfl (lv_at hl 1 rfl) ?_
  refine lv_iload_n hx hb dX7_come_37 rfl (lv_at hl 0 rfl) ?_
  refine lv_dup2_11 hx hb dX7_come_38 rfl rfl ?_
  refine ld_m hx hb hB.1 hC hv_r hn_r (k := 14) (by decide) (by unfold vp_in; decide) dX7_come_39 ?_
  refine q_val (v := g r 14) ((u2_nk (by decide)).trans ((u2_nk (by decide)).trans ((u2_nk (by decide)).trans ((u2_nk (by decide)).trans ((u2_nk (by decide)).trans rfl))))) ?_
  refine lv_aload_n hx hb dX7_come_40 rfl (lv_at hl 2 rfl) ?_
  refine lv_iload_n hx hb dX7_come_41 rfl (lv_at hl 0 rfl) ?_
  refine ld_m hx hb hB.1 hC hv_o hn_o (k := 14) (by decide) (by unfold vp_in; decide) dX7_come_42 ?_
  refine q_val (v := g o 14) ((u2_nk (by decide)).trans ((u2_nk (by decide)).trans ((u2_nk (by decide)).trans ((u2_nk (by decide)).trans ((u2_nk (by decide)).trans rfl))))) ?_
  refine lv_iadd hx hb dX7_come_43 ?_
  refine st_m hx hb hB.1 hC hS hG.2.1 hv_r hn_r (k := 14) (by decide) (by unfold vp_in; decide) dX7_come_44 (fun H locs hC hS => ?_)
  refine lv_iinc (v := 15) (lv' := [(2, .int 15), (0, .ref (bd 3 r)), (1, .ref (bd 3 o))]) hx hb dX7_come_45 hl (k := 0) rfl (by decide) (by decide) rfl (fun ls hl => ?_)
  refine lv_goto (tgt := 30) hx hb dX7_come_48 (by decide) ?_
  refine lv_iload_n hx hb dX7_come_30 rfl (lv_at hl 0 rfl) ?_
  refine lv_bipush (v := 23) hx hb dX7_come_31 (by decide) ?_
  refine lv_icmp_ge (tgt := 51) hx hb dX7_come_33 (by decide) (fun c => absurd c (by decide)) (fun _ => ?_)
  refine lv_aload_n hx hb dX7_come_36 rfl (lv_at hl 1 rfl) ?_
  refine lv_iload_n hx hb dX7_come_37 rfl (lv_at hl 0 rfl) ?_
  refine lv_dup2_11 hx hb dX7_come_38 rfl rfl ?_
  refine ld_m hx hb hB.1 hC hv_r hn_r (k := 15) (by decide) (by unfold vp_in; decide) dX7_come_39 ?_
  refine q_val (v := g r 15) ((u2_nk (by decide)).trans ((u2_nk (by decide)).trans ((u2_nk (by decide)).trans ((u2_nk (by decide)).trans ((u2_nk (by decide)).trans ((u2_nk (by decide)).trans rfl)))))) ?_
  refine lv_aload_n hx hb dX7_come_40 rfl (lv_at hl 2 rfl) ?_
  refine lv_iload_n hx hb dX7_come_41 rfl (lv_at hl 0 rfl) ?_
  refine ld_m hx hb hB.1 hC hv_o hn_o (k := 15) (by decide) (by unfold vp_in; decide) dX7_come_42 ?_
  refine q_val (v := g o 15) ((u2_nk (by decide)).trans ((u2_nk (by decide)).trans ((u2_nk (by decide)).trans ((u2_nk (by decide)).trans ((u2_nk (by decide)).trans ((u2_nk (by decide)).trans rfl)))))) ?_
  refine lv_iadd hx hb dX7_come_43 ?_
  refine st_m hx hb hB.1 hC hS hG.2.1 hv_r hn_r (k := 15) (by decide) (by unfold vp_in; decide) dX7_come_44 (fun H locs hC hS => ?_)
  refine lv_iinc (v := 16) (lv' := [(2, .int 16), (0, .ref (bd 3 r)), (1, .ref (bd 3 o))]) hx hb dX7_come_45 hl (k := 0) rfl (by decide) (by decide) rfl (fun ls hl => ?_)
  refine lv_goto (tgt := 30) hx hb dX7_come_48 (by decide) ?_
  refine lv_iload_n hx hb dX7_come_30 rfl (lv_at hl 0 rfl) ?_
  refine lv_bipush (v := 23) hx hb dX7_come_31 (by decide) ?_
  refine lv_icmp_ge (tgt := 51) hx hb dX7_come_33 (by decide) (fun c => absurd c (by decide)) (fun _ => ?_)
  refine lv_aload_n hx hb dX7_come_36 rfl (lv_at hl 1 rfl) ?_
  refine lv_iload_n hx hb dX7_come_37 rfl (lv_at hl 0 rfl) ?_
  refine lv_dup2_11 hx hb dX7_come_38 rfl rfl ?_
  refine ld_m hx hb hB.1 hC hv_r hn_r (k := 16) (by decide) (by unfold vp_in; decide) dX7_come_39 ?_
  refine q_val (v := g r 16) ((u2_nk (by decide)).trans ((u2_nk (by decide)).trans ((u2_nk (by decide)).trans ((u2_nk (by decide)).trans ((u2_nk (by decide)).trans ((u2_nk (by decide)).trans ((u2_nk (by decide)).trans rfl))))))) ?_
  refine lv_aload_n hx hb dX7_come_40 rfl (lv_at hl 2 rfl) ?_
  refine lv_iload_n hx hb dX7_come_41 rfl (lv_at hl 0 rfl) ?_
  refine ld_m hx hb hB.1 hC hv_o hn_o (k := 16) (by decide) (by unfold vp_in; decide) dX7_come_42 ?_
  refine q_val (v := g o 16) ((u2_nk (by decide)).trans ((u2_nk (by decide)).trans ((u2_nk (by decide)).trans ((u2_nk (by decide)).trans ((u2_nk (by decide)).trans ((u2_nk (by decide)).trans ((u2_nk (by decide)).trans rfl))))))) ?_
  refine lv_iadd hx hb dX7_come_43 ?_
  refine st_m hx hb hB.1 hC hS hG.2.1 hv_r hn_r (k := 16) (by decide) (by unfold vp_in; decide) dX7_come_44 (fun H locs hC hS => ?_)
  refine lv_iinc (v := 17) (lv' := [(2, .int 17), (0, .ref (bd 3 r)), (1, .ref (bd 3 o))]) hx hb dX7_come_45 hl (k := 0) rfl (by decide) (by decide) rfl (fun ls hl => ?_)
  refine lv_goto (tgt := 30) hx hb dX7_come_48 (by decide) ?_
  refine lv_iload_n hx hb dX7_come_30 rfl (lv_at hl 0 rfl) ?_
  refine lv_bipush (v := 23) hx hb dX7_come_31 (by decide) ?_
  refine lv_icmp_ge (tgt := 51) hx hb dX7_come_33 (by decide) (fun c => absurd c (by decide)) (fun _ => ?_)
  refine lv_aload_n hx hb dX7_come_36 rfl (lv_at hl 1 rfl) ?_
  refine lv_iload_n hx hb dX7_come_37 rfl (lv_at hl 0 rfl) ?_
  refine lv_dup2_11 hx hb dX7_come_38 rfl rfl ?_
  refine ld_m hx hb hB.1 hC hv_r hn_r (k := 17) (by decide) (by unfold vp_in; decide) dX7_come_39 ?_
  refine q_val (v := g r 17) ((u2_nk (by decide)).trans ((u2_nk (by decide)).trans ((u2_nk (by decide)).trans ((u2_nk (by decide)).trans ((u2_nk (by decide)).trans ((u2_nk (by decide)).trans ((u2_nk (by decide)).trans ((u2_nk (by decide)).trans rfl)))))))) ?_
  refine lv_aload_n hx hb dX7_come_40 rfl (lv_at hl 2 rfl) ?_
  refine lv_iload_n hx hb dX7_come_41 rfl (lv_at hl 0 rfl) ?_
  refine ld_m hx hb hB.1 hC hv_o hn_o (k := 17) (by decide) (by unfold vp_in; decide) dX7_come_42 ?_
  refine q_val (v := g o 17) ((u2_nk (by decide)).trans ((u2_nk (by decide)).trans ((u2_nk (by decide)).trans ((u2_nk (by decide)).trans ((u2_nk (by decide)).trans ((u2_nk (by decide)).trans ((u2_nk (by decide)).trans ((u2_nk (by decide)).trans rfl)))))))) ?_
  refine lv_iadd hx hb dX7_come_43 ?_
  refine st_m hx hb hB.1 hC hS hG.2.1 hv_r hn_r (k := 17) (by decide) (by unfold vp_in; decide) dX7_come_44 (fun H locs hC hS => ?_)
  refine lv_iinc (v := 18) (lv' := [(2, .int 18), (0, .ref (bd 3 r)), (1, .ref (bd 3 o))]) hx hb dX7_come_45 hl (k := 0) rfl (by decide) (by decide) rfl (fun ls hl => ?_)
  refine lv_goto (tgt := 30) hx hb dX7_come_48 (by decide) ?_
  refine lv_iload_n hx hb dX7_come_30 rfl (lv_at hl 0 rfl) ?_
  refine lv_bipush (v := 23) hx hb dX7_come_31 (by decide) ?_
  refine lv_icmp_ge (tgt := 51) hx hb dX7_come_33 (by decide) (fun c => absurd c (by decide)) (fun _ => ?_)
  refine lv_aload_n hx hb dX7_come_36 rfl (lv_at hl 1 rfl) ?_
  refine lv_iload_n hx hb dX7_come_37 rfl (lv_at hl 0 rfl) ?_
  refine lv_dup2_11 hx hb dX7_come_38 rfl rfl ?_
  refine ld_m hx hb hB.1 hC hv_r hn_r (k := 18) (by decide) (by unfold vp_in; decide) dX7_come_39 ?_
  refine q_val (v := g r 18) ((u2_nk (by decide)).trans ((u2_nk (by decide)).trans ((u2_nk (by decide)).trans ((u2_nk (by decide)).trans ((u2_nk (by decide)).trans ((u2_nk (by decide)).trans ((u2_nk (by decide)).trans ((u2_nk (by decide)).trans ((u2_nk (by decide)).trans rfl))))))))) ?_
  refine lv_aload_n hx hb dX7_come_40 rfl (lv_at hl 2 rfl) ?_
  refine lv_iload_n hx hb dX7_come_41 rfl (lv_at hl 0 rfl) ?_
  refine ld_m hx hb hB.1 hC hv_o hn_o (k := 18) (by decide) (by unfold vp_in; decide) dX7_come_42 ?_
  refine q_val (v := g o 18) ((u2_nk (by decide)).trans ((u2_nk (by decide)).trans ((u2_nk (by decide)).trans ((u2_nk (by decide)).trans ((u2_nk (by decide)).trans ((u2_nk (by decide)).trans ((u2_nk (by decide)).trans ((u2_nk (by decide)).trans ((u2_nk (by decide)).trans rfl))))))))) ?_
  refine lv_iadd hx hb dX7_come_43 ?_
  refine st_m hx hb hB.1 hC hS hG.2.1 hv_r hn_r (k := 18) (by decide) (by unfold vp_in; decide) dX7_come_44 (fun H locs hC hS => ?_)
  refine lv_iinc (v := 19) (lv' := [(2, .int 19), (0, .ref (bd 3 r)), (1, .ref (bd 3 o))]) hx hb dX7_come_45 hl (k := 0) rfl (by decide) (by decide) rfl (fun ls hl => ?_)
  refine lv_goto (tgt := 30) hx hb dX7_come_48 (by decide) ?_
  refine lv_iload_n hx hb dX7_come_30 rfl (lv_at hl 0 rfl) ?_
  refine lv_bipush (v := 23) hx hb dX7_come_31 (by decide) ?_
  refine lv_icmp_ge (tgt := 51) hx hb dX7_come_33 (by decide) (fun c => absurd c (by decide)) (fun _ => ?_)
  refine lv_aload_n hx hb dX7_come_36 rfl (lv_at hl 1 rfl) ?_
  refine lv_iload_n hx hb dX7_come_37 rfl (lv_at hl 0 rfl) ?_
  refine lv_dup2_11 hx hb dX7_come_38 rfl rfl ?_
  refine ld_m hx hb hB.1 hC hv_r hn_r (k := 19) (by decide) (by unfold vp_in; decide) dX7_come_39 ?_
  refine q_val (v := g r 19) ((u2_nk (by decide)).trans ((u2_nk (by decide)).trans ((u2_nk (by decide)).trans ((u2_nk (by decide)).trans ((u2_nk (by decide)).trans ((u2_nk (by decide)).trans ((u2_nk (by decide)).trans ((u2_nk (by decide)).trans ((u2_nk (by decide)).trans ((u2_nk (by decide)).trans rfl)))))))))) ?_
  refine lv_aload_n hx hb dX7_come_40 rfl (lv_at hl 2 rfl) ?_
  refine lv_iload_n hx hb dX7_come_41 rfl (lv_at hl 0 rfl) ?_
  refine ld_m hx hb hB.1 hC hv_o hn_o (k := 19) (by decide) (by unfold vp_in; decide) dX7_come_42 ?_
  refine q_val (v := g o 19) ((u2_nk (by decide)).trans ((u2_nk (by decide)).trans ((u2_nk (by decide)).trans ((u2_nk (by decide)).trans ((u2_nk (by decide)).trans ((u2_nk (by decide)).trans ((u2_nk (by decide)).trans ((u2_nk (by decide)).trans ((u2_nk (by decide)).trans ((u2_nk (by decide)).trans rfl)))))))))) ?_
  refine lv_iadd hx hb dX7_come_43 ?_
  refine st_m hx hb hB.1 hC hS hG.2.1 hv_r hn_r (k := 19) (by decide) (by unfold vp_in; decide) dX7_come_44 (fun H locs hC hS => ?_)
  refine lv_iinc (v := 20) (lv' := [(2, .int 20), (0, .ref (bd 3 r)), (1, .ref (bd 3 o))]) hx hb dX7_come_45 hl (k := 0) rfl (by decide) (by decide) rfl (fun ls hl => ?_)
  refine lv_goto (tgt := 30) hx hb dX7_come_48 (by decide) ?_
  refine lv_iload_n hx hb dX7_come_30 rfl (lv_at hl 0 rfl) ?_
  refine lv_bipush (v := 23) hx hb dX7_come_31 (by decide) ?_
  refine lv_icmp_ge (tgt := 51) hx hb dX7_come_33 (by decide) (fun c => absurd c (by decide)) (fun _ => ?_)
  refine lv_aload_n hx hb dX7_come_36 rfl (lv_at hl 1 rfl) ?_
  refine lv_iload_n hx hb dX7_come_37 rfl (lv_at hl 0 rfl) ?_
  refine lv_dup2_11 hx hb dX7_come_38 rfl rfl ?_
  refine ld_m hx hb hB.1 hC hv_r hn_r (k := 20) (by decide) (by unfold vp_in; decide) dX7_come_39 ?_
  refine q_val (v := g r 20) ((u2_nk (by decide)).trans ((u2_nk (by decide)).trans ((u2_nk (by decide)).trans ((u2_nk (by decide)).trans ((u2_nk (by decide)).trans ((u2_nk (by decide)).trans ((u2_nk (by decide)).trans ((u2_nk (by decide)).trans ((u2_nk (by decide)).trans ((u2_nk (by decide)).trans ((u2_nk (by decide)).trans rfl))))))))))) ?_
  refine lv_aload_n hx hb dX7_come_40 rfl (lv_at hl 2 rfl) ?_
  refine lv_iload_n hx hb dX7_come_41 rfl (lv_at hl 0 rfl) ?_
  refine ld_m hx hb hB.1 hC hv_o hn_o (k := 20) (by decide) (by unfold vp_in; decide) dX7_come_42 ?_
  refine q_val (v := g o 20) ((u2_nk (by decide)).trans ((u2_nk (by decide)).trans ((u2_nk (by decide)).trans ((u2_nk (by decide)).trans ((u2_nk (by decide)).trans ((u2_nk (by decide)).trans ((u2_nk (by decide)).trans ((u2_nk (by decide)).trans ((u2_nk (by decide)).trans ((u2_nk (by decide)).trans ((u2_nk (by decide)).trans rfl))))))))))) ?_
  refine lv_iadd hx hb dX7_come_43 ?_
  refine st_m hx hb hB.1 hC hS hG.2.1 hv_r hn_r (k := 20) (by decide) (by unfold vp_in; decide) dX7_come_44 (fun H locs hC hS => ?_)
  refine lv_iinc (v := 21) (lv' := [(2, .int 21), (0, .ref (bd 3 r)), (1, .ref (bd 3 o))]) hx hb dX7_come_45 hl (k := 0) rfl (by decide) (by decide) rfl (fun ls hl => ?_)
  refine lv_goto (tgt := 30) hx hb dX7_come_48 (by decide) ?_
  refine lv_iload_n hx hb dX7_come_30 rfl (lv_at hl 0 rfl) ?_
  refine lv_bipush (v := 23) hx hb dX7_come_31 (by decide) ?_
  refine lv_icmp_ge (tgt := 51) hx hb dX7_come_33 (by decide) (fun c => absurd c (by decide)) (fun _ => ?_)
  refine lv_aload_n hx hb dX7_come_36 rfl (lv_at hl 1 rfl) ?_
  refine lv_iload_n hx hb dX7_come_37 rfl (lv_at hl 0 rfl) ?_
  refine lv_dup2_11 hx hb dX7_come_38 rfl rfl ?_
  refine ld_m hx hb hB.1 hC hv_r hn_r (k := 21) (by decide) (by unfold vp_in; decide) dX7_come_39 ?_
  refine q_val (v := g r 21) ((u2_nk (by decide)).trans ((u2_nk (by decide)).trans ((u2_nk (by decide)).trans ((u2_nk (by decide)).trans ((u2_nk (by decide)).trans ((u2_nk (by decide)).trans ((u2_nk (by decide)).trans ((u2_nk (by decide)).trans ((u2_nk (by decide)).trans ((u2_nk (by decide)).trans ((u2_nk (by decide)).trans ((u2_nk (by decide)).trans rfl)))))))))))) ?_
  refine lv_aload_n hx hb dX7_come_40 rfl (lv_at hl 2 rfl) ?_
  refine lv_iload_n hx hb dX7_come_41 rfl (lv_at hl 0 rfl) ?_
  refine ld_m hx hb hB.1 hC hv_o hn_o (k := 21) (by decide) (by unfold vp_in; decide) dX7_come_42 ?_
  refine q_val (v := g o 21) ((u2_nk (by decide)).trans ((u2_nk (by decide)).trans ((u2_nk (by decide)).trans ((u2_nk (by decide)).trans ((u2_nk (by decide)).trans ((u2_nk (by decide)).trans ((u2_nk (by decide)).trans ((u2_nk (by decide)).trans ((u2_nk (by decide)).trans ((u2_nk (by decide)).trans ((u2_nk (by decide)).trans ((u2_nk (by decide)).trans rfl)))))))))))) ?_
  refine lv_iadd hx hb dX7_come_43 ?_
  refine st_m hx hb hB.1 hC hS hG.2.1 hv_r hn_r (k := 21) (by decide) (by unfold vp_in; decide) dX7_come_44 (fun H locs hC hS => ?_)
  refine lv_iinc (v := 22) (lv' := [(2, .int 22), (0, .ref (bd 3 r)), (1, .ref (bd 3 o))]) hx hb dX7_come_45 hl (k := 0) rfl (by decide) (by decide) rfl (fun ls hl => ?_)
  refine lv_goto (tgt := 30) hx hb dX7_come_48 (by decide) ?_
  refine lv_iload_n hx hb dX7_come_30 rfl (lv_at hl 0 rfl) ?_
  refine lv_bipush (v := 23) hx hb dX7_come_31 (by decide) ?_
  refine lv_icmp_ge (tgt := 51) hx hb dX7_come_33 (by decide) (fun c => absurd c (by decide)) (fun _ => ?_)
  refine lv_aload_n hx hb dX7_come_36 rfl (lv_at hl 1 rfl) ?_
  refine lv_iload_n hx hb dX7_come_37 rfl (lv_at hl 0 rfl) ?_
  refine lv_dup2_11 hx hb dX7_come_38 rfl rfl ?_
  refine ld_m hx hb hB.1 hC hv_r hn_r (k := 22) (by decide) (by unfold vp_in; decide) dX7_come_39 ?_
  refine q_val (v := g r 22) ((u2_nk (by decide)).trans ((u2_nk (by decide)).trans ((u2_nk (by decide)).trans ((u2_nk (by decide)).trans ((u2_nk (by decide)).trans ((u2_nk (by decide)).trans ((u2_nk (by decide)).trans ((u2_nk (by decide)).trans ((u2_nk (by decide)).trans ((u2_nk (by decide)).trans ((u2_nk (by decide)).trans ((u2_nk (by decide)).trans ((u2_nk (by decide)).trans rfl))))))))))))) ?_
  refine lv_aload_n hx hb dX7_come_40 rfl (lv_at hl 2 rfl) ?_
  refine lv_iload_n hx hb dX7_come_41 rfl (lv_at hl 0 rfl) ?_
  refine ld_m hx hb hB.1 hC hv_o hn_o (k := 22) (by decide) (by unfold vp_in; decide) dX7_come_42 ?_
  refine q_val (v := g o 22) ((u2_nk (by decide)).trans ((u2_nk (by decide)).trans ((u2_nk (by decide)).trans ((u2_nk (by decide)).trans ((u2_nk (by decide)).trans ((u2_nk (by decide)).trans ((u2_nk (by decide)).trans ((u2_nk (by decide)).trans ((u2_nk (by decide)).trans ((u2_nk (by decide)).trans ((u2_nk (by decide)).trans ((u2_nk (by decide)).trans ((u2_nk (by decide)).trans rfl))))))))))))) ?_
  refine lv_iadd hx hb dX7_come_43 ?_
  refine st_m hx hb hB.1 hC hS hG.2.1 hv_r hn_r (k := 22) (by decide) (by unfold vp_in; decide) dX7_come_44 (fun H locs hC hS => ?_)
  refine lv_iinc (v := 23) (lv' := [(2, .int 23), (0, .ref (bd 3 r)), (1, .ref (bd 3 o))]) hx hb dX7_come_45 hl (k := 0) rfl (by decide) (by decide) rfl (fun ls hl => ?_)
  refine lv_goto (tgt := 30) hx hb dX7_come_48 (by decide) ?_
  refine lv_iload_n hx hb dX7_come_30 rfl (lv_at hl 0 rfl) ?_
  refine lv_bipush (v := 23) hx hb dX7_come_31 (by decide) ?_
  refine lv_icmp_ge (tgt := 51) hx hb dX7_come_33 (by decide) (fun _ => ?_) (fun c => absurd c (by decide))
  exact m_retv hx hb hr hG hC hS (mEq_of rfl) hlocks dX7_come_51
def fX7_lay (na nb nc nd T : Nat) (g : Md) (r : Nat) (o : Nat) (me : Int32) (mo : Int32) : Md := (u2 (u2 (u2 (fX7_come na nb nc nd T g r o) r 3 ((fX7_come na nb nc nd T g r o) o 3)) r 4 me) r 5 mo)
set_option maxRecDepth 100000 in
set_option maxHeartbeats 4000000 in
theorem kX7_lay (l : Launch) (D : va_G) (cy : Nat → ClassId) (e0 : Nat) {bd w : Nat → Nat → Nat} (g : Md) (S : Int64) (sz : Nat) (r : Nat) (hv_r : rV w r) (hn_r : rl w r = 23) (o : Nat) (hv_o : rV w o) (hn_o : rl w o = 23) (me : Int32) (mo : Int32) (hne : ¬ g r 0 + g o 0 = 0) : Met l yX7_lay wsX7_lay ({ frames := 2, cells := 0, slots := 0, locals := 45 } : Room) (va_Pc [.ref (bd 3 r), .ref (bd 3 o), .int me, .int mo] (mPre D cy e0 bd w g S sz)) (mQv D cy bd w (fX7_lay (w 0 0) (w 0 1) (w 0 2) (w 0 3) (w 0 4) g r o me mo) S sz) 0 0 (mA bd w sz) := by
  refine q_start (cc := cX7_lay) (maxL := 4) (ret := none) (own := RX7) (by decide) rfl rfl (Nat.le_of_ble_eq_true rfl) ?_
  intro p e s m below meth c hx hb hr hml hts hown hlocks ⟨hsz, hC, hB⟩ ls hl
  subst hsz
  have hS : va_S (mA bd w s.heap.size) s.heap s.heap [] := va_S.rf
  have hG : mG e0 bd w s.heap.size bd w := mG.rf hB.2.2.1
  have hw0 := hC.1
  have hl : lv_has ls 4 [(0, .ref (bd 3 r)), (1, .ref (bd 3 o)), (2, .int me), (3, .int mo)] := hl
  refine lv_aload_n hx hb dX7_lay_0 rfl (lv_at hl 0 rfl) ?_
  refine lv_aload_n hx hb dX7_lay_1 rfl (lv_at hl 1 rfl) ?_
  refine m_callSv (As := [.ref (bd 3 r), .ref (bd 3 o)])  ⟨hx, hb, hml, hown, hts⟩ (kX7_come l D cy e0 (bd := bd) (w := w) g S _ r hv_r hn_r o hv_o hn_o hne) (va_cwS 2 hts gX7_lay_X7_come rfl rfl rfl (by decide +kernel) ⟨Nat.le_of_ble_eq_true rfl, Nat.le_of_ble_eq_true rfl⟩) hB hG.2 hC hS rfl hl.1 (Nat.le_of_ble_eq_true rfl) dX7_lay_2 ⟨Nat.le_of_ble_eq_true rfl, Nat.le_of_ble_eq_true rfl⟩ (fun H locs hC hS => ?_)
  refine lv_aload_n hx hb dX7_lay_5 rfl (lv_at hl 0 rfl) ?_
  refine lv_iconst (v := 3) hx hb dX7_lay_6 (by decide) ?_
  refine lv_aload_n hx hb dX7_lay_7 rfl (lv_at hl 1 rfl) ?_
  refine lv_iconst (v := 3) hx hb dX7_lay_8 (by decide) ?_
  refine ld_m hx hb hB.1 hC hv_o hn_o (k := 3) (by decide) (by unfold vp_in; decide) dX7_lay_9 ?_
  refine st_m hx hb hB.1 hC hS hG.2.1 hv_r hn_r (k := 3) (by decide) (by unfold vp_in; decide) dX7_lay_10 (fun H locs hC hS => ?_)
  refine lv_aload_n hx hb dX7_lay_11 rfl (lv_at hl 0 rfl) ?_
  refine lv_iconst (v := 4) hx hb dX7_lay_12 (by decide) ?_
  refine lv_iload_n hx hb dX7_lay_13 rfl (lv_at hl 2 rfl) ?_
  refine st_m hx hb hB.1 hC hS hG.2.1 hv_r hn_r (k := 4) (by decide) (by unfold vp_in; decide) dX7_lay_14 (fun H locs hC hS => ?_)
  refine lv_aload_n hx hb dX7_lay_15 rfl (lv_at hl 0 rfl) ?_
  refine lv_iconst (v := 5) hx hb dX7_lay_16 (by decide) ?_
  refine lv_iload_n hx hb dX7_lay_17 rfl (lv_at hl 3 rfl) ?_
  refine st_m hx hb hB.1 hC hS hG.2.1 hv_r hn_r (k := 5) (by decide) (by unfold vp_in; decide) dX7_lay_18 (fun H locs hC hS => ?_)
  exact m_retv hx hb hr hG hC hS (mEq_of rfl) hlocks dX7_lay_19
def fX7_canBlend (na nb nc nd T : Nat) (g : Md) (r : Nat) (o : Nat) : Int32 := if (fX7_isIn na nb nc nd T g r) = 0 then (0) else (if (fX7_isIn na nb nc nd T g o) = 0 then (0) else (if (g r 4) = (g o 4) then (1) else (0)))
set_option maxRecDepth 100000 in
set_option maxHeartbeats 4000000 in
theorem kX7_canBlend (l : Launch) (D : va_G) (cy : Nat → ClassId) (e0 : Nat) {bd w : Nat → Nat → Nat} (g : Md) (S : Int64) (sz : Nat) (r : Nat) (hv_r : rV w r) (hn_r : rl w r = 23) (o : Nat) (hv_o : rV w o) (hn_o : rl w o = 23) : Met l yX7_canBlend wsX7_canBlend ({ frames := 1, cells := 0, slots := 0, locals := 20 } : Room) (va_Pc [.ref (bd 3 r), .ref (bd 3 o)] (mPre D cy e0 bd w g S sz)) (mQi D cy bd w (fX7_canBlend (w 0 0) (w 0 1) (w 0 2) (w 0 3) (w 0 4) g r o) g S sz) 0 0 (mA bd w sz) := by
  refine q_start (cc := cX7_canBlend) (maxL := 2) (ret := (some .boolean)) (own := RX7) (by decide) rfl rfl (Nat.le_of_ble_eq_true rfl) ?_
  intro p e s m below meth c hx hb hr hml hts hown hlocks ⟨hsz, hC, hB⟩ ls hl
  subst hsz
  have hS : va_S (mA bd w s.heap.size) s.heap s.heap [] := va_S.rf
  have hG : mG e0 bd w s.heap.size bd w := mG.rf hB.2.2.1
  have hw0 := hC.1
  have hl : lv_has ls 2 [(0, .ref (bd 3 r)), (1, .ref (bd 3 o))] := hl
  refine lv_aload_n hx hb dX7_canBlend_0 rfl (lv_at hl 0 rfl) ?_
  refine m_callSi (As := [.ref (bd 3 r)])  ⟨hx, hb, hml, hown, hts⟩ (kX7_isIn l D cy e0 (bd := bd) (w := w) g S _ r hv_r hn_r ) (va_cwS 1 hts gX7_canBlend_X7_isIn rfl rfl rfl (by decide +kernel) ⟨Nat.le_of_ble_eq_true rfl, Nat.le_of_ble_eq_true rfl⟩) hB hG.2 hC hS rfl hl.1 (Nat.le_of_ble_eq_true rfl) dX7_canBlend_1 ⟨Nat.le_of_ble_eq_true rfl, Nat.le_of_ble_eq_true rfl⟩ (fun H locs hC hS => ?_)
  refine lv_if_eq (tgt := 27) hx hb dX7_canBlend_4 (by decide) (fun c1 => ?_) (fun c1 => ?_)
  · skip
    refine lv_iconst (v := 0) hx hb dX7_canBlend_27 (by decide) ?_
    exact m_retz hx hb hr hG hC hS mEq_rf (by unfold fX7_canBlend; rw [if_pos c1]) rfl hlocks dX7_canBlend_28
  · skip
    refine lv_aload_n hx hb dX7_canBlend_7 rfl (lv_at hl 1 rfl) ?_
    refine m_callSi (As := [.ref (bd 3 o)])  ⟨hx, hb, hml, hown, hts⟩ (kX7_isIn l D cy e0 (bd := bd) (w := w) g S _ o hv_o hn_o ) (va_cwS 1 hts gX7_canBlend_X7_isIn rfl rfl rfl (by decide +kernel) ⟨Nat.le_of_ble_eq_true rfl, Nat.le_of_ble_eq_true rfl⟩) hB hG.2 hC hS rfl hl.1 (Nat.le_of_ble_eq_true rfl) dX7_canBlend_8 ⟨Nat.le_of_ble_eq_true rfl, Nat.le_of_ble_eq_true rfl⟩ (fun H locs hC hS => ?_)
    refine lv_if_eq (tgt := 27) hx hb dX7_canBlend_11 (by decide) (fun c2 => ?_) (fun c2 => ?_)
    · skip
      refine lv_iconst (v := 0) hx hb dX7_canBlend_27 (by decide) ?_
      exact m_retz hx hb hr hG hC hS mEq_rf (by unfold fX7_canBlend; rw [if_neg c1, if_pos c2]) rfl hlocks dX7_canBlend_28
    · skip
      refine lv_aload_n hx hb dX7_canBlend_14 rfl (lv_at hl 0 rfl) ?_
      refine lv_iconst (v := 4) hx hb dX7_canBlend_15 (by decide) ?_
      refine ld_m hx hb hB.1 hC hv_r hn_r (k := 4) (by decide) (by unfold vp_in; decide) dX7_canBlend_16 ?_
      refine lv_aload_n hx hb dX7_canBlend_17 rfl (lv_at hl 1 rfl) ?_
      refine lv_iconst (v := 4) hx hb dX7_canBlend_18 (by decide) ?_
      refine ld_m hx hb hB.1 hC hv_o hn_o (k := 4) (by decide) (by unfold vp_in; decide) dX7_canBlend_19 ?_
      refine lv_icmp_ne (tgt := 27) hx hb dX7_canBlend_20 (by decide) (fun c3 => ?_) (fun c3 => ?_)
      · skip
        refine lv_iconst (v := 0) hx hb dX7_canBlend_27 (by decide) ?_
        exact m_retz hx hb hr hG hC hS mEq_rf (by unfold fX7_canBlend; rw [if_neg c1, if_neg c2, if_neg c3]) rfl hlocks dX7_canBlend_28
      · skip
        refine lv_iconst (v := 1) hx hb dX7_canBlend_23 (by decide) ?_
        refine lv_goto (tgt := 28) hx hb dX7_canBlend_24 (by decide) ?_
        exact m_retz hx hb hr hG hC hS mEq_rf (by unfold fX7_canBlend; rw [if_neg c1, if_neg c2, if_pos c3]) rfl hlocks dX7_canBlend_28
def fX7_forget (na nb nc nd T : Nat) (g : Md) (x : Int32) : Md := (u2 (u2 (u2 g (340 + x.toNatClampNeg) 0 (-1)) (340 + x.toNatClampNeg) 1 (-1)) (340 + x.toNatClampNeg) 2 (-1))
theorem qX7_forget_w1 : Cond.fieldLink RX7 30 "CherryStationModel" "readings" "[[I" ∈ wsX7_forget := List.mem_of_getElem? (i := 1) rfl
theorem iX7_forget_X7 : ∀ w ∈ wsX70, w ∈ wsX7_forget := fun _ h => (List.mem_cons_of_mem _ (List.mem_append_right _ h))
set_option maxRecDepth 100000 in
set_option maxHeartbeats 4000000 in
theorem kX7_forget (l : Launch) (D : va_G) (cy : Nat → ClassId) (e0 : Nat) {bd w : Nat → Nat → Nat} (g : Md) (S : Int64) (sz : Nat) (x : Int32) (h12 : vp_in x 12) : Met l yX7_forget wsX7_forget ({ frames := 0, cells := 0, slots := 0, locals := 0 } : Room) (va_Pc [.ref (bd 0 0), .int x] (mPre D cy e0 bd w g S sz)) (mQv D cy bd w (fX7_forget (w 0 0) (w 0 1) (w 0 2) (w 0 3) (w 0 4) g x) S sz) 0 0 (mA bd w sz) := by
  refine q_start (cc := cX7_forget) (maxL := 3) (ret := none) (own := RX7) (by decide) rfl rfl (Nat.le_of_ble_eq_true rfl) ?_
  intro p e s m below meth c hx hb hr hml hts hown hlocks ⟨hsz, hC, hB⟩ ls hl
  subst hsz
  have hS : va_S (mA bd w s.heap.size) s.heap s.heap [] := va_S.rf
  have hG : mG e0 bd w s.heap.size bd w := mG.rf hB.2.2.1
  have hw0 := hC.1
  have hl : lv_has ls 3 [(0, .ref (bd 0 0)), (1, .int x)] := hl
  refine lv_iconst (v := 0) hx hb dX7_forget_0 (by decide) ?_
  refine lv_istore_n (lv' := [(2, .int 0), (0, .ref (bd 0 0)), (1, .int x)]) hx hb dX7_forget_1 rfl hl (by decide) rfl (fun ls hl => ?_)
  refine lv_iload_n hx hb dX7_forget_2 rfl (lv_at hl 0 rfl) ?_
  refine lv_iconst (v := 3) hx hb dX7_forget_3 (by decide) ?_
  refine lv_icmp_ge (tgt := 22) hx hb dX7_forget_4 (by decide) (fun c => absurd c (by decide)) (fun _ => ?_)
  refine lv_aload_n hx hb dX7_forget_7 rfl (lv_at hl 1 rfl) ?_
  refine gt_m0_6 hx hb hts iX7_forget_X7 hown hB.1 hC qX7_forget_w1 dX7_forget_8 ?_
  refine lv_iload_n hx hb dX7_forget_11 rfl (lv_at hl 2 rfl) ?_
  refine la_m5 hx hb hB.1 hC (k := x.toNatClampNeg) rfl h12 dX7_forget_12 ?_
  refine lv_iload_n hx hb dX7_forget_13 rfl (lv_at hl 0 rfl) ?_
  refine lv_iconst (v := (-1)) hx hb dX7_forget_14 (by decide) ?_
  refine st_m hx hb hB.1 hC hS hG.2.1 (rV_340 (vp_lt h12)) (rl_340 (vp_lt h12)) (k := 0) (by decide) (by unfold vp_in; decide) dX7_forget_15 (fun H locs hC hS => ?_)
  refine lv_iinc (v := 1) (lv' := [(2, .int 1), (0, .ref (bd 0 0)), (1, .int x)]) hx hb dX7_forget_16 hl (k := 0) rfl (by decide) (by decide) rfl (fun ls hl => ?_)
  refine lv_goto (tgt := 2) hx hb dX7_forget_19 (by decide) ?_
  refine lv_iload_n hx hb dX7_forget_2 rfl (lv_at hl 0 rfl) ?_
  refine lv_iconst (v := 3) hx hb dX7_forget_3 (by decide) ?_
  refine lv_icmp_ge (tgt := 22) hx hb dX7_forget_4 (by decide) (fun c => absurd c (by decide)) (fun _ => ?_)
  refine lv_aload_n hx hb dX7_forget_7 rfl (lv_at hl 1 rfl) ?_
  refine gt_m0_6 hx hb hts iX7_forget_X7 hown hB.1 hC qX7_forget_w1 dX7_forget_8 ?_
  refine lv_iload_n hx hb dX7_forget_11 rfl (lv_at hl 2 rfl) ?_
  refine la_m5 hx hb hB.1 hC (k := x.toNatClampNeg) rfl h12 dX7_forget_12 ?_
  refine lv_iload_n hx hb dX7_forget_13 rfl (lv_at hl 0 rfl) ?_
  refine lv_iconst (v := (-1)) hx hb dX7_forget_14 (by decide) ?_
  refine st_m hx hb hB.1 hC hS hG.2.1 (rV_340 (vp_lt h12)) (rl_340 (vp_lt h12)) (k := 1) (by decide) (by unfold vp_in; decide) dX7_forget_15 (fun H locs hC hS => ?_)
  refine lv_iinc (v := 2) (lv' := [(2, .int 2), (0, .ref (bd 0 0)), (1, .int x)]) hx hb dX7_forget_16 hl (k := 0) rfl (by decide) (by decide) rfl (fun ls hl => ?_)
  refine lv_goto (tgt := 2) hx hb dX7_forget_19 (by decide) ?_
  refine lv_iload_n hx hb dX7_forget_2 rfl (lv_at hl 0 rfl) ?_
  refine lv_iconst (v := 3) hx hb dX7_forget_3 (by decide) ?_
  refine lv_icmp_ge (tgt := 22) hx hb dX7_forget_4 (by decide) (fun c => absurd c (by decide)) (fun _ => ?_)
  refine lv_aload_n hx hb dX7_forget_7 rfl (lv_at hl 1 rfl) ?_
  refine gt_m0_6 hx hb hts iX7_forget_X7 hown hB.1 hC qX7_forget_w1 dX7_forget_8 ?_
  refine lv_iload_n hx hb dX7_forget_11 rfl (lv_at hl 2 rfl) ?_
  refine la_m5 hx hb hB.1 hC (k := x.toNatClampNeg) rfl h12 dX7_forget_12 ?_
  refine lv_iload_n hx hb dX7_forget_13 rfl (lv_at hl 0 rfl) ?_
  refine lv_iconst (v := (-1)) hx hb dX7_forget_14 (by decide) ?_
  refine st_m hx hb hB.1 hC hS hG.2.1 (rV_340 (vp_lt h12)) (rl_340 (vp_lt h12)) (k := 2) (by decide) (by unfold vp_in; decide) dX7_forget_15 (fun H locs hC hS => ?_)
  refine lv_iinc (v := 3) (lv' := [(2, .int 3), (0, .ref (bd 0 0)), (1, .int x)]) hx hb dX7_forget_16 hl (k := 0) rfl (by decide) (by decide) rfl (fun ls hl => ?_)
  refine lv_goto (tgt := 2) hx hb dX7_forget_19 (by decide) ?_
  refine lv_iload_n hx hb dX7_forget_2 rfl (lv_at hl 0 rfl) ?_
  refine lv_iconst (v := 3) hx hb dX7_forget_3 (by decide) ?_
  refine lv_icmp_ge (tgt := 22) hx hb dX7_forget_4 (by decide) (fun _ => ?_) (fun c => absurd c (by decide))
  exact m_retv hx hb hr hG hC hS (mEq_of rfl) hlocks dX7_forget_22
def fX7_price (na nb nc nd T : Nat) (g : Md) (x : Int32) : Int32 × Md := if (fX7_is x 1 50) = 0 then (((fX7_refuse na nb nc nd T (u2 g 0 20 0) 1).1, (fX7_refuse na nb nc nd T (u2 g 0 20 0) 1).2)) else ((g 0 2, (u2 (u2 g 0 20 0) 0 2 x)))
theorem qX7_price_w1 : Cond.fieldLink RX7 41 "CherryStationModel" "thrown" "I" ∈ wsX7_price := List.mem_of_getElem? (i := 1) rfl
theorem qX7_price_w2 : Cond.fieldLink RX7 37 "CherryStationModel" "price" "I" ∈ wsX7_price := List.mem_of_getElem? (i := 2) rfl
theorem iX7_price_X7 : ∀ w ∈ wsX70, w ∈ wsX7_price := fun _ h => (List.mem_cons_of_mem _ (List.mem_append_right _ h))
set_option maxRecDepth 100000 in
set_option maxHeartbeats 4000000 in
theorem kX7_price (l : Launch) (D : va_G) (cy : Nat → ClassId) (e0 : Nat) {bd w : Nat → Nat → Nat} (g : Md) (S : Int64) (sz : Nat) (x : Int32) : Met l yX7_price wsX7_price ({ frames := 1, cells := 0, slots := 0, locals := 22 } : Room) (va_Pc [.ref (bd 0 0), .int x] (mPre D cy e0 bd w g S sz)) (mQi D cy bd w (fX7_price (w 0 0) (w 0 1) (w 0 2) (w 0 3) (w 0 4) g x).1 (fX7_price (w 0 0) (w 0 1) (w 0 2) (w 0 3) (w 0 4) g x).2 S sz) 0 0 (mA bd w sz) := by
  refine q_start (cc := cX7_price) (maxL := 3) (ret := (some .int)) (own := RX7) (by decide) rfl rfl (Nat.le_of_ble_eq_true rfl) ?_
  intro p e s m below meth c hx hb hr hml hts hown hlocks ⟨hsz, hC, hB⟩ ls hl
  subst hsz
  have hS : va_S (mA bd w s.heap.size) s.heap s.heap [] := va_S.rf
  have hG : mG e0 bd w s.heap.size bd w := mG.rf hB.2.2.1
  have hw0 := hC.1
  have hl : lv_has ls 3 [(0, .ref (bd 0 0)), (1, .int x)] := hl
  refine lv_aload_n hx hb dX7_price_0 rfl (lv_at hl 0 rfl) ?_
  refine lv_iconst (v := 0) hx hb dX7_price_1 (by decide) ?_
  refine pt_m0_0 hx hb hts iX7_price_X7 hown hB.1 hC hS hG.2.1 qX7_price_w1 dX7_price_2 (fun H locs hC hS => ?_)
  refine lv_iload_n hx hb dX7_price_5 rfl (lv_at hl 1 rfl) ?_
  refine lv_iconst (v := 1) hx hb dX7_price_6 (by decide) ?_
  refine lv_bipush (v := 50) hx hb dX7_price_7 (by decide) ?_
  refine m_callSi (As := [.int x, .int 1, .int 50])  ⟨hx, hb, hml, hown, hts⟩ (kX7_is l D cy e0 (bd := bd) (w := w) (u2 g 0 20 0) S _ x 1 50 ) (va_cwS 3 hts gX7_price_X7_is rfl rfl rfl (by decide +kernel) ⟨Nat.le_of_ble_eq_true rfl, Nat.le_of_ble_eq_true rfl⟩) hB hG.2 hC hS rfl hl.1 (Nat.le_of_ble_eq_true rfl) dX7_price_9 ⟨Nat.le_of_ble_eq_true rfl, Nat.le_of_ble_eq_true rfl⟩ (fun H locs hC hS => ?_)
  refine lv_if_ne (tgt := 21) hx hb dX7_price_12 (by decide) (fun c1 => ?_) (fun c1 => ?_)
  · skip
    refine lv_aload_n hx hb dX7_price_21 rfl (lv_at hl 0 rfl) ?_
    refine gt_m0_10 hx hb hts iX7_price_X7 hown hB.1 hC qX7_price_w2 dX7_price_22 ?_
    refine q_val (v := g 0 2) ((u2_nk (by decide)).trans rfl) ?_
    refine lv_istore_n (lv' := [(2, .int (g 0 2)), (0, .ref (bd 0 0)), (1, .int x)]) hx hb dX7_price_25 rfl hl (by decide) rfl (fun ls hl => ?_)
    refine lv_aload_n hx hb dX7_price_26 rfl (lv_at hl 1 rfl) ?_
    refine lv_iload_n hx hb dX7_price_27 rfl (lv_at hl 2 rfl) ?_
    refine pt_m0_10 hx hb hts iX7_price_X7 hown hB.1 hC hS hG.2.1 qX7_price_w2 dX7_price_28 (fun H locs hC hS => ?_)
    refine lv_iload_n hx hb dX7_price_31 rfl (lv_at hl 0 rfl) ?_
    have e9 : fX7_price (w 0 0) (w 0 1) (w 0 2) (w 0 3) (w 0 4) g x = (g 0 2, (u2 (u2 g 0 20 0) 0 2 x)) := (by unfold fX7_price; rw [if_neg c1])
    exact m_reti hx hb hr hG hC hS (mEq_of (by rw [e9])) (by rw [e9]) hlocks dX7_price_32
  · skip
    refine lv_aload_n hx hb dX7_price_15 rfl (lv_at hl 0 rfl) ?_
    refine lv_iconst (v := 1) hx hb dX7_price_16 (by decide) ?_
    refine m_callVi (As := [.int 1]) (κ := 0) (i := 0) rfl rfl ⟨_, rfl⟩ rfl ⟨hx, hb, hml, hown, hts⟩ (kX7_refuse l D cy e0 (bd := bd) (w := w) (u2 g 0 20 0) S _ 1 ) (cwV 1 hts gX7_price_X7_refuse rfl rfl rfl (by decide +kernel) ⟨Nat.le_of_ble_eq_true rfl, Nat.le_of_ble_eq_true rfl⟩) hB hG.2 hC hS rfl hl.1 (Nat.le_of_ble_eq_true rfl) dX7_price_17 ⟨Nat.le_of_ble_eq_true rfl, Nat.le_of_ble_eq_true rfl⟩ (fun H locs hC hS => ?_)
    have e9 : fX7_price (w 0 0) (w 0 1) (w 0 2) (w 0 3) (w 0 4) g x = ((fX7_refuse (w 0 0) (w 0 1) (w 0 2) (w 0 3) (w 0 4) (u2 g 0 20 0) 1).1, (fX7_refuse (w 0 0) (w 0 1) (w 0 2) (w 0 3) (w 0 4) (u2 g 0 20 0) 1).2) := (by unfold fX7_price; rw [if_pos c1])
    exact m_reti hx hb hr hG hC hS (mEq_of (by rw [e9])) (by rw [e9]) hlocks dX7_price_20
def fX7_bias (na nb nc nd T : Nat) (g : Md) (x : Int32) (v : Int32) : Int32 × Md := if (fX7_isTaster x) = 0 then (((fX7_refuse na nb nc nd T (u2 g 0 20 0) 1).1, (fX7_refuse na nb nc nd T (u2 g 0 20 0) 1).2)) else (if (fX7_is v (-5) 5) = 0 then (((fX7_refuse na nb nc nd T (u2 g 0 20 0) 2).1, (fX7_refuse na nb nc nd T (u2 g 0 20 0) 2).2)) else ((g 360 x.toNatClampNeg, (u2 (u2 g 0 20 0) 360 x.toNatClampNeg v))))
theorem qX7_bias_w1 : Cond.fieldLink RX7 41 "CherryStationModel" "thrown" "I" ∈ wsX7_bias := List.mem_of_getElem? (i := 1) rfl
theorem qX7_bias_w2 : Cond.fieldLink RX7 33 "CherryStationModel" "biases" "[I" ∈ wsX7_bias := List.mem_of_getElem? (i := 2) rfl
theorem iX7_bias_X7 : ∀ w ∈ wsX70, w ∈ wsX7_bias := fun _ h => (List.mem_cons_of_mem _ (List.mem_append_right _ h))
set_option maxRecDepth 100000 in
set_option maxHeartbeats 4000000 in
theorem kX7_bias (l : Launch) (D : va_G) (cy : Nat → ClassId) (e0 : Nat) {bd w : Nat → Nat → Nat} (g : Md) (S : Int64) (sz : Nat) (x : Int32) (v : Int32) : Met l yX7_bias wsX7_bias ({ frames := 2, cells := 0, slots := 0, locals := 42 } : Room) (va_Pc [.ref (bd 0 0), .int x, .int v] (mPre D cy e0 bd w g S sz)) (mQi D cy bd w (fX7_bias (w 0 0) (w 0 1) (w 0 2) (w 0 3) (w 0 4) g x v).1 (fX7_bias (w 0 0) (w 0 1) (w 0 2) (w 0 3) (w 0 4) g x v).2 S sz) 0 0 (mA bd w sz) := by
  refine q_start (cc := cX7_bias) (maxL := 4) (ret := (some .int)) (own := RX7) (by decide) rfl rfl (Nat.le_of_ble_eq_true rfl) ?_
  intro p e s m below meth c hx hb hr hml hts hown hlocks ⟨hsz, hC, hB⟩ ls hl
  subst hsz
  have hS : va_S (mA bd w s.heap.size) s.heap s.heap [] := va_S.rf
  have hG : mG e0 bd w s.heap.size bd w := mG.rf hB.2.2.1
  have hw0 := hC.1
  have hl : lv_has ls 4 [(0, .ref (bd 0 0)), (1, .int x), (2, .int v)] := hl
  refine lv_aload_n hx hb dX7_bias_0 rfl (lv_at hl 0 rfl) ?_
  refine lv_iconst (v := 0) hx hb dX7_bias_1 (by decide) ?_
  refine pt_m0_0 hx hb hts iX7_bias_X7 hown hB.1 hC hS hG.2.1 qX7_bias_w1 dX7_bias_2 (fun H locs hC hS => ?_)
  refine lv_iload_n hx hb dX7_bias_5 rfl (lv_at hl 1 rfl) ?_
  refine m_callSi (As := [.int x])  ⟨hx, hb, hml, hown, hts⟩ (kX7_isTaster l D cy e0 (bd := bd) (w := w) (u2 g 0 20 0) S _ x ) (va_cwS 1 hts gX7_bias_X7_isTaster rfl rfl rfl (by decide +kernel) ⟨Nat.le_of_ble_eq_true rfl, Nat.le_of_ble_eq_true rfl⟩) hB hG.2 hC hS rfl hl.1 (Nat.le_of_ble_eq_true rfl) dX7_bias_6 ⟨Nat.le_of_ble_eq_true rfl, Nat.le_of_ble_eq_true rfl⟩ (fun H locs hC hS => ?_)
  refine lv_if_ne (tgt := 18) hx hb dX7_bias_9 (by decide) (fun c1 => ?_) (fun c1 => ?_)
  · skip
    refine lv_iload_n hx hb dX7_bias_18 rfl (lv_at hl 2 rfl) ?_
    refine lv_bipush (v := (-5)) hx hb dX7_bias_19 (by decide) ?_
    refine lv_iconst (v := 5) hx hb dX7_bias_21 (by decide) ?_
    refine m_callSi (As := [.int v, .int (-5), .int 5])  ⟨hx, hb, hml, hown, hts⟩ (kX7_is l D cy e0 (bd := bd) (w := w) (u2 g 0 20 0) S _ v (-5) 5 ) (va_cwS 3 hts gX7_bias_X7_is rfl rfl rfl (by decide +kernel) ⟨Nat.le_of_ble_eq_true rfl, Nat.le_of_ble_eq_true rfl⟩) hB hG.2 hC hS rfl hl.1 (Nat.le_of_ble_eq_true rfl) dX7_bias_22 ⟨Nat.le_of_ble_eq_true rfl, Nat.le_of_ble_eq_true rfl⟩ (fun H locs hC hS => ?_)
    refine lv_if_ne (tgt := 34) hx hb dX7_bias_25 (by decide) (fun c2 => ?_) (fun c2 => ?_)
    · skip
      refine lv_aload_n hx hb dX7_bias_34 rfl (lv_at hl 0 rfl) ?_
      refine gt_m0_7 hx hb hts iX7_bias_X7 hown hB.1 hC qX7_bias_w2 dX7_bias_35 ?_
      refine lv_iload_n hx hb dX7_bias_38 rfl (lv_at hl 1 rfl) ?_
      refine ld_m hx hb hB.1 hC rV_360 rl_360 (k := x.toNatClampNeg) rfl (isTaster_in c1) dX7_bias_39 ?_
      refine q_val (v := g 360 x.toNatClampNeg) ((u2_nr (by decide)).trans rfl) ?_
      refine lv_istore_n (lv' := [(3, .int (g 360 x.toNatClampNeg)), (0, .ref (bd 0 0)), (1, .int x), (2, .int v)]) hx hb dX7_bias_40 rfl hl (by decide) rfl (fun ls hl => ?_)
      refine lv_aload_n hx hb dX7_bias_41 rfl (lv_at hl 1 rfl) ?_
      refine gt_m0_7 hx hb hts iX7_bias_X7 hown hB.1 hC qX7_bias_w2 dX7_bias_42 ?_
      refine lv_iload_n hx hb dX7_bias_45 rfl (lv_at hl 2 rfl) ?_
      refine lv_iload_n hx hb dX7_bias_46 rfl (lv_at hl 3 rfl) ?_
      refine st_m hx hb hB.1 hC hS hG.2.1 rV_360 rl_360 (k := x.toNatClampNeg) rfl (isTaster_in c1) dX7_bias_47 (fun H locs hC hS => ?_)
      refine lv_iload_n hx hb dX7_bias_48 rfl (lv_at hl 0 rfl) ?_
      have e9 : fX7_bias (w 0 0) (w 0 1) (w 0 2) (w 0 3) (w 0 4) g x v = (g 360 x.toNatClampNeg, (u2 (u2 g 0 20 0) 360 x.toNatClampNeg v)) := (by unfold fX7_bias; rw [if_neg c1, if_neg c2])
      exact m_reti hx hb hr hG hC hS (mEq_of (by rw [e9])) (by rw [e9]) hlocks dX7_bias_49
    · skip
      refine lv_aload_n hx hb dX7_bias_28 rfl (lv_at hl 0 rfl) ?_
      refine lv_iconst (v := 2) hx hb dX7_bias_29 (by decide) ?_
      refine m_callVi (As := [.int 2]) (κ := 0) (i := 0) rfl rfl ⟨_, rfl⟩ rfl ⟨hx, hb, hml, hown, hts⟩ (kX7_refuse l D cy e0 (bd := bd) (w := w) (u2 g 0 20 0) S _ 2 ) (cwV 1 hts gX7_bias_X7_refuse rfl rfl rfl (by decide +kernel) ⟨Nat.le_of_ble_eq_true rfl, Nat.le_of_ble_eq_true rfl⟩) hB hG.2 hC hS rfl hl.1 (Nat.le_of_ble_eq_true rfl) dX7_bias_30 ⟨Nat.le_of_ble_eq_true rfl, Nat.le_of_ble_eq_true rfl⟩ (fun H locs hC hS => ?_)
      have e9 : fX7_bias (w 0 0) (w 0 1) (w 0 2) (w 0 3) (w 0 4) g x v = ((fX7_refuse (w 0 0) (w 0 1) (w 0 2) (w 0 3) (w 0 4) (u2 g 0 20 0) 2).1, (fX7_refuse (w 0 0) (w 0 1) (w 0 2) (w 0 3) (w 0 4) (u2 g 0 20 0) 2).2) := (by unfold fX7_bias; rw [if_neg c1, if_pos c2])
      exact m_reti hx hb hr hG hC hS (mEq_of (by rw [e9])) (by rw [e9]) hlocks dX7_bias_33
  · skip
    refine lv_aload_n hx hb dX7_bias_12 rfl (lv_at hl 0 rfl) ?_
    refine lv_iconst (v := 1) hx hb dX7_bias_13 (by decide) ?_
    refine m_callVi (As := [.int 1]) (κ := 0) (i := 0) rfl rfl ⟨_, rfl⟩ rfl ⟨hx, hb, hml, hown, hts⟩ (kX7_refuse l D cy e0 (bd := bd) (w := w) (u2 g 0 20 0) S _ 1 ) (cwV 1 hts gX7_bias_X7_refuse rfl rfl rfl (by decide +kernel) ⟨Nat.le_of_ble_eq_true rfl, Nat.le_of_ble_eq_true rfl⟩) hB hG.2 hC hS rfl hl.1 (Nat.le_of_ble_eq_true rfl) dX7_bias_14 ⟨Nat.le_of_ble_eq_true rfl, Nat.le_of_ble_eq_true rfl⟩ (fun H locs hC hS => ?_)
    have e9 : fX7_bias (w 0 0) (w 0 1) (w 0 2) (w 0 3) (w 0 4) g x v = ((fX7_refuse (w 0 0) (w 0 1) (w 0 2) (w 0 3) (w 0 4) (u2 g 0 20 0) 1).1, (fX7_refuse (w 0 0) (w 0 1) (w 0 2) (w 0 3) (w 0 4) (u2 g 0 20 0) 1).2) := (by unfold fX7_bias; rw [if_pos c1])
    exact m_reti hx hb hr hG hC hS (mEq_of (by rw [e9])) (by rw [e9]) hlocks dX7_bias_17
