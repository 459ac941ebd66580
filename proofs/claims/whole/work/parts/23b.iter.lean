/-! ===== the lists' iterators ===== -/
section IT
variable {p : Program} {l : Launch} {e : Env} {R : Room} {s : State} {m : MethodId} {args : Array Value} {below : List Frame} {meth : Method} {c : Code} {H : Heap} {locs : List Loc} {cells slots : Nat} {Q : State → Prop}
variable {cc : ByteArray} {pc : Nat} {ls : Array Slot} {rest : List Value} {D : va_G} {cy : Nat → ClassId} {e0 : Nat} {bd w bd1 w1 : Nat → Nat → Nat} {mm m2 : Md} {S S2 : Int64}
variable {Ts ws ws' : List Cond} {bytes : ByteArray} {nL maxL index n mc ms : Nat} {own : String} {y : MethodName} {ret : Option FieldType} {rm : Room}

theorem wI_0 {x li k : Nat} (h : li < 4) : wI w x k 0 li = w 0 li := by
  unfold wI
  rw [if_neg (by omega), if_neg (by omega), if_neg (by omega), if_neg (by omega)]
theorem wI_3 {li k : Nat} : wI w li k 3 (w 0 5) = li := by
  unfold wI
  rw [if_neg (by omega), if_pos ⟨rfl, rfl⟩]
theorem wI_4 {li k : Nat} : wI w li k 4 (w 0 5) = k := by
  unfold wI
  rw [if_neg (by omega), if_neg (by omega), if_pos ⟨rfl, rfl⟩]
theorem wI_5 {li k : Nat} : wI w li k 5 (w 0 5) = w 6 li := by
  unfold wI
  rw [if_neg (by omega), if_neg (by omega), if_neg (by omega), if_pos ⟨rfl, rfl⟩]
theorem wI_o {li k a i : Nat} (h : i ≠ w 0 5) (ha : a = 3 ∨ a = 4 ∨ a = 5) : wI w li k a i = w a i := by
  unfold wI
  rw [if_neg (by omega), if_neg (by omega), if_neg (by omega), if_neg (by omega)]
def mNI (bd w bd2 : Nat → Nat → Nat) (a sz : Nat) : Prop := (∀ κ i, mV w κ i → bd2 κ i = bd κ i) ∧ (∀ i, bd2 2 i = bd 2 i) ∧ bd2 6 (w 0 5) = a ∧ sz ≤ a
theorem wI_V {li k κ i : Nat} (h : mV (wI w li k) κ i) : mV w κ i ∨ (κ = 6 ∧ i = w 0 5) := by
  match κ, h with
  | 0, h => exact Or.inl h
  | 1, h => exact Or.inl h
  | 2, h =>
    have h : i < 4 ∧ 0 < wI w li k 0 i := h
    refine Or.inl ⟨h.1, ?_⟩
    have h2 := h.2
    unfold wI at h2
    rw [if_neg (by omega), if_neg (by omega), if_neg (by omega), if_neg (by omega)] at h2
    exact h2
  | 3, h => exact Or.inl h
  | 4, h => exact Or.inl h
  | 5, h => exact Or.inl h
  | 6, h =>
    have h : i < w 0 5 + 1 := h
    rcases Nat.lt_or_ge i (w 0 5) with q | q
    · exact Or.inl q
    · exact Or.inr ⟨rfl, by omega⟩
theorem wI_mD {li k : Nat} {bd2 : Nat → Nat → Nat} (E : ∀ κ i, mV w κ i → bd2 κ i = bd κ i) (E2 : ∀ i, bd2 2 i = bd 2 i) : mD bd w bd2 (wI w li k) := by
  refine ⟨fun κ i h => ⟨?_, E κ i h⟩, fun i hi => ?_, fun i => ?_, fun t ht => ?_, fun t ht => ⟨?_, ?_, ?_⟩, ?_, E2, fun i => ?_⟩
  · match κ, h with
    | 0, h => exact h
    | 1, h => exact h
    | 2, h =>
      have h : i < 4 ∧ 0 < w 0 i := h
      refine ⟨h.1, ?_⟩
      unfold wI
      rw [if_neg (by omega), if_neg (by omega), if_neg (by omega), if_neg (by omega)]
      exact h.2
    | 3, h => exact h
    | 4, h => exact h
    | 5, h => exact h
    | 6, h =>
      have h : i < w 0 5 := h
      show i < w 0 5 + 1
      omega
  · unfold wI; rw [if_neg (by omega), if_neg (by omega), if_neg (by omega), if_neg (by omega)]
  · unfold wI; rw [if_neg (by omega), if_neg (by omega), if_neg (by omega), if_neg (by omega)]
  · unfold wI; rw [if_neg (by omega), if_neg (by omega), if_neg (by omega), if_neg (by omega)]
  · exact wI_o (by omega) (by omega)
  · exact wI_o (by omega) (by omega)
  · exact wI_o (by omega) (by omega)
  · exact Nat.le_refl _
  · unfold wI; rw [if_neg (by omega), if_neg (by omega), if_neg (by omega), if_neg (by omega)]
theorem mG.itr {e0 sz a sz2 : Nat} {bd2 : Nat → Nat → Nat} (h : mG e0 bd w sz bd1 w1) (hN : mNI bd1 w1 bd2 a sz2) (hz : sz ≤ sz2) : mG e0 bd w sz bd2 w1 ∧ ∀ li k, mG e0 bd w sz bd2 (wI w1 li k) := by
  have hD : mD bd1 w1 bd2 w1 := ⟨fun κ i q => ⟨q, hN.1 κ i q⟩, fun _ _ => rfl, fun _ => rfl, fun _ _ => rfl, fun _ _ => ⟨rfl, rfl, rfl⟩, Nat.le_refl _, hN.2.1, fun _ => rfl⟩
  refine ⟨⟨h.1.tr hD, fun κ i hv => by rw [hN.1 κ i hv]; exact h.2.1 κ i hv, hD.mE h.2.2⟩, fun li k => ?_⟩
  have hD2 := wI_mD (li := li) (k := k) hN.1 hN.2.1
  refine ⟨h.1.tr hD2, fun κ i hv => ?_, hD2.mE h.2.2⟩
  rcases wI_V hv with q | ⟨rfl, rfl⟩
  · rw [hN.1 κ i q]; exact h.2.1 κ i q
  · rw [hN.2.2.1]; exact Or.inr (Nat.le_trans hz hN.2.2.2)
/-- behind the loop over a list: without its iterator -/
theorem MW.unI {li k : Nat} (h : MW D cy bd (wI w li k) mm S H) : MW D cy bd w mm S H := h.drop (wI_mD (fun _ _ _ => rfl) (fun _ => rfl)) mEq_rf
theorem mS_wI {li k κ i : Nat} (hD : mD bd w bd1 (wI w li k)) (hwB : wB w) (hc4 : ∀ i, i < w 0 5 → w 3 i < 4) (hv : mV w κ i) : mS cy bd1 (wI w li k) mm S κ i = mS cy bd w mm S κ i := mS_eq hwB hc4 hD mEq_rf hv
/-- an iterator among the world's cells -/
theorem MW.newI {li b : Nat} {H1 : Heap} (hM : MW D cy bd w mm S H) (hli : li < 4) (hat : va_at D vwCl (b, .inr (0, [.int (nI 0), .int (nI 0 - 1), .int (nI (w 6 li)), .ref (bd 1 li)])) H1) (hb : ∀ κ i, mV w κ i → bd κ i ≠ b) (hk : ∀ κ i, mV w κ i → H1[bd κ i]? = H[bd κ i]?) : ∃ bd2 : Nat → Nat → Nat, (∀ κ i, mV w κ i → bd2 κ i = bd κ i) ∧ (∀ i, bd2 2 i = bd 2 i) ∧ bd2 6 (w 0 5) = b ∧ MW D cy bd2 (wI w li 0) mm S H1 := by
  have hno : ∀ κ i, mV w κ i → ¬ (κ = 6 ∧ i = w 0 5) := by
    rintro κ i hv ⟨rfl, rfl⟩
    exact Nat.lt_irrefl _ (show w 0 5 < w 0 5 from hv)
  refine ⟨fun κ i => if κ = 6 ∧ i = w 0 5 then b else bd κ i, fun κ i hv => if_neg (hno κ i hv), fun i => if_neg (by omega), if_pos ⟨rfl, rfl⟩, ?_⟩
  have E : ∀ κ i, mV w κ i → (fun κ i => if κ = 6 ∧ i = w 0 5 then b else bd κ i) κ i = bd κ i := fun κ i hv => if_neg (hno κ i hv)
  have hD := wI_mD (li := li) (k := 0) E (fun i => if_neg (by omega))
  obtain ⟨hw, hI, ⟨hc1, hc2, hc3⟩, hC⟩ := hM
  refine ⟨hw, ?_, ⟨fun i hi h => ?_, fun i => ?_, fun i hi => ?_⟩, ?_⟩
  · intro κ i κ' i' h h' e
    rcases wI_V h with h | ⟨rfl, rfl⟩ <;> rcases wI_V h' with h' | ⟨rfl, rfl⟩
    · rw [E _ _ h, E _ _ h'] at e
      exact hI _ _ _ _ h h' e
    · rw [E _ _ h] at e
      exact absurd (e.trans (if_pos ⟨rfl, rfl⟩)) (hb κ i h)
    · rw [E _ _ h'] at e
      exact absurd (e.symm.trans (if_pos ⟨rfl, rfl⟩)) (hb κ' i' h')
    · exact ⟨rfl, rfl⟩
  · rw [hD.2.1 i hi] at h ⊢
    rw [hD.2.2.1 i]
    exact hc1 i hi h
  · rw [hD.2.2.1 i]; exact hc2 i
  · have hi : i < w 0 5 + 1 := hi
    by_cases q : i = w 0 5
    · rw [q, wI_3]; exact hli
    · rw [wI_o q (Or.inl rfl)]; exact hc3 i (by omega)
  · intro κ i hv
    rcases wI_V hv with h | ⟨rfl, rfl⟩
    · have e := mS_wI (cy := cy) (S := S) (mm := mm) hD hw hc3 h
      rw [e, E κ i h]
      exact (hC κ i h).kept (hk κ i h)
    · have e : mS cy (fun κ i => if κ = 6 ∧ i = w 0 5 then b else bd κ i) (wI w li 0) mm S 6 (w 0 5) = .inr (0, [.int (nI 0), .int (nI 0 - 1), .int (nI (w 6 li)), .ref (bd 1 li)]) := by
        simp only [mS, wI_3, wI_4, wI_5, E 1 li hli]
      rw [e]
      show va_at D vwCl ((if 6 = 6 ∧ w 0 5 = w 0 5 then b else bd 6 (w 0 5)), _) H1
      rw [if_pos ⟨rfl, rfl⟩]
      exact hat
/-- the cursor one further -/
theorem MW.nextI {li k : Nat} {H1 : Heap} (hM : MW D cy bd (wI w li k) mm S H) (hat : va_at D vwCl (bd 6 (w 0 5), .inr (0, [.int (nI (k + 1)), .int (nI k), .int (nI (w 6 li)), .ref (bd 1 li)])) H1) (hk : ∀ q, q ≠ bd 6 (w 0 5) → H1[q]? = H[q]?) : MW D cy bd (wI w li (k + 1)) mm S H1 := by
  have h1 := hM
  have h0 : MW D cy bd w mm S H := hM.unI
  obtain ⟨hw, hI, ⟨hc1, hc2, hc3⟩, hC⟩ := hM
  refine ⟨hw, hI, ⟨hc1, hc2, fun i hi => ?_⟩, ?_⟩
  · have hi' : i < w 0 5 + 1 := hi
    have h := hc3 i hi
    by_cases q : i = w 0 5
    · rw [q, wI_3] at h; rw [q, wI_3]; exact h
    · rw [wI_o q (Or.inl rfl)] at h; rw [wI_o q (Or.inl rfl)]; exact h
  · intro κ i hv
    rcases wI_V hv with h | ⟨rfl, rfl⟩
    · rw [mS_wI (wI_mD (fun _ _ _ => rfl) (fun _ => rfl)) h0.1 h0.2.2.1.2.2 h]
      refine (h0.2.2.2 κ i h).kept (hk _ (fun e => ?_))
      have hv2 : mV (wI w li k) 6 (w 0 5) := show w 0 5 < w 0 5 + 1 by omega
      have hv3 : mV (wI w li k) κ i := ((wI_mD (li := li) (k := k) (bd := bd) (bd2 := bd) (fun _ _ _ => rfl) (fun _ => rfl)).1 κ i h).1
      obtain ⟨rfl, rfl⟩ := hI _ _ _ _ hv3 hv2 e
      exact Nat.lt_irrefl _ (show w 0 5 < w 0 5 from h)
    · have e : mS cy bd (wI w li (k + 1)) mm S 6 (w 0 5) = .inr (0, [.int (nI (k + 1)), .int (nI k), .int (nI (w 6 li)), .ref (bd 1 li)]) := by
        simp only [mS, wI_3, wI_4, wI_5, nI_succ]
        congr 4
        exact congrArg Value.int (by rw [Int32.add_sub_cancel])
      rw [e]
      exact hat
end IT
theorem it_v {w : Nat → Nat → Nat} {li k : Nat} : mV (wI w li k) 6 (w 0 5) := show w 0 5 < w 0 5 + 1 by omega
section IA
variable {p : Program} {l : Launch} {e : Env} {R : Room} {s : State} {m : MethodId} {args : Array Value} {below : List Frame} {meth : Method} {c : Code} {H : Heap} {locs : List Loc} {cells slots : Nat} {Q : State → Prop}
variable {cc : ByteArray} {pc : Nat} {ls : Array Slot} {rest : List Value} {D : va_G} {cy : Nat → ClassId} {e0 : Nat} {bd w bd1 w1 : Nat → Nat → Nat} {mm m2 : Md} {S S2 : Int64}
variable {Ts ws ws' : List Cond} {bytes : ByteArray} {nL maxL index n mc ms : Nat} {own : String} {y : MethodName} {ret : Option FieldType} {rm : Room}

theorem it_at {li k : Nat} (hM : MW D cy bd (wI w li k) mm S H) : va_at D vwCl (bd 6 (w 0 5), .inr (0, [.int (nI k), .int (nI k - 1), .int (nI (w 6 li)), .ref (bd 1 li)])) H := by
  have h := hM.2.2.2 6 (w 0 5) it_v
  simp only [mS, wI_3, wI_4, wI_5] at h
  exact h
theorem it_cap {li k : Nat} (hM : MW D cy bd (wI w li k) mm S H) (hli : li < 4) (hk : k < w 0 li) : nI k < nI (w 1 li) := by
  have h := hM.unI
  have h1 := h.2.2.1.1 li hli (by omega)
  have h2 := h.2.2.1.2.1 li
  exact nI_lt (by omega) (by omega)
end IA
theorem qJx35411_hasNext_aae02_w1 : Cond.fieldLink RJx35411 25 "java/util/ArrayList$Itr" "cursor" "I" ∈ wsJx35411_hasNext_aae02 := List.mem_of_getElem? (i := 1) rfl
theorem qJx35411_hasNext_aae02_w2 : Cond.fieldLink RJx35411 1 "java/util/ArrayList$Itr" "this$0" "Ljava/util/ArrayList;" ∈ wsJx35411_hasNext_aae02 := List.mem_of_getElem? (i := 2) rfl
theorem iJx35411_hasNext_aae02_Jx35411 : ∀ w ∈ wsJx354110, w ∈ wsJx35411_hasNext_aae02 := fun _ h => (List.mem_cons_of_mem _ (List.mem_append_left _ (List.mem_append_right _ h)))
theorem iJx35411_hasNext_aae02_Jx4a65c : ∀ w ∈ wsJx4a65c0, w ∈ wsJx35411_hasNext_aae02 := fun _ h => (List.mem_cons_of_mem _ (List.mem_append_right _ h))
set_option maxRecDepth 100000 in
set_option maxHeartbeats 4000000 in
theorem kJx35411_hasNext_aae02 (l : Launch) (D : va_G) (cy : Nat → ClassId) (e0 : Nat) {bd w : Nat → Nat → Nat} (g : Md) (S : Int64) (sz : Nat) (li k : Nat) (hli : li < 4) : Met l yJx35411_hasNext_aae02 wsJx35411_hasNext_aae02 ({ frames := 0, cells := 0, slots := 0, locals := 0 } : Room) (va_Pc [.ref (bd 6 (w 0 5))] (mPre D cy e0 bd (wI w li k) g S sz)) (mQi D cy bd (wI w li k) ((if nI k = nI (w 0 li) then 0 else 1)) g S sz) 0 0 (mA bd (wI w li k) sz) := by
  refine q_start (cc := cJx35411_hasNext_aae02) (maxL := 1) (ret := (some .boolean)) (own := RJx35411) (by decide) rfl rfl (Nat.le_of_ble_eq_true rfl) ?_
  intro p e s m below meth c hx hb hr hml hts hown hlocks ⟨hsz, hC, hB⟩ ls hl
  subst hsz
  have hS : va_S (mA bd (wI w li k) s.heap.size) s.heap s.heap [] := va_S.rf
  have hG : mG e0 bd (wI w li k) s.heap.size bd (wI w li k) := mG.rf hB.2.2.1
  have hw0 : wB w := hC.1
  have hl : lv_has ls 1 [(0, .ref (bd 6 (w 0 5)))] := hl
  refine lv_aload_n hx hb dJx35411_hasNext_aae02_0 rfl (lv_at hl 0 rfl) ?_
  refine gt_m6_0 hx hb hts iJx35411_hasNext_aae02_Jx35411 hown hB.1 hC it_v qJx35411_hasNext_aae02_w1 dJx35411_hasNext_aae02_1 ?_
  refine q_val (v := nI k) (by rw [wI_4]) ?_
  refine lv_aload_n hx hb dJx35411_hasNext_aae02_4 rfl (lv_at hl 0 rfl) ?_
  refine gt_m6_3 hx hb hts iJx35411_hasNext_aae02_Jx35411 hown hB.1 hC it_v qJx35411_hasNext_aae02_w2 dJx35411_hasNext_aae02_5 ?_
  refine m_stk (st' := [.ref (bd 1 li), .int (nI k)]) (by rw [wI_3]) ?_
  refine gt_m1_2N hx hb hts iJx35411_hasNext_aae02_Jx4a65c hown hB hC hli dJx35411_hasNext_aae02_8 ?_
  refine q_val (v := nI (w 0 li)) (by rw [wI_0 hli]) ?_
  refine lv_icmp_eq (tgt := 18) hx hb dJx35411_hasNext_aae02_11 (by decide) (fun c1 => ?_) (fun c1 => ?_)
  · skip
    refine lv_iconst (v := 0) hx hb dJx35411_hasNext_aae02_18 (by decide) ?_
    exact m_retz hx hb hr hG hC hS mEq_rf (by rw [if_pos c1]) rfl hlocks dJx35411_hasNext_aae02_19
  · skip
    refine lv_iconst (v := 1) hx hb dJx35411_hasNext_aae02_14 (by decide) ?_
    refine lv_goto (tgt := 19) hx hb dJx35411_hasNext_aae02_15 (by decide) ?_
    exact m_retz hx hb hr hG hC hS mEq_rf (by rw [if_neg c1]) rfl hlocks dJx35411_hasNext_aae02_19
theorem qJx35411_next_0502b_w1 : Cond.fieldLink RJx35411 25 "java/util/ArrayList$Itr" "cursor" "I" ∈ wsJx35411_next_0502b := List.mem_of_getElem? (i := 1) rfl
theorem qJx35411_next_0502b_w2 : Cond.fieldLink RJx35411 1 "java/util/ArrayList$Itr" "this$0" "Ljava/util/ArrayList;" ∈ wsJx35411_next_0502b := List.mem_of_getElem? (i := 2) rfl
theorem qJx35411_next_0502b_w3 : Cond.fieldLink RJx35411 37 "java/util/ArrayList" "elementData" "[Ljava/lang/Object;" ∈ wsJx35411_next_0502b := List.mem_of_getElem? (i := 3) rfl
theorem qJx35411_next_0502b_w4 : Cond.fieldLink RJx35411 13 "java/util/ArrayList$Itr" "lastRet" "I" ∈ wsJx35411_next_0502b := List.mem_of_getElem? (i := 4) rfl
theorem iJx35411_next_0502b_Jx35411 : ∀ w ∈ wsJx354110, w ∈ wsJx35411_next_0502b := fun _ h => (List.mem_cons_of_mem _ (List.mem_append_left _ (List.mem_append_right _ h)))
theorem iJx35411_next_0502b_Jx4a65c : ∀ w ∈ wsJx4a65c0, w ∈ wsJx35411_next_0502b := fun _ h => (List.mem_cons_of_mem _ (List.mem_append_right _ h))
set_option maxRecDepth 100000 in
set_option maxHeartbeats 4000000 in
theorem kJx35411_next_0502b (l : Launch) (D : va_G) (cy : Nat → ClassId) (e0 : Nat) {bd w : Nat → Nat → Nat} (g : Md) (S : Int64) (sz : Nat) (li k : Nat) (hli : li < 4) (hkn : k < w 0 li) : Met l yJx35411_next_0502b wsJx35411_next_0502b ({ frames := 1, cells := 0, slots := 0, locals := 20 } : Room) (va_Pc [.ref (bd 6 (w 0 5))] (mPre D cy e0 bd (wI w li k) g S sz)) (va_Qr (fun _ : Unit => True) (fun _ b t => b = bd 3 (rb li + k) ∧ MW D cy bd (wI w li (k + 1)) g S t.heap) (mA bd (wI w li k) sz)) 0 0 (mA bd (wI w li k) sz) := by
  refine q_start (cc := cJx35411_next_0502b) (maxL := 3) (ret := (some (.object "java/lang/Object"))) (own := RJx35411) (by decide) rfl rfl (Nat.le_of_ble_eq_true rfl) ?_
  intro p e s m below meth c hx hb hr hml hts hown hlocks ⟨hsz, hC, hB⟩ ls hl
  subst hsz
  have hS : va_S (mA bd (wI w li k) s.heap.size) s.heap s.heap [] := va_S.rf
  have hG : mG e0 bd (wI w li k) s.heap.size bd (wI w li k) := mG.rf hB.2.2.1
  have hw0 : wB w := hC.1
  have hl : lv_has ls 3 [(0, .ref (bd 6 (w 0 5)))] := hl
  refine lv_aload_n hx hb dJx35411_next_0502b_0 rfl (lv_at hl 0 rfl) ?_
  refine m_callVv (As := []) (κ := 6) (i := w 0 5) it_v rfl ⟨_, rfl⟩ rfl ⟨hx, hb, hml, hown, hts⟩ (kJx35411_checkForComodification_da8c8 l D cy e0 (bd := bd) (w := (wI w li k)) g S _ (w 0 5) it_v (show wI w li k 5 (w 0 5) = wI w li k 6 (wI w li k 3 (w 0 5)) by rw [wI_5, wI_3]; rfl)) (cwV 0 hts gJx35411_next_0502b_Jx35411_checkForComodification_da8c8 rfl rfl rfl (by decide +kernel) ⟨Nat.le_of_ble_eq_true rfl, Nat.le_of_ble_eq_true rfl⟩) hB hG.2 hC hS rfl hl.1 (Nat.le_of_ble_eq_true rfl) dJx35411_next_0502b_1 ⟨Nat.le_of_ble_eq_true rfl, Nat.le_of_ble_eq_true rfl⟩ (fun H locs hC hS => ?_)
  refine lv_aload_n hx hb dJx35411_next_0502b_4 rfl (lv_at hl 0 rfl) ?_
  refine gt_m6_0 hx hb hts iJx35411_next_0502b_Jx35411 hown hB.1 hC it_v qJx35411_next_0502b_w1 dJx35411_next_0502b_5 ?_
  refine q_val (v := nI k) (by rw [wI_4]) ?_
  refine lv_istore_n (lv' := [(1, .int (nI k)), (0, .ref (bd 6 (w 0 5)))]) hx hb dJx35411_next_0502b_8 rfl hl (by decide) rfl (fun ls hl => ?_)
  refine lv_iload_n hx hb dJx35411_next_0502b_9 rfl (lv_at hl 0 rfl) ?_
  refine lv_aload_n hx hb dJx35411_next_0502b_10 rfl (lv_at hl 1 rfl) ?_
  refine gt_m6_3 hx hb hts iJx35411_next_0502b_Jx35411 hown hB.1 hC it_v qJx35411_next_0502b_w2 dJx35411_next_0502b_11 ?_
  refine m_stk (st' := [.ref (bd 1 li), .int (nI k)]) (by rw [wI_3]) ?_
  refine gt_m1_2N hx hb hts iJx35411_next_0502b_Jx4a65c hown hB hC hli dJx35411_next_0502b_14 ?_
  refine q_val (v := nI (w 0 li)) (by rw [wI_0 hli]) ?_
  refine lv_icmp_lt (tgt := 28) hx hb dJx35411_next_0502b_17 (by decide) (fun _ => ?_) (fun c => absurd (nI_lt hkn (by have := w0_20 hC.1 hli; have e : wI w li k 0 li = w 0 li := wI_0 hli; omega)) c)
  refine lv_aload_n hx hb dJx35411_next_0502b_28 rfl (lv_at hl 1 rfl) ?_
  refine gt_m6_3 hx hb hts iJx35411_next_0502b_Jx35411 hown hB.1 hC it_v qJx35411_next_0502b_w2 dJx35411_next_0502b_29 ?_
  refine m_stk (st' := [.ref (bd 1 li)]) (by rw [wI_3]) ?_
  refine gt_m1_1 hx hb hts iJx35411_next_0502b_Jx4a65c hown hB.1 hC hli qJx35411_next_0502b_w3 dJx35411_next_0502b_32 ?_
  refine lv_astore_n (lv' := [(2, .ref (bd 2 li)), (1, .int (nI k)), (0, .ref (bd 6 (w 0 5)))]) hx hb dJx35411_next_0502b_35 rfl hl (by decide) rfl (fun ls hl => ?_)
  refine lv_iload_n hx hb dJx35411_next_0502b_36 rfl (lv_at hl 1 rfl) ?_
  refine lv_aload_n hx hb dJx35411_next_0502b_37 rfl (lv_at hl 0 rfl) ?_
  refine ln_m2 hx hb hB.1 hC hli (by rw [wI_0 hli]; exact Nat.lt_of_le_of_lt (Nat.zero_le _) hkn) dJx35411_next_0502b_38 ?_
  refine lv_icmp_lt (tgt := 50) hx hb dJx35411_next_0502b_39 (by decide) (fun _ => ?_) (fun c => absurd (it_cap hC hli hkn) c)
  refine lv_aload_n hx hb dJx35411_next_0502b_50 rfl (lv_at hl 2 rfl) ?_
  refine lv_iload_n hx hb dJx35411_next_0502b_51 rfl (lv_at hl 1 rfl) ?_
  refine lv_iconst (v := 1) hx hb dJx35411_next_0502b_52 (by decide) ?_
  refine lv_iadd hx hb dJx35411_next_0502b_53 ?_
  refine q_val (v := nI (k + 1)) (nI_1 _) ?_
  have hat := it_at hC
  refine q_put hx hb hts iJx35411_next_0502b_Jx35411 tyJx35411 tyJx35411_ok nmJx35411 hown hB.1 hat hS (hG.2.1 6 (w 0 5) it_v) rfl 0 (by decide) qJx35411_next_0502b_w1 rfl rfl rfl rfl (Nat.le_of_ble_eq_true rfl) dJx35411_next_0502b_54 (fun H locs hat _ hO0 hS => ?_)
  refine lv_aload_n hx hb dJx35411_next_0502b_57 rfl (lv_at hl 0 rfl) ?_
  refine lv_aload_n hx hb dJx35411_next_0502b_58 rfl (lv_at hl 2 rfl) ?_
  refine lv_iload_n hx hb dJx35411_next_0502b_59 rfl (lv_at hl 1 rfl) ?_
  refine lv_dup_x1 hx hb dJx35411_next_0502b_60 rfl rfl ?_
  refine q_put hx hb hts iJx35411_next_0502b_Jx35411 tyJx35411 tyJx35411_ok nmJx35411 hown hB.1 hat hS (hG.2.1 6 (w 0 5) it_v) rfl 1 (by decide) qJx35411_next_0502b_w4 rfl rfl rfl rfl (Nat.le_of_ble_eq_true rfl) dJx35411_next_0502b_61 (fun H locs hat _ hO1 hS => ?_)
  have hC := MW.nextI hC hat (fun q h => (hO1 q h).trans (hO0 q h))
  have hG : mG e0 bd (wI w li k) s.heap.size bd (wI w li k) := hG
  refine la_m2 hx hb hB.1 hC hli (k := k) (nk_clamp (show k < wI w li (k + 1) 0 li by rw [wI_0 hli]; exact hkn) (Nat.le_trans (w0_20 hC.1 hli) (by decide))) (nk_in (show k < wI w li (k + 1) 0 li by rw [wI_0 hli]; exact hkn) (Nat.le_trans (w0_20 hC.1 hli) (by decide))) dJx35411_next_0502b_64 ?_
  exact W.aret hx hb hr (Or.inl ⟨_, rfl⟩) (Or.inr ⟨_, rfl⟩) (fun t ht hW => ⟨⟨(), _, rfl, trivial, rfl, MW.at ht hC⟩, hS.F ht⟩) hS.2.2 dJx35411_next_0502b_65
section IN
variable {p : Program} {l : Launch} {e : Env} {R : Room} {s : State} {m : MethodId} {args : Array Value} {below : List Frame} {meth : Method} {c : Code} {H : Heap} {locs : List Loc} {cells slots : Nat} {Q : State → Prop}
variable {cc : ByteArray} {pc : Nat} {ls : Array Slot} {rest : List Value} {D : va_G} {cy : Nat → ClassId} {e0 : Nat} {bd w bd1 w1 : Nat → Nat → Nat} {mm m2 : Md} {S S2 : Int64}
variable {Ts ws ws' : List Cond} {bytes : ByteArray} {nL maxL index n mc ms : Nat} {own : String} {y : MethodName} {ret : Option FieldType} {rm : Room}

/-- a method's start where its name is asked -/
theorem q_startN {av : List Value} {Qc : Array Value → State → Outcome → State → Prop} {free : Addr → Prop} {PB : State → Prop} (hy : plainName y.cls = true) (hw : ws = Cond.code y cc maxL ret :: ws') (ho : y.cls = own) (hlen : (lg_sl av).length ≤ maxL)
    (body : ∀ (p : Program) (e : Env) (s : State) (m : MethodId) (below : List Frame) (meth : Method) (c : Code), p.tables.exec = Jvm.exec → c.code = cc → meth.sig.returnType = ret → c.maxLocals = maxL → (∀ w ∈ ws, w.before av.toArray s = true) → s.vm.findClass own = some m.cls → meth.locks = false → meth.name = y.name → PB s → ∀ ls : Array Slot, lv_has ls maxL (lv_args 0 av) → W p l e rm s m av.toArray below meth c s.heap [] 0 0 (MQ below Qc av.toArray s mc ms free) (F0 m 0 ls [])) : Met l y ws rm (va_Pc av PB) Qc mc ms free := by
  refine Met.ofW (cc := cc) (maxL := maxL) (ret := ret) hy hw ?_
  intro p e s m args below meth c s₁ B hml hv
  obtain ⟨rfl, hPB⟩ := hv
  rw [lg_entry_eq]
  exact body p e s m below meth c B.exec B.bytes B.returns hml (atoms_spec (ws := ws) B.pre) (by rw [← ho]; exact findClass_of_methodNamed B.named) B.notSynchronized (name_of_methodNamed B.named B.method).1 hPB _ (lv_entry av hlen)
theorem q_putF {A : Nat → Prop} {H0 : Heap} {a : Nat} {cl : List vw_C} {tys : List (ClassId × FieldType)} (hexec : p.tables.exec = Jvm.exec) (hb : c.code = cc) {own ref C : String} {T : u_T} {N ci index : Nat} {Ts : List Cond} (hts : ∀ w ∈ Ts, w.before args s = true) (hin : ∀ w ∈ u_ws C T N, w ∈ Ts) (ty0 : Nat → FieldType) (hty : ∀ k, k < N → parseFieldDescriptor (T k).2.2.1 = some (ty0 k)) (hnm : ∀ a, a < N → ∀ b, b < N → a ≠ b → (T a).2.1 ≠ (T b).2.1) (hown : s.vm.findClass own = some m.cls) (hK : va_K D cl tys s) {fs : List Value} (hat : va_at D cl (a, .inr (ci, fs)) H) (hS0 : va_S A H0 H locs) (ha : A a) (hc : cl[ci]? = some (C, T, N)) (k : Nat) (hk : k < N) (hlink : Cond.fieldLink own index ref (T k).2.1 (T k).2.2.1 ∈ Ts) (hsame : (T k).1 = ref) (hfin : (T k).2.2.2 = true) (hin2 : meth.name = "<init>") (hdecl : (T k).1 = own) {v : Value} (hn : narrow (ty0 k) v = v) (hfit : fits (ty0 k) v = true) (hl : k < fs.length) (hdg : decode cc pc = .ok (.putfield index, 3))
    (kk : ∀ (H1 : Heap) (locs1 : List Loc), va_at D cl (a, .inr (ci, fs.set k v)) H1 → H1.size = H.size → (∀ q : Nat, q ≠ a → H1[q]? = H[q]?) → va_S A H0 H1 locs1 → W p l e R s m args below meth c H1 locs1 cells slots Q (F0 m (pc + 3) ls rest)) : W p l e R s m args below meth c H locs cells slots Q (F0 m pc ls (v :: .ref a :: rest)) := by
  have hap := va_apart (own := own) hts hin ty0 hty hnm hK hc
  obtain ⟨r, h1, cell, q1, q2, q3, q4⟩ := hat
  have hr : r = (C, T, N) := Option.some.inj (h1.symm.trans hc)
  subst hr
  obtain ⟨hS, hfc, kC, hkC, hkind⟩ := hK.1 ci _ hc
  obtain ⟨cf, kf, fi, f, hi, hsl⟩ := hS k hk
  have hlay := hts _ (hin _ (u_in_lay hk))
  unfold u_lay at hlay
  rw [if_pos hfin] at hlay
  have hst := (u_facts hfc hkC (u_lays hts hin hk) hi).1
  have hcf : m.cls = cf := by
    obtain ⟨_, _, c', _, _, _, -, -, hf', -, -, -, hown2, -⟩ := Cond.laysFinal_spec hlay
    have e1 : c' = cf := by have := hi.symm.trans hf'; simp at this; exact this.1.symm
    rw [hdecl] at hown2
    rw [← e1]; exact Option.some.inj (hown.symm.trans hown2)
  have h6 := u_fits hfc hkC hkind (Or.inr hlay) hi (hty k hk) hn hfit
  refine W.putFinK hexec hb hown (hts _ hlink) (by rw [← hsame]; exact hi) hst hcf hin2 (by rw [q2]; exact h6) q1 q3 (by rw [hsl]; exact k2_hasslot (q4 k hk)) rfl rfl hdg fun H' e1 e2 e3 => ?_
  rw [hsl] at e1 ⊢
  exact kk H' _ ⟨_, hc, t_OB.to (V := updV (vp_V fs) k v) ⟨_, e1, q2, q3, t_set q4 hap hk v⟩ (fun j _ => vp_updV_set hl v j)⟩ e2 e3 (hS0.put e2 e3 ha)
end IN
abbrev itA (b sz : Nat) : Nat → Prop := fun q => q = b ∨ sz ≤ q
abbrev itP (D : va_G) (cy : Nat → ClassId) (e0 : Nat) (bd w : Nat → Nat → Nat) (g : Md) (S : Int64) (b sz : Nat) : State → Prop := fun U => mPre D cy e0 bd w g S sz U ∧ va_at D vwCl (b, .inr (0, [.int 0, .int 0, .int 0, .null])) U.heap ∧ ∀ κ i, mV w κ i → bd κ i ≠ b
theorem Iw3 : ∀ w ∈ wsJx354110, w ∈ wsJx35411_init_45d68 := fun _ h => (List.mem_cons_of_mem _ (List.mem_append_left _ (List.mem_append_right _ h)))
theorem Iw1 : ∀ w ∈ wsJx4a65c0, w ∈ wsJx35411_init_45d68 := fun _ h => (List.mem_cons_of_mem _ (List.mem_append_right _ h))
set_option maxRecDepth 100000 in
set_option maxHeartbeats 4000000 in
theorem kJx35411_init_45d68 (l : Launch) (D : va_G) (cy : Nat → ClassId) (e0 : Nat) {bd w : Nat → Nat → Nat} (g : Md) (S : Int64) (b sz li : Nat) (hli : li < 4) : Met l yJx35411_init_45d68 wsJx35411_init_45d68 ({ frames := 1, cells := 0, slots := 0, locals := 12 } : Room) (va_Pc [.ref b, .ref (bd 1 li)] (itP D cy e0 bd w g S b sz)) (va_Qv (fun _ : Unit => True) (fun _ t => va_at D vwCl (b, .inr (0, [.int 0, .int (-1), .int (nI (w 6 li)), .ref (bd 1 li)])) t.heap) (itA b sz)) 0 0 (itA b sz) := by
  refine q_startN (cc := cJx35411_init_45d68) (maxL := 2) (ret := none) (own := RJx35411) (by decide) rfl rfl (Nat.le_of_ble_eq_true rfl) ?_
  intro p e s m below meth c hx hb hr hml hts hown hlocks hnm ⟨⟨hsz, hC, hB⟩, hat, hne⟩ ls hl
  subst hsz
  have hS : va_S (itA b s.heap.size) s.heap s.heap [] := va_S.rf
  have hl : lv_has ls 2 [(0, .ref b), (1, .ref (bd 1 li))] := hl
  refine lv_aload_n hx hb dJx35411_init_45d68_0 rfl (lv_at hl 0 rfl) ?_
  refine lv_aload_n hx hb dJx35411_init_45d68_1 rfl (lv_at hl 1 rfl) ?_
  refine q_putF hx hb hts Iw3 tyJx35411 tyJx35411_ok nmJx35411 hown hB.1 hat hS (Or.inl rfl) rfl 3 (by decide) (List.mem_of_getElem? (i := 1) rfl) rfl rfl hnm rfl rfl rfl (Nat.le_of_ble_eq_true rfl) dJx35411_init_45d68_2 (fun H locs hat _ hO hS => ?_)
  have hC : MW D cy bd w g S H := hC.kept (fun κ i hv => hO _ (hne κ i hv))
  refine lv_aload_n hx hb dJx35411_init_45d68_5 rfl (lv_at hl 0 rfl) ?_
  refine W.objInit hx hb hown (hts (.methodLink RJx35411 7 objectInit) (List.mem_of_getElem? (i := 2) rfl)) (hts (.instanceMethod objectInit) (List.mem_of_getElem? (i := 3) rfl)) (hts _ (List.mem_of_getElem? (i := 4) rfl)) rfl (by rw [hml]; exact hl.1) rfl dJx35411_init_45d68_6 (Nat.le_of_ble_eq_true rfl) (Nat.le_of_ble_eq_true rfl) ?_
  refine W.eq (g2 := F0 m 9 ls []) rfl ?_
  refine lv_aload_n hx hb dJx35411_init_45d68_9 rfl (lv_at hl 0 rfl) ?_
  refine lv_iconst (v := (-1)) hx hb dJx35411_init_45d68_10 (by decide) ?_
  refine q_put hx hb hts Iw3 tyJx35411 tyJx35411_ok nmJx35411 hown hB.1 hat hS (Or.inl rfl) rfl 1 (by decide) (List.mem_of_getElem? (i := 5) rfl) rfl rfl rfl rfl (Nat.le_of_ble_eq_true rfl) dJx35411_init_45d68_11 (fun H locs hat _ hO hS => ?_)
  have hC : MW D cy bd w g S H := hC.kept (fun κ i hv => hO _ (hne κ i hv))
  refine lv_aload_n hx hb dJx35411_init_45d68_14 rfl (lv_at hl 0 rfl) ?_
  refine lv_aload_n hx hb dJx35411_init_45d68_15 rfl (lv_at hl 0 rfl) ?_
  refine q_get hx hb hts Iw3 hown hB.1 hat rfl 3 (by decide) (List.mem_of_getElem? (i := 1) rfl) rfl rfl dJx35411_init_45d68_16 ?_
  refine gt_m1_0 hx hb hts Iw1 hown hB.1 hC hli (List.mem_of_getElem? (i := 6) rfl) (List.mem_of_getElem? (i := 7) rfl) dJx35411_init_45d68_19 ?_
  refine q_put hx hb hts Iw3 tyJx35411 tyJx35411_ok nmJx35411 hown hB.1 hat hS (Or.inl rfl) rfl 2 (by decide) (List.mem_of_getElem? (i := 8) rfl) rfl rfl rfl rfl (Nat.le_of_ble_eq_true rfl) dJx35411_init_45d68_22 (fun H locs hat _ hO hS => ?_)
  exact W.vret hx hb hr (fun t ht hW => ⟨⟨(), rfl, trivial, by show va_at D vwCl _ t.heap; rw [ht]; exact hat⟩, hS.F ht⟩) hS.2.2 dJx35411_init_45d68_25
theorem itP_blind {D : va_G} {cy : Nat → ClassId} {e0 : Nat} {bd w : Nat → Nat → Nat} {mm : Md} {S : Int64} {b sz : Nat} {av : List Value} : FrameBlind (va_Pc av (itP D cy e0 bd w mm S b sz)) := fun a U f mk q => ⟨q.1, (mPre_blind (av := av) a U f mk ⟨q.1, q.2.1⟩).2, q.2.2.1, q.2.2.2⟩
theorem Iv3 : ∀ w ∈ wsJx354110, w ∈ wsJx4a65c_iterator_32c93 := fun _ h => (List.mem_cons_of_mem _ (List.mem_append_left _ (List.mem_append_right _ h)))
set_option maxRecDepth 100000 in
set_option maxHeartbeats 4000000 in
theorem kJx4a65c_iterator_32c93 (l : Launch) (D : va_G) (cy : Nat → ClassId) (e0 : Nat) {bd w : Nat → Nat → Nat} (g : Md) (S : Int64) (sz li : Nat) (hli : li < 4) : Met l yJx4a65c_iterator_32c93 wsJx4a65c_iterator_32c93 ({ frames := 2, cells := 1, slots := 4, locals := 33 } : Room) (va_Pc [.ref (bd 1 li)] (mPre D cy e0 bd w g S sz)) (va_Qr (fun _ : Nat → Nat → Nat => True) (fun bd2 b t => mNI bd w bd2 b sz ∧ MW D cy bd2 (wI w li 0) g S t.heap) (mA bd w sz)) 1 4 (mA bd w sz) := by
  refine q_start (cc := cJx4a65c_iterator_32c93) (maxL := 1) (ret := some (.object "java/util/Iterator")) (own := RJx4a65c) (by decide) rfl rfl (Nat.le_of_ble_eq_true rfl) ?_
  intro p e s m below meth c hx hb hr hml hts hown hlocks ⟨hsz, hC, hB⟩ ls hl
  subst hsz
  have hS : va_S (mA bd w s.heap.size) s.heap s.heap [] := va_S.rf
  have hl : lv_has ls 1 [(0, .ref (bd 1 li))] := hl
  have hKn := hB.1.1 0 _ rfl
  refine W.newcK hx hb hown (hts _ (List.mem_of_getElem? (i := 1) rfl)) (hts (.instantiable RJx35411 4) (List.mem_of_getElem? (i := 2) rfl)) (hts _ (List.mem_of_getElem? (i := 3) rfl)) rfl dJx4a65c_iterator_32c93_0 (Nat.le_of_ble_eq_true rfl) (Nat.le_of_ble_eq_true rfl) hKn.2.1 rfl fun H1 kC hkC e1 z1 o1 => ?_
  have hat : va_at D vwCl (s.heap.size, .inr (0, [.int 0, .int 0, .int 0, .null])) H1 := ⟨_, rfl, (u_born tyJx35411 hts Iv3 hKn hkC e1 tyJx35411_ok).to (fun j hj => by match j, hj with | 0, _ => rfl | 1, _ => rfl | 2, _ => rfl | 3, _ => rfl)⟩
  have hne : ∀ κ i, mV w κ i → bd κ i ≠ s.heap.size := fun κ i hv => Nat.ne_of_lt (hC.lt hv)
  have hC1 : MW D cy bd w g S H1 := hC.kept (fun κ i hv => o1 _ (hC.lt hv))
  have hS1 : va_S (mA bd w s.heap.size) s.heap H1 [] := ⟨by omega, fun x h1 h2 => o1 x h1, fun _ h => by cases h⟩
  refine W.eq (g2 := F0 m 3 ls [.ref s.heap.size]) rfl ?_
  refine lv_dup hx hb dJx4a65c_iterator_32c93_3 rfl ?_
  refine lv_aload_n hx hb dJx4a65c_iterator_32c93_4 rfl (lv_at hl 0 rfl) ?_
  refine va_callv (va_runI (As := [.ref (bd 1 li)]) (rest := [.ref s.heap.size]) (b := s.heap.size) ⟨hx, hb, hml, hown, hts⟩ (kJx35411_init_45d68 l D cy e0 (bd := bd) (w := w) g S s.heap.size H1.size li hli) (cwI 1 hts gJx4a65c_iterator_32c93_Jx35411_init_45d68 rfl rfl rfl (hts _ (List.mem_of_getElem? (i := 3) rfl)) (hts _ (List.mem_of_getElem? (i := 4) rfl)) (hts _ (List.mem_of_getElem? (i := 5) rfl)) rfl (by decide +kernel) ⟨Nat.le_of_ble_eq_true rfl, Nat.le_of_ble_eq_true rfl⟩) ⟨itP_blind, fun U hU hW => ⟨rfl, ⟨by rw [hU], MU.mk hB hC1 mH.rf hB.2.2.1 hS1 hU hW⟩, by rw [hU]; exact hat, hne⟩⟩ rfl rfl hl.1 rfl (lv_room (Nat.le_of_ble_eq_true rfl)) dJx4a65c_iterator_32c93_5 ⟨Nat.le_of_ble_eq_true rfl, Nat.le_of_ble_eq_true rfl⟩) hS1 (A0 := mA bd w s.heap.size) (fun q h1 h2 => ?_) (fun q h2 => ?_) (fun u t H2 locs2 ht hvm hw hat2 hz2 hk2 hS2 => ?_)
  · rcases h2 with h2 | h2
    · exact Or.inr (by omega)
    · exact Or.inr (by omega)
  · rcases h2 with h2 | h2
    · exact Or.inr (by omega)
    · exact Or.inr (by omega)
  have hk3 : ∀ κ i, mV w κ i → H2[bd κ i]? = H1[bd κ i]? := fun κ i hv => hk2 _ (by have := hC.lt hv; omega) (fun q => q.elim (hne κ i hv) (fun q => by have := hC.lt hv; omega))
  rw [ht] at hat2
  obtain ⟨bd2, E1, E2, E3, hC2⟩ := hC1.newI hli hat2 hne hk3
  exact W.aret hx hb hr (Or.inl ⟨_, rfl⟩) (Or.inr ⟨_, rfl⟩) (fun t ht hW => ⟨⟨bd2, s.heap.size, rfl, trivial, ⟨E1, E2, E3, Nat.le_refl _⟩, MW.at ht hC2⟩, hS2.F ht⟩) hS2.2.2 dJx4a65c_iterator_32c93_8
section MF
variable {p : Program} {l : Launch} {e : Env} {R : Room} {s : State} {m : MethodId} {args : Array Value} {below : List Frame} {meth : Method} {c : Code} {H : Heap} {locs : List Loc} {cells slots : Nat} {Q : State → Prop}
variable {cc : ByteArray} {pc : Nat} {ls : Array Slot} {rest : List Value} {D : va_G} {cy : Nat → ClassId} {e0 : Nat} {bd w bd1 w1 : Nat → Nat → Nat} {mm m2 : Md} {S S2 : Int64}
variable {Ts ws ws' : List Cond} {bytes : ByteArray} {nL maxL index n mc ms : Nat} {own : String} {y : MethodName} {ret : Option FieldType} {rm : Room}

theorem m_iter {li : Nat} (hli : li < 4) (CF : CallFix p m c cc nL s args Ts own) (hMe : Met l y ws rm (va_Pc [.ref (bd1 1 li)] (mPre D cy e0 bd1 w1 mm S H.size)) (va_Qr (fun _ : Nat → Nat → Nat => True) (fun bd2 b t => mNI bd1 w1 bd2 b H.size ∧ MW D cy bd2 (wI w1 li 0) mm S t.heap) (mA bd1 w1 H.size)) mc ms (mA bd1 w1 H.size)) (cw : CallW R s args own RJx4a65c index y bytes maxL ret ws rm mc ms 0) (hB : MB D cy e0 bd w s) (hG : mG0 e0 bd w s.heap.size bd1 w1) (hM : MW D cy bd1 w1 mm S H) (hS : va_S (mA bd w s.heap.size) s.heap H locs) (hsize : ls.size = nL) (hW : (rest.map fun v => v.category).sum ≤ 8) (hdg : decode cc pc = .ok (.invokevirtual index, 3)) (hf : cells + mc ≤ R.cells ∧ slots + ms ≤ R.slots)
    (kk : ∀ (bd2 : Nat → Nat → Nat) (H1 : Heap) (locs1 : List Loc), mNI bd1 w1 bd2 (bd2 6 (w1 0 5)) H.size → MW D cy bd2 (wI w1 li 0) mm S H1 → va_S (mA bd w s.heap.size) s.heap H1 locs1 → W p l e R s m args below meth c H1 locs1 (cells + mc) (slots + ms) Q (F0 m (pc + 3) ls (.ref (bd2 6 (w1 0 5)) :: rest))) : W p l e R s m args below meth c H locs cells slots Q (F0 m pc ls (.ref (bd1 1 li) :: rest)) := by
  have hFc : ∀ q : Nat, mA bd1 w1 H.size q → mA bd w s.heap.size q := fun q h => mA_in hG.1 hS.1 h
  have hat := hM.2.2.2 1 li hli
  have hrec := va_recv (ci := 1) hB.1 (q_one hat) rfl (q0 := 0) rfl
  refine va_callr (va_runV (As := []) (rest := rest) CF hMe cw ⟨mPre_blind, hrec, fun U hU hW2 => ⟨rfl, by rw [hU], MU.mk hB hM hG.1 hG.2 hS hU hW2⟩⟩ rfl rfl hsize rfl (lv_room hW) hdg hf) hS (fun q _ h => hFc q h) hFc (fun bd2 r t H1 locs1 ht hvm hw hBu hz1 hk1 hS1 => ?_)
  obtain ⟨hN, hBu⟩ := hBu
  have e9 := hN.2.2.1
  subst e9
  exact kk bd2 H1 locs1 hN (by rw [← ht]; exact hBu) hS1
theorem m_feNext {li k : Nat} (hli : li < 4) {x : MethodName} {count : Nat} (CF : CallFix p m c cc nL s args Ts own) (hMe : Met l y ws rm (va_Pc [.ref (bd1 6 (w1 0 5))] (mPre D cy e0 bd1 (wI w1 li k) mm S H.size)) (va_Qr (fun _ : Unit => True) (fun _ b t => b = bd1 3 (rb li + k) ∧ MW D cy bd1 (wI w1 li (k + 1)) mm S t.heap) (mA bd1 (wI w1 li k) H.size)) mc ms (mA bd1 (wI w1 li k) H.size)) (cw : va_CI R s args own RJx35411 index x y bytes maxL ret ws rm mc ms 0) (hB : MB D cy e0 bd w s) (hG : mG0 e0 bd w s.heap.size bd1 (wI w1 li k)) (hM : MW D cy bd1 (wI w1 li k) mm S H) (hS : va_S (mA bd w s.heap.size) s.heap H locs) (hsize : ls.size = nL) (hW : (rest.map fun v => v.category).sum ≤ 8) (hdg : decode cc pc = .ok (.invokeinterface index count, 5)) (hf : cells + mc ≤ R.cells ∧ slots + ms ≤ R.slots)
    (kk : ∀ (H1 : Heap) (locs1 : List Loc), MW D cy bd1 (wI w1 li (k + 1)) mm S H1 → va_S (mA bd w s.heap.size) s.heap H1 locs1 → W p l e R s m args below meth c H1 locs1 (cells + mc) (slots + ms) Q (F0 m (pc + 5) ls (.ref (bd1 3 (rb li + k)) :: rest))) : W p l e R s m args below meth c H locs cells slots Q (F0 m pc ls (.ref (bd1 6 (w1 0 5)) :: rest)) := by
  have hFc : ∀ q : Nat, mA bd1 (wI w1 li k) H.size q → mA bd w s.heap.size q := fun q h => mA_in hG.1 hS.1 h
  have hat := hM.2.2.2 6 (w1 0 5) it_v
  have hrec := va_recv (ci := 0) hB.1 (q_one hat) rfl (q0 := 0) rfl
  refine va_callFr (va_runF (hB.1.1 0 _ rfl).2 (As := []) (rest := rest) CF hMe cw ⟨mPre_blind, hrec, fun U hU hW2 => ⟨rfl, by rw [hU], MU.mk hB hM hG.1 hG.2 hS hU hW2⟩⟩ rfl rfl hsize rfl (lv_room hW) hdg hf) hS (fun q _ h => hFc q h) hFc (fun u r t H1 locs1 ht hvm hw hBu hz1 hk1 hS1 => ?_)
  obtain ⟨e9, hBu⟩ := hBu
  subst e9
  exact kk H1 locs1 (by rw [← ht]; exact hBu) hS1
end MF
theorem nI_ne9 {k n : Nat} (h : k < n) (hn : n ≤ 1000) : ¬ nI k = nI n := by
  intro e
  have h1 := nI_toInt (n := k) (by omega)
  have h2 := nI_toInt (n := n) (by omega)
  rw [e, h2] at h1
  omega
theorem wNB_0 {w : Nat → Nat → Nat} (h : wB w) : w 0 0 ≤ 6 := h.1
theorem wNB_1 {w : Nat → Nat → Nat} (h : wB w) : w 0 1 ≤ 20 := h.2.1
theorem wNB_2 {w : Nat → Nat → Nat} (h : wB w) : w 0 2 ≤ 5 := h.2.2.1
theorem wNB_3 {w : Nat → Nat → Nat} (h : wB w) : w 0 3 ≤ 12 := h.2.2.2.1
