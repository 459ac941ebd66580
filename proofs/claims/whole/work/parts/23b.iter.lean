/-! ===== the lists' iterators ===== -/
section IT
variable {p : Program} {l : Launch} {e : Env} {R : Room} {s : State} {m : MethodId} {args : Array Value} {below : List Frame} {meth : Method} {c : Code} {H : Heap} {locs : List Loc} {cells slots : Nat} {Q : State → Prop}
variable {cc : ByteArray} {pc : Nat} {ls : Array Slot} {rest : List Value} {D : va_G} {cy : Nat → ClassId} {e0 : Nat} {bd w bd1 w1 : Nat → Nat → Nat} {mm m2 : Md} {S S2 : Int64}
variable {Ts ws ws' : List Cond} {bytes : ByteArray} {nL maxL index n mc ms : Nat} {own : String} {y : MethodName} {ret : Option FieldType} {rm : Room}

theorem wI_0 {x li k : Nat} (h : li < 4) : wI w x k 0 li = w 0 li := by
  unfold wI
  rw [if_neg (by omega), if_neg (by omega), if_neg (by omega), if_neg (by omega)]
theorem wI_3 {li k : Nat} : wI w li k 3 (w 0 5) = li := by
  unfold wI
  rw [if_neg (by omega), if_pos ⟨rfl, rfl⟩]
theorem wI_4 {li k : Nat} : wI w li k 4 (w 0 5) = k := by
  unfold wI
  rw [if_neg (by omega), if_neg (by omega), if_pos ⟨rfl, rfl⟩]
theorem wI_5 {li k : Nat} : wI w li k 5 (w 0 5) = w 6 li := by
  unfold wI
  rw [if_neg (by omega), if_neg (by omega), if_neg (by omega), if_pos ⟨rfl, rfl⟩]
theorem wI_o {li k a i : Nat} (h : i ≠ w 0 5) (ha : a = 3 ∨ a = 4 ∨ a = 5) : wI w li k a i = w a i := by
  unfold wI
  rw [if_neg (by omega), if_neg (by omega), if_neg (by omega), if_neg (by omega)]
def mNI (bd w bd2 : Nat → Nat → Nat) (a sz : Nat) : Prop := (∀ κ i, mV w κ i → bd2 κ i = bd κ i) ∧ (∀ i, bd2 2 i = bd 2 i) ∧ bd2 6 (w 0 5) = a ∧ sz ≤ a
theorem wI_V {li k κ i : Nat} (h : mV (wI w li k) κ i) : mV w κ i ∨ (κ = 6 ∧ i = w 0 5) := by
  match κ, h with
  | 0, h => exact Or.inl h
  | 1, h => exact Or.inl h
  | 2, h =>
    have h : i < 4 ∧ 0 < wI w li k 0 i := h
    refine Or.inl ⟨h.1, ?_⟩
    have h2 := h.2
    unfold wI at h2
    rw [if_neg (by omega), if_neg (by omega), if_neg (by omega), if_neg (by omega)] at h2
    exact h2
  | 3, h => exact Or.inl h
  | 4, h => exact Or.inl h
  | 5, h => exact Or.inl h
  | 6, h =>
    have h : i < w 0 5 + 1 := h
    rcases Nat.lt_or_ge i (w 0 5) with q | q
    · exact Or.inl q
    · exact Or.inr ⟨rfl, by omega⟩
theorem wI_mD {li k : Nat} {bd2 : Nat → Nat → Nat} (E : ∀ κ i, mV w κ i → bd2 κ i = bd κ i) (E2 : ∀ i, bd2 2 i = bd 2 i) : mD bd w bd2 (wI w li k) := by
  refine ⟨fun κ i h => ⟨?_, E κ i h⟩, fun i hi => ?_, fun i => ?_, fun t ht => ?_, fun t ht => ⟨?_, ?_, ?_⟩, ?_, E2, fun i => ?_⟩
  · match κ, h with
    | 0, h => exact h
    | 1, h => exact h
    | 2, h =>
      have h : i < 4 ∧ 0 < w 0 i := h
      refine ⟨h.1, ?_⟩
      unfold wI
      rw [if_neg (by omega), if_neg (by omega), if_neg (by omega), if_neg (by omega)]
      exact h.2
    | 3, h => exact h
    | 4, h => exact h
    | 5, h => exact h
    | 6, h =>
      have h : i < w 0 5 := h
      show i < w 0 5 + 1
      omega
  · unfold wI; rw [if_neg (by omega), if_neg (by omega), if_neg (by omega), if_neg (by omega)]
  · unfold wI; rw [if_neg (by omega), if_neg (by omega), if_neg (by omega), if_neg (by omega)]
  · unfold wI; rw [if_neg (by omega), if_neg (by omega), if_neg (by omega), if_neg (by omega)]
  · exact wI_o (by omega) (by omega)
  · exact wI_o (by omega) (by omega)
  · exact wI_o (by omega) (by omega)
  · exact Nat.le_refl _
  · unfold wI; rw [if_neg (by omega), if_neg (by omega), if_neg (by omega), if_neg (by omega)]
theorem mG.itr {e0 sz a sz2 : Nat} {bd2 : Nat → Nat → Nat} (h : mG e0 bd w sz bd1 w1) (hN : mNI bd1 w1 bd2 a sz2) (hz : sz ≤ sz2) : mG e0 bd w sz bd2 w1 ∧ ∀ li k, mG e0 bd w sz bd2 (wI w1 li k) := by
  have hD : mD bd1 w1 bd2 w1 := ⟨fun κ i q => ⟨q, hN.1 κ i q⟩, fun _ _ => rfl, fun _ => rfl, fun _ _ => rfl, fun _ _ => ⟨rfl, rfl, rfl⟩, Nat.le_refl _, hN.2.1, fun _ => rfl⟩
  refine ⟨⟨h.1.tr hD, fun κ i hv => by rw [hN.1 κ i hv]; exact h.2.1 κ i hv, hD.mE h.2.2⟩, fun li k => ?_⟩
  have hD2 := wI_mD (li := li) (k := k) hN.1 hN.2.1
  refine ⟨h.1.tr hD2, fun κ i hv => ?_, hD2.mE h.2.2⟩
  rcases wI_V hv with q | ⟨rfl, rfl⟩
  · rw [hN.1 κ i q]; exact h.2.1 κ i q
  · rw [hN.2.2.1]; exact Or.inr (Nat.le_trans hz hN.2.2.2)
/-- behind the loop over a list: without its iterator -/
theorem MW.unI {li k : Nat} (h : MW D cy bd (wI w li k) mm S H) : MW D cy bd w mm S H := h.drop (wI_mD (fun _ _ _ => rfl) (fun _ => rfl)) mEq_rf
theorem mS_wI {li k κ i : Nat} (hD : mD bd w bd1 (wI w li k)) (hwB : wB w) (hc4 : ∀ i, i < w 0 5 → w 3 i < 4) (hv : mV w κ i) : mS cy bd1 (wI w li k) mm S κ i = mS cy bd w mm S κ i := mS_eq hwB hc4 hD mEq_rf hv
/-- an iterator among the world's cells -/
theorem MW.newI {li b : Nat} {H1 : Heap} (hM : MW D cy bd w mm S H) (hli : li < 4) (hat : va_at D vwCl (b, .inr (0, [.int (nI 0), .int (nI 0 - 1), .int (nI (w 6 li)), .ref (bd 1 li)])) H1) (hb : ∀ κ i, mV w κ i → bd κ i ≠ b) (hk : ∀ κ i, mV w κ i → H1[bd κ i]? = H[bd κ i]?) : ∃ bd2 : Nat → Nat → Nat, (∀ κ i, mV w κ i → bd2 κ i = bd κ i) ∧ (∀ i, bd2 2 i = bd 2 i) ∧ bd2 6 (w 0 5) = b ∧ MW D cy bd2 (wI w li 0) mm S H1 := by
  have hno : ∀ κ i, mV w κ i → ¬ (κ = 6 ∧ i = w 0 5) := by
    rintro κ i hv ⟨rfl, rfl⟩
    exact Nat.lt_irrefl _ (show w 0 5 < w 0 5 from hv)
  refine ⟨fun κ i => if κ = 6 ∧ i = w 0 5 then b else bd κ i, fun κ i hv => if_neg (hno κ i hv), fun i => if_neg (by omega), if_pos ⟨rfl, rfl⟩, ?_⟩
  have E : ∀ κ i, mV w κ i → (fun κ i => if κ = 6 ∧ i = w 0 5 then b else bd κ i) κ i = bd κ i := fun κ i hv => if_neg (hno κ i hv)
  have hD := wI_mD (li := li) (k := 0) E (fun i => if_neg (by omega))
  obtain ⟨hw, hI, ⟨hc1, hc2, hc3⟩, hC⟩ := hM
  refine ⟨hw, ?_, ⟨fun i hi h => ?_, fun i => ?_, fun i hi => ?_⟩, ?_⟩
  · intro κ i κ' i' h h' e
    rcases wI_V h with h | ⟨rfl, rfl⟩ <;> rcases wI_V h' with h' | ⟨rfl, rfl⟩
    · rw [E _ _ h, E _ _ h'] at e
      exact hI _ _ _ _ h h' e
    · rw [E _ _ h] at e
      exact absurd (e.trans (if_pos ⟨rfl, rfl⟩)) (hb κ i h)
    · rw [E _ _ h'] at e
      exact absurd (e.symm.trans (if_pos ⟨rfl, rfl⟩)) (hb κ' i' h')
    · exact ⟨rfl, rfl⟩
  · rw [hD.2.1 i hi] at h ⊢
    rw [hD.2.2.1 i]
    exact hc1 i hi h
  · rw [hD.2.2.1 i]; exact hc2 i
  · have hi : i < w 0 5 + 1 := hi
    by_cases q : i = w 0 5
    · rw [q, wI_3]; exact hli
    · rw [wI_o q (Or.inl rfl)]; exact hc3 i (by omega)
  · intro κ i hv
    rcases wI_V hv with h | ⟨rfl, rfl⟩
    · have e := mS_wI (cy := cy) (S := S) (mm := mm) hD hw hc3 h
      rw [e, E κ i h]
      exact (hC κ i h).kept (hk κ i h)
    · have e : mS cy (fun κ i => if κ = 6 ∧ i = w 0 5 then b else bd κ i) (wI w li 0) mm S 6 (w 0 5) = .inr (0, [.int (nI 0), .int (nI 0 - 1), .int (nI (w 6 li)), .ref (bd 1 li)]) := by
        simp only [mS, wI_3, wI_4, wI_5, E 1 li hli]
      rw [e]
      show va_at D vwCl ((if 6 = 6 ∧ w 0 5 = w 0 5 then b else bd 6 (w 0 5)), _) H1
      rw [if_pos ⟨rfl, rfl⟩]
      exact hat
/-- the cursor one further -/
theorem MW.nextI {li k : Nat} {H1 : Heap} (hM : MW D cy bd (wI w li k) mm S H) (hat : va_at D vwCl (bd 6 (w 0 5), .inr (0, [.int (nI (k + 1)), .int (nI k), .int (nI (w 6 li)), .ref (bd 1 li)])) H1) (hk : ∀ q, q ≠ bd 6 (w 0 5) → H1[q]? = H[q]?) : MW D cy bd (wI w li (k + 1)) mm S H1 := by
  have h1 := hM
  have h0 : MW D cy bd w mm S H := hM.unI
  obtain ⟨hw, hI, ⟨hc1, hc2, hc3⟩, hC⟩ := hM
  refine ⟨hw, hI, ⟨hc1, hc2, fun i hi => ?_⟩, ?_⟩
  · have hi' : i < w 0 5 + 1 := hi
    have h := hc3 i hi
    by_cases q : i = w 0 5
    · rw [q, wI_3] at h; rw [q, wI_3]; exact h
    · rw [wI_o q (Or.inl rfl)] at h; rw [wI_o q (Or.inl rfl)]; exact h
  · intro κ i hv
    rcases wI_V hv with h | ⟨rfl, rfl⟩
    · rw [mS_wI (wI_mD (fun _ _ _ => rfl) (fun _ => rfl)) h0.1 h0.2.2.1.2.2 h]
      refine (h0.2.2.2 κ i h).kept (hk _ (fun e => ?_))
      have hv2 : mV (wI w li k) 6 (w 0 5) := show w 0 5 < w 0 5 + 1 by omega
      have hv3 : mV (wI w li k) κ i := ((wI_mD (li := li) (k := k) (bd := bd) (bd2 := bd) (fun _ _ _ => rfl) (fun _ => rfl)).1 κ i h).1
      obtain ⟨rfl, rfl⟩ := hI _ _ _ _ hv3 hv2 e
      exact Nat.lt_irrefl _ (show w 0 5 < w 0 5 from h)
    · have e : mS cy bd (wI w li (k + 1)) mm S 6 (w 0 5) = .inr (0, [.int (nI (k + 1)), .int (nI k), .int (nI (w 6 li)), .ref (bd 1 li)]) := by
        simp only [mS, wI_3, wI_4, wI_5, nI_succ]
        congr 4
        exact congrArg Value.int (by rw [Int32.add_sub_cancel])
      rw [e]
      exact hat
end IT
theorem it_v {w : Nat → Nat → Nat} {li k : Nat} : mV (wI w li k) 6 (w 0 5) := show w 0 5 < w 0 5 + 1 by omega
section IA
variable {p : Program} {l : Launch} {e : Env} {R : Room} {s : State} {m : MethodId} {args : Array Value} {below : List Frame} {meth : Method} {c : Code} {H : Heap} {locs : List Loc} {cells slots : Nat} {Q : State → Prop}
variable {cc : ByteArray} {pc : Nat} {ls : Array Slot} {rest : List Value} {D : va_G} {cy : Nat → ClassId} {e0 : Nat} {bd w bd1 w1 : Nat → Nat → Nat} {mm m2 : Md} {S S2 : Int64}
variable {Ts ws ws' : List Cond} {bytes : ByteArray} {nL maxL index n mc ms : Nat} {own : String} {y : MethodName} {ret : Option FieldType} {rm : Room}

theorem it_at {li k : Nat} (hM : MW D cy bd (wI w li k) mm S H) : va_at D vwCl (bd 6 (w 0 5), .inr (0, [.int (nI k), .int (nI k - 1), .int (nI (w 6 li)), .ref (bd 1 li)])) H := by
  have h := hM.2.2.2 6 (w 0 5) it_v
  simp only [mS, wI_3, wI_4, wI_5] at h
  exact h
theorem it_cap {li k : Nat} (hM : MW D cy bd (wI w li k) mm S H) (hli : li < 4) (hk : k < w 0 li) : nI k < nI (w 1 li) := by
  have h := hM.unI
  have h1 := h.2.2.1.1 li hli (by omega)
  have h2 := h.2.2.1.2.1 li
  exact nI_lt (by omega) (by omega)
end IA
theorem qJx35411_hasNext_aae02_w1 : Cond.fieldLink RJx35411 25 "java/util/ArrayList$Itr" "cursor" "I" ∈ wsJx35411_hasNext_aae02 := List.mem_of_getElem? (i := 1) rfl
theorem qJx35411_hasNext_aae02_w2 : Cond.fieldLink RJx35411 1 "java/util/ArrayList$Itr" "this$0" "Ljava/util/ArrayList;" ∈ wsJx35411_hasNext_aae02 := List.mem_of_getElem? (i := 2) rfl
theorem iJx35411_hasNext_aae02_Jx35411 : ∀ w ∈ wsJx354110, w ∈ wsJx35411_hasNext_aae02 := fun _ h => (List.mem_cons_of_mem _ (List.mem_append_left _ (List.mem_append_right _ h)))
theorem iJx35411_hasNext_aae02_Jx4a65c : ∀ w ∈ wsJx4a65c0, w ∈ wsJx35411_hasNext_aae02 := fun _ h => (List.mem_cons_of_mem _ (List.mem_append_right _ h))
set_option maxRecDepth 100000 in
set_option maxHeartbeats 4000000 in
theorem kJx35411_hasNext_aae02 (l : Launch) (D : va_G) (cy : Nat → ClassId) (e0 : Nat) {bd w : Nat → Nat → Nat} (g : Md) (S : Int64) (sz : Nat) (li k : Nat) (hli : li < 4) : Met l yJx35411_hasNext_aae02 wsJx35411_hasNext_aae02 ({ frames := 0, cells := 0, slots := 0, locals := 0 } : Room) (va_Pc [.ref (bd 6 (w 0 5))] (mPre D cy e0 bd (wI w li k) g S sz)) (mQi D cy bd (wI w li k) ((if nI k = nI (w 0 li) then 0 else 1)) g S sz) 0 0 (mA bd (wI w li k) sz) := by
  refine q_start (cc := cJx35411_hasNext_aae02) (maxL := 1) (ret := (some .boolean)) (own := RJx35411) (by decide) rfl rfl (Nat.le_of_ble_eq_true rfl) ?_
  intro p e s m below meth c hx hb hr hml hts hown hlocks ⟨hsz, hC, hB⟩ ls hl
  subst hsz
  have hS : va_S (mA bd (wI w li k) s.heap.size) s.heap s.heap [] := va_S.rf
  have hG : mG e0 bd (wI w li k) s.heap.size bd (wI w li k) := mG.rf hB.2.2.1
  have hl : lv_has ls 1 [(0, .ref (bd 6 (w 0 5)))] := hl
  refine lv_aload_n hx hb dJx35411_hasNext_aae02_0 rfl (lv_at hl 0 rfl) ?_
  refine gt_m6_0 hx hb hts iJx35411_hasNext_aae02_Jx35411 hown hB.1 hC it_v qJx35411_hasNext_aae02_w1 dJx35411_hasNext_aae02_1 ?_
  refine q_val (v := nI k) (by rw [wI_4]) ?_
  refine lv_aload_n hx hb dJx35411_hasNext_aae02_4 rfl (lv_at hl 0 rfl) ?_
  refine gt_m6_3 hx hb hts iJx35411_hasNext_aae02_Jx35411 hown hB.1 hC it_v qJx35411_hasNext_aae02_w2 dJx35411_hasNext_aae02_5 ?_
  refine m_stk (st' := [.ref (bd 1 li), .int (nI k)]) (by rw [wI_3]) ?_
  refine gt_m1_2N hx hb hts iJx35411_hasNext_aae02_Jx4a65c hown hB hC hli dJx35411_hasNext_aae02_8 ?_
  refine q_val (v := nI (w 0 li)) (by rw [wI_0 hli]) ?_
  refine lv_icmp_eq (tgt := 18) hx hb dJx35411_hasNext_aae02_11 (by decide) (fun c1 => ?_) (fun c1 => ?_)
  · skip
    refine lv_iconst (v := 0) hx hb dJx35411_hasNext_aae02_18 (by decide) ?_
    exact m_retz hx hb hr hG hC hS mEq_rf (by rw [if_pos c1]) rfl hlocks dJx35411_hasNext_aae02_19
  · skip
    refine lv_iconst (v := 1) hx hb dJx35411_hasNext_aae02_14 (by decide) ?_
    refine lv_goto (tgt := 19) hx hb dJx35411_hasNext_aae02_15 (by decide) ?_
    exact m_retz hx hb hr hG hC hS mEq_rf (by rw [if_neg c1]) rfl hlocks dJx35411_hasNext_aae02_19
theorem qJx35411_next_0502b_w1 : Cond.fieldLink RJx35411 25 "java/util/ArrayList$Itr" "cursor" "I" ∈ wsJx35411_next_0502b := List.mem_of_getElem? (i := 1) rfl
theorem qJx35411_next_0502b_w2 : Cond.fieldLink RJx35411 1 "java/util/ArrayList$Itr" "this$0" "Ljava/util/ArrayList;" ∈ wsJx35411_next_0502b := List.mem_of_getElem? (i := 2) rfl
theorem qJx35411_next_0502b_w3 : Cond.fieldLink RJx35411 37 "java/util/ArrayList" "elementData" "[Ljava/lang/Object;" ∈ wsJx35411_next_0502b := List.mem_of_getElem? (i := 3) rfl
theorem qJx35411_next_0502b_w4 : Cond.fieldLink RJx35411 13 "java/util/ArrayList$Itr" "lastRet" "I" ∈ wsJx35411_next_0502b := List.mem_of_getElem? (i := 4) rfl
theorem iJx35411_next_0502b_Jx35411 : ∀ w ∈ wsJx354110, w ∈ wsJx35411_next_0502b := fun _ h => (List.mem_cons_of_mem _ (List.mem_append_left _ (List.mem_append_right _ h)))
theorem iJx35411_next_0502b_Jx4a65c : ∀ w ∈ wsJx4a65c0, w ∈ wsJx35411_next_0502b := fun _ h => (List.mem_cons_of_mem _ (List.mem_append_right _ h))
set_option maxRecDepth 100000 in
set_option maxHeartbeats 4000000 in
theorem kJx35411_next_0502b (l : Launch) (D : va_G) (cy : Nat → ClassId) (e0 : Nat) {bd w : Nat → Nat → Nat} (g : Md) (S : Int64) (sz : Nat) (li k : Nat) (hli : li < 4) (hkn : k < w 0 li) : Met l yJx35411_next_0502b wsJx35411_next_0502b ({ frames := 1, cells := 0, slots := 0, locals := 20 } : Room) (va_Pc [.ref (bd 6 (w 0 5))] (mPre D cy e0 bd (wI w li k) g S sz)) (va_Qr (fun _ : Unit => True) (fun _ b t => b = bd 3 (rb li + k) ∧ MW D cy bd (wI w li (k + 1)) g S t.heap) (mA bd (wI w li k) sz)) 0 0 (mA bd (wI w li k) sz) := by
  refine q_start (cc := cJx35411_next_0502b) (maxL := 3) (ret := (some (.object "java/lang/Object"))) (own := RJx35411) (by decide) rfl rfl (Nat.le_of_ble_eq_true rfl) ?_
  intro p e s m below meth c hx hb hr hml hts hown hlocks ⟨hsz, hC, hB⟩ ls hl
  subst hsz
  have hS : va_S (mA bd (wI w li k) s.heap.size) s.heap s.heap [] := va_S.rf
  have hG : mG e0 bd (wI w li k) s.heap.size bd (wI w li k) := mG.rf hB.2.2.1
  have hl : lv_has ls 3 [(0, .ref (bd 6 (w 0 5)))] := hl
  refine lv_aload_n hx hb dJx35411_next_0502b_0 rfl (lv_at hl 0 rfl) ?_
  refine m_callVv (As := []) (κ := 6) (i := w 0 5) it_v rfl ⟨_, rfl⟩ rfl ⟨hx, hb, hml, hown, hts⟩ (kJx35411_checkForComodification_da8c8 l D cy e0 (bd := bd) (w := (wI w li k)) g S _ (w 0 5) it_v (show wI w li k 5 (w 0 5) = wI w li k 6 (wI w li k 3 (w 0 5)) by rw [wI_5, wI_3]; rfl)) (cwV 0 hts gJx35411_next_0502b_Jx35411_checkForComodification_da8c8 rfl rfl rfl (by decide +kernel) ⟨Nat.le_of_ble_eq_true rfl, Nat.le_of_ble_eq_true rfl⟩) hB hG hC hS rfl hl.1 (Nat.le_of_ble_eq_true rfl) dJx35411_next_0502b_1 ⟨Nat.le_of_ble_eq_true rfl, Nat.le_of_ble_eq_true rfl⟩ (fun H locs hC hS => ?_)
  refine lv_aload_n hx hb dJx35411_next_0502b_4 rfl (lv_at hl 0 rfl) ?_
  refine gt_m6_0 hx hb hts iJx35411_next_0502b_Jx35411 hown hB.1 hC it_v qJx35411_next_0502b_w1 dJx35411_next_0502b_5 ?_
  refine q_val (v := nI k) (by rw [wI_4]) ?_
  refine lv_istore_n (lv' := [(1, .int (nI k)), (0, .ref (bd 6 (w 0 5)))]) hx hb dJx35411_next_0502b_8 rfl hl (by decide) rfl (fun ls hl => ?_)
  refine lv_iload_n hx hb dJx35411_next_0502b_9 rfl (lv_at hl 0 rfl) ?_
  refine lv_aload_n hx hb dJx35411_next_0502b_10 rfl (lv_at hl 1 rfl) ?_
  refine gt_m6_3 hx hb hts iJx35411_next_0502b_Jx35411 hown hB.1 hC it_v qJx35411_next_0502b_w2 dJx35411_next_0502b_11 ?_
  refine m_stk (st' := [.ref (bd 1 li), .int (nI k)]) (by rw [wI_3]) ?_
  refine gt_m1_2N hx hb hts iJx35411_next_0502b_Jx4a65c hown hB hC hli dJx35411_next_0502b_14 ?_
  refine q_val (v := nI (w 0 li)) (by rw [wI_0 hli]) ?_
  refine lv_icmp_lt (tgt := 28) hx hb dJx35411_next_0502b_17 (by decide) (fun _ => ?_) (fun c => absurd (nI_lt hkn (by have := w0_20 hC.1 hli; have e : wI w li k 0 li = w 0 li := wI_0 hli; omega)) c)
  refine lv_aload_n hx hb dJx35411_next_0502b_28 rfl (lv_at hl 1 rfl) ?_
  refine gt_m6_3 hx hb hts iJx35411_next_0502b_Jx35411 hown hB.1 hC it_v qJx35411_next_0502b_w2 dJx35411_next_0502b_29 ?_
  refine m_stk (st' := [.ref (bd 1 li)]) (by rw [wI_3]) ?_
  refine gt_m1_1 hx hb hts iJx35411_next_0502b_Jx4a65c hown hB.1 hC hli qJx35411_next_0502b_w3 dJx35411_next_0502b_32 ?_
  refine lv_astore_n (lv' := [(2, .ref (bd 2 li)), (1, .int (nI k)), (0, .ref (bd 6 (w 0 5)))]) hx hb dJx35411_next_0502b_35 rfl hl (by decide) rfl (fun ls hl => ?_)
  refine lv_iload_n hx hb dJx35411_next_0502b_36 rfl (lv_at hl 1 rfl) ?_
  refine lv_aload_n hx hb dJx35411_next_0502b_37 rfl (lv_at hl 0 rfl) ?_
  refine ln_m2 hx hb hB.1 hC hli (by rw [wI_0 hli]; exact Nat.lt_of_le_of_lt (Nat.zero_le _) hkn) dJx35411_next_0502b_38 ?_
  refine lv_icmp_lt (tgt := 50) hx hb dJx35411_next_0502b_39 (by decide) (fun _ => ?_) (fun c => absurd (it_cap hC hli hkn) c)
  refine lv_aload_n hx hb dJx35411_next_0502b_50 rfl (lv_at hl 2 rfl) ?_
  refine lv_iload_n hx hb dJx35411_next_0502b_51 rfl (lv_at hl 1 rfl) ?_
  refine lv_iconst (v := 1) hx hb dJx35411_next_0502b_52 (by decide) ?_
  refine lv_iadd hx hb dJx35411_next_0502b_53 ?_
  refine q_val (v := nI (k + 1)) (nI_1 _) ?_
  have hat := it_at hC
  refine q_put hx hb hts iJx35411_next_0502b_Jx35411 tyJx35411 tyJx35411_ok nmJx35411 hown hB.1 hat hS (hG.2.1 6 (w 0 5) it_v) rfl 0 (by decide) qJx35411_next_0502b_w1 rfl rfl rfl rfl (Nat.le_of_ble_eq_true rfl) dJx35411_next_0502b_54 (fun H locs hat _ hO0 hS => ?_)
  refine lv_aload_n hx hb dJx35411_next_0502b_57 rfl (lv_at hl 0 rfl) ?_
  refine lv_aload_n hx hb dJx35411_next_0502b_58 rfl (lv_at hl 2 rfl) ?_
  refine lv_iload_n hx hb dJx35411_next_0502b_59 rfl (lv_at hl 1 rfl) ?_
  refine lv_dup_x1 hx hb dJx35411_next_0502b_60 rfl rfl ?_
  refine q_put hx hb hts iJx35411_next_0502b_Jx35411 tyJx35411 tyJx35411_ok nmJx35411 hown hB.1 hat hS (hG.2.1 6 (w 0 5) it_v) rfl 1 (by decide) qJx35411_next_0502b_w4 rfl rfl rfl rfl (Nat.le_of_ble_eq_true rfl) dJx35411_next_0502b_61 (fun H locs hat _ hO1 hS => ?_)
  have hC := MW.nextI hC hat (fun q h => (hO1 q h).trans (hO0 q h))
  have hG : mG e0 bd (wI w li k) s.heap.size bd (wI w li k) := hG
  refine la_m2 hx hb hB.1 hC hli (k := k) (nk_clamp (show k < wI w li (k + 1) 0 li by rw [wI_0 hli]; exact hkn) (Nat.le_trans (w0_20 hC.1 hli) (by decide))) (nk_in (show k < wI w li (k + 1) 0 li by rw [wI_0 hli]; exact hkn) (Nat.le_trans (w0_20 hC.1 hli) (by decide))) dJx35411_next_0502b_64 ?_
  exact W.aret hx hb hr (Or.inl ⟨_, rfl⟩) (Or.inr ⟨_, rfl⟩) (fun t ht hW => ⟨⟨(), _, rfl, trivial, rfl, MW.at ht hC⟩, hS.F ht⟩) hS.2.2 dJx35411_next_0502b_65
