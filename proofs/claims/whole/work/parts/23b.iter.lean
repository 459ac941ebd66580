/-! ===== the lists' iterators ===== -/
section IT
variable {p : Program} {l : Launch} {e : Env} {R : Room} {s : State} {m : MethodId} {args : Array Value} {below : List Frame} {meth : Method} {c : Code} {H : Heap} {locs : List Loc} {cells slots : Nat} {Q : State → Prop}
variable {cc : ByteArray} {pc : Nat} {ls : Array Slot} {rest : List Value} {D : va_G} {cy : Nat → ClassId} {e0 : Nat} {bd w bd1 w1 : Nat → Nat → Nat} {mm m2 : Md} {S S2 : Int64}
variable {Ts ws ws' : List Cond} {bytes : ByteArray} {nL maxL index n mc ms : Nat} {own : String} {y : MethodName} {ret : Option FieldType} {rm : Room}

theorem wI_3 {li k : Nat} : wI w li k 3 (w 0 5) = li := by
  unfold wI
  rw [if_neg (by omega), if_pos ⟨rfl, rfl⟩]
theorem wI_4 {li k : Nat} : wI w li k 4 (w 0 5) = k := by
  unfold wI
  rw [if_neg (by omega), if_neg (by omega), if_pos ⟨rfl, rfl⟩]
theorem wI_5 {li k : Nat} : wI w li k 5 (w 0 5) = w 6 li := by
  unfold wI
  rw [if_neg (by omega), if_neg (by omega), if_neg (by omega), if_pos ⟨rfl, rfl⟩]
theorem wI_o {li k a i : Nat} (h : i ≠ w 0 5) (ha : a = 3 ∨ a = 4 ∨ a = 5) : wI w li k a i = w a i := by
  unfold wI
  rw [if_neg (by omega), if_neg (by omega), if_neg (by omega), if_neg (by omega)]
def mNI (bd w bd2 : Nat → Nat → Nat) (a sz : Nat) : Prop := (∀ κ i, mV w κ i → bd2 κ i = bd κ i) ∧ (∀ i, bd2 2 i = bd 2 i) ∧ bd2 6 (w 0 5) = a ∧ sz ≤ a
theorem wI_V {li k κ i : Nat} (h : mV (wI w li k) κ i) : mV w κ i ∨ (κ = 6 ∧ i = w 0 5) := by
  match κ, h with
  | 0, h => exact Or.inl h
  | 1, h => exact Or.inl h
  | 2, h =>
    have h : i < 4 ∧ 0 < wI w li k 0 i := h
    refine Or.inl ⟨h.1, ?_⟩
    have h2 := h.2
    unfold wI at h2
    rw [if_neg (by omega), if_neg (by omega), if_neg (by omega), if_neg (by omega)] at h2
    exact h2
  | 3, h => exact Or.inl h
  | 4, h => exact Or.inl h
  | 5, h => exact Or.inl h
  | 6, h =>
    have h : i < w 0 5 + 1 := h
    rcases Nat.lt_or_ge i (w 0 5) with q | q
    · exact Or.inl q
    · exact Or.inr ⟨rfl, by omega⟩
theorem wI_mD {li k : Nat} {bd2 : Nat → Nat → Nat} (E : ∀ κ i, mV w κ i → bd2 κ i = bd κ i) (E2 : ∀ i, bd2 2 i = bd 2 i) : mD bd w bd2 (wI w li k) := by
  refine ⟨fun κ i h => ⟨?_, E κ i h⟩, fun i hi => ?_, fun i => ?_, fun t ht => ?_, fun t ht => ⟨?_, ?_, ?_⟩, ?_, E2, fun i => ?_⟩
  · match κ, h with
    | 0, h => exact h
    | 1, h => exact h
    | 2, h =>
      have h : i < 4 ∧ 0 < w 0 i := h
      refine ⟨h.1, ?_⟩
      unfold wI
      rw [if_neg (by omega), if_neg (by omega), if_neg (by omega), if_neg (by omega)]
      exact h.2
    | 3, h => exact h
    | 4, h => exact h
    | 5, h => exact h
    | 6, h =>
      have h : i < w 0 5 := h
      show i < w 0 5 + 1
      omega
  · unfold wI; rw [if_neg (by omega), if_neg (by omega), if_neg (by omega), if_neg (by omega)]
  · unfold wI; rw [if_neg (by omega), if_neg (by omega), if_neg (by omega), if_neg (by omega)]
  · unfold wI; rw [if_neg (by omega), if_neg (by omega), if_neg (by omega), if_neg (by omega)]
  · exact wI_o (by omega) (by omega)
  · exact wI_o (by omega) (by omega)
  · exact wI_o (by omega) (by omega)
  · exact Nat.le_refl _
  · unfold wI; rw [if_neg (by omega), if_neg (by omega), if_neg (by omega), if_neg (by omega)]
theorem mG.itr {e0 sz a sz2 : Nat} {bd2 : Nat → Nat → Nat} (h : mG e0 bd w sz bd1 w1) (hN : mNI bd1 w1 bd2 a sz2) (hz : sz ≤ sz2) : mG e0 bd w sz bd2 w1 ∧ ∀ li k, mG e0 bd w sz bd2 (wI w1 li k) := by
  have hD : mD bd1 w1 bd2 w1 := ⟨fun κ i q => ⟨q, hN.1 κ i q⟩, fun _ _ => rfl, fun _ => rfl, fun _ _ => rfl, fun _ _ => ⟨rfl, rfl, rfl⟩, Nat.le_refl _, hN.2.1, fun _ => rfl⟩
  refine ⟨⟨h.1.tr hD, fun κ i hv => by rw [hN.1 κ i hv]; exact h.2.1 κ i hv, hD.mE h.2.2⟩, fun li k => ?_⟩
  have hD2 := wI_mD (li := li) (k := k) hN.1 hN.2.1
  refine ⟨h.1.tr hD2, fun κ i hv => ?_, hD2.mE h.2.2⟩
  rcases wI_V hv with q | ⟨rfl, rfl⟩
  · rw [hN.1 κ i q]; exact h.2.1 κ i q
  · rw [hN.2.2.1]; exact Or.inr (Nat.le_trans hz hN.2.2.2)
/-- behind the loop over a list: without its iterator -/
theorem MW.unI {li k : Nat} (h : MW D cy bd (wI w li k) mm S H) : MW D cy bd w mm S H := h.drop (wI_mD (fun _ _ _ => rfl) (fun _ => rfl)) mEq_rf
theorem mS_wI {li k κ i : Nat} (hD : mD bd w bd1 (wI w li k)) (hwB : wB w) (hc4 : ∀ i, i < w 0 5 → w 3 i < 4) (hv : mV w κ i) : mS cy bd1 (wI w li k) mm S κ i = mS cy bd w mm S κ i := mS_eq hwB hc4 hD mEq_rf hv
/-- an iterator among the world's cells -/
theorem MW.newI {li b : Nat} {H1 : Heap} (hM : MW D cy bd w mm S H) (hli : li < 4) (hat : va_at D vwCl (b, .inr (0, [.int (nI 0), .int (nI 0 - 1), .int (nI (w 6 li)), .ref (bd 1 li)])) H1) (hb : ∀ κ i, mV w κ i → bd κ i ≠ b) (hk : ∀ κ i, mV w κ i → H1[bd κ i]? = H[bd κ i]?) : ∃ bd2 : Nat → Nat → Nat, (∀ κ i, mV w κ i → bd2 κ i = bd κ i) ∧ (∀ i, bd2 2 i = bd 2 i) ∧ bd2 6 (w 0 5) = b ∧ MW D cy bd2 (wI w li 0) mm S H1 := by
  have hno : ∀ κ i, mV w κ i → ¬ (κ = 6 ∧ i = w 0 5) := by
    rintro κ i hv ⟨rfl, rfl⟩
    exact Nat.lt_irrefl _ (show w 0 5 < w 0 5 from hv)
  refine ⟨fun κ i => if κ = 6 ∧ i = w 0 5 then b else bd κ i, fun κ i hv => if_neg (hno κ i hv), fun i => if_neg (by omega), if_pos ⟨rfl, rfl⟩, ?_⟩
  have E : ∀ κ i, mV w κ i → (fun κ i => if κ = 6 ∧ i = w 0 5 then b else bd κ i) κ i = bd κ i := fun κ i hv => if_neg (hno κ i hv)
  have hD := wI_mD (li := li) (k := 0) E (fun i => if_neg (by omega))
  obtain ⟨hw, hI, ⟨hc1, hc2, hc3⟩, hC⟩ := hM
  refine ⟨hw, ?_, ⟨fun i hi h => ?_, fun i => ?_, fun i hi => ?_⟩, ?_⟩
  · intro κ i κ' i' h h' e
    rcases wI_V h with h | ⟨rfl, rfl⟩ <;> rcases wI_V h' with h' | ⟨rfl, rfl⟩
    · rw [E _ _ h, E _ _ h'] at e
      exact hI _ _ _ _ h h' e
    · rw [E _ _ h] at e
      exact absurd (e.trans (if_pos ⟨rfl, rfl⟩)) (hb κ i h)
    · rw [E _ _ h'] at e
      exact absurd (e.symm.trans (if_pos ⟨rfl, rfl⟩)) (hb κ' i' h')
    · exact ⟨rfl, rfl⟩
  · rw [hD.2.1 i hi] at h ⊢
    rw [hD.2.2.1 i]
    exact hc1 i hi h
  · rw [hD.2.2.1 i]; exact hc2 i
  · have hi : i < w 0 5 + 1 := hi
    by_cases q : i = w 0 5
    · rw [q, wI_3]; exact hli
    · rw [wI_o q (Or.inl rfl)]; exact hc3 i (by omega)
  · intro κ i hv
    rcases wI_V hv with h | ⟨rfl, rfl⟩
    · have e := mS_wI (cy := cy) (S := S) (mm := mm) hD hw hc3 h
      rw [e, E κ i h]
      exact (hC κ i h).kept (hk κ i h)
    · have e : mS cy (fun κ i => if κ = 6 ∧ i = w 0 5 then b else bd κ i) (wI w li 0) mm S 6 (w 0 5) = .inr (0, [.int (nI 0), .int (nI 0 - 1), .int (nI (w 6 li)), .ref (bd 1 li)]) := by
        simp only [mS, wI_3, wI_4, wI_5, E 1 li hli]
      rw [e]
      show va_at D vwCl ((if 6 = 6 ∧ w 0 5 = w 0 5 then b else bd 6 (w 0 5)), _) H1
      rw [if_pos ⟨rfl, rfl⟩]
      exact hat
/-- the cursor one further -/
theorem MW.nextI {li k : Nat} {H1 : Heap} (hM : MW D cy bd (wI w li k) mm S H) (hat : va_at D vwCl (bd 6 (w 0 5), .inr (0, [.int (nI (k + 1)), .int (nI k), .int (nI (w 6 li)), .ref (bd 1 li)])) H1) (hk : ∀ q, q ≠ bd 6 (w 0 5) → H1[q]? = H[q]?) : MW D cy bd (wI w li (k + 1)) mm S H1 := by
  have h1 := hM
  have h0 : MW D cy bd w mm S H := hM.unI
  obtain ⟨hw, hI, ⟨hc1, hc2, hc3⟩, hC⟩ := hM
  refine ⟨hw, hI, ⟨hc1, hc2, fun i hi => ?_⟩, ?_⟩
  · have hi' : i < w 0 5 + 1 := hi
    have h := hc3 i hi
    by_cases q : i = w 0 5
    · rw [q, wI_3] at h; rw [q, wI_3]; exact h
    · rw [wI_o q (Or.inl rfl)] at h; rw [wI_o q (Or.inl rfl)]; exact h
  · intro κ i hv
    rcases wI_V hv with h | ⟨rfl, rfl⟩
    · rw [mS_wI (wI_mD (fun _ _ _ => rfl) (fun _ => rfl)) h0.1 h0.2.2.1.2.2 h]
      refine (h0.2.2.2 κ i h).kept (hk _ (fun e => ?_))
      have hv2 : mV (wI w li k) 6 (w 0 5) := show w 0 5 < w 0 5 + 1 by omega
      have hv3 : mV (wI w li k) κ i := ((wI_mD (li := li) (k := k) (bd := bd) (bd2 := bd) (fun _ _ _ => rfl) (fun _ => rfl)).1 κ i h).1
      obtain ⟨rfl, rfl⟩ := hI _ _ _ _ hv3 hv2 e
      exact Nat.lt_irrefl _ (show w 0 5 < w 0 5 from h)
    · have e : mS cy bd (wI w li (k + 1)) mm S 6 (w 0 5) = .inr (0, [.int (nI (k + 1)), .int (nI k), .int (nI (w 6 li)), .ref (bd 1 li)]) := by
        simp only [mS, wI_3, wI_4, wI_5, nI_succ]
        congr 4
        exact congrArg Value.int (by rw [Int32.add_sub_cancel])
      rw [e]
      exact hat
end IT
