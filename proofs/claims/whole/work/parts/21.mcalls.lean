/-! ===== the reference's methods: starts, ends, calls; rows made for a while ===== -/
theorem mA_of {bd w : Nat → Nat → Nat} {sz q : Nat} (h : mP bd w q) : mA bd w sz q := Or.inl h
theorem mA_no {bd w : Nat → Nat → Nat} {sz q : Nat} (h : q < sz) (h2 : ¬ mP bd w q) : ¬ mA bd w sz q := fun z => z.elim h2 (fun z => absurd h (Nat.not_lt.mpr z))
/-- every cell of the world as it is now was the method's, or is new -/
def mH (bd w : Nat → Nat → Nat) (sz : Nat) (bd1 w1 : Nat → Nat → Nat) : Prop := ∀ κ i : Nat, mV w1 κ i → mA bd w sz (bd1 κ i)
theorem mH.rf {bd w : Nat → Nat → Nat} {sz : Nat} : mH bd w sz bd w := fun κ i h => Or.inl ⟨κ, i, h, rfl⟩
theorem MX.go {e0 : Nat} {bd w bd1 w1 : Nat → Nat → Nat} {s U : State} {H : Heap} {locs : List Loc} (h : MX e0 bd w s s.heap) (hA : mH bd w s.heap.size bd1 w1) (hS : va_S (mA bd w s.heap.size) s.heap H locs) (hvm : s.vm.Alike U.vm) : MX e0 bd1 w1 U H := by
  have h2 : va_Z "java/util/ArrayList" "DEFAULTCAPACITY_EMPTY_ELEMENTDATA" "[Ljava/lang/Object;" (.ref e0) (mP bd1 w1) s H := by
    obtain ⟨cf, kf, fi, f, a, cell, q1, q2, q3, q4, q5, q6, q7, q8⟩ := h.1
    have ha : a < s.heap.size := (Array.getElem?_eq_some_iff.mp q5).1
    refine ⟨cf, kf, fi, f, a, cell, q1, q2, q3, q4, ?_, q6, q7, ?_⟩
    · rw [hS.2.1 a ha (mA_no ha q8)]; exact q5
    · rintro ⟨κ, i, hv, rfl⟩
      exact mA_no ha q8 (hA κ i hv)
  obtain ⟨cell, h1, t2, t3, t4, t5, t6, t7⟩ := h.2
  have he : e0 < s.heap.size := (Array.getElem?_eq_some_iff.mp h1).1
  refine ⟨va_Z.moved hvm h2, va_T.moved hvm ⟨cell, by rw [hS.2.1 e0 he (mA_no he t7)]; exact h1, t2, t3, t4, t5, t6, ?_⟩⟩
  rintro ⟨κ, i, hv, e⟩
  exact mA_no he t7 (by rw [e]; exact hA κ i hv)
theorem MU.mk {D : va_G} {cy : Nat → ClassId} {e0 : Nat} {bd w bd1 w1 : Nat → Nat → Nat} {mm : Md} {S : Int64} {s U : State} {H : Heap} {locs : List Loc} (hB : MB D cy e0 bd w s) (hM : MW D cy bd1 w1 mm S H) (hA : mH bd w s.heap.size bd1 w1) (he : mE e0 bd1 w1) (hS : va_S (mA bd w s.heap.size) s.heap H locs) (hU : U.heap = H) (hW : s.WarmedH U.vm) : MU D cy e0 bd1 w1 mm S U :=
  ⟨by rw [hU]; exact hM, va_K.moved hW.alike hB.1, hB.2.1.warm hW, he, by rw [hU]; exact hB.2.2.2.1.go hA hS hW.alike, hB.2.2.2.2.moved hW.alike⟩
theorem mPre_blind {D : va_G} {cy : Nat → ClassId} {e0 : Nat} {bd w : Nat → Nat → Nat} {mm : Md} {S : Int64} {sz : Nat} {av : List Value} : FrameBlind (va_Pc av (mPre D cy e0 bd w mm S sz)) := fun a U f mk q =>
  ⟨q.1, q.2.1, q.2.2.1, va_K.moved (u := U) (Vm.Alike.refl U.vm) q.2.2.2.1, qB.warm (s := U) (State.WarmedH.refl U) q.2.2.2.2.1, q.2.2.2.2.2.1, ⟨va_Z.moved (u := U) (Vm.Alike.refl U.vm) q.2.2.2.2.2.2.1.1, va_T.moved (u := U) (Vm.Alike.refl U.vm) q.2.2.2.2.2.2.1.2⟩, qF.moved (u := U) (Vm.Alike.refl U.vm) q.2.2.2.2.2.2.2⟩
theorem mA_in {bd w bd1 w1 : Nat → Nat → Nat} {sz sz2 q : Nat} (hA : mH bd w sz bd1 w1) (h : sz ≤ sz2) (z : mA bd1 w1 sz2 q) : mA bd w sz q := z.elim (fun ⟨κ, i, hv, e⟩ => by rw [e]; exact hA κ i hv) (fun z => Or.inr (Nat.le_trans h z))
/-- the same numbers in what is there -/
def mEq (w : Nat → Nat → Nat) (m m2 : Md) : Prop := (∀ k, m 0 k = m2 0 k) ∧ ∀ r, rV w r → ∀ k, m r k = m2 r k
/-- the world (bd1, w1) is (bd, w) and rows or iterators made since -/
def mD (bd w bd1 w1 : Nat → Nat → Nat) : Prop := (∀ κ i, mV w κ i → mV w1 κ i ∧ bd1 κ i = bd κ i) ∧ (∀ i, i < 4 → w1 0 i = w 0 i) ∧ (∀ i, w1 1 i = w 1 i) ∧ (∀ t, t < w 0 4 → w1 2 t = w 2 t) ∧ (∀ t, t < w 0 5 → w1 3 t = w 3 t ∧ w1 4 t = w 4 t ∧ w1 5 t = w 5 t) ∧ w 0 4 ≤ w1 0 4 ∧ (∀ i, bd1 2 i = bd 2 i) ∧ ∀ i, w1 6 i = w 6 i
theorem mD.rf {bd w : Nat → Nat → Nat} : mD bd w bd w := ⟨fun _ _ h => ⟨h, rfl⟩, fun _ _ => rfl, fun _ => rfl, fun _ _ => rfl, fun _ _ => ⟨rfl, rfl, rfl⟩, Nat.le_refl _, fun _ => rfl, fun _ => rfl⟩
theorem mS_eq {cy : Nat → ClassId} {bd w bd1 w1 : Nat → Nat → Nat} {m m2 : Md} {S : Int64} {κ i : Nat} (hwB : wB w) (hc4 : ∀ i, i < w 0 5 → w 3 i < 4) (hD : mD bd w bd1 w1) (hq : mEq w m m2) (hv : mV w κ i) : mS cy bd1 w1 m S κ i = mS cy bd w m2 S κ i := by
  obtain ⟨d1, d2, d3, d4, d5, d6, d7, d8⟩ := hD
  obtain ⟨q1, q3⟩ := hq
  have r1 : ∀ κ i, mV w κ i → bd1 κ i = bd κ i := fun κ i h => (d1 κ i h).2
  match κ, hv with
  | 0, hv =>
    simp only [mS, q1, r1 1 0 (show 0 < 4 by decide), r1 1 1 (show 1 < 4 by decide), r1 1 2 (show 2 < 4 by decide), r1 1 3 (show 3 < 4 by decide), r1 4 0 rfl, r1 5 0 rfl, r1 3 360 (show rV w 360 from by unfold rV; omega)]
  | 1, hv =>
    have hv : i < 4 := hv
    simp only [mS, d8 i, d2 i hv, d7 i]
  | 2, hv =>
    have hv : i < 4 ∧ 0 < w 0 i := hv
    simp only [mS, d2 i hv.1, d3 i]
    refine congrArg (fun f => (Sum.inl (cy 7, (w 1 i, q_opt f)) : va_E)) (funext fun k => ?_)
    by_cases hk : k < w 0 i
    · rw [if_pos hk, if_pos hk, r1 3 (rb i + k) ?_]
      show rV w (rb i + k)
      obtain ⟨hi, -⟩ := hv
      match i, hi, hk with
      | 0, _, hk => show rV w (100 + k); unfold rV; omega
      | 1, _, hk => show rV w (200 + k); unfold rV; omega
      | 2, _, hk => show rV w (303 + k); unfold rV; omega
      | 3, _, hk => show rV w (308 + k); unfold rV; omega
    · rw [if_neg hk, if_neg hk]
  | 3, hv =>
    have hv : rV w i := hv
    have hr : rl w1 i = rl w i := by
      unfold rl
      by_cases h4 : i < 400
      · simp [h4]
      · unfold rV at hv
        unfold wB at hwB
        simp only [h4, if_false]
        rw [d4 (i - 400) (by omega)]
    simp only [mS, hr, q3 i hv]
  | 4, hv =>
    simp only [mS]
    refine congrArg (fun f => (Sum.inl (cy 8, (3, q_opt f)) : va_E)) (funext fun k => ?_)
    by_cases hk : k < 3
    · rw [if_pos hk, if_pos hk, r1 3 (300 + k) (show rV w (300 + k) from by unfold rV; omega)]
    · rw [if_neg hk, if_neg hk]
  | 5, hv =>
    simp only [mS]
    refine congrArg (fun f => (Sum.inl (cy 8, (12, q_opt f)) : va_E)) (funext fun k => ?_)
    by_cases hk : k < 12
    · rw [if_pos hk, if_pos hk, r1 3 (340 + k) (show rV w (340 + k) from by unfold rV; omega)]
    · rw [if_neg hk, if_neg hk]
  | 6, hv =>
    have hv : i < w 0 5 := hv
    simp only [mS, (d5 i hv).1, (d5 i hv).2.1, (d5 i hv).2.2, r1 1 (w 3 i) (show w 3 i < 4 from hc4 i hv)]
theorem MW.drop {D : va_G} {cy : Nat → ClassId} {bd w bd1 w1 : Nat → Nat → Nat} {m m2 : Md} {S : Int64} {H : Heap} (hM : MW D cy bd1 w1 m S H) (hD : mD bd w bd1 w1) (hq : mEq w m m2) : MW D cy bd w m2 S H := by
  obtain ⟨hw, hI, ⟨hc1, hc2, hc3⟩, hC⟩ := hM
  obtain ⟨d1, d2, d3, d4, d5, d6, d7, d8⟩ := id hD
  have hwB : wB w := by
    obtain ⟨a, b, c, d, f⟩ := hw
    rw [d2 0 (by decide)] at a
    rw [d2 1 (by decide)] at b
    rw [d2 2 (by decide)] at c
    rw [d2 3 (by decide)] at d
    exact ⟨a, b, c, d, Nat.le_trans d6 f⟩
  have hc4 : ∀ i, i < w 0 5 → w 3 i < 4 := fun i hi => by
    have h := hc3 i (d1 6 i hi).1
    rw [(d5 i hi).1] at h
    exact h
  refine ⟨hwB, fun κ i κ' i' h h' h2 => hI κ i κ' i' (d1 κ i h).1 (d1 κ' i' h').1 (by rw [(d1 κ i h).2, (d1 κ' i' h').2]; exact h2), ⟨fun i hi h0 => by have := hc1 i hi (by rw [d2 i hi]; exact h0); rw [d2 i hi, d3 i] at this; exact this, fun i => by rw [← d3 i]; exact hc2 i, hc4⟩, ?_⟩
  intro κ i hv
  have h0 := hC κ i (d1 κ i hv).1
  rw [(d1 κ i hv).2] at h0
  rw [← mS_eq hwB hc4 hD hq hv]
  exact h0
/-- a row made for a while; an iterator made, its cursor at k -/
def wN (w : Nat → Nat → Nat) (N : Nat) : Nat → Nat → Nat := fun a b => if a = 0 ∧ b = 4 then w 0 4 + 1 else if a = 2 ∧ b = w 0 4 then N else w a b
def wI (w : Nat → Nat → Nat) (li k : Nat) : Nat → Nat → Nat := fun a b => if a = 0 ∧ b = 5 then w 0 5 + 1 else if a = 3 ∧ b = w 0 5 then li else if a = 4 ∧ b = w 0 5 then k else if a = 5 ∧ b = w 0 5 then w 6 li else w a b
theorem rV_N {w : Nat → Nat → Nat} {N i : Nat} : rV (wN w N) i ↔ rV w i ∨ i = 400 + w 0 4 := by
  have e0 : wN w N 0 0 = w 0 0 := rfl
  have e1 : wN w N 0 1 = w 0 1 := rfl
  have e2 : wN w N 0 2 = w 0 2 := rfl
  have e3 : wN w N 0 3 = w 0 3 := rfl
  have e4 : wN w N 0 4 = w 0 4 + 1 := rfl
  unfold rV
  rw [e0, e1, e2, e3, e4]
  omega
theorem wN_mD {bd bd2 w : Nat → Nat → Nat} {N : Nat} (E : ∀ κ i, mV w κ i → bd2 κ i = bd κ i) (E2 : ∀ i, bd2 2 i = bd 2 i) : mD bd w bd2 (wN w N) := by
  refine ⟨fun κ i h => ⟨?_, E κ i h⟩, fun i hi => ?_, fun i => ?_, fun t ht => ?_, fun t ht => ⟨?_, ?_, ?_⟩, ?_, E2, fun i => ?_⟩
  · match κ, h with
    | 0, h => exact h
    | 1, h => exact h
    | 2, h =>
      have h : i < 4 ∧ 0 < w 0 i := h
      refine ⟨h.1, ?_⟩
      unfold wN
      rw [if_neg (by omega), if_neg (by omega)]
      exact h.2
    | 3, h =>
      exact rV_N.mpr (Or.inl h)
    | 4, h => exact h
    | 5, h => exact h
    | 6, h => exact h
  · unfold wN; rw [if_neg (by omega), if_neg (by omega)]
  · unfold wN; rw [if_neg (by omega), if_neg (by omega)]
  · unfold wN; rw [if_neg (by omega), if_neg (by omega)]
  · unfold wN; rw [if_neg (by omega), if_neg (by omega)]
  · unfold wN; rw [if_neg (by omega), if_neg (by omega)]
  · unfold wN; rw [if_neg (by omega), if_neg (by omega)]
  · show w 0 4 ≤ w 0 4 + 1; omega
  · unfold wN; rw [if_neg (by omega), if_neg (by omega)]
theorem wN_V {w : Nat → Nat → Nat} {N κ i : Nat} (h : mV (wN w N) κ i) : mV w κ i ∨ (κ = 3 ∧ i = 400 + w 0 4) := by
  match κ, h with
  | 0, h => exact Or.inl h
  | 1, h => exact Or.inl h
  | 2, h =>
    have h : i < 4 ∧ 0 < wN w N 0 i := h
    refine Or.inl ⟨h.1, ?_⟩
    have h2 := h.2
    unfold wN at h2
    rw [if_neg (by omega), if_neg (by omega)] at h2
    exact h2
  | 3, h =>
    exact (rV_N.mp h).imp id (fun e => ⟨rfl, e⟩)
  | 4, h => exact Or.inl h
  | 5, h => exact Or.inl h
  | 6, h => exact Or.inl h
theorem mEq_rf {w : Nat → Nat → Nat} {m : Md} : mEq w m m := ⟨fun _ => rfl, fun _ _ _ => rfl⟩
theorem mEq_tmp {w : Nat → Nat → Nat} {a b : Md} {r k : Nat} {v : Int32} (h : mEq w a b) (hw : wB w) (hr : 400 + w 0 4 ≤ r) : mEq w (u2 a r k v) b := by
  refine ⟨fun q => ?_, fun q hq z => ?_⟩
  · rw [u2_nr (by omega)]; exact h.1 q
  · rw [u2_nr (by unfold rV at hq; unfold wB at hw; omega)]; exact h.2 q hq z
theorem mEq_rz {w : Nat → Nat → Nat} {a b : Md} {r : Nat} {f : Nat → Int32} (h : mEq w a b) (hw : wB w) (hr : 400 + w 0 4 ≤ r) : mEq w (rz a r f) b := by
  refine ⟨fun q => ?_, fun q hq z => ?_⟩
  · rw [rz_nr (by omega)]; exact h.1 q
  · rw [rz_nr (by unfold rV at hq; unfold wB at hw; omega)]; exact h.2 q hq z
theorem mEq_tr {w : Nat → Nat → Nat} {a b c : Md} (h : mEq w a b) (h2 : mEq w b c) : mEq w a c := ⟨fun k => (h.1 k).trans (h2.1 k), fun r hr k => (h.2 r hr k).trans (h2.2 r hr k)⟩
theorem mEq_of {w : Nat → Nat → Nat} {a b : Md} (h : a = b) : mEq w a b := by rw [h]; exact mEq_rf
theorem MW.new {D : va_G} {cy : Nat → ClassId} {bd w : Nat → Nat → Nat} {m : Md} {S : Int64} {H H1 : Heap} {N : Nat} {f : Nat → Int32} (hM : MW D cy bd w m S H) (h4 : w 0 4 < 50) (hat : va_at D vwCl (H.size, .inl (cy 0, (N, q_ints f))) H1) (hk : ∀ q : Nat, q < H.size → H1[q]? = H[q]?) : ∃ bd2 : Nat → Nat → Nat, (∀ κ i, mV w κ i → bd2 κ i = bd κ i) ∧ (∀ i, bd2 2 i = bd 2 i) ∧ bd2 3 (400 + w 0 4) = H.size ∧ MW D cy bd2 (wN w N) (rz m (400 + w 0 4) f) S H1 := by
  have hno : ∀ κ i, mV w κ i → ¬ (κ = 3 ∧ i = 400 + w 0 4) := by
    rintro κ i hv ⟨rfl, rfl⟩
    have hv : rV w (400 + w 0 4) := hv
    have hw := hM.1
    unfold rV at hv
    unfold wB at hw
    omega
  refine ⟨fun κ i => if κ = 3 ∧ i = 400 + w 0 4 then H.size else bd κ i, fun κ i hv => if_neg (hno κ i hv), fun i => if_neg (by omega), if_pos ⟨rfl, rfl⟩, ?_⟩
  have E : ∀ κ i, mV w κ i → (fun κ i => if κ = 3 ∧ i = 400 + w 0 4 then H.size else bd κ i) κ i = bd κ i := fun κ i hv => if_neg (hno κ i hv)
  have hD := wN_mD (N := N) E (fun i => if_neg (by omega))
  obtain ⟨hw, hI, ⟨hc1, hc2, hc3⟩, hC⟩ := hM
  have h0 : ∀ i, i < 4 → wN w N 0 i = w 0 i := hD.2.1
  refine ⟨?_, ?_, ⟨fun i hi h => ?_, fun i => ?_, fun i hi => ?_⟩, ?_⟩
  · obtain ⟨a, b, c, d, f⟩ := hw
    refine ⟨?_, ?_, ?_, ?_, ?_⟩
    · rw [h0 0 (by decide)]; exact a
    · rw [h0 1 (by decide)]; exact b
    · rw [h0 2 (by decide)]; exact c
    · rw [h0 3 (by decide)]; exact d
    · show w 0 4 + 1 ≤ 50; omega
  · intro κ i κ' i' h h' e
    rcases wN_V h with h | ⟨rfl, rfl⟩ <;> rcases wN_V h' with h' | ⟨rfl, rfl⟩
    · rw [E _ _ h, E _ _ h'] at e
      exact hI _ _ _ _ h h' e
    · rw [E _ _ h] at e
      have e : bd κ i = H.size := e.trans (if_pos ⟨rfl, rfl⟩)
      have := (hC κ i h).lt
      omega
    · rw [E _ _ h'] at e
      have e : bd κ' i' = H.size := e.symm.trans (if_pos ⟨rfl, rfl⟩)
      have := (hC κ' i' h').lt
      omega
    · exact ⟨rfl, rfl⟩
  · rw [h0 i hi] at h ⊢
    rw [hD.2.2.1 i]
    exact hc1 i hi h
  · rw [hD.2.2.1 i]; exact hc2 i
  · have hi : i < w 0 5 := hi
    rw [(hD.2.2.2.2.1 i hi).1]; exact hc3 i hi
  · intro κ i hv
    rcases wN_V hv with h | ⟨rfl, rfl⟩
    · have e := mS_eq (cy := cy) (S := S) (m := rz m (400 + w 0 4) f) (m2 := m) hw hc3 hD (mEq_rz mEq_rf hw (Nat.le_refl _)) h
      rw [e, E κ i h]
      exact (hC κ i h).kept (hk _ (hC κ i h).lt)
    · have e : mS cy (fun κ i => if κ = 3 ∧ i = 400 + w 0 4 then H.size else bd κ i) (wN w N) (rz m (400 + w 0 4) f) S 3 (400 + w 0 4) = .inl (cy 0, (N, q_ints f)) := by
        have r : rl (wN w N) (400 + w 0 4) = N := by
          unfold rl
          rw [if_neg (by omega), if_neg (by omega), if_neg (by omega), if_neg (by omega), Nat.add_sub_cancel_left]
          unfold wN
          rw [if_neg (by omega), if_pos ⟨rfl, rfl⟩]
        simp only [mS, r, rz_eq]
      rw [e]
      show va_at D vwCl ((if 3 = 3 ∧ 400 + w 0 4 = 400 + w 0 4 then H.size else bd 3 (400 + w 0 4)), _) H1
      rw [if_pos ⟨rfl, rfl⟩]
      exact hat

theorem mD.tr {bd w bd1 w1 bd2 w2 : Nat → Nat → Nat} (h : mD bd w bd1 w1) (g : mD bd1 w1 bd2 w2) : mD bd w bd2 w2 := by
  obtain ⟨d1, d2, d3, d4, d5, d6, d7, d8⟩ := h
  obtain ⟨e1, e2, e3, e4, e5, e6, e7, e8⟩ := g
  refine ⟨fun κ i q => ⟨(e1 κ i (d1 κ i q).1).1, ((e1 κ i (d1 κ i q).1).2).trans (d1 κ i q).2⟩, fun i hi => (e2 i hi).trans (d2 i hi), fun i => (e3 i).trans (d3 i), fun t ht => (e4 t (Nat.lt_of_lt_of_le ht d6)).trans (d4 t ht), fun t ht => ?_, Nat.le_trans d6 e6, fun i => (e7 i).trans (d7 i), fun i => (e8 i).trans (d8 i)⟩
  have h1 := d5 t ht
  have h2 := e5 t (d1 6 t ht).1
  exact ⟨h2.1.trans h1.1, h2.2.1.trans h1.2.1, h2.2.2.trans h1.2.2⟩
/-- the world of now against the one at the method's start -/
def mG (e0 : Nat) (bd w : Nat → Nat → Nat) (sz : Nat) (bd1 w1 : Nat → Nat → Nat) : Prop := mD bd w bd1 w1 ∧ mH bd w sz bd1 w1 ∧ mE e0 bd1 w1
/-- what a call asks of it -/
abbrev mG0 (e0 : Nat) (bd w : Nat → Nat → Nat) (sz : Nat) (bd1 w1 : Nat → Nat → Nat) : Prop := mH bd w sz bd1 w1 ∧ mE e0 bd1 w1
theorem mG.rf {e0 : Nat} {bd w : Nat → Nat → Nat} {sz : Nat} (h : mE e0 bd w) : mG e0 bd w sz bd w := ⟨mD.rf, mH.rf, h⟩
theorem mD.mE {e0 : Nat} {bd w bd1 w1 : Nat → Nat → Nat} (h : mD bd w bd1 w1) (he : mE e0 bd w) : mE e0 bd1 w1 := fun i hi h0 => (h.2.2.2.2.2.2.1 i).trans (he i hi (by rw [← h.2.1 i hi]; exact h0))
theorem mG.new {e0 sz a N : Nat} {bd w bd1 w1 bd2 : Nat → Nat → Nat} (h : mG e0 bd w sz bd1 w1) (E : ∀ κ i, mV w1 κ i → bd2 κ i = bd1 κ i) (E2 : ∀ i, bd2 2 i = bd1 2 i) (ha : bd2 3 (400 + w1 0 4) = a) (hz : sz ≤ a) : mG e0 bd w sz bd2 (wN w1 N) := by
  have hD := wN_mD (N := N) E E2
  refine ⟨h.1.tr hD, fun κ i hv => ?_, hD.mE h.2.2⟩
  rcases wN_V hv with q | ⟨rfl, rfl⟩
  · rw [E κ i q]; exact h.2.1 κ i q
  · rw [ha]; exact Or.inr hz
/-- what a made row's place is -/
def mN (bd w bd2 : Nat → Nat → Nat) (a sz : Nat) : Prop := (∀ κ i, mV w κ i → bd2 κ i = bd κ i) ∧ (∀ i, bd2 2 i = bd 2 i) ∧ bd2 3 (400 + w 0 4) = a ∧ sz ≤ a
section GC
variable {p : Program} {l : Launch} {e : Env} {R : Room} {s : State} {m : MethodId} {args : Array Value} {below : List Frame} {meth : Method} {c : Code} {H : Heap} {locs : List Loc} {cells slots : Nat} {Q : State → Prop}
variable {cc : ByteArray} {pc : Nat} {ls : Array Slot} {rest : List Value} {D : va_G} {cy : Nat → ClassId} {e0 : Nat} {bd w bd1 w1 : Nat → Nat → Nat} {mm m2 : Md} {S S2 : Int64}
variable {Ts ws ws' : List Cond} {bytes : ByteArray} {nL maxL index n mc ms : Nat} {own : String} {y : MethodName} {ret : Option FieldType} {rm : Room}

theorem m_stk {st st' : List Value} (h : st = st') (k : W p l e R s m args below meth c H locs cells slots Q (F0 m pc ls st')) : W p l e R s m args below meth c H locs cells slots Q (F0 m pc ls st) := by rw [h]; exact k
theorem m_newarr {A : Nat → Prop} {H0 : Heap} (hx : p.tables.exec = Jvm.exec) (hb : c.code = cc) (harr : (Cond.arrayClass (newarray.typeOf .int)).before args s = true) (hK : va_K D vwCl (qtys cy) s) (hM : MW D cy bd w mm S H) (hS : va_S A H0 H locs) (h4 : w 0 4 < 50) {n : Int32} (N : Nat) (hn : ¬ n < 0) (hN : n.toNatClampNeg = N) (hby : N * componentBytes (newarray.typeOf .int) ≤ 536870912) (hR : cells + 1 ≤ R.cells ∧ slots + N ≤ R.slots) (hdg : decode cc pc = .ok (.newarray .int, 2))
    (kk : ∀ (bd2 : Nat → Nat → Nat) (H1 : Heap), mN bd w bd2 H.size H.size → MW D cy bd2 (wN w N) (rz mm (400 + w 0 4) (fun _ => 0)) S H1 → va_S A H0 H1 locs → W p l e R s m args below meth c H1 locs (cells + 1) (slots + N) Q (F0 m (pc + 2) ls (.ref (bd2 3 (400 + w 0 4)) :: rest))) : W p l e R s m args below meth c H locs cells slots Q (F0 m pc ls (.int n :: rest)) := by
  refine va_newaK hx hb harr rfl hdg rfl hn hN hby hR.1 hR.2 rfl fun H1 cA h1 h2 h3 h5 h6 => ?_
  have hcA : cA = cy 0 := by
    have q := (hK.2 0 _ rfl).2
    have q : s.vm.findClass ("[" ++ FieldType.int.toString) = some (cy 0) := q
    exact Option.some.inj (h6.symm.trans q)
  subst hcA
  have hat : va_at D vwCl (H.size, .inl (cy 0, (N, q_ints (fun _ => 0)))) H1 := h1
  obtain ⟨bd2, e1, e2, e3, e4⟩ := hM.new h4 hat h3
  have hS1 : va_S A H0 H1 locs := ⟨Nat.le_trans hS.1 (by rw [h2]; omega), fun q a b => by rw [h3 q (Nat.lt_of_lt_of_le a hS.1)]; exact hS.2.1 q a b, hS.2.2⟩
  have k := kk bd2 H1 ⟨e1, e2, e3, Nat.le_refl _⟩ e4 hS1
  rw [e3] at k
  exact k
end GC
