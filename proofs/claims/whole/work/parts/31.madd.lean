/-! ===== ArrayList.add of a row made ===== -/
def nB (li : Nat) : Nat := match li with
  | 0 => 6
  | 1 => 20
  | 2 => 5
  | _ => 12
def rN (li : Nat) : Nat := match li with
  | 0 => 4
  | 1 => 6
  | _ => 23
/-- a list's room behind add -/
def cD (w : Nat → Nat → Nat) (li : Nat) : Nat := if w 0 li = 0 then 10 else if w 0 li < w 1 li then w 1 li else if w 1 li = 10 then 15 else 22
def capI (w : Nat → Nat → Nat) (li : Nat) : Prop := w 0 li = 0 ∨ w 1 li = 10 ∨ w 1 li = 15 ∨ w 1 li = 22
def w6 (w : Nat → Nat → Nat) (li : Nat) : Nat → Nat → Nat := fun a b => if a = 6 ∧ b = li then w 6 li + 1 else w a b
def wF (w : Nat → Nat → Nat) (li d : Nat) : Nat → Nat → Nat := fun p q => if p = 0 ∧ q = li then w 0 li + 1 else if p = 0 ∧ q = 4 then w 0 4 - 1 else if p = 1 ∧ q = li then d else w p q
def bdF (bd w : Nat → Nat → Nat) (li a : Nat) : Nat → Nat → Nat := fun κ i => if κ = 3 ∧ i = rb li + w 0 li then bd 3 (400 + (w 0 4 - 1)) else if κ = 2 ∧ i = li then a else bd κ i
section AW
variable {p : Program} {l : Launch} {e : Env} {R : Room} {s : State} {m : MethodId} {args : Array Value} {below : List Frame} {meth : Method} {c : Code} {H : Heap} {locs : List Loc} {cells slots : Nat} {Q : State → Prop}
variable {cc : ByteArray} {pc : Nat} {ls : Array Slot} {rest : List Value} {D : va_G} {cy : Nat → ClassId} {e0 : Nat} {bd w bd1 w1 : Nat → Nat → Nat} {mm m2 : Md} {S S2 : Int64}
variable {Ts ws ws' : List Cond} {bytes : ByteArray} {nL maxL index n mc ms : Nat} {own : String} {y : MethodName} {ret : Option FieldType} {rm : Room}

theorem MW.mod {li : Nat} {H1 : Heap} (hM : MW D cy bd w mm S H) (hli : li < 4) (hat : va_at D vwCl (bd 1 li, .inr (1, [.int (nI (w 6 li + 1)), .ref (bd 2 li), .int (nI (w 0 li))])) H1) (hO : ∀ q, q ≠ bd 1 li → H1[q]? = H[q]?) : MW D cy bd (w6 w li) mm S H1 := by
  obtain ⟨hw, hI, hc, hC⟩ := hM
  refine ⟨hw, hI, hc, ?_⟩
  intro κ i hv
  have hv : mV w κ i := hv
  by_cases q : κ = 1 ∧ i = li
  · obtain ⟨rfl, rfl⟩ := q
    have e : w6 w i 6 i = w 6 i + 1 := by unfold w6; rw [if_pos ⟨rfl, rfl⟩]
    have e0 : w6 w i 0 i = w 0 i := rfl
    simp only [mS, e, e0]
    exact hat
  · have h := (hC κ i hv).kept (hO _ (fun e => q (by obtain ⟨rfl, rfl⟩ := hI _ _ _ _ hv (show mV w 1 li from hli) e; exact ⟨rfl, rfl⟩)))
    match κ, hv, h, q with
    | 0, _, h, _ => exact h
    | 1, _, h, q =>
      have e : w6 w li 6 i = w 6 i := by unfold w6; rw [if_neg (by omega)]
      have e0 : w6 w li 0 i = w 0 i := rfl
      simp only [mS, e, e0] at h ⊢
      exact h
    | 2, _, h, _ => exact h
    | 3, _, h, _ => exact h
    | 4, _, h, _ => exact h
    | 5, _, h, _ => exact h
    | 6, _, h, _ => exact h
theorem row_b {li : Nat} (hli : li < 4) (hnb : w 0 li + 1 ≤ nB li) : 100 ≤ rb li + w 0 li ∧ rb li + w 0 li < 320 := by
  have h4 : li = 0 ∨ li = 1 ∨ li = 2 ∨ li = 3 := by omega
  rcases h4 with rfl | rfl | rfl | rfl
  · have e : rb 0 = 100 := rfl
    have e2 : nB 0 = 6 := rfl
    omega
  · have e : rb 1 = 200 := rfl
    have e2 : nB 1 = 20 := rfl
    omega
  · have e : rb 2 = 303 := rfl
    have e2 : nB 2 = 5 := rfl
    omega
  · have e : rb 3 = 308 := rfl
    have e2 : nB 3 = 12 := rfl
    omega
theorem row_no {li : Nat} (hli : li < 4) (hw : wB w) (hnb : w 0 li + 1 ≤ nB li) : ¬ rV w (rb li + w 0 li) := by
  have h4 : li = 0 ∨ li = 1 ∨ li = 2 ∨ li = 3 := by omega
  unfold rV
  unfold wB at hw
  rcases h4 with rfl | rfl | rfl | rfl
  · have e : rb 0 = 100 := rfl
    rw [e]; omega
  · have e : rb 1 = 200 := rfl
    rw [e]; omega
  · have e : rb 2 = 303 := rfl
    have e2 : nB 2 = 5 := rfl
    rw [e]; omega
  · have e : rb 3 = 308 := rfl
    rw [e]; omega
theorem row_ne {li i k : Nat} (hli : li < 4) (hi : i < 4) (hne : i ≠ li) (hw : wB w) (hnb : w 0 li + 1 ≤ nB li) (hk : k < w 0 i) : rb i + k ≠ rb li + w 0 li := by
  have h4 : li = 0 ∨ li = 1 ∨ li = 2 ∨ li = 3 := by omega
  have i4 : i = 0 ∨ i = 1 ∨ i = 2 ∨ i = 3 := by omega
  have b0 : rb 0 = 100 := rfl
  have b1 : rb 1 = 200 := rfl
  have b2 : rb 2 = 303 := rfl
  have b3 : rb 3 = 308 := rfl
  have n0 : nB 0 = 6 := rfl
  have n1 : nB 1 = 20 := rfl
  have n2 : nB 2 = 5 := rfl
  have n3 : nB 3 = 12 := rfl
  unfold wB at hw
  rcases h4 with rfl | rfl | rfl | rfl <;> rcases i4 with rfl | rfl | rfl | rfl <;> omega
theorem row_len {li : Nat} (hli : li < 4) (hnb : w 0 li + 1 ≤ nB li) : rl w (rb li + w 0 li) = rN li := by
  have h4 : li = 0 ∨ li = 1 ∨ li = 2 ∨ li = 3 := by omega
  unfold rl
  rcases h4 with rfl | rfl | rfl | rfl
  · have e : rb 0 = 100 := rfl
    have e2 : nB 0 = 6 := rfl
    rw [e, if_pos (by omega)]; rfl
  · have e : rb 1 = 200 := rfl
    have e2 : nB 1 = 20 := rfl
    rw [e, if_neg (by omega), if_pos (by omega)]; rfl
  · have e : rb 2 = 303 := rfl
    have e2 : nB 2 = 5 := rfl
    rw [e, if_neg (by omega), if_neg (by omega), if_pos (by omega)]; rfl
  · have e : rb 3 = 308 := rfl
    have e2 : nB 3 = 12 := rfl
    rw [e, if_neg (by omega), if_neg (by omega), if_pos (by omega)]; rfl
theorem wF_V {li d κ i : Nat} (hli : li < 4) (hw : wB w) (hnb : w 0 li + 1 ≤ nB li) (h4 : 0 < w 0 4) (h : mV (wF w li d) κ i) : (κ = 3 ∧ i = rb li + w 0 li) ∨ (κ = 2 ∧ i = li) ∨ (mV w κ i ∧ ¬ (κ = 3 ∧ i = 400 + (w 0 4 - 1)) ∧ ¬ (κ = 3 ∧ i = rb li + w 0 li) ∧ ¬ (κ = 2 ∧ i = li)) := by
  match κ, h with
  | 0, h => exact Or.inr (Or.inr ⟨h, by omega, by omega, by omega⟩)
  | 1, h => exact Or.inr (Or.inr ⟨h, by omega, by omega, by omega⟩)
  | 2, h =>
    have h : i < 4 ∧ 0 < wF w li d 0 i := h
    by_cases q : i = li
    · exact Or.inr (Or.inl ⟨rfl, q⟩)
    · refine Or.inr (Or.inr ⟨⟨h.1, ?_⟩, by omega, by omega, by omega⟩)
      have h2 := h.2
      have h1 := h.1
      unfold wF at h2
      rw [if_neg (by omega), if_neg (by omega), if_neg (by omega)] at h2
      exact h2
  | 3, h =>
    have h : rV (wF w li d) i := h
    by_cases q : i = rb li + w 0 li
    · exact Or.inl ⟨rfl, q⟩
    · refine Or.inr (Or.inr ?_)
      have e4 : wF w li d 0 4 = w 0 4 - 1 := by unfold wF; rw [if_neg (by omega), if_pos ⟨rfl, rfl⟩]
      have l4 : li = 0 ∨ li = 1 ∨ li = 2 ∨ li = 3 := by omega
      have hwb := hw
      unfold wB at hwb
      have key : rV w i ∧ i ≠ 400 + (w 0 4 - 1) := by
        unfold rV at h ⊢
        rw [e4] at h
        rcases l4 with rfl | rfl | rfl | rfl
        · have er : rb 0 = 100 := rfl
          have e0 : wF w 0 d 0 0 = w 0 0 + 1 := rfl
          have e1 : wF w 0 d 0 1 = w 0 1 := rfl
          have e2 : wF w 0 d 0 2 = w 0 2 := rfl
          have e3 : wF w 0 d 0 3 = w 0 3 := rfl
          have n2 : nB 0 = 6 := rfl
          rw [e0, e1, e2, e3] at h
          rw [er] at q
          omega
        · have er : rb 1 = 200 := rfl
          have e0 : wF w 1 d 0 0 = w 0 0 := rfl
          have e1 : wF w 1 d 0 1 = w 0 1 + 1 := rfl
          have e2 : wF w 1 d 0 2 = w 0 2 := rfl
          have e3 : wF w 1 d 0 3 = w 0 3 := rfl
          have n2 : nB 1 = 20 := rfl
          rw [e0, e1, e2, e3] at h
          rw [er] at q
          omega
        · have er : rb 2 = 303 := rfl
          have e0 : wF w 2 d 0 0 = w 0 0 := rfl
          have e1 : wF w 2 d 0 1 = w 0 1 := rfl
          have e2 : wF w 2 d 0 2 = w 0 2 + 1 := rfl
          have e3 : wF w 2 d 0 3 = w 0 3 := rfl
          have n2 : nB 2 = 5 := rfl
          rw [e0, e1, e2, e3] at h
          rw [er] at q
          omega
        · have er : rb 3 = 308 := rfl
          have e0 : wF w 3 d 0 0 = w 0 0 := rfl
          have e1 : wF w 3 d 0 1 = w 0 1 := rfl
          have e2 : wF w 3 d 0 2 = w 0 2 := rfl
          have e3 : wF w 3 d 0 3 = w 0 3 + 1 := rfl
          have n2 : nB 3 = 12 := rfl
          rw [e0, e1, e2, e3] at h
          rw [er] at q
          omega
      exact ⟨key.1, fun z => key.2 z.2, fun z => q z.2, fun z => absurd z.1 (by decide)⟩
  | 4, h => exact Or.inr (Or.inr ⟨h, by omega, by omega, by omega⟩)
  | 5, h => exact Or.inr (Or.inr ⟨h, by omega, by omega, by omega⟩)
  | 6, h =>
    have h : i < wF w li d 0 5 := h
    have e : wF w li d 0 5 = w 0 5 := by unfold wF; rw [if_neg (by omega), if_neg (by omega), if_neg (by omega)]
    rw [e] at h
    exact Or.inr (Or.inr ⟨h, by omega, by omega, by omega⟩)
theorem MW.addRow {li d a : Nat} {H1 : Heap} (hM : MW D cy bd w mm S H) (hli : li < 4) (hnb : w 0 li + 1 ≤ nB li) (h4 : 0 < w 0 4) (hlen : w 2 (w 0 4 - 1) = rN li) (hd : w 0 li < d) (hd2 : d ≤ 64) (hl : va_at D vwCl (bd 1 li, .inr (1, [.int (nI (w 6 li)), .ref a, .int (nI (w 0 li + 1))])) H1) (ha : va_at D vwCl (a, .inl (cy 7, (d, q_opt (va_up (fun j => if j < w 0 li then some (bd 3 (rb li + j)) else none) (w 0 li) (some (bd 3 (400 + (w 0 4 - 1)))))))) H1) (hO : ∀ κ i, mV w κ i → ¬ (κ = 1 ∧ i = li) → ¬ (κ = 2 ∧ i = li) → va_at D vwCl (bd κ i, mS cy bd w mm S κ i) H1) (hfr : ∀ κ i, mV w κ i → ¬ (κ = 2 ∧ i = li) → bd κ i ≠ a) : MW D cy (bdF bd w li a) (wF w li d) (rz mm (rb li + w 0 li) (fun j => mm (400 + (w 0 4 - 1)) j)) S H1 := by
  obtain ⟨hw, hI, ⟨hc1, hc2, hc3⟩, hC⟩ := hM
  have hwb := hw
  unfold wB at hwb
  obtain ⟨R1, R2⟩ := row_b hli hnb
  have Rno := row_no hli hw hnb
  have hTv : rV w (400 + (w 0 4 - 1)) := by unfold rV; omega
  have hTv2 : mV w 3 (400 + (w 0 4 - 1)) := hTv
  have E : ∀ κ i, ¬ (κ = 3 ∧ i = rb li + w 0 li) → ¬ (κ = 2 ∧ i = li) → bdF bd w li a κ i = bd κ i := fun κ i h h2 => by unfold bdF; rw [if_neg h, if_neg h2]
  have E3 : bdF bd w li a 3 (rb li + w 0 li) = bd 3 (400 + (w 0 4 - 1)) := by unfold bdF; rw [if_pos ⟨rfl, rfl⟩]
  have E2 : bdF bd w li a 2 li = a := by unfold bdF; rw [if_neg (by omega), if_pos ⟨rfl, rfl⟩]
  have z0 : wF w li d 0 li = w 0 li + 1 := by unfold wF; rw [if_pos ⟨rfl, rfl⟩]
  have z4 : wF w li d 0 4 = w 0 4 - 1 := by unfold wF; rw [if_neg (by omega), if_pos ⟨rfl, rfl⟩]
  have z : ∀ i, i < 4 → i ≠ li → wF w li d 0 i = w 0 i := fun i hi h => by unfold wF; rw [if_neg (by omega), if_neg (by omega), if_neg (by omega)]
  have z5 : wF w li d 0 5 = w 0 5 := by unfold wF; rw [if_neg (by omega), if_neg (by omega), if_neg (by omega)]
  have zd : wF w li d 1 li = d := by unfold wF; rw [if_neg (by omega), if_neg (by omega), if_pos ⟨rfl, rfl⟩]
  have z1 : ∀ i, i ≠ li → wF w li d 1 i = w 1 i := fun i h => by unfold wF; rw [if_neg (by omega), if_neg (by omega), if_neg (by omega)]
  have zo : ∀ p i, 2 ≤ p → wF w li d p i = w p i := fun p i h => by unfold wF; rw [if_neg (by omega), if_neg (by omega), if_neg (by omega)]
  have R0 : ∀ r K, r ≠ rb li + w 0 li → rz mm (rb li + w 0 li) (fun j => mm (400 + (w 0 4 - 1)) j) r K = mm r K := fun r K h => rz_nr h
  refine ⟨?_, ?_, ⟨fun i hi h => ?_, fun i => ?_, fun i hi => ?_⟩, ?_⟩
  · have n0 : nB 0 = 6 := rfl
    have n1 : nB 1 = 20 := rfl
    have n2 : nB 2 = 5 := rfl
    have n3 : nB 3 = 12 := rfl
    have l4 : li = 0 ∨ li = 1 ∨ li = 2 ∨ li = 3 := by omega
    unfold wB
    rw [z4]
    rcases l4 with rfl | rfl | rfl | rfl
    · rw [z0, z 1 (by decide) (by decide), z 2 (by decide) (by decide), z 3 (by decide) (by decide)]; omega
    · rw [z0, z 0 (by decide) (by decide), z 2 (by decide) (by decide), z 3 (by decide) (by decide)]; omega
    · rw [z0, z 0 (by decide) (by decide), z 1 (by decide) (by decide), z 3 (by decide) (by decide)]; omega
    · rw [z0, z 0 (by decide) (by decide), z 1 (by decide) (by decide), z 2 (by decide) (by decide)]; omega
  · intro κ i κ' i' h h' e
    rcases wF_V hli hw hnb h4 h with ⟨rfl, rfl⟩ | ⟨rfl, rfl⟩ | ⟨p1, n1, n2, n3⟩ <;> rcases wF_V hli hw hnb h4 h' with ⟨rfl, rfl⟩ | ⟨rfl, rfl⟩ | ⟨p2, m1, m2, m3⟩
    · exact ⟨rfl, rfl⟩
    · rw [E3, E2] at e; exact absurd e (hfr 3 _ hTv2 (by omega))
    · rw [E3, E κ' i' m2 m3] at e; exact absurd (hI _ _ _ _ p2 hTv2 e.symm) m1
    · rw [E3, E2] at e; exact absurd e.symm (hfr 3 _ hTv2 (by omega))
    · exact ⟨rfl, rfl⟩
    · rw [E2, E κ' i' m2 m3] at e; exact absurd e.symm (hfr _ _ p2 m3)
    · rw [E3, E κ i n2 n3] at e; exact absurd (hI _ _ _ _ p1 hTv2 e) n1
    · rw [E2, E κ i n2 n3] at e; exact absurd e (hfr _ _ p1 n3)
    · rw [E κ i n2 n3, E κ' i' m2 m3] at e; exact hI _ _ _ _ p1 p2 e
  · by_cases q : i = li
    · subst q; rw [z0, zd]; omega
    · rw [z i hi q] at h ⊢; rw [z1 i q]; exact hc1 i hi h
  · by_cases q : i = li
    · subst q; rw [zd]; exact hd2
    · rw [z1 i q]; exact hc2 i
  · rw [z5] at hi
    rw [zo 3 i (by decide)]; exact hc3 i hi
  · intro κ i hv
    rcases wF_V hli hw hnb h4 hv with ⟨rfl, rfl⟩ | ⟨rfl, rfl⟩ | ⟨hv, n1, n2, n3⟩
    · have h := hO 3 _ hTv2 (by omega) (by omega)
      have el : rl (wF w li d) (rb li + w 0 li) = rN li := by
        rw [← row_len (w := w) hli hnb]
        unfold rl
        by_cases q1 : rb li + w 0 li < 200
        · rw [if_pos q1, if_pos q1]
        · by_cases q2 : rb li + w 0 li < 300
          · rw [if_neg q1, if_pos q2, if_neg q1, if_pos q2]
          · rw [if_neg q1, if_neg q2, if_pos (by omega), if_neg q1, if_neg q2, if_pos (by omega)]
      have e1 : rl w (400 + (w 0 4 - 1)) = rN li := by
        unfold rl
        rw [if_neg (by omega), if_neg (by omega), if_neg (by omega), if_neg (by omega), Nat.add_sub_cancel_left]
        exact hlen
      simp only [mS, rz_eq, el]
      simp only [mS, e1] at h
      rw [E3]
      exact h
    · simp only [mS]
      rw [E2, zd, z0]
      have e : (fun K => if K < w 0 i + 1 then some (bdF bd w i a 3 (rb i + K)) else none) = va_up (fun j => if j < w 0 i then some (bd 3 (rb i + j)) else none) (w 0 i) (some (bd 3 (400 + (w 0 4 - 1)))) := by
        funext K
        unfold va_up
        by_cases hK : K = w 0 i
        · subst hK
          rw [if_pos (by omega), if_pos rfl, E3]
        · rw [if_neg hK]
          show _ = if K < w 0 i then some (bd 3 (rb i + K)) else none
          by_cases hK2 : K < w 0 i
          · rw [if_pos (by omega), if_pos hK2, E _ _ (by omega) (by omega)]
          · rw [if_neg (by omega), if_neg hK2]
      rw [e]
      exact ha
    · match κ, hv, n1, n2, n3 with
      | 0, hv, _, _, _ =>
        have hv : i = 0 := hv
        subst hv
        have h := hO 0 0 rfl (by omega) (by omega)
        have e : ∀ r K, r = 0 → rz mm (rb li + w 0 li) (fun j => mm (400 + (w 0 4 - 1)) j) r K = mm r K := fun r K h => R0 r K (by omega)
        simp only [mS, e 0 _ rfl] at h ⊢
        rw [E 0 0 (by omega) (by omega), E 1 0 (by omega) (by omega), E 1 1 (by omega) (by omega), E 4 0 (by omega) (by omega), E 1 2 (by omega) (by omega), E 1 3 (by omega) (by omega), E 5 0 (by omega) (by omega), E 3 360 (by omega) (by omega)]
        exact h
      | 1, hv, _, _, _ =>
        have hv : i < 4 := hv
        by_cases q : i = li
        · subst q
          simp only [mS]
          rw [E 1 i (by omega) (by omega), E2, z0, zo 6 i (by decide)]
          exact hl
        · have h := hO 1 i hv (by omega) (by omega)
          simp only [mS] at h ⊢
          rw [E 1 i (by omega) (by omega), E 2 i (by omega) (by omega), z i hv q, zo 6 i (by decide)]
          exact h
      | 2, hv, _, _, n3 =>
        have hv : i < 4 ∧ 0 < w 0 i := hv
        have q : i ≠ li := fun e => n3 ⟨rfl, e⟩
        have h := hO 2 i hv (by omega) n3
        simp only [mS] at h ⊢
        rw [E 2 i (by omega) n3, z i hv.1 q, z1 i q]
        have e2 : (fun K => if K < w 0 i then some (bdF bd w li a 3 (rb i + K)) else none) = fun K => if K < w 0 i then some (bd 3 (rb i + K)) else none := by
          funext K
          by_cases hK : K < w 0 i
          · rw [if_pos hK, if_pos hK, E 3 (rb i + K) (fun z => row_ne hli hv.1 q hw hnb hK z.2) (by omega)]
          · rw [if_neg hK, if_neg hK]
        rw [e2]
        exact h
      | 3, hv, _, n2, _ =>
        have hv : rV w i := hv
        have el : rl (wF w li d) i = rl w i := by
          unfold rl
          rw [zo 2 _ (by decide)]
        have h := hO 3 i hv (by omega) (by omega)
        have hi : i ≠ rb li + w 0 li := fun e => n2 ⟨rfl, e⟩
        have e : (fun K => rz mm (rb li + w 0 li) (fun j => mm (400 + (w 0 4 - 1)) j) i K) = fun K => mm i K := funext fun K => R0 i K hi
        simp only [mS, el, e] at h ⊢
        rw [E 3 i n2 (by omega)]
        exact h
      | 4, hv, _, _, _ =>
        have hv : i = 0 := hv
        subst hv
        have h := hO 4 0 rfl (by omega) (by omega)
        have e : (fun K => if K < 3 then some (bdF bd w li a 3 (300 + K)) else none) = fun K => if K < 3 then some (bd 3 (300 + K)) else none := by
          funext K
          by_cases hK : K < 3
          · rw [if_pos hK, if_pos hK, E 3 (300 + K) (fun z => Rno (by rw [← z.2]; unfold rV; omega)) (by omega)]
          · rw [if_neg hK, if_neg hK]
        simp only [mS] at h ⊢
        rw [E 4 0 (by omega) (by omega), e]
        exact h
      | 5, hv, _, _, _ =>
        have hv : i = 0 := hv
        subst hv
        have h := hO 5 0 rfl (by omega) (by omega)
        have e : (fun K => if K < 12 then some (bdF bd w li a 3 (340 + K)) else none) = fun K => if K < 12 then some (bd 3 (340 + K)) else none := by
          funext K
          by_cases hK : K < 12
          · rw [if_pos hK, if_pos hK, E 3 (340 + K) (by omega) (by omega)]
          · rw [if_neg hK, if_neg hK]
        simp only [mS] at h ⊢
        rw [E 5 0 (by omega) (by omega), e]
        exact h
      | 6, hv, _, _, _ =>
        have hv : i < w 0 5 := hv
        have h := hO 6 i hv (by omega) (by omega)
        simp only [mS] at h ⊢
        rw [E 6 i (by omega) (by omega), zo 3 i (by decide), zo 4 i (by decide), zo 5 i (by decide), E 1 (w 3 i) (by omega) (by omega)]
        exact h
end AW
/-- the post of copyOf: a new array -/
abbrev cpQ (D : va_G) (cy : Nat → ClassId) (bd w : Nat → Nat → Nat) (m2 : Md) (S2 : Int64) (N : Nat) (f : Nat → Option Nat) (sz : Nat) := va_Qr (fun _ : Unit => True) (fun _ b t => sz ≤ b ∧ MW D cy bd w m2 S2 t.heap ∧ va_at D vwCl (b, .inl (cy 7, (N, q_opt f))) t.heap) (mA bd w sz)
/-- a list's rows -/
abbrev liF (bd w : Nat → Nat → Nat) (li : Nat) : Nat → Option Nat := fun k => if k < w 0 li then some (bd 3 (rb li + k)) else none
/-- the post of grow: the list's cell has another array -/
abbrev grQ (D : va_G) (cy : Nat → ClassId) (bd w : Nat → Nat → Nat) (m2 : Md) (S2 : Int64) (li d : Nat) (sz : Nat) := va_Qr (fun _ : Unit => True) (fun _ b t => sz ≤ b ∧ (∀ κ i, mV w κ i → ¬ (κ = 1 ∧ i = li) → va_at D vwCl (bd κ i, mS cy bd w m2 S2 κ i) t.heap) ∧ va_at D vwCl (bd 1 li, .inr (1, [.int (nI (w 6 li)), .ref b, .int (nI (w 0 li))])) t.heap ∧ va_at D vwCl (b, .inl (cy 7, (d, q_opt (liF bd w li)))) t.heap) (mA bd w sz)
/-- the posts of add -/
abbrev a3Q (D : va_G) (cy : Nat → ClassId) (bd w : Nat → Nat → Nat) (m2 : Md) (S2 : Int64) (li : Nat) (sz : Nat) := va_Qv (fun _ : Nat => True) (fun a t => mA bd w sz a ∧ MW D cy (bdF bd w li a) (wF w li (cD w li)) (rz m2 (rb li + w 0 li) (fun j => m2 (400 + (w 0 4 - 1)) j)) S2 t.heap) (mA bd w sz)
def wH (w : Nat → Nat → Nat) (li : Nat) : Nat → Nat → Nat := wF (w6 w li) li (cD w li)
abbrev a1Q (D : va_G) (cy : Nat → ClassId) (bd w : Nat → Nat → Nat) (m2 : Md) (S2 : Int64) (li : Nat) (sz : Nat) := va_Qi (fun (r : Int32) (_ : Nat) => r = 1) (fun a t => mA bd w sz a ∧ MW D cy (bdF bd w li a) (wH w li) (rz m2 (rb li + w 0 li) (fun j => m2 (400 + (w 0 4 - 1)) j)) S2 t.heap) (mA bd w sz)
section AC
variable {p : Program} {l : Launch} {e : Env} {R : Room} {s : State} {m : MethodId} {args : Array Value} {below : List Frame} {meth : Method} {c : Code} {H : Heap} {locs : List Loc} {cells slots : Nat} {Q : State → Prop}
variable {cc : ByteArray} {pc : Nat} {ls : Array Slot} {rest : List Value} {D : va_G} {cy : Nat → ClassId} {e0 : Nat} {bd w bd1 w1 : Nat → Nat → Nat} {mm m2 : Md} {S S2 : Int64}
variable {Ts ws ws' : List Cond} {bytes : ByteArray} {nL maxL index n mc ms : Nat} {own : String} {y : MethodName} {ret : Option FieldType} {rm : Room}

theorem q_alenT {cell : Cell} {ty : FieldType} {n : Int32} {a : Nat} (hx : p.tables.exec = Jvm.exec) (hb : c.code = cc) (hcell : H[a]? = some cell) (harr : s.isArrayOf cell ty) (hn : cell.slots.size.toInt32 = n) (hdg : decode cc pc = .ok (.arraylength, 1)) (kk : W p l e R s m args below meth c H locs cells slots Q (F0 m (pc + 1) ls (.int n :: rest))) : W p l e R s m args below meth c H locs cells slots Q (F0 m pc ls (.ref a :: rest)) := W.alen hx hb hcell harr hn rfl rfl hdg kk
theorem m_callSa {N : Nat} {f : Nat → Option Nat}  {As : List Value} (CF : CallFix p m c cc nL s args Ts own) (hMe : Met l y ws rm (va_Pc (As) (mPre D cy e0 bd1 w1 mm S H.size)) (cpQ D cy bd1 w1 m2 S2 N f H.size) mc ms (mA bd1 w1 H.size)) (cw : CallB R s args own index y bytes maxL ret ws rm mc ms n ∧ (Cond.static y).before args s = true) (hB : MB D cy e0 bd w s) (hG : mG0 e0 bd w s.heap.size bd1 w1) (hM : MW D cy bd1 w1 mm S H) (hS : va_S (mA bd w s.heap.size) s.heap H locs) (hn : As.length = n) (hsize : ls.size = nL) (hW : (rest.map fun v => v.category).sum ≤ 8) (hdg : decode cc pc = .ok (.invokestatic index, 3)) (hf : cells + mc ≤ R.cells ∧ slots + ms ≤ R.slots)
    (kk : ∀ (b : Nat) (H1 : Heap) (locs1 : List Loc), H.size ≤ b → MW D cy bd1 w1 m2 S2 H1 → va_at D vwCl (b, .inl (cy 7, (N, q_opt f))) H1 → va_S (mA bd w s.heap.size) s.heap H1 locs1 → W p l e R s m args below meth c H1 locs1 (cells + mc) (slots + ms) Q (F0 m (pc + 3) ls (.ref b :: rest))) : W p l e R s m args below meth c H locs cells slots Q (F0 m pc ls (As.reverse ++ rest)) := by
  have hFc : ∀ q : Nat, mA bd1 w1 H.size q → mA bd w s.heap.size q := fun q h => mA_in hG.1 hS.1 h
  refine va_callr (va_runS (As := As) (rest := rest) CF hMe cw ⟨mPre_blind, fun U hU hW2 => ⟨rfl, by rw [hU], MU.mk hB hM hG.1 hG.2 hS hU hW2⟩⟩ rfl hn hsize rfl (lv_room hW) hdg hf) hS (fun q _ h => hFc q h) hFc (fun u r t H1 locs1 ht hvm hw hBu hz1 hk1 hS1 => ?_)
  obtain ⟨b1, b2, b3⟩ := hBu
  rw [ht] at b2 b3
  exact kk r H1 locs1 b1 b2 b3 hS1
theorem m_callVg {li d : Nat} {C : String} {ci κ i : Nat} {q9 : vw_C} (hv : mV w1 κ i) (hc : vwCl[ci]? = some q9) (hfs : ∃ fs, mS cy bd1 w1 mm S κ i = .inr (ci, fs)) (hCq : q9.1 = C) {As : List Value} (CF : CallFix p m c cc nL s args Ts own) (hMe : Met l y ws rm (va_Pc (.ref (bd1 κ i) :: As) (mPre D cy e0 bd1 w1 mm S H.size)) (grQ D cy bd1 w1 m2 S2 li d H.size) mc ms (mA bd1 w1 H.size)) (cw : CallW R s args own C index y bytes maxL ret ws rm mc ms n) (hB : MB D cy e0 bd w s) (hG : mG0 e0 bd w s.heap.size bd1 w1) (hM : MW D cy bd1 w1 mm S H) (hS : va_S (mA bd w s.heap.size) s.heap H locs) (hn : As.length = n) (hsize : ls.size = nL) (hW : (rest.map fun v => v.category).sum ≤ 8) (hdg : decode cc pc = .ok (.invokevirtual index, 3)) (hf : cells + mc ≤ R.cells ∧ slots + ms ≤ R.slots)
    (kk : ∀ (b : Nat) (H1 : Heap) (locs1 : List Loc), H.size ≤ b → (∀ κ i, mV w1 κ i → ¬ (κ = 1 ∧ i = li) → va_at D vwCl (bd1 κ i, mS cy bd1 w1 m2 S2 κ i) H1) → va_at D vwCl (bd1 1 li, .inr (1, [.int (nI (w1 6 li)), .ref b, .int (nI (w1 0 li))])) H1 → va_at D vwCl (b, .inl (cy 7, (d, q_opt (liF bd1 w1 li)))) H1 → va_S (mA bd w s.heap.size) s.heap H1 locs1 → W p l e R s m args below meth c H1 locs1 (cells + mc) (slots + ms) Q (F0 m (pc + 3) ls (.ref b :: rest))) : W p l e R s m args below meth c H locs cells slots Q (F0 m pc ls (As.reverse ++ .ref (bd1 κ i) :: rest)) := by
  have hFc : ∀ q : Nat, mA bd1 w1 H.size q → mA bd w s.heap.size q := fun q h => mA_in hG.1 hS.1 h
  obtain ⟨fs, hfs⟩ := hfs
  have hat := hM.2.2.2 κ i hv
  rw [hfs] at hat
  have hrec := va_recv hB.1 (q_one hat) hc (q0 := 0) rfl
  rw [hCq] at hrec
  refine va_callr (va_runV (As := As) (rest := rest) CF hMe cw ⟨mPre_blind, hrec, fun U hU hW2 => ⟨rfl, by rw [hU], MU.mk hB hM hG.1 hG.2 hS hU hW2⟩⟩ rfl hn hsize rfl (lv_room hW) hdg hf) hS (fun q _ h => hFc q h) hFc (fun u r t H1 locs1 ht hvm hw hBu hz1 hk1 hS1 => ?_)
  obtain ⟨b1, b2, b3, b4⟩ := hBu
  rw [ht] at b2 b3 b4
  exact kk r H1 locs1 b1 b2 b3 b4 hS1
theorem m_callV3 {li : Nat}  {C : String} {ci κ i : Nat} {q9 : vw_C} (hv : mV w1 κ i) (hc : vwCl[ci]? = some q9) (hfs : ∃ fs, mS cy bd1 w1 mm S κ i = .inr (ci, fs)) (hCq : q9.1 = C) {As : List Value} (CF : CallFix p m c cc nL s args Ts own) (hMe : Met l y ws rm (va_Pc (.ref (bd1 κ i) :: As) (mPre D cy e0 bd1 w1 mm S H.size)) (a3Q D cy bd1 w1 m2 S2 li H.size) mc ms (mA bd1 w1 H.size)) (cw : CallW R s args own C index y bytes maxL ret ws rm mc ms n) (hB : MB D cy e0 bd w s) (hG : mG0 e0 bd w s.heap.size bd1 w1) (hM : MW D cy bd1 w1 mm S H) (hS : va_S (mA bd w s.heap.size) s.heap H locs) (hn : As.length = n) (hsize : ls.size = nL) (hW : (rest.map fun v => v.category).sum ≤ 8) (hdg : decode cc pc = .ok (.invokevirtual index, 3)) (hf : cells + mc ≤ R.cells ∧ slots + ms ≤ R.slots)
    (kk : ∀ (a : Nat) (H1 : Heap) (locs1 : List Loc), mA bd1 w1 H.size a → MW D cy (bdF bd1 w1 li a) (wF w1 li (cD w1 li)) (rz m2 (rb li + w1 0 li) (fun j => m2 (400 + (w1 0 4 - 1)) j)) S2 H1 → va_S (mA bd w s.heap.size) s.heap H1 locs1 → W p l e R s m args below meth c H1 locs1 (cells + mc) (slots + ms) Q (F0 m (pc + 3) ls rest)) : W p l e R s m args below meth c H locs cells slots Q (F0 m pc ls (As.reverse ++ .ref (bd1 κ i) :: rest)) := by
  have hFc : ∀ q : Nat, mA bd1 w1 H.size q → mA bd w s.heap.size q := fun q h => mA_in hG.1 hS.1 h
  obtain ⟨fs, hfs⟩ := hfs
  have hat := hM.2.2.2 κ i hv
  rw [hfs] at hat
  have hrec := va_recv hB.1 (q_one hat) hc (q0 := 0) rfl
  rw [hCq] at hrec
  refine va_callv (va_runV (As := As) (rest := rest) CF hMe cw ⟨mPre_blind, hrec, fun U hU hW2 => ⟨rfl, by rw [hU], MU.mk hB hM hG.1 hG.2 hS hU hW2⟩⟩ rfl hn hsize rfl (lv_room hW) hdg hf) hS (fun q _ h => hFc q h) hFc (fun u t H1 locs1 ht hvm hw hBu hz1 hk1 hS1 => ?_)
  obtain ⟨b1, b2⟩ := hBu
  rw [ht] at b2
  exact kk u H1 locs1 b1 b2 hS1
theorem m_callV1 {li : Nat} {C : String} {ci κ i : Nat} {q9 : vw_C} (hv : mV w1 κ i) (hc : vwCl[ci]? = some q9) (hfs : ∃ fs, mS cy bd1 w1 mm S κ i = .inr (ci, fs)) (hCq : q9.1 = C) {As : List Value} (CF : CallFix p m c cc nL s args Ts own) (hMe : Met l y ws rm (va_Pc (.ref (bd1 κ i) :: As) (mPre D cy e0 bd1 w1 mm S H.size)) (a1Q D cy bd1 w1 m2 S2 li H.size) mc ms (mA bd1 w1 H.size)) (cw : CallW R s args own C index y bytes maxL ret ws rm mc ms n) (hB : MB D cy e0 bd w s) (hG : mG0 e0 bd w s.heap.size bd1 w1) (hM : MW D cy bd1 w1 mm S H) (hS : va_S (mA bd w s.heap.size) s.heap H locs) (hn : As.length = n) (hsize : ls.size = nL) (hW : (rest.map fun v => v.category).sum ≤ 8) (hdg : decode cc pc = .ok (.invokevirtual index, 3)) (hf : cells + mc ≤ R.cells ∧ slots + ms ≤ R.slots)
    (kk : ∀ (a : Nat) (H1 : Heap) (locs1 : List Loc), mA bd1 w1 H.size a → MW D cy (bdF bd1 w1 li a) (wH w1 li) (rz m2 (rb li + w1 0 li) (fun j => m2 (400 + (w1 0 4 - 1)) j)) S2 H1 → va_S (mA bd w s.heap.size) s.heap H1 locs1 → W p l e R s m args below meth c H1 locs1 (cells + mc) (slots + ms) Q (F0 m (pc + 3) ls (.int 1 :: rest))) : W p l e R s m args below meth c H locs cells slots Q (F0 m pc ls (As.reverse ++ .ref (bd1 κ i) :: rest)) := by
  have hFc : ∀ q : Nat, mA bd1 w1 H.size q → mA bd w s.heap.size q := fun q h => mA_in hG.1 hS.1 h
  obtain ⟨fs, hfs⟩ := hfs
  have hat := hM.2.2.2 κ i hv
  rw [hfs] at hat
  have hrec := va_recv hB.1 (q_one hat) hc (q0 := 0) rfl
  rw [hCq] at hrec
  refine va_calli (va_runV (As := As) (rest := rest) CF hMe cw ⟨mPre_blind, hrec, fun U hU hW2 => ⟨rfl, by rw [hU], MU.mk hB hM hG.1 hG.2 hS hU hW2⟩⟩ rfl hn hsize rfl (lv_room hW) hdg hf) hS (fun q _ h => hFc q h) hFc (fun r u t H1 locs1 ht hvm hw hBu hz1 hk1 hS1 => ?_)
  have hw : r = 1 := hw
  subst hw
  obtain ⟨b1, b2⟩ := hBu
  rw [ht] at b2
  exact kk u H1 locs1 b1 b2 hS1
end AC
section AP
variable {p : Program} {l : Launch} {e : Env} {R : Room} {s : State} {m : MethodId} {args : Array Value} {below : List Frame} {meth : Method} {c : Code} {H : Heap} {locs : List Loc} {cells slots : Nat} {Q : State → Prop}
variable {cc : ByteArray} {pc : Nat} {ls : Array Slot} {rest : List Value} {D : va_G} {cl : List vw_C} {A : Nat → Prop} {a : Nat} {tys : List (ClassId × FieldType)} {H0 : Heap}

theorem q_putS (hexec : p.tables.exec = Jvm.exec) (hb : c.code = cc) {own ref C : String} {T : u_T} {N ci index : Nat} {Ts : List Cond} (hts : ∀ w ∈ Ts, w.before args s = true) (hin : ∀ w ∈ u_ws C T N, w ∈ Ts) (ty0 : Nat → FieldType) (hty : ∀ k, k < N → parseFieldDescriptor (T k).2.2.1 = some (ty0 k)) (hnm : ∀ a, a < N → ∀ b, b < N → a ≠ b → (T a).2.1 ≠ (T b).2.1) (hown : s.vm.findClass own = some m.cls) (hK : va_K D cl tys s) {fs : List Value} (hat : va_at D cl (a, .inr (ci, fs)) H) (hS0 : va_S A H0 H locs) (ha : A a) (hc : cl[ci]? = some (C, T, N)) (k : Nat) (hk : k < N) (hlink : Cond.fieldLink own index ref (T k).2.1 (T k).2.2.1 ∈ Ts) (hsame : ∀ x, s.fieldFound? (T k).1 (T k).2.1 (T k).2.2.1 = some x → s.fieldFound? ref (T k).2.1 (T k).2.2.1 = some x) (hfin : (T k).2.2.2 = false) {v : Value} (hn : narrow (ty0 k) v = v) (hfit : fits (ty0 k) v = true) (hl : k < fs.length) (hdg : decode cc pc = .ok (.putfield index, 3))
    (kk : ∀ (H1 : Heap) (locs1 : List Loc), va_at D cl (a, .inr (ci, fs.set k v)) H1 → H1.size = H.size → (∀ q : Nat, q ≠ a → H1[q]? = H[q]?) → va_S A H0 H1 locs1 → W p l e R s m args below meth c H1 locs1 cells slots Q (F0 m (pc + 3) ls rest)) : W p l e R s m args below meth c H locs cells slots Q (F0 m pc ls (v :: .ref a :: rest)) := by
  have hap := va_apart (own := own) hts hin ty0 hty hnm hK hc
  obtain ⟨r, h1, cell, q1, q2, q3, q4⟩ := hat
  have hr : r = (C, T, N) := Option.some.inj (h1.symm.trans hc)
  subst hr
  obtain ⟨hS, hfc, kC, hkC, hkind⟩ := hK.1 ci _ hc
  obtain ⟨cf, kf, fi, f, hi, hsl⟩ := hS k hk
  have hlay := hts _ (hin _ (u_in_lay hk))
  unfold u_lay at hlay
  rw [if_neg (by rw [hfin]; decide)] at hlay
  have hst := (u_facts hfc hkC (u_lays hts hin hk) hi).1
  have h6 := u_store hfc hkC hkind hlay hi (hty k hk) hn hfit
  refine W.putK hexec hb (f := f) ⟨hown, hts _ hlink, ⟨_, _, _, hsame _ hi⟩, hst⟩ (by rw [q2]; exact h6) q1 q3 (by rw [hsl]; exact k2_hasslot (q4 k hk)) rfl rfl hdg fun H' e1 e2 e3 => ?_
  rw [hsl] at e1 ⊢
  exact kk H' _ ⟨_, hc, t_OB.to (V := updV (vp_V fs) k v) ⟨_, e1, q2, q3, t_set q4 hap hk v⟩ (fun j _ => vp_updV_set hl v j)⟩ e2 e3 (hS0.put e2 e3 ha)
end AP
theorem va_S.wide {A B : Nat → Prop} {H0 H : Heap} {locs : List Loc} (h : va_S A H0 H locs) (hAB : ∀ q, A q → B q) : va_S B H0 H locs := ⟨h.1, fun q a b => h.2.1 q a (fun z => b (hAB q z)), fun q hq => hAB _ (h.2.2 q hq)⟩
theorem rV_li {w : Nat → Nat → Nat} {li k : Nat} (hli : li < 4) (hk : k < w 0 li) : rV w (rb li + k) := by
  match li, hli, hk with
  | 0, _, hk => exact rV_100 hk
  | 1, _, hk => exact rV_200 hk
  | 2, _, hk => exact rV_303 hk
  | 3, _, hk => exact rV_308 hk
abbrev cpA (x sz : Nat) : Nat → Prop := fun q => q = x ∨ sz ≤ q
set_option maxRecDepth 100000 in
set_option maxHeartbeats 4000000 in
theorem kJ7_copyOf_6403c (l : Launch) (D : va_G) (cy : Nat → ClassId) (e0 : Nat) {bd w : Nat → Nat → Nat} (g : Md) (S : Int64) (sz li N mi : Nat) (hli : li < 4) (h0 : 0 < w 0 li) (hN : w 1 li ≤ N) (hN2 : N ≤ 64) : Met l yJ7_copyOf_6403c wsJ7_copyOf_6403c ({ frames := 1, cells := 1, slots := 64, locals := 60 } : Room) (va_Pc [.ref (bd 2 li), .int (nI N), .ref mi] (fun U => mPre D cy e0 bd w g S sz U ∧ va_Mi "[Ljava/lang/Object;" mi U)) (cpQ D cy bd w g S N (liF bd w li) sz) 1 64 (mA bd w sz) := by
  refine q_start (cc := cJ7_copyOf_6403c) (maxL := 4) (ret := (some (.array (.object "java/lang/Object")))) (own := RJ7) (by decide) rfl rfl (Nat.le_of_ble_eq_true rfl) ?_
  intro p e s m below meth c hx hb hr hml hts hown hlocks ⟨⟨hsz, hC, hB⟩, hMi⟩ ls hl
  subst hsz
  have h2v : mV w 2 li := ⟨hli, h0⟩
  have hS : va_S (cpA (bd 2 li) s.heap.size) s.heap s.heap [] := va_S.rf
  have hw0 := hC.1
  have hcap := hC.2.2.1.1 li hli h0
  have hc64 := hC.2.2.1.2.1 li
  have h2lt := hC.lt h2v
  have hl : lv_has ls 4 [(0, .ref (bd 2 li)), (1, .int (nI N)), (2, .ref mi)] := hl
  refine lv_aload_n hx hb dJ7_copyOf_6403c_0 rfl (lv_at hl 2 rfl) ?_
  refine va_ldcM hx hb hown (hts _ (List.mem_of_getElem? (i := 1) rfl)) hMi dJ7_copyOf_6403c_1 ?_
  refine lv_acmp_ne (rx := some mi) (ry := some mi) (tgt := 13) hx hb dJ7_copyOf_6403c_3 (by decide) (fun c => absurd rfl c) (fun _ => ?_)
  refine lv_iload_n hx hb dJ7_copyOf_6403c_6 rfl (lv_at hl 1 rfl) ?_
  refine m_anew hx hb hown (hts _ (List.mem_of_getElem? (i := 2) rfl)) hB.2.2.2.2.2.2.1 hB.1 hC hS (n := nI N) (N := N) (nI_pos (by omega)) (nI_clamp (by omega)) (by omega) ⟨Nat.le_of_ble_eq_true rfl, (by show 0 + N ≤ 64; omega)⟩ dJ7_copyOf_6403c_7 (fun H1 hat hC1 hO z1 hS => ?_)
  refine lv_goto (tgt := 24) hx hb dJ7_copyOf_6403c_10 (by decide) ?_
  refine lv_astore_n (lv' := [(3, .ref s.heap.size), (0, .ref (bd 2 li)), (1, .int (nI N)), (2, .ref mi)]) hx hb dJ7_copyOf_6403c_24 rfl hl (by decide) rfl (fun ls hl => ?_)
  refine lv_aload_n hx hb dJ7_copyOf_6403c_25 rfl (lv_at hl 1 rfl) ?_
  refine lv_iconst (v := 0) hx hb dJ7_copyOf_6403c_26 (by decide) ?_
  refine lv_aload_n hx hb dJ7_copyOf_6403c_27 rfl (lv_at hl 0 rfl) ?_
  refine lv_iconst (v := 0) hx hb dJ7_copyOf_6403c_28 (by decide) ?_
  refine lv_aload_n hx hb dJ7_copyOf_6403c_29 rfl (lv_at hl 1 rfl) ?_
  refine ln_m2 hx hb hB.1 hC1 hli h0 dJ7_copyOf_6403c_30 ?_
  refine lv_iload_n hx hb dJ7_copyOf_6403c_31 rfl (lv_at hl 2 rfl) ?_
  refine va_mmin hx hb (hml.trans hl.1.symm) hown (hts _ (List.mem_of_getElem? (i := 3) rfl)) (hts _ (List.mem_of_getElem? (i := 4) rfl)) (hts _ (List.mem_of_getElem? (i := 5) rfl)) (hts _ (List.mem_of_getElem? (i := 6) rfl)) (by first | exact Nat.le_of_ble_eq_true rfl | (dsimp only; omega)) (by first | exact Nat.le_of_ble_eq_true rfl | (dsimp only; omega)) (by first | exact Nat.le_of_ble_eq_true rfl | (dsimp only; omega)) (by first | exact Nat.le_of_ble_eq_true rfl | (dsimp only; omega)) dJ7_copyOf_6403c_32 ?_
  refine q_val (v := nI (w 1 li)) (if_neg (nI_nlt hN (by omega))) ?_
  have hP : va_P D vwCl [(bd 2 li, .inl (cy 7, (w 1 li, q_opt (liF bd w li)))), (s.heap.size, .inl (cy 7, (N, q_opt (fun _ => none))))] H1 := fun k q hk => by
    match k, hk with
    | 0, hk => cases hk; exact hC1.2.2.2 2 li h2v
    | 1, hk => cases hk; exact hat
    | n + 2, hk => simp at hk
  have hD : va_D (cpA (bd 2 li) s.heap.size) [(bd 2 li, .inl (cy 7, (w 1 li, q_opt (liF bd w li)))), (s.heap.size, .inl (cy 7, (N, q_opt (fun _ => none))))] := by
    refine ⟨fun i j x y hi hj hne => ?_, fun k q hk => ?_⟩
    · match i, j, hi, hj with
      | 0, 0, _, _ => rfl
      | 1, 1, _, _ => rfl
      | 0, 1, hi, hj => cases hi; cases hj; have hne : bd 2 li = s.heap.size := hne; omega
      | 1, 0, hi, hj => cases hi; cases hj; have hne : s.heap.size = bd 2 li := hne; omega
      | n + 2, _, hi, _ => simp at hi
      | 0, n + 2, _, hj => simp at hj
      | 1, n + 2, _, hj => simp at hj
    · match k, hk with
      | 0, hk => cases hk; exact Or.inl rfl
      | 1, hk => cases hk; exact Or.inr (Nat.le_refl _)
      | n + 2, hk => simp at hk
  have hcl : (nI (w 1 li)).toNatClampNeg = w 1 li := nI_clamp (by omega)
  refine va_copyq (q0 := 0) (q1 := 1) (t0 := 7) (t1 := 7) (C := "[I") (E0 := "java/lang/Object") (E1 := "java/lang/Object") hx hb (hml.trans hl.1.symm) hown (hts _ (List.mem_of_getElem? (i := 7) rfl)) (hts _ (List.mem_of_getElem? (i := 8) rfl)) (hts _ (List.mem_of_getElem? (i := 9) rfl)) (hts _ (List.mem_of_getElem? (i := 10) rfl)) hB.1 hP hD hS rfl rfl rfl rfl (sp := 0) (dp := 0) (n := nI (w 1 li)) (by decide) (by decide) (nI_pos (by omega)) (by rw [hcl]; show 0 + w 1 li ≤ w 1 li; omega) (by rw [hcl]; show 0 + w 1 li ≤ N; omega) (fun i hi y hy => ?_) (fun comp c0 hc1 hc2 => ?_) (Nat.le_of_ble_eq_true rfl) (Nat.le_of_ble_eq_true rfl) dJ7_copyOf_6403c_35 (fun H2 locs2 hP2 _ hS => ?_)
  · have e : (0 : Int32).toNatClampNeg + i = i := Nat.zero_add i
    rw [e] at hy
    by_cases q : i < w 0 li
    · have hy : (if i < w 0 li then some (bd 3 (rb li + i)) else none) = some y := hy
      rw [if_pos q] at hy
      cases hy
      exact ⟨_, hC1.2.2.2 3 (rb li + i) (rV_li hli q), rfl, (hB.1.2 0 _ rfl).2⟩
    · have hy : (if i < w 0 li then some (bd 3 (rb li + i)) else none) = some y := hy
      rw [if_neg q] at hy
      cases hy
  · obtain ⟨c9, t9, f1, f2, f3⟩ := Cond.castable_spec (qB_use (A := #[]) hB.2.1 (w := .castable "[I" "java/lang/Object") (List.mem_of_getElem? (i := 21) rfl) rfl)
    cases hc2.symm.trans f1
    cases hc1.symm.trans f2
    exact f3
  · have hat2 : va_at D vwCl (s.heap.size, .inl (cy 7, (N, q_opt (liF bd w li)))) H2 := by
      have h := hP2 1 _ rfl
      have e : va_cpy (liF bd w li) (fun _ => none) (0 : Int32).toNatClampNeg (0 : Int32).toNatClampNeg (nI (w 1 li)).toNatClampNeg = liF bd w li := by
        funext k
        rw [hcl]
        show (if 0 ≤ k ∧ k < 0 + w 1 li then liF bd w li (0 + (k - 0)) else none) = liF bd w li k
        by_cases q : k < w 1 li
        · rw [if_pos ⟨Nat.zero_le _, by omega⟩, Nat.zero_add, Nat.sub_zero]
        · rw [if_neg (by omega)]
          show none = if k < w 0 li then some (bd 3 (rb li + k)) else none
          rw [if_neg (by omega)]
      rw [e] at h
      exact h
    have hC2 : MW D cy bd w g S H2 := by
      refine ⟨hC.1, hC.2.1, hC.2.2.1, fun κ i hv => ?_⟩
      by_cases q : bd κ i = bd 2 li
      · obtain ⟨rfl, rfl⟩ := hC.2.1 _ _ _ _ hv h2v q
        exact hP2 0 _ rfl
      · exact (hC.2.2.2 κ i hv).kept (hS.2.1 _ (hC.lt hv) (fun z => z.elim q (fun z => absurd (hC.lt hv) (Nat.not_lt.mpr z))))
    have hS := hS.wide (B := mA bd w s.heap.size) (fun q z => z.elim (fun z => Or.inl ⟨2, li, h2v, z⟩) Or.inr)
    refine lv_aload_n hx hb dJ7_copyOf_6403c_38 rfl (lv_at hl 0 rfl) ?_
    refine W.widen (k := 1) (n := 64) (Nat.le_of_ble_eq_true rfl) (by show 0 + N ≤ 64; omega) ?_
    exact W.aret hx hb hr (Or.inr ⟨_, rfl⟩) (Or.inr ⟨_, rfl⟩) (fun t ht hW => ⟨⟨(), _, rfl, trivial, Nat.le_refl _, MW.at ht hC2, by rw [ht]; exact hat2⟩, hS.F ht⟩) hS.2.2 dJ7_copyOf_6403c_39
set_option maxRecDepth 100000 in
set_option maxHeartbeats 4000000 in
theorem kJ7_copyOf_1904c (l : Launch) (D : va_G) (cy : Nat → ClassId) (e0 : Nat) {bd w : Nat → Nat → Nat} (g : Md) (S : Int64) (sz li N : Nat) (hli : li < 4) (h0 : 0 < w 0 li) (hN : w 1 li ≤ N) (hN2 : N ≤ 64) : Met l yJ7_copyOf_1904c wsJ7_copyOf_1904c ({ frames := 2, cells := 1, slots := 64, locals := 90 } : Room) (va_Pc [.ref (bd 2 li), .int (nI N)] (mPre D cy e0 bd w g S sz)) (cpQ D cy bd w g S N (liF bd w li) sz) 1 64 (mA bd w sz) := by
  refine q_start (cc := cJ7_copyOf_1904c) (maxL := 2) (ret := (some (.array (.object "java/lang/Object")))) (own := RJ7) (by decide) rfl rfl (Nat.le_of_ble_eq_true rfl) ?_
  intro p e s m below meth c hx hb hr hml hts hown hlocks ⟨hsz, hC, hB⟩ ls hl
  subst hsz
  have h2v : mV w 2 li := ⟨hli, h0⟩
  have hS : va_S (mA bd w s.heap.size) s.heap s.heap [] := va_S.rf
  have hG : mG e0 bd w s.heap.size bd w := mG.rf hB.2.2.1
  have hl : lv_has ls 2 [(0, .ref (bd 2 li)), (1, .int (nI N))] := hl
  obtain ⟨mi, hMi⟩ := hB.2.2.2.2.2.2.2
  refine lv_aload_n hx hb dJ7_copyOf_1904c_0 rfl (lv_at hl 0 rfl) ?_
  refine lv_iload_n hx hb dJ7_copyOf_1904c_1 rfl (lv_at hl 1 rfl) ?_
  refine lv_aload_n hx hb dJ7_copyOf_1904c_2 rfl (lv_at hl 0 rfl) ?_
  have hcell : ∃ cell : Cell, s.heap[bd 2 li]? = some cell ∧ cell.vm.isStatics = false ∧ s.vm.findClass "[Ljava/lang/Object;" = some cell.cls := by
    obtain ⟨kA2, comp2, k1, k2, k3, k4⟩ := (hB.1.2 7 _ rfl).2
    exact ⟨_, hC.2.2.2 2 li h2v, rfl, k4⟩
  refine va_getC (C := "[Ljava/lang/Object;") hx hb (hml.trans hl.1.symm) hown (hts _ (List.mem_of_getElem? (i := 1) rfl)) (qB_use hB.2.1 (List.mem_of_getElem? (i := 17) rfl) rfl) (hts _ (List.mem_of_getElem? (i := 2) rfl)) (hts _ (List.mem_of_getElem? (i := 3) rfl)) (hts _ (List.mem_of_getElem? (i := 4) rfl)) hMi hcell (Nat.le_of_ble_eq_true rfl) (Nat.le_of_ble_eq_true rfl) dJ7_copyOf_1904c_3 ?_
  have hFc : ∀ q : Nat, mA bd w s.heap.size q → mA bd w s.heap.size q := fun q h => h
  refine va_callr (va_runS (As := [.ref (bd 2 li), .int (nI N), .ref mi]) (rest := []) ⟨hx, hb, hml, hown, hts⟩ (kJ7_copyOf_6403c l D cy e0 (bd := bd) (w := w) g S s.heap.size li N mi hli h0 hN hN2) (va_cwS 3 hts gJ7_copyOf_1904c_J7_copyOf_6403c rfl rfl rfl (by decide +kernel) ⟨Nat.le_of_ble_eq_true rfl, Nat.le_of_ble_eq_true rfl⟩) ⟨fun a U f mk q => ⟨q.1, (mPre_blind a U f mk ⟨q.1, q.2.1⟩).2, q.2.2.moved (u := U) (Vm.Alike.refl U.vm)⟩, fun U hU hW2 => ⟨rfl, ⟨by rw [hU], MU.mk hB hC hG.2.1 hG.2.2 hS hU hW2⟩, hMi.moved hW2.alike⟩⟩ rfl rfl hl.1 rfl (lv_room (Nat.le_of_ble_eq_true rfl)) dJ7_copyOf_1904c_6 ⟨Nat.le_of_ble_eq_true rfl, Nat.le_of_ble_eq_true rfl⟩) hS (fun q _ h => hFc q h) hFc (fun u r t H1 locs1 ht hvm hw hBu hz1 hk1 hS => ?_)
  obtain ⟨b1, b2, b3⟩ := hBu
  rw [ht] at b2 b3
  exact W.aret hx hb hr (Or.inr ⟨_, rfl⟩) (Or.inr ⟨_, rfl⟩) (fun t ht hW => ⟨⟨(), _, rfl, trivial, b1, MW.at ht b2, by rw [ht]; exact b3⟩, hS.F ht⟩) hS.2.2 dJ7_copyOf_1904c_9
theorem Ig1 : ∀ w ∈ wsJx4a65c0, w ∈ wsJx4a65c_grow_92f84 := fun _ h => (List.mem_cons_of_mem _ (List.mem_append_right _ h))
set_option maxRecDepth 100000 in
set_option maxHeartbeats 4000000 in
theorem kJx4a65c_grow_92f84_10 (l : Launch) (D : va_G) (cy : Nat → ClassId) (e0 : Nat) {bd w : Nat → Nat → Nat} (g : Md) (S : Int64) (sz li : Nat) (hli : li < 4) (hn : w 0 li = 10) (hc : w 1 li = 10) : Met l yJx4a65c_grow_92f84 wsJx4a65c_grow_92f84 ({ frames := 3, cells := 1, slots := 64, locals := 140 } : Room) (va_Pc [.ref (bd 1 li), .int 11] (mPre D cy e0 bd w g S sz)) (grQ D cy bd w g S li 15 sz) 1 64 (mA bd w sz) := by
  refine q_start (cc := cJx4a65c_grow_92f84) (maxL := 4) (ret := (some (.array (.object "java/lang/Object")))) (own := RJx4a65c) (by decide) rfl rfl (Nat.le_of_ble_eq_true rfl) ?_
  intro p e s m below meth c hx hb hr hml hts hown hlocks ⟨hsz, hC, hB⟩ ls hl
  subst hsz
  have hS : va_S (mA bd w s.heap.size) s.heap s.heap [] := va_S.rf
  have hG : mG e0 bd w s.heap.size bd w := mG.rf hB.2.2.1
  have hw0 := hC.1
  have h1v : mV w 1 li := hli
  have hl : lv_has ls 4 [(0, .ref (bd 1 li)), (1, .int 11)] := hl
  have h0 : 0 < w 0 li := by omega
  refine lv_aload_n hx hb dJx4a65c_grow_92f84_0 rfl (lv_at hl 0 rfl) ?_
  refine gt_m1_1 hx hb hts Ig1 hown hB.1 hC hli (List.mem_of_getElem? (i := 1) rfl) dJx4a65c_grow_92f84_1 ?_
  refine ln_m2 hx hb hB.1 hC hli h0 dJx4a65c_grow_92f84_4 ?_
  refine q_val (v := 10) (by rw [hc]; rfl) ?_
  refine lv_istore_n (lv' := [(2, .int 10), (0, .ref (bd 1 li)), (1, .int 11)]) hx hb dJx4a65c_grow_92f84_5 rfl hl (by decide) rfl (fun ls hl => ?_)
  refine lv_iload_n hx hb dJx4a65c_grow_92f84_6 rfl (lv_at hl 0 rfl) ?_
  refine lv_if_gt (tgt := 20) hx hb dJx4a65c_grow_92f84_7 (by decide) (fun _ => ?_) (fun c => absurd c (by decide))
  refine lv_iload_n hx hb dJx4a65c_grow_92f84_20 rfl (lv_at hl 0 rfl) ?_
  refine lv_iload_n hx hb dJx4a65c_grow_92f84_21 rfl (lv_at hl 2 rfl) ?_
  refine lv_iload_n hx hb dJx4a65c_grow_92f84_22 rfl (lv_at hl 0 rfl) ?_
  refine lv_isub hx hb dJx4a65c_grow_92f84_23 ?_
  refine q_val (v := 1) (by decide) ?_
  refine lv_iload_n hx hb dJx4a65c_grow_92f84_24 rfl (lv_at hl 0 rfl) ?_
  refine lv_iconst (v := 1) hx hb dJx4a65c_grow_92f84_25 (by decide) ?_
  refine lv_ishr hx hb dJx4a65c_grow_92f84_26 ?_
  refine q_val (v := 5) (by decide) ?_
  refine m_callSi (As := [.int 10, .int 1, .int 5]) ⟨hx, hb, hml, hown, hts⟩ (kJ8_newLength_cabcc l D cy e0 (bd := bd) (w := w) g S _ 10 1 5 (by decide) (by decide)) (va_cwS 3 hts gJx4a65c_grow_92f84_J8_newLength_cabcc rfl rfl rfl (by decide +kernel) ⟨Nat.le_of_ble_eq_true rfl, Nat.le_of_ble_eq_true rfl⟩) hB hG.2 hC hS rfl hl.1 (Nat.le_of_ble_eq_true rfl) dJx4a65c_grow_92f84_27 ⟨Nat.le_of_ble_eq_true rfl, Nat.le_of_ble_eq_true rfl⟩ (fun H locs hC hS => ?_)
  have hS0 := hS.1
  refine q_val (v := nI 15) (by decide) ?_
  refine lv_istore_n (lv' := [(3, .int (nI 15)), (2, .int 10), (0, .ref (bd 1 li)), (1, .int 11)]) hx hb dJx4a65c_grow_92f84_30 rfl hl (by decide) rfl (fun ls hl => ?_)
  refine lv_aload_n hx hb dJx4a65c_grow_92f84_31 rfl (lv_at hl 2 rfl) ?_
  refine lv_aload_n hx hb dJx4a65c_grow_92f84_32 rfl (lv_at hl 2 rfl) ?_
  refine gt_m1_1 hx hb hts Ig1 hown hB.1 hC hli (List.mem_of_getElem? (i := 1) rfl) dJx4a65c_grow_92f84_33 ?_
  refine lv_iload_n hx hb dJx4a65c_grow_92f84_36 rfl (lv_at hl 0 rfl) ?_
  refine m_callSa (As := [.ref (bd 2 li), .int (nI 15)]) ⟨hx, hb, hml, hown, hts⟩ (kJ7_copyOf_1904c l D cy e0 (bd := bd) (w := w) g S _ li 15 hli h0 (by omega) (by decide)) (va_cwS 2 hts gJx4a65c_grow_92f84_J7_copyOf_1904c rfl rfl rfl (by decide +kernel) ⟨Nat.le_of_ble_eq_true rfl, Nat.le_of_ble_eq_true rfl⟩) hB hG.2 hC hS rfl hl.1 (Nat.le_of_ble_eq_true rfl) dJx4a65c_grow_92f84_37 ⟨Nat.le_of_ble_eq_true rfl, Nat.le_of_ble_eq_true rfl⟩ (fun b9 H8 locs hb8 hCx hb3 hS => ?_)
  have hb1 : s.heap.size ≤ b9 := Nat.le_trans hS0 hb8
  refine lv_dup_x1 hx hb dJx4a65c_grow_92f84_40 rfl rfl ?_
  have hne : ∀ κ i, mV w κ i → ¬ (κ = 1 ∧ i = li) → bd κ i ≠ bd 1 li := fun κ i hv hn e => hn (hC.2.1 _ _ _ _ hv h1v e)
  refine q_put hx hb hts Ig1 tyJx4a65c tyJx4a65c_ok nmJx4a65c hown hB.1 (hCx.2.2.2 1 li h1v) hS (hG.2.1 1 li h1v) rfl 1 (by decide) (List.mem_of_getElem? (i := 1) rfl) rfl rfl rfl rfl (Nat.le_of_ble_eq_true rfl) dJx4a65c_grow_92f84_41 (fun H9 locs9 hat9 _ hO9 hS => ?_)
  exact W.aret hx hb hr (Or.inr ⟨_, rfl⟩) (Or.inr ⟨_, rfl⟩) (fun t ht hW => ⟨⟨(), _, rfl, trivial, hb1, fun κ i hv hn => by rw [ht]; exact (hCx.2.2.2 κ i hv).kept (hO9 _ (hne κ i hv hn)), by rw [ht]; exact hat9, by rw [ht]; exact hb3.kept (hO9 _ (by have := hC.lt h1v; omega))⟩, hS.F ht⟩) hS.2.2 dJx4a65c_grow_92f84_44
set_option maxRecDepth 100000 in
set_option maxHeartbeats 4000000 in
theorem kJx4a65c_grow_92f84_15 (l : Launch) (D : va_G) (cy : Nat → ClassId) (e0 : Nat) {bd w : Nat → Nat → Nat} (g : Md) (S : Int64) (sz li : Nat) (hli : li < 4) (hn : w 0 li = 15) (hc : w 1 li = 15) : Met l yJx4a65c_grow_92f84 wsJx4a65c_grow_92f84 ({ frames := 3, cells := 1, slots := 64, locals := 140 } : Room) (va_Pc [.ref (bd 1 li), .int 16] (mPre D cy e0 bd w g S sz)) (grQ D cy bd w g S li 22 sz) 1 64 (mA bd w sz) := by
  refine q_start (cc := cJx4a65c_grow_92f84) (maxL := 4) (ret := (some (.array (.object "java/lang/Object")))) (own := RJx4a65c) (by decide) rfl rfl (Nat.le_of_ble_eq_true rfl) ?_
  intro p e s m below meth c hx hb hr hml hts hown hlocks ⟨hsz, hC, hB⟩ ls hl
  subst hsz
  have hS : va_S (mA bd w s.heap.size) s.heap s.heap [] := va_S.rf
  have hG : mG e0 bd w s.heap.size bd w := mG.rf hB.2.2.1
  have hw0 := hC.1
  have h1v : mV w 1 li := hli
  have hl : lv_has ls 4 [(0, .ref (bd 1 li)), (1, .int 16)] := hl
  have h0 : 0 < w 0 li := by omega
  refine lv_aload_n hx hb dJx4a65c_grow_92f84_0 rfl (lv_at hl 0 rfl) ?_
  refine gt_m1_1 hx hb hts Ig1 hown hB.1 hC hli (List.mem_of_getElem? (i := 1) rfl) dJx4a65c_grow_92f84_1 ?_
  refine ln_m2 hx hb hB.1 hC hli h0 dJx4a65c_grow_92f84_4 ?_
  refine q_val (v := 15) (by rw [hc]; rfl) ?_
  refine lv_istore_n (lv' := [(2, .int 15), (0, .ref (bd 1 li)), (1, .int 16)]) hx hb dJx4a65c_grow_92f84_5 rfl hl (by decide) rfl (fun ls hl => ?_)
  refine lv_iload_n hx hb dJx4a65c_grow_92f84_6 rfl (lv_at hl 0 rfl) ?_
  refine lv_if_gt (tgt := 20) hx hb dJx4a65c_grow_92f84_7 (by decide) (fun _ => ?_) (fun c => absurd c (by decide))
  refine lv_iload_n hx hb dJx4a65c_grow_92f84_20 rfl (lv_at hl 0 rfl) ?_
  refine lv_iload_n hx hb dJx4a65c_grow_92f84_21 rfl (lv_at hl 2 rfl) ?_
  refine lv_iload_n hx hb dJx4a65c_grow_92f84_22 rfl (lv_at hl 0 rfl) ?_
  refine lv_isub hx hb dJx4a65c_grow_92f84_23 ?_
  refine q_val (v := 1) (by decide) ?_
  refine lv_iload_n hx hb dJx4a65c_grow_92f84_24 rfl (lv_at hl 0 rfl) ?_
  refine lv_iconst (v := 1) hx hb dJx4a65c_grow_92f84_25 (by decide) ?_
  refine lv_ishr hx hb dJx4a65c_grow_92f84_26 ?_
  refine q_val (v := 7) (by decide) ?_
  refine m_callSi (As := [.int 15, .int 1, .int 7]) ⟨hx, hb, hml, hown, hts⟩ (kJ8_newLength_cabcc l D cy e0 (bd := bd) (w := w) g S _ 15 1 7 (by decide) (by decide)) (va_cwS 3 hts gJx4a65c_grow_92f84_J8_newLength_cabcc rfl rfl rfl (by decide +kernel) ⟨Nat.le_of_ble_eq_true rfl, Nat.le_of_ble_eq_true rfl⟩) hB hG.2 hC hS rfl hl.1 (Nat.le_of_ble_eq_true rfl) dJx4a65c_grow_92f84_27 ⟨Nat.le_of_ble_eq_true rfl, Nat.le_of_ble_eq_true rfl⟩ (fun H locs hC hS => ?_)
  have hS0 := hS.1
  refine q_val (v := nI 22) (by decide) ?_
  refine lv_istore_n (lv' := [(3, .int (nI 22)), (2, .int 15), (0, .ref (bd 1 li)), (1, .int 16)]) hx hb dJx4a65c_grow_92f84_30 rfl hl (by decide) rfl (fun ls hl => ?_)
  refine lv_aload_n hx hb dJx4a65c_grow_92f84_31 rfl (lv_at hl 2 rfl) ?_
  refine lv_aload_n hx hb dJx4a65c_grow_92f84_32 rfl (lv_at hl 2 rfl) ?_
  refine gt_m1_1 hx hb hts Ig1 hown hB.1 hC hli (List.mem_of_getElem? (i := 1) rfl) dJx4a65c_grow_92f84_33 ?_
  refine lv_iload_n hx hb dJx4a65c_grow_92f84_36 rfl (lv_at hl 0 rfl) ?_
  refine m_callSa (As := [.ref (bd 2 li), .int (nI 22)]) ⟨hx, hb, hml, hown, hts⟩ (kJ7_copyOf_1904c l D cy e0 (bd := bd) (w := w) g S _ li 22 hli h0 (by omega) (by decide)) (va_cwS 2 hts gJx4a65c_grow_92f84_J7_copyOf_1904c rfl rfl rfl (by decide +kernel) ⟨Nat.le_of_ble_eq_true rfl, Nat.le_of_ble_eq_true rfl⟩) hB hG.2 hC hS rfl hl.1 (Nat.le_of_ble_eq_true rfl) dJx4a65c_grow_92f84_37 ⟨Nat.le_of_ble_eq_true rfl, Nat.le_of_ble_eq_true rfl⟩ (fun b9 H8 locs hb8 hCx hb3 hS => ?_)
  have hb1 : s.heap.size ≤ b9 := Nat.le_trans hS0 hb8
  refine lv_dup_x1 hx hb dJx4a65c_grow_92f84_40 rfl rfl ?_
  have hne : ∀ κ i, mV w κ i → ¬ (κ = 1 ∧ i = li) → bd κ i ≠ bd 1 li := fun κ i hv hn e => hn (hC.2.1 _ _ _ _ hv h1v e)
  refine q_put hx hb hts Ig1 tyJx4a65c tyJx4a65c_ok nmJx4a65c hown hB.1 (hCx.2.2.2 1 li h1v) hS (hG.2.1 1 li h1v) rfl 1 (by decide) (List.mem_of_getElem? (i := 1) rfl) rfl rfl rfl rfl (Nat.le_of_ble_eq_true rfl) dJx4a65c_grow_92f84_41 (fun H9 locs9 hat9 _ hO9 hS => ?_)
  exact W.aret hx hb hr (Or.inr ⟨_, rfl⟩) (Or.inr ⟨_, rfl⟩) (fun t ht hW => ⟨⟨(), _, rfl, trivial, hb1, fun κ i hv hn => by rw [ht]; exact (hCx.2.2.2 κ i hv).kept (hO9 _ (hne κ i hv hn)), by rw [ht]; exact hat9, by rw [ht]; exact hb3.kept (hO9 _ (by have := hC.lt h1v; omega))⟩, hS.F ht⟩) hS.2.2 dJx4a65c_grow_92f84_44
set_option maxRecDepth 100000 in
set_option maxHeartbeats 4000000 in
theorem kJx4a65c_grow_92f84_0 (l : Launch) (D : va_G) (cy : Nat → ClassId) (e0 : Nat) {bd w : Nat → Nat → Nat} (g : Md) (S : Int64) (sz li : Nat) (hli : li < 4) (hn : w 0 li = 0) : Met l yJx4a65c_grow_92f84 wsJx4a65c_grow_92f84 ({ frames := 3, cells := 1, slots := 64, locals := 140 } : Room) (va_Pc [.ref (bd 1 li), .int 1] (mPre D cy e0 bd w g S sz)) (grQ D cy bd w g S li 10 sz) 1 64 (mA bd w sz) := by
  refine q_start (cc := cJx4a65c_grow_92f84) (maxL := 4) (ret := (some (.array (.object "java/lang/Object")))) (own := RJx4a65c) (by decide) rfl rfl (Nat.le_of_ble_eq_true rfl) ?_
  intro p e s m below meth c hx hb hr hml hts hown hlocks ⟨hsz, hC, hB⟩ ls hl
  subst hsz
  have hS : va_S (mA bd w s.heap.size) s.heap s.heap [] := va_S.rf
  have hG : mG e0 bd w s.heap.size bd w := mG.rf hB.2.2.1
  have hw0 := hC.1
  have h1v : mV w 1 li := hli
  have hl : lv_has ls 4 [(0, .ref (bd 1 li)), (1, .int 1)] := hl
  have he0 : bd 2 li = e0 := hB.2.2.1 li hli hn
  obtain ⟨cell, e1, e2, e3, e4, e5, e6, e7⟩ := hB.2.2.2.1.2
  refine lv_aload_n hx hb dJx4a65c_grow_92f84_0 rfl (lv_at hl 0 rfl) ?_
  refine gt_m1_1 hx hb hts Ig1 hown hB.1 hC hli (List.mem_of_getElem? (i := 1) rfl) dJx4a65c_grow_92f84_1 ?_
  refine m_stk (st' := [.ref e0]) (by rw [he0]) ?_
  refine q_alenT (n := 0) hx hb e1 e2 e5 dJx4a65c_grow_92f84_4 ?_
  refine lv_istore_n (lv' := [(2, .int 0), (0, .ref (bd 1 li)), (1, .int 1)]) hx hb dJx4a65c_grow_92f84_5 rfl hl (by decide) rfl (fun ls hl => ?_)
  refine lv_iload_n hx hb dJx4a65c_grow_92f84_6 rfl (lv_at hl 0 rfl) ?_
  refine lv_if_gt (tgt := 20) hx hb dJx4a65c_grow_92f84_7 (by decide) (fun c => absurd c (by decide)) (fun _ => ?_)
  refine lv_aload_n hx hb dJx4a65c_grow_92f84_10 rfl (lv_at hl 1 rfl) ?_
  refine gt_m1_1 hx hb hts Ig1 hown hB.1 hC hli (List.mem_of_getElem? (i := 1) rfl) dJx4a65c_grow_92f84_11 ?_
  refine va_gets (ref := RJx4a65c) hx hb hB.2.2.2.1.1 (va_S.rf (A := mP bd w)) hown (hts _ (List.mem_of_getElem? (i := 2) rfl)) (fun x h => h) dJx4a65c_grow_92f84_14 ?_
  refine lv_acmp_eq (rx := some (bd 2 li)) (ry := some e0) (tgt := 45) hx hb dJx4a65c_grow_92f84_17 (by decide) (fun _ => ?_) (fun c => absurd (congrArg some he0) c)
  refine lv_aload_n hx hb dJx4a65c_grow_92f84_45 rfl (lv_at hl 1 rfl) ?_
  refine lv_bipush (v := 10) hx hb dJx4a65c_grow_92f84_46 (by decide) ?_
  refine lv_iload_n hx hb dJx4a65c_grow_92f84_48 rfl (lv_at hl 2 rfl) ?_
  refine va_mmax hx hb (hml.trans hl.1.symm) hown (hts _ (List.mem_of_getElem? (i := 3) rfl)) (hts _ (List.mem_of_getElem? (i := 4) rfl)) (hts _ (List.mem_of_getElem? (i := 5) rfl)) (hts _ (List.mem_of_getElem? (i := 6) rfl)) (Nat.le_of_ble_eq_true rfl) (Nat.le_of_ble_eq_true rfl) (Nat.le_of_ble_eq_true rfl) (Nat.le_of_ble_eq_true rfl) dJx4a65c_grow_92f84_49 ?_
  refine q_val (v := 10) (by decide) ?_
  refine m_anew hx hb hown (hts _ (List.mem_of_getElem? (i := 7) rfl)) hB.2.2.2.2.2.2.1 hB.1 hC hS (n := 10) (N := 10) (by decide) (by decide) (by decide) ⟨Nat.le_of_ble_eq_true rfl, Nat.le_of_ble_eq_true rfl⟩ dJx4a65c_grow_92f84_52 (fun H1 hat hCx hO z1 hS => ?_)
  have hb1 : s.heap.size ≤ s.heap.size := Nat.le_refl _
  have hb3 : va_at D vwCl (s.heap.size, .inl (cy 7, (10, q_opt (liF bd w li)))) H1 := by
    have e : liF bd w li = fun _ => none := by funext k; show (if k < w 0 li then _ else _) = _; rw [hn]; exact if_neg (Nat.not_lt_zero _)
    rw [e]; exact hat
  refine lv_dup_x1 hx hb dJx4a65c_grow_92f84_55 rfl rfl ?_
  refine W.widen (k := 1) (n := 64) (Nat.le_of_ble_eq_true rfl) (Nat.le_of_ble_eq_true rfl) ?_
  have hne : ∀ κ i, mV w κ i → ¬ (κ = 1 ∧ i = li) → bd κ i ≠ bd 1 li := fun κ i hv hn e => hn (hC.2.1 _ _ _ _ hv h1v e)
  refine q_put hx hb hts Ig1 tyJx4a65c tyJx4a65c_ok nmJx4a65c hown hB.1 (hCx.2.2.2 1 li h1v) hS (hG.2.1 1 li h1v) rfl 1 (by decide) (List.mem_of_getElem? (i := 1) rfl) rfl rfl rfl rfl (Nat.le_of_ble_eq_true rfl) dJx4a65c_grow_92f84_56 (fun H9 locs9 hat9 _ hO9 hS => ?_)
  exact W.aret hx hb hr (Or.inr ⟨_, rfl⟩) (Or.inr ⟨_, rfl⟩) (fun t ht hW => ⟨⟨(), _, rfl, trivial, hb1, fun κ i hv hn => by rw [ht]; exact (hCx.2.2.2 κ i hv).kept (hO9 _ (hne κ i hv hn)), by rw [ht]; exact hat9, by rw [ht]; exact hb3.kept (hO9 _ (by have := hC.lt h1v; omega))⟩, hS.F ht⟩) hS.2.2 dJx4a65c_grow_92f84_59
theorem Ig0 : ∀ w ∈ wsJx4a65c0, w ∈ wsJx4a65c_grow_d5877 := fun _ h => (List.mem_cons_of_mem _ (List.mem_append_right _ h))
set_option maxRecDepth 100000 in
set_option maxHeartbeats 4000000 in
theorem kJx4a65c_grow_d5877_0 (l : Launch) (D : va_G) (cy : Nat → ClassId) (e0 : Nat) {bd w : Nat → Nat → Nat} (g : Md) (S : Int64) (sz li : Nat) (hli : li < 4) (hn : w 0 li = 0) : Met l yJx4a65c_grow_d5877 wsJx4a65c_grow_d5877 ({ frames := 4, cells := 1, slots := 64, locals := 170 } : Room) (va_Pc [.ref (bd 1 li)] (mPre D cy e0 bd w g S sz)) (grQ D cy bd w g S li 10 sz) 1 64 (mA bd w sz) := by
  refine q_start (cc := cJx4a65c_grow_d5877) (maxL := 1) (ret := (some (.array (.object "java/lang/Object")))) (own := RJx4a65c) (by decide) rfl rfl (Nat.le_of_ble_eq_true rfl) ?_
  intro p e s m below meth c hx hb hr hml hts hown hlocks ⟨hsz, hC, hB⟩ ls hl
  subst hsz
  have hS : va_S (mA bd w s.heap.size) s.heap s.heap [] := va_S.rf
  have hG : mG e0 bd w s.heap.size bd w := mG.rf hB.2.2.1
  have hw0 := hC.1
  have h1v : mV w 1 li := hli
  have hl : lv_has ls 1 [(0, .ref (bd 1 li))] := hl
  refine lv_aload_n hx hb dJx4a65c_grow_d5877_0 rfl (lv_at hl 0 rfl) ?_
  refine lv_aload_n hx hb dJx4a65c_grow_d5877_1 rfl (lv_at hl 0 rfl) ?_
  refine gt_m1_2 hx hb hts Ig0 hown hB.1 hC hli (List.mem_of_getElem? (i := 1) rfl) dJx4a65c_grow_d5877_2 ?_
  refine q_val (v := 0) (by rw [hn]; rfl) ?_
  refine lv_iconst (v := 1) hx hb dJx4a65c_grow_d5877_5 (by decide) ?_
  refine lv_iadd hx hb dJx4a65c_grow_d5877_6 ?_
  refine q_val (v := 1) (by decide) ?_
  refine m_callVg (As := [.int 1]) (κ := 1) (i := li) hli rfl ⟨_, rfl⟩ rfl ⟨hx, hb, hml, hown, hts⟩ (kJx4a65c_grow_92f84_0 l D cy e0 (bd := bd) (w := w) g S _ li hli hn) (cwV 1 hts gJx4a65c_grow_d5877_Jx4a65c_grow_92f84 rfl rfl rfl (by decide +kernel) ⟨Nat.le_of_ble_eq_true rfl, Nat.le_of_ble_eq_true rfl⟩) hB hG.2 hC hS rfl hl.1 (Nat.le_of_ble_eq_true rfl) dJx4a65c_grow_d5877_7 ⟨Nat.le_of_ble_eq_true rfl, Nat.le_of_ble_eq_true rfl⟩ (fun b9 H1 locs1 b1 b2 b3 b4 hS => ?_)
  exact W.aret hx hb hr (Or.inr ⟨_, rfl⟩) (Or.inr ⟨_, rfl⟩) (fun t ht hW => ⟨⟨(), _, rfl, trivial, b1, fun κ i hv hn => by rw [ht]; exact b2 κ i hv hn, by rw [ht]; exact b3, by rw [ht]; exact b4⟩, hS.F ht⟩) hS.2.2 dJx4a65c_grow_d5877_10
set_option maxRecDepth 100000 in
set_option maxHeartbeats 4000000 in
theorem kJx4a65c_grow_d5877_10 (l : Launch) (D : va_G) (cy : Nat → ClassId) (e0 : Nat) {bd w : Nat → Nat → Nat} (g : Md) (S : Int64) (sz li : Nat) (hli : li < 4) (hn : w 0 li = 10) (hc : w 1 li = 10) : Met l yJx4a65c_grow_d5877 wsJx4a65c_grow_d5877 ({ frames := 4, cells := 1, slots := 64, locals := 170 } : Room) (va_Pc [.ref (bd 1 li)] (mPre D cy e0 bd w g S sz)) (grQ D cy bd w g S li 15 sz) 1 64 (mA bd w sz) := by
  refine q_start (cc := cJx4a65c_grow_d5877) (maxL := 1) (ret := (some (.array (.object "java/lang/Object")))) (own := RJx4a65c) (by decide) rfl rfl (Nat.le_of_ble_eq_true rfl) ?_
  intro p e s m below meth c hx hb hr hml hts hown hlocks ⟨hsz, hC, hB⟩ ls hl
  subst hsz
  have hS : va_S (mA bd w s.heap.size) s.heap s.heap [] := va_S.rf
  have hG : mG e0 bd w s.heap.size bd w := mG.rf hB.2.2.1
  have hw0 := hC.1
  have h1v : mV w 1 li := hli
  have hl : lv_has ls 1 [(0, .ref (bd 1 li))] := hl
  refine lv_aload_n hx hb dJx4a65c_grow_d5877_0 rfl (lv_at hl 0 rfl) ?_
  refine lv_aload_n hx hb dJx4a65c_grow_d5877_1 rfl (lv_at hl 0 rfl) ?_
  refine gt_m1_2 hx hb hts Ig0 hown hB.1 hC hli (List.mem_of_getElem? (i := 1) rfl) dJx4a65c_grow_d5877_2 ?_
  refine q_val (v := 10) (by rw [hn]; rfl) ?_
  refine lv_iconst (v := 1) hx hb dJx4a65c_grow_d5877_5 (by decide) ?_
  refine lv_iadd hx hb dJx4a65c_grow_d5877_6 ?_
  refine q_val (v := 11) (by decide) ?_
  refine m_callVg (As := [.int 11]) (κ := 1) (i := li) hli rfl ⟨_, rfl⟩ rfl ⟨hx, hb, hml, hown, hts⟩ (kJx4a65c_grow_92f84_10 l D cy e0 (bd := bd) (w := w) g S _ li hli hn hc) (cwV 1 hts gJx4a65c_grow_d5877_Jx4a65c_grow_92f84 rfl rfl rfl (by decide +kernel) ⟨Nat.le_of_ble_eq_true rfl, Nat.le_of_ble_eq_true rfl⟩) hB hG.2 hC hS rfl hl.1 (Nat.le_of_ble_eq_true rfl) dJx4a65c_grow_d5877_7 ⟨Nat.le_of_ble_eq_true rfl, Nat.le_of_ble_eq_true rfl⟩ (fun b9 H1 locs1 b1 b2 b3 b4 hS => ?_)
  exact W.aret hx hb hr (Or.inr ⟨_, rfl⟩) (Or.inr ⟨_, rfl⟩) (fun t ht hW => ⟨⟨(), _, rfl, trivial, b1, fun κ i hv hn => by rw [ht]; exact b2 κ i hv hn, by rw [ht]; exact b3, by rw [ht]; exact b4⟩, hS.F ht⟩) hS.2.2 dJx4a65c_grow_d5877_10
set_option maxRecDepth 100000 in
set_option maxHeartbeats 4000000 in
theorem kJx4a65c_grow_d5877_15 (l : Launch) (D : va_G) (cy : Nat → ClassId) (e0 : Nat) {bd w : Nat → Nat → Nat} (g : Md) (S : Int64) (sz li : Nat) (hli : li < 4) (hn : w 0 li = 15) (hc : w 1 li = 15) : Met l yJx4a65c_grow_d5877 wsJx4a65c_grow_d5877 ({ frames := 4, cells := 1, slots := 64, locals := 170 } : Room) (va_Pc [.ref (bd 1 li)] (mPre D cy e0 bd w g S sz)) (grQ D cy bd w g S li 22 sz) 1 64 (mA bd w sz) := by
  refine q_start (cc := cJx4a65c_grow_d5877) (maxL := 1) (ret := (some (.array (.object "java/lang/Object")))) (own := RJx4a65c) (by decide) rfl rfl (Nat.le_of_ble_eq_true rfl) ?_
  intro p e s m below meth c hx hb hr hml hts hown hlocks ⟨hsz, hC, hB⟩ ls hl
  subst hsz
  have hS : va_S (mA bd w s.heap.size) s.heap s.heap [] := va_S.rf
  have hG : mG e0 bd w s.heap.size bd w := mG.rf hB.2.2.1
  have hw0 := hC.1
  have h1v : mV w 1 li := hli
  have hl : lv_has ls 1 [(0, .ref (bd 1 li))] := hl
  refine lv_aload_n hx hb dJx4a65c_grow_d5877_0 rfl (lv_at hl 0 rfl) ?_
  refine lv_aload_n hx hb dJx4a65c_grow_d5877_1 rfl (lv_at hl 0 rfl) ?_
  refine gt_m1_2 hx hb hts Ig0 hown hB.1 hC hli (List.mem_of_getElem? (i := 1) rfl) dJx4a65c_grow_d5877_2 ?_
  refine q_val (v := 15) (by rw [hn]; rfl) ?_
  refine lv_iconst (v := 1) hx hb dJx4a65c_grow_d5877_5 (by decide) ?_
  refine lv_iadd hx hb dJx4a65c_grow_d5877_6 ?_
  refine q_val (v := 16) (by decide) ?_
  refine m_callVg (As := [.int 16]) (κ := 1) (i := li) hli rfl ⟨_, rfl⟩ rfl ⟨hx, hb, hml, hown, hts⟩ (kJx4a65c_grow_92f84_15 l D cy e0 (bd := bd) (w := w) g S _ li hli hn hc) (cwV 1 hts gJx4a65c_grow_d5877_Jx4a65c_grow_92f84 rfl rfl rfl (by decide +kernel) ⟨Nat.le_of_ble_eq_true rfl, Nat.le_of_ble_eq_true rfl⟩) hB hG.2 hC hS rfl hl.1 (Nat.le_of_ble_eq_true rfl) dJx4a65c_grow_d5877_7 ⟨Nat.le_of_ble_eq_true rfl, Nat.le_of_ble_eq_true rfl⟩ (fun b9 H1 locs1 b1 b2 b3 b4 hS => ?_)
  exact W.aret hx hb hr (Or.inr ⟨_, rfl⟩) (Or.inr ⟨_, rfl⟩) (fun t ht hW => ⟨⟨(), _, rfl, trivial, b1, fun κ i hv hn => by rw [ht]; exact b2 κ i hv hn, by rw [ht]; exact b3, by rw [ht]; exact b4⟩, hS.F ht⟩) hS.2.2 dJx4a65c_grow_d5877_10
theorem Ia3 : ∀ w ∈ wsJx4a65c0, w ∈ wsJx4a65c_add_72be8 := fun _ h => (List.mem_cons_of_mem _ (List.mem_append_right _ h))
set_option maxRecDepth 100000 in
set_option maxHeartbeats 4000000 in
theorem kJx4a65c_add_72be8_s (l : Launch) (D : va_G) (cy : Nat → ClassId) (e0 : Nat) {bd w : Nat → Nat → Nat} (g : Md) (S : Int64) (sz li : Nat) (hli : li < 4) (hnb : w 0 li + 1 ≤ nB li) (h4 : 0 < w 0 4) (hlen : w 2 (w 0 4 - 1) = rN li) (hlt : w 0 li < w 1 li) (h0 : 0 < w 0 li) : Met l yJx4a65c_add_72be8 wsJx4a65c_add_72be8 ({ frames := 5, cells := 1, slots := 64, locals := 200 } : Room) (va_Pc [.ref (bd 1 li), .ref (bd 3 (400 + (w 0 4 - 1))), .ref (bd 2 li), .int (nI (w 0 li))] (mPre D cy e0 bd w g S sz)) (a3Q D cy bd w g S li sz) 1 64 (mA bd w sz) := by
  refine q_start (cc := cJx4a65c_add_72be8) (maxL := 4) (ret := none) (own := RJx4a65c) (by decide) rfl rfl (Nat.le_of_ble_eq_true rfl) ?_
  intro p e s m below meth c hx hb hr hml hts hown hlocks ⟨hsz, hC, hB⟩ ls hl
  subst hsz
  have hS : va_S (mA bd w s.heap.size) s.heap s.heap [] := va_S.rf
  have hG : mG e0 bd w s.heap.size bd w := mG.rf hB.2.2.1
  have hw0 := hC.1
  have hw20 := w0_20 hw0 hli
  have h1v : mV w 1 li := hli
  have hTv : rV w (400 + (w 0 4 - 1)) := by unfold rV; omega
  have hl : lv_has ls 4 [(0, .ref (bd 1 li)), (1, .ref (bd 3 (400 + (w 0 4 - 1)))), (2, .ref (bd 2 li)), (3, .int (nI (w 0 li)))] := hl
  refine lv_iload_n hx hb dJx4a65c_add_72be8_0 rfl (lv_at hl 3 rfl) ?_
  refine lv_aload_n hx hb dJx4a65c_add_72be8_1 rfl (lv_at hl 2 rfl) ?_
  have h2v : mV w 2 li := ⟨hli, h0⟩
  have hc64 := hC.2.2.1.2.1 li
  refine ln_m2 hx hb hB.1 hC hli h0 dJx4a65c_add_72be8_2 ?_
  refine lv_icmp_ne (tgt := 11) hx hb dJx4a65c_add_72be8_3 (by decide) (fun _ => ?_) (fun c => absurd c (fun q => by have := congrArg Int32.toNatClampNeg q; rw [nI_clamp (by omega), nI_clamp (by omega)] at this; omega))
  have hcD : cD w li = w 1 li := by unfold cD; rw [if_neg (by omega), if_pos hlt]
  obtain ⟨a9, ha9⟩ : ∃ a9, a9 = bd 2 li := ⟨_, rfl⟩
  have hAa : mA bd w s.heap.size a9 := Or.inl ⟨2, li, h2v, ha9⟩
  have hb2 : ∀ κ i, mV w κ i → ¬ (κ = 1 ∧ i = li) → va_at D vwCl (bd κ i, mS cy bd w g S κ i) s.heap := fun κ i hv _ => hC.2.2.2 κ i hv
  have hb3 : va_at D vwCl (bd 1 li, .inr (1, [.int (nI (w 6 li)), .ref a9, .int (nI (w 0 li))])) s.heap := by rw [ha9]; exact hC.2.2.2 1 li h1v
  have hb4 : va_at D vwCl (a9, .inl (cy 7, (w 1 li, q_opt (liF bd w li)))) s.heap := by rw [ha9]; exact hC.2.2.2 2 li h2v
  have hany : va_Any "java/lang/Object" s s.heap (bd 3 (400 + (w 0 4 - 1))) := m_any hB hC hTv
  have hna1 : bd 1 li ≠ a9 := by rw [ha9]; exact fun e => absurd (hC.2.1 _ _ _ _ h1v h2v e).1 (by decide)
  have hfr : ∀ κ i, mV w κ i → ¬ (κ = 2 ∧ i = li) → bd κ i ≠ a9 := fun κ i hv n e => n (by rw [ha9] at e; exact hC.2.1 _ _ _ _ hv h2v e)
  rw [← ha9] at hl
  refine lv_aload_n hx hb dJx4a65c_add_72be8_11 rfl (lv_at hl 2 rfl) ?_
  refine lv_iload_n hx hb dJx4a65c_add_72be8_12 rfl (lv_at hl 3 rfl) ?_
  refine lv_aload_n hx hb dJx4a65c_add_72be8_13 rfl (lv_at hl 1 rfl) ?_
  refine q_ast hx hb hB.1 7 hb4 hS hAa rfl hany (nI_clamp (by omega)) (fun q => q.elim (nI_pos (by omega)) (fun q => by rw [nI_clamp (by omega)] at q; omega)) dJx4a65c_add_72be8_14 (fun H2 locs2 hat2 _ hO2 hS => ?_)
  refine lv_aload_n hx hb dJx4a65c_add_72be8_15 rfl (lv_at hl 0 rfl) ?_
  refine lv_iload_n hx hb dJx4a65c_add_72be8_16 rfl (lv_at hl 3 rfl) ?_
  refine lv_iconst (v := 1) hx hb dJx4a65c_add_72be8_17 (by decide) ?_
  refine lv_iadd hx hb dJx4a65c_add_72be8_18 ?_
  refine q_val (v := nI (w 0 li + 1)) (nI_1 _) ?_
  refine q_put hx hb hts Ia3 tyJx4a65c tyJx4a65c_ok nmJx4a65c hown hB.1 (hb3.kept (hO2 _ hna1)) hS (hG.2.1 1 li h1v) rfl 2 (by decide) (List.mem_of_getElem? (i := 1) rfl) rfl rfl rfl rfl (Nat.le_of_ble_eq_true rfl) dJx4a65c_add_72be8_19 (fun H3 locs3 hat3 _ hO3 hS => ?_)
  have hne1 : ∀ κ i, mV w κ i → ¬ (κ = 1 ∧ i = li) → bd κ i ≠ bd 1 li := fun κ i hv hn e => hn (hC.2.1 _ _ _ _ hv h1v e)
  have hM3 : MW D cy (bdF bd w li a9) (wF w li (cD w li)) (rz g (rb li + w 0 li) (fun j => g (400 + (w 0 4 - 1)) j)) S H3 := by
    refine hC.addRow hli hnb h4 hlen (by rw [hcD]; omega) (by rw [hcD]; omega) hat3 (by rw [hcD]; exact hat2.kept (hO3 _ (Ne.symm hna1))) (fun κ i hv n1 n2 => ((hb2 κ i hv n1).kept (hO2 _ (hfr κ i hv n2))).kept (hO3 _ (hne1 κ i hv n1))) hfr
  refine W.widen (k := 1) (n := 64) (Nat.le_of_ble_eq_true rfl) (Nat.le_of_ble_eq_true rfl) ?_
  exact W.vret hx hb hr (fun t ht hW => ⟨⟨a9, rfl, trivial, hAa, MW.at ht hM3⟩, hS.F ht⟩) hS.2.2 dJx4a65c_add_72be8_22
set_option maxRecDepth 100000 in
set_option maxHeartbeats 4000000 in
theorem kJx4a65c_add_72be8_0 (l : Launch) (D : va_G) (cy : Nat → ClassId) (e0 : Nat) {bd w : Nat → Nat → Nat} (g : Md) (S : Int64) (sz li : Nat) (hli : li < 4) (hnb : w 0 li + 1 ≤ nB li) (h4 : 0 < w 0 4) (hlen : w 2 (w 0 4 - 1) = rN li) (hn : w 0 li = 0) : Met l yJx4a65c_add_72be8 wsJx4a65c_add_72be8 ({ frames := 5, cells := 1, slots := 64, locals := 200 } : Room) (va_Pc [.ref (bd 1 li), .ref (bd 3 (400 + (w 0 4 - 1))), .ref (bd 2 li), .int (nI (w 0 li))] (mPre D cy e0 bd w g S sz)) (a3Q D cy bd w g S li sz) 1 64 (mA bd w sz) := by
  refine q_start (cc := cJx4a65c_add_72be8) (maxL := 4) (ret := none) (own := RJx4a65c) (by decide) rfl rfl (Nat.le_of_ble_eq_true rfl) ?_
  intro p e s m below meth c hx hb hr hml hts hown hlocks ⟨hsz, hC, hB⟩ ls hl
  subst hsz
  have hS : va_S (mA bd w s.heap.size) s.heap s.heap [] := va_S.rf
  have hG : mG e0 bd w s.heap.size bd w := mG.rf hB.2.2.1
  have hw0 := hC.1
  have hw20 := w0_20 hw0 hli
  have h1v : mV w 1 li := hli
  have hTv : rV w (400 + (w 0 4 - 1)) := by unfold rV; omega
  have hl : lv_has ls 4 [(0, .ref (bd 1 li)), (1, .ref (bd 3 (400 + (w 0 4 - 1)))), (2, .ref (bd 2 li)), (3, .int (nI (w 0 li)))] := hl
  refine lv_iload_n hx hb dJx4a65c_add_72be8_0 rfl (lv_at hl 3 rfl) ?_
  refine lv_aload_n hx hb dJx4a65c_add_72be8_1 rfl (lv_at hl 2 rfl) ?_
  have he0 : bd 2 li = e0 := hB.2.2.1 li hli hn
  obtain ⟨cell, e1, e2, e3, e4, e5, e6, e7⟩ := hB.2.2.2.1.2
  refine m_stk (st' := [.ref e0, .int (nI (w 0 li))]) (by rw [he0]) ?_
  refine q_alenT (n := 0) hx hb e1 e2 e5 dJx4a65c_add_72be8_2 ?_
  refine q_val (v := nI (w 0 li)) (by rw [hn]; rfl) ?_
  refine lv_icmp_ne (tgt := 11) hx hb dJx4a65c_add_72be8_3 (by decide) (fun c => absurd rfl c) (fun _ => ?_)
  refine lv_aload_n hx hb dJx4a65c_add_72be8_6 rfl (lv_at hl 0 rfl) ?_
  refine m_callVg (As := []) (κ := 1) (i := li) hli rfl ⟨_, rfl⟩ rfl ⟨hx, hb, hml, hown, hts⟩ (kJx4a65c_grow_d5877_0 l D cy e0 (bd := bd) (w := w) g S _ li hli hn) (cwV 0 hts gJx4a65c_add_72be8_Jx4a65c_grow_d5877 rfl rfl rfl (by decide +kernel) ⟨Nat.le_of_ble_eq_true rfl, Nat.le_of_ble_eq_true rfl⟩) hB hG.2 hC hS rfl hl.1 (Nat.le_of_ble_eq_true rfl) dJx4a65c_add_72be8_7 ⟨Nat.le_of_ble_eq_true rfl, Nat.le_of_ble_eq_true rfl⟩ (fun a9 H1 locs1 hb1 hb2 hb3 hb4 hS => ?_)
  have hcD : cD w li = 10 := by unfold cD; rw [if_pos hn]
  have hAa : mA bd w s.heap.size a9 := Or.inr hb1
  have hna1 : bd 1 li ≠ a9 := by have := hC.lt h1v; omega
  have hfr : ∀ κ i, mV w κ i → ¬ (κ = 2 ∧ i = li) → bd κ i ≠ a9 := fun κ i hv _ => by have := hC.lt hv; omega
  have hany : va_Any "java/lang/Object" s H1 (bd 3 (400 + (w 0 4 - 1))) := by
    obtain ⟨cell9, f1, f2⟩ := m_any hB hC hTv
    cases (show s.heap[bd 3 (400 + (w 0 4 - 1))]? = some _ from hC.2.2.2 3 _ hTv).symm.trans f1
    exact ⟨_, hb2 3 _ hTv (by omega), f2⟩
  refine lv_astore_n (lv' := [(2, .ref a9), (0, .ref (bd 1 li)), (1, .ref (bd 3 (400 + (w 0 4 - 1)))), (3, .int (nI (w 0 li)))]) hx hb dJx4a65c_add_72be8_10 rfl hl (by decide) rfl (fun ls hl => ?_)
  refine lv_aload_n hx hb dJx4a65c_add_72be8_11 rfl (lv_at hl 0 rfl) ?_
  refine lv_iload_n hx hb dJx4a65c_add_72be8_12 rfl (lv_at hl 3 rfl) ?_
  refine lv_aload_n hx hb dJx4a65c_add_72be8_13 rfl (lv_at hl 2 rfl) ?_
  refine q_ast hx hb hB.1 7 hb4 hS hAa rfl hany (nI_clamp (by omega)) (fun q => q.elim (nI_pos (by omega)) (fun q => by rw [nI_clamp (by omega)] at q; omega)) dJx4a65c_add_72be8_14 (fun H2 locs2 hat2 _ hO2 hS => ?_)
  refine lv_aload_n hx hb dJx4a65c_add_72be8_15 rfl (lv_at hl 1 rfl) ?_
  refine lv_iload_n hx hb dJx4a65c_add_72be8_16 rfl (lv_at hl 3 rfl) ?_
  refine lv_iconst (v := 1) hx hb dJx4a65c_add_72be8_17 (by decide) ?_
  refine lv_iadd hx hb dJx4a65c_add_72be8_18 ?_
  refine q_val (v := nI (w 0 li + 1)) (nI_1 _) ?_
  refine q_put hx hb hts Ia3 tyJx4a65c tyJx4a65c_ok nmJx4a65c hown hB.1 (hb3.kept (hO2 _ hna1)) hS (hG.2.1 1 li h1v) rfl 2 (by decide) (List.mem_of_getElem? (i := 1) rfl) rfl rfl rfl rfl (Nat.le_of_ble_eq_true rfl) dJx4a65c_add_72be8_19 (fun H3 locs3 hat3 _ hO3 hS => ?_)
  have hne1 : ∀ κ i, mV w κ i → ¬ (κ = 1 ∧ i = li) → bd κ i ≠ bd 1 li := fun κ i hv hn e => hn (hC.2.1 _ _ _ _ hv h1v e)
  have hM3 : MW D cy (bdF bd w li a9) (wF w li (cD w li)) (rz g (rb li + w 0 li) (fun j => g (400 + (w 0 4 - 1)) j)) S H3 := by
    refine hC.addRow hli hnb h4 hlen (by rw [hcD]; omega) (by rw [hcD]; omega) hat3 (by rw [hcD]; exact hat2.kept (hO3 _ (Ne.symm hna1))) (fun κ i hv n1 n2 => ((hb2 κ i hv n1).kept (hO2 _ (hfr κ i hv n2))).kept (hO3 _ (hne1 κ i hv n1))) hfr
  refine W.widen (k := 1) (n := 64) (Nat.le_of_ble_eq_true rfl) (Nat.le_of_ble_eq_true rfl) ?_
  exact W.vret hx hb hr (fun t ht hW => ⟨⟨a9, rfl, trivial, hAa, MW.at ht hM3⟩, hS.F ht⟩) hS.2.2 dJx4a65c_add_72be8_22
set_option maxRecDepth 100000 in
set_option maxHeartbeats 4000000 in
theorem kJx4a65c_add_72be8_10 (l : Launch) (D : va_G) (cy : Nat → ClassId) (e0 : Nat) {bd w : Nat → Nat → Nat} (g : Md) (S : Int64) (sz li : Nat) (hli : li < 4) (hnb : w 0 li + 1 ≤ nB li) (h4 : 0 < w 0 4) (hlen : w 2 (w 0 4 - 1) = rN li) (hn : w 0 li = 10) (hc : w 1 li = 10) : Met l yJx4a65c_add_72be8 wsJx4a65c_add_72be8 ({ frames := 5, cells := 1, slots := 64, locals := 200 } : Room) (va_Pc [.ref (bd 1 li), .ref (bd 3 (400 + (w 0 4 - 1))), .ref (bd 2 li), .int (nI (w 0 li))] (mPre D cy e0 bd w g S sz)) (a3Q D cy bd w g S li sz) 1 64 (mA bd w sz) := by
  refine q_start (cc := cJx4a65c_add_72be8) (maxL := 4) (ret := none) (own := RJx4a65c) (by decide) rfl rfl (Nat.le_of_ble_eq_true rfl) ?_
  intro p e s m below meth c hx hb hr hml hts hown hlocks ⟨hsz, hC, hB⟩ ls hl
  subst hsz
  have hS : va_S (mA bd w s.heap.size) s.heap s.heap [] := va_S.rf
  have hG : mG e0 bd w s.heap.size bd w := mG.rf hB.2.2.1
  have hw0 := hC.1
  have hw20 := w0_20 hw0 hli
  have h1v : mV w 1 li := hli
  have hTv : rV w (400 + (w 0 4 - 1)) := by unfold rV; omega
  have hl : lv_has ls 4 [(0, .ref (bd 1 li)), (1, .ref (bd 3 (400 + (w 0 4 - 1)))), (2, .ref (bd 2 li)), (3, .int (nI (w 0 li)))] := hl
  refine lv_iload_n hx hb dJx4a65c_add_72be8_0 rfl (lv_at hl 3 rfl) ?_
  refine lv_aload_n hx hb dJx4a65c_add_72be8_1 rfl (lv_at hl 2 rfl) ?_
  have h0 : 0 < w 0 li := by omega
  refine ln_m2 hx hb hB.1 hC hli h0 dJx4a65c_add_72be8_2 ?_
  refine q_val (v := nI (w 0 li)) (by rw [hn, hc]) ?_
  refine lv_icmp_ne (tgt := 11) hx hb dJx4a65c_add_72be8_3 (by decide) (fun c => absurd rfl c) (fun _ => ?_)
  refine lv_aload_n hx hb dJx4a65c_add_72be8_6 rfl (lv_at hl 0 rfl) ?_
  refine m_callVg (As := []) (κ := 1) (i := li) hli rfl ⟨_, rfl⟩ rfl ⟨hx, hb, hml, hown, hts⟩ (kJx4a65c_grow_d5877_10 l D cy e0 (bd := bd) (w := w) g S _ li hli hn hc) (cwV 0 hts gJx4a65c_add_72be8_Jx4a65c_grow_d5877 rfl rfl rfl (by decide +kernel) ⟨Nat.le_of_ble_eq_true rfl, Nat.le_of_ble_eq_true rfl⟩) hB hG.2 hC hS rfl hl.1 (Nat.le_of_ble_eq_true rfl) dJx4a65c_add_72be8_7 ⟨Nat.le_of_ble_eq_true rfl, Nat.le_of_ble_eq_true rfl⟩ (fun a9 H1 locs1 hb1 hb2 hb3 hb4 hS => ?_)
  have hcD : cD w li = 15 := by unfold cD; rw [if_neg (by omega), if_neg (by omega), if_pos hc]
  have hAa : mA bd w s.heap.size a9 := Or.inr hb1
  have hna1 : bd 1 li ≠ a9 := by have := hC.lt h1v; omega
  have hfr : ∀ κ i, mV w κ i → ¬ (κ = 2 ∧ i = li) → bd κ i ≠ a9 := fun κ i hv _ => by have := hC.lt hv; omega
  have hany : va_Any "java/lang/Object" s H1 (bd 3 (400 + (w 0 4 - 1))) := by
    obtain ⟨cell9, f1, f2⟩ := m_any hB hC hTv
    cases (show s.heap[bd 3 (400 + (w 0 4 - 1))]? = some _ from hC.2.2.2 3 _ hTv).symm.trans f1
    exact ⟨_, hb2 3 _ hTv (by omega), f2⟩
  refine lv_astore_n (lv' := [(2, .ref a9), (0, .ref (bd 1 li)), (1, .ref (bd 3 (400 + (w 0 4 - 1)))), (3, .int (nI (w 0 li)))]) hx hb dJx4a65c_add_72be8_10 rfl hl (by decide) rfl (fun ls hl => ?_)
  refine lv_aload_n hx hb dJx4a65c_add_72be8_11 rfl (lv_at hl 0 rfl) ?_
  refine lv_iload_n hx hb dJx4a65c_add_72be8_12 rfl (lv_at hl 3 rfl) ?_
  refine lv_aload_n hx hb dJx4a65c_add_72be8_13 rfl (lv_at hl 2 rfl) ?_
  refine q_ast hx hb hB.1 7 hb4 hS hAa rfl hany (nI_clamp (by omega)) (fun q => q.elim (nI_pos (by omega)) (fun q => by rw [nI_clamp (by omega)] at q; omega)) dJx4a65c_add_72be8_14 (fun H2 locs2 hat2 _ hO2 hS => ?_)
  refine lv_aload_n hx hb dJx4a65c_add_72be8_15 rfl (lv_at hl 1 rfl) ?_
  refine lv_iload_n hx hb dJx4a65c_add_72be8_16 rfl (lv_at hl 3 rfl) ?_
  refine lv_iconst (v := 1) hx hb dJx4a65c_add_72be8_17 (by decide) ?_
  refine lv_iadd hx hb dJx4a65c_add_72be8_18 ?_
  refine q_val (v := nI (w 0 li + 1)) (nI_1 _) ?_
  refine q_put hx hb hts Ia3 tyJx4a65c tyJx4a65c_ok nmJx4a65c hown hB.1 (hb3.kept (hO2 _ hna1)) hS (hG.2.1 1 li h1v) rfl 2 (by decide) (List.mem_of_getElem? (i := 1) rfl) rfl rfl rfl rfl (Nat.le_of_ble_eq_true rfl) dJx4a65c_add_72be8_19 (fun H3 locs3 hat3 _ hO3 hS => ?_)
  have hne1 : ∀ κ i, mV w κ i → ¬ (κ = 1 ∧ i = li) → bd κ i ≠ bd 1 li := fun κ i hv hn e => hn (hC.2.1 _ _ _ _ hv h1v e)
  have hM3 : MW D cy (bdF bd w li a9) (wF w li (cD w li)) (rz g (rb li + w 0 li) (fun j => g (400 + (w 0 4 - 1)) j)) S H3 := by
    refine hC.addRow hli hnb h4 hlen (by rw [hcD]; omega) (by rw [hcD]; omega) hat3 (by rw [hcD]; exact hat2.kept (hO3 _ (Ne.symm hna1))) (fun κ i hv n1 n2 => ((hb2 κ i hv n1).kept (hO2 _ (hfr κ i hv n2))).kept (hO3 _ (hne1 κ i hv n1))) hfr
  refine W.widen (k := 1) (n := 64) (Nat.le_of_ble_eq_true rfl) (Nat.le_of_ble_eq_true rfl) ?_
  exact W.vret hx hb hr (fun t ht hW => ⟨⟨a9, rfl, trivial, hAa, MW.at ht hM3⟩, hS.F ht⟩) hS.2.2 dJx4a65c_add_72be8_22
set_option maxRecDepth 100000 in
set_option maxHeartbeats 4000000 in
theorem kJx4a65c_add_72be8_15 (l : Launch) (D : va_G) (cy : Nat → ClassId) (e0 : Nat) {bd w : Nat → Nat → Nat} (g : Md) (S : Int64) (sz li : Nat) (hli : li < 4) (hnb : w 0 li + 1 ≤ nB li) (h4 : 0 < w 0 4) (hlen : w 2 (w 0 4 - 1) = rN li) (hn : w 0 li = 15) (hc : w 1 li = 15) : Met l yJx4a65c_add_72be8 wsJx4a65c_add_72be8 ({ frames := 5, cells := 1, slots := 64, locals := 200 } : Room) (va_Pc [.ref (bd 1 li), .ref (bd 3 (400 + (w 0 4 - 1))), .ref (bd 2 li), .int (nI (w 0 li))] (mPre D cy e0 bd w g S sz)) (a3Q D cy bd w g S li sz) 1 64 (mA bd w sz) := by
  refine q_start (cc := cJx4a65c_add_72be8) (maxL := 4) (ret := none) (own := RJx4a65c) (by decide) rfl rfl (Nat.le_of_ble_eq_true rfl) ?_
  intro p e s m below meth c hx hb hr hml hts hown hlocks ⟨hsz, hC, hB⟩ ls hl
  subst hsz
  have hS : va_S (mA bd w s.heap.size) s.heap s.heap [] := va_S.rf
  have hG : mG e0 bd w s.heap.size bd w := mG.rf hB.2.2.1
  have hw0 := hC.1
  have hw20 := w0_20 hw0 hli
  have h1v : mV w 1 li := hli
  have hTv : rV w (400 + (w 0 4 - 1)) := by unfold rV; omega
  have hl : lv_has ls 4 [(0, .ref (bd 1 li)), (1, .ref (bd 3 (400 + (w 0 4 - 1)))), (2, .ref (bd 2 li)), (3, .int (nI (w 0 li)))] := hl
  refine lv_iload_n hx hb dJx4a65c_add_72be8_0 rfl (lv_at hl 3 rfl) ?_
  refine lv_aload_n hx hb dJx4a65c_add_72be8_1 rfl (lv_at hl 2 rfl) ?_
  have h0 : 0 < w 0 li := by omega
  refine ln_m2 hx hb hB.1 hC hli h0 dJx4a65c_add_72be8_2 ?_
  refine q_val (v := nI (w 0 li)) (by rw [hn, hc]) ?_
  refine lv_icmp_ne (tgt := 11) hx hb dJx4a65c_add_72be8_3 (by decide) (fun c => absurd rfl c) (fun _ => ?_)
  refine lv_aload_n hx hb dJx4a65c_add_72be8_6 rfl (lv_at hl 0 rfl) ?_
  refine m_callVg (As := []) (κ := 1) (i := li) hli rfl ⟨_, rfl⟩ rfl ⟨hx, hb, hml, hown, hts⟩ (kJx4a65c_grow_d5877_15 l D cy e0 (bd := bd) (w := w) g S _ li hli hn hc) (cwV 0 hts gJx4a65c_add_72be8_Jx4a65c_grow_d5877 rfl rfl rfl (by decide +kernel) ⟨Nat.le_of_ble_eq_true rfl, Nat.le_of_ble_eq_true rfl⟩) hB hG.2 hC hS rfl hl.1 (Nat.le_of_ble_eq_true rfl) dJx4a65c_add_72be8_7 ⟨Nat.le_of_ble_eq_true rfl, Nat.le_of_ble_eq_true rfl⟩ (fun a9 H1 locs1 hb1 hb2 hb3 hb4 hS => ?_)
  have hcD : cD w li = 22 := by unfold cD; rw [if_neg (by omega), if_neg (by omega), if_neg (by omega)]
  have hAa : mA bd w s.heap.size a9 := Or.inr hb1
  have hna1 : bd 1 li ≠ a9 := by have := hC.lt h1v; omega
  have hfr : ∀ κ i, mV w κ i → ¬ (κ = 2 ∧ i = li) → bd κ i ≠ a9 := fun κ i hv _ => by have := hC.lt hv; omega
  have hany : va_Any "java/lang/Object" s H1 (bd 3 (400 + (w 0 4 - 1))) := by
    obtain ⟨cell9, f1, f2⟩ := m_any hB hC hTv
    cases (show s.heap[bd 3 (400 + (w 0 4 - 1))]? = some _ from hC.2.2.2 3 _ hTv).symm.trans f1
    exact ⟨_, hb2 3 _ hTv (by omega), f2⟩
  refine lv_astore_n (lv' := [(2, .ref a9), (0, .ref (bd 1 li)), (1, .ref (bd 3 (400 + (w 0 4 - 1)))), (3, .int (nI (w 0 li)))]) hx hb dJx4a65c_add_72be8_10 rfl hl (by decide) rfl (fun ls hl => ?_)
  refine lv_aload_n hx hb dJx4a65c_add_72be8_11 rfl (lv_at hl 0 rfl) ?_
  refine lv_iload_n hx hb dJx4a65c_add_72be8_12 rfl (lv_at hl 3 rfl) ?_
  refine lv_aload_n hx hb dJx4a65c_add_72be8_13 rfl (lv_at hl 2 rfl) ?_
  refine q_ast hx hb hB.1 7 hb4 hS hAa rfl hany (nI_clamp (by omega)) (fun q => q.elim (nI_pos (by omega)) (fun q => by rw [nI_clamp (by omega)] at q; omega)) dJx4a65c_add_72be8_14 (fun H2 locs2 hat2 _ hO2 hS => ?_)
  refine lv_aload_n hx hb dJx4a65c_add_72be8_15 rfl (lv_at hl 1 rfl) ?_
  refine lv_iload_n hx hb dJx4a65c_add_72be8_16 rfl (lv_at hl 3 rfl) ?_
  refine lv_iconst (v := 1) hx hb dJx4a65c_add_72be8_17 (by decide) ?_
  refine lv_iadd hx hb dJx4a65c_add_72be8_18 ?_
  refine q_val (v := nI (w 0 li + 1)) (nI_1 _) ?_
  refine q_put hx hb hts Ia3 tyJx4a65c tyJx4a65c_ok nmJx4a65c hown hB.1 (hb3.kept (hO2 _ hna1)) hS (hG.2.1 1 li h1v) rfl 2 (by decide) (List.mem_of_getElem? (i := 1) rfl) rfl rfl rfl rfl (Nat.le_of_ble_eq_true rfl) dJx4a65c_add_72be8_19 (fun H3 locs3 hat3 _ hO3 hS => ?_)
  have hne1 : ∀ κ i, mV w κ i → ¬ (κ = 1 ∧ i = li) → bd κ i ≠ bd 1 li := fun κ i hv hn e => hn (hC.2.1 _ _ _ _ hv h1v e)
  have hM3 : MW D cy (bdF bd w li a9) (wF w li (cD w li)) (rz g (rb li + w 0 li) (fun j => g (400 + (w 0 4 - 1)) j)) S H3 := by
    refine hC.addRow hli hnb h4 hlen (by rw [hcD]; omega) (by rw [hcD]; omega) hat3 (by rw [hcD]; exact hat2.kept (hO3 _ (Ne.symm hna1))) (fun κ i hv n1 n2 => ((hb2 κ i hv n1).kept (hO2 _ (hfr κ i hv n2))).kept (hO3 _ (hne1 κ i hv n1))) hfr
  refine W.widen (k := 1) (n := 64) (Nat.le_of_ble_eq_true rfl) (Nat.le_of_ble_eq_true rfl) ?_
  exact W.vret hx hb hr (fun t ht hW => ⟨⟨a9, rfl, trivial, hAa, MW.at ht hM3⟩, hS.F ht⟩) hS.2.2 dJx4a65c_add_72be8_22
theorem kJx4a65c_add_72be8 (l : Launch) (D : va_G) (cy : Nat → ClassId) (e0 : Nat) {bd w : Nat → Nat → Nat} (g : Md) (S : Int64) (sz li : Nat) (hli : li < 4) (hnb : w 0 li + 1 ≤ nB li) (h4 : 0 < w 0 4) (hlen : w 2 (w 0 4 - 1) = rN li) (hcI : capI w li) (hcap : 0 < w 0 li → w 0 li ≤ w 1 li) (h20 : w 0 li ≤ 20) : Met l yJx4a65c_add_72be8 wsJx4a65c_add_72be8 ({ frames := 5, cells := 1, slots := 64, locals := 200 } : Room) (va_Pc [.ref (bd 1 li), .ref (bd 3 (400 + (w 0 4 - 1))), .ref (bd 2 li), .int (nI (w 0 li))] (mPre D cy e0 bd w g S sz)) (a3Q D cy bd w g S li sz) 1 64 (mA bd w sz) := by
  by_cases h0 : w 0 li = 0
  · exact kJx4a65c_add_72be8_0 l D cy e0 g S sz li hli hnb h4 hlen h0
  · by_cases hlt : w 0 li < w 1 li
    · exact kJx4a65c_add_72be8_s l D cy e0 g S sz li hli hnb h4 hlen hlt (by omega)
    · have := hcap (by omega)
      rcases hcI with h | h | h | h
      · exact absurd h h0
      · exact kJx4a65c_add_72be8_10 l D cy e0 g S sz li hli hnb h4 hlen (by omega) h
      · exact kJx4a65c_add_72be8_15 l D cy e0 g S sz li hli hnb h4 hlen (by omega) h
      · omega
theorem Ia1 : ∀ w ∈ wsJx4a65c0, w ∈ wsJx4a65c_add_9ea2d := fun _ h => (List.mem_cons_of_mem _ (List.mem_append_right _ h))
set_option maxRecDepth 100000 in
set_option maxHeartbeats 4000000 in
theorem kJx4a65c_add_9ea2d (l : Launch) (D : va_G) (cy : Nat → ClassId) (e0 : Nat) {bd w : Nat → Nat → Nat} (g : Md) (S : Int64) (sz li : Nat) (hli : li < 4) (hnb : w 0 li + 1 ≤ nB li) (h4 : 0 < w 0 4) (hlen : w 2 (w 0 4 - 1) = rN li) (hcI : capI w li) : Met l yJx4a65c_add_9ea2d wsJx4a65c_add_9ea2d ({ frames := 6, cells := 1, slots := 64, locals := 230 } : Room) (va_Pc [.ref (bd 1 li), .ref (bd 3 (400 + (w 0 4 - 1)))] (mPre D cy e0 bd w g S sz)) (a1Q D cy bd w g S li sz) 1 64 (mA bd w sz) := by
  refine q_start (cc := cJx4a65c_add_9ea2d) (maxL := 2) (ret := (some .boolean)) (own := RJx4a65c) (by decide) rfl rfl (Nat.le_of_ble_eq_true rfl) ?_
  intro p e s m below meth c hx hb hr hml hts hown hlocks ⟨hsz, hC, hB⟩ ls hl
  subst hsz
  have hS : va_S (mA bd w s.heap.size) s.heap s.heap [] := va_S.rf
  have hG : mG e0 bd w s.heap.size bd w := mG.rf hB.2.2.1
  have hw0 := hC.1
  have hw20 := w0_20 hw0 hli
  have h1v : mV w 1 li := hli
  have hcap := hC.2.2.1.1 li hli
  have hl : lv_has ls 2 [(0, .ref (bd 1 li)), (1, .ref (bd 3 (400 + (w 0 4 - 1))))] := hl
  refine lv_aload_n hx hb dJx4a65c_add_9ea2d_0 rfl (lv_at hl 0 rfl) ?_
  refine lv_dup hx hb dJx4a65c_add_9ea2d_1 rfl ?_
  refine gt_m1_0 hx hb hts Ia1 hown hB.1 hC hli (List.mem_of_getElem? (i := 1) rfl) (List.mem_of_getElem? (i := 2) rfl) dJx4a65c_add_9ea2d_2 ?_
  refine lv_iconst (v := 1) hx hb dJx4a65c_add_9ea2d_5 (by decide) ?_
  refine lv_iadd hx hb dJx4a65c_add_9ea2d_6 ?_
  refine q_val (v := nI (w 6 li + 1)) (nI_1 _) ?_
  refine q_putS hx hb hts Ia1 tyJx4a65c tyJx4a65c_ok nmJx4a65c hown hB.1 (hC.2.2.2 1 li h1v) hS (hG.2.1 1 li h1v) rfl 0 (by decide) (List.mem_of_getElem? (i := 1) rfl) (fun x h => u_same (hts _ (List.mem_of_getElem? (i := 2) rfl)) x h) rfl rfl rfl (Nat.le_of_ble_eq_true rfl) dJx4a65c_add_9ea2d_7 (fun H1 locs1 hat1 _ hO1 hS => ?_)
  have hC6 : MW D cy bd (w6 w li) g S H1 := hC.mod hli hat1 hO1
  have hS0 : s.heap.size ≤ H1.size := hS.1
  have hG6 : mG0 e0 bd w s.heap.size bd (w6 w li) := hG.2
  refine lv_aload_n hx hb dJx4a65c_add_9ea2d_10 rfl (lv_at hl 0 rfl) ?_
  refine lv_aload_n hx hb dJx4a65c_add_9ea2d_11 rfl (lv_at hl 1 rfl) ?_
  refine lv_aload_n hx hb dJx4a65c_add_9ea2d_12 rfl (lv_at hl 0 rfl) ?_
  refine gt_m1_1 hx hb hts Ia1 hown hB.1 hC6 hli (List.mem_of_getElem? (i := 3) rfl) dJx4a65c_add_9ea2d_13 ?_
  refine lv_aload_n hx hb dJx4a65c_add_9ea2d_16 rfl (lv_at hl 0 rfl) ?_
  refine gt_m1_2 hx hb hts Ia1 hown hB.1 hC6 hli (List.mem_of_getElem? (i := 4) rfl) dJx4a65c_add_9ea2d_17 ?_
  refine m_callV3 (As := [.ref (bd 3 (400 + (w 0 4 - 1))), .ref (bd 2 li), .int (nI (w 0 li))]) (κ := 1) (i := li) hli rfl ⟨_, rfl⟩ rfl ⟨hx, hb, hml, hown, hts⟩ (kJx4a65c_add_72be8 l D cy e0 (bd := bd) (w := w6 w li) g S _ li hli hnb h4 hlen hcI hcap hw20) (cwV 3 hts gJx4a65c_add_9ea2d_Jx4a65c_add_72be8 rfl rfl rfl (by decide +kernel) ⟨Nat.le_of_ble_eq_true rfl, Nat.le_of_ble_eq_true rfl⟩) hB hG6 hC6 hS rfl hl.1 (Nat.le_of_ble_eq_true rfl) dJx4a65c_add_9ea2d_20 ⟨Nat.le_of_ble_eq_true rfl, Nat.le_of_ble_eq_true rfl⟩ (fun a9 H2 locs2 ha9 hM9 hS => ?_)
  have hA9 : mA bd w s.heap.size a9 := mA_in hG6.1 (by have := hS0; omega) ha9
  refine lv_iconst (v := 1) hx hb dJx4a65c_add_9ea2d_23 (by decide) ?_
  exact W.zret hx hb hr rfl (fun t ht hW => ⟨⟨1, a9, rfl, rfl, hA9, MW.at ht hM9⟩, hS.F ht⟩) hS.2.2 dJx4a65c_add_9ea2d_24
