/-! ===== the class's world out of its constructor ===== -/
def of6 (κ i : Nat) : Nat := match κ with
  | 0 => 0
  | 1 => 12 + i
  | 2 => 18 + i
  | 3 => 38 + 4 * i
  | 4 => 50 + 4 * i
  | 5 => if i = 12 then 6 else 70 + 5 * i
  | 6 => if i = 20 then 7 else if i < 3 then 38 + 4 * i + 1 else if i < 8 then 50 + 4 * (i - 3) + 1 else 70 + 5 * (i - 8) + 1
  | 7 => if i = 20 then 8 else if i < 3 then 38 + 4 * i + 2 else if i < 8 then 50 + 4 * (i - 3) + 2 else 70 + 5 * (i - 8) + 2
  | 8 => if i = 20 then 9 else if i < 3 then 38 + 4 * i + 3 else if i < 8 then 50 + 4 * (i - 3) + 3 else 70 + 5 * (i - 8) + 3
  | 9 => if i = 12 then 10 else 70 + 5 * i + 4
  | 10 => 1
  | 11 => 2
  | 12 => 3
  | 13 => 4
  | 14 => 5
  | _ => 11
def adz (z : Nat) (κ i : Nat) : Nat := z + of6 κ i
def cVn (κ : Nat) : Nat := match κ with
  | 0 => 1
  | 1 => 6
  | 2 => 20
  | 3 => 3
  | 4 => 5
  | 5 => 13
  | 6 => 21
  | 7 => 21
  | 8 => 21
  | 9 => 13
  | 10 => 1
  | 11 => 1
  | 12 => 1
  | 13 => 1
  | 14 => 1
  | 15 => 1
  | _ => 0
theorem cV_n {κ i : Nat} (h : cV κ i) : κ < 16 ∧ i < cVn κ := by
  match κ, h with
  | 0, h => exact ⟨by decide, by have h : i = 0 := h; show i < 1; omega⟩
  | 1, h => exact ⟨by decide, by have h : i < 6 := h; show i < 6; omega⟩
  | 2, h => exact ⟨by decide, by have h : i < 20 := h; show i < 20; omega⟩
  | 3, h => exact ⟨by decide, by have h : i < 3 := h; show i < 3; omega⟩
  | 4, h => exact ⟨by decide, by have h : i < 5 := h; show i < 5; omega⟩
  | 5, h => exact ⟨by decide, by have h : i < 13 := h; show i < 13; omega⟩
  | 6, h => exact ⟨by decide, by have h : i < 21 := h; show i < 21; omega⟩
  | 7, h => exact ⟨by decide, by have h : i < 21 := h; show i < 21; omega⟩
  | 8, h => exact ⟨by decide, by have h : i < 21 := h; show i < 21; omega⟩
  | 9, h => exact ⟨by decide, by have h : i < 13 := h; show i < 13; omega⟩
  | 10, h => exact ⟨by decide, by have h : i = 0 := h; show i < 1; omega⟩
  | 11, h => exact ⟨by decide, by have h : i = 0 := h; show i < 1; omega⟩
  | 12, h => exact ⟨by decide, by have h : i = 0 := h; show i < 1; omega⟩
  | 13, h => exact ⟨by decide, by have h : i = 0 := h; show i < 1; omega⟩
  | 14, h => exact ⟨by decide, by have h : i = 0 := h; show i < 1; omega⟩
  | 15, h => exact ⟨by decide, by have h : i = 0 := h; show i < 1; omega⟩
def iv6 (j : Nat) : Nat × Nat :=
  if j = 0 then (0, 0) else if j < 6 then (9 + j, 0) else if j = 6 then (5, 12) else if j = 7 then (6, 20) else if j = 8 then (7, 20) else if j = 9 then (8, 20) else if j = 10 then (9, 12) else if j = 11 then (15, 0)
  else if j < 18 then (1, j - 12) else if j < 38 then (2, j - 18)
  else if j < 50 then (if (j - 38) % 4 = 0 then (3, (j - 38) / 4) else (5 + (j - 38) % 4, (j - 38) / 4))
  else if j < 70 then (if (j - 50) % 4 = 0 then (4, (j - 50) / 4) else (5 + (j - 50) % 4, 3 + (j - 50) / 4))
  else if (j - 70) % 5 = 0 then (5, (j - 70) / 5) else if (j - 70) % 5 = 4 then (9, (j - 70) / 5) else (5 + (j - 70) % 5, 8 + (j - 70) / 5)
set_option maxRecDepth 100000 in
theorem iv6_of : ∀ κ, κ < 16 → ∀ i, i < cVn κ → iv6 (of6 κ i) = (κ, i) ∧ of6 κ i < 130 := by decide +kernel
theorem adz_I (z : Nat) : cI (adz z) := by
  intro κ i κ' i' h h' e
  have e : of6 κ i = of6 κ' i' := by unfold adz at e; omega
  have a := (iv6_of κ (cV_n h).1 i (cV_n h).2).1
  have b := (iv6_of κ' (cV_n h').1 i' (cV_n h').2).1
  rw [e, b] at a
  cases a
  exact ⟨rfl, rfl⟩
theorem adz_lt {z κ i : Nat} (h : cV κ i) : z ≤ adz z κ i ∧ adz z κ i < z + 130 := by
  have a := (iv6_of κ (cV_n h).1 i (cV_n h).2).2
  unfold adz
  omega
theorem o6_t {i : Nat} (h : i < 3) : of6 6 i = 38 + 4 * i + 1 ∧ of6 7 i = 38 + 4 * i + 2 ∧ of6 8 i = 38 + 4 * i + 3 := by
  refine ⟨?_, ?_, ?_⟩
  · show (if i = 20 then 7 else if i < 3 then 38 + 4 * i + 1 else if i < 8 then 50 + 4 * (i - 3) + 1 else 70 + 5 * (i - 8) + 1) = _
    (repeat' split) <;> omega
  · show (if i = 20 then 8 else if i < 3 then 38 + 4 * i + 2 else if i < 8 then 50 + 4 * (i - 3) + 2 else 70 + 5 * (i - 8) + 2) = _
    (repeat' split) <;> omega
  · show (if i = 20 then 9 else if i < 3 then 38 + 4 * i + 3 else if i < 8 then 50 + 4 * (i - 3) + 3 else 70 + 5 * (i - 8) + 3) = _
    (repeat' split) <;> omega
theorem o6_d {i : Nat} (h : i < 5) : of6 6 (3 + i) = 50 + 4 * i + 1 ∧ of6 7 (3 + i) = 50 + 4 * i + 2 ∧ of6 8 (3 + i) = 50 + 4 * i + 3 := by
  refine ⟨?_, ?_, ?_⟩
  · show (if 3 + i = 20 then 7 else if 3 + i < 3 then 38 + 4 * (3 + i) + 1 else if 3 + i < 8 then 50 + 4 * (3 + i - 3) + 1 else 70 + 5 * (3 + i - 8) + 1) = _
    (repeat' split) <;> omega
  · show (if 3 + i = 20 then 8 else if 3 + i < 3 then 38 + 4 * (3 + i) + 2 else if 3 + i < 8 then 50 + 4 * (3 + i - 3) + 2 else 70 + 5 * (3 + i - 8) + 2) = _
    (repeat' split) <;> omega
  · show (if 3 + i = 20 then 9 else if 3 + i < 3 then 38 + 4 * (3 + i) + 3 else if 3 + i < 8 then 50 + 4 * (3 + i - 3) + 3 else 70 + 5 * (3 + i - 8) + 3) = _
    (repeat' split) <;> omega
theorem o6_l {i : Nat} (h : i < 12) : of6 6 (8 + i) = 70 + 5 * i + 1 ∧ of6 7 (8 + i) = 70 + 5 * i + 2 ∧ of6 8 (8 + i) = 70 + 5 * i + 3 := by
  refine ⟨?_, ?_, ?_⟩
  · show (if 8 + i = 20 then 7 else if 8 + i < 3 then 38 + 4 * (8 + i) + 1 else if 8 + i < 8 then 50 + 4 * (8 + i - 3) + 1 else 70 + 5 * (8 + i - 8) + 1) = _
    (repeat' split) <;> omega
  · show (if 8 + i = 20 then 8 else if 8 + i < 3 then 38 + 4 * (8 + i) + 2 else if 8 + i < 8 then 50 + 4 * (8 + i - 3) + 2 else 70 + 5 * (8 + i - 8) + 2) = _
    (repeat' split) <;> omega
  · show (if 8 + i = 20 then 9 else if 8 + i < 3 then 38 + 4 * (8 + i) + 3 else if 8 + i < 8 then 50 + 4 * (8 + i - 3) + 3 else 70 + 5 * (8 + i - 8) + 3) = _
    (repeat' split) <;> omega
theorem o6_9 {i : Nat} (h : i < 12) : of6 5 i = 70 + 5 * i ∧ of6 9 i = 70 + 5 * i + 4 := ⟨if_neg (show ¬ i = 12 by omega), if_neg (show ¬ i = 12 by omega)⟩
theorem split_21 {i : Nat} (h : i < 21) : i = 20 ∨ i < 3 ∨ (∃ j, j < 5 ∧ i = 3 + j) ∨ ∃ j, j < 12 ∧ i = 8 + j := by
  by_cases h1 : i = 20
  · exact Or.inl h1
  · by_cases h2 : i < 3
    · exact Or.inr (Or.inl h2)
    · by_cases h3 : i < 8
      · exact Or.inr (Or.inr (Or.inl ⟨i - 3, by omega, by omega⟩))
      · exact Or.inr (Or.inr (Or.inr ⟨i - 8, by omega, by omega⟩))
set_option maxRecDepth 100000 in
theorem cW_init {D : va_G} {cy : Nat → ClassId} {z : Nat} {H : Heap} (hF : FW D z 130 (Lz cy z 6 20 3 5 12) H) : CW D cy (adz z) g0 H := by
  intro κ i hv
  match κ, hv with
  | 0, hv =>
    have hv : i = 0 := hv
    subst hv
    exact hF.2 0 (by omega)
  | 1, hv =>
    have hv : i < 6 := hv
    have h := hF.2 (12 + i) (by omega)
    rw [Lz_F hv] at h
    exact h
  | 2, hv =>
    have hv : i < 20 := hv
    have h := hF.2 (18 + i) (by omega)
    rw [Lz_B hv] at h
    exact h
  | 3, hv =>
    have hv : i < 3 := hv
    have h := hF.2 (38 + 4 * i + 0) (by omega)
    rw [Lz_T hv (by decide)] at h
    show va_at D vwCl (z + (38 + 4 * i), .inr (5, [.ref (z + of6 6 i), .int 0, .int 0])) H
    rw [(o6_t hv).1]
    exact h
  | 4, hv =>
    have hv : i < 5 := hv
    have h := hF.2 (50 + 4 * i + 0) (by omega)
    rw [Lz_D hv (by decide)] at h
    show va_at D vwCl (z + (50 + 4 * i), .inr (1, [.ref (z + of6 6 (3 + i)), .int 0, .int 0, .int 0, .int 0, .int 0, .int 0, .int 0])) H
    rw [(o6_d hv).1]
    exact h
  | 5, hv =>
    have hv : i < 13 := hv
    by_cases e : i = 12
    · subst e
      exact hF.2 6 (by omega)
    · have hi : i < 12 := by omega
      have h := hF.2 (70 + 5 * i + 0) (by omega)
      rw [Lz_L (by decide)] at h
      show va_at D vwCl (z + of6 5 i, .inr (3, [.ref (z + of6 6 (8 + i)), .ref (z + of6 9 i), .int 0, .int 0, .int 0, .int 0, .int 0, .int 0])) H
      rw [(o6_l hi).1, (o6_9 hi).1, (o6_9 hi).2]
      exact h
  | 6, hv =>
    have hv : i < 21 := hv
    rcases split_21 hv with e | hi | ⟨j, hj, e⟩ | ⟨j, hj, e⟩
    · subst e
      exact hF.2 7 (by omega)
    · have h := hF.2 (38 + 4 * i + 1) (by omega)
      rw [Lz_T hi (by decide)] at h
      show va_at D vwCl (z + of6 6 i, .inr (4, [.ref (z + of6 7 i), .ref (z + of6 8 i), .int 0, .int 0])) H
      rw [(o6_t hi).1, (o6_t hi).2.1, (o6_t hi).2.2]
      exact h
    · subst e
      have h := hF.2 (50 + 4 * j + 1) (by omega)
      rw [Lz_D hj (by decide)] at h
      show va_at D vwCl (z + of6 6 (3 + j), .inr (4, [.ref (z + of6 7 (3 + j)), .ref (z + of6 8 (3 + j)), .int 0, .int 0])) H
      rw [(o6_d hj).1, (o6_d hj).2.1, (o6_d hj).2.2]
      exact h
    · subst e
      have h := hF.2 (70 + 5 * j + 1) (by omega)
      rw [Lz_L (by decide)] at h
      show va_at D vwCl (z + of6 6 (8 + j), .inr (4, [.ref (z + of6 7 (8 + j)), .ref (z + of6 8 (8 + j)), .int 0, .int 0])) H
      rw [(o6_l hj).1, (o6_l hj).2.1, (o6_l hj).2.2]
      exact h
  | 7, hv =>
    have hv : i < 21 := hv
    rcases split_21 hv with e | hi | ⟨j, hj, e⟩ | ⟨j, hj, e⟩
    · subst e
      exact hF.2 8 (by omega)
    · have h := hF.2 (38 + 4 * i + 2) (by omega)
      rw [Lz_T hi (by decide)] at h
      show va_at D vwCl (z + of6 7 i, eI cy 6 0) H
      rw [(o6_t hi).2.1]
      exact h
    · subst e
      have h := hF.2 (50 + 4 * j + 2) (by omega)
      rw [Lz_D hj (by decide)] at h
      show va_at D vwCl (z + of6 7 (3 + j), eI cy 6 0) H
      rw [(o6_d hj).2.1]
      exact h
    · subst e
      have h := hF.2 (70 + 5 * j + 2) (by omega)
      rw [Lz_L (by decide)] at h
      show va_at D vwCl (z + of6 7 (8 + j), eI cy 6 0) H
      rw [(o6_l hj).2.1]
      exact h
  | 8, hv =>
    have hv : i < 21 := hv
    rcases split_21 hv with e | hi | ⟨j, hj, e⟩ | ⟨j, hj, e⟩
    · subst e
      exact hF.2 9 (by omega)
    · have h := hF.2 (38 + 4 * i + 3) (by omega)
      rw [Lz_T hi (by decide)] at h
      show va_at D vwCl (z + of6 8 i, eI cy 6 0) H
      rw [(o6_t hi).2.2]
      exact h
    · subst e
      have h := hF.2 (50 + 4 * j + 3) (by omega)
      rw [Lz_D hj (by decide)] at h
      show va_at D vwCl (z + of6 8 (3 + j), eI cy 6 0) H
      rw [(o6_d hj).2.2]
      exact h
    · subst e
      have h := hF.2 (70 + 5 * j + 3) (by omega)
      rw [Lz_L (by decide)] at h
      show va_at D vwCl (z + of6 8 (8 + j), eI cy 6 0) H
      rw [(o6_l hj).2.2]
      exact h
  | 9, hv =>
    have hv : i < 13 := hv
    by_cases e : i = 12
    · subst e
      exact hF.2 10 (by omega)
    · have hi : i < 12 := by omega
      have h := hF.2 (70 + 5 * i + 4) (by omega)
      rw [Lz_L (by decide)] at h
      show va_at D vwCl (z + of6 9 i, eI cy 3 (-1)) H
      rw [(o6_9 hi).2]
      exact h
  | 10, hv =>
    have hv : i = 0 := hv
    subst hv
    have h : va_at D vwCl (z + 1, .inl (cy 1, (6, q_opt (fun k => if k < 6 then some (z + 12 + 1 * k) else none)))) H := hF.2 1 (by omega)
    have h : va_at D vwCl (z + 1, .inl (cy 1, (6, q_opt (fun k => some (z + of6 1 k))))) H := at_q h (fun k hk => by
      rw [if_pos hk]
      show some _ = some (z + (12 + k))
      exact congrArg some (by omega))
    exact h
  | 11, hv =>
    have hv : i = 0 := hv
    subst hv
    have h : va_at D vwCl (z + 2, .inl (cy 2, (20, q_opt (fun k => if k < 20 then some (z + 18 + 1 * k) else none)))) H := hF.2 2 (by omega)
    have h : va_at D vwCl (z + 2, .inl (cy 2, (20, q_opt (fun k => some (z + of6 2 k))))) H := at_q h (fun k hk => by
      rw [if_pos hk]
      show some _ = some (z + (18 + k))
      exact congrArg some (by omega))
    exact h
  | 12, hv =>
    have hv : i = 0 := hv
    subst hv
    have h : va_at D vwCl (z + 3, .inl (cy 3, (3, q_opt (fun k => if k < 3 then some (z + 38 + 4 * k) else none)))) H := hF.2 3 (by omega)
    have h : va_at D vwCl (z + 3, .inl (cy 3, (3, q_opt (fun k => some (z + of6 3 k))))) H := at_q h (fun k hk => by
      rw [if_pos hk]
      show some _ = some (z + (38 + 4 * k))
      exact congrArg some (by omega))
    exact h
  | 13, hv =>
    have hv : i = 0 := hv
    subst hv
    have h : va_at D vwCl (z + 4, .inl (cy 4, (5, q_opt (fun k => if k < 5 then some (z + 50 + 4 * k) else none)))) H := hF.2 4 (by omega)
    have h : va_at D vwCl (z + 4, .inl (cy 4, (5, q_opt (fun k => some (z + of6 4 k))))) H := at_q h (fun k hk => by
      rw [if_pos hk]
      show some _ = some (z + (50 + 4 * k))
      exact congrArg some (by omega))
    exact h
  | 14, hv =>
    have hv : i = 0 := hv
    subst hv
    have h : va_at D vwCl (z + 5, .inl (cy 5, (12, q_opt (fun k => if k < 12 then some (z + 70 + 5 * k) else none)))) H := hF.2 5 (by omega)
    have h : va_at D vwCl (z + 5, .inl (cy 5, (12, q_opt (fun k => some (z + of6 5 k))))) H := at_q h (fun k hk => by
      rw [if_pos hk]
      rw [(o6_9 hk).1]
      exact congrArg some (by omega))
    exact h
  | 15, hv =>
    have hv : i = 0 := hv
    subst hv
    exact hF.2 11 (by omega)
