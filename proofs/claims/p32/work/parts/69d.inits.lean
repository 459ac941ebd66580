/-! ===== the constructors that have no loop ===== -/
theorem N_X4_init_X4 : ∀ w ∈ wsX40, w ∈ wsX4_init := (fun _ h => (List.mem_cons_of_mem _ (List.mem_append_right _ h)))
set_option maxRecDepth 100000 in
set_option maxHeartbeats 4000000 in
theorem kX4_init (l : Launch) (D : va_G) (cy : Nat → ClassId) (z : Nat) : Met l yX4_init wsX4_init ({ frames := 1, cells := 2, slots := 12, locals := 12 } : Room) (va_Pc [.ref z] (iP D cy z 4 [.null, .null, .int 0, .int 0])) (iQ D z [.inr (4, [.ref (z + 1), .ref (z + 2), .int 0, .int 0]), .inl (cy 0, (6, q_ints (fun _ => 0))), .inl (cy 0, (6, q_ints (fun _ => 0)))]) 2 12 (iA z) := by
  refine q_startN (cc := cX4_init) (maxL := 1) (ret := none) (own := RX4) (by decide) rfl rfl (Nat.le_of_ble_eq_true rfl) ?_
  intro p e s m below meth c hx hb hr hml hts hown hlocks hnm ⟨hsz, hB, hat⟩ ls hl
  have hS : va_S (iA z) s.heap s.heap [] := va_S.rf
  have hl : lv_has ls 1 [(0, .ref z)] := hl
  have hF : FL D z [.inr (4, [.null, .null, .int 0, .int 0])] s.heap := FL.one hsz hat
  refine lv_aload_n hx hb dX4_init_0 rfl (lv_at hl 0 rfl) ?_
  refine W.objInit hx hb hown (hts (.methodLink RX4 3 objectInit) (List.mem_of_getElem? (i := 1) rfl)) (hts (.instanceMethod objectInit) (List.mem_of_getElem? (i := 2) rfl)) (hts _ (List.mem_of_getElem? (i := 3) rfl)) rfl (by rw [hml]; exact hl.1) rfl dX4_init_1 (Nat.le_of_ble_eq_true rfl) (Nat.le_of_ble_eq_true rfl) ?_
  refine W.eq (g2 := F0 m 4 ls []) rfl ?_
  refine lv_aload_n hx hb dX4_init_4 rfl (lv_at hl 0 rfl) ?_
  refine lv_bipush (v := 6) hx hb dX4_init_5 (by decide) ?_
  refine f_newi (a := z + 1) hx hb (hts _ (List.mem_of_getElem? (i := 4) rfl)) hB.1 hS 6 (by decide) (by decide) (by decide) hF rfl ⟨Nat.le_of_ble_eq_true rfl, Nat.le_of_ble_eq_true rfl⟩ dX4_init_7 (fun H hF hk hS => ?_)
  have hF : FL D z [.inr (4, [.null, .null, .int 0, .int 0]), .inl (cy 0, (6, q_ints (fun _ => 0)))] H := hF
  refine f_putF (a := z) (T := TX4) hx hb hts N_X4_init_X4 tyX4 tyX4_ok nmX4 hown hB.1 hF 0 rfl rfl hS (by show z ≤ _; omega) rfl 0 (by decide) (List.mem_of_getElem? (i := 5) rfl) rfl rfl hnm rfl rfl rfl (Nat.le_of_ble_eq_true rfl) dX4_init_9 (fun H locs hF _ hk hS => ?_)
  have hF : FL D z [.inr (4, [.ref (z + 1), .null, .int 0, .int 0]), .inl (cy 0, (6, q_ints (fun _ => 0)))] H := hF
  refine lv_aload_n hx hb dX4_init_12 rfl (lv_at hl 0 rfl) ?_
  refine lv_bipush (v := 6) hx hb dX4_init_13 (by decide) ?_
  refine f_newi (a := z + 2) hx hb (hts _ (List.mem_of_getElem? (i := 4) rfl)) hB.1 hS 6 (by decide) (by decide) (by decide) hF rfl ⟨Nat.le_of_ble_eq_true rfl, Nat.le_of_ble_eq_true rfl⟩ dX4_init_15 (fun H hF hk hS => ?_)
  have hF : FL D z [.inr (4, [.ref (z + 1), .null, .int 0, .int 0]), .inl (cy 0, (6, q_ints (fun _ => 0))), .inl (cy 0, (6, q_ints (fun _ => 0)))] H := hF
  refine f_putF (a := z) (T := TX4) hx hb hts N_X4_init_X4 tyX4 tyX4_ok nmX4 hown hB.1 hF 0 rfl rfl hS (by show z ≤ _; omega) rfl 1 (by decide) (List.mem_of_getElem? (i := 6) rfl) rfl rfl hnm rfl rfl rfl (Nat.le_of_ble_eq_true rfl) dX4_init_17 (fun H locs hF _ hk hS => ?_)
  have hF : FL D z [.inr (4, [.ref (z + 1), .ref (z + 2), .int 0, .int 0]), .inl (cy 0, (6, q_ints (fun _ => 0))), .inl (cy 0, (6, q_ints (fun _ => 0)))] H := hF
  refine lv_aload_n hx hb dX4_init_20 rfl (lv_at hl 0 rfl) ?_
  refine lv_iconst (v := 0) hx hb dX4_init_21 (by decide) ?_
  refine f_put (a := z) (T := TX4) hx hb hts N_X4_init_X4 tyX4 tyX4_ok nmX4 hown hB.1 hF 0 rfl rfl hS (by show z ≤ _; omega) rfl 2 (by decide) (List.mem_of_getElem? (i := 7) rfl) rfl rfl rfl rfl (Nat.le_of_ble_eq_true rfl) dX4_init_22 (fun H locs hF _ hk hS => ?_)
  have hF : FL D z [.inr (4, [.ref (z + 1), .ref (z + 2), .int 0, .int 0]), .inl (cy 0, (6, q_ints (fun _ => 0))), .inl (cy 0, (6, q_ints (fun _ => 0)))] H := hF
  refine lv_aload_n hx hb dX4_init_25 rfl (lv_at hl 0 rfl) ?_
  refine lv_iconst (v := 0) hx hb dX4_init_26 (by decide) ?_
  refine f_put (a := z) (T := TX4) hx hb hts N_X4_init_X4 tyX4 tyX4_ok nmX4 hown hB.1 hF 0 rfl rfl hS (by show z ≤ _; omega) rfl 3 (by decide) (List.mem_of_getElem? (i := 8) rfl) rfl rfl rfl rfl (Nat.le_of_ble_eq_true rfl) dX4_init_27 (fun H locs hF _ hk hS => ?_)
  have hF : FL D z [.inr (4, [.ref (z + 1), .ref (z + 2), .int 0, .int 0]), .inl (cy 0, (6, q_ints (fun _ => 0))), .inl (cy 0, (6, q_ints (fun _ => 0)))] H := hF
  exact W.vret hx hb hr (fun t ht hW => ⟨⟨(), rfl, trivial, by show FL D z [.inr (4, [.ref (z + 1), .ref (z + 2), .int 0, .int 0]), .inl (cy 0, (6, q_ints (fun _ => 0))), .inl (cy 0, (6, q_ints (fun _ => 0)))] t.heap; rw [ht]; exact hF⟩, hS.F ht⟩) hS.2.2 dX4_init_30
theorem N_X0_init_X0 : ∀ w ∈ wsX00, w ∈ wsX0_init := (fun _ h => (List.mem_cons_of_mem _ (List.mem_append_right _ h)))
set_option maxRecDepth 100000 in
set_option maxHeartbeats 4000000 in
theorem kX0_init (l : Launch) (D : va_G) (cy : Nat → ClassId) (z : Nat) : Met l yX0_init wsX0_init ({ frames := 1, cells := 0, slots := 0, locals := 12 } : Room) (va_Pc [.ref z] (iP D cy z 0 [.int 0, .int 0, .int 0, .int 0, .int 0, .int 0])) (iQ D z [.inr (0, [.int 0, .int 0, .int 0, .int 0, .int 0, .int 0])]) 0 0 (iA z) := by
  refine q_startN (cc := cX0_init) (maxL := 1) (ret := none) (own := RX0) (by decide) rfl rfl (Nat.le_of_ble_eq_true rfl) ?_
  intro p e s m below meth c hx hb hr hml hts hown hlocks hnm ⟨hsz, hB, hat⟩ ls hl
  have hS : va_S (iA z) s.heap s.heap [] := va_S.rf
  have hl : lv_has ls 1 [(0, .ref z)] := hl
  have hF : FL D z [.inr (0, [.int 0, .int 0, .int 0, .int 0, .int 0, .int 0])] s.heap := FL.one hsz hat
  refine lv_aload_n hx hb dX0_init_0 rfl (lv_at hl 0 rfl) ?_
  refine W.objInit hx hb hown (hts (.methodLink RX0 3 objectInit) (List.mem_of_getElem? (i := 1) rfl)) (hts (.instanceMethod objectInit) (List.mem_of_getElem? (i := 2) rfl)) (hts _ (List.mem_of_getElem? (i := 3) rfl)) rfl (by rw [hml]; exact hl.1) rfl dX0_init_1 (Nat.le_of_ble_eq_true rfl) (Nat.le_of_ble_eq_true rfl) ?_
  refine W.eq (g2 := F0 m 4 ls []) rfl ?_
  refine lv_aload_n hx hb dX0_init_4 rfl (lv_at hl 0 rfl) ?_
  refine lv_iconst (v := 0) hx hb dX0_init_5 (by decide) ?_
  refine f_put (a := z) (T := TX0) hx hb hts N_X0_init_X0 tyX0 tyX0_ok nmX0 hown hB.1 hF 0 rfl rfl hS (by show z ≤ _; omega) rfl 0 (by decide) (List.mem_of_getElem? (i := 4) rfl) rfl rfl rfl rfl (Nat.le_of_ble_eq_true rfl) dX0_init_6 (fun H locs hF _ hk hS => ?_)
  have hF : FL D z [.inr (0, [.int 0, .int 0, .int 0, .int 0, .int 0, .int 0])] H := hF
  refine lv_aload_n hx hb dX0_init_9 rfl (lv_at hl 0 rfl) ?_
  refine lv_iconst (v := 0) hx hb dX0_init_10 (by decide) ?_
  refine f_put (a := z) (T := TX0) hx hb hts N_X0_init_X0 tyX0 tyX0_ok nmX0 hown hB.1 hF 0 rfl rfl hS (by show z ≤ _; omega) rfl 1 (by decide) (List.mem_of_getElem? (i := 5) rfl) rfl rfl rfl rfl (Nat.le_of_ble_eq_true rfl) dX0_init_11 (fun H locs hF _ hk hS => ?_)
  have hF : FL D z [.inr (0, [.int 0, .int 0, .int 0, .int 0, .int 0, .int 0])] H := hF
  refine lv_aload_n hx hb dX0_init_14 rfl (lv_at hl 0 rfl) ?_
  refine lv_iconst (v := 0) hx hb dX0_init_15 (by decide) ?_
  refine f_put (a := z) (T := TX0) hx hb hts N_X0_init_X0 tyX0 tyX0_ok nmX0 hown hB.1 hF 0 rfl rfl hS (by show z ≤ _; omega) rfl 2 (by decide) (List.mem_of_getElem? (i := 6) rfl) rfl rfl rfl rfl (Nat.le_of_ble_eq_true rfl) dX0_init_16 (fun H locs hF _ hk hS => ?_)
  have hF : FL D z [.inr (0, [.int 0, .int 0, .int 0, .int 0, .int 0, .int 0])] H := hF
  refine lv_aload_n hx hb dX0_init_19 rfl (lv_at hl 0 rfl) ?_
  refine lv_iconst (v := 0) hx hb dX0_init_20 (by decide) ?_
  refine f_put (a := z) (T := TX0) hx hb hts N_X0_init_X0 tyX0 tyX0_ok nmX0 hown hB.1 hF 0 rfl rfl hS (by show z ≤ _; omega) rfl 3 (by decide) (List.mem_of_getElem? (i := 7) rfl) rfl rfl rfl rfl (Nat.le_of_ble_eq_true rfl) dX0_init_21 (fun H locs hF _ hk hS => ?_)
  have hF : FL D z [.inr (0, [.int 0, .int 0, .int 0, .int 0, .int 0, .int 0])] H := hF
  refine lv_aload_n hx hb dX0_init_24 rfl (lv_at hl 0 rfl) ?_
  refine lv_iconst (v := 0) hx hb dX0_init_25 (by decide) ?_
  refine f_put (a := z) (T := TX0) hx hb hts N_X0_init_X0 tyX0 tyX0_ok nmX0 hown hB.1 hF 0 rfl rfl hS (by show z ≤ _; omega) rfl 4 (by decide) (List.mem_of_getElem? (i := 8) rfl) rfl rfl rfl rfl (Nat.le_of_ble_eq_true rfl) dX0_init_26 (fun H locs hF _ hk hS => ?_)
  have hF : FL D z [.inr (0, [.int 0, .int 0, .int 0, .int 0, .int 0, .int 0])] H := hF
  refine lv_aload_n hx hb dX0_init_29 rfl (lv_at hl 0 rfl) ?_
  refine lv_iconst (v := 0) hx hb dX0_init_30 (by decide) ?_
  refine f_put (a := z) (T := TX0) hx hb hts N_X0_init_X0 tyX0 tyX0_ok nmX0 hown hB.1 hF 0 rfl rfl hS (by show z ≤ _; omega) rfl 5 (by decide) (List.mem_of_getElem? (i := 9) rfl) rfl rfl rfl rfl (Nat.le_of_ble_eq_true rfl) dX0_init_31 (fun H locs hF _ hk hS => ?_)
  have hF : FL D z [.inr (0, [.int 0, .int 0, .int 0, .int 0, .int 0, .int 0])] H := hF
  exact W.vret hx hb hr (fun t ht hW => ⟨⟨(), rfl, trivial, by show FL D z [.inr (0, [.int 0, .int 0, .int 0, .int 0, .int 0, .int 0])] t.heap; rw [ht]; exact hF⟩, hS.F ht⟩) hS.2.2 dX0_init_34
theorem N_X2_init_X2 : ∀ w ∈ wsX20, w ∈ wsX2_init := (fun _ h => (List.mem_cons_of_mem _ (List.mem_append_right _ h)))
set_option maxRecDepth 100000 in
set_option maxHeartbeats 4000000 in
theorem kX2_init (l : Launch) (D : va_G) (cy : Nat → ClassId) (z : Nat) : Met l yX2_init wsX2_init ({ frames := 1, cells := 0, slots := 0, locals := 12 } : Room) (va_Pc [.ref z] (iP D cy z 2 [.int 0, .int 0, .int 0, .int 0])) (iQ D z [.inr (2, [.int 0, .int (-1), .int 0, .int 0])]) 0 0 (iA z) := by
  refine q_startN (cc := cX2_init) (maxL := 1) (ret := none) (own := RX2) (by decide) rfl rfl (Nat.le_of_ble_eq_true rfl) ?_
  intro p e s m below meth c hx hb hr hml hts hown hlocks hnm ⟨hsz, hB, hat⟩ ls hl
  have hS : va_S (iA z) s.heap s.heap [] := va_S.rf
  have hl : lv_has ls 1 [(0, .ref z)] := hl
  have hF : FL D z [.inr (2, [.int 0, .int 0, .int 0, .int 0])] s.heap := FL.one hsz hat
  refine lv_aload_n hx hb dX2_init_0 rfl (lv_at hl 0 rfl) ?_
  refine W.objInit hx hb hown (hts (.methodLink RX2 3 objectInit) (List.mem_of_getElem? (i := 1) rfl)) (hts (.instanceMethod objectInit) (List.mem_of_getElem? (i := 2) rfl)) (hts _ (List.mem_of_getElem? (i := 3) rfl)) rfl (by rw [hml]; exact hl.1) rfl dX2_init_1 (Nat.le_of_ble_eq_true rfl) (Nat.le_of_ble_eq_true rfl) ?_
  refine W.eq (g2 := F0 m 4 ls []) rfl ?_
  refine lv_aload_n hx hb dX2_init_4 rfl (lv_at hl 0 rfl) ?_
  refine lv_iconst (v := 0) hx hb dX2_init_5 (by decide) ?_
  refine f_put (a := z) (T := TX2) hx hb hts N_X2_init_X2 tyX2 tyX2_ok nmX2 hown hB.1 hF 0 rfl rfl hS (by show z ≤ _; omega) rfl 0 (by decide) (List.mem_of_getElem? (i := 4) rfl) rfl rfl rfl rfl (Nat.le_of_ble_eq_true rfl) dX2_init_6 (fun H locs hF _ hk hS => ?_)
  have hF : FL D z [.inr (2, [.int 0, .int 0, .int 0, .int 0])] H := hF
  refine lv_aload_n hx hb dX2_init_9 rfl (lv_at hl 0 rfl) ?_
  refine lv_iconst (v := (-1)) hx hb dX2_init_10 (by decide) ?_
  refine f_put (a := z) (T := TX2) hx hb hts N_X2_init_X2 tyX2 tyX2_ok nmX2 hown hB.1 hF 0 rfl rfl hS (by show z ≤ _; omega) rfl 1 (by decide) (List.mem_of_getElem? (i := 5) rfl) rfl rfl rfl rfl (Nat.le_of_ble_eq_true rfl) dX2_init_11 (fun H locs hF _ hk hS => ?_)
  have hF : FL D z [.inr (2, [.int 0, .int (-1), .int 0, .int 0])] H := hF
  refine lv_aload_n hx hb dX2_init_14 rfl (lv_at hl 0 rfl) ?_
  refine lv_iconst (v := 0) hx hb dX2_init_15 (by decide) ?_
  refine f_put (a := z) (T := TX2) hx hb hts N_X2_init_X2 tyX2 tyX2_ok nmX2 hown hB.1 hF 0 rfl rfl hS (by show z ≤ _; omega) rfl 2 (by decide) (List.mem_of_getElem? (i := 6) rfl) rfl rfl rfl rfl (Nat.le_of_ble_eq_true rfl) dX2_init_16 (fun H locs hF _ hk hS => ?_)
  have hF : FL D z [.inr (2, [.int 0, .int (-1), .int 0, .int 0])] H := hF
  refine lv_aload_n hx hb dX2_init_19 rfl (lv_at hl 0 rfl) ?_
  refine lv_iconst (v := 0) hx hb dX2_init_20 (by decide) ?_
  refine f_put (a := z) (T := TX2) hx hb hts N_X2_init_X2 tyX2 tyX2_ok nmX2 hown hB.1 hF 0 rfl rfl hS (by show z ≤ _; omega) rfl 3 (by decide) (List.mem_of_getElem? (i := 7) rfl) rfl rfl rfl rfl (Nat.le_of_ble_eq_true rfl) dX2_init_21 (fun H locs hF _ hk hS => ?_)
  have hF : FL D z [.inr (2, [.int 0, .int (-1), .int 0, .int 0])] H := hF
  exact W.vret hx hb hr (fun t ht hW => ⟨⟨(), rfl, trivial, by show FL D z [.inr (2, [.int 0, .int (-1), .int 0, .int 0])] t.heap; rw [ht]; exact hF⟩, hS.F ht⟩) hS.2.2 dX2_init_24
theorem N_X5_init_X4 : ∀ w ∈ wsX40, w ∈ wsX5_init := (fun _ h => (List.mem_cons_of_mem _ (List.mem_append_left _ (List.mem_append_right _ h))))
theorem N_X5_init_X5 : ∀ w ∈ wsX50, w ∈ wsX5_init := (fun _ h => (List.mem_cons_of_mem _ (List.mem_append_right _ h)))
set_option maxRecDepth 100000 in
set_option maxHeartbeats 4000000 in
theorem kX5_init (l : Launch) (D : va_G) (cy : Nat → ClassId) (z : Nat) : Met l yX5_init wsX5_init ({ frames := 2, cells := 3, slots := 16, locals := 32 } : Room) (va_Pc [.ref z] (iP D cy z 5 [.null, .int 0, .int 0])) (iQ D z [.inr (5, [.ref (z + 1), .int 0, .int 0]), .inr (4, [.ref (z + 2), .ref (z + 3), .int 0, .int 0]), .inl (cy 0, (6, q_ints (fun _ => 0))), .inl (cy 0, (6, q_ints (fun _ => 0)))]) 3 16 (iA z) := by
  refine q_startN (cc := cX5_init) (maxL := 1) (ret := none) (own := RX5) (by decide) rfl rfl (Nat.le_of_ble_eq_true rfl) ?_
  intro p e s m below meth c hx hb hr hml hts hown hlocks hnm ⟨hsz, hB, hat⟩ ls hl
  have hS : va_S (iA z) s.heap s.heap [] := va_S.rf
  have hl : lv_has ls 1 [(0, .ref z)] := hl
  have hF : FL D z [.inr (5, [.null, .int 0, .int 0])] s.heap := FL.one hsz hat
  refine lv_aload_n hx hb dX5_init_0 rfl (lv_at hl 0 rfl) ?_
  refine W.objInit hx hb hown (hts (.methodLink RX5 1 objectInit) (List.mem_of_getElem? (i := 1) rfl)) (hts (.instanceMethod objectInit) (List.mem_of_getElem? (i := 2) rfl)) (hts _ (List.mem_of_getElem? (i := 3) rfl)) rfl (by rw [hml]; exact hl.1) rfl dX5_init_1 (Nat.le_of_ble_eq_true rfl) (Nat.le_of_ble_eq_true rfl) ?_
  refine W.eq (g2 := F0 m 4 ls []) rfl ?_
  refine lv_aload_n hx hb dX5_init_4 rfl (lv_at hl 0 rfl) ?_
  refine f_new (a := z + 1) (T := TX4) (ci := 4) (fs := [.null, .null, .int 0, .int 0]) hx hb hts N_X5_init_X4 tyX4 tyX4_ok hown (hts (.classLink RX5 7 RX4) (List.mem_of_getElem? (i := 4) rfl)) (hts (.instantiable RX4 4) (List.mem_of_getElem? (i := 5) rfl)) (hts (.initialized RX4) (List.mem_of_getElem? (i := 6) rfl)) hB.1 hS rfl (fun j hj => by match j, hj with | 0, _ => rfl | 1, _ => rfl | 2, _ => rfl | 3, _ => rfl) hF rfl (Nat.le_of_ble_eq_true rfl) (Nat.le_of_ble_eq_true rfl) dX5_init_5 (fun H hF hk hS => ?_)
  have hF : FL D z [.inr (5, [.null, .int 0, .int 0]), .inr (4, [.null, .null, .int 0, .int 0])] H := hF
  refine lv_dup hx hb dX5_init_8 rfl ?_
  refine f_callN (l0 := [.inr (5, [.null, .int 0, .int 0])]) (b := (z + 1)) (rest := [.ref (z + 1), .ref z]) ⟨hx, hb, hml, hown, hts⟩ (kX4_init l D cy (z + 1)) ⟨va_cnB 0 hts gX5_init_X4_init_n9 rfl rfl rfl (hB.2.1.1 _ (List.mem_of_getElem? (i := 9) rfl)) (hts (.initialized RX4) (List.mem_of_getElem? (i := 6) rfl)) (by decide +kernel) ⟨Nat.le_of_ble_eq_true rfl, Nat.le_of_ble_eq_true rfl⟩, rfl, hts (.instanceMethod yX4_init) (List.mem_of_getElem? (i := 10) rfl)⟩ iP_blind (fun U hU hW => iP_mk (l0 := [.inr (5, [.null, .int 0, .int 0])]) hB hF rfl hU hW) hF rfl hS (fun q hq => by show z ≤ q; have hq : (z + 1) ≤ q := hq; omega) hl.1 (Nat.le_of_ble_eq_true rfl) dX5_init_9 ⟨Nat.le_of_ble_eq_true rfl, Nat.le_of_ble_eq_true rfl⟩ (fun H locs hF hk hS => ?_)
  have hF : FL D z [.inr (5, [.null, .int 0, .int 0]), .inr (4, [.ref (z + 2), .ref (z + 3), .int 0, .int 0]), .inl (cy 0, (6, q_ints (fun _ => 0))), .inl (cy 0, (6, q_ints (fun _ => 0)))] H := hF
  refine f_putF (a := z) (T := TX5) hx hb hts N_X5_init_X5 tyX5 tyX5_ok nmX5 hown hB.1 hF 0 rfl rfl hS (by show z ≤ _; omega) rfl 0 (by decide) (List.mem_of_getElem? (i := 7) rfl) rfl rfl hnm rfl rfl rfl (Nat.le_of_ble_eq_true rfl) dX5_init_12 (fun H locs hF _ hk hS => ?_)
  have hF : FL D z [.inr (5, [.ref (z + 1), .int 0, .int 0]), .inr (4, [.ref (z + 2), .ref (z + 3), .int 0, .int 0]), .inl (cy 0, (6, q_ints (fun _ => 0))), .inl (cy 0, (6, q_ints (fun _ => 0)))] H := hF
  refine lv_aload_n hx hb dX5_init_15 rfl (lv_at hl 0 rfl) ?_
  refine lv_iconst (v := 0) hx hb dX5_init_16 (by decide) ?_
  refine f_put (a := z) (T := TX5) hx hb hts N_X5_init_X5 tyX5 tyX5_ok nmX5 hown hB.1 hF 0 rfl rfl hS (by show z ≤ _; omega) rfl 1 (by decide) (List.mem_of_getElem? (i := 8) rfl) rfl rfl rfl rfl (Nat.le_of_ble_eq_true rfl) dX5_init_17 (fun H locs hF _ hk hS => ?_)
  have hF : FL D z [.inr (5, [.ref (z + 1), .int 0, .int 0]), .inr (4, [.ref (z + 2), .ref (z + 3), .int 0, .int 0]), .inl (cy 0, (6, q_ints (fun _ => 0))), .inl (cy 0, (6, q_ints (fun _ => 0)))] H := hF
  refine lv_aload_n hx hb dX5_init_20 rfl (lv_at hl 0 rfl) ?_
  refine lv_iconst (v := 0) hx hb dX5_init_21 (by decide) ?_
  refine f_put (a := z) (T := TX5) hx hb hts N_X5_init_X5 tyX5 tyX5_ok nmX5 hown hB.1 hF 0 rfl rfl hS (by show z ≤ _; omega) rfl 2 (by decide) (List.mem_of_getElem? (i := 9) rfl) rfl rfl rfl rfl (Nat.le_of_ble_eq_true rfl) dX5_init_22 (fun H locs hF _ hk hS => ?_)
  have hF : FL D z [.inr (5, [.ref (z + 1), .int 0, .int 0]), .inr (4, [.ref (z + 2), .ref (z + 3), .int 0, .int 0]), .inl (cy 0, (6, q_ints (fun _ => 0))), .inl (cy 0, (6, q_ints (fun _ => 0)))] H := hF
  exact W.vret hx hb hr (fun t ht hW => ⟨⟨(), rfl, trivial, by show FL D z [.inr (5, [.ref (z + 1), .int 0, .int 0]), .inr (4, [.ref (z + 2), .ref (z + 3), .int 0, .int 0]), .inl (cy 0, (6, q_ints (fun _ => 0))), .inl (cy 0, (6, q_ints (fun _ => 0)))] t.heap; rw [ht]; exact hF⟩, hS.F ht⟩) hS.2.2 dX5_init_25
theorem N_X1_init_X1 : ∀ w ∈ wsX10, w ∈ wsX1_init := (fun _ h => (List.mem_cons_of_mem _ (List.mem_append_right _ h)))
theorem N_X1_init_X4 : ∀ w ∈ wsX40, w ∈ wsX1_init := (fun _ h => (List.mem_cons_of_mem _ (List.mem_append_left _ (List.mem_append_right _ h))))
set_option maxRecDepth 100000 in
set_option maxHeartbeats 4000000 in
theorem kX1_init (l : Launch) (D : va_G) (cy : Nat → ClassId) (z : Nat) : Met l yX1_init wsX1_init ({ frames := 2, cells := 3, slots := 16, locals := 32 } : Room) (va_Pc [.ref z] (iP D cy z 1 [.null, .int 0, .int 0, .int 0, .int 0, .int 0, .int 0, .int 0])) (iQ D z [.inr (1, [.ref (z + 1), .int 0, .int 0, .int 0, .int 0, .int 0, .int 0, .int 0]), .inr (4, [.ref (z + 2), .ref (z + 3), .int 0, .int 0]), .inl (cy 0, (6, q_ints (fun _ => 0))), .inl (cy 0, (6, q_ints (fun _ => 0)))]) 3 16 (iA z) := by
  refine q_startN (cc := cX1_init) (maxL := 1) (ret := none) (own := RX1) (by decide) rfl rfl (Nat.le_of_ble_eq_true rfl) ?_
  intro p e s m below meth c hx hb hr hml hts hown hlocks hnm ⟨hsz, hB, hat⟩ ls hl
  have hS : va_S (iA z) s.heap s.heap [] := va_S.rf
  have hl : lv_has ls 1 [(0, .ref z)] := hl
  have hF : FL D z [.inr (1, [.null, .int 0, .int 0, .int 0, .int 0, .int 0, .int 0, .int 0])] s.heap := FL.one hsz hat
  refine lv_aload_n hx hb dX1_init_0 rfl (lv_at hl 0 rfl) ?_
  refine W.objInit hx hb hown (hts (.methodLink RX1 3 objectInit) (List.mem_of_getElem? (i := 1) rfl)) (hts (.instanceMethod objectInit) (List.mem_of_getElem? (i := 2) rfl)) (hts _ (List.mem_of_getElem? (i := 3) rfl)) rfl (by rw [hml]; exact hl.1) rfl dX1_init_1 (Nat.le_of_ble_eq_true rfl) (Nat.le_of_ble_eq_true rfl) ?_
  refine W.eq (g2 := F0 m 4 ls []) rfl ?_
  refine lv_aload_n hx hb dX1_init_4 rfl (lv_at hl 0 rfl) ?_
  refine f_new (a := z + 1) (T := TX4) (ci := 4) (fs := [.null, .null, .int 0, .int 0]) hx hb hts N_X1_init_X4 tyX4 tyX4_ok hown (hts (.classLink RX1 9 RX4) (List.mem_of_getElem? (i := 4) rfl)) (hts (.instantiable RX4 4) (List.mem_of_getElem? (i := 5) rfl)) (hts (.initialized RX4) (List.mem_of_getElem? (i := 6) rfl)) hB.1 hS rfl (fun j hj => by match j, hj with | 0, _ => rfl | 1, _ => rfl | 2, _ => rfl | 3, _ => rfl) hF rfl (Nat.le_of_ble_eq_true rfl) (Nat.le_of_ble_eq_true rfl) dX1_init_5 (fun H hF hk hS => ?_)
  have hF : FL D z [.inr (1, [.null, .int 0, .int 0, .int 0, .int 0, .int 0, .int 0, .int 0]), .inr (4, [.null, .null, .int 0, .int 0])] H := hF
  refine lv_dup hx hb dX1_init_8 rfl ?_
  refine f_callN (l0 := [.inr (1, [.null, .int 0, .int 0, .int 0, .int 0, .int 0, .int 0, .int 0])]) (b := (z + 1)) (rest := [.ref (z + 1), .ref z]) ⟨hx, hb, hml, hown, hts⟩ (kX4_init l D cy (z + 1)) ⟨va_cnB 0 hts gX1_init_X4_init_n11 rfl rfl rfl (hB.2.1.1 _ (List.mem_of_getElem? (i := 5) rfl)) (hts (.initialized RX4) (List.mem_of_getElem? (i := 6) rfl)) (by decide +kernel) ⟨Nat.le_of_ble_eq_true rfl, Nat.le_of_ble_eq_true rfl⟩, rfl, hts (.instanceMethod yX4_init) (List.mem_of_getElem? (i := 15) rfl)⟩ iP_blind (fun U hU hW => iP_mk (l0 := [.inr (1, [.null, .int 0, .int 0, .int 0, .int 0, .int 0, .int 0, .int 0])]) hB hF rfl hU hW) hF rfl hS (fun q hq => by show z ≤ q; have hq : (z + 1) ≤ q := hq; omega) hl.1 (Nat.le_of_ble_eq_true rfl) dX1_init_9 ⟨Nat.le_of_ble_eq_true rfl, Nat.le_of_ble_eq_true rfl⟩ (fun H locs hF hk hS => ?_)
  have hF : FL D z [.inr (1, [.null, .int 0, .int 0, .int 0, .int 0, .int 0, .int 0, .int 0]), .inr (4, [.ref (z + 2), .ref (z + 3), .int 0, .int 0]), .inl (cy 0, (6, q_ints (fun _ => 0))), .inl (cy 0, (6, q_ints (fun _ => 0)))] H := hF
  refine f_putF (a := z) (T := TX1) hx hb hts N_X1_init_X1 tyX1 tyX1_ok nmX1 hown hB.1 hF 0 rfl rfl hS (by show z ≤ _; omega) rfl 0 (by decide) (List.mem_of_getElem? (i := 7) rfl) rfl rfl hnm rfl rfl rfl (Nat.le_of_ble_eq_true rfl) dX1_init_12 (fun H locs hF _ hk hS => ?_)
  have hF : FL D z [.inr (1, [.ref (z + 1), .int 0, .int 0, .int 0, .int 0, .int 0, .int 0, .int 0]), .inr (4, [.ref (z + 2), .ref (z + 3), .int 0, .int 0]), .inl (cy 0, (6, q_ints (fun _ => 0))), .inl (cy 0, (6, q_ints (fun _ => 0)))] H := hF
  refine lv_aload_n hx hb dX1_init_15 rfl (lv_at hl 0 rfl) ?_
  refine lv_iconst (v := 0) hx hb dX1_init_16 (by decide) ?_
  refine f_put (a := z) (T := TX1) hx hb hts N_X1_init_X1 tyX1 tyX1_ok nmX1 hown hB.1 hF 0 rfl rfl hS (by show z ≤ _; omega) rfl 1 (by decide) (List.mem_of_getElem? (i := 8) rfl) rfl rfl rfl rfl (Nat.le_of_ble_eq_true rfl) dX1_init_17 (fun H locs hF _ hk hS => ?_)
  have hF : FL D z [.inr (1, [.ref (z + 1), .int 0, .int 0, .int 0, .int 0, .int 0, .int 0, .int 0]), .inr (4, [.ref (z + 2), .ref (z + 3), .int 0, .int 0]), .inl (cy 0, (6, q_ints (fun _ => 0))), .inl (cy 0, (6, q_ints (fun _ => 0)))] H := hF
  refine lv_aload_n hx hb dX1_init_20 rfl (lv_at hl 0 rfl) ?_
  refine lv_iconst (v := 0) hx hb dX1_init_21 (by decide) ?_
  refine f_put (a := z) (T := TX1) hx hb hts N_X1_init_X1 tyX1 tyX1_ok nmX1 hown hB.1 hF 0 rfl rfl hS (by show z ≤ _; omega) rfl 2 (by decide) (List.mem_of_getElem? (i := 9) rfl) rfl rfl rfl rfl (Nat.le_of_ble_eq_true rfl) dX1_init_22 (fun H locs hF _ hk hS => ?_)
  have hF : FL D z [.inr (1, [.ref (z + 1), .int 0, .int 0, .int 0, .int 0, .int 0, .int 0, .int 0]), .inr (4, [.ref (z + 2), .ref (z + 3), .int 0, .int 0]), .inl (cy 0, (6, q_ints (fun _ => 0))), .inl (cy 0, (6, q_ints (fun _ => 0)))] H := hF
  refine lv_aload_n hx hb dX1_init_25 rfl (lv_at hl 0 rfl) ?_
  refine lv_iconst (v := 0) hx hb dX1_init_26 (by decide) ?_
  refine f_put (a := z) (T := TX1) hx hb hts N_X1_init_X1 tyX1 tyX1_ok nmX1 hown hB.1 hF 0 rfl rfl hS (by show z ≤ _; omega) rfl 3 (by decide) (List.mem_of_getElem? (i := 10) rfl) rfl rfl rfl rfl (Nat.le_of_ble_eq_true rfl) dX1_init_27 (fun H locs hF _ hk hS => ?_)
  have hF : FL D z [.inr (1, [.ref (z + 1), .int 0, .int 0, .int 0, .int 0, .int 0, .int 0, .int 0]), .inr (4, [.ref (z + 2), .ref (z + 3), .int 0, .int 0]), .inl (cy 0, (6, q_ints (fun _ => 0))), .inl (cy 0, (6, q_ints (fun _ => 0)))] H := hF
  refine lv_aload_n hx hb dX1_init_30 rfl (lv_at hl 0 rfl) ?_
  refine lv_iconst (v := 0) hx hb dX1_init_31 (by decide) ?_
  refine f_put (a := z) (T := TX1) hx hb hts N_X1_init_X1 tyX1 tyX1_ok nmX1 hown hB.1 hF 0 rfl rfl hS (by show z ≤ _; omega) rfl 4 (by decide) (List.mem_of_getElem? (i := 11) rfl) rfl rfl rfl rfl (Nat.le_of_ble_eq_true rfl) dX1_init_32 (fun H locs hF _ hk hS => ?_)
  have hF : FL D z [.inr (1, [.ref (z + 1), .int 0, .int 0, .int 0, .int 0, .int 0, .int 0, .int 0]), .inr (4, [.ref (z + 2), .ref (z + 3), .int 0, .int 0]), .inl (cy 0, (6, q_ints (fun _ => 0))), .inl (cy 0, (6, q_ints (fun _ => 0)))] H := hF
  refine lv_aload_n hx hb dX1_init_35 rfl (lv_at hl 0 rfl) ?_
  refine lv_iconst (v := 0) hx hb dX1_init_36 (by decide) ?_
  refine f_put (a := z) (T := TX1) hx hb hts N_X1_init_X1 tyX1 tyX1_ok nmX1 hown hB.1 hF 0 rfl rfl hS (by show z ≤ _; omega) rfl 5 (by decide) (List.mem_of_getElem? (i := 12) rfl) rfl rfl rfl rfl (Nat.le_of_ble_eq_true rfl) dX1_init_37 (fun H locs hF _ hk hS => ?_)
  have hF : FL D z [.inr (1, [.ref (z + 1), .int 0, .int 0, .int 0, .int 0, .int 0, .int 0, .int 0]), .inr (4, [.ref (z + 2), .ref (z + 3), .int 0, .int 0]), .inl (cy 0, (6, q_ints (fun _ => 0))), .inl (cy 0, (6, q_ints (fun _ => 0)))] H := hF
  refine lv_aload_n hx hb dX1_init_40 rfl (lv_at hl 0 rfl) ?_
  refine lv_iconst (v := 0) hx hb dX1_init_41 (by decide) ?_
  refine f_put (a := z) (T := TX1) hx hb hts N_X1_init_X1 tyX1 tyX1_ok nmX1 hown hB.1 hF 0 rfl rfl hS (by show z ≤ _; omega) rfl 6 (by decide) (List.mem_of_getElem? (i := 13) rfl) rfl rfl rfl rfl (Nat.le_of_ble_eq_true rfl) dX1_init_42 (fun H locs hF _ hk hS => ?_)
  have hF : FL D z [.inr (1, [.ref (z + 1), .int 0, .int 0, .int 0, .int 0, .int 0, .int 0, .int 0]), .inr (4, [.ref (z + 2), .ref (z + 3), .int 0, .int 0]), .inl (cy 0, (6, q_ints (fun _ => 0))), .inl (cy 0, (6, q_ints (fun _ => 0)))] H := hF
  refine lv_aload_n hx hb dX1_init_45 rfl (lv_at hl 0 rfl) ?_
  refine lv_iconst (v := 0) hx hb dX1_init_46 (by decide) ?_
  refine f_put (a := z) (T := TX1) hx hb hts N_X1_init_X1 tyX1 tyX1_ok nmX1 hown hB.1 hF 0 rfl rfl hS (by show z ≤ _; omega) rfl 7 (by decide) (List.mem_of_getElem? (i := 14) rfl) rfl rfl rfl rfl (Nat.le_of_ble_eq_true rfl) dX1_init_47 (fun H locs hF _ hk hS => ?_)
  have hF : FL D z [.inr (1, [.ref (z + 1), .int 0, .int 0, .int 0, .int 0, .int 0, .int 0, .int 0]), .inr (4, [.ref (z + 2), .ref (z + 3), .int 0, .int 0]), .inl (cy 0, (6, q_ints (fun _ => 0))), .inl (cy 0, (6, q_ints (fun _ => 0)))] H := hF
  exact W.vret hx hb hr (fun t ht hW => ⟨⟨(), rfl, trivial, by show FL D z [.inr (1, [.ref (z + 1), .int 0, .int 0, .int 0, .int 0, .int 0, .int 0, .int 0]), .inr (4, [.ref (z + 2), .ref (z + 3), .int 0, .int 0]), .inl (cy 0, (6, q_ints (fun _ => 0))), .inl (cy 0, (6, q_ints (fun _ => 0)))] t.heap; rw [ht]; exact hF⟩, hS.F ht⟩) hS.2.2 dX1_init_50
theorem N_X3_init_X3 : ∀ w ∈ wsX30, w ∈ wsX3_init := (fun _ h => (List.mem_cons_of_mem _ (List.mem_append_right _ h)))
theorem N_X3_init_X4 : ∀ w ∈ wsX40, w ∈ wsX3_init := (fun _ h => (List.mem_cons_of_mem _ (List.mem_append_left _ (List.mem_append_right _ h))))
set_option maxRecDepth 100000 in
set_option maxHeartbeats 4000000 in
theorem kX3_init (l : Launch) (D : va_G) (cy : Nat → ClassId) (z : Nat) : Met l yX3_init wsX3_init ({ frames := 2, cells := 4, slots := 19, locals := 32 } : Room) (va_Pc [.ref z] (iP D cy z 3 [.null, .null, .int 0, .int 0, .int 0, .int 0, .int 0, .int 0])) (iQ D z [.inr (3, [.ref (z + 1), .ref (z + 4), .int 0, .int 0, .int 0, .int 0, .int 0, .int 0]), .inr (4, [.ref (z + 2), .ref (z + 3), .int 0, .int 0]), .inl (cy 0, (6, q_ints (fun _ => 0))), .inl (cy 0, (6, q_ints (fun _ => 0))), .inl (cy 0, (3, q_ints (fun _ => -1)))]) 4 19 (iA z) := by
  refine q_startN (cc := cX3_init) (maxL := 1) (ret := none) (own := RX3) (by decide) rfl rfl (Nat.le_of_ble_eq_true rfl) ?_
  intro p e s m below meth c hx hb hr hml hts hown hlocks hnm ⟨hsz, hB, hat⟩ ls hl
  have hS : va_S (iA z) s.heap s.heap [] := va_S.rf
  have hl : lv_has ls 1 [(0, .ref z)] := hl
  have hF : FL D z [.inr (3, [.null, .null, .int 0, .int 0, .int 0, .int 0, .int 0, .int 0])] s.heap := FL.one hsz hat
  refine lv_aload_n hx hb dX3_init_0 rfl (lv_at hl 0 rfl) ?_
  refine W.objInit hx hb hown (hts (.methodLink RX3 3 objectInit) (List.mem_of_getElem? (i := 1) rfl)) (hts (.instanceMethod objectInit) (List.mem_of_getElem? (i := 2) rfl)) (hts _ (List.mem_of_getElem? (i := 3) rfl)) rfl (by rw [hml]; exact hl.1) rfl dX3_init_1 (Nat.le_of_ble_eq_true rfl) (Nat.le_of_ble_eq_true rfl) ?_
  refine W.eq (g2 := F0 m 4 ls []) rfl ?_
  refine lv_aload_n hx hb dX3_init_4 rfl (lv_at hl 0 rfl) ?_
  refine f_new (a := z + 1) (T := TX4) (ci := 4) (fs := [.null, .null, .int 0, .int 0]) hx hb hts N_X3_init_X4 tyX4 tyX4_ok hown (hts (.classLink RX3 9 RX4) (List.mem_of_getElem? (i := 4) rfl)) (hts (.instantiable RX4 4) (List.mem_of_getElem? (i := 5) rfl)) (hts (.initialized RX4) (List.mem_of_getElem? (i := 6) rfl)) hB.1 hS rfl (fun j hj => by match j, hj with | 0, _ => rfl | 1, _ => rfl | 2, _ => rfl | 3, _ => rfl) hF rfl (Nat.le_of_ble_eq_true rfl) (Nat.le_of_ble_eq_true rfl) dX3_init_5 (fun H hF hk hS => ?_)
  have hF : FL D z [.inr (3, [.null, .null, .int 0, .int 0, .int 0, .int 0, .int 0, .int 0]), .inr (4, [.null, .null, .int 0, .int 0])] H := hF
  refine lv_dup hx hb dX3_init_8 rfl ?_
  refine f_callN (l0 := [.inr (3, [.null, .null, .int 0, .int 0, .int 0, .int 0, .int 0, .int 0])]) (b := (z + 1)) (rest := [.ref (z + 1), .ref z]) ⟨hx, hb, hml, hown, hts⟩ (kX4_init l D cy (z + 1)) ⟨va_cnB 0 hts gX3_init_X4_init_n11 rfl rfl rfl (hB.2.1.1 _ (List.mem_of_getElem? (i := 6) rfl)) (hts (.initialized RX4) (List.mem_of_getElem? (i := 6) rfl)) (by decide +kernel) ⟨Nat.le_of_ble_eq_true rfl, Nat.le_of_ble_eq_true rfl⟩, rfl, hts (.instanceMethod yX4_init) (List.mem_of_getElem? (i := 16) rfl)⟩ iP_blind (fun U hU hW => iP_mk (l0 := [.inr (3, [.null, .null, .int 0, .int 0, .int 0, .int 0, .int 0, .int 0])]) hB hF rfl hU hW) hF rfl hS (fun q hq => by show z ≤ q; have hq : (z + 1) ≤ q := hq; omega) hl.1 (Nat.le_of_ble_eq_true rfl) dX3_init_9 ⟨Nat.le_of_ble_eq_true rfl, Nat.le_of_ble_eq_true rfl⟩ (fun H locs hF hk hS => ?_)
  have hF : FL D z [.inr (3, [.null, .null, .int 0, .int 0, .int 0, .int 0, .int 0, .int 0]), .inr (4, [.ref (z + 2), .ref (z + 3), .int 0, .int 0]), .inl (cy 0, (6, q_ints (fun _ => 0))), .inl (cy 0, (6, q_ints (fun _ => 0)))] H := hF
  refine f_putF (a := z) (T := TX3) hx hb hts N_X3_init_X3 tyX3 tyX3_ok nmX3 hown hB.1 hF 0 rfl rfl hS (by show z ≤ _; omega) rfl 0 (by decide) (List.mem_of_getElem? (i := 7) rfl) rfl rfl hnm rfl rfl rfl (Nat.le_of_ble_eq_true rfl) dX3_init_12 (fun H locs hF _ hk hS => ?_)
  have hF : FL D z [.inr (3, [.ref (z + 1), .null, .int 0, .int 0, .int 0, .int 0, .int 0, .int 0]), .inr (4, [.ref (z + 2), .ref (z + 3), .int 0, .int 0]), .inl (cy 0, (6, q_ints (fun _ => 0))), .inl (cy 0, (6, q_ints (fun _ => 0)))] H := hF
  refine lv_aload_n hx hb dX3_init_15 rfl (lv_at hl 0 rfl) ?_
  refine lv_iconst (v := 3) hx hb dX3_init_16 (by decide) ?_
  refine f_newi (a := z + 4) hx hb (hts _ (List.mem_of_getElem? (i := 8) rfl)) hB.1 hS 3 (by decide) (by decide) (by decide) hF rfl ⟨Nat.le_of_ble_eq_true rfl, Nat.le_of_ble_eq_true rfl⟩ dX3_init_17 (fun H hF hk hS => ?_)
  have hF : FL D z [.inr (3, [.ref (z + 1), .null, .int 0, .int 0, .int 0, .int 0, .int 0, .int 0]), .inr (4, [.ref (z + 2), .ref (z + 3), .int 0, .int 0]), .inl (cy 0, (6, q_ints (fun _ => 0))), .inl (cy 0, (6, q_ints (fun _ => 0))), .inl (cy 0, (3, q_ints (fun _ => 0)))] H := hF
  refine lv_dup hx hb dX3_init_19 rfl ?_
  refine lv_iconst (v := 0) hx hb dX3_init_20 (by decide) ?_
  refine lv_iconst (v := (-1)) hx hb dX3_init_21 (by decide) ?_
  refine f_iast (a := (z + 4)) hx hb hB.1 hF 4 rfl rfl hS (by show z ≤ _; omega) 0 (by decide) (by unfold vp_in; decide) dX3_init_22 (fun H locs hF hk hS => ?_)
  have hF : FL D z [.inr (3, [.ref (z + 1), .null, .int 0, .int 0, .int 0, .int 0, .int 0, .int 0]), .inr (4, [.ref (z + 2), .ref (z + 3), .int 0, .int 0]), .inl (cy 0, (6, q_ints (fun _ => 0))), .inl (cy 0, (6, q_ints (fun _ => 0))), .inl (cy 0, (3, q_ints (upd (fun _ => 0) 0 (-1))))] H := hF
  refine lv_dup hx hb dX3_init_23 rfl ?_
  refine lv_iconst (v := 1) hx hb dX3_init_24 (by decide) ?_
  refine lv_iconst (v := (-1)) hx hb dX3_init_25 (by decide) ?_
  refine f_iast (a := (z + 4)) hx hb hB.1 hF 4 rfl rfl hS (by show z ≤ _; omega) 1 (by decide) (by unfold vp_in; decide) dX3_init_26 (fun H locs hF hk hS => ?_)
  have hF : FL D z [.inr (3, [.ref (z + 1), .null, .int 0, .int 0, .int 0, .int 0, .int 0, .int 0]), .inr (4, [.ref (z + 2), .ref (z + 3), .int 0, .int 0]), .inl (cy 0, (6, q_ints (fun _ => 0))), .inl (cy 0, (6, q_ints (fun _ => 0))), .inl (cy 0, (3, q_ints (upd (upd (fun _ => 0) 0 (-1)) 1 (-1))))] H := hF
  refine lv_dup hx hb dX3_init_27 rfl ?_
  refine lv_iconst (v := 2) hx hb dX3_init_28 (by decide) ?_
  refine lv_iconst (v := (-1)) hx hb dX3_init_29 (by decide) ?_
  refine f_iast (a := (z + 4)) hx hb hB.1 hF 4 rfl rfl hS (by show z ≤ _; omega) 2 (by decide) (by unfold vp_in; decide) dX3_init_30 (fun H locs hF hk hS => ?_)
  have hF : FL D z [.inr (3, [.ref (z + 1), .null, .int 0, .int 0, .int 0, .int 0, .int 0, .int 0]), .inr (4, [.ref (z + 2), .ref (z + 3), .int 0, .int 0]), .inl (cy 0, (6, q_ints (fun _ => 0))), .inl (cy 0, (6, q_ints (fun _ => 0))), .inl (cy 0, (3, q_ints (upd (upd (upd (fun _ => 0) 0 (-1)) 1 (-1)) 2 (-1))))] H := hF
  refine f_putF (a := z) (T := TX3) hx hb hts N_X3_init_X3 tyX3 tyX3_ok nmX3 hown hB.1 hF 0 rfl rfl hS (by show z ≤ _; omega) rfl 1 (by decide) (List.mem_of_getElem? (i := 9) rfl) rfl rfl hnm rfl rfl rfl (Nat.le_of_ble_eq_true rfl) dX3_init_31 (fun H locs hF _ hk hS => ?_)
  have hF : FL D z [.inr (3, [.ref (z + 1), .ref (z + 4), .int 0, .int 0, .int 0, .int 0, .int 0, .int 0]), .inr (4, [.ref (z + 2), .ref (z + 3), .int 0, .int 0]), .inl (cy 0, (6, q_ints (fun _ => 0))), .inl (cy 0, (6, q_ints (fun _ => 0))), .inl (cy 0, (3, q_ints (upd (upd (upd (fun _ => 0) 0 (-1)) 1 (-1)) 2 (-1))))] H := hF
  refine lv_aload_n hx hb dX3_init_34 rfl (lv_at hl 0 rfl) ?_
  refine lv_iconst (v := 0) hx hb dX3_init_35 (by decide) ?_
  refine f_put (a := z) (T := TX3) hx hb hts N_X3_init_X3 tyX3 tyX3_ok nmX3 hown hB.1 hF 0 rfl rfl hS (by show z ≤ _; omega) rfl 2 (by decide) (List.mem_of_getElem? (i := 10) rfl) rfl rfl rfl rfl (Nat.le_of_ble_eq_true rfl) dX3_init_36 (fun H locs hF _ hk hS => ?_)
  have hF : FL D z [.inr (3, [.ref (z + 1), .ref (z + 4), .int 0, .int 0, .int 0, .int 0, .int 0, .int 0]), .inr (4, [.ref (z + 2), .ref (z + 3), .int 0, .int 0]), .inl (cy 0, (6, q_ints (fun _ => 0))), .inl (cy 0, (6, q_ints (fun _ => 0))), .inl (cy 0, (3, q_ints (upd (upd (upd (fun _ => 0) 0 (-1)) 1 (-1)) 2 (-1))))] H := hF
  refine lv_aload_n hx hb dX3_init_39 rfl (lv_at hl 0 rfl) ?_
  refine lv_iconst (v := 0) hx hb dX3_init_40 (by decide) ?_
  refine f_put (a := z) (T := TX3) hx hb hts N_X3_init_X3 tyX3 tyX3_ok nmX3 hown hB.1 hF 0 rfl rfl hS (by show z ≤ _; omega) rfl 3 (by decide) (List.mem_of_getElem? (i := 11) rfl) rfl rfl rfl rfl (Nat.le_of_ble_eq_true rfl) dX3_init_41 (fun H locs hF _ hk hS => ?_)
  have hF : FL D z [.inr (3, [.ref (z + 1), .ref (z + 4), .int 0, .int 0, .int 0, .int 0, .int 0, .int 0]), .inr (4, [.ref (z + 2), .ref (z + 3), .int 0, .int 0]), .inl (cy 0, (6, q_ints (fun _ => 0))), .inl (cy 0, (6, q_ints (fun _ => 0))), .inl (cy 0, (3, q_ints (upd (upd (upd (fun _ => 0) 0 (-1)) 1 (-1)) 2 (-1))))] H := hF
  refine lv_aload_n hx hb dX3_init_44 rfl (lv_at hl 0 rfl) ?_
  refine lv_iconst (v := 0) hx hb dX3_init_45 (by decide) ?_
  refine f_put (a := z) (T := TX3) hx hb hts N_X3_init_X3 tyX3 tyX3_ok nmX3 hown hB.1 hF 0 rfl rfl hS (by show z ≤ _; omega) rfl 4 (by decide) (List.mem_of_getElem? (i := 12) rfl) rfl rfl rfl rfl (Nat.le_of_ble_eq_true rfl) dX3_init_46 (fun H locs hF _ hk hS => ?_)
  have hF : FL D z [.inr (3, [.ref (z + 1), .ref (z + 4), .int 0, .int 0, .int 0, .int 0, .int 0, .int 0]), .inr (4, [.ref (z + 2), .ref (z + 3), .int 0, .int 0]), .inl (cy 0, (6, q_ints (fun _ => 0))), .inl (cy 0, (6, q_ints (fun _ => 0))), .inl (cy 0, (3, q_ints (upd (upd (upd (fun _ => 0) 0 (-1)) 1 (-1)) 2 (-1))))] H := hF
  refine lv_aload_n hx hb dX3_init_49 rfl (lv_at hl 0 rfl) ?_
  refine lv_iconst (v := 0) hx hb dX3_init_50 (by decide) ?_
  refine f_put (a := z) (T := TX3) hx hb hts N_X3_init_X3 tyX3 tyX3_ok nmX3 hown hB.1 hF 0 rfl rfl hS (by show z ≤ _; omega) rfl 5 (by decide) (List.mem_of_getElem? (i := 13) rfl) rfl rfl rfl rfl (Nat.le_of_ble_eq_true rfl) dX3_init_51 (fun H locs hF _ hk hS => ?_)
  have hF : FL D z [.inr (3, [.ref (z + 1), .ref (z + 4), .int 0, .int 0, .int 0, .int 0, .int 0, .int 0]), .inr (4, [.ref (z + 2), .ref (z + 3), .int 0, .int 0]), .inl (cy 0, (6, q_ints (fun _ => 0))), .inl (cy 0, (6, q_ints (fun _ => 0))), .inl (cy 0, (3, q_ints (upd (upd (upd (fun _ => 0) 0 (-1)) 1 (-1)) 2 (-1))))] H := hF
  refine lv_aload_n hx hb dX3_init_54 rfl (lv_at hl 0 rfl) ?_
  refine lv_iconst (v := 0) hx hb dX3_init_55 (by decide) ?_
  refine f_put (a := z) (T := TX3) hx hb hts N_X3_init_X3 tyX3 tyX3_ok nmX3 hown hB.1 hF 0 rfl rfl hS (by show z ≤ _; omega) rfl 6 (by decide) (List.mem_of_getElem? (i := 14) rfl) rfl rfl rfl rfl (Nat.le_of_ble_eq_true rfl) dX3_init_56 (fun H locs hF _ hk hS => ?_)
  have hF : FL D z [.inr (3, [.ref (z + 1), .ref (z + 4), .int 0, .int 0, .int 0, .int 0, .int 0, .int 0]), .inr (4, [.ref (z + 2), .ref (z + 3), .int 0, .int 0]), .inl (cy 0, (6, q_ints (fun _ => 0))), .inl (cy 0, (6, q_ints (fun _ => 0))), .inl (cy 0, (3, q_ints (upd (upd (upd (fun _ => 0) 0 (-1)) 1 (-1)) 2 (-1))))] H := hF
  refine lv_aload_n hx hb dX3_init_59 rfl (lv_at hl 0 rfl) ?_
  refine lv_iconst (v := 0) hx hb dX3_init_60 (by decide) ?_
  refine f_put (a := z) (T := TX3) hx hb hts N_X3_init_X3 tyX3 tyX3_ok nmX3 hown hB.1 hF 0 rfl rfl hS (by show z ≤ _; omega) rfl 7 (by decide) (List.mem_of_getElem? (i := 15) rfl) rfl rfl rfl rfl (Nat.le_of_ble_eq_true rfl) dX3_init_61 (fun H locs hF _ hk hS => ?_)
  have hF : FL D z [.inr (3, [.ref (z + 1), .ref (z + 4), .int 0, .int 0, .int 0, .int 0, .int 0, .int 0]), .inr (4, [.ref (z + 2), .ref (z + 3), .int 0, .int 0]), .inl (cy 0, (6, q_ints (fun _ => 0))), .inl (cy 0, (6, q_ints (fun _ => 0))), .inl (cy 0, (3, q_ints (upd (upd (upd (fun _ => 0) 0 (-1)) 1 (-1)) 2 (-1))))] H := hF
  have hF : FL D z [.inr (3, [.ref (z + 1), .ref (z + 4), .int 0, .int 0, .int 0, .int 0, .int 0, .int 0]), .inr (4, [.ref (z + 2), .ref (z + 3), .int 0, .int 0]), .inl (cy 0, (6, q_ints (fun _ => 0))), .inl (cy 0, (6, q_ints (fun _ => 0))), .inl (cy 0, (3, q_ints (fun _ => -1)))] H := hF.put (j := 4) (at_i (hF.2 4 _ rfl) (fun j hj => by match j, hj with | 0, _ => rfl | 1, _ => rfl | 2, _ => rfl)) rfl (fun _ _ => rfl)
  exact W.vret hx hb hr (fun t ht hW => ⟨⟨(), rfl, trivial, by show FL D z [.inr (3, [.ref (z + 1), .ref (z + 4), .int 0, .int 0, .int 0, .int 0, .int 0, .int 0]), .inr (4, [.ref (z + 2), .ref (z + 3), .int 0, .int 0]), .inl (cy 0, (6, q_ints (fun _ => 0))), .inl (cy 0, (6, q_ints (fun _ => 0))), .inl (cy 0, (3, q_ints (fun _ => -1)))] t.heap; rw [ht]; exact hF⟩, hS.F ht⟩) hS.2.2 dX3_init_64