/-! ===== the law's stretches ahead of and behind its cases ===== -/
section SG
variable {p : Program} {l : Launch} {e : Env} {s : State} {m : MethodId} {below : List Frame} {meth : Method} {c : Code} {H : Heap} {locs : List Loc} {cells slots : Nat} {Q : State → Prop}
variable {b L : Nat} {xs : Nat → Int32} {D : va_G} {cy : Nat → ClassId} {ad : Nat → Nat → Nat} {g : Gd} {ls : Array Slot}
def VC_F (L : Nat) (xs : Nat → Int32) (g : Gd)  (K : Int32 → Prop) : Prop := (0 ≤ (0 : Int32).toInt ∧ K ((1 : Int32) + (fL_below (fL_cell L xs 0) 6)))
set_option maxRecDepth 100000 in
set_option maxHeartbeats 8000000 in
theorem W_F (C : LC p l s m c b L xs) (hI : cI ad) (hB : LWB D cy s) (hL : LWS D cy ad s g H) (hS : va_S (LA0 s) s.heap H locs) (hc : cells + 40 ≤ 400000) (hs : slots + 400 ≤ 4000000) (hl : lv_has ls 17 [(1, .ref (ad 0 0)), (0, .ref b)]) {K : Int32 → Prop} (hq : VC_F L xs g  K)
    (kk : ∀ (k0 : Int32) (H1 : Heap) (locs1 : List Loc) (ls1 : Array Slot), LWS D cy ad s g H1 → va_S (LA0 s) s.heap H1 locs1 → lv_has ls1 17 [(2, .int k0), (1, .ref (ad 0 0)), (0, .ref b)] → K k0 → W p l e room_1 s m #[Value.ref b] below meth c H1 locs1 (cells + 40) (slots + 400) Q (F0 m 21 ls1 [])) : W p l e room_1 s m #[Value.ref b] below meth c H locs cells slots Q (F0 m 8 ls []) := by
  have hx := C.hx; have hb := C.hb; have hown := C.own; have hts := C.ts; have hml := C.ml; have hl0 := C.st
  unfold VC_F at hq
  refine lv_iconst (v := 1) hx hb dL_law_8 (by decide) ?_
  refine lv_aload_n hx hb dL_law_9 rfl (lv_at hl 1 rfl) ?_
  refine lv_iconst (v := 0) hx hb dL_law_10 (by decide) ?_
  obtain ⟨hk1, hq⟩ := hq
  refine l_callN (v := fL_cell L xs 0) (As := [.ref b, .int 0]) ⟨hx, hb, hml, hown, hts⟩ (kL_cell l b L xs 0 hk1 (by have := C.le; omega)) cell_blind (C.cell hS) (va_cwS 2 hts gL_law_L_cell rfl rfl rfl (by decide +kernel) ⟨Nat.le_of_ble_eq_true rfl, Nat.le_of_ble_eq_true rfl⟩) hB hL hS rfl hl.1 (Nat.le_of_ble_eq_true rfl) dL_law_11 ⟨by refine Nat.le_trans (m := 400000) ?_ rc_c; show cells + _ ≤ 400000; omega, by refine Nat.le_trans (m := 4000000) ?_ rc_s; show slots + _ ≤ 4000000; omega⟩ (fun H locs hL hS => ?_)
  refine lv_bipush (v := 6) hx hb dL_law_14 (by decide) ?_
  refine l_callN (v := fL_below (fL_cell L xs 0) 6) (As := [.int (fL_cell L xs 0), .int 6]) ⟨hx, hb, hml, hown, hts⟩ (kL_below l (fL_cell L xs 0) 6 (by decide)) below_blind (fun _ _ _ => trivial) (va_cwS 2 hts gL_law_L_below rfl rfl rfl (by decide +kernel) ⟨Nat.le_of_ble_eq_true rfl, Nat.le_of_ble_eq_true rfl⟩) hB hL hS rfl hl.1 (Nat.le_of_ble_eq_true rfl) dL_law_16 ⟨by refine Nat.le_trans (m := 400000) ?_ rc_c; show cells + _ + _ ≤ 400000; omega, by refine Nat.le_trans (m := 4000000) ?_ rc_s; show slots + _ + _ ≤ 4000000; omega⟩ (fun H locs hL hS => ?_)
  refine lv_iadd hx hb dL_law_19 ?_
  refine lv_istore_n (lv' := [(2, .int ((1 : Int32) + (fL_below (fL_cell L xs 0) 6))), (1, .ref (ad 0 0)), (0, .ref b)]) hx hb dL_law_20 rfl hl (by decide) rfl (fun ls hl => ?_)
  refine W.widen (k := cells + 40) (n := slots + 400) (by omega) (by omega) ?_
  exact kk ((1 : Int32) + (fL_below (fL_cell L xs 0) 6)) _ _ ls hL hS (lv_sub hl [0, 1, 2] rfl) hq
def VC_FM (L : Nat) (xs : Nat → Int32) (g : Gd) (F : Int32) (q : Int32) (K : Gd → Prop) : Prop := (0 ≤ (1 + q : Int32).toInt ∧ (IvC g ∧ (∃ (v2 : Int32) (g4 : Gd), fX6_farm g ((10 : Int32) + (fL_below (fL_cell L xs (1 + q)) 13)) = (0, v2, g4) ∧ ((v2 = q → K g4) ∧ (¬ v2 = q → False)))))
set_option maxRecDepth 100000 in
set_option maxHeartbeats 8000000 in
theorem W_FM (C : LC p l s m c b L xs) (hI : cI ad) (hB : LWB D cy s) (hL : LWS D cy ad s g H) (hS : va_S (LA0 s) s.heap H locs) (hc : cells + 40 ≤ 400000) (hs : slots + 400 ≤ 4000000) {F q : Int32} (hl : lv_has ls 17 [(3, .int q), (2, .int F), (1, .ref (ad 0 0)), (0, .ref b)]) {K : Gd → Prop} (hq : VC_FM L xs g F q K)
    (kk : ∀ (k0 : Gd) (H1 : Heap) (locs1 : List Loc) (ls1 : Array Slot), LWS D cy ad s k0 H1 → va_S (LA0 s) s.heap H1 locs1 → lv_has ls1 17 [(3, .int q), (2, .int F), (1, .ref (ad 0 0)), (0, .ref b)] → K k0 → W p l e room_1 s m #[Value.ref b] below meth c H1 locs1 (cells + 40) (slots + 400) Q (F0 m 53 ls1 [])) : W p l e room_1 s m #[Value.ref b] below meth c H locs cells slots Q (F0 m 28 ls []) := by
  have hx := C.hx; have hb := C.hb; have hown := C.own; have hts := C.ts; have hml := C.ml; have hl0 := C.st
  unfold VC_FM at hq
  refine lv_aload_n hx hb dL_law_28 rfl (lv_at hl 2 rfl) ?_
  refine lv_bipush (v := 10) hx hb dL_law_29 (by decide) ?_
  refine lv_aload_n hx hb dL_law_31 rfl (lv_at hl 3 rfl) ?_
  refine lv_iconst (v := 1) hx hb dL_law_32 (by decide) ?_
  refine lv_iload_n hx hb dL_law_33 rfl (lv_at hl 0 rfl) ?_
  refine lv_iadd hx hb dL_law_34 ?_
  obtain ⟨hk1, hq⟩ := hq
  refine l_callN (v := fL_cell L xs (1 + q)) (As := [.ref b, .int (1 + q)]) ⟨hx, hb, hml, hown, hts⟩ (kL_cell l b L xs (1 + q) hk1 (by have := C.le; omega)) cell_blind (C.cell hS) (va_cwS 2 hts gL_law_L_cell rfl rfl rfl (by decide +kernel) ⟨Nat.le_of_ble_eq_true rfl, Nat.le_of_ble_eq_true rfl⟩) hB hL hS rfl hl.1 (Nat.le_of_ble_eq_true rfl) dL_law_35 ⟨by refine Nat.le_trans (m := 400000) ?_ rc_c; show cells + _ ≤ 400000; omega, by refine Nat.le_trans (m := 4000000) ?_ rc_s; show slots + _ ≤ 4000000; omega⟩ (fun H locs hL hS => ?_)
  refine lv_bipush (v := 13) hx hb dL_law_38 (by decide) ?_
  refine l_callN (v := fL_below (fL_cell L xs (1 + q)) 13) (As := [.int (fL_cell L xs (1 + q)), .int 13]) ⟨hx, hb, hml, hown, hts⟩ (kL_below l (fL_cell L xs (1 + q)) 13 (by decide)) below_blind (fun _ _ _ => trivial) (va_cwS 2 hts gL_law_L_below rfl rfl rfl (by decide +kernel) ⟨Nat.le_of_ble_eq_true rfl, Nat.le_of_ble_eq_true rfl⟩) hB hL hS rfl hl.1 (Nat.le_of_ble_eq_true rfl) dL_law_40 ⟨by refine Nat.le_trans (m := 400000) ?_ rc_c; show cells + _ + _ ≤ 400000; omega, by refine Nat.le_trans (m := 4000000) ?_ rc_s; show slots + _ + _ ≤ 4000000; omega⟩ (fun H locs hL hS => ?_)
  refine lv_iadd hx hb dL_law_43 ?_
  obtain ⟨hv_g, hq⟩ := hq
  obtain ⟨v2, g4, e3, hq⟩ := hq
  refine l_callCi (v := v2) (g2 := g4) (As := [.int ((10 : Int32) + (fL_below (fL_cell L xs (1 + q)) 13))]) ⟨hx, hb, hml, hown, hts⟩ (vx_ofT (kX6_farm l D cy hI hl0 g _ ((10 : Int32) + (fL_below (fL_cell L xs (1 + q)) 13)) hv_g) e3) (cwV 1 hts gL_law_X6_farm rfl rfl rfl (by decide +kernel) ⟨Nat.le_of_ble_eq_true rfl, Nat.le_of_ble_eq_true rfl⟩) hB hL hS rfl hl.1 (Nat.le_of_ble_eq_true rfl) dL_law_44 ⟨by refine Nat.le_trans (m := 400000) ?_ rc_c; show cells + _ + _ + _ ≤ 400000; omega, by refine Nat.le_trans (m := 4000000) ?_ rc_s; show slots + _ + _ + _ ≤ 4000000; omega⟩ (fun H locs hL hS => ?_)
  refine lv_iload_n hx hb dL_law_47 rfl (lv_at hl 0 rfl) ?_
  refine lv_icmp_eq (tgt := 53) hx hb dL_law_48 (by decide) (fun c5 => ?_) (fun c5 => ?_)
  · skip
    have hq := hq.1 c5
    refine W.widen (k := cells + 40) (n := slots + 400) (by omega) (by omega) ?_
    exact kk g4 _ _ ls hL hS (lv_sub hl [0, 1, 2, 3] rfl) hq
  · skip
    have hq := hq.2 c5
    refine lv_iconst (v := 0) hx hb dL_law_51 (by decide) ?_
    exact hq.elim
def VC_B (L : Nat) (xs : Nat → Int32) (g : Gd) (F : Int32) (K : Int32 → Prop) : Prop := (0 ≤ (7 : Int32).toInt ∧ K ((1 : Int32) + (fL_below (fL_cell L xs 7) 4)))
set_option maxRecDepth 100000 in
set_option maxHeartbeats 8000000 in
theorem W_B (C : LC p l s m c b L xs) (hI : cI ad) (hB : LWB D cy s) (hL : LWS D cy ad s g H) (hS : va_S (LA0 s) s.heap H locs) (hc : cells + 40 ≤ 400000) (hs : slots + 400 ≤ 4000000) {F : Int32} (hl : lv_has ls 17 [(2, .int F), (1, .ref (ad 0 0)), (0, .ref b)]) {K : Int32 → Prop} (hq : VC_B L xs g F K)
    (kk : ∀ (k0 : Int32) (H1 : Heap) (locs1 : List Loc) (ls1 : Array Slot), LWS D cy ad s g H1 → va_S (LA0 s) s.heap H1 locs1 → lv_has ls1 17 [(3, .int k0), (2, .int F), (1, .ref (ad 0 0)), (0, .ref b)] → K k0 → W p l e room_1 s m #[Value.ref b] below meth c H1 locs1 (cells + 40) (slots + 400) Q (F0 m 72 ls1 [])) : W p l e room_1 s m #[Value.ref b] below meth c H locs cells slots Q (F0 m 59 ls []) := by
  have hx := C.hx; have hb := C.hb; have hown := C.own; have hts := C.ts; have hml := C.ml; have hl0 := C.st
  unfold VC_B at hq
  refine lv_iconst (v := 1) hx hb dL_law_59 (by decide) ?_
  refine lv_aload_n hx hb dL_law_60 rfl (lv_at hl 2 rfl) ?_
  refine lv_bipush (v := 7) hx hb dL_law_61 (by decide) ?_
  obtain ⟨hk1, hq⟩ := hq
  refine l_callN (v := fL_cell L xs 7) (As := [.ref b, .int 7]) ⟨hx, hb, hml, hown, hts⟩ (kL_cell l b L xs 7 hk1 (by have := C.le; omega)) cell_blind (C.cell hS) (va_cwS 2 hts gL_law_L_cell rfl rfl rfl (by decide +kernel) ⟨Nat.le_of_ble_eq_true rfl, Nat.le_of_ble_eq_true rfl⟩) hB hL hS rfl hl.1 (Nat.le_of_ble_eq_true rfl) dL_law_63 ⟨by refine Nat.le_trans (m := 400000) ?_ rc_c; show cells + _ ≤ 400000; omega, by refine Nat.le_trans (m := 4000000) ?_ rc_s; show slots + _ ≤ 4000000; omega⟩ (fun H locs hL hS => ?_)
  refine lv_iconst (v := 4) hx hb dL_law_66 (by decide) ?_
  refine l_callN (v := fL_below (fL_cell L xs 7) 4) (As := [.int (fL_cell L xs 7), .int 4]) ⟨hx, hb, hml, hown, hts⟩ (kL_below l (fL_cell L xs 7) 4 (by decide)) below_blind (fun _ _ _ => trivial) (va_cwS 2 hts gL_law_L_below rfl rfl rfl (by decide +kernel) ⟨Nat.le_of_ble_eq_true rfl, Nat.le_of_ble_eq_true rfl⟩) hB hL hS rfl hl.1 (Nat.le_of_ble_eq_true rfl) dL_law_67 ⟨by refine Nat.le_trans (m := 400000) ?_ rc_c; show cells + _ + _ ≤ 400000; omega, by refine Nat.le_trans (m := 4000000) ?_ rc_s; show slots + _ + _ ≤ 4000000; omega⟩ (fun H locs hL hS => ?_)
  refine lv_iadd hx hb dL_law_70 ?_
  refine lv_istore_n (lv' := [(3, .int ((1 : Int32) + (fL_below (fL_cell L xs 7) 4))), (2, .int F), (1, .ref (ad 0 0)), (0, .ref b)]) hx hb dL_law_71 rfl hl (by decide) rfl (fun ls hl => ?_)
  refine W.widen (k := cells + 40) (n := slots + 400) (by omega) (by omega) ?_
  exact kk ((1 : Int32) + (fL_below (fL_cell L xs 7) 4)) _ _ ls hL hS (lv_sub hl [0, 1, 2, 3] rfl) hq
def VC_BD (L : Nat) (xs : Nat → Int32) (g : Gd) (F : Int32) (B : Int32) (q : Int32) (K : Gd → Prop) : Prop := (0 ≤ (8 + q : Int32).toInt ∧ (IvC g ∧ (∃ (v2 : Int32) (g4 : Gd), fX6_bed g ((5 : Int32) + (fL_below (fL_cell L xs (8 + q)) 36)) = (0, v2, g4) ∧ ((v2 = q → K g4) ∧ (¬ v2 = q → False)))))
set_option maxRecDepth 100000 in
set_option maxHeartbeats 8000000 in
theorem W_BD (C : LC p l s m c b L xs) (hI : cI ad) (hB : LWB D cy s) (hL : LWS D cy ad s g H) (hS : va_S (LA0 s) s.heap H locs) (hc : cells + 40 ≤ 400000) (hs : slots + 400 ≤ 4000000) {F B q : Int32} (hl : lv_has ls 17 [(4, .int q), (3, .int B), (2, .int F), (1, .ref (ad 0 0)), (0, .ref b)]) {K : Gd → Prop} (hq : VC_BD L xs g F B q K)
    (kk : ∀ (k0 : Gd) (H1 : Heap) (locs1 : List Loc) (ls1 : Array Slot), LWS D cy ad s k0 H1 → va_S (LA0 s) s.heap H1 locs1 → lv_has ls1 17 [(4, .int q), (3, .int B), (2, .int F), (1, .ref (ad 0 0)), (0, .ref b)] → K k0 → W p l e room_1 s m #[Value.ref b] below meth c H1 locs1 (cells + 40) (slots + 400) Q (F0 m 108 ls1 [])) : W p l e room_1 s m #[Value.ref b] below meth c H locs cells slots Q (F0 m 81 ls []) := by
  have hx := C.hx; have hb := C.hb; have hown := C.own; have hts := C.ts; have hml := C.ml; have hl0 := C.st
  unfold VC_BD at hq
  refine lv_aload_n hx hb dL_law_81 rfl (lv_at hl 3 rfl) ?_
  refine lv_iconst (v := 5) hx hb dL_law_82 (by decide) ?_
  refine lv_aload_n hx hb dL_law_83 rfl (lv_at hl 4 rfl) ?_
  refine lv_bipush (v := 8) hx hb dL_law_84 (by decide) ?_
  refine lv_iload hx hb dL_law_86 (lv_at hl 0 rfl) ?_
  refine lv_iadd hx hb dL_law_88 ?_
  obtain ⟨hk1, hq⟩ := hq
  refine l_callN (v := fL_cell L xs (8 + q)) (As := [.ref b, .int (8 + q)]) ⟨hx, hb, hml, hown, hts⟩ (kL_cell l b L xs (8 + q) hk1 (by have := C.le; omega)) cell_blind (C.cell hS) (va_cwS 2 hts gL_law_L_cell rfl rfl rfl (by decide +kernel) ⟨Nat.le_of_ble_eq_true rfl, Nat.le_of_ble_eq_true rfl⟩) hB hL hS rfl hl.1 (Nat.le_of_ble_eq_true rfl) dL_law_89 ⟨by refine Nat.le_trans (m := 400000) ?_ rc_c; show cells + _ ≤ 400000; omega, by refine Nat.le_trans (m := 4000000) ?_ rc_s; show slots + _ ≤ 4000000; omega⟩ (fun H locs hL hS => ?_)
  refine lv_bipush (v := 36) hx hb dL_law_92 (by decide) ?_
  refine l_callN (v := fL_below (fL_cell L xs (8 + q)) 36) (As := [.int (fL_cell L xs (8 + q)), .int 36]) ⟨hx, hb, hml, hown, hts⟩ (kL_below l (fL_cell L xs (8 + q)) 36 (by decide)) below_blind (fun _ _ _ => trivial) (va_cwS 2 hts gL_law_L_below rfl rfl rfl (by decide +kernel) ⟨Nat.le_of_ble_eq_true rfl, Nat.le_of_ble_eq_true rfl⟩) hB hL hS rfl hl.1 (Nat.le_of_ble_eq_true rfl) dL_law_94 ⟨by refine Nat.le_trans (m := 400000) ?_ rc_c; show cells + _ + _ ≤ 400000; omega, by refine Nat.le_trans (m := 4000000) ?_ rc_s; show slots + _ + _ ≤ 4000000; omega⟩ (fun H locs hL hS => ?_)
  refine lv_iadd hx hb dL_law_97 ?_
  obtain ⟨hv_g, hq⟩ := hq
  obtain ⟨v2, g4, e3, hq⟩ := hq
  refine l_callCi (v := v2) (g2 := g4) (As := [.int ((5 : Int32) + (fL_below (fL_cell L xs (8 + q)) 36))]) ⟨hx, hb, hml, hown, hts⟩ (vx_ofT (kX6_bed l D cy hI hl0 g _ ((5 : Int32) + (fL_below (fL_cell L xs (8 + q)) 36)) hv_g) e3) (cwV 1 hts gL_law_X6_bed rfl rfl rfl (by decide +kernel) ⟨Nat.le_of_ble_eq_true rfl, Nat.le_of_ble_eq_true rfl⟩) hB hL hS rfl hl.1 (Nat.le_of_ble_eq_true rfl) dL_law_98 ⟨by refine Nat.le_trans (m := 400000) ?_ rc_c; show cells + _ + _ + _ ≤ 400000; omega, by refine Nat.le_trans (m := 4000000) ?_ rc_s; show slots + _ + _ + _ ≤ 4000000; omega⟩ (fun H locs hL hS => ?_)
  refine lv_iload hx hb dL_law_101 (lv_at hl 0 rfl) ?_
  refine lv_icmp_eq (tgt := 108) hx hb dL_law_103 (by decide) (fun c5 => ?_) (fun c5 => ?_)
  · skip
    have hq := hq.1 c5
    refine W.widen (k := cells + 40) (n := slots + 400) (by omega) (by omega) ?_
    exact kk g4 _ _ ls hL hS (lv_sub hl [0, 1, 2, 3, 4] rfl) hq
  · skip
    have hq := hq.2 c5
    refine lv_iconst (v := 0) hx hb dL_law_106 (by decide) ?_
    exact hq.elim
def VC_H (L : Nat) (xs : Nat → Int32) (g : Gd) (F : Int32) (B : Int32) (gn : Int32) (pr : Int32) (tm : Int32) (K : Int32 → Int32 → Int32 → Int32 → Int32 → Int32 → Int32 → Prop) : Prop := (0 ≤ ((11 : Int32) + (tm - tm / 19 * 19) : Int32).toInt ∧ (∃ (x9 : Int32), x9 = (fL_cell L xs ((11 : Int32) + (tm - tm / 19 * 19))) >>> (((tm / 19) * 4) &&& 31) ∧ (¬ F = 0 ∧ (∃ (f9 : Int32), f9 = fL_below (x9 >>> (4 &&& 31)) F ∧ (IvC g ∧ (∃ (v5 : Int32), fX6_many g 2 = (0, v5) ∧ ((v5 = 0 → (∃ (b9 : Int32), b9 = (-1) ∧ (∃ (t9 : Int32), t9 = fL_below (x9 >>> (3 &&& 31)) 3 ∧ (¬ B = 0 ∧ (∃ (d9 : Int32), d9 = fL_below (x9 >>> (6 &&& 31)) B ∧ (∃ (v27 : Int32), fX6_many g 4 = (0, v27) ∧ ((v27 = 0 → (∃ (l9 : Int32), l9 = (-1) ∧ K x9 f9 b9 t9 d9 l9 (fL_below x9 17))) ∧ (¬ v27 = 0 → (∃ (v30 : Int32), fX6_many g 4 = (0, v30) ∧ (¬ v30 = 0 ∧ (∃ (l9 : Int32), l9 = fL_below (x9 >>> (4 &&& 31)) v30 ∧ K x9 f9 b9 t9 d9 l9 (fL_below x9 17)))))))))))) ∧ (¬ v5 = 0 → (∃ (v8 : Int32), fX6_many g 2 = (0, v8) ∧ (¬ v8 = 0 ∧ (∃ (b9 : Int32), b9 = fL_below (x9 >>> (5 &&& 31)) v8 ∧ (∃ (t9 : Int32), t9 = fL_below (x9 >>> (3 &&& 31)) 3 ∧ (¬ B = 0 ∧ (∃ (d9 : Int32), d9 = fL_below (x9 >>> (6 &&& 31)) B ∧ (∃ (v15 : Int32), fX6_many g 4 = (0, v15) ∧ ((v15 = 0 → (∃ (l9 : Int32), l9 = (-1) ∧ K x9 f9 b9 t9 d9 l9 (fL_below x9 17))) ∧ (¬ v15 = 0 → (∃ (v18 : Int32), fX6_many g 4 = (0, v18) ∧ (¬ v18 = 0 ∧ (∃ (l9 : Int32), l9 = fL_below (x9 >>> (4 &&& 31)) v18 ∧ K x9 f9 b9 t9 d9 l9 (fL_below x9 17)))))))))))))))))))))
set_option maxRecDepth 100000 in
set_option maxHeartbeats 8000000 in
theorem W_H (C : LC p l s m c b L xs) (hI : cI ad) (hB : LWB D cy s) (hL : LWS D cy ad s g H) (hS : va_S (LA0 s) s.heap H locs) (hc : cells + 40 ≤ 400000) (hs : slots + 400 ≤ 4000000) {F B gn pr tm : Int32} (hl : lv_has ls 17 [(6, .int tm), (5, .int pr), (4, .int gn), (3, .int B), (2, .int F), (1, .ref (ad 0 0)), (0, .ref b)]) {K : Int32 → Int32 → Int32 → Int32 → Int32 → Int32 → Int32 → Prop} (hq : VC_H L xs g F B gn pr tm K)
    (kk : ∀ (k0 : Int32) (k1 : Int32) (k2 : Int32) (k3 : Int32) (k4 : Int32) (k5 : Int32) (k6 : Int32) (H1 : Heap) (locs1 : List Loc) (ls1 : Array Slot), LWS D cy ad s g H1 → va_S (LA0 s) s.heap H1 locs1 → lv_has ls1 17 [(12, .int k5), (11, .int k4), (10, .int k3), (9, .int k2), (8, .int k1), (7, .int k0), (6, .int tm), (5, .int pr), (4, .int gn), (3, .int B), (2, .int F), (1, .ref (ad 0 0)), (0, .ref b)] → K k0 k1 k2 k3 k4 k5 k6 → W p l e room_1 s m #[Value.ref b] below meth c H1 locs1 (cells + 40) (slots + 400) Q (F0 m 242 ls1 [.int k6])) : W p l e room_1 s m #[Value.ref b] below meth c H locs cells slots Q (F0 m 130 ls []) := by
  have hx := C.hx; have hb := C.hb; have hown := C.own; have hts := C.ts; have hml := C.ml; have hl0 := C.st
  unfold VC_H at hq
  refine lv_aload_n hx hb dL_law_130 rfl (lv_at hl 6 rfl) ?_
  refine lv_bipush (v := 11) hx hb dL_law_131 (by decide) ?_
  refine lv_iload hx hb dL_law_133 (lv_at hl 0 rfl) ?_
  refine lv_bipush (v := 19) hx hb dL_law_135 (by decide) ?_
  refine lv_irem hx hb dL_law_137 (by decide) ?_
  refine lv_iadd hx hb dL_law_138 ?_
  obtain ⟨hk1, hq⟩ := hq
  refine l_callN (v := fL_cell L xs ((11 : Int32) + (tm - tm / 19 * 19))) (As := [.ref b, .int ((11 : Int32) + (tm - tm / 19 * 19))]) ⟨hx, hb, hml, hown, hts⟩ (kL_cell l b L xs ((11 : Int32) + (tm - tm / 19 * 19)) hk1 (by have := C.le; omega)) cell_blind (C.cell hS) (va_cwS 2 hts gL_law_L_cell rfl rfl rfl (by decide +kernel) ⟨Nat.le_of_ble_eq_true rfl, Nat.le_of_ble_eq_true rfl⟩) hB hL hS rfl hl.1 (Nat.le_of_ble_eq_true rfl) dL_law_139 ⟨by refine Nat.le_trans (m := 400000) ?_ rc_c; show cells + _ ≤ 400000; omega, by refine Nat.le_trans (m := 4000000) ?_ rc_s; show slots + _ ≤ 4000000; omega⟩ (fun H locs hL hS => ?_)
  refine lv_iload hx hb dL_law_142 (lv_at hl 0 rfl) ?_
  refine lv_bipush (v := 19) hx hb dL_law_144 (by decide) ?_
  refine lv_idiv hx hb dL_law_146 (by decide) ?_
  refine lv_iconst (v := 4) hx hb dL_law_147 (by decide) ?_
  refine lv_imul hx hb dL_law_148 ?_
  refine lv_ishr hx hb dL_law_149 ?_
  refine lv_istore (lv' := [(7, .int ((fL_cell L xs ((11 : Int32) + (tm - tm / 19 * 19))) >>> (((tm / 19) * 4) &&& 31))), (6, .int tm), (5, .int pr), (4, .int gn), (3, .int B), (2, .int F), (1, .ref (ad 0 0)), (0, .ref b)]) hx hb dL_law_150 hl (by decide) rfl (fun ls hl => ?_)
  obtain ⟨x9, hz2, hq⟩ := hq
  have hl : lv_has ls 17 [(7, .int x9), (6, .int tm), (5, .int pr), (4, .int gn), (3, .int B), (2, .int F), (1, .ref (ad 0 0)), (0, .ref b)] := by rw [hz2]; exact hl
  refine lv_iload hx hb dL_law_152 (lv_at hl 0 rfl) ?_
  refine lv_iconst (v := 4) hx hb dL_law_154 (by decide) ?_
  refine lv_ishr hx hb dL_law_155 ?_
  refine lv_iload_n hx hb dL_law_156 rfl (lv_at hl 5 rfl) ?_
  obtain ⟨hn3, hq⟩ := hq
  refine l_callN (v := fL_below (x9 >>> (4 &&& 31)) F) (As := [.int (x9 >>> (4 &&& 31)), .int F]) ⟨hx, hb, hml, hown, hts⟩ (kL_below l (x9 >>> (4 &&& 31)) F hn3) below_blind (fun _ _ _ => trivial) (va_cwS 2 hts gL_law_L_below rfl rfl rfl (by decide +kernel) ⟨Nat.le_of_ble_eq_true rfl, Nat.le_of_ble_eq_true rfl⟩) hB hL hS rfl hl.1 (Nat.le_of_ble_eq_true rfl) dL_law_157 ⟨by refine Nat.le_trans (m := 400000) ?_ rc_c; show cells + _ + _ ≤ 400000; omega, by refine Nat.le_trans (m := 4000000) ?_ rc_s; show slots + _ + _ ≤ 4000000; omega⟩ (fun H locs hL hS => ?_)
  refine lv_istore (lv' := [(8, .int (fL_below (x9 >>> (4 &&& 31)) F)), (7, .int x9), (6, .int tm), (5, .int pr), (4, .int gn), (3, .int B), (2, .int F), (1, .ref (ad 0 0)), (0, .ref b)]) hx hb dL_law_160 hl (by decide) rfl (fun ls hl => ?_)
  obtain ⟨f9, hz4, hq⟩ := hq
  have hl : lv_has ls 17 [(8, .int f9), (7, .int x9), (6, .int tm), (5, .int pr), (4, .int gn), (3, .int B), (2, .int F), (1, .ref (ad 0 0)), (0, .ref b)] := by rw [hz4]; exact hl
  refine lv_aload_n hx hb dL_law_162 rfl (lv_at hl 7 rfl) ?_
  refine lv_iconst (v := 2) hx hb dL_law_163 (by decide) ?_
  obtain ⟨hv_g, hq⟩ := hq
  obtain ⟨v5, e6, hq⟩ := hq
  refine l_callCi (v := v5) (g2 := g) (As := [.int 2]) ⟨hx, hb, hml, hown, hts⟩ (vx_ofR (kX6_many l D cy hI hl0 g _ 2 hv_g) e6) (cwV 1 hts gL_law_X6_many rfl rfl rfl (by decide +kernel) ⟨Nat.le_of_ble_eq_true rfl, Nat.le_of_ble_eq_true rfl⟩) hB hL hS rfl hl.1 (Nat.le_of_ble_eq_true rfl) dL_law_164 ⟨by refine Nat.le_trans (m := 400000) ?_ rc_c; show cells + _ + _ + _ ≤ 400000; omega, by refine Nat.le_trans (m := 4000000) ?_ rc_s; show slots + _ + _ + _ ≤ 4000000; omega⟩ (fun H locs hL hS => ?_)
  refine lv_if_ne (tgt := 174) hx hb dL_law_167 (by decide) (fun c7 => ?_) (fun c7 => ?_)
  · skip
    have hq := hq.2 c7
    refine lv_iload hx hb dL_law_174 (lv_at hl 1 rfl) ?_
    refine lv_iconst (v := 5) hx hb dL_law_176 (by decide) ?_
    refine lv_ishr hx hb dL_law_177 ?_
    refine lv_aload_n hx hb dL_law_178 rfl (lv_at hl 7 rfl) ?_
    refine lv_iconst (v := 2) hx hb dL_law_179 (by decide) ?_
    obtain ⟨v8, e9, hq⟩ := hq
    refine l_callCi (v := v8) (g2 := g) (As := [.int 2]) ⟨hx, hb, hml, hown, hts⟩ (vx_ofR (kX6_many l D cy hI hl0 g _ 2 hv_g) e9) (cwV 1 hts gL_law_X6_many rfl rfl rfl (by decide +kernel) ⟨Nat.le_of_ble_eq_true rfl, Nat.le_of_ble_eq_true rfl⟩) hB hL hS rfl hl.1 (Nat.le_of_ble_eq_true rfl) dL_law_180 ⟨by refine Nat.le_trans (m := 400000) ?_ rc_c; show cells + _ + _ + _ + _ ≤ 400000; omega, by refine Nat.le_trans (m := 4000000) ?_ rc_s; show slots + _ + _ + _ + _ ≤ 4000000; omega⟩ (fun H locs hL hS => ?_)
    obtain ⟨hn10, hq⟩ := hq
    refine l_callN (v := fL_below (x9 >>> (5 &&& 31)) v8) (As := [.int (x9 >>> (5 &&& 31)), .int v8]) ⟨hx, hb, hml, hown, hts⟩ (kL_below l (x9 >>> (5 &&& 31)) v8 hn10) below_blind (fun _ _ _ => trivial) (va_cwS 2 hts gL_law_L_below rfl rfl rfl (by decide +kernel) ⟨Nat.le_of_ble_eq_true rfl, Nat.le_of_ble_eq_true rfl⟩) hB hL hS rfl hl.1 (Nat.le_of_ble_eq_true rfl) dL_law_183 ⟨by refine Nat.le_trans (m := 400000) ?_ rc_c; show cells + _ + _ + _ + _ + _ ≤ 400000; omega, by refine Nat.le_trans (m := 4000000) ?_ rc_s; show slots + _ + _ + _ + _ + _ ≤ 4000000; omega⟩ (fun H locs hL hS => ?_)
    refine lv_istore (lv' := [(9, .int (fL_below (x9 >>> (5 &&& 31)) v8)), (8, .int f9), (7, .int x9), (6, .int tm), (5, .int pr), (4, .int gn), (3, .int B), (2, .int F), (1, .ref (ad 0 0)), (0, .ref b)]) hx hb dL_law_186 hl (by decide) rfl (fun ls hl => ?_)
    obtain ⟨b9, hz11, hq⟩ := hq
    have hl : lv_has ls 17 [(9, .int b9), (8, .int f9), (7, .int x9), (6, .int tm), (5, .int pr), (4, .int gn), (3, .int B), (2, .int F), (1, .ref (ad 0 0)), (0, .ref b)] := by rw [hz11]; exact hl
    refine lv_iload hx hb dL_law_188 (lv_at hl 2 rfl) ?_
    refine lv_iconst (v := 3) hx hb dL_law_190 (by decide) ?_
    refine lv_ishr hx hb dL_law_191 ?_
    refine lv_iconst (v := 3) hx hb dL_law_192 (by decide) ?_
    refine l_callN (v := fL_below (x9 >>> (3 &&& 31)) 3) (As := [.int (x9 >>> (3 &&& 31)), .int 3]) ⟨hx, hb, hml, hown, hts⟩ (kL_below l (x9 >>> (3 &&& 31)) 3 (by decide)) below_blind (fun _ _ _ => trivial) (va_cwS 2 hts gL_law_L_below rfl rfl rfl (by decide +kernel) ⟨Nat.le_of_ble_eq_true rfl, Nat.le_of_ble_eq_true rfl⟩) hB hL hS rfl hl.1 (Nat.le_of_ble_eq_true rfl) dL_law_193 ⟨by refine Nat.le_trans (m := 400000) ?_ rc_c; show cells + _ + _ + _ + _ + _ + _ ≤ 400000; omega, by refine Nat.le_trans (m := 4000000) ?_ rc_s; show slots + _ + _ + _ + _ + _ + _ ≤ 4000000; omega⟩ (fun H locs hL hS => ?_)
    refine lv_istore (lv' := [(10, .int (fL_below (x9 >>> (3 &&& 31)) 3)), (9, .int b9), (8, .int f9), (7, .int x9), (6, .int tm), (5, .int pr), (4, .int gn), (3, .int B), (2, .int F), (1, .ref (ad 0 0)), (0, .ref b)]) hx hb dL_law_196 hl (by decide) rfl (fun ls hl => ?_)
    obtain ⟨t9, hz12, hq⟩ := hq
    have hl : lv_has ls 17 [(10, .int t9), (9, .int b9), (8, .int f9), (7, .int x9), (6, .int tm), (5, .int pr), (4, .int gn), (3, .int B), (2, .int F), (1, .ref (ad 0 0)), (0, .ref b)] := by rw [hz12]; exact hl
    refine lv_iload hx hb dL_law_198 (lv_at hl 3 rfl) ?_
    refine lv_bipush (v := 6) hx hb dL_law_200 (by decide) ?_
    refine lv_ishr hx hb dL_law_202 ?_
    refine lv_iload_n hx hb dL_law_203 rfl (lv_at hl 7 rfl) ?_
    obtain ⟨hn13, hq⟩ := hq
    refine l_callN (v := fL_below (x9 >>> (6 &&& 31)) B) (As := [.int (x9 >>> (6 &&& 31)), .int B]) ⟨hx, hb, hml, hown, hts⟩ (kL_below l (x9 >>> (6 &&& 31)) B hn13) below_blind (fun _ _ _ => trivial) (va_cwS 2 hts gL_law_L_below rfl rfl rfl (by decide +kernel) ⟨Nat.le_of_ble_eq_true rfl, Nat.le_of_ble_eq_true rfl⟩) hB hL hS rfl hl.1 (Nat.le_of_ble_eq_true rfl) dL_law_204 ⟨by refine Nat.le_trans (m := 400000) ?_ rc_c; show cells + _ + _ + _ + _ + _ + _ + _ ≤ 400000; omega, by refine Nat.le_trans (m := 4000000) ?_ rc_s; show slots + _ + _ + _ + _ + _ + _ + _ ≤ 4000000; omega⟩ (fun H locs hL hS => ?_)
    refine lv_istore (lv' := [(11, .int (fL_below (x9 >>> (6 &&& 31)) B)), (10, .int t9), (9, .int b9), (8, .int f9), (7, .int x9), (6, .int tm), (5, .int pr), (4, .int gn), (3, .int B), (2, .int F), (1, .ref (ad 0 0)), (0, .ref b)]) hx hb dL_law_207 hl (by decide) rfl (fun ls hl => ?_)
    obtain ⟨d9, hz14, hq⟩ := hq
    have hl : lv_has ls 17 [(11, .int d9), (10, .int t9), (9, .int b9), (8, .int f9), (7, .int x9), (6, .int tm), (5, .int pr), (4, .int gn), (3, .int B), (2, .int F), (1, .ref (ad 0 0)), (0, .ref b)] := by rw [hz14]; exact hl
    refine lv_aload_n hx hb dL_law_209 rfl (lv_at hl 10 rfl) ?_
    refine lv_iconst (v := 4) hx hb dL_law_210 (by decide) ?_
    obtain ⟨v15, e16, hq⟩ := hq
    refine l_callCi (v := v15) (g2 := g) (As := [.int 4]) ⟨hx, hb, hml, hown, hts⟩ (vx_ofR (kX6_many l D cy hI hl0 g _ 4 hv_g) e16) (cwV 1 hts gL_law_X6_many rfl rfl rfl (by decide +kernel) ⟨Nat.le_of_ble_eq_true rfl, Nat.le_of_ble_eq_true rfl⟩) hB hL hS rfl hl.1 (Nat.le_of_ble_eq_true rfl) dL_law_211 ⟨by refine Nat.le_trans (m := 400000) ?_ rc_c; show cells + _ + _ + _ + _ + _ + _ + _ + _ ≤ 400000; omega, by refine Nat.le_trans (m := 4000000) ?_ rc_s; show slots + _ + _ + _ + _ + _ + _ + _ + _ ≤ 4000000; omega⟩ (fun H locs hL hS => ?_)
    refine lv_if_ne (tgt := 221) hx hb dL_law_214 (by decide) (fun c17 => ?_) (fun c17 => ?_)
    · skip
      have hq := hq.2 c17
      refine lv_iload hx hb dL_law_221 (lv_at hl 4 rfl) ?_
      refine lv_iconst (v := 4) hx hb dL_law_223 (by decide) ?_
      refine lv_ishr hx hb dL_law_224 ?_
      refine lv_aload_n hx hb dL_law_225 rfl (lv_at hl 10 rfl) ?_
      refine lv_iconst (v := 4) hx hb dL_law_226 (by decide) ?_
      obtain ⟨v18, e19, hq⟩ := hq
      refine l_callCi (v := v18) (g2 := g) (As := [.int 4]) ⟨hx, hb, hml, hown, hts⟩ (vx_ofR (kX6_many l D cy hI hl0 g _ 4 hv_g) e19) (cwV 1 hts gL_law_X6_many rfl rfl rfl (by decide +kernel) ⟨Nat.le_of_ble_eq_true rfl, Nat.le_of_ble_eq_true rfl⟩) hB hL hS rfl hl.1 (Nat.le_of_ble_eq_true rfl) dL_law_227 ⟨by refine Nat.le_trans (m := 400000) ?_ rc_c; show cells + _ + _ + _ + _ + _ + _ + _ + _ + _ ≤ 400000; omega, by refine Nat.le_trans (m := 4000000) ?_ rc_s; show slots + _ + _ + _ + _ + _ + _ + _ + _ + _ ≤ 4000000; omega⟩ (fun H locs hL hS => ?_)
      obtain ⟨hn20, hq⟩ := hq
      refine l_callN (v := fL_below (x9 >>> (4 &&& 31)) v18) (As := [.int (x9 >>> (4 &&& 31)), .int v18]) ⟨hx, hb, hml, hown, hts⟩ (kL_below l (x9 >>> (4 &&& 31)) v18 hn20) below_blind (fun _ _ _ => trivial) (va_cwS 2 hts gL_law_L_below rfl rfl rfl (by decide +kernel) ⟨Nat.le_of_ble_eq_true rfl, Nat.le_of_ble_eq_true rfl⟩) hB hL hS rfl hl.1 (Nat.le_of_ble_eq_true rfl) dL_law_230 ⟨by refine Nat.le_trans (m := 400000) ?_ rc_c; show cells + _ + _ + _ + _ + _ + _ + _ + _ + _ + _ ≤ 400000; omega, by refine Nat.le_trans (m := 4000000) ?_ rc_s; show slots + _ + _ + _ + _ + _ + _ + _ + _ + _ + _ ≤ 4000000; omega⟩ (fun H locs hL hS => ?_)
      refine lv_istore (lv' := [(12, .int (fL_below (x9 >>> (4 &&& 31)) v18)), (11, .int d9), (10, .int t9), (9, .int b9), (8, .int f9), (7, .int x9), (6, .int tm), (5, .int pr), (4, .int gn), (3, .int B), (2, .int F), (1, .ref (ad 0 0)), (0, .ref b)]) hx hb dL_law_233 hl (by decide) rfl (fun ls hl => ?_)
      obtain ⟨l9, hz21, hq⟩ := hq
      have hl : lv_has ls 17 [(12, .int l9), (11, .int d9), (10, .int t9), (9, .int b9), (8, .int f9), (7, .int x9), (6, .int tm), (5, .int pr), (4, .int gn), (3, .int B), (2, .int F), (1, .ref (ad 0 0)), (0, .ref b)] := by rw [hz21]; exact hl
      refine lv_iload hx hb dL_law_235 (lv_at hl 5 rfl) ?_
      refine lv_bipush (v := 17) hx hb dL_law_237 (by decide) ?_
      refine l_callN (v := fL_below x9 17) (As := [.int x9, .int 17]) ⟨hx, hb, hml, hown, hts⟩ (kL_below l x9 17 (by decide)) below_blind (fun _ _ _ => trivial) (va_cwS 2 hts gL_law_L_below rfl rfl rfl (by decide +kernel) ⟨Nat.le_of_ble_eq_true rfl, Nat.le_of_ble_eq_true rfl⟩) hB hL hS rfl hl.1 (Nat.le_of_ble_eq_true rfl) dL_law_239 ⟨by refine Nat.le_trans (m := 400000) ?_ rc_c; show cells + _ + _ + _ + _ + _ + _ + _ + _ + _ + _ + _ ≤ 400000; omega, by refine Nat.le_trans (m := 4000000) ?_ rc_s; show slots + _ + _ + _ + _ + _ + _ + _ + _ + _ + _ + _ ≤ 4000000; omega⟩ (fun H locs hL hS => ?_)
      refine W.widen (k := cells + 40) (n := slots + 400) (by omega) (by omega) ?_
      exact kk x9 f9 b9 t9 d9 l9 (fL_below x9 17) _ _ ls hL hS (lv_sub hl [0, 1, 2, 3, 4, 5, 6, 7, 8, 9, 10, 11, 12] rfl) hq
    · skip
      have hq := hq.1 c17
      refine lv_iconst (v := (-1)) hx hb dL_law_217 (by decide) ?_
      refine lv_goto (tgt := 233) hx hb dL_law_218 (by decide) ?_
      refine lv_istore (lv' := [(12, .int (-1)), (11, .int d9), (10, .int t9), (9, .int b9), (8, .int f9), (7, .int x9), (6, .int tm), (5, .int pr), (4, .int gn), (3, .int B), (2, .int F), (1, .ref (ad 0 0)), (0, .ref b)]) hx hb dL_law_233 hl (by decide) rfl (fun ls hl => ?_)
      obtain ⟨l9, hz22, hq⟩ := hq
      have hl : lv_has ls 17 [(12, .int l9), (11, .int d9), (10, .int t9), (9, .int b9), (8, .int f9), (7, .int x9), (6, .int tm), (5, .int pr), (4, .int gn), (3, .int B), (2, .int F), (1, .ref (ad 0 0)), (0, .ref b)] := by rw [hz22]; exact hl
      refine lv_iload hx hb dL_law_235 (lv_at hl 5 rfl) ?_
      refine lv_bipush (v := 17) hx hb dL_law_237 (by decide) ?_
      refine l_callN (v := fL_below x9 17) (As := [.int x9, .int 17]) ⟨hx, hb, hml, hown, hts⟩ (kL_below l x9 17 (by decide)) below_blind (fun _ _ _ => trivial) (va_cwS 2 hts gL_law_L_below rfl rfl rfl (by decide +kernel) ⟨Nat.le_of_ble_eq_true rfl, Nat.le_of_ble_eq_true rfl⟩) hB hL hS rfl hl.1 (Nat.le_of_ble_eq_true rfl) dL_law_239 ⟨by refine Nat.le_trans (m := 400000) ?_ rc_c; show cells + _ + _ + _ + _ + _ + _ + _ + _ + _ ≤ 400000; omega, by refine Nat.le_trans (m := 4000000) ?_ rc_s; show slots + _ + _ + _ + _ + _ + _ + _ + _ + _ ≤ 4000000; omega⟩ (fun H locs hL hS => ?_)
      refine W.widen (k := cells + 40) (n := slots + 400) (by omega) (by omega) ?_
      exact kk x9 f9 b9 t9 d9 l9 (fL_below x9 17) _ _ ls hL hS (lv_sub hl [0, 1, 2, 3, 4, 5, 6, 7, 8, 9, 10, 11, 12] rfl) hq
  · skip
    have hq := hq.1 c7
    refine lv_iconst (v := (-1)) hx hb dL_law_170 (by decide) ?_
    refine lv_goto (tgt := 186) hx hb dL_law_171 (by decide) ?_
    refine lv_istore (lv' := [(9, .int (-1)), (8, .int f9), (7, .int x9), (6, .int tm), (5, .int pr), (4, .int gn), (3, .int B), (2, .int F), (1, .ref (ad 0 0)), (0, .ref b)]) hx hb dL_law_186 hl (by decide) rfl (fun ls hl => ?_)
    obtain ⟨b9, hz23, hq⟩ := hq
    have hl : lv_has ls 17 [(9, .int b9), (8, .int f9), (7, .int x9), (6, .int tm), (5, .int pr), (4, .int gn), (3, .int B), (2, .int F), (1, .ref (ad 0 0)), (0, .ref b)] := by rw [hz23]; exact hl
    refine lv_iload hx hb dL_law_188 (lv_at hl 2 rfl) ?_
    refine lv_iconst (v := 3) hx hb dL_law_190 (by decide) ?_
    refine lv_ishr hx hb dL_law_191 ?_
    refine lv_iconst (v := 3) hx hb dL_law_192 (by decide) ?_
    refine l_callN (v := fL_below (x9 >>> (3 &&& 31)) 3) (As := [.int (x9 >>> (3 &&& 31)), .int 3]) ⟨hx, hb, hml, hown, hts⟩ (kL_below l (x9 >>> (3 &&& 31)) 3 (by decide)) below_blind (fun _ _ _ => trivial) (va_cwS 2 hts gL_law_L_below rfl rfl rfl (by decide +kernel) ⟨Nat.le_of_ble_eq_true rfl, Nat.le_of_ble_eq_true rfl⟩) hB hL hS rfl hl.1 (Nat.le_of_ble_eq_true rfl) dL_law_193 ⟨by refine Nat.le_trans (m := 400000) ?_ rc_c; show cells + _ + _ + _ + _ ≤ 400000; omega, by refine Nat.le_trans (m := 4000000) ?_ rc_s; show slots + _ + _ + _ + _ ≤ 4000000; omega⟩ (fun H locs hL hS => ?_)
    refine lv_istore (lv' := [(10, .int (fL_below (x9 >>> (3 &&& 31)) 3)), (9, .int b9), (8, .int f9), (7, .int x9), (6, .int tm), (5, .int pr), (4, .int gn), (3, .int B), (2, .int F), (1, .ref (ad 0 0)), (0, .ref b)]) hx hb dL_law_196 hl (by decide) rfl (fun ls hl => ?_)
    obtain ⟨t9, hz24, hq⟩ := hq
    have hl : lv_has ls 17 [(10, .int t9), (9, .int b9), (8, .int f9), (7, .int x9), (6, .int tm), (5, .int pr), (4, .int gn), (3, .int B), (2, .int F), (1, .ref (ad 0 0)), (0, .ref b)] := by rw [hz24]; exact hl
    refine lv_iload hx hb dL_law_198 (lv_at hl 3 rfl) ?_
    refine lv_bipush (v := 6) hx hb dL_law_200 (by decide) ?_
    refine lv_ishr hx hb dL_law_202 ?_
    refine lv_iload_n hx hb dL_law_203 rfl (lv_at hl 7 rfl) ?_
    obtain ⟨hn25, hq⟩ := hq
    refine l_callN (v := fL_below (x9 >>> (6 &&& 31)) B) (As := [.int (x9 >>> (6 &&& 31)), .int B]) ⟨hx, hb, hml, hown, hts⟩ (kL_below l (x9 >>> (6 &&& 31)) B hn25) below_blind (fun _ _ _ => trivial) (va_cwS 2 hts gL_law_L_below rfl rfl rfl (by decide +kernel) ⟨Nat.le_of_ble_eq_true rfl, Nat.le_of_ble_eq_true rfl⟩) hB hL hS rfl hl.1 (Nat.le_of_ble_eq_true rfl) dL_law_204 ⟨by refine Nat.le_trans (m := 400000) ?_ rc_c; show cells + _ + _ + _ + _ + _ ≤ 400000; omega, by refine Nat.le_trans (m := 4000000) ?_ rc_s; show slots + _ + _ + _ + _ + _ ≤ 4000000; omega⟩ (fun H locs hL hS => ?_)
    refine lv_istore (lv' := [(11, .int (fL_below (x9 >>> (6 &&& 31)) B)), (10, .int t9), (9, .int b9), (8, .int f9), (7, .int x9), (6, .int tm), (5, .int pr), (4, .int gn), (3, .int B), (2, .int F), (1, .ref (ad 0 0)), (0, .ref b)]) hx hb dL_law_207 hl (by decide) rfl (fun ls hl => ?_)
    obtain ⟨d9, hz26, hq⟩ := hq
    have hl : lv_has ls 17 [(11, .int d9), (10, .int t9), (9, .int b9), (8, .int f9), (7, .int x9), (6, .int tm), (5, .int pr), (4, .int gn), (3, .int B), (2, .int F), (1, .ref (ad 0 0)), (0, .ref b)] := by rw [hz26]; exact hl
    refine lv_aload_n hx hb dL_law_209 rfl (lv_at hl 10 rfl) ?_
    refine lv_iconst (v := 4) hx hb dL_law_210 (by decide) ?_
    obtain ⟨v27, e28, hq⟩ := hq
    refine l_callCi (v := v27) (g2 := g) (As := [.int 4]) ⟨hx, hb, hml, hown, hts⟩ (vx_ofR (kX6_many l D cy hI hl0 g _ 4 hv_g) e28) (cwV 1 hts gL_law_X6_many rfl rfl rfl (by decide +kernel) ⟨Nat.le_of_ble_eq_true rfl, Nat.le_of_ble_eq_true rfl⟩) hB hL hS rfl hl.1 (Nat.le_of_ble_eq_true rfl) dL_law_211 ⟨by refine Nat.le_trans (m := 400000) ?_ rc_c; show cells + _ + _ + _ + _ + _ + _ ≤ 400000; omega, by refine Nat.le_trans (m := 4000000) ?_ rc_s; show slots + _ + _ + _ + _ + _ + _ ≤ 4000000; omega⟩ (fun H locs hL hS => ?_)
    refine lv_if_ne (tgt := 221) hx hb dL_law_214 (by decide) (fun c29 => ?_) (fun c29 => ?_)
    · skip
      have hq := hq.2 c29
      refine lv_iload hx hb dL_law_221 (lv_at hl 4 rfl) ?_
      refine lv_iconst (v := 4) hx hb dL_law_223 (by decide) ?_
      refine lv_ishr hx hb dL_law_224 ?_
      refine lv_aload_n hx hb dL_law_225 rfl (lv_at hl 10 rfl) ?_
      refine lv_iconst (v := 4) hx hb dL_law_226 (by decide) ?_
      obtain ⟨v30, e31, hq⟩ := hq
      refine l_callCi (v := v30) (g2 := g) (As := [.int 4]) ⟨hx, hb, hml, hown, hts⟩ (vx_ofR (kX6_many l D cy hI hl0 g _ 4 hv_g) e31) (cwV 1 hts gL_law_X6_many rfl rfl rfl (by decide +kernel) ⟨Nat.le_of_ble_eq_true rfl, Nat.le_of_ble_eq_true rfl⟩) hB hL hS rfl hl.1 (Nat.le_of_ble_eq_true rfl) dL_law_227 ⟨by refine Nat.le_trans (m := 400000) ?_ rc_c; show cells + _ + _ + _ + _ + _ + _ + _ ≤ 400000; omega, by refine Nat.le_trans (m := 4000000) ?_ rc_s; show slots + _ + _ + _ + _ + _ + _ + _ ≤ 4000000; omega⟩ (fun H locs hL hS => ?_)
      obtain ⟨hn32, hq⟩ := hq
      refine l_callN (v := fL_below (x9 >>> (4 &&& 31)) v30) (As := [.int (x9 >>> (4 &&& 31)), .int v30]) ⟨hx, hb, hml, hown, hts⟩ (kL_below l (x9 >>> (4 &&& 31)) v30 hn32) below_blind (fun _ _ _ => trivial) (va_cwS 2 hts gL_law_L_below rfl rfl rfl (by decide +kernel) ⟨Nat.le_of_ble_eq_true rfl, Nat.le_of_ble_eq_true rfl⟩) hB hL hS rfl hl.1 (Nat.le_of_ble_eq_true rfl) dL_law_230 ⟨by refine Nat.le_trans (m := 400000) ?_ rc_c; show cells + _ + _ + _ + _ + _ + _ + _ + _ ≤ 400000; omega, by refine Nat.le_trans (m := 4000000) ?_ rc_s; show slots + _ + _ + _ + _ + _ + _ + _ + _ ≤ 4000000; omega⟩ (fun H locs hL hS => ?_)
      refine lv_istore (lv' := [(12, .int (fL_below (x9 >>> (4 &&& 31)) v30)), (11, .int d9), (10, .int t9), (9, .int b9), (8, .int f9), (7, .int x9), (6, .int tm), (5, .int pr), (4, .int gn), (3, .int B), (2, .int F), (1, .ref (ad 0 0)), (0, .ref b)]) hx hb dL_law_233 hl (by decide) rfl (fun ls hl => ?_)
      obtain ⟨l9, hz33, hq⟩ := hq
      have hl : lv_has ls 17 [(12, .int l9), (11, .int d9), (10, .int t9), (9, .int b9), (8, .int f9), (7, .int x9), (6, .int tm), (5, .int pr), (4, .int gn), (3, .int B), (2, .int F), (1, .ref (ad 0 0)), (0, .ref b)] := by rw [hz33]; exact hl
      refine lv_iload hx hb dL_law_235 (lv_at hl 5 rfl) ?_
      refine lv_bipush (v := 17) hx hb dL_law_237 (by decide) ?_
      refine l_callN (v := fL_below x9 17) (As := [.int x9, .int 17]) ⟨hx, hb, hml, hown, hts⟩ (kL_below l x9 17 (by decide)) below_blind (fun _ _ _ => trivial) (va_cwS 2 hts gL_law_L_below rfl rfl rfl (by decide +kernel) ⟨Nat.le_of_ble_eq_true rfl, Nat.le_of_ble_eq_true rfl⟩) hB hL hS rfl hl.1 (Nat.le_of_ble_eq_true rfl) dL_law_239 ⟨by refine Nat.le_trans (m := 400000) ?_ rc_c; show cells + _ + _ + _ + _ + _ + _ + _ + _ + _ ≤ 400000; omega, by refine Nat.le_trans (m := 4000000) ?_ rc_s; show slots + _ + _ + _ + _ + _ + _ + _ + _ + _ ≤ 4000000; omega⟩ (fun H locs hL hS => ?_)
      refine W.widen (k := cells + 40) (n := slots + 400) (by omega) (by omega) ?_
      exact kk x9 f9 b9 t9 d9 l9 (fL_below x9 17) _ _ ls hL hS (lv_sub hl [0, 1, 2, 3, 4, 5, 6, 7, 8, 9, 10, 11, 12] rfl) hq
    · skip
      have hq := hq.1 c29
      refine lv_iconst (v := (-1)) hx hb dL_law_217 (by decide) ?_
      refine lv_goto (tgt := 233) hx hb dL_law_218 (by decide) ?_
      refine lv_istore (lv' := [(12, .int (-1)), (11, .int d9), (10, .int t9), (9, .int b9), (8, .int f9), (7, .int x9), (6, .int tm), (5, .int pr), (4, .int gn), (3, .int B), (2, .int F), (1, .ref (ad 0 0)), (0, .ref b)]) hx hb dL_law_233 hl (by decide) rfl (fun ls hl => ?_)
      obtain ⟨l9, hz34, hq⟩ := hq
      have hl : lv_has ls 17 [(12, .int l9), (11, .int d9), (10, .int t9), (9, .int b9), (8, .int f9), (7, .int x9), (6, .int tm), (5, .int pr), (4, .int gn), (3, .int B), (2, .int F), (1, .ref (ad 0 0)), (0, .ref b)] := by rw [hz34]; exact hl
      refine lv_iload hx hb dL_law_235 (lv_at hl 5 rfl) ?_
      refine lv_bipush (v := 17) hx hb dL_law_237 (by decide) ?_
      refine l_callN (v := fL_below x9 17) (As := [.int x9, .int 17]) ⟨hx, hb, hml, hown, hts⟩ (kL_below l x9 17 (by decide)) below_blind (fun _ _ _ => trivial) (va_cwS 2 hts gL_law_L_below rfl rfl rfl (by decide +kernel) ⟨Nat.le_of_ble_eq_true rfl, Nat.le_of_ble_eq_true rfl⟩) hB hL hS rfl hl.1 (Nat.le_of_ble_eq_true rfl) dL_law_239 ⟨by refine Nat.le_trans (m := 400000) ?_ rc_c; show cells + _ + _ + _ + _ + _ + _ + _ ≤ 400000; omega, by refine Nat.le_trans (m := 4000000) ?_ rc_s; show slots + _ + _ + _ + _ + _ + _ + _ ≤ 4000000; omega⟩ (fun H locs hL hS => ?_)
      refine W.widen (k := cells + 40) (n := slots + 400) (by omega) (by omega) ?_
      exact kk x9 f9 b9 t9 d9 l9 (fL_below x9 17) _ _ ls hL hS (lv_sub hl [0, 1, 2, 3, 4, 5, 6, 7, 8, 9, 10, 11, 12] rfl) hq
def VC_T (L : Nat) (xs : Nat → Int32) (g : Gd) (F : Int32) (B : Int32) (gn : Int32) (pr : Int32) (tm : Int32) (K : Gd → Prop) : Prop := (IvC g ∧ (∃ (v1 : Int32), fX6_many g 6 = (0, v1) ∧ (∃ (v3 : Int32), fX6_many g 15 = (0, v3) ∧ (((v1 + v3) = gn → (F = g 0 0 7 ∧ (B = g 0 0 9 ∧ (∃ (v8 : Int32), fL_isSo g F B = v8 ∧ ((v8 = 0 → False) ∧ (¬ v8 = 0 → K g)))))) ∧ (¬ (v1 + v3) = gn → False)))))
set_option maxRecDepth 100000 in
set_option maxHeartbeats 8000000 in
theorem W_T (C : LC p l s m c b L xs) (hI : cI ad) (hB : LWB D cy s) (hL : LWS D cy ad s g H) (hS : va_S (LA0 s) s.heap H locs) (hc : cells + 40 ≤ 400000) (hs : slots + 400 ≤ 4000000) {F B gn pr tm : Int32} (hl : lv_has ls 17 [(6, .int tm), (5, .int pr), (4, .int gn), (3, .int B), (2, .int F), (1, .ref (ad 0 0)), (0, .ref b)]) {K : Gd → Prop} (hq : VC_T L xs g F B gn pr tm K)
    (kk : ∀ (k0 : Gd) (H1 : Heap) (locs1 : List Loc) (ls1 : Array Slot), LWS D cy ad s k0 H1 → va_S (LA0 s) s.heap H1 locs1 → lv_has ls1 17 [(6, .int tm), (5, .int pr), (4, .int gn), (3, .int B), (2, .int F), (1, .ref (ad 0 0)), (0, .ref b)] → K k0 → W p l e room_1 s m #[Value.ref b] below meth c H1 locs1 (cells + 40) (slots + 400) Q (F0 m 1417 ls1 [])) : W p l e room_1 s m #[Value.ref b] below meth c H locs cells slots Q (F0 m 1388 ls []) := by
  have hx := C.hx; have hb := C.hb; have hown := C.own; have hts := C.ts; have hml := C.ml; have hl0 := C.st
  unfold VC_T at hq
  refine lv_aload_n hx hb dL_law_1388 rfl (lv_at hl 5 rfl) ?_
  refine lv_bipush (v := 6) hx hb dL_law_1389 (by decide) ?_
  obtain ⟨hv_g, hq⟩ := hq
  obtain ⟨v1, e2, hq⟩ := hq
  refine l_callCi (v := v1) (g2 := g) (As := [.int 6]) ⟨hx, hb, hml, hown, hts⟩ (vx_ofR (kX6_many l D cy hI hl0 g _ 6 hv_g) e2) (cwV 1 hts gL_law_X6_many rfl rfl rfl (by decide +kernel) ⟨Nat.le_of_ble_eq_true rfl, Nat.le_of_ble_eq_true rfl⟩) hB hL hS rfl hl.1 (Nat.le_of_ble_eq_true rfl) dL_law_1391 ⟨by refine Nat.le_trans (m := 400000) ?_ rc_c; show cells + _ ≤ 400000; omega, by refine Nat.le_trans (m := 4000000) ?_ rc_s; show slots + _ ≤ 4000000; omega⟩ (fun H locs hL hS => ?_)
  refine lv_aload_n hx hb dL_law_1394 rfl (lv_at hl 5 rfl) ?_
  refine lv_bipush (v := 15) hx hb dL_law_1395 (by decide) ?_
  obtain ⟨v3, e4, hq⟩ := hq
  refine l_callCi (v := v3) (g2 := g) (As := [.int 15]) ⟨hx, hb, hml, hown, hts⟩ (vx_ofR (kX6_many l D cy hI hl0 g _ 15 hv_g) e4) (cwV 1 hts gL_law_X6_many rfl rfl rfl (by decide +kernel) ⟨Nat.le_of_ble_eq_true rfl, Nat.le_of_ble_eq_true rfl⟩) hB hL hS rfl hl.1 (Nat.le_of_ble_eq_true rfl) dL_law_1397 ⟨by refine Nat.le_trans (m := 400000) ?_ rc_c; show cells + _ + _ ≤ 400000; omega, by refine Nat.le_trans (m := 4000000) ?_ rc_s; show slots + _ + _ ≤ 4000000; omega⟩ (fun H locs hL hS => ?_)
  refine lv_iadd hx hb dL_law_1400 ?_
  refine lv_iload hx hb dL_law_1401 (lv_at hl 2 rfl) ?_
  refine lv_icmp_ne (tgt := 1415) hx hb dL_law_1403 (by decide) (fun c5 => ?_) (fun c5 => ?_)
  · skip
    have hq := hq.2 c5
    refine lv_iconst (v := 0) hx hb dL_law_1415 (by decide) ?_
    exact hq.elim
  · skip
    have hq := hq.1 c5
    refine lv_aload_n hx hb dL_law_1406 rfl (lv_at hl 5 rfl) ?_
    refine lv_iload_n hx hb dL_law_1407 rfl (lv_at hl 4 rfl) ?_
    refine lv_iload_n hx hb dL_law_1408 rfl (lv_at hl 3 rfl) ?_
    obtain ⟨hf6, hq⟩ := hq
    obtain ⟨hf7, hq⟩ := hq
    obtain ⟨v8, e9, hq⟩ := hq
    refine l_callS (v := v8) (g2 := g) (As := .ref (ad 0 0) :: [.int F, .int B]) ⟨hx, hb, hml, hown, hts⟩ (met_V (kL_isSo l D cy hI g _ F B hv_g hf6 hf7) e9) (va_cwS 3 hts gL_law_L_isSo rfl rfl rfl (by decide +kernel) ⟨Nat.le_of_ble_eq_true rfl, Nat.le_of_ble_eq_true rfl⟩) hB hL hS rfl hl.1 (Nat.le_of_ble_eq_true rfl) dL_law_1409 ⟨by refine Nat.le_trans (m := 400000) ?_ rc_c; show cells + _ + _ + _ ≤ 400000; omega, by refine Nat.le_trans (m := 4000000) ?_ rc_s; show slots + _ + _ + _ ≤ 4000000; omega⟩ (fun H locs hL hS => ?_)
    refine lv_if_ne (tgt := 1417) hx hb dL_law_1412 (by decide) (fun c10 => ?_) (fun c10 => ?_)
    · skip
      have hq := hq.2 c10
      refine W.widen (k := cells + 40) (n := slots + 400) (by omega) (by omega) ?_
      exact kk g _ _ ls hL hS (lv_sub hl [0, 1, 2, 3, 4, 5, 6] rfl) hq
    · skip
      have hq := hq.1 c10
      refine lv_iconst (v := 0) hx hb dL_law_1415 (by decide) ?_
      exact hq.elim
def VC_E (L : Nat) (xs : Nat → Int32) (g : Gd) (F : Int32) (B : Int32) (gn : Int32) (pr : Int32)  : Prop := (IvC g ∧ (∃ (v1 : Int64) (g3 : Gd), fX6_digest g = (v1, g3) ∧ (IvC g3 ∧ (F = g3 0 0 7 ∧ (B = g3 0 0 9 ∧ (∃ (v6 : Int32), fL_isSo g3 F B = v6 ∧ ((v6 = 0 → False) ∧ (¬ v6 = 0 → (∃ (v9 : Int64) (g11 : Gd), fX6_digest g3 = (v9, g11) ∧ (((lg_cmp v9 v1) = 0 → True) ∧ (¬ (lg_cmp v9 v1) = 0 → False)))))))))))
set_option maxRecDepth 100000 in
set_option maxHeartbeats 8000000 in
theorem W_E (C : LC p l s m c b L xs) (hI : cI ad) (hB : LWB D cy s) (hL : LWS D cy ad s g H) (hS : va_S (LA0 s) s.heap H locs) (hc : cells + 40 ≤ 400000) (hs : slots + 400 ≤ 4000000) {F B gn pr : Int32} (hl : lv_has ls 17 [(5, .int pr), (4, .int gn), (3, .int B), (2, .int F), (1, .ref (ad 0 0)), (0, .ref b)])  (hq : VC_E L xs g F B gn pr )
    (kend : ∀ (H1 : Heap) (locs1 : List Loc) (cells slots : Nat) (ls1 : Array Slot), va_S (LA0 s) s.heap H1 locs1 → cells ≤ 400000 → slots ≤ 4000000 → W p l e room_1 s m #[Value.ref b] below meth c H1 locs1 cells slots Q (F0 m 1453 ls1 [.int 1])) : W p l e room_1 s m #[Value.ref b] below meth c H locs cells slots Q (F0 m 1423 ls []) := by
  have hx := C.hx; have hb := C.hb; have hown := C.own; have hts := C.ts; have hml := C.ml; have hl0 := C.st
  unfold VC_E at hq
  refine lv_aload_n hx hb dL_law_1423 rfl (lv_at hl 4 rfl) ?_
  obtain ⟨hv_g, hq⟩ := hq
  obtain ⟨v1, g3, e2, hq⟩ := hq
  refine l_callCl (v := v1) (g2 := g3) (As := []) ⟨hx, hb, hml, hown, hts⟩ (met_Pl (kX6_digest l D cy hI g _  hv_g) e2) (cwV 0 hts gL_law_X6_digest rfl rfl rfl (by decide +kernel) ⟨Nat.le_of_ble_eq_true rfl, Nat.le_of_ble_eq_true rfl⟩) hB hL hS rfl hl.1 (Nat.le_of_ble_eq_true rfl) dL_law_1424 ⟨by refine Nat.le_trans (m := 400000) ?_ rc_c; show cells + _ ≤ 400000; omega, by refine Nat.le_trans (m := 4000000) ?_ rc_s; show slots + _ ≤ 4000000; omega⟩ (fun H locs hL hS => ?_)
  refine lv_lstore (lv' := [(6, .long v1), (5, .int pr), (4, .int gn), (3, .int B), (2, .int F), (1, .ref (ad 0 0)), (0, .ref b)]) hx hb dL_law_1427 hl (by decide) rfl (fun ls hl => ?_)
  refine lv_aload_n hx hb dL_law_1429 rfl (lv_at hl 5 rfl) ?_
  refine lv_iload_n hx hb dL_law_1430 rfl (lv_at hl 4 rfl) ?_
  refine lv_iload_n hx hb dL_law_1431 rfl (lv_at hl 3 rfl) ?_
  obtain ⟨hv_g3, hq⟩ := hq
  obtain ⟨hf4, hq⟩ := hq
  obtain ⟨hf5, hq⟩ := hq
  obtain ⟨v6, e7, hq⟩ := hq
  refine l_callS (v := v6) (g2 := g3) (As := .ref (ad 0 0) :: [.int F, .int B]) ⟨hx, hb, hml, hown, hts⟩ (met_V (kL_isSo l D cy hI g3 _ F B hv_g3 hf4 hf5) e7) (va_cwS 3 hts gL_law_L_isSo rfl rfl rfl (by decide +kernel) ⟨Nat.le_of_ble_eq_true rfl, Nat.le_of_ble_eq_true rfl⟩) hB hL hS rfl hl.1 (Nat.le_of_ble_eq_true rfl) dL_law_1432 ⟨by refine Nat.le_trans (m := 400000) ?_ rc_c; show cells + _ + _ ≤ 400000; omega, by refine Nat.le_trans (m := 4000000) ?_ rc_s; show slots + _ + _ ≤ 4000000; omega⟩ (fun H locs hL hS => ?_)
  refine lv_if_eq (tgt := 1452) hx hb dL_law_1435 (by decide) (fun c8 => ?_) (fun c8 => ?_)
  · skip
    have hq := hq.1 c8
    refine lv_iconst (v := 0) hx hb dL_law_1452 (by decide) ?_
    exact hq.elim
  · skip
    have hq := hq.2 c8
    refine lv_aload_n hx hb dL_law_1438 rfl (lv_at hl 5 rfl) ?_
    obtain ⟨v9, g11, e10, hq⟩ := hq
    refine l_callCl (v := v9) (g2 := g11) (As := []) ⟨hx, hb, hml, hown, hts⟩ (met_Pl (kX6_digest l D cy hI g3 _  hv_g3) e10) (cwV 0 hts gL_law_X6_digest rfl rfl rfl (by decide +kernel) ⟨Nat.le_of_ble_eq_true rfl, Nat.le_of_ble_eq_true rfl⟩) hB hL hS rfl hl.1 (Nat.le_of_ble_eq_true rfl) dL_law_1439 ⟨by refine Nat.le_trans (m := 400000) ?_ rc_c; show cells + _ + _ + _ ≤ 400000; omega, by refine Nat.le_trans (m := 4000000) ?_ rc_s; show slots + _ + _ + _ ≤ 4000000; omega⟩ (fun H locs hL hS => ?_)
    refine lv_lload hx hb dL_law_1442 (lv_at hl 0 rfl) ?_
    refine W.lcmp hx hb dL_law_1444 ?_
    refine lv_if_ne (tgt := 1452) hx hb dL_law_1445 (by decide) (fun c12 => ?_) (fun c12 => ?_)
    · skip
      have hq := hq.2 c12
      refine lv_iconst (v := 0) hx hb dL_law_1452 (by decide) ?_
      exact hq.elim
    · skip
      have hq := hq.1 c12
      refine lv_iconst (v := 1) hx hb dL_law_1448 (by decide) ?_
      refine lv_goto (tgt := 1453) hx hb dL_law_1449 (by decide) ?_
      exact kend _ _ _ _ _ hS (by omega) (by omega)
end SG
