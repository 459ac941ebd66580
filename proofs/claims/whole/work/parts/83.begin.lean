/-! ===== the law's first rows ===== -/
theorem iZ_of {e0 b : Nat} {s U : State} {H1 : Heap} (h : va_Z "java/util/ArrayList" "DEFAULTCAPACITY_EMPTY_ELEMENTDATA" "[Ljava/lang/Object;" (.ref e0) (fun _ => False) s s.heap) (hb : s.heap.size ≤ b) (hvm : s.vm.Alike U.vm) (hk : ∀ q : Nat, q < s.heap.size → H1[q]? = s.heap[q]?) : iZ e0 b U H1 := by
  obtain ⟨cf, kf, fi, f, a, cell, q1, q2, q3, q4, q5, q6, q7, q8⟩ := h
  have ha : a < s.heap.size := (Array.getElem?_eq_some_iff.mp q5).1
  have h2 : iZ e0 b s H1 := ⟨cf, kf, fi, f, a, cell, q1, q2, q3, q4, by rw [hk a ha]; exact q5, q6, q7, fun z => by have : b ≤ a := z; omega⟩
  exact va_Z.moved hvm h2
set_option maxRecDepth 100000 in
set_option maxHeartbeats 4000000 in
theorem st_O {s : State} {args : Array Value} (hts : ∀ w ∈ lw_tbl, w.before args s = true) : iO s :=
  ⟨va_AO.of (A := args) (hts _ (by decide +kernel)), va_AO.of (A := args) (hts _ (by decide +kernel)), va_AO.of (A := args) (hts _ (by decide +kernel)), va_AO.of (A := args) (hts _ (by decide +kernel)), va_AO.of (A := args) (hts _ (by decide +kernel)), va_AOA.of (A := args) (hts _ (by decide +kernel))⟩
section WS
variable {p : Program} {l : Launch} {e : Env} {s : State} {m : MethodId} {below : List Frame} {meth : Method} {c : Code} {b L : Nat} {xs : Nat → Int32} {Q : State → Prop}
set_option maxRecDepth 100000 in
set_option maxHeartbeats 8000000 in
theorem law_begin (C : LC p l s m c b L xs) (hts : ∀ w ∈ lw_tbl, w.before #[Value.ref b] s = true) {D : va_G} {cy : Nat → ClassId} {e0 : Nat} (hB : LWB D cy e0 s)
    (kend : ∀ (H1 : Heap) (locs1 : List Loc) (cells slots : Nat) (ls1 : Array Slot), va_S (LA0 s) s.heap H1 locs1 → cells ≤ 400000 → slots ≤ 4000000 → W p l e room_1 s m #[Value.ref b] below meth c H1 locs1 cells slots Q (F0 m 2081 ls1 []))
    {ls : Array Slot} (hl : lv_has ls 9 [(0, .ref b)]) : W p l e room_1 s m #[Value.ref b] below meth c s.heap [] 0 0 Q (F0 m 0 ls []) := by
  have hx := C.hx
  have hb := C.hb
  have hiB : iB D cy s := ⟨hB.k, hB.q, st_O hts⟩
  have hS : va_S (LA0 s) s.heap s.heap [] := va_S.rf
  refine q_new (T := TX6) (ci := 8) (fs := [.null, .null, .null, .null, .null, .null, .null, .int 0, .int 0, .int 0, .int 0, .int 0, .int 0, .int 0, .int 0, .int 0, .int 0, .int 0]) hx hb hts inX6 tyX6 tyX6_ok C.own (hts (.classLink RL 8 RX6) (by decide +kernel)) (hts (.instantiable RX6 18) (by decide +kernel)) (hts (.initialized RX6) (by decide +kernel)) hB.k hS rfl (fun j hj => by match j, hj with | 0, _ => rfl | 1, _ => rfl | 2, _ => rfl | 3, _ => rfl | 4, _ => rfl | 5, _ => rfl | 6, _ => rfl | 7, _ => rfl | 8, _ => rfl | 9, _ => rfl | 10, _ => rfl | 11, _ => rfl | 12, _ => rfl | 13, _ => rfl | 14, _ => rfl | 15, _ => rfl | 16, _ => rfl | 17, _ => rfl | k + 18, h => exact absurd h (by omega)) (Nat.le_of_ble_eq_true rfl) (Nat.le_of_ble_eq_true rfl) dL_law_0 (fun H1 hat z1 hk1 hS => ?_)
  refine lv_dup hx hb dL_law_3 rfl ?_
  refine va_callv (va_runI (As := []) (rest := [.ref s.heap.size]) (b := s.heap.size) ⟨hx, hb, C.ml, C.own, C.ts⟩ (kX6_init l D cy s.heap.size) (cwI 0 C.ts gL_law_X6_init rfl rfl rfl (hts (.initialized RX6) (by decide +kernel)) (hts (.methodLink RL 99 yX6_init) (by decide +kernel)) (hts (.instanceMethod yX6_init) (by decide +kernel)) rfl (by decide +kernel) ⟨Nat.le_of_ble_eq_true rfl, Nat.le_of_ble_eq_true rfl⟩) ⟨iP_blind, fun U hU hW => ⟨rfl, by rw [hU]; exact z1, hiB.warm hW, by rw [hU]; exact hat⟩⟩ rfl rfl hl.1 rfl (lv_room (Nat.le_of_ble_eq_true rfl)) dL_law_4 ⟨Nat.le_of_ble_eq_true rfl, Nat.le_of_ble_eq_true rfl⟩) hS (A0 := LA0 s) (fun q _ h => h) (fun q h => h) (fun u t H2 locs ht hvm hw hQ hz2 hk2 hS => ?_)
  rw [ht] at hQ
  have hF2 : FW D s.heap.size 130 (Lz cy s.heap.size 6 20 3 5 12) H2 := hQ
  have hC2 := cW_init hF2
  have z2 : H2.size = s.heap.size + 130 := hF2.1
  refine lv_astore_n (lv' := [(1, .ref s.heap.size), (0, .ref b)]) hx hb dL_law_7 rfl hl (by decide) rfl (fun ls hl => ?_)
  refine q_new (T := TX7) (ci := 9) (fs := [.int 0, .null, .null, .null, .null, .null, .null, .null, .int 0, .int 0, .int 0, .int 0, .int 0, .int 0, .int 0, .long 0]) hx hb hts inX7 tyX7 tyX7_ok C.own (hts (.classLink RL 100 RX7) (by decide +kernel)) (hts (.instantiable RX7 16) (by decide +kernel)) (hts (.initialized RX7) (by decide +kernel)) hB.k hS rfl (fun j hj => by match j, hj with | 0, _ => rfl | 1, _ => rfl | 2, _ => rfl | 3, _ => rfl | 4, _ => rfl | 5, _ => rfl | 6, _ => rfl | 7, _ => rfl | 8, _ => rfl | 9, _ => rfl | 10, _ => rfl | 11, _ => rfl | 12, _ => rfl | 13, _ => rfl | 14, _ => rfl | 15, _ => rfl | k + 16, h => exact absurd h (by omega)) (Nat.le_of_ble_eq_true rfl) (Nat.le_of_ble_eq_true rfl) dL_law_8 (fun H3 hat3 z3 hk3 hS => ?_)
  refine lv_dup hx hb dL_law_11 rfl ?_
  have hF3 : FL D H2.size ([] ++ [.inr (9, [.int 0, .null, .null, .null, .null, .null, .null, .null, .int 0, .int 0, .int 0, .int 0, .int 0, .int 0, .int 0, .long 0])]) H3 := FL.one z3 hat3
  refine f_callI (z := H2.size) (l0 := []) (b := H2.size) (rest := [.ref H2.size]) ⟨hx, hb, C.ml, C.own, C.ts⟩ (kX7_init l D cy e0 H2.size) (cwI 0 C.ts gL_law_X7_init rfl rfl rfl (hts (.initialized RX7) (by decide +kernel)) (hts (.methodLink RL 102 yX7_init) (by decide +kernel)) (hts (.instanceMethod yX7_init) (by decide +kernel)) rfl (by decide +kernel) ⟨Nat.le_of_ble_eq_true rfl, Nat.le_of_ble_eq_true rfl⟩) iPz_blind (fun U hU hW => ⟨iP_mk (l0 := []) hiB hF3 rfl hU hW, by rw [hU]; exact iZ_of hB.x.1 (by omega) hW.alike (fun q hq => hS.2.1 q hq (LA0_no hq))⟩) hF3 rfl hS (fun q hq => by show s.heap.size ≤ q; have hq : H2.size ≤ q := hq; omega) hl.1 (Nat.le_of_ble_eq_true rfl) dL_law_12 ⟨Nat.le_of_ble_eq_true rfl, Nat.le_of_ble_eq_true rfl⟩ (fun H4 locs hF4 hk4 hS => ?_)
  have hF4 : FL D H2.size [.inr (9, [.int 0, .ref (H2.size + 1), .ref (H2.size + 2), .ref (H2.size + 3), .ref (H2.size + 7), .ref (H2.size + 8), .ref (H2.size + 9), .ref (H2.size + 22), .int 0, .int 0, .int 5, .int 0, .int 0, .int 0, .int 0, .long 0]), .inr (1, [.int 0, .ref e0, .int 0]), .inr (1, [.int 0, .ref e0, .int 0]), .inl (cy 8, (3, q_opt (fun i => if i < 3 then some (H2.size + 4 + i) else none))), .inl (cy 0, (23, q_ints (fun _ => 0))), .inl (cy 0, (23, q_ints (fun _ => 0))), .inl (cy 0, (23, q_ints (fun _ => 0))), .inr (1, [.int 0, .ref e0, .int 0]), .inr (1, [.int 0, .ref e0, .int 0]), .inl (cy 8, (12, q_opt (fun i => if i < 12 then some (H2.size + 10 + i) else none))), .inl (cy 0, (3, q_ints (fun _ => 0))), .inl (cy 0, (3, q_ints (fun _ => 0))), .inl (cy 0, (3, q_ints (fun _ => 0))), .inl (cy 0, (3, q_ints (fun _ => 0))), .inl (cy 0, (3, q_ints (fun _ => 0))), .inl (cy 0, (3, q_ints (fun _ => 0))), .inl (cy 0, (3, q_ints (fun _ => 0))), .inl (cy 0, (3, q_ints (fun _ => 0))), .inl (cy 0, (3, q_ints (fun _ => 0))), .inl (cy 0, (3, q_ints (fun _ => 0))), .inl (cy 0, (3, q_ints (fun _ => 0))), .inl (cy 0, (3, q_ints (fun _ => 0))), .inl (cy 0, (3, q_ints (fun _ => 0)))] H4 := hF4
  have hM4 := mW_init hF4
  have z4 : H4.size = H2.size + 23 := hF4.1
  refine lv_astore_n (lv' := [(2, .ref H2.size), (1, .ref s.heap.size), (0, .ref b)]) hx hb dL_law_15 rfl hl (by decide) rfl (fun ls hl => ?_)
  refine lv_iconst (v := 1) hx hb dL_law_16 (by decide) ?_
  refine q_newl hx hb (hts (.arrayClass .long) (by decide +kernel)) hB.k hS 1 (by decide) (by decide) (by decide) ⟨Nat.le_of_ble_eq_true rfl, Nat.le_of_ble_eq_true rfl⟩ dL_law_17 (fun H5 hat5 z5 hk5 hS => ?_)
  refine lv_astore_n (lv' := [(3, .ref H4.size), (2, .ref H2.size), (1, .ref s.heap.size), (0, .ref b)]) hx hb dL_law_19 rfl hl (by decide) rfl (fun ls hl => ?_)
  refine lv_iconst (v := 0) hx hb dL_law_20 (by decide) ?_
  refine lv_istore (lv' := [(4, .int 0), (3, .ref H4.size), (2, .ref H2.size), (1, .ref s.heap.size), (0, .ref b)]) hx hb dL_law_21 hl (by decide) rfl (fun ls hl => ?_)
  have hC5 : CW D cy (adz s.heap.size) g0 H5 := hC2.kept (fun κ i hv => by
    have := adz_lt (z := s.heap.size) hv
    exact ((hk5 _ (by omega)).trans (hk4 _ (by omega))).trans (hk3 _ (by omega)))
  have hM5 : MW D cy (bdz e0 H2.size) w0 m0 0 H5 := hM4.kept (fun κ i hv => hk5 _ (by have := bdz_lt (e0 := e0) (z := H2.size) hv; omega))
  have hL5 : LWS D cy (adz s.heap.size) H4.size e0 s g0 0 (bdz e0 H2.size) w0 m0 0 H5 := by
    refine ⟨⟨hC5, hat5⟩, hM5, fun κ i hv => ?_, fun κ i κ' i' hv hv' => ?_, fun κ i hv => ?_, fun κ i hv => ?_, ?_, fun κ i hv => ?_, fun _ _ _ => rfl⟩
    · have := adz_lt (z := s.heap.size) hv; omega
    · have := adz_lt (z := s.heap.size) hv; have := bdz_lt (e0 := e0) (z := H2.size) hv'; omega
    · have := bdz_lt (e0 := e0) (z := H2.size) hv; omega
    · have := adz_lt (z := s.heap.size) hv; omega
    · omega
    · have := bdz_lt (e0 := e0) (z := H2.size) hv; omega
  refine law_loop C (adz_I s.heap.size) hB kend 513 0 g0 0 (bdz e0 H2.size) w0 m0 0 H5 locs ls _ _ ?_ ?_ (Nat.le_of_ble_eq_true rfl) (Nat.le_of_ble_eq_true rfl) (Nat.le_of_ble_eq_true rfl) (Nat.le_of_ble_eq_true rfl) hL5 RS_0 hS rfl (lv_sub hl [0, 4, 3, 2, 1] rfl)
  · have := C.le; omega
  · omega
end WS
