/-! ===== the law's first rows ===== -/
/-- what the pure side owes -/
def PURE (L : Nat) (xs : Nat → Int32) (JF : Int32 → Nat → Gd → Prop) (JB : Int32 → Int32 → Nat → Gd → Prop) (J : Int32 → Int32 → Nat → Gd → Int32 → Int32 → Prop) : Prop :=
  VC_F L xs g0 (fun F => F.toInt ≤ 6 ∧ JF F 0 g0) ∧
  (∀ (F : Int32) (q : Nat) (g : Gd), q < 6 → JF F q g → nI q < F → VC_FM L xs g F (nI q) (JF F (q + 1))) ∧
  (∀ (F : Int32) (q : Nat) (g : Gd), JF F q g → F ≤ nI q → VC_B L xs g F (fun B => B.toInt ≤ 4 ∧ JB F B 0 g)) ∧
  (∀ (F B : Int32) (q : Nat) (g : Gd), q < 4 → JB F B q g → nI q < B → VC_BD L xs g F B (nI q) (JB F B (q + 1))) ∧
  (∀ (F B : Int32) (q : Nat) (g : Gd), JB F B q g → B ≤ nI q → J F B 0 g 0 5) ∧
  (∀ (F B : Int32) (t : Nat) (g : Gd) (gn pr : Int32), t < 76 → J F B t g gn pr → VT L xs g F B gn pr (nI t) (J F B (t + 1))) ∧
  (∀ (F B : Int32) (g : Gd) (gn pr : Int32), J F B 76 g gn pr → VC_E L xs g F B gn pr)
set_option maxRecDepth 100000 in
set_option maxHeartbeats 4000000 in
theorem st_O {s : State} {args : Array Value} (hts : ∀ w ∈ lw_tbl, w.before args s = true) : iO s :=
  ⟨va_AO.of (A := args) (hts _ (by decide +kernel)), va_AO.of (A := args) (hts _ (by decide +kernel)), va_AO.of (A := args) (hts _ (by decide +kernel)), va_AO.of (A := args) (hts _ (by decide +kernel)), va_AO.of (A := args) (hts _ (by decide +kernel)), trivial⟩
section WS
variable {p : Program} {l : Launch} {e : Env} {s : State} {m : MethodId} {below : List Frame} {meth : Method} {c : Code} {b L : Nat} {xs : Nat → Int32} {Q : State → Prop}
set_option maxRecDepth 100000 in
set_option maxHeartbeats 8000000 in
theorem law_begin (C : LC p l s m c b L xs) (hts : ∀ w ∈ lw_tbl, w.before #[Value.ref b] s = true) {D : va_G} {cy : Nat → ClassId} (hB : LWB D cy s)
    {JF : Int32 → Nat → Gd → Prop} {JB : Int32 → Int32 → Nat → Gd → Prop} {J : Int32 → Int32 → Nat → Gd → Int32 → Int32 → Prop} (hp : PURE L xs JF JB J)
    (kend : ∀ (H1 : Heap) (locs1 : List Loc) (cells slots : Nat) (ls1 : Array Slot), va_S (LA0 s) s.heap H1 locs1 → cells ≤ 400000 → slots ≤ 4000000 → W p l e room_1 s m #[Value.ref b] below meth c H1 locs1 cells slots Q (F0 m 1453 ls1 [.int 1]))
    {ls : Array Slot} (hl : lv_has ls 17 [(0, .ref b)]) : W p l e room_1 s m #[Value.ref b] below meth c s.heap [] 0 0 Q (F0 m 0 ls []) := by
  have hx := C.hx
  have hb := C.hb
  obtain ⟨p1, p2, p3, p4, p5, p6, p7⟩ := hp
  have hiB : iB D cy s := ⟨hB.k, hB.q, st_O hts⟩
  have hS : va_S (LA0 s) s.heap s.heap [] := va_S.rf
  refine q_new (T := TX6) (ci := 6) (fs := [.null, .null, .null, .null, .null, .null, .null, .int 0, .int 0, .int 0, .int 0, .int 0, .int 0, .int 0, .int 0, .int 0, .int 0, .int 0]) hx hb hts inX6 tyX6 tyX6_ok C.own (hts (.classLink RL 9 RX6) (by decide +kernel)) (hts (.instantiable RX6 18) (by decide +kernel)) (hts (.initialized RX6) (by decide +kernel)) hB.k hS rfl (fun j hj => by match j, hj with | 0, _ => rfl | 1, _ => rfl | 2, _ => rfl | 3, _ => rfl | 4, _ => rfl | 5, _ => rfl | 6, _ => rfl | 7, _ => rfl | 8, _ => rfl | 9, _ => rfl | 10, _ => rfl | 11, _ => rfl | 12, _ => rfl | 13, _ => rfl | 14, _ => rfl | 15, _ => rfl | 16, _ => rfl | 17, _ => rfl | k + 18, h => exact absurd h (by omega)) (Nat.le_of_ble_eq_true rfl) (Nat.le_of_ble_eq_true rfl) dL_law_0 (fun H1 hat z1 hk1 hS => ?_)
  refine lv_dup hx hb dL_law_3 rfl ?_
  refine va_callv (va_runI (As := []) (rest := [.ref s.heap.size]) (b := s.heap.size) ⟨hx, hb, C.ml, C.own, C.ts⟩ (kX6_init l D cy s.heap.size) (cwI 0 C.ts gL_law_X6_init rfl rfl rfl (hts (.initialized RX6) (by decide +kernel)) (hts (.methodLink RL 11 yX6_init) (by decide +kernel)) (hts (.instanceMethod yX6_init) (by decide +kernel)) rfl (by decide +kernel) ⟨Nat.le_of_ble_eq_true rfl, Nat.le_of_ble_eq_true rfl⟩) ⟨iP_blind, fun U hU hW => ⟨rfl, by rw [hU]; exact z1, hiB.warm hW, by rw [hU]; exact hat⟩⟩ rfl rfl hl.1 rfl (lv_room (Nat.le_of_ble_eq_true rfl)) dL_law_4 ⟨Nat.le_of_ble_eq_true rfl, Nat.le_of_ble_eq_true rfl⟩) hS (A0 := LA0 s) (fun q _ h => h) (fun q h => h) (fun u t H2 locs ht hvm hw hQ hz2 hk2 hS => ?_)
  rw [ht] at hQ
  have hF2 : FW D s.heap.size 130 (Lz cy s.heap.size 6 20 3 5 12) H2 := hQ
  have hC2 := cW_init hF2
  refine lv_astore_n (lv' := [(1, .ref s.heap.size), (0, .ref b)]) hx hb dL_law_7 rfl hl (by decide) rfl (fun ls hl => ?_)
  have hL2 : LWS D cy (adz s.heap.size) s g0 H2 := ⟨hC2, fun κ i hv => (adz_lt (z := s.heap.size) hv).1⟩
  have hI := adz_I s.heap.size
  refine W_F C hI hB hL2 hS (Nat.le_of_ble_eq_true rfl) (Nat.le_of_ble_eq_true rfl) hl p1 (fun F H locs ls hL hS hl hq => ?_)
  refine lv_iconst (v := 0) hx hb dL_law_21 (by decide) ?_
  refine lv_istore_n (lv' := [(3, .int 0), (2, .int F), (1, .ref (adz s.heap.size 0 0)), (0, .ref b)]) hx hb dL_law_22 rfl hl (by decide) rfl (fun ls hl => ?_)
  exact law_farms C hI hB (F := F) (JF := JF F) (JB := JB F) (J := J F) hq.1 (p2 F) (p3 F) (p4 F) (p5 F) (p6 F) (p7 F) kend 6 0 g0 H locs ls _ _ rfl (Nat.le_of_ble_eq_true rfl) (Nat.le_of_ble_eq_true rfl) hL hS hq.2 hl
end WS
