/-! ===== the class's constructor: its cells lie one behind another from z: the object, five arrays, the trial lot (5), the biases, farms, baskets, tanks (4 each), beds (4), lots (5) ===== -/
abbrev eF : va_E := .inr (2, [.int 0, .int (-1), .int 0, .int 0])
abbrev eB : va_E := .inr (0, [.int 0, .int 0, .int 0, .int 0, .int 0, .int 0])
abbrev eM (a : Nat) : va_E := .inr (4, [.ref (a + 1), .ref (a + 2), .int 0, .int 0])
abbrev eT (a : Nat) : va_E := .inr (5, [.ref (a + 1), .int 0, .int 0])
abbrev eD (a : Nat) : va_E := .inr (1, [.ref (a + 1), .int 0, .int 0, .int 0, .int 0, .int 0, .int 0, .int 0])
abbrev eL (a : Nat) : va_E := .inr (3, [.ref (a + 1), .ref (a + 4), .int 0, .int 0, .int 0, .int 0, .int 0, .int 0])
abbrev eI (cy : Nat → ClassId) (n : Nat) (v : Int32) : va_E := .inl (cy 0, (n, q_ints (fun _ => v)))
abbrev eS (z : Nat) : va_E := .inr (6, [.ref (z + 1), .ref (z + 2), .ref (z + 3), .ref (z + 4), .ref (z + 5), .ref (z + 6), .ref (z + 11), .int 0, .int 0, .int 0, .int 0, .int 0, .int 0, .int 5, .int 0, .int 0, .int 0, .int 0])
abbrev eA (cA : ClassId) (n a st m : Nat) : va_E := .inl (cA, (n, q_opt (fun k => if k < m then some (a + st * k) else none)))
def e4 (cy : Nat → ClassId) (x : Nat → va_E) (a r : Nat) : va_E := match r with
  | 0 => x a
  | 1 => eM a
  | _ => eI cy 6 0
def e5 (cy : Nat → ClassId) (a r : Nat) : va_E := match r with
  | 0 => eL a
  | 1 => eM a
  | 4 => eI cy 3 (-1)
  | _ => eI cy 6 0
def Lz (cy : Nat → ClassId) (z n1 n2 n3 n4 n5 j : Nat) : va_E :=
  if j = 0 then eS z else if j = 1 then eA (cy 1) 6 (z + 12) 1 n1 else if j = 2 then eA (cy 2) 20 (z + 18) 1 n2 else if j = 3 then eA (cy 3) 3 (z + 38) 4 n3 else if j = 4 then eA (cy 4) 5 (z + 50) 4 n4 else if j = 5 then eA (cy 5) 12 (z + 70) 5 n5
  else if j < 11 then e5 cy (z + j) (j - 6) else if j = 11 then eI cy 3 0 else if j < 18 then eF else if j < 38 then eB else if j < 50 then e4 cy eT (z + j) ((j - 38) % 4) else if j < 70 then e4 cy eD (z + j) ((j - 50) % 4) else e5 cy (z + j) ((j - 70) % 5)
section LZ
variable {cy : Nat → ClassId} {z n1 n2 n3 n4 n5 n : Nat}
theorem Lz_1 {j : Nat} (h : j ≠ 1) : Lz cy z n n2 n3 n4 n5 j = Lz cy z n1 n2 n3 n4 n5 j := by
  unfold Lz
  rw [if_neg h, if_neg h]
theorem Lz_2 {j : Nat} (h : j ≠ 2) : Lz cy z n1 n n3 n4 n5 j = Lz cy z n1 n2 n3 n4 n5 j := by
  unfold Lz
  rw [if_neg h, if_neg h]
theorem Lz_3 {j : Nat} (h : j ≠ 3) : Lz cy z n1 n2 n n4 n5 j = Lz cy z n1 n2 n3 n4 n5 j := by
  unfold Lz
  rw [if_neg h, if_neg h]
theorem Lz_4 {j : Nat} (h : j ≠ 4) : Lz cy z n1 n2 n3 n n5 j = Lz cy z n1 n2 n3 n4 n5 j := by
  unfold Lz
  rw [if_neg h, if_neg h]
theorem Lz_5 {j : Nat} (h : j ≠ 5) : Lz cy z n1 n2 n3 n4 n j = Lz cy z n1 n2 n3 n4 n5 j := by
  unfold Lz
  rw [if_neg h, if_neg h]
theorem Lz_F {i : Nat} (h : i < 6) : Lz cy z n1 n2 n3 n4 n5 (12 + i) = eF := by
  unfold Lz
  rw [if_neg (show ¬ (12 + i = 0) by omega), if_neg (show ¬ (12 + i = 1) by omega), if_neg (show ¬ (12 + i = 2) by omega), if_neg (show ¬ (12 + i = 3) by omega), if_neg (show ¬ (12 + i = 4) by omega), if_neg (show ¬ (12 + i = 5) by omega), if_neg (show ¬ (12 + i < 11) by omega), if_neg (show ¬ (12 + i = 11) by omega), if_pos (show 12 + i < 18 by omega)]
theorem Lz_B {i : Nat} (h : i < 20) : Lz cy z n1 n2 n3 n4 n5 (18 + i) = eB := by
  unfold Lz
  rw [if_neg (show ¬ (18 + i = 0) by omega), if_neg (show ¬ (18 + i = 1) by omega), if_neg (show ¬ (18 + i = 2) by omega), if_neg (show ¬ (18 + i = 3) by omega), if_neg (show ¬ (18 + i = 4) by omega), if_neg (show ¬ (18 + i = 5) by omega), if_neg (show ¬ (18 + i < 11) by omega), if_neg (show ¬ (18 + i = 11) by omega), if_neg (show ¬ (18 + i < 18) by omega), if_pos (show 18 + i < 38 by omega)]
theorem Lz_T {i c : Nat} (h : i < 3) (hc : c < 4) : Lz cy z n1 n2 n3 n4 n5 (38 + 4 * i + c) = e4 cy eT (z + (38 + 4 * i + c)) c := by
  unfold Lz
  rw [if_neg (show ¬ (38 + 4 * i + c = 0) by omega), if_neg (show ¬ (38 + 4 * i + c = 1) by omega), if_neg (show ¬ (38 + 4 * i + c = 2) by omega), if_neg (show ¬ (38 + 4 * i + c = 3) by omega), if_neg (show ¬ (38 + 4 * i + c = 4) by omega), if_neg (show ¬ (38 + 4 * i + c = 5) by omega), if_neg (show ¬ (38 + 4 * i + c < 11) by omega), if_neg (show ¬ (38 + 4 * i + c = 11) by omega), if_neg (show ¬ (38 + 4 * i + c < 18) by omega), if_neg (show ¬ (38 + 4 * i + c < 38) by omega), if_pos (show 38 + 4 * i + c < 50 by omega), show (38 + 4 * i + c - 38) % 4 = c by omega]
theorem Lz_D {i c : Nat} (h : i < 5) (hc : c < 4) : Lz cy z n1 n2 n3 n4 n5 (50 + 4 * i + c) = e4 cy eD (z + (50 + 4 * i + c)) c := by
  unfold Lz
  rw [if_neg (show ¬ (50 + 4 * i + c = 0) by omega), if_neg (show ¬ (50 + 4 * i + c = 1) by omega), if_neg (show ¬ (50 + 4 * i + c = 2) by omega), if_neg (show ¬ (50 + 4 * i + c = 3) by omega), if_neg (show ¬ (50 + 4 * i + c = 4) by omega), if_neg (show ¬ (50 + 4 * i + c = 5) by omega), if_neg (show ¬ (50 + 4 * i + c < 11) by omega), if_neg (show ¬ (50 + 4 * i + c = 11) by omega), if_neg (show ¬ (50 + 4 * i + c < 18) by omega), if_neg (show ¬ (50 + 4 * i + c < 38) by omega), if_neg (show ¬ (50 + 4 * i + c < 50) by omega), if_pos (show 50 + 4 * i + c < 70 by omega), show (50 + 4 * i + c - 50) % 4 = c by omega]
theorem Lz_L {i c : Nat} (hc : c < 5) : Lz cy z n1 n2 n3 n4 n5 (70 + 5 * i + c) = e5 cy (z + (70 + 5 * i + c)) c := by
  unfold Lz
  rw [if_neg (show ¬ (70 + 5 * i + c = 0) by omega), if_neg (show ¬ (70 + 5 * i + c = 1) by omega), if_neg (show ¬ (70 + 5 * i + c = 2) by omega), if_neg (show ¬ (70 + 5 * i + c = 3) by omega), if_neg (show ¬ (70 + 5 * i + c = 4) by omega), if_neg (show ¬ (70 + 5 * i + c = 5) by omega), if_neg (show ¬ (70 + 5 * i + c < 11) by omega), if_neg (show ¬ (70 + 5 * i + c = 11) by omega), if_neg (show ¬ (70 + 5 * i + c < 18) by omega), if_neg (show ¬ (70 + 5 * i + c < 38) by omega), if_neg (show ¬ (70 + 5 * i + c < 50) by omega), if_neg (show ¬ (70 + 5 * i + c < 70) by omega), show (70 + 5 * i + c - 70) % 5 = c by omega]
end LZ
def FW (D : va_G) (z n : Nat) (L : Nat → va_E) (H : Heap) : Prop := H.size = z + n ∧ ∀ j : Nat, j < n → va_at D vwCl (z + j, L j) H
theorem FW.grow {D : va_G} {z n k ta : Nat} {L L' : Nat → va_E} {l1 : List va_E} {H H3 : Heap} (h : FW D z n L H) (hF : FL D (z + n) l1 H3) (hk : l1.length = k) (hold : ∀ j : Nat, j ≠ ta → L' j = L j) (hat : va_at D vwCl (z + ta, L' ta) H3) (hnew : ∀ (c : Nat) (x : va_E), l1[c]? = some x → L' (n + c) = x) (hkept : ∀ j : Nat, j < n → j ≠ ta → H3[z + j]? = H[z + j]?) : FW D z (n + k) L' H3 := by
  refine ⟨by rw [hF.1, hk]; omega, fun j hj => ?_⟩
  by_cases e : j = ta
  · subst e; exact hat
  · by_cases hn : j < n
    · rw [hold j e]
      exact (h.2 j hn).kept (hkept j hn e)
    · have hc : j - n < l1.length := by omega
      have q := hF.2 (j - n) _ (List.getElem?_eq_getElem hc)
      have e1 := hnew (j - n) _ (List.getElem?_eq_getElem hc)
      rw [show n + (j - n) = j by omega] at e1
      rw [show z + n + (j - n) = z + j by omega, ← e1] at q
      exact q
theorem any_cl {s : State} {H : Heap} {D : va_G} {tys : List (ClassId × FieldType)} {v ci : Nat} {fs : List Value} {r : vw_C} (hK : va_K D vwCl tys s) (hat : va_at D vwCl (v, .inr (ci, fs)) H) (hc : vwCl[ci]? = some r) : va_Any r.1 s H v :=
  va_rAny hK (q_one hat) (q0 := 0) rfl hc (fun comp c0 h1 h2 => by
    have e : comp = c0 := Option.some.inj (h1.symm.trans h2)
    have e2 : c0 = D.1 ci := Option.some.inj (h2.symm.trans (hK.1 ci r hc).2.1)
    subst e; subst e2
    exact va_assign (hK.1 ci r hc).2)
theorem arr_up {a st i j v : Nat} (hv : v = a + st * i) : va_up (fun k => if k < i then some (a + st * k) else none) i (some v) j = if j < i + 1 then some (a + st * j) else none := by
  subst hv
  unfold va_up
  by_cases e : j = i
  · subst e
    rw [if_pos rfl, if_pos (Nat.lt_succ_self _)]
  · rw [if_neg e]
    show (if j < i then some (a + st * j) else none) = _
    by_cases h : j < i
    · rw [if_pos h, if_pos (Nat.lt_succ_of_lt h)]
    · rw [if_neg h, if_neg (show ¬ j < i + 1 by omega)]
theorem ge_no {i N : Nat} (h : i < N) (hN : N ≤ 1000) {y : Int32} (hy : y = nI N) : ¬ y ≤ nI i := by
  subst hy
  rw [Int32.le_iff_toInt_le, nI_toInt (by omega), nI_toInt (by omega)]
  omega
theorem N_X6_init_X6 : ∀ w ∈ wsX60, w ∈ wsX6_init := (fun _ h => (List.mem_cons_of_mem _ (List.mem_append_left _ (List.mem_append_left _ (List.mem_append_left _ (List.mem_append_left _ (List.mem_append_left _ (List.mem_append_left _ (List.mem_append_right _ h)))))))))
theorem N_X6_init_X3 : ∀ w ∈ wsX30, w ∈ wsX6_init := (fun _ h => (List.mem_cons_of_mem _ (List.mem_append_left _ (List.mem_append_left _ (List.mem_append_left _ (List.mem_append_left _ (List.mem_append_left _ (List.mem_append_right _ h))))))))
theorem N_X6_init_X2 : ∀ w ∈ wsX20, w ∈ wsX6_init := (fun _ h => (List.mem_cons_of_mem _ (List.mem_append_left _ (List.mem_append_left _ (List.mem_append_left _ (List.mem_append_left _ (List.mem_append_right _ h)))))))
theorem N_X6_init_X0 : ∀ w ∈ wsX00, w ∈ wsX6_init := (fun _ h => (List.mem_cons_of_mem _ (List.mem_append_left _ (List.mem_append_left _ (List.mem_append_left _ (List.mem_append_right _ h))))))
theorem N_X6_init_X5 : ∀ w ∈ wsX50, w ∈ wsX6_init := (fun _ h => (List.mem_cons_of_mem _ (List.mem_append_left _ (List.mem_append_left _ (List.mem_append_right _ h)))))
theorem N_X6_init_X1 : ∀ w ∈ wsX10, w ∈ wsX6_init := (fun _ h => (List.mem_cons_of_mem _ (List.mem_append_left _ (List.mem_append_right _ h))))
theorem N_X6_init_X4 : ∀ w ∈ wsX40, w ∈ wsX6_init := (fun _ h => (List.mem_cons_of_mem _ (List.mem_append_right _ h)))
section IL
variable {p : Program} {l : Launch} {e : Env} {s : State} {m : MethodId} {args : Array Value} {below : List Frame} {meth : Method} {c : Code} {Q : State → Prop} {D : va_G} {cy : Nat → ClassId} {z : Nat} {H0 : Heap}
set_option maxRecDepth 100000 in
set_option maxHeartbeats 4000000 in
theorem loop6_1 (hx : p.tables.exec = Jvm.exec) (hb : c.code = cX6_init) (hml : c.maxLocals = 2) (hts : ∀ w ∈ wsX6_init, w.before args s = true) (hown : s.vm.findClass RX6 = some m.cls) (hB : iB D cy s)
    (kend : ∀ (H : Heap) (locs : List Loc) (ls : Array Slot), FW D z 18 (Lz cy z 6 0 0 0 0) H → va_S (iA z) H0 H locs → lv_has ls 2 [(1, .int (nI 6)), (0, .ref z)] → W p l e ({ frames := 3, cells := 129, slots := 721, locals := 52 } : Room) s m args below meth c H locs 17 100 Q (F0 m 147 ls [])) :
    ∀ (n i : Nat) (H : Heap) (locs : List Loc) (ls : Array Slot) (cells slots : Nat), i + n = 6 → cells = (11 + i) → slots = (76 + 4 * i) → FW D z (12 + i) (Lz cy z i 0 0 0 0) H → va_S (iA z) H0 H locs → lv_has ls 2 [(1, .int (nI i)), (0, .ref z)] → W p l e ({ frames := 3, cells := 129, slots := 721, locals := 52 } : Room) s m args below meth c H locs cells slots Q (F0 m 122 ls []) := by
  intro n
  induction n with
  | zero =>
    intro i H locs ls cells slots hn hc hs hF hS hl
    have e : i = 6 := by omega
    subst e; subst hc; subst hs
    refine lv_iload_n hx hb dX6_init_122 rfl (lv_at hl 0 rfl) ?_
    refine lv_bipush (v := 6) hx hb dX6_init_123 (by decide) ?_
    refine lv_icmp_ge (tgt := 147) hx hb dX6_init_125 (by decide) (fun _ => ?_) (fun hg => absurd (by decide) hg)
    exact kend H locs ls hF hS hl
  | succ n ih =>
    intro i H locs ls cells slots hn hc hs hF hS hl
    have hi : i < 6 := by omega
    refine lv_iload_n hx hb dX6_init_122 rfl (lv_at hl 0 rfl) ?_
    refine lv_bipush (v := 6) hx hb dX6_init_123 (by decide) ?_
    refine lv_icmp_ge (tgt := 147) hx hb dX6_init_125 (by decide) (fun hg => absurd hg (ge_no hi (by decide) rfl)) (fun _ => ?_)
    refine lv_aload_n hx hb dX6_init_128 rfl (lv_at hl 1 rfl) ?_
    have h0 : va_at D vwCl (z, eS z) H := hF.2 0 (by omega)
    refine q_get hx hb hts N_X6_init_X6 hown hB.1 h0 rfl 0 (by decide) (List.mem_of_getElem? (i := 5) rfl) rfl rfl dX6_init_129 ?_
    refine lv_iload_n hx hb dX6_init_132 rfl (lv_at hl 0 rfl) ?_
    have hsz : H.size = z + (12 + i) := hF.1
    refine q_new (T := TX2) (ci := 2) (fs := [.int 0, .int 0, .int 0, .int 0]) hx hb hts N_X6_init_X2 tyX2 tyX2_ok hown (hts (.classLink RX6 9 RX2) (List.mem_of_getElem? (i := 4) rfl)) (hts (.instantiable RX2 4) (List.mem_of_getElem? (i := 30) rfl)) (hts (.initialized RX2) (List.mem_of_getElem? (i := 31) rfl)) hB.1 hS rfl (fun j hj => by match j, hj with | 0, _ => rfl | 1, _ => rfl | 2, _ => rfl | 3, _ => rfl) (by show _ ≤ 129; omega) (by show _ ≤ 721; omega) dX6_init_133 (fun H1 hat z1 hk1 hS => ?_)
    refine lv_dup hx hb dX6_init_136 rfl ?_
    have hF1 : FL D H.size ([] ++ [.inr (2, [.int 0, .int 0, .int 0, .int 0])]) H1 := FL.one z1 hat
    refine f_callN (z := H.size) (l0 := []) (b := H.size) (rest := [.ref H.size, .int (nI i), .ref (z + 1)]) ⟨hx, hb, hml, hown, hts⟩ (kX2_init l D cy H.size) ⟨va_cnB 0 hts gX6_init_X2_init_n82 rfl rfl rfl (hB.2.1.1 _ (List.mem_of_getElem? (i := 1) rfl)) (hts (.initialized RX2) (List.mem_of_getElem? (i := 31) rfl)) (by decide +kernel) ⟨Nat.le_of_ble_eq_true rfl, Nat.le_of_ble_eq_true rfl⟩, rfl, hts (.instanceMethod yX2_init) (List.mem_of_getElem? (i := 59) rfl)⟩ iP_blind (fun U hU hW => iP_mk (l0 := []) hB hF1 rfl hU hW) hF1 rfl hS (fun q hq => by show z ≤ q; have hq : H.size ≤ q := hq; omega) hl.1 (Nat.le_of_ble_eq_true rfl) dX6_init_137 ⟨by show _ ≤ 129; omega, by show _ ≤ 721; omega⟩ (fun H2 locs hF2 hk2 hS => ?_)
    have hF2 : FL D H.size [.inr (2, [.int 0, .int (-1), .int 0, .int 0])] H2 := hF2
    have hA : va_at D vwCl (z + 1, eA (cy 1) 6 (z + 12) 1 i) H2 := va_at.kept (q := (z + 1, _)) (show va_at D vwCl (z + 1, eA (cy 1) 6 (z + 12) 1 i) H from hF.2 1 (by omega)) ((hk2 (z + 1) (by omega)).trans (hk1 (z + 1) (by omega)))
    have hO : va_at D vwCl (H.size, .inr (2, [.int 0, .int (-1), .int 0, .int 0])) H2 := hF2.2 0 _ rfl
    refine q_ast hx hb hB.1 1 (v := H.size) (k := i) hA hS (show z ≤ z + 1 by omega) rfl (any_cl hB.1 hO rfl) (nk_clamp hi (by decide)) (nk_in hi (by decide)) dX6_init_140 (fun H3 locs hA3 z3 hk3 hS => ?_)
    refine lv_iinc (v := nI (i + 1)) (lv' := [(1, .int (nI (i + 1))), (0, .ref z)]) hx hb dX6_init_141 hl (k := 0) rfl (nI_1 i) (by decide) rfl (fun ls hl => ?_)
    refine lv_goto (tgt := 122) hx hb dX6_init_144 (by decide) ?_
    have hA4 : va_at D vwCl (z + 1, eA (cy 1) 6 (z + 12) 1 (i + 1)) H3 := at_q hA3 (fun j hj => arr_up (by rw [hsz]; omega))
    have hF3 : FL D (z + (12 + i)) [.inr (2, [.int 0, .int (-1), .int 0, .int 0])] H3 := by
      rw [← hsz]
      refine ⟨z3.trans hF2.1, fun j x hx => (hF2.2 j x hx).kept (hk3 _ (by show H.size + j ≠ z + 1; omega))⟩
    have e1 : z + (12 + i) = H.size := hsz.symm
    refine ih (i + 1) H3 locs ls _ _ (by omega) (by rw [hc]; omega) (by rw [hs]; omega) ?_ hS hl
    rw [show 12 + (i + 1) = 12 + i + 1 by omega]
    refine hF.grow (ta := 1) hF3 rfl (fun j hj => Lz_1 hj) hA4 (fun c x hx => ?_) (fun j hj hne => ((hk3 _ (show z + j ≠ z + 1 by omega)).trans (hk2 _ (by omega))).trans (hk1 _ (by omega)))
    match c, hx with
    | 0, hx =>
      cases hx
      try rw [← e1]
      exact Lz_F hi
    | c + 1, hx => simp at hx
set_option maxRecDepth 100000 in
set_option maxHeartbeats 4000000 in
theorem loop6_2 (hx : p.tables.exec = Jvm.exec) (hb : c.code = cX6_init) (hml : c.maxLocals = 2) (hts : ∀ w ∈ wsX6_init, w.before args s = true) (hown : s.vm.findClass RX6 = some m.cls) (hB : iB D cy s)
    (kend : ∀ (H : Heap) (locs : List Loc) (ls : Array Slot), FW D z 38 (Lz cy z 6 20 0 0 0) H → va_S (iA z) H0 H locs → lv_has ls 2 [(1, .int (nI 20)), (0, .ref z)] → W p l e ({ frames := 3, cells := 129, slots := 721, locals := 52 } : Room) s m args below meth c H locs 37 220 Q (F0 m 174 ls [])) :
    ∀ (n i : Nat) (H : Heap) (locs : List Loc) (ls : Array Slot) (cells slots : Nat), i + n = 20 → cells = (17 + i) → slots = (100 + 6 * i) → FW D z (18 + i) (Lz cy z 6 i 0 0 0) H → va_S (iA z) H0 H locs → lv_has ls 2 [(1, .int (nI i)), (0, .ref z)] → W p l e ({ frames := 3, cells := 129, slots := 721, locals := 52 } : Room) s m args below meth c H locs cells slots Q (F0 m 149 ls []) := by
  intro n
  induction n with
  | zero =>
    intro i H locs ls cells slots hn hc hs hF hS hl
    have e : i = 20 := by omega
    subst e; subst hc; subst hs
    refine lv_iload_n hx hb dX6_init_149 rfl (lv_at hl 0 rfl) ?_
    refine lv_bipush (v := 20) hx hb dX6_init_150 (by decide) ?_
    refine lv_icmp_ge (tgt := 174) hx hb dX6_init_152 (by decide) (fun _ => ?_) (fun hg => absurd (by decide) hg)
    exact kend H locs ls hF hS hl
  | succ n ih =>
    intro i H locs ls cells slots hn hc hs hF hS hl
    have hi : i < 20 := by omega
    refine lv_iload_n hx hb dX6_init_149 rfl (lv_at hl 0 rfl) ?_
    refine lv_bipush (v := 20) hx hb dX6_init_150 (by decide) ?_
    refine lv_icmp_ge (tgt := 174) hx hb dX6_init_152 (by decide) (fun hg => absurd hg (ge_no hi (by decide) rfl)) (fun _ => ?_)
    refine lv_aload_n hx hb dX6_init_155 rfl (lv_at hl 1 rfl) ?_
    have h0 : va_at D vwCl (z, eS z) H := hF.2 0 (by omega)
    refine q_get hx hb hts N_X6_init_X6 hown hB.1 h0 rfl 1 (by decide) (List.mem_of_getElem? (i := 7) rfl) rfl rfl dX6_init_156 ?_
    refine lv_iload_n hx hb dX6_init_159 rfl (lv_at hl 0 rfl) ?_
    have hsz : H.size = z + (18 + i) := hF.1
    refine q_new (T := TX0) (ci := 0) (fs := [.int 0, .int 0, .int 0, .int 0, .int 0, .int 0]) hx hb hts N_X6_init_X0 tyX0 tyX0_ok hown (hts (.classLink RX6 15 RX0) (List.mem_of_getElem? (i := 6) rfl)) (hts (.instantiable RX0 6) (List.mem_of_getElem? (i := 32) rfl)) (hts (.initialized RX0) (List.mem_of_getElem? (i := 33) rfl)) hB.1 hS rfl (fun j hj => by match j, hj with | 0, _ => rfl | 1, _ => rfl | 2, _ => rfl | 3, _ => rfl | 4, _ => rfl | 5, _ => rfl) (by show _ ≤ 129; omega) (by show _ ≤ 721; omega) dX6_init_160 (fun H1 hat z1 hk1 hS => ?_)
    refine lv_dup hx hb dX6_init_163 rfl ?_
    have hF1 : FL D H.size ([] ++ [.inr (0, [.int 0, .int 0, .int 0, .int 0, .int 0, .int 0])]) H1 := FL.one z1 hat
    refine f_callN (z := H.size) (l0 := []) (b := H.size) (rest := [.ref H.size, .int (nI i), .ref (z + 2)]) ⟨hx, hb, hml, hown, hts⟩ (kX0_init l D cy H.size) ⟨va_cnB 0 hts gX6_init_X0_init_n83 rfl rfl rfl (hB.2.1.1 _ (List.mem_of_getElem? (i := 2) rfl)) (hts (.initialized RX0) (List.mem_of_getElem? (i := 33) rfl)) (by decide +kernel) ⟨Nat.le_of_ble_eq_true rfl, Nat.le_of_ble_eq_true rfl⟩, rfl, hts (.instanceMethod yX0_init) (List.mem_of_getElem? (i := 66) rfl)⟩ iP_blind (fun U hU hW => iP_mk (l0 := []) hB hF1 rfl hU hW) hF1 rfl hS (fun q hq => by show z ≤ q; have hq : H.size ≤ q := hq; omega) hl.1 (Nat.le_of_ble_eq_true rfl) dX6_init_164 ⟨by show _ ≤ 129; omega, by show _ ≤ 721; omega⟩ (fun H2 locs hF2 hk2 hS => ?_)
    have hF2 : FL D H.size [.inr (0, [.int 0, .int 0, .int 0, .int 0, .int 0, .int 0])] H2 := hF2
    have hA : va_at D vwCl (z + 2, eA (cy 2) 20 (z + 18) 1 i) H2 := va_at.kept (q := (z + 2, _)) (show va_at D vwCl (z + 2, eA (cy 2) 20 (z + 18) 1 i) H from hF.2 2 (by omega)) ((hk2 (z + 2) (by omega)).trans (hk1 (z + 2) (by omega)))
    have hO : va_at D vwCl (H.size, .inr (0, [.int 0, .int 0, .int 0, .int 0, .int 0, .int 0])) H2 := hF2.2 0 _ rfl
    refine q_ast hx hb hB.1 2 (v := H.size) (k := i) hA hS (show z ≤ z + 2 by omega) rfl (any_cl hB.1 hO rfl) (nk_clamp hi (by decide)) (nk_in hi (by decide)) dX6_init_167 (fun H3 locs hA3 z3 hk3 hS => ?_)
    refine lv_iinc (v := nI (i + 1)) (lv' := [(1, .int (nI (i + 1))), (0, .ref z)]) hx hb dX6_init_168 hl (k := 0) rfl (nI_1 i) (by decide) rfl (fun ls hl => ?_)
    refine lv_goto (tgt := 149) hx hb dX6_init_171 (by decide) ?_
    have hA4 : va_at D vwCl (z + 2, eA (cy 2) 20 (z + 18) 1 (i + 1)) H3 := at_q hA3 (fun j hj => arr_up (by rw [hsz]; omega))
    have hF3 : FL D (z + (18 + i)) [.inr (0, [.int 0, .int 0, .int 0, .int 0, .int 0, .int 0])] H3 := by
      rw [← hsz]
      refine ⟨z3.trans hF2.1, fun j x hx => (hF2.2 j x hx).kept (hk3 _ (by show H.size + j ≠ z + 2; omega))⟩
    have e1 : z + (18 + i) = H.size := hsz.symm
    refine ih (i + 1) H3 locs ls _ _ (by omega) (by rw [hc]; omega) (by rw [hs]; omega) ?_ hS hl
    rw [show 18 + (i + 1) = 18 + i + 1 by omega]
    refine hF.grow (ta := 2) hF3 rfl (fun j hj => Lz_2 hj) hA4 (fun c x hx => ?_) (fun j hj hne => ((hk3 _ (show z + j ≠ z + 2 by omega)).trans (hk2 _ (by omega))).trans (hk1 _ (by omega)))
    match c, hx with
    | 0, hx =>
      cases hx
      try rw [← e1]
      exact Lz_B hi
    | c + 1, hx => simp at hx
set_option maxRecDepth 100000 in
set_option maxHeartbeats 4000000 in
theorem loop6_3 (hx : p.tables.exec = Jvm.exec) (hb : c.code = cX6_init) (hml : c.maxLocals = 2) (hts : ∀ w ∈ wsX6_init, w.before args s = true) (hown : s.vm.findClass RX6 = some m.cls) (hB : iB D cy s)
    (kend : ∀ (H : Heap) (locs : List Loc) (ls : Array Slot), FW D z 50 (Lz cy z 6 20 3 0 0) H → va_S (iA z) H0 H locs → lv_has ls 2 [(1, .int (nI 3)), (0, .ref z)] → W p l e ({ frames := 3, cells := 129, slots := 721, locals := 52 } : Room) s m args below meth c H locs 49 277 Q (F0 m 200 ls [])) :
    ∀ (n i : Nat) (H : Heap) (locs : List Loc) (ls : Array Slot) (cells slots : Nat), i + n = 3 → cells = (37 + 4 * i) → slots = (220 + 19 * i) → FW D z (38 + 4 * i) (Lz cy z 6 20 i 0 0) H → va_S (iA z) H0 H locs → lv_has ls 2 [(1, .int (nI i)), (0, .ref z)] → W p l e ({ frames := 3, cells := 129, slots := 721, locals := 52 } : Room) s m args below meth c H locs cells slots Q (F0 m 176 ls []) := by
  intro n
  induction n with
  | zero =>
    intro i H locs ls cells slots hn hc hs hF hS hl
    have e : i = 3 := by omega
    subst e; subst hc; subst hs
    refine lv_iload_n hx hb dX6_init_176 rfl (lv_at hl 0 rfl) ?_
    refine lv_iconst (v := 3) hx hb dX6_init_177 (by decide) ?_
    refine lv_icmp_ge (tgt := 200) hx hb dX6_init_178 (by decide) (fun _ => ?_) (fun hg => absurd (by decide) hg)
    exact kend H locs ls hF hS hl
  | succ n ih =>
    intro i H locs ls cells slots hn hc hs hF hS hl
    have hi : i < 3 := by omega
    refine lv_iload_n hx hb dX6_init_176 rfl (lv_at hl 0 rfl) ?_
    refine lv_iconst (v := 3) hx hb dX6_init_177 (by decide) ?_
    refine lv_icmp_ge (tgt := 200) hx hb dX6_init_178 (by decide) (fun hg => absurd hg (ge_no hi (by decide) rfl)) (fun _ => ?_)
    refine lv_aload_n hx hb dX6_init_181 rfl (lv_at hl 1 rfl) ?_
    have h0 : va_at D vwCl (z, eS z) H := hF.2 0 (by omega)
    refine q_get hx hb hts N_X6_init_X6 hown hB.1 h0 rfl 2 (by decide) (List.mem_of_getElem? (i := 9) rfl) rfl rfl dX6_init_182 ?_
    refine lv_iload_n hx hb dX6_init_185 rfl (lv_at hl 0 rfl) ?_
    have hsz : H.size = z + (38 + 4 * i) := hF.1
    refine q_new (T := TX5) (ci := 5) (fs := [.null, .int 0, .int 0]) hx hb hts N_X6_init_X5 tyX5 tyX5_ok hown (hts (.classLink RX6 21 RX5) (List.mem_of_getElem? (i := 8) rfl)) (hts (.instantiable RX5 3) (List.mem_of_getElem? (i := 34) rfl)) (hts (.initialized RX5) (List.mem_of_getElem? (i := 35) rfl)) hB.1 hS rfl (fun j hj => by match j, hj with | 0, _ => rfl | 1, _ => rfl | 2, _ => rfl) (by show _ ≤ 129; omega) (by show _ ≤ 721; omega) dX6_init_186 (fun H1 hat z1 hk1 hS => ?_)
    refine lv_dup hx hb dX6_init_189 rfl ?_
    have hF1 : FL D H.size ([] ++ [.inr (5, [.null, .int 0, .int 0])]) H1 := FL.one z1 hat
    refine f_callN (z := H.size) (l0 := []) (b := H.size) (rest := [.ref H.size, .int (nI i), .ref (z + 3)]) ⟨hx, hb, hml, hown, hts⟩ (kX5_init l D cy H.size) ⟨va_cnB 0 hts gX6_init_X5_init_n84 rfl rfl rfl (hB.2.1.1 _ (List.mem_of_getElem? (i := 3) rfl)) (hts (.initialized RX5) (List.mem_of_getElem? (i := 35) rfl)) (by decide +kernel) ⟨Nat.le_of_ble_eq_true rfl, Nat.le_of_ble_eq_true rfl⟩, rfl, hts (.instanceMethod yX5_init) (List.mem_of_getElem? (i := 75) rfl)⟩ iP_blind (fun U hU hW => iP_mk (l0 := []) hB hF1 rfl hU hW) hF1 rfl hS (fun q hq => by show z ≤ q; have hq : H.size ≤ q := hq; omega) hl.1 (Nat.le_of_ble_eq_true rfl) dX6_init_190 ⟨by show _ ≤ 129; omega, by show _ ≤ 721; omega⟩ (fun H2 locs hF2 hk2 hS => ?_)
    have hF2 : FL D H.size [.inr (5, [.ref (H.size + 1), .int 0, .int 0]), .inr (4, [.ref (H.size + 2), .ref (H.size + 3), .int 0, .int 0]), .inl (cy 0, (6, q_ints (fun _ => 0))), .inl (cy 0, (6, q_ints (fun _ => 0)))] H2 := hF2
    have hA : va_at D vwCl (z + 3, eA (cy 3) 3 (z + 38) 4 i) H2 := va_at.kept (q := (z + 3, _)) (show va_at D vwCl (z + 3, eA (cy 3) 3 (z + 38) 4 i) H from hF.2 3 (by omega)) ((hk2 (z + 3) (by omega)).trans (hk1 (z + 3) (by omega)))
    have hO : va_at D vwCl (H.size, .inr (5, [.ref (H.size + 1), .int 0, .int 0])) H2 := hF2.2 0 _ rfl
    refine q_ast hx hb hB.1 3 (v := H.size) (k := i) hA hS (show z ≤ z + 3 by omega) rfl (any_cl hB.1 hO rfl) (nk_clamp hi (by decide)) (nk_in hi (by decide)) dX6_init_193 (fun H3 locs hA3 z3 hk3 hS => ?_)
    refine lv_iinc (v := nI (i + 1)) (lv' := [(1, .int (nI (i + 1))), (0, .ref z)]) hx hb dX6_init_194 hl (k := 0) rfl (nI_1 i) (by decide) rfl (fun ls hl => ?_)
    refine lv_goto (tgt := 176) hx hb dX6_init_197 (by decide) ?_
    have hA4 : va_at D vwCl (z + 3, eA (cy 3) 3 (z + 38) 4 (i + 1)) H3 := at_q hA3 (fun j hj => arr_up (by rw [hsz]; omega))
    have hF3 : FL D (z + (38 + 4 * i)) [.inr (5, [.ref (H.size + 1), .int 0, .int 0]), .inr (4, [.ref (H.size + 2), .ref (H.size + 3), .int 0, .int 0]), .inl (cy 0, (6, q_ints (fun _ => 0))), .inl (cy 0, (6, q_ints (fun _ => 0)))] H3 := by
      rw [← hsz]
      refine ⟨z3.trans hF2.1, fun j x hx => (hF2.2 j x hx).kept (hk3 _ (by show H.size + j ≠ z + 3; omega))⟩
    have e1 : z + (38 + 4 * i) = H.size := hsz.symm
    refine ih (i + 1) H3 locs ls _ _ (by omega) (by rw [hc]; omega) (by rw [hs]; omega) ?_ hS hl
    rw [show 38 + 4 * (i + 1) = 38 + 4 * i + 4 by omega]
    refine hF.grow (ta := 3) hF3 rfl (fun j hj => Lz_3 hj) hA4 (fun c x hx => ?_) (fun j hj hne => ((hk3 _ (show z + j ≠ z + 3 by omega)).trans (hk2 _ (by omega))).trans (hk1 _ (by omega)))
    match c, hx with
    | 0, hx =>
      cases hx
      try rw [← e1]
      exact Lz_T (c := 0) hi (by decide)
    | 1, hx =>
      cases hx
      try rw [← e1]
      exact Lz_T (c := 1) hi (by decide)
    | 2, hx =>
      cases hx
      try rw [← e1]
      exact Lz_T (c := 2) hi (by decide)
    | 3, hx =>
      cases hx
      try rw [← e1]
      exact Lz_T (c := 3) hi (by decide)
    | c + 4, hx => simp at hx
set_option maxRecDepth 100000 in
set_option maxHeartbeats 4000000 in
theorem loop6_4 (hx : p.tables.exec = Jvm.exec) (hb : c.code = cX6_init) (hml : c.maxLocals = 2) (hts : ∀ w ∈ wsX6_init, w.before args s = true) (hown : s.vm.findClass RX6 = some m.cls) (hB : iB D cy s)
    (kend : ∀ (H : Heap) (locs : List Loc) (ls : Array Slot), FW D z 70 (Lz cy z 6 20 3 5 0) H → va_S (iA z) H0 H locs → lv_has ls 2 [(1, .int (nI 5)), (0, .ref z)] → W p l e ({ frames := 3, cells := 129, slots := 721, locals := 52 } : Room) s m args below meth c H locs 69 397 Q (F0 m 226 ls [])) :
    ∀ (n i : Nat) (H : Heap) (locs : List Loc) (ls : Array Slot) (cells slots : Nat), i + n = 5 → cells = (49 + 4 * i) → slots = (277 + 24 * i) → FW D z (50 + 4 * i) (Lz cy z 6 20 3 i 0) H → va_S (iA z) H0 H locs → lv_has ls 2 [(1, .int (nI i)), (0, .ref z)] → W p l e ({ frames := 3, cells := 129, slots := 721, locals := 52 } : Room) s m args below meth c H locs cells slots Q (F0 m 202 ls []) := by
  intro n
  induction n with
  | zero =>
    intro i H locs ls cells slots hn hc hs hF hS hl
    have e : i = 5 := by omega
    subst e; subst hc; subst hs
    refine lv_iload_n hx hb dX6_init_202 rfl (lv_at hl 0 rfl) ?_
    refine lv_iconst (v := 5) hx hb dX6_init_203 (by decide) ?_
    refine lv_icmp_ge (tgt := 226) hx hb dX6_init_204 (by decide) (fun _ => ?_) (fun hg => absurd (by decide) hg)
    exact kend H locs ls hF hS hl
  | succ n ih =>
    intro i H locs ls cells slots hn hc hs hF hS hl
    have hi : i < 5 := by omega
    refine lv_iload_n hx hb dX6_init_202 rfl (lv_at hl 0 rfl) ?_
    refine lv_iconst (v := 5) hx hb dX6_init_203 (by decide) ?_
    refine lv_icmp_ge (tgt := 226) hx hb dX6_init_204 (by decide) (fun hg => absurd hg (ge_no hi (by decide) rfl)) (fun _ => ?_)
    refine lv_aload_n hx hb dX6_init_207 rfl (lv_at hl 1 rfl) ?_
    have h0 : va_at D vwCl (z, eS z) H := hF.2 0 (by omega)
    refine q_get hx hb hts N_X6_init_X6 hown hB.1 h0 rfl 3 (by decide) (List.mem_of_getElem? (i := 11) rfl) rfl rfl dX6_init_208 ?_
    refine lv_iload_n hx hb dX6_init_211 rfl (lv_at hl 0 rfl) ?_
    have hsz : H.size = z + (50 + 4 * i) := hF.1
    refine q_new (T := TX1) (ci := 1) (fs := [.null, .int 0, .int 0, .int 0, .int 0, .int 0, .int 0, .int 0]) hx hb hts N_X6_init_X1 tyX1 tyX1_ok hown (hts (.classLink RX6 27 RX1) (List.mem_of_getElem? (i := 10) rfl)) (hts (.instantiable RX1 8) (List.mem_of_getElem? (i := 36) rfl)) (hts (.initialized RX1) (List.mem_of_getElem? (i := 37) rfl)) hB.1 hS rfl (fun j hj => by match j, hj with | 0, _ => rfl | 1, _ => rfl | 2, _ => rfl | 3, _ => rfl | 4, _ => rfl | 5, _ => rfl | 6, _ => rfl | 7, _ => rfl) (by show _ ≤ 129; omega) (by show _ ≤ 721; omega) dX6_init_212 (fun H1 hat z1 hk1 hS => ?_)
    refine lv_dup hx hb dX6_init_215 rfl ?_
    have hF1 : FL D H.size ([] ++ [.inr (1, [.null, .int 0, .int 0, .int 0, .int 0, .int 0, .int 0, .int 0])]) H1 := FL.one z1 hat
    refine f_callN (z := H.size) (l0 := []) (b := H.size) (rest := [.ref H.size, .int (nI i), .ref (z + 4)]) ⟨hx, hb, hml, hown, hts⟩ (kX1_init l D cy H.size) ⟨va_cnB 0 hts gX6_init_X1_init_n85 rfl rfl rfl (hB.2.1.1 _ (List.mem_of_getElem? (i := 4) rfl)) (hts (.initialized RX1) (List.mem_of_getElem? (i := 37) rfl)) (by decide +kernel) ⟨Nat.le_of_ble_eq_true rfl, Nat.le_of_ble_eq_true rfl⟩, rfl, hts (.instanceMethod yX1_init) (List.mem_of_getElem? (i := 82) rfl)⟩ iP_blind (fun U hU hW => iP_mk (l0 := []) hB hF1 rfl hU hW) hF1 rfl hS (fun q hq => by show z ≤ q; have hq : H.size ≤ q := hq; omega) hl.1 (Nat.le_of_ble_eq_true rfl) dX6_init_216 ⟨by show _ ≤ 129; omega, by show _ ≤ 721; omega⟩ (fun H2 locs hF2 hk2 hS => ?_)
    have hF2 : FL D H.size [.inr (1, [.ref (H.size + 1), .int 0, .int 0, .int 0, .int 0, .int 0, .int 0, .int 0]), .inr (4, [.ref (H.size + 2), .ref (H.size + 3), .int 0, .int 0]), .inl (cy 0, (6, q_ints (fun _ => 0))), .inl (cy 0, (6, q_ints (fun _ => 0)))] H2 := hF2
    have hA : va_at D vwCl (z + 4, eA (cy 4) 5 (z + 50) 4 i) H2 := va_at.kept (q := (z + 4, _)) (show va_at D vwCl (z + 4, eA (cy 4) 5 (z + 50) 4 i) H from hF.2 4 (by omega)) ((hk2 (z + 4) (by omega)).trans (hk1 (z + 4) (by omega)))
    have hO : va_at D vwCl (H.size, .inr (1, [.ref (H.size + 1), .int 0, .int 0, .int 0, .int 0, .int 0, .int 0, .int 0])) H2 := hF2.2 0 _ rfl
    refine q_ast hx hb hB.1 4 (v := H.size) (k := i) hA hS (show z ≤ z + 4 by omega) rfl (any_cl hB.1 hO rfl) (nk_clamp hi (by decide)) (nk_in hi (by decide)) dX6_init_219 (fun H3 locs hA3 z3 hk3 hS => ?_)
    refine lv_iinc (v := nI (i + 1)) (lv' := [(1, .int (nI (i + 1))), (0, .ref z)]) hx hb dX6_init_220 hl (k := 0) rfl (nI_1 i) (by decide) rfl (fun ls hl => ?_)
    refine lv_goto (tgt := 202) hx hb dX6_init_223 (by decide) ?_
    have hA4 : va_at D vwCl (z + 4, eA (cy 4) 5 (z + 50) 4 (i + 1)) H3 := at_q hA3 (fun j hj => arr_up (by rw [hsz]; omega))
    have hF3 : FL D (z + (50 + 4 * i)) [.inr (1, [.ref (H.size + 1), .int 0, .int 0, .int 0, .int 0, .int 0, .int 0, .int 0]), .inr (4, [.ref (H.size + 2), .ref (H.size + 3), .int 0, .int 0]), .inl (cy 0, (6, q_ints (fun _ => 0))), .inl (cy 0, (6, q_ints (fun _ => 0)))] H3 := by
      rw [← hsz]
      refine ⟨z3.trans hF2.1, fun j x hx => (hF2.2 j x hx).kept (hk3 _ (by show H.size + j ≠ z + 4; omega))⟩
    have e1 : z + (50 + 4 * i) = H.size := hsz.symm
    refine ih (i + 1) H3 locs ls _ _ (by omega) (by rw [hc]; omega) (by rw [hs]; omega) ?_ hS hl
    rw [show 50 + 4 * (i + 1) = 50 + 4 * i + 4 by omega]
    refine hF.grow (ta := 4) hF3 rfl (fun j hj => Lz_4 hj) hA4 (fun c x hx => ?_) (fun j hj hne => ((hk3 _ (show z + j ≠ z + 4 by omega)).trans (hk2 _ (by omega))).trans (hk1 _ (by omega)))
    match c, hx with
    | 0, hx =>
      cases hx
      try rw [← e1]
      exact Lz_D (c := 0) hi (by decide)
    | 1, hx =>
      cases hx
      try rw [← e1]
      exact Lz_D (c := 1) hi (by decide)
    | 2, hx =>
      cases hx
      try rw [← e1]
      exact Lz_D (c := 2) hi (by decide)
    | 3, hx =>
      cases hx
      try rw [← e1]
      exact Lz_D (c := 3) hi (by decide)
    | c + 4, hx => simp at hx
set_option maxRecDepth 100000 in
set_option maxHeartbeats 4000000 in
theorem loop6_5 (hx : p.tables.exec = Jvm.exec) (hb : c.code = cX6_init) (hml : c.maxLocals = 2) (hts : ∀ w ∈ wsX6_init, w.before args s = true) (hown : s.vm.findClass RX6 = some m.cls) (hB : iB D cy s)
    (kend : ∀ (H : Heap) (locs : List Loc) (ls : Array Slot), FW D z 130 (Lz cy z 6 20 3 5 12) H → va_S (iA z) H0 H locs → lv_has ls 2 [(1, .int (nI 12)), (0, .ref z)] → W p l e ({ frames := 3, cells := 129, slots := 721, locals := 52 } : Room) s m args below meth c H locs 129 721 Q (F0 m 253 ls [])) :
    ∀ (n i : Nat) (H : Heap) (locs : List Loc) (ls : Array Slot) (cells slots : Nat), i + n = 12 → cells = (69 + 5 * i) → slots = (397 + 27 * i) → FW D z (70 + 5 * i) (Lz cy z 6 20 3 5 i) H → va_S (iA z) H0 H locs → lv_has ls 2 [(1, .int (nI i)), (0, .ref z)] → W p l e ({ frames := 3, cells := 129, slots := 721, locals := 52 } : Room) s m args below meth c H locs cells slots Q (F0 m 228 ls []) := by
  intro n
  induction n with
  | zero =>
    intro i H locs ls cells slots hn hc hs hF hS hl
    have e : i = 12 := by omega
    subst e; subst hc; subst hs
    refine lv_iload_n hx hb dX6_init_228 rfl (lv_at hl 0 rfl) ?_
    refine lv_bipush (v := 12) hx hb dX6_init_229 (by decide) ?_
    refine lv_icmp_ge (tgt := 253) hx hb dX6_init_231 (by decide) (fun _ => ?_) (fun hg => absurd (by decide) hg)
    exact kend H locs ls hF hS hl
  | succ n ih =>
    intro i H locs ls cells slots hn hc hs hF hS hl
    have hi : i < 12 := by omega
    refine lv_iload_n hx hb dX6_init_228 rfl (lv_at hl 0 rfl) ?_
    refine lv_bipush (v := 12) hx hb dX6_init_229 (by decide) ?_
    refine lv_icmp_ge (tgt := 253) hx hb dX6_init_231 (by decide) (fun hg => absurd hg (ge_no hi (by decide) rfl)) (fun _ => ?_)
    refine lv_aload_n hx hb dX6_init_234 rfl (lv_at hl 1 rfl) ?_
    have h0 : va_at D vwCl (z, eS z) H := hF.2 0 (by omega)
    refine q_get hx hb hts N_X6_init_X6 hown hB.1 h0 rfl 4 (by decide) (List.mem_of_getElem? (i := 13) rfl) rfl rfl dX6_init_235 ?_
    refine lv_iload_n hx hb dX6_init_238 rfl (lv_at hl 0 rfl) ?_
    have hsz : H.size = z + (70 + 5 * i) := hF.1
    refine q_new (T := TX3) (ci := 3) (fs := [.null, .null, .int 0, .int 0, .int 0, .int 0, .int 0, .int 0]) hx hb hts N_X6_init_X3 tyX3 tyX3_ok hown (hts (.classLink RX6 33 RX3) (List.mem_of_getElem? (i := 12) rfl)) (hts (.instantiable RX3 8) (List.mem_of_getElem? (i := 14) rfl)) (hts (.initialized RX3) (List.mem_of_getElem? (i := 15) rfl)) hB.1 hS rfl (fun j hj => by match j, hj with | 0, _ => rfl | 1, _ => rfl | 2, _ => rfl | 3, _ => rfl | 4, _ => rfl | 5, _ => rfl | 6, _ => rfl | 7, _ => rfl) (by show _ ≤ 129; omega) (by show _ ≤ 721; omega) dX6_init_239 (fun H1 hat z1 hk1 hS => ?_)
    refine lv_dup hx hb dX6_init_242 rfl ?_
    have hF1 : FL D H.size ([] ++ [.inr (3, [.null, .null, .int 0, .int 0, .int 0, .int 0, .int 0, .int 0])]) H1 := FL.one z1 hat
    refine f_callN (z := H.size) (l0 := []) (b := H.size) (rest := [.ref H.size, .int (nI i), .ref (z + 5)]) ⟨hx, hb, hml, hown, hts⟩ (kX3_init l D cy H.size) ⟨va_cnB 0 hts gX6_init_X3_init_n39 rfl rfl rfl (hB.2.1.1 _ (List.mem_of_getElem? (i := 0) rfl)) (hts (.initialized RX3) (List.mem_of_getElem? (i := 15) rfl)) (by decide +kernel) ⟨Nat.le_of_ble_eq_true rfl, Nat.le_of_ble_eq_true rfl⟩, rfl, hts (.instanceMethod yX3_init) (List.mem_of_getElem? (i := 38) rfl)⟩ iP_blind (fun U hU hW => iP_mk (l0 := []) hB hF1 rfl hU hW) hF1 rfl hS (fun q hq => by show z ≤ q; have hq : H.size ≤ q := hq; omega) hl.1 (Nat.le_of_ble_eq_true rfl) dX6_init_243 ⟨by show _ ≤ 129; omega, by show _ ≤ 721; omega⟩ (fun H2 locs hF2 hk2 hS => ?_)
    have hF2 : FL D H.size [.inr (3, [.ref (H.size + 1), .ref (H.size + 4), .int 0, .int 0, .int 0, .int 0, .int 0, .int 0]), .inr (4, [.ref (H.size + 2), .ref (H.size + 3), .int 0, .int 0]), .inl (cy 0, (6, q_ints (fun _ => 0))), .inl (cy 0, (6, q_ints (fun _ => 0))), .inl (cy 0, (3, q_ints (fun _ => -1)))] H2 := hF2
    have hA : va_at D vwCl (z + 5, eA (cy 5) 12 (z + 70) 5 i) H2 := va_at.kept (q := (z + 5, _)) (show va_at D vwCl (z + 5, eA (cy 5) 12 (z + 70) 5 i) H from hF.2 5 (by omega)) ((hk2 (z + 5) (by omega)).trans (hk1 (z + 5) (by omega)))
    have hO : va_at D vwCl (H.size, .inr (3, [.ref (H.size + 1), .ref (H.size + 4), .int 0, .int 0, .int 0, .int 0, .int 0, .int 0])) H2 := hF2.2 0 _ rfl
    refine q_ast hx hb hB.1 5 (v := H.size) (k := i) hA hS (show z ≤ z + 5 by omega) rfl (any_cl hB.1 hO rfl) (nk_clamp hi (by decide)) (nk_in hi (by decide)) dX6_init_246 (fun H3 locs hA3 z3 hk3 hS => ?_)
    refine lv_iinc (v := nI (i + 1)) (lv' := [(1, .int (nI (i + 1))), (0, .ref z)]) hx hb dX6_init_247 hl (k := 0) rfl (nI_1 i) (by decide) rfl (fun ls hl => ?_)
    refine lv_goto (tgt := 228) hx hb dX6_init_250 (by decide) ?_
    have hA4 : va_at D vwCl (z + 5, eA (cy 5) 12 (z + 70) 5 (i + 1)) H3 := at_q hA3 (fun j hj => arr_up (by rw [hsz]; omega))
    have hF3 : FL D (z + (70 + 5 * i)) [.inr (3, [.ref (H.size + 1), .ref (H.size + 4), .int 0, .int 0, .int 0, .int 0, .int 0, .int 0]), .inr (4, [.ref (H.size + 2), .ref (H.size + 3), .int 0, .int 0]), .inl (cy 0, (6, q_ints (fun _ => 0))), .inl (cy 0, (6, q_ints (fun _ => 0))), .inl (cy 0, (3, q_ints (fun _ => -1)))] H3 := by
      rw [← hsz]
      refine ⟨z3.trans hF2.1, fun j x hx => (hF2.2 j x hx).kept (hk3 _ (by show H.size + j ≠ z + 5; omega))⟩
    have e1 : z + (70 + 5 * i) = H.size := hsz.symm
    refine ih (i + 1) H3 locs ls _ _ (by omega) (by rw [hc]; omega) (by rw [hs]; omega) ?_ hS hl
    rw [show 70 + 5 * (i + 1) = 70 + 5 * i + 5 by omega]
    refine hF.grow (ta := 5) hF3 rfl (fun j hj => Lz_5 hj) hA4 (fun c x hx => ?_) (fun j hj hne => ((hk3 _ (show z + j ≠ z + 5 by omega)).trans (hk2 _ (by omega))).trans (hk1 _ (by omega)))
    match c, hx with
    | 0, hx =>
      cases hx
      try rw [← e1]
      exact Lz_L (c := 0) (by decide)
    | 1, hx =>
      cases hx
      try rw [← e1]
      exact Lz_L (c := 1) (by decide)
    | 2, hx =>
      cases hx
      try rw [← e1]
      exact Lz_L (c := 2) (by decide)
    | 3, hx =>
      cases hx
      try rw [← e1]
      exact Lz_L (c := 3) (by decide)
    | 4, hx =>
      cases hx
      try rw [← e1]
      exact Lz_L (c := 4) (by decide)
    | c + 5, hx => simp at hx
end IL
