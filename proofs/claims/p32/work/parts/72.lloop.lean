/-! ===== the law's loops, over conditions that the pure side owes ===== -/
def VD (L : Nat) (xs : Nat → Int32) (g : Gd) (F B gn pr tm x fm bk tk be lt : Int32) (K : Gd → Int32 → Int32 → Prop) (sw : Int32) : Prop :=
  if sw = 0 then VC_C320 L xs g F B gn pr tm x fm bk tk be lt K else if sw = 1 then VC_C353 L xs g F B gn pr tm x fm bk tk be lt K else if sw = 2 then VC_C383 L xs g F B gn pr tm x fm bk tk be lt K else if sw = 3 then VC_C383 L xs g F B gn pr tm x fm bk tk be lt K else if sw = 4 then VC_C383 L xs g F B gn pr tm x fm bk tk be lt K else if sw = 5 then VC_C523 L xs g F B gn pr tm x fm bk tk be lt K else if sw = 6 then VC_C523 L xs g F B gn pr tm x fm bk tk be lt K else if sw = 7 then VC_C608 L xs g F B gn pr tm x fm bk tk be lt K else if sw = 8 then VC_C608 L xs g F B gn pr tm x fm bk tk be lt K else if sw = 9 then VC_C731 L xs g F B gn pr tm x fm bk tk be lt K else if sw = 10 then VC_C819 L xs g F B gn pr tm x fm bk tk be lt K else if sw = 11 then VC_C850 L xs g F B gn pr tm x fm bk tk be lt K else if sw = 12 then VC_C911 L xs g F B gn pr tm x fm bk tk be lt K else if sw = 13 then VC_C1049 L xs g F B gn pr tm x fm bk tk be lt K else if sw = 14 then VC_C1086 L xs g F B gn pr tm x fm bk tk be lt K else if sw = 15 then VC_C1183 L xs g F B gn pr tm x fm bk tk be lt K else VC_C1310 L xs g F B gn pr tm x fm bk tk be lt K
def VT (L : Nat) (xs : Nat → Int32) (g : Gd) (F B gn pr tm : Int32) (J : Gd → Int32 → Int32 → Prop) : Prop :=
  VC_H L xs g F B gn pr tm (fun x fm bk tk be lt sw => VD L xs g F B gn pr tm x fm bk tk be lt (fun g2 gn2 pr2 => VC_T L xs g2 F B gn2 pr2 tm (fun g3 => J g3 gn2 pr2)) sw)
section SG
variable {p : Program} {l : Launch} {e : Env} {s : State} {m : MethodId} {below : List Frame} {meth : Method} {c : Code} {H : Heap} {locs : List Loc} {cells slots : Nat} {Q : State → Prop}
variable {b L : Nat} {xs : Nat → Int32} {D : va_G} {cy : Nat → ClassId} {ad : Nat → Nat → Nat} {g : Gd} {ls : Array Slot}
set_option maxRecDepth 100000 in
set_option maxHeartbeats 4000000 in
theorem W_D (C : LC p l s m c b L xs) (hI : cI ad) (hB : LWB D cy s) (hL : LWS D cy ad s g H) (hS : va_S (LA0 s) s.heap H locs) (hc : cells + 40 ≤ 400000) (hs : slots + 400 ≤ 4000000) {F B gn pr tm x fm bk tk be lt sw : Int32} (hl : lv_has ls 17 [(12, .int lt), (11, .int be), (10, .int tk), (9, .int bk), (8, .int fm), (7, .int x), (6, .int tm), (5, .int pr), (4, .int gn), (3, .int B), (2, .int F), (1, .ref (ad 0 0)), (0, .ref b)]) {K : Gd → Int32 → Int32 → Prop} (hq : VD L xs g F B gn pr tm x fm bk tk be lt K sw)
    (kk : ∀ (k0 : Gd) (k1 k2 : Int32) (H1 : Heap) (locs1 : List Loc) (ls1 : Array Slot), LWS D cy ad s k0 H1 → va_S (LA0 s) s.heap H1 locs1 → lv_has ls1 17 [(6, .int tm), (5, .int k2), (4, .int k1), (3, .int B), (2, .int F), (1, .ref (ad 0 0)), (0, .ref b)] → K k0 k1 k2 → W p l e room_1 s m #[Value.ref b] below meth c H1 locs1 (cells + 40) (slots + 400) Q (F0 m 1388 ls1 [])) : W p l e room_1 s m #[Value.ref b] below meth c H locs cells slots Q (F0 m 242 ls [.int sw]) := by
  have hx := C.hx; have hb := C.hb
  unfold VD at hq
  by_cases h0 : sw = 0
  · rw [if_pos h0] at hq
    refine q_sw (k := 0) h0 ?_
    refine lv_tableIn (x := 0) (off := 78) (tgt := 320) hx hb dL_law_242 (by decide) (by decide) rfl (by decide) ?_
    exact W_C320 C hI hB hL hS hc hs hl hq kk
  rw [if_neg h0] at hq
  by_cases h1 : sw = 1
  · rw [if_pos h1] at hq
    refine q_sw (k := 1) h1 ?_
    refine lv_tableIn (x := 1) (off := 111) (tgt := 353) hx hb dL_law_242 (by decide) (by decide) rfl (by decide) ?_
    exact W_C353 C hI hB hL hS hc hs hl hq kk
  rw [if_neg h1] at hq
  by_cases h2 : sw = 2
  · rw [if_pos h2] at hq
    refine q_sw (k := 2) h2 ?_
    refine lv_tableIn (x := 2) (off := 141) (tgt := 383) hx hb dL_law_242 (by decide) (by decide) rfl (by decide) ?_
    exact W_C383 C hI hB hL hS hc hs hl hq kk
  rw [if_neg h2] at hq
  by_cases h3 : sw = 3
  · rw [if_pos h3] at hq
    refine q_sw (k := 3) h3 ?_
    refine lv_tableIn (x := 3) (off := 141) (tgt := 383) hx hb dL_law_242 (by decide) (by decide) rfl (by decide) ?_
    exact W_C383 C hI hB hL hS hc hs hl hq kk
  rw [if_neg h3] at hq
  by_cases h4 : sw = 4
  · rw [if_pos h4] at hq
    refine q_sw (k := 4) h4 ?_
    refine lv_tableIn (x := 4) (off := 141) (tgt := 383) hx hb dL_law_242 (by decide) (by decide) rfl (by decide) ?_
    exact W_C383 C hI hB hL hS hc hs hl hq kk
  rw [if_neg h4] at hq
  by_cases h5 : sw = 5
  · rw [if_pos h5] at hq
    refine q_sw (k := 5) h5 ?_
    refine lv_tableIn (x := 5) (off := 281) (tgt := 523) hx hb dL_law_242 (by decide) (by decide) rfl (by decide) ?_
    exact W_C523 C hI hB hL hS hc hs hl hq kk
  rw [if_neg h5] at hq
  by_cases h6 : sw = 6
  · rw [if_pos h6] at hq
    refine q_sw (k := 6) h6 ?_
    refine lv_tableIn (x := 6) (off := 281) (tgt := 523) hx hb dL_law_242 (by decide) (by decide) rfl (by decide) ?_
    exact W_C523 C hI hB hL hS hc hs hl hq kk
  rw [if_neg h6] at hq
  by_cases h7 : sw = 7
  · rw [if_pos h7] at hq
    refine q_sw (k := 7) h7 ?_
    refine lv_tableIn (x := 7) (off := 366) (tgt := 608) hx hb dL_law_242 (by decide) (by decide) rfl (by decide) ?_
    exact W_C608 C hI hB hL hS hc hs hl hq kk
  rw [if_neg h7] at hq
  by_cases h8 : sw = 8
  · rw [if_pos h8] at hq
    refine q_sw (k := 8) h8 ?_
    refine lv_tableIn (x := 8) (off := 366) (tgt := 608) hx hb dL_law_242 (by decide) (by decide) rfl (by decide) ?_
    exact W_C608 C hI hB hL hS hc hs hl hq kk
  rw [if_neg h8] at hq
  by_cases h9 : sw = 9
  · rw [if_pos h9] at hq
    refine q_sw (k := 9) h9 ?_
    refine lv_tableIn (x := 9) (off := 489) (tgt := 731) hx hb dL_law_242 (by decide) (by decide) rfl (by decide) ?_
    exact W_C731 C hI hB hL hS hc hs hl hq kk
  rw [if_neg h9] at hq
  by_cases h10 : sw = 10
  · rw [if_pos h10] at hq
    refine q_sw (k := 10) h10 ?_
    refine lv_tableIn (x := 10) (off := 577) (tgt := 819) hx hb dL_law_242 (by decide) (by decide) rfl (by decide) ?_
    exact W_C819 C hI hB hL hS hc hs hl hq kk
  rw [if_neg h10] at hq
  by_cases h11 : sw = 11
  · rw [if_pos h11] at hq
    refine q_sw (k := 11) h11 ?_
    refine lv_tableIn (x := 11) (off := 608) (tgt := 850) hx hb dL_law_242 (by decide) (by decide) rfl (by decide) ?_
    exact W_C850 C hI hB hL hS hc hs hl hq kk
  rw [if_neg h11] at hq
  by_cases h12 : sw = 12
  · rw [if_pos h12] at hq
    refine q_sw (k := 12) h12 ?_
    refine lv_tableIn (x := 12) (off := 669) (tgt := 911) hx hb dL_law_242 (by decide) (by decide) rfl (by decide) ?_
    exact W_C911 C hI hB hL hS hc hs hl hq kk
  rw [if_neg h12] at hq
  by_cases h13 : sw = 13
  · rw [if_pos h13] at hq
    refine q_sw (k := 13) h13 ?_
    refine lv_tableIn (x := 13) (off := 807) (tgt := 1049) hx hb dL_law_242 (by decide) (by decide) rfl (by decide) ?_
    exact W_C1049 C hI hB hL hS hc hs hl hq kk
  rw [if_neg h13] at hq
  by_cases h14 : sw = 14
  · rw [if_pos h14] at hq
    refine q_sw (k := 14) h14 ?_
    refine lv_tableIn (x := 14) (off := 844) (tgt := 1086) hx hb dL_law_242 (by decide) (by decide) rfl (by decide) ?_
    exact W_C1086 C hI hB hL hS hc hs hl hq kk
  rw [if_neg h14] at hq
  by_cases h15 : sw = 15
  · rw [if_pos h15] at hq
    refine q_sw (k := 15) h15 ?_
    refine lv_tableIn (x := 15) (off := 941) (tgt := 1183) hx hb dL_law_242 (by decide) (by decide) rfl (by decide) ?_
    exact W_C1183 C hI hB hL hS hc hs hl hq kk
  rw [if_neg h15] at hq
  refine lv_tableOut (tgt := 1310) hx hb dL_law_242 (sw_0_15 h0 h1 h2 h3 h4 h5 h6 h7 h8 h9 h10 h11 h12 h13 h14 h15) (by decide) ?_
  exact W_C1310 C hI hB hL hS hc hs hl hq kk
set_option maxRecDepth 100000 in
set_option maxHeartbeats 4000000 in
theorem law_loop (C : LC p l s m c b L xs) (hI : cI ad) (hB : LWB D cy s) {F B : Int32} {J : Nat → Gd → Int32 → Int32 → Prop}
    (hJ : ∀ (t : Nat) (g : Gd) (gn pr : Int32), t < 76 → J t g gn pr → VT L xs g F B gn pr (nI t) (J (t + 1)))
    (hE : ∀ (g : Gd) (gn pr : Int32), J 76 g gn pr → VC_E L xs g F B gn pr)
    (kend : ∀ (H1 : Heap) (locs1 : List Loc) (cells slots : Nat) (ls1 : Array Slot), va_S (LA0 s) s.heap H1 locs1 → cells ≤ 400000 → slots ≤ 4000000 → W p l e room_1 s m #[Value.ref b] below meth c H1 locs1 cells slots Q (F0 m 1453 ls1 [.int 1])) :
    ∀ (n t : Nat) (g : Gd) (gn pr : Int32) (H : Heap) (locs : List Loc) (ls : Array Slot) (cells slots : Nat), t + n = 76 → cells + 200 * n + 200 ≤ 400000 → slots + 2000 * n + 2000 ≤ 4000000 → LWS D cy ad s g H → va_S (LA0 s) s.heap H locs → J t g gn pr →
      lv_has ls 17 [(6, .int (nI t)), (5, .int pr), (4, .int gn), (3, .int B), (2, .int F), (1, .ref (ad 0 0)), (0, .ref b)] → W p l e room_1 s m #[Value.ref b] below meth c H locs cells slots Q (F0 m 123 ls []) := by
  have hx := C.hx; have hb := C.hb
  intro n
  induction n with
  | zero =>
    intro t g gn pr H locs ls cells slots ht hc hs hL hS hq hl
    have ht : t = 76 := by omega
    subst ht
    refine lv_iload hx hb dL_law_123 (lv_at hl 0 rfl) ?_
    refine lv_bipush (v := 76) hx hb dL_law_125 (by decide) ?_
    refine lv_icmp_ge (tgt := 1423) hx hb dL_law_127 (by decide) (fun _ => ?_) (fun h => absurd (by decide) h)
    exact W_E C hI hB hL hS (by omega) (by omega) (lv_sub hl [1, 2, 3, 4, 5, 6] rfl) (hE g gn pr hq) kend
  | succ n ih =>
    intro t g gn pr H locs ls cells slots ht hc hs hL hS hq hl
    refine lv_iload hx hb dL_law_123 (lv_at hl 0 rfl) ?_
    refine lv_bipush (v := 76) hx hb dL_law_125 (by decide) ?_
    refine lv_icmp_ge (tgt := 1423) hx hb dL_law_127 (by decide) (fun h => ?_) (fun _ => ?_)
    · have h2 := Int32.le_iff_toInt_le.mp h
      rw [nI_toInt (by omega)] at h2
      have h3 : (76 : Int32).toInt = 76 := by decide
      omega
    have h1 := hJ t g gn pr (by omega) hq
    refine W_H C hI hB hL hS (by omega) (by omega) hl h1 (fun x fm bk tk be lt sw H locs ls hL hS hl hq => ?_)
    refine W_D C hI hB hL hS (by omega) (by omega) hl hq (fun g gn pr H locs ls hL hS hl hq => ?_)
    refine W_T C hI hB hL hS (by omega) (by omega) hl hq (fun g H locs ls hL hS hl hq => ?_)
    refine lv_iinc (v := nI (t + 1)) (lv' := [(6, .int (nI (t + 1))), (5, .int pr), (4, .int gn), (3, .int B), (2, .int F), (1, .ref (ad 0 0)), (0, .ref b)]) hx hb dL_law_1417 hl (k := 0) rfl (nI_1 _) (by decide) rfl (fun ls hl => ?_)
    refine lv_goto (tgt := 123) hx hb dL_law_1420 (by decide) ?_
    exact ih (t + 1) g gn pr H locs ls _ _ (by omega) (by omega) (by omega) hL hS hq hl
set_option maxRecDepth 100000 in
set_option maxHeartbeats 4000000 in
theorem law_beds (C : LC p l s m c b L xs) (hI : cI ad) (hB : LWB D cy s) {F B : Int32} {JB : Nat → Gd → Prop} {J : Nat → Gd → Int32 → Int32 → Prop}
    (hB4 : B.toInt ≤ 4) (hJB : ∀ (q : Nat) (g : Gd), q < 4 → JB q g → nI q < B → VC_BD L xs g F B (nI q) (JB (q + 1)))
    (hJ0 : ∀ (q : Nat) (g : Gd), JB q g → B ≤ nI q → J 0 g 0 5)
    (hJ : ∀ (t : Nat) (g : Gd) (gn pr : Int32), t < 76 → J t g gn pr → VT L xs g F B gn pr (nI t) (J (t + 1)))
    (hE : ∀ (g : Gd) (gn pr : Int32), J 76 g gn pr → VC_E L xs g F B gn pr)
    (kend : ∀ (H1 : Heap) (locs1 : List Loc) (cells slots : Nat) (ls1 : Array Slot), va_S (LA0 s) s.heap H1 locs1 → cells ≤ 400000 → slots ≤ 4000000 → W p l e room_1 s m #[Value.ref b] below meth c H1 locs1 cells slots Q (F0 m 1453 ls1 [.int 1])) :
    ∀ (n q : Nat) (g : Gd) (H : Heap) (locs : List Loc) (ls : Array Slot) (cells slots : Nat), q + n = 4 → cells + 200 * n + 20000 ≤ 400000 → slots + 2000 * n + 200000 ≤ 4000000 → LWS D cy ad s g H → va_S (LA0 s) s.heap H locs → JB q g →
      lv_has ls 17 [(4, .int (nI q)), (3, .int B), (2, .int F), (1, .ref (ad 0 0)), (0, .ref b)] → W p l e room_1 s m #[Value.ref b] below meth c H locs cells slots Q (F0 m 75 ls []) := by
  have hx := C.hx; have hb := C.hb
  intro n
  induction n with
  | zero =>
    intro q g H locs ls cells slots ht hc hs hL hS hq hl
    refine lv_iload hx hb dL_law_75 (lv_at hl 0 rfl) ?_
    refine lv_iload_n hx hb dL_law_77 rfl (lv_at hl 1 rfl) ?_
    refine lv_icmp_ge (tgt := 114) hx hb dL_law_78 (by decide) (fun h => ?_) (fun h => ?_)
    · refine lv_iconst (v := 0) hx hb dL_law_114 (by decide) ?_
      refine lv_istore (lv' := [(4, .int 0), (3, .int B), (2, .int F), (1, .ref (ad 0 0)), (0, .ref b)]) hx hb dL_law_115 hl (by decide) rfl (fun ls hl => ?_)
      refine lv_iconst (v := 5) hx hb dL_law_117 (by decide) ?_
      refine lv_istore (lv' := [(5, .int 5), (4, .int 0), (3, .int B), (2, .int F), (1, .ref (ad 0 0)), (0, .ref b)]) hx hb dL_law_118 hl (by decide) rfl (fun ls hl => ?_)
      refine lv_iconst (v := 0) hx hb dL_law_120 (by decide) ?_
      refine lv_istore (lv' := [(6, .int 0), (5, .int 5), (4, .int 0), (3, .int B), (2, .int F), (1, .ref (ad 0 0)), (0, .ref b)]) hx hb dL_law_121 hl (by decide) rfl (fun ls hl => ?_)
      exact law_loop C hI hB hJ hE kend 76 0 g 0 5 H locs ls _ _ rfl (by omega) (by omega) hL hS (hJ0 q g hq h) hl
    · have h2 := Int32.lt_iff_toInt_lt.mp (Int32.not_le.mp h)
      rw [nI_toInt (by omega)] at h2
      omega
  | succ n ih =>
    intro q g H locs ls cells slots ht hc hs hL hS hq hl
    refine lv_iload hx hb dL_law_75 (lv_at hl 0 rfl) ?_
    refine lv_iload_n hx hb dL_law_77 rfl (lv_at hl 1 rfl) ?_
    refine lv_icmp_ge (tgt := 114) hx hb dL_law_78 (by decide) (fun h => ?_) (fun h => ?_)
    · refine lv_iconst (v := 0) hx hb dL_law_114 (by decide) ?_
      refine lv_istore (lv' := [(4, .int 0), (3, .int B), (2, .int F), (1, .ref (ad 0 0)), (0, .ref b)]) hx hb dL_law_115 hl (by decide) rfl (fun ls hl => ?_)
      refine lv_iconst (v := 5) hx hb dL_law_117 (by decide) ?_
      refine lv_istore (lv' := [(5, .int 5), (4, .int 0), (3, .int B), (2, .int F), (1, .ref (ad 0 0)), (0, .ref b)]) hx hb dL_law_118 hl (by decide) rfl (fun ls hl => ?_)
      refine lv_iconst (v := 0) hx hb dL_law_120 (by decide) ?_
      refine lv_istore (lv' := [(6, .int 0), (5, .int 5), (4, .int 0), (3, .int B), (2, .int F), (1, .ref (ad 0 0)), (0, .ref b)]) hx hb dL_law_121 hl (by decide) rfl (fun ls hl => ?_)
      exact law_loop C hI hB hJ hE kend 76 0 g 0 5 H locs ls _ _ rfl (by omega) (by omega) hL hS (hJ0 q g hq h) hl
    · have h1 := hJB q g (by omega) hq (Int32.not_le.mp h)
      refine W_BD C hI hB hL hS (by omega) (by omega) hl h1 (fun g H locs ls hL hS hl hq => ?_)
      refine lv_iinc (v := nI (q + 1)) (lv' := [(4, .int (nI (q + 1))), (3, .int B), (2, .int F), (1, .ref (ad 0 0)), (0, .ref b)]) hx hb dL_law_108 hl (k := 0) rfl (nI_1 _) (by decide) rfl (fun ls hl => ?_)
      refine lv_goto (tgt := 75) hx hb dL_law_111 (by decide) ?_
      exact ih (q + 1) g H locs ls _ _ (by omega) (by omega) (by omega) hL hS hq hl
set_option maxRecDepth 100000 in
set_option maxHeartbeats 4000000 in
theorem law_farms (C : LC p l s m c b L xs) (hI : cI ad) (hB : LWB D cy s) {F : Int32} {JF : Nat → Gd → Prop} {JB : Int32 → Nat → Gd → Prop} {J : Int32 → Nat → Gd → Int32 → Int32 → Prop}
    (hF6 : F.toInt ≤ 6) (hJF : ∀ (q : Nat) (g : Gd), q < 6 → JF q g → nI q < F → VC_FM L xs g F (nI q) (JF (q + 1)))
    (hJB0 : ∀ (q : Nat) (g : Gd), JF q g → F ≤ nI q → VC_B L xs g F (fun B => B.toInt ≤ 4 ∧ JB B 0 g))
    (hJB : ∀ (B : Int32) (q : Nat) (g : Gd), q < 4 → JB B q g → nI q < B → VC_BD L xs g F B (nI q) (JB B (q + 1)))
    (hJ0 : ∀ (B : Int32) (q : Nat) (g : Gd), JB B q g → B ≤ nI q → J B 0 g 0 5)
    (hJ : ∀ (B : Int32) (t : Nat) (g : Gd) (gn pr : Int32), t < 76 → J B t g gn pr → VT L xs g F B gn pr (nI t) (J B (t + 1)))
    (hE : ∀ (B : Int32) (g : Gd) (gn pr : Int32), J B 76 g gn pr → VC_E L xs g F B gn pr)
    (kend : ∀ (H1 : Heap) (locs1 : List Loc) (cells slots : Nat) (ls1 : Array Slot), va_S (LA0 s) s.heap H1 locs1 → cells ≤ 400000 → slots ≤ 4000000 → W p l e room_1 s m #[Value.ref b] below meth c H1 locs1 cells slots Q (F0 m 1453 ls1 [.int 1])) :
    ∀ (n q : Nat) (g : Gd) (H : Heap) (locs : List Loc) (ls : Array Slot) (cells slots : Nat), q + n = 6 → cells + 200 * n + 30000 ≤ 400000 → slots + 2000 * n + 300000 ≤ 4000000 → LWS D cy ad s g H → va_S (LA0 s) s.heap H locs → JF q g →
      lv_has ls 17 [(3, .int (nI q)), (2, .int F), (1, .ref (ad 0 0)), (0, .ref b)] → W p l e room_1 s m #[Value.ref b] below meth c H locs cells slots Q (F0 m 23 ls []) := by
  have hx := C.hx; have hb := C.hb
  have hout : ∀ (q : Nat) (g : Gd) (H : Heap) (locs : List Loc) (ls : Array Slot) (cells slots : Nat), cells + 30000 ≤ 400000 → slots + 300000 ≤ 4000000 → LWS D cy ad s g H → va_S (LA0 s) s.heap H locs → JF q g → F ≤ nI q →
      lv_has ls 17 [(3, .int (nI q)), (2, .int F), (1, .ref (ad 0 0)), (0, .ref b)] → W p l e room_1 s m #[Value.ref b] below meth c H locs cells slots Q (F0 m 59 ls []) := by
    intro q g H locs ls cells slots hc hs hL hS hq h hl
    refine W_B C hI hB hL hS (by omega) (by omega) (lv_sub hl [1, 2, 3] rfl) (hJB0 q g hq h) (fun B H locs ls hL hS hl hq => ?_)
    refine lv_iconst (v := 0) hx hb dL_law_72 (by decide) ?_
    refine lv_istore (lv' := [(4, .int 0), (3, .int B), (2, .int F), (1, .ref (ad 0 0)), (0, .ref b)]) hx hb dL_law_73 hl (by decide) rfl (fun ls hl => ?_)
    exact law_beds C hI hB hq.1 (hJB B) (hJ0 B) (hJ B) (hE B) kend 4 0 g H locs ls _ _ rfl (by omega) (by omega) hL hS hq.2 hl
  intro n
  induction n with
  | zero =>
    intro q g H locs ls cells slots ht hc hs hL hS hq hl
    refine lv_iload_n hx hb dL_law_23 rfl (lv_at hl 0 rfl) ?_
    refine lv_iload_n hx hb dL_law_24 rfl (lv_at hl 1 rfl) ?_
    refine lv_icmp_ge (tgt := 59) hx hb dL_law_25 (by decide) (fun h => ?_) (fun h => ?_)
    · exact hout q g H locs ls cells slots (by omega) (by omega) hL hS hq h hl
    · have h2 := Int32.lt_iff_toInt_lt.mp (Int32.not_le.mp h)
      rw [nI_toInt (by omega)] at h2
      omega
  | succ n ih =>
    intro q g H locs ls cells slots ht hc hs hL hS hq hl
    refine lv_iload_n hx hb dL_law_23 rfl (lv_at hl 0 rfl) ?_
    refine lv_iload_n hx hb dL_law_24 rfl (lv_at hl 1 rfl) ?_
    refine lv_icmp_ge (tgt := 59) hx hb dL_law_25 (by decide) (fun h => ?_) (fun h => ?_)
    · exact hout q g H locs ls cells slots (by omega) (by omega) hL hS hq h hl
    · have h1 := hJF q g (by omega) hq (Int32.not_le.mp h)
      refine W_FM C hI hB hL hS (by omega) (by omega) hl h1 (fun g H locs ls hL hS hl hq => ?_)
      refine lv_iinc (v := nI (q + 1)) (lv' := [(3, .int (nI (q + 1))), (2, .int F), (1, .ref (ad 0 0)), (0, .ref b)]) hx hb dL_law_53 hl (k := 0) rfl (nI_1 _) (by decide) rfl (fun ls hl => ?_)
      refine lv_goto (tgt := 23) hx hb dL_law_56 (by decide) ?_
      exact ih (q + 1) g H locs ls _ _ (by omega) (by omega) (by omega) hL hS hq hl
end SG
