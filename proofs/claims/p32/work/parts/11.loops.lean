/-! ===== loops: counters, and what a step keeps ===== -/
theorem lk_lt {x : Int32} {k : Nat} (h : ¬ x ≤ nI k) (hk : k < 2147483648) : (k : Int) < x.toInt := by
  have := Int32.lt_iff_toInt_lt.mp (Int32.not_le.mp h)
  rwa [nI_toInt (by omega)] at this
theorem lk_nat {x : Int32} {k N : Nat} (h : ¬ x ≤ nI k) (hc : x.toInt ≤ N) (hk : k < 2147483648) : k < N := by
  have := lk_lt h hk
  omega
theorem lk_le {L k : Nat} {x : Int32} (h : ¬ x < nI k) (hk : k < 2147483648) (hx : x.toInt = L := by decide) : k + 1 ≤ L + 1 := by
  have := Int32.le_iff_toInt_le.mp (Int32.not_lt.mp h)
  rw [nI_toInt (by omega)] at this
  omega
/-- the counts, the baskets' farms, kilos, areas, covers are the same -/
def Kp (g g2 : Gd) : Prop := (∀ c, 7 ≤ c → g2 0 0 c = g 0 0 c) ∧ (∀ b, g2 2 b 0 = g 2 b 0) ∧ ∀ j, g2 3 j 0 = g 3 j 0 ∧ g2 3 j 8 = g 3 j 8 ∧ g2 3 j 9 = g 3 j 9
theorem Kp.rf (g : Gd) : Kp g g := ⟨fun _ _ => rfl, fun _ => rfl, fun _ => ⟨rfl, rfl, rfl⟩⟩
theorem Kp.tr {g g2 g3 : Gd} (h : Kp g g2) (h2 : Kp g2 g3) : Kp g g3 := ⟨fun c hc => (h2.1 c hc).trans (h.1 c hc), fun b => (h2.2.1 b).trans (h.2.1 b), fun j => ⟨(h2.2.2 j).1.trans (h.2.2 j).1, (h2.2.2 j).2.1.trans (h.2.2 j).2.1, (h2.2.2 j).2.2.trans (h.2.2 j).2.2⟩⟩
def kpc (t k : Nat) : Bool := match t with
  | 0 => decide (k < 7)
  | 2 => decide (k ≠ 0)
  | 3 => decide (k ≠ 0) && decide (k ≠ 8) && decide (k ≠ 9)
  | _ => true
theorem Kp.up {g g2 : Gd} {t i k : Nat} {v : Int32} (h : Kp g g2) (hk : kpc t k = true) : Kp g (up g2 t i k v) := by
  refine Kp.tr h ⟨fun c hc => up_ne ?_, fun b => up_ne ?_, fun j => ⟨up_ne ?_, up_ne ?_, up_ne ?_⟩⟩
  · rintro ⟨rfl, rfl, rfl⟩; simp [kpc] at hk; omega
  · rintro ⟨rfl, rfl, rfl⟩; simp [kpc] at hk
  · rintro ⟨rfl, rfl, rfl⟩; simp [kpc] at hk
  · rintro ⟨rfl, rfl, rfl⟩; simp [kpc] at hk
  · rintro ⟨rfl, rfl, rfl⟩; simp [kpc] at hk
theorem Kp.iv {g g2 : Gd} (h : Kp g g2) (hv : IvC g) : IvC g2 := by
  obtain ⟨h1, h2, h3⟩ := h
  unfold IvC fX1_depth at hv ⊢
  simp only [h1 7 (by decide), h1 8 (by decide), h1 9 (by decide), h1 10 (by decide), h2, fun j => (h3 j).1, fun j => (h3 j).2.1, fun j => (h3 j).2.2]
  exact hv
theorem kp_hour (g : Gd) (v : Int32) : Kp g (up g 0 0 0 v) := (Kp.rf g).up rfl
theorem kp_spoils (g : Gd) (b : Nat) : Kp g (fX0_spoilsInHour g b).2 := by
  unfold fX0_spoilsInHour
  split
  · split
    · exact ((Kp.rf g).up rfl).up rfl
    · exact (Kp.rf g).up rfl
  · exact Kp.rf g
theorem kp_tank (g : Gd) (i : Nat) (x : Int32) : Kp g (fX5_passHour g i x) := by
  unfold fX5_passHour
  split
  · exact ((Kp.rf g).up rfl).up rfl
  · exact Kp.rf g
theorem kp_bed (g : Gd) (i : Nat) (h w r : Int32) : Kp g (fX1_passHour g i h w r) := by
  unfold fX1_passHour
  repeat' split
  all_goals first | exact ((Kp.rf g).up rfl).up rfl | exact (((Kp.rf g).up rfl).up rfl).up rfl | exact Kp.rf g
def fX6_lotsInStore_L4 (g : Gd) : Nat → Nat → Int32 → Int32
  | 0, k, a => a
  | n + 1, k, a => if (g 0 0 10) ≤ (nI k) then (a) else (if (g 3 (8 + k) 10) = 0 then (fX6_lotsInStore_L4 g n (k + 1) a) else (fX6_lotsInStore_L4 g n (k + 1) (a + 1)))
def fX6_lotsInStore (g : Gd) : Int32 := fX6_lotsInStore_L4 g 13 0 0
theorem qX6_lotsInStore_w1 : Cond.fieldLink RX6 58 "CherryStation" "lotCount" "I" ∈ wsX6_lotsInStore := List.mem_of_getElem? (i := 1) rfl
theorem qX6_lotsInStore_w2 : Cond.fieldLink RX6 35 "CherryStation" "lots" "[LCherryStation$Lot;" ∈ wsX6_lotsInStore := List.mem_of_getElem? (i := 2) rfl
theorem qX6_lotsInStore_w3 : Cond.fieldLink RX6 231 "CherryStation$Lot" "isInStore" "Z" ∈ wsX6_lotsInStore := List.mem_of_getElem? (i := 3) rfl
theorem iX6_lotsInStore_X3 : ∀ w ∈ wsX30, w ∈ wsX6_lotsInStore := fun _ h => (List.mem_cons_of_mem _ (List.mem_append_right _ h))
theorem iX6_lotsInStore_X6 : ∀ w ∈ wsX60, w ∈ wsX6_lotsInStore := fun _ h => (List.mem_cons_of_mem _ (List.mem_append_left _ (List.mem_append_right _ h)))
set_option maxRecDepth 100000 in
set_option maxHeartbeats 4000000 in
theorem kX6_lotsInStore_L4 (l : Launch) (D : va_G) (cy : Nat → ClassId) {ad : Nat → Nat → Nat} (hI : cI ad) (g : Gd) (hv : IvC g)  {p : Program} {e : Env} {s : State} {m : MethodId} {below : List Frame} {meth : Method} {c : Code} {Q : State → Prop} (hx : p.tables.exec = Jvm.exec) (hb : c.code = cX6_lotsInStore) (hr : meth.sig.returnType = (some .int)) (hml : c.maxLocals = 3) (hts : ∀ w ∈ wsX6_lotsInStore, w.before [.ref (ad 0 0)].toArray s = true) (hown : s.vm.findClass RX6 = some m.cls) (hlocks : meth.locks = false) (hB : CB D cy ad s) : ∀ (n k : Nat) (a : Int32) (hn : k + n = 13) (hk : (k : Int) ≤ (g 0 0 10).toInt) (hc1 : (g 0 0 10).toInt ≤ 12)   (H : Heap) (locs : List Loc) (ls : Array Slot) (hC : CW D cy ad g H) (hS : va_S (cA ad s.heap.size) s.heap H locs) (hl : lv_has ls 3 [(2, .int (nI k)), (1, .int a), (0, .ref (ad 0 0))]) (kk : ∀ (H : Heap) (locs : List Loc) (ls : Array Slot), CW D cy ad g H → va_S (cA ad s.heap.size) s.heap H locs → lv_has ls 3 [(1, .int (fX6_lotsInStore_L4 g n k a)), (0, .ref (ad 0 0))] → W p l e ({ frames := 0, cells := 0, slots := 0, locals := 0 } : Room) s m [.ref (ad 0 0)].toArray below meth c H locs 0 0 Q (F0 m 33 ls [])), W p l e ({ frames := 0, cells := 0, slots := 0, locals := 0 } : Room) s m [.ref (ad 0 0)].toArray below meth c H locs 0 0 Q (F0 m 4 ls []) := by
  have hA : ∀ κ i : Nat, cV κ i → cA ad s.heap.size (ad κ i) := fun κ i h => Or.inl ⟨κ, i, h, rfl⟩
  intro n
  induction n with
  | zero => intro k a hn hk hc1 H locs ls hC hS hl kk; exact absurd hk (by omega)
  | succ n ih =>
    intro k a hn hk hc1 H locs ls hC hS hl kk
    refine lv_iload_n hx hb dX6_lotsInStore_4 rfl (lv_at hl 0 rfl) ?_
    refine lv_aload_n hx hb dX6_lotsInStore_5 rfl (lv_at hl 2 rfl) ?_
    refine gt_0_10 hx hb hts iX6_lotsInStore_X6 hown hB.1 hC qX6_lotsInStore_w1 dX6_lotsInStore_6 ?_
    refine lv_icmp_ge (tgt := 33) hx hb dX6_lotsInStore_9 (by decide) (fun c1 => ?_) (fun c1 => ?_)
    · skip
      have e9 : fX6_lotsInStore_L4 g (n + 1) k a = a := by rw [fX6_lotsInStore_L4, if_pos c1]
      rw [e9] at kk
      exact kk H locs ls hC hS (lv_sub hl [1, 2] rfl)
    · skip
      refine lv_aload_n hx hb dX6_lotsInStore_12 rfl (lv_at hl 2 rfl) ?_
      refine gt_0_4 hx hb hts iX6_lotsInStore_X6 hown hB.1 hC qX6_lotsInStore_w2 dX6_lotsInStore_13 ?_
      refine lv_iload_n hx hb dX6_lotsInStore_16 rfl (lv_at hl 0 rfl) ?_
      have hk_k : k < 12 := lk_nat c1 hc1 (by omega)
      refine la_14 hx hb hB.1 hC (k := k) (nI_clamp (by omega)) (vp_in_nI (by omega) (by decide)) dX6_lotsInStore_17 ?_
      refine gt_5_2 hx hb hts iX6_lotsInStore_X3 hown hB.1 hC (by omega) qX6_lotsInStore_w3 dX6_lotsInStore_18 ?_
      refine lv_if_eq (tgt := 27) hx hb dX6_lotsInStore_21 (by decide) (fun c2 => ?_) (fun c2 => ?_)
      · skip
        refine lv_iinc (v := nI (k + 1)) (lv' := [(2, .int (nI (k + 1))), (1, .int a), (0, .ref (ad 0 0))]) hx hb dX6_lotsInStore_27 hl (k := 0) rfl (nI_1 _) (by decide) rfl (fun ls hl => ?_)
        refine lv_goto (tgt := 4) hx hb dX6_lotsInStore_30 (by decide) ?_
        have e9 : fX6_lotsInStore_L4 g (n + 1) k a = fX6_lotsInStore_L4 g n (k + 1) a := by rw [fX6_lotsInStore_L4, if_neg c1, if_pos c2]
        rw [e9] at kk
        exact ih (k + 1) a (by omega) (by have q9 := lk_lt c1 (by omega); omega) hc1  H locs ls hC hS (lv_sub hl [0, 1, 2] rfl) kk
      · skip
        refine lv_iinc (v := a + 1) (lv' := [(1, .int (a + 1)), (2, .int (nI k)), (0, .ref (ad 0 0))]) hx hb dX6_lotsInStore_24 hl (k := 1) rfl rfl (by decide) rfl (fun ls hl => ?_)
        refine lv_iinc (v := nI (k + 1)) (lv' := [(2, .int (nI (k + 1))), (1, .int (a + 1)), (0, .ref (ad 0 0))]) hx hb dX6_lotsInStore_27 hl (k := 1) rfl (nI_1 _) (by decide) rfl (fun ls hl => ?_)
        refine lv_goto (tgt := 4) hx hb dX6_lotsInStore_30 (by decide) ?_
        have e9 : fX6_lotsInStore_L4 g (n + 1) k a = fX6_lotsInStore_L4 g n (k + 1) (a + 1) := by rw [fX6_lotsInStore_L4, if_neg c1, if_neg c2]
        rw [e9] at kk
        exact ih (k + 1) (a + 1) (by omega) (by have q9 := lk_lt c1 (by omega); omega) hc1  H locs ls hC hS (lv_sub hl [0, 1, 2] rfl) kk
set_option maxRecDepth 100000 in
set_option maxHeartbeats 4000000 in
theorem kX6_lotsInStore (l : Launch) (D : va_G) (cy : Nat → ClassId) {ad : Nat → Nat → Nat} (hI : cI ad) (g : Gd) (sz : Nat) (hv : IvC g) : Met l yX6_lotsInStore wsX6_lotsInStore ({ frames := 0, cells := 0, slots := 0, locals := 0 } : Room) (va_Pc [.ref (ad 0 0)] (cPre D cy ad g sz)) (cQi D cy ad (fX6_lotsInStore g) g sz) 0 0 (cA ad sz) := by
  refine q_start (cc := cX6_lotsInStore) (maxL := 3) (ret := (some .int)) (own := RX6) (by decide) rfl rfl (Nat.le_of_ble_eq_true rfl) ?_
  intro p e s m below meth c hx hb hr hml hts hown hlocks ⟨hsz, hC, hB⟩ ls hl
  subst hsz
  have hS : va_S (cA ad s.heap.size) s.heap s.heap [] := va_S.rf
  have hA : ∀ κ i : Nat, cV κ i → cA ad s.heap.size (ad κ i) := fun κ i h => Or.inl ⟨κ, i, h, rfl⟩
  have hl : lv_has ls 3 [(0, .ref (ad 0 0))] := hl
  refine lv_iconst (v := 0) hx hb dX6_lotsInStore_0 (by decide) ?_
  refine lv_istore_n (lv' := [(1, .int 0), (0, .ref (ad 0 0))]) hx hb dX6_lotsInStore_1 rfl hl (by decide) rfl (fun ls hl => ?_)
  refine lv_iconst (v := 0) hx hb dX6_lotsInStore_2 (by decide) ?_
  refine lv_istore_n (lv' := [(2, .int 0), (1, .int 0), (0, .ref (ad 0 0))]) hx hb dX6_lotsInStore_3 rfl hl (by decide) rfl (fun ls hl => ?_)
  refine kX6_lotsInStore_L4 l D cy hI g  hv  hx hb hr hml hts hown hlocks hB 13 0 0 (by omega) (by have := (IvC.n10 hv).1; omega) (IvC.n10 hv).2  _ _ ls hC hS (lv_sub hl [0, 1, 2] rfl) (fun H locs ls hC hS hl => ?_)
  refine lv_iload_n hx hb dX6_lotsInStore_33 rfl (lv_at hl 0 rfl) ?_
  exact q_reti hx hb hr hB hC hS rfl rfl hlocks dX6_lotsInStore_34
def fX6_allKilosInStore_L4 (g : Gd) : Nat → Nat → Int32 → Int32
  | 0, k, a => a
  | n + 1, k, a => if (g 0 0 10) ≤ (nI k) then (a) else (if (g 3 (8 + k) 10) = 0 then (fX6_allKilosInStore_L4 g n (k + 1) a) else (fX6_allKilosInStore_L4 g n (k + 1) (a + (g 3 (8 + k) 0))))
def fX6_allKilosInStore (g : Gd) : Int32 := fX6_allKilosInStore_L4 g 13 0 0
theorem qX6_allKilosInStore_w1 : Cond.fieldLink RX6 58 "CherryStation" "lotCount" "I" ∈ wsX6_allKilosInStore := List.mem_of_getElem? (i := 1) rfl
theorem qX6_allKilosInStore_w2 : Cond.fieldLink RX6 35 "CherryStation" "lots" "[LCherryStation$Lot;" ∈ wsX6_allKilosInStore := List.mem_of_getElem? (i := 2) rfl
theorem qX6_allKilosInStore_w3 : Cond.fieldLink RX6 231 "CherryStation$Lot" "isInStore" "Z" ∈ wsX6_allKilosInStore := List.mem_of_getElem? (i := 3) rfl
theorem qX6_allKilosInStore_w4 : Cond.fieldLink RX6 219 "CherryStation$Lot" "mix" "LCherryStation$Mix;" ∈ wsX6_allKilosInStore := List.mem_of_getElem? (i := 4) rfl
theorem qX6_allKilosInStore_w5 : Cond.fieldLink RX6 171 "CherryStation$Mix" "kilos" "I" ∈ wsX6_allKilosInStore := List.mem_of_getElem? (i := 5) rfl
theorem iX6_allKilosInStore_X3 : ∀ w ∈ wsX30, w ∈ wsX6_allKilosInStore := fun _ h => (List.mem_cons_of_mem _ (List.mem_append_left _ (List.mem_append_right _ h)))
theorem iX6_allKilosInStore_X4 : ∀ w ∈ wsX40, w ∈ wsX6_allKilosInStore := fun _ h => (List.mem_cons_of_mem _ (List.mem_append_right _ h))
theorem iX6_allKilosInStore_X6 : ∀ w ∈ wsX60, w ∈ wsX6_allKilosInStore := fun _ h => (List.mem_cons_of_mem _ (List.mem_append_left _ (List.mem_append_left _ (List.mem_append_right _ h))))
set_option maxRecDepth 100000 in
set_option maxHeartbeats 4000000 in
theorem kX6_allKilosInStore_L4 (l : Launch) (D : va_G) (cy : Nat → ClassId) {ad : Nat → Nat → Nat} (hI : cI ad) (g : Gd) (hv : IvC g)  {p : Program} {e : Env} {s : State} {m : MethodId} {below : List Frame} {meth : Method} {c : Code} {Q : State → Prop} (hx : p.tables.exec = Jvm.exec) (hb : c.code = cX6_allKilosInStore) (hr : meth.sig.returnType = (some .int)) (hml : c.maxLocals = 3) (hts : ∀ w ∈ wsX6_allKilosInStore, w.before [.ref (ad 0 0)].toArray s = true) (hown : s.vm.findClass RX6 = some m.cls) (hlocks : meth.locks = false) (hB : CB D cy ad s) : ∀ (n k : Nat) (a : Int32) (hn : k + n = 13) (hk : (k : Int) ≤ (g 0 0 10).toInt) (hc1 : (g 0 0 10).toInt ≤ 12)   (H : Heap) (locs : List Loc) (ls : Array Slot) (hC : CW D cy ad g H) (hS : va_S (cA ad s.heap.size) s.heap H locs) (hl : lv_has ls 3 [(2, .int (nI k)), (1, .int a), (0, .ref (ad 0 0))]) (kk : ∀ (H : Heap) (locs : List Loc) (ls : Array Slot), CW D cy ad g H → va_S (cA ad s.heap.size) s.heap H locs → lv_has ls 3 [(1, .int (fX6_allKilosInStore_L4 g n k a)), (0, .ref (ad 0 0))] → W p l e ({ frames := 0, cells := 0, slots := 0, locals := 0 } : Room) s m [.ref (ad 0 0)].toArray below meth c H locs 0 0 Q (F0 m 45 ls [])), W p l e ({ frames := 0, cells := 0, slots := 0, locals := 0 } : Room) s m [.ref (ad 0 0)].toArray below meth c H locs 0 0 Q (F0 m 4 ls []) := by
  have hA : ∀ κ i : Nat, cV κ i → cA ad s.heap.size (ad κ i) := fun κ i h => Or.inl ⟨κ, i, h, rfl⟩
  intro n
  induction n with
  | zero => intro k a hn hk hc1 H locs ls hC hS hl kk; exact absurd hk (by omega)
  | succ n ih =>
    intro k a hn hk hc1 H locs ls hC hS hl kk
    refine lv_iload_n hx hb dX6_allKilosInStore_4 rfl (lv_at hl 0 rfl) ?_
    refine lv_aload_n hx hb dX6_allKilosInStore_5 rfl (lv_at hl 2 rfl) ?_
    refine gt_0_10 hx hb hts iX6_allKilosInStore_X6 hown hB.1 hC qX6_allKilosInStore_w1 dX6_allKilosInStore_6 ?_
    refine lv_icmp_ge (tgt := 45) hx hb dX6_allKilosInStore_9 (by decide) (fun c1 => ?_) (fun c1 => ?_)
    · skip
      have e9 : fX6_allKilosInStore_L4 g (n + 1) k a = a := by rw [fX6_allKilosInStore_L4, if_pos c1]
      rw [e9] at kk
      exact kk H locs ls hC hS (lv_sub hl [1, 2] rfl)
    · skip
      refine lv_aload_n hx hb dX6_allKilosInStore_12 rfl (lv_at hl 2 rfl) ?_
      refine gt_0_4 hx hb hts iX6_allKilosInStore_X6 hown hB.1 hC qX6_allKilosInStore_w2 dX6_allKilosInStore_13 ?_
      refine lv_iload_n hx hb dX6_allKilosInStore_16 rfl (lv_at hl 0 rfl) ?_
      have hk_k : k < 12 := lk_nat c1 hc1 (by omega)
      refine la_14 hx hb hB.1 hC (k := k) (nI_clamp (by omega)) (vp_in_nI (by omega) (by decide)) dX6_allKilosInStore_17 ?_
      refine gt_5_2 hx hb hts iX6_allKilosInStore_X3 hown hB.1 hC (by omega) qX6_allKilosInStore_w3 dX6_allKilosInStore_18 ?_
      refine lv_if_eq (tgt := 39) hx hb dX6_allKilosInStore_21 (by decide) (fun c2 => ?_) (fun c2 => ?_)
      · skip
        refine lv_iinc (v := nI (k + 1)) (lv' := [(2, .int (nI (k + 1))), (1, .int a), (0, .ref (ad 0 0))]) hx hb dX6_allKilosInStore_39 hl (k := 0) rfl (nI_1 _) (by decide) rfl (fun ls hl => ?_)
        refine lv_goto (tgt := 4) hx hb dX6_allKilosInStore_42 (by decide) ?_
        have e9 : fX6_allKilosInStore_L4 g (n + 1) k a = fX6_allKilosInStore_L4 g n (k + 1) a := by rw [fX6_allKilosInStore_L4, if_neg c1, if_pos c2]
        rw [e9] at kk
        exact ih (k + 1) a (by omega) (by have q9 := lk_lt c1 (by omega); omega) hc1  H locs ls hC hS (lv_sub hl [0, 1, 2] rfl) kk
      · skip
        refine lv_iload_n hx hb dX6_allKilosInStore_24 rfl (lv_at hl 1 rfl) ?_
        refine lv_aload_n hx hb dX6_allKilosInStore_25 rfl (lv_at hl 2 rfl) ?_
        refine gt_0_4 hx hb hts iX6_allKilosInStore_X6 hown hB.1 hC qX6_allKilosInStore_w2 dX6_allKilosInStore_26 ?_
        refine lv_iload_n hx hb dX6_allKilosInStore_29 rfl (lv_at hl 0 rfl) ?_
        refine la_14 hx hb hB.1 hC (k := k) (nI_clamp (by omega)) (vp_in_nI (by omega) (by decide)) dX6_allKilosInStore_30 ?_
        refine gt_5_0 hx hb hts iX6_allKilosInStore_X3 hown hB.1 hC (by omega) qX6_allKilosInStore_w4 dX6_allKilosInStore_31 ?_
        refine gt_6_2 hx hb hts iX6_allKilosInStore_X4 hown hB.1 hC (by omega) qX6_allKilosInStore_w5 dX6_allKilosInStore_34 ?_
        refine lv_iadd hx hb dX6_allKilosInStore_37 ?_
        refine lv_istore_n (lv' := [(1, .int (a + (g 3 (8 + k) 0))), (2, .int (nI k)), (0, .ref (ad 0 0))]) hx hb dX6_allKilosInStore_38 rfl hl (by decide) rfl (fun ls hl => ?_)
        refine lv_iinc (v := nI (k + 1)) (lv' := [(2, .int (nI (k + 1))), (1, .int (a + (g 3 (8 + k) 0))), (0, .ref (ad 0 0))]) hx hb dX6_allKilosInStore_39 hl (k := 1) rfl (nI_1 _) (by decide) rfl (fun ls hl => ?_)
        refine lv_goto (tgt := 4) hx hb dX6_allKilosInStore_42 (by decide) ?_
        have e9 : fX6_allKilosInStore_L4 g (n + 1) k a = fX6_allKilosInStore_L4 g n (k + 1) (a + (g 3 (8 + k) 0)) := by rw [fX6_allKilosInStore_L4, if_neg c1, if_neg c2]
        rw [e9] at kk
        exact ih (k + 1) (a + (g 3 (8 + k) 0)) (by omega) (by have q9 := lk_lt c1 (by omega); omega) hc1  H locs ls hC hS (lv_sub hl [0, 1, 2] rfl) kk
set_option maxRecDepth 100000 in
set_option maxHeartbeats 4000000 in
theorem kX6_allKilosInStore (l : Launch) (D : va_G) (cy : Nat → ClassId) {ad : Nat → Nat → Nat} (hI : cI ad) (g : Gd) (sz : Nat) (hv : IvC g) : Met l yX6_allKilosInStore wsX6_allKilosInStore ({ frames := 0, cells := 0, slots := 0, locals := 0 } : Room) (va_Pc [.ref (ad 0 0)] (cPre D cy ad g sz)) (cQi D cy ad (fX6_allKilosInStore g) g sz) 0 0 (cA ad sz) := by
  refine q_start (cc := cX6_allKilosInStore) (maxL := 3) (ret := (some .int)) (own := RX6) (by decide) rfl rfl (Nat.le_of_ble_eq_true rfl) ?_
  intro p e s m below meth c hx hb hr hml hts hown hlocks ⟨hsz, hC, hB⟩ ls hl
  subst hsz
  have hS : va_S (cA ad s.heap.size) s.heap s.heap [] := va_S.rf
  have hA : ∀ κ i : Nat, cV κ i → cA ad s.heap.size (ad κ i) := fun κ i h => Or.inl ⟨κ, i, h, rfl⟩
  have hl : lv_has ls 3 [(0, .ref (ad 0 0))] := hl
  refine lv_iconst (v := 0) hx hb dX6_allKilosInStore_0 (by decide) ?_
  refine lv_istore_n (lv' := [(1, .int 0), (0, .ref (ad 0 0))]) hx hb dX6_allKilosInStore_1 rfl hl (by decide) rfl (fun ls hl => ?_)
  refine lv_iconst (v := 0) hx hb dX6_allKilosInStore_2 (by decide) ?_
  refine lv_istore_n (lv' := [(2, .int 0), (1, .int 0), (0, .ref (ad 0 0))]) hx hb dX6_allKilosInStore_3 rfl hl (by decide) rfl (fun ls hl => ?_)
  refine kX6_allKilosInStore_L4 l D cy hI g  hv  hx hb hr hml hts hown hlocks hB 13 0 0 (by omega) (by have := (IvC.n10 hv).1; omega) (IvC.n10 hv).2  _ _ ls hC hS (lv_sub hl [0, 1, 2] rfl) (fun H locs ls hC hS hl => ?_)
  refine lv_iload_n hx hb dX6_allKilosInStore_45 rfl (lv_at hl 0 rfl) ?_
  exact q_reti hx hb hr hB hC hS rfl rfl hlocks dX6_allKilosInStore_46
def fX6_kilosInStore_L4 (g : Gd) (x : Int32) : Nat → Nat → Int32 → Int32
  | 0, k, a => a
  | n + 1, k, a => if (g 0 0 10) ≤ (nI k) then (a) else (if (g 3 (8 + k) 10) = 0 then (fX6_kilosInStore_L4 g x n (k + 1) a) else (fX6_kilosInStore_L4 g x n (k + 1) (a + (g 4 (8 + k) x.toNatClampNeg))))
def fX6_kilosInStore (g : Gd) (x : Int32) : Int32 := fX6_kilosInStore_L4 g x 13 0 0
theorem qX6_kilosInStore_w1 : Cond.fieldLink RX6 58 "CherryStation" "lotCount" "I" ∈ wsX6_kilosInStore := List.mem_of_getElem? (i := 1) rfl
theorem qX6_kilosInStore_w2 : Cond.fieldLink RX6 35 "CherryStation" "lots" "[LCherryStation$Lot;" ∈ wsX6_kilosInStore := List.mem_of_getElem? (i := 2) rfl
theorem qX6_kilosInStore_w3 : Cond.fieldLink RX6 231 "CherryStation$Lot" "isInStore" "Z" ∈ wsX6_kilosInStore := List.mem_of_getElem? (i := 3) rfl
theorem qX6_kilosInStore_w4 : Cond.fieldLink RX6 219 "CherryStation$Lot" "mix" "LCherryStation$Mix;" ∈ wsX6_kilosInStore := List.mem_of_getElem? (i := 4) rfl
theorem qX6_kilosInStore_w5 : Cond.fieldLink RX6 325 "CherryStation$Mix" "kilosBy" "[I" ∈ wsX6_kilosInStore := List.mem_of_getElem? (i := 5) rfl
theorem iX6_kilosInStore_X3 : ∀ w ∈ wsX30, w ∈ wsX6_kilosInStore := fun _ h => (List.mem_cons_of_mem _ (List.mem_append_left _ (List.mem_append_right _ h)))
theorem iX6_kilosInStore_X4 : ∀ w ∈ wsX40, w ∈ wsX6_kilosInStore := fun _ h => (List.mem_cons_of_mem _ (List.mem_append_right _ h))
theorem iX6_kilosInStore_X6 : ∀ w ∈ wsX60, w ∈ wsX6_kilosInStore := fun _ h => (List.mem_cons_of_mem _ (List.mem_append_left _ (List.mem_append_left _ (List.mem_append_right _ h))))
set_option maxRecDepth 100000 in
set_option maxHeartbeats 4000000 in
theorem kX6_kilosInStore_L4 (l : Launch) (D : va_G) (cy : Nat → ClassId) {ad : Nat → Nat → Nat} (hI : cI ad) (g : Gd) (x : Int32) (hv : IvC g) (hf : vp_in x 6)  {p : Program} {e : Env} {s : State} {m : MethodId} {below : List Frame} {meth : Method} {c : Code} {Q : State → Prop} (hx : p.tables.exec = Jvm.exec) (hb : c.code = cX6_kilosInStore) (hr : meth.sig.returnType = (some .int)) (hml : c.maxLocals = 4) (hts : ∀ w ∈ wsX6_kilosInStore, w.before [.ref (ad 0 0), .int x].toArray s = true) (hown : s.vm.findClass RX6 = some m.cls) (hlocks : meth.locks = false) (hB : CB D cy ad s) : ∀ (n k : Nat) (a : Int32) (hn : k + n = 13) (hk : (k : Int) ≤ (g 0 0 10).toInt) (hc1 : (g 0 0 10).toInt ≤ 12)   (H : Heap) (locs : List Loc) (ls : Array Slot) (hC : CW D cy ad g H) (hS : va_S (cA ad s.heap.size) s.heap H locs) (hl : lv_has ls 4 [(3, .int (nI k)), (2, .int a), (0, .ref (ad 0 0)), (1, .int x)]) (kk : ∀ (H : Heap) (locs : List Loc) (ls : Array Slot), CW D cy ad g H → va_S (cA ad s.heap.size) s.heap H locs → lv_has ls 4 [(2, .int (fX6_kilosInStore_L4 g x n k a)), (0, .ref (ad 0 0)), (1, .int x)] → W p l e ({ frames := 0, cells := 0, slots := 0, locals := 0 } : Room) s m [.ref (ad 0 0), .int x].toArray below meth c H locs 0 0 Q (F0 m 47 ls [])), W p l e ({ frames := 0, cells := 0, slots := 0, locals := 0 } : Room) s m [.ref (ad 0 0), .int x].toArray below meth c H locs 0 0 Q (F0 m 4 ls []) := by
  have hA : ∀ κ i : Nat, cV κ i → cA ad s.heap.size (ad κ i) := fun κ i h => Or.inl ⟨κ, i, h, rfl⟩
  intro n
  induction n with
  | zero => intro k a hn hk hc1 H locs ls hC hS hl kk; exact absurd hk (by omega)
  | succ n ih =>
    intro k a hn hk hc1 H locs ls hC hS hl kk
    refine lv_iload_n hx hb dX6_kilosInStore_4 rfl (lv_at hl 0 rfl) ?_
    refine lv_aload_n hx hb dX6_kilosInStore_5 rfl (lv_at hl 2 rfl) ?_
    refine gt_0_10 hx hb hts iX6_kilosInStore_X6 hown hB.1 hC qX6_kilosInStore_w1 dX6_kilosInStore_6 ?_
    refine lv_icmp_ge (tgt := 47) hx hb dX6_kilosInStore_9 (by decide) (fun c1 => ?_) (fun c1 => ?_)
    · skip
      have e9 : fX6_kilosInStore_L4 g x (n + 1) k a = a := by rw [fX6_kilosInStore_L4, if_pos c1]
      rw [e9] at kk
      exact kk H locs ls hC hS (lv_sub hl [1, 2, 3] rfl)
    · skip
      refine lv_aload_n hx hb dX6_kilosInStore_12 rfl (lv_at hl 2 rfl) ?_
      refine gt_0_4 hx hb hts iX6_kilosInStore_X6 hown hB.1 hC qX6_kilosInStore_w2 dX6_kilosInStore_13 ?_
      refine lv_iload_n hx hb dX6_kilosInStore_16 rfl (lv_at hl 0 rfl) ?_
      have hk_k : k < 12 := lk_nat c1 hc1 (by omega)
      refine la_14 hx hb hB.1 hC (k := k) (nI_clamp (by omega)) (vp_in_nI (by omega) (by decide)) dX6_kilosInStore_17 ?_
      refine gt_5_2 hx hb hts iX6_kilosInStore_X3 hown hB.1 hC (by omega) qX6_kilosInStore_w3 dX6_kilosInStore_18 ?_
      refine lv_if_eq (tgt := 41) hx hb dX6_kilosInStore_21 (by decide) (fun c2 => ?_) (fun c2 => ?_)
      · skip
        refine lv_iinc (v := nI (k + 1)) (lv' := [(3, .int (nI (k + 1))), (2, .int a), (0, .ref (ad 0 0)), (1, .int x)]) hx hb dX6_kilosInStore_41 hl (k := 0) rfl (nI_1 _) (by decide) rfl (fun ls hl => ?_)
        refine lv_goto (tgt := 4) hx hb dX6_kilosInStore_44 (by decide) ?_
        have e9 : fX6_kilosInStore_L4 g x (n + 1) k a = fX6_kilosInStore_L4 g x n (k + 1) a := by rw [fX6_kilosInStore_L4, if_neg c1, if_pos c2]
        rw [e9] at kk
        exact ih (k + 1) a (by omega) (by have q9 := lk_lt c1 (by omega); omega) hc1  H locs ls hC hS (lv_sub hl [0, 1, 2, 3] rfl) kk
      · skip
        refine lv_iload_n hx hb dX6_kilosInStore_24 rfl (lv_at hl 1 rfl) ?_
        refine lv_aload_n hx hb dX6_kilosInStore_25 rfl (lv_at hl 2 rfl) ?_
        refine gt_0_4 hx hb hts iX6_kilosInStore_X6 hown hB.1 hC qX6_kilosInStore_w2 dX6_kilosInStore_26 ?_
        refine lv_iload_n hx hb dX6_kilosInStore_29 rfl (lv_at hl 0 rfl) ?_
        refine la_14 hx hb hB.1 hC (k := k) (nI_clamp (by omega)) (vp_in_nI (by omega) (by decide)) dX6_kilosInStore_30 ?_
        refine gt_5_0 hx hb hts iX6_kilosInStore_X3 hown hB.1 hC (by omega) qX6_kilosInStore_w4 dX6_kilosInStore_31 ?_
        refine gt_6_0 hx hb hts iX6_kilosInStore_X4 hown hB.1 hC (by omega) qX6_kilosInStore_w5 dX6_kilosInStore_34 ?_
        refine lv_iload_n hx hb dX6_kilosInStore_37 rfl (lv_at hl 3 rfl) ?_
        refine ld_7 hx hb hB.1 hC (by omega) (k := x.toNatClampNeg) rfl hf dX6_kilosInStore_38 ?_
        refine lv_iadd hx hb dX6_kilosInStore_39 ?_
        refine lv_istore_n (lv' := [(2, .int (a + (g 4 (8 + k) x.toNatClampNeg))), (3, .int (nI k)), (0, .ref (ad 0 0)), (1, .int x)]) hx hb dX6_kilosInStore_40 rfl hl (by decide) rfl (fun ls hl => ?_)
        refine lv_iinc (v := nI (k + 1)) (lv' := [(3, .int (nI (k + 1))), (2, .int (a + (g 4 (8 + k) x.toNatClampNeg))), (0, .ref (ad 0 0)), (1, .int x)]) hx hb dX6_kilosInStore_41 hl (k := 1) rfl (nI_1 _) (by decide) rfl (fun ls hl => ?_)
        refine lv_goto (tgt := 4) hx hb dX6_kilosInStore_44 (by decide) ?_
        have e9 : fX6_kilosInStore_L4 g x (n + 1) k a = fX6_kilosInStore_L4 g x n (k + 1) (a + (g 4 (8 + k) x.toNatClampNeg)) := by rw [fX6_kilosInStore_L4, if_neg c1, if_neg c2]
        rw [e9] at kk
        exact ih (k + 1) (a + (g 4 (8 + k) x.toNatClampNeg)) (by omega) (by have q9 := lk_lt c1 (by omega); omega) hc1  H locs ls hC hS (lv_sub hl [0, 1, 2, 3] rfl) kk
set_option maxRecDepth 100000 in
set_option maxHeartbeats 4000000 in
theorem kX6_kilosInStore (l : Launch) (D : va_G) (cy : Nat → ClassId) {ad : Nat → Nat → Nat} (hI : cI ad) (g : Gd) (sz : Nat) (x : Int32) (hv : IvC g) (hf : vp_in x 6) : Met l yX6_kilosInStore wsX6_kilosInStore ({ frames := 0, cells := 0, slots := 0, locals := 0 } : Room) (va_Pc [.ref (ad 0 0), .int x] (cPre D cy ad g sz)) (cQi D cy ad (fX6_kilosInStore g x) g sz) 0 0 (cA ad sz) := by
  refine q_start (cc := cX6_kilosInStore) (maxL := 4) (ret := (some .int)) (own := RX6) (by decide) rfl rfl (Nat.le_of_ble_eq_true rfl) ?_
  intro p e s m below meth c hx hb hr hml hts hown hlocks ⟨hsz, hC, hB⟩ ls hl
  subst hsz
  have hS : va_S (cA ad s.heap.size) s.heap s.heap [] := va_S.rf
  have hA : ∀ κ i : Nat, cV κ i → cA ad s.heap.size (ad κ i) := fun κ i h => Or.inl ⟨κ, i, h, rfl⟩
  have hl : lv_has ls 4 [(0, .ref (ad 0 0)), (1, .int x)] := hl
  refine lv_iconst (v := 0) hx hb dX6_kilosInStore_0 (by decide) ?_
  refine lv_istore_n (lv' := [(2, .int 0), (0, .ref (ad 0 0)), (1, .int x)]) hx hb dX6_kilosInStore_1 rfl hl (by decide) rfl (fun ls hl => ?_)
  refine lv_iconst (v := 0) hx hb dX6_kilosInStore_2 (by decide) ?_
  refine lv_istore_n (lv' := [(3, .int 0), (2, .int 0), (0, .ref (ad 0 0)), (1, .int x)]) hx hb dX6_kilosInStore_3 rfl hl (by decide) rfl (fun ls hl => ?_)
  refine kX6_kilosInStore_L4 l D cy hI g x  hv hf  hx hb hr hml hts hown hlocks hB 13 0 0 (by omega) (by have := (IvC.n10 hv).1; omega) (IvC.n10 hv).2  _ _ ls hC hS (lv_sub hl [0, 1, 2, 3] rfl) (fun H locs ls hC hS hl => ?_)
  refine lv_iload_n hx hb dX6_kilosInStore_47 rfl (lv_at hl 0 rfl) ?_
  exact q_reti hx hb hr hB hC hS rfl rfl hlocks dX6_kilosInStore_48
def fX6_waitingKilos_L4 (g : Gd) : Nat → Nat → Int32 → Int32
  | 0, k, a => a
  | n + 1, k, a => if (g 0 0 8) ≤ (nI k) then (a) else (if (g 2 k 3) = 0 then (fX6_waitingKilos_L4 g n (k + 1) (a + (g 2 k 1))) else (fX6_waitingKilos_L4 g n (k + 1) a))
def fX6_waitingKilos (g : Gd) : Int32 := fX6_waitingKilos_L4 g 21 0 0
theorem qX6_waitingKilos_w1 : Cond.fieldLink RX6 52 "CherryStation" "basketCount" "I" ∈ wsX6_waitingKilos := List.mem_of_getElem? (i := 1) rfl
theorem qX6_waitingKilos_w2 : Cond.fieldLink RX6 17 "CherryStation" "baskets" "[LCherryStation$Basket;" ∈ wsX6_waitingKilos := List.mem_of_getElem? (i := 2) rfl
theorem qX6_waitingKilos_w3 : Cond.fieldLink RX6 152 "CherryStation$Basket" "state" "I" ∈ wsX6_waitingKilos := List.mem_of_getElem? (i := 3) rfl
theorem qX6_waitingKilos_w4 : Cond.fieldLink RX6 149 "CherryStation$Basket" "kilos" "I" ∈ wsX6_waitingKilos := List.mem_of_getElem? (i := 4) rfl
theorem iX6_waitingKilos_X0 : ∀ w ∈ wsX00, w ∈ wsX6_waitingKilos := fun _ h => (List.mem_cons_of_mem _ (List.mem_append_right _ h))
theorem iX6_waitingKilos_X6 : ∀ w ∈ wsX60, w ∈ wsX6_waitingKilos := fun _ h => (List.mem_cons_of_mem _ (List.mem_append_left _ (List.mem_append_right _ h)))
set_option maxRecDepth 100000 in
set_option maxHeartbeats 4000000 in
theorem kX6_waitingKilos_L4 (l : Launch) (D : va_G) (cy : Nat → ClassId) {ad : Nat → Nat → Nat} (hI : cI ad) (g : Gd) (hv : IvC g)  {p : Program} {e : Env} {s : State} {m : MethodId} {below : List Frame} {meth : Method} {c : Code} {Q : State → Prop} (hx : p.tables.exec = Jvm.exec) (hb : c.code = cX6_waitingKilos) (hr : meth.sig.returnType = (some .int)) (hml : c.maxLocals = 3) (hts : ∀ w ∈ wsX6_waitingKilos, w.before [.ref (ad 0 0)].toArray s = true) (hown : s.vm.findClass RX6 = some m.cls) (hlocks : meth.locks = false) (hB : CB D cy ad s) : ∀ (n k : Nat) (a : Int32) (hn : k + n = 21) (hk : (k : Int) ≤ (g 0 0 8).toInt) (hc1 : (g 0 0 8).toInt ≤ 20)   (H : Heap) (locs : List Loc) (ls : Array Slot) (hC : CW D cy ad g H) (hS : va_S (cA ad s.heap.size) s.heap H locs) (hl : lv_has ls 3 [(2, .int (nI k)), (1, .int a), (0, .ref (ad 0 0))]) (kk : ∀ (H : Heap) (locs : List Loc) (ls : Array Slot), CW D cy ad g H → va_S (cA ad s.heap.size) s.heap H locs → lv_has ls 3 [(1, .int (fX6_waitingKilos_L4 g n k a)), (0, .ref (ad 0 0))] → W p l e ({ frames := 0, cells := 0, slots := 0, locals := 0 } : Room) s m [.ref (ad 0 0)].toArray below meth c H locs 0 0 Q (F0 m 42 ls [])), W p l e ({ frames := 0, cells := 0, slots := 0, locals := 0 } : Room) s m [.ref (ad 0 0)].toArray below meth c H locs 0 0 Q (F0 m 4 ls []) := by
  have hA : ∀ κ i : Nat, cV κ i → cA ad s.heap.size (ad κ i) := fun κ i h => Or.inl ⟨κ, i, h, rfl⟩
  intro n
  induction n with
  | zero => intro k a hn hk hc1 H locs ls hC hS hl kk; exact absurd hk (by omega)
  | succ n ih =>
    intro k a hn hk hc1 H locs ls hC hS hl kk
    refine lv_iload_n hx hb dX6_waitingKilos_4 rfl (lv_at hl 0 rfl) ?_
    refine lv_aload_n hx hb dX6_waitingKilos_5 rfl (lv_at hl 2 rfl) ?_
    refine gt_0_8 hx hb hts iX6_waitingKilos_X6 hown hB.1 hC qX6_waitingKilos_w1 dX6_waitingKilos_6 ?_
    refine lv_icmp_ge (tgt := 42) hx hb dX6_waitingKilos_9 (by decide) (fun c1 => ?_) (fun c1 => ?_)
    · skip
      have e9 : fX6_waitingKilos_L4 g (n + 1) k a = a := by rw [fX6_waitingKilos_L4, if_pos c1]
      rw [e9] at kk
      exact kk H locs ls hC hS (lv_sub hl [1, 2] rfl)
    · skip
      refine lv_aload_n hx hb dX6_waitingKilos_12 rfl (lv_at hl 2 rfl) ?_
      refine gt_0_1 hx hb hts iX6_waitingKilos_X6 hown hB.1 hC qX6_waitingKilos_w2 dX6_waitingKilos_13 ?_
      refine lv_iload_n hx hb dX6_waitingKilos_16 rfl (lv_at hl 0 rfl) ?_
      have hk_k : k < 20 := lk_nat c1 hc1 (by omega)
      refine la_11 hx hb hB.1 hC (k := k) (nI_clamp (by omega)) (vp_in_nI (by omega) (by decide)) dX6_waitingKilos_17 ?_
      refine gt_2_3 hx hb hts iX6_waitingKilos_X0 hown hB.1 hC (by omega) qX6_waitingKilos_w3 dX6_waitingKilos_18 ?_
      refine lv_if_ne (tgt := 36) hx hb dX6_waitingKilos_21 (by decide) (fun c2 => ?_) (fun c2 => ?_)
      · skip
        refine lv_iinc (v := nI (k + 1)) (lv' := [(2, .int (nI (k + 1))), (1, .int a), (0, .ref (ad 0 0))]) hx hb dX6_waitingKilos_36 hl (k := 0) rfl (nI_1 _) (by decide) rfl (fun ls hl => ?_)
        refine lv_goto (tgt := 4) hx hb dX6_waitingKilos_39 (by decide) ?_
        have e9 : fX6_waitingKilos_L4 g (n + 1) k a = fX6_waitingKilos_L4 g n (k + 1) a := by rw [fX6_waitingKilos_L4, if_neg c1, if_neg c2]
        rw [e9] at kk
        exact ih (k + 1) a (by omega) (by have q9 := lk_lt c1 (by omega); omega) hc1  H locs ls hC hS (lv_sub hl [0, 1, 2] rfl) kk
      · skip
        refine lv_iload_n hx hb dX6_waitingKilos_24 rfl (lv_at hl 1 rfl) ?_
        refine lv_aload_n hx hb dX6_waitingKilos_25 rfl (lv_at hl 2 rfl) ?_
        refine gt_0_1 hx hb hts iX6_waitingKilos_X6 hown hB.1 hC qX6_waitingKilos_w2 dX6_waitingKilos_26 ?_
        refine lv_iload_n hx hb dX6_waitingKilos_29 rfl (lv_at hl 0 rfl) ?_
        refine la_11 hx hb hB.1 hC (k := k) (nI_clamp (by omega)) (vp_in_nI (by omega) (by decide)) dX6_waitingKilos_30 ?_
        refine gt_2_1 hx hb hts iX6_waitingKilos_X0 hown hB.1 hC (by omega) qX6_waitingKilos_w4 dX6_waitingKilos_31 ?_
        refine lv_iadd hx hb dX6_waitingKilos_34 ?_
        refine lv_istore_n (lv' := [(1, .int (a + (g 2 k 1))), (2, .int (nI k)), (0, .ref (ad 0 0))]) hx hb dX6_waitingKilos_35 rfl hl (by decide) rfl (fun ls hl => ?_)
        refine lv_iinc (v := nI (k + 1)) (lv' := [(2, .int (nI (k + 1))), (1, .int (a + (g 2 k 1))), (0, .ref (ad 0 0))]) hx hb dX6_waitingKilos_36 hl (k := 1) rfl (nI_1 _) (by decide) rfl (fun ls hl => ?_)
        refine lv_goto (tgt := 4) hx hb dX6_waitingKilos_39 (by decide) ?_
        have e9 : fX6_waitingKilos_L4 g (n + 1) k a = fX6_waitingKilos_L4 g n (k + 1) (a + (g 2 k 1)) := by rw [fX6_waitingKilos_L4, if_neg c1, if_pos c2]
        rw [e9] at kk
        exact ih (k + 1) (a + (g 2 k 1)) (by omega) (by have q9 := lk_lt c1 (by omega); omega) hc1  H locs ls hC hS (lv_sub hl [0, 1, 2] rfl) kk
set_option maxRecDepth 100000 in
set_option maxHeartbeats 4000000 in
theorem kX6_waitingKilos (l : Launch) (D : va_G) (cy : Nat → ClassId) {ad : Nat → Nat → Nat} (hI : cI ad) (g : Gd) (sz : Nat) (hv : IvC g) : Met l yX6_waitingKilos wsX6_waitingKilos ({ frames := 0, cells := 0, slots := 0, locals := 0 } : Room) (va_Pc [.ref (ad 0 0)] (cPre D cy ad g sz)) (cQi D cy ad (fX6_waitingKilos g) g sz) 0 0 (cA ad sz) := by
  refine q_start (cc := cX6_waitingKilos) (maxL := 3) (ret := (some .int)) (own := RX6) (by decide) rfl rfl (Nat.le_of_ble_eq_true rfl) ?_
  intro p e s m below meth c hx hb hr hml hts hown hlocks ⟨hsz, hC, hB⟩ ls hl
  subst hsz
  have hS : va_S (cA ad s.heap.size) s.heap s.heap [] := va_S.rf
  have hA : ∀ κ i : Nat, cV κ i → cA ad s.heap.size (ad κ i) := fun κ i h => Or.inl ⟨κ, i, h, rfl⟩
  have hl : lv_has ls 3 [(0, .ref (ad 0 0))] := hl
  refine lv_iconst (v := 0) hx hb dX6_waitingKilos_0 (by decide) ?_
  refine lv_istore_n (lv' := [(1, .int 0), (0, .ref (ad 0 0))]) hx hb dX6_waitingKilos_1 rfl hl (by decide) rfl (fun ls hl => ?_)
  refine lv_iconst (v := 0) hx hb dX6_waitingKilos_2 (by decide) ?_
  refine lv_istore_n (lv' := [(2, .int 0), (1, .int 0), (0, .ref (ad 0 0))]) hx hb dX6_waitingKilos_3 rfl hl (by decide) rfl (fun ls hl => ?_)
  refine kX6_waitingKilos_L4 l D cy hI g  hv  hx hb hr hml hts hown hlocks hB 21 0 0 (by omega) (by have := (IvC.n8 hv).1; omega) (IvC.n8 hv).2  _ _ ls hC hS (lv_sub hl [0, 1, 2] rfl) (fun H locs ls hC hS hl => ?_)
  refine lv_iload_n hx hb dX6_waitingKilos_42 rfl (lv_at hl 0 rfl) ?_
  exact q_reti hx hb hr hB hC hS rfl rfl hlocks dX6_waitingKilos_43
def fX6_kilosInTanks (g : Gd) : Int32 := ((0 + (g 3 0 0)) + (g 3 1 0)) + (g 3 2 0)
theorem qX6_kilosInTanks_w1 : Cond.fieldLink RX6 23 "CherryStation" "tanks" "[LCherryStation$Tank;" ∈ wsX6_kilosInTanks := List.mem_of_getElem? (i := 1) rfl
theorem qX6_kilosInTanks_w2 : Cond.fieldLink RX6 161 "CherryStation$Tank" "mix" "LCherryStation$Mix;" ∈ wsX6_kilosInTanks := List.mem_of_getElem? (i := 2) rfl
theorem qX6_kilosInTanks_w3 : Cond.fieldLink RX6 171 "CherryStation$Mix" "kilos" "I" ∈ wsX6_kilosInTanks := List.mem_of_getElem? (i := 3) rfl
theorem iX6_kilosInTanks_X4 : ∀ w ∈ wsX40, w ∈ wsX6_kilosInTanks := fun _ h => (List.mem_cons_of_mem _ (List.mem_append_right _ h))
theorem iX6_kilosInTanks_X5 : ∀ w ∈ wsX50, w ∈ wsX6_kilosInTanks := fun _ h => (List.mem_cons_of_mem _ (List.mem_append_left _ (List.mem_append_right _ h)))
theorem iX6_kilosInTanks_X6 : ∀ w ∈ wsX60, w ∈ wsX6_kilosInTanks := fun _ h => (List.mem_cons_of_mem _ (List.mem_append_left _ (List.mem_append_left _ (List.mem_append_right _ h))))
set_option maxRecDepth 100000 in
set_option maxHeartbeats 4000000 in
theorem kX6_kilosInTanks (l : Launch) (D : va_G) (cy : Nat → ClassId) {ad : Nat → Nat → Nat} (hI : cI ad) (g : Gd) (sz : Nat)  : Met l yX6_kilosInTanks wsX6_kilosInTanks ({ frames := 0, cells := 0, slots := 0, locals := 0 } : Room) (va_Pc [.ref (ad 0 0)] (cPre D cy ad g sz)) (cQi D cy ad (fX6_kilosInTanks g) g sz) 0 0 (cA ad sz) := by
  refine q_start (cc := cX6_kilosInTanks) (maxL := 3) (ret := (some .int)) (own := RX6) (by decide) rfl rfl (Nat.le_of_ble_eq_true rfl) ?_
  intro p e s m below meth c hx hb hr hml hts hown hlocks ⟨hsz, hC, hB⟩ ls hl
  subst hsz
  have hS : va_S (cA ad s.heap.size) s.heap s.heap [] := va_S.rf
  have hA : ∀ κ i : Nat, cV κ i → cA ad s.heap.size (ad κ i) := fun κ i h => Or.inl ⟨κ, i, h, rfl⟩
  have hl : lv_has ls 3 [(0, .ref (ad 0 0))] := hl
  refine lv_iconst (v := 0) hx hb dX6_kilosInTanks_0 (by decide) ?_
  refine lv_istore_n (lv' := [(1, .int 0), (0, .ref (ad 0 0))]) hx hb dX6_kilosInTanks_1 rfl hl (by decide) rfl (fun ls hl => ?_)
  refine lv_iconst (v := 0) hx hb dX6_kilosInTanks_2 (by decide) ?_
  refine lv_istore_n (lv' := [(2, .int 0), (1, .int 0), (0, .ref (ad 0 0))]) hx hb dX6_kilosInTanks_3 rfl hl (by decide) rfl (fun ls hl => ?_)
  refine lv_iload_n hx hb dX6_kilosInTanks_4 rfl (lv_at hl 0 rfl) ?_
  refine lv_iconst (v := 3) hx hb dX6_kilosInTanks_5 (by decide) ?_
  refine lv_icmp_ge (tgt := 30) hx hb dX6_kilosInTanks_6 (by decide) (fun c => absurd c (by decide)) (fun _ => ?_)
  refine lv_iload_n hx hb dX6_kilosInTanks_9 rfl (lv_at hl 1 rfl) ?_
  refine lv_aload_n hx hb dX6_kilosInTanks_10 rfl (lv_at hl 2 rfl) ?_
  refine gt_0_2 hx hb hts iX6_kilosInTanks_X6 hown hB.1 hC qX6_kilosInTanks_w1 dX6_kilosInTanks_11 ?_
  refine lv_iload_n hx hb dX6_kilosInTanks_14 rfl (lv_at hl 0 rfl) ?_
  refine la_12 hx hb hB.1 hC (k := 0) (by decide) (by unfold vp_in; decide) dX6_kilosInTanks_15 ?_
  refine gt_3_0 hx hb hts iX6_kilosInTanks_X5 hown hB.1 hC (by decide) qX6_kilosInTanks_w2 dX6_kilosInTanks_16 ?_
  refine gt_6_2 hx hb hts iX6_kilosInTanks_X4 hown hB.1 hC (by decide) qX6_kilosInTanks_w3 dX6_kilosInTanks_19 ?_
  refine lv_iadd hx hb dX6_kilosInTanks_22 ?_
  refine lv_istore_n (lv' := [(1, .int (0 + (g 3 0 0))), (2, .int 0), (0, .ref (ad 0 0))]) hx hb dX6_kilosInTanks_23 rfl hl (by decide) rfl (fun ls hl => ?_)
  refine lv_iinc (v := 1) (lv' := [(2, .int 1), (1, .int (0 + (g 3 0 0))), (0, .ref (ad 0 0))]) hx hb dX6_kilosInTanks_24 hl (k := 1) rfl (by decide) (by decide) rfl (fun ls hl => ?_)
  refine lv_goto (tgt := 4) hx hb dX6_kilosInTanks_27 (by decide) ?_
  refine lv_iload_n hx hb dX6_kilosInTanks_4 rfl (lv_at hl 0 rfl) ?_
  refine lv_iconst (v := 3) hx hb dX6_kilosInTanks_5 (by decide) ?_
  refine lv_icmp_ge (tgt := 30) hx hb dX6_kilosInTanks_6 (by decide) (fun c => absurd c (by decide)) (fun _ => ?_)
  refine lv_iload_n hx hb dX6_kilosInTanks_9 rfl (lv_at hl 1 rfl) ?_
  refine lv_aload_n hx hb dX6_kilosInTanks_10 rfl (lv_at hl 2 rfl) ?_
  refine gt_0_2 hx hb hts iX6_kilosInTanks_X6 hown hB.1 hC qX6_kilosInTanks_w1 dX6_kilosInTanks_11 ?_
  refine lv_iload_n hx hb dX6_kilosInTanks_14 rfl (lv_at hl 0 rfl) ?_
  refine la_12 hx hb hB.1 hC (k := 1) (by decide) (by unfold vp_in; decide) dX6_kilosInTanks_15 ?_
  refine gt_3_0 hx hb hts iX6_kilosInTanks_X5 hown hB.1 hC (by decide) qX6_kilosInTanks_w2 dX6_kilosInTanks_16 ?_
  refine gt_6_2 hx hb hts iX6_kilosInTanks_X4 hown hB.1 hC (by decide) qX6_kilosInTanks_w3 dX6_kilosInTanks_19 ?_
  refine lv_iadd hx hb dX6_kilosInTanks_22 ?_
  refine lv_istore_n (lv' := [(1, .int ((0 + (g 3 0 0)) + (g 3 1 0))), (2, .int 1), (0, .ref (ad 0 0))]) hx hb dX6_kilosInTanks_23 rfl hl (by decide) rfl (fun ls hl => ?_)
  refine lv_iinc (v := 2) (lv' := [(2, .int 2), (1, .int ((0 + (g 3 0 0)) + (g 3 1 0))), (0, .ref (ad 0 0))]) hx hb dX6_kilosInTanks_24 hl (k := 1) rfl (by decide) (by decide) rfl (fun ls hl => ?_)
  refine lv_goto (tgt := 4) hx hb dX6_kilosInTanks_27 (by decide) ?_
  refine lv_iload_n hx hb dX6_kilosInTanks_4 rfl (lv_at hl 0 rfl) ?_
  refine lv_iconst (v := 3) hx hb dX6_kilosInTanks_5 (by decide) ?_
  refine lv_icmp_ge (tgt := 30) hx hb dX6_kilosInTanks_6 (by decide) (fun c => absurd c (by decide)) (fun _ => ?_)
  refine lv_iload_n hx hb dX6_kilosInTanks_9 rfl (lv_at hl 1 rfl) ?_
  refine lv_aload_n hx hb dX6_kilosInTanks_10 rfl (lv_at hl 2 rfl) ?_
  refine gt_0_2 hx hb hts iX6_kilosInTanks_X6 hown hB.1 hC qX6_kilosInTanks_w1 dX6_kilosInTanks_11 ?_
  refine lv_iload_n hx hb dX6_kilosInTanks_14 rfl (lv_at hl 0 rfl) ?_
  refine la_12 hx hb hB.1 hC (k := 2) (by decide) (by unfold vp_in; decide) dX6_kilosInTanks_15 ?_
  refine gt_3_0 hx hb hts iX6_kilosInTanks_X5 hown hB.1 hC (by decide) qX6_kilosInTanks_w2 dX6_kilosInTanks_16 ?_
  refine gt_6_2 hx hb hts iX6_kilosInTanks_X4 hown hB.1 hC (by decide) qX6_kilosInTanks_w3 dX6_kilosInTanks_19 ?_
  refine lv_iadd hx hb dX6_kilosInTanks_22 ?_
  refine lv_istore_n (lv' := [(1, .int (((0 + (g 3 0 0)) + (g 3 1 0)) + (g 3 2 0))), (2, .int 2), (0, .ref (ad 0 0))]) hx hb dX6_kilosInTanks_23 rfl hl (by decide) rfl (fun ls hl => ?_)
  refine lv_iinc (v := 3) (lv' := [(2, .int 3), (1, .int (((0 + (g 3 0 0)) + (g 3 1 0)) + (g 3 2 0))), (0, .ref (ad 0 0))]) hx hb dX6_kilosInTanks_24 hl (k := 1) rfl (by decide) (by decide) rfl (fun ls hl => ?_)
  refine lv_goto (tgt := 4) hx hb dX6_kilosInTanks_27 (by decide) ?_
  refine lv_iload_n hx hb dX6_kilosInTanks_4 rfl (lv_at hl 0 rfl) ?_
  refine lv_iconst (v := 3) hx hb dX6_kilosInTanks_5 (by decide) ?_
  refine lv_icmp_ge (tgt := 30) hx hb dX6_kilosInTanks_6 (by decide) (fun _ => ?_) (fun c => absurd c (by decide))
  refine lv_iload_n hx hb dX6_kilosInTanks_30 rfl (lv_at hl 1 rfl) ?_
  exact q_reti hx hb hr hB hC hS rfl rfl hlocks dX6_kilosInTanks_31
def fX6_kilosOnBeds_L4 (g : Gd) : Nat → Nat → Int32 → Int32
  | 0, k, a => a
  | n + 1, k, a => if (g 0 0 9) ≤ (nI k) then (a) else (fX6_kilosOnBeds_L4 g n (k + 1) (a + (g 3 (3 + k) 0)))
def fX6_kilosOnBeds (g : Gd) : Int32 := fX6_kilosOnBeds_L4 g 6 0 0
theorem qX6_kilosOnBeds_w1 : Cond.fieldLink RX6 55 "CherryStation" "bedCount" "I" ∈ wsX6_kilosOnBeds := List.mem_of_getElem? (i := 1) rfl
theorem qX6_kilosOnBeds_w2 : Cond.fieldLink RX6 29 "CherryStation" "beds" "[LCherryStation$Bed;" ∈ wsX6_kilosOnBeds := List.mem_of_getElem? (i := 2) rfl
theorem qX6_kilosOnBeds_w3 : Cond.fieldLink RX6 190 "CherryStation$Bed" "mix" "LCherryStation$Mix;" ∈ wsX6_kilosOnBeds := List.mem_of_getElem? (i := 3) rfl
theorem qX6_kilosOnBeds_w4 : Cond.fieldLink RX6 171 "CherryStation$Mix" "kilos" "I" ∈ wsX6_kilosOnBeds := List.mem_of_getElem? (i := 4) rfl
theorem iX6_kilosOnBeds_X1 : ∀ w ∈ wsX10, w ∈ wsX6_kilosOnBeds := fun _ h => (List.mem_cons_of_mem _ (List.mem_append_left _ (List.mem_append_right _ h)))
theorem iX6_kilosOnBeds_X4 : ∀ w ∈ wsX40, w ∈ wsX6_kilosOnBeds := fun _ h => (List.mem_cons_of_mem _ (List.mem_append_right _ h))
theorem iX6_kilosOnBeds_X6 : ∀ w ∈ wsX60, w ∈ wsX6_kilosOnBeds := fun _ h => (List.mem_cons_of_mem _ (List.mem_append_left _ (List.mem_append_left _ (List.mem_append_right _ h))))
set_option maxRecDepth 100000 in
set_option maxHeartbeats 4000000 in
theorem kX6_kilosOnBeds_L4 (l : Launch) (D : va_G) (cy : Nat → ClassId) {ad : Nat → Nat → Nat} (hI : cI ad) (g : Gd) (hv : IvC g)  {p : Program} {e : Env} {s : State} {m : MethodId} {below : List Frame} {meth : Method} {c : Code} {Q : State → Prop} (hx : p.tables.exec = Jvm.exec) (hb : c.code = cX6_kilosOnBeds) (hr : meth.sig.returnType = (some .int)) (hml : c.maxLocals = 3) (hts : ∀ w ∈ wsX6_kilosOnBeds, w.before [.ref (ad 0 0)].toArray s = true) (hown : s.vm.findClass RX6 = some m.cls) (hlocks : meth.locks = false) (hB : CB D cy ad s) : ∀ (n k : Nat) (a : Int32) (hn : k + n = 6) (hk : (k : Int) ≤ (g 0 0 9).toInt) (hc1 : (g 0 0 9).toInt ≤ 5)   (H : Heap) (locs : List Loc) (ls : Array Slot) (hC : CW D cy ad g H) (hS : va_S (cA ad s.heap.size) s.heap H locs) (hl : lv_has ls 3 [(2, .int (nI k)), (1, .int a), (0, .ref (ad 0 0))]) (kk : ∀ (H : Heap) (locs : List Loc) (ls : Array Slot), CW D cy ad g H → va_S (cA ad s.heap.size) s.heap H locs → lv_has ls 3 [(1, .int (fX6_kilosOnBeds_L4 g n k a)), (0, .ref (ad 0 0))] → W p l e ({ frames := 0, cells := 0, slots := 0, locals := 0 } : Room) s m [.ref (ad 0 0)].toArray below meth c H locs 0 0 Q (F0 m 33 ls [])), W p l e ({ frames := 0, cells := 0, slots := 0, locals := 0 } : Room) s m [.ref (ad 0 0)].toArray below meth c H locs 0 0 Q (F0 m 4 ls []) := by
  have hA : ∀ κ i : Nat, cV κ i → cA ad s.heap.size (ad κ i) := fun κ i h => Or.inl ⟨κ, i, h, rfl⟩
  intro n
  induction n with
  | zero => intro k a hn hk hc1 H locs ls hC hS hl kk; exact absurd hk (by omega)
  | succ n ih =>
    intro k a hn hk hc1 H locs ls hC hS hl kk
    refine lv_iload_n hx hb dX6_kilosOnBeds_4 rfl (lv_at hl 0 rfl) ?_
    refine lv_aload_n hx hb dX6_kilosOnBeds_5 rfl (lv_at hl 2 rfl) ?_
    refine gt_0_9 hx hb hts iX6_kilosOnBeds_X6 hown hB.1 hC qX6_kilosOnBeds_w1 dX6_kilosOnBeds_6 ?_
    refine lv_icmp_ge (tgt := 33) hx hb dX6_kilosOnBeds_9 (by decide) (fun c1 => ?_) (fun c1 => ?_)
    · skip
      have e9 : fX6_kilosOnBeds_L4 g (n + 1) k a = a := by rw [fX6_kilosOnBeds_L4, if_pos c1]
      rw [e9] at kk
      exact kk H locs ls hC hS (lv_sub hl [1, 2] rfl)
    · skip
      refine lv_iload_n hx hb dX6_kilosOnBeds_12 rfl (lv_at hl 1 rfl) ?_
      refine lv_aload_n hx hb dX6_kilosOnBeds_13 rfl (lv_at hl 2 rfl) ?_
      refine gt_0_3 hx hb hts iX6_kilosOnBeds_X6 hown hB.1 hC qX6_kilosOnBeds_w2 dX6_kilosOnBeds_14 ?_
      refine lv_iload_n hx hb dX6_kilosOnBeds_17 rfl (lv_at hl 0 rfl) ?_
      have hk_k : k < 5 := lk_nat c1 hc1 (by omega)
      refine la_13 hx hb hB.1 hC (k := k) (nI_clamp (by omega)) (vp_in_nI (by omega) (by decide)) dX6_kilosOnBeds_18 ?_
      refine gt_4_0 hx hb hts iX6_kilosOnBeds_X1 hown hB.1 hC (by omega) qX6_kilosOnBeds_w3 dX6_kilosOnBeds_19 ?_
      refine gt_6_2 hx hb hts iX6_kilosOnBeds_X4 hown hB.1 hC (by omega) qX6_kilosOnBeds_w4 dX6_kilosOnBeds_22 ?_
      refine lv_iadd hx hb dX6_kilosOnBeds_25 ?_
      refine lv_istore_n (lv' := [(1, .int (a + (g 3 (3 + k) 0))), (2, .int (nI k)), (0, .ref (ad 0 0))]) hx hb dX6_kilosOnBeds_26 rfl hl (by decide) rfl (fun ls hl => ?_)
      refine lv_iinc (v := nI (k + 1)) (lv' := [(2, .int (nI (k + 1))), (1, .int (a + (g 3 (3 + k) 0))), (0, .ref (ad 0 0))]) hx hb dX6_kilosOnBeds_27 hl (k := 1) rfl (nI_1 _) (by decide) rfl (fun ls hl => ?_)
      refine lv_goto (tgt := 4) hx hb dX6_kilosOnBeds_30 (by decide) ?_
      have e9 : fX6_kilosOnBeds_L4 g (n + 1) k a = fX6_kilosOnBeds_L4 g n (k + 1) (a + (g 3 (3 + k) 0)) := by rw [fX6_kilosOnBeds_L4, if_neg c1]
      rw [e9] at kk
      exact ih (k + 1) (a + (g 3 (3 + k) 0)) (by omega) (by have q9 := lk_lt c1 (by omega); omega) hc1  H locs ls hC hS (lv_sub hl [0, 1, 2] rfl) kk
set_option maxRecDepth 100000 in
set_option maxHeartbeats 4000000 in
theorem kX6_kilosOnBeds (l : Launch) (D : va_G) (cy : Nat → ClassId) {ad : Nat → Nat → Nat} (hI : cI ad) (g : Gd) (sz : Nat) (hv : IvC g) : Met l yX6_kilosOnBeds wsX6_kilosOnBeds ({ frames := 0, cells := 0, slots := 0, locals := 0 } : Room) (va_Pc [.ref (ad 0 0)] (cPre D cy ad g sz)) (cQi D cy ad (fX6_kilosOnBeds g) g sz) 0 0 (cA ad sz) := by
  refine q_start (cc := cX6_kilosOnBeds) (maxL := 3) (ret := (some .int)) (own := RX6) (by decide) rfl rfl (Nat.le_of_ble_eq_true rfl) ?_
  intro p e s m below meth c hx hb hr hml hts hown hlocks ⟨hsz, hC, hB⟩ ls hl
  subst hsz
  have hS : va_S (cA ad s.heap.size) s.heap s.heap [] := va_S.rf
  have hA : ∀ κ i : Nat, cV κ i → cA ad s.heap.size (ad κ i) := fun κ i h => Or.inl ⟨κ, i, h, rfl⟩
  have hl : lv_has ls 3 [(0, .ref (ad 0 0))] := hl
  refine lv_iconst (v := 0) hx hb dX6_kilosOnBeds_0 (by decide) ?_
  refine lv_istore_n (lv' := [(1, .int 0), (0, .ref (ad 0 0))]) hx hb dX6_kilosOnBeds_1 rfl hl (by decide) rfl (fun ls hl => ?_)
  refine lv_iconst (v := 0) hx hb dX6_kilosOnBeds_2 (by decide) ?_
  refine lv_istore_n (lv' := [(2, .int 0), (1, .int 0), (0, .ref (ad 0 0))]) hx hb dX6_kilosOnBeds_3 rfl hl (by decide) rfl (fun ls hl => ?_)
  refine kX6_kilosOnBeds_L4 l D cy hI g  hv  hx hb hr hml hts hown hlocks hB 6 0 0 (by omega) (by have := (IvC.n9 hv).1; omega) (IvC.n9 hv).2  _ _ ls hC hS (lv_sub hl [0, 1, 2] rfl) (fun H locs ls hC hS hl => ?_)
  refine lv_iload_n hx hb dX6_kilosOnBeds_33 rfl (lv_at hl 0 rfl) ?_
  exact q_reti hx hb hr hB hC hS rfl rfl hlocks dX6_kilosOnBeds_34
def fX6_allCoins_L4 (g : Gd) : Nat → Nat → Int32 → Int32
  | 0, k, a => a
  | n + 1, k, a => if (g 0 0 7) ≤ (nI k) then (a) else (fX6_allCoins_L4 g n (k + 1) (a + (g 1 k 2)))
def fX6_allCoins (g : Gd) : Int32 := fX6_allCoins_L4 g 7 0 0
theorem qX6_allCoins_w1 : Cond.fieldLink RX6 48 "CherryStation" "farmCount" "I" ∈ wsX6_allCoins := List.mem_of_getElem? (i := 1) rfl
theorem qX6_allCoins_w2 : Cond.fieldLink RX6 11 "CherryStation" "farms" "[LCherryStation$Farm;" ∈ wsX6_allCoins := List.mem_of_getElem? (i := 2) rfl
theorem qX6_allCoins_w3 : Cond.fieldLink RX6 123 "CherryStation$Farm" "coins" "I" ∈ wsX6_allCoins := List.mem_of_getElem? (i := 3) rfl
theorem iX6_allCoins_X2 : ∀ w ∈ wsX20, w ∈ wsX6_allCoins := fun _ h => (List.mem_cons_of_mem _ (List.mem_append_right _ h))
theorem iX6_allCoins_X6 : ∀ w ∈ wsX60, w ∈ wsX6_allCoins := fun _ h => (List.mem_cons_of_mem _ (List.mem_append_left _ (List.mem_append_right _ h)))
set_option maxRecDepth 100000 in
set_option maxHeartbeats 4000000 in
theorem kX6_allCoins_L4 (l : Launch) (D : va_G) (cy : Nat → ClassId) {ad : Nat → Nat → Nat} (hI : cI ad) (g : Gd) (hv : IvC g)  {p : Program} {e : Env} {s : State} {m : MethodId} {below : List Frame} {meth : Method} {c : Code} {Q : State → Prop} (hx : p.tables.exec = Jvm.exec) (hb : c.code = cX6_allCoins) (hr : meth.sig.returnType = (some .int)) (hml : c.maxLocals = 3) (hts : ∀ w ∈ wsX6_allCoins, w.before [.ref (ad 0 0)].toArray s = true) (hown : s.vm.findClass RX6 = some m.cls) (hlocks : meth.locks = false) (hB : CB D cy ad s) : ∀ (n k : Nat) (a : Int32) (hn : k + n = 7) (hk : (k : Int) ≤ (g 0 0 7).toInt) (hc1 : (g 0 0 7).toInt ≤ 6)   (H : Heap) (locs : List Loc) (ls : Array Slot) (hC : CW D cy ad g H) (hS : va_S (cA ad s.heap.size) s.heap H locs) (hl : lv_has ls 3 [(2, .int (nI k)), (1, .int a), (0, .ref (ad 0 0))]) (kk : ∀ (H : Heap) (locs : List Loc) (ls : Array Slot), CW D cy ad g H → va_S (cA ad s.heap.size) s.heap H locs → lv_has ls 3 [(1, .int (fX6_allCoins_L4 g n k a)), (0, .ref (ad 0 0))] → W p l e ({ frames := 0, cells := 0, slots := 0, locals := 0 } : Room) s m [.ref (ad 0 0)].toArray below meth c H locs 0 0 Q (F0 m 30 ls [])), W p l e ({ frames := 0, cells := 0, slots := 0, locals := 0 } : Room) s m [.ref (ad 0 0)].toArray below meth c H locs 0 0 Q (F0 m 4 ls []) := by
  have hA : ∀ κ i : Nat, cV κ i → cA ad s.heap.size (ad κ i) := fun κ i h => Or.inl ⟨κ, i, h, rfl⟩
  intro n
  induction n with
  | zero => intro k a hn hk hc1 H locs ls hC hS hl kk; exact absurd hk (by omega)
  | succ n ih =>
    intro k a hn hk hc1 H locs ls hC hS hl kk
    refine lv_iload_n hx hb dX6_allCoins_4 rfl (lv_at hl 0 rfl) ?_
    refine lv_aload_n hx hb dX6_allCoins_5 rfl (lv_at hl 2 rfl) ?_
    refine gt_0_7 hx hb hts iX6_allCoins_X6 hown hB.1 hC qX6_allCoins_w1 dX6_allCoins_6 ?_
    refine lv_icmp_ge (tgt := 30) hx hb dX6_allCoins_9 (by decide) (fun c1 => ?_) (fun c1 => ?_)
    · skip
      have e9 : fX6_allCoins_L4 g (n + 1) k a = a := by rw [fX6_allCoins_L4, if_pos c1]
      rw [e9] at kk
      exact kk H locs ls hC hS (lv_sub hl [1, 2] rfl)
    · skip
      refine lv_iload_n hx hb dX6_allCoins_12 rfl (lv_at hl 1 rfl) ?_
      refine lv_aload_n hx hb dX6_allCoins_13 rfl (lv_at hl 2 rfl) ?_
      refine gt_0_0 hx hb hts iX6_allCoins_X6 hown hB.1 hC qX6_allCoins_w2 dX6_allCoins_14 ?_
      refine lv_iload_n hx hb dX6_allCoins_17 rfl (lv_at hl 0 rfl) ?_
      have hk_k : k < 6 := lk_nat c1 hc1 (by omega)
      refine la_10 hx hb hB.1 hC (k := k) (nI_clamp (by omega)) (vp_in_nI (by omega) (by decide)) dX6_allCoins_18 ?_
      refine gt_1_2 hx hb hts iX6_allCoins_X2 hown hB.1 hC (by omega) qX6_allCoins_w3 dX6_allCoins_19 ?_
      refine lv_iadd hx hb dX6_allCoins_22 ?_
      refine lv_istore_n (lv' := [(1, .int (a + (g 1 k 2))), (2, .int (nI k)), (0, .ref (ad 0 0))]) hx hb dX6_allCoins_23 rfl hl (by decide) rfl (fun ls hl => ?_)
      refine lv_iinc (v := nI (k + 1)) (lv' := [(2, .int (nI (k + 1))), (1, .int (a + (g 1 k 2))), (0, .ref (ad 0 0))]) hx hb dX6_allCoins_24 hl (k := 1) rfl (nI_1 _) (by decide) rfl (fun ls hl => ?_)
      refine lv_goto (tgt := 4) hx hb dX6_allCoins_27 (by decide) ?_
      have e9 : fX6_allCoins_L4 g (n + 1) k a = fX6_allCoins_L4 g n (k + 1) (a + (g 1 k 2)) := by rw [fX6_allCoins_L4, if_neg c1]
      rw [e9] at kk
      exact ih (k + 1) (a + (g 1 k 2)) (by omega) (by have q9 := lk_lt c1 (by omega); omega) hc1  H locs ls hC hS (lv_sub hl [0, 1, 2] rfl) kk
set_option maxRecDepth 100000 in
set_option maxHeartbeats 4000000 in
theorem kX6_allCoins (l : Launch) (D : va_G) (cy : Nat → ClassId) {ad : Nat → Nat → Nat} (hI : cI ad) (g : Gd) (sz : Nat) (hv : IvC g) : Met l yX6_allCoins wsX6_allCoins ({ frames := 0, cells := 0, slots := 0, locals := 0 } : Room) (va_Pc [.ref (ad 0 0)] (cPre D cy ad g sz)) (cQi D cy ad (fX6_allCoins g) g sz) 0 0 (cA ad sz) := by
  refine q_start (cc := cX6_allCoins) (maxL := 3) (ret := (some .int)) (own := RX6) (by decide) rfl rfl (Nat.le_of_ble_eq_true rfl) ?_
  intro p e s m below meth c hx hb hr hml hts hown hlocks ⟨hsz, hC, hB⟩ ls hl
  subst hsz
  have hS : va_S (cA ad s.heap.size) s.heap s.heap [] := va_S.rf
  have hA : ∀ κ i : Nat, cV κ i → cA ad s.heap.size (ad κ i) := fun κ i h => Or.inl ⟨κ, i, h, rfl⟩
  have hl : lv_has ls 3 [(0, .ref (ad 0 0))] := hl
  refine lv_iconst (v := 0) hx hb dX6_allCoins_0 (by decide) ?_
  refine lv_istore_n (lv' := [(1, .int 0), (0, .ref (ad 0 0))]) hx hb dX6_allCoins_1 rfl hl (by decide) rfl (fun ls hl => ?_)
  refine lv_iconst (v := 0) hx hb dX6_allCoins_2 (by decide) ?_
  refine lv_istore_n (lv' := [(2, .int 0), (1, .int 0), (0, .ref (ad 0 0))]) hx hb dX6_allCoins_3 rfl hl (by decide) rfl (fun ls hl => ?_)
  refine kX6_allCoins_L4 l D cy hI g  hv  hx hb hr hml hts hown hlocks hB 7 0 0 (by omega) (by have := (IvC.n7 hv).1; omega) (IvC.n7 hv).2  _ _ ls hC hS (lv_sub hl [0, 1, 2] rfl) (fun H locs ls hC hS hl => ?_)
  refine lv_iload_n hx hb dX6_allCoins_30 rfl (lv_at hl 0 rfl) ?_
  exact q_reti hx hb hr hB hC hS rfl rfl hlocks dX6_allCoins_31
def fX6_ageBaskets_L4 (g : Gd) : Nat → Nat → Int32 → Gd → Int32 × Gd
  | 0, k, a, g1 => (a, g1)
  | n + 1, k, a, g1 => if (g1 0 0 8) ≤ (nI k) then ((a, g1)) else (if ((fX0_spoilsInHour g1 k).1) = 0 then (fX6_ageBaskets_L4 g n (k + 1) a ((fX0_spoilsInHour g1 k).2)) else (fX6_ageBaskets_L4 g n (k + 1) (a + 1) (up ((fX0_spoilsInHour g1 k).2) 0 0 5 ((((fX0_spoilsInHour g1 k).2) 0 0 5) + (((fX0_spoilsInHour g1 k).2) 2 k 1)))))
def fX6_ageBaskets (g : Gd) : Int32 × Gd := ((fX6_ageBaskets_L4 g 21 0 0 g).1, (fX6_ageBaskets_L4 g 21 0 0 g).2)
theorem qX6_ageBaskets_w1 : Cond.fieldLink RX6 52 "CherryStation" "basketCount" "I" ∈ wsX6_ageBaskets := List.mem_of_getElem? (i := 1) rfl
theorem qX6_ageBaskets_w2 : Cond.fieldLink RX6 17 "CherryStation" "baskets" "[LCherryStation$Basket;" ∈ wsX6_ageBaskets := List.mem_of_getElem? (i := 2) rfl
theorem qX6_ageBaskets_w3 : Cond.fieldLink RX6 76 "CherryStation" "lost" "I" ∈ wsX6_ageBaskets := List.mem_of_getElem? (i := 3) rfl
theorem qX6_ageBaskets_w4 : Cond.fieldLink RX6 149 "CherryStation$Basket" "kilos" "I" ∈ wsX6_ageBaskets := List.mem_of_getElem? (i := 4) rfl
theorem iX6_ageBaskets_X0 : ∀ w ∈ wsX00, w ∈ wsX6_ageBaskets := fun _ h => (List.mem_cons_of_mem _ (List.mem_append_right _ h))
theorem iX6_ageBaskets_X6 : ∀ w ∈ wsX60, w ∈ wsX6_ageBaskets := fun _ h => (List.mem_cons_of_mem _ (List.mem_append_left _ (List.mem_append_right _ h)))
set_option maxRecDepth 100000 in
set_option maxHeartbeats 4000000 in
theorem kX6_ageBaskets_L4 (l : Launch) (D : va_G) (cy : Nat → ClassId) {ad : Nat → Nat → Nat} (hI : cI ad) (g : Gd) (hv : IvC g)  {p : Program} {e : Env} {s : State} {m : MethodId} {below : List Frame} {meth : Method} {c : Code} {Q : State → Prop} (hx : p.tables.exec = Jvm.exec) (hb : c.code = cX6_ageBaskets) (hr : meth.sig.returnType = (some .int)) (hml : c.maxLocals = 3) (hts : ∀ w ∈ wsX6_ageBaskets, w.before [.ref (ad 0 0)].toArray s = true) (hown : s.vm.findClass RX6 = some m.cls) (hlocks : meth.locks = false) (hB : CB D cy ad s) : ∀ (n k : Nat) (a : Int32) (g1 : Gd) (hn : k + n = 21) (hk : (k : Int) ≤ (g1 0 0 8).toInt) (hc1 : (g1 0 0 8).toInt ≤ 20) (hv1 : IvC g1)  (H : Heap) (locs : List Loc) (ls : Array Slot) (hC : CW D cy ad g1 H) (hS : va_S (cA ad s.heap.size) s.heap H locs) (hl : lv_has ls 3 [(2, .int (nI k)), (1, .int a), (0, .ref (ad 0 0))]) (kk : ∀ (H : Heap) (locs : List Loc) (ls : Array Slot), CW D cy ad ((fX6_ageBaskets_L4 g n k a g1).2) H → va_S (cA ad s.heap.size) s.heap H locs → lv_has ls 3 [(1, .int ((fX6_ageBaskets_L4 g n k a g1).1)), (0, .ref (ad 0 0))] → W p l e ({ frames := 1, cells := 0, slots := 0, locals := 20 } : Room) s m [.ref (ad 0 0)].toArray below meth c H locs 0 0 Q (F0 m 51 ls [])), W p l e ({ frames := 1, cells := 0, slots := 0, locals := 20 } : Room) s m [.ref (ad 0 0)].toArray below meth c H locs 0 0 Q (F0 m 4 ls []) := by
  have hA : ∀ κ i : Nat, cV κ i → cA ad s.heap.size (ad κ i) := fun κ i h => Or.inl ⟨κ, i, h, rfl⟩
  intro n
  induction n with
  | zero => intro k a g1 hn hk hc1 hv1 H locs ls hC hS hl kk; exact absurd hk (by omega)
  | succ n ih =>
    intro k a g1 hn hk hc1 hv1 H locs ls hC hS hl kk
    refine lv_iload_n hx hb dX6_ageBaskets_4 rfl (lv_at hl 0 rfl) ?_
    refine lv_aload_n hx hb dX6_ageBaskets_5 rfl (lv_at hl 2 rfl) ?_
    refine gt_0_8 hx hb hts iX6_ageBaskets_X6 hown hB.1 hC qX6_ageBaskets_w1 dX6_ageBaskets_6 ?_
    refine lv_icmp_ge (tgt := 51) hx hb dX6_ageBaskets_9 (by decide) (fun c1 => ?_) (fun c1 => ?_)
    · skip
      have e9 : fX6_ageBaskets_L4 g (n + 1) k a g1 = (a, g1) := by rw [fX6_ageBaskets_L4, if_pos c1]
      rw [e9] at kk
      exact kk H locs ls hC hS (lv_sub hl [1, 2] rfl)
    · skip
      refine lv_aload_n hx hb dX6_ageBaskets_12 rfl (lv_at hl 2 rfl) ?_
      refine gt_0_1 hx hb hts iX6_ageBaskets_X6 hown hB.1 hC qX6_ageBaskets_w2 dX6_ageBaskets_13 ?_
      refine lv_iload_n hx hb dX6_ageBaskets_16 rfl (lv_at hl 0 rfl) ?_
      have hk_k : k < 20 := lk_nat c1 hc1 (by omega)
      refine la_11 hx hb hB.1 hC (k := k) (nI_clamp (by omega)) (vp_in_nI (by omega) (by decide)) dX6_ageBaskets_17 ?_
      refine q_callVi (As := []) (κ := 2) (i := k) (show k < 20 from (by omega)) rfl ⟨_, rfl⟩ rfl ⟨hx, hb, hml, hown, hts⟩ (kX0_spoilsInHour l D cy hI g1 _ k (by omega)  ) (cwV 0 hts gX6_ageBaskets_X0_spoilsInHour rfl rfl rfl (by decide +kernel) ⟨Nat.le_of_ble_eq_true rfl, Nat.le_of_ble_eq_true rfl⟩) hB hC hS rfl hl.1 (Nat.le_of_ble_eq_true rfl) dX6_ageBaskets_18 ⟨Nat.le_of_ble_eq_true rfl, Nat.le_of_ble_eq_true rfl⟩ (fun H locs hC hS => ?_)
      refine lv_if_eq (tgt := 45) hx hb dX6_ageBaskets_21 (by decide) (fun c2 => ?_) (fun c2 => ?_)
      · skip
        refine lv_iinc (v := nI (k + 1)) (lv' := [(2, .int (nI (k + 1))), (1, .int a), (0, .ref (ad 0 0))]) hx hb dX6_ageBaskets_45 hl (k := 0) rfl (nI_1 _) (by decide) rfl (fun ls hl => ?_)
        refine lv_goto (tgt := 4) hx hb dX6_ageBaskets_48 (by decide) ?_
        have e9 : fX6_ageBaskets_L4 g (n + 1) k a g1 = fX6_ageBaskets_L4 g n (k + 1) a ((fX0_spoilsInHour g1 k).2) := by rw [fX6_ageBaskets_L4, if_neg c1, if_pos c2]
        rw [e9] at kk
        exact ih (k + 1) a ((fX0_spoilsInHour g1 k).2) (by omega) (by have q9 := lk_lt c1 (by omega); rw [((show Kp g1 ((fX0_spoilsInHour g1 k).2) from (kp_spoils g1 k)).1 8 (by decide))]; omega) (by rw [((show Kp g1 ((fX0_spoilsInHour g1 k).2) from (kp_spoils g1 k)).1 8 (by decide))]; exact hc1) ((show Kp g1 ((fX0_spoilsInHour g1 k).2) from (kp_spoils g1 k)).iv hv1) H locs ls hC hS (lv_sub hl [0, 1, 2] rfl) kk
      · skip
        refine lv_aload_n hx hb dX6_ageBaskets_24 rfl (lv_at hl 2 rfl) ?_
        refine lv_dup hx hb dX6_ageBaskets_25 rfl ?_
        refine gt_0_16 hx hb hts iX6_ageBaskets_X6 hown hB.1 hC qX6_ageBaskets_w3 dX6_ageBaskets_26 ?_
        refine lv_aload_n hx hb dX6_ageBaskets_29 rfl (lv_at hl 2 rfl) ?_
        refine gt_0_1 hx hb hts iX6_ageBaskets_X6 hown hB.1 hC qX6_ageBaskets_w2 dX6_ageBaskets_30 ?_
        refine lv_iload_n hx hb dX6_ageBaskets_33 rfl (lv_at hl 0 rfl) ?_
        refine la_11 hx hb hB.1 hC (k := k) (nI_clamp (by omega)) (vp_in_nI (by omega) (by decide)) dX6_ageBaskets_34 ?_
        refine gt_2_1 hx hb hts iX6_ageBaskets_X0 hown hB.1 hC (by omega) qX6_ageBaskets_w4 dX6_ageBaskets_35 ?_
        refine lv_iadd hx hb dX6_ageBaskets_38 ?_
        refine pt_0_16 hx hb hts iX6_ageBaskets_X6 hown hB.1 hC hI hS hA qX6_ageBaskets_w3 dX6_ageBaskets_39 (fun H locs hC hS => ?_)
        refine lv_iinc (v := a + 1) (lv' := [(1, .int (a + 1)), (2, .int (nI k)), (0, .ref (ad 0 0))]) hx hb dX6_ageBaskets_42 hl (k := 1) rfl rfl (by decide) rfl (fun ls hl => ?_)
        refine lv_iinc (v := nI (k + 1)) (lv' := [(2, .int (nI (k + 1))), (1, .int (a + 1)), (0, .ref (ad 0 0))]) hx hb dX6_ageBaskets_45 hl (k := 1) rfl (nI_1 _) (by decide) rfl (fun ls hl => ?_)
        refine lv_goto (tgt := 4) hx hb dX6_ageBaskets_48 (by decide) ?_
        have e9 : fX6_ageBaskets_L4 g (n + 1) k a g1 = fX6_ageBaskets_L4 g n (k + 1) (a + 1) (up ((fX0_spoilsInHour g1 k).2) 0 0 5 ((((fX0_spoilsInHour g1 k).2) 0 0 5) + (((fX0_spoilsInHour g1 k).2) 2 k 1))) := by rw [fX6_ageBaskets_L4, if_neg c1, if_neg c2]
        rw [e9] at kk
        exact ih (k + 1) (a + 1) (up ((fX0_spoilsInHour g1 k).2) 0 0 5 ((((fX0_spoilsInHour g1 k).2) 0 0 5) + (((fX0_spoilsInHour g1 k).2) 2 k 1))) (by omega) (by have q9 := lk_lt c1 (by omega); rw [((show Kp g1 (up ((fX0_spoilsInHour g1 k).2) 0 0 5 ((((fX0_spoilsInHour g1 k).2) 0 0 5) + (((fX0_spoilsInHour g1 k).2) 2 k 1))) from ((kp_spoils g1 k).up rfl)).1 8 (by decide))]; omega) (by rw [((show Kp g1 (up ((fX0_spoilsInHour g1 k).2) 0 0 5 ((((fX0_spoilsInHour g1 k).2) 0 0 5) + (((fX0_spoilsInHour g1 k).2) 2 k 1))) from ((kp_spoils g1 k).up rfl)).1 8 (by decide))]; exact hc1) ((show Kp g1 (up ((fX0_spoilsInHour g1 k).2) 0 0 5 ((((fX0_spoilsInHour g1 k).2) 0 0 5) + (((fX0_spoilsInHour g1 k).2) 2 k 1))) from ((kp_spoils g1 k).up rfl)).iv hv1) H locs ls hC hS (lv_sub hl [0, 1, 2] rfl) kk
set_option maxRecDepth 100000 in
set_option maxHeartbeats 4000000 in
theorem kX6_ageBaskets (l : Launch) (D : va_G) (cy : Nat → ClassId) {ad : Nat → Nat → Nat} (hI : cI ad) (g : Gd) (sz : Nat) (hv : IvC g) : Met l yX6_ageBaskets wsX6_ageBaskets ({ frames := 1, cells := 0, slots := 0, locals := 20 } : Room) (va_Pc [.ref (ad 0 0)] (cPre D cy ad g sz)) (cQi D cy ad (fX6_ageBaskets g).1 (fX6_ageBaskets g).2 sz) 0 0 (cA ad sz) := by
  refine q_start (cc := cX6_ageBaskets) (maxL := 3) (ret := (some .int)) (own := RX6) (by decide) rfl rfl (Nat.le_of_ble_eq_true rfl) ?_
  intro p e s m below meth c hx hb hr hml hts hown hlocks ⟨hsz, hC, hB⟩ ls hl
  subst hsz
  have hS : va_S (cA ad s.heap.size) s.heap s.heap [] := va_S.rf
  have hA : ∀ κ i : Nat, cV κ i → cA ad s.heap.size (ad κ i) := fun κ i h => Or.inl ⟨κ, i, h, rfl⟩
  have hl : lv_has ls 3 [(0, .ref (ad 0 0))] := hl
  refine lv_iconst (v := 0) hx hb dX6_ageBaskets_0 (by decide) ?_
  refine lv_istore_n (lv' := [(1, .int 0), (0, .ref (ad 0 0))]) hx hb dX6_ageBaskets_1 rfl hl (by decide) rfl (fun ls hl => ?_)
  refine lv_iconst (v := 0) hx hb dX6_ageBaskets_2 (by decide) ?_
  refine lv_istore_n (lv' := [(2, .int 0), (1, .int 0), (0, .ref (ad 0 0))]) hx hb dX6_ageBaskets_3 rfl hl (by decide) rfl (fun ls hl => ?_)
  refine kX6_ageBaskets_L4 l D cy hI g  hv  hx hb hr hml hts hown hlocks hB 21 0 0 g (by omega) (by have := (IvC.n8 hv).1; omega) (IvC.n8 hv).2 hv _ _ ls hC hS (lv_sub hl [0, 1, 2] rfl) (fun H locs ls hC hS hl => ?_)
  refine lv_iload_n hx hb dX6_ageBaskets_51 rfl (lv_at hl 0 rfl) ?_
  have e9 : fX6_ageBaskets g = ((fX6_ageBaskets_L4 g 21 0 0 g).1, (fX6_ageBaskets_L4 g 21 0 0 g).2) := rfl
  exact q_reti hx hb hr hB hC hS (by rw [e9]) (by rw [e9]) hlocks dX6_ageBaskets_52
def fX6_ageLots_L2 (g : Gd) : Nat → Nat → Gd → Gd
  | 0, k, g1 => g1
  | n + 1, k, g1 => if (g1 0 0 10) ≤ (nI k) then (g1) else (if (g1 3 (8 + k) 10) = 0 then (fX6_ageLots_L2 g n (k + 1) g1) else (fX6_ageLots_L2 g n (k + 1) (up g1 3 (8 + k) 2 ((g1 3 (8 + k) 2) + 1))))
def fX6_ageLots (g : Gd) : Gd := fX6_ageLots_L2 g 13 0 g
theorem qX6_ageLots_w1 : Cond.fieldLink RX6 58 "CherryStation" "lotCount" "I" ∈ wsX6_ageLots := List.mem_of_getElem? (i := 1) rfl
theorem qX6_ageLots_w2 : Cond.fieldLink RX6 35 "CherryStation" "lots" "[LCherryStation$Lot;" ∈ wsX6_ageLots := List.mem_of_getElem? (i := 2) rfl
theorem qX6_ageLots_w3 : Cond.fieldLink RX6 231 "CherryStation$Lot" "isInStore" "Z" ∈ wsX6_ageLots := List.mem_of_getElem? (i := 3) rfl
theorem qX6_ageLots_w4 : Cond.fieldLink RX6 313 "CherryStation$Lot" "age" "I" ∈ wsX6_ageLots := List.mem_of_getElem? (i := 4) rfl
theorem iX6_ageLots_X3 : ∀ w ∈ wsX30, w ∈ wsX6_ageLots := fun _ h => (List.mem_cons_of_mem _ (List.mem_append_right _ h))
theorem iX6_ageLots_X6 : ∀ w ∈ wsX60, w ∈ wsX6_ageLots := fun _ h => (List.mem_cons_of_mem _ (List.mem_append_left _ (List.mem_append_right _ h)))
set_option maxRecDepth 100000 in
set_option maxHeartbeats 4000000 in
theorem kX6_ageLots_L2 (l : Launch) (D : va_G) (cy : Nat → ClassId) {ad : Nat → Nat → Nat} (hI : cI ad) (g : Gd) (hv : IvC g)  {p : Program} {e : Env} {s : State} {m : MethodId} {below : List Frame} {meth : Method} {c : Code} {Q : State → Prop} (hx : p.tables.exec = Jvm.exec) (hb : c.code = cX6_ageLots) (hr : meth.sig.returnType = none) (hml : c.maxLocals = 2) (hts : ∀ w ∈ wsX6_ageLots, w.before [.ref (ad 0 0)].toArray s = true) (hown : s.vm.findClass RX6 = some m.cls) (hlocks : meth.locks = false) (hB : CB D cy ad s) : ∀ (n k : Nat) (g1 : Gd) (hn : k + n = 13) (hk : (k : Int) ≤ (g1 0 0 10).toInt) (hc1 : (g1 0 0 10).toInt ≤ 12) (hv1 : IvC g1)  (H : Heap) (locs : List Loc) (ls : Array Slot) (hC : CW D cy ad g1 H) (hS : va_S (cA ad s.heap.size) s.heap H locs) (hl : lv_has ls 2 [(1, .int (nI k)), (0, .ref (ad 0 0))]) (kk : ∀ (H : Heap) (locs : List Loc) (ls : Array Slot), CW D cy ad (fX6_ageLots_L2 g n k g1) H → va_S (cA ad s.heap.size) s.heap H locs → lv_has ls 2 [(0, .ref (ad 0 0))] → W p l e ({ frames := 0, cells := 0, slots := 0, locals := 0 } : Room) s m [.ref (ad 0 0)].toArray below meth c H locs 0 0 Q (F0 m 43 ls [])), W p l e ({ frames := 0, cells := 0, slots := 0, locals := 0 } : Room) s m [.ref (ad 0 0)].toArray below meth c H locs 0 0 Q (F0 m 2 ls []) := by
  have hA : ∀ κ i : Nat, cV κ i → cA ad s.heap.size (ad κ i) := fun κ i h => Or.inl ⟨κ, i, h, rfl⟩
  intro n
  induction n with
  | zero => intro k g1 hn hk hc1 hv1 H locs ls hC hS hl kk; exact absurd hk (by omega)
  | succ n ih =>
    intro k g1 hn hk hc1 hv1 H locs ls hC hS hl kk
    refine lv_iload_n hx hb dX6_ageLots_2 rfl (lv_at hl 0 rfl) ?_
    refine lv_aload_n hx hb dX6_ageLots_3 rfl (lv_at hl 1 rfl) ?_
    refine gt_0_10 hx hb hts iX6_ageLots_X6 hown hB.1 hC qX6_ageLots_w1 dX6_ageLots_4 ?_
    refine lv_icmp_ge (tgt := 43) hx hb dX6_ageLots_7 (by decide) (fun c1 => ?_) (fun c1 => ?_)
    · skip
      have e9 : fX6_ageLots_L2 g (n + 1) k g1 = g1 := by rw [fX6_ageLots_L2, if_pos c1]
      rw [e9] at kk
      exact kk H locs ls hC hS (lv_sub hl [1] rfl)
    · skip
      refine lv_aload_n hx hb dX6_ageLots_10 rfl (lv_at hl 1 rfl) ?_
      refine gt_0_4 hx hb hts iX6_ageLots_X6 hown hB.1 hC qX6_ageLots_w2 dX6_ageLots_11 ?_
      refine lv_iload_n hx hb dX6_ageLots_14 rfl (lv_at hl 0 rfl) ?_
      have hk_k : k < 12 := lk_nat c1 hc1 (by omega)
      refine la_14 hx hb hB.1 hC (k := k) (nI_clamp (by omega)) (vp_in_nI (by omega) (by decide)) dX6_ageLots_15 ?_
      refine gt_5_2 hx hb hts iX6_ageLots_X3 hown hB.1 hC (by omega) qX6_ageLots_w3 dX6_ageLots_16 ?_
      refine lv_if_eq (tgt := 37) hx hb dX6_ageLots_19 (by decide) (fun c2 => ?_) (fun c2 => ?_)
      · skip
        refine lv_iinc (v := nI (k + 1)) (lv' := [(1, .int (nI (k + 1))), (0, .ref (ad 0 0))]) hx hb dX6_ageLots_37 hl (k := 0) rfl (nI_1 _) (by decide) rfl (fun ls hl => ?_)
        refine lv_goto (tgt := 2) hx hb dX6_ageLots_40 (by decide) ?_
        have e9 : fX6_ageLots_L2 g (n + 1) k g1 = fX6_ageLots_L2 g n (k + 1) g1 := by rw [fX6_ageLots_L2, if_neg c1, if_pos c2]
        rw [e9] at kk
        exact ih (k + 1) g1 (by omega) (by have q9 := lk_lt c1 (by omega); rw [((show Kp g1 g1 from (Kp.rf g1)).1 10 (by decide))]; omega) (by rw [((show Kp g1 g1 from (Kp.rf g1)).1 10 (by decide))]; exact hc1) ((show Kp g1 g1 from (Kp.rf g1)).iv hv1) H locs ls hC hS (lv_sub hl [0, 1] rfl) kk
      · skip
        refine lv_aload_n hx hb dX6_ageLots_22 rfl (lv_at hl 1 rfl) ?_
        refine gt_0_4 hx hb hts iX6_ageLots_X6 hown hB.1 hC qX6_ageLots_w2 dX6_ageLots_23 ?_
        refine lv_iload_n hx hb dX6_ageLots_26 rfl (lv_at hl 0 rfl) ?_
        refine la_14 hx hb hB.1 hC (k := k) (nI_clamp (by omega)) (vp_in_nI (by omega) (by decide)) dX6_ageLots_27 ?_
        refine lv_dup hx hb dX6_ageLots_28 rfl ?_
        refine gt_5_7 hx hb hts iX6_ageLots_X3 hown hB.1 hC (by omega) qX6_ageLots_w4 dX6_ageLots_29 ?_
        refine lv_iconst (v := 1) hx hb dX6_ageLots_32 (by decide) ?_
        refine lv_iadd hx hb dX6_ageLots_33 ?_
        refine pt_5_7 hx hb hts iX6_ageLots_X3 hown hB.1 hC hI hS hA (by omega) qX6_ageLots_w4 dX6_ageLots_34 (fun H locs hC hS => ?_)
        refine lv_iinc (v := nI (k + 1)) (lv' := [(1, .int (nI (k + 1))), (0, .ref (ad 0 0))]) hx hb dX6_ageLots_37 hl (k := 0) rfl (nI_1 _) (by decide) rfl (fun ls hl => ?_)
        refine lv_goto (tgt := 2) hx hb dX6_ageLots_40 (by decide) ?_
        have e9 : fX6_ageLots_L2 g (n + 1) k g1 = fX6_ageLots_L2 g n (k + 1) (up g1 3 (8 + k) 2 ((g1 3 (8 + k) 2) + 1)) := by rw [fX6_ageLots_L2, if_neg c1, if_neg c2]
        rw [e9] at kk
        exact ih (k + 1) (up g1 3 (8 + k) 2 ((g1 3 (8 + k) 2) + 1)) (by omega) (by have q9 := lk_lt c1 (by omega); rw [((show Kp g1 (up g1 3 (8 + k) 2 ((g1 3 (8 + k) 2) + 1)) from ((Kp.rf g1).up rfl)).1 10 (by decide))]; omega) (by rw [((show Kp g1 (up g1 3 (8 + k) 2 ((g1 3 (8 + k) 2) + 1)) from ((Kp.rf g1).up rfl)).1 10 (by decide))]; exact hc1) ((show Kp g1 (up g1 3 (8 + k) 2 ((g1 3 (8 + k) 2) + 1)) from ((Kp.rf g1).up rfl)).iv hv1) H locs ls hC hS (lv_sub hl [0, 1] rfl) kk
set_option maxRecDepth 100000 in
set_option maxHeartbeats 4000000 in
theorem kX6_ageLots (l : Launch) (D : va_G) (cy : Nat → ClassId) {ad : Nat → Nat → Nat} (hI : cI ad) (g : Gd) (sz : Nat) (hv : IvC g) : Met l yX6_ageLots wsX6_ageLots ({ frames := 0, cells := 0, slots := 0, locals := 0 } : Room) (va_Pc [.ref (ad 0 0)] (cPre D cy ad g sz)) (cQv D cy ad (fX6_ageLots g) sz) 0 0 (cA ad sz) := by
  refine q_start (cc := cX6_ageLots) (maxL := 2) (ret := none) (own := RX6) (by decide) rfl rfl (Nat.le_of_ble_eq_true rfl) ?_
  intro p e s m below meth c hx hb hr hml hts hown hlocks ⟨hsz, hC, hB⟩ ls hl
  subst hsz
  have hS : va_S (cA ad s.heap.size) s.heap s.heap [] := va_S.rf
  have hA : ∀ κ i : Nat, cV κ i → cA ad s.heap.size (ad κ i) := fun κ i h => Or.inl ⟨κ, i, h, rfl⟩
  have hl : lv_has ls 2 [(0, .ref (ad 0 0))] := hl
  refine lv_iconst (v := 0) hx hb dX6_ageLots_0 (by decide) ?_
  refine lv_istore_n (lv' := [(1, .int 0), (0, .ref (ad 0 0))]) hx hb dX6_ageLots_1 rfl hl (by decide) rfl (fun ls hl => ?_)
  refine kX6_ageLots_L2 l D cy hI g  hv  hx hb hr hml hts hown hlocks hB 13 0 g (by omega) (by have := (IvC.n10 hv).1; omega) (IvC.n10 hv).2 hv _ _ ls hC hS (lv_sub hl [0, 1] rfl) (fun H locs ls hC hS hl => ?_)
  exact q_retv hx hb hr hB hC hS rfl hlocks dX6_ageLots_43
theorem kp_ageB_L (g : Gd) : ∀ (n k : Nat) (a : Int32) (g1 : Gd), Kp g1 (fX6_ageBaskets_L4 g n k a g1).2 := by
  intro n
  induction n with
  | zero => intro k a g1; exact Kp.rf g1
  | succ n ih =>
    intro k a g1
    rw [fX6_ageBaskets_L4]
    repeat' split
    all_goals first | exact Kp.rf g1 | exact Kp.tr (kp_spoils g1 k) (ih _ _ _) | exact Kp.tr ((kp_spoils g1 k).up rfl) (ih _ _ _)
theorem kp_ageB (g : Gd) : Kp g (fX6_ageBaskets g).2 := by
  unfold fX6_ageBaskets
  exact kp_ageB_L g _ _ _ _
theorem kp_ageL_L (g : Gd) : ∀ (n k : Nat) (g1 : Gd), Kp g1 (fX6_ageLots_L2 g n k g1) := by
  intro n
  induction n with
  | zero => intro k g1; exact Kp.rf g1
  | succ n ih =>
    intro k g1
    rw [fX6_ageLots_L2]
    repeat' split
    all_goals first | exact Kp.rf g1 | exact ih _ _ | exact Kp.tr ((Kp.rf g1).up rfl) (ih _ _)
theorem kp_ageL (g : Gd) : Kp g (fX6_ageLots g) := by
  unfold fX6_ageLots
  exact kp_ageL_L g _ _ _
theorem kp_pass_any {g g1 : Gd} (h : Kp g g1) (hv : IvC g) : IvC g1 := h.iv hv
def fX6_passOneHour_L44 (g : Gd) (x : Int32) (y : Int32) : Nat → Nat → Gd → Gd
  | 0, k, g1 => g1
  | n + 1, k, g1 => if (g1 0 0 9) ≤ (nI k) then (g1) else (fX6_passOneHour_L44 g x y n (k + 1) (fX1_passHour g1 k (g1 0 0 0) x y))
def fX6_passOneHour (g : Gd) (x : Int32) (y : Int32) : Int32 × Gd := if (((fX6_passOneHour_L44 g x y 6 0 (fX5_passHour (fX5_passHour (fX5_passHour ((fX6_ageBaskets (up g 0 0 0 ((g 0 0 0) + 1))).2) 0 x) 1 x) 2 x)) 0 0 0) - ((fX6_passOneHour_L44 g x y 6 0 (fX5_passHour (fX5_passHour (fX5_passHour ((fX6_ageBaskets (up g 0 0 0 ((g 0 0 0) + 1))).2) 0 x) 1 x) 2 x)) 0 0 0) / 24 * 24) = 0 then (((fX6_ageBaskets (up g 0 0 0 ((g 0 0 0) + 1))).1, fX6_ageLots (fX6_passOneHour_L44 g x y 6 0 (fX5_passHour (fX5_passHour (fX5_passHour ((fX6_ageBaskets (up g 0 0 0 ((g 0 0 0) + 1))).2) 0 x) 1 x) 2 x)))) else (((fX6_ageBaskets (up g 0 0 0 ((g 0 0 0) + 1))).1, fX6_passOneHour_L44 g x y 6 0 (fX5_passHour (fX5_passHour (fX5_passHour ((fX6_ageBaskets (up g 0 0 0 ((g 0 0 0) + 1))).2) 0 x) 1 x) 2 x)))
theorem qX6_passOneHour_w1 : Cond.fieldLink RX6 61 "CherryStation" "hour" "I" ∈ wsX6_passOneHour := List.mem_of_getElem? (i := 1) rfl
theorem qX6_passOneHour_w2 : Cond.fieldLink RX6 23 "CherryStation" "tanks" "[LCherryStation$Tank;" ∈ wsX6_passOneHour := List.mem_of_getElem? (i := 2) rfl
theorem qX6_passOneHour_w3 : Cond.fieldLink RX6 55 "CherryStation" "bedCount" "I" ∈ wsX6_passOneHour := List.mem_of_getElem? (i := 3) rfl
theorem qX6_passOneHour_w4 : Cond.fieldLink RX6 29 "CherryStation" "beds" "[LCherryStation$Bed;" ∈ wsX6_passOneHour := List.mem_of_getElem? (i := 4) rfl
theorem iX6_passOneHour_X6 : ∀ w ∈ wsX60, w ∈ wsX6_passOneHour := fun _ h => (List.mem_cons_of_mem _ (List.mem_append_left _ (List.mem_append_left _ (List.mem_append_left _ (List.mem_append_left _ (List.mem_append_left _ (List.mem_append_right _ h)))))))
theorem kp_beds_L (g : Gd) (x y : Int32) : ∀ (n k : Nat) (g1 : Gd), Kp g1 (fX6_passOneHour_L44 g x y n k g1) := by
  intro n
  induction n with
  | zero => intro k g1; exact Kp.rf g1
  | succ n ih =>
    intro k g1
    rw [fX6_passOneHour_L44]
    split
    · exact Kp.rf g1
    · exact Kp.tr (kp_bed g1 k _ _ _) (ih _ _)
set_option maxRecDepth 100000 in
set_option maxHeartbeats 4000000 in
theorem kX6_passOneHour_L44 (l : Launch) (D : va_G) (cy : Nat → ClassId) {ad : Nat → Nat → Nat} (hI : cI ad) (g : Gd) (x : Int32) (y : Int32) (hv : IvC g)  {p : Program} {e : Env} {s : State} {m : MethodId} {below : List Frame} {meth : Method} {c : Code} {Q : State → Prop} (hx : p.tables.exec = Jvm.exec) (hb : c.code = cX6_passOneHour) (hr : meth.sig.returnType = (some .int)) (hml : c.maxLocals = 5) (hts : ∀ w ∈ wsX6_passOneHour, w.before [.ref (ad 0 0), .int x, .int y].toArray s = true) (hown : s.vm.findClass RX6 = some m.cls) (hlocks : meth.locks = false) (hB : CB D cy ad s) : ∀ (n k : Nat) (g1 : Gd) (hn : k + n = 6) (hk : (k : Int) ≤ (g1 0 0 9).toInt) (hc1 : (g1 0 0 9).toInt ≤ 5) (hv1 : IvC g1)  (H : Heap) (locs : List Loc) (ls : Array Slot) (hC : CW D cy ad g1 H) (hS : va_S (cA ad s.heap.size) s.heap H locs) (hl : lv_has ls 5 [(4, .int (nI k)), (3, .int ((fX6_ageBaskets (up g 0 0 0 ((g 0 0 0) + 1))).1)), (0, .ref (ad 0 0)), (1, .int x), (2, .int y)]) (kk : ∀ (H : Heap) (locs : List Loc) (ls : Array Slot), CW D cy ad (fX6_passOneHour_L44 g x y n k g1) H → va_S (cA ad s.heap.size) s.heap H locs → lv_has ls 5 [(3, .int ((fX6_ageBaskets (up g 0 0 0 ((g 0 0 0) + 1))).1)), (0, .ref (ad 0 0)), (1, .int x), (2, .int y)] → W p l e ({ frames := 3, cells := 0, slots := 0, locals := 68 } : Room) s m [.ref (ad 0 0), .int x, .int y].toArray below meth c H locs 0 0 Q (F0 m 75 ls [])), W p l e ({ frames := 3, cells := 0, slots := 0, locals := 68 } : Room) s m [.ref (ad 0 0), .int x, .int y].toArray below meth c H locs 0 0 Q (F0 m 44 ls []) := by
  have hA : ∀ κ i : Nat, cV κ i → cA ad s.heap.size (ad κ i) := fun κ i h => Or.inl ⟨κ, i, h, rfl⟩
  intro n
  induction n with
  | zero => intro k g1 hn hk hc1 hv1 H locs ls hC hS hl kk; exact absurd hk (by omega)
  | succ n ih =>
    intro k g1 hn hk hc1 hv1 H locs ls hC hS hl kk
    refine lv_iload hx hb dX6_passOneHour_44 (lv_at hl 0 rfl) ?_
    refine lv_aload_n hx hb dX6_passOneHour_46 rfl (lv_at hl 2 rfl) ?_
    refine gt_0_9 hx hb hts iX6_passOneHour_X6 hown hB.1 hC qX6_passOneHour_w3 dX6_passOneHour_47 ?_
    refine lv_icmp_ge (tgt := 75) hx hb dX6_passOneHour_50 (by decide) (fun c1 => ?_) (fun c1 => ?_)
    · skip
      have e9 : fX6_passOneHour_L44 g x y (n + 1) k g1 = g1 := by rw [fX6_passOneHour_L44, if_pos c1]
      rw [e9] at kk
      exact kk H locs ls hC hS (lv_sub hl [1, 2, 3, 4] rfl)
    · skip
      refine lv_aload_n hx hb dX6_passOneHour_53 rfl (lv_at hl 2 rfl) ?_
      refine gt_0_3 hx hb hts iX6_passOneHour_X6 hown hB.1 hC qX6_passOneHour_w4 dX6_passOneHour_54 ?_
      refine lv_iload hx hb dX6_passOneHour_57 (lv_at hl 0 rfl) ?_
      have hk_k : k < 5 := lk_nat c1 hc1 (by omega)
      refine la_13 hx hb hB.1 hC (k := k) (nI_clamp (by omega)) (vp_in_nI (by omega) (by decide)) dX6_passOneHour_59 ?_
      refine lv_aload_n hx hb dX6_passOneHour_60 rfl (lv_at hl 2 rfl) ?_
      refine gt_0_11 hx hb hts iX6_passOneHour_X6 hown hB.1 hC qX6_passOneHour_w1 dX6_passOneHour_61 ?_
      refine lv_iload_n hx hb dX6_passOneHour_64 rfl (lv_at hl 3 rfl) ?_
      refine lv_iload_n hx hb dX6_passOneHour_65 rfl (lv_at hl 4 rfl) ?_
      refine q_callVv (As := [.int (g1 0 0 0), .int x, .int y]) (κ := 4) (i := k) (show k < 5 from (by omega)) rfl ⟨_, rfl⟩ rfl ⟨hx, hb, hml, hown, hts⟩ (kX1_passHour l D cy hI g1 _ k (by omega) (g1 0 0 0) x y (IvC.dp hv1 hk_k)) (cwV 3 hts gX6_passOneHour_X1_passHour rfl rfl rfl (by decide +kernel) ⟨Nat.le_of_ble_eq_true rfl, Nat.le_of_ble_eq_true rfl⟩) hB hC hS rfl hl.1 (Nat.le_of_ble_eq_true rfl) dX6_passOneHour_66 ⟨Nat.le_of_ble_eq_true rfl, Nat.le_of_ble_eq_true rfl⟩ (fun H locs hC hS => ?_)
      refine lv_iinc (v := nI (k + 1)) (lv' := [(4, .int (nI (k + 1))), (3, .int ((fX6_ageBaskets (up g 0 0 0 ((g 0 0 0) + 1))).1)), (0, .ref (ad 0 0)), (1, .int x), (2, .int y)]) hx hb dX6_passOneHour_69 hl (k := 0) rfl (nI_1 _) (by decide) rfl (fun ls hl => ?_)
      refine lv_goto (tgt := 44) hx hb dX6_passOneHour_72 (by decide) ?_
      have e9 : fX6_passOneHour_L44 g x y (n + 1) k g1 = fX6_passOneHour_L44 g x y n (k + 1) (fX1_passHour g1 k (g1 0 0 0) x y) := by rw [fX6_passOneHour_L44, if_neg c1]
      rw [e9] at kk
      exact ih (k + 1) (fX1_passHour g1 k (g1 0 0 0) x y) (by omega) (by have q9 := lk_lt c1 (by omega); rw [((kp_bed g1 k _ _ _).1 9 (by decide))]; omega) (by rw [((kp_bed g1 k _ _ _).1 9 (by decide))]; exact hc1) ((kp_bed g1 k _ _ _).iv hv1) H locs ls hC hS (lv_sub hl [0, 1, 2, 3, 4] rfl) kk
set_option maxRecDepth 100000 in
set_option maxHeartbeats 4000000 in
theorem kX6_passOneHour (l : Launch) (D : va_G) (cy : Nat → ClassId) {ad : Nat → Nat → Nat} (hI : cI ad) (g : Gd) (sz : Nat) (x : Int32) (y : Int32) (hv : IvC g) : Met l yX6_passOneHour wsX6_passOneHour ({ frames := 3, cells := 0, slots := 0, locals := 68 } : Room) (va_Pc [.ref (ad 0 0), .int x, .int y] (cPre D cy ad g sz)) (cQi D cy ad (fX6_passOneHour g x y).1 (fX6_passOneHour g x y).2 sz) 0 0 (cA ad sz) := by
  refine q_start (cc := cX6_passOneHour) (maxL := 5) (ret := (some .int)) (own := RX6) (by decide) rfl rfl (Nat.le_of_ble_eq_true rfl) ?_
  intro p e s m below meth c hx hb hr hml hts hown hlocks ⟨hsz, hC, hB⟩ ls hl
  subst hsz
  have hS : va_S (cA ad s.heap.size) s.heap s.heap [] := va_S.rf
  have hA : ∀ κ i : Nat, cV κ i → cA ad s.heap.size (ad κ i) := fun κ i h => Or.inl ⟨κ, i, h, rfl⟩
  have hl : lv_has ls 5 [(0, .ref (ad 0 0)), (1, .int x), (2, .int y)] := hl
  refine lv_aload_n hx hb dX6_passOneHour_0 rfl (lv_at hl 0 rfl) ?_
  refine lv_dup hx hb dX6_passOneHour_1 rfl ?_
  refine gt_0_11 hx hb hts iX6_passOneHour_X6 hown hB.1 hC qX6_passOneHour_w1 dX6_passOneHour_2 ?_
  refine lv_iconst (v := 1) hx hb dX6_passOneHour_5 (by decide) ?_
  refine lv_iadd hx hb dX6_passOneHour_6 ?_
  refine pt_0_11 hx hb hts iX6_passOneHour_X6 hown hB.1 hC hI hS hA qX6_passOneHour_w1 dX6_passOneHour_7 (fun H locs hC hS => ?_)
  refine lv_aload_n hx hb dX6_passOneHour_10 rfl (lv_at hl 0 rfl) ?_
  refine q_callVi (As := []) (κ := 0) (i := 0) rfl rfl ⟨_, rfl⟩ rfl ⟨hx, hb, hml, hown, hts⟩ (kX6_ageBaskets l D cy hI (up g 0 0 0 ((g 0 0 0) + 1)) _   ((kp_hour g _).iv hv)) (cwV 0 hts gX6_passOneHour_X6_ageBaskets rfl rfl rfl (by decide +kernel) ⟨Nat.le_of_ble_eq_true rfl, Nat.le_of_ble_eq_true rfl⟩) hB hC hS rfl hl.1 (Nat.le_of_ble_eq_true rfl) dX6_passOneHour_11 ⟨Nat.le_of_ble_eq_true rfl, Nat.le_of_ble_eq_true rfl⟩ (fun H locs hC hS => ?_)
  refine lv_istore_n (lv' := [(3, .int ((fX6_ageBaskets (up g 0 0 0 ((g 0 0 0) + 1))).1)), (0, .ref (ad 0 0)), (1, .int x), (2, .int y)]) hx hb dX6_passOneHour_14 rfl hl (by decide) rfl (fun ls hl => ?_)
  refine lv_iconst (v := 0) hx hb dX6_passOneHour_15 (by decide) ?_
  refine lv_istore (lv' := [(4, .int 0), (3, .int ((fX6_ageBaskets (up g 0 0 0 ((g 0 0 0) + 1))).1)), (0, .ref (ad 0 0)), (1, .int x), (2, .int y)]) hx hb dX6_passOneHour_16 hl (by decide) rfl (fun ls hl => ?_)
  refine lv_iload hx hb dX6_passOneHour_18 (lv_at hl 0 rfl) ?_
  refine lv_iconst (v := 3) hx hb dX6_passOneHour_20 (by decide) ?_
  refine lv_icmp_ge (tgt := 41) hx hb dX6_passOneHour_21 (by decide) (fun c => absurd c (by decide)) (fun _ => ?_)
  refine lv_aload_n hx hb dX6_passOneHour_24 rfl (lv_at hl 2 rfl) ?_
  refine gt_0_2 hx hb hts iX6_passOneHour_X6 hown hB.1 hC qX6_passOneHour_w2 dX6_passOneHour_25 ?_
  refine lv_iload hx hb dX6_passOneHour_28 (lv_at hl 0 rfl) ?_
  refine la_12 hx hb hB.1 hC (k := 0) (by decide) (by unfold vp_in; decide) dX6_passOneHour_30 ?_
  refine lv_iload_n hx hb dX6_passOneHour_31 rfl (lv_at hl 3 rfl) ?_
  refine q_callVv (As := [.int x]) (κ := 3) (i := 0) (show 0 < 3 from (by decide)) rfl ⟨_, rfl⟩ rfl ⟨hx, hb, hml, hown, hts⟩ (kX5_passHour l D cy hI ((fX6_ageBaskets (up g 0 0 0 ((g 0 0 0) + 1))).2) _ 0 (by decide) x ) (cwV 1 hts gX6_passOneHour_X5_passHour rfl rfl rfl (by decide +kernel) ⟨Nat.le_of_ble_eq_true rfl, Nat.le_of_ble_eq_true rfl⟩) hB hC hS rfl hl.1 (Nat.le_of_ble_eq_true rfl) dX6_passOneHour_32 ⟨Nat.le_of_ble_eq_true rfl, Nat.le_of_ble_eq_true rfl⟩ (fun H locs hC hS => ?_)
  refine lv_iinc (v := 1) (lv' := [(4, .int 1), (3, .int ((fX6_ageBaskets (up g 0 0 0 ((g 0 0 0) + 1))).1)), (0, .ref (ad 0 0)), (1, .int x), (2, .int y)]) hx hb dX6_passOneHour_35 hl (k := 0) rfl (by decide) (by decide) rfl (fun ls hl => ?_)
  refine lv_goto (tgt := 18) hx hb dX6_passOneHour_38 (by decide) ?_
  refine lv_iload hx hb dX6_passOneHour_18 (lv_at hl 0 rfl) ?_
  refine lv_iconst (v := 3) hx hb dX6_passOneHour_20 (by decide) ?_
  refine lv_icmp_ge (tgt := 41) hx hb dX6_passOneHour_21 (by decide) (fun c => absurd c (by decide)) (fun _ => ?_)
  refine lv_aload_n hx hb dX6_passOneHour_24 rfl (lv_at hl 2 rfl) ?_
  refine gt_0_2 hx hb hts iX6_passOneHour_X6 hown hB.1 hC qX6_passOneHour_w2 dX6_passOneHour_25 ?_
  refine lv_iload hx hb dX6_passOneHour_28 (lv_at hl 0 rfl) ?_
  refine la_12 hx hb hB.1 hC (k := 1) (by decide) (by unfold vp_in; decide) dX6_passOneHour_30 ?_
  refine lv_iload_n hx hb dX6_passOneHour_31 rfl (lv_at hl 3 rfl) ?_
  refine q_callVv (As := [.int x]) (κ := 3) (i := 1) (show 1 < 3 from (by decide)) rfl ⟨_, rfl⟩ rfl ⟨hx, hb, hml, hown, hts⟩ (kX5_passHour l D cy hI (fX5_passHour ((fX6_ageBaskets (up g 0 0 0 ((g 0 0 0) + 1))).2) 0 x) _ 1 (by decide) x ) (cwV 1 hts gX6_passOneHour_X5_passHour rfl rfl rfl (by decide +kernel) ⟨Nat.le_of_ble_eq_true rfl, Nat.le_of_ble_eq_true rfl⟩) hB hC hS rfl hl.1 (Nat.le_of_ble_eq_true rfl) dX6_passOneHour_32 ⟨Nat.le_of_ble_eq_true rfl, Nat.le_of_ble_eq_true rfl⟩ (fun H locs hC hS => ?_)
  refine lv_iinc (v := 2) (lv' := [(4, .int 2), (3, .int ((fX6_ageBaskets (up g 0 0 0 ((g 0 0 0) + 1))).1)), (0, .ref (ad 0 0)), (1, .int x), (2, .int y)]) hx hb dX6_passOneHour_35 hl (k := 0) rfl (by decide) (by decide) rfl (fun ls hl => ?_)
  refine lv_goto (tgt := 18) hx hb dX6_passOneHour_38 (by decide) ?_
  refine lv_iload hx hb dX6_passOneHour_18 (lv_at hl 0 rfl) ?_
  refine lv_iconst (v := 3) hx hb dX6_passOneHour_20 (by decide) ?_
  refine lv_icmp_ge (tgt := 41) hx hb dX6_passOneHour_21 (by decide) (fun c => absurd c (by decide)) (fun _ => ?_)
  refine lv_aload_n hx hb dX6_passOneHour_24 rfl (lv_at hl 2 rfl) ?_
  refine gt_0_2 hx hb hts iX6_passOneHour_X6 hown hB.1 hC qX6_passOneHour_w2 dX6_passOneHour_25 ?_
  refine lv_iload hx hb dX6_passOneHour_28 (lv_at hl 0 rfl) ?_
  refine la_12 hx hb hB.1 hC (k := 2) (by decide) (by unfold vp_in; decide) dX6_passOneHour_30 ?_
  refine lv_iload_n hx hb dX6_passOneHour_31 rfl (lv_at hl 3 rfl) ?_
  refine q_callVv (As := [.int x]) (κ := 3) (i := 2) (show 2 < 3 from (by decide)) rfl ⟨_, rfl⟩ rfl ⟨hx, hb, hml, hown, hts⟩ (kX5_passHour l D cy hI (fX5_passHour (fX5_passHour ((fX6_ageBaskets (up g 0 0 0 ((g 0 0 0) + 1))).2) 0 x) 1 x) _ 2 (by decide) x ) (cwV 1 hts gX6_passOneHour_X5_passHour rfl rfl rfl (by decide +kernel) ⟨Nat.le_of_ble_eq_true rfl, Nat.le_of_ble_eq_true rfl⟩) hB hC hS rfl hl.1 (Nat.le_of_ble_eq_true rfl) dX6_passOneHour_32 ⟨Nat.le_of_ble_eq_true rfl, Nat.le_of_ble_eq_true rfl⟩ (fun H locs hC hS => ?_)
  refine lv_iinc (v := 3) (lv' := [(4, .int 3), (3, .int ((fX6_ageBaskets (up g 0 0 0 ((g 0 0 0) + 1))).1)), (0, .ref (ad 0 0)), (1, .int x), (2, .int y)]) hx hb dX6_passOneHour_35 hl (k := 0) rfl (by decide) (by decide) rfl (fun ls hl => ?_)
  refine lv_goto (tgt := 18) hx hb dX6_passOneHour_38 (by decide) ?_
  refine lv_iload hx hb dX6_passOneHour_18 (lv_at hl 0 rfl) ?_
  refine lv_iconst (v := 3) hx hb dX6_passOneHour_20 (by decide) ?_
  refine lv_icmp_ge (tgt := 41) hx hb dX6_passOneHour_21 (by decide) (fun _ => ?_) (fun c => absurd c (by decide))
  refine lv_iconst (v := 0) hx hb dX6_passOneHour_41 (by decide) ?_
  refine lv_istore (lv' := [(4, .int 0), (3, .int ((fX6_ageBaskets (up g 0 0 0 ((g 0 0 0) + 1))).1)), (0, .ref (ad 0 0)), (1, .int x), (2, .int y)]) hx hb dX6_passOneHour_42 hl (by decide) rfl (fun ls hl => ?_)
  refine kX6_passOneHour_L44 l D cy hI g x y  hv  hx hb hr hml hts hown hlocks hB 6 0 (fX5_passHour (fX5_passHour (fX5_passHour ((fX6_ageBaskets (up g 0 0 0 ((g 0 0 0) + 1))).2) 0 x) 1 x) 2 x) (by omega) (by have := (IvC.n9 ((Kp.tr (Kp.tr (Kp.tr (Kp.tr (kp_hour g (g 0 0 0 + 1)) (kp_ageB _)) (kp_tank _ 0 x)) (kp_tank _ 1 x)) (kp_tank _ 2 x)).iv hv)).1; omega) (IvC.n9 ((Kp.tr (Kp.tr (Kp.tr (Kp.tr (kp_hour g (g 0 0 0 + 1)) (kp_ageB _)) (kp_tank _ 0 x)) (kp_tank _ 1 x)) (kp_tank _ 2 x)).iv hv)).2 ((Kp.tr (Kp.tr (Kp.tr (Kp.tr (kp_hour g (g 0 0 0 + 1)) (kp_ageB _)) (kp_tank _ 0 x)) (kp_tank _ 1 x)) (kp_tank _ 2 x)).iv hv) _ _ ls hC hS (lv_sub hl [0, 1, 2, 3, 4] rfl) (fun H locs ls hC hS hl => ?_)
  refine lv_aload_n hx hb dX6_passOneHour_75 rfl (lv_at hl 1 rfl) ?_
  refine gt_0_11 hx hb hts iX6_passOneHour_X6 hown hB.1 hC qX6_passOneHour_w1 dX6_passOneHour_76 ?_
  refine lv_bipush (v := 24) hx hb dX6_passOneHour_79 (by decide) ?_
  refine lv_irem hx hb dX6_passOneHour_81 (by decide) ?_
  refine lv_if_ne (tgt := 89) hx hb dX6_passOneHour_82 (by decide) (fun c2 => ?_) (fun c2 => ?_)
  · skip
    refine lv_iload_n hx hb dX6_passOneHour_89 rfl (lv_at hl 0 rfl) ?_
    have e9 : fX6_passOneHour g x y = ((fX6_ageBaskets (up g 0 0 0 ((g 0 0 0) + 1))).1, fX6_passOneHour_L44 g x y 6 0 (fX5_passHour (fX5_passHour (fX5_passHour ((fX6_ageBaskets (up g 0 0 0 ((g 0 0 0) + 1))).2) 0 x) 1 x) 2 x)) := (by unfold fX6_passOneHour; rw [if_neg c2])
    exact q_reti hx hb hr hB hC hS (by rw [e9]) (by rw [e9]) hlocks dX6_passOneHour_90
  · skip
    refine lv_aload_n hx hb dX6_passOneHour_85 rfl (lv_at hl 1 rfl) ?_
    refine q_callVv (As := []) (κ := 0) (i := 0) rfl rfl ⟨_, rfl⟩ rfl ⟨hx, hb, hml, hown, hts⟩ (kX6_ageLots l D cy hI (fX6_passOneHour_L44 g x y 6 0 (fX5_passHour (fX5_passHour (fX5_passHour ((fX6_ageBaskets (up g 0 0 0 ((g 0 0 0) + 1))).2) 0 x) 1 x) 2 x)) _   ((Kp.tr (Kp.tr (Kp.tr (Kp.tr (Kp.tr (kp_hour g (g 0 0 0 + 1)) (kp_ageB _)) (kp_tank _ 0 x)) (kp_tank _ 1 x)) (kp_tank _ 2 x)) (kp_beds_L g x y _ _ _)).iv hv)) (cwV 0 hts gX6_passOneHour_X6_ageLots rfl rfl rfl (by decide +kernel) ⟨Nat.le_of_ble_eq_true rfl, Nat.le_of_ble_eq_true rfl⟩) hB hC hS rfl hl.1 (Nat.le_of_ble_eq_true rfl) dX6_passOneHour_86 ⟨Nat.le_of_ble_eq_true rfl, Nat.le_of_ble_eq_true rfl⟩ (fun H locs hC hS => ?_)
    refine lv_iload_n hx hb dX6_passOneHour_89 rfl (lv_at hl 0 rfl) ?_
    have e9 : fX6_passOneHour g x y = ((fX6_ageBaskets (up g 0 0 0 ((g 0 0 0) + 1))).1, fX6_ageLots (fX6_passOneHour_L44 g x y 6 0 (fX5_passHour (fX5_passHour (fX5_passHour ((fX6_ageBaskets (up g 0 0 0 ((g 0 0 0) + 1))).2) 0 x) 1 x) 2 x))) := (by unfold fX6_passOneHour; rw [if_pos c2])
    exact q_reti hx hb hr hB hC hS (by rw [e9]) (by rw [e9]) hlocks dX6_passOneHour_90
theorem kp_pass1 (g : Gd) (x y : Int32) : Kp g (fX6_passOneHour g x y).2 := by
  unfold fX6_passOneHour
  split
  · dsimp only
    exact Kp.tr (Kp.tr (Kp.tr (Kp.tr (Kp.tr (Kp.tr (kp_hour g (g 0 0 0 + 1)) (kp_ageB _)) (kp_tank _ 0 x)) (kp_tank _ 1 x)) (kp_tank _ 2 x)) (kp_beds_L g x y _ _ _)) (kp_ageL _)
  · dsimp only
    exact Kp.tr (Kp.tr (Kp.tr (Kp.tr (Kp.tr (kp_hour g (g 0 0 0 + 1)) (kp_ageB _)) (kp_tank _ 0 x)) (kp_tank _ 1 x)) (kp_tank _ 2 x)) (kp_beds_L g x y _ _ _)
theorem hours_0 {h : Int32} (c : ¬ h < 1) : ((0 : Nat) : Int) ≤ h.toInt := by
  have := Int32.le_iff_toInt_le.mp (Int32.not_lt.mp c)
  have e : (1 : Int32).toInt = 1 := by decide
  omega
theorem hours_100 {h : Int32} (c : ¬ 100 < h) : h.toInt ≤ (100 : Nat) := by
  have := Int32.le_iff_toInt_le.mp (Int32.not_lt.mp c)
  have e : (100 : Int32).toInt = 100 := by decide
  omega
def fX6_pass_L69 (g : Gd) (hh : Int32) (ww : Int32) (rr : Int32) : Nat → Nat → Int32 → Gd → Int32 × Gd
  | 0, k, a, g1 => (a, g1)
  | n + 1, k, a, g1 => if hh ≤ (nI k) then ((a, g1)) else (fX6_pass_L69 g hh ww rr n (k + 1) (a + ((fX6_passOneHour g1 ww rr).1)) ((fX6_passOneHour g1 ww rr).2))
def fX6_pass (g : Gd) (hh : Int32) (ww : Int32) (rr : Int32) : Nat × Int32 × Gd := if hh < 1 then ((2, 0, g)) else (if 100 < hh then ((2, 0, g)) else (if ww < 0 then ((2, 0, g)) else (if 40 < ww then ((2, 0, g)) else (if rr < 0 then ((2, 0, g)) else (if rr ≤ 20 then (if ((g 0 0 0) + hh) ≤ 20000 then ((0, (fX6_pass_L69 g hh ww rr 101 0 0 g).1, (fX6_pass_L69 g hh ww rr 101 0 0 g).2)) else ((3, 0, g))) else ((2, 0, g)))))))
theorem qX6_pass_w1 : Cond.classLink RX6 86 "java/lang/IllegalArgumentException" ∈ wsX6_pass := List.mem_of_getElem? (i := 1) rfl
theorem qX6_pass_w2 : Cond.initialized "java/lang/IllegalArgumentException" ∈ wsX6_pass := List.mem_of_getElem? (i := 2) rfl
theorem qX6_pass_w3 : Cond.classLink RX6 93 "java/lang/IllegalStateException" ∈ wsX6_pass := List.mem_of_getElem? (i := 3) rfl
theorem qX6_pass_w4 : Cond.initialized "java/lang/IllegalStateException" ∈ wsX6_pass := List.mem_of_getElem? (i := 4) rfl
theorem qX6_pass_w5 : Cond.fieldLink RX6 61 "CherryStation" "hour" "I" ∈ wsX6_pass := List.mem_of_getElem? (i := 5) rfl
theorem iX6_pass_X6 : ∀ w ∈ wsX60, w ∈ wsX6_pass := fun _ h => (List.mem_cons_of_mem _ (List.mem_append_left _ (List.mem_append_left _ (List.mem_append_left _ (List.mem_append_left _ (List.mem_append_left _ (List.mem_append_left _ (List.mem_append_left _ (List.mem_append_right _ h)))))))))
set_option maxRecDepth 100000 in
set_option maxHeartbeats 4000000 in
theorem kX6_pass_L69 (l : Launch) (D : va_G) (cy : Nat → ClassId) {ad : Nat → Nat → Nat} (hI : cI ad) (g : Gd) (hh : Int32) (ww : Int32) (rr : Int32) (hv : IvC g)  {p : Program} {e : Env} {s : State} {m : MethodId} {below : List Frame} {meth : Method} {c : Code} {Q : State → Prop} (hx : p.tables.exec = Jvm.exec) (hb : c.code = cX6_pass) (hr : meth.sig.returnType = (some .int)) (hml : c.maxLocals = 6) (hts : ∀ w ∈ wsX6_pass, w.before [.ref (ad 0 0), .int hh, .int ww, .int rr].toArray s = true) (hown : s.vm.findClass RX6 = some m.cls) (hlocks : meth.locks = false) (hT : ∀ x ∈ c.exceptionTable.toList, False) (hB : CB D cy ad s) : ∀ (n k : Nat) (a : Int32) (g1 : Gd) (hn : k + n = 101) (hk : (k : Int) ≤ (hh).toInt) (hc1 : (hh).toInt ≤ 100) (hv1 : IvC g1)  (H : Heap) (locs : List Loc) (ls : Array Slot) (hC : CW D cy ad g1 H) (hS : va_S (cA ad s.heap.size) s.heap H locs) (hl : lv_has ls 6 [(5, .int (nI k)), (4, .int a), (0, .ref (ad 0 0)), (1, .int hh), (2, .int ww), (3, .int rr)]) (kk : ∀ (H : Heap) (locs : List Loc) (ls : Array Slot), CW D cy ad ((fX6_pass_L69 g hh ww rr n k a g1).2) H → va_S (cA ad s.heap.size) s.heap H locs → lv_has ls 6 [(4, .int ((fX6_pass_L69 g hh ww rr n k a g1).1)), (0, .ref (ad 0 0)), (1, .int hh), (2, .int ww), (3, .int rr)] → W p l e ({ frames := 6, cells := 1, slots := 6, locals := 92 } : Room) s m [.ref (ad 0 0), .int hh, .int ww, .int rr].toArray below meth c H locs 0 0 Q (F0 m 92 ls [])), W p l e ({ frames := 6, cells := 1, slots := 6, locals := 92 } : Room) s m [.ref (ad 0 0), .int hh, .int ww, .int rr].toArray below meth c H locs 0 0 Q (F0 m 69 ls []) := by
  have hA : ∀ κ i : Nat, cV κ i → cA ad s.heap.size (ad κ i) := fun κ i h => Or.inl ⟨κ, i, h, rfl⟩
  intro n
  induction n with
  | zero => intro k a g1 hn hk hc1 hv1 H locs ls hC hS hl kk; exact absurd hk (by omega)
  | succ n ih =>
    intro k a g1 hn hk hc1 hv1 H locs ls hC hS hl kk
    refine lv_iload hx hb dX6_pass_69 (lv_at hl 0 rfl) ?_
    refine lv_iload_n hx hb dX6_pass_71 rfl (lv_at hl 3 rfl) ?_
    refine lv_icmp_ge (tgt := 92) hx hb dX6_pass_72 (by decide) (fun c8 => ?_) (fun c8 => ?_)
    · skip
      have e9 : fX6_pass_L69 g hh ww rr (n + 1) k a g1 = (a, g1) := by rw [fX6_pass_L69, if_pos c8]
      rw [e9] at kk
      exact kk H locs ls hC hS (lv_sub hl [1, 2, 3, 4, 5] rfl)
    · skip
      refine lv_iload hx hb dX6_pass_75 (lv_at hl 1 rfl) ?_
      refine lv_aload_n hx hb dX6_pass_77 rfl (lv_at hl 2 rfl) ?_
      refine lv_iload_n hx hb dX6_pass_78 rfl (lv_at hl 4 rfl) ?_
      refine lv_iload_n hx hb dX6_pass_79 rfl (lv_at hl 5 rfl) ?_
      refine q_callVi (As := [.int ww, .int rr]) (κ := 0) (i := 0) rfl rfl ⟨_, rfl⟩ rfl ⟨hx, hb, hml, hown, hts⟩ (kX6_passOneHour l D cy hI g1 _  ww rr hv1) (cwV 2 hts gX6_pass_X6_passOneHour rfl rfl rfl (by decide +kernel) ⟨Nat.le_of_ble_eq_true rfl, Nat.le_of_ble_eq_true rfl⟩) hB hC hS rfl hl.1 (Nat.le_of_ble_eq_true rfl) dX6_pass_80 ⟨Nat.le_of_ble_eq_true rfl, Nat.le_of_ble_eq_true rfl⟩ (fun H locs hC hS => ?_)
      refine lv_iadd hx hb dX6_pass_83 ?_
      refine lv_istore (lv' := [(4, .int (a + ((fX6_passOneHour g1 ww rr).1))), (5, .int (nI k)), (0, .ref (ad 0 0)), (1, .int hh), (2, .int ww), (3, .int rr)]) hx hb dX6_pass_84 hl (by decide) rfl (fun ls hl => ?_)
      refine lv_iinc (v := nI (k + 1)) (lv' := [(5, .int (nI (k + 1))), (4, .int (a + ((fX6_passOneHour g1 ww rr).1))), (0, .ref (ad 0 0)), (1, .int hh), (2, .int ww), (3, .int rr)]) hx hb dX6_pass_86 hl (k := 1) rfl (nI_1 _) (by decide) rfl (fun ls hl => ?_)
      refine lv_goto (tgt := 69) hx hb dX6_pass_89 (by decide) ?_
      have e9 : fX6_pass_L69 g hh ww rr (n + 1) k a g1 = fX6_pass_L69 g hh ww rr n (k + 1) (a + ((fX6_passOneHour g1 ww rr).1)) ((fX6_passOneHour g1 ww rr).2) := by rw [fX6_pass_L69, if_neg c8]
      rw [e9] at kk
      exact ih (k + 1) (a + ((fX6_passOneHour g1 ww rr).1)) ((fX6_passOneHour g1 ww rr).2) (by omega) (by have q9 := lk_lt c8 (by omega); omega) hc1 ((kp_pass1 g1 ww rr).iv hv1) H locs ls hC hS (lv_sub hl [0, 1, 2, 3, 4, 5] rfl) kk
set_option maxRecDepth 100000 in
set_option maxHeartbeats 4000000 in
theorem kX6_pass (l : Launch) (D : va_G) (cy : Nat → ClassId) {ad : Nat → Nat → Nat} (hI : cI ad) (hl0 : l.stackTraces = false) (g : Gd) (sz : Nat) (hh : Int32) (ww : Int32) (rr : Int32) (hv : IvC g) : vx_Met l yX6_pass wsX6_pass ({ frames := 6, cells := 1, slots := 6, locals := 92 } : Room) (va_Pc [.ref (ad 0 0), .int hh, .int ww, .int rr] (cPre D cy ad g sz)) (cXi D cy ad (fX6_pass g hh ww rr).1 (fX6_pass g hh ww rr).2.1 (fX6_pass g hh ww rr).2.2 sz) (cXC D cy ad (fX6_pass g hh ww rr).1 g sz) 1 6 (cA ad sz) := by
  refine q_startX (cc := cX6_pass) (maxL := 6) (ret := (some .int)) (own := RX6) (by decide) rfl rfl (Nat.le_of_ble_eq_true rfl) ?_
  intro p e s m below meth c hx hb hr hml hts hown hlocks hT ⟨hsz, hC, hB⟩ ls hl
  subst hsz
  have hS : va_S (cA ad s.heap.size) s.heap s.heap [] := va_S.rf
  have hA : ∀ κ i : Nat, cV κ i → cA ad s.heap.size (ad κ i) := fun κ i h => Or.inl ⟨κ, i, h, rfl⟩
  have hl : lv_has ls 6 [(0, .ref (ad 0 0)), (1, .int hh), (2, .int ww), (3, .int rr)] := hl
  refine lv_iload_n hx hb dX6_pass_0 rfl (lv_at hl 1 rfl) ?_
  refine lv_iconst (v := 1) hx hb dX6_pass_1 (by decide) ?_
  refine lv_icmp_lt (tgt := 31) hx hb dX6_pass_2 (by decide) (fun c1 => ?_) (fun c1 => ?_)
  · skip
    exact q_throwS (cdv := 2) (ik := 86) (is := 126) (ic := 90) (cls := "java/lang/IllegalArgumentException") (text := "hours is not 1 to 100, warmth not 0 to 40, or rain not 0 to 20") hl0 hx hb hown hml hT hlocks hB hC hS hl.1 (by unfold fX6_pass; rw [if_pos c1]) rfl (by decide) ⟨by decide, by decide⟩ (hts _ qX6_pass_w1) (hts _ qX6_pass_w2) (List.mem_of_getElem? (i := 6) rfl) (fun w hw => hts w (List.mem_cons_of_mem _ (List.mem_append_left _ (List.mem_append_right _ hw)))) xN_90 xG_90 dX6_pass_31 dX6_pass_34 dX6_pass_35 dX6_pass_37 dX6_pass_40 ⟨Nat.le_of_ble_eq_true rfl, Nat.le_of_ble_eq_true rfl, Nat.le_of_ble_eq_true rfl, Nat.le_of_ble_eq_true rfl⟩ (Nat.le_of_ble_eq_true rfl) (Nat.le_of_ble_eq_true rfl)
  · skip
    refine lv_iload_n hx hb dX6_pass_5 rfl (lv_at hl 1 rfl) ?_
    refine lv_bipush (v := 100) hx hb dX6_pass_6 (by decide) ?_
    refine lv_icmp_gt (tgt := 31) hx hb dX6_pass_8 (by decide) (fun c2 => ?_) (fun c2 => ?_)
    · skip
      exact q_throwS (cdv := 2) (ik := 86) (is := 126) (ic := 90) (cls := "java/lang/IllegalArgumentException") (text := "hours is not 1 to 100, warmth not 0 to 40, or rain not 0 to 20") hl0 hx hb hown hml hT hlocks hB hC hS hl.1 (by unfold fX6_pass; rw [if_neg c1, if_pos c2]) rfl (by decide) ⟨by decide, by decide⟩ (hts _ qX6_pass_w1) (hts _ qX6_pass_w2) (List.mem_of_getElem? (i := 6) rfl) (fun w hw => hts w (List.mem_cons_of_mem _ (List.mem_append_left _ (List.mem_append_right _ hw)))) xN_90 xG_90 dX6_pass_31 dX6_pass_34 dX6_pass_35 dX6_pass_37 dX6_pass_40 ⟨Nat.le_of_ble_eq_true rfl, Nat.le_of_ble_eq_true rfl, Nat.le_of_ble_eq_true rfl, Nat.le_of_ble_eq_true rfl⟩ (Nat.le_of_ble_eq_true rfl) (Nat.le_of_ble_eq_true rfl)
    · skip
      refine lv_iload_n hx hb dX6_pass_11 rfl (lv_at hl 2 rfl) ?_
      refine lv_if_lt (tgt := 31) hx hb dX6_pass_12 (by decide) (fun c3 => ?_) (fun c3 => ?_)
      · skip
        exact q_throwS (cdv := 2) (ik := 86) (is := 126) (ic := 90) (cls := "java/lang/IllegalArgumentException") (text := "hours is not 1 to 100, warmth not 0 to 40, or rain not 0 to 20") hl0 hx hb hown hml hT hlocks hB hC hS hl.1 (by unfold fX6_pass; rw [if_neg c1, if_neg c2, if_pos c3]) rfl (by decide) ⟨by decide, by decide⟩ (hts _ qX6_pass_w1) (hts _ qX6_pass_w2) (List.mem_of_getElem? (i := 6) rfl) (fun w hw => hts w (List.mem_cons_of_mem _ (List.mem_append_left _ (List.mem_append_right _ hw)))) xN_90 xG_90 dX6_pass_31 dX6_pass_34 dX6_pass_35 dX6_pass_37 dX6_pass_40 ⟨Nat.le_of_ble_eq_true rfl, Nat.le_of_ble_eq_true rfl, Nat.le_of_ble_eq_true rfl, Nat.le_of_ble_eq_true rfl⟩ (Nat.le_of_ble_eq_true rfl) (Nat.le_of_ble_eq_true rfl)
      · skip
        refine lv_iload_n hx hb dX6_pass_15 rfl (lv_at hl 2 rfl) ?_
        refine lv_bipush (v := 40) hx hb dX6_pass_16 (by decide) ?_
        refine lv_icmp_gt (tgt := 31) hx hb dX6_pass_18 (by decide) (fun c4 => ?_) (fun c4 => ?_)
        · skip
          exact q_throwS (cdv := 2) (ik := 86) (is := 126) (ic := 90) (cls := "java/lang/IllegalArgumentException") (text := "hours is not 1 to 100, warmth not 0 to 40, or rain not 0 to 20") hl0 hx hb hown hml hT hlocks hB hC hS hl.1 (by unfold fX6_pass; rw [if_neg c1, if_neg c2, if_neg c3, if_pos c4]) rfl (by decide) ⟨by decide, by decide⟩ (hts _ qX6_pass_w1) (hts _ qX6_pass_w2) (List.mem_of_getElem? (i := 6) rfl) (fun w hw => hts w (List.mem_cons_of_mem _ (List.mem_append_left _ (List.mem_append_right _ hw)))) xN_90 xG_90 dX6_pass_31 dX6_pass_34 dX6_pass_35 dX6_pass_37 dX6_pass_40 ⟨Nat.le_of_ble_eq_true rfl, Nat.le_of_ble_eq_true rfl, Nat.le_of_ble_eq_true rfl, Nat.le_of_ble_eq_true rfl⟩ (Nat.le_of_ble_eq_true rfl) (Nat.le_of_ble_eq_true rfl)
        · skip
          refine lv_iload_n hx hb dX6_pass_21 rfl (lv_at hl 3 rfl) ?_
          refine lv_if_lt (tgt := 31) hx hb dX6_pass_22 (by decide) (fun c5 => ?_) (fun c5 => ?_)
          · skip
            exact q_throwS (cdv := 2) (ik := 86) (is := 126) (ic := 90) (cls := "java/lang/IllegalArgumentException") (text := "hours is not 1 to 100, warmth not 0 to 40, or rain not 0 to 20") hl0 hx hb hown hml hT hlocks hB hC hS hl.1 (by unfold fX6_pass; rw [if_neg c1, if_neg c2, if_neg c3, if_neg c4, if_pos c5]) rfl (by decide) ⟨by decide, by decide⟩ (hts _ qX6_pass_w1) (hts _ qX6_pass_w2) (List.mem_of_getElem? (i := 6) rfl) (fun w hw => hts w (List.mem_cons_of_mem _ (List.mem_append_left _ (List.mem_append_right _ hw)))) xN_90 xG_90 dX6_pass_31 dX6_pass_34 dX6_pass_35 dX6_pass_37 dX6_pass_40 ⟨Nat.le_of_ble_eq_true rfl, Nat.le_of_ble_eq_true rfl, Nat.le_of_ble_eq_true rfl, Nat.le_of_ble_eq_true rfl⟩ (Nat.le_of_ble_eq_true rfl) (Nat.le_of_ble_eq_true rfl)
          · skip
            refine lv_iload_n hx hb dX6_pass_25 rfl (lv_at hl 3 rfl) ?_
            refine lv_bipush (v := 20) hx hb dX6_pass_26 (by decide) ?_
            refine lv_icmp_le (tgt := 41) hx hb dX6_pass_28 (by decide) (fun c6 => ?_) (fun c6 => ?_)
            · skip
              refine lv_aload_n hx hb dX6_pass_41 rfl (lv_at hl 0 rfl) ?_
              refine gt_0_11 hx hb hts iX6_pass_X6 hown hB.1 hC qX6_pass_w5 dX6_pass_42 ?_
              refine lv_iload_n hx hb dX6_pass_45 rfl (lv_at hl 1 rfl) ?_
              refine lv_iadd hx hb dX6_pass_46 ?_
              refine lv_sipush (v := 20000) hx hb dX6_pass_47 (by decide) ?_
              refine lv_icmp_le (tgt := 63) hx hb dX6_pass_50 (by decide) (fun c7 => ?_) (fun c7 => ?_)
              · skip
                refine lv_iconst (v := 0) hx hb dX6_pass_63 (by decide) ?_
                refine lv_istore (lv' := [(4, .int 0), (0, .ref (ad 0 0)), (1, .int hh), (2, .int ww), (3, .int rr)]) hx hb dX6_pass_64 hl (by decide) rfl (fun ls hl => ?_)
                refine lv_iconst (v := 0) hx hb dX6_pass_66 (by decide) ?_
                refine lv_istore (lv' := [(5, .int 0), (4, .int 0), (0, .ref (ad 0 0)), (1, .int hh), (2, .int ww), (3, .int rr)]) hx hb dX6_pass_67 hl (by decide) rfl (fun ls hl => ?_)
                refine kX6_pass_L69 l D cy hI g hh ww rr  hv  hx hb hr hml hts hown hlocks hT hB 101 0 0 g (by omega) (hours_0 c1) (hours_100 c2) hv _ _ ls hC hS (lv_sub hl [0, 1, 2, 3, 4, 5] rfl) (fun H locs ls hC hS hl => ?_)
                refine lv_iload hx hb dX6_pass_92 (lv_at hl 0 rfl) ?_
                have e9 : fX6_pass g hh ww rr = (0, (fX6_pass_L69 g hh ww rr 101 0 0 g).1, (fX6_pass_L69 g hh ww rr 101 0 0 g).2) := (by unfold fX6_pass; rw [if_neg c1, if_neg c2, if_neg c3, if_neg c4, if_neg c5, if_pos c6, if_pos c7])
                exact x_reti hx hb hr hC hS (by rw [e9]) (by rw [e9]) (by rw [e9]) hlocks dX6_pass_94 (Nat.le_of_ble_eq_true rfl) (Nat.le_of_ble_eq_true rfl)
              · skip
                exact q_throwS (cdv := 3) (ik := 93) (is := 128) (ic := 97) (cls := "java/lang/IllegalStateException") (text := "the hour would be above 20000") hl0 hx hb hown hml hT hlocks hB hC hS hl.1 (by unfold fX6_pass; rw [if_neg c1, if_neg c2, if_neg c3, if_neg c4, if_neg c5, if_pos c6, if_neg c7]) rfl (by decide) ⟨by decide, by decide⟩ (hts _ qX6_pass_w3) (hts _ qX6_pass_w4) (List.mem_of_getElem? (i := 7) rfl) (fun w hw => hts w (List.mem_cons_of_mem _ (List.mem_append_right _ hw))) xN_97 xG_97 dX6_pass_53 dX6_pass_56 dX6_pass_57 dX6_pass_59 dX6_pass_62 ⟨Nat.le_of_ble_eq_true rfl, Nat.le_of_ble_eq_true rfl, Nat.le_of_ble_eq_true rfl, Nat.le_of_ble_eq_true rfl⟩ (Nat.le_of_ble_eq_true rfl) (Nat.le_of_ble_eq_true rfl)
            · skip
              exact q_throwS (cdv := 2) (ik := 86) (is := 126) (ic := 90) (cls := "java/lang/IllegalArgumentException") (text := "hours is not 1 to 100, warmth not 0 to 40, or rain not 0 to 20") hl0 hx hb hown hml hT hlocks hB hC hS hl.1 (by unfold fX6_pass; rw [if_neg c1, if_neg c2, if_neg c3, if_neg c4, if_neg c5, if_neg c6]) rfl (by decide) ⟨by decide, by decide⟩ (hts _ qX6_pass_w1) (hts _ qX6_pass_w2) (List.mem_of_getElem? (i := 6) rfl) (fun w hw => hts w (List.mem_cons_of_mem _ (List.mem_append_left _ (List.mem_append_right _ hw)))) xN_90 xG_90 dX6_pass_31 dX6_pass_34 dX6_pass_35 dX6_pass_37 dX6_pass_40 ⟨Nat.le_of_ble_eq_true rfl, Nat.le_of_ble_eq_true rfl, Nat.le_of_ble_eq_true rfl, Nat.le_of_ble_eq_true rfl⟩ (Nat.le_of_ble_eq_true rfl) (Nat.le_of_ble_eq_true rfl)
def fX6_sell_L29 (g : Gd) (x : Int32) (pr : Int32) (lb : Int32) : Nat → Nat → Int32 → Gd → Int32 × Gd
  | 0, k, rest, g1 => (rest, g1)
  | n + 1, k, rest, g1 => if (g1 0 0 7) ≤ (nI k) then ((rest, g1)) else (fX6_sell_L29 g x pr lb n (k + 1) (rest - (fX3_shareOf g1 x.toNatClampNeg (nI k) (fX3_worth g x.toNatClampNeg pr lb))) (up g1 1 k 2 ((g1 1 k 2) + (fX3_shareOf g1 x.toNatClampNeg (nI k) (fX3_worth g x.toNatClampNeg pr lb)))))
def fX6_sell (g : Gd) (x : Int32) (pr : Int32) (lb : Int32) : Nat × Int32 × Gd := if (fX6_lotAt g x) = 0 then (if (fX6_needSale g x.toNatClampNeg pr) = 0 then ((0, (fX6_sell_L29 g x pr lb 7 0 (fX3_worth g x.toNatClampNeg pr lb) g).1, (up (up (up ((fX6_sell_L29 g x pr lb 7 0 (fX3_worth g x.toNatClampNeg pr lb) g).2) 0 0 1 ((((fX6_sell_L29 g x pr lb 7 0 (fX3_worth g x.toNatClampNeg pr lb) g).2) 0 0 1) + ((fX6_sell_L29 g x pr lb 7 0 (fX3_worth g x.toNatClampNeg pr lb) g).1))) 0 0 4 ((((fX6_sell_L29 g x pr lb 7 0 (fX3_worth g x.toNatClampNeg pr lb) g).2) 0 0 4) + (((fX6_sell_L29 g x pr lb 7 0 (fX3_worth g x.toNatClampNeg pr lb) g).2) 3 (8 + x.toNatClampNeg) 0))) 3 (8 + x.toNatClampNeg) 10 0))) else (((fX6_needSale g x.toNatClampNeg pr), 0, g))) else (((fX6_lotAt g x), 0, g))
theorem qX6_sell_w1 : Cond.fieldLink RX6 48 "CherryStation" "farmCount" "I" ∈ wsX6_sell := List.mem_of_getElem? (i := 1) rfl
theorem qX6_sell_w2 : Cond.fieldLink RX6 11 "CherryStation" "farms" "[LCherryStation$Farm;" ∈ wsX6_sell := List.mem_of_getElem? (i := 2) rfl
theorem qX6_sell_w3 : Cond.fieldLink RX6 123 "CherryStation$Farm" "coins" "I" ∈ wsX6_sell := List.mem_of_getElem? (i := 3) rfl
theorem qX6_sell_w4 : Cond.fieldLink RX6 64 "CherryStation" "money" "I" ∈ wsX6_sell := List.mem_of_getElem? (i := 4) rfl
theorem qX6_sell_w5 : Cond.fieldLink RX6 73 "CherryStation" "sold" "I" ∈ wsX6_sell := List.mem_of_getElem? (i := 5) rfl
theorem qX6_sell_w6 : Cond.fieldLink RX6 219 "CherryStation$Lot" "mix" "LCherryStation$Mix;" ∈ wsX6_sell := List.mem_of_getElem? (i := 6) rfl
theorem qX6_sell_w7 : Cond.fieldLink RX6 171 "CherryStation$Mix" "kilos" "I" ∈ wsX6_sell := List.mem_of_getElem? (i := 7) rfl
theorem qX6_sell_w8 : Cond.fieldLink RX6 231 "CherryStation$Lot" "isInStore" "Z" ∈ wsX6_sell := List.mem_of_getElem? (i := 8) rfl
theorem iX6_sell_X2 : ∀ w ∈ wsX20, w ∈ wsX6_sell := fun _ h => (List.mem_cons_of_mem _ (List.mem_append_left _ (List.mem_append_left _ (List.mem_append_left _ (List.mem_append_left _ (List.mem_append_left _ (List.mem_append_right _ h)))))))
theorem iX6_sell_X3 : ∀ w ∈ wsX30, w ∈ wsX6_sell := fun _ h => (List.mem_cons_of_mem _ (List.mem_append_left _ (List.mem_append_left _ (List.mem_append_left _ (List.mem_append_left _ (List.mem_append_right _ h))))))
theorem iX6_sell_X4 : ∀ w ∈ wsX40, w ∈ wsX6_sell := fun _ h => (List.mem_cons_of_mem _ (List.mem_append_left _ (List.mem_append_left _ (List.mem_append_left _ (List.mem_append_right _ h)))))
theorem iX6_sell_X6 : ∀ w ∈ wsX60, w ∈ wsX6_sell := fun _ h => (List.mem_cons_of_mem _ (List.mem_append_left _ (List.mem_append_left _ (List.mem_append_left _ (List.mem_append_left _ (List.mem_append_left _ (List.mem_append_left _ (List.mem_append_right _ h))))))))
set_option maxRecDepth 100000 in
set_option maxHeartbeats 4000000 in
theorem kX6_sell_L29 (l : Launch) (D : va_G) (cy : Nat → ClassId) {ad : Nat → Nat → Nat} (hI : cI ad) (g : Gd) (x : Int32) (pr : Int32) (lb : Int32) (hv : IvC g) (hlo : x.toNatClampNeg < 12) {p : Program} {e : Env} {s : State} {m : MethodId} {below : List Frame} {meth : Method} {c : Code} {Q : State → Prop} (hx : p.tables.exec = Jvm.exec) (hb : c.code = cX6_sell) (hr : meth.sig.returnType = (some .int)) (hml : c.maxLocals = 9) (hts : ∀ w ∈ wsX6_sell, w.before [.ref (ad 0 0), .int x, .int pr, .int lb].toArray s = true) (hown : s.vm.findClass RX6 = some m.cls) (hlocks : meth.locks = false) (hT : ∀ x ∈ c.exceptionTable.toList, False) (hB : CB D cy ad s) : ∀ (n k : Nat) (rest : Int32) (g1 : Gd) (hn : k + n = 7) (hk : (k : Int) ≤ (g1 0 0 7).toInt) (hc1 : (g1 0 0 7).toInt ≤ 6) (hv1 : IvC g1)  (H : Heap) (locs : List Loc) (ls : Array Slot) (hC : CW D cy ad g1 H) (hS : va_S (cA ad s.heap.size) s.heap H locs) (hl : lv_has ls 9 [(7, .int (nI k)), (6, .int rest), (5, .int (fX3_worth g x.toNatClampNeg pr lb)), (4, .ref (ad 5 x.toNatClampNeg)), (0, .ref (ad 0 0)), (1, .int x), (2, .int pr), (3, .int lb)]) (kk : ∀ (H : Heap) (locs : List Loc) (ls : Array Slot), CW D cy ad ((fX6_sell_L29 g x pr lb n k rest g1).2) H → va_S (cA ad s.heap.size) s.heap H locs → lv_has ls 9 [(6, .int ((fX6_sell_L29 g x pr lb n k rest g1).1)), (5, .int (fX3_worth g x.toNatClampNeg pr lb)), (4, .ref (ad 5 x.toNatClampNeg)), (0, .ref (ad 0 0)), (1, .int x), (2, .int pr), (3, .int lb)] → W p l e ({ frames := 7, cells := 2, slots := 12, locals := 103 } : Room) s m [.ref (ad 0 0), .int x, .int pr, .int lb].toArray below meth c H locs 2 12 Q (F0 m 79 ls [])), W p l e ({ frames := 7, cells := 2, slots := 12, locals := 103 } : Room) s m [.ref (ad 0 0), .int x, .int pr, .int lb].toArray below meth c H locs 2 12 Q (F0 m 29 ls []) := by
  have hA : ∀ κ i : Nat, cV κ i → cA ad s.heap.size (ad κ i) := fun κ i h => Or.inl ⟨κ, i, h, rfl⟩
  intro n
  induction n with
  | zero => intro k rest g1 hn hk hc1 hv1 H locs ls hC hS hl kk; exact absurd hk (by omega)
  | succ n ih =>
    intro k rest g1 hn hk hc1 hv1 H locs ls hC hS hl kk
    refine lv_iload hx hb dX6_sell_29 (lv_at hl 0 rfl) ?_
    refine lv_aload_n hx hb dX6_sell_31 rfl (lv_at hl 4 rfl) ?_
    refine gt_0_7 hx hb hts iX6_sell_X6 hown hB.1 hC qX6_sell_w1 dX6_sell_32 ?_
    refine lv_icmp_ge (tgt := 79) hx hb dX6_sell_35 (by decide) (fun c3 => ?_) (fun c3 => ?_)
    · skip
      have e9 : fX6_sell_L29 g x pr lb (n + 1) k rest g1 = (rest, g1) := by rw [fX6_sell_L29, if_pos c3]
      rw [e9] at kk
      exact kk H locs ls hC hS (lv_sub hl [1, 2, 3, 4, 5, 6, 7] rfl)
    · skip
      refine lv_aload hx hb dX6_sell_38 (lv_at hl 3 rfl) ?_
      refine lv_iload hx hb dX6_sell_40 (lv_at hl 0 rfl) ?_
      refine lv_iload hx hb dX6_sell_42 (lv_at hl 2 rfl) ?_
      refine q_callVi (As := [.int (nI k), .int (fX3_worth g x.toNatClampNeg pr lb)]) (κ := 5) (i := x.toNatClampNeg) (show x.toNatClampNeg < 13 from (by omega)) rfl ⟨_, rfl⟩ rfl ⟨hx, hb, hml, hown, hts⟩ (kX3_shareOf l D cy hI g1 _ x.toNatClampNeg (by omega) (nI k) (fX3_worth g x.toNatClampNeg pr lb) (vp_in_nI (lk_nat c3 hc1 (by omega)) (by decide)) (IvC.k5 hv1 (by omega))) (cwV 2 hts gX6_sell_X3_shareOf rfl rfl rfl (by decide +kernel) ⟨Nat.le_of_ble_eq_true rfl, Nat.le_of_ble_eq_true rfl⟩) hB hC hS rfl hl.1 (Nat.le_of_ble_eq_true rfl) dX6_sell_44 ⟨Nat.le_of_ble_eq_true rfl, Nat.le_of_ble_eq_true rfl⟩ (fun H locs hC hS => ?_)
      refine lv_istore (lv' := [(8, .int (fX3_shareOf g1 x.toNatClampNeg (nI k) (fX3_worth g x.toNatClampNeg pr lb))), (7, .int (nI k)), (6, .int rest), (5, .int (fX3_worth g x.toNatClampNeg pr lb)), (4, .ref (ad 5 x.toNatClampNeg)), (0, .ref (ad 0 0)), (1, .int x), (2, .int pr), (3, .int lb)]) hx hb dX6_sell_47 hl (by decide) rfl (fun ls hl => ?_)
      refine lv_aload_n hx hb dX6_sell_49 rfl (lv_at hl 5 rfl) ?_
      refine gt_0_0 hx hb hts iX6_sell_X6 hown hB.1 hC qX6_sell_w2 dX6_sell_50 ?_
      refine lv_iload hx hb dX6_sell_53 (lv_at hl 1 rfl) ?_
      have hk_k : k < 6 := lk_nat c3 hc1 (by omega)
      refine la_10 hx hb hB.1 hC (k := k) (nI_clamp (by omega)) (vp_in_nI (by omega) (by decide)) dX6_sell_55 ?_
      refine lv_dup hx hb dX6_sell_56 rfl ?_
      refine gt_1_2 hx hb hts iX6_sell_X2 hown hB.1 hC (by omega) qX6_sell_w3 dX6_sell_57 ?_
      refine lv_iload hx hb dX6_sell_60 (lv_at hl 0 rfl) ?_
      refine lv_iadd hx hb dX6_sell_62 ?_
      refine pt_1_2 hx hb hts iX6_sell_X2 hown hB.1 hC hI hS hA (by omega) qX6_sell_w3 dX6_sell_63 (fun H locs hC hS => ?_)
      refine lv_iload hx hb dX6_sell_66 (lv_at hl 2 rfl) ?_
      refine lv_iload hx hb dX6_sell_68 (lv_at hl 0 rfl) ?_
      refine lv_isub hx hb dX6_sell_70 ?_
      refine lv_istore (lv' := [(6, .int (rest - (fX3_shareOf g1 x.toNatClampNeg (nI k) (fX3_worth g x.toNatClampNeg pr lb)))), (8, .int (fX3_shareOf g1 x.toNatClampNeg (nI k) (fX3_worth g x.toNatClampNeg pr lb))), (7, .int (nI k)), (5, .int (fX3_worth g x.toNatClampNeg pr lb)), (4, .ref (ad 5 x.toNatClampNeg)), (0, .ref (ad 0 0)), (1, .int x), (2, .int pr), (3, .int lb)]) hx hb dX6_sell_71 hl (by decide) rfl (fun ls hl => ?_)
      refine lv_iinc (v := nI (k + 1)) (lv' := [(7, .int (nI (k + 1))), (6, .int (rest - (fX3_shareOf g1 x.toNatClampNeg (nI k) (fX3_worth g x.toNatClampNeg pr lb)))), (8, .int (fX3_shareOf g1 x.toNatClampNeg (nI k) (fX3_worth g x.toNatClampNeg pr lb))), (5, .int (fX3_worth g x.toNatClampNeg pr lb)), (4, .ref (ad 5 x.toNatClampNeg)), (0, .ref (ad 0 0)), (1, .int x), (2, .int pr), (3, .int lb)]) hx hb dX6_sell_73 hl (k := 2) rfl (nI_1 _) (by decide) rfl (fun ls hl => ?_)
      refine lv_goto (tgt := 29) hx hb dX6_sell_76 (by decide) ?_
      have e9 : fX6_sell_L29 g x pr lb (n + 1) k rest g1 = fX6_sell_L29 g x pr lb n (k + 1) (rest - (fX3_shareOf g1 x.toNatClampNeg (nI k) (fX3_worth g x.toNatClampNeg pr lb))) (up g1 1 k 2 ((g1 1 k 2) + (fX3_shareOf g1 x.toNatClampNeg (nI k) (fX3_worth g x.toNatClampNeg pr lb)))) := by rw [fX6_sell_L29, if_neg c3]
      rw [e9] at kk
      exact ih (k + 1) (rest - (fX3_shareOf g1 x.toNatClampNeg (nI k) (fX3_worth g x.toNatClampNeg pr lb))) (up g1 1 k 2 ((g1 1 k 2) + (fX3_shareOf g1 x.toNatClampNeg (nI k) (fX3_worth g x.toNatClampNeg pr lb)))) (by omega) (by have q9 := lk_lt c3 (by omega); rw [((show Kp g1 (up g1 1 k 2 ((g1 1 k 2) + (fX3_shareOf g1 x.toNatClampNeg (nI k) (fX3_worth g x.toNatClampNeg pr lb)))) from ((Kp.rf g1).up rfl)).1 7 (by decide))]; omega) (by rw [((show Kp g1 (up g1 1 k 2 ((g1 1 k 2) + (fX3_shareOf g1 x.toNatClampNeg (nI k) (fX3_worth g x.toNatClampNeg pr lb)))) from ((Kp.rf g1).up rfl)).1 7 (by decide))]; exact hc1) ((show Kp g1 (up g1 1 k 2 ((g1 1 k 2) + (fX3_shareOf g1 x.toNatClampNeg (nI k) (fX3_worth g x.toNatClampNeg pr lb)))) from ((Kp.rf g1).up rfl)).iv hv1) H locs ls hC hS (lv_sub hl [0, 1, 3, 4, 5, 6, 7, 8] rfl) kk
set_option maxRecDepth 100000 in
set_option maxHeartbeats 4000000 in
theorem kX6_sell (l : Launch) (D : va_G) (cy : Nat → ClassId) {ad : Nat → Nat → Nat} (hI : cI ad) (hl0 : l.stackTraces = false) (g : Gd) (sz : Nat) (x : Int32) (pr : Int32) (lb : Int32) (hv : IvC g) : vx_Met l yX6_sell wsX6_sell ({ frames := 7, cells := 2, slots := 12, locals := 103 } : Room) (va_Pc [.ref (ad 0 0), .int x, .int pr, .int lb] (cPre D cy ad g sz)) (cXi D cy ad (fX6_sell g x pr lb).1 (fX6_sell g x pr lb).2.1 (fX6_sell g x pr lb).2.2 sz) (cXC D cy ad (fX6_sell g x pr lb).1 g sz) 2 12 (cA ad sz) := by
  refine q_startX (cc := cX6_sell) (maxL := 9) (ret := (some .int)) (own := RX6) (by decide) rfl rfl (Nat.le_of_ble_eq_true rfl) ?_
  intro p e s m below meth c hx hb hr hml hts hown hlocks hT ⟨hsz, hC, hB⟩ ls hl
  subst hsz
  have hS : va_S (cA ad s.heap.size) s.heap s.heap [] := va_S.rf
  have hA : ∀ κ i : Nat, cV κ i → cA ad s.heap.size (ad κ i) := fun κ i h => Or.inl ⟨κ, i, h, rfl⟩
  have hl : lv_has ls 9 [(0, .ref (ad 0 0)), (1, .int x), (2, .int pr), (3, .int lb)] := hl
  refine lv_aload_n hx hb dX6_sell_0 rfl (lv_at hl 0 rfl) ?_
  refine lv_iload_n hx hb dX6_sell_1 rfl (lv_at hl 1 rfl) ?_
  refine x_callVr (As := [.int x]) (κ := 0) (i := 0) rfl rfl ⟨_, rfl⟩ rfl ⟨hx, hb, hml, hown, hts⟩ (kX6_lotAt l D cy hI hl0 g _  x hv) (cwV 1 hts gX6_sell_X6_lotAt rfl rfl rfl (by decide +kernel) ⟨Nat.le_of_ble_eq_true rfl, Nat.le_of_ble_eq_true rfl⟩) hB hC hS rfl hl.1 (Nat.le_of_ble_eq_true rfl) dX6_sell_2 ⟨Nat.le_of_ble_eq_true rfl, Nat.le_of_ble_eq_true rfl⟩ ⟨Nat.le_of_ble_eq_true rfl, Nat.le_of_ble_eq_true rfl⟩ hT hlocks (fun h => by unfold fX6_sell; rw [if_neg h]) (fun c1 H locs hC hS => ?_)
  have hr_c1 : x.toNatClampNeg < 12 := vp_lt (lotAt_in hv c1)
  refine lv_astore (lv' := [(4, .ref (ad 5 x.toNatClampNeg)), (0, .ref (ad 0 0)), (1, .int x), (2, .int pr), (3, .int lb)]) hx hb dX6_sell_5 hl (by decide) rfl (fun ls hl => ?_)
  refine lv_aload hx hb dX6_sell_7 (lv_at hl 0 rfl) ?_
  refine lv_iload_n hx hb dX6_sell_9 rfl (lv_at hl 3 rfl) ?_
  refine x_callSv (As := [.ref (ad 5 x.toNatClampNeg), .int pr])  ⟨hx, hb, hml, hown, hts⟩ (kX6_needSale l D cy hI hl0 g _ x.toNatClampNeg (by omega) pr ) (va_cwS 2 hts gX6_sell_X6_needSale rfl rfl rfl (by decide +kernel) ⟨Nat.le_of_ble_eq_true rfl, Nat.le_of_ble_eq_true rfl⟩) hB hC hS rfl hl.1 (Nat.le_of_ble_eq_true rfl) dX6_sell_10 ⟨Nat.le_of_ble_eq_true rfl, Nat.le_of_ble_eq_true rfl⟩ ⟨Nat.le_of_ble_eq_true rfl, Nat.le_of_ble_eq_true rfl⟩ hT hlocks (fun h => by unfold fX6_sell; rw [if_pos c1, if_neg h]) (fun c2 H locs hC hS => ?_)
  refine lv_aload hx hb dX6_sell_13 (lv_at hl 0 rfl) ?_
  refine lv_iload_n hx hb dX6_sell_15 rfl (lv_at hl 3 rfl) ?_
  refine lv_iload_n hx hb dX6_sell_16 rfl (lv_at hl 4 rfl) ?_
  refine q_callVi (As := [.int pr, .int lb]) (κ := 5) (i := x.toNatClampNeg) (show x.toNatClampNeg < 13 from (by omega)) rfl ⟨_, rfl⟩ rfl ⟨hx, hb, hml, hown, hts⟩ (kX3_worth l D cy hI g _ x.toNatClampNeg (by omega) pr lb ) (cwV 2 hts gX6_sell_X3_worth rfl rfl rfl (by decide +kernel) ⟨Nat.le_of_ble_eq_true rfl, Nat.le_of_ble_eq_true rfl⟩) hB hC hS rfl hl.1 (Nat.le_of_ble_eq_true rfl) dX6_sell_17 ⟨Nat.le_of_ble_eq_true rfl, Nat.le_of_ble_eq_true rfl⟩ (fun H locs hC hS => ?_)
  refine lv_istore (lv' := [(5, .int (fX3_worth g x.toNatClampNeg pr lb)), (4, .ref (ad 5 x.toNatClampNeg)), (0, .ref (ad 0 0)), (1, .int x), (2, .int pr), (3, .int lb)]) hx hb dX6_sell_20 hl (by decide) rfl (fun ls hl => ?_)
  refine lv_iload hx hb dX6_sell_22 (lv_at hl 0 rfl) ?_
  refine lv_istore (lv' := [(6, .int (fX3_worth g x.toNatClampNeg pr lb)), (5, .int (fX3_worth g x.toNatClampNeg pr lb)), (4, .ref (ad 5 x.toNatClampNeg)), (0, .ref (ad 0 0)), (1, .int x), (2, .int pr), (3, .int lb)]) hx hb dX6_sell_24 hl (by decide) rfl (fun ls hl => ?_)
  refine lv_iconst (v := 0) hx hb dX6_sell_26 (by decide) ?_
  refine lv_istore (lv' := [(7, .int 0), (6, .int (fX3_worth g x.toNatClampNeg pr lb)), (5, .int (fX3_worth g x.toNatClampNeg pr lb)), (4, .ref (ad 5 x.toNatClampNeg)), (0, .ref (ad 0 0)), (1, .int x), (2, .int pr), (3, .int lb)]) hx hb dX6_sell_27 hl (by decide) rfl (fun ls hl => ?_)
  refine kX6_sell_L29 l D cy hI g x pr lb  hv hr_c1 hx hb hr hml hts hown hlocks hT hB 7 0 (fX3_worth g x.toNatClampNeg pr lb) g (by omega) (by have := (IvC.n7 hv).1; omega) (IvC.n7 hv).2 hv _ _ ls hC hS (lv_sub hl [0, 1, 2, 3, 4, 5, 6, 7] rfl) (fun H locs ls hC hS hl => ?_)
  refine lv_aload_n hx hb dX6_sell_79 rfl (lv_at hl 3 rfl) ?_
  refine lv_dup hx hb dX6_sell_80 rfl ?_
  refine gt_0_12 hx hb hts iX6_sell_X6 hown hB.1 hC qX6_sell_w4 dX6_sell_81 ?_
  refine lv_iload hx hb dX6_sell_84 (lv_at hl 0 rfl) ?_
  refine lv_iadd hx hb dX6_sell_86 ?_
  refine pt_0_12 hx hb hts iX6_sell_X6 hown hB.1 hC hI hS hA qX6_sell_w4 dX6_sell_87 (fun H locs hC hS => ?_)
  refine lv_aload_n hx hb dX6_sell_90 rfl (lv_at hl 3 rfl) ?_
  refine lv_dup hx hb dX6_sell_91 rfl ?_
  refine gt_0_15 hx hb hts iX6_sell_X6 hown hB.1 hC qX6_sell_w5 dX6_sell_92 ?_
  refine q_val (v := ((fX6_sell_L29 g x pr lb 7 0 (fX3_worth g x.toNatClampNeg pr lb) g).2) 0 0 4) ((up_nk (by decide)).trans rfl) ?_
  refine lv_aload hx hb dX6_sell_95 (lv_at hl 2 rfl) ?_
  refine gt_5_0 hx hb hts iX6_sell_X3 hown hB.1 hC (by omega) qX6_sell_w6 dX6_sell_97 ?_
  refine gt_6_2 hx hb hts iX6_sell_X4 hown hB.1 hC (by omega) qX6_sell_w7 dX6_sell_100 ?_
  refine q_val (v := ((fX6_sell_L29 g x pr lb 7 0 (fX3_worth g x.toNatClampNeg pr lb) g).2) 3 (8 + x.toNatClampNeg) 0) ((up_nt (by decide)).trans rfl) ?_
  refine lv_iadd hx hb dX6_sell_103 ?_
  refine pt_0_15 hx hb hts iX6_sell_X6 hown hB.1 hC hI hS hA qX6_sell_w5 dX6_sell_104 (fun H locs hC hS => ?_)
  refine lv_aload hx hb dX6_sell_107 (lv_at hl 2 rfl) ?_
  refine lv_iconst (v := 0) hx hb dX6_sell_109 (by decide) ?_
  refine pt_5_2 hx hb hts iX6_sell_X3 hown hB.1 hC hI hS hA (by omega) qX6_sell_w8 rfl rfl dX6_sell_110 (fun H locs hC hS => ?_)
  refine lv_iload hx hb dX6_sell_113 (lv_at hl 0 rfl) ?_
  have e9 : fX6_sell g x pr lb = (0, (fX6_sell_L29 g x pr lb 7 0 (fX3_worth g x.toNatClampNeg pr lb) g).1, (up (up (up ((fX6_sell_L29 g x pr lb 7 0 (fX3_worth g x.toNatClampNeg pr lb) g).2) 0 0 1 ((((fX6_sell_L29 g x pr lb 7 0 (fX3_worth g x.toNatClampNeg pr lb) g).2) 0 0 1) + ((fX6_sell_L29 g x pr lb 7 0 (fX3_worth g x.toNatClampNeg pr lb) g).1))) 0 0 4 ((((fX6_sell_L29 g x pr lb 7 0 (fX3_worth g x.toNatClampNeg pr lb) g).2) 0 0 4) + (((fX6_sell_L29 g x pr lb 7 0 (fX3_worth g x.toNatClampNeg pr lb) g).2) 3 (8 + x.toNatClampNeg) 0))) 3 (8 + x.toNatClampNeg) 10 0)) := (by unfold fX6_sell; rw [if_pos c1, if_pos c2])
  exact x_reti hx hb hr hC hS (by rw [e9]) (by rw [e9]) (by rw [e9]) hlocks dX6_sell_115 (Nat.le_of_ble_eq_true rfl) (Nat.le_of_ble_eq_true rfl)
