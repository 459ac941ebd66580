/-! ===== the law's world, and its calls ===== -/
def LA0 (s : State) : Nat → Prop := fun q => s.heap.size ≤ q
def LWB (D : va_G) (cy : Nat → ClassId) (s : State) : Prop := (va_K D vwCl (qtys cy) s) ∧ (qB s) ∧ (vx_Zq Bundle.tN "UNASSIGNED_STACK" Bundle.steD (fun _ => False) s s.heap ∧ vx_Zq Bundle.tN "SUPPRESSED_SENTINEL" Bundle.listD (fun _ => False) s s.heap)
theorem LWB.k {D : va_G} {cy : Nat → ClassId} {s : State} (h : LWB D cy s) : va_K D vwCl (qtys cy) s := h.1
theorem LWB.q {D : va_G} {cy : Nat → ClassId} {s : State} (h : LWB D cy s) : qB s := h.2.1
theorem LWB.z {D : va_G} {cy : Nat → ClassId} {s : State} (h : LWB D cy s) : vx_Zq Bundle.tN "UNASSIGNED_STACK" Bundle.steD (fun _ => False) s s.heap ∧ vx_Zq Bundle.tN "SUPPRESSED_SENTINEL" Bundle.listD (fun _ => False) s s.heap := h.2.2
def LWS (D : va_G) (cy : Nat → ClassId) (ad : Nat → Nat → Nat) (s : State) (g : Gd) (H : Heap) : Prop := (CW D cy ad g H) ∧ (∀ κ i : Nat, cV κ i → s.heap.size ≤ ad κ i)
theorem LWS.C {D : va_G} {cy : Nat → ClassId} {ad : Nat → Nat → Nat} {s : State} {g : Gd} {H : Heap} (h : LWS D cy ad s g H) : CW D cy ad g H := h.1
theorem LWS.fa {D : va_G} {cy : Nat → ClassId} {ad : Nat → Nat → Nat} {s : State} {g : Gd} {H : Heap} (h : LWS D cy ad s g H) : ∀ κ i : Nat, cV κ i → s.heap.size ≤ ad κ i := h.2
def LC (p : Program) (l : Launch) (s : State) (m : MethodId) (c : Code) (b L : Nat) (xs : Nat → Int32) : Prop := (p.tables.exec = Jvm.exec) ∧ (c.code = cL_law) ∧ (c.maxLocals = 17) ∧ (s.vm.findClass RL = some m.cls) ∧ (∀ w ∈ wsL_law, w.before #[Value.ref b] s = true) ∧ (va_X b L xs s s.heap) ∧ (b < s.heap.size) ∧ (l.stackTraces = false) ∧ (L ≤ 260)
theorem LC.hx {p : Program} {l : Launch} {s : State} {m : MethodId} {c : Code} {b L : Nat} {xs : Nat → Int32} (h : LC p l s m c b L xs) : p.tables.exec = Jvm.exec := h.1
theorem LC.hb {p : Program} {l : Launch} {s : State} {m : MethodId} {c : Code} {b L : Nat} {xs : Nat → Int32} (h : LC p l s m c b L xs) : c.code = cL_law := h.2.1
theorem LC.ml {p : Program} {l : Launch} {s : State} {m : MethodId} {c : Code} {b L : Nat} {xs : Nat → Int32} (h : LC p l s m c b L xs) : c.maxLocals = 17 := h.2.2.1
theorem LC.own {p : Program} {l : Launch} {s : State} {m : MethodId} {c : Code} {b L : Nat} {xs : Nat → Int32} (h : LC p l s m c b L xs) : s.vm.findClass RL = some m.cls := h.2.2.2.1
theorem LC.ts {p : Program} {l : Launch} {s : State} {m : MethodId} {c : Code} {b L : Nat} {xs : Nat → Int32} (h : LC p l s m c b L xs) : ∀ w ∈ wsL_law, w.before #[Value.ref b] s = true := h.2.2.2.2.1
theorem LC.X {p : Program} {l : Launch} {s : State} {m : MethodId} {c : Code} {b L : Nat} {xs : Nat → Int32} (h : LC p l s m c b L xs) : va_X b L xs s s.heap := h.2.2.2.2.2.1
theorem LC.bl {p : Program} {l : Launch} {s : State} {m : MethodId} {c : Code} {b L : Nat} {xs : Nat → Int32} (h : LC p l s m c b L xs) : b < s.heap.size := h.2.2.2.2.2.2.1
theorem LC.st {p : Program} {l : Launch} {s : State} {m : MethodId} {c : Code} {b L : Nat} {xs : Nat → Int32} (h : LC p l s m c b L xs) : l.stackTraces = false := h.2.2.2.2.2.2.2.1
theorem LC.le {p : Program} {l : Launch} {s : State} {m : MethodId} {c : Code} {b L : Nat} {xs : Nat → Int32} (h : LC p l s m c b L xs) : L ≤ 260 := h.2.2.2.2.2.2.2.2
theorem rc_c : 400000 ≤ room_1.cells := by decide
theorem rc_s : 4000000 ≤ room_1.slots := by decide
section LR
variable {p : Program} {l : Launch} {e : Env} {R : Room} {s : State} {m : MethodId} {args : Array Value} {below : List Frame} {meth : Method} {c : Code} {H : Heap} {locs : List Loc} {cells slots : Nat} {Q : State → Prop}
variable {cc : ByteArray} {pc : Nat} {ls : Array Slot} {rest : List Value} {D : va_G} {cy : Nat → ClassId} {ad : Nat → Nat → Nat} {g g2 : Gd}
variable {Ts ws ws' : List Cond} {bytes : ByteArray} {nL maxL index n mc ms : Nat} {own : String} {y : MethodName} {ret : Option FieldType} {rm : Room}
variable {locs1 : List Loc} {hh : List (Nat × Nat × Nat × Nat)}
theorem LWS.cP (h : LWS D cy ad s g H) {q : Nat} (hq : cP ad q) : s.heap.size ≤ q := by
  obtain ⟨κ, i, hv, e⟩ := hq
  rw [e]; exact h.fa κ i hv
theorem LA0_no {a : Nat} (h : a < s.heap.size) : ¬ LA0 s a := fun z => absurd h (Nat.not_lt.mpr z)
theorem LWB.cx (hB : LWB D cy s) (h : LWS D cy ad s g H) (hS : va_S (LA0 s) s.heap H locs) {U : State} (hvm : s.vm.Alike U.vm) : CX ad U H :=
  CX.go ⟨vx_Zq_wide hB.z.1 (fun q hq hp => absurd hq (Nat.not_lt.mpr (h.cP hp))), vx_Zq_wide hB.z.2 (fun q hq hp => absurd hq (Nat.not_lt.mpr (h.cP hp)))⟩ hvm (fun a ha _ => hS.2.1 a ha (LA0_no ha))
theorem LWB.cu (hB : LWB D cy s) (h : LWS D cy ad s g H) (hS : va_S (LA0 s) s.heap H locs) {U : State} (hU : U.heap = H) (hW : s.WarmedH U.vm) : CU2 D cy ad g U :=
  ⟨by rw [hU]; exact h.C, va_K.moved hW.alike hB.k, hB.q.warm hW, by rw [hU]; exact hB.cx h hS hW.alike⟩
theorem LWS.goC {H1 : Heap} (h : LWS D cy ad s g H) (hC : CW D cy ad g2 H1) : LWS D cy ad s g2 H1 := ⟨hC, h.fa⟩
theorem l_callCi {v : Int32} {As : List Value} (CF : CallFix p m c cc nL s args Ts own) (hM : Met l y ws rm (va_Pc (.ref (ad 0 0) :: As) (cPre D cy ad g H.size)) (cQi D cy ad v g2 H.size) mc ms (cA ad H.size)) (cw : CallW R s args own "CherryStation" index y bytes maxL ret ws rm mc ms n) (hB : LWB D cy s) (hL : LWS D cy ad s g H) (hS : va_S (LA0 s) s.heap H locs) (hn : As.length = n) (hsize : ls.size = nL) (hW : (rest.map fun v => v.category).sum ≤ 8) (hdg : decode cc pc = .ok (.invokevirtual index, 3)) (hf : cells + mc ≤ R.cells ∧ slots + ms ≤ R.slots)
    (kk : ∀ (H1 : Heap) (locs1 : List Loc), LWS D cy ad s g2 H1 → va_S (LA0 s) s.heap H1 locs1 → W p l e R s m args below meth c H1 locs1 (cells + mc) (slots + ms) Q (F0 m (pc + 3) ls (.int v :: rest))) : W p l e R s m args below meth c H locs cells slots Q (F0 m pc ls (As.reverse ++ .ref (ad 0 0) :: rest)) := by
  have hFc : ∀ q : Nat, cA ad H.size q → LA0 s q := fun q z => z.elim (fun hp => hL.cP hp) (fun z => Nat.le_trans hS.1 z)
  have hat := hL.C 0 0 rfl
  have hrec := va_recv hB.k (q_one hat) (ci := 6) (q0 := 0) rfl rfl
  refine va_calli (va_runV (As := As) (rest := rest) CF hM cw ⟨cPre_blind, hrec, fun U hU hW2 => ⟨rfl, by rw [hU], hB.cu hL hS hU hW2⟩⟩ rfl hn hsize rfl (lv_room hW) hdg hf) hS (fun q _ h => hFc q h) hFc (fun r u t H1 locs1 ht hvm hw hBu hz1 hk1 hS1 => ?_)
  have hw : r = v := hw
  subst hw
  exact kk H1 locs1 (hL.goC (by rw [← ht]; exact hBu)) hS1
theorem l_callCl {v : Int64} {As : List Value} (CF : CallFix p m c cc nL s args Ts own) (hM : Met l y ws rm (va_Pc (.ref (ad 0 0) :: As) (cPre D cy ad g H.size)) (cQl D cy ad v g2 H.size) mc ms (cA ad H.size)) (cw : CallW R s args own "CherryStation" index y bytes maxL ret ws rm mc ms n) (hB : LWB D cy s) (hL : LWS D cy ad s g H) (hS : va_S (LA0 s) s.heap H locs) (hn : As.length = n) (hsize : ls.size = nL) (hW : (rest.map fun v => v.category).sum ≤ 8) (hdg : decode cc pc = .ok (.invokevirtual index, 3)) (hf : cells + mc ≤ R.cells ∧ slots + ms ≤ R.slots)
    (kk : ∀ (H1 : Heap) (locs1 : List Loc), LWS D cy ad s g2 H1 → va_S (LA0 s) s.heap H1 locs1 → W p l e R s m args below meth c H1 locs1 (cells + mc) (slots + ms) Q (F0 m (pc + 3) ls (.long v :: rest))) : W p l e R s m args below meth c H locs cells slots Q (F0 m pc ls (As.reverse ++ .ref (ad 0 0) :: rest)) := by
  have hFc : ∀ q : Nat, cA ad H.size q → LA0 s q := fun q z => z.elim (fun hp => hL.cP hp) (fun z => Nat.le_trans hS.1 z)
  have hat := hL.C 0 0 rfl
  have hrec := va_recv hB.k (q_one hat) (ci := 6) (q0 := 0) rfl rfl
  refine va_calll (va_runV (As := As) (rest := rest) CF hM cw ⟨cPre_blind, hrec, fun U hU hW2 => ⟨rfl, by rw [hU], hB.cu hL hS hU hW2⟩⟩ rfl hn hsize rfl (lv_room hW) hdg hf) hS (fun q _ h => hFc q h) hFc (fun r u t H1 locs1 ht hvm hw hBu hz1 hk1 hS1 => ?_)
  have hw : r = v := hw
  subst hw
  exact kk H1 locs1 (hL.goC (by rw [← ht]; exact hBu)) hS1
theorem l_callS {v : Int32} {As : List Value} (CF : CallFix p m c cc nL s args Ts own) (hM : Met l y ws rm (va_Pc As (cPre D cy ad g H.size)) (cQi D cy ad v g2 H.size) mc ms (cA ad H.size)) (cw : CallB R s args own index y bytes maxL ret ws rm mc ms n ∧ (Cond.static y).before args s = true) (hB : LWB D cy s) (hL : LWS D cy ad s g H) (hS : va_S (LA0 s) s.heap H locs) (hn : As.length = n) (hsize : ls.size = nL) (hW : (rest.map fun v => v.category).sum ≤ 8) (hdg : decode cc pc = .ok (.invokestatic index, 3)) (hf : cells + mc ≤ R.cells ∧ slots + ms ≤ R.slots)
    (kk : ∀ (H1 : Heap) (locs1 : List Loc), LWS D cy ad s g2 H1 → va_S (LA0 s) s.heap H1 locs1 → W p l e R s m args below meth c H1 locs1 (cells + mc) (slots + ms) Q (F0 m (pc + 3) ls (.int v :: rest))) : W p l e R s m args below meth c H locs cells slots Q (F0 m pc ls (As.reverse ++ rest)) := by
  have hFc : ∀ q : Nat, cA ad H.size q → LA0 s q := fun q z => z.elim (fun hp => hL.cP hp) (fun z => Nat.le_trans hS.1 z)
  refine va_calli (va_runS (As := As) (rest := rest) CF hM cw ⟨cPre_blind, fun U hU hW2 => ⟨rfl, by rw [hU], hB.cu hL hS hU hW2⟩⟩ rfl hn hsize rfl (lv_room hW) hdg hf) hS (fun q _ h => hFc q h) hFc (fun r u t H1 locs1 ht hvm hw hBu hz1 hk1 hS1 => ?_)
  have hw : r = v := hw
  subst hw
  exact kk H1 locs1 (hL.goC (by rw [← ht]; exact hBu)) hS1
theorem l_callW {v : Int32} {As : List Value} (CF : CallFix p m c cc nL s args Ts own) (hM : Met l y ws rm (va_Pc As (cPre D cy ad g H.size)) (cQi D cy ad v g2 H.size) mc ms (cA ad H.size)) (cw : vx_CSW R s args own index y bytes maxL ret hh ws rm mc ms n) (hB : LWB D cy s) (hL : LWS D cy ad s g H) (hS : va_S (LA0 s) s.heap H locs) (hn : As.length = n) (hsize : ls.size = nL) (hW : (rest.map fun v => v.category).sum ≤ 8) (hdg : decode cc pc = .ok (.invokestatic index, 3)) (hf : cells + mc ≤ R.cells ∧ slots + ms ≤ R.slots)
    (kk : ∀ (H1 : Heap) (locs1 : List Loc), LWS D cy ad s g2 H1 → va_S (LA0 s) s.heap H1 locs1 → W p l e R s m args below meth c H1 locs1 (cells + mc) (slots + ms) Q (F0 m (pc + 3) ls (.int v :: rest))) : W p l e R s m args below meth c H locs cells slots Q (F0 m pc ls (As.reverse ++ rest)) := by
  have hFc : ∀ q : Nat, cA ad H.size q → LA0 s q := fun q z => z.elim (fun hp => hL.cP hp) (fun z => Nat.le_trans hS.1 z)
  refine va_calli (vx_runSW (As := As) (rest := rest) CF hM cw ⟨cPre_blind, fun U hU hW2 => ⟨rfl, by rw [hU], hB.cu hL hS hU hW2⟩⟩ rfl hn hsize rfl (lv_room hW) hdg hf) hS (fun q _ h => hFc q h) hFc (fun r u t H1 locs1 ht hvm hw hBu hz1 hk1 hS1 => ?_)
  have hw : r = v := hw
  subst hw
  exact kk H1 locs1 (hL.goC (by rw [← ht]; exact hBu)) hS1
/-- a method of the law that changes nothing -/
theorem l_callN {v : Int32} {As : List Value} {P : State → Prop} (CF : CallFix p m c cc nL s args Ts own) (hM : Met l y ws rm (va_Pc As P) (nQ v) mc ms nF) (hbl : FrameBlind (va_Pc As P)) (hP : ∀ U : State, U.heap = H → s.WarmedH U.vm → P U) (cw : CallB R s args own index y bytes maxL ret ws rm mc ms n ∧ (Cond.static y).before args s = true) (hB : LWB D cy s) (hL : LWS D cy ad s g H) (hS : va_S (LA0 s) s.heap H locs) (hn : As.length = n) (hsize : ls.size = nL) (hW : (rest.map fun v => v.category).sum ≤ 8) (hdg : decode cc pc = .ok (.invokestatic index, 3)) (hf : cells + mc ≤ R.cells ∧ slots + ms ≤ R.slots)
    (kk : ∀ (H1 : Heap) (locs1 : List Loc), LWS D cy ad s g H1 → va_S (LA0 s) s.heap H1 locs1 → W p l e R s m args below meth c H1 locs1 (cells + mc) (slots + ms) Q (F0 m (pc + 3) ls (.int v :: rest))) : W p l e R s m args below meth c H locs cells slots Q (F0 m pc ls (As.reverse ++ rest)) := by
  refine va_calli (va_runS (As := As) (rest := rest) CF hM cw ⟨hbl, fun U hU hW2 => ⟨rfl, hP U hU hW2⟩⟩ rfl hn hsize rfl (lv_room hW) hdg hf) hS (fun q _ h => h.elim) (fun q h => h.elim) (fun r u t H1 locs1 ht hvm hw hBu hz1 hk1 hS1 => ?_)
  have hw : r = v := hw
  subst hw
  exact kk H1 locs1 ⟨hL.C.kept (fun κ i hv => hk1 _ (hL.C.lt hv) (fun z => z)), hL.fa⟩ hS1
theorem met_Pl {Pc : Array Value → State → Prop} {F : Int64 × Gd} {v : Int64} {sz : Nat} {fr : Addr → Prop} (hM : Met l y ws rm Pc (cQl D cy ad F.1 F.2 sz) mc ms fr) (hf : F = (v, g2)) : Met l y ws rm Pc (cQl D cy ad v g2 sz) mc ms fr := by
  subst hf
  exact hM
theorem met_V {Pc : Array Value → State → Prop} {F v : Int32} {sz : Nat} {fr : Addr → Prop} (hM : Met l y ws rm Pc (cQi D cy ad F g2 sz) mc ms fr) (hf : F = v) : Met l y ws rm Pc (cQi D cy ad v g2 sz) mc ms fr := by
  subst hf
  exact hM
theorem below_blind {av : List Value} : FrameBlind (va_Pc av (fun _ : State => True)) := fun _ _ _ _ q => ⟨q.1, trivial⟩
theorem cell_blind {av : List Value} {b L : Nat} {xs : Nat → Int32} : FrameBlind (va_Pc av (fun U : State => b < U.heap.size ∧ va_X b L xs U U.heap)) := fun a U f mk q => ⟨q.1, q.2.1, va_X.moved (u := U) (Vm.Alike.refl U.vm) q.2.2⟩
theorem LC.cell {p : Program} {l : Launch} {s : State} {m : MethodId} {c : Code} {b L : Nat} {xs : Nat → Int32} (C : LC p l s m c b L xs) (hS : va_S (LA0 s) s.heap H locs) : ∀ U : State, U.heap = H → s.WarmedH U.vm → b < U.heap.size ∧ va_X b L xs U U.heap := fun U hU hW => by
  rw [hU]
  exact ⟨Nat.lt_of_lt_of_le C.bl hS.1, va_X.moved hW.alike (C.X.kept (hS.2.1 b C.bl (LA0_no C.bl)))⟩
end LR
