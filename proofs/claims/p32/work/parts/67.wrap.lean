/-! ===== the law's small methods ===== -/
section OW
variable {p : Program} {l : Launch} {e : Env} {R : Room} {s : State} {m : MethodId} {args : Array Value} {below : List Frame} {meth : Method} {c : Code} {H : Heap} {locs : List Loc} {cells slots : Nat} {Q : State → Prop}
variable {cc : ByteArray} {pc : Nat} {ls : Array Slot} {rest : List Value} {D : va_G} {cy : Nat → ClassId} {ad : Nat → Nat → Nat} {g g2 : Gd}
variable {Ts ws ws' : List Cond} {bytes : ByteArray} {nL maxL index n mc ms : Nat} {own : String} {y : MethodName} {ret : Option FieldType} {rm : Room}
variable {b L : Nat} {xs : Nat → Int32}
theorem w_callT {As : List Value} {cd : Nat} {v : Int32} (S : CallFix p m c cc nL s args Ts own) (hM : vx_Met l y ws rm (va_Pc (.ref (ad 0 0) :: As) (cPre D cy ad g s.heap.size)) (cXi D cy ad cd v g2 s.heap.size) (cXC D cy ad cd g s.heap.size) mc ms (cA ad s.heap.size)) (cw : CallW R s args own "CherryStation" index y bytes maxL ret ws rm mc ms n) (hB : CB D cy ad s) (hC : CW D cy ad g s.heap) (hn : As.length = n) (hsize : ls.size = nL) (hW : (rest.map fun v => v.category).sum ≤ 8) (hdg : decode cc pc = .ok (.invokevirtual index, 3)) (hf : 0 + mc ≤ R.cells ∧ 0 + ms ≤ R.slots)
    (kx : ¬ cd = 0 → ∀ (H1 : Heap) (locs1 : List Loc) (q9 : Addr) (ce : Cell), CW D cy ad g H1 → va_S (cA ad s.heap.size) s.heap H1 locs1 → H1[q9]? = some ce → ce.vm = .none → s.vm.findClass (eN cd) = some ce.cls → vx_W p l e R s m args below meth c H1 locs1 (0 + mc) (0 + ms) Q (F0 m pc ls rest) q9)
    (kk : cd = 0 → ∀ (H1 : Heap) (locs1 : List Loc), CW D cy ad g2 H1 → va_S (cA ad s.heap.size) s.heap H1 locs1 → W p l e R s m args below meth c H1 locs1 (0 + mc) (0 + ms) Q (F0 m (pc + 3) ls (.int v :: rest))) : W p l e R s m args below meth c s.heap [] 0 0 Q (F0 m pc ls (As.reverse ++ .ref (ad 0 0) :: rest)) := by
  have hSc : va_S (cA ad s.heap.size) s.heap s.heap [] := va_S.rf
  have hat := hC 0 0 rfl
  have hrec := va_recv hB.1 (q_one hat) (ci := 6) (q0 := 0) rfl rfl
  refine vx_calli (vx_runV (As := As) (rest := rest) S hM cw ⟨cPre_blind, hrec, fun U hU hW2 => ⟨rfl, by rw [hU], CU2.mk hB hC hSc hU hW2⟩⟩ rfl hn hsize rfl (lv_room hW) hdg hf) hSc (fun q _ h => h) (fun q h => h) (fun q _ h => h) (fun E ce q9 u t H1 locs1 ht hvm hp hBX hz1 hk1 hS1 hce hcv hcl => ?_) (fun r u t H1 locs1 ht hvm hw hBu hz1 hk1 hS1 => ?_)
  · obtain ⟨⟨hE, hne⟩, hCX⟩ := hBX
    subst hE
    exact kx hne H1 locs1 q9 ce (by rw [← ht]; exact hCX) hS1 hce hcv hcl
  · obtain ⟨hc0, hw⟩ := hw
    subst hw
    exact kk hc0 H1 locs1 (by rw [← ht]; exact hBu) hS1
theorem w_reti (hx : p.tables.exec = Jvm.exec) (hb : c.code = cc) (hr : meth.sig.returnType = some .int) (hC : CW D cy ad g H) (hS : va_S (cA ad s.heap.size) s.heap H locs) {v v2 : Int32} (hv : v = v2) (hg : g2 = g) (hlocks : meth.locks = false) (hdg : decode cc pc = .ok (.ireturn, 1)) : W p l e R s m args below meth c H locs cells slots (MQ below (cQi D cy ad v2 g2 s.heap.size) args s cells slots (cA ad s.heap.size)) (F0 m pc ls [.int v]) := by
  subst hg
  exact W.iret hx hb hr (fun t ht hW => ⟨⟨v, (), rfl, hv, CW.at ht hC⟩, hS.F ht⟩) hS.2.2 hdg
/-- a contract with throws, where nothing is thrown -/
theorem vx_of0 {Pc : Array Value → State → Prop} {Qc Qd : Array Value → State → Outcome → State → Prop} {XC : String → State → State → Prop} {fr : Addr → Prop} (hM : vx_Met l y ws rm Pc Qc XC mc ms fr) (hX : ∀ E st t, ¬ XC E st t) (hq : ∀ a st oc t, Qc a st oc t → Qd a st oc t) : Met l y ws rm Pc Qd mc ms fr := by
  intro p e h1 h2 h3 s m args below h4 h5 h6 h7
  obtain ⟨n, oc, a1, a2, a3, a4⟩ := hM p e h1 h2 h3 s m args below h4 h5 h6 h7
  refine ⟨n, oc, a1, a2, a3, ?_⟩
  rcases a4 with ⟨a5, a6⟩ | ⟨q, a5, E, ce, L, a6, _⟩
  · exact ⟨hq _ _ _ _ a5, a6⟩
  · exact absurd a6 (hX _ _ _)
theorem vx_ofT {Pc : Array Value → State → Prop} {F : Nat × Int32 × Gd} {g0 : Gd} {v : Int32} {sz : Nat} {fr : Addr → Prop} (hM : vx_Met l y ws rm Pc (cXi D cy ad F.1 F.2.1 F.2.2 sz) (cXC D cy ad F.1 g0 sz) mc ms fr) (hf : F = (0, v, g2)) : Met l y ws rm Pc (cQi D cy ad v g2 sz) mc ms fr := by
  subst hf
  refine vx_of0 hM (fun E st t h => ?_) (fun a st oc t h => ?_)
  · obtain ⟨u, -, ⟨⟨-, h1⟩, -⟩, -⟩ := h
    exact h1 rfl
  · obtain ⟨⟨r, u, h1, h2, h3⟩, h4⟩ := h
    exact ⟨⟨r, u, h1, h2.2, h3⟩, h4⟩
theorem vx_ofR {Pc : Array Value → State → Prop} {F : Nat × Int32} {g0 : Gd} {v : Int32} {sz : Nat} {fr : Addr → Prop} (hM : vx_Met l y ws rm Pc (cXi D cy ad F.1 F.2 g2 sz) (cXC D cy ad F.1 g0 sz) mc ms fr) (hf : F = (0, v)) : Met l y ws rm Pc (cQi D cy ad v g2 sz) mc ms fr := by
  subst hf
  refine vx_of0 hM (fun E st t h => ?_) (fun a st oc t h => ?_)
  · obtain ⟨u, -, ⟨⟨-, h1⟩, -⟩, -⟩ := h
    exact h1 rfl
  · obtain ⟨⟨r, u, h1, h2, h3⟩, h4⟩ := h
    exact ⟨⟨r, u, h1, h2.2, h3⟩, h4⟩
theorem met_P {Pc : Array Value → State → Prop} {F : Int32 × Gd} {v : Int32} {sz : Nat} {fr : Addr → Prop} (hM : Met l y ws rm Pc (cQi D cy ad F.1 F.2 sz) mc ms fr) (hf : F = (v, g2)) : Met l y ws rm Pc (cQi D cy ad v g2 sz) mc ms fr := by
  subst hf
  exact hM
end OW
def fL_below (v n : Int32) : Int32 := (v &&& 2147483647) - (v &&& 2147483647) / n * n
def fL_cell (L : Nat) (xs : Nat → Int32) (k : Int32) : Int32 := if Int32.ofNat L ≤ k then 790386105 * (k + 3) else xs k.toNatClampNeg
abbrev nF : Nat → Prop := fun _ => False
/-- the post of a method that changes nothing -/
abbrev nQ (v : Int32) := va_Qi (fun (r : Int32) (_ : Unit) => r = v) (fun _ _ => True) nF
theorem n_blind {av : List Value} {sz : Nat} : FrameBlind (va_Pc av (fun U : State => U.heap.size = sz)) := fun _ _ _ _ q => ⟨q.1, q.2⟩
set_option maxRecDepth 100000 in
set_option maxHeartbeats 4000000 in
theorem kL_below (l : Launch) (v n : Int32) (hn : ¬ n = 0) : Met l yL_below wsL_below ({ frames := 0, cells := 0, slots := 0, locals := 0 } : Room) (va_Pc [.int v, .int n] (fun _ : State => True)) (nQ (fL_below v n)) 0 0 nF := by
  refine q_start (cc := cL_below) (maxL := 2) (ret := some .int) (own := RL) (by decide) rfl rfl (Nat.le_of_ble_eq_true rfl) ?_
  intro p e s m below meth c hx hb hr hml hts hown hlocks _ ls hl
  have hl : lv_has ls 2 [(0, .int v), (1, .int n)] := hl
  have hS : va_S nF s.heap s.heap [] := va_S.rf
  refine lv_iload_n hx hb dL_below_0 rfl (lv_at hl 0 rfl) ?_
  refine lv_ldc hx hb hown (hts (.constant RL 7 (2147483647)) (List.mem_of_getElem? (i := 1) rfl)) dL_below_1 ?_
  refine lv_iand hx hb dL_below_3 ?_
  refine lv_iload_n hx hb dL_below_4 rfl (lv_at hl 1 rfl) ?_
  refine lv_irem hx hb dL_below_5 hn ?_
  exact W.iret hx hb hr (fun t ht hW => ⟨⟨_, (), rfl, rfl, trivial⟩, hS.F ht⟩) hS.2.2 dL_below_6
set_option maxRecDepth 100000 in
set_option maxHeartbeats 4000000 in
theorem kL_cell (l : Launch) (b L : Nat) (xs : Nat → Int32) (k : Int32) (hk : 0 ≤ k.toInt) (hL : L < 2147483648) : Met l yL_cell wsL_cell ({ frames := 0, cells := 0, slots := 0, locals := 0 } : Room) (va_Pc [.ref b, .int k] (fun U : State => b < U.heap.size ∧ va_X b L xs U U.heap)) (nQ (fL_cell L xs k)) 0 0 nF := by
  refine q_start (cc := cL_cell) (maxL := 2) (ret := some .int) (own := RL) (by decide) rfl rfl (Nat.le_of_ble_eq_true rfl) ?_
  intro p e s m below meth c hx hb hr hml hts hown hlocks ⟨hbl, hX⟩ ls hl
  have hl : lv_has ls 2 [(0, .ref b), (1, .int k)] := hl
  have hS : va_S nF s.heap s.heap [] := va_S.rf
  refine lv_iload_n hx hb dL_cell_0 rfl (lv_at hl 1 rfl) ?_
  refine lv_aload_n hx hb dL_cell_1 rfl (lv_at hl 0 rfl) ?_
  refine va_slen hx hb hX hbl (fun h => h) hS dL_cell_2 ?_
  refine lv_icmp_ge (tgt := 12) hx hb dL_cell_3 (by decide) (fun c1 => ?_) (fun c1 => ?_)
  · refine lv_ldc hx hb hown (hts (.constant RL 8 (790386105)) (List.mem_of_getElem? (i := 1) rfl)) dL_cell_12 ?_
    refine lv_iload_n hx hb dL_cell_14 rfl (lv_at hl 1 rfl) ?_
    refine lv_iconst (v := 3) hx hb dL_cell_15 (by decide) ?_
    refine lv_iadd hx hb dL_cell_16 ?_
    refine lv_imul hx hb dL_cell_17 ?_
    exact W.iret hx hb hr (fun t ht hW => ⟨⟨_, (), rfl, (by unfold fL_cell; rw [if_pos c1]), trivial⟩, hS.F ht⟩) hS.2.2 dL_cell_18
  · refine lv_aload_n hx hb dL_cell_6 rfl (lv_at hl 0 rfl) ?_
    refine lv_iload_n hx hb dL_cell_7 rfl (lv_at hl 1 rfl) ?_
    have hin : vp_in k L := by
      refine vp_in_iff.mpr ⟨hk, ?_⟩
      have h2 := Int32.lt_iff_toInt_lt.mp (Int32.not_le.mp c1)
      have h3 : (Int32.ofNat L).toInt = L := nI_toInt hL
      omega
    refine va_sld hx hb hX hbl (fun h => h) hS hin dL_cell_8 ?_
    refine lv_goto (tgt := 18) hx hb dL_cell_9 (by decide) ?_
    exact W.iret hx hb hr (fun t ht hW => ⟨⟨_, (), rfl, (by unfold fL_cell; rw [if_neg c1]), trivial⟩, hS.F ht⟩) hS.2.2 dL_cell_18
def fL_pulp (g : Gd) (x : Int32) (t : Int32) : Int32 × Gd := if (fX6_pulp g x t).1 = 0 then ((fX6_pulp g x t).2.1, (fX6_pulp g x t).2.2) else ((-1), g)
set_option maxRecDepth 100000 in
set_option maxHeartbeats 4000000 in
theorem kL_pulp (l : Launch) (D : va_G) (cy : Nat → ClassId) {ad : Nat → Nat → Nat} (hI : cI ad) (hl0 : l.stackTraces = false) (g : Gd) (sz : Nat) (x : Int32) (t : Int32) (hv : IvC g) (hnx : (fX6_pulp g x t).1 = 0 ∨ (fX6_pulp g x t).1 = 3) : Met l yL_pulp wsL_pulp ({ frames := 8, cells := 3, slots := 18, locals := 128 } : Room) (va_Pc [.ref (ad 0 0), .int x, .int t] (cPre D cy ad g sz)) (cQi D cy ad (fL_pulp g x t).1 (fL_pulp g x t).2 sz) 3 18 (cA ad sz) := by
  refine va_MetW (cc := cL_pulp) (maxL := 4) (ret := some .int) (hh := [(0, 6, 7, 105)]) (by decide) rfl ?_
  intro p e s m args below meth c s₁ B hml hv0
  obtain ⟨rfl, hsz, hC, hB⟩ := hv0
  subst hsz
  have hx := B.exec
  have hb := B.bytes
  have hr := B.returns
  have hts := atoms_spec (ws := wsL_pulp) B.pre
  have hown : s.vm.findClass RL = some m.cls := findClass_of_methodNamed B.named
  have hlocks := B.notSynchronized
  have htb : c.exceptionTable.toList = tableOf [(0, 6, 7, 105)] := vx_table (x := yL_pulp) B (hts _ (List.mem_of_getElem? (i := 0) rfl))
  have hl := lv_entry ([.ref (ad 0 0), .int x, .int t]) (n := 4) (Nat.le_of_ble_eq_true rfl)
  rw [lg_entry_eq]
  generalize (lg_sl ([.ref (ad 0 0), .int x, .int t]) ++ List.replicate (4 - (lg_sl ([.ref (ad 0 0), .int x, .int t])).length) Slot.unset).toArray = ls at hl ⊢
  have hl : lv_has ls 4 [(0, .ref (ad 0 0)), (1, .int x), (2, .int t)] := hl
  show W p l e ({ frames := 8, cells := 3, slots := 18, locals := 128 } : Room) s m _ below meth c s.heap [] 0 0 _ _
  refine lv_aload_n hx hb dL_pulp_0 rfl (lv_at hl 0 rfl) ?_
  refine lv_iload_n hx hb dL_pulp_1 rfl (lv_at hl 1 rfl) ?_
  refine lv_iload_n hx hb dL_pulp_2 rfl (lv_at hl 2 rfl) ?_
  refine w_callT (cd := (fX6_pulp g x t).1) (v := (fX6_pulp g x t).2.1) (g2 := (fX6_pulp g x t).2.2) (As := [.int x, .int t]) (rest := []) ⟨hx, hb, hml, hown, hts⟩ (kX6_pulp l D cy hI hl0 g _ x t hv) (cwV 2 hts gL_pulp_X6_pulp rfl rfl rfl (by decide +kernel) ⟨Nat.le_of_ble_eq_true rfl, Nat.le_of_ble_eq_true rfl⟩) hB hC rfl hl.1 (Nat.le_of_ble_eq_true rfl) dL_pulp_3 ⟨Nat.le_of_ble_eq_true rfl, Nat.le_of_ble_eq_true rfl⟩ (fun hcd H locs q9 ce hC hS h1 h2 h3 => ?_) (fun hcd H locs hC hS => ?_)
  · have hc := hnx.resolve_left hcd
    rw [hc] at h3
    refine vx_catch (own := RL) (name := "java/lang/IllegalStateException") (E := "java/lang/IllegalStateException") hown [] ⟨0, 6, 7, 105⟩ [] htb (fun z hz => absurd hz List.not_mem_nil) (by decide) (by decide) (hts (.classLink RL 105 "java/lang/IllegalStateException") (List.mem_of_getElem? (i := 1) rfl)) (qB_use hB.2.1 (w := .castable "java/lang/IllegalStateException" "java/lang/IllegalStateException") (by decide) rfl) h1 h2 h3 ?_
    refine lv_astore_n (lv' := [(3, .ref q9), (0, .ref (ad 0 0)), (1, .int x), (2, .int t)]) hx hb dL_pulp_7 rfl hl (by decide) rfl (fun ls hl => ?_)
    refine lv_iconst (v := (-1)) hx hb dL_pulp_8 (by decide) ?_
    have e9 : (fL_pulp g x t) = ((-1), g) := if_neg hcd
    exact w_reti hx hb hr hC hS (by rw [e9]) (by rw [e9]) hlocks dL_pulp_9
  · have e9 : (fL_pulp g x t) = ((fX6_pulp g x t).2.1, (fX6_pulp g x t).2.2) := if_pos hcd
    exact w_reti hx hb hr hC hS (by rw [e9]) (by rw [e9]) hlocks dL_pulp_6
def fL_wash (g : Gd) (t : Int32) (b : Int32) (ho : Int32) : Int32 × Gd := if (fX6_wash g t b ho).1 = 0 then ((fX6_wash g t b ho).2.1, (fX6_wash g t b ho).2.2) else ((-1), g)
set_option maxRecDepth 100000 in
set_option maxHeartbeats 4000000 in
theorem kL_wash (l : Launch) (D : va_G) (cy : Nat → ClassId) {ad : Nat → Nat → Nat} (hI : cI ad) (hl0 : l.stackTraces = false) (g : Gd) (sz : Nat) (t : Int32) (b : Int32) (ho : Int32) (hv : IvC g) (hnx : (fX6_wash g t b ho).1 = 0 ∨ (fX6_wash g t b ho).1 = 3) : Met l yL_wash wsL_wash ({ frames := 8, cells := 3, slots := 18, locals := 129 } : Room) (va_Pc [.ref (ad 0 0), .int t, .int b, .int ho] (cPre D cy ad g sz)) (cQi D cy ad (fL_wash g t b ho).1 (fL_wash g t b ho).2 sz) 3 18 (cA ad sz) := by
  refine va_MetW (cc := cL_wash) (maxL := 5) (ret := some .int) (hh := [(0, 7, 8, 105)]) (by decide) rfl ?_
  intro p e s m args below meth c s₁ B hml hv0
  obtain ⟨rfl, hsz, hC, hB⟩ := hv0
  subst hsz
  have hx := B.exec
  have hb := B.bytes
  have hr := B.returns
  have hts := atoms_spec (ws := wsL_wash) B.pre
  have hown : s.vm.findClass RL = some m.cls := findClass_of_methodNamed B.named
  have hlocks := B.notSynchronized
  have htb : c.exceptionTable.toList = tableOf [(0, 7, 8, 105)] := vx_table (x := yL_wash) B (hts _ (List.mem_of_getElem? (i := 0) rfl))
  have hl := lv_entry ([.ref (ad 0 0), .int t, .int b, .int ho]) (n := 5) (Nat.le_of_ble_eq_true rfl)
  rw [lg_entry_eq]
  generalize (lg_sl ([.ref (ad 0 0), .int t, .int b, .int ho]) ++ List.replicate (5 - (lg_sl ([.ref (ad 0 0), .int t, .int b, .int ho])).length) Slot.unset).toArray = ls at hl ⊢
  have hl : lv_has ls 5 [(0, .ref (ad 0 0)), (1, .int t), (2, .int b), (3, .int ho)] := hl
  show W p l e ({ frames := 8, cells := 3, slots := 18, locals := 129 } : Room) s m _ below meth c s.heap [] 0 0 _ _
  refine lv_aload_n hx hb dL_wash_0 rfl (lv_at hl 0 rfl) ?_
  refine lv_iload_n hx hb dL_wash_1 rfl (lv_at hl 1 rfl) ?_
  refine lv_iload_n hx hb dL_wash_2 rfl (lv_at hl 2 rfl) ?_
  refine lv_iload_n hx hb dL_wash_3 rfl (lv_at hl 3 rfl) ?_
  refine w_callT (cd := (fX6_wash g t b ho).1) (v := (fX6_wash g t b ho).2.1) (g2 := (fX6_wash g t b ho).2.2) (As := [.int t, .int b, .int ho]) (rest := []) ⟨hx, hb, hml, hown, hts⟩ (kX6_wash l D cy hI hl0 g _ t b ho hv) (cwV 3 hts gL_wash_X6_wash rfl rfl rfl (by decide +kernel) ⟨Nat.le_of_ble_eq_true rfl, Nat.le_of_ble_eq_true rfl⟩) hB hC rfl hl.1 (Nat.le_of_ble_eq_true rfl) dL_wash_4 ⟨Nat.le_of_ble_eq_true rfl, Nat.le_of_ble_eq_true rfl⟩ (fun hcd H locs q9 ce hC hS h1 h2 h3 => ?_) (fun hcd H locs hC hS => ?_)
  · have hc := hnx.resolve_left hcd
    rw [hc] at h3
    refine vx_catch (own := RL) (name := "java/lang/IllegalStateException") (E := "java/lang/IllegalStateException") hown [] ⟨0, 7, 8, 105⟩ [] htb (fun z hz => absurd hz List.not_mem_nil) (by decide) (by decide) (hts (.classLink RL 105 "java/lang/IllegalStateException") (List.mem_of_getElem? (i := 1) rfl)) (qB_use hB.2.1 (w := .castable "java/lang/IllegalStateException" "java/lang/IllegalStateException") (by decide) rfl) h1 h2 h3 ?_
    refine lv_astore (lv' := [(4, .ref q9), (0, .ref (ad 0 0)), (1, .int t), (2, .int b), (3, .int ho)]) hx hb dL_wash_8 hl (by decide) rfl (fun ls hl => ?_)
    refine lv_iconst (v := (-1)) hx hb dL_wash_10 (by decide) ?_
    have e9 : (fL_wash g t b ho) = ((-1), g) := if_neg hcd
    exact w_reti hx hb hr hC hS (by rw [e9]) (by rw [e9]) hlocks dL_wash_11
  · have e9 : (fL_wash g t b ho) = ((fX6_wash g t b ho).2.1, (fX6_wash g t b ho).2.2) := if_pos hcd
    exact w_reti hx hb hr hC hS (by rw [e9]) (by rw [e9]) hlocks dL_wash_7
def fL_whole (g : Gd) (x : Int32) (b : Int32) : Int32 × Gd := if (fX6_whole g x b).1 = 0 then ((fX6_whole g x b).2.1, (fX6_whole g x b).2.2) else ((-1), g)
set_option maxRecDepth 100000 in
set_option maxHeartbeats 4000000 in
theorem kL_whole (l : Launch) (D : va_G) (cy : Nat → ClassId) {ad : Nat → Nat → Nat} (hI : cI ad) (hl0 : l.stackTraces = false) (g : Gd) (sz : Nat) (x : Int32) (b : Int32) (hv : IvC g) (hnx : (fX6_whole g x b).1 = 0 ∨ (fX6_whole g x b).1 = 3) : Met l yL_whole wsL_whole ({ frames := 8, cells := 3, slots := 18, locals := 127 } : Room) (va_Pc [.ref (ad 0 0), .int x, .int b] (cPre D cy ad g sz)) (cQi D cy ad (fL_whole g x b).1 (fL_whole g x b).2 sz) 3 18 (cA ad sz) := by
  refine va_MetW (cc := cL_whole) (maxL := 4) (ret := some .int) (hh := [(0, 6, 7, 105)]) (by decide) rfl ?_
  intro p e s m args below meth c s₁ B hml hv0
  obtain ⟨rfl, hsz, hC, hB⟩ := hv0
  subst hsz
  have hx := B.exec
  have hb := B.bytes
  have hr := B.returns
  have hts := atoms_spec (ws := wsL_whole) B.pre
  have hown : s.vm.findClass RL = some m.cls := findClass_of_methodNamed B.named
  have hlocks := B.notSynchronized
  have htb : c.exceptionTable.toList = tableOf [(0, 6, 7, 105)] := vx_table (x := yL_whole) B (hts _ (List.mem_of_getElem? (i := 0) rfl))
  have hl := lv_entry ([.ref (ad 0 0), .int x, .int b]) (n := 4) (Nat.le_of_ble_eq_true rfl)
  rw [lg_entry_eq]
  generalize (lg_sl ([.ref (ad 0 0), .int x, .int b]) ++ List.replicate (4 - (lg_sl ([.ref (ad 0 0), .int x, .int b])).length) Slot.unset).toArray = ls at hl ⊢
  have hl : lv_has ls 4 [(0, .ref (ad 0 0)), (1, .int x), (2, .int b)] := hl
  show W p l e ({ frames := 8, cells := 3, slots := 18, locals := 127 } : Room) s m _ below meth c s.heap [] 0 0 _ _
  refine lv_aload_n hx hb dL_whole_0 rfl (lv_at hl 0 rfl) ?_
  refine lv_iload_n hx hb dL_whole_1 rfl (lv_at hl 1 rfl) ?_
  refine lv_iload_n hx hb dL_whole_2 rfl (lv_at hl 2 rfl) ?_
  refine w_callT (cd := (fX6_whole g x b).1) (v := (fX6_whole g x b).2.1) (g2 := (fX6_whole g x b).2.2) (As := [.int x, .int b]) (rest := []) ⟨hx, hb, hml, hown, hts⟩ (kX6_whole l D cy hI hl0 g _ x b hv) (cwV 2 hts gL_whole_X6_whole rfl rfl rfl (by decide +kernel) ⟨Nat.le_of_ble_eq_true rfl, Nat.le_of_ble_eq_true rfl⟩) hB hC rfl hl.1 (Nat.le_of_ble_eq_true rfl) dL_whole_3 ⟨Nat.le_of_ble_eq_true rfl, Nat.le_of_ble_eq_true rfl⟩ (fun hcd H locs q9 ce hC hS h1 h2 h3 => ?_) (fun hcd H locs hC hS => ?_)
  · have hc := hnx.resolve_left hcd
    rw [hc] at h3
    refine vx_catch (own := RL) (name := "java/lang/IllegalStateException") (E := "java/lang/IllegalStateException") hown [] ⟨0, 6, 7, 105⟩ [] htb (fun z hz => absurd hz List.not_mem_nil) (by decide) (by decide) (hts (.classLink RL 105 "java/lang/IllegalStateException") (List.mem_of_getElem? (i := 1) rfl)) (qB_use hB.2.1 (w := .castable "java/lang/IllegalStateException" "java/lang/IllegalStateException") (by decide) rfl) h1 h2 h3 ?_
    refine lv_astore_n (lv' := [(3, .ref q9), (0, .ref (ad 0 0)), (1, .int x), (2, .int b)]) hx hb dL_whole_7 rfl hl (by decide) rfl (fun ls hl => ?_)
    refine lv_iconst (v := (-1)) hx hb dL_whole_8 (by decide) ?_
    have e9 : (fL_whole g x b) = ((-1), g) := if_neg hcd
    exact w_reti hx hb hr hC hS (by rw [e9]) (by rw [e9]) hlocks dL_whole_9
  · have e9 : (fL_whole g x b) = ((fX6_whole g x b).2.1, (fX6_whole g x b).2.2) := if_pos hcd
    exact w_reti hx hb hr hC hS (by rw [e9]) (by rw [e9]) hlocks dL_whole_6
