/-! ===== what every method of the class finds: its cells, the tables' words that aren't good ones, the texts, Throwable's statics ===== -/
def qNl : List Cond := [.methodLinkNest "CherryStation" 39 ⟨"CherryStation$Lot", "<init>", "()V"⟩ "CherryStation",
  .methodLinkNest "CherryStation" 82 ⟨"CherryStation$Farm", "<init>", "()V"⟩ "CherryStation",
  .methodLinkNest "CherryStation" 83 ⟨"CherryStation$Basket", "<init>", "()V"⟩ "CherryStation",
  .methodLinkNest "CherryStation" 84 ⟨"CherryStation$Tank", "<init>", "()V"⟩ "CherryStation",
  .methodLinkNest "CherryStation" 85 ⟨"CherryStation$Bed", "<init>", "()V"⟩ "CherryStation",
  .methodLinkNest "CherryStation$Bed" 11 ⟨"CherryStation$Mix", "<init>", "()V"⟩ "CherryStation",
  .methodLinkNest "CherryStation$Lot" 11 ⟨"CherryStation$Mix", "<init>", "()V"⟩ "CherryStation",
  .methodLinkNest "CherryStation$Lot" 76 ⟨"CherryStation", "meanByKilos", "(IIII)I"⟩ "CherryStation",
  .methodLinkNest "CherryStation$Mix" 33 ⟨"CherryStation", "meanByKilos", "(IIII)I"⟩ "CherryStation",
  .methodLinkNest "CherryStation$Tank" 9 ⟨"CherryStation$Mix", "<init>", "()V"⟩ "CherryStation",
  .castable "java/lang/IllegalArgumentException" "java/lang/IllegalArgumentException",
  .castable "java/lang/IllegalStateException" "java/lang/IllegalStateException",
  .castable "java/lang/IndexOutOfBoundsException" "java/lang/IndexOutOfBoundsException",
  .declares ⟨"java/lang/RuntimeException", "<init>", "(Ljava/lang/String;)V"⟩,
  .declares ⟨"java/lang/Exception", "<init>", "(Ljava/lang/String;)V"⟩,
  .declares ⟨"java/lang/Throwable", "<init>", "(Ljava/lang/String;)V"⟩]
def qTx : List (String × Nat × String) := [("CherryStation", 88, "height is not 10 to 22"),
  ("CherryStation", 95, "there are 6 farms"),
  ("CherryStation", 105, "day is not -1 to 900"),
  ("CherryStation", 110, "price is not 1 to 50"),
  ("CherryStation", 112, "kilos is not 1 to 200, or ripe not 0 to 100"),
  ("CherryStation", 114, "there were 20 baskets"),
  ("CherryStation", 126, "hours is not 1 to 100, warmth not 0 to 40, or rain not 0 to 20"),
  ("CherryStation", 128, "the hour would be above 20000"),
  ("CherryStation", 134, "area is not 5 to 40"),
  ("CherryStation", 136, "there are 5 beds"),
  ("CherryStation", 159, "the basket can't be pulped into that tank"),
  ("CherryStation", 184, "the tank can't be washed so onto that bed"),
  ("CherryStation", 198, "the basket can't be dried whole on that bed"),
  ("CherryStation", 200, "the bed is empty"),
  ("CherryStation", 213, "the bed gives no lot, or there were 12"),
  ("CherryStation", 234, "the lot is not in store"),
  ("CherryStation", 243, "both are the same lot"),
  ("CherryStation", 249, "a lot is not in store, or they are of two methods"),
  ("CherryStation", 276, "what is not 0 to 4"),
  ("CherryStation", 290, "what is not 0 to 5"),
  ("CherryStation", 307, "what is not 0 to 7"),
  ("CherryStation", 320, "what is not 0 to 11"),
  ("CherryStation", 346, "what is not 0 to 15"),
  ("CherryStation", 414, "there is no such farm"),
  ("CherryStation", 417, "taster is not 0 to 2"),
  ("CherryStation", 419, "warmth is not 0 to 40"),
  ("CherryStation", 421, "price is not 1 to 200"),
  ("CherryStation", 423, "the lot is not in store, or has no grade"),
  ("CherryStation", 425, "there is no such basket"),
  ("CherryStation", 427, "tank is not 0 to 2"),
  ("CherryStation", 429, "there is no such bed"),
  ("CherryStation", 431, "there is no such lot")]
def qKind : Cond → Bool
  | .methodLinkNest .. => true
  | .fieldLinkNest .. => true
  | .castable .. => true
  | .declares _ => true
  | _ => false
theorem qNw_warm {w : Cond} (hk : qKind w = true) {s U : State} (hW : s.WarmedH U.vm) (h : va_Nw w s) : va_Nw w U := by
  cases w <;> first | (simp [qKind] at hk; done) | exact va_Nw.warmM hW h | exact va_Nw.warmF hW h | exact va_Nw.warmC hW h | exact va_Nw.warmD hW h
def qB (U : State) : Prop := (∀ w ∈ qNl, va_Nw w U) ∧ ∀ x ∈ qTx, ∃ sa : Nat, vk_R x.1 x.2.1 x.2.2 sa U
theorem qNl_kind : ∀ w ∈ qNl, qKind w = true := by decide
theorem qB.warm {s U : State} (hW : s.WarmedH U.vm) (h : qB s) : qB U := ⟨fun w hw => qNw_warm (qNl_kind w hw) hW (h.1 w hw), fun x hx => by obtain ⟨sa, q⟩ := h.2 x hx; exact ⟨sa, vk_R.warm hW q⟩⟩
def cP (ad : Nat → Nat → Nat) : Nat → Prop := fun q => ∃ κ i : Nat, cV κ i ∧ q = ad κ i
theorem cA_of {ad : Nat → Nat → Nat} {sz q : Nat} (h : cP ad q) : cA ad sz q := Or.inl h
theorem cA_no {ad : Nat → Nat → Nat} {sz q : Nat} (h : q < sz) (h2 : ¬ cP ad q) : ¬ cA ad sz q := fun z => z.elim h2 (fun z => absurd h (Nat.not_lt.mpr z))
def CX (ad : Nat → Nat → Nat) (U : State) (H : Heap) : Prop := vx_Zq Bundle.tN "UNASSIGNED_STACK" Bundle.steD (cP ad) U H ∧ vx_Zq Bundle.tN "SUPPRESSED_SENTINEL" Bundle.listD (cP ad) U H
theorem CX.go {ad : Nat → Nat → Nat} {s U : State} {H H1 : Heap} (h : CX ad s H) (hvm : s.vm.Alike U.vm) (hq : ∀ a : Nat, a < H.size → ¬ cP ad a → H1[a]? = H[a]?) : CX ad U H1 := ⟨vx_Zq.moved hvm (h.1.kept hq), vx_Zq.moved hvm (h.2.kept hq)⟩
/-- the class's world -/
def CU2 (D : va_G) (cy : Nat → ClassId) (ad : Nat → Nat → Nat) (g : Gd) (U : State) : Prop := CW D cy ad g U.heap ∧ va_K D vwCl (qtys cy) U ∧ qB U ∧ CX ad U U.heap
/-- the class's world at a method's start: what stays known -/
def CB (D : va_G) (cy : Nat → ClassId) (ad : Nat → Nat → Nat) (s : State) : Prop := va_K D vwCl (qtys cy) s ∧ qB s ∧ CX ad s s.heap
theorem CU2.call {D : va_G} {cy : Nat → ClassId} {ad : Nat → Nat → Nat} {g : Gd} {U : State} (h : CU2 D cy ad g U) (f : JFrame) (mk : MethodId) (a : Array Value) : CU2 D cy ad g (U.calling f mk a) :=
  ⟨h.1, va_K.moved (u := U) (Vm.Alike.refl U.vm) h.2.1, qB.warm (s := U) (State.WarmedH.refl U) h.2.2.1, h.2.2.2.go (Vm.Alike.refl U.vm) (fun _ _ _ => rfl)⟩
theorem CU2.mk {D : va_G} {cy : Nat → ClassId} {ad : Nat → Nat → Nat} {g : Gd} {s U : State} {H : Heap} {locs : List Loc} (hB : CB D cy ad s) (hC : CW D cy ad g H) (hS : va_S (cA ad s.heap.size) s.heap H locs) (hU : U.heap = H) (hW : s.WarmedH U.vm) : CU2 D cy ad g U :=
  ⟨by rw [hU]; exact hC, va_K.moved hW.alike hB.1, hB.2.1.warm hW, by rw [hU]; exact hB.2.2.go hW.alike (fun a h1 h2 => hS.2.1 a h1 (cA_no h1 h2))⟩
theorem CW.at {D : va_G} {cy : Nat → ClassId} {ad : Nat → Nat → Nat} {g : Gd} {t : State} {H : Heap} (h : t.heap = H) (hC : CW D cy ad g H) : CW D cy ad g t.heap := by rw [h]; exact hC
abbrev cPre (D : va_G) (cy : Nat → ClassId) (ad : Nat → Nat → Nat) (g : Gd) (sz : Nat) : State → Prop := fun U => U.heap.size = sz ∧ CU2 D cy ad g U
theorem cPre_blind {D : va_G} {cy : Nat → ClassId} {ad : Nat → Nat → Nat} {g : Gd} {sz : Nat} {av : List Value} : FrameBlind (va_Pc av (cPre D cy ad g sz)) := fun a U f mk q => ⟨q.1, q.2.1, q.2.2.call f mk a⟩
section QH
variable {p : Program} {l : Launch} {e : Env} {R : Room} {s : State} {m : MethodId} {args : Array Value} {below : List Frame} {meth : Method} {c : Code} {H : Heap} {locs : List Loc} {cells slots : Nat} {Q : State → Prop}
variable {cc : ByteArray} {pc : Nat} {ls : Array Slot} {rest : List Value} {D : va_G} {cy : Nat → ClassId} {ad : Nat → Nat → Nat} {g g2 : Gd}
variable {Ts ws ws' : List Cond} {bytes : ByteArray} {nL maxL index n mc ms : Nat} {own : String} {y : MethodName} {ret : Option FieldType} {rm : Room}

/-- a method's start -/
theorem q_start {av : List Value} {Qc : Array Value → State → Outcome → State → Prop} {free : Addr → Prop} {PB : State → Prop} (hy : plainName y.cls = true) (hw : ws = Cond.code y cc maxL ret :: ws') (ho : y.cls = own) (hlen : (lg_sl av).length ≤ maxL)
    (body : ∀ (p : Program) (e : Env) (s : State) (m : MethodId) (below : List Frame) (meth : Method) (c : Code), p.tables.exec = Jvm.exec → c.code = cc → meth.sig.returnType = ret → c.maxLocals = maxL → (∀ w ∈ ws, w.before av.toArray s = true) → s.vm.findClass own = some m.cls → meth.locks = false → PB s → ∀ ls : Array Slot, lv_has ls maxL (lv_args 0 av) → W p l e rm s m av.toArray below meth c s.heap [] 0 0 (MQ below Qc av.toArray s mc ms free) (F0 m 0 ls [])) : Met l y ws rm (va_Pc av PB) Qc mc ms free := by
  refine Met.ofW (cc := cc) (maxL := maxL) (ret := ret) hy hw ?_
  intro p e s m args below meth c s₁ B hml hv
  obtain ⟨rfl, hPB⟩ := hv
  rw [lg_entry_eq]
  exact body p e s m below meth c B.exec B.bytes B.returns hml (atoms_spec (ws := ws) B.pre) (by rw [← ho]; exact findClass_of_methodNamed B.named) B.notSynchronized hPB _ (lv_entry av hlen)
theorem q_startX {av : List Value} {Qc : Array Value → State → Outcome → State → Prop} {XC : String → State → State → Prop} {free : Addr → Prop} {PB : State → Prop} (hy : plainName y.cls = true) (hw : ws = Cond.code y cc maxL ret :: ws') (ho : y.cls = own) (hlen : (lg_sl av).length ≤ maxL)
    (body : ∀ (p : Program) (e : Env) (s : State) (m : MethodId) (below : List Frame) (meth : Method) (c : Code), p.tables.exec = Jvm.exec → c.code = cc → meth.sig.returnType = ret → c.maxLocals = maxL → (∀ w ∈ ws, w.before av.toArray s = true) → s.vm.findClass own = some m.cls → meth.locks = false → (∀ x ∈ c.exceptionTable.toList, False) → PB s → ∀ ls : Array Slot, lv_has ls maxL (lv_args 0 av) → W p l e rm s m av.toArray below meth c s.heap [] 0 0 (vx_MQ below Qc XC av.toArray s mc ms free) (F0 m 0 ls [])) : vx_Met l y ws rm (va_Pc av PB) Qc XC mc ms free := by
  refine vx_ofW (cc := cc) (maxL := maxL) (ret := ret) hy hw ?_
  intro p e s m args below meth c s₁ B hml hT hv
  obtain ⟨rfl, hPB⟩ := hv
  rw [lg_entry_eq]
  exact body p e s m below meth c B.exec B.bytes B.returns hml (atoms_spec (ws := ws) B.pre) (by rw [← ho]; exact findClass_of_methodNamed B.named) B.notSynchronized hT hPB _ (lv_entry av hlen)
theorem q_val {x v : Int32} (h : x = v) (k : W p l e R s m args below meth c H locs cells slots Q (F0 m pc ls (.int v :: rest))) : W p l e R s m args below meth c H locs cells slots Q (F0 m pc ls (.int x :: rest)) := by rw [h]; exact k
theorem cA_in {sz sz2 q : Nat} (h : sz ≤ sz2) (z : cA ad sz2 q) : cA ad sz q := z.elim Or.inl (fun z => Or.inr (Nat.le_trans h z))
/-- the posts of the class's methods -/
abbrev cQv (D : va_G) (cy : Nat → ClassId) (ad : Nat → Nat → Nat) (g2 : Gd) (sz : Nat) := va_Qv (fun _ : Unit => True) (fun _ t => CW D cy ad g2 t.heap) (cA ad sz)
abbrev cQi (D : va_G) (cy : Nat → ClassId) (ad : Nat → Nat → Nat) (v : Int32) (g2 : Gd) (sz : Nat) := va_Qi (fun (r : Int32) (_ : Unit) => r = v) (fun _ t => CW D cy ad g2 t.heap) (cA ad sz)
abbrev cQl (D : va_G) (cy : Nat → ClassId) (ad : Nat → Nat → Nat) (v : Int64) (g2 : Gd) (sz : Nat) := va_Ql (fun (r : Int64) (_ : Unit) => r = v) (fun _ t => CW D cy ad g2 t.heap) (cA ad sz)
abbrev cQr (D : va_G) (cy : Nat → ClassId) (ad : Nat → Nat → Nat) (a : Nat) (g2 : Gd) (sz : Nat) := va_Qr (fun _ : Unit => True) (fun _ b t => b = a ∧ CW D cy ad g2 t.heap) (cA ad sz)

/-- the exceptions' numbers -/
def eN (cd : Nat) : String := match cd with
  | 1 => "java/lang/IndexOutOfBoundsException"
  | 2 => "java/lang/IllegalArgumentException"
  | _ => "java/lang/IllegalStateException"
abbrev cXC (D : va_G) (cy : Nat → ClassId) (ad : Nat → Nat → Nat) (cd : Nat) (g2 : Gd) (sz : Nat) : String → State → State → Prop := vx_X (fun _ : Unit => True) (fun E _ t => (E = eN cd ∧ ¬ cd = 0) ∧ CW D cy ad g2 t.heap) (cA ad sz)
abbrev cXv (D : va_G) (cy : Nat → ClassId) (ad : Nat → Nat → Nat) (cd : Nat) (g2 : Gd) (sz : Nat) := va_Qv (fun _ : Unit => cd = 0) (fun _ t => CW D cy ad g2 t.heap) (cA ad sz)
abbrev cXi (D : va_G) (cy : Nat → ClassId) (ad : Nat → Nat → Nat) (cd : Nat) (v : Int32) (g2 : Gd) (sz : Nat) := va_Qi (fun (r : Int32) (_ : Unit) => cd = 0 ∧ r = v) (fun _ t => CW D cy ad g2 t.heap) (cA ad sz)
abbrev cXl (D : va_G) (cy : Nat → ClassId) (ad : Nat → Nat → Nat) (cd : Nat) (v : Int64) (g2 : Gd) (sz : Nat) := va_Ql (fun (r : Int64) (_ : Unit) => cd = 0 ∧ r = v) (fun _ t => CW D cy ad g2 t.heap) (cA ad sz)
abbrev cXr (D : va_G) (cy : Nat → ClassId) (ad : Nat → Nat → Nat) (cd : Nat) (a : Nat) (g2 : Gd) (sz : Nat) := va_Qr (fun _ : Unit => cd = 0) (fun _ b t => b = a ∧ CW D cy ad g2 t.heap) (cA ad sz)
theorem vx_Zq_wide {C n d : String} {A B : Nat → Prop} {U : State} {H : Heap} (h : vx_Zq C n d A U H) (hAB : ∀ q, q < H.size → B q → A q) : vx_Zq C n d B U H := by
  have lt : ∀ {a : Nat} {cell : Cell}, H[a]? = some cell → a < H.size := fun h => (Array.getElem?_eq_some_iff.mp h).1
  obtain ⟨h1, h2⟩ := h
  refine ⟨?_, ?_⟩
  · rcases h1 with h1 | ⟨t, h1⟩
    · obtain ⟨cf, kf, fi, f, a, cell, q1, q2, q3, q4, q5, q6, q7, q8⟩ := h1
      exact Or.inl ⟨cf, kf, fi, f, a, cell, q1, q2, q3, q4, q5, q6, q7, fun z => q8 (hAB a (lt q5) z)⟩
    · obtain ⟨cf, kf, fi, f, a, cell, q1, q2, q3, q4, q5, q6, q7, q8⟩ := h1
      exact Or.inr ⟨t, cf, kf, fi, f, a, cell, q1, q2, q3, q4, q5, q6, q7, fun z => q8 (hAB a (lt q5) z)⟩
  · obtain ⟨c, k, i, f, a, cell, q1, q2, q3, q4, q5, q6, q7, q8, q9, q10⟩ := h2
    exact ⟨c, k, i, f, a, cell, q1, q2, q3, q4, q5, q6, q7, q8, q9, fun z => q10 (hAB a (lt q5) z)⟩
theorem qB_use {w : Cond} (h : qB s) (hw : w ∈ qNl) (ht : w.onTables = true) {A : Array Value} : w.before A s = true := va_Nw.use ht (h.1 w hw)
theorem qNl_tab : ∀ w ∈ qNl, w.onTables = true := by decide
def xNames : List String := ["java/lang/RuntimeException", "java/lang/Exception"]
theorem q_throwS {Qc : Array Value → State → Outcome → State → Prop} {text cls : String} {ik is ic cd cdv : Nat} (hl : l.stackTraces = false) (hx : p.tables.exec = Jvm.exec) (hb : c.code = cc) (hown : s.vm.findClass own = some m.cls) (hml : c.maxLocals = nL) (hT : ∀ x ∈ c.exceptionTable.toList, False) (hlocks : meth.locks = false) (hB : CB D cy ad s) (hC : CW D cy ad g H) (hS : va_S (cA ad s.heap.size) s.heap H locs) (hsz : ls.size = nL) (hF : cd = cdv) (he : eN cdv = cls) (hcd : ¬ cdv = 0) (hf : Bundle.fit cls = true ∧ ∀ n ∈ ["java/lang/RuntimeException", "java/lang/Exception"], Bundle.fit n = true) (hk : (Cond.classLink own ik cls).before args s = true) (hini : (Cond.initialized cls).before args s = true) (htx : (own, is, text) ∈ qTx) (h1 : ∀ w ∈ (vx_atS own ic cls ["java/lang/RuntimeException", "java/lang/Exception"]).filter goodWord, w.before args s = true) (h2 : ∀ w ∈ (vx_atS own ic cls ["java/lang/RuntimeException", "java/lang/Exception"]).filter (fun w => !goodWord w), w ∈ qNl) (h3 : ∀ w ∈ Cond.classLink own ik cls :: Cond.initialized cls :: vx_atS own ic cls ["java/lang/RuntimeException", "java/lang/Exception"], vx_ot w = true)
    (d0 : decode cc pc = .ok (.new ik, 3)) (d3 : decode cc (pc + 3) = .ok (.dup, 1)) (d4 : decode cc (pc + 4) = .ok (.ldc is, 2)) (d6 : decode cc (pc + 6) = .ok (.invokespecial ic, 3)) (d9 : decode cc (pc + 9) = .ok (.athrow, 1)) (hR : 5 < R.frames ∧ (rest.map fun v => v.category).sum + 82 ≤ R.locals ∧ cells + 1 ≤ R.cells ∧ slots + 6 ≤ R.slots) (hc : cells + 1 ≤ mc) (hs : slots + 6 ≤ ms) : W p l e R s m args below meth c H locs cells slots (vx_MQ below Qc (cXC D cy ad cd g s.heap.size) args s mc ms (cA ad s.heap.size)) (F0 m pc ls rest) := by
  subst hF
  obtain ⟨sa, hsa⟩ := hB.2.1.2 _ htx
  have hw : ∀ q : Nat, q < s.heap.size → cA ad s.heap.size q → cP ad q := fun q h z => z.elim id (fun z => absurd h (Nat.not_lt.mpr z))
  refine vx_throwS (A := cA ad s.heap.size) (names := ["java/lang/RuntimeException", "java/lang/Exception"]) (cls := cls) hx hb hl hown hf.1 hf.2 hk hini hsa (vx_hat h1 h2 (fun w hw => qB_use hB.2.1 hw (qNl_tab w hw))) h3 (vx_Zq_wide hB.2.2.1 hw) (vx_Zq_wide hB.2.2.2 hw) hS (hsz.trans hml.symm) d0 d3 d4 d6 d9 (fun x h => (hT x h).elim) hR.1 hR.2.1 hR.2.2.1 hR.2.2.2 hlocks ?_ hS.2.2 hc hs
  intro t ha hz hq
  refine ⟨(), trivial, ⟨⟨he.symm, hcd⟩, hC.kept (fun κ i hv => hq _ (hC.lt hv))⟩, Nat.le_trans hS.1 hz, fun q h1 h2 => ?_⟩
  rw [hq q (Nat.lt_of_lt_of_le h1 hS.1)]
  exact hS.2.1 q h1 h2
theorem q_throwW {Qc : Array Value → State → Outcome → State → Prop} {text cls : String} {ik is ic cd cdv : Nat} (hl : l.stackTraces = false) (hx : p.tables.exec = Jvm.exec) (hb : c.code = cc) (hown : s.vm.findClass own = some m.cls) (hml : c.maxLocals = nL) (hT : ∀ x ∈ c.exceptionTable.toList, False) (hlocks : meth.locks = false) (hB : CB D cy ad s) (hC : CW D cy ad g H) (hS : va_S (cA ad s.heap.size) s.heap H locs) (hsz : ls.size = nL) (hF : cd = cdv) (he : eN cdv = cls) (hcd : ¬ cdv = 0) (hf : Bundle.fit cls = true ∧ ∀ n ∈ ["java/lang/RuntimeException", "java/lang/Exception"], Bundle.fit n = true) (hk : (Cond.classLink own ik cls).before args s = true) (hini : (Cond.initialized cls).before args s = true) (htx : (own, is, text) ∈ qTx) (h1 : ∀ w ∈ (vx_atS own ic cls ["java/lang/RuntimeException", "java/lang/Exception"]).filter goodWord, w.before args s = true) (h2 : ∀ w ∈ (vx_atS own ic cls ["java/lang/RuntimeException", "java/lang/Exception"]).filter (fun w => !goodWord w), w ∈ qNl) (h3 : ∀ w ∈ Cond.classLink own ik cls :: Cond.initialized cls :: vx_atS own ic cls ["java/lang/RuntimeException", "java/lang/Exception"], vx_ot w = true)
    (d0 : decode cc pc = .ok (.new ik, 3)) (d3 : decode cc (pc + 3) = .ok (.dup, 1)) (d4 : decode cc (pc + 4) = .ok (.ldc_w is, 3)) (d6 : decode cc (pc + 7) = .ok (.invokespecial ic, 3)) (d9 : decode cc (pc + 10) = .ok (.athrow, 1)) (hR : 5 < R.frames ∧ (rest.map fun v => v.category).sum + 82 ≤ R.locals ∧ cells + 1 ≤ R.cells ∧ slots + 6 ≤ R.slots) (hc : cells + 1 ≤ mc) (hs : slots + 6 ≤ ms) : W p l e R s m args below meth c H locs cells slots (vx_MQ below Qc (cXC D cy ad cd g s.heap.size) args s mc ms (cA ad s.heap.size)) (F0 m pc ls rest) := by
  subst hF
  obtain ⟨sa, hsa⟩ := hB.2.1.2 _ htx
  have hw : ∀ q : Nat, q < s.heap.size → cA ad s.heap.size q → cP ad q := fun q h z => z.elim id (fun z => absurd h (Nat.not_lt.mpr z))
  refine vx_throwSW (A := cA ad s.heap.size) (names := ["java/lang/RuntimeException", "java/lang/Exception"]) (cls := cls) hx hb hl hown hf.1 hf.2 hk hini hsa (vx_hat h1 h2 (fun w hw => qB_use hB.2.1 hw (qNl_tab w hw))) h3 (vx_Zq_wide hB.2.2.1 hw) (vx_Zq_wide hB.2.2.2 hw) hS (hsz.trans hml.symm) d0 d3 d4 d6 d9 (fun x h => (hT x h).elim) hR.1 hR.2.1 hR.2.2.1 hR.2.2.2 hlocks ?_ hS.2.2 hc hs
  intro t ha hz hq
  refine ⟨(), trivial, ⟨⟨he.symm, hcd⟩, hC.kept (fun κ i hv => hq _ (hC.lt hv))⟩, Nat.le_trans hS.1 hz, fun q h1 h2 => ?_⟩
  rw [hq q (Nat.lt_of_lt_of_le h1 hS.1)]
  exact hS.2.1 q h1 h2
theorem q_retv (hx : p.tables.exec = Jvm.exec) (hb : c.code = cc) (hr : meth.sig.returnType = none) (hB : CB D cy ad s) (hC : CW D cy ad g H) (hS : va_S (cA ad s.heap.size) s.heap H locs) (hg : g2 = g) (hlocks : meth.locks = false) (hdg : decode cc pc = .ok (.return_, 1)) : W p l e R s m args below meth c H locs cells slots (MQ below (cQv D cy ad g2 s.heap.size) args s cells slots (cA ad s.heap.size)) (F0 m pc ls []) := by
  subst hg
  exact W.vret hx hb hr (fun t ht hW => ⟨⟨(), rfl, trivial, (CW.at ht hC)⟩, hS.F ht⟩) hS.2.2 hdg
theorem q_reti (hx : p.tables.exec = Jvm.exec) (hb : c.code = cc) (hr : meth.sig.returnType = some .int) (hB : CB D cy ad s) (hC : CW D cy ad g H) (hS : va_S (cA ad s.heap.size) s.heap H locs) (hg : g2 = g) {v v2 : Int32} (hv : v2 = v) (hlocks : meth.locks = false) (hdg : decode cc pc = .ok (.ireturn, 1)) : W p l e R s m args below meth c H locs cells slots (MQ below (cQi D cy ad v2 g2 s.heap.size) args s cells slots (cA ad s.heap.size)) (F0 m pc ls [.int v]) := by
  subst hg; subst hv
  exact W.iret hx hb hr (fun t ht hW => ⟨⟨v2, (), rfl, rfl, (CW.at ht hC)⟩, hS.F ht⟩) hS.2.2 hdg
theorem q_retz (hx : p.tables.exec = Jvm.exec) (hb : c.code = cc) (hr : meth.sig.returnType = some .boolean) (hB : CB D cy ad s) (hC : CW D cy ad g H) (hS : va_S (cA ad s.heap.size) s.heap H locs) (hg : g2 = g) {v v2 : Int32} (hv : v2 = v) (hn : narrow .boolean (.int v) = .int v) (hlocks : meth.locks = false) (hdg : decode cc pc = .ok (.ireturn, 1)) : W p l e R s m args below meth c H locs cells slots (MQ below (cQi D cy ad v2 g2 s.heap.size) args s cells slots (cA ad s.heap.size)) (F0 m pc ls [.int v]) := by
  subst hg; subst hv
  exact W.zret hx hb hr hn (fun t ht hW => ⟨⟨v2, (), rfl, rfl, (CW.at ht hC)⟩, hS.F ht⟩) hS.2.2 hdg
theorem q_retl (hx : p.tables.exec = Jvm.exec) (hb : c.code = cc) (hr : meth.sig.returnType = some .long) (hB : CB D cy ad s) (hC : CW D cy ad g H) (hS : va_S (cA ad s.heap.size) s.heap H locs) (hg : g2 = g) {v v2 : Int64} (hv : v2 = v) (hlocks : meth.locks = false) (hdg : decode cc pc = .ok (.lreturn, 1)) : W p l e R s m args below meth c H locs cells slots (MQ below (cQl D cy ad v2 g2 s.heap.size) args s cells slots (cA ad s.heap.size)) (F0 m pc ls [.long v]) := by
  subst hg; subst hv
  exact W.lret hx hb hr (fun t ht hW => ⟨⟨v2, (), rfl, rfl, (CW.at ht hC)⟩, hS.F ht⟩) hS.2.2 hdg
theorem q_reta (hx : p.tables.exec = Jvm.exec) (hb : c.code = cc) (hB : CB D cy ad s) (hC : CW D cy ad g H) (hS : va_S (cA ad s.heap.size) s.heap H locs) (hg : g2 = g) {v v2 : Nat} (hv : v2 = v) {nm : String} (hr : meth.sig.returnType = some (.object nm)) (hlocks : meth.locks = false) (hdg : decode cc pc = .ok (.areturn, 1)) : W p l e R s m args below meth c H locs cells slots (MQ below (cQr D cy ad v2 g2 s.heap.size) args s cells slots (cA ad s.heap.size)) (F0 m pc ls [.ref v]) := by
  subst hg; subst hv
  exact W.aret hx hb hr (Or.inl ⟨_, rfl⟩) (Or.inr ⟨_, rfl⟩) (fun t ht hW => ⟨⟨(), v2, rfl, trivial, rfl, (CW.at ht hC)⟩, hS.F ht⟩) hS.2.2 hdg
theorem x_retv (hx : p.tables.exec = Jvm.exec) (hb : c.code = cc) (hr : meth.sig.returnType = none) {XC : String → State → State → Prop} (hC : CW D cy ad g H) (hS : va_S (cA ad s.heap.size) s.heap H locs) {cd : Nat} (hcd : cd = 0) (hg : g2 = g) (hlocks : meth.locks = false) (hdg : decode cc pc = .ok (.return_, 1)) (hc : cells ≤ mc) (hs : slots ≤ ms) : W p l e R s m args below meth c H locs cells slots (vx_MQ below (cXv D cy ad cd g2 s.heap.size) XC args s mc ms (cA ad s.heap.size)) (F0 m pc ls []) := by
  subst hg
  refine vx_ret (W.widen (k := mc) (n := ms) hc hs ?_)
  exact W.vret hx hb hr (fun t ht hW => ⟨⟨(), rfl, hcd, (CW.at ht hC)⟩, hS.F ht⟩) hS.2.2 hdg
theorem x_reti (hx : p.tables.exec = Jvm.exec) (hb : c.code = cc) (hr : meth.sig.returnType = some .int) {XC : String → State → State → Prop} (hC : CW D cy ad g H) (hS : va_S (cA ad s.heap.size) s.heap H locs) {cd : Nat} (hcd : cd = 0) (hg : g2 = g) {v v2 : Int32} (hv : v2 = v) (hlocks : meth.locks = false) (hdg : decode cc pc = .ok (.ireturn, 1)) (hc : cells ≤ mc) (hs : slots ≤ ms) : W p l e R s m args below meth c H locs cells slots (vx_MQ below (cXi D cy ad cd v2 g2 s.heap.size) XC args s mc ms (cA ad s.heap.size)) (F0 m pc ls [.int v]) := by
  subst hg; subst hv
  refine vx_ret (W.widen (k := mc) (n := ms) hc hs ?_)
  exact W.iret hx hb hr (fun t ht hW => ⟨⟨v2, (), rfl, ⟨hcd, rfl⟩, (CW.at ht hC)⟩, hS.F ht⟩) hS.2.2 hdg
theorem x_retz (hx : p.tables.exec = Jvm.exec) (hb : c.code = cc) (hr : meth.sig.returnType = some .boolean) {XC : String → State → State → Prop} (hC : CW D cy ad g H) (hS : va_S (cA ad s.heap.size) s.heap H locs) {cd : Nat} (hcd : cd = 0) (hg : g2 = g) {v v2 : Int32} (hv : v2 = v) (hn : narrow .boolean (.int v) = .int v) (hlocks : meth.locks = false) (hdg : decode cc pc = .ok (.ireturn, 1)) (hc : cells ≤ mc) (hs : slots ≤ ms) : W p l e R s m args below meth c H locs cells slots (vx_MQ below (cXi D cy ad cd v2 g2 s.heap.size) XC args s mc ms (cA ad s.heap.size)) (F0 m pc ls [.int v]) := by
  subst hg; subst hv
  refine vx_ret (W.widen (k := mc) (n := ms) hc hs ?_)
  exact W.zret hx hb hr hn (fun t ht hW => ⟨⟨v2, (), rfl, ⟨hcd, rfl⟩, (CW.at ht hC)⟩, hS.F ht⟩) hS.2.2 hdg
theorem x_retl (hx : p.tables.exec = Jvm.exec) (hb : c.code = cc) (hr : meth.sig.returnType = some .long) {XC : String → State → State → Prop} (hC : CW D cy ad g H) (hS : va_S (cA ad s.heap.size) s.heap H locs) {cd : Nat} (hcd : cd = 0) (hg : g2 = g) {v v2 : Int64} (hv : v2 = v) (hlocks : meth.locks = false) (hdg : decode cc pc = .ok (.lreturn, 1)) (hc : cells ≤ mc) (hs : slots ≤ ms) : W p l e R s m args below meth c H locs cells slots (vx_MQ below (cXl D cy ad cd v2 g2 s.heap.size) XC args s mc ms (cA ad s.heap.size)) (F0 m pc ls [.long v]) := by
  subst hg; subst hv
  refine vx_ret (W.widen (k := mc) (n := ms) hc hs ?_)
  exact W.lret hx hb hr (fun t ht hW => ⟨⟨v2, (), rfl, ⟨hcd, rfl⟩, (CW.at ht hC)⟩, hS.F ht⟩) hS.2.2 hdg
theorem x_reta (hx : p.tables.exec = Jvm.exec) (hb : c.code = cc) {XC : String → State → State → Prop} (hC : CW D cy ad g H) (hS : va_S (cA ad s.heap.size) s.heap H locs) {cd : Nat} (hcd : cd = 0) (hg : g2 = g) {v v2 : Nat} (hv : v2 = v) {nm : String} (hr : meth.sig.returnType = some (.object nm)) (hlocks : meth.locks = false) (hdg : decode cc pc = .ok (.areturn, 1)) (hc : cells ≤ mc) (hs : slots ≤ ms) : W p l e R s m args below meth c H locs cells slots (vx_MQ below (cXr D cy ad cd v2 g2 s.heap.size) XC args s mc ms (cA ad s.heap.size)) (F0 m pc ls [.ref v]) := by
  subst hg; subst hv
  refine vx_ret (W.widen (k := mc) (n := ms) hc hs ?_)
  exact W.aret hx hb hr (Or.inl ⟨_, rfl⟩) (Or.inr ⟨_, rfl⟩) (fun t ht hW => ⟨⟨(), v2, rfl, hcd, rfl, (CW.at ht hC)⟩, hS.F ht⟩) hS.2.2 hdg
theorem q_callVv  {C : String} {ci κ i : Nat} {q9 : vw_C} (hv : cV κ i) (hc : vwCl[ci]? = some q9) (hfs : ∃ fs, cS cy ad g κ i = .inr (ci, fs)) (hCq : q9.1 = C) {As : List Value} (S : CallFix p m c cc nL s args Ts own) (hM : Met l y ws rm (va_Pc (.ref (ad κ i) :: As) (cPre D cy ad g H.size)) (cQv D cy ad g2 H.size) mc ms (cA ad H.size)) (cw : CallW R s args own C index y bytes maxL ret ws rm mc ms n) (hB : CB D cy ad s) (hC : CW D cy ad g H) (hS : va_S (cA ad s.heap.size) s.heap H locs) (hn : As.length = n) (hsize : ls.size = nL) (hW : (rest.map fun v => v.category).sum ≤ 8) (hdg : decode cc pc = .ok (.invokevirtual index, 3)) (hf : cells + mc ≤ R.cells ∧ slots + ms ≤ R.slots)
    (kk : ∀ (H1 : Heap) (locs1 : List Loc), CW D cy ad g2 H1 → va_S (cA ad s.heap.size) s.heap H1 locs1 → W p l e R s m args below meth c H1 locs1 (cells + mc) (slots + ms) Q (F0 m (pc + 3) ls rest)) : W p l e R s m args below meth c H locs cells slots Q (F0 m pc ls (As.reverse ++ .ref (ad κ i) :: rest)) := by
  have hFc : ∀ q : Nat, cA ad H.size q → cA ad s.heap.size q := fun q h => cA_in hS.1 h
  obtain ⟨fs, hfs⟩ := hfs
  have hat := hC κ i hv
  rw [hfs] at hat
  have hrec := va_recv hB.1 (q_one hat) hc (q0 := 0) rfl
  rw [hCq] at hrec
  refine va_callv (va_runV (As := As) (rest := rest) S hM cw ⟨cPre_blind, hrec, fun U hU hW2 => ⟨rfl, by rw [hU], CU2.mk hB hC hS hU hW2⟩⟩ rfl hn hsize rfl (lv_room hW) hdg hf) hS (fun q _ h => hFc q h) hFc (fun u t H1 locs1 ht hvm hw hBu hz1 hk1 hS1 => ?_)
  exact kk H1 locs1 (by rw [← ht]; exact hBu) hS1
theorem q_callVi {v : Int32} {C : String} {ci κ i : Nat} {q9 : vw_C} (hv : cV κ i) (hc : vwCl[ci]? = some q9) (hfs : ∃ fs, cS cy ad g κ i = .inr (ci, fs)) (hCq : q9.1 = C) {As : List Value} (S : CallFix p m c cc nL s args Ts own) (hM : Met l y ws rm (va_Pc (.ref (ad κ i) :: As) (cPre D cy ad g H.size)) (cQi D cy ad v g2 H.size) mc ms (cA ad H.size)) (cw : CallW R s args own C index y bytes maxL ret ws rm mc ms n) (hB : CB D cy ad s) (hC : CW D cy ad g H) (hS : va_S (cA ad s.heap.size) s.heap H locs) (hn : As.length = n) (hsize : ls.size = nL) (hW : (rest.map fun v => v.category).sum ≤ 8) (hdg : decode cc pc = .ok (.invokevirtual index, 3)) (hf : cells + mc ≤ R.cells ∧ slots + ms ≤ R.slots)
    (kk : ∀ (H1 : Heap) (locs1 : List Loc), CW D cy ad g2 H1 → va_S (cA ad s.heap.size) s.heap H1 locs1 → W p l e R s m args below meth c H1 locs1 (cells + mc) (slots + ms) Q (F0 m (pc + 3) ls (.int v :: rest))) : W p l e R s m args below meth c H locs cells slots Q (F0 m pc ls (As.reverse ++ .ref (ad κ i) :: rest)) := by
  have hFc : ∀ q : Nat, cA ad H.size q → cA ad s.heap.size q := fun q h => cA_in hS.1 h
  obtain ⟨fs, hfs⟩ := hfs
  have hat := hC κ i hv
  rw [hfs] at hat
  have hrec := va_recv hB.1 (q_one hat) hc (q0 := 0) rfl
  rw [hCq] at hrec
  refine va_calli (va_runV (As := As) (rest := rest) S hM cw ⟨cPre_blind, hrec, fun U hU hW2 => ⟨rfl, by rw [hU], CU2.mk hB hC hS hU hW2⟩⟩ rfl hn hsize rfl (lv_room hW) hdg hf) hS (fun q _ h => hFc q h) hFc (fun r u t H1 locs1 ht hvm hw hBu hz1 hk1 hS1 => ?_)
  have hw : r = v := hw
  subst hw
  exact kk H1 locs1 (by rw [← ht]; exact hBu) hS1
theorem q_callVl {v : Int64} {C : String} {ci κ i : Nat} {q9 : vw_C} (hv : cV κ i) (hc : vwCl[ci]? = some q9) (hfs : ∃ fs, cS cy ad g κ i = .inr (ci, fs)) (hCq : q9.1 = C) {As : List Value} (S : CallFix p m c cc nL s args Ts own) (hM : Met l y ws rm (va_Pc (.ref (ad κ i) :: As) (cPre D cy ad g H.size)) (cQl D cy ad v g2 H.size) mc ms (cA ad H.size)) (cw : CallW R s args own C index y bytes maxL ret ws rm mc ms n) (hB : CB D cy ad s) (hC : CW D cy ad g H) (hS : va_S (cA ad s.heap.size) s.heap H locs) (hn : As.length = n) (hsize : ls.size = nL) (hW : (rest.map fun v => v.category).sum ≤ 8) (hdg : decode cc pc = .ok (.invokevirtual index, 3)) (hf : cells + mc ≤ R.cells ∧ slots + ms ≤ R.slots)
    (kk : ∀ (H1 : Heap) (locs1 : List Loc), CW D cy ad g2 H1 → va_S (cA ad s.heap.size) s.heap H1 locs1 → W p l e R s m args below meth c H1 locs1 (cells + mc) (slots + ms) Q (F0 m (pc + 3) ls (.long v :: rest))) : W p l e R s m args below meth c H locs cells slots Q (F0 m pc ls (As.reverse ++ .ref (ad κ i) :: rest)) := by
  have hFc : ∀ q : Nat, cA ad H.size q → cA ad s.heap.size q := fun q h => cA_in hS.1 h
  obtain ⟨fs, hfs⟩ := hfs
  have hat := hC κ i hv
  rw [hfs] at hat
  have hrec := va_recv hB.1 (q_one hat) hc (q0 := 0) rfl
  rw [hCq] at hrec
  refine va_calll (va_runV (As := As) (rest := rest) S hM cw ⟨cPre_blind, hrec, fun U hU hW2 => ⟨rfl, by rw [hU], CU2.mk hB hC hS hU hW2⟩⟩ rfl hn hsize rfl (lv_room hW) hdg hf) hS (fun q _ h => hFc q h) hFc (fun r u t H1 locs1 ht hvm hw hBu hz1 hk1 hS1 => ?_)
  have hw : r = v := hw
  subst hw
  exact kk H1 locs1 (by rw [← ht]; exact hBu) hS1
theorem q_callVr {v : Nat} {C : String} {ci κ i : Nat} {q9 : vw_C} (hv : cV κ i) (hc : vwCl[ci]? = some q9) (hfs : ∃ fs, cS cy ad g κ i = .inr (ci, fs)) (hCq : q9.1 = C) {As : List Value} (S : CallFix p m c cc nL s args Ts own) (hM : Met l y ws rm (va_Pc (.ref (ad κ i) :: As) (cPre D cy ad g H.size)) (cQr D cy ad v g2 H.size) mc ms (cA ad H.size)) (cw : CallW R s args own C index y bytes maxL ret ws rm mc ms n) (hB : CB D cy ad s) (hC : CW D cy ad g H) (hS : va_S (cA ad s.heap.size) s.heap H locs) (hn : As.length = n) (hsize : ls.size = nL) (hW : (rest.map fun v => v.category).sum ≤ 8) (hdg : decode cc pc = .ok (.invokevirtual index, 3)) (hf : cells + mc ≤ R.cells ∧ slots + ms ≤ R.slots)
    (kk : ∀ (H1 : Heap) (locs1 : List Loc), CW D cy ad g2 H1 → va_S (cA ad s.heap.size) s.heap H1 locs1 → W p l e R s m args below meth c H1 locs1 (cells + mc) (slots + ms) Q (F0 m (pc + 3) ls (.ref v :: rest))) : W p l e R s m args below meth c H locs cells slots Q (F0 m pc ls (As.reverse ++ .ref (ad κ i) :: rest)) := by
  have hFc : ∀ q : Nat, cA ad H.size q → cA ad s.heap.size q := fun q h => cA_in hS.1 h
  obtain ⟨fs, hfs⟩ := hfs
  have hat := hC κ i hv
  rw [hfs] at hat
  have hrec := va_recv hB.1 (q_one hat) hc (q0 := 0) rfl
  rw [hCq] at hrec
  refine va_callr (va_runV (As := As) (rest := rest) S hM cw ⟨cPre_blind, hrec, fun U hU hW2 => ⟨rfl, by rw [hU], CU2.mk hB hC hS hU hW2⟩⟩ rfl hn hsize rfl (lv_room hW) hdg hf) hS (fun q _ h => hFc q h) hFc (fun u r t H1 locs1 ht hvm hw hBu hz1 hk1 hS1 => ?_)
  obtain ⟨e9, hBu⟩ := hBu
  subst e9
  exact kk H1 locs1 (by rw [← ht]; exact hBu) hS1
theorem q_callSv   {As : List Value} (S : CallFix p m c cc nL s args Ts own) (hM : Met l y ws rm (va_Pc (As) (cPre D cy ad g H.size)) (cQv D cy ad g2 H.size) mc ms (cA ad H.size)) (cw : CallB R s args own index y bytes maxL ret ws rm mc ms n ∧ (Cond.static y).before args s = true) (hB : CB D cy ad s) (hC : CW D cy ad g H) (hS : va_S (cA ad s.heap.size) s.heap H locs) (hn : As.length = n) (hsize : ls.size = nL) (hW : (rest.map fun v => v.category).sum ≤ 8) (hdg : decode cc pc = .ok (.invokestatic index, 3)) (hf : cells + mc ≤ R.cells ∧ slots + ms ≤ R.slots)
    (kk : ∀ (H1 : Heap) (locs1 : List Loc), CW D cy ad g2 H1 → va_S (cA ad s.heap.size) s.heap H1 locs1 → W p l e R s m args below meth c H1 locs1 (cells + mc) (slots + ms) Q (F0 m (pc + 3) ls rest)) : W p l e R s m args below meth c H locs cells slots Q (F0 m pc ls (As.reverse ++ rest)) := by
  have hFc : ∀ q : Nat, cA ad H.size q → cA ad s.heap.size q := fun q h => cA_in hS.1 h
  refine va_callv (va_runS (As := As) (rest := rest) S hM cw ⟨cPre_blind, fun U hU hW2 => ⟨rfl, by rw [hU], CU2.mk hB hC hS hU hW2⟩⟩ rfl hn hsize rfl (lv_room hW) hdg hf) hS (fun q _ h => hFc q h) hFc (fun u t H1 locs1 ht hvm hw hBu hz1 hk1 hS1 => ?_)
  exact kk H1 locs1 (by rw [← ht]; exact hBu) hS1
theorem q_callSi {v : Int32}  {As : List Value} (S : CallFix p m c cc nL s args Ts own) (hM : Met l y ws rm (va_Pc (As) (cPre D cy ad g H.size)) (cQi D cy ad v g2 H.size) mc ms (cA ad H.size)) (cw : CallB R s args own index y bytes maxL ret ws rm mc ms n ∧ (Cond.static y).before args s = true) (hB : CB D cy ad s) (hC : CW D cy ad g H) (hS : va_S (cA ad s.heap.size) s.heap H locs) (hn : As.length = n) (hsize : ls.size = nL) (hW : (rest.map fun v => v.category).sum ≤ 8) (hdg : decode cc pc = .ok (.invokestatic index, 3)) (hf : cells + mc ≤ R.cells ∧ slots + ms ≤ R.slots)
    (kk : ∀ (H1 : Heap) (locs1 : List Loc), CW D cy ad g2 H1 → va_S (cA ad s.heap.size) s.heap H1 locs1 → W p l e R s m args below meth c H1 locs1 (cells + mc) (slots + ms) Q (F0 m (pc + 3) ls (.int v :: rest))) : W p l e R s m args below meth c H locs cells slots Q (F0 m pc ls (As.reverse ++ rest)) := by
  have hFc : ∀ q : Nat, cA ad H.size q → cA ad s.heap.size q := fun q h => cA_in hS.1 h
  refine va_calli (va_runS (As := As) (rest := rest) S hM cw ⟨cPre_blind, fun U hU hW2 => ⟨rfl, by rw [hU], CU2.mk hB hC hS hU hW2⟩⟩ rfl hn hsize rfl (lv_room hW) hdg hf) hS (fun q _ h => hFc q h) hFc (fun r u t H1 locs1 ht hvm hw hBu hz1 hk1 hS1 => ?_)
  have hw : r = v := hw
  subst hw
  exact kk H1 locs1 (by rw [← ht]; exact hBu) hS1
theorem q_callSl {v : Int64}  {As : List Value} (S : CallFix p m c cc nL s args Ts own) (hM : Met l y ws rm (va_Pc (As) (cPre D cy ad g H.size)) (cQl D cy ad v g2 H.size) mc ms (cA ad H.size)) (cw : CallB R s args own index y bytes maxL ret ws rm mc ms n ∧ (Cond.static y).before args s = true) (hB : CB D cy ad s) (hC : CW D cy ad g H) (hS : va_S (cA ad s.heap.size) s.heap H locs) (hn : As.length = n) (hsize : ls.size = nL) (hW : (rest.map fun v => v.category).sum ≤ 8) (hdg : decode cc pc = .ok (.invokestatic index, 3)) (hf : cells + mc ≤ R.cells ∧ slots + ms ≤ R.slots)
    (kk : ∀ (H1 : Heap) (locs1 : List Loc), CW D cy ad g2 H1 → va_S (cA ad s.heap.size) s.heap H1 locs1 → W p l e R s m args below meth c H1 locs1 (cells + mc) (slots + ms) Q (F0 m (pc + 3) ls (.long v :: rest))) : W p l e R s m args below meth c H locs cells slots Q (F0 m pc ls (As.reverse ++ rest)) := by
  have hFc : ∀ q : Nat, cA ad H.size q → cA ad s.heap.size q := fun q h => cA_in hS.1 h
  refine va_calll (va_runS (As := As) (rest := rest) S hM cw ⟨cPre_blind, fun U hU hW2 => ⟨rfl, by rw [hU], CU2.mk hB hC hS hU hW2⟩⟩ rfl hn hsize rfl (lv_room hW) hdg hf) hS (fun q _ h => hFc q h) hFc (fun r u t H1 locs1 ht hvm hw hBu hz1 hk1 hS1 => ?_)
  have hw : r = v := hw
  subst hw
  exact kk H1 locs1 (by rw [← ht]; exact hBu) hS1
theorem q_callSr {v : Nat}  {As : List Value} (S : CallFix p m c cc nL s args Ts own) (hM : Met l y ws rm (va_Pc (As) (cPre D cy ad g H.size)) (cQr D cy ad v g2 H.size) mc ms (cA ad H.size)) (cw : CallB R s args own index y bytes maxL ret ws rm mc ms n ∧ (Cond.static y).before args s = true) (hB : CB D cy ad s) (hC : CW D cy ad g H) (hS : va_S (cA ad s.heap.size) s.heap H locs) (hn : As.length = n) (hsize : ls.size = nL) (hW : (rest.map fun v => v.category).sum ≤ 8) (hdg : decode cc pc = .ok (.invokestatic index, 3)) (hf : cells + mc ≤ R.cells ∧ slots + ms ≤ R.slots)
    (kk : ∀ (H1 : Heap) (locs1 : List Loc), CW D cy ad g2 H1 → va_S (cA ad s.heap.size) s.heap H1 locs1 → W p l e R s m args below meth c H1 locs1 (cells + mc) (slots + ms) Q (F0 m (pc + 3) ls (.ref v :: rest))) : W p l e R s m args below meth c H locs cells slots Q (F0 m pc ls (As.reverse ++ rest)) := by
  have hFc : ∀ q : Nat, cA ad H.size q → cA ad s.heap.size q := fun q h => cA_in hS.1 h
  refine va_callr (va_runS (As := As) (rest := rest) S hM cw ⟨cPre_blind, fun U hU hW2 => ⟨rfl, by rw [hU], CU2.mk hB hC hS hU hW2⟩⟩ rfl hn hsize rfl (lv_room hW) hdg hf) hS (fun q _ h => hFc q h) hFc (fun u r t H1 locs1 ht hvm hw hBu hz1 hk1 hS1 => ?_)
  obtain ⟨e9, hBu⟩ := hBu
  subst e9
  exact kk H1 locs1 (by rw [← ht]; exact hBu) hS1
theorem q_callNv  {host : String} {As : List Value} (S : CallFix p m c cc nL s args Ts own) (hM : Met l y ws rm (va_Pc (As) (cPre D cy ad g H.size)) (cQv D cy ad g2 H.size) mc ms (cA ad H.size)) (cw : va_CN R s args own index y host bytes maxL ret ws rm mc ms n ∧ (Cond.static y).before args s = true ∧ True) (hB : CB D cy ad s) (hC : CW D cy ad g H) (hS : va_S (cA ad s.heap.size) s.heap H locs) (hn : As.length = n) (hsize : ls.size = nL) (hW : (rest.map fun v => v.category).sum ≤ 8) (hdg : decode cc pc = .ok (.invokestatic index, 3)) (hf : cells + mc ≤ R.cells ∧ slots + ms ≤ R.slots)
    (kk : ∀ (H1 : Heap) (locs1 : List Loc), CW D cy ad g2 H1 → va_S (cA ad s.heap.size) s.heap H1 locs1 → W p l e R s m args below meth c H1 locs1 (cells + mc) (slots + ms) Q (F0 m (pc + 3) ls rest)) : W p l e R s m args below meth c H locs cells slots Q (F0 m pc ls (As.reverse ++ rest)) := by
  have hFc : ∀ q : Nat, cA ad H.size q → cA ad s.heap.size q := fun q h => cA_in hS.1 h
  refine va_callv (va_runSN (As := As) (rest := rest) S hM cw ⟨cPre_blind, fun U hU hW2 => ⟨rfl, by rw [hU], CU2.mk hB hC hS hU hW2⟩⟩ rfl hn hsize rfl (lv_room hW) hdg hf) hS (fun q _ h => hFc q h) hFc (fun u t H1 locs1 ht hvm hw hBu hz1 hk1 hS1 => ?_)
  exact kk H1 locs1 (by rw [← ht]; exact hBu) hS1
theorem q_callNi {v : Int32} {host : String} {As : List Value} (S : CallFix p m c cc nL s args Ts own) (hM : Met l y ws rm (va_Pc (As) (cPre D cy ad g H.size)) (cQi D cy ad v g2 H.size) mc ms (cA ad H.size)) (cw : va_CN R s args own index y host bytes maxL ret ws rm mc ms n ∧ (Cond.static y).before args s = true ∧ True) (hB : CB D cy ad s) (hC : CW D cy ad g H) (hS : va_S (cA ad s.heap.size) s.heap H locs) (hn : As.length = n) (hsize : ls.size = nL) (hW : (rest.map fun v => v.category).sum ≤ 8) (hdg : decode cc pc = .ok (.invokestatic index, 3)) (hf : cells + mc ≤ R.cells ∧ slots + ms ≤ R.slots)
    (kk : ∀ (H1 : Heap) (locs1 : List Loc), CW D cy ad g2 H1 → va_S (cA ad s.heap.size) s.heap H1 locs1 → W p l e R s m args below meth c H1 locs1 (cells + mc) (slots + ms) Q (F0 m (pc + 3) ls (.int v :: rest))) : W p l e R s m args below meth c H locs cells slots Q (F0 m pc ls (As.reverse ++ rest)) := by
  have hFc : ∀ q : Nat, cA ad H.size q → cA ad s.heap.size q := fun q h => cA_in hS.1 h
  refine va_calli (va_runSN (As := As) (rest := rest) S hM cw ⟨cPre_blind, fun U hU hW2 => ⟨rfl, by rw [hU], CU2.mk hB hC hS hU hW2⟩⟩ rfl hn hsize rfl (lv_room hW) hdg hf) hS (fun q _ h => hFc q h) hFc (fun r u t H1 locs1 ht hvm hw hBu hz1 hk1 hS1 => ?_)
  have hw : r = v := hw
  subst hw
  exact kk H1 locs1 (by rw [← ht]; exact hBu) hS1
theorem q_callNl {v : Int64} {host : String} {As : List Value} (S : CallFix p m c cc nL s args Ts own) (hM : Met l y ws rm (va_Pc (As) (cPre D cy ad g H.size)) (cQl D cy ad v g2 H.size) mc ms (cA ad H.size)) (cw : va_CN R s args own index y host bytes maxL ret ws rm mc ms n ∧ (Cond.static y).before args s = true ∧ True) (hB : CB D cy ad s) (hC : CW D cy ad g H) (hS : va_S (cA ad s.heap.size) s.heap H locs) (hn : As.length = n) (hsize : ls.size = nL) (hW : (rest.map fun v => v.category).sum ≤ 8) (hdg : decode cc pc = .ok (.invokestatic index, 3)) (hf : cells + mc ≤ R.cells ∧ slots + ms ≤ R.slots)
    (kk : ∀ (H1 : Heap) (locs1 : List Loc), CW D cy ad g2 H1 → va_S (cA ad s.heap.size) s.heap H1 locs1 → W p l e R s m args below meth c H1 locs1 (cells + mc) (slots + ms) Q (F0 m (pc + 3) ls (.long v :: rest))) : W p l e R s m args below meth c H locs cells slots Q (F0 m pc ls (As.reverse ++ rest)) := by
  have hFc : ∀ q : Nat, cA ad H.size q → cA ad s.heap.size q := fun q h => cA_in hS.1 h
  refine va_calll (va_runSN (As := As) (rest := rest) S hM cw ⟨cPre_blind, fun U hU hW2 => ⟨rfl, by rw [hU], CU2.mk hB hC hS hU hW2⟩⟩ rfl hn hsize rfl (lv_room hW) hdg hf) hS (fun q _ h => hFc q h) hFc (fun r u t H1 locs1 ht hvm hw hBu hz1 hk1 hS1 => ?_)
  have hw : r = v := hw
  subst hw
  exact kk H1 locs1 (by rw [← ht]; exact hBu) hS1
theorem q_callNr {v : Nat} {host : String} {As : List Value} (S : CallFix p m c cc nL s args Ts own) (hM : Met l y ws rm (va_Pc (As) (cPre D cy ad g H.size)) (cQr D cy ad v g2 H.size) mc ms (cA ad H.size)) (cw : va_CN R s args own index y host bytes maxL ret ws rm mc ms n ∧ (Cond.static y).before args s = true ∧ True) (hB : CB D cy ad s) (hC : CW D cy ad g H) (hS : va_S (cA ad s.heap.size) s.heap H locs) (hn : As.length = n) (hsize : ls.size = nL) (hW : (rest.map fun v => v.category).sum ≤ 8) (hdg : decode cc pc = .ok (.invokestatic index, 3)) (hf : cells + mc ≤ R.cells ∧ slots + ms ≤ R.slots)
    (kk : ∀ (H1 : Heap) (locs1 : List Loc), CW D cy ad g2 H1 → va_S (cA ad s.heap.size) s.heap H1 locs1 → W p l e R s m args below meth c H1 locs1 (cells + mc) (slots + ms) Q (F0 m (pc + 3) ls (.ref v :: rest))) : W p l e R s m args below meth c H locs cells slots Q (F0 m pc ls (As.reverse ++ rest)) := by
  have hFc : ∀ q : Nat, cA ad H.size q → cA ad s.heap.size q := fun q h => cA_in hS.1 h
  refine va_callr (va_runSN (As := As) (rest := rest) S hM cw ⟨cPre_blind, fun U hU hW2 => ⟨rfl, by rw [hU], CU2.mk hB hC hS hU hW2⟩⟩ rfl hn hsize rfl (lv_room hW) hdg hf) hS (fun q _ h => hFc q h) hFc (fun u r t H1 locs1 ht hvm hw hBu hz1 hk1 hS1 => ?_)
  obtain ⟨e9, hBu⟩ := hBu
  subst e9
  exact kk H1 locs1 (by rw [← ht]; exact hBu) hS1
theorem vy_callr {free : Addr → Prop} {A0 A1 : Nat → Prop} {H0 : Heap} {a : Array Value} {st0 : List Value} {S SX : Type} {post : S → Prop} {px : SX → Prop} {B : S → Nat → State → Prop} {BX : String → SX → State → Prop} {AX : Nat → Prop} (hr : vx_Run p l e R s m args below meth c H locs cells slots mc ms (F0 m pc ls st0) rest (va_Qr post B A1 a) (vx_X px BX AX) free) (hS : va_S A0 H0 H locs) (hA : ∀ q, q < H.size → A1 q → A0 q) (hf : ∀ q, free q → A0 q) (hAX : ∀ q, q < H.size → AX q → A0 q)
    (kx : ∀ (E : String) (ce : Cell) (q9 : Addr) (u : SX) (t : State) (H1 : Heap) (locs1 : List Loc), t.heap = H1 → s.vm.Alike t.vm → px u → BX E u t → H.size ≤ H1.size → (∀ q : Nat, q < H.size → ¬ AX q → H1[q]? = H[q]?) → va_S A0 H0 H1 locs1 → H1[q9]? = some ce → ce.vm = .none → s.vm.findClass E = some ce.cls → vx_W p l e R s m args below meth c H1 locs1 (cells + mc) (slots + ms) Q (F0 m pc ls rest) q9)
    (kk : ∀ (u : S) (ra : Nat) (t : State) (H1 : Heap) (locs1 : List Loc), t.heap = H1 → s.vm.Alike t.vm → post u → B u ra t → H.size ≤ H1.size → (∀ q : Nat, q < H.size → ¬ A1 q → H1[q]? = H[q]?) → va_S A0 H0 H1 locs1 → W p l e R s m args below meth c H1 locs1 (cells + mc) (slots + ms) Q (F0 m (pc + 3) ls (.ref ra :: rest))) : W p l e R s m args below meth c H locs cells slots Q (F0 m pc ls st0) := by
  intro T hT X
  rcases hr T hT X with ⟨v, st₀, t, T', L, h0, X', hL, e1, e2, ⟨⟨u, ra, hv, hp, hb⟩, hF⟩, st⟩ | ⟨q, st₀, t, T', L, E, ce, h0, X', hL, e1, e2, ⟨u, hp, hb, hF⟩, hce, hcv, hcl, st⟩
  · cases hv
    obtain ⟨k1, k2, k3⟩ := vx_keep h0 e1 hS hA hf hL hF
    obtain ⟨t2, a1, b1⟩ := kk u ra t T'.heap (locs ++ L) e1.symm (by rw [← e2]; exact X'.warmed.alike) hp hb k1 k2 k3 T' rfl X'
    exact ⟨t2, st t2 a1, b1⟩
  · obtain ⟨k1, k2, k3⟩ := vx_keep h0 e1 hS hAX hf hL hF
    obtain ⟨t2, a1, b1⟩ := kx E ce q u t T'.heap (locs ++ L) e1.symm (by rw [← e2]; exact X'.warmed.alike) hp hb k1 k2 k3 (by rw [e1]; exact hce) hcv hcl T' rfl X'
    exact ⟨t2, st.trans a1, b1⟩
theorem x_callVv  {C : String} {ci κ i : Nat} {q9 : vw_C} (hv : cV κ i) (hc : vwCl[ci]? = some q9) (hfs : ∃ fs, cS cy ad g κ i = .inr (ci, fs)) (hCq : q9.1 = C) {As : List Value} {cd cd2 MC MS : Nat} {Qc2 : Array Value → State → Outcome → State → Prop} {g0 : Gd} (S : CallFix p m c cc nL s args Ts own) (hM : vx_Met l y ws rm (va_Pc (.ref (ad κ i) :: As) (cPre D cy ad g H.size)) (cXv D cy ad cd g2 H.size) (cXC D cy ad cd g0 H.size) mc ms (cA ad H.size)) (cw : CallW R s args own C index y bytes maxL ret ws rm mc ms n) (hB : CB D cy ad s) (hC : CW D cy ad g H) (hS : va_S (cA ad s.heap.size) s.heap H locs) (hn : As.length = n) (hsize : ls.size = nL) (hW : (rest.map fun v => v.category).sum ≤ 8) (hdg : decode cc pc = .ok (.invokevirtual index, 3)) (hf : cells + mc ≤ R.cells ∧ slots + ms ≤ R.slots) (hf2 : cells + mc ≤ MC ∧ slots + ms ≤ MS) (hT : ∀ x ∈ c.exceptionTable.toList, False) (hlocks : meth.locks = false) (hcd : ¬ cd = 0 → cd2 = cd)
    (kk : cd = 0 → ∀ (H1 : Heap) (locs1 : List Loc), CW D cy ad g2 H1 → va_S (cA ad s.heap.size) s.heap H1 locs1 → W p l e R s m args below meth c H1 locs1 (cells + mc) (slots + ms) (vx_MQ below Qc2 (cXC D cy ad cd2 g0 s.heap.size) args s MC MS (cA ad s.heap.size)) (F0 m (pc + 3) ls rest)) : W p l e R s m args below meth c H locs cells slots (vx_MQ below Qc2 (cXC D cy ad cd2 g0 s.heap.size) args s MC MS (cA ad s.heap.size)) (F0 m pc ls (As.reverse ++ .ref (ad κ i) :: rest)) := by
  have hFc : ∀ q : Nat, cA ad H.size q → cA ad s.heap.size q := fun q h => cA_in hS.1 h
  obtain ⟨fs, hfs⟩ := hfs
  have hat := hC κ i hv
  rw [hfs] at hat
  have hrec := va_recv hB.1 (q_one hat) hc (q0 := 0) rfl
  rw [hCq] at hrec
  refine vx_callv (vx_runV (As := As) (rest := rest) S hM cw ⟨cPre_blind, hrec, fun U hU hW2 => ⟨rfl, by rw [hU], CU2.mk hB hC hS hU hW2⟩⟩ rfl hn hsize rfl (lv_room hW) hdg hf) hS (fun q _ h => hFc q h) hFc (fun q _ h => hFc q h) (fun E ce q9 u t H1 locs1 ht hvm hp hBX hz1 hk1 hS1 hce hcv hcl => ?_) (fun u t H1 locs1 ht hvm hw hBu hz1 hk1 hS1 => ?_)
  · obtain ⟨⟨hE, hne⟩, hCX⟩ := hBX
    refine vx_out (fun x h => (hT x h).elim) hlocks hce hcv hcl (fun t2 ht2 _ => ⟨(), trivial, ⟨⟨by rw [hcd hne]; exact hE, by rw [hcd hne]; exact hne⟩, by rw [ht2, ← ht]; exact hCX⟩, hS1.F ht2⟩) hS1.2.2 hf2.1 hf2.2
  · have hc0 := hw
    exact kk hc0 H1 locs1 (by rw [← ht]; exact hBu) hS1
theorem x_callVi {v : Int32} {C : String} {ci κ i : Nat} {q9 : vw_C} (hv : cV κ i) (hc : vwCl[ci]? = some q9) (hfs : ∃ fs, cS cy ad g κ i = .inr (ci, fs)) (hCq : q9.1 = C) {As : List Value} {cd cd2 MC MS : Nat} {Qc2 : Array Value → State → Outcome → State → Prop} {g0 : Gd} (S : CallFix p m c cc nL s args Ts own) (hM : vx_Met l y ws rm (va_Pc (.ref (ad κ i) :: As) (cPre D cy ad g H.size)) (cXi D cy ad cd v g2 H.size) (cXC D cy ad cd g0 H.size) mc ms (cA ad H.size)) (cw : CallW R s args own C index y bytes maxL ret ws rm mc ms n) (hB : CB D cy ad s) (hC : CW D cy ad g H) (hS : va_S (cA ad s.heap.size) s.heap H locs) (hn : As.length = n) (hsize : ls.size = nL) (hW : (rest.map fun v => v.category).sum ≤ 8) (hdg : decode cc pc = .ok (.invokevirtual index, 3)) (hf : cells + mc ≤ R.cells ∧ slots + ms ≤ R.slots) (hf2 : cells + mc ≤ MC ∧ slots + ms ≤ MS) (hT : ∀ x ∈ c.exceptionTable.toList, False) (hlocks : meth.locks = false) (hcd : ¬ cd = 0 → cd2 = cd)
    (kk : cd = 0 → ∀ (H1 : Heap) (locs1 : List Loc), CW D cy ad g2 H1 → va_S (cA ad s.heap.size) s.heap H1 locs1 → W p l e R s m args below meth c H1 locs1 (cells + mc) (slots + ms) (vx_MQ below Qc2 (cXC D cy ad cd2 g0 s.heap.size) args s MC MS (cA ad s.heap.size)) (F0 m (pc + 3) ls (.int v :: rest))) : W p l e R s m args below meth c H locs cells slots (vx_MQ below Qc2 (cXC D cy ad cd2 g0 s.heap.size) args s MC MS (cA ad s.heap.size)) (F0 m pc ls (As.reverse ++ .ref (ad κ i) :: rest)) := by
  have hFc : ∀ q : Nat, cA ad H.size q → cA ad s.heap.size q := fun q h => cA_in hS.1 h
  obtain ⟨fs, hfs⟩ := hfs
  have hat := hC κ i hv
  rw [hfs] at hat
  have hrec := va_recv hB.1 (q_one hat) hc (q0 := 0) rfl
  rw [hCq] at hrec
  refine vx_calli (vx_runV (As := As) (rest := rest) S hM cw ⟨cPre_blind, hrec, fun U hU hW2 => ⟨rfl, by rw [hU], CU2.mk hB hC hS hU hW2⟩⟩ rfl hn hsize rfl (lv_room hW) hdg hf) hS (fun q _ h => hFc q h) hFc (fun q _ h => hFc q h) (fun E ce q9 u t H1 locs1 ht hvm hp hBX hz1 hk1 hS1 hce hcv hcl => ?_) (fun r u t H1 locs1 ht hvm hw hBu hz1 hk1 hS1 => ?_)
  · obtain ⟨⟨hE, hne⟩, hCX⟩ := hBX
    refine vx_out (fun x h => (hT x h).elim) hlocks hce hcv hcl (fun t2 ht2 _ => ⟨(), trivial, ⟨⟨by rw [hcd hne]; exact hE, by rw [hcd hne]; exact hne⟩, by rw [ht2, ← ht]; exact hCX⟩, hS1.F ht2⟩) hS1.2.2 hf2.1 hf2.2
  · obtain ⟨hc0, hw⟩ := hw
    subst hw
    exact kk hc0 H1 locs1 (by rw [← ht]; exact hBu) hS1
theorem x_callVl {v : Int64} {C : String} {ci κ i : Nat} {q9 : vw_C} (hv : cV κ i) (hc : vwCl[ci]? = some q9) (hfs : ∃ fs, cS cy ad g κ i = .inr (ci, fs)) (hCq : q9.1 = C) {As : List Value} {cd cd2 MC MS : Nat} {Qc2 : Array Value → State → Outcome → State → Prop} {g0 : Gd} (S : CallFix p m c cc nL s args Ts own) (hM : vx_Met l y ws rm (va_Pc (.ref (ad κ i) :: As) (cPre D cy ad g H.size)) (cXl D cy ad cd v g2 H.size) (cXC D cy ad cd g0 H.size) mc ms (cA ad H.size)) (cw : CallW R s args own C index y bytes maxL ret ws rm mc ms n) (hB : CB D cy ad s) (hC : CW D cy ad g H) (hS : va_S (cA ad s.heap.size) s.heap H locs) (hn : As.length = n) (hsize : ls.size = nL) (hW : (rest.map fun v => v.category).sum ≤ 8) (hdg : decode cc pc = .ok (.invokevirtual index, 3)) (hf : cells + mc ≤ R.cells ∧ slots + ms ≤ R.slots) (hf2 : cells + mc ≤ MC ∧ slots + ms ≤ MS) (hT : ∀ x ∈ c.exceptionTable.toList, False) (hlocks : meth.locks = false) (hcd : ¬ cd = 0 → cd2 = cd)
    (kk : cd = 0 → ∀ (H1 : Heap) (locs1 : List Loc), CW D cy ad g2 H1 → va_S (cA ad s.heap.size) s.heap H1 locs1 → W p l e R s m args below meth c H1 locs1 (cells + mc) (slots + ms) (vx_MQ below Qc2 (cXC D cy ad cd2 g0 s.heap.size) args s MC MS (cA ad s.heap.size)) (F0 m (pc + 3) ls (.long v :: rest))) : W p l e R s m args below meth c H locs cells slots (vx_MQ below Qc2 (cXC D cy ad cd2 g0 s.heap.size) args s MC MS (cA ad s.heap.size)) (F0 m pc ls (As.reverse ++ .ref (ad κ i) :: rest)) := by
  have hFc : ∀ q : Nat, cA ad H.size q → cA ad s.heap.size q := fun q h => cA_in hS.1 h
  obtain ⟨fs, hfs⟩ := hfs
  have hat := hC κ i hv
  rw [hfs] at hat
  have hrec := va_recv hB.1 (q_one hat) hc (q0 := 0) rfl
  rw [hCq] at hrec
  refine vx_calll (vx_runV (As := As) (rest := rest) S hM cw ⟨cPre_blind, hrec, fun U hU hW2 => ⟨rfl, by rw [hU], CU2.mk hB hC hS hU hW2⟩⟩ rfl hn hsize rfl (lv_room hW) hdg hf) hS (fun q _ h => hFc q h) hFc (fun q _ h => hFc q h) (fun E ce q9 u t H1 locs1 ht hvm hp hBX hz1 hk1 hS1 hce hcv hcl => ?_) (fun r u t H1 locs1 ht hvm hw hBu hz1 hk1 hS1 => ?_)
  · obtain ⟨⟨hE, hne⟩, hCX⟩ := hBX
    refine vx_out (fun x h => (hT x h).elim) hlocks hce hcv hcl (fun t2 ht2 _ => ⟨(), trivial, ⟨⟨by rw [hcd hne]; exact hE, by rw [hcd hne]; exact hne⟩, by rw [ht2, ← ht]; exact hCX⟩, hS1.F ht2⟩) hS1.2.2 hf2.1 hf2.2
  · obtain ⟨hc0, hw⟩ := hw
    subst hw
    exact kk hc0 H1 locs1 (by rw [← ht]; exact hBu) hS1
theorem x_callVr {v : Nat} {C : String} {ci κ i : Nat} {q9 : vw_C} (hv : cV κ i) (hc : vwCl[ci]? = some q9) (hfs : ∃ fs, cS cy ad g κ i = .inr (ci, fs)) (hCq : q9.1 = C) {As : List Value} {cd cd2 MC MS : Nat} {Qc2 : Array Value → State → Outcome → State → Prop} {g0 : Gd} (S : CallFix p m c cc nL s args Ts own) (hM : vx_Met l y ws rm (va_Pc (.ref (ad κ i) :: As) (cPre D cy ad g H.size)) (cXr D cy ad cd v g2 H.size) (cXC D cy ad cd g0 H.size) mc ms (cA ad H.size)) (cw : CallW R s args own C index y bytes maxL ret ws rm mc ms n) (hB : CB D cy ad s) (hC : CW D cy ad g H) (hS : va_S (cA ad s.heap.size) s.heap H locs) (hn : As.length = n) (hsize : ls.size = nL) (hW : (rest.map fun v => v.category).sum ≤ 8) (hdg : decode cc pc = .ok (.invokevirtual index, 3)) (hf : cells + mc ≤ R.cells ∧ slots + ms ≤ R.slots) (hf2 : cells + mc ≤ MC ∧ slots + ms ≤ MS) (hT : ∀ x ∈ c.exceptionTable.toList, False) (hlocks : meth.locks = false) (hcd : ¬ cd = 0 → cd2 = cd)
    (kk : cd = 0 → ∀ (H1 : Heap) (locs1 : List Loc), CW D cy ad g2 H1 → va_S (cA ad s.heap.size) s.heap H1 locs1 → W p l e R s m args below meth c H1 locs1 (cells + mc) (slots + ms) (vx_MQ below Qc2 (cXC D cy ad cd2 g0 s.heap.size) args s MC MS (cA ad s.heap.size)) (F0 m (pc + 3) ls (.ref v :: rest))) : W p l e R s m args below meth c H locs cells slots (vx_MQ below Qc2 (cXC D cy ad cd2 g0 s.heap.size) args s MC MS (cA ad s.heap.size)) (F0 m pc ls (As.reverse ++ .ref (ad κ i) :: rest)) := by
  have hFc : ∀ q : Nat, cA ad H.size q → cA ad s.heap.size q := fun q h => cA_in hS.1 h
  obtain ⟨fs, hfs⟩ := hfs
  have hat := hC κ i hv
  rw [hfs] at hat
  have hrec := va_recv hB.1 (q_one hat) hc (q0 := 0) rfl
  rw [hCq] at hrec
  refine vy_callr (vx_runV (As := As) (rest := rest) S hM cw ⟨cPre_blind, hrec, fun U hU hW2 => ⟨rfl, by rw [hU], CU2.mk hB hC hS hU hW2⟩⟩ rfl hn hsize rfl (lv_room hW) hdg hf) hS (fun q _ h => hFc q h) hFc (fun q _ h => hFc q h) (fun E ce q9 u t H1 locs1 ht hvm hp hBX hz1 hk1 hS1 hce hcv hcl => ?_) (fun u r t H1 locs1 ht hvm hw hBu hz1 hk1 hS1 => ?_)
  · obtain ⟨⟨hE, hne⟩, hCX⟩ := hBX
    refine vx_out (fun x h => (hT x h).elim) hlocks hce hcv hcl (fun t2 ht2 _ => ⟨(), trivial, ⟨⟨by rw [hcd hne]; exact hE, by rw [hcd hne]; exact hne⟩, by rw [ht2, ← ht]; exact hCX⟩, hS1.F ht2⟩) hS1.2.2 hf2.1 hf2.2
  · obtain ⟨e9, hBu⟩ := hBu
    subst e9
    have hc0 := hw
    exact kk hc0 H1 locs1 (by rw [← ht]; exact hBu) hS1
theorem x_callSv   {As : List Value} {cd cd2 MC MS : Nat} {Qc2 : Array Value → State → Outcome → State → Prop} {g0 : Gd} (S : CallFix p m c cc nL s args Ts own) (hM : vx_Met l y ws rm (va_Pc (As) (cPre D cy ad g H.size)) (cXv D cy ad cd g2 H.size) (cXC D cy ad cd g0 H.size) mc ms (cA ad H.size)) (cw : CallB R s args own index y bytes maxL ret ws rm mc ms n ∧ (Cond.static y).before args s = true) (hB : CB D cy ad s) (hC : CW D cy ad g H) (hS : va_S (cA ad s.heap.size) s.heap H locs) (hn : As.length = n) (hsize : ls.size = nL) (hW : (rest.map fun v => v.category).sum ≤ 8) (hdg : decode cc pc = .ok (.invokestatic index, 3)) (hf : cells + mc ≤ R.cells ∧ slots + ms ≤ R.slots) (hf2 : cells + mc ≤ MC ∧ slots + ms ≤ MS) (hT : ∀ x ∈ c.exceptionTable.toList, False) (hlocks : meth.locks = false) (hcd : ¬ cd = 0 → cd2 = cd)
    (kk : cd = 0 → ∀ (H1 : Heap) (locs1 : List Loc), CW D cy ad g2 H1 → va_S (cA ad s.heap.size) s.heap H1 locs1 → W p l e R s m args below meth c H1 locs1 (cells + mc) (slots + ms) (vx_MQ below Qc2 (cXC D cy ad cd2 g0 s.heap.size) args s MC MS (cA ad s.heap.size)) (F0 m (pc + 3) ls rest)) : W p l e R s m args below meth c H locs cells slots (vx_MQ below Qc2 (cXC D cy ad cd2 g0 s.heap.size) args s MC MS (cA ad s.heap.size)) (F0 m pc ls (As.reverse ++ rest)) := by
  have hFc : ∀ q : Nat, cA ad H.size q → cA ad s.heap.size q := fun q h => cA_in hS.1 h
  refine vx_callv (vx_runS (As := As) (rest := rest) S hM cw ⟨cPre_blind, fun U hU hW2 => ⟨rfl, by rw [hU], CU2.mk hB hC hS hU hW2⟩⟩ rfl hn hsize rfl (lv_room hW) hdg hf) hS (fun q _ h => hFc q h) hFc (fun q _ h => hFc q h) (fun E ce q9 u t H1 locs1 ht hvm hp hBX hz1 hk1 hS1 hce hcv hcl => ?_) (fun u t H1 locs1 ht hvm hw hBu hz1 hk1 hS1 => ?_)
  · obtain ⟨⟨hE, hne⟩, hCX⟩ := hBX
    refine vx_out (fun x h => (hT x h).elim) hlocks hce hcv hcl (fun t2 ht2 _ => ⟨(), trivial, ⟨⟨by rw [hcd hne]; exact hE, by rw [hcd hne]; exact hne⟩, by rw [ht2, ← ht]; exact hCX⟩, hS1.F ht2⟩) hS1.2.2 hf2.1 hf2.2
  · have hc0 := hw
    exact kk hc0 H1 locs1 (by rw [← ht]; exact hBu) hS1
theorem x_callSi {v : Int32}  {As : List Value} {cd cd2 MC MS : Nat} {Qc2 : Array Value → State → Outcome → State → Prop} {g0 : Gd} (S : CallFix p m c cc nL s args Ts own) (hM : vx_Met l y ws rm (va_Pc (As) (cPre D cy ad g H.size)) (cXi D cy ad cd v g2 H.size) (cXC D cy ad cd g0 H.size) mc ms (cA ad H.size)) (cw : CallB R s args own index y bytes maxL ret ws rm mc ms n ∧ (Cond.static y).before args s = true) (hB : CB D cy ad s) (hC : CW D cy ad g H) (hS : va_S (cA ad s.heap.size) s.heap H locs) (hn : As.length = n) (hsize : ls.size = nL) (hW : (rest.map fun v => v.category).sum ≤ 8) (hdg : decode cc pc = .ok (.invokestatic index, 3)) (hf : cells + mc ≤ R.cells ∧ slots + ms ≤ R.slots) (hf2 : cells + mc ≤ MC ∧ slots + ms ≤ MS) (hT : ∀ x ∈ c.exceptionTable.toList, False) (hlocks : meth.locks = false) (hcd : ¬ cd = 0 → cd2 = cd)
    (kk : cd = 0 → ∀ (H1 : Heap) (locs1 : List Loc), CW D cy ad g2 H1 → va_S (cA ad s.heap.size) s.heap H1 locs1 → W p l e R s m args below meth c H1 locs1 (cells + mc) (slots + ms) (vx_MQ below Qc2 (cXC D cy ad cd2 g0 s.heap.size) args s MC MS (cA ad s.heap.size)) (F0 m (pc + 3) ls (.int v :: rest))) : W p l e R s m args below meth c H locs cells slots (vx_MQ below Qc2 (cXC D cy ad cd2 g0 s.heap.size) args s MC MS (cA ad s.heap.size)) (F0 m pc ls (As.reverse ++ rest)) := by
  have hFc : ∀ q : Nat, cA ad H.size q → cA ad s.heap.size q := fun q h => cA_in hS.1 h
  refine vx_calli (vx_runS (As := As) (rest := rest) S hM cw ⟨cPre_blind, fun U hU hW2 => ⟨rfl, by rw [hU], CU2.mk hB hC hS hU hW2⟩⟩ rfl hn hsize rfl (lv_room hW) hdg hf) hS (fun q _ h => hFc q h) hFc (fun q _ h => hFc q h) (fun E ce q9 u t H1 locs1 ht hvm hp hBX hz1 hk1 hS1 hce hcv hcl => ?_) (fun r u t H1 locs1 ht hvm hw hBu hz1 hk1 hS1 => ?_)
  · obtain ⟨⟨hE, hne⟩, hCX⟩ := hBX
    refine vx_out (fun x h => (hT x h).elim) hlocks hce hcv hcl (fun t2 ht2 _ => ⟨(), trivial, ⟨⟨by rw [hcd hne]; exact hE, by rw [hcd hne]; exact hne⟩, by rw [ht2, ← ht]; exact hCX⟩, hS1.F ht2⟩) hS1.2.2 hf2.1 hf2.2
  · obtain ⟨hc0, hw⟩ := hw
    subst hw
    exact kk hc0 H1 locs1 (by rw [← ht]; exact hBu) hS1
theorem x_callSl {v : Int64}  {As : List Value} {cd cd2 MC MS : Nat} {Qc2 : Array Value → State → Outcome → State → Prop} {g0 : Gd} (S : CallFix p m c cc nL s args Ts own) (hM : vx_Met l y ws rm (va_Pc (As) (cPre D cy ad g H.size)) (cXl D cy ad cd v g2 H.size) (cXC D cy ad cd g0 H.size) mc ms (cA ad H.size)) (cw : CallB R s args own index y bytes maxL ret ws rm mc ms n ∧ (Cond.static y).before args s = true) (hB : CB D cy ad s) (hC : CW D cy ad g H) (hS : va_S (cA ad s.heap.size) s.heap H locs) (hn : As.length = n) (hsize : ls.size = nL) (hW : (rest.map fun v => v.category).sum ≤ 8) (hdg : decode cc pc = .ok (.invokestatic index, 3)) (hf : cells + mc ≤ R.cells ∧ slots + ms ≤ R.slots) (hf2 : cells + mc ≤ MC ∧ slots + ms ≤ MS) (hT : ∀ x ∈ c.exceptionTable.toList, False) (hlocks : meth.locks = false) (hcd : ¬ cd = 0 → cd2 = cd)
    (kk : cd = 0 → ∀ (H1 : Heap) (locs1 : List Loc), CW D cy ad g2 H1 → va_S (cA ad s.heap.size) s.heap H1 locs1 → W p l e R s m args below meth c H1 locs1 (cells + mc) (slots + ms) (vx_MQ below Qc2 (cXC D cy ad cd2 g0 s.heap.size) args s MC MS (cA ad s.heap.size)) (F0 m (pc + 3) ls (.long v :: rest))) : W p l e R s m args below meth c H locs cells slots (vx_MQ below Qc2 (cXC D cy ad cd2 g0 s.heap.size) args s MC MS (cA ad s.heap.size)) (F0 m pc ls (As.reverse ++ rest)) := by
  have hFc : ∀ q : Nat, cA ad H.size q → cA ad s.heap.size q := fun q h => cA_in hS.1 h
  refine vx_calll (vx_runS (As := As) (rest := rest) S hM cw ⟨cPre_blind, fun U hU hW2 => ⟨rfl, by rw [hU], CU2.mk hB hC hS hU hW2⟩⟩ rfl hn hsize rfl (lv_room hW) hdg hf) hS (fun q _ h => hFc q h) hFc (fun q _ h => hFc q h) (fun E ce q9 u t H1 locs1 ht hvm hp hBX hz1 hk1 hS1 hce hcv hcl => ?_) (fun r u t H1 locs1 ht hvm hw hBu hz1 hk1 hS1 => ?_)
  · obtain ⟨⟨hE, hne⟩, hCX⟩ := hBX
    refine vx_out (fun x h => (hT x h).elim) hlocks hce hcv hcl (fun t2 ht2 _ => ⟨(), trivial, ⟨⟨by rw [hcd hne]; exact hE, by rw [hcd hne]; exact hne⟩, by rw [ht2, ← ht]; exact hCX⟩, hS1.F ht2⟩) hS1.2.2 hf2.1 hf2.2
  · obtain ⟨hc0, hw⟩ := hw
    subst hw
    exact kk hc0 H1 locs1 (by rw [← ht]; exact hBu) hS1
theorem x_callSr {v : Nat}  {As : List Value} {cd cd2 MC MS : Nat} {Qc2 : Array Value → State → Outcome → State → Prop} {g0 : Gd} (S : CallFix p m c cc nL s args Ts own) (hM : vx_Met l y ws rm (va_Pc (As) (cPre D cy ad g H.size)) (cXr D cy ad cd v g2 H.size) (cXC D cy ad cd g0 H.size) mc ms (cA ad H.size)) (cw : CallB R s args own index y bytes maxL ret ws rm mc ms n ∧ (Cond.static y).before args s = true) (hB : CB D cy ad s) (hC : CW D cy ad g H) (hS : va_S (cA ad s.heap.size) s.heap H locs) (hn : As.length = n) (hsize : ls.size = nL) (hW : (rest.map fun v => v.category).sum ≤ 8) (hdg : decode cc pc = .ok (.invokestatic index, 3)) (hf : cells + mc ≤ R.cells ∧ slots + ms ≤ R.slots) (hf2 : cells + mc ≤ MC ∧ slots + ms ≤ MS) (hT : ∀ x ∈ c.exceptionTable.toList, False) (hlocks : meth.locks = false) (hcd : ¬ cd = 0 → cd2 = cd)
    (kk : cd = 0 → ∀ (H1 : Heap) (locs1 : List Loc), CW D cy ad g2 H1 → va_S (cA ad s.heap.size) s.heap H1 locs1 → W p l e R s m args below meth c H1 locs1 (cells + mc) (slots + ms) (vx_MQ below Qc2 (cXC D cy ad cd2 g0 s.heap.size) args s MC MS (cA ad s.heap.size)) (F0 m (pc + 3) ls (.ref v :: rest))) : W p l e R s m args below meth c H locs cells slots (vx_MQ below Qc2 (cXC D cy ad cd2 g0 s.heap.size) args s MC MS (cA ad s.heap.size)) (F0 m pc ls (As.reverse ++ rest)) := by
  have hFc : ∀ q : Nat, cA ad H.size q → cA ad s.heap.size q := fun q h => cA_in hS.1 h
  refine vy_callr (vx_runS (As := As) (rest := rest) S hM cw ⟨cPre_blind, fun U hU hW2 => ⟨rfl, by rw [hU], CU2.mk hB hC hS hU hW2⟩⟩ rfl hn hsize rfl (lv_room hW) hdg hf) hS (fun q _ h => hFc q h) hFc (fun q _ h => hFc q h) (fun E ce q9 u t H1 locs1 ht hvm hp hBX hz1 hk1 hS1 hce hcv hcl => ?_) (fun u r t H1 locs1 ht hvm hw hBu hz1 hk1 hS1 => ?_)
  · obtain ⟨⟨hE, hne⟩, hCX⟩ := hBX
    refine vx_out (fun x h => (hT x h).elim) hlocks hce hcv hcl (fun t2 ht2 _ => ⟨(), trivial, ⟨⟨by rw [hcd hne]; exact hE, by rw [hcd hne]; exact hne⟩, by rw [ht2, ← ht]; exact hCX⟩, hS1.F ht2⟩) hS1.2.2 hf2.1 hf2.2
  · obtain ⟨e9, hBu⟩ := hBu
    subst e9
    have hc0 := hw
    exact kk hc0 H1 locs1 (by rw [← ht]; exact hBu) hS1
theorem q_nb {w : Int32} (h : w = 0 ∨ w = 1) : narrow .boolean (.int w) = .int w := by rcases h with h | h <;> rw [h] <;> rfl
theorem q_fb {w : Int32} (h : w = 0 ∨ w = 1) : fits .boolean (.int w) = true := by rcases h with h | h <;> rw [h] <;> rfl
theorem q_sw {x k : Int32} (h : x = k) (kk : W p l e R s m args below meth c H locs cells slots Q (F0 m pc ls (.int k :: rest))) : W p l e R s m args below meth c H locs cells slots Q (F0 m pc ls (.int x :: rest)) := by rw [h]; exact kk
end QH
theorem sw_1_4 {x : Int32} (h1 : ¬ x = 1) (h2 : ¬ x = 2) (h3 : ¬ x = 3) (h4 : ¬ x = 4) : x.toInt < 1 ∨ 4 < x.toInt := by
  have e1 : ¬ x.toInt = 1 := fun h => h1 (Int32.toInt_inj.mp h)
  have e2 : ¬ x.toInt = 2 := fun h => h2 (Int32.toInt_inj.mp h)
  have e3 : ¬ x.toInt = 3 := fun h => h3 (Int32.toInt_inj.mp h)
  have e4 : ¬ x.toInt = 4 := fun h => h4 (Int32.toInt_inj.mp h)
  omega
theorem sw_0_4 {x : Int32} (h0 : ¬ x = 0) (h1 : ¬ x = 1) (h2 : ¬ x = 2) (h3 : ¬ x = 3) (h4 : ¬ x = 4) : x.toInt < 0 ∨ 4 < x.toInt := by
  have e0 : ¬ x.toInt = 0 := fun h => h0 (Int32.toInt_inj.mp h)
  have e1 : ¬ x.toInt = 1 := fun h => h1 (Int32.toInt_inj.mp h)
  have e2 : ¬ x.toInt = 2 := fun h => h2 (Int32.toInt_inj.mp h)
  have e3 : ¬ x.toInt = 3 := fun h => h3 (Int32.toInt_inj.mp h)
  have e4 : ¬ x.toInt = 4 := fun h => h4 (Int32.toInt_inj.mp h)
  omega
theorem sw_0_5 {x : Int32} (h0 : ¬ x = 0) (h1 : ¬ x = 1) (h2 : ¬ x = 2) (h3 : ¬ x = 3) (h4 : ¬ x = 4) (h5 : ¬ x = 5) : x.toInt < 0 ∨ 5 < x.toInt := by
  have e0 : ¬ x.toInt = 0 := fun h => h0 (Int32.toInt_inj.mp h)
  have e1 : ¬ x.toInt = 1 := fun h => h1 (Int32.toInt_inj.mp h)
  have e2 : ¬ x.toInt = 2 := fun h => h2 (Int32.toInt_inj.mp h)
  have e3 : ¬ x.toInt = 3 := fun h => h3 (Int32.toInt_inj.mp h)
  have e4 : ¬ x.toInt = 4 := fun h => h4 (Int32.toInt_inj.mp h)
  have e5 : ¬ x.toInt = 5 := fun h => h5 (Int32.toInt_inj.mp h)
  omega
theorem sw_0_7 {x : Int32} (h0 : ¬ x = 0) (h1 : ¬ x = 1) (h2 : ¬ x = 2) (h3 : ¬ x = 3) (h4 : ¬ x = 4) (h5 : ¬ x = 5) (h6 : ¬ x = 6) (h7 : ¬ x = 7) : x.toInt < 0 ∨ 7 < x.toInt := by
  have e0 : ¬ x.toInt = 0 := fun h => h0 (Int32.toInt_inj.mp h)
  have e1 : ¬ x.toInt = 1 := fun h => h1 (Int32.toInt_inj.mp h)
  have e2 : ¬ x.toInt = 2 := fun h => h2 (Int32.toInt_inj.mp h)
  have e3 : ¬ x.toInt = 3 := fun h => h3 (Int32.toInt_inj.mp h)
  have e4 : ¬ x.toInt = 4 := fun h => h4 (Int32.toInt_inj.mp h)
  have e5 : ¬ x.toInt = 5 := fun h => h5 (Int32.toInt_inj.mp h)
  have e6 : ¬ x.toInt = 6 := fun h => h6 (Int32.toInt_inj.mp h)
  have e7 : ¬ x.toInt = 7 := fun h => h7 (Int32.toInt_inj.mp h)
  omega
theorem sw_0_11 {x : Int32} (h0 : ¬ x = 0) (h1 : ¬ x = 1) (h2 : ¬ x = 2) (h3 : ¬ x = 3) (h4 : ¬ x = 4) (h5 : ¬ x = 5) (h6 : ¬ x = 6) (h7 : ¬ x = 7) (h8 : ¬ x = 8) (h9 : ¬ x = 9) (h10 : ¬ x = 10) (h11 : ¬ x = 11) : x.toInt < 0 ∨ 11 < x.toInt := by
  have e0 : ¬ x.toInt = 0 := fun h => h0 (Int32.toInt_inj.mp h)
  have e1 : ¬ x.toInt = 1 := fun h => h1 (Int32.toInt_inj.mp h)
  have e2 : ¬ x.toInt = 2 := fun h => h2 (Int32.toInt_inj.mp h)
  have e3 : ¬ x.toInt = 3 := fun h => h3 (Int32.toInt_inj.mp h)
  have e4 : ¬ x.toInt = 4 := fun h => h4 (Int32.toInt_inj.mp h)
  have e5 : ¬ x.toInt = 5 := fun h => h5 (Int32.toInt_inj.mp h)
  have e6 : ¬ x.toInt = 6 := fun h => h6 (Int32.toInt_inj.mp h)
  have e7 : ¬ x.toInt = 7 := fun h => h7 (Int32.toInt_inj.mp h)
  have e8 : ¬ x.toInt = 8 := fun h => h8 (Int32.toInt_inj.mp h)
  have e9 : ¬ x.toInt = 9 := fun h => h9 (Int32.toInt_inj.mp h)
  have e10 : ¬ x.toInt = 10 := fun h => h10 (Int32.toInt_inj.mp h)
  have e11 : ¬ x.toInt = 11 := fun h => h11 (Int32.toInt_inj.mp h)
  omega
theorem sw_0_15 {x : Int32} (h0 : ¬ x = 0) (h1 : ¬ x = 1) (h2 : ¬ x = 2) (h3 : ¬ x = 3) (h4 : ¬ x = 4) (h5 : ¬ x = 5) (h6 : ¬ x = 6) (h7 : ¬ x = 7) (h8 : ¬ x = 8) (h9 : ¬ x = 9) (h10 : ¬ x = 10) (h11 : ¬ x = 11) (h12 : ¬ x = 12) (h13 : ¬ x = 13) (h14 : ¬ x = 14) (h15 : ¬ x = 15) : x.toInt < 0 ∨ 15 < x.toInt := by
  have e0 : ¬ x.toInt = 0 := fun h => h0 (Int32.toInt_inj.mp h)
  have e1 : ¬ x.toInt = 1 := fun h => h1 (Int32.toInt_inj.mp h)
  have e2 : ¬ x.toInt = 2 := fun h => h2 (Int32.toInt_inj.mp h)
  have e3 : ¬ x.toInt = 3 := fun h => h3 (Int32.toInt_inj.mp h)
  have e4 : ¬ x.toInt = 4 := fun h => h4 (Int32.toInt_inj.mp h)
  have e5 : ¬ x.toInt = 5 := fun h => h5 (Int32.toInt_inj.mp h)
  have e6 : ¬ x.toInt = 6 := fun h => h6 (Int32.toInt_inj.mp h)
  have e7 : ¬ x.toInt = 7 := fun h => h7 (Int32.toInt_inj.mp h)
  have e8 : ¬ x.toInt = 8 := fun h => h8 (Int32.toInt_inj.mp h)
  have e9 : ¬ x.toInt = 9 := fun h => h9 (Int32.toInt_inj.mp h)
  have e10 : ¬ x.toInt = 10 := fun h => h10 (Int32.toInt_inj.mp h)
  have e11 : ¬ x.toInt = 11 := fun h => h11 (Int32.toInt_inj.mp h)
  have e12 : ¬ x.toInt = 12 := fun h => h12 (Int32.toInt_inj.mp h)
  have e13 : ¬ x.toInt = 13 := fun h => h13 (Int32.toInt_inj.mp h)
  have e14 : ¬ x.toInt = 14 := fun h => h14 (Int32.toInt_inj.mp h)
  have e15 : ¬ x.toInt = 15 := fun h => h15 (Int32.toInt_inj.mp h)
  omega
