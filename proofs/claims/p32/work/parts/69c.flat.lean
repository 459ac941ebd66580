/-! ===== constructors: a flat world, cells made one behind another ===== -/
theorem arrV_ext {cI : ClassId} {n : Nat} {f g : Nat → Value} (h : ∀ j, j < n → f j = g j) : arrV cI n f = arrV cI n g := by
  unfold arrV
  have e : (fun j : Fin n => f j.val) = fun j : Fin n => g j.val := funext fun j => h j.val j.isLt
  rw [e]
theorem cell_i {cI : ClassId} {n : Nat} {f g : Nat → Int32} (h : ∀ j, j < n → f j = g j) : vp_cell cI (n, q_ints f) = vp_cell cI (n, q_ints g) := by
  rw [vp_cell_i, vp_cell_i]
  exact arrV_ext fun j hj => by rw [h j hj]
theorem cell_q {cI : ClassId} {n : Nat} {f g : Nat → Option Nat} (h : ∀ j, j < n → f j = g j) : vp_cell cI (n, q_opt f) = vp_cell cI (n, q_opt g) := by
  rw [vp_cell_q, vp_cell_q]
  exact arrV_ext fun j hj => by rw [h j hj]
theorem at_i {D : va_G} {cl : List vw_C} {a n : Nat} {cI : ClassId} {H : Heap} {f g : Nat → Int32} (hat : va_at D cl (a, .inl (cI, n, q_ints f)) H) (h : ∀ j, j < n → f j = g j) : va_at D cl (a, .inl (cI, n, q_ints g)) H := by
  show H[a]? = some (vp_cell cI (n, q_ints g))
  rw [← cell_i h]; exact hat
theorem at_q {D : va_G} {cl : List vw_C} {a n : Nat} {cI : ClassId} {H : Heap} {f g : Nat → Option Nat} (hat : va_at D cl (a, .inl (cI, n, q_opt f)) H) (h : ∀ j, j < n → f j = g j) : va_at D cl (a, .inl (cI, n, q_opt g)) H := by
  show H[a]? = some (vp_cell cI (n, q_opt g))
  rw [← cell_q h]; exact hat
def FL (D : va_G) (z : Nat) (l : List va_E) (H : Heap) : Prop := H.size = z + l.length ∧ ∀ (j : Nat) (x : va_E), l[j]? = some x → va_at D vwCl (z + j, x) H
theorem FL.app {D : va_G} {z : Nat} {l l' : List va_E} {H H1 : Heap} (h : FL D z l H) (h' : FL D (z + l.length) l' H1) (hk : ∀ q : Nat, q < z + l.length → H1[q]? = H[q]?) : FL D z (l ++ l') H1 := by
  refine ⟨by rw [h'.1, List.length_append]; omega, fun j x hx => ?_⟩
  by_cases hj : j < l.length
  · rw [List.getElem?_append_left hj] at hx
    exact (h.2 j x hx).kept (hk _ (by show z + j < _; omega))
  · rw [List.getElem?_append_right (by omega)] at hx
    have := h'.2 _ x hx
    rw [show z + l.length + (j - l.length) = z + j by omega] at this
    exact this
theorem FL.one {D : va_G} {z : Nat} {x : va_E} {H : Heap} (hz : H.size = z + 1) (hat : va_at D vwCl (z, x) H) : FL D z [x] H := by
  refine ⟨hz, fun j y hy => ?_⟩
  match j, hy with
  | 0, hy => cases hy; exact hat
  | k + 1, hy => simp at hy
theorem FL.put {D : va_G} {z j : Nat} {l : List va_E} {x : va_E} {H H1 : Heap} (h : FL D z l H) (hat : va_at D vwCl (z + j, x) H1) (hz : H1.size = H.size) (ho : ∀ q : Nat, q ≠ z + j → H1[q]? = H[q]?) : FL D z (l.set j x) H1 := by
  refine ⟨by rw [hz, h.1, List.length_set], fun i y hy => ?_⟩
  by_cases e : i = j
  · subst e
    have hlt : i < (l.set i x).length := (List.getElem?_eq_some_iff.mp hy).1
    rw [List.length_set] at hlt
    rw [List.getElem?_set_self hlt] at hy
    cases hy; exact hat
  · rw [List.getElem?_set_ne (fun q => e q.symm)] at hy
    exact (h.2 i y hy).kept (ho _ (by show z + i ≠ z + j; omega))
theorem FL.last {D : va_G} {z : Nat} {l : List va_E} {x : va_E} {H : Heap} (h : FL D z (l ++ [x]) H) : H.size = z + l.length + 1 ∧ va_at D vwCl (z + l.length, x) H :=
  ⟨by rw [h.1, List.length_append]; rfl, h.2 _ x (by rw [List.getElem?_append_right (Nat.le_refl _), Nat.sub_self]; rfl)⟩
theorem FL.init {D : va_G} {z : Nat} {l : List va_E} {x : va_E} {H H1 : Heap} {l' : List va_E} (h : FL D z (l ++ [x]) H) (h' : FL D (z + l.length) l' H1) (hk : ∀ q : Nat, q < z + l.length → H1[q]? = H[q]?) : FL D z (l ++ l') H1 := by
  refine ⟨by rw [h'.1, List.length_append]; omega, fun j y hy => ?_⟩
  by_cases hj : j < l.length
  · rw [List.getElem?_append_left hj] at hy
    exact (h.2 j y (by rw [List.getElem?_append_left hj]; exact hy)).kept (hk _ (by show z + j < _; omega))
  · rw [List.getElem?_append_right (by omega)] at hy
    have := h'.2 _ y hy
    rw [show z + l.length + (j - l.length) = z + j by omega] at this
    exact this
/-- what the constructors find -/
def iO (U : State) : Prop := va_AO "CherryStation$Farm" U ∧ va_AO "CherryStation$Basket" U ∧ va_AO "CherryStation$Tank" U ∧ va_AO "CherryStation$Bed" U ∧ va_AO "CherryStation$Lot" U ∧ True
theorem iO.moved {u U : State} (hvm : u.vm.Alike U.vm) (h : iO u) : iO U := ⟨va_AO.moved hvm h.1, va_AO.moved hvm h.2.1, va_AO.moved hvm h.2.2.1, va_AO.moved hvm h.2.2.2.1, va_AO.moved hvm h.2.2.2.2.1, trivial⟩
def iB (D : va_G) (cy : Nat → ClassId) (U : State) : Prop := va_K D vwCl (qtys cy) U ∧ qB U ∧ iO U
theorem iB.warm {D : va_G} {cy : Nat → ClassId} {s U : State} (hW : s.WarmedH U.vm) (h : iB D cy s) : iB D cy U := ⟨va_K.moved hW.alike h.1, h.2.1.warm hW, h.2.2.moved hW.alike⟩
abbrev iA (b : Nat) : Nat → Prop := fun q => b ≤ q
def iP (D : va_G) (cy : Nat → ClassId) (b ci : Nat) (fs : List Value) : State → Prop := fun U => U.heap.size = b + 1 ∧ iB D cy U ∧ va_at D vwCl (b, .inr (ci, fs)) U.heap
theorem iP_blind {D : va_G} {cy : Nat → ClassId} {b ci : Nat} {fs : List Value} {av : List Value} : FrameBlind (va_Pc av (iP D cy b ci fs)) := fun a U f mk q =>
  ⟨q.1, q.2.1, ⟨va_K.moved (u := U) (Vm.Alike.refl U.vm) q.2.2.1.1, qB.warm (s := U) (State.WarmedH.refl U) q.2.2.1.2.1, iO.moved (u := U) (Vm.Alike.refl U.vm) q.2.2.1.2.2⟩, q.2.2.2⟩
abbrev iQ (D : va_G) (b : Nat) (l : List va_E) := va_Qv (fun _ : Unit => True) (fun _ t => FL D b l t.heap) (iA b)
section FR
variable {p : Program} {l : Launch} {e : Env} {R : Room} {s : State} {m : MethodId} {args : Array Value} {below : List Frame} {meth : Method} {c : Code} {H : Heap} {locs : List Loc} {cells slots : Nat} {Q : State → Prop}
variable {cc : ByteArray} {pc : Nat} {ls : Array Slot} {rest : List Value} {D : va_G} {A : Nat → Prop} {tys : List (ClassId × FieldType)} {H0 : Heap} {cy : Nat → ClassId}
variable {Ts ws ws' : List Cond} {bytes : ByteArray} {nL maxL index n mc ms : Nat} {own : String} {y : MethodName} {rm : Room} {z a : Nat} {li l0 l1 : List va_E}
theorem iP_mk {b ci : Nat} {fs : List Value} (hB : iB D cy s) (hF : FL D z (l0 ++ [.inr (ci, fs)]) H) (hb : z + l0.length = b) {U : State} (hU : U.heap = H) (hW : s.WarmedH U.vm) : iP D cy b ci fs U := by
  subst hb
  exact ⟨by rw [hU]; exact hF.last.1, hB.warm hW, by rw [hU]; exact hF.last.2⟩
theorem f_new (hexec : p.tables.exec = Jvm.exec) (hb : c.code = cc) {own C : String} {T : u_T} {N ci index : Nat} {Ts : List Cond} (hts : ∀ w ∈ Ts, w.before args s = true) (hin : ∀ w ∈ u_ws C T N, w ∈ Ts) (ty : Nat → FieldType) (hty : ∀ k, k < N → parseFieldDescriptor (T k).2.2.1 = some (ty k)) (hown : s.vm.findClass own = some m.cls) (hcl : (Cond.classLink own index C).before args s = true) (hinst : (Cond.instantiable C N).before args s = true) (hini : (Cond.initialized C).before args s = true)
    (hK : va_K D vwCl tys s) (hS : va_S A H0 H locs) (hc : vwCl[ci]? = some (C, T, N)) {fs : List Value} (hfs : ∀ j, j < N → defaultValue (ty j) = vp_V fs j) (hF : FL D z li H) (hn : z + li.length = a) (hcells : cells + 1 ≤ R.cells) (hslots : slots + N ≤ R.slots) (hdg : decode cc pc = .ok (.new index, 3))
    (kk : ∀ (H1 : Heap), FL D z (li ++ [.inr (ci, fs)]) H1 → (∀ q : Nat, q < a → H1[q]? = H[q]?) → va_S A H0 H1 locs → W p l e R s m args below meth c H1 locs (cells + 1) (slots + N) Q (F0 m (pc + 3) ls (.ref a :: rest))) : W p l e R s m args below meth c H locs cells slots Q (F0 m pc ls rest) := by
  have ea : H.size = a := hF.1.trans hn
  subst ea
  refine q_new hexec hb hts hin ty hty hown hcl hinst hini hK hS hc hfs hcells hslots hdg (fun H1 h1 h2 h3 h4 => kk H1 ?_ h3 h4)
  refine hF.app (FL.one (by rw [h2, hF.1]) (by rw [hn]; exact h1)) (fun q hq => h3 q (by rw [hF.1]; exact hq))
theorem f_newi (hx : p.tables.exec = Jvm.exec) (hb : c.code = cc) (harr : (Cond.arrayClass (newarray.typeOf .int)).before args s = true) (hK : va_K D vwCl (qtys cy) s) (hS : va_S A H0 H locs) {n : Int32} (N : Nat) (hn : ¬ n < 0) (hN : n.toNatClampNeg = N) (hby : N * componentBytes (newarray.typeOf .int) ≤ 536870912) (hF : FL D z li H) (ha : z + li.length = a) (hR : cells + 1 ≤ R.cells ∧ slots + N ≤ R.slots) (hdg : decode cc pc = .ok (.newarray .int, 2))
    (kk : ∀ (H1 : Heap), FL D z (li ++ [.inl (cy 0, (N, q_ints (fun _ => 0)))]) H1 → (∀ q : Nat, q < a → H1[q]? = H[q]?) → va_S A H0 H1 locs → W p l e R s m args below meth c H1 locs (cells + 1) (slots + N) Q (F0 m (pc + 2) ls (.ref a :: rest))) : W p l e R s m args below meth c H locs cells slots Q (F0 m pc ls (.int n :: rest)) := by
  have ea : H.size = a := hF.1.trans ha
  subst ea
  refine q_newi hx hb harr hK hS N hn hN hby hR hdg (fun H1 h1 h2 h3 h4 => kk H1 ?_ h3 h4)
  exact hF.app (FL.one (by rw [h2, hF.1]) (by rw [ha]; exact h1)) (fun q hq => h3 q (by rw [hF.1]; exact hq))
theorem f_anew (hx : p.tables.exec = Jvm.exec) (hb : c.code = cc) {own C : String} {index : Nat} (hown : s.vm.findClass own = some m.cls) (hclink : (Cond.classLink own index C).before args s = true) (hover : va_AO C s) (hK : va_K D vwCl (qtys cy) s) (t0 : Nat) {cI : ClassId} (ht : (qtys cy)[t0]? = some (cI, .object C)) (hS : va_S A H0 H locs) {n : Int32} (N : Nat) (hn : ¬ n < 0) (hN : n.toNatClampNeg = N) (hby : N * 4 ≤ 536870912) (hF : FL D z li H) (ha : z + li.length = a) (hR : cells + 1 ≤ R.cells ∧ slots + N ≤ R.slots) (hdg : decode cc pc = .ok (.anewarray index, 3))
    (kk : ∀ H1 : Heap, FL D z (li ++ [.inl (cI, (N, q_opt (fun _ => none)))]) H1 → (∀ q : Nat, q < a → H1[q]? = H[q]?) → va_S A H0 H1 locs → W p l e R s m args below meth c H1 locs (cells + 1) (slots + N) Q (F0 m (pc + 3) ls (.ref a :: rest))) : W p l e R s m args below meth c H locs cells slots Q (F0 m pc ls (.int n :: rest)) := by
  subst hN
  have ea : H.size = a := hF.1.trans ha
  subst ea
  refine W.anew hx hb hown hclink (va_AO.use hover) rfl hdg rfl hn hby hR.1 hR.2 fun cA kA comp f1 f2 f3 f4 => ?_
  generalize hH1 : H.push ({ cls := cA, slots := Array.replicate n.toNatClampNeg .null, vm := .none } : Cell) = H1
  have z1 : H1.size = H.size + 1 := by rw [← hH1, Array.size_push]
  have e1 : H1[H.size]? = some (arrV cA n.toNatClampNeg (fun _ => .null)) := by rw [← hH1, Array.getElem?_push_size, ← arrV_new]
  have o1 : ∀ q : Nat, q < H.size → H1[q]? = H[q]? := fun q hq => by rw [← hH1, Array.getElem?_push, if_neg (Nat.ne_of_lt hq)]
  have hcA : cA = cI := by
    obtain ⟨kA2, comp2, k1, k2, k3, k4⟩ := (hK.2 t0 _ ht).2
    exact Option.some.inj (f1.symm.trans k4)
  subst hcA
  have h1 : va_at D vwCl (H.size, .inl (cA, (n.toNatClampNeg, q_opt (fun _ => none)))) H1 := by
    show H1[H.size]? = some (vp_cell _ _)
    rw [e1, vp_cell_q]
    rfl
  exact kk H1 (hF.app (FL.one (by rw [z1, hF.1]) (by rw [ha]; exact h1)) (fun q hq => o1 q (by rw [hF.1]; exact hq))) o1 ⟨Nat.le_trans hS.1 (by omega), fun x h1 h2 => (o1 x (Nat.lt_of_lt_of_le h1 hS.1)).trans (hS.2.1 x h1 h2), hS.2.2⟩
theorem f_put (hexec : p.tables.exec = Jvm.exec) (hb : c.code = cc) {own ref C : String} {T : u_T} {N ci index : Nat} {Ts : List Cond} (hts : ∀ w ∈ Ts, w.before args s = true) (hin : ∀ w ∈ u_ws C T N, w ∈ Ts) (ty0 : Nat → FieldType) (hty : ∀ k, k < N → parseFieldDescriptor (T k).2.2.1 = some (ty0 k)) (hnm : ∀ a, a < N → ∀ b, b < N → a ≠ b → (T a).2.1 ≠ (T b).2.1) (hown : s.vm.findClass own = some m.cls) (hK : va_K D vwCl tys s) {fs : List Value} (hF : FL D z li H) (j : Nat) (hj : li[j]? = some (.inr (ci, fs))) (hza : z + j = a) (hS0 : va_S A H0 H locs) (ha : A a) (hc : vwCl[ci]? = some (C, T, N)) (k : Nat) (hk : k < N) (hlink : Cond.fieldLink own index ref (T k).2.1 (T k).2.2.1 ∈ Ts) (hsame : (T k).1 = ref) (hfin : (T k).2.2.2 = false) {v : Value} (hn : narrow (ty0 k) v = v) (hfit : fits (ty0 k) v = true) (hl : k < fs.length) (hdg : decode cc pc = .ok (.putfield index, 3))
    (kk : ∀ (H1 : Heap) (locs1 : List Loc), FL D z (li.set j (.inr (ci, fs.set k v))) H1 → H1.size = H.size → (∀ q : Nat, q ≠ a → H1[q]? = H[q]?) → va_S A H0 H1 locs1 → W p l e R s m args below meth c H1 locs1 cells slots Q (F0 m (pc + 3) ls rest)) : W p l e R s m args below meth c H locs cells slots Q (F0 m pc ls (v :: .ref a :: rest)) := by
  subst hza
  exact q_put hexec hb hts hin ty0 hty hnm hown hK (hF.2 j _ hj) hS0 ha hc k hk hlink hsame hfin hn hfit hl hdg (fun H1 locs1 h1 h2 h3 h4 => kk H1 locs1 (hF.put h1 h2 h3) h2 h3 h4)
theorem f_putF (hexec : p.tables.exec = Jvm.exec) (hb : c.code = cc) {own ref C : String} {T : u_T} {N ci index : Nat} {Ts : List Cond} (hts : ∀ w ∈ Ts, w.before args s = true) (hin : ∀ w ∈ u_ws C T N, w ∈ Ts) (ty0 : Nat → FieldType) (hty : ∀ k, k < N → parseFieldDescriptor (T k).2.2.1 = some (ty0 k)) (hnm : ∀ a, a < N → ∀ b, b < N → a ≠ b → (T a).2.1 ≠ (T b).2.1) (hown : s.vm.findClass own = some m.cls) (hK : va_K D vwCl tys s) {fs : List Value} (hF : FL D z li H) (j : Nat) (hj : li[j]? = some (.inr (ci, fs))) (hza : z + j = a) (hS0 : va_S A H0 H locs) (ha : A a) (hc : vwCl[ci]? = some (C, T, N)) (k : Nat) (hk : k < N) (hlink : Cond.fieldLink own index ref (T k).2.1 (T k).2.2.1 ∈ Ts) (hsame : (T k).1 = ref) (hfin : (T k).2.2.2 = true) (hin2 : meth.name = "<init>") (hdecl : (T k).1 = own) {v : Value} (hn : narrow (ty0 k) v = v) (hfit : fits (ty0 k) v = true) (hl : k < fs.length) (hdg : decode cc pc = .ok (.putfield index, 3))
    (kk : ∀ (H1 : Heap) (locs1 : List Loc), FL D z (li.set j (.inr (ci, fs.set k v))) H1 → H1.size = H.size → (∀ q : Nat, q ≠ a → H1[q]? = H[q]?) → va_S A H0 H1 locs1 → W p l e R s m args below meth c H1 locs1 cells slots Q (F0 m (pc + 3) ls rest)) : W p l e R s m args below meth c H locs cells slots Q (F0 m pc ls (v :: .ref a :: rest)) := by
  subst hza
  exact q_putF hexec hb hts hin ty0 hty hnm hown hK (hF.2 j _ hj) hS0 ha hc k hk hlink hsame hfin hin2 hdecl hn hfit hl hdg (fun H1 locs1 h1 h2 h3 h4 => kk H1 locs1 (hF.put h1 h2 h3) h2 h3 h4)
theorem f_iast (hexec : p.tables.exec = Jvm.exec) (hb : c.code = cc) (hK : va_K D vwCl (qtys cy) s) {N : Nat} {f : Nat → Int32} (hF : FL D z li H) (j : Nat) (hj : li[j]? = some (.inl (cy 0, N, q_ints f))) (hza : z + j = a) (hS : va_S A H0 H locs) (ha : A a) {i x : Int32} (k : Nat) (hk : i.toNatClampNeg = k) (hin : vp_in i N) (hdg : decode cc pc = .ok (.iastore, 1))
    (kk : ∀ (H1 : Heap) (locs1 : List Loc), FL D z (li.set j (.inl (cy 0, N, q_ints (upd f k x)))) H1 → (∀ q : Nat, q ≠ a → H1[q]? = H[q]?) → va_S A H0 H1 locs1 → W p l e R s m args below meth c H1 locs1 cells slots Q (F0 m (pc + 1) ls rest)) : W p l e R s m args below meth c H locs cells slots Q (F0 m pc ls (.int x :: .int i :: .ref a :: rest)) := by
  subst hza
  subst hk
  exact q_iast hexec hb hK 0 (f := f) (hF.2 j _ hj) hS ha rfl hin hdg (fun H1 locs1 h1 h2 h3 h4 => kk H1 locs1 (hF.put h1 h2 h3) h3 h4)
theorem f_at (hF : FL D z li H) (j : Nat) {x : va_E} (hj : li[j]? = some x) (hza : z + j = a) : va_at D vwCl (a, x) H := by
  subst hza
  exact hF.2 j x hj
/-- a constructor's call, from a nest mate -/
theorem f_callN {b ci : Nat} {fs : List Value} {host : String} {P : State → Prop} (CF : CallFix p m c cc nL s args Ts own) (hMe : Met l y ws rm (va_Pc [.ref b] P) (iQ D b l1) mc ms (iA b)) (cw : va_CN R s args own index y host bytes maxL none ws rm mc ms 0 ∧ y.name = "<init>" ∧ (Cond.instanceMethod y).before args s = true) (hbl : FrameBlind (va_Pc [.ref b] P)) (hP : ∀ U : State, U.heap = H → s.WarmedH U.vm → P U) (hF : FL D z (l0 ++ [.inr (ci, fs)]) H) (hb : z + l0.length = b) (hS : va_S A H0 H locs) (hA : ∀ q, b ≤ q → A q) (hsize : ls.size = nL) (hW : (rest.map fun v => v.category).sum ≤ 8) (hdg : decode cc pc = .ok (.invokespecial index, 3)) (hf : cells + mc ≤ R.cells ∧ slots + ms ≤ R.slots)
    (kk : ∀ (H1 : Heap) (locs1 : List Loc), FL D z (l0 ++ l1) H1 → (∀ q : Nat, q < b → H1[q]? = H[q]?) → va_S A H0 H1 locs1 → W p l e R s m args below meth c H1 locs1 (cells + mc) (slots + ms) Q (F0 m (pc + 3) ls rest)) : W p l e R s m args below meth c H locs cells slots Q (F0 m pc ls (.ref b :: rest)) := by
  subst hb
  refine va_callv (va_runIN (As := []) (rest := rest) (b := z + l0.length) CF hMe cw ⟨hbl, fun U hU hW2 => ⟨rfl, hP U hU hW2⟩⟩ rfl rfl hsize rfl (lv_room hW) hdg hf) hS (A0 := A) (fun q _ h => hA q h) (fun q h => hA q h) (fun u t H1 locs1 ht hvm hw hQ hz1 hk1 hS1 => ?_)
  have hlt := hF.last.1
  have hk : ∀ q : Nat, q < z + l0.length → H1[q]? = H[q]? := fun q hq => hk1 q (by omega) (fun h => by have : z + l0.length ≤ q := h; omega)
  exact kk H1 locs1 (hF.init (by rw [← ht]; exact hQ) hk) hk hS1
/-- a constructor's call -/
theorem f_callI {b ci : Nat} {fs : List Value} {P : State → Prop} (CF : CallFix p m c cc nL s args Ts own) (hMe : Met l y ws rm (va_Pc [.ref b] P) (iQ D b l1) mc ms (iA b)) (cw : CallB R s args own index y bytes maxL none ws rm mc ms 0 ∧ y.name = "<init>" ∧ (Cond.instanceMethod y).before args s = true) (hbl : FrameBlind (va_Pc [.ref b] P)) (hP : ∀ U : State, U.heap = H → s.WarmedH U.vm → P U) (hF : FL D z (l0 ++ [.inr (ci, fs)]) H) (hb : z + l0.length = b) (hS : va_S A H0 H locs) (hA : ∀ q, b ≤ q → A q) (hsize : ls.size = nL) (hW : (rest.map fun v => v.category).sum ≤ 8) (hdg : decode cc pc = .ok (.invokespecial index, 3)) (hf : cells + mc ≤ R.cells ∧ slots + ms ≤ R.slots)
    (kk : ∀ (H1 : Heap) (locs1 : List Loc), FL D z (l0 ++ l1) H1 → (∀ q : Nat, q < b → H1[q]? = H[q]?) → va_S A H0 H1 locs1 → W p l e R s m args below meth c H1 locs1 (cells + mc) (slots + ms) Q (F0 m (pc + 3) ls rest)) : W p l e R s m args below meth c H locs cells slots Q (F0 m pc ls (.ref b :: rest)) := by
  subst hb
  refine va_callv (va_runI (As := []) (rest := rest) (b := z + l0.length) CF hMe cw ⟨hbl, fun U hU hW2 => ⟨rfl, hP U hU hW2⟩⟩ rfl rfl hsize rfl (lv_room hW) hdg hf) hS (A0 := A) (fun q _ h => hA q h) (fun q h => hA q h) (fun u t H1 locs1 ht hvm hw hQ hz1 hk1 hS1 => ?_)
  have hlt := hF.last.1
  have hk : ∀ q : Nat, q < z + l0.length → H1[q]? = H[q]? := fun q hq => hk1 q (by omega) (fun h => by have : z + l0.length ≤ q := h; omega)
  exact kk H1 locs1 (hF.init (by rw [← ht]; exact hQ) hk) hk hS1
end FR
