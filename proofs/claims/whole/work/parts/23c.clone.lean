/-! ===== a row's clone ===== -/
section CL
variable {p : Program} {l : Launch} {e : Env} {R : Room} {s : State} {m : MethodId} {args : Array Value} {below : List Frame} {meth : Method} {c : Code} {H : Heap} {locs : List Loc} {cells slots : Nat} {Q : State → Prop}
variable {cc : ByteArray} {pc : Nat} {ls : Array Slot} {rest : List Value} {D : va_G} {cy : Nat → ClassId} {e0 : Nat} {bd w bd1 w1 : Nat → Nat → Nat} {mm m2 : Md} {S S2 : Int64}
variable {Ts ws ws' : List Cond} {bytes : ByteArray} {nL maxL index n mc ms : Nat} {own : String} {y : MethodName} {ret : Option FieldType} {rm : Room}

theorem m_clone {A : Nat → Prop} {H0 : Heap} {i : Nat} (hx : p.tables.exec = Jvm.exec) (hb : c.code = cc) (hml : c.maxLocals = ls.size) (hown : s.vm.findClass own = some m.cls)
    (hlink : (Cond.methodLink own index ⟨"[I", "clone", "()Ljava/lang/Object;"⟩).before args s = true) (hsame : (Cond.sameMethod "[I" "java/lang/Object" "clone" "()Ljava/lang/Object;").before args s = true)
    (hnat : (Cond.native ⟨"java/lang/Object", "clone", "()Ljava/lang/Object;"⟩).before args s = true) (hinst : (Cond.instanceMethod ⟨"java/lang/Object", "clone", "()Ljava/lang/Object;"⟩).before args s = true)
    (hsel : (Cond.selects "[I" ⟨"[I", "clone", "()Ljava/lang/Object;"⟩ ⟨"java/lang/Object", "clone", "()Ljava/lang/Object;"⟩).before args s = true) (hcl : va_Nw (.castable "[I" "java/lang/Cloneable") s)
    (hK : va_K D vwCl (qtys cy) s) (hM : MW D cy bd w mm S H) (hS : va_S A H0 H locs) (hi : rV w i) {N : Nat} (hN : rl w i = N) (h4 : w 0 4 < 50)
    (hframes : 1 ≤ R.frames) (hlocals : (rest.map fun v => v.category).sum + 14 ≤ R.locals) (hR : cells + 1 ≤ R.cells ∧ slots + N ≤ R.slots) (hdg : decode cc pc = .ok (.invokevirtual index, 3))
    (kk : ∀ (bd2 : Nat → Nat → Nat) (H1 : Heap), mN bd w bd2 H.size H.size → MW D cy bd2 (wN w N) (rz mm (400 + w 0 4) (fun k => mm i k)) S H1 → va_S A H0 H1 locs → W p l e R s m args below meth c H1 locs (cells + 1) (slots + N) Q (F0 m (pc + 3) ls (.ref (bd2 3 (400 + w 0 4)) :: rest))) : W p l e R s m args below meth c H locs cells slots Q (F0 m pc ls (.ref (bd 3 i) :: rest)) := by
  subst hN
  have hat := hM.2.2.2 3 i hi
  have hsz : (vp_cell (cy 0) (rl w i, q_ints (fun k => mm i k))).slots.size = rl w i := arrV_size _ _ _
  obtain ⟨c0, t0', f1, f2, f3⟩ := Cond.castable_spec (va_Nw.use (A := args) rfl hcl)
  have hnm : s.vm.findClass "[I" = some (cy 0) := (hK.2 0 _ rfl).2
  cases hnm.symm.trans f1
  intro T hT X
  have hcellT : T.heap[bd 3 i]? = some (vp_cell (cy 0) (rl w i, q_ints (fun k => mm i k))) := by rw [hT]; exact hat
  obtain ⟨-, kA, hkA, comp, hkind⟩ := State.isArrayOf_alike X.warmed.alike ((hK.2 0 _ rfl).1 0 (fun _ => .null))
  obtain ⟨-, kS, hkS, compS, hkindS⟩ := (hK.2 0 _ rfl).1 0 (fun _ => .null)
  obtain ⟨vm', X', st⟩ := X.cloneArray hx hown hlink hsame hnat hinst hsel (a := bd 3 i) (cell := vp_cell (cy 0) (rl w i, q_ints (fun k => mm i k))) hcellT (fun k h => by cases h) (fun h => by cases h) hnm f2 f3
    (fun j v hv => by
      have hk' : T.vm.classes[cy 0]? = some kA := hkA
      have hv2 : fits .int v = true := by
        by_cases hj : j < rl w i
        · have e : (vp_cell (cy 0) (rl w i, q_ints (fun k => mm i k))).slots[j]? = some (.int (mm i j)) := by show (arrV _ _ _).slots[_]? = _; rw [arrV_read _ _ hj]
          rw [e] at hv
          cases hv
          rfl
        · have : (vp_cell (cy 0) (rl w i, q_ints (fun k => mm i k))).slots[j]? = none := Array.getElem?_eq_none (by rw [hsz]; omega)
          rw [this] at hv
          cases hv
      have e0 : (vp_cell (cy 0) (rl w i, q_ints (fun k => mm i k))).cls = cy 0 := rfl
      rw [e0]
      simpa [State.fitsSlot, State.slotType?, hk', hkind] using hv2)
    (g := F0 m pc ls (.ref (bd 3 i) :: rest)) rfl (by rw [hml]) rfl (by rw [hb]; exact hdg) hframes (by show 2 * 0 + _ + 14 ≤ _; omega) hR.1 (by rw [hsz]; exact hR.2) (hloader := Vm.clonesLoader_of_array hkS hkindS)
  rw [hsz] at X'
  generalize hH1 : H.push (vp_cell (cy 0) (rl w i, q_ints (fun k => mm i k))) = H1
  have z1 : H1.size = H.size + 1 := by rw [← hH1, Array.size_push]
  have e1 : H1[H.size]? = some (vp_cell (cy 0) (rl w i, q_ints (fun k => mm i k))) := by rw [← hH1, Array.getElem?_push_size]
  have o1 : ∀ q : Nat, q < H.size → H1[q]? = H[q]? := fun q hq => by rw [← hH1, Array.getElem?_push, if_neg (Nat.ne_of_lt hq)]
  obtain ⟨bd2, E1, E2, E3, E4⟩ := hM.new (N := rl w i) (f := fun k => mm i k) h4 e1 o1
  have hS1 : va_S A H0 H1 locs := ⟨Nat.le_trans hS.1 (by omega), fun q a b => by rw [o1 q (Nat.lt_of_lt_of_le a hS.1)]; exact hS.2.1 q a b, hS.2.2⟩
  have k := kk bd2 H1 ⟨E1, E2, E3, Nat.le_refl _⟩ E4 hS1
  rw [E3] at k
  obtain ⟨t, b1, b2⟩ := k ((T.setVm vm').pushCell (vp_cell (cy 0) (rl w i, q_ints (fun k => mm i k)))) (by rw [← hH1, ← hT]; rfl) X'
  refine ⟨t, st t ?_, b2⟩
  rw [hT]
  exact b1
end CL
