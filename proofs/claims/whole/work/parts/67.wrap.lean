/-! ===== the law's wrappers: the class's world and the law's out cell ===== -/
def LNc (s : State) : Prop := (va_Nc "java/lang/IllegalArgumentException" "java/lang/IndexOutOfBoundsException" s ∧ va_Nc "java/lang/IllegalStateException" "java/lang/IndexOutOfBoundsException" s ∧ va_Nc "java/lang/IllegalStateException" "java/lang/IllegalArgumentException" s) ∧ ∀ a : Array Value, (Cond.classLink RL 13 "java/lang/IllegalArgumentException").before a s = true ∧ (Cond.classLink RL 15 "java/lang/IllegalStateException").before a s = true ∧ (Cond.classLink RL 21 "java/lang/IndexOutOfBoundsException").before a s = true
theorem LNc.warm {s U : State} (hW : s.WarmedH U.vm) (h : LNc s) : LNc U := ⟨⟨h.1.1.moved hW.alike, h.1.2.1.moved hW.alike, h.1.2.2.moved hW.alike⟩, fun a => ⟨word_at hW (Or.inl rfl) (h.2 a).1, word_at hW (Or.inl rfl) (h.2 a).2.1, word_at hW (Or.inl rfl) (h.2 a).2.2⟩⟩
def oA (ad : Nat → Nat → Nat) (o sz : Nat) : Nat → Prop := fun q => cA ad sz q ∨ q = o
/-- the out cell's row: one long -/
def lo1 (v : Int64) : Nat → Int64 := fun q => if q = 0 then v else 0
def OW (D : va_G) (cy : Nat → ClassId) (ad : Nat → Nat → Nat) (g : Gd) (o : Nat) (vo : Int64) (H : Heap) : Prop := CW D cy ad g H ∧ va_at D vwCl (o, .inl (cy 6, (1, .inr (.inl (lo1 vo))))) H
def oN (ad : Nat → Nat → Nat) (o : Nat) : Prop := ∀ κ i : Nat, cV κ i → ad κ i ≠ o
abbrev oPre (D : va_G) (cy : Nat → ClassId) (ad : Nat → Nat → Nat) (g : Gd) (o : Nat) (vo : Int64) (sz : Nat) : State → Prop := fun U => U.heap.size = sz ∧ OW D cy ad g o vo U.heap ∧ oN ad o ∧ CB D cy ad U ∧ LNc U
abbrev oQ (D : va_G) (cy : Nat → ClassId) (ad : Nat → Nat → Nat) (kv : Int32) (g2 : Gd) (o : Nat) (v2 : Int64) (sz : Nat) := va_Qi (fun (r : Int32) (_ : Unit) => r = kv) (fun _ t => OW D cy ad g2 o v2 t.heap) (oA ad o sz)
section OW
variable {p : Program} {l : Launch} {e : Env} {R : Room} {s : State} {m : MethodId} {args : Array Value} {below : List Frame} {meth : Method} {c : Code} {H : Heap} {locs : List Loc} {cells slots : Nat} {Q : State → Prop}
variable {cc : ByteArray} {pc : Nat} {ls : Array Slot} {rest : List Value} {D : va_G} {cy : Nat → ClassId} {ad : Nat → Nat → Nat} {g g2 : Gd}
variable {Ts ws ws' : List Cond} {bytes : ByteArray} {nL maxL index n mc ms : Nat} {own : String} {y : MethodName} {ret : Option FieldType} {rm : Room}
variable {o : Nat} {vo vo2 : Int64}
theorem OW.at {t : State} (ht : t.heap = H) (h : OW D cy ad g o vo H) : OW D cy ad g o vo t.heap := by rw [ht]; exact h
theorem o_callT {As : List Value} {cd : Nat} {v : Int32} (S : CallFix p m c cc nL s args Ts own) (hM : vx_Met l y ws rm (va_Pc (.ref (ad 0 0) :: As) (cPre D cy ad g s.heap.size)) (cXi D cy ad cd v g2 s.heap.size) (cXC D cy ad cd g s.heap.size) mc ms (cA ad s.heap.size)) (cw : CallW R s args own "CherryStation" index y bytes maxL ret ws rm mc ms n) (hB : CB D cy ad s) (hO : OW D cy ad g o vo s.heap) (hN : oN ad o) (hn : As.length = n) (hsize : ls.size = nL) (hW : (rest.map fun v => v.category).sum ≤ 8) (hdg : decode cc pc = .ok (.invokevirtual index, 3)) (hf : 0 + mc ≤ R.cells ∧ 0 + ms ≤ R.slots)
    (kx : ¬ cd = 0 → ∀ (H1 : Heap) (locs1 : List Loc) (q9 : Addr) (ce : Cell), OW D cy ad g o vo H1 → va_S (oA ad o s.heap.size) s.heap H1 locs1 → H1[q9]? = some ce → ce.vm = .none → s.vm.findClass (eN cd) = some ce.cls → vx_W p l e R s m args below meth c H1 locs1 (0 + mc) (0 + ms) Q (F0 m pc ls rest) q9)
    (kk : cd = 0 → ∀ (H1 : Heap) (locs1 : List Loc), OW D cy ad g2 o vo H1 → va_S (oA ad o s.heap.size) s.heap H1 locs1 → W p l e R s m args below meth c H1 locs1 (0 + mc) (0 + ms) Q (F0 m (pc + 3) ls (.int v :: rest))) : W p l e R s m args below meth c s.heap [] 0 0 Q (F0 m pc ls (As.reverse ++ .ref (ad 0 0) :: rest)) := by
  have hS0 : va_S (oA ad o s.heap.size) s.heap s.heap [] := va_S.rf
  have hSc : va_S (cA ad s.heap.size) s.heap s.heap [] := va_S.rf
  have hFc : ∀ q : Nat, cA ad s.heap.size q → oA ad o s.heap.size q := fun q h => Or.inl h
  have hat := hO.1 0 0 rfl
  have hrec := va_recv hB.1 (q_one hat) (ci := 8) (q0 := 0) rfl rfl
  have olt : o < s.heap.size := (show va_at D vwCl (o, _) s.heap from hO.2).lt
  have ono : ¬ cA ad s.heap.size o := fun z => z.elim (fun ⟨κ, i, hv, e⟩ => hN κ i hv e.symm) (fun z => absurd olt (Nat.not_lt.mpr z))
  refine vx_calli (vx_runV (As := As) (rest := rest) S hM cw ⟨cPre_blind, hrec, fun U hU hW2 => ⟨rfl, by rw [hU], CU2.mk hB hO.1 hSc hU hW2⟩⟩ rfl hn hsize rfl (lv_room hW) hdg hf) hS0 (fun q _ h => hFc q h) hFc (fun q _ h => hFc q h) (fun E ce q9 u t H1 locs1 ht hvm hp hBX hz1 hk1 hS1 hce hcv hcl => ?_) (fun r u t H1 locs1 ht hvm hw hBu hz1 hk1 hS1 => ?_)
  · obtain ⟨⟨hE, hne⟩, hCX⟩ := hBX
    subst hE
    exact kx hne H1 locs1 q9 ce ⟨by rw [← ht]; exact hCX, va_at.kept hO.2 (hk1 o olt ono)⟩ hS1 hce hcv hcl
  · obtain ⟨hc0, hw⟩ := hw
    subst hw
    exact kk hc0 H1 locs1 ⟨by rw [← ht]; exact hBu, va_at.kept hO.2 (hk1 o olt ono)⟩ hS1
theorem o_last (hx : p.tables.exec = Jvm.exec) (hb : c.code = cc) (hB : CB D cy ad s) (hO : OW D cy ad g o vo H) (hN : oN ad o) (hS : va_S (oA ad o s.heap.size) s.heap H locs) {x : Int64} (hdg : decode cc pc = .ok (.lastore, 1))
    (kk : ∀ (H1 : Heap) (locs1 : List Loc), OW D cy ad g o x H1 → va_S (oA ad o s.heap.size) s.heap H1 locs1 → W p l e R s m args below meth c H1 locs1 cells slots Q (F0 m (pc + 1) ls rest)) : W p l e R s m args below meth c H locs cells slots Q (F0 m pc ls (.long x :: .int 0 :: .ref o :: rest)) := by
  refine W.last hx hb (show H[o]? = some (vp_cell (cy 6) (1, .inr (.inl (lo1 vo)))) from hO.2) ((hB.1.2 6 _ rfl).1 1 (fun j => .long (lo1 vo j))) (fun q => by cases q) (by show ¬ ((0 : Int32) < 0 ∨ (arrV _ _ _).slots.size ≤ _); rw [arrV_size]; exact (by decide : ¬ ((0 : Int32) < 0 ∨ 1 ≤ (0 : Int32).toNatClampNeg))) rfl rfl hdg fun H1 e z oq => ?_
  refine kk H1 _ ⟨hO.1.kept (fun κ i hv => oq _ (hN κ i hv)), ?_⟩ (hS.put z oq (Or.inr rfl))
  show H1[o]? = some (vp_cell _ _)
  rw [e, vp_cell_l, vp_cell_l, arrV_store]
  congr 2
  funext q
  by_cases hq : q = 0
  · subst hq
    rfl
  · have e1 : (updV (fun j => Value.long (lo1 vo j)) (0 : Int32).toNatClampNeg (.long x)) q = .long (lo1 vo q) := if_neg hq
    rw [e1]
    unfold lo1
    rw [if_neg hq, if_neg hq]
theorem o_reti (hx : p.tables.exec = Jvm.exec) (hb : c.code = cc) (hr : meth.sig.returnType = some .int) (hO : OW D cy ad g o vo H) (hS : va_S (oA ad o s.heap.size) s.heap H locs) {v v2 : Int32} (hv : v = v2) (hg : g2 = g) (ho : vo2 = vo) (hlocks : meth.locks = false) (hdg : decode cc pc = .ok (.ireturn, 1)) : W p l e R s m args below meth c H locs cells slots (MQ below (oQ D cy ad v2 g2 o vo2 s.heap.size) args s cells slots (oA ad o s.heap.size)) (F0 m pc ls [.int v]) := by
  subst hg; subst ho
  exact W.iret hx hb hr (fun t ht hW => ⟨⟨v, (), rfl, hv, OW.at ht hO⟩, hS.F ht⟩) hS.2.2 hdg
end OW
