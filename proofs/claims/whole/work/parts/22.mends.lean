/-! ===== the reference's posts, ends and calls ===== -/
section MQ
variable {p : Program} {l : Launch} {e : Env} {R : Room} {s : State} {m : MethodId} {args : Array Value} {below : List Frame} {meth : Method} {c : Code} {H : Heap} {locs : List Loc} {cells slots : Nat} {Q : State → Prop}
variable {cc : ByteArray} {pc : Nat} {ls : Array Slot} {rest : List Value} {D : va_G} {cy : Nat → ClassId} {e0 : Nat} {bd w bd1 w1 : Nat → Nat → Nat} {mm m2 : Md} {S S2 : Int64}
variable {Ts ws ws' : List Cond} {bytes : ByteArray} {nL maxL index n mc ms : Nat} {own : String} {y : MethodName} {ret : Option FieldType} {rm : Room}

abbrev mQv (D : va_G) (cy : Nat → ClassId) (bd w : Nat → Nat → Nat) (m2 : Md) (S2 : Int64) (sz : Nat) := va_Qv (fun _ : Unit => True) (fun _ t => MW D cy bd w m2 S2 t.heap) (mA bd w sz)
abbrev mQi (D : va_G) (cy : Nat → ClassId) (bd w : Nat → Nat → Nat) (v : Int32) (m2 : Md) (S2 : Int64) (sz : Nat) := va_Qi (fun (r : Int32) (_ : Unit) => r = v) (fun _ t => MW D cy bd w m2 S2 t.heap) (mA bd w sz)
abbrev mQl (D : va_G) (cy : Nat → ClassId) (bd w : Nat → Nat → Nat) (v : Int64) (m2 : Md) (S2 : Int64) (sz : Nat) := va_Ql (fun (r : Int64) (_ : Unit) => r = v) (fun _ t => MW D cy bd w m2 S2 t.heap) (mA bd w sz)
abbrev mQr (D : va_G) (cy : Nat → ClassId) (bd w : Nat → Nat → Nat) (a : Nat) (m2 : Md) (S2 : Int64) (sz : Nat) := va_Qr (fun _ : Unit => True) (fun _ b t => b = a ∧ MW D cy bd w m2 S2 t.heap) (mA bd w sz)
/-- a row made for the caller -/
abbrev mQn (D : va_G) (cy : Nat → ClassId) (bd w : Nat → Nat → Nat) (N : Nat) (m2 : Md) (S2 : Int64) (sz : Nat) := va_Qr (fun _ : Nat → Nat → Nat => True) (fun bd2 b t => mN bd w bd2 b sz ∧ MW D cy bd2 (wN w N) m2 S2 t.heap) (mA bd w sz)

theorem m_retv (hx : p.tables.exec = Jvm.exec) (hb : c.code = cc) (hr : meth.sig.returnType = none) (hG : mG e0 bd w s.heap.size bd1 w1) (hM : MW D cy bd1 w1 mm S H) (hS : va_S (mA bd w s.heap.size) s.heap H locs) (hq : mEq w mm m2) (hlocks : meth.locks = false) (hdg : decode cc pc = .ok (.return_, 1)) : W p l e R s m args below meth c H locs cells slots (MQ below (mQv D cy bd w m2 S s.heap.size) args s cells slots (mA bd w s.heap.size)) (F0 m pc ls []) := by
  exact W.vret hx hb hr (fun t ht hW => ⟨⟨(), rfl, trivial, (MW.at ht (hM.drop hG.1 hq))⟩, hS.F ht⟩) hS.2.2 hdg
theorem m_reti (hx : p.tables.exec = Jvm.exec) (hb : c.code = cc) (hr : meth.sig.returnType = some .int) (hG : mG e0 bd w s.heap.size bd1 w1) (hM : MW D cy bd1 w1 mm S H) (hS : va_S (mA bd w s.heap.size) s.heap H locs) (hq : mEq w mm m2) {v v2 : Int32} (hv : v2 = v) (hlocks : meth.locks = false) (hdg : decode cc pc = .ok (.ireturn, 1)) : W p l e R s m args below meth c H locs cells slots (MQ below (mQi D cy bd w v2 m2 S s.heap.size) args s cells slots (mA bd w s.heap.size)) (F0 m pc ls [.int v]) := by
  subst hv
  exact W.iret hx hb hr (fun t ht hW => ⟨⟨v2, (), rfl, rfl, (MW.at ht (hM.drop hG.1 hq))⟩, hS.F ht⟩) hS.2.2 hdg
theorem m_retz (hx : p.tables.exec = Jvm.exec) (hb : c.code = cc) (hr : meth.sig.returnType = some .boolean) (hG : mG e0 bd w s.heap.size bd1 w1) (hM : MW D cy bd1 w1 mm S H) (hS : va_S (mA bd w s.heap.size) s.heap H locs) (hq : mEq w mm m2) {v v2 : Int32} (hv : v2 = v) (hn : narrow .boolean (.int v) = .int v) (hlocks : meth.locks = false) (hdg : decode cc pc = .ok (.ireturn, 1)) : W p l e R s m args below meth c H locs cells slots (MQ below (mQi D cy bd w v2 m2 S s.heap.size) args s cells slots (mA bd w s.heap.size)) (F0 m pc ls [.int v]) := by
  subst hv
  exact W.zret hx hb hr hn (fun t ht hW => ⟨⟨v2, (), rfl, rfl, (MW.at ht (hM.drop hG.1 hq))⟩, hS.F ht⟩) hS.2.2 hdg
theorem m_retl (hx : p.tables.exec = Jvm.exec) (hb : c.code = cc) (hr : meth.sig.returnType = some .long) (hG : mG e0 bd w s.heap.size bd1 w1) (hM : MW D cy bd1 w1 mm S H) (hS : va_S (mA bd w s.heap.size) s.heap H locs) (hq : mEq w mm m2) {v v2 : Int64} (hv : v2 = v) (hlocks : meth.locks = false) (hdg : decode cc pc = .ok (.lreturn, 1)) : W p l e R s m args below meth c H locs cells slots (MQ below (mQl D cy bd w v2 m2 S s.heap.size) args s cells slots (mA bd w s.heap.size)) (F0 m pc ls [.long v]) := by
  subst hv
  exact W.lret hx hb hr (fun t ht hW => ⟨⟨v2, (), rfl, rfl, (MW.at ht (hM.drop hG.1 hq))⟩, hS.F ht⟩) hS.2.2 hdg
theorem m_reta (hx : p.tables.exec = Jvm.exec) (hb : c.code = cc) (hG : mG e0 bd w s.heap.size bd1 w1) (hM : MW D cy bd1 w1 mm S H) (hS : va_S (mA bd w s.heap.size) s.heap H locs) (hq : mEq w mm m2) {v v2 : Nat} (hv : v2 = v) {nm : FieldType} (hr : meth.sig.returnType = some nm) (hnm : (∃ x, nm = .object x) ∨ ∃ x, nm = .array x) (hlocks : meth.locks = false) (hdg : decode cc pc = .ok (.areturn, 1)) : W p l e R s m args below meth c H locs cells slots (MQ below (mQr D cy bd w v2 m2 S s.heap.size) args s cells slots (mA bd w s.heap.size)) (F0 m pc ls [.ref v]) := by
  subst hv
  exact W.aret hx hb hr hnm (Or.inr ⟨_, rfl⟩) (fun t ht hW => ⟨⟨(), v2, rfl, trivial, rfl, (MW.at ht (hM.drop hG.1 hq))⟩, hS.F ht⟩) hS.2.2 hdg
theorem m_retn (hx : p.tables.exec = Jvm.exec) (hb : c.code = cc) {N v : Nat} (hN : mN bd w bd1 v s.heap.size) (hM : MW D cy bd1 (wN w N) mm S H) (hS : va_S (mA bd w s.heap.size) s.heap H locs) (hq : m2 = mm) {nm : FieldType} (hr : meth.sig.returnType = some nm) (hnm : (∃ x, nm = .object x) ∨ ∃ x, nm = .array x) (hlocks : meth.locks = false) (hdg : decode cc pc = .ok (.areturn, 1)) : W p l e R s m args below meth c H locs cells slots (MQ below (mQn D cy bd w N m2 S s.heap.size) args s cells slots (mA bd w s.heap.size)) (F0 m pc ls [.ref v]) := by
  subst hq
  exact W.aret hx hb hr hnm (Or.inr ⟨_, rfl⟩) (fun t ht hW => ⟨⟨bd1, v, rfl, trivial, hN, MW.at ht hM⟩, hS.F ht⟩) hS.2.2 hdg
end MQ
section MC
variable {p : Program} {l : Launch} {e : Env} {R : Room} {s : State} {m : MethodId} {args : Array Value} {below : List Frame} {meth : Method} {c : Code} {H : Heap} {locs : List Loc} {cells slots : Nat} {Q : State → Prop}
variable {cc : ByteArray} {pc : Nat} {ls : Array Slot} {rest : List Value} {D : va_G} {cy : Nat → ClassId} {e0 : Nat} {bd w bd1 w1 : Nat → Nat → Nat} {mm m2 : Md} {S S2 : Int64}
variable {Ts ws ws' : List Cond} {bytes : ByteArray} {nL maxL index n mc ms : Nat} {own : String} {y : MethodName} {ret : Option FieldType} {rm : Room}

theorem m_callVv  {C : String} {ci κ i : Nat} {q9 : vw_C} (hv : mV w1 κ i) (hc : vwCl[ci]? = some q9) (hfs : ∃ fs, mS cy bd1 w1 mm S κ i = .inr (ci, fs)) (hCq : q9.1 = C) {As : List Value} (CF : CallFix p m c cc nL s args Ts own) (hMe : Met l y ws rm (va_Pc (.ref (bd1 κ i) :: As) (mPre D cy e0 bd1 w1 mm S H.size)) (mQv D cy bd1 w1 m2 S2 H.size) mc ms (mA bd1 w1 H.size)) (cw : CallW R s args own C index y bytes maxL ret ws rm mc ms n) (hB : MB D cy e0 bd w s) (hG : mG0 e0 bd w s.heap.size bd1 w1) (hM : MW D cy bd1 w1 mm S H) (hS : va_S (mA bd w s.heap.size) s.heap H locs) (hn : As.length = n) (hsize : ls.size = nL) (hW : (rest.map fun v => v.category).sum ≤ 8) (hdg : decode cc pc = .ok (.invokevirtual index, 3)) (hf : cells + mc ≤ R.cells ∧ slots + ms ≤ R.slots)
    (kk : ∀ (H1 : Heap) (locs1 : List Loc), MW D cy bd1 w1 m2 S2 H1 → va_S (mA bd w s.heap.size) s.heap H1 locs1 → W p l e R s m args below meth c H1 locs1 (cells + mc) (slots + ms) Q (F0 m (pc + 3) ls rest)) : W p l e R s m args below meth c H locs cells slots Q (F0 m pc ls (As.reverse ++ .ref (bd1 κ i) :: rest)) := by
  have hFc : ∀ q : Nat, mA bd1 w1 H.size q → mA bd w s.heap.size q := fun q h => mA_in hG.1 hS.1 h
  obtain ⟨fs, hfs⟩ := hfs
  have hat := hM.2.2.2 κ i hv
  rw [hfs] at hat
  have hrec := va_recv hB.1 (q_one hat) hc (q0 := 0) rfl
  rw [hCq] at hrec
  refine va_callv (va_runV (As := As) (rest := rest) CF hMe cw ⟨mPre_blind, hrec, fun U hU hW2 => ⟨rfl, by rw [hU], MU.mk hB hM hG.1 hG.2 hS hU hW2⟩⟩ rfl hn hsize rfl (lv_room hW) hdg hf) hS (fun q _ h => hFc q h) hFc (fun u t H1 locs1 ht hvm hw hBu hz1 hk1 hS1 => ?_)
  exact kk H1 locs1 (by rw [← ht]; exact hBu) hS1
theorem m_callVi {v : Int32} {C : String} {ci κ i : Nat} {q9 : vw_C} (hv : mV w1 κ i) (hc : vwCl[ci]? = some q9) (hfs : ∃ fs, mS cy bd1 w1 mm S κ i = .inr (ci, fs)) (hCq : q9.1 = C) {As : List Value} (CF : CallFix p m c cc nL s args Ts own) (hMe : Met l y ws rm (va_Pc (.ref (bd1 κ i) :: As) (mPre D cy e0 bd1 w1 mm S H.size)) (mQi D cy bd1 w1 v m2 S2 H.size) mc ms (mA bd1 w1 H.size)) (cw : CallW R s args own C index y bytes maxL ret ws rm mc ms n) (hB : MB D cy e0 bd w s) (hG : mG0 e0 bd w s.heap.size bd1 w1) (hM : MW D cy bd1 w1 mm S H) (hS : va_S (mA bd w s.heap.size) s.heap H locs) (hn : As.length = n) (hsize : ls.size = nL) (hW : (rest.map fun v => v.category).sum ≤ 8) (hdg : decode cc pc = .ok (.invokevirtual index, 3)) (hf : cells + mc ≤ R.cells ∧ slots + ms ≤ R.slots)
    (kk : ∀ (H1 : Heap) (locs1 : List Loc), MW D cy bd1 w1 m2 S2 H1 → va_S (mA bd w s.heap.size) s.heap H1 locs1 → W p l e R s m args below meth c H1 locs1 (cells + mc) (slots + ms) Q (F0 m (pc + 3) ls (.int v :: rest))) : W p l e R s m args below meth c H locs cells slots Q (F0 m pc ls (As.reverse ++ .ref (bd1 κ i) :: rest)) := by
  have hFc : ∀ q : Nat, mA bd1 w1 H.size q → mA bd w s.heap.size q := fun q h => mA_in hG.1 hS.1 h
  obtain ⟨fs, hfs⟩ := hfs
  have hat := hM.2.2.2 κ i hv
  rw [hfs] at hat
  have hrec := va_recv hB.1 (q_one hat) hc (q0 := 0) rfl
  rw [hCq] at hrec
  refine va_calli (va_runV (As := As) (rest := rest) CF hMe cw ⟨mPre_blind, hrec, fun U hU hW2 => ⟨rfl, by rw [hU], MU.mk hB hM hG.1 hG.2 hS hU hW2⟩⟩ rfl hn hsize rfl (lv_room hW) hdg hf) hS (fun q _ h => hFc q h) hFc (fun r u t H1 locs1 ht hvm hw hBu hz1 hk1 hS1 => ?_)
  have hw : r = v := hw
  subst hw
  exact kk H1 locs1 (by rw [← ht]; exact hBu) hS1
theorem m_callVl {v : Int64} {C : String} {ci κ i : Nat} {q9 : vw_C} (hv : mV w1 κ i) (hc : vwCl[ci]? = some q9) (hfs : ∃ fs, mS cy bd1 w1 mm S κ i = .inr (ci, fs)) (hCq : q9.1 = C) {As : List Value} (CF : CallFix p m c cc nL s args Ts own) (hMe : Met l y ws rm (va_Pc (.ref (bd1 κ i) :: As) (mPre D cy e0 bd1 w1 mm S H.size)) (mQl D cy bd1 w1 v m2 S2 H.size) mc ms (mA bd1 w1 H.size)) (cw : CallW R s args own C index y bytes maxL ret ws rm mc ms n) (hB : MB D cy e0 bd w s) (hG : mG0 e0 bd w s.heap.size bd1 w1) (hM : MW D cy bd1 w1 mm S H) (hS : va_S (mA bd w s.heap.size) s.heap H locs) (hn : As.length = n) (hsize : ls.size = nL) (hW : (rest.map fun v => v.category).sum ≤ 8) (hdg : decode cc pc = .ok (.invokevirtual index, 3)) (hf : cells + mc ≤ R.cells ∧ slots + ms ≤ R.slots)
    (kk : ∀ (H1 : Heap) (locs1 : List Loc), MW D cy bd1 w1 m2 S2 H1 → va_S (mA bd w s.heap.size) s.heap H1 locs1 → W p l e R s m args below meth c H1 locs1 (cells + mc) (slots + ms) Q (F0 m (pc + 3) ls (.long v :: rest))) : W p l e R s m args below meth c H locs cells slots Q (F0 m pc ls (As.reverse ++ .ref (bd1 κ i) :: rest)) := by
  have hFc : ∀ q : Nat, mA bd1 w1 H.size q → mA bd w s.heap.size q := fun q h => mA_in hG.1 hS.1 h
  obtain ⟨fs, hfs⟩ := hfs
  have hat := hM.2.2.2 κ i hv
  rw [hfs] at hat
  have hrec := va_recv hB.1 (q_one hat) hc (q0 := 0) rfl
  rw [hCq] at hrec
  refine va_calll (va_runV (As := As) (rest := rest) CF hMe cw ⟨mPre_blind, hrec, fun U hU hW2 => ⟨rfl, by rw [hU], MU.mk hB hM hG.1 hG.2 hS hU hW2⟩⟩ rfl hn hsize rfl (lv_room hW) hdg hf) hS (fun q _ h => hFc q h) hFc (fun r u t H1 locs1 ht hvm hw hBu hz1 hk1 hS1 => ?_)
  have hw : r = v := hw
  subst hw
  exact kk H1 locs1 (by rw [← ht]; exact hBu) hS1
theorem m_callVr {v : Nat} {C : String} {ci κ i : Nat} {q9 : vw_C} (hv : mV w1 κ i) (hc : vwCl[ci]? = some q9) (hfs : ∃ fs, mS cy bd1 w1 mm S κ i = .inr (ci, fs)) (hCq : q9.1 = C) {As : List Value} (CF : CallFix p m c cc nL s args Ts own) (hMe : Met l y ws rm (va_Pc (.ref (bd1 κ i) :: As) (mPre D cy e0 bd1 w1 mm S H.size)) (mQr D cy bd1 w1 v m2 S2 H.size) mc ms (mA bd1 w1 H.size)) (cw : CallW R s args own C index y bytes maxL ret ws rm mc ms n) (hB : MB D cy e0 bd w s) (hG : mG0 e0 bd w s.heap.size bd1 w1) (hM : MW D cy bd1 w1 mm S H) (hS : va_S (mA bd w s.heap.size) s.heap H locs) (hn : As.length = n) (hsize : ls.size = nL) (hW : (rest.map fun v => v.category).sum ≤ 8) (hdg : decode cc pc = .ok (.invokevirtual index, 3)) (hf : cells + mc ≤ R.cells ∧ slots + ms ≤ R.slots)
    (kk : ∀ (H1 : Heap) (locs1 : List Loc), MW D cy bd1 w1 m2 S2 H1 → va_S (mA bd w s.heap.size) s.heap H1 locs1 → W p l e R s m args below meth c H1 locs1 (cells + mc) (slots + ms) Q (F0 m (pc + 3) ls (.ref v :: rest))) : W p l e R s m args below meth c H locs cells slots Q (F0 m pc ls (As.reverse ++ .ref (bd1 κ i) :: rest)) := by
  have hFc : ∀ q : Nat, mA bd1 w1 H.size q → mA bd w s.heap.size q := fun q h => mA_in hG.1 hS.1 h
  obtain ⟨fs, hfs⟩ := hfs
  have hat := hM.2.2.2 κ i hv
  rw [hfs] at hat
  have hrec := va_recv hB.1 (q_one hat) hc (q0 := 0) rfl
  rw [hCq] at hrec
  refine va_callr (va_runV (As := As) (rest := rest) CF hMe cw ⟨mPre_blind, hrec, fun U hU hW2 => ⟨rfl, by rw [hU], MU.mk hB hM hG.1 hG.2 hS hU hW2⟩⟩ rfl hn hsize rfl (lv_room hW) hdg hf) hS (fun q _ h => hFc q h) hFc (fun u r t H1 locs1 ht hvm hw hBu hz1 hk1 hS1 => ?_)
  obtain ⟨e9, hBu⟩ := hBu
  subst e9
  exact kk H1 locs1 (by rw [← ht]; exact hBu) hS1
theorem m_callVn {N : Nat} {C : String} {ci κ i : Nat} {q9 : vw_C} (hv : mV w1 κ i) (hc : vwCl[ci]? = some q9) (hfs : ∃ fs, mS cy bd1 w1 mm S κ i = .inr (ci, fs)) (hCq : q9.1 = C) {As : List Value} (CF : CallFix p m c cc nL s args Ts own) (hMe : Met l y ws rm (va_Pc (.ref (bd1 κ i) :: As) (mPre D cy e0 bd1 w1 mm S H.size)) (mQn D cy bd1 w1 N m2 S2 H.size) mc ms (mA bd1 w1 H.size)) (cw : CallW R s args own C index y bytes maxL ret ws rm mc ms n) (hB : MB D cy e0 bd w s) (hG : mG0 e0 bd w s.heap.size bd1 w1) (hM : MW D cy bd1 w1 mm S H) (hS : va_S (mA bd w s.heap.size) s.heap H locs) (hn : As.length = n) (hsize : ls.size = nL) (hW : (rest.map fun v => v.category).sum ≤ 8) (hdg : decode cc pc = .ok (.invokevirtual index, 3)) (hf : cells + mc ≤ R.cells ∧ slots + ms ≤ R.slots)
    (kk : ∀ (bd2 : Nat → Nat → Nat) (H1 : Heap) (locs1 : List Loc), mN bd1 w1 bd2 (bd2 3 (400 + w1 0 4)) H.size → MW D cy bd2 (wN w1 N) m2 S2 H1 → va_S (mA bd w s.heap.size) s.heap H1 locs1 → W p l e R s m args below meth c H1 locs1 (cells + mc) (slots + ms) Q (F0 m (pc + 3) ls (.ref (bd2 3 (400 + w1 0 4)) :: rest))) : W p l e R s m args below meth c H locs cells slots Q (F0 m pc ls (As.reverse ++ .ref (bd1 κ i) :: rest)) := by
  have hFc : ∀ q : Nat, mA bd1 w1 H.size q → mA bd w s.heap.size q := fun q h => mA_in hG.1 hS.1 h
  obtain ⟨fs, hfs⟩ := hfs
  have hat := hM.2.2.2 κ i hv
  rw [hfs] at hat
  have hrec := va_recv hB.1 (q_one hat) hc (q0 := 0) rfl
  rw [hCq] at hrec
  refine va_callr (va_runV (As := As) (rest := rest) CF hMe cw ⟨mPre_blind, hrec, fun U hU hW2 => ⟨rfl, by rw [hU], MU.mk hB hM hG.1 hG.2 hS hU hW2⟩⟩ rfl hn hsize rfl (lv_room hW) hdg hf) hS (fun q _ h => hFc q h) hFc (fun bd2 r t H1 locs1 ht hvm hw hBu hz1 hk1 hS1 => ?_)
  obtain ⟨hN, hBu⟩ := hBu
  have e9 := hN.2.2.1
  subst e9
  exact kk bd2 H1 locs1 hN (by rw [← ht]; exact hBu) hS1
theorem m_callSv   {As : List Value} (CF : CallFix p m c cc nL s args Ts own) (hMe : Met l y ws rm (va_Pc (As) (mPre D cy e0 bd1 w1 mm S H.size)) (mQv D cy bd1 w1 m2 S2 H.size) mc ms (mA bd1 w1 H.size)) (cw : CallB R s args own index y bytes maxL ret ws rm mc ms n ∧ (Cond.static y).before args s = true) (hB : MB D cy e0 bd w s) (hG : mG0 e0 bd w s.heap.size bd1 w1) (hM : MW D cy bd1 w1 mm S H) (hS : va_S (mA bd w s.heap.size) s.heap H locs) (hn : As.length = n) (hsize : ls.size = nL) (hW : (rest.map fun v => v.category).sum ≤ 8) (hdg : decode cc pc = .ok (.invokestatic index, 3)) (hf : cells + mc ≤ R.cells ∧ slots + ms ≤ R.slots)
    (kk : ∀ (H1 : Heap) (locs1 : List Loc), MW D cy bd1 w1 m2 S2 H1 → va_S (mA bd w s.heap.size) s.heap H1 locs1 → W p l e R s m args below meth c H1 locs1 (cells + mc) (slots + ms) Q (F0 m (pc + 3) ls rest)) : W p l e R s m args below meth c H locs cells slots Q (F0 m pc ls (As.reverse ++ rest)) := by
  have hFc : ∀ q : Nat, mA bd1 w1 H.size q → mA bd w s.heap.size q := fun q h => mA_in hG.1 hS.1 h
  refine va_callv (va_runS (As := As) (rest := rest) CF hMe cw ⟨mPre_blind, fun U hU hW2 => ⟨rfl, by rw [hU], MU.mk hB hM hG.1 hG.2 hS hU hW2⟩⟩ rfl hn hsize rfl (lv_room hW) hdg hf) hS (fun q _ h => hFc q h) hFc (fun u t H1 locs1 ht hvm hw hBu hz1 hk1 hS1 => ?_)
  exact kk H1 locs1 (by rw [← ht]; exact hBu) hS1
theorem m_callSi {v : Int32}  {As : List Value} (CF : CallFix p m c cc nL s args Ts own) (hMe : Met l y ws rm (va_Pc (As) (mPre D cy e0 bd1 w1 mm S H.size)) (mQi D cy bd1 w1 v m2 S2 H.size) mc ms (mA bd1 w1 H.size)) (cw : CallB R s args own index y bytes maxL ret ws rm mc ms n ∧ (Cond.static y).before args s = true) (hB : MB D cy e0 bd w s) (hG : mG0 e0 bd w s.heap.size bd1 w1) (hM : MW D cy bd1 w1 mm S H) (hS : va_S (mA bd w s.heap.size) s.heap H locs) (hn : As.length = n) (hsize : ls.size = nL) (hW : (rest.map fun v => v.category).sum ≤ 8) (hdg : decode cc pc = .ok (.invokestatic index, 3)) (hf : cells + mc ≤ R.cells ∧ slots + ms ≤ R.slots)
    (kk : ∀ (H1 : Heap) (locs1 : List Loc), MW D cy bd1 w1 m2 S2 H1 → va_S (mA bd w s.heap.size) s.heap H1 locs1 → W p l e R s m args below meth c H1 locs1 (cells + mc) (slots + ms) Q (F0 m (pc + 3) ls (.int v :: rest))) : W p l e R s m args below meth c H locs cells slots Q (F0 m pc ls (As.reverse ++ rest)) := by
  have hFc : ∀ q : Nat, mA bd1 w1 H.size q → mA bd w s.heap.size q := fun q h => mA_in hG.1 hS.1 h
  refine va_calli (va_runS (As := As) (rest := rest) CF hMe cw ⟨mPre_blind, fun U hU hW2 => ⟨rfl, by rw [hU], MU.mk hB hM hG.1 hG.2 hS hU hW2⟩⟩ rfl hn hsize rfl (lv_room hW) hdg hf) hS (fun q _ h => hFc q h) hFc (fun r u t H1 locs1 ht hvm hw hBu hz1 hk1 hS1 => ?_)
  have hw : r = v := hw
  subst hw
  exact kk H1 locs1 (by rw [← ht]; exact hBu) hS1
theorem m_callSl {v : Int64}  {As : List Value} (CF : CallFix p m c cc nL s args Ts own) (hMe : Met l y ws rm (va_Pc (As) (mPre D cy e0 bd1 w1 mm S H.size)) (mQl D cy bd1 w1 v m2 S2 H.size) mc ms (mA bd1 w1 H.size)) (cw : CallB R s args own index y bytes maxL ret ws rm mc ms n ∧ (Cond.static y).before args s = true) (hB : MB D cy e0 bd w s) (hG : mG0 e0 bd w s.heap.size bd1 w1) (hM : MW D cy bd1 w1 mm S H) (hS : va_S (mA bd w s.heap.size) s.heap H locs) (hn : As.length = n) (hsize : ls.size = nL) (hW : (rest.map fun v => v.category).sum ≤ 8) (hdg : decode cc pc = .ok (.invokestatic index, 3)) (hf : cells + mc ≤ R.cells ∧ slots + ms ≤ R.slots)
    (kk : ∀ (H1 : Heap) (locs1 : List Loc), MW D cy bd1 w1 m2 S2 H1 → va_S (mA bd w s.heap.size) s.heap H1 locs1 → W p l e R s m args below meth c H1 locs1 (cells + mc) (slots + ms) Q (F0 m (pc + 3) ls (.long v :: rest))) : W p l e R s m args below meth c H locs cells slots Q (F0 m pc ls (As.reverse ++ rest)) := by
  have hFc : ∀ q : Nat, mA bd1 w1 H.size q → mA bd w s.heap.size q := fun q h => mA_in hG.1 hS.1 h
  refine va_calll (va_runS (As := As) (rest := rest) CF hMe cw ⟨mPre_blind, fun U hU hW2 => ⟨rfl, by rw [hU], MU.mk hB hM hG.1 hG.2 hS hU hW2⟩⟩ rfl hn hsize rfl (lv_room hW) hdg hf) hS (fun q _ h => hFc q h) hFc (fun r u t H1 locs1 ht hvm hw hBu hz1 hk1 hS1 => ?_)
  have hw : r = v := hw
  subst hw
  exact kk H1 locs1 (by rw [← ht]; exact hBu) hS1
theorem m_callSr {v : Nat}  {As : List Value} (CF : CallFix p m c cc nL s args Ts own) (hMe : Met l y ws rm (va_Pc (As) (mPre D cy e0 bd1 w1 mm S H.size)) (mQr D cy bd1 w1 v m2 S2 H.size) mc ms (mA bd1 w1 H.size)) (cw : CallB R s args own index y bytes maxL ret ws rm mc ms n ∧ (Cond.static y).before args s = true) (hB : MB D cy e0 bd w s) (hG : mG0 e0 bd w s.heap.size bd1 w1) (hM : MW D cy bd1 w1 mm S H) (hS : va_S (mA bd w s.heap.size) s.heap H locs) (hn : As.length = n) (hsize : ls.size = nL) (hW : (rest.map fun v => v.category).sum ≤ 8) (hdg : decode cc pc = .ok (.invokestatic index, 3)) (hf : cells + mc ≤ R.cells ∧ slots + ms ≤ R.slots)
    (kk : ∀ (H1 : Heap) (locs1 : List Loc), MW D cy bd1 w1 m2 S2 H1 → va_S (mA bd w s.heap.size) s.heap H1 locs1 → W p l e R s m args below meth c H1 locs1 (cells + mc) (slots + ms) Q (F0 m (pc + 3) ls (.ref v :: rest))) : W p l e R s m args below meth c H locs cells slots Q (F0 m pc ls (As.reverse ++ rest)) := by
  have hFc : ∀ q : Nat, mA bd1 w1 H.size q → mA bd w s.heap.size q := fun q h => mA_in hG.1 hS.1 h
  refine va_callr (va_runS (As := As) (rest := rest) CF hMe cw ⟨mPre_blind, fun U hU hW2 => ⟨rfl, by rw [hU], MU.mk hB hM hG.1 hG.2 hS hU hW2⟩⟩ rfl hn hsize rfl (lv_room hW) hdg hf) hS (fun q _ h => hFc q h) hFc (fun u r t H1 locs1 ht hvm hw hBu hz1 hk1 hS1 => ?_)
  obtain ⟨e9, hBu⟩ := hBu
  subst e9
  exact kk H1 locs1 (by rw [← ht]; exact hBu) hS1
theorem m_callSn {N : Nat}  {As : List Value} (CF : CallFix p m c cc nL s args Ts own) (hMe : Met l y ws rm (va_Pc (As) (mPre D cy e0 bd1 w1 mm S H.size)) (mQn D cy bd1 w1 N m2 S2 H.size) mc ms (mA bd1 w1 H.size)) (cw : CallB R s args own index y bytes maxL ret ws rm mc ms n ∧ (Cond.static y).before args s = true) (hB : MB D cy e0 bd w s) (hG : mG0 e0 bd w s.heap.size bd1 w1) (hM : MW D cy bd1 w1 mm S H) (hS : va_S (mA bd w s.heap.size) s.heap H locs) (hn : As.length = n) (hsize : ls.size = nL) (hW : (rest.map fun v => v.category).sum ≤ 8) (hdg : decode cc pc = .ok (.invokestatic index, 3)) (hf : cells + mc ≤ R.cells ∧ slots + ms ≤ R.slots)
    (kk : ∀ (bd2 : Nat → Nat → Nat) (H1 : Heap) (locs1 : List Loc), mN bd1 w1 bd2 (bd2 3 (400 + w1 0 4)) H.size → MW D cy bd2 (wN w1 N) m2 S2 H1 → va_S (mA bd w s.heap.size) s.heap H1 locs1 → W p l e R s m args below meth c H1 locs1 (cells + mc) (slots + ms) Q (F0 m (pc + 3) ls (.ref (bd2 3 (400 + w1 0 4)) :: rest))) : W p l e R s m args below meth c H locs cells slots Q (F0 m pc ls (As.reverse ++ rest)) := by
  have hFc : ∀ q : Nat, mA bd1 w1 H.size q → mA bd w s.heap.size q := fun q h => mA_in hG.1 hS.1 h
  refine va_callr (va_runS (As := As) (rest := rest) CF hMe cw ⟨mPre_blind, fun U hU hW2 => ⟨rfl, by rw [hU], MU.mk hB hM hG.1 hG.2 hS hU hW2⟩⟩ rfl hn hsize rfl (lv_room hW) hdg hf) hS (fun q _ h => hFc q h) hFc (fun bd2 r t H1 locs1 ht hvm hw hBu hz1 hk1 hS1 => ?_)
  obtain ⟨hN, hBu⟩ := hBu
  have e9 := hN.2.2.1
  subst e9
  exact kk bd2 H1 locs1 hN (by rw [← ht]; exact hBu) hS1
theorem m_callFi {v : Int32} {x : MethodName} {C : String} {i count : Nat} (hv : mV w1 6 i) (hCq : "java/util/ArrayList$Itr" = C) {As : List Value} (CF : CallFix p m c cc nL s args Ts own) (hMe : Met l y ws rm (va_Pc (.ref (bd1 6 i) :: As) (mPre D cy e0 bd1 w1 mm S H.size)) (mQi D cy bd1 w1 v m2 S2 H.size) mc ms (mA bd1 w1 H.size)) (cw : va_CI R s args own C index x y bytes maxL ret ws rm mc ms n) (hB : MB D cy e0 bd w s) (hG : mG0 e0 bd w s.heap.size bd1 w1) (hM : MW D cy bd1 w1 mm S H) (hS : va_S (mA bd w s.heap.size) s.heap H locs) (hn : As.length = n) (hsize : ls.size = nL) (hW : (rest.map fun v => v.category).sum ≤ 8) (hdg : decode cc pc = .ok (.invokeinterface index count, 5)) (hf : cells + mc ≤ R.cells ∧ slots + ms ≤ R.slots)
    (kk : ∀ (H1 : Heap) (locs1 : List Loc), MW D cy bd1 w1 m2 S2 H1 → va_S (mA bd w s.heap.size) s.heap H1 locs1 → W p l e R s m args below meth c H1 locs1 (cells + mc) (slots + ms) Q (F0 m (pc + 5) ls (.int v :: rest))) : W p l e R s m args below meth c H locs cells slots Q (F0 m pc ls (As.reverse ++ .ref (bd1 6 i) :: rest)) := by
  have hFc : ∀ q : Nat, mA bd1 w1 H.size q → mA bd w s.heap.size q := fun q h => mA_in hG.1 hS.1 h
  subst hCq
  have hat := hM.2.2.2 6 i hv
  have hrec := va_recv (ci := 0) hB.1 (q_one hat) rfl (q0 := 0) rfl
  refine va_callFi (va_runF (hB.1.1 0 _ rfl).2 (As := As) (rest := rest) CF hMe cw ⟨mPre_blind, hrec, fun U hU hW2 => ⟨rfl, by rw [hU], MU.mk hB hM hG.1 hG.2 hS hU hW2⟩⟩ rfl hn hsize rfl (lv_room hW) hdg hf) hS (fun q _ h => hFc q h) hFc (fun r u t H1 locs1 ht hvm hw hBu hz1 hk1 hS1 => ?_)
  have hw : r = v := hw
  subst hw
  exact kk H1 locs1 (by rw [← ht]; exact hBu) hS1
theorem m_cast (hx : p.tables.exec = Jvm.exec) (hb : c.code = cc) (hown : s.vm.findClass own = some m.cls) (hlink : (Cond.classLink own index "[I").before args s = true) (hK : va_K D vwCl (qtys cy) s) (hM : MW D cy bd w mm S H) {i : Nat} (hi : rV w i) (hdg : decode cc pc = .ok (.checkcast index, 3)) (k : W p l e R s m args below meth c H locs cells slots Q (F0 m (pc + 3) ls (.ref (bd 3 i) :: rest))) : W p l e R s m args below meth c H locs cells slots Q (F0 m pc ls (.ref (bd 3 i) :: rest)) :=
  va_castA hx hb hown hlink (q_one (hM.2.2.2 3 i hi)) 0 rfl (hK.2 0 _ rfl).2 hdg k
/-- a made row among the world's -/
theorem rV_new {w : Nat → Nat → Nat} {N : Nat} : rV (wN w N) (400 + w 0 4) := rV_N.mpr (Or.inr rfl)
theorem rl_new {w : Nat → Nat → Nat} {N : Nat} : rl (wN w N) (400 + w 0 4) = N := by
  unfold rl
  rw [if_neg (by omega), if_neg (by omega), if_neg (by omega), if_neg (by omega), Nat.add_sub_cancel_left]
  unfold wN
  rw [if_neg (by omega), if_pos ⟨rfl, rfl⟩]
theorem rV_D {i : Nat} (h : mD bd w bd1 w1) (hi : rV w i) : rV w1 i := (h.1 3 i hi).1
theorem rl_D {i : Nat} (h : mD bd w bd1 w1) (hw : wB w) (hi : rV w i) : rl w1 i = rl w i := by
  unfold rl
  by_cases h4 : i < 400
  · simp [h4]
  · unfold rV at hi
    unfold wB at hw
    simp only [h4, if_false]
    rw [h.2.2.2.1 (i - 400) (by omega)]
end MC
