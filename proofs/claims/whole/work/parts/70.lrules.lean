/-! ===== the law's world, and its calls ===== -/
abbrev cellsM := mP
def LA0 (s : State) : Nat → Prop := fun q => s.heap.size ≤ q
/-- what the law's start gives -/
def LWB (D : va_G) (cy : Nat → ClassId) (e0 : Nat) (s : State) : Prop := (va_K D vwCl (qtys cy) s) ∧ (qB s) ∧ (vx_Zq Bundle.tN "UNASSIGNED_STACK" Bundle.steD (fun _ => False) s s.heap ∧ vx_Zq Bundle.tN "SUPPRESSED_SENTINEL" Bundle.listD (fun _ => False) s s.heap) ∧ (va_Z "java/util/ArrayList" "DEFAULTCAPACITY_EMPTY_ELEMENTDATA" "[Ljava/lang/Object;" (.ref e0) (fun _ => False) s s.heap ∧ va_T (.object "java/lang/Object") e0 0 (fun _ => .null) (fun _ => False) s s.heap) ∧ (qF s) ∧ (LNc s)
theorem LWB.k {D : va_G} {cy : Nat → ClassId} {e0 : Nat} {s : State} (h : LWB D cy e0 s) : va_K D vwCl (qtys cy) s := h.1
theorem LWB.q {D : va_G} {cy : Nat → ClassId} {e0 : Nat} {s : State} (h : LWB D cy e0 s) : qB s := h.2.1
theorem LWB.z {D : va_G} {cy : Nat → ClassId} {e0 : Nat} {s : State} (h : LWB D cy e0 s) : vx_Zq Bundle.tN "UNASSIGNED_STACK" Bundle.steD (fun _ => False) s s.heap ∧ vx_Zq Bundle.tN "SUPPRESSED_SENTINEL" Bundle.listD (fun _ => False) s s.heap := h.2.2.1
theorem LWB.x {D : va_G} {cy : Nat → ClassId} {e0 : Nat} {s : State} (h : LWB D cy e0 s) : va_Z "java/util/ArrayList" "DEFAULTCAPACITY_EMPTY_ELEMENTDATA" "[Ljava/lang/Object;" (.ref e0) (fun _ => False) s s.heap ∧ va_T (.object "java/lang/Object") e0 0 (fun _ => .null) (fun _ => False) s s.heap := h.2.2.2.1
theorem LWB.f {D : va_G} {cy : Nat → ClassId} {e0 : Nat} {s : State} (h : LWB D cy e0 s) : qF s := h.2.2.2.2.1
theorem LWB.l {D : va_G} {cy : Nat → ClassId} {e0 : Nat} {s : State} (h : LWB D cy e0 s) : LNc s := h.2.2.2.2.2
/-- the two worlds side by side -/
def LWS (D : va_G) (cy : Nat → ClassId) (ad : Nat → Nat → Nat) (o e0 : Nat) (s : State) (g : Gd) (vo : Int64) (bd w : Nat → Nat → Nat) (mm : Md) (S : Int64) (H : Heap) : Prop := (OW D cy ad g o vo H) ∧ (MW D cy bd w mm S H) ∧ (oN ad o) ∧ (∀ κ i κ' i' : Nat, cV κ i → mV w κ' i' → ad κ i ≠ bd κ' i') ∧ (∀ κ i : Nat, mV w κ i → bd κ i ≠ o) ∧ (∀ κ i : Nat, cV κ i → s.heap.size ≤ ad κ i) ∧ (s.heap.size ≤ o) ∧ (∀ κ i : Nat, mV w κ i → s.heap.size ≤ bd κ i) ∧ (mE e0 bd w)
theorem LWS.O {D : va_G} {cy : Nat → ClassId} {ad : Nat → Nat → Nat} {o e0 : Nat} {s : State} {g : Gd} {vo : Int64} {bd w : Nat → Nat → Nat} {mm : Md} {S : Int64} {H : Heap} (h : LWS D cy ad o e0 s g vo bd w mm S H) : OW D cy ad g o vo H := h.1
theorem LWS.M {D : va_G} {cy : Nat → ClassId} {ad : Nat → Nat → Nat} {o e0 : Nat} {s : State} {g : Gd} {vo : Int64} {bd w : Nat → Nat → Nat} {mm : Md} {S : Int64} {H : Heap} (h : LWS D cy ad o e0 s g vo bd w mm S H) : MW D cy bd w mm S H := h.2.1
theorem LWS.N {D : va_G} {cy : Nat → ClassId} {ad : Nat → Nat → Nat} {o e0 : Nat} {s : State} {g : Gd} {vo : Int64} {bd w : Nat → Nat → Nat} {mm : Md} {S : Int64} {H : Heap} (h : LWS D cy ad o e0 s g vo bd w mm S H) : oN ad o := h.2.2.1
theorem LWS.dj {D : va_G} {cy : Nat → ClassId} {ad : Nat → Nat → Nat} {o e0 : Nat} {s : State} {g : Gd} {vo : Int64} {bd w : Nat → Nat → Nat} {mm : Md} {S : Int64} {H : Heap} (h : LWS D cy ad o e0 s g vo bd w mm S H) : ∀ κ i κ' i' : Nat, cV κ i → mV w κ' i' → ad κ i ≠ bd κ' i' := h.2.2.2.1
theorem LWS.dO {D : va_G} {cy : Nat → ClassId} {ad : Nat → Nat → Nat} {o e0 : Nat} {s : State} {g : Gd} {vo : Int64} {bd w : Nat → Nat → Nat} {mm : Md} {S : Int64} {H : Heap} (h : LWS D cy ad o e0 s g vo bd w mm S H) : ∀ κ i : Nat, mV w κ i → bd κ i ≠ o := h.2.2.2.2.1
theorem LWS.fa {D : va_G} {cy : Nat → ClassId} {ad : Nat → Nat → Nat} {o e0 : Nat} {s : State} {g : Gd} {vo : Int64} {bd w : Nat → Nat → Nat} {mm : Md} {S : Int64} {H : Heap} (h : LWS D cy ad o e0 s g vo bd w mm S H) : ∀ κ i : Nat, cV κ i → s.heap.size ≤ ad κ i := h.2.2.2.2.2.1
theorem LWS.fo {D : va_G} {cy : Nat → ClassId} {ad : Nat → Nat → Nat} {o e0 : Nat} {s : State} {g : Gd} {vo : Int64} {bd w : Nat → Nat → Nat} {mm : Md} {S : Int64} {H : Heap} (h : LWS D cy ad o e0 s g vo bd w mm S H) : s.heap.size ≤ o := h.2.2.2.2.2.2.1
theorem LWS.fb {D : va_G} {cy : Nat → ClassId} {ad : Nat → Nat → Nat} {o e0 : Nat} {s : State} {g : Gd} {vo : Int64} {bd w : Nat → Nat → Nat} {mm : Md} {S : Int64} {H : Heap} (h : LWS D cy ad o e0 s g vo bd w mm S H) : ∀ κ i : Nat, mV w κ i → s.heap.size ≤ bd κ i := h.2.2.2.2.2.2.2.1
theorem LWS.E {D : va_G} {cy : Nat → ClassId} {ad : Nat → Nat → Nat} {o e0 : Nat} {s : State} {g : Gd} {vo : Int64} {bd w : Nat → Nat → Nat} {mm : Md} {S : Int64} {H : Heap} (h : LWS D cy ad o e0 s g vo bd w mm S H) : mE e0 bd w := h.2.2.2.2.2.2.2.2
section LR
variable {p : Program} {l : Launch} {e : Env} {R : Room} {s : State} {m : MethodId} {args : Array Value} {below : List Frame} {meth : Method} {c : Code} {H : Heap} {locs : List Loc} {cells slots : Nat} {Q : State → Prop}
variable {cc : ByteArray} {pc : Nat} {ls : Array Slot} {rest : List Value} {D : va_G} {cy : Nat → ClassId} {ad : Nat → Nat → Nat} {g g2 : Gd}
variable {Ts ws ws' : List Cond} {bytes : ByteArray} {nL maxL index n mc ms : Nat} {own : String} {y : MethodName} {ret : Option FieldType} {rm : Room}
variable {o e0 : Nat} {vo v2 : Int64} {bd w bd2 w2 : Nat → Nat → Nat} {mm m2 : Md} {SS S2 : Int64} {hh : List (Nat × Nat × Nat × Nat)} {k0 n0 : Nat} {locs1 : List Loc}
theorem LWS.cP (h : LWS D cy ad o e0 s g vo bd w mm SS H) {q : Nat} (hq : cP ad q) : s.heap.size ≤ q := by
  obtain ⟨κ, i, hv, e⟩ := hq
  rw [e]; exact h.fa κ i hv
theorem LWS.mP (h : LWS D cy ad o e0 s g vo bd w mm SS H) {q : Nat} (hq : mP bd w q) : s.heap.size ≤ q := by
  obtain ⟨κ, i, hv, e⟩ := hq
  rw [e]; exact h.fb κ i hv
theorem LA0_no {a : Nat} (h : a < s.heap.size) : ¬ LA0 s a := fun z => absurd h (Nat.not_lt.mpr z)
theorem LWB.cx (hB : LWB D cy e0 s) (h : LWS D cy ad o e0 s g vo bd w mm SS H) (hS : va_S (LA0 s) s.heap H locs) {U : State} (hvm : s.vm.Alike U.vm) : CX ad U H :=
  CX.go ⟨vx_Zq_wide hB.z.1 (fun q hq hp => absurd hq (Nat.not_lt.mpr (h.cP hp))), vx_Zq_wide hB.z.2 (fun q hq hp => absurd hq (Nat.not_lt.mpr (h.cP hp)))⟩ hvm (fun a ha _ => hS.2.1 a ha (LA0_no ha))
theorem LWB.cu (hB : LWB D cy e0 s) (h : LWS D cy ad o e0 s g vo bd w mm SS H) (hS : va_S (LA0 s) s.heap H locs) {U : State} (hU : U.heap = H) (hW : s.WarmedH U.vm) : CU2 D cy ad g U :=
  ⟨by rw [hU]; exact h.O.1, va_K.moved hW.alike hB.k, hB.q.warm hW, by rw [hU]; exact hB.cx h hS hW.alike⟩
theorem LWB.mx (hB : LWB D cy e0 s) (h : LWS D cy ad o e0 s g vo bd w mm SS H) (hS : va_S (LA0 s) s.heap H locs) {U : State} (hvm : s.vm.Alike U.vm) : MX e0 bd w U H := by
  have h2 : va_Z "java/util/ArrayList" "DEFAULTCAPACITY_EMPTY_ELEMENTDATA" "[Ljava/lang/Object;" (.ref e0) (cellsM bd w) s H := by
    obtain ⟨cf, kf, fi, f, a, cell, q1, q2, q3, q4, q5, q6, q7, q8⟩ := hB.x.1
    have ha : a < s.heap.size := (Array.getElem?_eq_some_iff.mp q5).1
    refine ⟨cf, kf, fi, f, a, cell, q1, q2, q3, q4, ?_, q6, q7, fun hp => absurd ha (Nat.not_lt.mpr (h.mP hp))⟩
    rw [hS.2.1 a ha (LA0_no ha)]; exact q5
  obtain ⟨cell, h1, t2, t3, t4, t5, t6, t7⟩ := hB.x.2
  have he : e0 < s.heap.size := (Array.getElem?_eq_some_iff.mp h1).1
  exact ⟨va_Z.moved hvm h2, va_T.moved hvm ⟨cell, by rw [hS.2.1 e0 he (LA0_no he)]; exact h1, t2, t3, t4, t5, t6, fun hp => absurd he (Nat.not_lt.mpr (h.mP hp))⟩⟩
theorem LWB.mu (hB : LWB D cy e0 s) (h : LWS D cy ad o e0 s g vo bd w mm SS H) (hS : va_S (LA0 s) s.heap H locs) {U : State} (hU : U.heap = H) (hW : s.WarmedH U.vm) : MU D cy e0 bd w mm SS U :=
  ⟨by rw [hU]; exact h.M, va_K.moved hW.alike hB.k, hB.q.warm hW, h.E, by rw [hU]; exact hB.mx h hS hW.alike, hB.f.moved hW.alike⟩
theorem oPre_blind {sz : Nat} {av : List Value} : FrameBlind (va_Pc av (oPre D cy ad g o vo sz)) := fun a U f mk q =>
  ⟨q.1, q.2.1, q.2.2.1, q.2.2.2.1, ⟨va_K.moved (u := U) (Vm.Alike.refl U.vm) q.2.2.2.2.1.1, qB.warm (s := U) (State.WarmedH.refl U) q.2.2.2.2.1.2.1, q.2.2.2.2.1.2.2.go (Vm.Alike.refl U.vm) (fun _ _ _ => rfl)⟩, LNc.warm (s := U) (State.WarmedH.refl U) q.2.2.2.2.2⟩
/-- the class's cells and the out cell changed -/
theorem LWS.goO {H1 : Heap} (h : LWS D cy ad o e0 s g vo bd w mm SS H) (hO : OW D cy ad g2 o v2 H1) (hk : ∀ q : Nat, q < H.size → ¬ oA ad o H.size q → H1[q]? = H[q]?) : LWS D cy ad o e0 s g2 v2 bd w mm SS H1 :=
  ⟨hO, h.M.kept (fun κ i hv => hk _ (h.M.lt hv) (fun z => z.elim (fun z => z.elim (fun ⟨κ', i', hv', e⟩ => h.dj κ' i' κ i hv' hv e.symm) (fun z => absurd (h.M.lt hv) (Nat.not_lt.mpr z))) (fun z => h.dO κ i hv z))), h.N, h.dj, h.dO, h.fa, h.fo, h.fb, h.E⟩
/-- the class's cells changed -/
theorem LWS.goC {H1 : Heap} (h : LWS D cy ad o e0 s g vo bd w mm SS H) (hC : CW D cy ad g2 H1) (hk : ∀ q : Nat, q < H.size → ¬ cA ad H.size q → H1[q]? = H[q]?) : LWS D cy ad o e0 s g2 vo bd w mm SS H1 :=
  h.goO ⟨hC, va_at.kept h.O.2 (hk o (show va_at D vwCl (o, _) H from h.O.2).lt (fun z => z.elim (fun ⟨κ, i, hv, e⟩ => h.N κ i hv e.symm) (fun z => absurd (show va_at D vwCl (o, _) H from h.O.2).lt (Nat.not_lt.mpr z))))⟩ (fun q h1 h2 => hk q h1 (fun z => h2 (Or.inl z)))
/-- the reference's cells changed -/
theorem LWS.goM {H1 : Heap} (h : LWS D cy ad o e0 s g vo bd w mm SS H) (hS : s.heap.size ≤ H.size) (hM : MW D cy bd2 w2 m2 S2 H1) (hH : mH bd w H.size bd2 w2) (hE : mE e0 bd2 w2) (hk : ∀ q : Nat, q < H.size → ¬ mA bd w H.size q → H1[q]? = H[q]?) : LWS D cy ad o e0 s g vo bd2 w2 m2 S2 H1 := by
  have olt : o < H.size := (show va_at D vwCl (o, _) H from h.O.2).lt
  have nc : ∀ κ i, cV κ i → ¬ mA bd w H.size (ad κ i) := fun κ i hv z => z.elim (fun ⟨κ', i', hv', e⟩ => h.dj κ i κ' i' hv hv' e) (fun z => absurd (h.O.1.lt hv) (Nat.not_lt.mpr z))
  have no : ¬ mA bd w H.size o := fun z => z.elim (fun ⟨κ', i', hv', e⟩ => h.dO κ' i' hv' e.symm) (fun z => absurd olt (Nat.not_lt.mpr z))
  refine ⟨⟨h.O.1.kept (fun κ i hv => hk _ (h.O.1.lt hv) (nc κ i hv)), va_at.kept h.O.2 (hk o olt no)⟩, hM, h.N, fun κ i κ' i' hv hv' e => ?_, fun κ i hv e => ?_, h.fa, h.fo, fun κ i hv => ?_, hE⟩
  · exact nc κ i hv (by rw [e]; exact hH κ' i' hv')
  · exact no (by rw [← e]; exact hH κ i hv)
  · exact (hH κ i hv).elim (fun ⟨κ', i', hv', e⟩ => by rw [e]; exact h.fb κ' i' hv') (fun z => Nat.le_trans hS z)

theorem l_callO {As : List Value} {kv : Int32} (CF : CallFix p m c cc nL s args Ts own) (hM : Met l y ws rm (va_Pc As (oPre D cy ad g o vo H.size)) (oQ D cy ad kv g2 o v2 H.size) mc ms (oA ad o H.size)) (cw : vx_CSW R s args own index y bytes maxL ret hh ws rm mc ms n) (hB : LWB D cy e0 s) (hL : LWS D cy ad o e0 s g vo bd w mm SS H) (hS : va_S (LA0 s) s.heap H locs) (hn : As.length = n) (hsize : ls.size = nL) (hW : (rest.map fun v => v.category).sum ≤ 8) (hdg : decode cc pc = .ok (.invokestatic index, 3)) (hf : cells + mc ≤ R.cells ∧ slots + ms ≤ R.slots)
    (kk : ∀ (H1 : Heap) (locs1 : List Loc), LWS D cy ad o e0 s g2 v2 bd w mm SS H1 → va_S (LA0 s) s.heap H1 locs1 → W p l e R s m args below meth c H1 locs1 (cells + mc) (slots + ms) Q (F0 m (pc + 3) ls (.int kv :: rest))) : W p l e R s m args below meth c H locs cells slots Q (F0 m pc ls (As.reverse ++ rest)) := by
  have hFc : ∀ q : Nat, oA ad o H.size q → LA0 s q := fun q z => z.elim (fun z => z.elim (fun hp => hL.cP hp) (fun z => Nat.le_trans hS.1 z)) (fun z => by rw [z]; exact hL.fo)
  refine va_calli (vx_runSW (As := As) (rest := rest) CF hM cw ⟨oPre_blind, fun U hU hW2 => ⟨rfl, by rw [hU], by rw [hU]; exact hL.O, hL.N, (hB.cu hL hS hU hW2).2, hB.l.warm hW2⟩⟩ rfl hn hsize rfl (lv_room hW) hdg hf) hS (fun q _ h => hFc q h) hFc (fun r u t H1 locs1 ht hvm hw hBu hz1 hk1 hS1 => ?_)
  have hw : r = kv := hw
  subst hw
  exact kk H1 locs1 (hL.goO (by rw [← ht]; exact hBu) hk1) hS1
/-- a call of the class itself -/
theorem l_callCi {v : Int32} {As : List Value} (CF : CallFix p m c cc nL s args Ts own) (hM : Met l y ws rm (va_Pc (.ref (ad 0 0) :: As) (cPre D cy ad g H.size)) (cQi D cy ad v g2 H.size) mc ms (cA ad H.size)) (cw : CallW R s args own "CherryStation" index y bytes maxL ret ws rm mc ms n) (hB : LWB D cy e0 s) (hL : LWS D cy ad o e0 s g vo bd w mm SS H) (hS : va_S (LA0 s) s.heap H locs) (hn : As.length = n) (hsize : ls.size = nL) (hW : (rest.map fun v => v.category).sum ≤ 8) (hdg : decode cc pc = .ok (.invokevirtual index, 3)) (hf : cells + mc ≤ R.cells ∧ slots + ms ≤ R.slots)
    (kk : ∀ (H1 : Heap) (locs1 : List Loc), LWS D cy ad o e0 s g2 vo bd w mm SS H1 → va_S (LA0 s) s.heap H1 locs1 → W p l e R s m args below meth c H1 locs1 (cells + mc) (slots + ms) Q (F0 m (pc + 3) ls (.int v :: rest))) : W p l e R s m args below meth c H locs cells slots Q (F0 m pc ls (As.reverse ++ .ref (ad 0 0) :: rest)) := by
  have hFc : ∀ q : Nat, cA ad H.size q → LA0 s q := fun q z => z.elim (fun hp => hL.cP hp) (fun z => Nat.le_trans hS.1 z)
  have hat := hL.O.1 0 0 rfl
  have hrec := va_recv hB.k (q_one hat) (ci := 8) (q0 := 0) rfl rfl
  refine va_calli (va_runV (As := As) (rest := rest) CF hM cw ⟨cPre_blind, hrec, fun U hU hW2 => ⟨rfl, by rw [hU], hB.cu hL hS hU hW2⟩⟩ rfl hn hsize rfl (lv_room hW) hdg hf) hS (fun q _ h => hFc q h) hFc (fun r u t H1 locs1 ht hvm hw hBu hz1 hk1 hS1 => ?_)
  have hw : r = v := hw
  subst hw
  exact kk H1 locs1 (hL.goC (by rw [← ht]; exact hBu) hk1) hS1
/-- a call of the reference -/
theorem l_callMi {v : Int32} {mq : Nat} (hmq : bd 0 0 = mq) {As : List Value} (CF : CallFix p m c cc nL s args Ts own) (hM : Met l y ws rm (va_Pc (.ref (bd 0 0) :: As) (mPre D cy e0 bd w mm SS H.size)) (mQi D cy bd w v m2 S2 H.size) mc ms (mA bd w H.size)) (cw : CallW R s args own "CherryStationModel" index y bytes maxL ret ws rm mc ms n) (hB : LWB D cy e0 s) (hL : LWS D cy ad o e0 s g vo bd w mm SS H) (hS : va_S (LA0 s) s.heap H locs) (hn : As.length = n) (hsize : ls.size = nL) (hW : (rest.map fun v => v.category).sum ≤ 8) (hdg : decode cc pc = .ok (.invokevirtual index, 3)) (hf : cells + mc ≤ R.cells ∧ slots + ms ≤ R.slots)
    (kk : ∀ (H1 : Heap) (locs1 : List Loc), LWS D cy ad o e0 s g vo bd w m2 S2 H1 → va_S (LA0 s) s.heap H1 locs1 → W p l e R s m args below meth c H1 locs1 (cells + mc) (slots + ms) Q (F0 m (pc + 3) ls (.int v :: rest))) : W p l e R s m args below meth c H locs cells slots Q (F0 m pc ls (As.reverse ++ .ref mq :: rest)) := by
  subst hmq
  have hFc : ∀ q : Nat, mA bd w H.size q → LA0 s q := fun q z => z.elim (fun hp => hL.mP hp) (fun z => Nat.le_trans hS.1 z)
  have hat := hL.M.2.2.2 0 0 rfl
  have hrec := va_recv hB.k (q_one hat) (ci := 9) (q0 := 0) rfl rfl
  refine va_calli (va_runV (As := As) (rest := rest) CF hM cw ⟨mPre_blind, hrec, fun U hU hW2 => ⟨rfl, by rw [hU], hB.mu hL hS hU hW2⟩⟩ rfl hn hsize rfl (lv_room hW) hdg hf) hS (fun q _ h => hFc q h) hFc (fun r u t H1 locs1 ht hvm hw hBu hz1 hk1 hS1 => ?_)
  have hw : r = v := hw
  subst hw
  exact kk H1 locs1 (hL.goM hS.1 (by rw [← ht]; exact hBu) mH.rf hL.E hk1) hS1
/-- a call of the class itself -/
theorem l_callCl {v : Int64} {As : List Value} (CF : CallFix p m c cc nL s args Ts own) (hM : Met l y ws rm (va_Pc (.ref (ad 0 0) :: As) (cPre D cy ad g H.size)) (cQl D cy ad v g2 H.size) mc ms (cA ad H.size)) (cw : CallW R s args own "CherryStation" index y bytes maxL ret ws rm mc ms n) (hB : LWB D cy e0 s) (hL : LWS D cy ad o e0 s g vo bd w mm SS H) (hS : va_S (LA0 s) s.heap H locs) (hn : As.length = n) (hsize : ls.size = nL) (hW : (rest.map fun v => v.category).sum ≤ 8) (hdg : decode cc pc = .ok (.invokevirtual index, 3)) (hf : cells + mc ≤ R.cells ∧ slots + ms ≤ R.slots)
    (kk : ∀ (H1 : Heap) (locs1 : List Loc), LWS D cy ad o e0 s g2 vo bd w mm SS H1 → va_S (LA0 s) s.heap H1 locs1 → W p l e R s m args below meth c H1 locs1 (cells + mc) (slots + ms) Q (F0 m (pc + 3) ls (.long v :: rest))) : W p l e R s m args below meth c H locs cells slots Q (F0 m pc ls (As.reverse ++ .ref (ad 0 0) :: rest)) := by
  have hFc : ∀ q : Nat, cA ad H.size q → LA0 s q := fun q z => z.elim (fun hp => hL.cP hp) (fun z => Nat.le_trans hS.1 z)
  have hat := hL.O.1 0 0 rfl
  have hrec := va_recv hB.k (q_one hat) (ci := 8) (q0 := 0) rfl rfl
  refine va_calll (va_runV (As := As) (rest := rest) CF hM cw ⟨cPre_blind, hrec, fun U hU hW2 => ⟨rfl, by rw [hU], hB.cu hL hS hU hW2⟩⟩ rfl hn hsize rfl (lv_room hW) hdg hf) hS (fun q _ h => hFc q h) hFc (fun r u t H1 locs1 ht hvm hw hBu hz1 hk1 hS1 => ?_)
  have hw : r = v := hw
  subst hw
  exact kk H1 locs1 (hL.goC (by rw [← ht]; exact hBu) hk1) hS1
/-- a call of the reference -/
theorem l_callMl {v : Int64} {mq : Nat} (hmq : bd 0 0 = mq) {As : List Value} (CF : CallFix p m c cc nL s args Ts own) (hM : Met l y ws rm (va_Pc (.ref (bd 0 0) :: As) (mPre D cy e0 bd w mm SS H.size)) (mQl D cy bd w v m2 S2 H.size) mc ms (mA bd w H.size)) (cw : CallW R s args own "CherryStationModel" index y bytes maxL ret ws rm mc ms n) (hB : LWB D cy e0 s) (hL : LWS D cy ad o e0 s g vo bd w mm SS H) (hS : va_S (LA0 s) s.heap H locs) (hn : As.length = n) (hsize : ls.size = nL) (hW : (rest.map fun v => v.category).sum ≤ 8) (hdg : decode cc pc = .ok (.invokevirtual index, 3)) (hf : cells + mc ≤ R.cells ∧ slots + ms ≤ R.slots)
    (kk : ∀ (H1 : Heap) (locs1 : List Loc), LWS D cy ad o e0 s g vo bd w m2 S2 H1 → va_S (LA0 s) s.heap H1 locs1 → W p l e R s m args below meth c H1 locs1 (cells + mc) (slots + ms) Q (F0 m (pc + 3) ls (.long v :: rest))) : W p l e R s m args below meth c H locs cells slots Q (F0 m pc ls (As.reverse ++ .ref mq :: rest)) := by
  subst hmq
  have hFc : ∀ q : Nat, mA bd w H.size q → LA0 s q := fun q z => z.elim (fun hp => hL.mP hp) (fun z => Nat.le_trans hS.1 z)
  have hat := hL.M.2.2.2 0 0 rfl
  have hrec := va_recv hB.k (q_one hat) (ci := 9) (q0 := 0) rfl rfl
  refine va_calll (va_runV (As := As) (rest := rest) CF hM cw ⟨mPre_blind, hrec, fun U hU hW2 => ⟨rfl, by rw [hU], hB.mu hL hS hU hW2⟩⟩ rfl hn hsize rfl (lv_room hW) hdg hf) hS (fun q _ h => hFc q h) hFc (fun r u t H1 locs1 ht hvm hw hBu hz1 hk1 hS1 => ?_)
  have hw : r = v := hw
  subst hw
  exact kk H1 locs1 (hL.goM hS.1 (by rw [← ht]; exact hBu) mH.rf hL.E hk1) hS1
/-- a call of the class itself -/
theorem l_callCd {v : UInt64} {As : List Value} (CF : CallFix p m c cc nL s args Ts own) (hM : Met l y ws rm (va_Pc (.ref (ad 0 0) :: As) (cPre D cy ad g H.size)) (cQd D cy ad v g2 H.size) mc ms (cA ad H.size)) (cw : CallW R s args own "CherryStation" index y bytes maxL ret ws rm mc ms n) (hB : LWB D cy e0 s) (hL : LWS D cy ad o e0 s g vo bd w mm SS H) (hS : va_S (LA0 s) s.heap H locs) (hn : As.length = n) (hsize : ls.size = nL) (hW : (rest.map fun v => v.category).sum ≤ 8) (hdg : decode cc pc = .ok (.invokevirtual index, 3)) (hf : cells + mc ≤ R.cells ∧ slots + ms ≤ R.slots)
    (kk : ∀ (H1 : Heap) (locs1 : List Loc), LWS D cy ad o e0 s g2 vo bd w mm SS H1 → va_S (LA0 s) s.heap H1 locs1 → W p l e R s m args below meth c H1 locs1 (cells + mc) (slots + ms) Q (F0 m (pc + 3) ls (.double v :: rest))) : W p l e R s m args below meth c H locs cells slots Q (F0 m pc ls (As.reverse ++ .ref (ad 0 0) :: rest)) := by
  have hFc : ∀ q : Nat, cA ad H.size q → LA0 s q := fun q z => z.elim (fun hp => hL.cP hp) (fun z => Nat.le_trans hS.1 z)
  have hat := hL.O.1 0 0 rfl
  have hrec := va_recv hB.k (q_one hat) (ci := 8) (q0 := 0) rfl rfl
  refine va_calld (va_runV (As := As) (rest := rest) CF hM cw ⟨cPre_blind, hrec, fun U hU hW2 => ⟨rfl, by rw [hU], hB.cu hL hS hU hW2⟩⟩ rfl hn hsize rfl (lv_room hW) hdg hf) hS (fun q _ h => hFc q h) hFc (fun r u t H1 locs1 ht hvm hw hBu hz1 hk1 hS1 => ?_)
  have hw : r = v := hw
  subst hw
  exact kk H1 locs1 (hL.goC (by rw [← ht]; exact hBu) hk1) hS1
/-- a call of the reference -/
theorem l_callMd {v : UInt64} {mq : Nat} (hmq : bd 0 0 = mq) {As : List Value} (CF : CallFix p m c cc nL s args Ts own) (hM : Met l y ws rm (va_Pc (.ref (bd 0 0) :: As) (mPre D cy e0 bd w mm SS H.size)) (mQd D cy bd w v m2 S2 H.size) mc ms (mA bd w H.size)) (cw : CallW R s args own "CherryStationModel" index y bytes maxL ret ws rm mc ms n) (hB : LWB D cy e0 s) (hL : LWS D cy ad o e0 s g vo bd w mm SS H) (hS : va_S (LA0 s) s.heap H locs) (hn : As.length = n) (hsize : ls.size = nL) (hW : (rest.map fun v => v.category).sum ≤ 8) (hdg : decode cc pc = .ok (.invokevirtual index, 3)) (hf : cells + mc ≤ R.cells ∧ slots + ms ≤ R.slots)
    (kk : ∀ (H1 : Heap) (locs1 : List Loc), LWS D cy ad o e0 s g vo bd w m2 S2 H1 → va_S (LA0 s) s.heap H1 locs1 → W p l e R s m args below meth c H1 locs1 (cells + mc) (slots + ms) Q (F0 m (pc + 3) ls (.double v :: rest))) : W p l e R s m args below meth c H locs cells slots Q (F0 m pc ls (As.reverse ++ .ref mq :: rest)) := by
  subst hmq
  have hFc : ∀ q : Nat, mA bd w H.size q → LA0 s q := fun q z => z.elim (fun hp => hL.mP hp) (fun z => Nat.le_trans hS.1 z)
  have hat := hL.M.2.2.2 0 0 rfl
  have hrec := va_recv hB.k (q_one hat) (ci := 9) (q0 := 0) rfl rfl
  refine va_calld (va_runV (As := As) (rest := rest) CF hM cw ⟨mPre_blind, hrec, fun U hU hW2 => ⟨rfl, by rw [hU], hB.mu hL hS hU hW2⟩⟩ rfl hn hsize rfl (lv_room hW) hdg hf) hS (fun q _ h => hFc q h) hFc (fun r u t H1 locs1 ht hvm hw hBu hz1 hk1 hS1 => ?_)
  have hw : r = v := hw
  subst hw
  exact kk H1 locs1 (hL.goM hS.1 (by rw [← ht]; exact hBu) mH.rf hL.E hk1) hS1
/-- a call of the reference that may add a row -/
theorem l_callG {v : Int32} {mq : Nat} (hmq : bd 0 0 = mq) {As : List Value} (CF : CallFix p m c cc nL s args Ts own) (hM : Met l y ws rm (va_Pc (.ref (bd 0 0) :: As) (mPre D cy e0 bd w mm SS H.size)) (va_Qi (fun (r : Int32) (_ : Nat → Nat → Nat) => r = v) (fun bd2 t => bd2 0 0 = bd 0 0 ∧ mG0 e0 bd w H.size bd2 w2 ∧ MW D cy bd2 w2 m2 SS t.heap) (mA bd w H.size)) mc ms (mA bd w H.size)) (cw : CallW R s args own "CherryStationModel" index y bytes maxL ret ws rm mc ms n) (hB : LWB D cy e0 s) (hL : LWS D cy ad o e0 s g vo bd w mm SS H) (hS : va_S (LA0 s) s.heap H locs) (hn : As.length = n) (hsize : ls.size = nL) (hW : (rest.map fun v => v.category).sum ≤ 8) (hdg : decode cc pc = .ok (.invokevirtual index, 3)) (hf : cells + mc ≤ R.cells ∧ slots + ms ≤ R.slots)
    (kk : ∀ (bd2 : Nat → Nat → Nat) (H1 : Heap) (locs1 : List Loc), bd2 0 0 = mq → LWS D cy ad o e0 s g vo bd2 w2 m2 SS H1 → va_S (LA0 s) s.heap H1 locs1 → W p l e R s m args below meth c H1 locs1 (cells + mc) (slots + ms) Q (F0 m (pc + 3) ls (.int v :: rest))) : W p l e R s m args below meth c H locs cells slots Q (F0 m pc ls (As.reverse ++ .ref mq :: rest)) := by
  subst hmq
  have hFc : ∀ q : Nat, mA bd w H.size q → LA0 s q := fun q z => z.elim (fun hp => hL.mP hp) (fun z => Nat.le_trans hS.1 z)
  have hat := hL.M.2.2.2 0 0 rfl
  have hrec := va_recv hB.k (q_one hat) (ci := 9) (q0 := 0) rfl rfl
  refine va_calli (va_runV (As := As) (rest := rest) CF hM cw ⟨mPre_blind, hrec, fun U hU hW2 => ⟨rfl, by rw [hU], hB.mu hL hS hU hW2⟩⟩ rfl hn hsize rfl (lv_room hW) hdg hf) hS (fun q _ h => hFc q h) hFc (fun r bd2 t H1 locs1 ht hvm hw hBu hz1 hk1 hS1 => ?_)
  have hw : r = v := hw
  subst hw
  obtain ⟨e1, hG, hM2⟩ := hBu
  exact kk bd2 H1 locs1 e1 (hL.goM hS.1 (by rw [← ht]; exact hM2) hG.1 hG.2 hk1) hS1
/-- the out cell read -/
theorem l_lald (hx : p.tables.exec = Jvm.exec) (hb : c.code = cc) (hB : LWB D cy e0 s) (hL : LWS D cy ad o e0 s g vo bd w mm SS H) (hdg : decode cc pc = .ok (.laload, 1)) (kk : W p l e R s m args below meth c H locs cells slots Q (F0 m (pc + 1) ls (.long vo :: rest))) : W p l e R s m args below meth c H locs cells slots Q (F0 m pc ls (.int 0 :: .ref o :: rest)) :=
  va_lald hx hb hB.k (q_one hL.O.2) 0 6 (f := lo1 vo) rfl rfl (by unfold vp_in; decide) hdg kk
end LR
