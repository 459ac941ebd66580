/-! ===== doubles ===== -/
theorem vf_of {r : UInt64} (h : FP.dIsNaN r = false) : vf_n64 r := by
  have h2 := (FP.Core.ne_nan r).mp ((FP.Core.notNaN_iff r).mp h)
  unfold vf_n64
  rw [UInt64.le_iff_toNat_le, UInt64.toNat_and]
  have e1 : (0x7fffffffffffffff : UInt64).toNat = 2 ^ 63 - 1 := rfl
  have e2 : (0x7ff0000000000000 : UInt64).toNat = 9218868437227405312 := rfl
  rw [e1, e2, Nat.and_two_pow_sub_one_eq_mod]
  exact h2
theorem i2d_fin (v : Int32) : FP.Core.DFin (FP.i2d v) := (FP.Core.fin_bits _).mpr (Nat.lt_of_lt_of_le (FP.Core.i2d_mag v) (by decide))
theorem l2d_fin (v : Int64) : FP.Core.DFin (FP.l2d v) := (FP.Core.fin_bits _).mpr (Nat.lt_of_lt_of_le (FP.Core.l2d_mag v) (by decide))
theorem i2d_nz {v : Int32} (h : ¬ v = 0) : ¬ FP.Core.DZero (FP.i2d v) := by
  rintro ⟨s, q, e⟩
  have b := (FP.Core.i2d_big (v := v) (fun h0 => h (Int32.toInt_inj.mp (h0.trans rfl)))).1
  have f := FP.Core.val64_fits (FP.i2d v)
  rw [e] at f
  have z : (FP.Core.i2d v).toNat % 2 ^ 63 = 0 := (FP.Core.zero_bits2 _).mp ⟨s, q, e⟩
  omega
theorem fin_nan {v : UInt64} (h : FP.Core.DFin v) : FP.dIsNaN v = false := by
  obtain ⟨s, c, q, e⟩ := h
  exact (FP.Core.notNaN_iff v).mpr (by rw [e]; exact fun z => by cases z)
theorem vf_ii {x y : Int32} (h : ¬ y = 0) : vf_n64 (FP.ddiv (FP.i2d x) (FP.i2d y)) := vf_of (FP.Core.ddiv_out (fin_nan (i2d_fin x)) (i2d_fin y) (i2d_nz h))
theorem vf_il {x : Int64} {y : Int32} (h : ¬ y = 0) : vf_n64 (FP.ddiv (FP.l2d x) (FP.i2d y)) := vf_of (FP.Core.ddiv_out (fin_nan (l2d_fin x)) (i2d_fin y) (i2d_nz h))
theorem i2d_l2d {x : Int32} {y : Int64} (h : x.toInt = y.toInt) : FP.i2d x = FP.l2d y := by
  show FP.Core.i2d x = FP.Core.l2d y
  unfold FP.Core.i2d FP.Core.l2d
  rw [h]
section QD
variable {p : Program} {l : Launch} {e : Env} {R : Room} {s : State} {m : MethodId} {args : Array Value} {below : List Frame} {meth : Method} {c : Code} {H : Heap} {locs : List Loc} {cells slots : Nat} {Q : State → Prop}
variable {cc : ByteArray} {pc : Nat} {ls : Array Slot} {rest : List Value} {D : va_G} {cy : Nat → ClassId} {ad : Nat → Nat → Nat} {g g2 : Gd}
variable {Ts ws ws' : List Cond} {bytes : ByteArray} {nL maxL index n mc ms : Nat} {own : String} {y : MethodName} {ret : Option FieldType} {rm : Room}

abbrev cQd (D : va_G) (cy : Nat → ClassId) (ad : Nat → Nat → Nat) (v : UInt64) (g2 : Gd) (sz : Nat) := va_Qd (fun (r : UInt64) (_ : Unit) => r = v) (fun _ t => CW D cy ad g2 t.heap) (cA ad sz)
theorem q_retd (hx : p.tables.exec = Jvm.exec) (hb : c.code = cc) (hr : meth.sig.returnType = some .double) (hB : CB D cy ad s) (hC : CW D cy ad g H) (hS : va_S (cA ad s.heap.size) s.heap H locs) (hg : g2 = g) {v v2 : UInt64} (hv : v2 = v) (hlocks : meth.locks = false) (hdg : decode cc pc = .ok (.dreturn, 1)) : W p l e R s m args below meth c H locs cells slots (MQ below (cQd D cy ad v2 g2 s.heap.size) args s cells slots (cA ad s.heap.size)) (F0 m pc ls [.double v]) := by
  subst hg; subst hv
  exact W.dret hx hb hr (fun t ht hW => ⟨⟨v2, (), rfl, rfl, (CW.at ht hC)⟩, hS.F ht⟩) hS.2.2 hdg
end QD
section MD
variable {p : Program} {l : Launch} {e : Env} {R : Room} {s : State} {m : MethodId} {args : Array Value} {below : List Frame} {meth : Method} {c : Code} {H : Heap} {locs : List Loc} {cells slots : Nat} {Q : State → Prop}
variable {cc : ByteArray} {pc : Nat} {ls : Array Slot} {rest : List Value} {D : va_G} {cy : Nat → ClassId} {e0 : Nat} {bd w bd1 w1 : Nat → Nat → Nat} {mm m2 : Md} {S S2 : Int64}
variable {Ts ws ws' : List Cond} {bytes : ByteArray} {nL maxL index n mc ms : Nat} {own : String} {y : MethodName} {ret : Option FieldType} {rm : Room}

abbrev mQd (D : va_G) (cy : Nat → ClassId) (bd w : Nat → Nat → Nat) (v : UInt64) (m2 : Md) (S2 : Int64) (sz : Nat) := va_Qd (fun (r : UInt64) (_ : Unit) => r = v) (fun _ t => MW D cy bd w m2 S2 t.heap) (mA bd w sz)
theorem m_retd (hx : p.tables.exec = Jvm.exec) (hb : c.code = cc) (hr : meth.sig.returnType = some .double) (hG : mG e0 bd w s.heap.size bd1 w1) (hM : MW D cy bd1 w1 mm S H) (hS : va_S (mA bd w s.heap.size) s.heap H locs) (hq : mEq w mm m2) {v v2 : UInt64} (hv : v2 = v) (hlocks : meth.locks = false) (hdg : decode cc pc = .ok (.dreturn, 1)) : W p l e R s m args below meth c H locs cells slots (MQ below (mQd D cy bd w v2 m2 S s.heap.size) args s cells slots (mA bd w s.heap.size)) (F0 m pc ls [.double v]) := by
  subst hv
  exact W.dret hx hb hr (fun t ht hW => ⟨⟨v2, (), rfl, rfl, (MW.at ht (hM.drop hG.1 hq))⟩, hS.F ht⟩) hS.2.2 hdg
end MD
