/-! ===== the reference's world: numbers by row and column (0: its fields, 100+: farms, 200+: baskets, 300..302: tanks, 303+: beds, 308+: lots, 340+: readings, 360: biases, 400+: rows made for a while); w: 0 how many (lists 0..3, rows made 4, iterators 5), 1 the lists' room, 2 the made rows' lengths, 3..5 the iterators' list, cursor, count, 6 the lists' counts of changes ===== -/
abbrev Md : Type := Nat → Nat → Int32
def u2 (m : Md) (r k : Nat) (v : Int32) : Md := fun r' k' => if r' = r ∧ k' = k then v else m r' k'
theorem u2_eq (m : Md) (r k : Nat) (v : Int32) : u2 m r k v r k = v := if_pos ⟨rfl, rfl⟩
theorem u2_nr {m : Md} {r k r' k' : Nat} {v : Int32} (h : r' ≠ r) : u2 m r k v r' k' = m r' k' := if_neg (fun q => h q.1)
theorem u2_nk {m : Md} {r k r' k' : Nat} {v : Int32} (h : k' ≠ k) : u2 m r k v r' k' = m r' k' := if_neg (fun q => h q.2)
/-- a row laid whole -/
def rz (m : Md) (r : Nat) (f : Nat → Int32) : Md := fun r' k' => if r' = r then f k' else m r' k'
theorem rz_eq (m : Md) (r : Nat) (f : Nat → Int32) (k : Nat) : rz m r f r k = f k := if_pos rfl
theorem rz_nr {m : Md} {r r' k' : Nat} {f : Nat → Int32} (h : r' ≠ r) : rz m r f r' k' = m r' k' := if_neg h
def rb (l : Nat) : Nat := match l with
  | 0 => 100
  | 1 => 200
  | 2 => 303
  | _ => 308
def rl (w : Nat → Nat → Nat) (i : Nat) : Nat := if i < 200 then 4 else if i < 300 then 6 else if i < 340 then 23 else if i < 400 then 3 else w 2 (i - 400)
def rV (w : Nat → Nat → Nat) (i : Nat) : Prop := (100 ≤ i ∧ i < 100 + w 0 0) ∨ (200 ≤ i ∧ i < 200 + w 0 1) ∨ (300 ≤ i ∧ i < 303) ∨ (303 ≤ i ∧ i < 303 + w 0 2) ∨ (308 ≤ i ∧ i < 308 + w 0 3) ∨ (340 ≤ i ∧ i < 352) ∨ i = 360 ∨ (400 ≤ i ∧ i < 400 + w 0 4)
def wB (w : Nat → Nat → Nat) : Prop := w 0 0 ≤ 6 ∧ w 0 1 ≤ 20 ∧ w 0 2 ≤ 5 ∧ w 0 3 ≤ 12 ∧ w 0 4 ≤ 50
abbrev q_opt (f : Nat → Option Nat) : (Nat → Int32) ⊕ (Nat → Int64) ⊕ (Nat → UInt32) ⊕ (Nat → UInt64) ⊕ (Nat → Option Nat) := .inr (.inr (.inr (.inr f)))
def mS (cy : Nat → ClassId) (bd w : Nat → Nat → Nat) (m : Md) (S : Int64) (κ i : Nat) : va_E := match κ with
  | 0 => .inr (9, [.int (m 0 20), .ref (bd 1 0), .ref (bd 1 1), .ref (bd 4 0), .ref (bd 1 2), .ref (bd 1 3), .ref (bd 5 0), .ref (bd 3 360), .int (m 0 0), .int (m 0 1), .int (m 0 2), .int (m 0 3), .int (m 0 4), .int (m 0 5), .int (m 0 6), .long S])
  | 1 => .inr (1, [.int (nI (w 6 i)), .ref (bd 2 i), .int (nI (w 0 i))])
  | 2 => .inl (cy 7, (w 1 i, q_opt (fun k => if k < w 0 i then some (bd 3 (rb i + k)) else none)))
  | 3 => .inl (cy 0, (rl w i, q_ints (fun k => m i k)))
  | 4 => .inl (cy 8, (3, q_opt (fun k => if k < 3 then some (bd 3 (300 + k)) else none)))
  | 5 => .inl (cy 8, (12, q_opt (fun k => if k < 12 then some (bd 3 (340 + k)) else none)))
  | _ => .inr (0, [.int (nI (w 4 i)), .int (nI (w 4 i) - 1), .int (nI (w 5 i)), .ref (bd 1 (w 3 i))])
def mV (w : Nat → Nat → Nat) (κ i : Nat) : Prop := match κ with
  | 0 => i = 0
  | 1 => i < 4
  | 2 => i < 4 ∧ 0 < w 0 i
  | 3 => rV w i
  | 4 => i = 0
  | 5 => i = 0
  | 6 => i < w 0 5
  | _ => False
def mI (bd w : Nat → Nat → Nat) : Prop := ∀ κ i κ' i' : Nat, mV w κ i → mV w κ' i' → bd κ i = bd κ' i' → κ = κ' ∧ i = i'
/-- the cell that holds a number -/
def mO (r k : Nat) : Nat × Nat := if r = 0 then (0, 0) else (3, r)
def mP (bd w : Nat → Nat → Nat) : Nat → Prop := fun q => ∃ κ i : Nat, mV w κ i ∧ q = bd κ i
def mA (bd w : Nat → Nat → Nat) (sz : Nat) : Nat → Prop := fun q => mP bd w q ∨ sz ≤ q
def MW (D : va_G) (cy : Nat → ClassId) (bd w : Nat → Nat → Nat) (m : Md) (S : Int64) (H : Heap) : Prop := wB w ∧ mI bd w ∧ ((∀ i, i < 4 → 0 < w 0 i → w 0 i ≤ w 1 i) ∧ (∀ i, w 1 i ≤ 64) ∧ ∀ i, i < w 0 5 → w 3 i < 4) ∧ ∀ κ i : Nat, mV w κ i → va_at D vwCl (bd κ i, mS cy bd w m S κ i) H
theorem mS_up {cy : Nat → ClassId} {bd w : Nat → Nat → Nat} {S : Int64} {m : Md} {r k : Nat} {v : Int32} {κ i : Nat} (hw : wB w) (hv : mV w κ i) (hne : ¬ ((κ, i) = mO r k)) : mS cy bd w (u2 m r k v) S κ i = mS cy bd w m S κ i := by
  match κ, hv with
  | 0, hv =>
    have hv : i = 0 := hv
    have h : ∀ K, u2 m r k v 0 K = m 0 K := fun K => u2_nr (fun e => hne (by rw [hv, ← e]; rfl))
    simp only [mS, h]
  | 1, hv =>
    rfl
  | 2, hv => rfl
  | 3, hv =>
    have hv : rV w i := hv
    have h : ∀ K, u2 m r k v i K = m i K := fun K => u2_nr (fun e => hne (by
      subst e
      unfold rV at hv
      unfold wB at hw
      unfold mO
      rw [if_neg (by omega)]))
    simp only [mS, h]
  | 4, hv => rfl
  | 5, hv => rfl
  | 6, hv =>
    rfl

theorem MW.put {D : va_G} {cy : Nat → ClassId} {bd w : Nat → Nat → Nat} {m : Md} {S : Int64} {H H1 : Heap} {r k : Nat} {v : Int32} {κ i : Nat} (hM : MW D cy bd w m S H) (hv : mV w κ i) (ho : mO r k = (κ, i)) (hat : va_at D vwCl (bd κ i, mS cy bd w (u2 m r k v) S κ i) H1) (oq : ∀ q : Nat, q ≠ bd κ i → H1[q]? = H[q]?) : MW D cy bd w (u2 m r k v) S H1 := by
  obtain ⟨hw, hI, hc, hC⟩ := hM
  refine ⟨hw, hI, hc, ?_⟩
  intro κ' i' hv'
  by_cases h : (κ', i') = (κ, i)
  · cases h; exact hat
  · rw [mS_up hw hv' (by rw [ho]; exact h)]
    exact (hC κ' i' hv').kept (oq _ (fun e => h (by obtain ⟨rfl, rfl⟩ := hI _ _ _ _ hv' hv e; rfl)))
theorem MW.kept {D : va_G} {cy : Nat → ClassId} {bd w : Nat → Nat → Nat} {m : Md} {S : Int64} {H H1 : Heap} (hM : MW D cy bd w m S H) (oq : ∀ κ i : Nat, mV w κ i → H1[bd κ i]? = H[bd κ i]?) : MW D cy bd w m S H1 := ⟨hM.1, hM.2.1, hM.2.2.1, fun κ i hv => (hM.2.2.2 κ i hv).kept (oq κ i hv)⟩
theorem MW.lt {D : va_G} {cy : Nat → ClassId} {bd w : Nat → Nat → Nat} {m : Md} {S : Int64} {H : Heap} (hM : MW D cy bd w m S H) {κ i : Nat} (hv : mV w κ i) : bd κ i < H.size := (hM.2.2.2 κ i hv).lt
theorem MW.at {D : va_G} {cy : Nat → ClassId} {bd w : Nat → Nat → Nat} {m : Md} {S : Int64} {t : State} {H : Heap} (h : t.heap = H) (hM : MW D cy bd w m S H) : MW D cy bd w m S t.heap := by rw [h]; exact hM
/-- what a walk needs of the tables and of ArrayList's static -/
def mE (e0 : Nat) (bd w : Nat → Nat → Nat) : Prop := ∀ i, i < 4 → w 0 i = 0 → bd 2 i = e0
def MX (e0 : Nat) (bd w : Nat → Nat → Nat) (U : State) (H : Heap) : Prop := va_Z "java/util/ArrayList" "DEFAULTCAPACITY_EMPTY_ELEMENTDATA" "[Ljava/lang/Object;" (.ref e0) (mP bd w) U H ∧ va_T (.object "java/lang/Object") e0 0 (fun _ => .null) (mP bd w) U H
/-- the words that an iterator's calls by interface ask -/
def nHas : MethodName := ⟨"java/util/Iterator", "hasNext", "()Z"⟩
def nNext : MethodName := ⟨"java/util/Iterator", "next", "()Ljava/lang/Object;"⟩
def qF (s : State) : Prop := va_Fw RJx35411 nHas yJx35411_hasNext_aae02 s ∧ va_Fw RJx35411 nNext yJx35411_next_0502b s ∧ va_AO "java/lang/Object" s ∧ ∃ mi, va_Mi "[Ljava/lang/Object;" mi s
theorem qF.moved {u U : State} (hvm : u.vm.Alike U.vm) (h : qF u) : qF U := ⟨va_Fw.moved (by decide) hvm h.1, va_Fw.moved (by decide) hvm h.2.1, va_AO.moved hvm h.2.2.1, h.2.2.2.elim fun mi q => ⟨mi, q.moved hvm⟩⟩
def MB (D : va_G) (cy : Nat → ClassId) (e0 : Nat) (bd w : Nat → Nat → Nat) (s : State) : Prop := va_K D vwCl (qtys cy) s ∧ qB s ∧ mE e0 bd w ∧ MX e0 bd w s s.heap ∧ qF s
def MU (D : va_G) (cy : Nat → ClassId) (e0 : Nat) (bd w : Nat → Nat → Nat) (m : Md) (S : Int64) (U : State) : Prop := MW D cy bd w m S U.heap ∧ MB D cy e0 bd w U
abbrev mPre (D : va_G) (cy : Nat → ClassId) (e0 : Nat) (bd w : Nat → Nat → Nat) (m : Md) (S : Int64) (sz : Nat) : State → Prop := fun U => U.heap.size = sz ∧ MU D cy e0 bd w m S U
section GM
variable {p : Program} {l : Launch} {e : Env} {R : Room} {s : State} {m : MethodId} {args : Array Value} {below : List Frame} {meth : Method} {c : Code} {H : Heap} {locs : List Loc} {cells slots : Nat} {Q : State → Prop}
variable {cc : ByteArray} {pc : Nat} {ls : Array Slot} {rest : List Value} {D : va_G} {cl : List vw_C} {A : Nat → Prop} {a : Nat} {tys : List (ClassId × FieldType)} {H0 : Heap}
variable {cy : Nat → ClassId} {bd : Nat → Nat → Nat} {w : Nat → Nat → Nat} {mm : Md} {S : Int64}

theorem gt_m0_0 (hx : p.tables.exec = Jvm.exec) (hb : c.code = cc) {own : String} {index : Nat} {Ts : List Cond} (hts : ∀ w ∈ Ts, w.before args s = true) (hin : ∀ w ∈ wsX70, w ∈ Ts) (hown : s.vm.findClass own = some m.cls) (hK : va_K D vwCl (qtys cy) s) (hM : MW D cy bd w mm S H) (hl : Cond.fieldLink own index RX7 (TX7 0).2.1 (TX7 0).2.2.1 ∈ Ts) (hdg : decode cc pc = .ok (.getfield index, 3)) (kk : W p l e R s m args below meth c H locs cells slots Q (F0 m (pc + 3) ls ((.int (mm 0 20)) :: rest))) : W p l e R s m args below meth c H locs cells slots Q (F0 m pc ls (.ref (bd 0 0) :: rest)) :=
  q_get hx hb hts hin hown hK (fs := _) (hM.2.2.2 0 0 rfl) rfl 0 (by decide) hl rfl rfl hdg kk
theorem pt_m0_0 (hx : p.tables.exec = Jvm.exec) (hb : c.code = cc) {own : String} {index : Nat} {Ts : List Cond} (hts : ∀ w ∈ Ts, w.before args s = true) (hin : ∀ w ∈ wsX70, w ∈ Ts) (hown : s.vm.findClass own = some m.cls) (hK : va_K D vwCl (qtys cy) s) (hM : MW D cy bd w mm S H) (hS : va_S A H0 H locs) (hA : ∀ κ i : Nat, mV w κ i → A (bd κ i)) (hl : Cond.fieldLink own index RX7 (TX7 0).2.1 (TX7 0).2.2.1 ∈ Ts) {v : Int32} (hdg : decode cc pc = .ok (.putfield index, 3)) (kk : ∀ (H1 : Heap) (locs1 : List Loc), MW D cy bd w (u2 mm 0 20 v) S H1 → va_S A H0 H1 locs1 → W p l e R s m args below meth c H1 locs1 cells slots Q (F0 m (pc + 3) ls rest)) : W p l e R s m args below meth c H locs cells slots Q (F0 m pc ls (.int v :: .ref (bd 0 0) :: rest)) := by
  refine q_put hx hb hts hin tyX7 tyX7_ok nmX7 hown hK (fs := _) (hM.2.2.2 0 0 rfl) hS (hA 0 0 rfl) rfl 0 (by decide) hl rfl rfl rfl rfl (Nat.le_of_ble_eq_true rfl) hdg (fun H1 locs1 h1 _ h3 h4 => kk H1 locs1 (MW.put hM (κ := 0) (i := 0) rfl ?_ ?_ h3) h4)
  · rfl
  · have e : mS cy bd w (u2 mm 0 20 v) S 0 0 = .inr (9, (match mS cy bd w mm S 0 0 with | .inr o => o.2 | .inl _ => []).set 0 (.int v)) := by simp [mS, u2]
    rw [e]; exact h1
theorem gt_m0_1 (hx : p.tables.exec = Jvm.exec) (hb : c.code = cc) {own : String} {index : Nat} {Ts : List Cond} (hts : ∀ w ∈ Ts, w.before args s = true) (hin : ∀ w ∈ wsX70, w ∈ Ts) (hown : s.vm.findClass own = some m.cls) (hK : va_K D vwCl (qtys cy) s) (hM : MW D cy bd w mm S H) (hl : Cond.fieldLink own index RX7 (TX7 1).2.1 (TX7 1).2.2.1 ∈ Ts) (hdg : decode cc pc = .ok (.getfield index, 3)) (kk : W p l e R s m args below meth c H locs cells slots Q (F0 m (pc + 3) ls ((.ref (bd 1 0)) :: rest))) : W p l e R s m args below meth c H locs cells slots Q (F0 m pc ls (.ref (bd 0 0) :: rest)) :=
  q_get hx hb hts hin hown hK (fs := _) (hM.2.2.2 0 0 rfl) rfl 1 (by decide) hl rfl rfl hdg kk
theorem gt_m0_2 (hx : p.tables.exec = Jvm.exec) (hb : c.code = cc) {own : String} {index : Nat} {Ts : List Cond} (hts : ∀ w ∈ Ts, w.before args s = true) (hin : ∀ w ∈ wsX70, w ∈ Ts) (hown : s.vm.findClass own = some m.cls) (hK : va_K D vwCl (qtys cy) s) (hM : MW D cy bd w mm S H) (hl : Cond.fieldLink own index RX7 (TX7 2).2.1 (TX7 2).2.2.1 ∈ Ts) (hdg : decode cc pc = .ok (.getfield index, 3)) (kk : W p l e R s m args below meth c H locs cells slots Q (F0 m (pc + 3) ls ((.ref (bd 1 1)) :: rest))) : W p l e R s m args below meth c H locs cells slots Q (F0 m pc ls (.ref (bd 0 0) :: rest)) :=
  q_get hx hb hts hin hown hK (fs := _) (hM.2.2.2 0 0 rfl) rfl 2 (by decide) hl rfl rfl hdg kk
theorem gt_m0_3 (hx : p.tables.exec = Jvm.exec) (hb : c.code = cc) {own : String} {index : Nat} {Ts : List Cond} (hts : ∀ w ∈ Ts, w.before args s = true) (hin : ∀ w ∈ wsX70, w ∈ Ts) (hown : s.vm.findClass own = some m.cls) (hK : va_K D vwCl (qtys cy) s) (hM : MW D cy bd w mm S H) (hl : Cond.fieldLink own index RX7 (TX7 3).2.1 (TX7 3).2.2.1 ∈ Ts) (hdg : decode cc pc = .ok (.getfield index, 3)) (kk : W p l e R s m args below meth c H locs cells slots Q (F0 m (pc + 3) ls ((.ref (bd 4 0)) :: rest))) : W p l e R s m args below meth c H locs cells slots Q (F0 m pc ls (.ref (bd 0 0) :: rest)) :=
  q_get hx hb hts hin hown hK (fs := _) (hM.2.2.2 0 0 rfl) rfl 3 (by decide) hl rfl rfl hdg kk
theorem gt_m0_4 (hx : p.tables.exec = Jvm.exec) (hb : c.code = cc) {own : String} {index : Nat} {Ts : List Cond} (hts : ∀ w ∈ Ts, w.before args s = true) (hin : ∀ w ∈ wsX70, w ∈ Ts) (hown : s.vm.findClass own = some m.cls) (hK : va_K D vwCl (qtys cy) s) (hM : MW D cy bd w mm S H) (hl : Cond.fieldLink own index RX7 (TX7 4).2.1 (TX7 4).2.2.1 ∈ Ts) (hdg : decode cc pc = .ok (.getfield index, 3)) (kk : W p l e R s m args below meth c H locs cells slots Q (F0 m (pc + 3) ls ((.ref (bd 1 2)) :: rest))) : W p l e R s m args below meth c H locs cells slots Q (F0 m pc ls (.ref (bd 0 0) :: rest)) :=
  q_get hx hb hts hin hown hK (fs := _) (hM.2.2.2 0 0 rfl) rfl 4 (by decide) hl rfl rfl hdg kk
theorem gt_m0_5 (hx : p.tables.exec = Jvm.exec) (hb : c.code = cc) {own : String} {index : Nat} {Ts : List Cond} (hts : ∀ w ∈ Ts, w.before args s = true) (hin : ∀ w ∈ wsX70, w ∈ Ts) (hown : s.vm.findClass own = some m.cls) (hK : va_K D vwCl (qtys cy) s) (hM : MW D cy bd w mm S H) (hl : Cond.fieldLink own index RX7 (TX7 5).2.1 (TX7 5).2.2.1 ∈ Ts) (hdg : decode cc pc = .ok (.getfield index, 3)) (kk : W p l e R s m args below meth c H locs cells slots Q (F0 m (pc + 3) ls ((.ref (bd 1 3)) :: rest))) : W p l e R s m args below meth c H locs cells slots Q (F0 m pc ls (.ref (bd 0 0) :: rest)) :=
  q_get hx hb hts hin hown hK (fs := _) (hM.2.2.2 0 0 rfl) rfl 5 (by decide) hl rfl rfl hdg kk
theorem gt_m0_6 (hx : p.tables.exec = Jvm.exec) (hb : c.code = cc) {own : String} {index : Nat} {Ts : List Cond} (hts : ∀ w ∈ Ts, w.before args s = true) (hin : ∀ w ∈ wsX70, w ∈ Ts) (hown : s.vm.findClass own = some m.cls) (hK : va_K D vwCl (qtys cy) s) (hM : MW D cy bd w mm S H) (hl : Cond.fieldLink own index RX7 (TX7 6).2.1 (TX7 6).2.2.1 ∈ Ts) (hdg : decode cc pc = .ok (.getfield index, 3)) (kk : W p l e R s m args below meth c H locs cells slots Q (F0 m (pc + 3) ls ((.ref (bd 5 0)) :: rest))) : W p l e R s m args below meth c H locs cells slots Q (F0 m pc ls (.ref (bd 0 0) :: rest)) :=
  q_get hx hb hts hin hown hK (fs := _) (hM.2.2.2 0 0 rfl) rfl 6 (by decide) hl rfl rfl hdg kk
theorem gt_m0_7 (hx : p.tables.exec = Jvm.exec) (hb : c.code = cc) {own : String} {index : Nat} {Ts : List Cond} (hts : ∀ w ∈ Ts, w.before args s = true) (hin : ∀ w ∈ wsX70, w ∈ Ts) (hown : s.vm.findClass own = some m.cls) (hK : va_K D vwCl (qtys cy) s) (hM : MW D cy bd w mm S H) (hl : Cond.fieldLink own index RX7 (TX7 7).2.1 (TX7 7).2.2.1 ∈ Ts) (hdg : decode cc pc = .ok (.getfield index, 3)) (kk : W p l e R s m args below meth c H locs cells slots Q (F0 m (pc + 3) ls ((.ref (bd 3 360)) :: rest))) : W p l e R s m args below meth c H locs cells slots Q (F0 m pc ls (.ref (bd 0 0) :: rest)) :=
  q_get hx hb hts hin hown hK (fs := _) (hM.2.2.2 0 0 rfl) rfl 7 (by decide) hl rfl rfl hdg kk
theorem gt_m0_8 (hx : p.tables.exec = Jvm.exec) (hb : c.code = cc) {own : String} {index : Nat} {Ts : List Cond} (hts : ∀ w ∈ Ts, w.before args s = true) (hin : ∀ w ∈ wsX70, w ∈ Ts) (hown : s.vm.findClass own = some m.cls) (hK : va_K D vwCl (qtys cy) s) (hM : MW D cy bd w mm S H) (hl : Cond.fieldLink own index RX7 (TX7 8).2.1 (TX7 8).2.2.1 ∈ Ts) (hdg : decode cc pc = .ok (.getfield index, 3)) (kk : W p l e R s m args below meth c H locs cells slots Q (F0 m (pc + 3) ls ((.int (mm 0 0)) :: rest))) : W p l e R s m args below meth c H locs cells slots Q (F0 m pc ls (.ref (bd 0 0) :: rest)) :=
  q_get hx hb hts hin hown hK (fs := _) (hM.2.2.2 0 0 rfl) rfl 8 (by decide) hl rfl rfl hdg kk
theorem pt_m0_8 (hx : p.tables.exec = Jvm.exec) (hb : c.code = cc) {own : String} {index : Nat} {Ts : List Cond} (hts : ∀ w ∈ Ts, w.before args s = true) (hin : ∀ w ∈ wsX70, w ∈ Ts) (hown : s.vm.findClass own = some m.cls) (hK : va_K D vwCl (qtys cy) s) (hM : MW D cy bd w mm S H) (hS : va_S A H0 H locs) (hA : ∀ κ i : Nat, mV w κ i → A (bd κ i)) (hl : Cond.fieldLink own index RX7 (TX7 8).2.1 (TX7 8).2.2.1 ∈ Ts) {v : Int32} (hdg : decode cc pc = .ok (.putfield index, 3)) (kk : ∀ (H1 : Heap) (locs1 : List Loc), MW D cy bd w (u2 mm 0 0 v) S H1 → va_S A H0 H1 locs1 → W p l e R s m args below meth c H1 locs1 cells slots Q (F0 m (pc + 3) ls rest)) : W p l e R s m args below meth c H locs cells slots Q (F0 m pc ls (.int v :: .ref (bd 0 0) :: rest)) := by
  refine q_put hx hb hts hin tyX7 tyX7_ok nmX7 hown hK (fs := _) (hM.2.2.2 0 0 rfl) hS (hA 0 0 rfl) rfl 8 (by decide) hl rfl rfl rfl rfl (Nat.le_of_ble_eq_true rfl) hdg (fun H1 locs1 h1 _ h3 h4 => kk H1 locs1 (MW.put hM (κ := 0) (i := 0) rfl ?_ ?_ h3) h4)
  · rfl
  · have e : mS cy bd w (u2 mm 0 0 v) S 0 0 = .inr (9, (match mS cy bd w mm S 0 0 with | .inr o => o.2 | .inl _ => []).set 8 (.int v)) := by simp [mS, u2]
    rw [e]; exact h1
theorem gt_m0_9 (hx : p.tables.exec = Jvm.exec) (hb : c.code = cc) {own : String} {index : Nat} {Ts : List Cond} (hts : ∀ w ∈ Ts, w.before args s = true) (hin : ∀ w ∈ wsX70, w ∈ Ts) (hown : s.vm.findClass own = some m.cls) (hK : va_K D vwCl (qtys cy) s) (hM : MW D cy bd w mm S H) (hl : Cond.fieldLink own index RX7 (TX7 9).2.1 (TX7 9).2.2.1 ∈ Ts) (hdg : decode cc pc = .ok (.getfield index, 3)) (kk : W p l e R s m args below meth c H locs cells slots Q (F0 m (pc + 3) ls ((.int (mm 0 1)) :: rest))) : W p l e R s m args below meth c H locs cells slots Q (F0 m pc ls (.ref (bd 0 0) :: rest)) :=
  q_get hx hb hts hin hown hK (fs := _) (hM.2.2.2 0 0 rfl) rfl 9 (by decide) hl rfl rfl hdg kk
theorem pt_m0_9 (hx : p.tables.exec = Jvm.exec) (hb : c.code = cc) {own : String} {index : Nat} {Ts : List Cond} (hts : ∀ w ∈ Ts, w.before args s = true) (hin : ∀ w ∈ wsX70, w ∈ Ts) (hown : s.vm.findClass own = some m.cls) (hK : va_K D vwCl (qtys cy) s) (hM : MW D cy bd w mm S H) (hS : va_S A H0 H locs) (hA : ∀ κ i : Nat, mV w κ i → A (bd κ i)) (hl : Cond.fieldLink own index RX7 (TX7 9).2.1 (TX7 9).2.2.1 ∈ Ts) {v : Int32} (hdg : decode cc pc = .ok (.putfield index, 3)) (kk : ∀ (H1 : Heap) (locs1 : List Loc), MW D cy bd w (u2 mm 0 1 v) S H1 → va_S A H0 H1 locs1 → W p l e R s m args below meth c H1 locs1 cells slots Q (F0 m (pc + 3) ls rest)) : W p l e R s m args below meth c H locs cells slots Q (F0 m pc ls (.int v :: .ref (bd 0 0) :: rest)) := by
  refine q_put hx hb hts hin tyX7 tyX7_ok nmX7 hown hK (fs := _) (hM.2.2.2 0 0 rfl) hS (hA 0 0 rfl) rfl 9 (by decide) hl rfl rfl rfl rfl (Nat.le_of_ble_eq_true rfl) hdg (fun H1 locs1 h1 _ h3 h4 => kk H1 locs1 (MW.put hM (κ := 0) (i := 0) rfl ?_ ?_ h3) h4)
  · rfl
  · have e : mS cy bd w (u2 mm 0 1 v) S 0 0 = .inr (9, (match mS cy bd w mm S 0 0 with | .inr o => o.2 | .inl _ => []).set 9 (.int v)) := by simp [mS, u2]
    rw [e]; exact h1
theorem gt_m0_10 (hx : p.tables.exec = Jvm.exec) (hb : c.code = cc) {own : String} {index : Nat} {Ts : List Cond} (hts : ∀ w ∈ Ts, w.before args s = true) (hin : ∀ w ∈ wsX70, w ∈ Ts) (hown : s.vm.findClass own = some m.cls) (hK : va_K D vwCl (qtys cy) s) (hM : MW D cy bd w mm S H) (hl : Cond.fieldLink own index RX7 (TX7 10).2.1 (TX7 10).2.2.1 ∈ Ts) (hdg : decode cc pc = .ok (.getfield index, 3)) (kk : W p l e R s m args below meth c H locs cells slots Q (F0 m (pc + 3) ls ((.int (mm 0 2)) :: rest))) : W p l e R s m args below meth c H locs cells slots Q (F0 m pc ls (.ref (bd 0 0) :: rest)) :=
  q_get hx hb hts hin hown hK (fs := _) (hM.2.2.2 0 0 rfl) rfl 10 (by decide) hl rfl rfl hdg kk
theorem pt_m0_10 (hx : p.tables.exec = Jvm.exec) (hb : c.code = cc) {own : String} {index : Nat} {Ts : List Cond} (hts : ∀ w ∈ Ts, w.before args s = true) (hin : ∀ w ∈ wsX70, w ∈ Ts) (hown : s.vm.findClass own = some m.cls) (hK : va_K D vwCl (qtys cy) s) (hM : MW D cy bd w mm S H) (hS : va_S A H0 H locs) (hA : ∀ κ i : Nat, mV w κ i → A (bd κ i)) (hl : Cond.fieldLink own index RX7 (TX7 10).2.1 (TX7 10).2.2.1 ∈ Ts) {v : Int32} (hdg : decode cc pc = .ok (.putfield index, 3)) (kk : ∀ (H1 : Heap) (locs1 : List Loc), MW D cy bd w (u2 mm 0 2 v) S H1 → va_S A H0 H1 locs1 → W p l e R s m args below meth c H1 locs1 cells slots Q (F0 m (pc + 3) ls rest)) : W p l e R s m args below meth c H locs cells slots Q (F0 m pc ls (.int v :: .ref (bd 0 0) :: rest)) := by
  refine q_put hx hb hts hin tyX7 tyX7_ok nmX7 hown hK (fs := _) (hM.2.2.2 0 0 rfl) hS (hA 0 0 rfl) rfl 10 (by decide) hl rfl rfl rfl rfl (Nat.le_of_ble_eq_true rfl) hdg (fun H1 locs1 h1 _ h3 h4 => kk H1 locs1 (MW.put hM (κ := 0) (i := 0) rfl ?_ ?_ h3) h4)
  · rfl
  · have e : mS cy bd w (u2 mm 0 2 v) S 0 0 = .inr (9, (match mS cy bd w mm S 0 0 with | .inr o => o.2 | .inl _ => []).set 10 (.int v)) := by simp [mS, u2]
    rw [e]; exact h1
theorem gt_m0_11 (hx : p.tables.exec = Jvm.exec) (hb : c.code = cc) {own : String} {index : Nat} {Ts : List Cond} (hts : ∀ w ∈ Ts, w.before args s = true) (hin : ∀ w ∈ wsX70, w ∈ Ts) (hown : s.vm.findClass own = some m.cls) (hK : va_K D vwCl (qtys cy) s) (hM : MW D cy bd w mm S H) (hl : Cond.fieldLink own index RX7 (TX7 11).2.1 (TX7 11).2.2.1 ∈ Ts) (hdg : decode cc pc = .ok (.getfield index, 3)) (kk : W p l e R s m args below meth c H locs cells slots Q (F0 m (pc + 3) ls ((.int (mm 0 3)) :: rest))) : W p l e R s m args below meth c H locs cells slots Q (F0 m pc ls (.ref (bd 0 0) :: rest)) :=
  q_get hx hb hts hin hown hK (fs := _) (hM.2.2.2 0 0 rfl) rfl 11 (by decide) hl rfl rfl hdg kk
theorem pt_m0_11 (hx : p.tables.exec = Jvm.exec) (hb : c.code = cc) {own : String} {index : Nat} {Ts : List Cond} (hts : ∀ w ∈ Ts, w.before args s = true) (hin : ∀ w ∈ wsX70, w ∈ Ts) (hown : s.vm.findClass own = some m.cls) (hK : va_K D vwCl (qtys cy) s) (hM : MW D cy bd w mm S H) (hS : va_S A H0 H locs) (hA : ∀ κ i : Nat, mV w κ i → A (bd κ i)) (hl : Cond.fieldLink own index RX7 (TX7 11).2.1 (TX7 11).2.2.1 ∈ Ts) {v : Int32} (hdg : decode cc pc = .ok (.putfield index, 3)) (kk : ∀ (H1 : Heap) (locs1 : List Loc), MW D cy bd w (u2 mm 0 3 v) S H1 → va_S A H0 H1 locs1 → W p l e R s m args below meth c H1 locs1 cells slots Q (F0 m (pc + 3) ls rest)) : W p l e R s m args below meth c H locs cells slots Q (F0 m pc ls (.int v :: .ref (bd 0 0) :: rest)) := by
  refine q_put hx hb hts hin tyX7 tyX7_ok nmX7 hown hK (fs := _) (hM.2.2.2 0 0 rfl) hS (hA 0 0 rfl) rfl 11 (by decide) hl rfl rfl rfl rfl (Nat.le_of_ble_eq_true rfl) hdg (fun H1 locs1 h1 _ h3 h4 => kk H1 locs1 (MW.put hM (κ := 0) (i := 0) rfl ?_ ?_ h3) h4)
  · rfl
  · have e : mS cy bd w (u2 mm 0 3 v) S 0 0 = .inr (9, (match mS cy bd w mm S 0 0 with | .inr o => o.2 | .inl _ => []).set 11 (.int v)) := by simp [mS, u2]
    rw [e]; exact h1
theorem gt_m0_12 (hx : p.tables.exec = Jvm.exec) (hb : c.code = cc) {own : String} {index : Nat} {Ts : List Cond} (hts : ∀ w ∈ Ts, w.before args s = true) (hin : ∀ w ∈ wsX70, w ∈ Ts) (hown : s.vm.findClass own = some m.cls) (hK : va_K D vwCl (qtys cy) s) (hM : MW D cy bd w mm S H) (hl : Cond.fieldLink own index RX7 (TX7 12).2.1 (TX7 12).2.2.1 ∈ Ts) (hdg : decode cc pc = .ok (.getfield index, 3)) (kk : W p l e R s m args below meth c H locs cells slots Q (F0 m (pc + 3) ls ((.int (mm 0 4)) :: rest))) : W p l e R s m args below meth c H locs cells slots Q (F0 m pc ls (.ref (bd 0 0) :: rest)) :=
  q_get hx hb hts hin hown hK (fs := _) (hM.2.2.2 0 0 rfl) rfl 12 (by decide) hl rfl rfl hdg kk
theorem pt_m0_12 (hx : p.tables.exec = Jvm.exec) (hb : c.code = cc) {own : String} {index : Nat} {Ts : List Cond} (hts : ∀ w ∈ Ts, w.before args s = true) (hin : ∀ w ∈ wsX70, w ∈ Ts) (hown : s.vm.findClass own = some m.cls) (hK : va_K D vwCl (qtys cy) s) (hM : MW D cy bd w mm S H) (hS : va_S A H0 H locs) (hA : ∀ κ i : Nat, mV w κ i → A (bd κ i)) (hl : Cond.fieldLink own index RX7 (TX7 12).2.1 (TX7 12).2.2.1 ∈ Ts) {v : Int32} (hdg : decode cc pc = .ok (.putfield index, 3)) (kk : ∀ (H1 : Heap) (locs1 : List Loc), MW D cy bd w (u2 mm 0 4 v) S H1 → va_S A H0 H1 locs1 → W p l e R s m args below meth c H1 locs1 cells slots Q (F0 m (pc + 3) ls rest)) : W p l e R s m args below meth c H locs cells slots Q (F0 m pc ls (.int v :: .ref (bd 0 0) :: rest)) := by
  refine q_put hx hb hts hin tyX7 tyX7_ok nmX7 hown hK (fs := _) (hM.2.2.2 0 0 rfl) hS (hA 0 0 rfl) rfl 12 (by decide) hl rfl rfl rfl rfl (Nat.le_of_ble_eq_true rfl) hdg (fun H1 locs1 h1 _ h3 h4 => kk H1 locs1 (MW.put hM (κ := 0) (i := 0) rfl ?_ ?_ h3) h4)
  · rfl
  · have e : mS cy bd w (u2 mm 0 4 v) S 0 0 = .inr (9, (match mS cy bd w mm S 0 0 with | .inr o => o.2 | .inl _ => []).set 12 (.int v)) := by simp [mS, u2]
    rw [e]; exact h1
theorem gt_m0_13 (hx : p.tables.exec = Jvm.exec) (hb : c.code = cc) {own : String} {index : Nat} {Ts : List Cond} (hts : ∀ w ∈ Ts, w.before args s = true) (hin : ∀ w ∈ wsX70, w ∈ Ts) (hown : s.vm.findClass own = some m.cls) (hK : va_K D vwCl (qtys cy) s) (hM : MW D cy bd w mm S H) (hl : Cond.fieldLink own index RX7 (TX7 13).2.1 (TX7 13).2.2.1 ∈ Ts) (hdg : decode cc pc = .ok (.getfield index, 3)) (kk : W p l e R s m args below meth c H locs cells slots Q (F0 m (pc + 3) ls ((.int (mm 0 5)) :: rest))) : W p l e R s m args below meth c H locs cells slots Q (F0 m pc ls (.ref (bd 0 0) :: rest)) :=
  q_get hx hb hts hin hown hK (fs := _) (hM.2.2.2 0 0 rfl) rfl 13 (by decide) hl rfl rfl hdg kk
theorem pt_m0_13 (hx : p.tables.exec = Jvm.exec) (hb : c.code = cc) {own : String} {index : Nat} {Ts : List Cond} (hts : ∀ w ∈ Ts, w.before args s = true) (hin : ∀ w ∈ wsX70, w ∈ Ts) (hown : s.vm.findClass own = some m.cls) (hK : va_K D vwCl (qtys cy) s) (hM : MW D cy bd w mm S H) (hS : va_S A H0 H locs) (hA : ∀ κ i : Nat, mV w κ i → A (bd κ i)) (hl : Cond.fieldLink own index RX7 (TX7 13).2.1 (TX7 13).2.2.1 ∈ Ts) {v : Int32} (hdg : decode cc pc = .ok (.putfield index, 3)) (kk : ∀ (H1 : Heap) (locs1 : List Loc), MW D cy bd w (u2 mm 0 5 v) S H1 → va_S A H0 H1 locs1 → W p l e R s m args below meth c H1 locs1 cells slots Q (F0 m (pc + 3) ls rest)) : W p l e R s m args below meth c H locs cells slots Q (F0 m pc ls (.int v :: .ref (bd 0 0) :: rest)) := by
  refine q_put hx hb hts hin tyX7 tyX7_ok nmX7 hown hK (fs := _) (hM.2.2.2 0 0 rfl) hS (hA 0 0 rfl) rfl 13 (by decide) hl rfl rfl rfl rfl (Nat.le_of_ble_eq_true rfl) hdg (fun H1 locs1 h1 _ h3 h4 => kk H1 locs1 (MW.put hM (κ := 0) (i := 0) rfl ?_ ?_ h3) h4)
  · rfl
  · have e : mS cy bd w (u2 mm 0 5 v) S 0 0 = .inr (9, (match mS cy bd w mm S 0 0 with | .inr o => o.2 | .inl _ => []).set 13 (.int v)) := by simp [mS, u2]
    rw [e]; exact h1
theorem gt_m0_14 (hx : p.tables.exec = Jvm.exec) (hb : c.code = cc) {own : String} {index : Nat} {Ts : List Cond} (hts : ∀ w ∈ Ts, w.before args s = true) (hin : ∀ w ∈ wsX70, w ∈ Ts) (hown : s.vm.findClass own = some m.cls) (hK : va_K D vwCl (qtys cy) s) (hM : MW D cy bd w mm S H) (hl : Cond.fieldLink own index RX7 (TX7 14).2.1 (TX7 14).2.2.1 ∈ Ts) (hdg : decode cc pc = .ok (.getfield index, 3)) (kk : W p l e R s m args below meth c H locs cells slots Q (F0 m (pc + 3) ls ((.int (mm 0 6)) :: rest))) : W p l e R s m args below meth c H locs cells slots Q (F0 m pc ls (.ref (bd 0 0) :: rest)) :=
  q_get hx hb hts hin hown hK (fs := _) (hM.2.2.2 0 0 rfl) rfl 14 (by decide) hl rfl rfl hdg kk
theorem pt_m0_14 (hx : p.tables.exec = Jvm.exec) (hb : c.code = cc) {own : String} {index : Nat} {Ts : List Cond} (hts : ∀ w ∈ Ts, w.before args s = true) (hin : ∀ w ∈ wsX70, w ∈ Ts) (hown : s.vm.findClass own = some m.cls) (hK : va_K D vwCl (qtys cy) s) (hM : MW D cy bd w mm S H) (hS : va_S A H0 H locs) (hA : ∀ κ i : Nat, mV w κ i → A (bd κ i)) (hl : Cond.fieldLink own index RX7 (TX7 14).2.1 (TX7 14).2.2.1 ∈ Ts) {v : Int32} (hdg : decode cc pc = .ok (.putfield index, 3)) (kk : ∀ (H1 : Heap) (locs1 : List Loc), MW D cy bd w (u2 mm 0 6 v) S H1 → va_S A H0 H1 locs1 → W p l e R s m args below meth c H1 locs1 cells slots Q (F0 m (pc + 3) ls rest)) : W p l e R s m args below meth c H locs cells slots Q (F0 m pc ls (.int v :: .ref (bd 0 0) :: rest)) := by
  refine q_put hx hb hts hin tyX7 tyX7_ok nmX7 hown hK (fs := _) (hM.2.2.2 0 0 rfl) hS (hA 0 0 rfl) rfl 14 (by decide) hl rfl rfl rfl rfl (Nat.le_of_ble_eq_true rfl) hdg (fun H1 locs1 h1 _ h3 h4 => kk H1 locs1 (MW.put hM (κ := 0) (i := 0) rfl ?_ ?_ h3) h4)
  · rfl
  · have e : mS cy bd w (u2 mm 0 6 v) S 0 0 = .inr (9, (match mS cy bd w mm S 0 0 with | .inr o => o.2 | .inl _ => []).set 14 (.int v)) := by simp [mS, u2]
    rw [e]; exact h1
theorem gt_m0_15 (hx : p.tables.exec = Jvm.exec) (hb : c.code = cc) {own : String} {index : Nat} {Ts : List Cond} (hts : ∀ w ∈ Ts, w.before args s = true) (hin : ∀ w ∈ wsX70, w ∈ Ts) (hown : s.vm.findClass own = some m.cls) (hK : va_K D vwCl (qtys cy) s) (hM : MW D cy bd w mm S H) (hl : Cond.fieldLink own index RX7 (TX7 15).2.1 (TX7 15).2.2.1 ∈ Ts) (hdg : decode cc pc = .ok (.getfield index, 3)) (kk : W p l e R s m args below meth c H locs cells slots Q (F0 m (pc + 3) ls ((.long S) :: rest))) : W p l e R s m args below meth c H locs cells slots Q (F0 m pc ls (.ref (bd 0 0) :: rest)) :=
  q_get hx hb hts hin hown hK (fs := _) (hM.2.2.2 0 0 rfl) rfl 15 (by decide) hl rfl rfl hdg kk
theorem mS_S {S2 : Int64} {κ i : Nat} (hne : κ ≠ 0) : mS cy bd w mm S2 κ i = mS cy bd w mm S κ i := by
  match κ, hne with
  | 0, h => exact absurd rfl h
  | 1, _ => rfl
  | 2, _ => rfl
  | 3, _ => rfl
  | 4, _ => rfl
  | 5, _ => rfl
  | _ + 6, _ => rfl
theorem pt_m0_15 (hx : p.tables.exec = Jvm.exec) (hb : c.code = cc) {own : String} {index : Nat} {Ts : List Cond} (hts : ∀ w ∈ Ts, w.before args s = true) (hin : ∀ w ∈ wsX70, w ∈ Ts) (hown : s.vm.findClass own = some m.cls) (hK : va_K D vwCl (qtys cy) s) (hM : MW D cy bd w mm S H) (hS : va_S A H0 H locs) (hA : ∀ κ i : Nat, mV w κ i → A (bd κ i)) (hl : Cond.fieldLink own index RX7 (TX7 15).2.1 (TX7 15).2.2.1 ∈ Ts) {v : Int64} (hdg : decode cc pc = .ok (.putfield index, 3)) (kk : ∀ (H1 : Heap) (locs1 : List Loc), MW D cy bd w mm v H1 → va_S A H0 H1 locs1 → W p l e R s m args below meth c H1 locs1 cells slots Q (F0 m (pc + 3) ls rest)) : W p l e R s m args below meth c H locs cells slots Q (F0 m pc ls (.long v :: .ref (bd 0 0) :: rest)) := by
  refine q_put hx hb hts hin tyX7 tyX7_ok nmX7 hown hK (fs := _) (hM.2.2.2 0 0 rfl) hS (hA 0 0 rfl) rfl 15 (by decide) hl rfl rfl rfl rfl (Nat.le_of_ble_eq_true rfl) hdg (fun H1 locs1 h1 _ h3 h4 => kk H1 locs1 ⟨hM.1, hM.2.1, hM.2.2.1, fun κ i hv => ?_⟩ h4)
  by_cases h : κ = 0
  · subst h
    have hv : i = 0 := hv
    subst hv
    exact h1
  · rw [mS_S (S := S) h]
    exact (hM.2.2.2 κ i hv).kept (h3 _ (fun e => h (hM.2.1 _ _ _ _ hv (show mV w 0 0 from rfl) e).1))
theorem gt_m1_0 (hx : p.tables.exec = Jvm.exec) (hb : c.code = cc) {own : String} {index : Nat} {Ts : List Cond} (hts : ∀ w ∈ Ts, w.before args s = true) (hin : ∀ w ∈ wsJx4a65c0, w ∈ Ts) (hown : s.vm.findClass own = some m.cls) (hK : va_K D vwCl (qtys cy) s) (hM : MW D cy bd w mm S H) {i : Nat} (hi : i < 4) (hl : Cond.fieldLink own index "java/util/ArrayList" (TJx4a65c 0).2.1 (TJx4a65c 0).2.2.1 ∈ Ts) (hsf : (Cond.sameField "java/util/ArrayList" "java/util/AbstractList" "modCount" "I") ∈ Ts) (hdg : decode cc pc = .ok (.getfield index, 3)) (kk : W p l e R s m args below meth c H locs cells slots Q (F0 m (pc + 3) ls ((.int (nI (w 6 i))) :: rest))) : W p l e R s m args below meth c H locs cells slots Q (F0 m pc ls (.ref (bd 1 i) :: rest)) :=
  va_get hx hb hts hin hown hK (q_one (hM.2.2.2 1 i hi)) 0 rfl rfl 0 (by decide) (hts _ hl) (fun x h => u_same (hts _ hsf) x h) rfl hdg kk
theorem gt_m1_1 (hx : p.tables.exec = Jvm.exec) (hb : c.code = cc) {own : String} {index : Nat} {Ts : List Cond} (hts : ∀ w ∈ Ts, w.before args s = true) (hin : ∀ w ∈ wsJx4a65c0, w ∈ Ts) (hown : s.vm.findClass own = some m.cls) (hK : va_K D vwCl (qtys cy) s) (hM : MW D cy bd w mm S H) {i : Nat} (hi : i < 4) (hl : Cond.fieldLink own index RJx4a65c (TJx4a65c 1).2.1 (TJx4a65c 1).2.2.1 ∈ Ts) (hdg : decode cc pc = .ok (.getfield index, 3)) (kk : W p l e R s m args below meth c H locs cells slots Q (F0 m (pc + 3) ls ((.ref (bd 2 i)) :: rest))) : W p l e R s m args below meth c H locs cells slots Q (F0 m pc ls (.ref (bd 1 i) :: rest)) :=
  q_get hx hb hts hin hown hK (fs := _) (hM.2.2.2 1 i hi) rfl 1 (by decide) hl rfl rfl hdg kk
theorem gt_m1_2 (hx : p.tables.exec = Jvm.exec) (hb : c.code = cc) {own : String} {index : Nat} {Ts : List Cond} (hts : ∀ w ∈ Ts, w.before args s = true) (hin : ∀ w ∈ wsJx4a65c0, w ∈ Ts) (hown : s.vm.findClass own = some m.cls) (hK : va_K D vwCl (qtys cy) s) (hM : MW D cy bd w mm S H) {i : Nat} (hi : i < 4) (hl : Cond.fieldLink own index RJx4a65c (TJx4a65c 2).2.1 (TJx4a65c 2).2.2.1 ∈ Ts) (hdg : decode cc pc = .ok (.getfield index, 3)) (kk : W p l e R s m args below meth c H locs cells slots Q (F0 m (pc + 3) ls ((.int (nI (w 0 i))) :: rest))) : W p l e R s m args below meth c H locs cells slots Q (F0 m pc ls (.ref (bd 1 i) :: rest)) :=
  q_get hx hb hts hin hown hK (fs := _) (hM.2.2.2 1 i hi) rfl 2 (by decide) hl rfl rfl hdg kk
theorem gt_m6_0 (hx : p.tables.exec = Jvm.exec) (hb : c.code = cc) {own : String} {index : Nat} {Ts : List Cond} (hts : ∀ w ∈ Ts, w.before args s = true) (hin : ∀ w ∈ wsJx354110, w ∈ Ts) (hown : s.vm.findClass own = some m.cls) (hK : va_K D vwCl (qtys cy) s) (hM : MW D cy bd w mm S H) {i : Nat} (hi : i < w 0 5) (hl : Cond.fieldLink own index RJx35411 (TJx35411 0).2.1 (TJx35411 0).2.2.1 ∈ Ts) (hdg : decode cc pc = .ok (.getfield index, 3)) (kk : W p l e R s m args below meth c H locs cells slots Q (F0 m (pc + 3) ls ((.int (nI (w 4 i))) :: rest))) : W p l e R s m args below meth c H locs cells slots Q (F0 m pc ls (.ref (bd 6 i) :: rest)) :=
  q_get hx hb hts hin hown hK (fs := _) (hM.2.2.2 6 i hi) rfl 0 (by decide) hl rfl rfl hdg kk
theorem gt_m6_1 (hx : p.tables.exec = Jvm.exec) (hb : c.code = cc) {own : String} {index : Nat} {Ts : List Cond} (hts : ∀ w ∈ Ts, w.before args s = true) (hin : ∀ w ∈ wsJx354110, w ∈ Ts) (hown : s.vm.findClass own = some m.cls) (hK : va_K D vwCl (qtys cy) s) (hM : MW D cy bd w mm S H) {i : Nat} (hi : i < w 0 5) (hl : Cond.fieldLink own index RJx35411 (TJx35411 1).2.1 (TJx35411 1).2.2.1 ∈ Ts) (hdg : decode cc pc = .ok (.getfield index, 3)) (kk : W p l e R s m args below meth c H locs cells slots Q (F0 m (pc + 3) ls ((.int (nI (w 4 i) - 1)) :: rest))) : W p l e R s m args below meth c H locs cells slots Q (F0 m pc ls (.ref (bd 6 i) :: rest)) :=
  q_get hx hb hts hin hown hK (fs := _) (hM.2.2.2 6 i hi) rfl 1 (by decide) hl rfl rfl hdg kk
theorem gt_m6_2 (hx : p.tables.exec = Jvm.exec) (hb : c.code = cc) {own : String} {index : Nat} {Ts : List Cond} (hts : ∀ w ∈ Ts, w.before args s = true) (hin : ∀ w ∈ wsJx354110, w ∈ Ts) (hown : s.vm.findClass own = some m.cls) (hK : va_K D vwCl (qtys cy) s) (hM : MW D cy bd w mm S H) {i : Nat} (hi : i < w 0 5) (hl : Cond.fieldLink own index RJx35411 (TJx35411 2).2.1 (TJx35411 2).2.2.1 ∈ Ts) (hdg : decode cc pc = .ok (.getfield index, 3)) (kk : W p l e R s m args below meth c H locs cells slots Q (F0 m (pc + 3) ls ((.int (nI (w 5 i))) :: rest))) : W p l e R s m args below meth c H locs cells slots Q (F0 m pc ls (.ref (bd 6 i) :: rest)) :=
  q_get hx hb hts hin hown hK (fs := _) (hM.2.2.2 6 i hi) rfl 2 (by decide) hl rfl rfl hdg kk
theorem gt_m6_3 (hx : p.tables.exec = Jvm.exec) (hb : c.code = cc) {own : String} {index : Nat} {Ts : List Cond} (hts : ∀ w ∈ Ts, w.before args s = true) (hin : ∀ w ∈ wsJx354110, w ∈ Ts) (hown : s.vm.findClass own = some m.cls) (hK : va_K D vwCl (qtys cy) s) (hM : MW D cy bd w mm S H) {i : Nat} (hi : i < w 0 5) (hl : Cond.fieldLink own index RJx35411 (TJx35411 3).2.1 (TJx35411 3).2.2.1 ∈ Ts) (hdg : decode cc pc = .ok (.getfield index, 3)) (kk : W p l e R s m args below meth c H locs cells slots Q (F0 m (pc + 3) ls ((.ref (bd 1 (w 3 i))) :: rest))) : W p l e R s m args below meth c H locs cells slots Q (F0 m pc ls (.ref (bd 6 i) :: rest)) :=
  q_get hx hb hts hin hown hK (fs := _) (hM.2.2.2 6 i hi) rfl 3 (by decide) hl rfl rfl hdg kk
theorem ld_m {i : Nat} (hx : p.tables.exec = Jvm.exec) (hb : c.code = cc) (hK : va_K D vwCl (qtys cy) s) (hM : MW D cy bd w mm S H) (hi : rV w i) {n : Nat} (hn : rl w i = n) {x : Int32} {k : Nat} (hk : x.toNatClampNeg = k) (hj : vp_in x n) (hdg : decode cc pc = .ok (.iaload, 1)) (kk : W p l e R s m args below meth c H locs cells slots Q (F0 m (pc + 1) ls (.int (mm i k) :: rest))) : W p l e R s m args below meth c H locs cells slots Q (F0 m pc ls (.int x :: .ref (bd 3 i) :: rest)) := by
  subst hk
  subst hn
  exact q_iald hx hb hK 0 (f := fun k => mm i k) (hM.2.2.2 3 i hi) rfl hj hdg kk
theorem ln_m {i : Nat} (hx : p.tables.exec = Jvm.exec) (hb : c.code = cc) (hK : va_K D vwCl (qtys cy) s) (hM : MW D cy bd w mm S H) (hi : rV w i) (n : Nat) (hn : rl w i = n) (hdg : decode cc pc = .ok (.arraylength, 1)) (kk : W p l e R s m args below meth c H locs cells slots Q (F0 m (pc + 1) ls (.int (nI n) :: rest))) : W p l e R s m args below meth c H locs cells slots Q (F0 m pc ls (.ref (bd 3 i) :: rest)) := by
  subst hn
  exact q_alen hx hb hK 0 (x := (rl w i, q_ints (fun k => mm i k))) (hM.2.2.2 3 i hi) rfl _ rfl hdg kk
theorem st_m {i : Nat} (hx : p.tables.exec = Jvm.exec) (hb : c.code = cc) (hK : va_K D vwCl (qtys cy) s) (hM : MW D cy bd w mm S H) (hS : va_S A H0 H locs) (hA : ∀ κ i : Nat, mV w κ i → A (bd κ i)) (hi : rV w i) {n : Nat} (hn : rl w i = n) {x v : Int32} {k : Nat} (hk : x.toNatClampNeg = k) (hj : vp_in x n) (hdg : decode cc pc = .ok (.iastore, 1)) (kk : ∀ (H1 : Heap) (locs1 : List Loc), MW D cy bd w (u2 mm i k v) S H1 → va_S A H0 H1 locs1 → W p l e R s m args below meth c H1 locs1 cells slots Q (F0 m (pc + 1) ls rest)) : W p l e R s m args below meth c H locs cells slots Q (F0 m pc ls (.int v :: .int x :: .ref (bd 3 i) :: rest)) := by
  subst hk
  subst hn
  refine q_iast hx hb hK 0 (f := fun k => mm i k) (hM.2.2.2 3 i hi) hS (hA 3 i hi) rfl hj hdg (fun H1 locs1 h1 _ h3 h4 => kk H1 locs1 (MW.put hM (κ := 3) (i := i) hi ?_ ?_ h3) h4)
  · have hw := hM.1
    unfold rV at hi
    unfold wB at hw
    unfold mO
    rw [if_neg (by omega)]
  · have e : mS cy bd w (u2 mm i x.toNatClampNeg v) S 3 i = .inl (cy 0, (rl w i, q_ints (upd (fun k => mm i k) x.toNatClampNeg v))) := by
      refine congrArg (fun f => (Sum.inl (cy 0, (rl w i, q_ints f)) : va_E)) (funext fun k => ?_)
      show u2 mm i x.toNatClampNeg v i k = upd _ _ _ k
      simp [u2, upd]
    rw [e]; exact h1
theorem q_aaldA {cA : ClassId} {ty : FieldType} {n : Nat} {f : Nat → Option Nat} {b : Nat} (hx : p.tables.exec = Jvm.exec) (hb : c.code = cc) (hK : va_K D cl tys s) (t0 : Nat) (hat : va_at D cl (a, .inl (cA, n, q_opt f)) H) (ht : tys[t0]? = some (cA, ty)) (hty : ty.isReference = true) {i : Int32} (hin : vp_in i n) (hf : f i.toNatClampNeg = some b) (hdg : decode cc pc = .ok (.aaload, 1))
    (kk : W p l e R s m args below meth c H locs cells slots Q (F0 m (pc + 1) ls (.ref b :: rest))) : W p l e R s m args below meth c H locs cells slots Q (F0 m pc ls (.int i :: .ref a :: rest)) := by
  have hlt : i.toNatClampNeg < n := Nat.not_le.mp fun q => hin (Or.inr q)
  exact W.aald (v := .ref b) (ty := ty) hx hb (show H[a]? = some (vp_cell cA (n, q_opt f)) from hat) ((hK.2 t0 _ ht).1 n (fun j => va_rf (f j))) hty (fun q => by cases q) (by show ¬ (i < 0 ∨ (arrV _ _ _).slots.size ≤ _); rw [arrV_size]; exact hin) (by show (arrV _ _ _).slots[_]? = _; rw [arrV_read _ _ hlt, hf]; rfl) rfl rfl hdg kk
theorem la_m4 (hx : p.tables.exec = Jvm.exec) (hb : c.code = cc) (hK : va_K D vwCl (qtys cy) s) (hM : MW D cy bd w mm S H) {x : Int32} {k : Nat} (hk : x.toNatClampNeg = k) (hj : vp_in x 3) (hdg : decode cc pc = .ok (.aaload, 1)) (kk : W p l e R s m args below meth c H locs cells slots Q (F0 m (pc + 1) ls (.ref (bd 3 (300 + k)) :: rest))) : W p l e R s m args below meth c H locs cells slots Q (F0 m pc ls (.int x :: .ref (bd 4 0) :: rest)) := by
  subst hk
  exact q_aaldA hx hb hK 8 (f := fun k => if k < 3 then some (bd 3 (300 + k)) else none) (hM.2.2.2 4 0 rfl) rfl rfl hj (if_pos (Nat.not_le.mp fun q => hj (Or.inr q))) hdg kk
theorem ln_m4 (hx : p.tables.exec = Jvm.exec) (hb : c.code = cc) (hK : va_K D vwCl (qtys cy) s) (hM : MW D cy bd w mm S H) (hdg : decode cc pc = .ok (.arraylength, 1)) (kk : W p l e R s m args below meth c H locs cells slots Q (F0 m (pc + 1) ls (.int 3 :: rest))) : W p l e R s m args below meth c H locs cells slots Q (F0 m pc ls (.ref (bd 4 0) :: rest)) :=
  q_alen hx hb hK 8 (x := (3, q_opt (fun k => if k < 3 then some (bd 3 (300 + k)) else none))) (hM.2.2.2 4 0 rfl) rfl 3 rfl hdg kk
theorem la_m5 (hx : p.tables.exec = Jvm.exec) (hb : c.code = cc) (hK : va_K D vwCl (qtys cy) s) (hM : MW D cy bd w mm S H) {x : Int32} {k : Nat} (hk : x.toNatClampNeg = k) (hj : vp_in x 12) (hdg : decode cc pc = .ok (.aaload, 1)) (kk : W p l e R s m args below meth c H locs cells slots Q (F0 m (pc + 1) ls (.ref (bd 3 (340 + k)) :: rest))) : W p l e R s m args below meth c H locs cells slots Q (F0 m pc ls (.int x :: .ref (bd 5 0) :: rest)) := by
  subst hk
  exact q_aaldA hx hb hK 8 (f := fun k => if k < 12 then some (bd 3 (340 + k)) else none) (hM.2.2.2 5 0 rfl) rfl rfl hj (if_pos (Nat.not_le.mp fun q => hj (Or.inr q))) hdg kk
theorem ln_m5 (hx : p.tables.exec = Jvm.exec) (hb : c.code = cc) (hK : va_K D vwCl (qtys cy) s) (hM : MW D cy bd w mm S H) (hdg : decode cc pc = .ok (.arraylength, 1)) (kk : W p l e R s m args below meth c H locs cells slots Q (F0 m (pc + 1) ls (.int 12 :: rest))) : W p l e R s m args below meth c H locs cells slots Q (F0 m pc ls (.ref (bd 5 0) :: rest)) :=
  q_alen hx hb hK 8 (x := (12, q_opt (fun k => if k < 12 then some (bd 3 (340 + k)) else none))) (hM.2.2.2 5 0 rfl) rfl 12 rfl hdg kk
end GM
