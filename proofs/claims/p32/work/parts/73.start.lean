/-! ===== the law's start ===== -/
section ST
variable {s : State} {b : Nat} {args : Array Value}
theorem arr_known {ty : FieldType} (h : (Cond.arrayClass ty).before args s = true) : ∃ (cA : ClassId) (kA : Class) (comp : ClassId), s.vm.findClass ("[" ++ ty.toString) = some cA ∧ s.vm.classes[cA]? = some kA ∧ kA.kind = .array comp ty ∧ ArrOfT s cA ty := by
  obtain ⟨cA, kA, comp, h1, h2, h3⟩ := Cond.arrayClass_spec h
  exact ⟨cA, kA, comp, h1, h2, h3, fun n z => ⟨fun k h => (by cases h), kA, h2, comp, h3⟩⟩
end ST
section ST2
variable {s : State} {args : Array Value}
set_option maxRecDepth 100000 in
theorem qNl_tbl : ∀ w ∈ qNl, w ∈ lw_tbl := by decide +kernel
theorem st_nw (hts : ∀ w ∈ lw_tbl, w.before args s = true) : ∀ w ∈ qNl, va_Nw w s := fun w h => va_Nw.of (qNl_tab w h) (hts w (qNl_tbl w h))
theorem no_A : ∀ a : Nat, a < s.heap.size → ¬ (fun _ : Nat => False) a := fun _ _ h => h
set_option maxRecDepth 100000 in
theorem st_z (hgv : (Jvm.Cond.and given_1 narrow_1).before args s = true) (hts : ∀ w ∈ lw_tbl, w.before args s = true) : vx_Zq Bundle.tN "UNASSIGNED_STACK" Bundle.steD (fun _ => False) s s.heap ∧ vx_Zq Bundle.tN "SUPPRESSED_SENTINEL" Bundle.listD (fun _ => False) s s.heap := by
  have hs := flat_of_before _ hgv
  exact ⟨vx_Zqof (args := args) (hts _ (by decide +kernel)) (hts _ (by decide +kernel)) (hs _ (by decide +kernel)) no_A, vx_Zqof (args := args) (hts _ (by decide +kernel)) (hts _ (by decide +kernel)) (hs _ (by decide +kernel)) no_A⟩
set_option maxRecDepth 100000 in
theorem st_tx (hts : ∀ w ∈ lw_tbl, w.before args s = true) (hfc : ∀ x ∈ qTx, ∃ cur, s.vm.findClass x.1 = some cur) : ∀ x ∈ qTx, ∃ sa : Nat, vk_R x.1 x.2.1 x.2.2 sa s := by
  intro x hx
  have hm : ∀ x ∈ qTx, Cond.stringRef x.1 x.2.1 x.2.2 ∈ lw_tbl := by decide +kernel
  have h := hts _ (hm x hx)
  obtain ⟨cur, hcur⟩ := hfc x hx
  obtain ⟨k, cf, i, a, -, -, -, -, -, h6⟩ := Cond.stringRef_spec hcur h
  exact ⟨a, vk_R.of (A := args) h h6⟩
end ST2
section ST3
variable {s : State} {args : Array Value}
set_option maxRecDepth 100000 in
theorem st_cl (hts : ∀ w ∈ lw_tbl, w.before args s = true) : ∀ (k : Nat), ∃ (d : ClassId × (Nat → Nat)), ∀ q : vw_C, vwCl[k]? = some q → u_Kn s q.1 q.2.1 q.2.2 d.1 d.2 := by
  intro k
  match k with
  | 0 =>
    obtain ⟨c0, i0, h⟩ := u_known (C := RX0) (T := TX0) (N := 6) (n := 6) hts inX0 (hts (.instantiable RX0 6) (by decide +kernel))
    exact ⟨(c0, i0), fun q hq => by cases hq; exact h⟩
  | 1 =>
    obtain ⟨c0, i0, h⟩ := u_known (C := RX1) (T := TX1) (N := 8) (n := 8) hts inX1 (hts (.instantiable RX1 8) (by decide +kernel))
    exact ⟨(c0, i0), fun q hq => by cases hq; exact h⟩
  | 2 =>
    obtain ⟨c0, i0, h⟩ := u_known (C := RX2) (T := TX2) (N := 4) (n := 4) hts inX2 (hts (.instantiable RX2 4) (by decide +kernel))
    exact ⟨(c0, i0), fun q hq => by cases hq; exact h⟩
  | 3 =>
    obtain ⟨c0, i0, h⟩ := u_known (C := RX3) (T := TX3) (N := 8) (n := 8) hts inX3 (hts (.instantiable RX3 8) (by decide +kernel))
    exact ⟨(c0, i0), fun q hq => by cases hq; exact h⟩
  | 4 =>
    obtain ⟨c0, i0, h⟩ := u_known (C := RX4) (T := TX4) (N := 4) (n := 4) hts inX4 (hts (.instantiable RX4 4) (by decide +kernel))
    exact ⟨(c0, i0), fun q hq => by cases hq; exact h⟩
  | 5 =>
    obtain ⟨c0, i0, h⟩ := u_known (C := RX5) (T := TX5) (N := 3) (n := 3) hts inX5 (hts (.instantiable RX5 3) (by decide +kernel))
    exact ⟨(c0, i0), fun q hq => by cases hq; exact h⟩
  | 6 =>
    obtain ⟨c0, i0, h⟩ := u_known (C := RX6) (T := TX6) (N := 18) (n := 18) hts inX6 (hts (.instantiable RX6 18) (by decide +kernel))
    exact ⟨(c0, i0), fun q hq => by cases hq; exact h⟩
  | k + 7 => exact ⟨(0, fun _ => 0), fun q hq => by simp [vwCl] at hq⟩
theorem st_D (hts : ∀ w ∈ lw_tbl, w.before args s = true) : ∃ D : va_G, ∀ (k : Nat) (q : vw_C), vwCl[k]? = some q → u_Kn s q.1 q.2.1 q.2.2 (D.1 k) (D.2 k) :=
  ⟨(fun k => (Classical.choose (st_cl hts k)).1, fun k => (Classical.choose (st_cl hts k)).2), fun k => Classical.choose_spec (st_cl hts k)⟩
end ST3
section ST4
variable {s : State} {args : Array Value}
theorem arr_i (h : (Cond.arrayClass .int).before args s = true) : ∃ cA : ClassId, ArrOfT s cA .int ∧ va_RA s cA .int := by
  obtain ⟨cA, kA, comp, h1, h2, h3, h4⟩ := arr_known h
  exact ⟨cA, h4, h1⟩
theorem arr_o {C : String} (h : (Cond.arrayOver (.object C)).before args s = true) : ∃ cA : ClassId, ArrOfT s cA (.object C) ∧ va_RA s cA (.object C) := by
  obtain ⟨comp, cA, kA, h1, -, h3, h4, h5⟩ := Cond.arrayOver_spec h
  exact ⟨cA, fun n z => ⟨fun k h => (by cases h), kA, h3, comp, h4⟩, kA, comp, h3, h4, h1, h5⟩
set_option maxRecDepth 100000 in
theorem st_cy (hts : ∀ w ∈ lw_tbl, w.before args s = true) : ∃ cy : Nat → ClassId, ∀ (k : Nat) (q : ClassId × FieldType), (qtys cy)[k]? = some q → ArrOfT s q.1 q.2 ∧ va_RA s q.1 q.2 := by
  obtain ⟨c0, h0⟩ := arr_i (hts _ (by decide +kernel))
  obtain ⟨c1, h1⟩ := arr_o (C := "CherryStation$Farm") (hts _ (by decide +kernel))
  obtain ⟨c2, h2⟩ := arr_o (C := "CherryStation$Basket") (hts _ (by decide +kernel))
  obtain ⟨c3, h3⟩ := arr_o (C := "CherryStation$Tank") (hts _ (by decide +kernel))
  obtain ⟨c4, h4⟩ := arr_o (C := "CherryStation$Bed") (hts _ (by decide +kernel))
  obtain ⟨c5, h5⟩ := arr_o (C := "CherryStation$Lot") (hts _ (by decide +kernel))
  refine ⟨fun k => match k with | 0 => c0 | 1 => c1 | 2 => c2 | 3 => c3 | 4 => c4 | _ => c5, ?_⟩
  intro k q hq
  match k, hq with
  | 0, hq => cases hq; exact h0
  | 1, hq => cases hq; exact h1
  | 2, hq => cases hq; exact h2
  | 3, hq => cases hq; exact h3
  | 4, hq => cases hq; exact h4
  | 5, hq => cases hq; exact h5
  | k + 6, hq => simp [qtys] at hq
/-- what the law's entry gives -/
theorem st_B (hgv : (Jvm.Cond.and given_1 narrow_1).before args s = true) (hts : ∀ w ∈ lw_tbl, w.before args s = true) : ∃ (D : va_G) (cy : Nat → ClassId), LWB D cy s := by
  obtain ⟨D, hD⟩ := st_D hts
  obtain ⟨cy, hcy⟩ := st_cy hts
  have hfc : ∀ x ∈ qTx, ∃ cur, s.vm.findClass x.1 = some cur := by
    intro x hx
    have e : ∀ x ∈ qTx, x.1 = "CherryStation" := by decide
    obtain ⟨kc, hc⟩ := (hD 6 _ rfl).2
    exact ⟨_, by rw [e x hx]; exact kc⟩
  exact ⟨D, cy, ⟨hD, hcy⟩, ⟨st_nw hts, st_tx hts hfc⟩, st_z hgv hts⟩
end ST4

