/-! ===== the law's start ===== -/
section ST
variable {s : State} {b : Nat} {args : Array Value}
set_option maxRecDepth 100000 in
set_option maxHeartbeats 4000000 in
theorem st_nc (hgv : (Jvm.Cond.and given_1 narrow_1).before args s = true) : va_Nc "java/lang/IllegalArgumentException" "java/lang/IndexOutOfBoundsException" s ∧ va_Nc "java/lang/IllegalStateException" "java/lang/IndexOutOfBoundsException" s ∧ va_Nc "java/lang/IllegalStateException" "java/lang/IllegalArgumentException" s := by
  have hs := flat_of_before _ hgv
  exact ⟨va_Nc.of (hs _ (by decide +kernel)), va_Nc.of (hs _ (by decide +kernel)), va_Nc.of (hs _ (by decide +kernel))⟩
set_option maxRecDepth 100000 in
set_option maxHeartbeats 4000000 in
theorem st_l (hgv : (Jvm.Cond.and given_1 narrow_1).before args s = true) (hts : ∀ w ∈ lw_tbl, w.before args s = true) : LNc s :=
  ⟨st_nc hgv, fun a => ⟨word_at (State.WarmedH.refl s) (Or.inl rfl) (hts (.classLink RL 13 "java/lang/IllegalArgumentException") (by decide +kernel)), word_at (State.WarmedH.refl s) (Or.inl rfl) (hts (.classLink RL 15 "java/lang/IllegalStateException") (by decide +kernel)), word_at (State.WarmedH.refl s) (Or.inl rfl) (hts (.classLink RL 21 "java/lang/IndexOutOfBoundsException") (by decide +kernel))⟩⟩
theorem arr_known {ty : FieldType} (h : (Cond.arrayClass ty).before args s = true) : ∃ (cA : ClassId) (kA : Class) (comp : ClassId), s.vm.findClass ("[" ++ ty.toString) = some cA ∧ s.vm.classes[cA]? = some kA ∧ kA.kind = .array comp ty ∧ ArrOfT s cA ty := by
  obtain ⟨cA, kA, comp, h1, h2, h3⟩ := Cond.arrayClass_spec h
  exact ⟨cA, kA, comp, h1, h2, h3, fun n z => ⟨fun k h => (by cases h), kA, h2, comp, h3⟩⟩
end ST
section ST2
variable {s : State} {args : Array Value}
set_option maxRecDepth 100000 in
theorem qNl_tbl : ∀ w ∈ qNl, w ∈ lw_tbl := by decide +kernel
theorem st_nw (hts : ∀ w ∈ lw_tbl, w.before args s = true) : ∀ w ∈ qNl, va_Nw w s := fun w h => va_Nw.of (qNl_tab w h) (hts w (qNl_tbl w h))
set_option maxRecDepth 100000 in
theorem st_f (hgv : (Jvm.Cond.and given_1 narrow_1).before args s = true) (hts : ∀ w ∈ lw_tbl, w.before args s = true) : qF s := by
  have hs := flat_of_before _ hgv
  exact ⟨va_Fw.of (A := args) (hts _ (by decide +kernel)) (hts _ (by decide +kernel)) (hts _ (by decide +kernel)) (hts _ (by decide +kernel)) (hts _ (by decide +kernel)), va_Fw.of (A := args) (hts _ (by decide +kernel)) (hts _ (by decide +kernel)) (hts _ (by decide +kernel)) (hts _ (by decide +kernel)) (hts _ (by decide +kernel)), va_AO.of (A := args) (hts _ (by decide +kernel)), va_Mi.of (hs (.isRef (.mirror "[Ljava/lang/Object;")) (by decide +kernel))⟩
theorem no_A : ∀ a : Nat, a < s.heap.size → ¬ (fun _ : Nat => False) a := fun _ _ h => h
set_option maxRecDepth 100000 in
theorem st_z (hgv : (Jvm.Cond.and given_1 narrow_1).before args s = true) (hts : ∀ w ∈ lw_tbl, w.before args s = true) : vx_Zq Bundle.tN "UNASSIGNED_STACK" Bundle.steD (fun _ => False) s s.heap ∧ vx_Zq Bundle.tN "SUPPRESSED_SENTINEL" Bundle.listD (fun _ => False) s s.heap := by
  have hs := flat_of_before _ hgv
  exact ⟨vx_Zqof (args := args) (hts _ (by decide +kernel)) (hts _ (by decide +kernel)) (hs _ (by decide +kernel)) no_A, vx_Zqof (args := args) (hts _ (by decide +kernel)) (hts _ (by decide +kernel)) (hs _ (by decide +kernel)) no_A⟩
set_option maxRecDepth 100000 in
theorem st_tx (hts : ∀ w ∈ lw_tbl, w.before args s = true) (hfc : ∀ x ∈ qTx, ∃ cur, s.vm.findClass x.1 = some cur) : ∀ x ∈ qTx, ∃ sa : Nat, vk_R x.1 x.2.1 x.2.2 sa s := by
  intro x hx
  have hm : ∀ x ∈ qTx, Cond.stringRef x.1 x.2.1 x.2.2 ∈ lw_tbl := by decide +kernel
  have h := hts _ (hm x hx)
  obtain ⟨cur, hcur⟩ := hfc x hx
  obtain ⟨k, cf, i, a, -, -, -, -, -, h6⟩ := Cond.stringRef_spec hcur h
  exact ⟨a, vk_R.of (A := args) h h6⟩
end ST2
