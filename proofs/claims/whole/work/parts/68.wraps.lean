theorem cover_b {g : Gd} {b on : Int32} (hv : IvC g) (h : ¬ (fX6_cover g b on).2.1 = 0) : (fX6_cover g b on).2.1 = 1 := by
  revert h
  unfold fX6_cover
  split
  · rename_i hc
    intro h
    have hb : b.toNatClampNeg < 5 := by
      unfold fX6_bedAt at hc
      split at hc
      · exact absurd hc (by decide)
      · split at hc
        · rename_i h0 h1
          exact vp_lt (in_of h0 (Int32.not_le.mpr h1) (IvC.n9 hv).2)
        · exact absurd hc (by decide)
    exact (IvC.cv hv hb).resolve_left h
  · intro h; exact absurd rfl h
theorem cd_farm (g : Gd) (x : Int32) : (fX6_farm g x).1 = 0 ∨ ((fX6_farm g x).1 = 2 ∧ (fX6_farm g x).2.2 = g) ∨ ((fX6_farm g x).1 = 3 ∧ (fX6_farm g x).2.2 = g) := by
  unfold fX6_farm 
  repeat' split
  all_goals first | (simp; done) | (simp_all; done)
set_option maxRecDepth 100000 in
set_option maxHeartbeats 4000000 in
theorem kL_farm (l : Launch) (D : va_G) (cy : Nat → ClassId) {ad : Nat → Nat → Nat} (hI : cI ad) (hl0 : l.stackTraces = false) (g : Gd) (oo : Nat) (vo : Int64) (sz : Nat) (x : Int32) (hv : IvC g) : Met l yL_farm wsL_farm ({ frames := 7, cells := 1, slots := 6, locals := 103 } : Room) (va_Pc [.ref (ad 0 0), .int x, .ref oo] (oPre D cy ad g oo vo sz)) (oQ D cy ad (k23 (fX6_farm g x).1) (fX6_farm g x).2.2 oo (if (fX6_farm g x).1 = 0 then (fX6_farm g x).2.1.toInt64 else vo) sz) 1 6 (oA ad oo sz) := by
  refine va_MetW (cc := cL_farm) (maxL := 4) (ret := some .int) (hh := [(0, 9, 12, 13), (0, 9, 15, 15)]) (by decide) rfl ?_
  intro p e s m args below meth c s₁ B hml hv0
  obtain ⟨rfl, hsz, hO, hN, hB, hNc⟩ := hv0
  subst hsz
  have hx := B.exec
  have hb := B.bytes
  have hr := B.returns
  have hts := atoms_spec (ws := wsL_farm) B.pre
  have hown : s.vm.findClass RL = some m.cls := findClass_of_methodNamed B.named
  have hlocks := B.notSynchronized
  have htb : c.exceptionTable.toList = tableOf [(0, 9, 12, 13), (0, 9, 15, 15)] := vx_table (x := yL_farm) B (hts _ (List.mem_of_getElem? (i := 0) rfl))
  have hl := lv_entry ([.ref (ad 0 0), .int x, .ref oo]) (n := 4) (Nat.le_of_ble_eq_true rfl)
  rw [lg_entry_eq]
  generalize (lg_sl ([.ref (ad 0 0), .int x, .ref oo]) ++ List.replicate (4 - (lg_sl ([.ref (ad 0 0), .int x, .ref oo])).length) Slot.unset).toArray = ls at hl ⊢
  have hl : lv_has ls 4 [(0, .ref (ad 0 0)), (1, .int x), (2, .ref oo)] := hl
  show W p l e ({ frames := 7, cells := 1, slots := 6, locals := 103 } : Room) s m _ below meth c s.heap [] 0 0 _ _
  refine lv_aload_n hx hb dL_farm_0 rfl (lv_at hl 2 rfl) ?_
  refine lv_iconst (v := 0) hx hb dL_farm_1 (by decide) ?_
  refine lv_aload_n hx hb dL_farm_2 rfl (lv_at hl 0 rfl) ?_
  refine lv_iload_n hx hb dL_farm_3 rfl (lv_at hl 1 rfl) ?_
  refine o_callT (cd := (fX6_farm g x).1) (v := (fX6_farm g x).2.1) (g2 := (fX6_farm g x).2.2) (As := [.int x]) (rest := [.int 0, .ref oo]) ⟨hx, hb, hml, hown, hts⟩ (kX6_farm l D cy hI hl0 g _ x hv) (cwV 1 hts gL_farm_X6_farm rfl rfl rfl (by decide +kernel) ⟨Nat.le_of_ble_eq_true rfl, Nat.le_of_ble_eq_true rfl⟩) hB hO hN rfl hl.1 (Nat.le_of_ble_eq_true rfl) dL_farm_4 ⟨Nat.le_of_ble_eq_true rfl, Nat.le_of_ble_eq_true rfl⟩ (fun hcd H locs q9 ce hO hS h1 h2 h3 => ?_) (fun hcd H locs hO hS => ?_)
  · rcases cd_farm g x with hc | ⟨hc, hg⟩ | ⟨hc, hg⟩
    · exact absurd hc hcd
    · rw [hc] at h3
      refine vx_catch (own := RL) (name := "java/lang/IllegalArgumentException") (E := "java/lang/IllegalArgumentException") hown [] ⟨0, 9, 12, 13⟩ [⟨0, 9, 15, 15⟩] htb (fun z hz => absurd hz List.not_mem_nil) (by decide) (by decide) (hNc.2 _).1 (qB_use hB.2.1 (w := .castable "java/lang/IllegalArgumentException" "java/lang/IllegalArgumentException") (by decide) rfl) h1 h2 h3 ?_
      refine lv_astore_n (lv' := [(3, .ref q9), (0, .ref (ad 0 0)), (1, .int x), (2, .ref oo)]) hx hb dL_farm_12 rfl hl (by decide) rfl (fun ls hl => ?_)
      refine lv_iconst (v := 1) hx hb dL_farm_13 (by decide) ?_
      exact o_reti hx hb hr hO hS (by rw [hc]; decide) hg (by rw [hc]; rfl) hlocks dL_farm_14
    · rw [hc] at h3
      refine vx_catch (own := RL) (name := "java/lang/IllegalStateException") (E := "java/lang/IllegalStateException") hown [⟨0, 9, 12, 13⟩] ⟨0, 9, 15, 15⟩ [] htb (fun z hz => by rw [List.mem_singleton.mp hz]; exact Or.inr ⟨by decide, "java/lang/IllegalArgumentException", (hNc.2 _).1, hNc.1.2.2⟩) (by decide) (by decide) (hNc.2 _).2.1 (qB_use hB.2.1 (w := .castable "java/lang/IllegalStateException" "java/lang/IllegalStateException") (by decide) rfl) h1 h2 h3 ?_
      refine lv_astore_n (lv' := [(3, .ref q9), (0, .ref (ad 0 0)), (1, .int x), (2, .ref oo)]) hx hb dL_farm_15 rfl hl (by decide) rfl (fun ls hl => ?_)
      refine lv_iconst (v := 2) hx hb dL_farm_16 (by decide) ?_
      exact o_reti hx hb hr hO hS (by rw [hc]; decide) hg (by rw [hc]; rfl) hlocks dL_farm_17
  · refine lv_i2l hx hb dL_farm_7 rfl ?_
    refine o_last hx hb hB hO hN hS dL_farm_8 (fun H locs hO hS => ?_)
    refine lv_goto (tgt := 18) hx hb dL_farm_9 (by decide) ?_
    refine lv_iconst (v := 0) hx hb dL_farm_18 (by decide) ?_
    exact o_reti hx hb hr hO hS (by rw [hcd]; rfl) rfl (by rw [hcd]; rfl) hlocks dL_farm_19
theorem cd_label (g : Gd) (x : Int32) (d : Int32) : (fX6_label g x d).1 = 0 ∨ ((fX6_label g x d).1 = 1 ∧ (fX6_label g x d).2.2 = g) ∨ ((fX6_label g x d).1 = 2 ∧ (fX6_label g x d).2.2 = g) := by
  unfold fX6_label fX6_farmAt fX6_needFarm
  repeat' split
  all_goals first | (simp; done) | (simp_all; done)
set_option maxRecDepth 100000 in
set_option maxHeartbeats 4000000 in
theorem kL_label (l : Launch) (D : va_G) (cy : Nat → ClassId) {ad : Nat → Nat → Nat} (hI : cI ad) (hl0 : l.stackTraces = false) (g : Gd) (oo : Nat) (vo : Int64) (sz : Nat) (x : Int32) (d : Int32) (hv : IvC g) : Met l yL_label wsL_label ({ frames := 9, cells := 2, slots := 12, locals := 148 } : Room) (va_Pc [.ref (ad 0 0), .int x, .int d, .ref oo] (oPre D cy ad g oo vo sz)) (oQ D cy ad (k12 (fX6_label g x d).1) (fX6_label g x d).2.2 oo (if (fX6_label g x d).1 = 0 then (fX6_label g x d).2.1.toInt64 else vo) sz) 2 12 (oA ad oo sz) := by
  refine va_MetW (cc := cL_label) (maxL := 5) (ret := some .int) (hh := [(0, 10, 13, 21), (0, 10, 17, 13)]) (by decide) rfl ?_
  intro p e s m args below meth c s₁ B hml hv0
  obtain ⟨rfl, hsz, hO, hN, hB, hNc⟩ := hv0
  subst hsz
  have hx := B.exec
  have hb := B.bytes
  have hr := B.returns
  have hts := atoms_spec (ws := wsL_label) B.pre
  have hown : s.vm.findClass RL = some m.cls := findClass_of_methodNamed B.named
  have hlocks := B.notSynchronized
  have htb : c.exceptionTable.toList = tableOf [(0, 10, 13, 21), (0, 10, 17, 13)] := vx_table (x := yL_label) B (hts _ (List.mem_of_getElem? (i := 0) rfl))
  have hl := lv_entry ([.ref (ad 0 0), .int x, .int d, .ref oo]) (n := 5) (Nat.le_of_ble_eq_true rfl)
  rw [lg_entry_eq]
  generalize (lg_sl ([.ref (ad 0 0), .int x, .int d, .ref oo]) ++ List.replicate (5 - (lg_sl ([.ref (ad 0 0), .int x, .int d, .ref oo])).length) Slot.unset).toArray = ls at hl ⊢
  have hl : lv_has ls 5 [(0, .ref (ad 0 0)), (1, .int x), (2, .int d), (3, .ref oo)] := hl
  show W p l e ({ frames := 9, cells := 2, slots := 12, locals := 148 } : Room) s m _ below meth c s.heap [] 0 0 _ _
  refine lv_aload_n hx hb dL_label_0 rfl (lv_at hl 3 rfl) ?_
  refine lv_iconst (v := 0) hx hb dL_label_1 (by decide) ?_
  refine lv_aload_n hx hb dL_label_2 rfl (lv_at hl 0 rfl) ?_
  refine lv_iload_n hx hb dL_label_3 rfl (lv_at hl 1 rfl) ?_
  refine lv_iload_n hx hb dL_label_4 rfl (lv_at hl 2 rfl) ?_
  refine o_callT (cd := (fX6_label g x d).1) (v := (fX6_label g x d).2.1) (g2 := (fX6_label g x d).2.2) (As := [.int x, .int d]) (rest := [.int 0, .ref oo]) ⟨hx, hb, hml, hown, hts⟩ (kX6_label l D cy hI hl0 g _ x d hv) (cwV 2 hts gL_label_X6_label rfl rfl rfl (by decide +kernel) ⟨Nat.le_of_ble_eq_true rfl, Nat.le_of_ble_eq_true rfl⟩) hB hO hN rfl hl.1 (Nat.le_of_ble_eq_true rfl) dL_label_5 ⟨Nat.le_of_ble_eq_true rfl, Nat.le_of_ble_eq_true rfl⟩ (fun hcd H locs q9 ce hO hS h1 h2 h3 => ?_) (fun hcd H locs hO hS => ?_)
  · rcases cd_label g x d with hc | ⟨hc, hg⟩ | ⟨hc, hg⟩
    · exact absurd hc hcd
    · rw [hc] at h3
      refine vx_catch (own := RL) (name := "java/lang/IndexOutOfBoundsException") (E := "java/lang/IndexOutOfBoundsException") hown [] ⟨0, 10, 13, 21⟩ [⟨0, 10, 17, 13⟩] htb (fun z hz => absurd hz List.not_mem_nil) (by decide) (by decide) (hNc.2 _).2.2 (qB_use hB.2.1 (w := .castable "java/lang/IndexOutOfBoundsException" "java/lang/IndexOutOfBoundsException") (by decide) rfl) h1 h2 h3 ?_
      refine lv_astore (lv' := [(4, .ref q9), (0, .ref (ad 0 0)), (1, .int x), (2, .int d), (3, .ref oo)]) hx hb dL_label_13 hl (by decide) rfl (fun ls hl => ?_)
      refine lv_iconst (v := 1) hx hb dL_label_15 (by decide) ?_
      exact o_reti hx hb hr hO hS (by rw [hc]; decide) hg (by rw [hc]; rfl) hlocks dL_label_16
    · rw [hc] at h3
      refine vx_catch (own := RL) (name := "java/lang/IllegalArgumentException") (E := "java/lang/IllegalArgumentException") hown [⟨0, 10, 13, 21⟩] ⟨0, 10, 17, 13⟩ [] htb (fun z hz => by rw [List.mem_singleton.mp hz]; exact Or.inr ⟨by decide, "java/lang/IndexOutOfBoundsException", (hNc.2 _).2.2, hNc.1.1⟩) (by decide) (by decide) (hNc.2 _).1 (qB_use hB.2.1 (w := .castable "java/lang/IllegalArgumentException" "java/lang/IllegalArgumentException") (by decide) rfl) h1 h2 h3 ?_
      refine lv_astore (lv' := [(4, .ref q9), (0, .ref (ad 0 0)), (1, .int x), (2, .int d), (3, .ref oo)]) hx hb dL_label_17 hl (by decide) rfl (fun ls hl => ?_)
      refine lv_iconst (v := 2) hx hb dL_label_19 (by decide) ?_
      exact o_reti hx hb hr hO hS (by rw [hc]; decide) hg (by rw [hc]; rfl) hlocks dL_label_20
  · refine lv_i2l hx hb dL_label_8 rfl ?_
    refine o_last hx hb hB hO hN hS dL_label_9 (fun H locs hO hS => ?_)
    refine lv_goto (tgt := 21) hx hb dL_label_10 (by decide) ?_
    refine lv_iconst (v := 0) hx hb dL_label_21 (by decide) ?_
    exact o_reti hx hb hr hO hS (by rw [hcd]; rfl) rfl (by rw [hcd]; rfl) hlocks dL_label_22
theorem cd_price (g : Gd) (x : Int32) : (fX6_price g x).1 = 0 ∨ ((fX6_price g x).1 = 2 ∧ (fX6_price g x).2.2 = g) := by
  unfold fX6_price 
  repeat' split
  all_goals first | (simp; done) | (simp_all; done)
set_option maxRecDepth 100000 in
set_option maxHeartbeats 4000000 in
theorem kL_price (l : Launch) (D : va_G) (cy : Nat → ClassId) {ad : Nat → Nat → Nat} (hI : cI ad) (hl0 : l.stackTraces = false) (g : Gd) (oo : Nat) (vo : Int64) (sz : Nat) (x : Int32)  : Met l yL_price wsL_price ({ frames := 7, cells := 1, slots := 6, locals := 104 } : Room) (va_Pc [.ref (ad 0 0), .int x, .ref oo] (oPre D cy ad g oo vo sz)) (oQ D cy ad (k23 (fX6_price g x).1) (fX6_price g x).2.2 oo (if (fX6_price g x).1 = 0 then (fX6_price g x).2.1.toInt64 else vo) sz) 1 6 (oA ad oo sz) := by
  refine va_MetW (cc := cL_price) (maxL := 4) (ret := some .int) (hh := [(0, 9, 12, 13)]) (by decide) rfl ?_
  intro p e s m args below meth c s₁ B hml hv0
  obtain ⟨rfl, hsz, hO, hN, hB, hNc⟩ := hv0
  subst hsz
  have hx := B.exec
  have hb := B.bytes
  have hr := B.returns
  have hts := atoms_spec (ws := wsL_price) B.pre
  have hown : s.vm.findClass RL = some m.cls := findClass_of_methodNamed B.named
  have hlocks := B.notSynchronized
  have htb : c.exceptionTable.toList = tableOf [(0, 9, 12, 13)] := vx_table (x := yL_price) B (hts _ (List.mem_of_getElem? (i := 0) rfl))
  have hl := lv_entry ([.ref (ad 0 0), .int x, .ref oo]) (n := 4) (Nat.le_of_ble_eq_true rfl)
  rw [lg_entry_eq]
  generalize (lg_sl ([.ref (ad 0 0), .int x, .ref oo]) ++ List.replicate (4 - (lg_sl ([.ref (ad 0 0), .int x, .ref oo])).length) Slot.unset).toArray = ls at hl ⊢
  have hl : lv_has ls 4 [(0, .ref (ad 0 0)), (1, .int x), (2, .ref oo)] := hl
  show W p l e ({ frames := 7, cells := 1, slots := 6, locals := 104 } : Room) s m _ below meth c s.heap [] 0 0 _ _
  refine lv_aload_n hx hb dL_price_0 rfl (lv_at hl 2 rfl) ?_
  refine lv_iconst (v := 0) hx hb dL_price_1 (by decide) ?_
  refine lv_aload_n hx hb dL_price_2 rfl (lv_at hl 0 rfl) ?_
  refine lv_iload_n hx hb dL_price_3 rfl (lv_at hl 1 rfl) ?_
  refine o_callT (cd := (fX6_price g x).1) (v := (fX6_price g x).2.1) (g2 := (fX6_price g x).2.2) (As := [.int x]) (rest := [.int 0, .ref oo]) ⟨hx, hb, hml, hown, hts⟩ (kX6_price l D cy hI hl0 g _ x ) (cwV 1 hts gL_price_X6_price rfl rfl rfl (by decide +kernel) ⟨Nat.le_of_ble_eq_true rfl, Nat.le_of_ble_eq_true rfl⟩) hB hO hN rfl hl.1 (Nat.le_of_ble_eq_true rfl) dL_price_4 ⟨Nat.le_of_ble_eq_true rfl, Nat.le_of_ble_eq_true rfl⟩ (fun hcd H locs q9 ce hO hS h1 h2 h3 => ?_) (fun hcd H locs hO hS => ?_)
  · rcases cd_price g x with hc | ⟨hc, hg⟩
    · exact absurd hc hcd
    · rw [hc] at h3
      refine vx_catch (own := RL) (name := "java/lang/IllegalArgumentException") (E := "java/lang/IllegalArgumentException") hown [] ⟨0, 9, 12, 13⟩ [] htb (fun z hz => absurd hz List.not_mem_nil) (by decide) (by decide) (hNc.2 _).1 (qB_use hB.2.1 (w := .castable "java/lang/IllegalArgumentException" "java/lang/IllegalArgumentException") (by decide) rfl) h1 h2 h3 ?_
      refine lv_astore_n (lv' := [(3, .ref q9), (0, .ref (ad 0 0)), (1, .int x), (2, .ref oo)]) hx hb dL_price_12 rfl hl (by decide) rfl (fun ls hl => ?_)
      refine lv_iconst (v := 1) hx hb dL_price_13 (by decide) ?_
      exact o_reti hx hb hr hO hS (by rw [hc]; decide) hg (by rw [hc]; rfl) hlocks dL_price_14
  · refine lv_i2l hx hb dL_price_7 rfl ?_
    refine o_last hx hb hB hO hN hS dL_price_8 (fun H locs hO hS => ?_)
    refine lv_goto (tgt := 15) hx hb dL_price_9 (by decide) ?_
    refine lv_iconst (v := 0) hx hb dL_price_15 (by decide) ?_
    exact o_reti hx hb hr hO hS (by rw [hcd]; rfl) rfl (by rw [hcd]; rfl) hlocks dL_price_16
theorem cd_bring (g : Gd) (x : Int32) (kg : Int32) (rp : Int32) : (fX6_bring g x kg rp).1 = 0 ∨ ((fX6_bring g x kg rp).1 = 1 ∧ (fX6_bring g x kg rp).2.2 = g) ∨ ((fX6_bring g x kg rp).1 = 2 ∧ (fX6_bring g x kg rp).2.2 = g) ∨ ((fX6_bring g x kg rp).1 = 3 ∧ (fX6_bring g x kg rp).2.2 = g) := by
  unfold fX6_bring fX6_farmAt fX6_needFarm
  repeat' split
  all_goals first | (simp; done) | (simp_all; done)
set_option maxRecDepth 100000 in
set_option maxHeartbeats 4000000 in
theorem kL_bring (l : Launch) (D : va_G) (cy : Nat → ClassId) {ad : Nat → Nat → Nat} (hI : cI ad) (hl0 : l.stackTraces = false) (g : Gd) (oo : Nat) (vo : Int64) (sz : Nat) (x : Int32) (kg : Int32) (rp : Int32) (hv : IvC g) : Met l yL_bring wsL_bring ({ frames := 9, cells := 2, slots := 12, locals := 150 } : Room) (va_Pc [.ref (ad 0 0), .int x, .int kg, .int rp, .ref oo] (oPre D cy ad g oo vo sz)) (oQ D cy ad (k12 (fX6_bring g x kg rp).1) (fX6_bring g x kg rp).2.2 oo (if (fX6_bring g x kg rp).1 = 0 then (fX6_bring g x kg rp).2.1.toInt64 else vo) sz) 2 12 (oA ad oo sz) := by
  refine va_MetW (cc := cL_bring) (maxL := 6) (ret := some .int) (hh := [(0, 12, 15, 21), (0, 12, 19, 13), (0, 12, 23, 15)]) (by decide) rfl ?_
  intro p e s m args below meth c s₁ B hml hv0
  obtain ⟨rfl, hsz, hO, hN, hB, hNc⟩ := hv0
  subst hsz
  have hx := B.exec
  have hb := B.bytes
  have hr := B.returns
  have hts := atoms_spec (ws := wsL_bring) B.pre
  have hown : s.vm.findClass RL = some m.cls := findClass_of_methodNamed B.named
  have hlocks := B.notSynchronized
  have htb : c.exceptionTable.toList = tableOf [(0, 12, 15, 21), (0, 12, 19, 13), (0, 12, 23, 15)] := vx_table (x := yL_bring) B (hts _ (List.mem_of_getElem? (i := 0) rfl))
  have hl := lv_entry ([.ref (ad 0 0), .int x, .int kg, .int rp, .ref oo]) (n := 6) (Nat.le_of_ble_eq_true rfl)
  rw [lg_entry_eq]
  generalize (lg_sl ([.ref (ad 0 0), .int x, .int kg, .int rp, .ref oo]) ++ List.replicate (6 - (lg_sl ([.ref (ad 0 0), .int x, .int kg, .int rp, .ref oo])).length) Slot.unset).toArray = ls at hl ⊢
  have hl : lv_has ls 6 [(0, .ref (ad 0 0)), (1, .int x), (2, .int kg), (3, .int rp), (4, .ref oo)] := hl
  show W p l e ({ frames := 9, cells := 2, slots := 12, locals := 150 } : Room) s m _ below meth c s.heap [] 0 0 _ _
  refine lv_aload hx hb dL_bring_0 (lv_at hl 4 rfl) ?_
  refine lv_iconst (v := 0) hx hb dL_bring_2 (by decide) ?_
  refine lv_aload_n hx hb dL_bring_3 rfl (lv_at hl 0 rfl) ?_
  refine lv_iload_n hx hb dL_bring_4 rfl (lv_at hl 1 rfl) ?_
  refine lv_iload_n hx hb dL_bring_5 rfl (lv_at hl 2 rfl) ?_
  refine lv_iload_n hx hb dL_bring_6 rfl (lv_at hl 3 rfl) ?_
  refine o_callT (cd := (fX6_bring g x kg rp).1) (v := (fX6_bring g x kg rp).2.1) (g2 := (fX6_bring g x kg rp).2.2) (As := [.int x, .int kg, .int rp]) (rest := [.int 0, .ref oo]) ⟨hx, hb, hml, hown, hts⟩ (kX6_bring l D cy hI hl0 g _ x kg rp hv) (cwV 3 hts gL_bring_X6_bring rfl rfl rfl (by decide +kernel) ⟨Nat.le_of_ble_eq_true rfl, Nat.le_of_ble_eq_true rfl⟩) hB hO hN rfl hl.1 (Nat.le_of_ble_eq_true rfl) dL_bring_7 ⟨Nat.le_of_ble_eq_true rfl, Nat.le_of_ble_eq_true rfl⟩ (fun hcd H locs q9 ce hO hS h1 h2 h3 => ?_) (fun hcd H locs hO hS => ?_)
  · rcases cd_bring g x kg rp with hc | ⟨hc, hg⟩ | ⟨hc, hg⟩ | ⟨hc, hg⟩
    · exact absurd hc hcd
    · rw [hc] at h3
      refine vx_catch (own := RL) (name := "java/lang/IndexOutOfBoundsException") (E := "java/lang/IndexOutOfBoundsException") hown [] ⟨0, 12, 15, 21⟩ [⟨0, 12, 19, 13⟩, ⟨0, 12, 23, 15⟩] htb (fun z hz => absurd hz List.not_mem_nil) (by decide) (by decide) (hNc.2 _).2.2 (qB_use hB.2.1 (w := .castable "java/lang/IndexOutOfBoundsException" "java/lang/IndexOutOfBoundsException") (by decide) rfl) h1 h2 h3 ?_
      refine lv_astore (lv' := [(5, .ref q9), (0, .ref (ad 0 0)), (1, .int x), (2, .int kg), (3, .int rp), (4, .ref oo)]) hx hb dL_bring_15 hl (by decide) rfl (fun ls hl => ?_)
      refine lv_iconst (v := 1) hx hb dL_bring_17 (by decide) ?_
      exact o_reti hx hb hr hO hS (by rw [hc]; decide) hg (by rw [hc]; rfl) hlocks dL_bring_18
    · rw [hc] at h3
      refine vx_catch (own := RL) (name := "java/lang/IllegalArgumentException") (E := "java/lang/IllegalArgumentException") hown [⟨0, 12, 15, 21⟩] ⟨0, 12, 19, 13⟩ [⟨0, 12, 23, 15⟩] htb (fun z hz => by rw [List.mem_singleton.mp hz]; exact Or.inr ⟨by decide, "java/lang/IndexOutOfBoundsException", (hNc.2 _).2.2, hNc.1.1⟩) (by decide) (by decide) (hNc.2 _).1 (qB_use hB.2.1 (w := .castable "java/lang/IllegalArgumentException" "java/lang/IllegalArgumentException") (by decide) rfl) h1 h2 h3 ?_
      refine lv_astore (lv' := [(5, .ref q9), (0, .ref (ad 0 0)), (1, .int x), (2, .int kg), (3, .int rp), (4, .ref oo)]) hx hb dL_bring_19 hl (by decide) rfl (fun ls hl => ?_)
      refine lv_iconst (v := 2) hx hb dL_bring_21 (by decide) ?_
      exact o_reti hx hb hr hO hS (by rw [hc]; decide) hg (by rw [hc]; rfl) hlocks dL_bring_22
    · rw [hc] at h3
      refine vx_catch (own := RL) (name := "java/lang/IllegalStateException") (E := "java/lang/IllegalStateException") hown [⟨0, 12, 15, 21⟩, ⟨0, 12, 19, 13⟩] ⟨0, 12, 23, 15⟩ [] htb (fun z hz => (List.mem_cons.mp hz).elim (fun hz => by rw [hz]; exact Or.inr ⟨by decide, "java/lang/IndexOutOfBoundsException", (hNc.2 _).2.2, hNc.1.2.1⟩) (fun hz => by rw [List.mem_singleton.mp hz]; exact Or.inr ⟨by decide, "java/lang/IllegalArgumentException", (hNc.2 _).1, hNc.1.2.2⟩)) (by decide) (by decide) (hNc.2 _).2.1 (qB_use hB.2.1 (w := .castable "java/lang/IllegalStateException" "java/lang/IllegalStateException") (by decide) rfl) h1 h2 h3 ?_
      refine lv_astore (lv' := [(5, .ref q9), (0, .ref (ad 0 0)), (1, .int x), (2, .int kg), (3, .int rp), (4, .ref oo)]) hx hb dL_bring_23 hl (by decide) rfl (fun ls hl => ?_)
      refine lv_iconst (v := 3) hx hb dL_bring_25 (by decide) ?_
      exact o_reti hx hb hr hO hS (by rw [hc]; decide) hg (by rw [hc]; rfl) hlocks dL_bring_26
  · refine lv_i2l hx hb dL_bring_10 rfl ?_
    refine o_last hx hb hB hO hN hS dL_bring_11 (fun H locs hO hS => ?_)
    refine lv_goto (tgt := 27) hx hb dL_bring_12 (by decide) ?_
    refine lv_iconst (v := 0) hx hb dL_bring_27 (by decide) ?_
    exact o_reti hx hb hr hO hS (by rw [hcd]; rfl) rfl (by rw [hcd]; rfl) hlocks dL_bring_28
theorem cd_pass (g : Gd) (hh : Int32) (ww : Int32) (rr : Int32) : (fX6_pass g hh ww rr).1 = 0 ∨ ((fX6_pass g hh ww rr).1 = 2 ∧ (fX6_pass g hh ww rr).2.2 = g) ∨ ((fX6_pass g hh ww rr).1 = 3 ∧ (fX6_pass g hh ww rr).2.2 = g) := by
  unfold fX6_pass 
  repeat' split
  all_goals first | (simp; done) | (simp_all; done)
set_option maxRecDepth 100000 in
set_option maxHeartbeats 4000000 in
theorem kL_pass (l : Launch) (D : va_G) (cy : Nat → ClassId) {ad : Nat → Nat → Nat} (hI : cI ad) (hl0 : l.stackTraces = false) (g : Gd) (oo : Nat) (vo : Int64) (sz : Nat) (hh : Int32) (ww : Int32) (rr : Int32) (hv : IvC g) : Met l yL_pass wsL_pass ({ frames := 7, cells := 1, slots := 6, locals := 117 } : Room) (va_Pc [.ref (ad 0 0), .int hh, .int ww, .int rr, .ref oo] (oPre D cy ad g oo vo sz)) (oQ D cy ad (k23 (fX6_pass g hh ww rr).1) (fX6_pass g hh ww rr).2.2 oo (if (fX6_pass g hh ww rr).1 = 0 then (fX6_pass g hh ww rr).2.1.toInt64 else vo) sz) 1 6 (oA ad oo sz) := by
  refine va_MetW (cc := cL_pass) (maxL := 6) (ret := some .int) (hh := [(0, 12, 15, 13), (0, 12, 19, 15)]) (by decide) rfl ?_
  intro p e s m args below meth c s₁ B hml hv0
  obtain ⟨rfl, hsz, hO, hN, hB, hNc⟩ := hv0
  subst hsz
  have hx := B.exec
  have hb := B.bytes
  have hr := B.returns
  have hts := atoms_spec (ws := wsL_pass) B.pre
  have hown : s.vm.findClass RL = some m.cls := findClass_of_methodNamed B.named
  have hlocks := B.notSynchronized
  have htb : c.exceptionTable.toList = tableOf [(0, 12, 15, 13), (0, 12, 19, 15)] := vx_table (x := yL_pass) B (hts _ (List.mem_of_getElem? (i := 0) rfl))
  have hl := lv_entry ([.ref (ad 0 0), .int hh, .int ww, .int rr, .ref oo]) (n := 6) (Nat.le_of_ble_eq_true rfl)
  rw [lg_entry_eq]
  generalize (lg_sl ([.ref (ad 0 0), .int hh, .int ww, .int rr, .ref oo]) ++ List.replicate (6 - (lg_sl ([.ref (ad 0 0), .int hh, .int ww, .int rr, .ref oo])).length) Slot.unset).toArray = ls at hl ⊢
  have hl : lv_has ls 6 [(0, .ref (ad 0 0)), (1, .int hh), (2, .int ww), (3, .int rr), (4, .ref oo)] := hl
  show W p l e ({ frames := 7, cells := 1, slots := 6, locals := 117 } : Room) s m _ below meth c s.heap [] 0 0 _ _
  refine lv_aload hx hb dL_pass_0 (lv_at hl 4 rfl) ?_
  refine lv_iconst (v := 0) hx hb dL_pass_2 (by decide) ?_
  refine lv_aload_n hx hb dL_pass_3 rfl (lv_at hl 0 rfl) ?_
  refine lv_iload_n hx hb dL_pass_4 rfl (lv_at hl 1 rfl) ?_
  refine lv_iload_n hx hb dL_pass_5 rfl (lv_at hl 2 rfl) ?_
  refine lv_iload_n hx hb dL_pass_6 rfl (lv_at hl 3 rfl) ?_
  refine o_callT (cd := (fX6_pass g hh ww rr).1) (v := (fX6_pass g hh ww rr).2.1) (g2 := (fX6_pass g hh ww rr).2.2) (As := [.int hh, .int ww, .int rr]) (rest := [.int 0, .ref oo]) ⟨hx, hb, hml, hown, hts⟩ (kX6_pass l D cy hI hl0 g _ hh ww rr hv) (cwV 3 hts gL_pass_X6_pass rfl rfl rfl (by decide +kernel) ⟨Nat.le_of_ble_eq_true rfl, Nat.le_of_ble_eq_true rfl⟩) hB hO hN rfl hl.1 (Nat.le_of_ble_eq_true rfl) dL_pass_7 ⟨Nat.le_of_ble_eq_true rfl, Nat.le_of_ble_eq_true rfl⟩ (fun hcd H locs q9 ce hO hS h1 h2 h3 => ?_) (fun hcd H locs hO hS => ?_)
  · rcases cd_pass g hh ww rr with hc | ⟨hc, hg⟩ | ⟨hc, hg⟩
    · exact absurd hc hcd
    · rw [hc] at h3
      refine vx_catch (own := RL) (name := "java/lang/IllegalArgumentException") (E := "java/lang/IllegalArgumentException") hown [] ⟨0, 12, 15, 13⟩ [⟨0, 12, 19, 15⟩] htb (fun z hz => absurd hz List.not_mem_nil) (by decide) (by decide) (hNc.2 _).1 (qB_use hB.2.1 (w := .castable "java/lang/IllegalArgumentException" "java/lang/IllegalArgumentException") (by decide) rfl) h1 h2 h3 ?_
      refine lv_astore (lv' := [(5, .ref q9), (0, .ref (ad 0 0)), (1, .int hh), (2, .int ww), (3, .int rr), (4, .ref oo)]) hx hb dL_pass_15 hl (by decide) rfl (fun ls hl => ?_)
      refine lv_iconst (v := 1) hx hb dL_pass_17 (by decide) ?_
      exact o_reti hx hb hr hO hS (by rw [hc]; decide) hg (by rw [hc]; rfl) hlocks dL_pass_18
    · rw [hc] at h3
      refine vx_catch (own := RL) (name := "java/lang/IllegalStateException") (E := "java/lang/IllegalStateException") hown [⟨0, 12, 15, 13⟩] ⟨0, 12, 19, 15⟩ [] htb (fun z hz => by rw [List.mem_singleton.mp hz]; exact Or.inr ⟨by decide, "java/lang/IllegalArgumentException", (hNc.2 _).1, hNc.1.2.2⟩) (by decide) (by decide) (hNc.2 _).2.1 (qB_use hB.2.1 (w := .castable "java/lang/IllegalStateException" "java/lang/IllegalStateException") (by decide) rfl) h1 h2 h3 ?_
      refine lv_astore (lv' := [(5, .ref q9), (0, .ref (ad 0 0)), (1, .int hh), (2, .int ww), (3, .int rr), (4, .ref oo)]) hx hb dL_pass_19 hl (by decide) rfl (fun ls hl => ?_)
      refine lv_iconst (v := 2) hx hb dL_pass_21 (by decide) ?_
      exact o_reti hx hb hr hO hS (by rw [hc]; decide) hg (by rw [hc]; rfl) hlocks dL_pass_22
  · refine lv_i2l hx hb dL_pass_10 rfl ?_
    refine o_last hx hb hB hO hN hS dL_pass_11 (fun H locs hO hS => ?_)
    refine lv_goto (tgt := 23) hx hb dL_pass_12 (by decide) ?_
    refine lv_iconst (v := 0) hx hb dL_pass_23 (by decide) ?_
    exact o_reti hx hb hr hO hS (by rw [hcd]; rfl) rfl (by rw [hcd]; rfl) hlocks dL_pass_24
theorem cd_bed (g : Gd) (x : Int32) : (fX6_bed g x).1 = 0 ∨ ((fX6_bed g x).1 = 2 ∧ (fX6_bed g x).2.2 = g) ∨ ((fX6_bed g x).1 = 3 ∧ (fX6_bed g x).2.2 = g) := by
  unfold fX6_bed 
  repeat' split
  all_goals first | (simp; done) | (simp_all; done)
set_option maxRecDepth 100000 in
set_option maxHeartbeats 4000000 in
theorem kL_bed (l : Launch) (D : va_G) (cy : Nat → ClassId) {ad : Nat → Nat → Nat} (hI : cI ad) (hl0 : l.stackTraces = false) (g : Gd) (oo : Nat) (vo : Int64) (sz : Nat) (x : Int32) (hv : IvC g) : Met l yL_bed wsL_bed ({ frames := 7, cells := 1, slots := 6, locals := 103 } : Room) (va_Pc [.ref (ad 0 0), .int x, .ref oo] (oPre D cy ad g oo vo sz)) (oQ D cy ad (k23 (fX6_bed g x).1) (fX6_bed g x).2.2 oo (if (fX6_bed g x).1 = 0 then (fX6_bed g x).2.1.toInt64 else vo) sz) 1 6 (oA ad oo sz) := by
  refine va_MetW (cc := cL_bed) (maxL := 4) (ret := some .int) (hh := [(0, 9, 12, 13), (0, 9, 15, 15)]) (by decide) rfl ?_
  intro p e s m args below meth c s₁ B hml hv0
  obtain ⟨rfl, hsz, hO, hN, hB, hNc⟩ := hv0
  subst hsz
  have hx := B.exec
  have hb := B.bytes
  have hr := B.returns
  have hts := atoms_spec (ws := wsL_bed) B.pre
  have hown : s.vm.findClass RL = some m.cls := findClass_of_methodNamed B.named
  have hlocks := B.notSynchronized
  have htb : c.exceptionTable.toList = tableOf [(0, 9, 12, 13), (0, 9, 15, 15)] := vx_table (x := yL_bed) B (hts _ (List.mem_of_getElem? (i := 0) rfl))
  have hl := lv_entry ([.ref (ad 0 0), .int x, .ref oo]) (n := 4) (Nat.le_of_ble_eq_true rfl)
  rw [lg_entry_eq]
  generalize (lg_sl ([.ref (ad 0 0), .int x, .ref oo]) ++ List.replicate (4 - (lg_sl ([.ref (ad 0 0), .int x, .ref oo])).length) Slot.unset).toArray = ls at hl ⊢
  have hl : lv_has ls 4 [(0, .ref (ad 0 0)), (1, .int x), (2, .ref oo)] := hl
  show W p l e ({ frames := 7, cells := 1, slots := 6, locals := 103 } : Room) s m _ below meth c s.heap [] 0 0 _ _
  refine lv_aload_n hx hb dL_bed_0 rfl (lv_at hl 2 rfl) ?_
  refine lv_iconst (v := 0) hx hb dL_bed_1 (by decide) ?_
  refine lv_aload_n hx hb dL_bed_2 rfl (lv_at hl 0 rfl) ?_
  refine lv_iload_n hx hb dL_bed_3 rfl (lv_at hl 1 rfl) ?_
  refine o_callT (cd := (fX6_bed g x).1) (v := (fX6_bed g x).2.1) (g2 := (fX6_bed g x).2.2) (As := [.int x]) (rest := [.int 0, .ref oo]) ⟨hx, hb, hml, hown, hts⟩ (kX6_bed l D cy hI hl0 g _ x hv) (cwV 1 hts gL_bed_X6_bed rfl rfl rfl (by decide +kernel) ⟨Nat.le_of_ble_eq_true rfl, Nat.le_of_ble_eq_true rfl⟩) hB hO hN rfl hl.1 (Nat.le_of_ble_eq_true rfl) dL_bed_4 ⟨Nat.le_of_ble_eq_true rfl, Nat.le_of_ble_eq_true rfl⟩ (fun hcd H locs q9 ce hO hS h1 h2 h3 => ?_) (fun hcd H locs hO hS => ?_)
  · rcases cd_bed g x with hc | ⟨hc, hg⟩ | ⟨hc, hg⟩
    · exact absurd hc hcd
    · rw [hc] at h3
      refine vx_catch (own := RL) (name := "java/lang/IllegalArgumentException") (E := "java/lang/IllegalArgumentException") hown [] ⟨0, 9, 12, 13⟩ [⟨0, 9, 15, 15⟩] htb (fun z hz => absurd hz List.not_mem_nil) (by decide) (by decide) (hNc.2 _).1 (qB_use hB.2.1 (w := .castable "java/lang/IllegalArgumentException" "java/lang/IllegalArgumentException") (by decide) rfl) h1 h2 h3 ?_
      refine lv_astore_n (lv' := [(3, .ref q9), (0, .ref (ad 0 0)), (1, .int x), (2, .ref oo)]) hx hb dL_bed_12 rfl hl (by decide) rfl (fun ls hl => ?_)
      refine lv_iconst (v := 1) hx hb dL_bed_13 (by decide) ?_
      exact o_reti hx hb hr hO hS (by rw [hc]; decide) hg (by rw [hc]; rfl) hlocks dL_bed_14
    · rw [hc] at h3
      refine vx_catch (own := RL) (name := "java/lang/IllegalStateException") (E := "java/lang/IllegalStateException") hown [⟨0, 9, 12, 13⟩] ⟨0, 9, 15, 15⟩ [] htb (fun z hz => by rw [List.mem_singleton.mp hz]; exact Or.inr ⟨by decide, "java/lang/IllegalArgumentException", (hNc.2 _).1, hNc.1.2.2⟩) (by decide) (by decide) (hNc.2 _).2.1 (qB_use hB.2.1 (w := .castable "java/lang/IllegalStateException" "java/lang/IllegalStateException") (by decide) rfl) h1 h2 h3 ?_
      refine lv_astore_n (lv' := [(3, .ref q9), (0, .ref (ad 0 0)), (1, .int x), (2, .ref oo)]) hx hb dL_bed_15 rfl hl (by decide) rfl (fun ls hl => ?_)
      refine lv_iconst (v := 2) hx hb dL_bed_16 (by decide) ?_
      exact o_reti hx hb hr hO hS (by rw [hc]; decide) hg (by rw [hc]; rfl) hlocks dL_bed_17
  · refine lv_i2l hx hb dL_bed_7 rfl ?_
    refine o_last hx hb hB hO hN hS dL_bed_8 (fun H locs hO hS => ?_)
    refine lv_goto (tgt := 18) hx hb dL_bed_9 (by decide) ?_
    refine lv_iconst (v := 0) hx hb dL_bed_18 (by decide) ?_
    exact o_reti hx hb hr hO hS (by rw [hcd]; rfl) rfl (by rw [hcd]; rfl) hlocks dL_bed_19
theorem cd_pulp (g : Gd) (x : Int32) (t : Int32) : (fX6_pulp g x t).1 = 0 ∨ ((fX6_pulp g x t).1 = 1 ∧ (fX6_pulp g x t).2.2 = g) ∨ ((fX6_pulp g x t).1 = 3 ∧ (fX6_pulp g x t).2.2 = g) := by
  unfold fX6_pulp fX6_basketAt fX6_tankAt
  repeat' split
  all_goals first | (simp; done) | (simp_all; done)
set_option maxRecDepth 100000 in
set_option maxHeartbeats 4000000 in
theorem kL_pulp (l : Launch) (D : va_G) (cy : Nat → ClassId) {ad : Nat → Nat → Nat} (hI : cI ad) (hl0 : l.stackTraces = false) (g : Gd) (oo : Nat) (vo : Int64) (sz : Nat) (x : Int32) (t : Int32) (hv : IvC g) : Met l yL_pulp wsL_pulp ({ frames := 8, cells := 3, slots := 18, locals := 128 } : Room) (va_Pc [.ref (ad 0 0), .int x, .int t, .ref oo] (oPre D cy ad g oo vo sz)) (oQ D cy ad (k13 (fX6_pulp g x t).1) (fX6_pulp g x t).2.2 oo (if (fX6_pulp g x t).1 = 0 then (fX6_pulp g x t).2.1.toInt64 else vo) sz) 3 18 (oA ad oo sz) := by
  refine va_MetW (cc := cL_pulp) (maxL := 5) (ret := some .int) (hh := [(0, 10, 13, 21), (0, 10, 17, 15)]) (by decide) rfl ?_
  intro p e s m args below meth c s₁ B hml hv0
  obtain ⟨rfl, hsz, hO, hN, hB, hNc⟩ := hv0
  subst hsz
  have hx := B.exec
  have hb := B.bytes
  have hr := B.returns
  have hts := atoms_spec (ws := wsL_pulp) B.pre
  have hown : s.vm.findClass RL = some m.cls := findClass_of_methodNamed B.named
  have hlocks := B.notSynchronized
  have htb : c.exceptionTable.toList = tableOf [(0, 10, 13, 21), (0, 10, 17, 15)] := vx_table (x := yL_pulp) B (hts _ (List.mem_of_getElem? (i := 0) rfl))
  have hl := lv_entry ([.ref (ad 0 0), .int x, .int t, .ref oo]) (n := 5) (Nat.le_of_ble_eq_true rfl)
  rw [lg_entry_eq]
  generalize (lg_sl ([.ref (ad 0 0), .int x, .int t, .ref oo]) ++ List.replicate (5 - (lg_sl ([.ref (ad 0 0), .int x, .int t, .ref oo])).length) Slot.unset).toArray = ls at hl ⊢
  have hl : lv_has ls 5 [(0, .ref (ad 0 0)), (1, .int x), (2, .int t), (3, .ref oo)] := hl
  show W p l e ({ frames := 8, cells := 3, slots := 18, locals := 128 } : Room) s m _ below meth c s.heap [] 0 0 _ _
  refine lv_aload_n hx hb dL_pulp_0 rfl (lv_at hl 3 rfl) ?_
  refine lv_iconst (v := 0) hx hb dL_pulp_1 (by decide) ?_
  refine lv_aload_n hx hb dL_pulp_2 rfl (lv_at hl 0 rfl) ?_
  refine lv_iload_n hx hb dL_pulp_3 rfl (lv_at hl 1 rfl) ?_
  refine lv_iload_n hx hb dL_pulp_4 rfl (lv_at hl 2 rfl) ?_
  refine o_callT (cd := (fX6_pulp g x t).1) (v := (fX6_pulp g x t).2.1) (g2 := (fX6_pulp g x t).2.2) (As := [.int x, .int t]) (rest := [.int 0, .ref oo]) ⟨hx, hb, hml, hown, hts⟩ (kX6_pulp l D cy hI hl0 g _ x t hv) (cwV 2 hts gL_pulp_X6_pulp rfl rfl rfl (by decide +kernel) ⟨Nat.le_of_ble_eq_true rfl, Nat.le_of_ble_eq_true rfl⟩) hB hO hN rfl hl.1 (Nat.le_of_ble_eq_true rfl) dL_pulp_5 ⟨Nat.le_of_ble_eq_true rfl, Nat.le_of_ble_eq_true rfl⟩ (fun hcd H locs q9 ce hO hS h1 h2 h3 => ?_) (fun hcd H locs hO hS => ?_)
  · rcases cd_pulp g x t with hc | ⟨hc, hg⟩ | ⟨hc, hg⟩
    · exact absurd hc hcd
    · rw [hc] at h3
      refine vx_catch (own := RL) (name := "java/lang/IndexOutOfBoundsException") (E := "java/lang/IndexOutOfBoundsException") hown [] ⟨0, 10, 13, 21⟩ [⟨0, 10, 17, 15⟩] htb (fun z hz => absurd hz List.not_mem_nil) (by decide) (by decide) (hNc.2 _).2.2 (qB_use hB.2.1 (w := .castable "java/lang/IndexOutOfBoundsException" "java/lang/IndexOutOfBoundsException") (by decide) rfl) h1 h2 h3 ?_
      refine lv_astore (lv' := [(4, .ref q9), (0, .ref (ad 0 0)), (1, .int x), (2, .int t), (3, .ref oo)]) hx hb dL_pulp_13 hl (by decide) rfl (fun ls hl => ?_)
      refine lv_iconst (v := 1) hx hb dL_pulp_15 (by decide) ?_
      exact o_reti hx hb hr hO hS (by rw [hc]; decide) hg (by rw [hc]; rfl) hlocks dL_pulp_16
    · rw [hc] at h3
      refine vx_catch (own := RL) (name := "java/lang/IllegalStateException") (E := "java/lang/IllegalStateException") hown [⟨0, 10, 13, 21⟩] ⟨0, 10, 17, 15⟩ [] htb (fun z hz => by rw [List.mem_singleton.mp hz]; exact Or.inr ⟨by decide, "java/lang/IndexOutOfBoundsException", (hNc.2 _).2.2, hNc.1.2.1⟩) (by decide) (by decide) (hNc.2 _).2.1 (qB_use hB.2.1 (w := .castable "java/lang/IllegalStateException" "java/lang/IllegalStateException") (by decide) rfl) h1 h2 h3 ?_
      refine lv_astore (lv' := [(4, .ref q9), (0, .ref (ad 0 0)), (1, .int x), (2, .int t), (3, .ref oo)]) hx hb dL_pulp_17 hl (by decide) rfl (fun ls hl => ?_)
      refine lv_iconst (v := 2) hx hb dL_pulp_19 (by decide) ?_
      exact o_reti hx hb hr hO hS (by rw [hc]; decide) hg (by rw [hc]; rfl) hlocks dL_pulp_20
  · refine lv_i2l hx hb dL_pulp_8 rfl ?_
    refine o_last hx hb hB hO hN hS dL_pulp_9 (fun H locs hO hS => ?_)
    refine lv_goto (tgt := 21) hx hb dL_pulp_10 (by decide) ?_
    refine lv_iconst (v := 0) hx hb dL_pulp_21 (by decide) ?_
    exact o_reti hx hb hr hO hS (by rw [hcd]; rfl) rfl (by rw [hcd]; rfl) hlocks dL_pulp_22
theorem cd_wash (g : Gd) (t : Int32) (b : Int32) (ho : Int32) : (fX6_wash g t b ho).1 = 0 ∨ ((fX6_wash g t b ho).1 = 1 ∧ (fX6_wash g t b ho).2.2 = g) ∨ ((fX6_wash g t b ho).1 = 3 ∧ (fX6_wash g t b ho).2.2 = g) := by
  unfold fX6_wash fX6_tankAt fX6_bedAt
  repeat' split
  all_goals first | (simp; done) | (simp_all; done)
set_option maxRecDepth 100000 in
set_option maxHeartbeats 4000000 in
theorem kL_wash (l : Launch) (D : va_G) (cy : Nat → ClassId) {ad : Nat → Nat → Nat} (hI : cI ad) (hl0 : l.stackTraces = false) (g : Gd) (oo : Nat) (vo : Int64) (sz : Nat) (t : Int32) (b : Int32) (ho : Int32) (hv : IvC g) : Met l yL_wash wsL_wash ({ frames := 8, cells := 3, slots := 18, locals := 129 } : Room) (va_Pc [.ref (ad 0 0), .int t, .int b, .int ho, .ref oo] (oPre D cy ad g oo vo sz)) (oQ D cy ad (k13 (fX6_wash g t b ho).1) (fX6_wash g t b ho).2.2 oo (if (fX6_wash g t b ho).1 = 0 then (fX6_wash g t b ho).2.1.toInt64 else vo) sz) 3 18 (oA ad oo sz) := by
  refine va_MetW (cc := cL_wash) (maxL := 6) (ret := some .int) (hh := [(0, 12, 15, 21), (0, 12, 19, 15)]) (by decide) rfl ?_
  intro p e s m args below meth c s₁ B hml hv0
  obtain ⟨rfl, hsz, hO, hN, hB, hNc⟩ := hv0
  subst hsz
  have hx := B.exec
  have hb := B.bytes
  have hr := B.returns
  have hts := atoms_spec (ws := wsL_wash) B.pre
  have hown : s.vm.findClass RL = some m.cls := findClass_of_methodNamed B.named
  have hlocks := B.notSynchronized
  have htb : c.exceptionTable.toList = tableOf [(0, 12, 15, 21), (0, 12, 19, 15)] := vx_table (x := yL_wash) B (hts _ (List.mem_of_getElem? (i := 0) rfl))
  have hl := lv_entry ([.ref (ad 0 0), .int t, .int b, .int ho, .ref oo]) (n := 6) (Nat.le_of_ble_eq_true rfl)
  rw [lg_entry_eq]
  generalize (lg_sl ([.ref (ad 0 0), .int t, .int b, .int ho, .ref oo]) ++ List.replicate (6 - (lg_sl ([.ref (ad 0 0), .int t, .int b, .int ho, .ref oo])).length) Slot.unset).toArray = ls at hl ⊢
  have hl : lv_has ls 6 [(0, .ref (ad 0 0)), (1, .int t), (2, .int b), (3, .int ho), (4, .ref oo)] := hl
  show W p l e ({ frames := 8, cells := 3, slots := 18, locals := 129 } : Room) s m _ below meth c s.heap [] 0 0 _ _
  refine lv_aload hx hb dL_wash_0 (lv_at hl 4 rfl) ?_
  refine lv_iconst (v := 0) hx hb dL_wash_2 (by decide) ?_
  refine lv_aload_n hx hb dL_wash_3 rfl (lv_at hl 0 rfl) ?_
  refine lv_iload_n hx hb dL_wash_4 rfl (lv_at hl 1 rfl) ?_
  refine lv_iload_n hx hb dL_wash_5 rfl (lv_at hl 2 rfl) ?_
  refine lv_iload_n hx hb dL_wash_6 rfl (lv_at hl 3 rfl) ?_
  refine o_callT (cd := (fX6_wash g t b ho).1) (v := (fX6_wash g t b ho).2.1) (g2 := (fX6_wash g t b ho).2.2) (As := [.int t, .int b, .int ho]) (rest := [.int 0, .ref oo]) ⟨hx, hb, hml, hown, hts⟩ (kX6_wash l D cy hI hl0 g _ t b ho hv) (cwV 3 hts gL_wash_X6_wash rfl rfl rfl (by decide +kernel) ⟨Nat.le_of_ble_eq_true rfl, Nat.le_of_ble_eq_true rfl⟩) hB hO hN rfl hl.1 (Nat.le_of_ble_eq_true rfl) dL_wash_7 ⟨Nat.le_of_ble_eq_true rfl, Nat.le_of_ble_eq_true rfl⟩ (fun hcd H locs q9 ce hO hS h1 h2 h3 => ?_) (fun hcd H locs hO hS => ?_)
  · rcases cd_wash g t b ho with hc | ⟨hc, hg⟩ | ⟨hc, hg⟩
    · exact absurd hc hcd
    · rw [hc] at h3
      refine vx_catch (own := RL) (name := "java/lang/IndexOutOfBoundsException") (E := "java/lang/IndexOutOfBoundsException") hown [] ⟨0, 12, 15, 21⟩ [⟨0, 12, 19, 15⟩] htb (fun z hz => absurd hz List.not_mem_nil) (by decide) (by decide) (hNc.2 _).2.2 (qB_use hB.2.1 (w := .castable "java/lang/IndexOutOfBoundsException" "java/lang/IndexOutOfBoundsException") (by decide) rfl) h1 h2 h3 ?_
      refine lv_astore (lv' := [(5, .ref q9), (0, .ref (ad 0 0)), (1, .int t), (2, .int b), (3, .int ho), (4, .ref oo)]) hx hb dL_wash_15 hl (by decide) rfl (fun ls hl => ?_)
      refine lv_iconst (v := 1) hx hb dL_wash_17 (by decide) ?_
      exact o_reti hx hb hr hO hS (by rw [hc]; decide) hg (by rw [hc]; rfl) hlocks dL_wash_18
    · rw [hc] at h3
      refine vx_catch (own := RL) (name := "java/lang/IllegalStateException") (E := "java/lang/IllegalStateException") hown [⟨0, 12, 15, 21⟩] ⟨0, 12, 19, 15⟩ [] htb (fun z hz => by rw [List.mem_singleton.mp hz]; exact Or.inr ⟨by decide, "java/lang/IndexOutOfBoundsException", (hNc.2 _).2.2, hNc.1.2.1⟩) (by decide) (by decide) (hNc.2 _).2.1 (qB_use hB.2.1 (w := .castable "java/lang/IllegalStateException" "java/lang/IllegalStateException") (by decide) rfl) h1 h2 h3 ?_
      refine lv_astore (lv' := [(5, .ref q9), (0, .ref (ad 0 0)), (1, .int t), (2, .int b), (3, .int ho), (4, .ref oo)]) hx hb dL_wash_19 hl (by decide) rfl (fun ls hl => ?_)
      refine lv_iconst (v := 2) hx hb dL_wash_21 (by decide) ?_
      exact o_reti hx hb hr hO hS (by rw [hc]; decide) hg (by rw [hc]; rfl) hlocks dL_wash_22
  · refine lv_i2l hx hb dL_wash_10 rfl ?_
    refine o_last hx hb hB hO hN hS dL_wash_11 (fun H locs hO hS => ?_)
    refine lv_goto (tgt := 23) hx hb dL_wash_12 (by decide) ?_
    refine lv_iconst (v := 0) hx hb dL_wash_23 (by decide) ?_
    exact o_reti hx hb hr hO hS (by rw [hcd]; rfl) rfl (by rw [hcd]; rfl) hlocks dL_wash_24
theorem cd_whole (g : Gd) (x : Int32) (b : Int32) : (fX6_whole g x b).1 = 0 ∨ ((fX6_whole g x b).1 = 1 ∧ (fX6_whole g x b).2.2 = g) ∨ ((fX6_whole g x b).1 = 3 ∧ (fX6_whole g x b).2.2 = g) := by
  unfold fX6_whole fX6_basketAt fX6_bedAt
  repeat' split
  all_goals first | (simp; done) | (simp_all; done)
set_option maxRecDepth 100000 in
set_option maxHeartbeats 4000000 in
theorem kL_whole (l : Launch) (D : va_G) (cy : Nat → ClassId) {ad : Nat → Nat → Nat} (hI : cI ad) (hl0 : l.stackTraces = false) (g : Gd) (oo : Nat) (vo : Int64) (sz : Nat) (x : Int32) (b : Int32) (hv : IvC g) : Met l yL_whole wsL_whole ({ frames := 8, cells := 3, slots := 18, locals := 127 } : Room) (va_Pc [.ref (ad 0 0), .int x, .int b, .ref oo] (oPre D cy ad g oo vo sz)) (oQ D cy ad (k13 (fX6_whole g x b).1) (fX6_whole g x b).2.2 oo (if (fX6_whole g x b).1 = 0 then (fX6_whole g x b).2.1.toInt64 else vo) sz) 3 18 (oA ad oo sz) := by
  refine va_MetW (cc := cL_whole) (maxL := 5) (ret := some .int) (hh := [(0, 10, 13, 21), (0, 10, 17, 15)]) (by decide) rfl ?_
  intro p e s m args below meth c s₁ B hml hv0
  obtain ⟨rfl, hsz, hO, hN, hB, hNc⟩ := hv0
  subst hsz
  have hx := B.exec
  have hb := B.bytes
  have hr := B.returns
  have hts := atoms_spec (ws := wsL_whole) B.pre
  have hown : s.vm.findClass RL = some m.cls := findClass_of_methodNamed B.named
  have hlocks := B.notSynchronized
  have htb : c.exceptionTable.toList = tableOf [(0, 10, 13, 21), (0, 10, 17, 15)] := vx_table (x := yL_whole) B (hts _ (List.mem_of_getElem? (i := 0) rfl))
  have hl := lv_entry ([.ref (ad 0 0), .int x, .int b, .ref oo]) (n := 5) (Nat.le_of_ble_eq_true rfl)
  rw [lg_entry_eq]
  generalize (lg_sl ([.ref (ad 0 0), .int x, .int b, .ref oo]) ++ List.replicate (5 - (lg_sl ([.ref (ad 0 0), .int x, .int b, .ref oo])).length) Slot.unset).toArray = ls at hl ⊢
  have hl : lv_has ls 5 [(0, .ref (ad 0 0)), (1, .int x), (2, .int b), (3, .ref oo)] := hl
  show W p l e ({ frames := 8, cells := 3, slots := 18, locals := 127 } : Room) s m _ below meth c s.heap [] 0 0 _ _
  refine lv_aload_n hx hb dL_whole_0 rfl (lv_at hl 3 rfl) ?_
  refine lv_iconst (v := 0) hx hb dL_whole_1 (by decide) ?_
  refine lv_aload_n hx hb dL_whole_2 rfl (lv_at hl 0 rfl) ?_
  refine lv_iload_n hx hb dL_whole_3 rfl (lv_at hl 1 rfl) ?_
  refine lv_iload_n hx hb dL_whole_4 rfl (lv_at hl 2 rfl) ?_
  refine o_callT (cd := (fX6_whole g x b).1) (v := (fX6_whole g x b).2.1) (g2 := (fX6_whole g x b).2.2) (As := [.int x, .int b]) (rest := [.int 0, .ref oo]) ⟨hx, hb, hml, hown, hts⟩ (kX6_whole l D cy hI hl0 g _ x b hv) (cwV 2 hts gL_whole_X6_whole rfl rfl rfl (by decide +kernel) ⟨Nat.le_of_ble_eq_true rfl, Nat.le_of_ble_eq_true rfl⟩) hB hO hN rfl hl.1 (Nat.le_of_ble_eq_true rfl) dL_whole_5 ⟨Nat.le_of_ble_eq_true rfl, Nat.le_of_ble_eq_true rfl⟩ (fun hcd H locs q9 ce hO hS h1 h2 h3 => ?_) (fun hcd H locs hO hS => ?_)
  · rcases cd_whole g x b with hc | ⟨hc, hg⟩ | ⟨hc, hg⟩
    · exact absurd hc hcd
    · rw [hc] at h3
      refine vx_catch (own := RL) (name := "java/lang/IndexOutOfBoundsException") (E := "java/lang/IndexOutOfBoundsException") hown [] ⟨0, 10, 13, 21⟩ [⟨0, 10, 17, 15⟩] htb (fun z hz => absurd hz List.not_mem_nil) (by decide) (by decide) (hNc.2 _).2.2 (qB_use hB.2.1 (w := .castable "java/lang/IndexOutOfBoundsException" "java/lang/IndexOutOfBoundsException") (by decide) rfl) h1 h2 h3 ?_
      refine lv_astore (lv' := [(4, .ref q9), (0, .ref (ad 0 0)), (1, .int x), (2, .int b), (3, .ref oo)]) hx hb dL_whole_13 hl (by decide) rfl (fun ls hl => ?_)
      refine lv_iconst (v := 1) hx hb dL_whole_15 (by decide) ?_
      exact o_reti hx hb hr hO hS (by rw [hc]; decide) hg (by rw [hc]; rfl) hlocks dL_whole_16
    · rw [hc] at h3
      refine vx_catch (own := RL) (name := "java/lang/IllegalStateException") (E := "java/lang/IllegalStateException") hown [⟨0, 10, 13, 21⟩] ⟨0, 10, 17, 15⟩ [] htb (fun z hz => by rw [List.mem_singleton.mp hz]; exact Or.inr ⟨by decide, "java/lang/IndexOutOfBoundsException", (hNc.2 _).2.2, hNc.1.2.1⟩) (by decide) (by decide) (hNc.2 _).2.1 (qB_use hB.2.1 (w := .castable "java/lang/IllegalStateException" "java/lang/IllegalStateException") (by decide) rfl) h1 h2 h3 ?_
      refine lv_astore (lv' := [(4, .ref q9), (0, .ref (ad 0 0)), (1, .int x), (2, .int b), (3, .ref oo)]) hx hb dL_whole_17 hl (by decide) rfl (fun ls hl => ?_)
      refine lv_iconst (v := 2) hx hb dL_whole_19 (by decide) ?_
      exact o_reti hx hb hr hO hS (by rw [hc]; decide) hg (by rw [hc]; rfl) hlocks dL_whole_20
  · refine lv_i2l hx hb dL_whole_8 rfl ?_
    refine o_last hx hb hB hO hN hS dL_whole_9 (fun H locs hO hS => ?_)
    refine lv_goto (tgt := 21) hx hb dL_whole_10 (by decide) ?_
    refine lv_iconst (v := 0) hx hb dL_whole_21 (by decide) ?_
    exact o_reti hx hb hr hO hS (by rw [hcd]; rfl) rfl (by rw [hcd]; rfl) hlocks dL_whole_22
theorem cd_turn (g : Gd) (b : Int32) : (fX6_turn g b).1 = 0 ∨ ((fX6_turn g b).1 = 1 ∧ (fX6_turn g b).2.2 = g) ∨ ((fX6_turn g b).1 = 3 ∧ (fX6_turn g b).2.2 = g) := by
  unfold fX6_turn fX6_bedAt
  repeat' split
  all_goals first | (simp; done) | (simp_all; done)
set_option maxRecDepth 100000 in
set_option maxHeartbeats 4000000 in
theorem kL_turn (l : Launch) (D : va_G) (cy : Nat → ClassId) {ad : Nat → Nat → Nat} (hI : cI ad) (hl0 : l.stackTraces = false) (g : Gd) (oo : Nat) (vo : Int64) (sz : Nat) (b : Int32) (hv : IvC g) : Met l yL_turn wsL_turn ({ frames := 8, cells := 2, slots := 12, locals := 126 } : Room) (va_Pc [.ref (ad 0 0), .int b, .ref oo] (oPre D cy ad g oo vo sz)) (oQ D cy ad (k13 (fX6_turn g b).1) (fX6_turn g b).2.2 oo (if (fX6_turn g b).1 = 0 then (fX6_turn g b).2.1.toInt64 else vo) sz) 2 12 (oA ad oo sz) := by
  refine va_MetW (cc := cL_turn) (maxL := 4) (ret := some .int) (hh := [(0, 9, 12, 21), (0, 9, 15, 15)]) (by decide) rfl ?_
  intro p e s m args below meth c s₁ B hml hv0
  obtain ⟨rfl, hsz, hO, hN, hB, hNc⟩ := hv0
  subst hsz
  have hx := B.exec
  have hb := B.bytes
  have hr := B.returns
  have hts := atoms_spec (ws := wsL_turn) B.pre
  have hown : s.vm.findClass RL = some m.cls := findClass_of_methodNamed B.named
  have hlocks := B.notSynchronized
  have htb : c.exceptionTable.toList = tableOf [(0, 9, 12, 21), (0, 9, 15, 15)] := vx_table (x := yL_turn) B (hts _ (List.mem_of_getElem? (i := 0) rfl))
  have hl := lv_entry ([.ref (ad 0 0), .int b, .ref oo]) (n := 4) (Nat.le_of_ble_eq_true rfl)
  rw [lg_entry_eq]
  generalize (lg_sl ([.ref (ad 0 0), .int b, .ref oo]) ++ List.replicate (4 - (lg_sl ([.ref (ad 0 0), .int b, .ref oo])).length) Slot.unset).toArray = ls at hl ⊢
  have hl : lv_has ls 4 [(0, .ref (ad 0 0)), (1, .int b), (2, .ref oo)] := hl
  show W p l e ({ frames := 8, cells := 2, slots := 12, locals := 126 } : Room) s m _ below meth c s.heap [] 0 0 _ _
  refine lv_aload_n hx hb dL_turn_0 rfl (lv_at hl 2 rfl) ?_
  refine lv_iconst (v := 0) hx hb dL_turn_1 (by decide) ?_
  refine lv_aload_n hx hb dL_turn_2 rfl (lv_at hl 0 rfl) ?_
  refine lv_iload_n hx hb dL_turn_3 rfl (lv_at hl 1 rfl) ?_
  refine o_callT (cd := (fX6_turn g b).1) (v := (fX6_turn g b).2.1) (g2 := (fX6_turn g b).2.2) (As := [.int b]) (rest := [.int 0, .ref oo]) ⟨hx, hb, hml, hown, hts⟩ (kX6_turn l D cy hI hl0 g _ b hv) (cwV 1 hts gL_turn_X6_turn rfl rfl rfl (by decide +kernel) ⟨Nat.le_of_ble_eq_true rfl, Nat.le_of_ble_eq_true rfl⟩) hB hO hN rfl hl.1 (Nat.le_of_ble_eq_true rfl) dL_turn_4 ⟨Nat.le_of_ble_eq_true rfl, Nat.le_of_ble_eq_true rfl⟩ (fun hcd H locs q9 ce hO hS h1 h2 h3 => ?_) (fun hcd H locs hO hS => ?_)
  · rcases cd_turn g b with hc | ⟨hc, hg⟩ | ⟨hc, hg⟩
    · exact absurd hc hcd
    · rw [hc] at h3
      refine vx_catch (own := RL) (name := "java/lang/IndexOutOfBoundsException") (E := "java/lang/IndexOutOfBoundsException") hown [] ⟨0, 9, 12, 21⟩ [⟨0, 9, 15, 15⟩] htb (fun z hz => absurd hz List.not_mem_nil) (by decide) (by decide) (hNc.2 _).2.2 (qB_use hB.2.1 (w := .castable "java/lang/IndexOutOfBoundsException" "java/lang/IndexOutOfBoundsException") (by decide) rfl) h1 h2 h3 ?_
      refine lv_astore_n (lv' := [(3, .ref q9), (0, .ref (ad 0 0)), (1, .int b), (2, .ref oo)]) hx hb dL_turn_12 rfl hl (by decide) rfl (fun ls hl => ?_)
      refine lv_iconst (v := 1) hx hb dL_turn_13 (by decide) ?_
      exact o_reti hx hb hr hO hS (by rw [hc]; decide) hg (by rw [hc]; rfl) hlocks dL_turn_14
    · rw [hc] at h3
      refine vx_catch (own := RL) (name := "java/lang/IllegalStateException") (E := "java/lang/IllegalStateException") hown [⟨0, 9, 12, 21⟩] ⟨0, 9, 15, 15⟩ [] htb (fun z hz => by rw [List.mem_singleton.mp hz]; exact Or.inr ⟨by decide, "java/lang/IndexOutOfBoundsException", (hNc.2 _).2.2, hNc.1.2.1⟩) (by decide) (by decide) (hNc.2 _).2.1 (qB_use hB.2.1 (w := .castable "java/lang/IllegalStateException" "java/lang/IllegalStateException") (by decide) rfl) h1 h2 h3 ?_
      refine lv_astore_n (lv' := [(3, .ref q9), (0, .ref (ad 0 0)), (1, .int b), (2, .ref oo)]) hx hb dL_turn_15 rfl hl (by decide) rfl (fun ls hl => ?_)
      refine lv_iconst (v := 2) hx hb dL_turn_16 (by decide) ?_
      exact o_reti hx hb hr hO hS (by rw [hc]; decide) hg (by rw [hc]; rfl) hlocks dL_turn_17
  · refine lv_i2l hx hb dL_turn_7 rfl ?_
    refine o_last hx hb hB hO hN hS dL_turn_8 (fun H locs hO hS => ?_)
    refine lv_goto (tgt := 18) hx hb dL_turn_9 (by decide) ?_
    refine lv_iconst (v := 0) hx hb dL_turn_18 (by decide) ?_
    exact o_reti hx hb hr hO hS (by rw [hcd]; rfl) rfl (by rw [hcd]; rfl) hlocks dL_turn_19
theorem cd_cover (g : Gd) (b : Int32) (on : Int32) : (fX6_cover g b on).1 = 0 ∨ ((fX6_cover g b on).1 = 1 ∧ (fX6_cover g b on).2.2 = g) := by
  unfold fX6_cover fX6_bedAt
  repeat' split
  all_goals first | (simp; done) | (simp_all; done)
set_option maxRecDepth 100000 in
set_option maxHeartbeats 4000000 in
theorem kL_cover (l : Launch) (D : va_G) (cy : Nat → ClassId) {ad : Nat → Nat → Nat} (hI : cI ad) (hl0 : l.stackTraces = false) (g : Gd) (oo : Nat) (vo : Int64) (sz : Nat) (b : Int32) (on : Int32) (hv : IvC g) (hon : on = 0 ∨ on = 1) : Met l yL_cover wsL_cover ({ frames := 8, cells := 1, slots := 6, locals := 127 } : Room) (va_Pc [.ref (ad 0 0), .int b, .int on, .ref oo] (oPre D cy ad g oo vo sz)) (oQ D cy ad (k12 (fX6_cover g b on).1) (fX6_cover g b on).2.2 oo (if (fX6_cover g b on).1 = 0 then (fX6_cover g b on).2.1.toInt64 else vo) sz) 1 6 (oA ad oo sz) := by
  refine va_MetW (cc := cL_cover) (maxL := 5) (ret := some .int) (hh := [(0, 17, 20, 21)]) (by decide) rfl ?_
  intro p e s m args below meth c s₁ B hml hv0
  obtain ⟨rfl, hsz, hO, hN, hB, hNc⟩ := hv0
  subst hsz
  have hx := B.exec
  have hb := B.bytes
  have hr := B.returns
  have hts := atoms_spec (ws := wsL_cover) B.pre
  have hown : s.vm.findClass RL = some m.cls := findClass_of_methodNamed B.named
  have hlocks := B.notSynchronized
  have htb : c.exceptionTable.toList = tableOf [(0, 17, 20, 21)] := vx_table (x := yL_cover) B (hts _ (List.mem_of_getElem? (i := 0) rfl))
  have hl := lv_entry ([.ref (ad 0 0), .int b, .int on, .ref oo]) (n := 5) (Nat.le_of_ble_eq_true rfl)
  rw [lg_entry_eq]
  generalize (lg_sl ([.ref (ad 0 0), .int b, .int on, .ref oo]) ++ List.replicate (5 - (lg_sl ([.ref (ad 0 0), .int b, .int on, .ref oo])).length) Slot.unset).toArray = ls at hl ⊢
  have hl : lv_has ls 5 [(0, .ref (ad 0 0)), (1, .int b), (2, .int on), (3, .ref oo)] := hl
  show W p l e ({ frames := 8, cells := 1, slots := 6, locals := 127 } : Room) s m _ below meth c s.heap [] 0 0 _ _
  refine lv_aload_n hx hb dL_cover_0 rfl (lv_at hl 3 rfl) ?_
  refine lv_iconst (v := 0) hx hb dL_cover_1 (by decide) ?_
  refine lv_aload_n hx hb dL_cover_2 rfl (lv_at hl 0 rfl) ?_
  refine lv_iload_n hx hb dL_cover_3 rfl (lv_at hl 1 rfl) ?_
  refine lv_iload_n hx hb dL_cover_4 rfl (lv_at hl 2 rfl) ?_
  refine o_callT (cd := (fX6_cover g b on).1) (v := (fX6_cover g b on).2.1) (g2 := (fX6_cover g b on).2.2) (As := [.int b, .int on]) (rest := [.int 0, .ref oo]) ⟨hx, hb, hml, hown, hts⟩ (kX6_cover l D cy hI hl0 g _ b on hv hon) (cwV 2 hts gL_cover_X6_cover rfl rfl rfl (by decide +kernel) ⟨Nat.le_of_ble_eq_true rfl, Nat.le_of_ble_eq_true rfl⟩) hB hO hN rfl hl.1 (Nat.le_of_ble_eq_true rfl) dL_cover_5 ⟨Nat.le_of_ble_eq_true rfl, Nat.le_of_ble_eq_true rfl⟩ (fun hcd H locs q9 ce hO hS h1 h2 h3 => ?_) (fun hcd H locs hO hS => ?_)
  · rcases cd_cover g b on with hc | ⟨hc, hg⟩
    · exact absurd hc hcd
    · rw [hc] at h3
      refine vx_catch (own := RL) (name := "java/lang/IndexOutOfBoundsException") (E := "java/lang/IndexOutOfBoundsException") hown [] ⟨0, 17, 20, 21⟩ [] htb (fun z hz => absurd hz List.not_mem_nil) (by decide) (by decide) (hNc.2 _).2.2 (qB_use hB.2.1 (w := .castable "java/lang/IndexOutOfBoundsException" "java/lang/IndexOutOfBoundsException") (by decide) rfl) h1 h2 h3 ?_
      refine lv_astore (lv' := [(4, .ref q9), (0, .ref (ad 0 0)), (1, .int b), (2, .int on), (3, .ref oo)]) hx hb dL_cover_20 hl (by decide) rfl (fun ls hl => ?_)
      refine lv_iconst (v := 1) hx hb dL_cover_22 (by decide) ?_
      exact o_reti hx hb hr hO hS (by rw [hc]; decide) hg (by rw [hc]; rfl) hlocks dL_cover_23
  · refine lv_if_eq (tgt := 15) hx hb dL_cover_8 (by decide) (fun hz => ?_) (fun hz => ?_)
    · refine lv_lconst (v := 0) hx hb dL_cover_15 (by decide) ?_
      refine o_last hx hb hB hO hN hS dL_cover_16 (fun H locs hO hS => ?_)
      refine lv_goto (tgt := 24) hx hb dL_cover_17 (by decide) ?_
      refine lv_iconst (v := 0) hx hb dL_cover_24 (by decide) ?_
      exact o_reti hx hb hr hO hS (by rw [hcd]; rfl) rfl (by rw [hcd, if_pos rfl, hz]; rfl) hlocks dL_cover_25
    · refine lv_lconst (v := 1) hx hb dL_cover_11 (by decide) ?_
      refine lv_goto (tgt := 16) hx hb dL_cover_12 (by decide) ?_
      refine o_last hx hb hB hO hN hS dL_cover_16 (fun H locs hO hS => ?_)
      refine lv_goto (tgt := 24) hx hb dL_cover_17 (by decide) ?_
      refine lv_iconst (v := 0) hx hb dL_cover_24 (by decide) ?_
      exact o_reti hx hb hr hO hS (by rw [hcd]; rfl) rfl (by rw [hcd, if_pos rfl, cover_b hv hz]; rfl) hlocks dL_cover_25
theorem cd_store (g : Gd) (b : Int32) : (fX6_store g b).1 = 0 ∨ ((fX6_store g b).1 = 1 ∧ (fX6_store g b).2.2 = g) ∨ ((fX6_store g b).1 = 3 ∧ (fX6_store g b).2.2 = g) := by
  unfold fX6_store fX6_bedAt
  repeat' split
  all_goals first | (simp; done) | (simp_all; done)
set_option maxRecDepth 100000 in
set_option maxHeartbeats 4000000 in
theorem kL_store (l : Launch) (D : va_G) (cy : Nat → ClassId) {ad : Nat → Nat → Nat} (hI : cI ad) (hl0 : l.stackTraces = false) (g : Gd) (oo : Nat) (vo : Int64) (sz : Nat) (b : Int32) (hv : IvC g) : Met l yL_store wsL_store ({ frames := 8, cells := 2, slots := 12, locals := 126 } : Room) (va_Pc [.ref (ad 0 0), .int b, .ref oo] (oPre D cy ad g oo vo sz)) (oQ D cy ad (k13 (fX6_store g b).1) (fX6_store g b).2.2 oo (if (fX6_store g b).1 = 0 then (fX6_store g b).2.1.toInt64 else vo) sz) 2 12 (oA ad oo sz) := by
  refine va_MetW (cc := cL_store) (maxL := 4) (ret := some .int) (hh := [(0, 9, 12, 21), (0, 9, 15, 15)]) (by decide) rfl ?_
  intro p e s m args below meth c s₁ B hml hv0
  obtain ⟨rfl, hsz, hO, hN, hB, hNc⟩ := hv0
  subst hsz
  have hx := B.exec
  have hb := B.bytes
  have hr := B.returns
  have hts := atoms_spec (ws := wsL_store) B.pre
  have hown : s.vm.findClass RL = some m.cls := findClass_of_methodNamed B.named
  have hlocks := B.notSynchronized
  have htb : c.exceptionTable.toList = tableOf [(0, 9, 12, 21), (0, 9, 15, 15)] := vx_table (x := yL_store) B (hts _ (List.mem_of_getElem? (i := 0) rfl))
  have hl := lv_entry ([.ref (ad 0 0), .int b, .ref oo]) (n := 4) (Nat.le_of_ble_eq_true rfl)
  rw [lg_entry_eq]
  generalize (lg_sl ([.ref (ad 0 0), .int b, .ref oo]) ++ List.replicate (4 - (lg_sl ([.ref (ad 0 0), .int b, .ref oo])).length) Slot.unset).toArray = ls at hl ⊢
  have hl : lv_has ls 4 [(0, .ref (ad 0 0)), (1, .int b), (2, .ref oo)] := hl
  show W p l e ({ frames := 8, cells := 2, slots := 12, locals := 126 } : Room) s m _ below meth c s.heap [] 0 0 _ _
  refine lv_aload_n hx hb dL_store_0 rfl (lv_at hl 2 rfl) ?_
  refine lv_iconst (v := 0) hx hb dL_store_1 (by decide) ?_
  refine lv_aload_n hx hb dL_store_2 rfl (lv_at hl 0 rfl) ?_
  refine lv_iload_n hx hb dL_store_3 rfl (lv_at hl 1 rfl) ?_
  refine o_callT (cd := (fX6_store g b).1) (v := (fX6_store g b).2.1) (g2 := (fX6_store g b).2.2) (As := [.int b]) (rest := [.int 0, .ref oo]) ⟨hx, hb, hml, hown, hts⟩ (kX6_store l D cy hI hl0 g _ b hv) (cwV 1 hts gL_store_X6_store rfl rfl rfl (by decide +kernel) ⟨Nat.le_of_ble_eq_true rfl, Nat.le_of_ble_eq_true rfl⟩) hB hO hN rfl hl.1 (Nat.le_of_ble_eq_true rfl) dL_store_4 ⟨Nat.le_of_ble_eq_true rfl, Nat.le_of_ble_eq_true rfl⟩ (fun hcd H locs q9 ce hO hS h1 h2 h3 => ?_) (fun hcd H locs hO hS => ?_)
  · rcases cd_store g b with hc | ⟨hc, hg⟩ | ⟨hc, hg⟩
    · exact absurd hc hcd
    · rw [hc] at h3
      refine vx_catch (own := RL) (name := "java/lang/IndexOutOfBoundsException") (E := "java/lang/IndexOutOfBoundsException") hown [] ⟨0, 9, 12, 21⟩ [⟨0, 9, 15, 15⟩] htb (fun z hz => absurd hz List.not_mem_nil) (by decide) (by decide) (hNc.2 _).2.2 (qB_use hB.2.1 (w := .castable "java/lang/IndexOutOfBoundsException" "java/lang/IndexOutOfBoundsException") (by decide) rfl) h1 h2 h3 ?_
      refine lv_astore_n (lv' := [(3, .ref q9), (0, .ref (ad 0 0)), (1, .int b), (2, .ref oo)]) hx hb dL_store_12 rfl hl (by decide) rfl (fun ls hl => ?_)
      refine lv_iconst (v := 1) hx hb dL_store_13 (by decide) ?_
      exact o_reti hx hb hr hO hS (by rw [hc]; decide) hg (by rw [hc]; rfl) hlocks dL_store_14
    · rw [hc] at h3
      refine vx_catch (own := RL) (name := "java/lang/IllegalStateException") (E := "java/lang/IllegalStateException") hown [⟨0, 9, 12, 21⟩] ⟨0, 9, 15, 15⟩ [] htb (fun z hz => by rw [List.mem_singleton.mp hz]; exact Or.inr ⟨by decide, "java/lang/IndexOutOfBoundsException", (hNc.2 _).2.2, hNc.1.2.1⟩) (by decide) (by decide) (hNc.2 _).2.1 (qB_use hB.2.1 (w := .castable "java/lang/IllegalStateException" "java/lang/IllegalStateException") (by decide) rfl) h1 h2 h3 ?_
      refine lv_astore_n (lv' := [(3, .ref q9), (0, .ref (ad 0 0)), (1, .int b), (2, .ref oo)]) hx hb dL_store_15 rfl hl (by decide) rfl (fun ls hl => ?_)
      refine lv_iconst (v := 2) hx hb dL_store_16 (by decide) ?_
      exact o_reti hx hb hr hO hS (by rw [hc]; decide) hg (by rw [hc]; rfl) hlocks dL_store_17
  · refine lv_i2l hx hb dL_store_7 rfl ?_
    refine o_last hx hb hB hO hN hS dL_store_8 (fun H locs hO hS => ?_)
    refine lv_goto (tgt := 18) hx hb dL_store_9 (by decide) ?_
    refine lv_iconst (v := 0) hx hb dL_store_18 (by decide) ?_
    exact o_reti hx hb hr hO hS (by rw [hcd]; rfl) rfl (by rw [hcd]; rfl) hlocks dL_store_19
theorem cd_bias (g : Gd) (x : Int32) (v : Int32) : (fX6_bias g x v).1 = 0 ∨ ((fX6_bias g x v).1 = 1 ∧ (fX6_bias g x v).2.2 = g) ∨ ((fX6_bias g x v).1 = 2 ∧ (fX6_bias g x v).2.2 = g) := by
  unfold fX6_bias fX6_needTaster
  repeat' split
  all_goals first | (simp; done) | (simp_all; done)
set_option maxRecDepth 100000 in
set_option maxHeartbeats 4000000 in
theorem kL_bias (l : Launch) (D : va_G) (cy : Nat → ClassId) {ad : Nat → Nat → Nat} (hI : cI ad) (hl0 : l.stackTraces = false) (g : Gd) (oo : Nat) (vo : Int64) (sz : Nat) (x : Int32) (v : Int32)  : Met l yL_bias wsL_bias ({ frames := 8, cells := 2, slots := 12, locals := 125 } : Room) (va_Pc [.ref (ad 0 0), .int x, .int v, .ref oo] (oPre D cy ad g oo vo sz)) (oQ D cy ad (k12 (fX6_bias g x v).1) (fX6_bias g x v).2.2 oo (if (fX6_bias g x v).1 = 0 then (fX6_bias g x v).2.1.toInt64 else vo) sz) 2 12 (oA ad oo sz) := by
  refine va_MetW (cc := cL_bias) (maxL := 5) (ret := some .int) (hh := [(0, 10, 13, 21), (0, 10, 17, 13)]) (by decide) rfl ?_
  intro p e s m args below meth c s₁ B hml hv0
  obtain ⟨rfl, hsz, hO, hN, hB, hNc⟩ := hv0
  subst hsz
  have hx := B.exec
  have hb := B.bytes
  have hr := B.returns
  have hts := atoms_spec (ws := wsL_bias) B.pre
  have hown : s.vm.findClass RL = some m.cls := findClass_of_methodNamed B.named
  have hlocks := B.notSynchronized
  have htb : c.exceptionTable.toList = tableOf [(0, 10, 13, 21), (0, 10, 17, 13)] := vx_table (x := yL_bias) B (hts _ (List.mem_of_getElem? (i := 0) rfl))
  have hl := lv_entry ([.ref (ad 0 0), .int x, .int v, .ref oo]) (n := 5) (Nat.le_of_ble_eq_true rfl)
  rw [lg_entry_eq]
  generalize (lg_sl ([.ref (ad 0 0), .int x, .int v, .ref oo]) ++ List.replicate (5 - (lg_sl ([.ref (ad 0 0), .int x, .int v, .ref oo])).length) Slot.unset).toArray = ls at hl ⊢
  have hl : lv_has ls 5 [(0, .ref (ad 0 0)), (1, .int x), (2, .int v), (3, .ref oo)] := hl
  show W p l e ({ frames := 8, cells := 2, slots := 12, locals := 125 } : Room) s m _ below meth c s.heap [] 0 0 _ _
  refine lv_aload_n hx hb dL_bias_0 rfl (lv_at hl 3 rfl) ?_
  refine lv_iconst (v := 0) hx hb dL_bias_1 (by decide) ?_
  refine lv_aload_n hx hb dL_bias_2 rfl (lv_at hl 0 rfl) ?_
  refine lv_iload_n hx hb dL_bias_3 rfl (lv_at hl 1 rfl) ?_
  refine lv_iload_n hx hb dL_bias_4 rfl (lv_at hl 2 rfl) ?_
  refine o_callT (cd := (fX6_bias g x v).1) (v := (fX6_bias g x v).2.1) (g2 := (fX6_bias g x v).2.2) (As := [.int x, .int v]) (rest := [.int 0, .ref oo]) ⟨hx, hb, hml, hown, hts⟩ (kX6_bias l D cy hI hl0 g _ x v ) (cwV 2 hts gL_bias_X6_bias rfl rfl rfl (by decide +kernel) ⟨Nat.le_of_ble_eq_true rfl, Nat.le_of_ble_eq_true rfl⟩) hB hO hN rfl hl.1 (Nat.le_of_ble_eq_true rfl) dL_bias_5 ⟨Nat.le_of_ble_eq_true rfl, Nat.le_of_ble_eq_true rfl⟩ (fun hcd H locs q9 ce hO hS h1 h2 h3 => ?_) (fun hcd H locs hO hS => ?_)
  · rcases cd_bias g x v with hc | ⟨hc, hg⟩ | ⟨hc, hg⟩
    · exact absurd hc hcd
    · rw [hc] at h3
      refine vx_catch (own := RL) (name := "java/lang/IndexOutOfBoundsException") (E := "java/lang/IndexOutOfBoundsException") hown [] ⟨0, 10, 13, 21⟩ [⟨0, 10, 17, 13⟩] htb (fun z hz => absurd hz List.not_mem_nil) (by decide) (by decide) (hNc.2 _).2.2 (qB_use hB.2.1 (w := .castable "java/lang/IndexOutOfBoundsException" "java/lang/IndexOutOfBoundsException") (by decide) rfl) h1 h2 h3 ?_
      refine lv_astore (lv' := [(4, .ref q9), (0, .ref (ad 0 0)), (1, .int x), (2, .int v), (3, .ref oo)]) hx hb dL_bias_13 hl (by decide) rfl (fun ls hl => ?_)
      refine lv_iconst (v := 1) hx hb dL_bias_15 (by decide) ?_
      exact o_reti hx hb hr hO hS (by rw [hc]; decide) hg (by rw [hc]; rfl) hlocks dL_bias_16
    · rw [hc] at h3
      refine vx_catch (own := RL) (name := "java/lang/IllegalArgumentException") (E := "java/lang/IllegalArgumentException") hown [⟨0, 10, 13, 21⟩] ⟨0, 10, 17, 13⟩ [] htb (fun z hz => by rw [List.mem_singleton.mp hz]; exact Or.inr ⟨by decide, "java/lang/IndexOutOfBoundsException", (hNc.2 _).2.2, hNc.1.1⟩) (by decide) (by decide) (hNc.2 _).1 (qB_use hB.2.1 (w := .castable "java/lang/IllegalArgumentException" "java/lang/IllegalArgumentException") (by decide) rfl) h1 h2 h3 ?_
      refine lv_astore (lv' := [(4, .ref q9), (0, .ref (ad 0 0)), (1, .int x), (2, .int v), (3, .ref oo)]) hx hb dL_bias_17 hl (by decide) rfl (fun ls hl => ?_)
      refine lv_iconst (v := 2) hx hb dL_bias_19 (by decide) ?_
      exact o_reti hx hb hr hO hS (by rw [hc]; decide) hg (by rw [hc]; rfl) hlocks dL_bias_20
  · refine lv_i2l hx hb dL_bias_8 rfl ?_
    refine o_last hx hb hB hO hN hS dL_bias_9 (fun H locs hO hS => ?_)
    refine lv_goto (tgt := 21) hx hb dL_bias_10 (by decide) ?_
    refine lv_iconst (v := 0) hx hb dL_bias_21 (by decide) ?_
    exact o_reti hx hb hr hO hS (by rw [hcd]; rfl) rfl (by rw [hcd]; rfl) hlocks dL_bias_22
theorem cd_cup (g : Gd) (x : Int32) (t : Int32) : (fX6_cup g x t).1 = 0 ∨ ((fX6_cup g x t).1 = 1 ∧ (fX6_cup g x t).2.2 = g) ∨ ((fX6_cup g x t).1 = 3 ∧ (fX6_cup g x t).2.2 = g) := by
  unfold fX6_cup fX6_lotAt fX6_needTaster
  repeat' split
  all_goals first | (simp; done) | (simp_all; done)
set_option maxRecDepth 100000 in
set_option maxHeartbeats 4000000 in
theorem kL_cup (l : Launch) (D : va_G) (cy : Nat → ClassId) {ad : Nat → Nat → Nat} (hI : cI ad) (hl0 : l.stackTraces = false) (g : Gd) (oo : Nat) (vo : Int64) (sz : Nat) (x : Int32) (t : Int32) (hv : IvC g) : Met l yL_cup wsL_cup ({ frames := 8, cells := 3, slots := 18, locals := 127 } : Room) (va_Pc [.ref (ad 0 0), .int x, .int t, .ref oo] (oPre D cy ad g oo vo sz)) (oQ D cy ad (k13 (fX6_cup g x t).1) (fX6_cup g x t).2.2 oo (if (fX6_cup g x t).1 = 0 then (fX6_cup g x t).2.1.toInt64 else vo) sz) 3 18 (oA ad oo sz) := by
  refine va_MetW (cc := cL_cup) (maxL := 5) (ret := some .int) (hh := [(0, 10, 13, 21), (0, 10, 17, 15)]) (by decide) rfl ?_
  intro p e s m args below meth c s₁ B hml hv0
  obtain ⟨rfl, hsz, hO, hN, hB, hNc⟩ := hv0
  subst hsz
  have hx := B.exec
  have hb := B.bytes
  have hr := B.returns
  have hts := atoms_spec (ws := wsL_cup) B.pre
  have hown : s.vm.findClass RL = some m.cls := findClass_of_methodNamed B.named
  have hlocks := B.notSynchronized
  have htb : c.exceptionTable.toList = tableOf [(0, 10, 13, 21), (0, 10, 17, 15)] := vx_table (x := yL_cup) B (hts _ (List.mem_of_getElem? (i := 0) rfl))
  have hl := lv_entry ([.ref (ad 0 0), .int x, .int t, .ref oo]) (n := 5) (Nat.le_of_ble_eq_true rfl)
  rw [lg_entry_eq]
  generalize (lg_sl ([.ref (ad 0 0), .int x, .int t, .ref oo]) ++ List.replicate (5 - (lg_sl ([.ref (ad 0 0), .int x, .int t, .ref oo])).length) Slot.unset).toArray = ls at hl ⊢
  have hl : lv_has ls 5 [(0, .ref (ad 0 0)), (1, .int x), (2, .int t), (3, .ref oo)] := hl
  show W p l e ({ frames := 8, cells := 3, slots := 18, locals := 127 } : Room) s m _ below meth c s.heap [] 0 0 _ _
  refine lv_aload_n hx hb dL_cup_0 rfl (lv_at hl 3 rfl) ?_
  refine lv_iconst (v := 0) hx hb dL_cup_1 (by decide) ?_
  refine lv_aload_n hx hb dL_cup_2 rfl (lv_at hl 0 rfl) ?_
  refine lv_iload_n hx hb dL_cup_3 rfl (lv_at hl 1 rfl) ?_
  refine lv_iload_n hx hb dL_cup_4 rfl (lv_at hl 2 rfl) ?_
  refine o_callT (cd := (fX6_cup g x t).1) (v := (fX6_cup g x t).2.1) (g2 := (fX6_cup g x t).2.2) (As := [.int x, .int t]) (rest := [.int 0, .ref oo]) ⟨hx, hb, hml, hown, hts⟩ (kX6_cup l D cy hI hl0 g _ x t hv) (cwV 2 hts gL_cup_X6_cup rfl rfl rfl (by decide +kernel) ⟨Nat.le_of_ble_eq_true rfl, Nat.le_of_ble_eq_true rfl⟩) hB hO hN rfl hl.1 (Nat.le_of_ble_eq_true rfl) dL_cup_5 ⟨Nat.le_of_ble_eq_true rfl, Nat.le_of_ble_eq_true rfl⟩ (fun hcd H locs q9 ce hO hS h1 h2 h3 => ?_) (fun hcd H locs hO hS => ?_)
  · rcases cd_cup g x t with hc | ⟨hc, hg⟩ | ⟨hc, hg⟩
    · exact absurd hc hcd
    · rw [hc] at h3
      refine vx_catch (own := RL) (name := "java/lang/IndexOutOfBoundsException") (E := "java/lang/IndexOutOfBoundsException") hown [] ⟨0, 10, 13, 21⟩ [⟨0, 10, 17, 15⟩] htb (fun z hz => absurd hz List.not_mem_nil) (by decide) (by decide) (hNc.2 _).2.2 (qB_use hB.2.1 (w := .castable "java/lang/IndexOutOfBoundsException" "java/lang/IndexOutOfBoundsException") (by decide) rfl) h1 h2 h3 ?_
      refine lv_astore (lv' := [(4, .ref q9), (0, .ref (ad 0 0)), (1, .int x), (2, .int t), (3, .ref oo)]) hx hb dL_cup_13 hl (by decide) rfl (fun ls hl => ?_)
      refine lv_iconst (v := 1) hx hb dL_cup_15 (by decide) ?_
      exact o_reti hx hb hr hO hS (by rw [hc]; decide) hg (by rw [hc]; rfl) hlocks dL_cup_16
    · rw [hc] at h3
      refine vx_catch (own := RL) (name := "java/lang/IllegalStateException") (E := "java/lang/IllegalStateException") hown [⟨0, 10, 13, 21⟩] ⟨0, 10, 17, 15⟩ [] htb (fun z hz => by rw [List.mem_singleton.mp hz]; exact Or.inr ⟨by decide, "java/lang/IndexOutOfBoundsException", (hNc.2 _).2.2, hNc.1.2.1⟩) (by decide) (by decide) (hNc.2 _).2.1 (qB_use hB.2.1 (w := .castable "java/lang/IllegalStateException" "java/lang/IllegalStateException") (by decide) rfl) h1 h2 h3 ?_
      refine lv_astore (lv' := [(4, .ref q9), (0, .ref (ad 0 0)), (1, .int x), (2, .int t), (3, .ref oo)]) hx hb dL_cup_17 hl (by decide) rfl (fun ls hl => ?_)
      refine lv_iconst (v := 2) hx hb dL_cup_19 (by decide) ?_
      exact o_reti hx hb hr hO hS (by rw [hc]; decide) hg (by rw [hc]; rfl) hlocks dL_cup_20
  · refine lv_i2l hx hb dL_cup_8 rfl ?_
    refine o_last hx hb hB hO hN hS dL_cup_9 (fun H locs hO hS => ?_)
    refine lv_goto (tgt := 21) hx hb dL_cup_10 (by decide) ?_
    refine lv_iconst (v := 0) hx hb dL_cup_21 (by decide) ?_
    exact o_reti hx hb hr hO hS (by rw [hcd]; rfl) rfl (by rw [hcd]; rfl) hlocks dL_cup_22
theorem cd_blend (g : Gd) (x : Int32) (o : Int32) : (fX6_blend g x o).1 = 0 ∨ ((fX6_blend g x o).1 = 1 ∧ (fX6_blend g x o).2.2 = g) ∨ ((fX6_blend g x o).1 = 2 ∧ (fX6_blend g x o).2.2 = g) ∨ ((fX6_blend g x o).1 = 3 ∧ (fX6_blend g x o).2.2 = g) := by
  unfold fX6_blend fX6_lotAt
  repeat' split
  all_goals first | (simp; done) | (simp_all; done)
set_option maxRecDepth 100000 in
set_option maxHeartbeats 4000000 in
theorem kL_blend (l : Launch) (D : va_G) (cy : Nat → ClassId) {ad : Nat → Nat → Nat} (hI : cI ad) (hl0 : l.stackTraces = false) (g : Gd) (oo : Nat) (vo : Int64) (sz : Nat) (x : Int32) (o : Int32) (hv : IvC g) : Met l yL_blend wsL_blend ({ frames := 8, cells := 3, slots := 18, locals := 127 } : Room) (va_Pc [.ref (ad 0 0), .int x, .int o, .ref oo] (oPre D cy ad g oo vo sz)) (oQ D cy ad (k12 (fX6_blend g x o).1) (fX6_blend g x o).2.2 oo (if (fX6_blend g x o).1 = 0 then (fX6_blend g x o).2.1.toInt64 else vo) sz) 3 18 (oA ad oo sz) := by
  refine va_MetW (cc := cL_blend) (maxL := 5) (ret := some .int) (hh := [(0, 10, 13, 21), (0, 10, 17, 13), (0, 10, 21, 15)]) (by decide) rfl ?_
  intro p e s m args below meth c s₁ B hml hv0
  obtain ⟨rfl, hsz, hO, hN, hB, hNc⟩ := hv0
  subst hsz
  have hx := B.exec
  have hb := B.bytes
  have hr := B.returns
  have hts := atoms_spec (ws := wsL_blend) B.pre
  have hown : s.vm.findClass RL = some m.cls := findClass_of_methodNamed B.named
  have hlocks := B.notSynchronized
  have htb : c.exceptionTable.toList = tableOf [(0, 10, 13, 21), (0, 10, 17, 13), (0, 10, 21, 15)] := vx_table (x := yL_blend) B (hts _ (List.mem_of_getElem? (i := 0) rfl))
  have hl := lv_entry ([.ref (ad 0 0), .int x, .int o, .ref oo]) (n := 5) (Nat.le_of_ble_eq_true rfl)
  rw [lg_entry_eq]
  generalize (lg_sl ([.ref (ad 0 0), .int x, .int o, .ref oo]) ++ List.replicate (5 - (lg_sl ([.ref (ad 0 0), .int x, .int o, .ref oo])).length) Slot.unset).toArray = ls at hl ⊢
  have hl : lv_has ls 5 [(0, .ref (ad 0 0)), (1, .int x), (2, .int o), (3, .ref oo)] := hl
  show W p l e ({ frames := 8, cells := 3, slots := 18, locals := 127 } : Room) s m _ below meth c s.heap [] 0 0 _ _
  refine lv_aload_n hx hb dL_blend_0 rfl (lv_at hl 3 rfl) ?_
  refine lv_iconst (v := 0) hx hb dL_blend_1 (by decide) ?_
  refine lv_aload_n hx hb dL_blend_2 rfl (lv_at hl 0 rfl) ?_
  refine lv_iload_n hx hb dL_blend_3 rfl (lv_at hl 1 rfl) ?_
  refine lv_iload_n hx hb dL_blend_4 rfl (lv_at hl 2 rfl) ?_
  refine o_callT (cd := (fX6_blend g x o).1) (v := (fX6_blend g x o).2.1) (g2 := (fX6_blend g x o).2.2) (As := [.int x, .int o]) (rest := [.int 0, .ref oo]) ⟨hx, hb, hml, hown, hts⟩ (kX6_blend l D cy hI hl0 g _ x o hv) (cwV 2 hts gL_blend_X6_blend rfl rfl rfl (by decide +kernel) ⟨Nat.le_of_ble_eq_true rfl, Nat.le_of_ble_eq_true rfl⟩) hB hO hN rfl hl.1 (Nat.le_of_ble_eq_true rfl) dL_blend_5 ⟨Nat.le_of_ble_eq_true rfl, Nat.le_of_ble_eq_true rfl⟩ (fun hcd H locs q9 ce hO hS h1 h2 h3 => ?_) (fun hcd H locs hO hS => ?_)
  · rcases cd_blend g x o with hc | ⟨hc, hg⟩ | ⟨hc, hg⟩ | ⟨hc, hg⟩
    · exact absurd hc hcd
    · rw [hc] at h3
      refine vx_catch (own := RL) (name := "java/lang/IndexOutOfBoundsException") (E := "java/lang/IndexOutOfBoundsException") hown [] ⟨0, 10, 13, 21⟩ [⟨0, 10, 17, 13⟩, ⟨0, 10, 21, 15⟩] htb (fun z hz => absurd hz List.not_mem_nil) (by decide) (by decide) (hNc.2 _).2.2 (qB_use hB.2.1 (w := .castable "java/lang/IndexOutOfBoundsException" "java/lang/IndexOutOfBoundsException") (by decide) rfl) h1 h2 h3 ?_
      refine lv_astore (lv' := [(4, .ref q9), (0, .ref (ad 0 0)), (1, .int x), (2, .int o), (3, .ref oo)]) hx hb dL_blend_13 hl (by decide) rfl (fun ls hl => ?_)
      refine lv_iconst (v := 1) hx hb dL_blend_15 (by decide) ?_
      exact o_reti hx hb hr hO hS (by rw [hc]; decide) hg (by rw [hc]; rfl) hlocks dL_blend_16
    · rw [hc] at h3
      refine vx_catch (own := RL) (name := "java/lang/IllegalArgumentException") (E := "java/lang/IllegalArgumentException") hown [⟨0, 10, 13, 21⟩] ⟨0, 10, 17, 13⟩ [⟨0, 10, 21, 15⟩] htb (fun z hz => by rw [List.mem_singleton.mp hz]; exact Or.inr ⟨by decide, "java/lang/IndexOutOfBoundsException", (hNc.2 _).2.2, hNc.1.1⟩) (by decide) (by decide) (hNc.2 _).1 (qB_use hB.2.1 (w := .castable "java/lang/IllegalArgumentException" "java/lang/IllegalArgumentException") (by decide) rfl) h1 h2 h3 ?_
      refine lv_astore (lv' := [(4, .ref q9), (0, .ref (ad 0 0)), (1, .int x), (2, .int o), (3, .ref oo)]) hx hb dL_blend_17 hl (by decide) rfl (fun ls hl => ?_)
      refine lv_iconst (v := 2) hx hb dL_blend_19 (by decide) ?_
      exact o_reti hx hb hr hO hS (by rw [hc]; decide) hg (by rw [hc]; rfl) hlocks dL_blend_20
    · rw [hc] at h3
      refine vx_catch (own := RL) (name := "java/lang/IllegalStateException") (E := "java/lang/IllegalStateException") hown [⟨0, 10, 13, 21⟩, ⟨0, 10, 17, 13⟩] ⟨0, 10, 21, 15⟩ [] htb (fun z hz => (List.mem_cons.mp hz).elim (fun hz => by rw [hz]; exact Or.inr ⟨by decide, "java/lang/IndexOutOfBoundsException", (hNc.2 _).2.2, hNc.1.2.1⟩) (fun hz => by rw [List.mem_singleton.mp hz]; exact Or.inr ⟨by decide, "java/lang/IllegalArgumentException", (hNc.2 _).1, hNc.1.2.2⟩)) (by decide) (by decide) (hNc.2 _).2.1 (qB_use hB.2.1 (w := .castable "java/lang/IllegalStateException" "java/lang/IllegalStateException") (by decide) rfl) h1 h2 h3 ?_
      refine lv_astore (lv' := [(4, .ref q9), (0, .ref (ad 0 0)), (1, .int x), (2, .int o), (3, .ref oo)]) hx hb dL_blend_21 hl (by decide) rfl (fun ls hl => ?_)
      refine lv_iconst (v := 3) hx hb dL_blend_23 (by decide) ?_
      exact o_reti hx hb hr hO hS (by rw [hc]; decide) hg (by rw [hc]; rfl) hlocks dL_blend_24
  · refine lv_i2l hx hb dL_blend_8 rfl ?_
    refine o_last hx hb hB hO hN hS dL_blend_9 (fun H locs hO hS => ?_)
    refine lv_goto (tgt := 25) hx hb dL_blend_10 (by decide) ?_
    refine lv_iconst (v := 0) hx hb dL_blend_25 (by decide) ?_
    exact o_reti hx hb hr hO hS (by rw [hcd]; rfl) rfl (by rw [hcd]; rfl) hlocks dL_blend_26
theorem cd_sell (g : Gd) (x : Int32) (pr : Int32) (lb : Int32) : (fX6_sell g x pr lb).1 = 0 ∨ ((fX6_sell g x pr lb).1 = 1 ∧ (fX6_sell g x pr lb).2.2 = g) ∨ ((fX6_sell g x pr lb).1 = 2 ∧ (fX6_sell g x pr lb).2.2 = g) ∨ ((fX6_sell g x pr lb).1 = 3 ∧ (fX6_sell g x pr lb).2.2 = g) := by
  unfold fX6_sell fX6_lotAt fX6_needSale
  repeat' split
  all_goals first | (simp; done) | (simp_all; done)
set_option maxRecDepth 100000 in
set_option maxHeartbeats 4000000 in
theorem kL_sell (l : Launch) (D : va_G) (cy : Nat → ClassId) {ad : Nat → Nat → Nat} (hI : cI ad) (hl0 : l.stackTraces = false) (g : Gd) (oo : Nat) (vo : Int64) (sz : Nat) (x : Int32) (pr : Int32) (lb : Int32) (hv : IvC g) : Met l yL_sell wsL_sell ({ frames := 8, cells := 2, slots := 12, locals := 131 } : Room) (va_Pc [.ref (ad 0 0), .int x, .int pr, .int lb, .ref oo] (oPre D cy ad g oo vo sz)) (oQ D cy ad (k12 (fX6_sell g x pr lb).1) (fX6_sell g x pr lb).2.2 oo (if (fX6_sell g x pr lb).1 = 0 then (fX6_sell g x pr lb).2.1.toInt64 else vo) sz) 2 12 (oA ad oo sz) := by
  refine va_MetW (cc := cL_sell) (maxL := 6) (ret := some .int) (hh := [(0, 12, 15, 21), (0, 12, 19, 13), (0, 12, 23, 15)]) (by decide) rfl ?_
  intro p e s m args below meth c s₁ B hml hv0
  obtain ⟨rfl, hsz, hO, hN, hB, hNc⟩ := hv0
  subst hsz
  have hx := B.exec
  have hb := B.bytes
  have hr := B.returns
  have hts := atoms_spec (ws := wsL_sell) B.pre
  have hown : s.vm.findClass RL = some m.cls := findClass_of_methodNamed B.named
  have hlocks := B.notSynchronized
  have htb : c.exceptionTable.toList = tableOf [(0, 12, 15, 21), (0, 12, 19, 13), (0, 12, 23, 15)] := vx_table (x := yL_sell) B (hts _ (List.mem_of_getElem? (i := 0) rfl))
  have hl := lv_entry ([.ref (ad 0 0), .int x, .int pr, .int lb, .ref oo]) (n := 6) (Nat.le_of_ble_eq_true rfl)
  rw [lg_entry_eq]
  generalize (lg_sl ([.ref (ad 0 0), .int x, .int pr, .int lb, .ref oo]) ++ List.replicate (6 - (lg_sl ([.ref (ad 0 0), .int x, .int pr, .int lb, .ref oo])).length) Slot.unset).toArray = ls at hl ⊢
  have hl : lv_has ls 6 [(0, .ref (ad 0 0)), (1, .int x), (2, .int pr), (3, .int lb), (4, .ref oo)] := hl
  show W p l e ({ frames := 8, cells := 2, slots := 12, locals := 131 } : Room) s m _ below meth c s.heap [] 0 0 _ _
  refine lv_aload hx hb dL_sell_0 (lv_at hl 4 rfl) ?_
  refine lv_iconst (v := 0) hx hb dL_sell_2 (by decide) ?_
  refine lv_aload_n hx hb dL_sell_3 rfl (lv_at hl 0 rfl) ?_
  refine lv_iload_n hx hb dL_sell_4 rfl (lv_at hl 1 rfl) ?_
  refine lv_iload_n hx hb dL_sell_5 rfl (lv_at hl 2 rfl) ?_
  refine lv_iload_n hx hb dL_sell_6 rfl (lv_at hl 3 rfl) ?_
  refine o_callT (cd := (fX6_sell g x pr lb).1) (v := (fX6_sell g x pr lb).2.1) (g2 := (fX6_sell g x pr lb).2.2) (As := [.int x, .int pr, .int lb]) (rest := [.int 0, .ref oo]) ⟨hx, hb, hml, hown, hts⟩ (kX6_sell l D cy hI hl0 g _ x pr lb hv) (cwV 3 hts gL_sell_X6_sell rfl rfl rfl (by decide +kernel) ⟨Nat.le_of_ble_eq_true rfl, Nat.le_of_ble_eq_true rfl⟩) hB hO hN rfl hl.1 (Nat.le_of_ble_eq_true rfl) dL_sell_7 ⟨Nat.le_of_ble_eq_true rfl, Nat.le_of_ble_eq_true rfl⟩ (fun hcd H locs q9 ce hO hS h1 h2 h3 => ?_) (fun hcd H locs hO hS => ?_)
  · rcases cd_sell g x pr lb with hc | ⟨hc, hg⟩ | ⟨hc, hg⟩ | ⟨hc, hg⟩
    · exact absurd hc hcd
    · rw [hc] at h3
      refine vx_catch (own := RL) (name := "java/lang/IndexOutOfBoundsException") (E := "java/lang/IndexOutOfBoundsException") hown [] ⟨0, 12, 15, 21⟩ [⟨0, 12, 19, 13⟩, ⟨0, 12, 23, 15⟩] htb (fun z hz => absurd hz List.not_mem_nil) (by decide) (by decide) (hNc.2 _).2.2 (qB_use hB.2.1 (w := .castable "java/lang/IndexOutOfBoundsException" "java/lang/IndexOutOfBoundsException") (by decide) rfl) h1 h2 h3 ?_
      refine lv_astore (lv' := [(5, .ref q9), (0, .ref (ad 0 0)), (1, .int x), (2, .int pr), (3, .int lb), (4, .ref oo)]) hx hb dL_sell_15 hl (by decide) rfl (fun ls hl => ?_)
      refine lv_iconst (v := 1) hx hb dL_sell_17 (by decide) ?_
      exact o_reti hx hb hr hO hS (by rw [hc]; decide) hg (by rw [hc]; rfl) hlocks dL_sell_18
    · rw [hc] at h3
      refine vx_catch (own := RL) (name := "java/lang/IllegalArgumentException") (E := "java/lang/IllegalArgumentException") hown [⟨0, 12, 15, 21⟩] ⟨0, 12, 19, 13⟩ [⟨0, 12, 23, 15⟩] htb (fun z hz => by rw [List.mem_singleton.mp hz]; exact Or.inr ⟨by decide, "java/lang/IndexOutOfBoundsException", (hNc.2 _).2.2, hNc.1.1⟩) (by decide) (by decide) (hNc.2 _).1 (qB_use hB.2.1 (w := .castable "java/lang/IllegalArgumentException" "java/lang/IllegalArgumentException") (by decide) rfl) h1 h2 h3 ?_
      refine lv_astore (lv' := [(5, .ref q9), (0, .ref (ad 0 0)), (1, .int x), (2, .int pr), (3, .int lb), (4, .ref oo)]) hx hb dL_sell_19 hl (by decide) rfl (fun ls hl => ?_)
      refine lv_iconst (v := 2) hx hb dL_sell_21 (by decide) ?_
      exact o_reti hx hb hr hO hS (by rw [hc]; decide) hg (by rw [hc]; rfl) hlocks dL_sell_22
    · rw [hc] at h3
      refine vx_catch (own := RL) (name := "java/lang/IllegalStateException") (E := "java/lang/IllegalStateException") hown [⟨0, 12, 15, 21⟩, ⟨0, 12, 19, 13⟩] ⟨0, 12, 23, 15⟩ [] htb (fun z hz => (List.mem_cons.mp hz).elim (fun hz => by rw [hz]; exact Or.inr ⟨by decide, "java/lang/IndexOutOfBoundsException", (hNc.2 _).2.2, hNc.1.2.1⟩) (fun hz => by rw [List.mem_singleton.mp hz]; exact Or.inr ⟨by decide, "java/lang/IllegalArgumentException", (hNc.2 _).1, hNc.1.2.2⟩)) (by decide) (by decide) (hNc.2 _).2.1 (qB_use hB.2.1 (w := .castable "java/lang/IllegalStateException" "java/lang/IllegalStateException") (by decide) rfl) h1 h2 h3 ?_
      refine lv_astore (lv' := [(5, .ref q9), (0, .ref (ad 0 0)), (1, .int x), (2, .int pr), (3, .int lb), (4, .ref oo)]) hx hb dL_sell_23 hl (by decide) rfl (fun ls hl => ?_)
      refine lv_iconst (v := 3) hx hb dL_sell_25 (by decide) ?_
      exact o_reti hx hb hr hO hS (by rw [hc]; decide) hg (by rw [hc]; rfl) hlocks dL_sell_26
  · refine lv_i2l hx hb dL_sell_10 rfl ?_
    refine o_last hx hb hB hO hN hS dL_sell_11 (fun H locs hO hS => ?_)
    refine lv_goto (tgt := 27) hx hb dL_sell_12 (by decide) ?_
    refine lv_iconst (v := 0) hx hb dL_sell_27 (by decide) ?_
    exact o_reti hx hb hr hO hS (by rw [hcd]; rfl) rfl (by rw [hcd]; rfl) hlocks dL_sell_28
theorem cd_ofFarm (g : Gd) (x : Int32) (w : Int32) : (fX6_ofFarm g x w).1 = 0 ∨ ((fX6_ofFarm g x w).1 = 1) ∨ ((fX6_ofFarm g x w).1 = 2) := by
  unfold fX6_ofFarm fX6_farmAt fX6_needFarm
  repeat' split
  all_goals first | (simp; done) | (simp_all; done)
set_option maxRecDepth 100000 in
set_option maxHeartbeats 4000000 in
theorem kL_ofFarm (l : Launch) (D : va_G) (cy : Nat → ClassId) {ad : Nat → Nat → Nat} (hI : cI ad) (hl0 : l.stackTraces = false) (g : Gd) (oo : Nat) (vo : Int64) (sz : Nat) (x : Int32) (w : Int32) (hv : IvC g) : Met l yL_ofFarm wsL_ofFarm ({ frames := 9, cells := 2, slots := 12, locals := 147 } : Room) (va_Pc [.ref (ad 0 0), .int x, .int w, .ref oo] (oPre D cy ad g oo vo sz)) (oQ D cy ad (k12 (fX6_ofFarm g x w).1) g oo (if (fX6_ofFarm g x w).1 = 0 then (fX6_ofFarm g x w).2.toInt64 else vo) sz) 2 12 (oA ad oo sz) := by
  refine va_MetW (cc := cL_ofFarm) (maxL := 5) (ret := some .int) (hh := [(0, 10, 13, 21), (0, 10, 17, 13)]) (by decide) rfl ?_
  intro p e s m args below meth c s₁ B hml hv0
  obtain ⟨rfl, hsz, hO, hN, hB, hNc⟩ := hv0
  subst hsz
  have hx := B.exec
  have hb := B.bytes
  have hr := B.returns
  have hts := atoms_spec (ws := wsL_ofFarm) B.pre
  have hown : s.vm.findClass RL = some m.cls := findClass_of_methodNamed B.named
  have hlocks := B.notSynchronized
  have htb : c.exceptionTable.toList = tableOf [(0, 10, 13, 21), (0, 10, 17, 13)] := vx_table (x := yL_ofFarm) B (hts _ (List.mem_of_getElem? (i := 0) rfl))
  have hl := lv_entry ([.ref (ad 0 0), .int x, .int w, .ref oo]) (n := 5) (Nat.le_of_ble_eq_true rfl)
  rw [lg_entry_eq]
  generalize (lg_sl ([.ref (ad 0 0), .int x, .int w, .ref oo]) ++ List.replicate (5 - (lg_sl ([.ref (ad 0 0), .int x, .int w, .ref oo])).length) Slot.unset).toArray = ls at hl ⊢
  have hl : lv_has ls 5 [(0, .ref (ad 0 0)), (1, .int x), (2, .int w), (3, .ref oo)] := hl
  show W p l e ({ frames := 9, cells := 2, slots := 12, locals := 147 } : Room) s m _ below meth c s.heap [] 0 0 _ _
  refine lv_aload_n hx hb dL_ofFarm_0 rfl (lv_at hl 3 rfl) ?_
  refine lv_iconst (v := 0) hx hb dL_ofFarm_1 (by decide) ?_
  refine lv_aload_n hx hb dL_ofFarm_2 rfl (lv_at hl 0 rfl) ?_
  refine lv_iload_n hx hb dL_ofFarm_3 rfl (lv_at hl 1 rfl) ?_
  refine lv_iload_n hx hb dL_ofFarm_4 rfl (lv_at hl 2 rfl) ?_
  refine o_callT (cd := (fX6_ofFarm g x w).1) (v := (fX6_ofFarm g x w).2) (g2 := g) (As := [.int x, .int w]) (rest := [.int 0, .ref oo]) ⟨hx, hb, hml, hown, hts⟩ (kX6_ofFarm l D cy hI hl0 g _ x w hv) (cwV 2 hts gL_ofFarm_X6_ofFarm rfl rfl rfl (by decide +kernel) ⟨Nat.le_of_ble_eq_true rfl, Nat.le_of_ble_eq_true rfl⟩) hB hO hN rfl hl.1 (Nat.le_of_ble_eq_true rfl) dL_ofFarm_5 ⟨Nat.le_of_ble_eq_true rfl, Nat.le_of_ble_eq_true rfl⟩ (fun hcd H locs q9 ce hO hS h1 h2 h3 => ?_) (fun hcd H locs hO hS => ?_)
  · rcases cd_ofFarm g x w with hc | hc | hc
    · exact absurd hc hcd
    · rw [hc] at h3
      refine vx_catch (own := RL) (name := "java/lang/IndexOutOfBoundsException") (E := "java/lang/IndexOutOfBoundsException") hown [] ⟨0, 10, 13, 21⟩ [⟨0, 10, 17, 13⟩] htb (fun z hz => absurd hz List.not_mem_nil) (by decide) (by decide) (hNc.2 _).2.2 (qB_use hB.2.1 (w := .castable "java/lang/IndexOutOfBoundsException" "java/lang/IndexOutOfBoundsException") (by decide) rfl) h1 h2 h3 ?_
      refine lv_astore (lv' := [(4, .ref q9), (0, .ref (ad 0 0)), (1, .int x), (2, .int w), (3, .ref oo)]) hx hb dL_ofFarm_13 hl (by decide) rfl (fun ls hl => ?_)
      refine lv_iconst (v := 1) hx hb dL_ofFarm_15 (by decide) ?_
      exact o_reti hx hb hr hO hS (by rw [hc]; decide) rfl (by rw [hc]; rfl) hlocks dL_ofFarm_16
    · rw [hc] at h3
      refine vx_catch (own := RL) (name := "java/lang/IllegalArgumentException") (E := "java/lang/IllegalArgumentException") hown [⟨0, 10, 13, 21⟩] ⟨0, 10, 17, 13⟩ [] htb (fun z hz => by rw [List.mem_singleton.mp hz]; exact Or.inr ⟨by decide, "java/lang/IndexOutOfBoundsException", (hNc.2 _).2.2, hNc.1.1⟩) (by decide) (by decide) (hNc.2 _).1 (qB_use hB.2.1 (w := .castable "java/lang/IllegalArgumentException" "java/lang/IllegalArgumentException") (by decide) rfl) h1 h2 h3 ?_
      refine lv_astore (lv' := [(4, .ref q9), (0, .ref (ad 0 0)), (1, .int x), (2, .int w), (3, .ref oo)]) hx hb dL_ofFarm_17 hl (by decide) rfl (fun ls hl => ?_)
      refine lv_iconst (v := 2) hx hb dL_ofFarm_19 (by decide) ?_
      exact o_reti hx hb hr hO hS (by rw [hc]; decide) rfl (by rw [hc]; rfl) hlocks dL_ofFarm_20
  · refine lv_i2l hx hb dL_ofFarm_8 rfl ?_
    refine o_last hx hb hB hO hN hS dL_ofFarm_9 (fun H locs hO hS => ?_)
    refine lv_goto (tgt := 21) hx hb dL_ofFarm_10 (by decide) ?_
    refine lv_iconst (v := 0) hx hb dL_ofFarm_21 (by decide) ?_
    exact o_reti hx hb hr hO hS (by rw [hcd]; rfl) rfl (by rw [hcd]; rfl) hlocks dL_ofFarm_22
theorem cd_ofBasket (g : Gd) (x : Int32) (w : Int32) : (fX6_ofBasket g x w).1 = 0 ∨ ((fX6_ofBasket g x w).1 = 1) ∨ ((fX6_ofBasket g x w).1 = 2) := by
  unfold fX6_ofBasket fX6_basketAt
  repeat' split
  all_goals first | (simp; done) | (simp_all; done)
set_option maxRecDepth 100000 in
set_option maxHeartbeats 4000000 in
theorem kL_ofBasket (l : Launch) (D : va_G) (cy : Nat → ClassId) {ad : Nat → Nat → Nat} (hI : cI ad) (hl0 : l.stackTraces = false) (g : Gd) (oo : Nat) (vo : Int64) (sz : Nat) (x : Int32) (w : Int32) (hv : IvC g) : Met l yL_ofBasket wsL_ofBasket ({ frames := 8, cells := 2, slots := 12, locals := 126 } : Room) (va_Pc [.ref (ad 0 0), .int x, .int w, .ref oo] (oPre D cy ad g oo vo sz)) (oQ D cy ad (k12 (fX6_ofBasket g x w).1) g oo (if (fX6_ofBasket g x w).1 = 0 then (fX6_ofBasket g x w).2.toInt64 else vo) sz) 2 12 (oA ad oo sz) := by
  refine va_MetW (cc := cL_ofBasket) (maxL := 5) (ret := some .int) (hh := [(0, 10, 13, 21), (0, 10, 17, 13)]) (by decide) rfl ?_
  intro p e s m args below meth c s₁ B hml hv0
  obtain ⟨rfl, hsz, hO, hN, hB, hNc⟩ := hv0
  subst hsz
  have hx := B.exec
  have hb := B.bytes
  have hr := B.returns
  have hts := atoms_spec (ws := wsL_ofBasket) B.pre
  have hown : s.vm.findClass RL = some m.cls := findClass_of_methodNamed B.named
  have hlocks := B.notSynchronized
  have htb : c.exceptionTable.toList = tableOf [(0, 10, 13, 21), (0, 10, 17, 13)] := vx_table (x := yL_ofBasket) B (hts _ (List.mem_of_getElem? (i := 0) rfl))
  have hl := lv_entry ([.ref (ad 0 0), .int x, .int w, .ref oo]) (n := 5) (Nat.le_of_ble_eq_true rfl)
  rw [lg_entry_eq]
  generalize (lg_sl ([.ref (ad 0 0), .int x, .int w, .ref oo]) ++ List.replicate (5 - (lg_sl ([.ref (ad 0 0), .int x, .int w, .ref oo])).length) Slot.unset).toArray = ls at hl ⊢
  have hl : lv_has ls 5 [(0, .ref (ad 0 0)), (1, .int x), (2, .int w), (3, .ref oo)] := hl
  show W p l e ({ frames := 8, cells := 2, slots := 12, locals := 126 } : Room) s m _ below meth c s.heap [] 0 0 _ _
  refine lv_aload_n hx hb dL_ofBasket_0 rfl (lv_at hl 3 rfl) ?_
  refine lv_iconst (v := 0) hx hb dL_ofBasket_1 (by decide) ?_
  refine lv_aload_n hx hb dL_ofBasket_2 rfl (lv_at hl 0 rfl) ?_
  refine lv_iload_n hx hb dL_ofBasket_3 rfl (lv_at hl 1 rfl) ?_
  refine lv_iload_n hx hb dL_ofBasket_4 rfl (lv_at hl 2 rfl) ?_
  refine o_callT (cd := (fX6_ofBasket g x w).1) (v := (fX6_ofBasket g x w).2) (g2 := g) (As := [.int x, .int w]) (rest := [.int 0, .ref oo]) ⟨hx, hb, hml, hown, hts⟩ (kX6_ofBasket l D cy hI hl0 g _ x w hv) (cwV 2 hts gL_ofBasket_X6_ofBasket rfl rfl rfl (by decide +kernel) ⟨Nat.le_of_ble_eq_true rfl, Nat.le_of_ble_eq_true rfl⟩) hB hO hN rfl hl.1 (Nat.le_of_ble_eq_true rfl) dL_ofBasket_5 ⟨Nat.le_of_ble_eq_true rfl, Nat.le_of_ble_eq_true rfl⟩ (fun hcd H locs q9 ce hO hS h1 h2 h3 => ?_) (fun hcd H locs hO hS => ?_)
  · rcases cd_ofBasket g x w with hc | hc | hc
    · exact absurd hc hcd
    · rw [hc] at h3
      refine vx_catch (own := RL) (name := "java/lang/IndexOutOfBoundsException") (E := "java/lang/IndexOutOfBoundsException") hown [] ⟨0, 10, 13, 21⟩ [⟨0, 10, 17, 13⟩] htb (fun z hz => absurd hz List.not_mem_nil) (by decide) (by decide) (hNc.2 _).2.2 (qB_use hB.2.1 (w := .castable "java/lang/IndexOutOfBoundsException" "java/lang/IndexOutOfBoundsException") (by decide) rfl) h1 h2 h3 ?_
      refine lv_astore (lv' := [(4, .ref q9), (0, .ref (ad 0 0)), (1, .int x), (2, .int w), (3, .ref oo)]) hx hb dL_ofBasket_13 hl (by decide) rfl (fun ls hl => ?_)
      refine lv_iconst (v := 1) hx hb dL_ofBasket_15 (by decide) ?_
      exact o_reti hx hb hr hO hS (by rw [hc]; decide) rfl (by rw [hc]; rfl) hlocks dL_ofBasket_16
    · rw [hc] at h3
      refine vx_catch (own := RL) (name := "java/lang/IllegalArgumentException") (E := "java/lang/IllegalArgumentException") hown [⟨0, 10, 13, 21⟩] ⟨0, 10, 17, 13⟩ [] htb (fun z hz => by rw [List.mem_singleton.mp hz]; exact Or.inr ⟨by decide, "java/lang/IndexOutOfBoundsException", (hNc.2 _).2.2, hNc.1.1⟩) (by decide) (by decide) (hNc.2 _).1 (qB_use hB.2.1 (w := .castable "java/lang/IllegalArgumentException" "java/lang/IllegalArgumentException") (by decide) rfl) h1 h2 h3 ?_
      refine lv_astore (lv' := [(4, .ref q9), (0, .ref (ad 0 0)), (1, .int x), (2, .int w), (3, .ref oo)]) hx hb dL_ofBasket_17 hl (by decide) rfl (fun ls hl => ?_)
      refine lv_iconst (v := 2) hx hb dL_ofBasket_19 (by decide) ?_
      exact o_reti hx hb hr hO hS (by rw [hc]; decide) rfl (by rw [hc]; rfl) hlocks dL_ofBasket_20
  · refine lv_i2l hx hb dL_ofBasket_8 rfl ?_
    refine o_last hx hb hB hO hN hS dL_ofBasket_9 (fun H locs hO hS => ?_)
    refine lv_goto (tgt := 21) hx hb dL_ofBasket_10 (by decide) ?_
    refine lv_iconst (v := 0) hx hb dL_ofBasket_21 (by decide) ?_
    exact o_reti hx hb hr hO hS (by rw [hcd]; rfl) rfl (by rw [hcd]; rfl) hlocks dL_ofBasket_22
theorem cd_ofTank (g : Gd) (x : Int32) (w : Int32) : (fX6_ofTank g x w).1 = 0 ∨ ((fX6_ofTank g x w).1 = 1) ∨ ((fX6_ofTank g x w).1 = 2) := by
  unfold fX6_ofTank fX6_tankAt
  repeat' split
  all_goals first | (simp; done) | (simp_all; done)
set_option maxRecDepth 100000 in
set_option maxHeartbeats 4000000 in
theorem kL_ofTank (l : Launch) (D : va_G) (cy : Nat → ClassId) {ad : Nat → Nat → Nat} (hI : cI ad) (hl0 : l.stackTraces = false) (g : Gd) (oo : Nat) (vo : Int64) (sz : Nat) (x : Int32) (w : Int32)  : Met l yL_ofTank wsL_ofTank ({ frames := 8, cells := 2, slots := 12, locals := 126 } : Room) (va_Pc [.ref (ad 0 0), .int x, .int w, .ref oo] (oPre D cy ad g oo vo sz)) (oQ D cy ad (k12 (fX6_ofTank g x w).1) g oo (if (fX6_ofTank g x w).1 = 0 then (fX6_ofTank g x w).2.toInt64 else vo) sz) 2 12 (oA ad oo sz) := by
  refine va_MetW (cc := cL_ofTank) (maxL := 5) (ret := some .int) (hh := [(0, 10, 13, 21), (0, 10, 17, 13)]) (by decide) rfl ?_
  intro p e s m args below meth c s₁ B hml hv0
  obtain ⟨rfl, hsz, hO, hN, hB, hNc⟩ := hv0
  subst hsz
  have hx := B.exec
  have hb := B.bytes
  have hr := B.returns
  have hts := atoms_spec (ws := wsL_ofTank) B.pre
  have hown : s.vm.findClass RL = some m.cls := findClass_of_methodNamed B.named
  have hlocks := B.notSynchronized
  have htb : c.exceptionTable.toList = tableOf [(0, 10, 13, 21), (0, 10, 17, 13)] := vx_table (x := yL_ofTank) B (hts _ (List.mem_of_getElem? (i := 0) rfl))
  have hl := lv_entry ([.ref (ad 0 0), .int x, .int w, .ref oo]) (n := 5) (Nat.le_of_ble_eq_true rfl)
  rw [lg_entry_eq]
  generalize (lg_sl ([.ref (ad 0 0), .int x, .int w, .ref oo]) ++ List.replicate (5 - (lg_sl ([.ref (ad 0 0), .int x, .int w, .ref oo])).length) Slot.unset).toArray = ls at hl ⊢
  have hl : lv_has ls 5 [(0, .ref (ad 0 0)), (1, .int x), (2, .int w), (3, .ref oo)] := hl
  show W p l e ({ frames := 8, cells := 2, slots := 12, locals := 126 } : Room) s m _ below meth c s.heap [] 0 0 _ _
  refine lv_aload_n hx hb dL_ofTank_0 rfl (lv_at hl 3 rfl) ?_
  refine lv_iconst (v := 0) hx hb dL_ofTank_1 (by decide) ?_
  refine lv_aload_n hx hb dL_ofTank_2 rfl (lv_at hl 0 rfl) ?_
  refine lv_iload_n hx hb dL_ofTank_3 rfl (lv_at hl 1 rfl) ?_
  refine lv_iload_n hx hb dL_ofTank_4 rfl (lv_at hl 2 rfl) ?_
  refine o_callT (cd := (fX6_ofTank g x w).1) (v := (fX6_ofTank g x w).2) (g2 := g) (As := [.int x, .int w]) (rest := [.int 0, .ref oo]) ⟨hx, hb, hml, hown, hts⟩ (kX6_ofTank l D cy hI hl0 g _ x w ) (cwV 2 hts gL_ofTank_X6_ofTank rfl rfl rfl (by decide +kernel) ⟨Nat.le_of_ble_eq_true rfl, Nat.le_of_ble_eq_true rfl⟩) hB hO hN rfl hl.1 (Nat.le_of_ble_eq_true rfl) dL_ofTank_5 ⟨Nat.le_of_ble_eq_true rfl, Nat.le_of_ble_eq_true rfl⟩ (fun hcd H locs q9 ce hO hS h1 h2 h3 => ?_) (fun hcd H locs hO hS => ?_)
  · rcases cd_ofTank g x w with hc | hc | hc
    · exact absurd hc hcd
    · rw [hc] at h3
      refine vx_catch (own := RL) (name := "java/lang/IndexOutOfBoundsException") (E := "java/lang/IndexOutOfBoundsException") hown [] ⟨0, 10, 13, 21⟩ [⟨0, 10, 17, 13⟩] htb (fun z hz => absurd hz List.not_mem_nil) (by decide) (by decide) (hNc.2 _).2.2 (qB_use hB.2.1 (w := .castable "java/lang/IndexOutOfBoundsException" "java/lang/IndexOutOfBoundsException") (by decide) rfl) h1 h2 h3 ?_
      refine lv_astore (lv' := [(4, .ref q9), (0, .ref (ad 0 0)), (1, .int x), (2, .int w), (3, .ref oo)]) hx hb dL_ofTank_13 hl (by decide) rfl (fun ls hl => ?_)
      refine lv_iconst (v := 1) hx hb dL_ofTank_15 (by decide) ?_
      exact o_reti hx hb hr hO hS (by rw [hc]; decide) rfl (by rw [hc]; rfl) hlocks dL_ofTank_16
    · rw [hc] at h3
      refine vx_catch (own := RL) (name := "java/lang/IllegalArgumentException") (E := "java/lang/IllegalArgumentException") hown [⟨0, 10, 13, 21⟩] ⟨0, 10, 17, 13⟩ [] htb (fun z hz => by rw [List.mem_singleton.mp hz]; exact Or.inr ⟨by decide, "java/lang/IndexOutOfBoundsException", (hNc.2 _).2.2, hNc.1.1⟩) (by decide) (by decide) (hNc.2 _).1 (qB_use hB.2.1 (w := .castable "java/lang/IllegalArgumentException" "java/lang/IllegalArgumentException") (by decide) rfl) h1 h2 h3 ?_
      refine lv_astore (lv' := [(4, .ref q9), (0, .ref (ad 0 0)), (1, .int x), (2, .int w), (3, .ref oo)]) hx hb dL_ofTank_17 hl (by decide) rfl (fun ls hl => ?_)
      refine lv_iconst (v := 2) hx hb dL_ofTank_19 (by decide) ?_
      exact o_reti hx hb hr hO hS (by rw [hc]; decide) rfl (by rw [hc]; rfl) hlocks dL_ofTank_20
  · refine lv_i2l hx hb dL_ofTank_8 rfl ?_
    refine o_last hx hb hB hO hN hS dL_ofTank_9 (fun H locs hO hS => ?_)
    refine lv_goto (tgt := 21) hx hb dL_ofTank_10 (by decide) ?_
    refine lv_iconst (v := 0) hx hb dL_ofTank_21 (by decide) ?_
    exact o_reti hx hb hr hO hS (by rw [hcd]; rfl) rfl (by rw [hcd]; rfl) hlocks dL_ofTank_22
theorem cd_ofBed (g : Gd) (x : Int32) (w : Int32) : (fX6_ofBed g x w).1 = 0 ∨ ((fX6_ofBed g x w).1 = 1) ∨ ((fX6_ofBed g x w).1 = 2) := by
  unfold fX6_ofBed fX6_bedAt
  repeat' split
  all_goals first | (simp; done) | (simp_all; done)
set_option maxRecDepth 100000 in
set_option maxHeartbeats 4000000 in
theorem kL_ofBed (l : Launch) (D : va_G) (cy : Nat → ClassId) {ad : Nat → Nat → Nat} (hI : cI ad) (hl0 : l.stackTraces = false) (g : Gd) (oo : Nat) (vo : Int64) (sz : Nat) (x : Int32) (w : Int32) (hv : IvC g) : Met l yL_ofBed wsL_ofBed ({ frames := 8, cells := 2, slots := 12, locals := 126 } : Room) (va_Pc [.ref (ad 0 0), .int x, .int w, .ref oo] (oPre D cy ad g oo vo sz)) (oQ D cy ad (k12 (fX6_ofBed g x w).1) g oo (if (fX6_ofBed g x w).1 = 0 then (fX6_ofBed g x w).2.toInt64 else vo) sz) 2 12 (oA ad oo sz) := by
  refine va_MetW (cc := cL_ofBed) (maxL := 5) (ret := some .int) (hh := [(0, 10, 13, 21), (0, 10, 17, 13)]) (by decide) rfl ?_
  intro p e s m args below meth c s₁ B hml hv0
  obtain ⟨rfl, hsz, hO, hN, hB, hNc⟩ := hv0
  subst hsz
  have hx := B.exec
  have hb := B.bytes
  have hr := B.returns
  have hts := atoms_spec (ws := wsL_ofBed) B.pre
  have hown : s.vm.findClass RL = some m.cls := findClass_of_methodNamed B.named
  have hlocks := B.notSynchronized
  have htb : c.exceptionTable.toList = tableOf [(0, 10, 13, 21), (0, 10, 17, 13)] := vx_table (x := yL_ofBed) B (hts _ (List.mem_of_getElem? (i := 0) rfl))
  have hl := lv_entry ([.ref (ad 0 0), .int x, .int w, .ref oo]) (n := 5) (Nat.le_of_ble_eq_true rfl)
  rw [lg_entry_eq]
  generalize (lg_sl ([.ref (ad 0 0), .int x, .int w, .ref oo]) ++ List.replicate (5 - (lg_sl ([.ref (ad 0 0), .int x, .int w, .ref oo])).length) Slot.unset).toArray = ls at hl ⊢
  have hl : lv_has ls 5 [(0, .ref (ad 0 0)), (1, .int x), (2, .int w), (3, .ref oo)] := hl
  show W p l e ({ frames := 8, cells := 2, slots := 12, locals := 126 } : Room) s m _ below meth c s.heap [] 0 0 _ _
  refine lv_aload_n hx hb dL_ofBed_0 rfl (lv_at hl 3 rfl) ?_
  refine lv_iconst (v := 0) hx hb dL_ofBed_1 (by decide) ?_
  refine lv_aload_n hx hb dL_ofBed_2 rfl (lv_at hl 0 rfl) ?_
  refine lv_iload_n hx hb dL_ofBed_3 rfl (lv_at hl 1 rfl) ?_
  refine lv_iload_n hx hb dL_ofBed_4 rfl (lv_at hl 2 rfl) ?_
  refine o_callT (cd := (fX6_ofBed g x w).1) (v := (fX6_ofBed g x w).2) (g2 := g) (As := [.int x, .int w]) (rest := [.int 0, .ref oo]) ⟨hx, hb, hml, hown, hts⟩ (kX6_ofBed l D cy hI hl0 g _ x w hv) (cwV 2 hts gL_ofBed_X6_ofBed rfl rfl rfl (by decide +kernel) ⟨Nat.le_of_ble_eq_true rfl, Nat.le_of_ble_eq_true rfl⟩) hB hO hN rfl hl.1 (Nat.le_of_ble_eq_true rfl) dL_ofBed_5 ⟨Nat.le_of_ble_eq_true rfl, Nat.le_of_ble_eq_true rfl⟩ (fun hcd H locs q9 ce hO hS h1 h2 h3 => ?_) (fun hcd H locs hO hS => ?_)
  · rcases cd_ofBed g x w with hc | hc | hc
    · exact absurd hc hcd
    · rw [hc] at h3
      refine vx_catch (own := RL) (name := "java/lang/IndexOutOfBoundsException") (E := "java/lang/IndexOutOfBoundsException") hown [] ⟨0, 10, 13, 21⟩ [⟨0, 10, 17, 13⟩] htb (fun z hz => absurd hz List.not_mem_nil) (by decide) (by decide) (hNc.2 _).2.2 (qB_use hB.2.1 (w := .castable "java/lang/IndexOutOfBoundsException" "java/lang/IndexOutOfBoundsException") (by decide) rfl) h1 h2 h3 ?_
      refine lv_astore (lv' := [(4, .ref q9), (0, .ref (ad 0 0)), (1, .int x), (2, .int w), (3, .ref oo)]) hx hb dL_ofBed_13 hl (by decide) rfl (fun ls hl => ?_)
      refine lv_iconst (v := 1) hx hb dL_ofBed_15 (by decide) ?_
      exact o_reti hx hb hr hO hS (by rw [hc]; decide) rfl (by rw [hc]; rfl) hlocks dL_ofBed_16
    · rw [hc] at h3
      refine vx_catch (own := RL) (name := "java/lang/IllegalArgumentException") (E := "java/lang/IllegalArgumentException") hown [⟨0, 10, 13, 21⟩] ⟨0, 10, 17, 13⟩ [] htb (fun z hz => by rw [List.mem_singleton.mp hz]; exact Or.inr ⟨by decide, "java/lang/IndexOutOfBoundsException", (hNc.2 _).2.2, hNc.1.1⟩) (by decide) (by decide) (hNc.2 _).1 (qB_use hB.2.1 (w := .castable "java/lang/IllegalArgumentException" "java/lang/IllegalArgumentException") (by decide) rfl) h1 h2 h3 ?_
      refine lv_astore (lv' := [(4, .ref q9), (0, .ref (ad 0 0)), (1, .int x), (2, .int w), (3, .ref oo)]) hx hb dL_ofBed_17 hl (by decide) rfl (fun ls hl => ?_)
      refine lv_iconst (v := 2) hx hb dL_ofBed_19 (by decide) ?_
      exact o_reti hx hb hr hO hS (by rw [hc]; decide) rfl (by rw [hc]; rfl) hlocks dL_ofBed_20
  · refine lv_i2l hx hb dL_ofBed_8 rfl ?_
    refine o_last hx hb hB hO hN hS dL_ofBed_9 (fun H locs hO hS => ?_)
    refine lv_goto (tgt := 21) hx hb dL_ofBed_10 (by decide) ?_
    refine lv_iconst (v := 0) hx hb dL_ofBed_21 (by decide) ?_
    exact o_reti hx hb hr hO hS (by rw [hcd]; rfl) rfl (by rw [hcd]; rfl) hlocks dL_ofBed_22
theorem cd_ofLot (g : Gd) (x : Int32) (w : Int32) : (fX6_ofLot g x w).1 = 0 ∨ ((fX6_ofLot g x w).1 = 1) ∨ ((fX6_ofLot g x w).1 = 2) := by
  unfold fX6_ofLot
  by_cases ha : fX6_lotAt g x = 0
  · rw [if_pos ha]
    by_cases h0 : w = 0
    · rw [if_pos h0]; exact Or.inl (by first | rfl | (split <;> rfl))
    rw [if_neg h0]
    by_cases h1 : w = 1
    · rw [if_pos h1]; exact Or.inl (by first | rfl | (split <;> rfl))
    rw [if_neg h1]
    by_cases h2 : w = 2
    · rw [if_pos h2]; exact Or.inl (by first | rfl | (split <;> rfl))
    rw [if_neg h2]
    by_cases h3 : w = 3
    · rw [if_pos h3]; exact Or.inl (by first | rfl | (split <;> rfl))
    rw [if_neg h3]
    by_cases h4 : w = 4
    · rw [if_pos h4]; exact Or.inl (by first | rfl | (split <;> rfl))
    rw [if_neg h4]
    by_cases h5 : w = 5
    · rw [if_pos h5]; exact Or.inl (by first | rfl | (split <;> rfl))
    rw [if_neg h5]
    by_cases h6 : w = 6
    · rw [if_pos h6]; exact Or.inl (by first | rfl | (split <;> rfl))
    rw [if_neg h6]
    by_cases h7 : w = 7
    · rw [if_pos h7]; exact Or.inl (by first | rfl | (split <;> rfl))
    rw [if_neg h7]
    by_cases h8 : w = 8
    · rw [if_pos h8]; exact Or.inl (by first | rfl | (split <;> rfl))
    rw [if_neg h8]
    by_cases h9 : w = 9
    · rw [if_pos h9]; exact Or.inl (by first | rfl | (split <;> rfl))
    rw [if_neg h9]
    by_cases h10 : w = 10
    · rw [if_pos h10]; exact Or.inl (by first | rfl | (split <;> rfl))
    rw [if_neg h10]
    by_cases h11 : w = 11
    · rw [if_pos h11]; exact Or.inl (by first | rfl | (split <;> rfl))
    rw [if_neg h11]
    exact Or.inr (Or.inr rfl)
  · rw [if_neg ha]
    refine Or.inr (Or.inl ?_)
    show fX6_lotAt g x = 1
    unfold fX6_lotAt at ha ⊢
    repeat' split at ha
    all_goals first | (exact absurd rfl ha) | (simp_all; done)
set_option maxRecDepth 100000 in
set_option maxHeartbeats 4000000 in
theorem kL_ofLot (l : Launch) (D : va_G) (cy : Nat → ClassId) {ad : Nat → Nat → Nat} (hI : cI ad) (hl0 : l.stackTraces = false) (g : Gd) (oo : Nat) (vo : Int64) (sz : Nat) (x : Int32) (w : Int32) (hv : IvC g) : Met l yL_ofLot wsL_ofLot ({ frames := 8, cells := 2, slots := 12, locals := 126 } : Room) (va_Pc [.ref (ad 0 0), .int x, .int w, .ref oo] (oPre D cy ad g oo vo sz)) (oQ D cy ad (k12 (fX6_ofLot g x w).1) g oo (if (fX6_ofLot g x w).1 = 0 then (fX6_ofLot g x w).2.toInt64 else vo) sz) 2 12 (oA ad oo sz) := by
  refine va_MetW (cc := cL_ofLot) (maxL := 5) (ret := some .int) (hh := [(0, 10, 13, 21), (0, 10, 17, 13)]) (by decide) rfl ?_
  intro p e s m args below meth c s₁ B hml hv0
  obtain ⟨rfl, hsz, hO, hN, hB, hNc⟩ := hv0
  subst hsz
  have hx := B.exec
  have hb := B.bytes
  have hr := B.returns
  have hts := atoms_spec (ws := wsL_ofLot) B.pre
  have hown : s.vm.findClass RL = some m.cls := findClass_of_methodNamed B.named
  have hlocks := B.notSynchronized
  have htb : c.exceptionTable.toList = tableOf [(0, 10, 13, 21), (0, 10, 17, 13)] := vx_table (x := yL_ofLot) B (hts _ (List.mem_of_getElem? (i := 0) rfl))
  have hl := lv_entry ([.ref (ad 0 0), .int x, .int w, .ref oo]) (n := 5) (Nat.le_of_ble_eq_true rfl)
  rw [lg_entry_eq]
  generalize (lg_sl ([.ref (ad 0 0), .int x, .int w, .ref oo]) ++ List.replicate (5 - (lg_sl ([.ref (ad 0 0), .int x, .int w, .ref oo])).length) Slot.unset).toArray = ls at hl ⊢
  have hl : lv_has ls 5 [(0, .ref (ad 0 0)), (1, .int x), (2, .int w), (3, .ref oo)] := hl
  show W p l e ({ frames := 8, cells := 2, slots := 12, locals := 126 } : Room) s m _ below meth c s.heap [] 0 0 _ _
  refine lv_aload_n hx hb dL_ofLot_0 rfl (lv_at hl 3 rfl) ?_
  refine lv_iconst (v := 0) hx hb dL_ofLot_1 (by decide) ?_
  refine lv_aload_n hx hb dL_ofLot_2 rfl (lv_at hl 0 rfl) ?_
  refine lv_iload_n hx hb dL_ofLot_3 rfl (lv_at hl 1 rfl) ?_
  refine lv_iload_n hx hb dL_ofLot_4 rfl (lv_at hl 2 rfl) ?_
  refine o_callT (cd := (fX6_ofLot g x w).1) (v := (fX6_ofLot g x w).2) (g2 := g) (As := [.int x, .int w]) (rest := [.int 0, .ref oo]) ⟨hx, hb, hml, hown, hts⟩ (kX6_ofLot l D cy hI hl0 g _ x w hv) (cwV 2 hts gL_ofLot_X6_ofLot rfl rfl rfl (by decide +kernel) ⟨Nat.le_of_ble_eq_true rfl, Nat.le_of_ble_eq_true rfl⟩) hB hO hN rfl hl.1 (Nat.le_of_ble_eq_true rfl) dL_ofLot_5 ⟨Nat.le_of_ble_eq_true rfl, Nat.le_of_ble_eq_true rfl⟩ (fun hcd H locs q9 ce hO hS h1 h2 h3 => ?_) (fun hcd H locs hO hS => ?_)
  · rcases cd_ofLot g x w with hc | hc | hc
    · exact absurd hc hcd
    · rw [hc] at h3
      refine vx_catch (own := RL) (name := "java/lang/IndexOutOfBoundsException") (E := "java/lang/IndexOutOfBoundsException") hown [] ⟨0, 10, 13, 21⟩ [⟨0, 10, 17, 13⟩] htb (fun z hz => absurd hz List.not_mem_nil) (by decide) (by decide) (hNc.2 _).2.2 (qB_use hB.2.1 (w := .castable "java/lang/IndexOutOfBoundsException" "java/lang/IndexOutOfBoundsException") (by decide) rfl) h1 h2 h3 ?_
      refine lv_astore (lv' := [(4, .ref q9), (0, .ref (ad 0 0)), (1, .int x), (2, .int w), (3, .ref oo)]) hx hb dL_ofLot_13 hl (by decide) rfl (fun ls hl => ?_)
      refine lv_iconst (v := 1) hx hb dL_ofLot_15 (by decide) ?_
      exact o_reti hx hb hr hO hS (by rw [hc]; decide) rfl (by rw [hc]; rfl) hlocks dL_ofLot_16
    · rw [hc] at h3
      refine vx_catch (own := RL) (name := "java/lang/IllegalArgumentException") (E := "java/lang/IllegalArgumentException") hown [⟨0, 10, 13, 21⟩] ⟨0, 10, 17, 13⟩ [] htb (fun z hz => by rw [List.mem_singleton.mp hz]; exact Or.inr ⟨by decide, "java/lang/IndexOutOfBoundsException", (hNc.2 _).2.2, hNc.1.1⟩) (by decide) (by decide) (hNc.2 _).1 (qB_use hB.2.1 (w := .castable "java/lang/IllegalArgumentException" "java/lang/IllegalArgumentException") (by decide) rfl) h1 h2 h3 ?_
      refine lv_astore (lv' := [(4, .ref q9), (0, .ref (ad 0 0)), (1, .int x), (2, .int w), (3, .ref oo)]) hx hb dL_ofLot_17 hl (by decide) rfl (fun ls hl => ?_)
      refine lv_iconst (v := 2) hx hb dL_ofLot_19 (by decide) ?_
      exact o_reti hx hb hr hO hS (by rw [hc]; decide) rfl (by rw [hc]; rfl) hlocks dL_ofLot_20
  · refine lv_i2l hx hb dL_ofLot_8 rfl ?_
    refine o_last hx hb hB hO hN hS dL_ofLot_9 (fun H locs hO hS => ?_)
    refine lv_goto (tgt := 21) hx hb dL_ofLot_10 (by decide) ?_
    refine lv_iconst (v := 0) hx hb dL_ofLot_21 (by decide) ?_
    exact o_reti hx hb hr hO hS (by rw [hcd]; rfl) rfl (by rw [hcd]; rfl) hlocks dL_ofLot_22
theorem cd_kilosOf (g : Gd) (x : Int32) (f : Int32) : (fX6_kilosOf g x f).1 = 0 ∨ ((fX6_kilosOf g x f).1 = 1) := by
  unfold fX6_kilosOf fX6_lotAt fX6_needFarm
  repeat' split
  all_goals first | (simp; done) | (simp_all; done)
set_option maxRecDepth 100000 in
set_option maxHeartbeats 4000000 in
theorem kL_kilosOf (l : Launch) (D : va_G) (cy : Nat → ClassId) {ad : Nat → Nat → Nat} (hI : cI ad) (hl0 : l.stackTraces = false) (g : Gd) (oo : Nat) (vo : Int64) (sz : Nat) (x : Int32) (f : Int32) (hv : IvC g) : Met l yL_kilosOf wsL_kilosOf ({ frames := 8, cells := 2, slots := 12, locals := 126 } : Room) (va_Pc [.ref (ad 0 0), .int x, .int f, .ref oo] (oPre D cy ad g oo vo sz)) (oQ D cy ad (k12 (fX6_kilosOf g x f).1) g oo (if (fX6_kilosOf g x f).1 = 0 then (fX6_kilosOf g x f).2.toInt64 else vo) sz) 2 12 (oA ad oo sz) := by
  refine va_MetW (cc := cL_kilosOf) (maxL := 5) (ret := some .int) (hh := [(0, 10, 13, 21)]) (by decide) rfl ?_
  intro p e s m args below meth c s₁ B hml hv0
  obtain ⟨rfl, hsz, hO, hN, hB, hNc⟩ := hv0
  subst hsz
  have hx := B.exec
  have hb := B.bytes
  have hr := B.returns
  have hts := atoms_spec (ws := wsL_kilosOf) B.pre
  have hown : s.vm.findClass RL = some m.cls := findClass_of_methodNamed B.named
  have hlocks := B.notSynchronized
  have htb : c.exceptionTable.toList = tableOf [(0, 10, 13, 21)] := vx_table (x := yL_kilosOf) B (hts _ (List.mem_of_getElem? (i := 0) rfl))
  have hl := lv_entry ([.ref (ad 0 0), .int x, .int f, .ref oo]) (n := 5) (Nat.le_of_ble_eq_true rfl)
  rw [lg_entry_eq]
  generalize (lg_sl ([.ref (ad 0 0), .int x, .int f, .ref oo]) ++ List.replicate (5 - (lg_sl ([.ref (ad 0 0), .int x, .int f, .ref oo])).length) Slot.unset).toArray = ls at hl ⊢
  have hl : lv_has ls 5 [(0, .ref (ad 0 0)), (1, .int x), (2, .int f), (3, .ref oo)] := hl
  show W p l e ({ frames := 8, cells := 2, slots := 12, locals := 126 } : Room) s m _ below meth c s.heap [] 0 0 _ _
  refine lv_aload_n hx hb dL_kilosOf_0 rfl (lv_at hl 3 rfl) ?_
  refine lv_iconst (v := 0) hx hb dL_kilosOf_1 (by decide) ?_
  refine lv_aload_n hx hb dL_kilosOf_2 rfl (lv_at hl 0 rfl) ?_
  refine lv_iload_n hx hb dL_kilosOf_3 rfl (lv_at hl 1 rfl) ?_
  refine lv_iload_n hx hb dL_kilosOf_4 rfl (lv_at hl 2 rfl) ?_
  refine o_callT (cd := (fX6_kilosOf g x f).1) (v := (fX6_kilosOf g x f).2) (g2 := g) (As := [.int x, .int f]) (rest := [.int 0, .ref oo]) ⟨hx, hb, hml, hown, hts⟩ (kX6_kilosOf l D cy hI hl0 g _ x f hv) (cwV 2 hts gL_kilosOf_X6_kilosOf rfl rfl rfl (by decide +kernel) ⟨Nat.le_of_ble_eq_true rfl, Nat.le_of_ble_eq_true rfl⟩) hB hO hN rfl hl.1 (Nat.le_of_ble_eq_true rfl) dL_kilosOf_5 ⟨Nat.le_of_ble_eq_true rfl, Nat.le_of_ble_eq_true rfl⟩ (fun hcd H locs q9 ce hO hS h1 h2 h3 => ?_) (fun hcd H locs hO hS => ?_)
  · rcases cd_kilosOf g x f with hc | hc
    · exact absurd hc hcd
    · rw [hc] at h3
      refine vx_catch (own := RL) (name := "java/lang/IndexOutOfBoundsException") (E := "java/lang/IndexOutOfBoundsException") hown [] ⟨0, 10, 13, 21⟩ [] htb (fun z hz => absurd hz List.not_mem_nil) (by decide) (by decide) (hNc.2 _).2.2 (qB_use hB.2.1 (w := .castable "java/lang/IndexOutOfBoundsException" "java/lang/IndexOutOfBoundsException") (by decide) rfl) h1 h2 h3 ?_
      refine lv_astore (lv' := [(4, .ref q9), (0, .ref (ad 0 0)), (1, .int x), (2, .int f), (3, .ref oo)]) hx hb dL_kilosOf_13 hl (by decide) rfl (fun ls hl => ?_)
      refine lv_iconst (v := 1) hx hb dL_kilosOf_15 (by decide) ?_
      exact o_reti hx hb hr hO hS (by rw [hc]; decide) rfl (by rw [hc]; rfl) hlocks dL_kilosOf_16
  · refine lv_i2l hx hb dL_kilosOf_8 rfl ?_
    refine o_last hx hb hB hO hN hS dL_kilosOf_9 (fun H locs hO hS => ?_)
    refine lv_goto (tgt := 17) hx hb dL_kilosOf_10 (by decide) ?_
    refine lv_iconst (v := 0) hx hb dL_kilosOf_17 (by decide) ?_
    exact o_reti hx hb hr hO hS (by rw [hcd]; rfl) rfl (by rw [hcd]; rfl) hlocks dL_kilosOf_18
theorem cd_many (g : Gd) (w : Int32) : (fX6_many g w).1 = 0 ∨ ((fX6_many g w).1 = 2) := by
  unfold fX6_many
  by_cases h0 : w = 0
  · rw [if_pos h0]; exact Or.inl (by first | rfl | (split <;> rfl))
  rw [if_neg h0]
  by_cases h1 : w = 1
  · rw [if_pos h1]; exact Or.inl (by first | rfl | (split <;> rfl))
  rw [if_neg h1]
  by_cases h2 : w = 2
  · rw [if_pos h2]; exact Or.inl (by first | rfl | (split <;> rfl))
  rw [if_neg h2]
  by_cases h3 : w = 3
  · rw [if_pos h3]; exact Or.inl (by first | rfl | (split <;> rfl))
  rw [if_neg h3]
  by_cases h4 : w = 4
  · rw [if_pos h4]; exact Or.inl (by first | rfl | (split <;> rfl))
  rw [if_neg h4]
  by_cases h5 : w = 5
  · rw [if_pos h5]; exact Or.inl (by first | rfl | (split <;> rfl))
  rw [if_neg h5]
  by_cases h6 : w = 6
  · rw [if_pos h6]; exact Or.inl (by first | rfl | (split <;> rfl))
  rw [if_neg h6]
  by_cases h7 : w = 7
  · rw [if_pos h7]; exact Or.inl (by first | rfl | (split <;> rfl))
  rw [if_neg h7]
  by_cases h8 : w = 8
  · rw [if_pos h8]; exact Or.inl (by first | rfl | (split <;> rfl))
  rw [if_neg h8]
  by_cases h9 : w = 9
  · rw [if_pos h9]; exact Or.inl (by first | rfl | (split <;> rfl))
  rw [if_neg h9]
  by_cases h10 : w = 10
  · rw [if_pos h10]; exact Or.inl (by first | rfl | (split <;> rfl))
  rw [if_neg h10]
  by_cases h11 : w = 11
  · rw [if_pos h11]; exact Or.inl (by first | rfl | (split <;> rfl))
  rw [if_neg h11]
  by_cases h12 : w = 12
  · rw [if_pos h12]; exact Or.inl (by first | rfl | (split <;> rfl))
  rw [if_neg h12]
  by_cases h13 : w = 13
  · rw [if_pos h13]; exact Or.inl (by first | rfl | (split <;> rfl))
  rw [if_neg h13]
  by_cases h14 : w = 14
  · rw [if_pos h14]; exact Or.inl (by first | rfl | (split <;> rfl))
  rw [if_neg h14]
  by_cases h15 : w = 15
  · rw [if_pos h15]; exact Or.inl (by first | rfl | (split <;> rfl))
  rw [if_neg h15]
  exact Or.inr rfl
set_option maxRecDepth 100000 in
set_option maxHeartbeats 4000000 in
theorem kL_many (l : Launch) (D : va_G) (cy : Nat → ClassId) {ad : Nat → Nat → Nat} (hI : cI ad) (hl0 : l.stackTraces = false) (g : Gd) (oo : Nat) (vo : Int64) (sz : Nat) (w : Int32) (hv : IvC g) : Met l yL_many wsL_many ({ frames := 7, cells := 1, slots := 6, locals := 103 } : Room) (va_Pc [.ref (ad 0 0), .int w, .ref oo] (oPre D cy ad g oo vo sz)) (oQ D cy ad (k23 (fX6_many g w).1) g oo (if (fX6_many g w).1 = 0 then (fX6_many g w).2.toInt64 else vo) sz) 1 6 (oA ad oo sz) := by
  refine va_MetW (cc := cL_many) (maxL := 4) (ret := some .int) (hh := [(0, 9, 12, 13)]) (by decide) rfl ?_
  intro p e s m args below meth c s₁ B hml hv0
  obtain ⟨rfl, hsz, hO, hN, hB, hNc⟩ := hv0
  subst hsz
  have hx := B.exec
  have hb := B.bytes
  have hr := B.returns
  have hts := atoms_spec (ws := wsL_many) B.pre
  have hown : s.vm.findClass RL = some m.cls := findClass_of_methodNamed B.named
  have hlocks := B.notSynchronized
  have htb : c.exceptionTable.toList = tableOf [(0, 9, 12, 13)] := vx_table (x := yL_many) B (hts _ (List.mem_of_getElem? (i := 0) rfl))
  have hl := lv_entry ([.ref (ad 0 0), .int w, .ref oo]) (n := 4) (Nat.le_of_ble_eq_true rfl)
  rw [lg_entry_eq]
  generalize (lg_sl ([.ref (ad 0 0), .int w, .ref oo]) ++ List.replicate (4 - (lg_sl ([.ref (ad 0 0), .int w, .ref oo])).length) Slot.unset).toArray = ls at hl ⊢
  have hl : lv_has ls 4 [(0, .ref (ad 0 0)), (1, .int w), (2, .ref oo)] := hl
  show W p l e ({ frames := 7, cells := 1, slots := 6, locals := 103 } : Room) s m _ below meth c s.heap [] 0 0 _ _
  refine lv_aload_n hx hb dL_many_0 rfl (lv_at hl 2 rfl) ?_
  refine lv_iconst (v := 0) hx hb dL_many_1 (by decide) ?_
  refine lv_aload_n hx hb dL_many_2 rfl (lv_at hl 0 rfl) ?_
  refine lv_iload_n hx hb dL_many_3 rfl (lv_at hl 1 rfl) ?_
  refine o_callT (cd := (fX6_many g w).1) (v := (fX6_many g w).2) (g2 := g) (As := [.int w]) (rest := [.int 0, .ref oo]) ⟨hx, hb, hml, hown, hts⟩ (kX6_many l D cy hI hl0 g _ w hv) (cwV 1 hts gL_many_X6_many rfl rfl rfl (by decide +kernel) ⟨Nat.le_of_ble_eq_true rfl, Nat.le_of_ble_eq_true rfl⟩) hB hO hN rfl hl.1 (Nat.le_of_ble_eq_true rfl) dL_many_4 ⟨Nat.le_of_ble_eq_true rfl, Nat.le_of_ble_eq_true rfl⟩ (fun hcd H locs q9 ce hO hS h1 h2 h3 => ?_) (fun hcd H locs hO hS => ?_)
  · rcases cd_many g w with hc | hc
    · exact absurd hc hcd
    · rw [hc] at h3
      refine vx_catch (own := RL) (name := "java/lang/IllegalArgumentException") (E := "java/lang/IllegalArgumentException") hown [] ⟨0, 9, 12, 13⟩ [] htb (fun z hz => absurd hz List.not_mem_nil) (by decide) (by decide) (hNc.2 _).1 (qB_use hB.2.1 (w := .castable "java/lang/IllegalArgumentException" "java/lang/IllegalArgumentException") (by decide) rfl) h1 h2 h3 ?_
      refine lv_astore_n (lv' := [(3, .ref q9), (0, .ref (ad 0 0)), (1, .int w), (2, .ref oo)]) hx hb dL_many_12 rfl hl (by decide) rfl (fun ls hl => ?_)
      refine lv_iconst (v := 1) hx hb dL_many_13 (by decide) ?_
      exact o_reti hx hb hr hO hS (by rw [hc]; decide) rfl (by rw [hc]; rfl) hlocks dL_many_14
  · refine lv_i2l hx hb dL_many_7 rfl ?_
    refine o_last hx hb hB hO hN hS dL_many_8 (fun H locs hO hS => ?_)
    refine lv_goto (tgt := 15) hx hb dL_many_9 (by decide) ?_
    refine lv_iconst (v := 0) hx hb dL_many_15 (by decide) ?_
    exact o_reti hx hb hr hO hS (by rw [hcd]; rfl) rfl (by rw [hcd]; rfl) hlocks dL_many_16
theorem cd_readyIn (g : Gd) (x : Int32) (wt : Int32) : (fX6_readyIn g x wt).1 = 0 ∨ ((fX6_readyIn g x wt).1 = 1) ∨ ((fX6_readyIn g x wt).1 = 2) := by
  have L : ∀ n k, (fX6_readyIn_L25 g x wt n k).1 = 0 := fun n k => readyIn_okL g x wt n k
  unfold fX6_readyIn fX6_tankAt fX6_needWarmth
  repeat' split
  all_goals first | (simp_all; done) | (left; exact L _ _)
set_option maxRecDepth 100000 in
set_option maxHeartbeats 4000000 in
theorem kL_readyIn (l : Launch) (D : va_G) (cy : Nat → ClassId) {ad : Nat → Nat → Nat} (hI : cI ad) (hl0 : l.stackTraces = false) (g : Gd) (oo : Nat) (vo : Int64) (sz : Nat) (x : Int32) (wt : Int32)  : Met l yL_readyIn wsL_readyIn ({ frames := 8, cells := 2, slots := 12, locals := 127 } : Room) (va_Pc [.ref (ad 0 0), .int x, .int wt, .ref oo] (oPre D cy ad g oo vo sz)) (oQ D cy ad (k12 (fX6_readyIn g x wt).1) g oo (if (fX6_readyIn g x wt).1 = 0 then (fX6_readyIn g x wt).2.toInt64 else vo) sz) 2 12 (oA ad oo sz) := by
  refine va_MetW (cc := cL_readyIn) (maxL := 5) (ret := some .int) (hh := [(0, 10, 13, 21), (0, 10, 17, 13)]) (by decide) rfl ?_
  intro p e s m args below meth c s₁ B hml hv0
  obtain ⟨rfl, hsz, hO, hN, hB, hNc⟩ := hv0
  subst hsz
  have hx := B.exec
  have hb := B.bytes
  have hr := B.returns
  have hts := atoms_spec (ws := wsL_readyIn) B.pre
  have hown : s.vm.findClass RL = some m.cls := findClass_of_methodNamed B.named
  have hlocks := B.notSynchronized
  have htb : c.exceptionTable.toList = tableOf [(0, 10, 13, 21), (0, 10, 17, 13)] := vx_table (x := yL_readyIn) B (hts _ (List.mem_of_getElem? (i := 0) rfl))
  have hl := lv_entry ([.ref (ad 0 0), .int x, .int wt, .ref oo]) (n := 5) (Nat.le_of_ble_eq_true rfl)
  rw [lg_entry_eq]
  generalize (lg_sl ([.ref (ad 0 0), .int x, .int wt, .ref oo]) ++ List.replicate (5 - (lg_sl ([.ref (ad 0 0), .int x, .int wt, .ref oo])).length) Slot.unset).toArray = ls at hl ⊢
  have hl : lv_has ls 5 [(0, .ref (ad 0 0)), (1, .int x), (2, .int wt), (3, .ref oo)] := hl
  show W p l e ({ frames := 8, cells := 2, slots := 12, locals := 127 } : Room) s m _ below meth c s.heap [] 0 0 _ _
  refine lv_aload_n hx hb dL_readyIn_0 rfl (lv_at hl 3 rfl) ?_
  refine lv_iconst (v := 0) hx hb dL_readyIn_1 (by decide) ?_
  refine lv_aload_n hx hb dL_readyIn_2 rfl (lv_at hl 0 rfl) ?_
  refine lv_iload_n hx hb dL_readyIn_3 rfl (lv_at hl 1 rfl) ?_
  refine lv_iload_n hx hb dL_readyIn_4 rfl (lv_at hl 2 rfl) ?_
  refine o_callT (cd := (fX6_readyIn g x wt).1) (v := (fX6_readyIn g x wt).2) (g2 := g) (As := [.int x, .int wt]) (rest := [.int 0, .ref oo]) ⟨hx, hb, hml, hown, hts⟩ (kX6_readyIn l D cy hI hl0 g _ x wt ) (cwV 2 hts gL_readyIn_X6_readyIn rfl rfl rfl (by decide +kernel) ⟨Nat.le_of_ble_eq_true rfl, Nat.le_of_ble_eq_true rfl⟩) hB hO hN rfl hl.1 (Nat.le_of_ble_eq_true rfl) dL_readyIn_5 ⟨Nat.le_of_ble_eq_true rfl, Nat.le_of_ble_eq_true rfl⟩ (fun hcd H locs q9 ce hO hS h1 h2 h3 => ?_) (fun hcd H locs hO hS => ?_)
  · rcases cd_readyIn g x wt with hc | hc | hc
    · exact absurd hc hcd
    · rw [hc] at h3
      refine vx_catch (own := RL) (name := "java/lang/IndexOutOfBoundsException") (E := "java/lang/IndexOutOfBoundsException") hown [] ⟨0, 10, 13, 21⟩ [⟨0, 10, 17, 13⟩] htb (fun z hz => absurd hz List.not_mem_nil) (by decide) (by decide) (hNc.2 _).2.2 (qB_use hB.2.1 (w := .castable "java/lang/IndexOutOfBoundsException" "java/lang/IndexOutOfBoundsException") (by decide) rfl) h1 h2 h3 ?_
      refine lv_astore (lv' := [(4, .ref q9), (0, .ref (ad 0 0)), (1, .int x), (2, .int wt), (3, .ref oo)]) hx hb dL_readyIn_13 hl (by decide) rfl (fun ls hl => ?_)
      refine lv_iconst (v := 1) hx hb dL_readyIn_15 (by decide) ?_
      exact o_reti hx hb hr hO hS (by rw [hc]; decide) rfl (by rw [hc]; rfl) hlocks dL_readyIn_16
    · rw [hc] at h3
      refine vx_catch (own := RL) (name := "java/lang/IllegalArgumentException") (E := "java/lang/IllegalArgumentException") hown [⟨0, 10, 13, 21⟩] ⟨0, 10, 17, 13⟩ [] htb (fun z hz => by rw [List.mem_singleton.mp hz]; exact Or.inr ⟨by decide, "java/lang/IndexOutOfBoundsException", (hNc.2 _).2.2, hNc.1.1⟩) (by decide) (by decide) (hNc.2 _).1 (qB_use hB.2.1 (w := .castable "java/lang/IllegalArgumentException" "java/lang/IllegalArgumentException") (by decide) rfl) h1 h2 h3 ?_
      refine lv_astore (lv' := [(4, .ref q9), (0, .ref (ad 0 0)), (1, .int x), (2, .int wt), (3, .ref oo)]) hx hb dL_readyIn_17 hl (by decide) rfl (fun ls hl => ?_)
      refine lv_iconst (v := 2) hx hb dL_readyIn_19 (by decide) ?_
      exact o_reti hx hb hr hO hS (by rw [hc]; decide) rfl (by rw [hc]; rfl) hlocks dL_readyIn_20
  · refine lv_i2l hx hb dL_readyIn_8 rfl ?_
    refine o_last hx hb hB hO hN hS dL_readyIn_9 (fun H locs hO hS => ?_)
    refine lv_goto (tgt := 21) hx hb dL_readyIn_10 (by decide) ?_
    refine lv_iconst (v := 0) hx hb dL_readyIn_21 (by decide) ?_
    exact o_reti hx hb hr hO hS (by rw [hcd]; rfl) rfl (by rw [hcd]; rfl) hlocks dL_readyIn_22
theorem cd_dryIn (g : Gd) (x : Int32) (wt : Int32) : (fX6_dryIn g x wt).1 = 0 ∨ ((fX6_dryIn g x wt).1 = 1) ∨ ((fX6_dryIn g x wt).1 = 2) := by
  have L : ∀ n k mo, (fX6_dryIn_L31 g x wt n k mo).1 = 0 := fun n k mo => dryIn_okL g x wt n k mo
  unfold fX6_dryIn fX6_bedAt fX6_needWarmth
  repeat' split
  all_goals first | (simp_all; done) | (left; exact L _ _ _)
set_option maxRecDepth 100000 in
set_option maxHeartbeats 4000000 in
theorem kL_dryIn (l : Launch) (D : va_G) (cy : Nat → ClassId) {ad : Nat → Nat → Nat} (hI : cI ad) (hl0 : l.stackTraces = false) (g : Gd) (oo : Nat) (vo : Int64) (sz : Nat) (x : Int32) (wt : Int32) (hv : IvC g) : Met l yL_dryIn wsL_dryIn ({ frames := 8, cells := 2, slots := 12, locals := 128 } : Room) (va_Pc [.ref (ad 0 0), .int x, .int wt, .ref oo] (oPre D cy ad g oo vo sz)) (oQ D cy ad (k12 (fX6_dryIn g x wt).1) g oo (if (fX6_dryIn g x wt).1 = 0 then (fX6_dryIn g x wt).2.toInt64 else vo) sz) 2 12 (oA ad oo sz) := by
  refine va_MetW (cc := cL_dryIn) (maxL := 5) (ret := some .int) (hh := [(0, 10, 13, 21), (0, 10, 17, 13)]) (by decide) rfl ?_
  intro p e s m args below meth c s₁ B hml hv0
  obtain ⟨rfl, hsz, hO, hN, hB, hNc⟩ := hv0
  subst hsz
  have hx := B.exec
  have hb := B.bytes
  have hr := B.returns
  have hts := atoms_spec (ws := wsL_dryIn) B.pre
  have hown : s.vm.findClass RL = some m.cls := findClass_of_methodNamed B.named
  have hlocks := B.notSynchronized
  have htb : c.exceptionTable.toList = tableOf [(0, 10, 13, 21), (0, 10, 17, 13)] := vx_table (x := yL_dryIn) B (hts _ (List.mem_of_getElem? (i := 0) rfl))
  have hl := lv_entry ([.ref (ad 0 0), .int x, .int wt, .ref oo]) (n := 5) (Nat.le_of_ble_eq_true rfl)
  rw [lg_entry_eq]
  generalize (lg_sl ([.ref (ad 0 0), .int x, .int wt, .ref oo]) ++ List.replicate (5 - (lg_sl ([.ref (ad 0 0), .int x, .int wt, .ref oo])).length) Slot.unset).toArray = ls at hl ⊢
  have hl : lv_has ls 5 [(0, .ref (ad 0 0)), (1, .int x), (2, .int wt), (3, .ref oo)] := hl
  show W p l e ({ frames := 8, cells := 2, slots := 12, locals := 128 } : Room) s m _ below meth c s.heap [] 0 0 _ _
  refine lv_aload_n hx hb dL_dryIn_0 rfl (lv_at hl 3 rfl) ?_
  refine lv_iconst (v := 0) hx hb dL_dryIn_1 (by decide) ?_
  refine lv_aload_n hx hb dL_dryIn_2 rfl (lv_at hl 0 rfl) ?_
  refine lv_iload_n hx hb dL_dryIn_3 rfl (lv_at hl 1 rfl) ?_
  refine lv_iload_n hx hb dL_dryIn_4 rfl (lv_at hl 2 rfl) ?_
  refine o_callT (cd := (fX6_dryIn g x wt).1) (v := (fX6_dryIn g x wt).2) (g2 := g) (As := [.int x, .int wt]) (rest := [.int 0, .ref oo]) ⟨hx, hb, hml, hown, hts⟩ (kX6_dryIn l D cy hI hl0 g _ x wt hv) (cwV 2 hts gL_dryIn_X6_dryIn rfl rfl rfl (by decide +kernel) ⟨Nat.le_of_ble_eq_true rfl, Nat.le_of_ble_eq_true rfl⟩) hB hO hN rfl hl.1 (Nat.le_of_ble_eq_true rfl) dL_dryIn_5 ⟨Nat.le_of_ble_eq_true rfl, Nat.le_of_ble_eq_true rfl⟩ (fun hcd H locs q9 ce hO hS h1 h2 h3 => ?_) (fun hcd H locs hO hS => ?_)
  · rcases cd_dryIn g x wt with hc | hc | hc
    · exact absurd hc hcd
    · rw [hc] at h3
      refine vx_catch (own := RL) (name := "java/lang/IndexOutOfBoundsException") (E := "java/lang/IndexOutOfBoundsException") hown [] ⟨0, 10, 13, 21⟩ [⟨0, 10, 17, 13⟩] htb (fun z hz => absurd hz List.not_mem_nil) (by decide) (by decide) (hNc.2 _).2.2 (qB_use hB.2.1 (w := .castable "java/lang/IndexOutOfBoundsException" "java/lang/IndexOutOfBoundsException") (by decide) rfl) h1 h2 h3 ?_
      refine lv_astore (lv' := [(4, .ref q9), (0, .ref (ad 0 0)), (1, .int x), (2, .int wt), (3, .ref oo)]) hx hb dL_dryIn_13 hl (by decide) rfl (fun ls hl => ?_)
      refine lv_iconst (v := 1) hx hb dL_dryIn_15 (by decide) ?_
      exact o_reti hx hb hr hO hS (by rw [hc]; decide) rfl (by rw [hc]; rfl) hlocks dL_dryIn_16
    · rw [hc] at h3
      refine vx_catch (own := RL) (name := "java/lang/IllegalArgumentException") (E := "java/lang/IllegalArgumentException") hown [⟨0, 10, 13, 21⟩] ⟨0, 10, 17, 13⟩ [] htb (fun z hz => by rw [List.mem_singleton.mp hz]; exact Or.inr ⟨by decide, "java/lang/IndexOutOfBoundsException", (hNc.2 _).2.2, hNc.1.1⟩) (by decide) (by decide) (hNc.2 _).1 (qB_use hB.2.1 (w := .castable "java/lang/IllegalArgumentException" "java/lang/IllegalArgumentException") (by decide) rfl) h1 h2 h3 ?_
      refine lv_astore (lv' := [(4, .ref q9), (0, .ref (ad 0 0)), (1, .int x), (2, .int wt), (3, .ref oo)]) hx hb dL_dryIn_17 hl (by decide) rfl (fun ls hl => ?_)
      refine lv_iconst (v := 2) hx hb dL_dryIn_19 (by decide) ?_
      exact o_reti hx hb hr hO hS (by rw [hc]; decide) rfl (by rw [hc]; rfl) hlocks dL_dryIn_20
  · refine lv_i2l hx hb dL_dryIn_8 rfl ?_
    refine o_last hx hb hB hO hN hS dL_dryIn_9 (fun H locs hO hS => ?_)
    refine lv_goto (tgt := 21) hx hb dL_dryIn_10 (by decide) ?_
    refine lv_iconst (v := 0) hx hb dL_dryIn_21 (by decide) ?_
    exact o_reti hx hb hr hO hS (by rw [hcd]; rfl) rfl (by rw [hcd]; rfl) hlocks dL_dryIn_22
theorem cd_wouldShare (g : Gd) (x : Int32) (f : Int32) (pr : Int32) (lb : Int32) : (fX6_wouldShare g x f pr lb).1 = 0 ∨ ((fX6_wouldShare g x f pr lb).1 = 1) ∨ ((fX6_wouldShare g x f pr lb).1 = 2) ∨ ((fX6_wouldShare g x f pr lb).1 = 3) := by
  unfold fX6_wouldShare fX6_lotAt fX6_needFarm fX6_needSale
  repeat' split
  all_goals first | (simp; done) | (simp_all; done)
set_option maxRecDepth 100000 in
set_option maxHeartbeats 4000000 in
theorem kL_wouldShare (l : Launch) (D : va_G) (cy : Nat → ClassId) {ad : Nat → Nat → Nat} (hI : cI ad) (hl0 : l.stackTraces = false) (g : Gd) (oo : Nat) (vo : Int64) (sz : Nat) (x : Int32) (f : Int32) (pr : Int32) (lb : Int32) (hv : IvC g) : Met l yL_wouldShare wsL_wouldShare ({ frames := 8, cells := 3, slots := 18, locals := 128 } : Room) (va_Pc [.ref (ad 0 0), .int x, .int f, .int pr, .int lb, .ref oo] (oPre D cy ad g oo vo sz)) (oQ D cy ad (k12 (fX6_wouldShare g x f pr lb).1) g oo (if (fX6_wouldShare g x f pr lb).1 = 0 then (fX6_wouldShare g x f pr lb).2.toInt64 else vo) sz) 3 18 (oA ad oo sz) := by
  refine va_MetW (cc := cL_wouldShare) (maxL := 7) (ret := some .int) (hh := [(0, 14, 17, 21), (0, 14, 21, 13), (0, 14, 25, 15)]) (by decide) rfl ?_
  intro p e s m args below meth c s₁ B hml hv0
  obtain ⟨rfl, hsz, hO, hN, hB, hNc⟩ := hv0
  subst hsz
  have hx := B.exec
  have hb := B.bytes
  have hr := B.returns
  have hts := atoms_spec (ws := wsL_wouldShare) B.pre
  have hown : s.vm.findClass RL = some m.cls := findClass_of_methodNamed B.named
  have hlocks := B.notSynchronized
  have htb : c.exceptionTable.toList = tableOf [(0, 14, 17, 21), (0, 14, 21, 13), (0, 14, 25, 15)] := vx_table (x := yL_wouldShare) B (hts _ (List.mem_of_getElem? (i := 0) rfl))
  have hl := lv_entry ([.ref (ad 0 0), .int x, .int f, .int pr, .int lb, .ref oo]) (n := 7) (Nat.le_of_ble_eq_true rfl)
  rw [lg_entry_eq]
  generalize (lg_sl ([.ref (ad 0 0), .int x, .int f, .int pr, .int lb, .ref oo]) ++ List.replicate (7 - (lg_sl ([.ref (ad 0 0), .int x, .int f, .int pr, .int lb, .ref oo])).length) Slot.unset).toArray = ls at hl ⊢
  have hl : lv_has ls 7 [(0, .ref (ad 0 0)), (1, .int x), (2, .int f), (3, .int pr), (4, .int lb), (5, .ref oo)] := hl
  show W p l e ({ frames := 8, cells := 3, slots := 18, locals := 128 } : Room) s m _ below meth c s.heap [] 0 0 _ _
  refine lv_aload hx hb dL_wouldShare_0 (lv_at hl 5 rfl) ?_
  refine lv_iconst (v := 0) hx hb dL_wouldShare_2 (by decide) ?_
  refine lv_aload_n hx hb dL_wouldShare_3 rfl (lv_at hl 0 rfl) ?_
  refine lv_iload_n hx hb dL_wouldShare_4 rfl (lv_at hl 1 rfl) ?_
  refine lv_iload_n hx hb dL_wouldShare_5 rfl (lv_at hl 2 rfl) ?_
  refine lv_iload_n hx hb dL_wouldShare_6 rfl (lv_at hl 3 rfl) ?_
  refine lv_iload hx hb dL_wouldShare_7 (lv_at hl 4 rfl) ?_
  refine o_callT (cd := (fX6_wouldShare g x f pr lb).1) (v := (fX6_wouldShare g x f pr lb).2) (g2 := g) (As := [.int x, .int f, .int pr, .int lb]) (rest := [.int 0, .ref oo]) ⟨hx, hb, hml, hown, hts⟩ (kX6_wouldShare l D cy hI hl0 g _ x f pr lb hv) (cwV 4 hts gL_wouldShare_X6_wouldShare rfl rfl rfl (by decide +kernel) ⟨Nat.le_of_ble_eq_true rfl, Nat.le_of_ble_eq_true rfl⟩) hB hO hN rfl hl.1 (Nat.le_of_ble_eq_true rfl) dL_wouldShare_9 ⟨Nat.le_of_ble_eq_true rfl, Nat.le_of_ble_eq_true rfl⟩ (fun hcd H locs q9 ce hO hS h1 h2 h3 => ?_) (fun hcd H locs hO hS => ?_)
  · rcases cd_wouldShare g x f pr lb with hc | hc | hc | hc
    · exact absurd hc hcd
    · rw [hc] at h3
      refine vx_catch (own := RL) (name := "java/lang/IndexOutOfBoundsException") (E := "java/lang/IndexOutOfBoundsException") hown [] ⟨0, 14, 17, 21⟩ [⟨0, 14, 21, 13⟩, ⟨0, 14, 25, 15⟩] htb (fun z hz => absurd hz List.not_mem_nil) (by decide) (by decide) (hNc.2 _).2.2 (qB_use hB.2.1 (w := .castable "java/lang/IndexOutOfBoundsException" "java/lang/IndexOutOfBoundsException") (by decide) rfl) h1 h2 h3 ?_
      refine lv_astore (lv' := [(6, .ref q9), (0, .ref (ad 0 0)), (1, .int x), (2, .int f), (3, .int pr), (4, .int lb), (5, .ref oo)]) hx hb dL_wouldShare_17 hl (by decide) rfl (fun ls hl => ?_)
      refine lv_iconst (v := 1) hx hb dL_wouldShare_19 (by decide) ?_
      exact o_reti hx hb hr hO hS (by rw [hc]; decide) rfl (by rw [hc]; rfl) hlocks dL_wouldShare_20
    · rw [hc] at h3
      refine vx_catch (own := RL) (name := "java/lang/IllegalArgumentException") (E := "java/lang/IllegalArgumentException") hown [⟨0, 14, 17, 21⟩] ⟨0, 14, 21, 13⟩ [⟨0, 14, 25, 15⟩] htb (fun z hz => by rw [List.mem_singleton.mp hz]; exact Or.inr ⟨by decide, "java/lang/IndexOutOfBoundsException", (hNc.2 _).2.2, hNc.1.1⟩) (by decide) (by decide) (hNc.2 _).1 (qB_use hB.2.1 (w := .castable "java/lang/IllegalArgumentException" "java/lang/IllegalArgumentException") (by decide) rfl) h1 h2 h3 ?_
      refine lv_astore (lv' := [(6, .ref q9), (0, .ref (ad 0 0)), (1, .int x), (2, .int f), (3, .int pr), (4, .int lb), (5, .ref oo)]) hx hb dL_wouldShare_21 hl (by decide) rfl (fun ls hl => ?_)
      refine lv_iconst (v := 2) hx hb dL_wouldShare_23 (by decide) ?_
      exact o_reti hx hb hr hO hS (by rw [hc]; decide) rfl (by rw [hc]; rfl) hlocks dL_wouldShare_24
    · rw [hc] at h3
      refine vx_catch (own := RL) (name := "java/lang/IllegalStateException") (E := "java/lang/IllegalStateException") hown [⟨0, 14, 17, 21⟩, ⟨0, 14, 21, 13⟩] ⟨0, 14, 25, 15⟩ [] htb (fun z hz => (List.mem_cons.mp hz).elim (fun hz => by rw [hz]; exact Or.inr ⟨by decide, "java/lang/IndexOutOfBoundsException", (hNc.2 _).2.2, hNc.1.2.1⟩) (fun hz => by rw [List.mem_singleton.mp hz]; exact Or.inr ⟨by decide, "java/lang/IllegalArgumentException", (hNc.2 _).1, hNc.1.2.2⟩)) (by decide) (by decide) (hNc.2 _).2.1 (qB_use hB.2.1 (w := .castable "java/lang/IllegalStateException" "java/lang/IllegalStateException") (by decide) rfl) h1 h2 h3 ?_
      refine lv_astore (lv' := [(6, .ref q9), (0, .ref (ad 0 0)), (1, .int x), (2, .int f), (3, .int pr), (4, .int lb), (5, .ref oo)]) hx hb dL_wouldShare_25 hl (by decide) rfl (fun ls hl => ?_)
      refine lv_iconst (v := 3) hx hb dL_wouldShare_27 (by decide) ?_
      exact o_reti hx hb hr hO hS (by rw [hc]; decide) rfl (by rw [hc]; rfl) hlocks dL_wouldShare_28
  · refine lv_i2l hx hb dL_wouldShare_12 rfl ?_
    refine o_last hx hb hB hO hN hS dL_wouldShare_13 (fun H locs hO hS => ?_)
    refine lv_goto (tgt := 29) hx hb dL_wouldShare_14 (by decide) ?_
    refine lv_iconst (v := 0) hx hb dL_wouldShare_29 (by decide) ?_
    exact o_reti hx hb hr hO hS (by rw [hcd]; rfl) rfl (by rw [hcd]; rfl) hlocks dL_wouldShare_30
