/-! ===== the law's cases ===== -/
section SG
variable {p : Program} {l : Launch} {e : Env} {s : State} {m : MethodId} {below : List Frame} {meth : Method} {c : Code} {H : Heap} {locs : List Loc} {cells slots : Nat} {Q : State → Prop}
variable {b L : Nat} {xs : Nat → Int32} {D : va_G} {cy : Nat → ClassId} {ad : Nat → Nat → Nat} {g : Gd} {ls : Array Slot}
def VC_C850 (L : Nat) (xs : Nat → Int32) (g : Gd) (F : Int32) (B : Int32) (gn : Int32) (pr : Int32) (tm : Int32) (x : Int32) (fm : Int32) (bk : Int32) (tk : Int32) (be : Int32) (lt : Int32) (K : Gd → Int32 → Int32 → Prop) : Prop := (IvC g ∧ (∃ (v1 : Int32), fX6_ofBed g be 1 = (0, v1) ∧ ((v1 = 1 → (∃ (v11 : Int32) (g13 : Gd), fX6_cover g be 0 = (0, v11, g13) ∧ ((v11 = 1 → (IvC g13 ∧ (∃ (v15 : Int32), fX6_ofBed g13 be 1 = (0, v15) ∧ ((v15 = 0 → K g13 gn pr) ∧ (¬ v15 = 0 → False))))) ∧ (¬ v11 = 1 → False)))) ∧ (¬ v1 = 1 → (∃ (v4 : Int32) (g6 : Gd), fX6_cover g be 1 = (0, v4, g6) ∧ ((v4 = 0 → (IvC g6 ∧ (∃ (v8 : Int32), fX6_ofBed g6 be 1 = (0, v8) ∧ ((v8 = 1 → K g6 gn pr) ∧ (¬ v8 = 1 → False))))) ∧ (¬ v4 = 0 → False)))))))
set_option maxRecDepth 100000 in
set_option maxHeartbeats 8000000 in
theorem W_C850 (C : LC p l s m c b L xs) (hI : cI ad) (hB : LWB D cy s) (hL : LWS D cy ad s g H) (hS : va_S (LA0 s) s.heap H locs) (hc : cells + 40 ≤ 400000) (hs : slots + 400 ≤ 4000000) {F B gn pr tm x fm bk tk be lt : Int32} (hl : lv_has ls 17 [(12, .int lt), (11, .int be), (10, .int tk), (9, .int bk), (8, .int fm), (7, .int x), (6, .int tm), (5, .int pr), (4, .int gn), (3, .int B), (2, .int F), (1, .ref (ad 0 0)), (0, .ref b)]) {K : Gd → Int32 → Int32 → Prop} (hq : VC_C850 L xs g F B gn pr tm x fm bk tk be lt K)
    (kk : ∀ (k0 : Gd) (k1 : Int32) (k2 : Int32) (H1 : Heap) (locs1 : List Loc) (ls1 : Array Slot), LWS D cy ad s k0 H1 → va_S (LA0 s) s.heap H1 locs1 → lv_has ls1 17 [(6, .int tm), (5, .int k2), (4, .int k1), (3, .int B), (2, .int F), (1, .ref (ad 0 0)), (0, .ref b)] → K k0 k1 k2 → W p l e room_1 s m #[Value.ref b] below meth c H1 locs1 (cells + 40) (slots + 400) Q (F0 m 1388 ls1 [])) : W p l e room_1 s m #[Value.ref b] below meth c H locs cells slots Q (F0 m 850 ls []) := by
  have hx := C.hx; have hb := C.hb; have hown := C.own; have hts := C.ts; have hml := C.ml; have hl0 := C.st
  unfold VC_C850 at hq
  refine lv_aload_n hx hb dL_law_850 rfl (lv_at hl 11 rfl) ?_
  refine lv_iload hx hb dL_law_851 (lv_at hl 1 rfl) ?_
  refine lv_iconst (v := 1) hx hb dL_law_853 (by decide) ?_
  obtain ⟨hv_g, hq⟩ := hq
  obtain ⟨v1, e2, hq⟩ := hq
  refine l_callCi (v := v1) (g2 := g) (As := [.int be, .int 1]) ⟨hx, hb, hml, hown, hts⟩ (vx_ofR (kX6_ofBed l D cy hI hl0 g _ be 1 hv_g) e2) (cwV 2 hts gL_law_X6_ofBed rfl rfl rfl (by decide +kernel) ⟨Nat.le_of_ble_eq_true rfl, Nat.le_of_ble_eq_true rfl⟩) hB hL hS rfl hl.1 (Nat.le_of_ble_eq_true rfl) dL_law_854 ⟨by refine Nat.le_trans (m := 400000) ?_ rc_c; show cells + _ ≤ 400000; omega, by refine Nat.le_trans (m := 4000000) ?_ rc_s; show slots + _ ≤ 4000000; omega⟩ (fun H locs hL hS => ?_)
  refine lv_iconst (v := 1) hx hb dL_law_857 (by decide) ?_
  refine lv_icmp_ne (tgt := 865) hx hb dL_law_858 (by decide) (fun c3 => ?_) (fun c3 => ?_)
  · skip
    have hq := hq.2 c3
    refine lv_iconst (v := 0) hx hb dL_law_865 (by decide) ?_
    refine lv_istore (lv' := [(13, .int 0), (12, .int lt), (11, .int be), (10, .int tk), (9, .int bk), (8, .int fm), (7, .int x), (6, .int tm), (5, .int pr), (4, .int gn), (3, .int B), (2, .int F), (1, .ref (ad 0 0)), (0, .ref b)]) hx hb dL_law_866 hl (by decide) rfl (fun ls hl => ?_)
    refine lv_aload_n hx hb dL_law_868 rfl (lv_at hl 12 rfl) ?_
    refine lv_iload hx hb dL_law_869 (lv_at hl 2 rfl) ?_
    refine lv_iload hx hb dL_law_871 (lv_at hl 0 rfl) ?_
    refine lv_if_ne (tgt := 880) hx hb dL_law_873 (by decide) (fun c => absurd c (by decide)) (fun _ => ?_)
    refine lv_iconst (v := 1) hx hb dL_law_876 (by decide) ?_
    refine lv_goto (tgt := 881) hx hb dL_law_877 (by decide) ?_
    obtain ⟨v4, g6, e5, hq⟩ := hq
    refine l_callCi (v := v4) (g2 := g6) (As := [.int be, .int 1]) ⟨hx, hb, hml, hown, hts⟩ (vx_ofT (kX6_cover l D cy hI hl0 g _ be 1 hv_g (by decide)) e5) (cwV 2 hts gL_law_X6_cover rfl rfl rfl (by decide +kernel) ⟨Nat.le_of_ble_eq_true rfl, Nat.le_of_ble_eq_true rfl⟩) hB hL hS rfl hl.1 (Nat.le_of_ble_eq_true rfl) dL_law_881 ⟨by refine Nat.le_trans (m := 400000) ?_ rc_c; show cells + _ + _ ≤ 400000; omega, by refine Nat.le_trans (m := 4000000) ?_ rc_s; show slots + _ + _ ≤ 4000000; omega⟩ (fun H locs hL hS => ?_)
    refine lv_iload hx hb dL_law_884 (lv_at hl 0 rfl) ?_
    refine lv_icmp_ne (tgt := 909) hx hb dL_law_886 (by decide) (fun c7 => ?_) (fun c7 => ?_)
    · skip
      have hq := hq.2 c7
      refine lv_iconst (v := 0) hx hb dL_law_909 (by decide) ?_
      exact hq.elim
    · skip
      have hq := hq.1 c7
      refine lv_aload_n hx hb dL_law_889 rfl (lv_at hl 12 rfl) ?_
      refine lv_iload hx hb dL_law_890 (lv_at hl 2 rfl) ?_
      refine lv_iconst (v := 1) hx hb dL_law_892 (by decide) ?_
      obtain ⟨hv_g6, hq⟩ := hq
      obtain ⟨v8, e9, hq⟩ := hq
      refine l_callCi (v := v8) (g2 := g6) (As := [.int be, .int 1]) ⟨hx, hb, hml, hown, hts⟩ (vx_ofR (kX6_ofBed l D cy hI hl0 g6 _ be 1 hv_g6) e9) (cwV 2 hts gL_law_X6_ofBed rfl rfl rfl (by decide +kernel) ⟨Nat.le_of_ble_eq_true rfl, Nat.le_of_ble_eq_true rfl⟩) hB hL hS rfl hl.1 (Nat.le_of_ble_eq_true rfl) dL_law_893 ⟨by refine Nat.le_trans (m := 400000) ?_ rc_c; show cells + _ + _ + _ ≤ 400000; omega, by refine Nat.le_trans (m := 4000000) ?_ rc_s; show slots + _ + _ + _ ≤ 4000000; omega⟩ (fun H locs hL hS => ?_)
      refine lv_iload hx hb dL_law_896 (lv_at hl 0 rfl) ?_
      refine lv_if_eq (tgt := 905) hx hb dL_law_898 (by decide) (fun _ => ?_) (fun c => absurd c (by decide))
      refine lv_iconst (v := 1) hx hb dL_law_905 (by decide) ?_
      refine lv_icmp_eq (tgt := 1388) hx hb dL_law_906 (by decide) (fun c10 => ?_) (fun c10 => ?_)
      · skip
        have hq := hq.1 c10
        refine W.widen (k := cells + 40) (n := slots + 400) (by omega) (by omega) ?_
        exact kk g6 gn pr _ _ ls hL hS (lv_sub hl [7, 8, 9, 10, 11, 12, 13] rfl) hq
      · skip
        have hq := hq.2 c10
        refine lv_iconst (v := 0) hx hb dL_law_909 (by decide) ?_
        exact hq.elim
  · skip
    have hq := hq.1 c3
    refine lv_iconst (v := 1) hx hb dL_law_861 (by decide) ?_
    refine lv_goto (tgt := 866) hx hb dL_law_862 (by decide) ?_
    refine lv_istore (lv' := [(13, .int 1), (12, .int lt), (11, .int be), (10, .int tk), (9, .int bk), (8, .int fm), (7, .int x), (6, .int tm), (5, .int pr), (4, .int gn), (3, .int B), (2, .int F), (1, .ref (ad 0 0)), (0, .ref b)]) hx hb dL_law_866 hl (by decide) rfl (fun ls hl => ?_)
    refine lv_aload_n hx hb dL_law_868 rfl (lv_at hl 12 rfl) ?_
    refine lv_iload hx hb dL_law_869 (lv_at hl 2 rfl) ?_
    refine lv_iload hx hb dL_law_871 (lv_at hl 0 rfl) ?_
    refine lv_if_ne (tgt := 880) hx hb dL_law_873 (by decide) (fun _ => ?_) (fun c => absurd c (by decide))
    refine lv_iconst (v := 0) hx hb dL_law_880 (by decide) ?_
    obtain ⟨v11, g13, e12, hq⟩ := hq
    refine l_callCi (v := v11) (g2 := g13) (As := [.int be, .int 0]) ⟨hx, hb, hml, hown, hts⟩ (vx_ofT (kX6_cover l D cy hI hl0 g _ be 0 hv_g (by decide)) e12) (cwV 2 hts gL_law_X6_cover rfl rfl rfl (by decide +kernel) ⟨Nat.le_of_ble_eq_true rfl, Nat.le_of_ble_eq_true rfl⟩) hB hL hS rfl hl.1 (Nat.le_of_ble_eq_true rfl) dL_law_881 ⟨by refine Nat.le_trans (m := 400000) ?_ rc_c; show cells + _ + _ ≤ 400000; omega, by refine Nat.le_trans (m := 4000000) ?_ rc_s; show slots + _ + _ ≤ 4000000; omega⟩ (fun H locs hL hS => ?_)
    refine lv_iload hx hb dL_law_884 (lv_at hl 0 rfl) ?_
    refine lv_icmp_ne (tgt := 909) hx hb dL_law_886 (by decide) (fun c14 => ?_) (fun c14 => ?_)
    · skip
      have hq := hq.2 c14
      refine lv_iconst (v := 0) hx hb dL_law_909 (by decide) ?_
      exact hq.elim
    · skip
      have hq := hq.1 c14
      refine lv_aload_n hx hb dL_law_889 rfl (lv_at hl 12 rfl) ?_
      refine lv_iload hx hb dL_law_890 (lv_at hl 2 rfl) ?_
      refine lv_iconst (v := 1) hx hb dL_law_892 (by decide) ?_
      obtain ⟨hv_g13, hq⟩ := hq
      obtain ⟨v15, e16, hq⟩ := hq
      refine l_callCi (v := v15) (g2 := g13) (As := [.int be, .int 1]) ⟨hx, hb, hml, hown, hts⟩ (vx_ofR (kX6_ofBed l D cy hI hl0 g13 _ be 1 hv_g13) e16) (cwV 2 hts gL_law_X6_ofBed rfl rfl rfl (by decide +kernel) ⟨Nat.le_of_ble_eq_true rfl, Nat.le_of_ble_eq_true rfl⟩) hB hL hS rfl hl.1 (Nat.le_of_ble_eq_true rfl) dL_law_893 ⟨by refine Nat.le_trans (m := 400000) ?_ rc_c; show cells + _ + _ + _ ≤ 400000; omega, by refine Nat.le_trans (m := 4000000) ?_ rc_s; show slots + _ + _ + _ ≤ 4000000; omega⟩ (fun H locs hL hS => ?_)
      refine lv_iload hx hb dL_law_896 (lv_at hl 0 rfl) ?_
      refine lv_if_eq (tgt := 905) hx hb dL_law_898 (by decide) (fun c => absurd c (by decide)) (fun _ => ?_)
      refine lv_iconst (v := 0) hx hb dL_law_901 (by decide) ?_
      refine lv_goto (tgt := 906) hx hb dL_law_902 (by decide) ?_
      refine lv_icmp_eq (tgt := 1388) hx hb dL_law_906 (by decide) (fun c17 => ?_) (fun c17 => ?_)
      · skip
        have hq := hq.1 c17
        refine W.widen (k := cells + 40) (n := slots + 400) (by omega) (by omega) ?_
        exact kk g13 gn pr _ _ ls hL hS (lv_sub hl [7, 8, 9, 10, 11, 12, 13] rfl) hq
      · skip
        have hq := hq.2 c17
        refine lv_iconst (v := 0) hx hb dL_law_909 (by decide) ?_
        exact hq.elim
def VC_C911 (L : Nat) (xs : Nat → Int32) (g : Gd) (F : Int32) (B : Int32) (gn : Int32) (pr : Int32) (tm : Int32) (x : Int32) (fm : Int32) (bk : Int32) (tk : Int32) (be : Int32) (lt : Int32) (K : Gd → Int32 → Int32 → Prop) : Prop := (IvC g ∧ (∃ (v1 : Int32), fX6_ofBed g be 2 = (0, v1) ∧ ((v1 < 24 → K g gn pr) ∧ (¬ v1 < 24 → (∃ (v4 : Int32), fX6_many g 4 = (0, v4) ∧ ((v4 = 12 → K g gn pr) ∧ (¬ v4 = 12 → (∃ (v7 : Int32), fX6_ofBed g be 2 = (0, v7) ∧ (∃ (v9 : Int32), fX6_ofBed g be 3 = (0, v9) ∧ ((v9 = 2 → (∃ (v32 : Int32), fX6_ofBed g be 4 = (0, v32) ∧ (∃ (v34 : Int32) (g36 : Gd), fX6_store g be = (0, v34, g36) ∧ (IvC g36 ∧ (∃ (v37 : Int32), fX6_ofLot g36 v34 0 = (0, v37) ∧ (((v7 / 3) < v37 → False) ∧ (¬ (v7 / 3) < v37 → (∃ (v40 : Int32), fX6_ofLot g36 v34 0 = (0, v40) ∧ ((v40 < ((v7 / 3) - 5) → False) ∧ (¬ v40 < ((v7 / 3) - 5) → (∃ (v43 : Int32), fX6_ofLot g36 v34 7 = (0, v43) ∧ ((v43 = v32 → (∃ (v46 : Int32), fX6_ofBed g36 be 2 = (0, v46) ∧ ((v46 = 0 → (∃ (v49 : Int32), fX6_ofLot g36 v34 9 = (0, v49) ∧ ((v49 = (-1) → K g36 gn pr) ∧ (¬ v49 = (-1) → False)))) ∧ (¬ v46 = 0 → False)))) ∧ (¬ v43 = v32 → False))))))))))))) ∧ (¬ v9 = 2 → (∃ (v12 : Int32), fX6_ofBed g be 4 = (0, v12) ∧ (∃ (v14 : Int32) (g16 : Gd), fX6_store g be = (0, v14, g16) ∧ (IvC g16 ∧ (∃ (v17 : Int32), fX6_ofLot g16 v14 0 = (0, v17) ∧ (((v7 / 2) < v17 → False) ∧ (¬ (v7 / 2) < v17 → (∃ (v20 : Int32), fX6_ofLot g16 v14 0 = (0, v20) ∧ ((v20 < ((v7 / 2) - 5) → False) ∧ (¬ v20 < ((v7 / 2) - 5) → (∃ (v23 : Int32), fX6_ofLot g16 v14 7 = (0, v23) ∧ ((v23 = v12 → (∃ (v26 : Int32), fX6_ofBed g16 be 2 = (0, v26) ∧ ((v26 = 0 → (∃ (v29 : Int32), fX6_ofLot g16 v14 9 = (0, v29) ∧ ((v29 = (-1) → K g16 gn pr) ∧ (¬ v29 = (-1) → False)))) ∧ (¬ v26 = 0 → False)))) ∧ (¬ v23 = v12 → False)))))))))))))))))))))))
set_option maxRecDepth 100000 in
set_option maxHeartbeats 8000000 in
theorem W_C911 (C : LC p l s m c b L xs) (hI : cI ad) (hB : LWB D cy s) (hL : LWS D cy ad s g H) (hS : va_S (LA0 s) s.heap H locs) (hc : cells + 40 ≤ 400000) (hs : slots + 400 ≤ 4000000) {F B gn pr tm x fm bk tk be lt : Int32} (hl : lv_has ls 17 [(12, .int lt), (11, .int be), (10, .int tk), (9, .int bk), (8, .int fm), (7, .int x), (6, .int tm), (5, .int pr), (4, .int gn), (3, .int B), (2, .int F), (1, .ref (ad 0 0)), (0, .ref b)]) {K : Gd → Int32 → Int32 → Prop} (hq : VC_C911 L xs g F B gn pr tm x fm bk tk be lt K)
    (kk : ∀ (k0 : Gd) (k1 : Int32) (k2 : Int32) (H1 : Heap) (locs1 : List Loc) (ls1 : Array Slot), LWS D cy ad s k0 H1 → va_S (LA0 s) s.heap H1 locs1 → lv_has ls1 17 [(6, .int tm), (5, .int k2), (4, .int k1), (3, .int B), (2, .int F), (1, .ref (ad 0 0)), (0, .ref b)] → K k0 k1 k2 → W p l e room_1 s m #[Value.ref b] below meth c H1 locs1 (cells + 40) (slots + 400) Q (F0 m 1388 ls1 [])) : W p l e room_1 s m #[Value.ref b] below meth c H locs cells slots Q (F0 m 911 ls []) := by
  have hx := C.hx; have hb := C.hb; have hown := C.own; have hts := C.ts; have hml := C.ml; have hl0 := C.st
  unfold VC_C911 at hq
  refine lv_aload_n hx hb dL_law_911 rfl (lv_at hl 11 rfl) ?_
  refine lv_iload hx hb dL_law_912 (lv_at hl 1 rfl) ?_
  refine lv_iconst (v := 2) hx hb dL_law_914 (by decide) ?_
  obtain ⟨hv_g, hq⟩ := hq
  obtain ⟨v1, e2, hq⟩ := hq
  refine l_callCi (v := v1) (g2 := g) (As := [.int be, .int 2]) ⟨hx, hb, hml, hown, hts⟩ (vx_ofR (kX6_ofBed l D cy hI hl0 g _ be 2 hv_g) e2) (cwV 2 hts gL_law_X6_ofBed rfl rfl rfl (by decide +kernel) ⟨Nat.le_of_ble_eq_true rfl, Nat.le_of_ble_eq_true rfl⟩) hB hL hS rfl hl.1 (Nat.le_of_ble_eq_true rfl) dL_law_915 ⟨by refine Nat.le_trans (m := 400000) ?_ rc_c; show cells + _ ≤ 400000; omega, by refine Nat.le_trans (m := 4000000) ?_ rc_s; show slots + _ ≤ 4000000; omega⟩ (fun H locs hL hS => ?_)
  refine lv_bipush (v := 24) hx hb dL_law_918 (by decide) ?_
  refine lv_icmp_lt (tgt := 1388) hx hb dL_law_920 (by decide) (fun c3 => ?_) (fun c3 => ?_)
  · skip
    have hq := hq.1 c3
    refine W.widen (k := cells + 40) (n := slots + 400) (by omega) (by omega) ?_
    exact kk g gn pr _ _ ls hL hS (lv_sub hl [6, 7, 8, 9, 10, 11, 12] rfl) hq
  · skip
    have hq := hq.2 c3
    refine lv_aload_n hx hb dL_law_923 rfl (lv_at hl 11 rfl) ?_
    refine lv_iconst (v := 4) hx hb dL_law_924 (by decide) ?_
    obtain ⟨v4, e5, hq⟩ := hq
    refine l_callCi (v := v4) (g2 := g) (As := [.int 4]) ⟨hx, hb, hml, hown, hts⟩ (vx_ofR (kX6_many l D cy hI hl0 g _ 4 hv_g) e5) (cwV 1 hts gL_law_X6_many rfl rfl rfl (by decide +kernel) ⟨Nat.le_of_ble_eq_true rfl, Nat.le_of_ble_eq_true rfl⟩) hB hL hS rfl hl.1 (Nat.le_of_ble_eq_true rfl) dL_law_925 ⟨by refine Nat.le_trans (m := 400000) ?_ rc_c; show cells + _ + _ ≤ 400000; omega, by refine Nat.le_trans (m := 4000000) ?_ rc_s; show slots + _ + _ ≤ 4000000; omega⟩ (fun H locs hL hS => ?_)
    refine lv_bipush (v := 12) hx hb dL_law_928 (by decide) ?_
    refine lv_icmp_ne (tgt := 936) hx hb dL_law_930 (by decide) (fun c6 => ?_) (fun c6 => ?_)
    · skip
      have hq := hq.2 c6
      refine lv_aload_n hx hb dL_law_936 rfl (lv_at hl 11 rfl) ?_
      refine lv_iload hx hb dL_law_937 (lv_at hl 1 rfl) ?_
      refine lv_iconst (v := 2) hx hb dL_law_939 (by decide) ?_
      obtain ⟨v7, e8, hq⟩ := hq
      refine l_callCi (v := v7) (g2 := g) (As := [.int be, .int 2]) ⟨hx, hb, hml, hown, hts⟩ (vx_ofR (kX6_ofBed l D cy hI hl0 g _ be 2 hv_g) e8) (cwV 2 hts gL_law_X6_ofBed rfl rfl rfl (by decide +kernel) ⟨Nat.le_of_ble_eq_true rfl, Nat.le_of_ble_eq_true rfl⟩) hB hL hS rfl hl.1 (Nat.le_of_ble_eq_true rfl) dL_law_940 ⟨by refine Nat.le_trans (m := 400000) ?_ rc_c; show cells + _ + _ + _ ≤ 400000; omega, by refine Nat.le_trans (m := 4000000) ?_ rc_s; show slots + _ + _ + _ ≤ 4000000; omega⟩ (fun H locs hL hS => ?_)
      refine lv_istore (lv' := [(13, .int v7), (12, .int lt), (11, .int be), (10, .int tk), (9, .int bk), (8, .int fm), (7, .int x), (6, .int tm), (5, .int pr), (4, .int gn), (3, .int B), (2, .int F), (1, .ref (ad 0 0)), (0, .ref b)]) hx hb dL_law_943 hl (by decide) rfl (fun ls hl => ?_)
      refine lv_aload_n hx hb dL_law_945 rfl (lv_at hl 12 rfl) ?_
      refine lv_iload hx hb dL_law_946 (lv_at hl 2 rfl) ?_
      refine lv_iconst (v := 3) hx hb dL_law_948 (by decide) ?_
      obtain ⟨v9, e10, hq⟩ := hq
      refine l_callCi (v := v9) (g2 := g) (As := [.int be, .int 3]) ⟨hx, hb, hml, hown, hts⟩ (vx_ofR (kX6_ofBed l D cy hI hl0 g _ be 3 hv_g) e10) (cwV 2 hts gL_law_X6_ofBed rfl rfl rfl (by decide +kernel) ⟨Nat.le_of_ble_eq_true rfl, Nat.le_of_ble_eq_true rfl⟩) hB hL hS rfl hl.1 (Nat.le_of_ble_eq_true rfl) dL_law_949 ⟨by refine Nat.le_trans (m := 400000) ?_ rc_c; show cells + _ + _ + _ + _ ≤ 400000; omega, by refine Nat.le_trans (m := 4000000) ?_ rc_s; show slots + _ + _ + _ + _ ≤ 4000000; omega⟩ (fun H locs hL hS => ?_)
      refine lv_iconst (v := 2) hx hb dL_law_952 (by decide) ?_
      refine lv_icmp_ne (tgt := 960) hx hb dL_law_953 (by decide) (fun c11 => ?_) (fun c11 => ?_)
      · skip
        have hq := hq.2 c11
        refine lv_iconst (v := 2) hx hb dL_law_960 (by decide) ?_
        refine lv_istore (lv' := [(14, .int 2), (13, .int v7), (12, .int lt), (11, .int be), (10, .int tk), (9, .int bk), (8, .int fm), (7, .int x), (6, .int tm), (5, .int pr), (4, .int gn), (3, .int B), (2, .int F), (1, .ref (ad 0 0)), (0, .ref b)]) hx hb dL_law_961 hl (by decide) rfl (fun ls hl => ?_)
        refine lv_aload_n hx hb dL_law_963 rfl (lv_at hl 13 rfl) ?_
        refine lv_iload hx hb dL_law_964 (lv_at hl 3 rfl) ?_
        refine lv_iconst (v := 4) hx hb dL_law_966 (by decide) ?_
        obtain ⟨v12, e13, hq⟩ := hq
        refine l_callCi (v := v12) (g2 := g) (As := [.int be, .int 4]) ⟨hx, hb, hml, hown, hts⟩ (vx_ofR (kX6_ofBed l D cy hI hl0 g _ be 4 hv_g) e13) (cwV 2 hts gL_law_X6_ofBed rfl rfl rfl (by decide +kernel) ⟨Nat.le_of_ble_eq_true rfl, Nat.le_of_ble_eq_true rfl⟩) hB hL hS rfl hl.1 (Nat.le_of_ble_eq_true rfl) dL_law_967 ⟨by refine Nat.le_trans (m := 400000) ?_ rc_c; show cells + _ + _ + _ + _ + _ ≤ 400000; omega, by refine Nat.le_trans (m := 4000000) ?_ rc_s; show slots + _ + _ + _ + _ + _ ≤ 4000000; omega⟩ (fun H locs hL hS => ?_)
        refine lv_istore (lv' := [(15, .int v12), (14, .int 2), (13, .int v7), (12, .int lt), (11, .int be), (10, .int tk), (9, .int bk), (8, .int fm), (7, .int x), (6, .int tm), (5, .int pr), (4, .int gn), (3, .int B), (2, .int F), (1, .ref (ad 0 0)), (0, .ref b)]) hx hb dL_law_970 hl (by decide) rfl (fun ls hl => ?_)
        refine lv_aload_n hx hb dL_law_972 rfl (lv_at hl 14 rfl) ?_
        refine lv_iload hx hb dL_law_973 (lv_at hl 4 rfl) ?_
        obtain ⟨v14, g16, e15, hq⟩ := hq
        refine l_callCi (v := v14) (g2 := g16) (As := [.int be]) ⟨hx, hb, hml, hown, hts⟩ (vx_ofT (kX6_store l D cy hI hl0 g _ be hv_g) e15) (cwV 1 hts gL_law_X6_store rfl rfl rfl (by decide +kernel) ⟨Nat.le_of_ble_eq_true rfl, Nat.le_of_ble_eq_true rfl⟩) hB hL hS rfl hl.1 (Nat.le_of_ble_eq_true rfl) dL_law_975 ⟨by refine Nat.le_trans (m := 400000) ?_ rc_c; show cells + _ + _ + _ + _ + _ + _ ≤ 400000; omega, by refine Nat.le_trans (m := 4000000) ?_ rc_s; show slots + _ + _ + _ + _ + _ + _ ≤ 4000000; omega⟩ (fun H locs hL hS => ?_)
        refine lv_istore (lv' := [(16, .int v14), (15, .int v12), (14, .int 2), (13, .int v7), (12, .int lt), (11, .int be), (10, .int tk), (9, .int bk), (8, .int fm), (7, .int x), (6, .int tm), (5, .int pr), (4, .int gn), (3, .int B), (2, .int F), (1, .ref (ad 0 0)), (0, .ref b)]) hx hb dL_law_978 hl (by decide) rfl (fun ls hl => ?_)
        refine lv_aload_n hx hb dL_law_980 rfl (lv_at hl 15 rfl) ?_
        refine lv_iload hx hb dL_law_981 (lv_at hl 0 rfl) ?_
        refine lv_iconst (v := 0) hx hb dL_law_983 (by decide) ?_
        obtain ⟨hv_g16, hq⟩ := hq
        obtain ⟨v17, e18, hq⟩ := hq
        refine l_callCi (v := v17) (g2 := g16) (As := [.int v14, .int 0]) ⟨hx, hb, hml, hown, hts⟩ (vx_ofR (kX6_ofLot l D cy hI hl0 g16 _ v14 0 hv_g16) e18) (cwV 2 hts gL_law_X6_ofLot rfl rfl rfl (by decide +kernel) ⟨Nat.le_of_ble_eq_true rfl, Nat.le_of_ble_eq_true rfl⟩) hB hL hS rfl hl.1 (Nat.le_of_ble_eq_true rfl) dL_law_984 ⟨by refine Nat.le_trans (m := 400000) ?_ rc_c; show cells + _ + _ + _ + _ + _ + _ + _ ≤ 400000; omega, by refine Nat.le_trans (m := 4000000) ?_ rc_s; show slots + _ + _ + _ + _ + _ + _ + _ ≤ 4000000; omega⟩ (fun H locs hL hS => ?_)
        refine lv_iload hx hb dL_law_987 (lv_at hl 3 rfl) ?_
        refine lv_iload hx hb dL_law_989 (lv_at hl 2 rfl) ?_
        refine lv_idiv hx hb dL_law_991 (by decide) ?_
        refine lv_icmp_gt (tgt := 1047) hx hb dL_law_992 (by decide) (fun c19 => ?_) (fun c19 => ?_)
        · skip
          have hq := hq.1 c19
          refine lv_iconst (v := 0) hx hb dL_law_1047 (by decide) ?_
          exact hq.elim
        · skip
          have hq := hq.2 c19
          refine lv_aload_n hx hb dL_law_995 rfl (lv_at hl 15 rfl) ?_
          refine lv_iload hx hb dL_law_996 (lv_at hl 0 rfl) ?_
          refine lv_iconst (v := 0) hx hb dL_law_998 (by decide) ?_
          obtain ⟨v20, e21, hq⟩ := hq
          refine l_callCi (v := v20) (g2 := g16) (As := [.int v14, .int 0]) ⟨hx, hb, hml, hown, hts⟩ (vx_ofR (kX6_ofLot l D cy hI hl0 g16 _ v14 0 hv_g16) e21) (cwV 2 hts gL_law_X6_ofLot rfl rfl rfl (by decide +kernel) ⟨Nat.le_of_ble_eq_true rfl, Nat.le_of_ble_eq_true rfl⟩) hB hL hS rfl hl.1 (Nat.le_of_ble_eq_true rfl) dL_law_999 ⟨by refine Nat.le_trans (m := 400000) ?_ rc_c; show cells + _ + _ + _ + _ + _ + _ + _ + _ ≤ 400000; omega, by refine Nat.le_trans (m := 4000000) ?_ rc_s; show slots + _ + _ + _ + _ + _ + _ + _ + _ ≤ 4000000; omega⟩ (fun H locs hL hS => ?_)
          refine lv_iload hx hb dL_law_1002 (lv_at hl 3 rfl) ?_
          refine lv_iload hx hb dL_law_1004 (lv_at hl 2 rfl) ?_
          refine lv_idiv hx hb dL_law_1006 (by decide) ?_
          refine lv_iconst (v := 5) hx hb dL_law_1007 (by decide) ?_
          refine lv_isub hx hb dL_law_1008 ?_
          refine lv_icmp_lt (tgt := 1047) hx hb dL_law_1009 (by decide) (fun c22 => ?_) (fun c22 => ?_)
          · skip
            have hq := hq.1 c22
            refine lv_iconst (v := 0) hx hb dL_law_1047 (by decide) ?_
            exact hq.elim
          · skip
            have hq := hq.2 c22
            refine lv_aload_n hx hb dL_law_1012 rfl (lv_at hl 15 rfl) ?_
            refine lv_iload hx hb dL_law_1013 (lv_at hl 0 rfl) ?_
            refine lv_bipush (v := 7) hx hb dL_law_1015 (by decide) ?_
            obtain ⟨v23, e24, hq⟩ := hq
            refine l_callCi (v := v23) (g2 := g16) (As := [.int v14, .int 7]) ⟨hx, hb, hml, hown, hts⟩ (vx_ofR (kX6_ofLot l D cy hI hl0 g16 _ v14 7 hv_g16) e24) (cwV 2 hts gL_law_X6_ofLot rfl rfl rfl (by decide +kernel) ⟨Nat.le_of_ble_eq_true rfl, Nat.le_of_ble_eq_true rfl⟩) hB hL hS rfl hl.1 (Nat.le_of_ble_eq_true rfl) dL_law_1017 ⟨by refine Nat.le_trans (m := 400000) ?_ rc_c; show cells + _ + _ + _ + _ + _ + _ + _ + _ + _ ≤ 400000; omega, by refine Nat.le_trans (m := 4000000) ?_ rc_s; show slots + _ + _ + _ + _ + _ + _ + _ + _ + _ ≤ 4000000; omega⟩ (fun H locs hL hS => ?_)
            refine lv_iload hx hb dL_law_1020 (lv_at hl 1 rfl) ?_
            refine lv_icmp_ne (tgt := 1047) hx hb dL_law_1022 (by decide) (fun c25 => ?_) (fun c25 => ?_)
            · skip
              have hq := hq.2 c25
              refine lv_iconst (v := 0) hx hb dL_law_1047 (by decide) ?_
              exact hq.elim
            · skip
              have hq := hq.1 c25
              refine lv_aload_n hx hb dL_law_1025 rfl (lv_at hl 15 rfl) ?_
              refine lv_iload hx hb dL_law_1026 (lv_at hl 5 rfl) ?_
              refine lv_iconst (v := 2) hx hb dL_law_1028 (by decide) ?_
              obtain ⟨v26, e27, hq⟩ := hq
              refine l_callCi (v := v26) (g2 := g16) (As := [.int be, .int 2]) ⟨hx, hb, hml, hown, hts⟩ (vx_ofR (kX6_ofBed l D cy hI hl0 g16 _ be 2 hv_g16) e27) (cwV 2 hts gL_law_X6_ofBed rfl rfl rfl (by decide +kernel) ⟨Nat.le_of_ble_eq_true rfl, Nat.le_of_ble_eq_true rfl⟩) hB hL hS rfl hl.1 (Nat.le_of_ble_eq_true rfl) dL_law_1029 ⟨by refine Nat.le_trans (m := 400000) ?_ rc_c; show cells + _ + _ + _ + _ + _ + _ + _ + _ + _ + _ ≤ 400000; omega, by refine Nat.le_trans (m := 4000000) ?_ rc_s; show slots + _ + _ + _ + _ + _ + _ + _ + _ + _ + _ ≤ 4000000; omega⟩ (fun H locs hL hS => ?_)
              refine lv_if_ne (tgt := 1047) hx hb dL_law_1032 (by decide) (fun c28 => ?_) (fun c28 => ?_)
              · skip
                have hq := hq.2 c28
                refine lv_iconst (v := 0) hx hb dL_law_1047 (by decide) ?_
                exact hq.elim
              · skip
                have hq := hq.1 c28
                refine lv_aload_n hx hb dL_law_1035 rfl (lv_at hl 15 rfl) ?_
                refine lv_iload hx hb dL_law_1036 (lv_at hl 0 rfl) ?_
                refine lv_bipush (v := 9) hx hb dL_law_1038 (by decide) ?_
                obtain ⟨v29, e30, hq⟩ := hq
                refine l_callCi (v := v29) (g2 := g16) (As := [.int v14, .int 9]) ⟨hx, hb, hml, hown, hts⟩ (vx_ofR (kX6_ofLot l D cy hI hl0 g16 _ v14 9 hv_g16) e30) (cwV 2 hts gL_law_X6_ofLot rfl rfl rfl (by decide +kernel) ⟨Nat.le_of_ble_eq_true rfl, Nat.le_of_ble_eq_true rfl⟩) hB hL hS rfl hl.1 (Nat.le_of_ble_eq_true rfl) dL_law_1040 ⟨by refine Nat.le_trans (m := 400000) ?_ rc_c; show cells + _ + _ + _ + _ + _ + _ + _ + _ + _ + _ + _ ≤ 400000; omega, by refine Nat.le_trans (m := 4000000) ?_ rc_s; show slots + _ + _ + _ + _ + _ + _ + _ + _ + _ + _ + _ ≤ 4000000; omega⟩ (fun H locs hL hS => ?_)
                refine lv_iconst (v := (-1)) hx hb dL_law_1043 (by decide) ?_
                refine lv_icmp_eq (tgt := 1388) hx hb dL_law_1044 (by decide) (fun c31 => ?_) (fun c31 => ?_)
                · skip
                  have hq := hq.1 c31
                  refine W.widen (k := cells + 40) (n := slots + 400) (by omega) (by omega) ?_
                  exact kk g16 gn pr _ _ ls hL hS (lv_sub hl [10, 11, 12, 13, 14, 15, 16] rfl) hq
                · skip
                  have hq := hq.2 c31
                  refine lv_iconst (v := 0) hx hb dL_law_1047 (by decide) ?_
                  exact hq.elim
      · skip
        have hq := hq.1 c11
        refine lv_iconst (v := 3) hx hb dL_law_956 (by decide) ?_
        refine lv_goto (tgt := 961) hx hb dL_law_957 (by decide) ?_
        refine lv_istore (lv' := [(14, .int 3), (13, .int v7), (12, .int lt), (11, .int be), (10, .int tk), (9, .int bk), (8, .int fm), (7, .int x), (6, .int tm), (5, .int pr), (4, .int gn), (3, .int B), (2, .int F), (1, .ref (ad 0 0)), (0, .ref b)]) hx hb dL_law_961 hl (by decide) rfl (fun ls hl => ?_)
        refine lv_aload_n hx hb dL_law_963 rfl (lv_at hl 13 rfl) ?_
        refine lv_iload hx hb dL_law_964 (lv_at hl 3 rfl) ?_
        refine lv_iconst (v := 4) hx hb dL_law_966 (by decide) ?_
        obtain ⟨v32, e33, hq⟩ := hq
        refine l_callCi (v := v32) (g2 := g) (As := [.int be, .int 4]) ⟨hx, hb, hml, hown, hts⟩ (vx_ofR (kX6_ofBed l D cy hI hl0 g _ be 4 hv_g) e33) (cwV 2 hts gL_law_X6_ofBed rfl rfl rfl (by decide +kernel) ⟨Nat.le_of_ble_eq_true rfl, Nat.le_of_ble_eq_true rfl⟩) hB hL hS rfl hl.1 (Nat.le_of_ble_eq_true rfl) dL_law_967 ⟨by refine Nat.le_trans (m := 400000) ?_ rc_c; show cells + _ + _ + _ + _ + _ ≤ 400000; omega, by refine Nat.le_trans (m := 4000000) ?_ rc_s; show slots + _ + _ + _ + _ + _ ≤ 4000000; omega⟩ (fun H locs hL hS => ?_)
        refine lv_istore (lv' := [(15, .int v32), (14, .int 3), (13, .int v7), (12, .int lt), (11, .int be), (10, .int tk), (9, .int bk), (8, .int fm), (7, .int x), (6, .int tm), (5, .int pr), (4, .int gn), (3, .int B), (2, .int F), (1, .ref (ad 0 0)), (0, .ref b)]) hx hb dL_law_970 hl (by decide) rfl (fun ls hl => ?_)
        refine lv_aload_n hx hb dL_law_972 rfl (lv_at hl 14 rfl) ?_
        refine lv_iload hx hb dL_law_973 (lv_at hl 4 rfl) ?_
        obtain ⟨v34, g36, e35, hq⟩ := hq
        refine l_callCi (v := v34) (g2 := g36) (As := [.int be]) ⟨hx, hb, hml, hown, hts⟩ (vx_ofT (kX6_store l D cy hI hl0 g _ be hv_g) e35) (cwV 1 hts gL_law_X6_store rfl rfl rfl (by decide +kernel) ⟨Nat.le_of_ble_eq_true rfl, Nat.le_of_ble_eq_true rfl⟩) hB hL hS rfl hl.1 (Nat.le_of_ble_eq_true rfl) dL_law_975 ⟨by refine Nat.le_trans (m := 400000) ?_ rc_c; show cells + _ + _ + _ + _ + _ + _ ≤ 400000; omega, by refine Nat.le_trans (m := 4000000) ?_ rc_s; show slots + _ + _ + _ + _ + _ + _ ≤ 4000000; omega⟩ (fun H locs hL hS => ?_)
        refine lv_istore (lv' := [(16, .int v34), (15, .int v32), (14, .int 3), (13, .int v7), (12, .int lt), (11, .int be), (10, .int tk), (9, .int bk), (8, .int fm), (7, .int x), (6, .int tm), (5, .int pr), (4, .int gn), (3, .int B), (2, .int F), (1, .ref (ad 0 0)), (0, .ref b)]) hx hb dL_law_978 hl (by decide) rfl (fun ls hl => ?_)
        refine lv_aload_n hx hb dL_law_980 rfl (lv_at hl 15 rfl) ?_
        refine lv_iload hx hb dL_law_981 (lv_at hl 0 rfl) ?_
        refine lv_iconst (v := 0) hx hb dL_law_983 (by decide) ?_
        obtain ⟨hv_g36, hq⟩ := hq
        obtain ⟨v37, e38, hq⟩ := hq
        refine l_callCi (v := v37) (g2 := g36) (As := [.int v34, .int 0]) ⟨hx, hb, hml, hown, hts⟩ (vx_ofR (kX6_ofLot l D cy hI hl0 g36 _ v34 0 hv_g36) e38) (cwV 2 hts gL_law_X6_ofLot rfl rfl rfl (by decide +kernel) ⟨Nat.le_of_ble_eq_true rfl, Nat.le_of_ble_eq_true rfl⟩) hB hL hS rfl hl.1 (Nat.le_of_ble_eq_true rfl) dL_law_984 ⟨by refine Nat.le_trans (m := 400000) ?_ rc_c; show cells + _ + _ + _ + _ + _ + _ + _ ≤ 400000; omega, by refine Nat.le_trans (m := 4000000) ?_ rc_s; show slots + _ + _ + _ + _ + _ + _ + _ ≤ 4000000; omega⟩ (fun H locs hL hS => ?_)
        refine lv_iload hx hb dL_law_987 (lv_at hl 3 rfl) ?_
        refine lv_iload hx hb dL_law_989 (lv_at hl 2 rfl) ?_
        refine lv_idiv hx hb dL_law_991 (by decide) ?_
        refine lv_icmp_gt (tgt := 1047) hx hb dL_law_992 (by decide) (fun c39 => ?_) (fun c39 => ?_)
        · skip
          have hq := hq.1 c39
          refine lv_iconst (v := 0) hx hb dL_law_1047 (by decide) ?_
          exact hq.elim
        · skip
          have hq := hq.2 c39
          refine lv_aload_n hx hb dL_law_995 rfl (lv_at hl 15 rfl) ?_
          refine lv_iload hx hb dL_law_996 (lv_at hl 0 rfl) ?_
          refine lv_iconst (v := 0) hx hb dL_law_998 (by decide) ?_
          obtain ⟨v40, e41, hq⟩ := hq
          refine l_callCi (v := v40) (g2 := g36) (As := [.int v34, .int 0]) ⟨hx, hb, hml, hown, hts⟩ (vx_ofR (kX6_ofLot l D cy hI hl0 g36 _ v34 0 hv_g36) e41) (cwV 2 hts gL_law_X6_ofLot rfl rfl rfl (by decide +kernel) ⟨Nat.le_of_ble_eq_true rfl, Nat.le_of_ble_eq_true rfl⟩) hB hL hS rfl hl.1 (Nat.le_of_ble_eq_true rfl) dL_law_999 ⟨by refine Nat.le_trans (m := 400000) ?_ rc_c; show cells + _ + _ + _ + _ + _ + _ + _ + _ ≤ 400000; omega, by refine Nat.le_trans (m := 4000000) ?_ rc_s; show slots + _ + _ + _ + _ + _ + _ + _ + _ ≤ 4000000; omega⟩ (fun H locs hL hS => ?_)
          refine lv_iload hx hb dL_law_1002 (lv_at hl 3 rfl) ?_
          refine lv_iload hx hb dL_law_1004 (lv_at hl 2 rfl) ?_
          refine lv_idiv hx hb dL_law_1006 (by decide) ?_
          refine lv_iconst (v := 5) hx hb dL_law_1007 (by decide) ?_
          refine lv_isub hx hb dL_law_1008 ?_
          refine lv_icmp_lt (tgt := 1047) hx hb dL_law_1009 (by decide) (fun c42 => ?_) (fun c42 => ?_)
          · skip
            have hq := hq.1 c42
            refine lv_iconst (v := 0) hx hb dL_law_1047 (by decide) ?_
            exact hq.elim
          · skip
            have hq := hq.2 c42
            refine lv_aload_n hx hb dL_law_1012 rfl (lv_at hl 15 rfl) ?_
            refine lv_iload hx hb dL_law_1013 (lv_at hl 0 rfl) ?_
            refine lv_bipush (v := 7) hx hb dL_law_1015 (by decide) ?_
            obtain ⟨v43, e44, hq⟩ := hq
            refine l_callCi (v := v43) (g2 := g36) (As := [.int v34, .int 7]) ⟨hx, hb, hml, hown, hts⟩ (vx_ofR (kX6_ofLot l D cy hI hl0 g36 _ v34 7 hv_g36) e44) (cwV 2 hts gL_law_X6_ofLot rfl rfl rfl (by decide +kernel) ⟨Nat.le_of_ble_eq_true rfl, Nat.le_of_ble_eq_true rfl⟩) hB hL hS rfl hl.1 (Nat.le_of_ble_eq_true rfl) dL_law_1017 ⟨by refine Nat.le_trans (m := 400000) ?_ rc_c; show cells + _ + _ + _ + _ + _ + _ + _ + _ + _ ≤ 400000; omega, by refine Nat.le_trans (m := 4000000) ?_ rc_s; show slots + _ + _ + _ + _ + _ + _ + _ + _ + _ ≤ 4000000; omega⟩ (fun H locs hL hS => ?_)
            refine lv_iload hx hb dL_law_1020 (lv_at hl 1 rfl) ?_
            refine lv_icmp_ne (tgt := 1047) hx hb dL_law_1022 (by decide) (fun c45 => ?_) (fun c45 => ?_)
            · skip
              have hq := hq.2 c45
              refine lv_iconst (v := 0) hx hb dL_law_1047 (by decide) ?_
              exact hq.elim
            · skip
              have hq := hq.1 c45
              refine lv_aload_n hx hb dL_law_1025 rfl (lv_at hl 15 rfl) ?_
              refine lv_iload hx hb dL_law_1026 (lv_at hl 5 rfl) ?_
              refine lv_iconst (v := 2) hx hb dL_law_1028 (by decide) ?_
              obtain ⟨v46, e47, hq⟩ := hq
              refine l_callCi (v := v46) (g2 := g36) (As := [.int be, .int 2]) ⟨hx, hb, hml, hown, hts⟩ (vx_ofR (kX6_ofBed l D cy hI hl0 g36 _ be 2 hv_g36) e47) (cwV 2 hts gL_law_X6_ofBed rfl rfl rfl (by decide +kernel) ⟨Nat.le_of_ble_eq_true rfl, Nat.le_of_ble_eq_true rfl⟩) hB hL hS rfl hl.1 (Nat.le_of_ble_eq_true rfl) dL_law_1029 ⟨by refine Nat.le_trans (m := 400000) ?_ rc_c; show cells + _ + _ + _ + _ + _ + _ + _ + _ + _ + _ ≤ 400000; omega, by refine Nat.le_trans (m := 4000000) ?_ rc_s; show slots + _ + _ + _ + _ + _ + _ + _ + _ + _ + _ ≤ 4000000; omega⟩ (fun H locs hL hS => ?_)
              refine lv_if_ne (tgt := 1047) hx hb dL_law_1032 (by decide) (fun c48 => ?_) (fun c48 => ?_)
              · skip
                have hq := hq.2 c48
                refine lv_iconst (v := 0) hx hb dL_law_1047 (by decide) ?_
                exact hq.elim
              · skip
                have hq := hq.1 c48
                refine lv_aload_n hx hb dL_law_1035 rfl (lv_at hl 15 rfl) ?_
                refine lv_iload hx hb dL_law_1036 (lv_at hl 0 rfl) ?_
                refine lv_bipush (v := 9) hx hb dL_law_1038 (by decide) ?_
                obtain ⟨v49, e50, hq⟩ := hq
                refine l_callCi (v := v49) (g2 := g36) (As := [.int v34, .int 9]) ⟨hx, hb, hml, hown, hts⟩ (vx_ofR (kX6_ofLot l D cy hI hl0 g36 _ v34 9 hv_g36) e50) (cwV 2 hts gL_law_X6_ofLot rfl rfl rfl (by decide +kernel) ⟨Nat.le_of_ble_eq_true rfl, Nat.le_of_ble_eq_true rfl⟩) hB hL hS rfl hl.1 (Nat.le_of_ble_eq_true rfl) dL_law_1040 ⟨by refine Nat.le_trans (m := 400000) ?_ rc_c; show cells + _ + _ + _ + _ + _ + _ + _ + _ + _ + _ + _ ≤ 400000; omega, by refine Nat.le_trans (m := 4000000) ?_ rc_s; show slots + _ + _ + _ + _ + _ + _ + _ + _ + _ + _ + _ ≤ 4000000; omega⟩ (fun H locs hL hS => ?_)
                refine lv_iconst (v := (-1)) hx hb dL_law_1043 (by decide) ?_
                refine lv_icmp_eq (tgt := 1388) hx hb dL_law_1044 (by decide) (fun c51 => ?_) (fun c51 => ?_)
                · skip
                  have hq := hq.1 c51
                  refine W.widen (k := cells + 40) (n := slots + 400) (by omega) (by omega) ?_
                  exact kk g36 gn pr _ _ ls hL hS (lv_sub hl [10, 11, 12, 13, 14, 15, 16] rfl) hq
                · skip
                  have hq := hq.2 c51
                  refine lv_iconst (v := 0) hx hb dL_law_1047 (by decide) ?_
                  exact hq.elim
    · skip
      have hq := hq.1 c6
      refine lv_goto (tgt := 1388) hx hb dL_law_933 (by decide) ?_
      refine W.widen (k := cells + 40) (n := slots + 400) (by omega) (by omega) ?_
      exact kk g gn pr _ _ ls hL hS (lv_sub hl [6, 7, 8, 9, 10, 11, 12] rfl) hq
def VC_C1049 (L : Nat) (xs : Nat → Int32) (g : Gd) (F : Int32) (B : Int32) (gn : Int32) (pr : Int32) (tm : Int32) (x : Int32) (fm : Int32) (bk : Int32) (tk : Int32) (be : Int32) (lt : Int32) (K : Gd → Int32 → Int32 → Prop) : Prop := ((lt < 0 → K g gn pr) ∧ (¬ lt < 0 → (IvC g ∧ (∃ (v2 : Int32), fX6_ofLot g lt 2 = (0, v2) ∧ ((v2 = 1 → (∃ (v5 : Int32) (g7 : Gd), fX6_cup g lt tk = (0, v5, g7) ∧ (IvC g7 ∧ (∃ (v8 : Int32), fX6_ofLot g7 lt 10 = (0, v8) ∧ ((v5 = v8 → K g7 gn pr) ∧ (¬ v5 = v8 → False)))))) ∧ (¬ v2 = 1 → K g gn pr))))))
set_option maxRecDepth 100000 in
set_option maxHeartbeats 8000000 in
theorem W_C1049 (C : LC p l s m c b L xs) (hI : cI ad) (hB : LWB D cy s) (hL : LWS D cy ad s g H) (hS : va_S (LA0 s) s.heap H locs) (hc : cells + 40 ≤ 400000) (hs : slots + 400 ≤ 4000000) {F B gn pr tm x fm bk tk be lt : Int32} (hl : lv_has ls 17 [(12, .int lt), (11, .int be), (10, .int tk), (9, .int bk), (8, .int fm), (7, .int x), (6, .int tm), (5, .int pr), (4, .int gn), (3, .int B), (2, .int F), (1, .ref (ad 0 0)), (0, .ref b)]) {K : Gd → Int32 → Int32 → Prop} (hq : VC_C1049 L xs g F B gn pr tm x fm bk tk be lt K)
    (kk : ∀ (k0 : Gd) (k1 : Int32) (k2 : Int32) (H1 : Heap) (locs1 : List Loc) (ls1 : Array Slot), LWS D cy ad s k0 H1 → va_S (LA0 s) s.heap H1 locs1 → lv_has ls1 17 [(6, .int tm), (5, .int k2), (4, .int k1), (3, .int B), (2, .int F), (1, .ref (ad 0 0)), (0, .ref b)] → K k0 k1 k2 → W p l e room_1 s m #[Value.ref b] below meth c H1 locs1 (cells + 40) (slots + 400) Q (F0 m 1388 ls1 [])) : W p l e room_1 s m #[Value.ref b] below meth c H locs cells slots Q (F0 m 1049 ls []) := by
  have hx := C.hx; have hb := C.hb; have hown := C.own; have hts := C.ts; have hml := C.ml; have hl0 := C.st
  unfold VC_C1049 at hq
  refine lv_iload hx hb dL_law_1049 (lv_at hl 0 rfl) ?_
  refine lv_if_lt (tgt := 1388) hx hb dL_law_1051 (by decide) (fun c1 => ?_) (fun c1 => ?_)
  · skip
    have hq := hq.1 c1
    refine W.widen (k := cells + 40) (n := slots + 400) (by omega) (by omega) ?_
    exact kk g gn pr _ _ ls hL hS (lv_sub hl [6, 7, 8, 9, 10, 11, 12] rfl) hq
  · skip
    have hq := hq.2 c1
    refine lv_aload_n hx hb dL_law_1054 rfl (lv_at hl 11 rfl) ?_
    refine lv_iload hx hb dL_law_1055 (lv_at hl 0 rfl) ?_
    refine lv_iconst (v := 2) hx hb dL_law_1057 (by decide) ?_
    obtain ⟨hv_g, hq⟩ := hq
    obtain ⟨v2, e3, hq⟩ := hq
    refine l_callCi (v := v2) (g2 := g) (As := [.int lt, .int 2]) ⟨hx, hb, hml, hown, hts⟩ (vx_ofR (kX6_ofLot l D cy hI hl0 g _ lt 2 hv_g) e3) (cwV 2 hts gL_law_X6_ofLot rfl rfl rfl (by decide +kernel) ⟨Nat.le_of_ble_eq_true rfl, Nat.le_of_ble_eq_true rfl⟩) hB hL hS rfl hl.1 (Nat.le_of_ble_eq_true rfl) dL_law_1058 ⟨by refine Nat.le_trans (m := 400000) ?_ rc_c; show cells + _ ≤ 400000; omega, by refine Nat.le_trans (m := 4000000) ?_ rc_s; show slots + _ ≤ 4000000; omega⟩ (fun H locs hL hS => ?_)
    refine lv_iconst (v := 1) hx hb dL_law_1061 (by decide) ?_
    refine lv_icmp_ne (tgt := 1388) hx hb dL_law_1062 (by decide) (fun c4 => ?_) (fun c4 => ?_)
    · skip
      have hq := hq.2 c4
      refine W.widen (k := cells + 40) (n := slots + 400) (by omega) (by omega) ?_
      exact kk g gn pr _ _ ls hL hS (lv_sub hl [6, 7, 8, 9, 10, 11, 12] rfl) hq
    · skip
      have hq := hq.1 c4
      refine lv_aload_n hx hb dL_law_1065 rfl (lv_at hl 11 rfl) ?_
      refine lv_iload hx hb dL_law_1066 (lv_at hl 0 rfl) ?_
      refine lv_iload hx hb dL_law_1068 (lv_at hl 2 rfl) ?_
      obtain ⟨v5, g7, e6, hq⟩ := hq
      refine l_callCi (v := v5) (g2 := g7) (As := [.int lt, .int tk]) ⟨hx, hb, hml, hown, hts⟩ (vx_ofT (kX6_cup l D cy hI hl0 g _ lt tk hv_g) e6) (cwV 2 hts gL_law_X6_cup rfl rfl rfl (by decide +kernel) ⟨Nat.le_of_ble_eq_true rfl, Nat.le_of_ble_eq_true rfl⟩) hB hL hS rfl hl.1 (Nat.le_of_ble_eq_true rfl) dL_law_1070 ⟨by refine Nat.le_trans (m := 400000) ?_ rc_c; show cells + _ + _ ≤ 400000; omega, by refine Nat.le_trans (m := 4000000) ?_ rc_s; show slots + _ + _ ≤ 4000000; omega⟩ (fun H locs hL hS => ?_)
      refine lv_aload_n hx hb dL_law_1073 rfl (lv_at hl 11 rfl) ?_
      refine lv_iload hx hb dL_law_1074 (lv_at hl 0 rfl) ?_
      refine lv_bipush (v := 10) hx hb dL_law_1076 (by decide) ?_
      obtain ⟨hv_g7, hq⟩ := hq
      obtain ⟨v8, e9, hq⟩ := hq
      refine l_callCi (v := v8) (g2 := g7) (As := [.int lt, .int 10]) ⟨hx, hb, hml, hown, hts⟩ (vx_ofR (kX6_ofLot l D cy hI hl0 g7 _ lt 10 hv_g7) e9) (cwV 2 hts gL_law_X6_ofLot rfl rfl rfl (by decide +kernel) ⟨Nat.le_of_ble_eq_true rfl, Nat.le_of_ble_eq_true rfl⟩) hB hL hS rfl hl.1 (Nat.le_of_ble_eq_true rfl) dL_law_1078 ⟨by refine Nat.le_trans (m := 400000) ?_ rc_c; show cells + _ + _ + _ ≤ 400000; omega, by refine Nat.le_trans (m := 4000000) ?_ rc_s; show slots + _ + _ + _ ≤ 4000000; omega⟩ (fun H locs hL hS => ?_)
      refine lv_icmp_eq (tgt := 1388) hx hb dL_law_1081 (by decide) (fun c10 => ?_) (fun c10 => ?_)
      · skip
        have hq := hq.1 c10
        refine W.widen (k := cells + 40) (n := slots + 400) (by omega) (by omega) ?_
        exact kk g7 gn pr _ _ ls hL hS (lv_sub hl [6, 7, 8, 9, 10, 11, 12] rfl) hq
      · skip
        have hq := hq.2 c10
        refine lv_iconst (v := 0) hx hb dL_law_1084 (by decide) ?_
        exact hq.elim
def VC_C1086 (L : Nat) (xs : Nat → Int32) (g : Gd) (F : Int32) (B : Int32) (gn : Int32) (pr : Int32) (tm : Int32) (x : Int32) (fm : Int32) (bk : Int32) (tk : Int32) (be : Int32) (lt : Int32) (K : Gd → Int32 → Int32 → Prop) : Prop := (IvC g ∧ (∃ (v1 : Int32) (g3 : Gd), fX6_bestBlend g = (v1, g3) ∧ ((v1 < 0 → K g3 gn pr) ∧ (¬ v1 < 0 → (((fL_below (x >>> (3 &&& 31)) 3) = 0 → K g3 gn pr) ∧ (¬ (fL_below (x >>> (3 &&& 31)) 3) = 0 → (IvC g3 ∧ (∃ (v6 : Int32), fX6_ofLot g3 (v1 / 20) 0 = (0, v6) ∧ (∃ (v8 : Int32), fX6_ofLot g3 (v1 - v1 / 20 * 20) 0 = (0, v8) ∧ (∃ (v10 : Int32) (g12 : Gd), fX6_blend g3 (v1 / 20) (v1 - v1 / 20 * 20) = (0, v10, g12) ∧ ((v10 = (v6 + v8) → (IvC g12 ∧ (∃ (v14 : Int32), fX6_ofLot g12 (v1 - v1 / 20 * 20) 2 = (0, v14) ∧ ((v14 = 0 → (∃ (v17 : Int32), fX6_ofLot g12 (v1 / 20) 9 = (0, v17) ∧ ((v17 = (-1) → K g12 gn pr) ∧ (¬ v17 = (-1) → False)))) ∧ (¬ v14 = 0 → False))))) ∧ (¬ v10 = (v6 + v8) → False))))))))))))
set_option maxRecDepth 100000 in
set_option maxHeartbeats 8000000 in
theorem W_C1086 (C : LC p l s m c b L xs) (hI : cI ad) (hB : LWB D cy s) (hL : LWS D cy ad s g H) (hS : va_S (LA0 s) s.heap H locs) (hc : cells + 40 ≤ 400000) (hs : slots + 400 ≤ 4000000) {F B gn pr tm x fm bk tk be lt : Int32} (hl : lv_has ls 17 [(12, .int lt), (11, .int be), (10, .int tk), (9, .int bk), (8, .int fm), (7, .int x), (6, .int tm), (5, .int pr), (4, .int gn), (3, .int B), (2, .int F), (1, .ref (ad 0 0)), (0, .ref b)]) {K : Gd → Int32 → Int32 → Prop} (hq : VC_C1086 L xs g F B gn pr tm x fm bk tk be lt K)
    (kk : ∀ (k0 : Gd) (k1 : Int32) (k2 : Int32) (H1 : Heap) (locs1 : List Loc) (ls1 : Array Slot), LWS D cy ad s k0 H1 → va_S (LA0 s) s.heap H1 locs1 → lv_has ls1 17 [(6, .int tm), (5, .int k2), (4, .int k1), (3, .int B), (2, .int F), (1, .ref (ad 0 0)), (0, .ref b)] → K k0 k1 k2 → W p l e room_1 s m #[Value.ref b] below meth c H1 locs1 (cells + 40) (slots + 400) Q (F0 m 1388 ls1 [])) : W p l e room_1 s m #[Value.ref b] below meth c H locs cells slots Q (F0 m 1086 ls []) := by
  have hx := C.hx; have hb := C.hb; have hown := C.own; have hts := C.ts; have hml := C.ml; have hl0 := C.st
  unfold VC_C1086 at hq
  refine lv_aload_n hx hb dL_law_1086 rfl (lv_at hl 11 rfl) ?_
  obtain ⟨hv_g, hq⟩ := hq
  obtain ⟨v1, g3, e2, hq⟩ := hq
  refine l_callCi (v := v1) (g2 := g3) (As := []) ⟨hx, hb, hml, hown, hts⟩ (met_P (kX6_bestBlend l D cy hI g _  hv_g) e2) (cwV 0 hts gL_law_X6_bestBlend rfl rfl rfl (by decide +kernel) ⟨Nat.le_of_ble_eq_true rfl, Nat.le_of_ble_eq_true rfl⟩) hB hL hS rfl hl.1 (Nat.le_of_ble_eq_true rfl) dL_law_1087 ⟨by refine Nat.le_trans (m := 400000) ?_ rc_c; show cells + _ ≤ 400000; omega, by refine Nat.le_trans (m := 4000000) ?_ rc_s; show slots + _ ≤ 4000000; omega⟩ (fun H locs hL hS => ?_)
  refine lv_istore (lv' := [(13, .int v1), (12, .int lt), (11, .int be), (10, .int tk), (9, .int bk), (8, .int fm), (7, .int x), (6, .int tm), (5, .int pr), (4, .int gn), (3, .int B), (2, .int F), (1, .ref (ad 0 0)), (0, .ref b)]) hx hb dL_law_1090 hl (by decide) rfl (fun ls hl => ?_)
  refine lv_iload hx hb dL_law_1092 (lv_at hl 0 rfl) ?_
  refine lv_if_lt (tgt := 1388) hx hb dL_law_1094 (by decide) (fun c4 => ?_) (fun c4 => ?_)
  · skip
    have hq := hq.1 c4
    refine W.widen (k := cells + 40) (n := slots + 400) (by omega) (by omega) ?_
    exact kk g3 gn pr _ _ ls hL hS (lv_sub hl [7, 8, 9, 10, 11, 12, 13] rfl) hq
  · skip
    have hq := hq.2 c4
    refine lv_iload hx hb dL_law_1097 (lv_at hl 6 rfl) ?_
    refine lv_iconst (v := 3) hx hb dL_law_1099 (by decide) ?_
    refine lv_ishr hx hb dL_law_1100 ?_
    refine lv_iconst (v := 3) hx hb dL_law_1101 (by decide) ?_
    refine l_callN (v := fL_below (x >>> (3 &&& 31)) 3) (As := [.int (x >>> (3 &&& 31)), .int 3]) ⟨hx, hb, hml, hown, hts⟩ (kL_below l (x >>> (3 &&& 31)) 3 (by decide)) below_blind (fun _ _ _ => trivial) (va_cwS 2 hts gL_law_L_below rfl rfl rfl (by decide +kernel) ⟨Nat.le_of_ble_eq_true rfl, Nat.le_of_ble_eq_true rfl⟩) hB hL hS rfl hl.1 (Nat.le_of_ble_eq_true rfl) dL_law_1102 ⟨by refine Nat.le_trans (m := 400000) ?_ rc_c; show cells + _ + _ ≤ 400000; omega, by refine Nat.le_trans (m := 4000000) ?_ rc_s; show slots + _ + _ ≤ 4000000; omega⟩ (fun H locs hL hS => ?_)
    refine lv_if_ne (tgt := 1111) hx hb dL_law_1105 (by decide) (fun c5 => ?_) (fun c5 => ?_)
    · skip
      have hq := hq.2 c5
      refine lv_aload_n hx hb dL_law_1111 rfl (lv_at hl 12 rfl) ?_
      refine lv_iload hx hb dL_law_1112 (lv_at hl 0 rfl) ?_
      refine lv_bipush (v := 20) hx hb dL_law_1114 (by decide) ?_
      refine lv_idiv hx hb dL_law_1116 (by decide) ?_
      refine lv_iconst (v := 0) hx hb dL_law_1117 (by decide) ?_
      obtain ⟨hv_g3, hq⟩ := hq
      obtain ⟨v6, e7, hq⟩ := hq
      refine l_callCi (v := v6) (g2 := g3) (As := [.int (v1 / 20), .int 0]) ⟨hx, hb, hml, hown, hts⟩ (vx_ofR (kX6_ofLot l D cy hI hl0 g3 _ (v1 / 20) 0 hv_g3) e7) (cwV 2 hts gL_law_X6_ofLot rfl rfl rfl (by decide +kernel) ⟨Nat.le_of_ble_eq_true rfl, Nat.le_of_ble_eq_true rfl⟩) hB hL hS rfl hl.1 (Nat.le_of_ble_eq_true rfl) dL_law_1118 ⟨by refine Nat.le_trans (m := 400000) ?_ rc_c; show cells + _ + _ + _ ≤ 400000; omega, by refine Nat.le_trans (m := 4000000) ?_ rc_s; show slots + _ + _ + _ ≤ 4000000; omega⟩ (fun H locs hL hS => ?_)
      refine lv_aload_n hx hb dL_law_1121 rfl (lv_at hl 12 rfl) ?_
      refine lv_iload hx hb dL_law_1122 (lv_at hl 0 rfl) ?_
      refine lv_bipush (v := 20) hx hb dL_law_1124 (by decide) ?_
      refine lv_irem hx hb dL_law_1126 (by decide) ?_
      refine lv_iconst (v := 0) hx hb dL_law_1127 (by decide) ?_
      obtain ⟨v8, e9, hq⟩ := hq
      refine l_callCi (v := v8) (g2 := g3) (As := [.int (v1 - v1 / 20 * 20), .int 0]) ⟨hx, hb, hml, hown, hts⟩ (vx_ofR (kX6_ofLot l D cy hI hl0 g3 _ (v1 - v1 / 20 * 20) 0 hv_g3) e9) (cwV 2 hts gL_law_X6_ofLot rfl rfl rfl (by decide +kernel) ⟨Nat.le_of_ble_eq_true rfl, Nat.le_of_ble_eq_true rfl⟩) hB hL hS rfl hl.1 (Nat.le_of_ble_eq_true rfl) dL_law_1128 ⟨by refine Nat.le_trans (m := 400000) ?_ rc_c; show cells + _ + _ + _ + _ ≤ 400000; omega, by refine Nat.le_trans (m := 4000000) ?_ rc_s; show slots + _ + _ + _ + _ ≤ 4000000; omega⟩ (fun H locs hL hS => ?_)
      refine lv_iadd hx hb dL_law_1131 ?_
      refine lv_istore (lv' := [(14, .int (v6 + v8)), (13, .int v1), (12, .int lt), (11, .int be), (10, .int tk), (9, .int bk), (8, .int fm), (7, .int x), (6, .int tm), (5, .int pr), (4, .int gn), (3, .int B), (2, .int F), (1, .ref (ad 0 0)), (0, .ref b)]) hx hb dL_law_1132 hl (by decide) rfl (fun ls hl => ?_)
      refine lv_aload_n hx hb dL_law_1134 rfl (lv_at hl 13 rfl) ?_
      refine lv_iload hx hb dL_law_1135 (lv_at hl 1 rfl) ?_
      refine lv_bipush (v := 20) hx hb dL_law_1137 (by decide) ?_
      refine lv_idiv hx hb dL_law_1139 (by decide) ?_
      refine lv_iload hx hb dL_law_1140 (lv_at hl 1 rfl) ?_
      refine lv_bipush (v := 20) hx hb dL_law_1142 (by decide) ?_
      refine lv_irem hx hb dL_law_1144 (by decide) ?_
      obtain ⟨v10, g12, e11, hq⟩ := hq
      refine l_callCi (v := v10) (g2 := g12) (As := [.int (v1 / 20), .int (v1 - v1 / 20 * 20)]) ⟨hx, hb, hml, hown, hts⟩ (vx_ofT (kX6_blend l D cy hI hl0 g3 _ (v1 / 20) (v1 - v1 / 20 * 20) hv_g3) e11) (cwV 2 hts gL_law_X6_blend rfl rfl rfl (by decide +kernel) ⟨Nat.le_of_ble_eq_true rfl, Nat.le_of_ble_eq_true rfl⟩) hB hL hS rfl hl.1 (Nat.le_of_ble_eq_true rfl) dL_law_1145 ⟨by refine Nat.le_trans (m := 400000) ?_ rc_c; show cells + _ + _ + _ + _ + _ ≤ 400000; omega, by refine Nat.le_trans (m := 4000000) ?_ rc_s; show slots + _ + _ + _ + _ + _ ≤ 4000000; omega⟩ (fun H locs hL hS => ?_)
      refine lv_iload hx hb dL_law_1148 (lv_at hl 0 rfl) ?_
      refine lv_icmp_ne (tgt := 1181) hx hb dL_law_1150 (by decide) (fun c13 => ?_) (fun c13 => ?_)
      · skip
        have hq := hq.2 c13
        refine lv_iconst (v := 0) hx hb dL_law_1181 (by decide) ?_
        exact hq.elim
      · skip
        have hq := hq.1 c13
        refine lv_aload_n hx hb dL_law_1153 rfl (lv_at hl 13 rfl) ?_
        refine lv_iload hx hb dL_law_1154 (lv_at hl 1 rfl) ?_
        refine lv_bipush (v := 20) hx hb dL_law_1156 (by decide) ?_
        refine lv_irem hx hb dL_law_1158 (by decide) ?_
        refine lv_iconst (v := 2) hx hb dL_law_1159 (by decide) ?_
        obtain ⟨hv_g12, hq⟩ := hq
        obtain ⟨v14, e15, hq⟩ := hq
        refine l_callCi (v := v14) (g2 := g12) (As := [.int (v1 - v1 / 20 * 20), .int 2]) ⟨hx, hb, hml, hown, hts⟩ (vx_ofR (kX6_ofLot l D cy hI hl0 g12 _ (v1 - v1 / 20 * 20) 2 hv_g12) e15) (cwV 2 hts gL_law_X6_ofLot rfl rfl rfl (by decide +kernel) ⟨Nat.le_of_ble_eq_true rfl, Nat.le_of_ble_eq_true rfl⟩) hB hL hS rfl hl.1 (Nat.le_of_ble_eq_true rfl) dL_law_1160 ⟨by refine Nat.le_trans (m := 400000) ?_ rc_c; show cells + _ + _ + _ + _ + _ + _ ≤ 400000; omega, by refine Nat.le_trans (m := 4000000) ?_ rc_s; show slots + _ + _ + _ + _ + _ + _ ≤ 4000000; omega⟩ (fun H locs hL hS => ?_)
        refine lv_if_ne (tgt := 1181) hx hb dL_law_1163 (by decide) (fun c16 => ?_) (fun c16 => ?_)
        · skip
          have hq := hq.2 c16
          refine lv_iconst (v := 0) hx hb dL_law_1181 (by decide) ?_
          exact hq.elim
        · skip
          have hq := hq.1 c16
          refine lv_aload_n hx hb dL_law_1166 rfl (lv_at hl 13 rfl) ?_
          refine lv_iload hx hb dL_law_1167 (lv_at hl 1 rfl) ?_
          refine lv_bipush (v := 20) hx hb dL_law_1169 (by decide) ?_
          refine lv_idiv hx hb dL_law_1171 (by decide) ?_
          refine lv_bipush (v := 9) hx hb dL_law_1172 (by decide) ?_
          obtain ⟨v17, e18, hq⟩ := hq
          refine l_callCi (v := v17) (g2 := g12) (As := [.int (v1 / 20), .int 9]) ⟨hx, hb, hml, hown, hts⟩ (vx_ofR (kX6_ofLot l D cy hI hl0 g12 _ (v1 / 20) 9 hv_g12) e18) (cwV 2 hts gL_law_X6_ofLot rfl rfl rfl (by decide +kernel) ⟨Nat.le_of_ble_eq_true rfl, Nat.le_of_ble_eq_true rfl⟩) hB hL hS rfl hl.1 (Nat.le_of_ble_eq_true rfl) dL_law_1174 ⟨by refine Nat.le_trans (m := 400000) ?_ rc_c; show cells + _ + _ + _ + _ + _ + _ + _ ≤ 400000; omega, by refine Nat.le_trans (m := 4000000) ?_ rc_s; show slots + _ + _ + _ + _ + _ + _ + _ ≤ 4000000; omega⟩ (fun H locs hL hS => ?_)
          refine lv_iconst (v := (-1)) hx hb dL_law_1177 (by decide) ?_
          refine lv_icmp_eq (tgt := 1388) hx hb dL_law_1178 (by decide) (fun c19 => ?_) (fun c19 => ?_)
          · skip
            have hq := hq.1 c19
            refine W.widen (k := cells + 40) (n := slots + 400) (by omega) (by omega) ?_
            exact kk g12 gn pr _ _ ls hL hS (lv_sub hl [8, 9, 10, 11, 12, 13, 14] rfl) hq
          · skip
            have hq := hq.2 c19
            refine lv_iconst (v := 0) hx hb dL_law_1181 (by decide) ?_
            exact hq.elim
    · skip
      have hq := hq.1 c5
      refine lv_goto (tgt := 1388) hx hb dL_law_1108 (by decide) ?_
      refine W.widen (k := cells + 40) (n := slots + 400) (by omega) (by omega) ?_
      exact kk g3 gn pr _ _ ls hL hS (lv_sub hl [7, 8, 9, 10, 11, 12, 13] rfl) hq
def VC_C1183 (L : Nat) (xs : Nat → Int32) (g : Gd) (F : Int32) (B : Int32) (gn : Int32) (pr : Int32) (tm : Int32) (x : Int32) (fm : Int32) (bk : Int32) (tk : Int32) (be : Int32) (lt : Int32) (K : Gd → Int32 → Int32 → Prop) : Prop := ((lt < 0 → K g gn pr) ∧ (¬ lt < 0 → (IvC g ∧ (∃ (v2 : Int32), fX6_ofLot g lt 2 = (0, v2) ∧ ((v2 = 0 → K g gn pr) ∧ (¬ v2 = 0 → (∃ (v5 : Int32), fX6_ofLot g lt 9 = (0, v5) ∧ ((0 ≤ v5 → (∃ (v8 : Int32), fX6_ofLot g lt 0 = (0, v8) ∧ (∃ (v10 : Int32), fX6_ofLot g lt 9 = (0, v10) ∧ ((v10 < 80 → (∃ (v13 : Int32), fX6_many g 6 = (0, v13) ∧ (∃ (v15 : Int32) (g17 : Gd), fX6_sell g lt ((1 : Int32) + (fL_below (x >>> (3 &&& 31)) 200)) 1 = (0, v15, g17) ∧ (IvC g17 ∧ (∃ (v18 : Int32), fX6_many g17 6 = (0, v18) ∧ ((v15 = (v18 - v13) → (∃ (v21 : Int32), fX6_ofLot g17 lt 2 = (0, v21) ∧ ((v21 = 0 → K g17 (gn + ((v8 * ((1 : Int32) + (fL_below (x >>> (3 &&& 31)) 200))) + 0)) pr) ∧ (¬ v21 = 0 → False)))) ∧ (¬ v15 = (v18 - v13) → False))))))) ∧ (¬ v10 < 80 → (∃ (v24 : Int32), fX6_ofLot g lt 3 = (0, v24) ∧ (∃ (v26 : Int32), fX6_many g 6 = (0, v26) ∧ (∃ (v28 : Int32) (g30 : Gd), fX6_sell g lt ((1 : Int32) + (fL_below (x >>> (3 &&& 31)) 200)) 1 = (0, v28, g30) ∧ (IvC g30 ∧ (∃ (v31 : Int32), fX6_many g30 6 = (0, v31) ∧ ((v28 = (v31 - v26) → (∃ (v34 : Int32), fX6_ofLot g30 lt 2 = (0, v34) ∧ ((v34 = 0 → K g30 (gn + ((v8 * ((1 : Int32) + (fL_below (x >>> (3 &&& 31)) 200))) + (10 * v24))) pr) ∧ (¬ v34 = 0 → False)))) ∧ (¬ v28 = (v31 - v26) → False)))))))))))) ∧ (¬ 0 ≤ v5 → K g gn pr)))))))))
set_option maxRecDepth 100000 in
set_option maxHeartbeats 8000000 in
theorem W_C1183 (C : LC p l s m c b L xs) (hI : cI ad) (hB : LWB D cy s) (hL : LWS D cy ad s g H) (hS : va_S (LA0 s) s.heap H locs) (hc : cells + 40 ≤ 400000) (hs : slots + 400 ≤ 4000000) {F B gn pr tm x fm bk tk be lt : Int32} (hl : lv_has ls 17 [(12, .int lt), (11, .int be), (10, .int tk), (9, .int bk), (8, .int fm), (7, .int x), (6, .int tm), (5, .int pr), (4, .int gn), (3, .int B), (2, .int F), (1, .ref (ad 0 0)), (0, .ref b)]) {K : Gd → Int32 → Int32 → Prop} (hq : VC_C1183 L xs g F B gn pr tm x fm bk tk be lt K)
    (kk : ∀ (k0 : Gd) (k1 : Int32) (k2 : Int32) (H1 : Heap) (locs1 : List Loc) (ls1 : Array Slot), LWS D cy ad s k0 H1 → va_S (LA0 s) s.heap H1 locs1 → lv_has ls1 17 [(6, .int tm), (5, .int k2), (4, .int k1), (3, .int B), (2, .int F), (1, .ref (ad 0 0)), (0, .ref b)] → K k0 k1 k2 → W p l e room_1 s m #[Value.ref b] below meth c H1 locs1 (cells + 40) (slots + 400) Q (F0 m 1388 ls1 [])) : W p l e room_1 s m #[Value.ref b] below meth c H locs cells slots Q (F0 m 1183 ls []) := by
  have hx := C.hx; have hb := C.hb; have hown := C.own; have hts := C.ts; have hml := C.ml; have hl0 := C.st
  unfold VC_C1183 at hq
  refine lv_iload hx hb dL_law_1183 (lv_at hl 0 rfl) ?_
  refine lv_if_lt (tgt := 1388) hx hb dL_law_1185 (by decide) (fun c1 => ?_) (fun c1 => ?_)
  · skip
    have hq := hq.1 c1
    refine W.widen (k := cells + 40) (n := slots + 400) (by omega) (by omega) ?_
    exact kk g gn pr _ _ ls hL hS (lv_sub hl [6, 7, 8, 9, 10, 11, 12] rfl) hq
  · skip
    have hq := hq.2 c1
    refine lv_aload_n hx hb dL_law_1188 rfl (lv_at hl 11 rfl) ?_
    refine lv_iload hx hb dL_law_1189 (lv_at hl 0 rfl) ?_
    refine lv_iconst (v := 2) hx hb dL_law_1191 (by decide) ?_
    obtain ⟨hv_g, hq⟩ := hq
    obtain ⟨v2, e3, hq⟩ := hq
    refine l_callCi (v := v2) (g2 := g) (As := [.int lt, .int 2]) ⟨hx, hb, hml, hown, hts⟩ (vx_ofR (kX6_ofLot l D cy hI hl0 g _ lt 2 hv_g) e3) (cwV 2 hts gL_law_X6_ofLot rfl rfl rfl (by decide +kernel) ⟨Nat.le_of_ble_eq_true rfl, Nat.le_of_ble_eq_true rfl⟩) hB hL hS rfl hl.1 (Nat.le_of_ble_eq_true rfl) dL_law_1192 ⟨by refine Nat.le_trans (m := 400000) ?_ rc_c; show cells + _ ≤ 400000; omega, by refine Nat.le_trans (m := 4000000) ?_ rc_s; show slots + _ ≤ 4000000; omega⟩ (fun H locs hL hS => ?_)
    refine lv_if_eq (tgt := 1388) hx hb dL_law_1195 (by decide) (fun c4 => ?_) (fun c4 => ?_)
    · skip
      have hq := hq.1 c4
      refine W.widen (k := cells + 40) (n := slots + 400) (by omega) (by omega) ?_
      exact kk g gn pr _ _ ls hL hS (lv_sub hl [6, 7, 8, 9, 10, 11, 12] rfl) hq
    · skip
      have hq := hq.2 c4
      refine lv_aload_n hx hb dL_law_1198 rfl (lv_at hl 11 rfl) ?_
      refine lv_iload hx hb dL_law_1199 (lv_at hl 0 rfl) ?_
      refine lv_bipush (v := 9) hx hb dL_law_1201 (by decide) ?_
      obtain ⟨v5, e6, hq⟩ := hq
      refine l_callCi (v := v5) (g2 := g) (As := [.int lt, .int 9]) ⟨hx, hb, hml, hown, hts⟩ (vx_ofR (kX6_ofLot l D cy hI hl0 g _ lt 9 hv_g) e6) (cwV 2 hts gL_law_X6_ofLot rfl rfl rfl (by decide +kernel) ⟨Nat.le_of_ble_eq_true rfl, Nat.le_of_ble_eq_true rfl⟩) hB hL hS rfl hl.1 (Nat.le_of_ble_eq_true rfl) dL_law_1203 ⟨by refine Nat.le_trans (m := 400000) ?_ rc_c; show cells + _ + _ ≤ 400000; omega, by refine Nat.le_trans (m := 4000000) ?_ rc_s; show slots + _ + _ ≤ 4000000; omega⟩ (fun H locs hL hS => ?_)
      refine lv_if_ge (tgt := 1212) hx hb dL_law_1206 (by decide) (fun c7 => ?_) (fun c7 => ?_)
      · skip
        have hq := hq.1 c7
        refine lv_iconst (v := 1) hx hb dL_law_1212 (by decide) ?_
        refine lv_iload hx hb dL_law_1213 (lv_at hl 5 rfl) ?_
        refine lv_iconst (v := 3) hx hb dL_law_1215 (by decide) ?_
        refine lv_ishr hx hb dL_law_1216 ?_
        refine lv_sipush (v := 200) hx hb dL_law_1217 (by decide) ?_
        refine l_callN (v := fL_below (x >>> (3 &&& 31)) 200) (As := [.int (x >>> (3 &&& 31)), .int 200]) ⟨hx, hb, hml, hown, hts⟩ (kL_below l (x >>> (3 &&& 31)) 200 (by decide)) below_blind (fun _ _ _ => trivial) (va_cwS 2 hts gL_law_L_below rfl rfl rfl (by decide +kernel) ⟨Nat.le_of_ble_eq_true rfl, Nat.le_of_ble_eq_true rfl⟩) hB hL hS rfl hl.1 (Nat.le_of_ble_eq_true rfl) dL_law_1220 ⟨by refine Nat.le_trans (m := 400000) ?_ rc_c; show cells + _ + _ + _ ≤ 400000; omega, by refine Nat.le_trans (m := 4000000) ?_ rc_s; show slots + _ + _ + _ ≤ 4000000; omega⟩ (fun H locs hL hS => ?_)
        refine lv_iadd hx hb dL_law_1223 ?_
        refine lv_istore (lv' := [(13, .int ((1 : Int32) + (fL_below (x >>> (3 &&& 31)) 200))), (12, .int lt), (11, .int be), (10, .int tk), (9, .int bk), (8, .int fm), (7, .int x), (6, .int tm), (5, .int pr), (4, .int gn), (3, .int B), (2, .int F), (1, .ref (ad 0 0)), (0, .ref b)]) hx hb dL_law_1224 hl (by decide) rfl (fun ls hl => ?_)
        refine lv_iload hx hb dL_law_1226 (lv_at hl 9 rfl) ?_
        refine lv_aload_n hx hb dL_law_1228 rfl (lv_at hl 12 rfl) ?_
        refine lv_iload hx hb dL_law_1229 (lv_at hl 1 rfl) ?_
        refine lv_iconst (v := 0) hx hb dL_law_1231 (by decide) ?_
        obtain ⟨v8, e9, hq⟩ := hq
        refine l_callCi (v := v8) (g2 := g) (As := [.int lt, .int 0]) ⟨hx, hb, hml, hown, hts⟩ (vx_ofR (kX6_ofLot l D cy hI hl0 g _ lt 0 hv_g) e9) (cwV 2 hts gL_law_X6_ofLot rfl rfl rfl (by decide +kernel) ⟨Nat.le_of_ble_eq_true rfl, Nat.le_of_ble_eq_true rfl⟩) hB hL hS rfl hl.1 (Nat.le_of_ble_eq_true rfl) dL_law_1232 ⟨by refine Nat.le_trans (m := 400000) ?_ rc_c; show cells + _ + _ + _ + _ ≤ 400000; omega, by refine Nat.le_trans (m := 4000000) ?_ rc_s; show slots + _ + _ + _ + _ ≤ 4000000; omega⟩ (fun H locs hL hS => ?_)
        refine lv_iload hx hb dL_law_1235 (lv_at hl 0 rfl) ?_
        refine lv_imul hx hb dL_law_1237 ?_
        refine lv_aload_n hx hb dL_law_1238 rfl (lv_at hl 12 rfl) ?_
        refine lv_iload hx hb dL_law_1239 (lv_at hl 1 rfl) ?_
        refine lv_bipush (v := 9) hx hb dL_law_1241 (by decide) ?_
        obtain ⟨v10, e11, hq⟩ := hq
        refine l_callCi (v := v10) (g2 := g) (As := [.int lt, .int 9]) ⟨hx, hb, hml, hown, hts⟩ (vx_ofR (kX6_ofLot l D cy hI hl0 g _ lt 9 hv_g) e11) (cwV 2 hts gL_law_X6_ofLot rfl rfl rfl (by decide +kernel) ⟨Nat.le_of_ble_eq_true rfl, Nat.le_of_ble_eq_true rfl⟩) hB hL hS rfl hl.1 (Nat.le_of_ble_eq_true rfl) dL_law_1243 ⟨by refine Nat.le_trans (m := 400000) ?_ rc_c; show cells + _ + _ + _ + _ + _ ≤ 400000; omega, by refine Nat.le_trans (m := 4000000) ?_ rc_s; show slots + _ + _ + _ + _ + _ ≤ 4000000; omega⟩ (fun H locs hL hS => ?_)
        refine lv_bipush (v := 80) hx hb dL_law_1246 (by decide) ?_
        refine lv_icmp_lt (tgt := 1264) hx hb dL_law_1248 (by decide) (fun c12 => ?_) (fun c12 => ?_)
        · skip
          have hq := hq.1 c12
          refine lv_iconst (v := 0) hx hb dL_law_1264 (by decide) ?_
          refine lv_iadd hx hb dL_law_1265 ?_
          refine lv_iadd hx hb dL_law_1266 ?_
          refine lv_istore (lv' := [(4, .int (gn + ((v8 * ((1 : Int32) + (fL_below (x >>> (3 &&& 31)) 200))) + 0))), (13, .int ((1 : Int32) + (fL_below (x >>> (3 &&& 31)) 200))), (12, .int lt), (11, .int be), (10, .int tk), (9, .int bk), (8, .int fm), (7, .int x), (6, .int tm), (5, .int pr), (3, .int B), (2, .int F), (1, .ref (ad 0 0)), (0, .ref b)]) hx hb dL_law_1267 hl (by decide) rfl (fun ls hl => ?_)
          refine lv_aload_n hx hb dL_law_1269 rfl (lv_at hl 12 rfl) ?_
          refine lv_bipush (v := 6) hx hb dL_law_1270 (by decide) ?_
          obtain ⟨v13, e14, hq⟩ := hq
          refine l_callCi (v := v13) (g2 := g) (As := [.int 6]) ⟨hx, hb, hml, hown, hts⟩ (vx_ofR (kX6_many l D cy hI hl0 g _ 6 hv_g) e14) (cwV 1 hts gL_law_X6_many rfl rfl rfl (by decide +kernel) ⟨Nat.le_of_ble_eq_true rfl, Nat.le_of_ble_eq_true rfl⟩) hB hL hS rfl hl.1 (Nat.le_of_ble_eq_true rfl) dL_law_1272 ⟨by refine Nat.le_trans (m := 400000) ?_ rc_c; show cells + _ + _ + _ + _ + _ + _ ≤ 400000; omega, by refine Nat.le_trans (m := 4000000) ?_ rc_s; show slots + _ + _ + _ + _ + _ + _ ≤ 4000000; omega⟩ (fun H locs hL hS => ?_)
          refine lv_istore (lv' := [(14, .int v13), (4, .int (gn + ((v8 * ((1 : Int32) + (fL_below (x >>> (3 &&& 31)) 200))) + 0))), (13, .int ((1 : Int32) + (fL_below (x >>> (3 &&& 31)) 200))), (12, .int lt), (11, .int be), (10, .int tk), (9, .int bk), (8, .int fm), (7, .int x), (6, .int tm), (5, .int pr), (3, .int B), (2, .int F), (1, .ref (ad 0 0)), (0, .ref b)]) hx hb dL_law_1275 hl (by decide) rfl (fun ls hl => ?_)
          refine lv_aload_n hx hb dL_law_1277 rfl (lv_at hl 13 rfl) ?_
          refine lv_iload hx hb dL_law_1278 (lv_at hl 3 rfl) ?_
          refine lv_iload hx hb dL_law_1280 (lv_at hl 2 rfl) ?_
          refine lv_iconst (v := 1) hx hb dL_law_1282 (by decide) ?_
          obtain ⟨v15, g17, e16, hq⟩ := hq
          refine l_callCi (v := v15) (g2 := g17) (As := [.int lt, .int ((1 : Int32) + (fL_below (x >>> (3 &&& 31)) 200)), .int 1]) ⟨hx, hb, hml, hown, hts⟩ (vx_ofT (kX6_sell l D cy hI hl0 g _ lt ((1 : Int32) + (fL_below (x >>> (3 &&& 31)) 200)) 1 hv_g) e16) (cwV 3 hts gL_law_X6_sell rfl rfl rfl (by decide +kernel) ⟨Nat.le_of_ble_eq_true rfl, Nat.le_of_ble_eq_true rfl⟩) hB hL hS rfl hl.1 (Nat.le_of_ble_eq_true rfl) dL_law_1283 ⟨by refine Nat.le_trans (m := 400000) ?_ rc_c; show cells + _ + _ + _ + _ + _ + _ + _ ≤ 400000; omega, by refine Nat.le_trans (m := 4000000) ?_ rc_s; show slots + _ + _ + _ + _ + _ + _ + _ ≤ 4000000; omega⟩ (fun H locs hL hS => ?_)
          refine lv_aload_n hx hb dL_law_1286 rfl (lv_at hl 13 rfl) ?_
          refine lv_bipush (v := 6) hx hb dL_law_1287 (by decide) ?_
          obtain ⟨hv_g17, hq⟩ := hq
          obtain ⟨v18, e19, hq⟩ := hq
          refine l_callCi (v := v18) (g2 := g17) (As := [.int 6]) ⟨hx, hb, hml, hown, hts⟩ (vx_ofR (kX6_many l D cy hI hl0 g17 _ 6 hv_g17) e19) (cwV 1 hts gL_law_X6_many rfl rfl rfl (by decide +kernel) ⟨Nat.le_of_ble_eq_true rfl, Nat.le_of_ble_eq_true rfl⟩) hB hL hS rfl hl.1 (Nat.le_of_ble_eq_true rfl) dL_law_1289 ⟨by refine Nat.le_trans (m := 400000) ?_ rc_c; show cells + _ + _ + _ + _ + _ + _ + _ + _ ≤ 400000; omega, by refine Nat.le_trans (m := 4000000) ?_ rc_s; show slots + _ + _ + _ + _ + _ + _ + _ + _ ≤ 4000000; omega⟩ (fun H locs hL hS => ?_)
          refine lv_iload hx hb dL_law_1292 (lv_at hl 0 rfl) ?_
          refine lv_isub hx hb dL_law_1294 ?_
          refine lv_icmp_ne (tgt := 1308) hx hb dL_law_1295 (by decide) (fun c20 => ?_) (fun c20 => ?_)
          · skip
            have hq := hq.2 c20
            refine lv_iconst (v := 0) hx hb dL_law_1308 (by decide) ?_
            exact hq.elim
          · skip
            have hq := hq.1 c20
            refine lv_aload_n hx hb dL_law_1298 rfl (lv_at hl 13 rfl) ?_
            refine lv_iload hx hb dL_law_1299 (lv_at hl 3 rfl) ?_
            refine lv_iconst (v := 2) hx hb dL_law_1301 (by decide) ?_
            obtain ⟨v21, e22, hq⟩ := hq
            refine l_callCi (v := v21) (g2 := g17) (As := [.int lt, .int 2]) ⟨hx, hb, hml, hown, hts⟩ (vx_ofR (kX6_ofLot l D cy hI hl0 g17 _ lt 2 hv_g17) e22) (cwV 2 hts gL_law_X6_ofLot rfl rfl rfl (by decide +kernel) ⟨Nat.le_of_ble_eq_true rfl, Nat.le_of_ble_eq_true rfl⟩) hB hL hS rfl hl.1 (Nat.le_of_ble_eq_true rfl) dL_law_1302 ⟨by refine Nat.le_trans (m := 400000) ?_ rc_c; show cells + _ + _ + _ + _ + _ + _ + _ + _ + _ ≤ 400000; omega, by refine Nat.le_trans (m := 4000000) ?_ rc_s; show slots + _ + _ + _ + _ + _ + _ + _ + _ + _ ≤ 4000000; omega⟩ (fun H locs hL hS => ?_)
            refine lv_if_eq (tgt := 1388) hx hb dL_law_1305 (by decide) (fun c23 => ?_) (fun c23 => ?_)
            · skip
              have hq := hq.1 c23
              refine W.widen (k := cells + 40) (n := slots + 400) (by omega) (by omega) ?_
              exact kk g17 (gn + ((v8 * ((1 : Int32) + (fL_below (x >>> (3 &&& 31)) 200))) + 0)) pr _ _ ls hL hS (lv_sub hl [9, 10, 1, 11, 12, 13, 14] rfl) hq
            · skip
              have hq := hq.2 c23
              refine lv_iconst (v := 0) hx hb dL_law_1308 (by decide) ?_
              exact hq.elim
        · skip
          have hq := hq.2 c12
          refine lv_bipush (v := 10) hx hb dL_law_1251 (by decide) ?_
          refine lv_aload_n hx hb dL_law_1253 rfl (lv_at hl 12 rfl) ?_
          refine lv_iload hx hb dL_law_1254 (lv_at hl 1 rfl) ?_
          refine lv_iconst (v := 3) hx hb dL_law_1256 (by decide) ?_
          obtain ⟨v24, e25, hq⟩ := hq
          refine l_callCi (v := v24) (g2 := g) (As := [.int lt, .int 3]) ⟨hx, hb, hml, hown, hts⟩ (vx_ofR (kX6_ofLot l D cy hI hl0 g _ lt 3 hv_g) e25) (cwV 2 hts gL_law_X6_ofLot rfl rfl rfl (by decide +kernel) ⟨Nat.le_of_ble_eq_true rfl, Nat.le_of_ble_eq_true rfl⟩) hB hL hS rfl hl.1 (Nat.le_of_ble_eq_true rfl) dL_law_1257 ⟨by refine Nat.le_trans (m := 400000) ?_ rc_c; show cells + _ + _ + _ + _ + _ + _ ≤ 400000; omega, by refine Nat.le_trans (m := 4000000) ?_ rc_s; show slots + _ + _ + _ + _ + _ + _ ≤ 4000000; omega⟩ (fun H locs hL hS => ?_)
          refine lv_imul hx hb dL_law_1260 ?_
          refine lv_goto (tgt := 1265) hx hb dL_law_1261 (by decide) ?_
          refine lv_iadd hx hb dL_law_1265 ?_
          refine lv_iadd hx hb dL_law_1266 ?_
          refine lv_istore (lv' := [(4, .int (gn + ((v8 * ((1 : Int32) + (fL_below (x >>> (3 &&& 31)) 200))) + (10 * v24)))), (13, .int ((1 : Int32) + (fL_below (x >>> (3 &&& 31)) 200))), (12, .int lt), (11, .int be), (10, .int tk), (9, .int bk), (8, .int fm), (7, .int x), (6, .int tm), (5, .int pr), (3, .int B), (2, .int F), (1, .ref (ad 0 0)), (0, .ref b)]) hx hb dL_law_1267 hl (by decide) rfl (fun ls hl => ?_)
          refine lv_aload_n hx hb dL_law_1269 rfl (lv_at hl 12 rfl) ?_
          refine lv_bipush (v := 6) hx hb dL_law_1270 (by decide) ?_
          obtain ⟨v26, e27, hq⟩ := hq
          refine l_callCi (v := v26) (g2 := g) (As := [.int 6]) ⟨hx, hb, hml, hown, hts⟩ (vx_ofR (kX6_many l D cy hI hl0 g _ 6 hv_g) e27) (cwV 1 hts gL_law_X6_many rfl rfl rfl (by decide +kernel) ⟨Nat.le_of_ble_eq_true rfl, Nat.le_of_ble_eq_true rfl⟩) hB hL hS rfl hl.1 (Nat.le_of_ble_eq_true rfl) dL_law_1272 ⟨by refine Nat.le_trans (m := 400000) ?_ rc_c; show cells + _ + _ + _ + _ + _ + _ + _ ≤ 400000; omega, by refine Nat.le_trans (m := 4000000) ?_ rc_s; show slots + _ + _ + _ + _ + _ + _ + _ ≤ 4000000; omega⟩ (fun H locs hL hS => ?_)
          refine lv_istore (lv' := [(14, .int v26), (4, .int (gn + ((v8 * ((1 : Int32) + (fL_below (x >>> (3 &&& 31)) 200))) + (10 * v24)))), (13, .int ((1 : Int32) + (fL_below (x >>> (3 &&& 31)) 200))), (12, .int lt), (11, .int be), (10, .int tk), (9, .int bk), (8, .int fm), (7, .int x), (6, .int tm), (5, .int pr), (3, .int B), (2, .int F), (1, .ref (ad 0 0)), (0, .ref b)]) hx hb dL_law_1275 hl (by decide) rfl (fun ls hl => ?_)
          refine lv_aload_n hx hb dL_law_1277 rfl (lv_at hl 13 rfl) ?_
          refine lv_iload hx hb dL_law_1278 (lv_at hl 3 rfl) ?_
          refine lv_iload hx hb dL_law_1280 (lv_at hl 2 rfl) ?_
          refine lv_iconst (v := 1) hx hb dL_law_1282 (by decide) ?_
          obtain ⟨v28, g30, e29, hq⟩ := hq
          refine l_callCi (v := v28) (g2 := g30) (As := [.int lt, .int ((1 : Int32) + (fL_below (x >>> (3 &&& 31)) 200)), .int 1]) ⟨hx, hb, hml, hown, hts⟩ (vx_ofT (kX6_sell l D cy hI hl0 g _ lt ((1 : Int32) + (fL_below (x >>> (3 &&& 31)) 200)) 1 hv_g) e29) (cwV 3 hts gL_law_X6_sell rfl rfl rfl (by decide +kernel) ⟨Nat.le_of_ble_eq_true rfl, Nat.le_of_ble_eq_true rfl⟩) hB hL hS rfl hl.1 (Nat.le_of_ble_eq_true rfl) dL_law_1283 ⟨by refine Nat.le_trans (m := 400000) ?_ rc_c; show cells + _ + _ + _ + _ + _ + _ + _ + _ ≤ 400000; omega, by refine Nat.le_trans (m := 4000000) ?_ rc_s; show slots + _ + _ + _ + _ + _ + _ + _ + _ ≤ 4000000; omega⟩ (fun H locs hL hS => ?_)
          refine lv_aload_n hx hb dL_law_1286 rfl (lv_at hl 13 rfl) ?_
          refine lv_bipush (v := 6) hx hb dL_law_1287 (by decide) ?_
          obtain ⟨hv_g30, hq⟩ := hq
          obtain ⟨v31, e32, hq⟩ := hq
          refine l_callCi (v := v31) (g2 := g30) (As := [.int 6]) ⟨hx, hb, hml, hown, hts⟩ (vx_ofR (kX6_many l D cy hI hl0 g30 _ 6 hv_g30) e32) (cwV 1 hts gL_law_X6_many rfl rfl rfl (by decide +kernel) ⟨Nat.le_of_ble_eq_true rfl, Nat.le_of_ble_eq_true rfl⟩) hB hL hS rfl hl.1 (Nat.le_of_ble_eq_true rfl) dL_law_1289 ⟨by refine Nat.le_trans (m := 400000) ?_ rc_c; show cells + _ + _ + _ + _ + _ + _ + _ + _ + _ ≤ 400000; omega, by refine Nat.le_trans (m := 4000000) ?_ rc_s; show slots + _ + _ + _ + _ + _ + _ + _ + _ + _ ≤ 4000000; omega⟩ (fun H locs hL hS => ?_)
          refine lv_iload hx hb dL_law_1292 (lv_at hl 0 rfl) ?_
          refine lv_isub hx hb dL_law_1294 ?_
          refine lv_icmp_ne (tgt := 1308) hx hb dL_law_1295 (by decide) (fun c33 => ?_) (fun c33 => ?_)
          · skip
            have hq := hq.2 c33
            refine lv_iconst (v := 0) hx hb dL_law_1308 (by decide) ?_
            exact hq.elim
          · skip
            have hq := hq.1 c33
            refine lv_aload_n hx hb dL_law_1298 rfl (lv_at hl 13 rfl) ?_
            refine lv_iload hx hb dL_law_1299 (lv_at hl 3 rfl) ?_
            refine lv_iconst (v := 2) hx hb dL_law_1301 (by decide) ?_
            obtain ⟨v34, e35, hq⟩ := hq
            refine l_callCi (v := v34) (g2 := g30) (As := [.int lt, .int 2]) ⟨hx, hb, hml, hown, hts⟩ (vx_ofR (kX6_ofLot l D cy hI hl0 g30 _ lt 2 hv_g30) e35) (cwV 2 hts gL_law_X6_ofLot rfl rfl rfl (by decide +kernel) ⟨Nat.le_of_ble_eq_true rfl, Nat.le_of_ble_eq_true rfl⟩) hB hL hS rfl hl.1 (Nat.le_of_ble_eq_true rfl) dL_law_1302 ⟨by refine Nat.le_trans (m := 400000) ?_ rc_c; show cells + _ + _ + _ + _ + _ + _ + _ + _ + _ + _ ≤ 400000; omega, by refine Nat.le_trans (m := 4000000) ?_ rc_s; show slots + _ + _ + _ + _ + _ + _ + _ + _ + _ + _ ≤ 4000000; omega⟩ (fun H locs hL hS => ?_)
            refine lv_if_eq (tgt := 1388) hx hb dL_law_1305 (by decide) (fun c36 => ?_) (fun c36 => ?_)
            · skip
              have hq := hq.1 c36
              refine W.widen (k := cells + 40) (n := slots + 400) (by omega) (by omega) ?_
              exact kk g30 (gn + ((v8 * ((1 : Int32) + (fL_below (x >>> (3 &&& 31)) 200))) + (10 * v24))) pr _ _ ls hL hS (lv_sub hl [9, 10, 1, 11, 12, 13, 14] rfl) hq
            · skip
              have hq := hq.2 c36
              refine lv_iconst (v := 0) hx hb dL_law_1308 (by decide) ?_
              exact hq.elim
      · skip
        have hq := hq.2 c7
        refine lv_goto (tgt := 1388) hx hb dL_law_1209 (by decide) ?_
        refine W.widen (k := cells + 40) (n := slots + 400) (by omega) (by omega) ?_
        exact kk g gn pr _ _ ls hL hS (lv_sub hl [6, 7, 8, 9, 10, 11, 12] rfl) hq
def VC_C1310 (L : Nat) (xs : Nat → Int32) (g : Gd) (F : Int32) (B : Int32) (gn : Int32) (pr : Int32) (tm : Int32) (x : Int32) (fm : Int32) (bk : Int32) (tk : Int32) (be : Int32) (lt : Int32) (K : Gd → Int32 → Int32 → Prop) : Prop := (IvC g ∧ (∃ (v1 : Int32), fX6_many g 0 = (0, v1) ∧ (((fL_below (x >>> (6 &&& 31)) 3) = 0 → (∃ (v11 : Int32) (g13 : Gd), fX6_pass g ((1 : Int32) + (fL_below (x >>> (2 &&& 31)) 40)) (fL_below (x >>> (3 &&& 31)) 41) (fL_below (x >>> (5 &&& 31)) 21) = (0, v11, g13) ∧ ((v11 < 0 → False) ∧ (¬ v11 < 0 → (IvC g13 ∧ (∃ (v15 : Int32), fX6_many g13 0 = (0, v15) ∧ ((v15 = (v1 + ((1 : Int32) + (fL_below (x >>> (2 &&& 31)) 40))) → K g13 gn pr) ∧ (¬ v15 = (v1 + ((1 : Int32) + (fL_below (x >>> (2 &&& 31)) 40))) → False)))))))) ∧ (¬ (fL_below (x >>> (6 &&& 31)) 3) = 0 → (∃ (v4 : Int32) (g6 : Gd), fX6_pass g ((1 : Int32) + (fL_below (x >>> (2 &&& 31)) 40)) (fL_below (x >>> (3 &&& 31)) 41) 0 = (0, v4, g6) ∧ ((v4 < 0 → False) ∧ (¬ v4 < 0 → (IvC g6 ∧ (∃ (v8 : Int32), fX6_many g6 0 = (0, v8) ∧ ((v8 = (v1 + ((1 : Int32) + (fL_below (x >>> (2 &&& 31)) 40))) → K g6 gn pr) ∧ (¬ v8 = (v1 + ((1 : Int32) + (fL_below (x >>> (2 &&& 31)) 40))) → False)))))))))))
set_option maxRecDepth 100000 in
set_option maxHeartbeats 8000000 in
theorem W_C1310 (C : LC p l s m c b L xs) (hI : cI ad) (hB : LWB D cy s) (hL : LWS D cy ad s g H) (hS : va_S (LA0 s) s.heap H locs) (hc : cells + 40 ≤ 400000) (hs : slots + 400 ≤ 4000000) {F B gn pr tm x fm bk tk be lt : Int32} (hl : lv_has ls 17 [(12, .int lt), (11, .int be), (10, .int tk), (9, .int bk), (8, .int fm), (7, .int x), (6, .int tm), (5, .int pr), (4, .int gn), (3, .int B), (2, .int F), (1, .ref (ad 0 0)), (0, .ref b)]) {K : Gd → Int32 → Int32 → Prop} (hq : VC_C1310 L xs g F B gn pr tm x fm bk tk be lt K)
    (kk : ∀ (k0 : Gd) (k1 : Int32) (k2 : Int32) (H1 : Heap) (locs1 : List Loc) (ls1 : Array Slot), LWS D cy ad s k0 H1 → va_S (LA0 s) s.heap H1 locs1 → lv_has ls1 17 [(6, .int tm), (5, .int k2), (4, .int k1), (3, .int B), (2, .int F), (1, .ref (ad 0 0)), (0, .ref b)] → K k0 k1 k2 → W p l e room_1 s m #[Value.ref b] below meth c H1 locs1 (cells + 40) (slots + 400) Q (F0 m 1388 ls1 [])) : W p l e room_1 s m #[Value.ref b] below meth c H locs cells slots Q (F0 m 1310 ls []) := by
  have hx := C.hx; have hb := C.hb; have hown := C.own; have hts := C.ts; have hml := C.ml; have hl0 := C.st
  unfold VC_C1310 at hq
  refine lv_aload_n hx hb dL_law_1310 rfl (lv_at hl 11 rfl) ?_
  refine lv_iconst (v := 0) hx hb dL_law_1311 (by decide) ?_
  obtain ⟨hv_g, hq⟩ := hq
  obtain ⟨v1, e2, hq⟩ := hq
  refine l_callCi (v := v1) (g2 := g) (As := [.int 0]) ⟨hx, hb, hml, hown, hts⟩ (vx_ofR (kX6_many l D cy hI hl0 g _ 0 hv_g) e2) (cwV 1 hts gL_law_X6_many rfl rfl rfl (by decide +kernel) ⟨Nat.le_of_ble_eq_true rfl, Nat.le_of_ble_eq_true rfl⟩) hB hL hS rfl hl.1 (Nat.le_of_ble_eq_true rfl) dL_law_1312 ⟨by refine Nat.le_trans (m := 400000) ?_ rc_c; show cells + _ ≤ 400000; omega, by refine Nat.le_trans (m := 4000000) ?_ rc_s; show slots + _ ≤ 4000000; omega⟩ (fun H locs hL hS => ?_)
  refine lv_istore (lv' := [(13, .int v1), (12, .int lt), (11, .int be), (10, .int tk), (9, .int bk), (8, .int fm), (7, .int x), (6, .int tm), (5, .int pr), (4, .int gn), (3, .int B), (2, .int F), (1, .ref (ad 0 0)), (0, .ref b)]) hx hb dL_law_1315 hl (by decide) rfl (fun ls hl => ?_)
  refine lv_iconst (v := 1) hx hb dL_law_1317 (by decide) ?_
  refine lv_iload hx hb dL_law_1318 (lv_at hl 6 rfl) ?_
  refine lv_iconst (v := 2) hx hb dL_law_1320 (by decide) ?_
  refine lv_ishr hx hb dL_law_1321 ?_
  refine lv_bipush (v := 40) hx hb dL_law_1322 (by decide) ?_
  refine l_callN (v := fL_below (x >>> (2 &&& 31)) 40) (As := [.int (x >>> (2 &&& 31)), .int 40]) ⟨hx, hb, hml, hown, hts⟩ (kL_below l (x >>> (2 &&& 31)) 40 (by decide)) below_blind (fun _ _ _ => trivial) (va_cwS 2 hts gL_law_L_below rfl rfl rfl (by decide +kernel) ⟨Nat.le_of_ble_eq_true rfl, Nat.le_of_ble_eq_true rfl⟩) hB hL hS rfl hl.1 (Nat.le_of_ble_eq_true rfl) dL_law_1324 ⟨by refine Nat.le_trans (m := 400000) ?_ rc_c; show cells + _ + _ ≤ 400000; omega, by refine Nat.le_trans (m := 4000000) ?_ rc_s; show slots + _ + _ ≤ 4000000; omega⟩ (fun H locs hL hS => ?_)
  refine lv_iadd hx hb dL_law_1327 ?_
  refine lv_istore (lv' := [(14, .int ((1 : Int32) + (fL_below (x >>> (2 &&& 31)) 40))), (13, .int v1), (12, .int lt), (11, .int be), (10, .int tk), (9, .int bk), (8, .int fm), (7, .int x), (6, .int tm), (5, .int pr), (4, .int gn), (3, .int B), (2, .int F), (1, .ref (ad 0 0)), (0, .ref b)]) hx hb dL_law_1328 hl (by decide) rfl (fun ls hl => ?_)
  refine lv_aload_n hx hb dL_law_1330 rfl (lv_at hl 13 rfl) ?_
  refine lv_iload hx hb dL_law_1331 (lv_at hl 0 rfl) ?_
  refine lv_iload hx hb dL_law_1333 (lv_at hl 7 rfl) ?_
  refine lv_iconst (v := 3) hx hb dL_law_1335 (by decide) ?_
  refine lv_ishr hx hb dL_law_1336 ?_
  refine lv_bipush (v := 41) hx hb dL_law_1337 (by decide) ?_
  refine l_callN (v := fL_below (x >>> (3 &&& 31)) 41) (As := [.int (x >>> (3 &&& 31)), .int 41]) ⟨hx, hb, hml, hown, hts⟩ (kL_below l (x >>> (3 &&& 31)) 41 (by decide)) below_blind (fun _ _ _ => trivial) (va_cwS 2 hts gL_law_L_below rfl rfl rfl (by decide +kernel) ⟨Nat.le_of_ble_eq_true rfl, Nat.le_of_ble_eq_true rfl⟩) hB hL hS rfl hl.1 (Nat.le_of_ble_eq_true rfl) dL_law_1339 ⟨by refine Nat.le_trans (m := 400000) ?_ rc_c; show cells + _ + _ + _ ≤ 400000; omega, by refine Nat.le_trans (m := 4000000) ?_ rc_s; show slots + _ + _ + _ ≤ 4000000; omega⟩ (fun H locs hL hS => ?_)
  refine lv_iload hx hb dL_law_1342 (lv_at hl 7 rfl) ?_
  refine lv_bipush (v := 6) hx hb dL_law_1344 (by decide) ?_
  refine lv_ishr hx hb dL_law_1346 ?_
  refine lv_iconst (v := 3) hx hb dL_law_1347 (by decide) ?_
  refine l_callN (v := fL_below (x >>> (6 &&& 31)) 3) (As := [.int (x >>> (6 &&& 31)), .int 3]) ⟨hx, hb, hml, hown, hts⟩ (kL_below l (x >>> (6 &&& 31)) 3 (by decide)) below_blind (fun _ _ _ => trivial) (va_cwS 2 hts gL_law_L_below rfl rfl rfl (by decide +kernel) ⟨Nat.le_of_ble_eq_true rfl, Nat.le_of_ble_eq_true rfl⟩) hB hL hS rfl hl.1 (Nat.le_of_ble_eq_true rfl) dL_law_1348 ⟨by refine Nat.le_trans (m := 400000) ?_ rc_c; show cells + _ + _ + _ + _ ≤ 400000; omega, by refine Nat.le_trans (m := 4000000) ?_ rc_s; show slots + _ + _ + _ + _ ≤ 4000000; omega⟩ (fun H locs hL hS => ?_)
  refine lv_if_ne (tgt := 1366) hx hb dL_law_1351 (by decide) (fun c3 => ?_) (fun c3 => ?_)
  · skip
    have hq := hq.2 c3
    refine lv_iconst (v := 0) hx hb dL_law_1366 (by decide) ?_
    obtain ⟨v4, g6, e5, hq⟩ := hq
    refine l_callCi (v := v4) (g2 := g6) (As := [.int ((1 : Int32) + (fL_below (x >>> (2 &&& 31)) 40)), .int (fL_below (x >>> (3 &&& 31)) 41), .int 0]) ⟨hx, hb, hml, hown, hts⟩ (vx_ofT (kX6_pass l D cy hI hl0 g _ ((1 : Int32) + (fL_below (x >>> (2 &&& 31)) 40)) (fL_below (x >>> (3 &&& 31)) 41) 0 hv_g) e5) (cwV 3 hts gL_law_X6_pass rfl rfl rfl (by decide +kernel) ⟨Nat.le_of_ble_eq_true rfl, Nat.le_of_ble_eq_true rfl⟩) hB hL hS rfl hl.1 (Nat.le_of_ble_eq_true rfl) dL_law_1367 ⟨by refine Nat.le_trans (m := 400000) ?_ rc_c; show cells + _ + _ + _ + _ + _ ≤ 400000; omega, by refine Nat.le_trans (m := 4000000) ?_ rc_s; show slots + _ + _ + _ + _ + _ ≤ 4000000; omega⟩ (fun H locs hL hS => ?_)
    refine lv_if_lt (tgt := 1386) hx hb dL_law_1370 (by decide) (fun c7 => ?_) (fun c7 => ?_)
    · skip
      have hq := hq.1 c7
      refine lv_iconst (v := 0) hx hb dL_law_1386 (by decide) ?_
      exact hq.elim
    · skip
      have hq := hq.2 c7
      refine lv_aload_n hx hb dL_law_1373 rfl (lv_at hl 13 rfl) ?_
      refine lv_iconst (v := 0) hx hb dL_law_1374 (by decide) ?_
      obtain ⟨hv_g6, hq⟩ := hq
      obtain ⟨v8, e9, hq⟩ := hq
      refine l_callCi (v := v8) (g2 := g6) (As := [.int 0]) ⟨hx, hb, hml, hown, hts⟩ (vx_ofR (kX6_many l D cy hI hl0 g6 _ 0 hv_g6) e9) (cwV 1 hts gL_law_X6_many rfl rfl rfl (by decide +kernel) ⟨Nat.le_of_ble_eq_true rfl, Nat.le_of_ble_eq_true rfl⟩) hB hL hS rfl hl.1 (Nat.le_of_ble_eq_true rfl) dL_law_1375 ⟨by refine Nat.le_trans (m := 400000) ?_ rc_c; show cells + _ + _ + _ + _ + _ + _ ≤ 400000; omega, by refine Nat.le_trans (m := 4000000) ?_ rc_s; show slots + _ + _ + _ + _ + _ + _ ≤ 4000000; omega⟩ (fun H locs hL hS => ?_)
      refine lv_iload hx hb dL_law_1378 (lv_at hl 1 rfl) ?_
      refine lv_iload hx hb dL_law_1380 (lv_at hl 0 rfl) ?_
      refine lv_iadd hx hb dL_law_1382 ?_
      refine lv_icmp_eq (tgt := 1388) hx hb dL_law_1383 (by decide) (fun c10 => ?_) (fun c10 => ?_)
      · skip
        have hq := hq.1 c10
        refine W.widen (k := cells + 40) (n := slots + 400) (by omega) (by omega) ?_
        exact kk g6 gn pr _ _ ls hL hS (lv_sub hl [8, 9, 10, 11, 12, 13, 14] rfl) hq
      · skip
        have hq := hq.2 c10
        refine lv_iconst (v := 0) hx hb dL_law_1386 (by decide) ?_
        exact hq.elim
  · skip
    have hq := hq.1 c3
    refine lv_iload hx hb dL_law_1354 (lv_at hl 7 rfl) ?_
    refine lv_iconst (v := 5) hx hb dL_law_1356 (by decide) ?_
    refine lv_ishr hx hb dL_law_1357 ?_
    refine lv_bipush (v := 21) hx hb dL_law_1358 (by decide) ?_
    refine l_callN (v := fL_below (x >>> (5 &&& 31)) 21) (As := [.int (x >>> (5 &&& 31)), .int 21]) ⟨hx, hb, hml, hown, hts⟩ (kL_below l (x >>> (5 &&& 31)) 21 (by decide)) below_blind (fun _ _ _ => trivial) (va_cwS 2 hts gL_law_L_below rfl rfl rfl (by decide +kernel) ⟨Nat.le_of_ble_eq_true rfl, Nat.le_of_ble_eq_true rfl⟩) hB hL hS rfl hl.1 (Nat.le_of_ble_eq_true rfl) dL_law_1360 ⟨by refine Nat.le_trans (m := 400000) ?_ rc_c; show cells + _ + _ + _ + _ + _ ≤ 400000; omega, by refine Nat.le_trans (m := 4000000) ?_ rc_s; show slots + _ + _ + _ + _ + _ ≤ 4000000; omega⟩ (fun H locs hL hS => ?_)
    refine lv_goto (tgt := 1367) hx hb dL_law_1363 (by decide) ?_
    obtain ⟨v11, g13, e12, hq⟩ := hq
    refine l_callCi (v := v11) (g2 := g13) (As := [.int ((1 : Int32) + (fL_below (x >>> (2 &&& 31)) 40)), .int (fL_below (x >>> (3 &&& 31)) 41), .int (fL_below (x >>> (5 &&& 31)) 21)]) ⟨hx, hb, hml, hown, hts⟩ (vx_ofT (kX6_pass l D cy hI hl0 g _ ((1 : Int32) + (fL_below (x >>> (2 &&& 31)) 40)) (fL_below (x >>> (3 &&& 31)) 41) (fL_below (x >>> (5 &&& 31)) 21) hv_g) e12) (cwV 3 hts gL_law_X6_pass rfl rfl rfl (by decide +kernel) ⟨Nat.le_of_ble_eq_true rfl, Nat.le_of_ble_eq_true rfl⟩) hB hL hS rfl hl.1 (Nat.le_of_ble_eq_true rfl) dL_law_1367 ⟨by refine Nat.le_trans (m := 400000) ?_ rc_c; show cells + _ + _ + _ + _ + _ + _ ≤ 400000; omega, by refine Nat.le_trans (m := 4000000) ?_ rc_s; show slots + _ + _ + _ + _ + _ + _ ≤ 4000000; omega⟩ (fun H locs hL hS => ?_)
    refine lv_if_lt (tgt := 1386) hx hb dL_law_1370 (by decide) (fun c14 => ?_) (fun c14 => ?_)
    · skip
      have hq := hq.1 c14
      refine lv_iconst (v := 0) hx hb dL_law_1386 (by decide) ?_
      exact hq.elim
    · skip
      have hq := hq.2 c14
      refine lv_aload_n hx hb dL_law_1373 rfl (lv_at hl 13 rfl) ?_
      refine lv_iconst (v := 0) hx hb dL_law_1374 (by decide) ?_
      obtain ⟨hv_g13, hq⟩ := hq
      obtain ⟨v15, e16, hq⟩ := hq
      refine l_callCi (v := v15) (g2 := g13) (As := [.int 0]) ⟨hx, hb, hml, hown, hts⟩ (vx_ofR (kX6_many l D cy hI hl0 g13 _ 0 hv_g13) e16) (cwV 1 hts gL_law_X6_many rfl rfl rfl (by decide +kernel) ⟨Nat.le_of_ble_eq_true rfl, Nat.le_of_ble_eq_true rfl⟩) hB hL hS rfl hl.1 (Nat.le_of_ble_eq_true rfl) dL_law_1375 ⟨by refine Nat.le_trans (m := 400000) ?_ rc_c; show cells + _ + _ + _ + _ + _ + _ + _ ≤ 400000; omega, by refine Nat.le_trans (m := 4000000) ?_ rc_s; show slots + _ + _ + _ + _ + _ + _ + _ ≤ 4000000; omega⟩ (fun H locs hL hS => ?_)
      refine lv_iload hx hb dL_law_1378 (lv_at hl 1 rfl) ?_
      refine lv_iload hx hb dL_law_1380 (lv_at hl 0 rfl) ?_
      refine lv_iadd hx hb dL_law_1382 ?_
      refine lv_icmp_eq (tgt := 1388) hx hb dL_law_1383 (by decide) (fun c17 => ?_) (fun c17 => ?_)
      · skip
        have hq := hq.1 c17
        refine W.widen (k := cells + 40) (n := slots + 400) (by omega) (by omega) ?_
        exact kk g13 gn pr _ _ ls hL hS (lv_sub hl [8, 9, 10, 11, 12, 13, 14] rfl) hq
      · skip
        have hq := hq.2 c17
        refine lv_iconst (v := 0) hx hb dL_law_1386 (by decide) ?_
        exact hq.elim
end SG
