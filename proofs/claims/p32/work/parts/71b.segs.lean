/-! ===== the law's cases ===== -/
section SG
variable {p : Program} {l : Launch} {e : Env} {s : State} {m : MethodId} {below : List Frame} {meth : Method} {c : Code} {H : Heap} {locs : List Loc} {cells slots : Nat} {Q : State → Prop}
variable {b L : Nat} {xs : Nat → Int32} {D : va_G} {cy : Nat → ClassId} {ad : Nat → Nat → Nat} {g : Gd} {ls : Array Slot}
def VC_C320 (L : Nat) (xs : Nat → Int32) (g : Gd) (F : Int32) (B : Int32) (gn : Int32) (pr : Int32) (tm : Int32) (x : Int32) (fm : Int32) (bk : Int32) (tk : Int32) (be : Int32) (lt : Int32) (K : Gd → Int32 → Int32 → Prop) : Prop := (IvC g ∧ (∃ (v1 : Int32), fX6_ofFarm g fm 1 = (0, v1) ∧ (∃ (v3 : Int32) (g5 : Gd), fX6_label g fm ((fL_below (x >>> (3 &&& 31)) 40) - 1) = (0, v3, g5) ∧ ((v3 = v1 → K g5 gn pr) ∧ (¬ v3 = v1 → False)))))
set_option maxRecDepth 100000 in
set_option maxHeartbeats 8000000 in
theorem W_C320 (C : LC p l s m c b L xs) (hI : cI ad) (hB : LWB D cy s) (hL : LWS D cy ad s g H) (hS : va_S (LA0 s) s.heap H locs) (hc : cells + 40 ≤ 400000) (hs : slots + 400 ≤ 4000000) {F B gn pr tm x fm bk tk be lt : Int32} (hl : lv_has ls 17 [(12, .int lt), (11, .int be), (10, .int tk), (9, .int bk), (8, .int fm), (7, .int x), (6, .int tm), (5, .int pr), (4, .int gn), (3, .int B), (2, .int F), (1, .ref (ad 0 0)), (0, .ref b)]) {K : Gd → Int32 → Int32 → Prop} (hq : VC_C320 L xs g F B gn pr tm x fm bk tk be lt K)
    (kk : ∀ (k0 : Gd) (k1 : Int32) (k2 : Int32) (H1 : Heap) (locs1 : List Loc) (ls1 : Array Slot), LWS D cy ad s k0 H1 → va_S (LA0 s) s.heap H1 locs1 → lv_has ls1 17 [(6, .int tm), (5, .int k2), (4, .int k1), (3, .int B), (2, .int F), (1, .ref (ad 0 0)), (0, .ref b)] → K k0 k1 k2 → W p l e room_1 s m #[Value.ref b] below meth c H1 locs1 (cells + 40) (slots + 400) Q (F0 m 1388 ls1 [])) : W p l e room_1 s m #[Value.ref b] below meth c H locs cells slots Q (F0 m 320 ls []) := by
  have hx := C.hx; have hb := C.hb; have hown := C.own; have hts := C.ts; have hml := C.ml; have hl0 := C.st
  unfold VC_C320 at hq
  refine lv_aload_n hx hb dL_law_320 rfl (lv_at hl 11 rfl) ?_
  refine lv_iload hx hb dL_law_321 (lv_at hl 4 rfl) ?_
  refine lv_iconst (v := 1) hx hb dL_law_323 (by decide) ?_
  obtain ⟨hv_g, hq⟩ := hq
  obtain ⟨v1, e2, hq⟩ := hq
  refine l_callCi (v := v1) (g2 := g) (As := [.int fm, .int 1]) ⟨hx, hb, hml, hown, hts⟩ (vx_ofR (kX6_ofFarm l D cy hI hl0 g _ fm 1 hv_g) e2) (cwV 2 hts gL_law_X6_ofFarm rfl rfl rfl (by decide +kernel) ⟨Nat.le_of_ble_eq_true rfl, Nat.le_of_ble_eq_true rfl⟩) hB hL hS rfl hl.1 (Nat.le_of_ble_eq_true rfl) dL_law_324 ⟨by refine Nat.le_trans (m := 400000) ?_ rc_c; show cells + _ ≤ 400000; omega, by refine Nat.le_trans (m := 4000000) ?_ rc_s; show slots + _ ≤ 4000000; omega⟩ (fun H locs hL hS => ?_)
  refine lv_istore (lv' := [(13, .int v1), (12, .int lt), (11, .int be), (10, .int tk), (9, .int bk), (8, .int fm), (7, .int x), (6, .int tm), (5, .int pr), (4, .int gn), (3, .int B), (2, .int F), (1, .ref (ad 0 0)), (0, .ref b)]) hx hb dL_law_327 hl (by decide) rfl (fun ls hl => ?_)
  refine lv_aload_n hx hb dL_law_329 rfl (lv_at hl 12 rfl) ?_
  refine lv_iload hx hb dL_law_330 (lv_at hl 5 rfl) ?_
  refine lv_iload hx hb dL_law_332 (lv_at hl 6 rfl) ?_
  refine lv_iconst (v := 3) hx hb dL_law_334 (by decide) ?_
  refine lv_ishr hx hb dL_law_335 ?_
  refine lv_bipush (v := 40) hx hb dL_law_336 (by decide) ?_
  refine l_callN (v := fL_below (x >>> (3 &&& 31)) 40) (As := [.int (x >>> (3 &&& 31)), .int 40]) ⟨hx, hb, hml, hown, hts⟩ (kL_below l (x >>> (3 &&& 31)) 40 (by decide)) below_blind (fun _ _ _ => trivial) (va_cwS 2 hts gL_law_L_below rfl rfl rfl (by decide +kernel) ⟨Nat.le_of_ble_eq_true rfl, Nat.le_of_ble_eq_true rfl⟩) hB hL hS rfl hl.1 (Nat.le_of_ble_eq_true rfl) dL_law_338 ⟨by refine Nat.le_trans (m := 400000) ?_ rc_c; show cells + _ + _ ≤ 400000; omega, by refine Nat.le_trans (m := 4000000) ?_ rc_s; show slots + _ + _ ≤ 4000000; omega⟩ (fun H locs hL hS => ?_)
  refine lv_iconst (v := 1) hx hb dL_law_341 (by decide) ?_
  refine lv_isub hx hb dL_law_342 ?_
  obtain ⟨v3, g5, e4, hq⟩ := hq
  refine l_callCi (v := v3) (g2 := g5) (As := [.int fm, .int ((fL_below (x >>> (3 &&& 31)) 40) - 1)]) ⟨hx, hb, hml, hown, hts⟩ (vx_ofT (kX6_label l D cy hI hl0 g _ fm ((fL_below (x >>> (3 &&& 31)) 40) - 1) hv_g) e4) (cwV 2 hts gL_law_X6_label rfl rfl rfl (by decide +kernel) ⟨Nat.le_of_ble_eq_true rfl, Nat.le_of_ble_eq_true rfl⟩) hB hL hS rfl hl.1 (Nat.le_of_ble_eq_true rfl) dL_law_343 ⟨by refine Nat.le_trans (m := 400000) ?_ rc_c; show cells + _ + _ + _ ≤ 400000; omega, by refine Nat.le_trans (m := 4000000) ?_ rc_s; show slots + _ + _ + _ ≤ 4000000; omega⟩ (fun H locs hL hS => ?_)
  refine lv_iload hx hb dL_law_346 (lv_at hl 0 rfl) ?_
  refine lv_icmp_eq (tgt := 1388) hx hb dL_law_348 (by decide) (fun c6 => ?_) (fun c6 => ?_)
  · skip
    have hq := hq.1 c6
    refine W.widen (k := cells + 40) (n := slots + 400) (by omega) (by omega) ?_
    exact kk g5 gn pr _ _ ls hL hS (lv_sub hl [7, 8, 9, 10, 11, 12, 13] rfl) hq
  · skip
    have hq := hq.2 c6
    refine lv_iconst (v := 0) hx hb dL_law_351 (by decide) ?_
    exact hq.elim
def VC_C353 (L : Nat) (xs : Nat → Int32) (g : Gd) (F : Int32) (B : Int32) (gn : Int32) (pr : Int32) (tm : Int32) (x : Int32) (fm : Int32) (bk : Int32) (tk : Int32) (be : Int32) (lt : Int32) (K : Gd → Int32 → Int32 → Prop) : Prop := (∃ (v1 : Int32) (g3 : Gd), fX6_price g ((1 : Int32) + (fL_below (x >>> (3 &&& 31)) 50)) = (0, v1, g3) ∧ ((v1 = pr → K g3 gn ((1 : Int32) + (fL_below (x >>> (3 &&& 31)) 50))) ∧ (¬ v1 = pr → False)))
set_option maxRecDepth 100000 in
set_option maxHeartbeats 8000000 in
theorem W_C353 (C : LC p l s m c b L xs) (hI : cI ad) (hB : LWB D cy s) (hL : LWS D cy ad s g H) (hS : va_S (LA0 s) s.heap H locs) (hc : cells + 40 ≤ 400000) (hs : slots + 400 ≤ 4000000) {F B gn pr tm x fm bk tk be lt : Int32} (hl : lv_has ls 17 [(12, .int lt), (11, .int be), (10, .int tk), (9, .int bk), (8, .int fm), (7, .int x), (6, .int tm), (5, .int pr), (4, .int gn), (3, .int B), (2, .int F), (1, .ref (ad 0 0)), (0, .ref b)]) {K : Gd → Int32 → Int32 → Prop} (hq : VC_C353 L xs g F B gn pr tm x fm bk tk be lt K)
    (kk : ∀ (k0 : Gd) (k1 : Int32) (k2 : Int32) (H1 : Heap) (locs1 : List Loc) (ls1 : Array Slot), LWS D cy ad s k0 H1 → va_S (LA0 s) s.heap H1 locs1 → lv_has ls1 17 [(6, .int tm), (5, .int k2), (4, .int k1), (3, .int B), (2, .int F), (1, .ref (ad 0 0)), (0, .ref b)] → K k0 k1 k2 → W p l e room_1 s m #[Value.ref b] below meth c H1 locs1 (cells + 40) (slots + 400) Q (F0 m 1388 ls1 [])) : W p l e room_1 s m #[Value.ref b] below meth c H locs cells slots Q (F0 m 353 ls []) := by
  have hx := C.hx; have hb := C.hb; have hown := C.own; have hts := C.ts; have hml := C.ml; have hl0 := C.st
  unfold VC_C353 at hq
  refine lv_iload hx hb dL_law_353 (lv_at hl 7 rfl) ?_
  refine lv_istore (lv' := [(13, .int pr), (12, .int lt), (11, .int be), (10, .int tk), (9, .int bk), (8, .int fm), (7, .int x), (6, .int tm), (5, .int pr), (4, .int gn), (3, .int B), (2, .int F), (1, .ref (ad 0 0)), (0, .ref b)]) hx hb dL_law_355 hl (by decide) rfl (fun ls hl => ?_)
  refine lv_iconst (v := 1) hx hb dL_law_357 (by decide) ?_
  refine lv_iload hx hb dL_law_358 (lv_at hl 6 rfl) ?_
  refine lv_iconst (v := 3) hx hb dL_law_360 (by decide) ?_
  refine lv_ishr hx hb dL_law_361 ?_
  refine lv_bipush (v := 50) hx hb dL_law_362 (by decide) ?_
  refine l_callN (v := fL_below (x >>> (3 &&& 31)) 50) (As := [.int (x >>> (3 &&& 31)), .int 50]) ⟨hx, hb, hml, hown, hts⟩ (kL_below l (x >>> (3 &&& 31)) 50 (by decide)) below_blind (fun _ _ _ => trivial) (va_cwS 2 hts gL_law_L_below rfl rfl rfl (by decide +kernel) ⟨Nat.le_of_ble_eq_true rfl, Nat.le_of_ble_eq_true rfl⟩) hB hL hS rfl hl.1 (Nat.le_of_ble_eq_true rfl) dL_law_364 ⟨by refine Nat.le_trans (m := 400000) ?_ rc_c; show cells + _ ≤ 400000; omega, by refine Nat.le_trans (m := 4000000) ?_ rc_s; show slots + _ ≤ 4000000; omega⟩ (fun H locs hL hS => ?_)
  refine lv_iadd hx hb dL_law_367 ?_
  refine lv_istore (lv' := [(5, .int ((1 : Int32) + (fL_below (x >>> (3 &&& 31)) 50))), (13, .int pr), (12, .int lt), (11, .int be), (10, .int tk), (9, .int bk), (8, .int fm), (7, .int x), (6, .int tm), (4, .int gn), (3, .int B), (2, .int F), (1, .ref (ad 0 0)), (0, .ref b)]) hx hb dL_law_368 hl (by decide) rfl (fun ls hl => ?_)
  refine lv_aload_n hx hb dL_law_370 rfl (lv_at hl 12 rfl) ?_
  refine lv_iload hx hb dL_law_371 (lv_at hl 0 rfl) ?_
  obtain ⟨v1, g3, e2, hq⟩ := hq
  refine l_callCi (v := v1) (g2 := g3) (As := [.int ((1 : Int32) + (fL_below (x >>> (3 &&& 31)) 50))]) ⟨hx, hb, hml, hown, hts⟩ (vx_ofT (kX6_price l D cy hI hl0 g _ ((1 : Int32) + (fL_below (x >>> (3 &&& 31)) 50)) ) e2) (cwV 1 hts gL_law_X6_price rfl rfl rfl (by decide +kernel) ⟨Nat.le_of_ble_eq_true rfl, Nat.le_of_ble_eq_true rfl⟩) hB hL hS rfl hl.1 (Nat.le_of_ble_eq_true rfl) dL_law_373 ⟨by refine Nat.le_trans (m := 400000) ?_ rc_c; show cells + _ + _ ≤ 400000; omega, by refine Nat.le_trans (m := 4000000) ?_ rc_s; show slots + _ + _ ≤ 4000000; omega⟩ (fun H locs hL hS => ?_)
  refine lv_iload hx hb dL_law_376 (lv_at hl 1 rfl) ?_
  refine lv_icmp_eq (tgt := 1388) hx hb dL_law_378 (by decide) (fun c4 => ?_) (fun c4 => ?_)
  · skip
    have hq := hq.1 c4
    refine W.widen (k := cells + 40) (n := slots + 400) (by omega) (by omega) ?_
    exact kk g3 gn ((1 : Int32) + (fL_below (x >>> (3 &&& 31)) 50)) _ _ ls hL hS (lv_sub hl [8, 0, 9, 10, 11, 12, 13] rfl) hq
  · skip
    have hq := hq.2 c4
    refine lv_iconst (v := 0) hx hb dL_law_381 (by decide) ?_
    exact hq.elim
def VC_C383 (L : Nat) (xs : Nat → Int32) (g : Gd) (F : Int32) (B : Int32) (gn : Int32) (pr : Int32) (tm : Int32) (x : Int32) (fm : Int32) (bk : Int32) (tk : Int32) (be : Int32) (lt : Int32) (K : Gd → Int32 → Int32 → Prop) : Prop := (IvC g ∧ (∃ (v1 : Int32), fX6_many g 2 = (0, v1) ∧ ((v1 = 20 → K g gn pr) ∧ (¬ v1 = 20 → (∃ (v4 : Int32), fX6_ofFarm g fm 2 = (0, v4) ∧ (∃ (v6 : Int32), fX6_ofFarm g fm 3 = (0, v6) ∧ (∃ (v8 : Int32) (g10 : Gd), fX6_bring g fm ((1 : Int32) + (fL_below (x >>> (2 &&& 31)) 200)) ((100 : Int32) - (fL_below (x >>> (5 &&& 31)) 70)) = (0, v8, g10) ∧ (IvC g10 ∧ (∃ (v11 : Int32), fX6_ofBasket g10 v8 1 = (0, v11) ∧ (∃ (v13 : Int32), fX6_ofFarm g10 fm 2 = (0, v13) ∧ ((v13 = (v4 + (v11 * pr)) → (∃ (v16 : Int32), fX6_ofFarm g10 fm 3 = (0, v16) ∧ ((v16 = (v6 + v11) → (∃ (v19 : Int32), fX6_ofBasket g10 v8 5 = (0, v19) ∧ (∃ (v21 : Int32), fX6_ofFarm g10 fm 1 = (0, v21) ∧ (∃ (v23 : Int32), fX6_many g10 0 = (0, v23) ∧ ((v21 < (v23 / 24) → ((v19 = 0 → K g10 gn pr) ∧ (¬ v19 = 0 → False))) ∧ (¬ v21 < (v23 / 24) → ((v19 = 1 → K g10 gn pr) ∧ (¬ v19 = 1 → False)))))))) ∧ (¬ v16 = (v6 + v11) → False)))) ∧ (¬ v13 = (v4 + (v11 * pr)) → False))))))))))))
set_option maxRecDepth 100000 in
set_option maxHeartbeats 8000000 in
theorem W_C383 (C : LC p l s m c b L xs) (hI : cI ad) (hB : LWB D cy s) (hL : LWS D cy ad s g H) (hS : va_S (LA0 s) s.heap H locs) (hc : cells + 40 ≤ 400000) (hs : slots + 400 ≤ 4000000) {F B gn pr tm x fm bk tk be lt : Int32} (hl : lv_has ls 17 [(12, .int lt), (11, .int be), (10, .int tk), (9, .int bk), (8, .int fm), (7, .int x), (6, .int tm), (5, .int pr), (4, .int gn), (3, .int B), (2, .int F), (1, .ref (ad 0 0)), (0, .ref b)]) {K : Gd → Int32 → Int32 → Prop} (hq : VC_C383 L xs g F B gn pr tm x fm bk tk be lt K)
    (kk : ∀ (k0 : Gd) (k1 : Int32) (k2 : Int32) (H1 : Heap) (locs1 : List Loc) (ls1 : Array Slot), LWS D cy ad s k0 H1 → va_S (LA0 s) s.heap H1 locs1 → lv_has ls1 17 [(6, .int tm), (5, .int k2), (4, .int k1), (3, .int B), (2, .int F), (1, .ref (ad 0 0)), (0, .ref b)] → K k0 k1 k2 → W p l e room_1 s m #[Value.ref b] below meth c H1 locs1 (cells + 40) (slots + 400) Q (F0 m 1388 ls1 [])) : W p l e room_1 s m #[Value.ref b] below meth c H locs cells slots Q (F0 m 383 ls []) := by
  have hx := C.hx; have hb := C.hb; have hown := C.own; have hts := C.ts; have hml := C.ml; have hl0 := C.st
  unfold VC_C383 at hq
  refine lv_aload_n hx hb dL_law_383 rfl (lv_at hl 11 rfl) ?_
  refine lv_iconst (v := 2) hx hb dL_law_384 (by decide) ?_
  obtain ⟨hv_g, hq⟩ := hq
  obtain ⟨v1, e2, hq⟩ := hq
  refine l_callCi (v := v1) (g2 := g) (As := [.int 2]) ⟨hx, hb, hml, hown, hts⟩ (vx_ofR (kX6_many l D cy hI hl0 g _ 2 hv_g) e2) (cwV 1 hts gL_law_X6_many rfl rfl rfl (by decide +kernel) ⟨Nat.le_of_ble_eq_true rfl, Nat.le_of_ble_eq_true rfl⟩) hB hL hS rfl hl.1 (Nat.le_of_ble_eq_true rfl) dL_law_385 ⟨by refine Nat.le_trans (m := 400000) ?_ rc_c; show cells + _ ≤ 400000; omega, by refine Nat.le_trans (m := 4000000) ?_ rc_s; show slots + _ ≤ 4000000; omega⟩ (fun H locs hL hS => ?_)
  refine lv_bipush (v := 20) hx hb dL_law_388 (by decide) ?_
  refine lv_icmp_ne (tgt := 396) hx hb dL_law_390 (by decide) (fun c3 => ?_) (fun c3 => ?_)
  · skip
    have hq := hq.2 c3
    refine lv_aload_n hx hb dL_law_396 rfl (lv_at hl 11 rfl) ?_
    refine lv_iload hx hb dL_law_397 (lv_at hl 4 rfl) ?_
    refine lv_iconst (v := 2) hx hb dL_law_399 (by decide) ?_
    obtain ⟨v4, e5, hq⟩ := hq
    refine l_callCi (v := v4) (g2 := g) (As := [.int fm, .int 2]) ⟨hx, hb, hml, hown, hts⟩ (vx_ofR (kX6_ofFarm l D cy hI hl0 g _ fm 2 hv_g) e5) (cwV 2 hts gL_law_X6_ofFarm rfl rfl rfl (by decide +kernel) ⟨Nat.le_of_ble_eq_true rfl, Nat.le_of_ble_eq_true rfl⟩) hB hL hS rfl hl.1 (Nat.le_of_ble_eq_true rfl) dL_law_400 ⟨by refine Nat.le_trans (m := 400000) ?_ rc_c; show cells + _ + _ ≤ 400000; omega, by refine Nat.le_trans (m := 4000000) ?_ rc_s; show slots + _ + _ ≤ 4000000; omega⟩ (fun H locs hL hS => ?_)
    refine lv_istore (lv' := [(13, .int v4), (12, .int lt), (11, .int be), (10, .int tk), (9, .int bk), (8, .int fm), (7, .int x), (6, .int tm), (5, .int pr), (4, .int gn), (3, .int B), (2, .int F), (1, .ref (ad 0 0)), (0, .ref b)]) hx hb dL_law_403 hl (by decide) rfl (fun ls hl => ?_)
    refine lv_aload_n hx hb dL_law_405 rfl (lv_at hl 12 rfl) ?_
    refine lv_iload hx hb dL_law_406 (lv_at hl 5 rfl) ?_
    refine lv_iconst (v := 3) hx hb dL_law_408 (by decide) ?_
    obtain ⟨v6, e7, hq⟩ := hq
    refine l_callCi (v := v6) (g2 := g) (As := [.int fm, .int 3]) ⟨hx, hb, hml, hown, hts⟩ (vx_ofR (kX6_ofFarm l D cy hI hl0 g _ fm 3 hv_g) e7) (cwV 2 hts gL_law_X6_ofFarm rfl rfl rfl (by decide +kernel) ⟨Nat.le_of_ble_eq_true rfl, Nat.le_of_ble_eq_true rfl⟩) hB hL hS rfl hl.1 (Nat.le_of_ble_eq_true rfl) dL_law_409 ⟨by refine Nat.le_trans (m := 400000) ?_ rc_c; show cells + _ + _ + _ ≤ 400000; omega, by refine Nat.le_trans (m := 4000000) ?_ rc_s; show slots + _ + _ + _ ≤ 4000000; omega⟩ (fun H locs hL hS => ?_)
    refine lv_istore (lv' := [(14, .int v6), (13, .int v4), (12, .int lt), (11, .int be), (10, .int tk), (9, .int bk), (8, .int fm), (7, .int x), (6, .int tm), (5, .int pr), (4, .int gn), (3, .int B), (2, .int F), (1, .ref (ad 0 0)), (0, .ref b)]) hx hb dL_law_412 hl (by decide) rfl (fun ls hl => ?_)
    refine lv_aload_n hx hb dL_law_414 rfl (lv_at hl 13 rfl) ?_
    refine lv_iload hx hb dL_law_415 (lv_at hl 6 rfl) ?_
    refine lv_iconst (v := 1) hx hb dL_law_417 (by decide) ?_
    refine lv_iload hx hb dL_law_418 (lv_at hl 7 rfl) ?_
    refine lv_iconst (v := 2) hx hb dL_law_420 (by decide) ?_
    refine lv_ishr hx hb dL_law_421 ?_
    refine lv_sipush (v := 200) hx hb dL_law_422 (by decide) ?_
    refine l_callN (v := fL_below (x >>> (2 &&& 31)) 200) (As := [.int (x >>> (2 &&& 31)), .int 200]) ⟨hx, hb, hml, hown, hts⟩ (kL_below l (x >>> (2 &&& 31)) 200 (by decide)) below_blind (fun _ _ _ => trivial) (va_cwS 2 hts gL_law_L_below rfl rfl rfl (by decide +kernel) ⟨Nat.le_of_ble_eq_true rfl, Nat.le_of_ble_eq_true rfl⟩) hB hL hS rfl hl.1 (Nat.le_of_ble_eq_true rfl) dL_law_425 ⟨by refine Nat.le_trans (m := 400000) ?_ rc_c; show cells + _ + _ + _ + _ ≤ 400000; omega, by refine Nat.le_trans (m := 4000000) ?_ rc_s; show slots + _ + _ + _ + _ ≤ 4000000; omega⟩ (fun H locs hL hS => ?_)
    refine lv_iadd hx hb dL_law_428 ?_
    refine lv_bipush (v := 100) hx hb dL_law_429 (by decide) ?_
    refine lv_iload hx hb dL_law_431 (lv_at hl 7 rfl) ?_
    refine lv_iconst (v := 5) hx hb dL_law_433 (by decide) ?_
    refine lv_ishr hx hb dL_law_434 ?_
    refine lv_bipush (v := 70) hx hb dL_law_435 (by decide) ?_
    refine l_callN (v := fL_below (x >>> (5 &&& 31)) 70) (As := [.int (x >>> (5 &&& 31)), .int 70]) ⟨hx, hb, hml, hown, hts⟩ (kL_below l (x >>> (5 &&& 31)) 70 (by decide)) below_blind (fun _ _ _ => trivial) (va_cwS 2 hts gL_law_L_below rfl rfl rfl (by decide +kernel) ⟨Nat.le_of_ble_eq_true rfl, Nat.le_of_ble_eq_true rfl⟩) hB hL hS rfl hl.1 (Nat.le_of_ble_eq_true rfl) dL_law_437 ⟨by refine Nat.le_trans (m := 400000) ?_ rc_c; show cells + _ + _ + _ + _ + _ ≤ 400000; omega, by refine Nat.le_trans (m := 4000000) ?_ rc_s; show slots + _ + _ + _ + _ + _ ≤ 4000000; omega⟩ (fun H locs hL hS => ?_)
    refine lv_isub hx hb dL_law_440 ?_
    obtain ⟨v8, g10, e9, hq⟩ := hq
    refine l_callCi (v := v8) (g2 := g10) (As := [.int fm, .int ((1 : Int32) + (fL_below (x >>> (2 &&& 31)) 200)), .int ((100 : Int32) - (fL_below (x >>> (5 &&& 31)) 70))]) ⟨hx, hb, hml, hown, hts⟩ (vx_ofT (kX6_bring l D cy hI hl0 g _ fm ((1 : Int32) + (fL_below (x >>> (2 &&& 31)) 200)) ((100 : Int32) - (fL_below (x >>> (5 &&& 31)) 70)) hv_g) e9) (cwV 3 hts gL_law_X6_bring rfl rfl rfl (by decide +kernel) ⟨Nat.le_of_ble_eq_true rfl, Nat.le_of_ble_eq_true rfl⟩) hB hL hS rfl hl.1 (Nat.le_of_ble_eq_true rfl) dL_law_441 ⟨by refine Nat.le_trans (m := 400000) ?_ rc_c; show cells + _ + _ + _ + _ + _ + _ ≤ 400000; omega, by refine Nat.le_trans (m := 4000000) ?_ rc_s; show slots + _ + _ + _ + _ + _ + _ ≤ 4000000; omega⟩ (fun H locs hL hS => ?_)
    refine lv_istore (lv' := [(15, .int v8), (14, .int v6), (13, .int v4), (12, .int lt), (11, .int be), (10, .int tk), (9, .int bk), (8, .int fm), (7, .int x), (6, .int tm), (5, .int pr), (4, .int gn), (3, .int B), (2, .int F), (1, .ref (ad 0 0)), (0, .ref b)]) hx hb dL_law_444 hl (by decide) rfl (fun ls hl => ?_)
    refine lv_aload_n hx hb dL_law_446 rfl (lv_at hl 14 rfl) ?_
    refine lv_iload hx hb dL_law_447 (lv_at hl 0 rfl) ?_
    refine lv_iconst (v := 1) hx hb dL_law_449 (by decide) ?_
    obtain ⟨hv_g10, hq⟩ := hq
    obtain ⟨v11, e12, hq⟩ := hq
    refine l_callCi (v := v11) (g2 := g10) (As := [.int v8, .int 1]) ⟨hx, hb, hml, hown, hts⟩ (vx_ofR (kX6_ofBasket l D cy hI hl0 g10 _ v8 1 hv_g10) e12) (cwV 2 hts gL_law_X6_ofBasket rfl rfl rfl (by decide +kernel) ⟨Nat.le_of_ble_eq_true rfl, Nat.le_of_ble_eq_true rfl⟩) hB hL hS rfl hl.1 (Nat.le_of_ble_eq_true rfl) dL_law_450 ⟨by refine Nat.le_trans (m := 400000) ?_ rc_c; show cells + _ + _ + _ + _ + _ + _ + _ ≤ 400000; omega, by refine Nat.le_trans (m := 4000000) ?_ rc_s; show slots + _ + _ + _ + _ + _ + _ + _ ≤ 4000000; omega⟩ (fun H locs hL hS => ?_)
    refine lv_istore (lv' := [(16, .int v11), (15, .int v8), (14, .int v6), (13, .int v4), (12, .int lt), (11, .int be), (10, .int tk), (9, .int bk), (8, .int fm), (7, .int x), (6, .int tm), (5, .int pr), (4, .int gn), (3, .int B), (2, .int F), (1, .ref (ad 0 0)), (0, .ref b)]) hx hb dL_law_453 hl (by decide) rfl (fun ls hl => ?_)
    refine lv_aload_n hx hb dL_law_455 rfl (lv_at hl 15 rfl) ?_
    refine lv_iload hx hb dL_law_456 (lv_at hl 8 rfl) ?_
    refine lv_iconst (v := 2) hx hb dL_law_458 (by decide) ?_
    obtain ⟨v13, e14, hq⟩ := hq
    refine l_callCi (v := v13) (g2 := g10) (As := [.int fm, .int 2]) ⟨hx, hb, hml, hown, hts⟩ (vx_ofR (kX6_ofFarm l D cy hI hl0 g10 _ fm 2 hv_g10) e14) (cwV 2 hts gL_law_X6_ofFarm rfl rfl rfl (by decide +kernel) ⟨Nat.le_of_ble_eq_true rfl, Nat.le_of_ble_eq_true rfl⟩) hB hL hS rfl hl.1 (Nat.le_of_ble_eq_true rfl) dL_law_459 ⟨by refine Nat.le_trans (m := 400000) ?_ rc_c; show cells + _ + _ + _ + _ + _ + _ + _ + _ ≤ 400000; omega, by refine Nat.le_trans (m := 4000000) ?_ rc_s; show slots + _ + _ + _ + _ + _ + _ + _ + _ ≤ 4000000; omega⟩ (fun H locs hL hS => ?_)
    refine lv_iload hx hb dL_law_462 (lv_at hl 3 rfl) ?_
    refine lv_iload hx hb dL_law_464 (lv_at hl 0 rfl) ?_
    refine lv_iload hx hb dL_law_466 (lv_at hl 11 rfl) ?_
    refine lv_imul hx hb dL_law_468 ?_
    refine lv_iadd hx hb dL_law_469 ?_
    refine lv_icmp_ne (tgt := 521) hx hb dL_law_470 (by decide) (fun c15 => ?_) (fun c15 => ?_)
    · skip
      have hq := hq.2 c15
      refine lv_iconst (v := 0) hx hb dL_law_521 (by decide) ?_
      exact hq.elim
    · skip
      have hq := hq.1 c15
      refine lv_aload_n hx hb dL_law_473 rfl (lv_at hl 15 rfl) ?_
      refine lv_iload hx hb dL_law_474 (lv_at hl 8 rfl) ?_
      refine lv_iconst (v := 3) hx hb dL_law_476 (by decide) ?_
      obtain ⟨v16, e17, hq⟩ := hq
      refine l_callCi (v := v16) (g2 := g10) (As := [.int fm, .int 3]) ⟨hx, hb, hml, hown, hts⟩ (vx_ofR (kX6_ofFarm l D cy hI hl0 g10 _ fm 3 hv_g10) e17) (cwV 2 hts gL_law_X6_ofFarm rfl rfl rfl (by decide +kernel) ⟨Nat.le_of_ble_eq_true rfl, Nat.le_of_ble_eq_true rfl⟩) hB hL hS rfl hl.1 (Nat.le_of_ble_eq_true rfl) dL_law_477 ⟨by refine Nat.le_trans (m := 400000) ?_ rc_c; show cells + _ + _ + _ + _ + _ + _ + _ + _ + _ ≤ 400000; omega, by refine Nat.le_trans (m := 4000000) ?_ rc_s; show slots + _ + _ + _ + _ + _ + _ + _ + _ + _ ≤ 4000000; omega⟩ (fun H locs hL hS => ?_)
      refine lv_iload hx hb dL_law_480 (lv_at hl 2 rfl) ?_
      refine lv_iload hx hb dL_law_482 (lv_at hl 0 rfl) ?_
      refine lv_iadd hx hb dL_law_484 ?_
      refine lv_icmp_ne (tgt := 521) hx hb dL_law_485 (by decide) (fun c18 => ?_) (fun c18 => ?_)
      · skip
        have hq := hq.2 c18
        refine lv_iconst (v := 0) hx hb dL_law_521 (by decide) ?_
        exact hq.elim
      · skip
        have hq := hq.1 c18
        refine lv_aload_n hx hb dL_law_488 rfl (lv_at hl 15 rfl) ?_
        refine lv_iload hx hb dL_law_489 (lv_at hl 1 rfl) ?_
        refine lv_iconst (v := 5) hx hb dL_law_491 (by decide) ?_
        obtain ⟨v19, e20, hq⟩ := hq
        refine l_callCi (v := v19) (g2 := g10) (As := [.int v8, .int 5]) ⟨hx, hb, hml, hown, hts⟩ (vx_ofR (kX6_ofBasket l D cy hI hl0 g10 _ v8 5 hv_g10) e20) (cwV 2 hts gL_law_X6_ofBasket rfl rfl rfl (by decide +kernel) ⟨Nat.le_of_ble_eq_true rfl, Nat.le_of_ble_eq_true rfl⟩) hB hL hS rfl hl.1 (Nat.le_of_ble_eq_true rfl) dL_law_492 ⟨by refine Nat.le_trans (m := 400000) ?_ rc_c; show cells + _ + _ + _ + _ + _ + _ + _ + _ + _ + _ ≤ 400000; omega, by refine Nat.le_trans (m := 4000000) ?_ rc_s; show slots + _ + _ + _ + _ + _ + _ + _ + _ + _ + _ ≤ 4000000; omega⟩ (fun H locs hL hS => ?_)
        refine lv_aload_n hx hb dL_law_495 rfl (lv_at hl 15 rfl) ?_
        refine lv_iload hx hb dL_law_496 (lv_at hl 8 rfl) ?_
        refine lv_iconst (v := 1) hx hb dL_law_498 (by decide) ?_
        obtain ⟨v21, e22, hq⟩ := hq
        refine l_callCi (v := v21) (g2 := g10) (As := [.int fm, .int 1]) ⟨hx, hb, hml, hown, hts⟩ (vx_ofR (kX6_ofFarm l D cy hI hl0 g10 _ fm 1 hv_g10) e22) (cwV 2 hts gL_law_X6_ofFarm rfl rfl rfl (by decide +kernel) ⟨Nat.le_of_ble_eq_true rfl, Nat.le_of_ble_eq_true rfl⟩) hB hL hS rfl hl.1 (Nat.le_of_ble_eq_true rfl) dL_law_499 ⟨by refine Nat.le_trans (m := 400000) ?_ rc_c; show cells + _ + _ + _ + _ + _ + _ + _ + _ + _ + _ + _ ≤ 400000; omega, by refine Nat.le_trans (m := 4000000) ?_ rc_s; show slots + _ + _ + _ + _ + _ + _ + _ + _ + _ + _ + _ ≤ 4000000; omega⟩ (fun H locs hL hS => ?_)
        refine lv_aload_n hx hb dL_law_502 rfl (lv_at hl 15 rfl) ?_
        refine lv_iconst (v := 0) hx hb dL_law_503 (by decide) ?_
        obtain ⟨v23, e24, hq⟩ := hq
        refine l_callCi (v := v23) (g2 := g10) (As := [.int 0]) ⟨hx, hb, hml, hown, hts⟩ (vx_ofR (kX6_many l D cy hI hl0 g10 _ 0 hv_g10) e24) (cwV 1 hts gL_law_X6_many rfl rfl rfl (by decide +kernel) ⟨Nat.le_of_ble_eq_true rfl, Nat.le_of_ble_eq_true rfl⟩) hB hL hS rfl hl.1 (Nat.le_of_ble_eq_true rfl) dL_law_504 ⟨by refine Nat.le_trans (m := 400000) ?_ rc_c; show cells + _ + _ + _ + _ + _ + _ + _ + _ + _ + _ + _ + _ ≤ 400000; omega, by refine Nat.le_trans (m := 4000000) ?_ rc_s; show slots + _ + _ + _ + _ + _ + _ + _ + _ + _ + _ + _ + _ ≤ 4000000; omega⟩ (fun H locs hL hS => ?_)
        refine lv_bipush (v := 24) hx hb dL_law_507 (by decide) ?_
        refine lv_idiv hx hb dL_law_509 (by decide) ?_
        refine lv_icmp_lt (tgt := 517) hx hb dL_law_510 (by decide) (fun c25 => ?_) (fun c25 => ?_)
        · skip
          have hq := hq.1 c25
          refine lv_iconst (v := 0) hx hb dL_law_517 (by decide) ?_
          refine lv_icmp_eq (tgt := 1388) hx hb dL_law_518 (by decide) (fun c26 => ?_) (fun c26 => ?_)
          · skip
            have hq := hq.1 c26
            refine W.widen (k := cells + 40) (n := slots + 400) (by omega) (by omega) ?_
            exact kk g10 gn pr _ _ ls hL hS (lv_sub hl [10, 11, 12, 13, 14, 15, 16] rfl) hq
          · skip
            have hq := hq.2 c26
            refine lv_iconst (v := 0) hx hb dL_law_521 (by decide) ?_
            exact hq.elim
        · skip
          have hq := hq.2 c25
          refine lv_iconst (v := 1) hx hb dL_law_513 (by decide) ?_
          refine lv_goto (tgt := 518) hx hb dL_law_514 (by decide) ?_
          refine lv_icmp_eq (tgt := 1388) hx hb dL_law_518 (by decide) (fun c27 => ?_) (fun c27 => ?_)
          · skip
            have hq := hq.1 c27
            refine W.widen (k := cells + 40) (n := slots + 400) (by omega) (by omega) ?_
            exact kk g10 gn pr _ _ ls hL hS (lv_sub hl [10, 11, 12, 13, 14, 15, 16] rfl) hq
          · skip
            have hq := hq.2 c27
            refine lv_iconst (v := 0) hx hb dL_law_521 (by decide) ?_
            exact hq.elim
  · skip
    have hq := hq.1 c3
    refine lv_goto (tgt := 1388) hx hb dL_law_393 (by decide) ?_
    refine W.widen (k := cells + 40) (n := slots + 400) (by omega) (by omega) ?_
    exact kk g gn pr _ _ ls hL hS (lv_sub hl [6, 7, 8, 9, 10, 11, 12] rfl) hq
def VC_C523 (L : Nat) (xs : Nat → Int32) (g : Gd) (F : Int32) (B : Int32) (gn : Int32) (pr : Int32) (tm : Int32) (x : Int32) (fm : Int32) (bk : Int32) (tk : Int32) (be : Int32) (lt : Int32) (K : Gd → Int32 → Int32 → Prop) : Prop := ((0 ≤ bk → (∃ (v2 : Int32), fX6_ofTank g tk 0 = (0, v2) ∧ (IvC g ∧ (((fX6_pulp g bk tk).1 = 0 ∨ (fX6_pulp g bk tk).1 = 3) ∧ (∃ (v4 : Int32) (g6 : Gd), fL_pulp g bk tk = (v4, g6) ∧ ((0 ≤ v4 → (IvC g6 ∧ (∃ (v9 : Int32), fX6_ofBasket g6 bk 1 = (0, v9) ∧ ((v4 = (v2 + (v9 / 2)) → ((300 < v4 → False) ∧ (¬ 300 < v4 → (∃ (v13 : Int32), fX6_ofBasket g6 bk 3 = (0, v13) ∧ ((v13 = 1 → K g6 gn pr) ∧ (¬ v13 = 1 → False)))))) ∧ (¬ v4 = (v2 + (v9 / 2)) → False))))) ∧ (¬ 0 ≤ v4 → (∃ (v16 : Int32), fX6_ofTank g6 tk 0 = (0, v16) ∧ ((v16 = v2 → K g6 gn pr) ∧ (¬ v16 = v2 → False)))))))))) ∧ (¬ 0 ≤ bk → K g gn pr))
set_option maxRecDepth 100000 in
set_option maxHeartbeats 8000000 in
theorem W_C523 (C : LC p l s m c b L xs) (hI : cI ad) (hB : LWB D cy s) (hL : LWS D cy ad s g H) (hS : va_S (LA0 s) s.heap H locs) (hc : cells + 40 ≤ 400000) (hs : slots + 400 ≤ 4000000) {F B gn pr tm x fm bk tk be lt : Int32} (hl : lv_has ls 17 [(12, .int lt), (11, .int be), (10, .int tk), (9, .int bk), (8, .int fm), (7, .int x), (6, .int tm), (5, .int pr), (4, .int gn), (3, .int B), (2, .int F), (1, .ref (ad 0 0)), (0, .ref b)]) {K : Gd → Int32 → Int32 → Prop} (hq : VC_C523 L xs g F B gn pr tm x fm bk tk be lt K)
    (kk : ∀ (k0 : Gd) (k1 : Int32) (k2 : Int32) (H1 : Heap) (locs1 : List Loc) (ls1 : Array Slot), LWS D cy ad s k0 H1 → va_S (LA0 s) s.heap H1 locs1 → lv_has ls1 17 [(6, .int tm), (5, .int k2), (4, .int k1), (3, .int B), (2, .int F), (1, .ref (ad 0 0)), (0, .ref b)] → K k0 k1 k2 → W p l e room_1 s m #[Value.ref b] below meth c H1 locs1 (cells + 40) (slots + 400) Q (F0 m 1388 ls1 [])) : W p l e room_1 s m #[Value.ref b] below meth c H locs cells slots Q (F0 m 523 ls []) := by
  have hx := C.hx; have hb := C.hb; have hown := C.own; have hts := C.ts; have hml := C.ml; have hl0 := C.st
  unfold VC_C523 at hq
  refine lv_iload hx hb dL_law_523 (lv_at hl 3 rfl) ?_
  refine lv_if_ge (tgt := 531) hx hb dL_law_525 (by decide) (fun c1 => ?_) (fun c1 => ?_)
  · skip
    have hq := hq.1 c1
    refine lv_aload_n hx hb dL_law_531 rfl (lv_at hl 11 rfl) ?_
    refine lv_iload hx hb dL_law_532 (lv_at hl 2 rfl) ?_
    refine lv_iconst (v := 0) hx hb dL_law_534 (by decide) ?_
    obtain ⟨v2, e3, hq⟩ := hq
    refine l_callCi (v := v2) (g2 := g) (As := [.int tk, .int 0]) ⟨hx, hb, hml, hown, hts⟩ (vx_ofR (kX6_ofTank l D cy hI hl0 g _ tk 0 ) e3) (cwV 2 hts gL_law_X6_ofTank rfl rfl rfl (by decide +kernel) ⟨Nat.le_of_ble_eq_true rfl, Nat.le_of_ble_eq_true rfl⟩) hB hL hS rfl hl.1 (Nat.le_of_ble_eq_true rfl) dL_law_535 ⟨by refine Nat.le_trans (m := 400000) ?_ rc_c; show cells + _ ≤ 400000; omega, by refine Nat.le_trans (m := 4000000) ?_ rc_s; show slots + _ ≤ 4000000; omega⟩ (fun H locs hL hS => ?_)
    refine lv_istore (lv' := [(13, .int v2), (12, .int lt), (11, .int be), (10, .int tk), (9, .int bk), (8, .int fm), (7, .int x), (6, .int tm), (5, .int pr), (4, .int gn), (3, .int B), (2, .int F), (1, .ref (ad 0 0)), (0, .ref b)]) hx hb dL_law_538 hl (by decide) rfl (fun ls hl => ?_)
    refine lv_aload_n hx hb dL_law_540 rfl (lv_at hl 12 rfl) ?_
    refine lv_iload hx hb dL_law_541 (lv_at hl 4 rfl) ?_
    refine lv_iload hx hb dL_law_543 (lv_at hl 3 rfl) ?_
    obtain ⟨hv_g, hq⟩ := hq
    obtain ⟨hn7, hq⟩ := hq
    obtain ⟨v4, g6, e5, hq⟩ := hq
    refine l_callW (v := v4) (g2 := g6) (As := .ref (ad 0 0) :: [.int bk, .int tk]) ⟨hx, hb, hml, hown, hts⟩ (met_P (kL_pulp l D cy hI hl0 g _ bk tk hv_g hn7) e5) (vx_cwSW 3 hts gL_law_L_pulp rfl rfl rfl (by decide +kernel) ⟨Nat.le_of_ble_eq_true rfl, Nat.le_of_ble_eq_true rfl⟩) hB hL hS rfl hl.1 (Nat.le_of_ble_eq_true rfl) dL_law_545 ⟨by refine Nat.le_trans (m := 400000) ?_ rc_c; show cells + _ + _ ≤ 400000; omega, by refine Nat.le_trans (m := 4000000) ?_ rc_s; show slots + _ + _ ≤ 4000000; omega⟩ (fun H locs hL hS => ?_)
    refine lv_istore (lv' := [(14, .int v4), (13, .int v2), (12, .int lt), (11, .int be), (10, .int tk), (9, .int bk), (8, .int fm), (7, .int x), (6, .int tm), (5, .int pr), (4, .int gn), (3, .int B), (2, .int F), (1, .ref (ad 0 0)), (0, .ref b)]) hx hb dL_law_548 hl (by decide) rfl (fun ls hl => ?_)
    refine lv_iload hx hb dL_law_550 (lv_at hl 0 rfl) ?_
    refine lv_if_ge (tgt := 570) hx hb dL_law_552 (by decide) (fun c8 => ?_) (fun c8 => ?_)
    · skip
      have hq := hq.1 c8
      refine lv_iload hx hb dL_law_570 (lv_at hl 0 rfl) ?_
      refine lv_iload hx hb dL_law_572 (lv_at hl 1 rfl) ?_
      refine lv_aload_n hx hb dL_law_574 rfl (lv_at hl 13 rfl) ?_
      refine lv_iload hx hb dL_law_575 (lv_at hl 5 rfl) ?_
      refine lv_iconst (v := 1) hx hb dL_law_577 (by decide) ?_
      obtain ⟨hv_g6, hq⟩ := hq
      obtain ⟨v9, e10, hq⟩ := hq
      refine l_callCi (v := v9) (g2 := g6) (As := [.int bk, .int 1]) ⟨hx, hb, hml, hown, hts⟩ (vx_ofR (kX6_ofBasket l D cy hI hl0 g6 _ bk 1 hv_g6) e10) (cwV 2 hts gL_law_X6_ofBasket rfl rfl rfl (by decide +kernel) ⟨Nat.le_of_ble_eq_true rfl, Nat.le_of_ble_eq_true rfl⟩) hB hL hS rfl hl.1 (Nat.le_of_ble_eq_true rfl) dL_law_578 ⟨by refine Nat.le_trans (m := 400000) ?_ rc_c; show cells + _ + _ + _ ≤ 400000; omega, by refine Nat.le_trans (m := 4000000) ?_ rc_s; show slots + _ + _ + _ ≤ 4000000; omega⟩ (fun H locs hL hS => ?_)
      refine lv_iconst (v := 2) hx hb dL_law_581 (by decide) ?_
      refine lv_idiv hx hb dL_law_582 (by decide) ?_
      refine lv_iadd hx hb dL_law_583 ?_
      refine lv_icmp_ne (tgt := 606) hx hb dL_law_584 (by decide) (fun c11 => ?_) (fun c11 => ?_)
      · skip
        have hq := hq.2 c11
        refine lv_iconst (v := 0) hx hb dL_law_606 (by decide) ?_
        exact hq.elim
      · skip
        have hq := hq.1 c11
        refine lv_iload hx hb dL_law_587 (lv_at hl 0 rfl) ?_
        refine lv_sipush (v := 300) hx hb dL_law_589 (by decide) ?_
        refine lv_icmp_gt (tgt := 606) hx hb dL_law_592 (by decide) (fun c12 => ?_) (fun c12 => ?_)
        · skip
          have hq := hq.1 c12
          refine lv_iconst (v := 0) hx hb dL_law_606 (by decide) ?_
          exact hq.elim
        · skip
          have hq := hq.2 c12
          refine lv_aload_n hx hb dL_law_595 rfl (lv_at hl 13 rfl) ?_
          refine lv_iload hx hb dL_law_596 (lv_at hl 5 rfl) ?_
          refine lv_iconst (v := 3) hx hb dL_law_598 (by decide) ?_
          obtain ⟨v13, e14, hq⟩ := hq
          refine l_callCi (v := v13) (g2 := g6) (As := [.int bk, .int 3]) ⟨hx, hb, hml, hown, hts⟩ (vx_ofR (kX6_ofBasket l D cy hI hl0 g6 _ bk 3 hv_g6) e14) (cwV 2 hts gL_law_X6_ofBasket rfl rfl rfl (by decide +kernel) ⟨Nat.le_of_ble_eq_true rfl, Nat.le_of_ble_eq_true rfl⟩) hB hL hS rfl hl.1 (Nat.le_of_ble_eq_true rfl) dL_law_599 ⟨by refine Nat.le_trans (m := 400000) ?_ rc_c; show cells + _ + _ + _ + _ ≤ 400000; omega, by refine Nat.le_trans (m := 4000000) ?_ rc_s; show slots + _ + _ + _ + _ ≤ 4000000; omega⟩ (fun H locs hL hS => ?_)
          refine lv_iconst (v := 1) hx hb dL_law_602 (by decide) ?_
          refine lv_icmp_eq (tgt := 1388) hx hb dL_law_603 (by decide) (fun c15 => ?_) (fun c15 => ?_)
          · skip
            have hq := hq.1 c15
            refine W.widen (k := cells + 40) (n := slots + 400) (by omega) (by omega) ?_
            exact kk g6 gn pr _ _ ls hL hS (lv_sub hl [8, 9, 10, 11, 12, 13, 14] rfl) hq
          · skip
            have hq := hq.2 c15
            refine lv_iconst (v := 0) hx hb dL_law_606 (by decide) ?_
            exact hq.elim
    · skip
      have hq := hq.2 c8
      refine lv_aload_n hx hb dL_law_555 rfl (lv_at hl 13 rfl) ?_
      refine lv_iload hx hb dL_law_556 (lv_at hl 4 rfl) ?_
      refine lv_iconst (v := 0) hx hb dL_law_558 (by decide) ?_
      obtain ⟨v16, e17, hq⟩ := hq
      refine l_callCi (v := v16) (g2 := g6) (As := [.int tk, .int 0]) ⟨hx, hb, hml, hown, hts⟩ (vx_ofR (kX6_ofTank l D cy hI hl0 g6 _ tk 0 ) e17) (cwV 2 hts gL_law_X6_ofTank rfl rfl rfl (by decide +kernel) ⟨Nat.le_of_ble_eq_true rfl, Nat.le_of_ble_eq_true rfl⟩) hB hL hS rfl hl.1 (Nat.le_of_ble_eq_true rfl) dL_law_559 ⟨by refine Nat.le_trans (m := 400000) ?_ rc_c; show cells + _ + _ + _ ≤ 400000; omega, by refine Nat.le_trans (m := 4000000) ?_ rc_s; show slots + _ + _ + _ ≤ 4000000; omega⟩ (fun H locs hL hS => ?_)
      refine lv_iload hx hb dL_law_562 (lv_at hl 1 rfl) ?_
      refine lv_icmp_eq (tgt := 1388) hx hb dL_law_564 (by decide) (fun c18 => ?_) (fun c18 => ?_)
      · skip
        have hq := hq.1 c18
        refine W.widen (k := cells + 40) (n := slots + 400) (by omega) (by omega) ?_
        exact kk g6 gn pr _ _ ls hL hS (lv_sub hl [8, 9, 10, 11, 12, 13, 14] rfl) hq
      · skip
        have hq := hq.2 c18
        refine lv_goto (tgt := 606) hx hb dL_law_567 (by decide) ?_
        refine lv_iconst (v := 0) hx hb dL_law_606 (by decide) ?_
        exact hq.elim
  · skip
    have hq := hq.2 c1
    refine lv_goto (tgt := 1388) hx hb dL_law_528 (by decide) ?_
    refine W.widen (k := cells + 40) (n := slots + 400) (by omega) (by omega) ?_
    exact kk g gn pr _ _ ls hL hS (lv_sub hl [6, 7, 8, 9, 10, 11, 12] rfl) hq
def VC_C608 (L : Nat) (xs : Nat → Int32) (g : Gd) (F : Int32) (B : Int32) (gn : Int32) (pr : Int32) (tm : Int32) (x : Int32) (fm : Int32) (bk : Int32) (tk : Int32) (be : Int32) (lt : Int32) (K : Gd → Int32 → Int32 → Prop) : Prop := (∃ (v1 : Int32), fX6_ofTank g tk 0 = (0, v1) ∧ (IvC g ∧ (∃ (v3 : Int32), fX6_ofBed g be 2 = (0, v3) ∧ (((fL_below (x >>> (5 &&& 31)) 3) = 0 → (((fX6_wash g tk be 1).1 = 0 ∨ (fX6_wash g tk be 1).1 = 3) ∧ (∃ (v28 : Int32) (g30 : Gd), fL_wash g tk be 1 = (v28, g30) ∧ ((0 ≤ v28 → ((v28 = v1 → ((v3 = 0 → (IvC g30 ∧ (∃ (v35 : Int32), fX6_ofBed g30 be 2 = (0, v35) ∧ ((v35 = v1 → (∃ (v38 : Int32), fX6_ofTank g30 tk 0 = (0, v38) ∧ ((v38 = 0 → (∃ (v41 : Int32), fX6_ofBed g30 be 3 = (0, v41) ∧ ((v41 ≤ 1 → K g30 gn pr) ∧ (¬ v41 ≤ 1 → False)))) ∧ (¬ v38 = 0 → False)))) ∧ (¬ v35 = v1 → False))))) ∧ (¬ v3 = 0 → False))) ∧ (¬ v28 = v1 → False))) ∧ (¬ 0 ≤ v28 → (∃ (v44 : Int32), fX6_ofTank g30 tk 0 = (0, v44) ∧ ((v44 = v1 → (IvC g30 ∧ (∃ (v47 : Int32), fX6_ofBed g30 be 2 = (0, v47) ∧ ((v47 = v3 → K g30 gn pr) ∧ (¬ v47 = v3 → False))))) ∧ (¬ v44 = v1 → False)))))))) ∧ (¬ (fL_below (x >>> (5 &&& 31)) 3) = 0 → (((fX6_wash g tk be 0).1 = 0 ∨ (fX6_wash g tk be 0).1 = 3) ∧ (∃ (v6 : Int32) (g8 : Gd), fL_wash g tk be 0 = (v6, g8) ∧ ((0 ≤ v6 → ((v6 = v1 → ((v3 = 0 → (IvC g8 ∧ (∃ (v13 : Int32), fX6_ofBed g8 be 2 = (0, v13) ∧ ((v13 = v1 → (∃ (v16 : Int32), fX6_ofTank g8 tk 0 = (0, v16) ∧ ((v16 = 0 → (∃ (v19 : Int32), fX6_ofBed g8 be 3 = (0, v19) ∧ ((v19 ≤ 1 → K g8 gn pr) ∧ (¬ v19 ≤ 1 → False)))) ∧ (¬ v16 = 0 → False)))) ∧ (¬ v13 = v1 → False))))) ∧ (¬ v3 = 0 → False))) ∧ (¬ v6 = v1 → False))) ∧ (¬ 0 ≤ v6 → (∃ (v22 : Int32), fX6_ofTank g8 tk 0 = (0, v22) ∧ ((v22 = v1 → (IvC g8 ∧ (∃ (v25 : Int32), fX6_ofBed g8 be 2 = (0, v25) ∧ ((v25 = v3 → K g8 gn pr) ∧ (¬ v25 = v3 → False))))) ∧ (¬ v22 = v1 → False))))))))))))
set_option maxRecDepth 100000 in
set_option maxHeartbeats 8000000 in
theorem W_C608 (C : LC p l s m c b L xs) (hI : cI ad) (hB : LWB D cy s) (hL : LWS D cy ad s g H) (hS : va_S (LA0 s) s.heap H locs) (hc : cells + 40 ≤ 400000) (hs : slots + 400 ≤ 4000000) {F B gn pr tm x fm bk tk be lt : Int32} (hl : lv_has ls 17 [(12, .int lt), (11, .int be), (10, .int tk), (9, .int bk), (8, .int fm), (7, .int x), (6, .int tm), (5, .int pr), (4, .int gn), (3, .int B), (2, .int F), (1, .ref (ad 0 0)), (0, .ref b)]) {K : Gd → Int32 → Int32 → Prop} (hq : VC_C608 L xs g F B gn pr tm x fm bk tk be lt K)
    (kk : ∀ (k0 : Gd) (k1 : Int32) (k2 : Int32) (H1 : Heap) (locs1 : List Loc) (ls1 : Array Slot), LWS D cy ad s k0 H1 → va_S (LA0 s) s.heap H1 locs1 → lv_has ls1 17 [(6, .int tm), (5, .int k2), (4, .int k1), (3, .int B), (2, .int F), (1, .ref (ad 0 0)), (0, .ref b)] → K k0 k1 k2 → W p l e room_1 s m #[Value.ref b] below meth c H1 locs1 (cells + 40) (slots + 400) Q (F0 m 1388 ls1 [])) : W p l e room_1 s m #[Value.ref b] below meth c H locs cells slots Q (F0 m 608 ls []) := by
  have hx := C.hx; have hb := C.hb; have hown := C.own; have hts := C.ts; have hml := C.ml; have hl0 := C.st
  unfold VC_C608 at hq
  refine lv_aload_n hx hb dL_law_608 rfl (lv_at hl 11 rfl) ?_
  refine lv_iload hx hb dL_law_609 (lv_at hl 2 rfl) ?_
  refine lv_iconst (v := 0) hx hb dL_law_611 (by decide) ?_
  obtain ⟨v1, e2, hq⟩ := hq
  refine l_callCi (v := v1) (g2 := g) (As := [.int tk, .int 0]) ⟨hx, hb, hml, hown, hts⟩ (vx_ofR (kX6_ofTank l D cy hI hl0 g _ tk 0 ) e2) (cwV 2 hts gL_law_X6_ofTank rfl rfl rfl (by decide +kernel) ⟨Nat.le_of_ble_eq_true rfl, Nat.le_of_ble_eq_true rfl⟩) hB hL hS rfl hl.1 (Nat.le_of_ble_eq_true rfl) dL_law_612 ⟨by refine Nat.le_trans (m := 400000) ?_ rc_c; show cells + _ ≤ 400000; omega, by refine Nat.le_trans (m := 4000000) ?_ rc_s; show slots + _ ≤ 4000000; omega⟩ (fun H locs hL hS => ?_)
  refine lv_istore (lv' := [(13, .int v1), (12, .int lt), (11, .int be), (10, .int tk), (9, .int bk), (8, .int fm), (7, .int x), (6, .int tm), (5, .int pr), (4, .int gn), (3, .int B), (2, .int F), (1, .ref (ad 0 0)), (0, .ref b)]) hx hb dL_law_615 hl (by decide) rfl (fun ls hl => ?_)
  refine lv_aload_n hx hb dL_law_617 rfl (lv_at hl 12 rfl) ?_
  refine lv_iload hx hb dL_law_618 (lv_at hl 2 rfl) ?_
  refine lv_iconst (v := 2) hx hb dL_law_620 (by decide) ?_
  obtain ⟨hv_g, hq⟩ := hq
  obtain ⟨v3, e4, hq⟩ := hq
  refine l_callCi (v := v3) (g2 := g) (As := [.int be, .int 2]) ⟨hx, hb, hml, hown, hts⟩ (vx_ofR (kX6_ofBed l D cy hI hl0 g _ be 2 hv_g) e4) (cwV 2 hts gL_law_X6_ofBed rfl rfl rfl (by decide +kernel) ⟨Nat.le_of_ble_eq_true rfl, Nat.le_of_ble_eq_true rfl⟩) hB hL hS rfl hl.1 (Nat.le_of_ble_eq_true rfl) dL_law_621 ⟨by refine Nat.le_trans (m := 400000) ?_ rc_c; show cells + _ + _ ≤ 400000; omega, by refine Nat.le_trans (m := 4000000) ?_ rc_s; show slots + _ + _ ≤ 4000000; omega⟩ (fun H locs hL hS => ?_)
  refine lv_istore (lv' := [(14, .int v3), (13, .int v1), (12, .int lt), (11, .int be), (10, .int tk), (9, .int bk), (8, .int fm), (7, .int x), (6, .int tm), (5, .int pr), (4, .int gn), (3, .int B), (2, .int F), (1, .ref (ad 0 0)), (0, .ref b)]) hx hb dL_law_624 hl (by decide) rfl (fun ls hl => ?_)
  refine lv_aload_n hx hb dL_law_626 rfl (lv_at hl 13 rfl) ?_
  refine lv_iload hx hb dL_law_627 (lv_at hl 4 rfl) ?_
  refine lv_iload hx hb dL_law_629 (lv_at hl 3 rfl) ?_
  refine lv_iload hx hb dL_law_631 (lv_at hl 7 rfl) ?_
  refine lv_iconst (v := 5) hx hb dL_law_633 (by decide) ?_
  refine lv_ishr hx hb dL_law_634 ?_
  refine lv_iconst (v := 3) hx hb dL_law_635 (by decide) ?_
  refine l_callN (v := fL_below (x >>> (5 &&& 31)) 3) (As := [.int (x >>> (5 &&& 31)), .int 3]) ⟨hx, hb, hml, hown, hts⟩ (kL_below l (x >>> (5 &&& 31)) 3 (by decide)) below_blind (fun _ _ _ => trivial) (va_cwS 2 hts gL_law_L_below rfl rfl rfl (by decide +kernel) ⟨Nat.le_of_ble_eq_true rfl, Nat.le_of_ble_eq_true rfl⟩) hB hL hS rfl hl.1 (Nat.le_of_ble_eq_true rfl) dL_law_636 ⟨by refine Nat.le_trans (m := 400000) ?_ rc_c; show cells + _ + _ + _ ≤ 400000; omega, by refine Nat.le_trans (m := 4000000) ?_ rc_s; show slots + _ + _ + _ ≤ 4000000; omega⟩ (fun H locs hL hS => ?_)
  refine lv_if_ne (tgt := 646) hx hb dL_law_639 (by decide) (fun c5 => ?_) (fun c5 => ?_)
  · skip
    have hq := hq.2 c5
    refine lv_iconst (v := 0) hx hb dL_law_646 (by decide) ?_
    obtain ⟨hn9, hq⟩ := hq
    obtain ⟨v6, g8, e7, hq⟩ := hq
    refine l_callW (v := v6) (g2 := g8) (As := .ref (ad 0 0) :: [.int tk, .int be, .int 0]) ⟨hx, hb, hml, hown, hts⟩ (met_P (kL_wash l D cy hI hl0 g _ tk be 0 hv_g hn9) e7) (vx_cwSW 4 hts gL_law_L_wash rfl rfl rfl (by decide +kernel) ⟨Nat.le_of_ble_eq_true rfl, Nat.le_of_ble_eq_true rfl⟩) hB hL hS rfl hl.1 (Nat.le_of_ble_eq_true rfl) dL_law_647 ⟨by refine Nat.le_trans (m := 400000) ?_ rc_c; show cells + _ + _ + _ + _ ≤ 400000; omega, by refine Nat.le_trans (m := 4000000) ?_ rc_s; show slots + _ + _ + _ + _ ≤ 4000000; omega⟩ (fun H locs hL hS => ?_)
    refine lv_istore (lv' := [(15, .int v6), (14, .int v3), (13, .int v1), (12, .int lt), (11, .int be), (10, .int tk), (9, .int bk), (8, .int fm), (7, .int x), (6, .int tm), (5, .int pr), (4, .int gn), (3, .int B), (2, .int F), (1, .ref (ad 0 0)), (0, .ref b)]) hx hb dL_law_650 hl (by decide) rfl (fun ls hl => ?_)
    refine lv_iload hx hb dL_law_652 (lv_at hl 0 rfl) ?_
    refine lv_if_ge (tgt := 684) hx hb dL_law_654 (by decide) (fun c10 => ?_) (fun c10 => ?_)
    · skip
      have hq := hq.1 c10
      refine lv_iload hx hb dL_law_684 (lv_at hl 0 rfl) ?_
      refine lv_iload hx hb dL_law_686 (lv_at hl 2 rfl) ?_
      refine lv_icmp_ne (tgt := 729) hx hb dL_law_688 (by decide) (fun c11 => ?_) (fun c11 => ?_)
      · skip
        have hq := hq.2 c11
        refine lv_iconst (v := 0) hx hb dL_law_729 (by decide) ?_
        exact hq.elim
      · skip
        have hq := hq.1 c11
        refine lv_iload hx hb dL_law_691 (lv_at hl 1 rfl) ?_
        refine lv_if_ne (tgt := 729) hx hb dL_law_693 (by decide) (fun c12 => ?_) (fun c12 => ?_)
        · skip
          have hq := hq.2 c12
          refine lv_iconst (v := 0) hx hb dL_law_729 (by decide) ?_
          exact hq.elim
        · skip
          have hq := hq.1 c12
          refine lv_aload_n hx hb dL_law_696 rfl (lv_at hl 14 rfl) ?_
          refine lv_iload hx hb dL_law_697 (lv_at hl 4 rfl) ?_
          refine lv_iconst (v := 2) hx hb dL_law_699 (by decide) ?_
          obtain ⟨hv_g8, hq⟩ := hq
          obtain ⟨v13, e14, hq⟩ := hq
          refine l_callCi (v := v13) (g2 := g8) (As := [.int be, .int 2]) ⟨hx, hb, hml, hown, hts⟩ (vx_ofR (kX6_ofBed l D cy hI hl0 g8 _ be 2 hv_g8) e14) (cwV 2 hts gL_law_X6_ofBed rfl rfl rfl (by decide +kernel) ⟨Nat.le_of_ble_eq_true rfl, Nat.le_of_ble_eq_true rfl⟩) hB hL hS rfl hl.1 (Nat.le_of_ble_eq_true rfl) dL_law_700 ⟨by refine Nat.le_trans (m := 400000) ?_ rc_c; show cells + _ + _ + _ + _ + _ ≤ 400000; omega, by refine Nat.le_trans (m := 4000000) ?_ rc_s; show slots + _ + _ + _ + _ + _ ≤ 4000000; omega⟩ (fun H locs hL hS => ?_)
          refine lv_iload hx hb dL_law_703 (lv_at hl 2 rfl) ?_
          refine lv_icmp_ne (tgt := 729) hx hb dL_law_705 (by decide) (fun c15 => ?_) (fun c15 => ?_)
          · skip
            have hq := hq.2 c15
            refine lv_iconst (v := 0) hx hb dL_law_729 (by decide) ?_
            exact hq.elim
          · skip
            have hq := hq.1 c15
            refine lv_aload_n hx hb dL_law_708 rfl (lv_at hl 14 rfl) ?_
            refine lv_iload hx hb dL_law_709 (lv_at hl 5 rfl) ?_
            refine lv_iconst (v := 0) hx hb dL_law_711 (by decide) ?_
            obtain ⟨v16, e17, hq⟩ := hq
            refine l_callCi (v := v16) (g2 := g8) (As := [.int tk, .int 0]) ⟨hx, hb, hml, hown, hts⟩ (vx_ofR (kX6_ofTank l D cy hI hl0 g8 _ tk 0 ) e17) (cwV 2 hts gL_law_X6_ofTank rfl rfl rfl (by decide +kernel) ⟨Nat.le_of_ble_eq_true rfl, Nat.le_of_ble_eq_true rfl⟩) hB hL hS rfl hl.1 (Nat.le_of_ble_eq_true rfl) dL_law_712 ⟨by refine Nat.le_trans (m := 400000) ?_ rc_c; show cells + _ + _ + _ + _ + _ + _ ≤ 400000; omega, by refine Nat.le_trans (m := 4000000) ?_ rc_s; show slots + _ + _ + _ + _ + _ + _ ≤ 4000000; omega⟩ (fun H locs hL hS => ?_)
            refine lv_if_ne (tgt := 729) hx hb dL_law_715 (by decide) (fun c18 => ?_) (fun c18 => ?_)
            · skip
              have hq := hq.2 c18
              refine lv_iconst (v := 0) hx hb dL_law_729 (by decide) ?_
              exact hq.elim
            · skip
              have hq := hq.1 c18
              refine lv_aload_n hx hb dL_law_718 rfl (lv_at hl 14 rfl) ?_
              refine lv_iload hx hb dL_law_719 (lv_at hl 4 rfl) ?_
              refine lv_iconst (v := 3) hx hb dL_law_721 (by decide) ?_
              obtain ⟨v19, e20, hq⟩ := hq
              refine l_callCi (v := v19) (g2 := g8) (As := [.int be, .int 3]) ⟨hx, hb, hml, hown, hts⟩ (vx_ofR (kX6_ofBed l D cy hI hl0 g8 _ be 3 hv_g8) e20) (cwV 2 hts gL_law_X6_ofBed rfl rfl rfl (by decide +kernel) ⟨Nat.le_of_ble_eq_true rfl, Nat.le_of_ble_eq_true rfl⟩) hB hL hS rfl hl.1 (Nat.le_of_ble_eq_true rfl) dL_law_722 ⟨by refine Nat.le_trans (m := 400000) ?_ rc_c; show cells + _ + _ + _ + _ + _ + _ + _ ≤ 400000; omega, by refine Nat.le_trans (m := 4000000) ?_ rc_s; show slots + _ + _ + _ + _ + _ + _ + _ ≤ 4000000; omega⟩ (fun H locs hL hS => ?_)
              refine lv_iconst (v := 1) hx hb dL_law_725 (by decide) ?_
              refine lv_icmp_le (tgt := 1388) hx hb dL_law_726 (by decide) (fun c21 => ?_) (fun c21 => ?_)
              · skip
                have hq := hq.1 c21
                refine W.widen (k := cells + 40) (n := slots + 400) (by omega) (by omega) ?_
                exact kk g8 gn pr _ _ ls hL hS (lv_sub hl [9, 10, 11, 12, 13, 14, 15] rfl) hq
              · skip
                have hq := hq.2 c21
                refine lv_iconst (v := 0) hx hb dL_law_729 (by decide) ?_
                exact hq.elim
    · skip
      have hq := hq.2 c10
      refine lv_aload_n hx hb dL_law_657 rfl (lv_at hl 14 rfl) ?_
      refine lv_iload hx hb dL_law_658 (lv_at hl 5 rfl) ?_
      refine lv_iconst (v := 0) hx hb dL_law_660 (by decide) ?_
      obtain ⟨v22, e23, hq⟩ := hq
      refine l_callCi (v := v22) (g2 := g8) (As := [.int tk, .int 0]) ⟨hx, hb, hml, hown, hts⟩ (vx_ofR (kX6_ofTank l D cy hI hl0 g8 _ tk 0 ) e23) (cwV 2 hts gL_law_X6_ofTank rfl rfl rfl (by decide +kernel) ⟨Nat.le_of_ble_eq_true rfl, Nat.le_of_ble_eq_true rfl⟩) hB hL hS rfl hl.1 (Nat.le_of_ble_eq_true rfl) dL_law_661 ⟨by refine Nat.le_trans (m := 400000) ?_ rc_c; show cells + _ + _ + _ + _ + _ ≤ 400000; omega, by refine Nat.le_trans (m := 4000000) ?_ rc_s; show slots + _ + _ + _ + _ + _ ≤ 4000000; omega⟩ (fun H locs hL hS => ?_)
      refine lv_iload hx hb dL_law_664 (lv_at hl 2 rfl) ?_
      refine lv_icmp_ne (tgt := 729) hx hb dL_law_666 (by decide) (fun c24 => ?_) (fun c24 => ?_)
      · skip
        have hq := hq.2 c24
        refine lv_iconst (v := 0) hx hb dL_law_729 (by decide) ?_
        exact hq.elim
      · skip
        have hq := hq.1 c24
        refine lv_aload_n hx hb dL_law_669 rfl (lv_at hl 14 rfl) ?_
        refine lv_iload hx hb dL_law_670 (lv_at hl 4 rfl) ?_
        refine lv_iconst (v := 2) hx hb dL_law_672 (by decide) ?_
        obtain ⟨hv_g8, hq⟩ := hq
        obtain ⟨v25, e26, hq⟩ := hq
        refine l_callCi (v := v25) (g2 := g8) (As := [.int be, .int 2]) ⟨hx, hb, hml, hown, hts⟩ (vx_ofR (kX6_ofBed l D cy hI hl0 g8 _ be 2 hv_g8) e26) (cwV 2 hts gL_law_X6_ofBed rfl rfl rfl (by decide +kernel) ⟨Nat.le_of_ble_eq_true rfl, Nat.le_of_ble_eq_true rfl⟩) hB hL hS rfl hl.1 (Nat.le_of_ble_eq_true rfl) dL_law_673 ⟨by refine Nat.le_trans (m := 400000) ?_ rc_c; show cells + _ + _ + _ + _ + _ + _ ≤ 400000; omega, by refine Nat.le_trans (m := 4000000) ?_ rc_s; show slots + _ + _ + _ + _ + _ + _ ≤ 4000000; omega⟩ (fun H locs hL hS => ?_)
        refine lv_iload hx hb dL_law_676 (lv_at hl 1 rfl) ?_
        refine lv_icmp_eq (tgt := 1388) hx hb dL_law_678 (by decide) (fun c27 => ?_) (fun c27 => ?_)
        · skip
          have hq := hq.1 c27
          refine W.widen (k := cells + 40) (n := slots + 400) (by omega) (by omega) ?_
          exact kk g8 gn pr _ _ ls hL hS (lv_sub hl [9, 10, 11, 12, 13, 14, 15] rfl) hq
        · skip
          have hq := hq.2 c27
          refine lv_goto (tgt := 729) hx hb dL_law_681 (by decide) ?_
          refine lv_iconst (v := 0) hx hb dL_law_729 (by decide) ?_
          exact hq.elim
  · skip
    have hq := hq.1 c5
    refine lv_iconst (v := 1) hx hb dL_law_642 (by decide) ?_
    refine lv_goto (tgt := 647) hx hb dL_law_643 (by decide) ?_
    obtain ⟨hn31, hq⟩ := hq
    obtain ⟨v28, g30, e29, hq⟩ := hq
    refine l_callW (v := v28) (g2 := g30) (As := .ref (ad 0 0) :: [.int tk, .int be, .int 1]) ⟨hx, hb, hml, hown, hts⟩ (met_P (kL_wash l D cy hI hl0 g _ tk be 1 hv_g hn31) e29) (vx_cwSW 4 hts gL_law_L_wash rfl rfl rfl (by decide +kernel) ⟨Nat.le_of_ble_eq_true rfl, Nat.le_of_ble_eq_true rfl⟩) hB hL hS rfl hl.1 (Nat.le_of_ble_eq_true rfl) dL_law_647 ⟨by refine Nat.le_trans (m := 400000) ?_ rc_c; show cells + _ + _ + _ + _ ≤ 400000; omega, by refine Nat.le_trans (m := 4000000) ?_ rc_s; show slots + _ + _ + _ + _ ≤ 4000000; omega⟩ (fun H locs hL hS => ?_)
    refine lv_istore (lv' := [(15, .int v28), (14, .int v3), (13, .int v1), (12, .int lt), (11, .int be), (10, .int tk), (9, .int bk), (8, .int fm), (7, .int x), (6, .int tm), (5, .int pr), (4, .int gn), (3, .int B), (2, .int F), (1, .ref (ad 0 0)), (0, .ref b)]) hx hb dL_law_650 hl (by decide) rfl (fun ls hl => ?_)
    refine lv_iload hx hb dL_law_652 (lv_at hl 0 rfl) ?_
    refine lv_if_ge (tgt := 684) hx hb dL_law_654 (by decide) (fun c32 => ?_) (fun c32 => ?_)
    · skip
      have hq := hq.1 c32
      refine lv_iload hx hb dL_law_684 (lv_at hl 0 rfl) ?_
      refine lv_iload hx hb dL_law_686 (lv_at hl 2 rfl) ?_
      refine lv_icmp_ne (tgt := 729) hx hb dL_law_688 (by decide) (fun c33 => ?_) (fun c33 => ?_)
      · skip
        have hq := hq.2 c33
        refine lv_iconst (v := 0) hx hb dL_law_729 (by decide) ?_
        exact hq.elim
      · skip
        have hq := hq.1 c33
        refine lv_iload hx hb dL_law_691 (lv_at hl 1 rfl) ?_
        refine lv_if_ne (tgt := 729) hx hb dL_law_693 (by decide) (fun c34 => ?_) (fun c34 => ?_)
        · skip
          have hq := hq.2 c34
          refine lv_iconst (v := 0) hx hb dL_law_729 (by decide) ?_
          exact hq.elim
        · skip
          have hq := hq.1 c34
          refine lv_aload_n hx hb dL_law_696 rfl (lv_at hl 14 rfl) ?_
          refine lv_iload hx hb dL_law_697 (lv_at hl 4 rfl) ?_
          refine lv_iconst (v := 2) hx hb dL_law_699 (by decide) ?_
          obtain ⟨hv_g30, hq⟩ := hq
          obtain ⟨v35, e36, hq⟩ := hq
          refine l_callCi (v := v35) (g2 := g30) (As := [.int be, .int 2]) ⟨hx, hb, hml, hown, hts⟩ (vx_ofR (kX6_ofBed l D cy hI hl0 g30 _ be 2 hv_g30) e36) (cwV 2 hts gL_law_X6_ofBed rfl rfl rfl (by decide +kernel) ⟨Nat.le_of_ble_eq_true rfl, Nat.le_of_ble_eq_true rfl⟩) hB hL hS rfl hl.1 (Nat.le_of_ble_eq_true rfl) dL_law_700 ⟨by refine Nat.le_trans (m := 400000) ?_ rc_c; show cells + _ + _ + _ + _ + _ ≤ 400000; omega, by refine Nat.le_trans (m := 4000000) ?_ rc_s; show slots + _ + _ + _ + _ + _ ≤ 4000000; omega⟩ (fun H locs hL hS => ?_)
          refine lv_iload hx hb dL_law_703 (lv_at hl 2 rfl) ?_
          refine lv_icmp_ne (tgt := 729) hx hb dL_law_705 (by decide) (fun c37 => ?_) (fun c37 => ?_)
          · skip
            have hq := hq.2 c37
            refine lv_iconst (v := 0) hx hb dL_law_729 (by decide) ?_
            exact hq.elim
          · skip
            have hq := hq.1 c37
            refine lv_aload_n hx hb dL_law_708 rfl (lv_at hl 14 rfl) ?_
            refine lv_iload hx hb dL_law_709 (lv_at hl 5 rfl) ?_
            refine lv_iconst (v := 0) hx hb dL_law_711 (by decide) ?_
            obtain ⟨v38, e39, hq⟩ := hq
            refine l_callCi (v := v38) (g2 := g30) (As := [.int tk, .int 0]) ⟨hx, hb, hml, hown, hts⟩ (vx_ofR (kX6_ofTank l D cy hI hl0 g30 _ tk 0 ) e39) (cwV 2 hts gL_law_X6_ofTank rfl rfl rfl (by decide +kernel) ⟨Nat.le_of_ble_eq_true rfl, Nat.le_of_ble_eq_true rfl⟩) hB hL hS rfl hl.1 (Nat.le_of_ble_eq_true rfl) dL_law_712 ⟨by refine Nat.le_trans (m := 400000) ?_ rc_c; show cells + _ + _ + _ + _ + _ + _ ≤ 400000; omega, by refine Nat.le_trans (m := 4000000) ?_ rc_s; show slots + _ + _ + _ + _ + _ + _ ≤ 4000000; omega⟩ (fun H locs hL hS => ?_)
            refine lv_if_ne (tgt := 729) hx hb dL_law_715 (by decide) (fun c40 => ?_) (fun c40 => ?_)
            · skip
              have hq := hq.2 c40
              refine lv_iconst (v := 0) hx hb dL_law_729 (by decide) ?_
              exact hq.elim
            · skip
              have hq := hq.1 c40
              refine lv_aload_n hx hb dL_law_718 rfl (lv_at hl 14 rfl) ?_
              refine lv_iload hx hb dL_law_719 (lv_at hl 4 rfl) ?_
              refine lv_iconst (v := 3) hx hb dL_law_721 (by decide) ?_
              obtain ⟨v41, e42, hq⟩ := hq
              refine l_callCi (v := v41) (g2 := g30) (As := [.int be, .int 3]) ⟨hx, hb, hml, hown, hts⟩ (vx_ofR (kX6_ofBed l D cy hI hl0 g30 _ be 3 hv_g30) e42) (cwV 2 hts gL_law_X6_ofBed rfl rfl rfl (by decide +kernel) ⟨Nat.le_of_ble_eq_true rfl, Nat.le_of_ble_eq_true rfl⟩) hB hL hS rfl hl.1 (Nat.le_of_ble_eq_true rfl) dL_law_722 ⟨by refine Nat.le_trans (m := 400000) ?_ rc_c; show cells + _ + _ + _ + _ + _ + _ + _ ≤ 400000; omega, by refine Nat.le_trans (m := 4000000) ?_ rc_s; show slots + _ + _ + _ + _ + _ + _ + _ ≤ 4000000; omega⟩ (fun H locs hL hS => ?_)
              refine lv_iconst (v := 1) hx hb dL_law_725 (by decide) ?_
              refine lv_icmp_le (tgt := 1388) hx hb dL_law_726 (by decide) (fun c43 => ?_) (fun c43 => ?_)
              · skip
                have hq := hq.1 c43
                refine W.widen (k := cells + 40) (n := slots + 400) (by omega) (by omega) ?_
                exact kk g30 gn pr _ _ ls hL hS (lv_sub hl [9, 10, 11, 12, 13, 14, 15] rfl) hq
              · skip
                have hq := hq.2 c43
                refine lv_iconst (v := 0) hx hb dL_law_729 (by decide) ?_
                exact hq.elim
    · skip
      have hq := hq.2 c32
      refine lv_aload_n hx hb dL_law_657 rfl (lv_at hl 14 rfl) ?_
      refine lv_iload hx hb dL_law_658 (lv_at hl 5 rfl) ?_
      refine lv_iconst (v := 0) hx hb dL_law_660 (by decide) ?_
      obtain ⟨v44, e45, hq⟩ := hq
      refine l_callCi (v := v44) (g2 := g30) (As := [.int tk, .int 0]) ⟨hx, hb, hml, hown, hts⟩ (vx_ofR (kX6_ofTank l D cy hI hl0 g30 _ tk 0 ) e45) (cwV 2 hts gL_law_X6_ofTank rfl rfl rfl (by decide +kernel) ⟨Nat.le_of_ble_eq_true rfl, Nat.le_of_ble_eq_true rfl⟩) hB hL hS rfl hl.1 (Nat.le_of_ble_eq_true rfl) dL_law_661 ⟨by refine Nat.le_trans (m := 400000) ?_ rc_c; show cells + _ + _ + _ + _ + _ ≤ 400000; omega, by refine Nat.le_trans (m := 4000000) ?_ rc_s; show slots + _ + _ + _ + _ + _ ≤ 4000000; omega⟩ (fun H locs hL hS => ?_)
      refine lv_iload hx hb dL_law_664 (lv_at hl 2 rfl) ?_
      refine lv_icmp_ne (tgt := 729) hx hb dL_law_666 (by decide) (fun c46 => ?_) (fun c46 => ?_)
      · skip
        have hq := hq.2 c46
        refine lv_iconst (v := 0) hx hb dL_law_729 (by decide) ?_
        exact hq.elim
      · skip
        have hq := hq.1 c46
        refine lv_aload_n hx hb dL_law_669 rfl (lv_at hl 14 rfl) ?_
        refine lv_iload hx hb dL_law_670 (lv_at hl 4 rfl) ?_
        refine lv_iconst (v := 2) hx hb dL_law_672 (by decide) ?_
        obtain ⟨hv_g30, hq⟩ := hq
        obtain ⟨v47, e48, hq⟩ := hq
        refine l_callCi (v := v47) (g2 := g30) (As := [.int be, .int 2]) ⟨hx, hb, hml, hown, hts⟩ (vx_ofR (kX6_ofBed l D cy hI hl0 g30 _ be 2 hv_g30) e48) (cwV 2 hts gL_law_X6_ofBed rfl rfl rfl (by decide +kernel) ⟨Nat.le_of_ble_eq_true rfl, Nat.le_of_ble_eq_true rfl⟩) hB hL hS rfl hl.1 (Nat.le_of_ble_eq_true rfl) dL_law_673 ⟨by refine Nat.le_trans (m := 400000) ?_ rc_c; show cells + _ + _ + _ + _ + _ + _ ≤ 400000; omega, by refine Nat.le_trans (m := 4000000) ?_ rc_s; show slots + _ + _ + _ + _ + _ + _ ≤ 4000000; omega⟩ (fun H locs hL hS => ?_)
        refine lv_iload hx hb dL_law_676 (lv_at hl 1 rfl) ?_
        refine lv_icmp_eq (tgt := 1388) hx hb dL_law_678 (by decide) (fun c49 => ?_) (fun c49 => ?_)
        · skip
          have hq := hq.1 c49
          refine W.widen (k := cells + 40) (n := slots + 400) (by omega) (by omega) ?_
          exact kk g30 gn pr _ _ ls hL hS (lv_sub hl [9, 10, 11, 12, 13, 14, 15] rfl) hq
        · skip
          have hq := hq.2 c49
          refine lv_goto (tgt := 729) hx hb dL_law_681 (by decide) ?_
          refine lv_iconst (v := 0) hx hb dL_law_729 (by decide) ?_
          exact hq.elim
def VC_C731 (L : Nat) (xs : Nat → Int32) (g : Gd) (F : Int32) (B : Int32) (gn : Int32) (pr : Int32) (tm : Int32) (x : Int32) (fm : Int32) (bk : Int32) (tk : Int32) (be : Int32) (lt : Int32) (K : Gd → Int32 → Int32 → Prop) : Prop := ((0 ≤ bk → (IvC g ∧ (∃ (v2 : Int32), fX6_ofBed g be 2 = (0, v2) ∧ (((fX6_whole g bk be).1 = 0 ∨ (fX6_whole g bk be).1 = 3) ∧ (∃ (v4 : Int32) (g6 : Gd), fL_whole g bk be = (v4, g6) ∧ ((0 ≤ v4 → ((v2 = 0 → (IvC g6 ∧ (∃ (v10 : Int32), fX6_ofBed g6 be 2 = (0, v10) ∧ ((v10 = v4 → (∃ (v13 : Int32), fX6_ofBasket g6 bk 3 = (0, v13) ∧ ((v13 = 2 → (∃ (v16 : Int32), fX6_ofBed g6 be 3 = (0, v16) ∧ ((v16 = 2 → K g6 gn pr) ∧ (¬ v16 = 2 → False)))) ∧ (¬ v13 = 2 → False)))) ∧ (¬ v10 = v4 → False))))) ∧ (¬ v2 = 0 → False))) ∧ (¬ 0 ≤ v4 → (IvC g6 ∧ (∃ (v19 : Int32), fX6_ofBed g6 be 2 = (0, v19) ∧ ((v19 = v2 → K g6 gn pr) ∧ (¬ v19 = v2 → False))))))))))) ∧ (¬ 0 ≤ bk → K g gn pr))
set_option maxRecDepth 100000 in
set_option maxHeartbeats 8000000 in
theorem W_C731 (C : LC p l s m c b L xs) (hI : cI ad) (hB : LWB D cy s) (hL : LWS D cy ad s g H) (hS : va_S (LA0 s) s.heap H locs) (hc : cells + 40 ≤ 400000) (hs : slots + 400 ≤ 4000000) {F B gn pr tm x fm bk tk be lt : Int32} (hl : lv_has ls 17 [(12, .int lt), (11, .int be), (10, .int tk), (9, .int bk), (8, .int fm), (7, .int x), (6, .int tm), (5, .int pr), (4, .int gn), (3, .int B), (2, .int F), (1, .ref (ad 0 0)), (0, .ref b)]) {K : Gd → Int32 → Int32 → Prop} (hq : VC_C731 L xs g F B gn pr tm x fm bk tk be lt K)
    (kk : ∀ (k0 : Gd) (k1 : Int32) (k2 : Int32) (H1 : Heap) (locs1 : List Loc) (ls1 : Array Slot), LWS D cy ad s k0 H1 → va_S (LA0 s) s.heap H1 locs1 → lv_has ls1 17 [(6, .int tm), (5, .int k2), (4, .int k1), (3, .int B), (2, .int F), (1, .ref (ad 0 0)), (0, .ref b)] → K k0 k1 k2 → W p l e room_1 s m #[Value.ref b] below meth c H1 locs1 (cells + 40) (slots + 400) Q (F0 m 1388 ls1 [])) : W p l e room_1 s m #[Value.ref b] below meth c H locs cells slots Q (F0 m 731 ls []) := by
  have hx := C.hx; have hb := C.hb; have hown := C.own; have hts := C.ts; have hml := C.ml; have hl0 := C.st
  unfold VC_C731 at hq
  refine lv_iload hx hb dL_law_731 (lv_at hl 3 rfl) ?_
  refine lv_if_ge (tgt := 739) hx hb dL_law_733 (by decide) (fun c1 => ?_) (fun c1 => ?_)
  · skip
    have hq := hq.1 c1
    refine lv_aload_n hx hb dL_law_739 rfl (lv_at hl 11 rfl) ?_
    refine lv_iload hx hb dL_law_740 (lv_at hl 1 rfl) ?_
    refine lv_iconst (v := 2) hx hb dL_law_742 (by decide) ?_
    obtain ⟨hv_g, hq⟩ := hq
    obtain ⟨v2, e3, hq⟩ := hq
    refine l_callCi (v := v2) (g2 := g) (As := [.int be, .int 2]) ⟨hx, hb, hml, hown, hts⟩ (vx_ofR (kX6_ofBed l D cy hI hl0 g _ be 2 hv_g) e3) (cwV 2 hts gL_law_X6_ofBed rfl rfl rfl (by decide +kernel) ⟨Nat.le_of_ble_eq_true rfl, Nat.le_of_ble_eq_true rfl⟩) hB hL hS rfl hl.1 (Nat.le_of_ble_eq_true rfl) dL_law_743 ⟨by refine Nat.le_trans (m := 400000) ?_ rc_c; show cells + _ ≤ 400000; omega, by refine Nat.le_trans (m := 4000000) ?_ rc_s; show slots + _ ≤ 4000000; omega⟩ (fun H locs hL hS => ?_)
    refine lv_istore (lv' := [(13, .int v2), (12, .int lt), (11, .int be), (10, .int tk), (9, .int bk), (8, .int fm), (7, .int x), (6, .int tm), (5, .int pr), (4, .int gn), (3, .int B), (2, .int F), (1, .ref (ad 0 0)), (0, .ref b)]) hx hb dL_law_746 hl (by decide) rfl (fun ls hl => ?_)
    refine lv_aload_n hx hb dL_law_748 rfl (lv_at hl 12 rfl) ?_
    refine lv_iload hx hb dL_law_749 (lv_at hl 4 rfl) ?_
    refine lv_iload hx hb dL_law_751 (lv_at hl 2 rfl) ?_
    obtain ⟨hn7, hq⟩ := hq
    obtain ⟨v4, g6, e5, hq⟩ := hq
    refine l_callW (v := v4) (g2 := g6) (As := .ref (ad 0 0) :: [.int bk, .int be]) ⟨hx, hb, hml, hown, hts⟩ (met_P (kL_whole l D cy hI hl0 g _ bk be hv_g hn7) e5) (vx_cwSW 3 hts gL_law_L_whole rfl rfl rfl (by decide +kernel) ⟨Nat.le_of_ble_eq_true rfl, Nat.le_of_ble_eq_true rfl⟩) hB hL hS rfl hl.1 (Nat.le_of_ble_eq_true rfl) dL_law_753 ⟨by refine Nat.le_trans (m := 400000) ?_ rc_c; show cells + _ + _ ≤ 400000; omega, by refine Nat.le_trans (m := 4000000) ?_ rc_s; show slots + _ + _ ≤ 4000000; omega⟩ (fun H locs hL hS => ?_)
    refine lv_istore (lv' := [(14, .int v4), (13, .int v2), (12, .int lt), (11, .int be), (10, .int tk), (9, .int bk), (8, .int fm), (7, .int x), (6, .int tm), (5, .int pr), (4, .int gn), (3, .int B), (2, .int F), (1, .ref (ad 0 0)), (0, .ref b)]) hx hb dL_law_756 hl (by decide) rfl (fun ls hl => ?_)
    refine lv_iload hx hb dL_law_758 (lv_at hl 0 rfl) ?_
    refine lv_if_ge (tgt := 778) hx hb dL_law_760 (by decide) (fun c8 => ?_) (fun c8 => ?_)
    · skip
      have hq := hq.1 c8
      refine lv_iload hx hb dL_law_778 (lv_at hl 1 rfl) ?_
      refine lv_if_ne (tgt := 817) hx hb dL_law_780 (by decide) (fun c9 => ?_) (fun c9 => ?_)
      · skip
        have hq := hq.2 c9
        refine lv_iconst (v := 0) hx hb dL_law_817 (by decide) ?_
        exact hq.elim
      · skip
        have hq := hq.1 c9
        refine lv_aload_n hx hb dL_law_783 rfl (lv_at hl 13 rfl) ?_
        refine lv_iload hx hb dL_law_784 (lv_at hl 3 rfl) ?_
        refine lv_iconst (v := 2) hx hb dL_law_786 (by decide) ?_
        obtain ⟨hv_g6, hq⟩ := hq
        obtain ⟨v10, e11, hq⟩ := hq
        refine l_callCi (v := v10) (g2 := g6) (As := [.int be, .int 2]) ⟨hx, hb, hml, hown, hts⟩ (vx_ofR (kX6_ofBed l D cy hI hl0 g6 _ be 2 hv_g6) e11) (cwV 2 hts gL_law_X6_ofBed rfl rfl rfl (by decide +kernel) ⟨Nat.le_of_ble_eq_true rfl, Nat.le_of_ble_eq_true rfl⟩) hB hL hS rfl hl.1 (Nat.le_of_ble_eq_true rfl) dL_law_787 ⟨by refine Nat.le_trans (m := 400000) ?_ rc_c; show cells + _ + _ + _ ≤ 400000; omega, by refine Nat.le_trans (m := 4000000) ?_ rc_s; show slots + _ + _ + _ ≤ 4000000; omega⟩ (fun H locs hL hS => ?_)
        refine lv_iload hx hb dL_law_790 (lv_at hl 0 rfl) ?_
        refine lv_icmp_ne (tgt := 817) hx hb dL_law_792 (by decide) (fun c12 => ?_) (fun c12 => ?_)
        · skip
          have hq := hq.2 c12
          refine lv_iconst (v := 0) hx hb dL_law_817 (by decide) ?_
          exact hq.elim
        · skip
          have hq := hq.1 c12
          refine lv_aload_n hx hb dL_law_795 rfl (lv_at hl 13 rfl) ?_
          refine lv_iload hx hb dL_law_796 (lv_at hl 5 rfl) ?_
          refine lv_iconst (v := 3) hx hb dL_law_798 (by decide) ?_
          obtain ⟨v13, e14, hq⟩ := hq
          refine l_callCi (v := v13) (g2 := g6) (As := [.int bk, .int 3]) ⟨hx, hb, hml, hown, hts⟩ (vx_ofR (kX6_ofBasket l D cy hI hl0 g6 _ bk 3 hv_g6) e14) (cwV 2 hts gL_law_X6_ofBasket rfl rfl rfl (by decide +kernel) ⟨Nat.le_of_ble_eq_true rfl, Nat.le_of_ble_eq_true rfl⟩) hB hL hS rfl hl.1 (Nat.le_of_ble_eq_true rfl) dL_law_799 ⟨by refine Nat.le_trans (m := 400000) ?_ rc_c; show cells + _ + _ + _ + _ ≤ 400000; omega, by refine Nat.le_trans (m := 4000000) ?_ rc_s; show slots + _ + _ + _ + _ ≤ 4000000; omega⟩ (fun H locs hL hS => ?_)
          refine lv_iconst (v := 2) hx hb dL_law_802 (by decide) ?_
          refine lv_icmp_ne (tgt := 817) hx hb dL_law_803 (by decide) (fun c15 => ?_) (fun c15 => ?_)
          · skip
            have hq := hq.2 c15
            refine lv_iconst (v := 0) hx hb dL_law_817 (by decide) ?_
            exact hq.elim
          · skip
            have hq := hq.1 c15
            refine lv_aload_n hx hb dL_law_806 rfl (lv_at hl 13 rfl) ?_
            refine lv_iload hx hb dL_law_807 (lv_at hl 3 rfl) ?_
            refine lv_iconst (v := 3) hx hb dL_law_809 (by decide) ?_
            obtain ⟨v16, e17, hq⟩ := hq
            refine l_callCi (v := v16) (g2 := g6) (As := [.int be, .int 3]) ⟨hx, hb, hml, hown, hts⟩ (vx_ofR (kX6_ofBed l D cy hI hl0 g6 _ be 3 hv_g6) e17) (cwV 2 hts gL_law_X6_ofBed rfl rfl rfl (by decide +kernel) ⟨Nat.le_of_ble_eq_true rfl, Nat.le_of_ble_eq_true rfl⟩) hB hL hS rfl hl.1 (Nat.le_of_ble_eq_true rfl) dL_law_810 ⟨by refine Nat.le_trans (m := 400000) ?_ rc_c; show cells + _ + _ + _ + _ + _ ≤ 400000; omega, by refine Nat.le_trans (m := 4000000) ?_ rc_s; show slots + _ + _ + _ + _ + _ ≤ 4000000; omega⟩ (fun H locs hL hS => ?_)
            refine lv_iconst (v := 2) hx hb dL_law_813 (by decide) ?_
            refine lv_icmp_eq (tgt := 1388) hx hb dL_law_814 (by decide) (fun c18 => ?_) (fun c18 => ?_)
            · skip
              have hq := hq.1 c18
              refine W.widen (k := cells + 40) (n := slots + 400) (by omega) (by omega) ?_
              exact kk g6 gn pr _ _ ls hL hS (lv_sub hl [8, 9, 10, 11, 12, 13, 14] rfl) hq
            · skip
              have hq := hq.2 c18
              refine lv_iconst (v := 0) hx hb dL_law_817 (by decide) ?_
              exact hq.elim
    · skip
      have hq := hq.2 c8
      refine lv_aload_n hx hb dL_law_763 rfl (lv_at hl 13 rfl) ?_
      refine lv_iload hx hb dL_law_764 (lv_at hl 3 rfl) ?_
      refine lv_iconst (v := 2) hx hb dL_law_766 (by decide) ?_
      obtain ⟨hv_g6, hq⟩ := hq
      obtain ⟨v19, e20, hq⟩ := hq
      refine l_callCi (v := v19) (g2 := g6) (As := [.int be, .int 2]) ⟨hx, hb, hml, hown, hts⟩ (vx_ofR (kX6_ofBed l D cy hI hl0 g6 _ be 2 hv_g6) e20) (cwV 2 hts gL_law_X6_ofBed rfl rfl rfl (by decide +kernel) ⟨Nat.le_of_ble_eq_true rfl, Nat.le_of_ble_eq_true rfl⟩) hB hL hS rfl hl.1 (Nat.le_of_ble_eq_true rfl) dL_law_767 ⟨by refine Nat.le_trans (m := 400000) ?_ rc_c; show cells + _ + _ + _ ≤ 400000; omega, by refine Nat.le_trans (m := 4000000) ?_ rc_s; show slots + _ + _ + _ ≤ 4000000; omega⟩ (fun H locs hL hS => ?_)
      refine lv_iload hx hb dL_law_770 (lv_at hl 1 rfl) ?_
      refine lv_icmp_eq (tgt := 1388) hx hb dL_law_772 (by decide) (fun c21 => ?_) (fun c21 => ?_)
      · skip
        have hq := hq.1 c21
        refine W.widen (k := cells + 40) (n := slots + 400) (by omega) (by omega) ?_
        exact kk g6 gn pr _ _ ls hL hS (lv_sub hl [8, 9, 10, 11, 12, 13, 14] rfl) hq
      · skip
        have hq := hq.2 c21
        refine lv_goto (tgt := 817) hx hb dL_law_775 (by decide) ?_
        refine lv_iconst (v := 0) hx hb dL_law_817 (by decide) ?_
        exact hq.elim
  · skip
    have hq := hq.2 c1
    refine lv_goto (tgt := 1388) hx hb dL_law_736 (by decide) ?_
    refine W.widen (k := cells + 40) (n := slots + 400) (by omega) (by omega) ?_
    exact kk g gn pr _ _ ls hL hS (lv_sub hl [6, 7, 8, 9, 10, 11, 12] rfl) hq
def VC_C819 (L : Nat) (xs : Nat → Int32) (g : Gd) (F : Int32) (B : Int32) (gn : Int32) (pr : Int32) (tm : Int32) (x : Int32) (fm : Int32) (bk : Int32) (tk : Int32) (be : Int32) (lt : Int32) (K : Gd → Int32 → Int32 → Prop) : Prop := (IvC g ∧ (∃ (v1 : Int32), fX6_ofBed g be 2 = (0, v1) ∧ ((v1 ≤ 0 → K g gn pr) ∧ (¬ v1 ≤ 0 → (∃ (v4 : Int32) (g6 : Gd), fX6_turn g be = (0, v4, g6) ∧ ((v4 < 0 → False) ∧ (¬ v4 < 0 → (IvC g6 ∧ (∃ (v8 : Int32), fX6_ofBed g6 be 5 = (0, v8) ∧ ((v8 = 0 → K g6 gn pr) ∧ (¬ v8 = 0 → False)))))))))))
set_option maxRecDepth 100000 in
set_option maxHeartbeats 8000000 in
theorem W_C819 (C : LC p l s m c b L xs) (hI : cI ad) (hB : LWB D cy s) (hL : LWS D cy ad s g H) (hS : va_S (LA0 s) s.heap H locs) (hc : cells + 40 ≤ 400000) (hs : slots + 400 ≤ 4000000) {F B gn pr tm x fm bk tk be lt : Int32} (hl : lv_has ls 17 [(12, .int lt), (11, .int be), (10, .int tk), (9, .int bk), (8, .int fm), (7, .int x), (6, .int tm), (5, .int pr), (4, .int gn), (3, .int B), (2, .int F), (1, .ref (ad 0 0)), (0, .ref b)]) {K : Gd → Int32 → Int32 → Prop} (hq : VC_C819 L xs g F B gn pr tm x fm bk tk be lt K)
    (kk : ∀ (k0 : Gd) (k1 : Int32) (k2 : Int32) (H1 : Heap) (locs1 : List Loc) (ls1 : Array Slot), LWS D cy ad s k0 H1 → va_S (LA0 s) s.heap H1 locs1 → lv_has ls1 17 [(6, .int tm), (5, .int k2), (4, .int k1), (3, .int B), (2, .int F), (1, .ref (ad 0 0)), (0, .ref b)] → K k0 k1 k2 → W p l e room_1 s m #[Value.ref b] below meth c H1 locs1 (cells + 40) (slots + 400) Q (F0 m 1388 ls1 [])) : W p l e room_1 s m #[Value.ref b] below meth c H locs cells slots Q (F0 m 819 ls []) := by
  have hx := C.hx; have hb := C.hb; have hown := C.own; have hts := C.ts; have hml := C.ml; have hl0 := C.st
  unfold VC_C819 at hq
  refine lv_aload_n hx hb dL_law_819 rfl (lv_at hl 11 rfl) ?_
  refine lv_iload hx hb dL_law_820 (lv_at hl 1 rfl) ?_
  refine lv_iconst (v := 2) hx hb dL_law_822 (by decide) ?_
  obtain ⟨hv_g, hq⟩ := hq
  obtain ⟨v1, e2, hq⟩ := hq
  refine l_callCi (v := v1) (g2 := g) (As := [.int be, .int 2]) ⟨hx, hb, hml, hown, hts⟩ (vx_ofR (kX6_ofBed l D cy hI hl0 g _ be 2 hv_g) e2) (cwV 2 hts gL_law_X6_ofBed rfl rfl rfl (by decide +kernel) ⟨Nat.le_of_ble_eq_true rfl, Nat.le_of_ble_eq_true rfl⟩) hB hL hS rfl hl.1 (Nat.le_of_ble_eq_true rfl) dL_law_823 ⟨by refine Nat.le_trans (m := 400000) ?_ rc_c; show cells + _ ≤ 400000; omega, by refine Nat.le_trans (m := 4000000) ?_ rc_s; show slots + _ ≤ 4000000; omega⟩ (fun H locs hL hS => ?_)
  refine lv_if_le (tgt := 1388) hx hb dL_law_826 (by decide) (fun c3 => ?_) (fun c3 => ?_)
  · skip
    have hq := hq.1 c3
    refine W.widen (k := cells + 40) (n := slots + 400) (by omega) (by omega) ?_
    exact kk g gn pr _ _ ls hL hS (lv_sub hl [6, 7, 8, 9, 10, 11, 12] rfl) hq
  · skip
    have hq := hq.2 c3
    refine lv_aload_n hx hb dL_law_829 rfl (lv_at hl 11 rfl) ?_
    refine lv_iload hx hb dL_law_830 (lv_at hl 1 rfl) ?_
    obtain ⟨v4, g6, e5, hq⟩ := hq
    refine l_callCi (v := v4) (g2 := g6) (As := [.int be]) ⟨hx, hb, hml, hown, hts⟩ (vx_ofT (kX6_turn l D cy hI hl0 g _ be hv_g) e5) (cwV 1 hts gL_law_X6_turn rfl rfl rfl (by decide +kernel) ⟨Nat.le_of_ble_eq_true rfl, Nat.le_of_ble_eq_true rfl⟩) hB hL hS rfl hl.1 (Nat.le_of_ble_eq_true rfl) dL_law_832 ⟨by refine Nat.le_trans (m := 400000) ?_ rc_c; show cells + _ + _ ≤ 400000; omega, by refine Nat.le_trans (m := 4000000) ?_ rc_s; show slots + _ + _ ≤ 4000000; omega⟩ (fun H locs hL hS => ?_)
    refine lv_if_lt (tgt := 848) hx hb dL_law_835 (by decide) (fun c7 => ?_) (fun c7 => ?_)
    · skip
      have hq := hq.1 c7
      refine lv_iconst (v := 0) hx hb dL_law_848 (by decide) ?_
      exact hq.elim
    · skip
      have hq := hq.2 c7
      refine lv_aload_n hx hb dL_law_838 rfl (lv_at hl 11 rfl) ?_
      refine lv_iload hx hb dL_law_839 (lv_at hl 1 rfl) ?_
      refine lv_iconst (v := 5) hx hb dL_law_841 (by decide) ?_
      obtain ⟨hv_g6, hq⟩ := hq
      obtain ⟨v8, e9, hq⟩ := hq
      refine l_callCi (v := v8) (g2 := g6) (As := [.int be, .int 5]) ⟨hx, hb, hml, hown, hts⟩ (vx_ofR (kX6_ofBed l D cy hI hl0 g6 _ be 5 hv_g6) e9) (cwV 2 hts gL_law_X6_ofBed rfl rfl rfl (by decide +kernel) ⟨Nat.le_of_ble_eq_true rfl, Nat.le_of_ble_eq_true rfl⟩) hB hL hS rfl hl.1 (Nat.le_of_ble_eq_true rfl) dL_law_842 ⟨by refine Nat.le_trans (m := 400000) ?_ rc_c; show cells + _ + _ + _ ≤ 400000; omega, by refine Nat.le_trans (m := 4000000) ?_ rc_s; show slots + _ + _ + _ ≤ 4000000; omega⟩ (fun H locs hL hS => ?_)
      refine lv_if_eq (tgt := 1388) hx hb dL_law_845 (by decide) (fun c10 => ?_) (fun c10 => ?_)
      · skip
        have hq := hq.1 c10
        refine W.widen (k := cells + 40) (n := slots + 400) (by omega) (by omega) ?_
        exact kk g6 gn pr _ _ ls hL hS (lv_sub hl [6, 7, 8, 9, 10, 11, 12] rfl) hq
      · skip
        have hq := hq.2 c10
        refine lv_iconst (v := 0) hx hb dL_law_848 (by decide) ?_
        exact hq.elim
end SG
