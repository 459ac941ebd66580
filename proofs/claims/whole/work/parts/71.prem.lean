/-! ===== the reference's contracts, their premises out of the invariant ===== -/
section PM
variable {na nb nc nd T : Nat} {m : Md}
theorem vin_ti {x : Int32} {n : Nat} (h0 : 0 ≤ x.toInt) (h1 : x.toInt < n) : vp_in x n := by
  have z : (0 : Int32).toInt = 0 := rfl
  have c := clamp_ti h0
  unfold vp_in
  rintro (q | q)
  · rw [lt_ti, z] at q; omega
  · omega
theorem vin_u {u a : Int32} {n : Nat} (h : ¬ fX7_is u 0 a = 0) (ha : a.toInt < n) : vp_in u n := by
  have z : (0 : Int32).toInt = 0 := rfl
  rcases rng_is u 0 a with ⟨b1, b2, b3, b4⟩ | ⟨b1, b2⟩ | ⟨b1, b2, b3, b4⟩
  · rw [lt_ti, z] at b1
    rw [le_ti] at b2
    exact vin_ti (by omega) (by omega)
  · exact absurd b2 h
  · exact absurd b4 h
theorem vin_lt {u : Int32} (h : ¬ fX7_is u 0 4 = 0) (h4 : ¬ (4 : Int32) ≤ u) : vp_in u 4 := by
  have z : (0 : Int32).toInt = 0 := rfl
  have q4 : (4 : Int32).toInt = 4 := rfl
  rw [le_ti, q4] at h4
  rcases rng_is u 0 4 with ⟨b1, b2, b3, b4⟩ | ⟨b1, b2⟩ | ⟨b1, b2, b3, b4⟩
  · rw [lt_ti, z] at b1
    exact vin_ti (by omega) (by omega)
  · exact absurd b2 h
  · exact absurd b4 h
theorem is_lt {x : Int32} {n : Nat} (hn : n ≤ 100) (h : ¬ fX7_is x 0 (nI n - 1) = 0) : x.toNatClampNeg < n ∧ 0 ≤ x.toInt := by
  rcases at_is (x := x) hn with ⟨a1, a2, a3, a4⟩ | ⟨a1, a2⟩
  · exact ⟨a3, a4⟩
  · exact absurd a2 h
theorem ne_add {a b : Int32} (a0 : 0 ≤ a.toInt) (a1 : a.toInt ≤ 2000) (b0 : 0 ≤ b.toInt) (b1 : b.toInt ≤ 2000) (hb : ¬ b = 0) : ¬ a + b = 0 := by
  intro h
  have z : (0 : Int32).toInt = 0 := rfl
  have h2 := congrArg Int32.toInt h
  rw [ti_add (by omega) (by omega), z] at h2
  exact hb (ti_eq (by omega))
theorem pr_bask (hI : Iv na nb nc nd m) {x : Int32} (h : ¬ fX7_isBasket na nb nc nd T (u2 m 0 20 0) x = 0) : x.toNatClampNeg < nb := (is_lt (by have := hI.1.2.1; omega) h).1
theorem pr_bf (hI : Iv na nb nc nd m) {x : Int32} (h : ¬ fX7_isBasket na nb nc nd T (u2 m 0 20 0) x = 0) : vp_in (m (200 + x.toNatClampNeg) 0) 6 := by
  have b := (hI.2.2.2.1 _ (pr_bask hI h)).1
  have z := hI.1.1
  exact vin_ti b.1 (by omega)
theorem pr_bk (hI : Iv na nb nc nd m) {x : Int32} (h : ¬ fX7_isBasket na nb nc nd T (u2 m 0 20 0) x = 0) : 0 ≤ (m (200 + x.toNatClampNeg) 1).toInt ∧ (m (200 + x.toNatClampNeg) 1).toInt ≤ 200 := (hI.2.2.2.1 _ (pr_bask hI h)).2.1
theorem pr_tank {x : Int32} (h : ¬ fX7_isTank x = 0) : x.toNatClampNeg < 3 := (is_lt (n := 3) (by decide) h).1
theorem pr_tk (hI : Iv na nb nc nd m) {x : Int32} (h : ¬ fX7_isTank x = 0) : 0 ≤ (m (300 + x.toNatClampNeg) 0).toInt ∧ (m (300 + x.toNatClampNeg) 0).toInt ≤ 300 := (hI.2.2.2.2.1 _ (pr_tank h)).1.k0
theorem pr_bed (hI : Iv na nb nc nd m) {m9 : Md} {x : Int32} (h : ¬ fX7_isBed na nb nc nd T m9 x = 0) : x.toNatClampNeg < nc := (is_lt (by have := hI.1.2.2.1; omega) h).1
theorem pr_dk (hI : Iv na nb nc nd m) {m9 : Md} {x : Int32} (h : ¬ fX7_isBed na nb nc nd T m9 x = 0) : 0 ≤ (m (303 + x.toNatClampNeg) 0).toInt ∧ (m (303 + x.toNatClampNeg) 0).toInt ≤ 300 := (hI.2.2.2.2.2.1 _ (pr_bed hI h)).1.k0
theorem pr_lot (hI : Iv na nb nc nd m) {m9 : Md} {x : Int32} (h : ¬ fX7_isLot na nb nc nd T m9 x = 0) : x.toNatClampNeg < nd ∧ 0 ≤ x.toInt := is_lt (by have := hI.1.2.2.2; omega) h
theorem pr_mix (hI : Iv na nb nc nd m) {r : Nat} {x ki ri su : Int32} (hr : r < 400) (k0 : 0 ≤ (m r 0).toInt ∧ (m r 0).toInt ≤ 300) (h0 : 0 ≤ ki.toInt) (h1 : ki.toInt ≤ 200) (hk : ¬ ki = 0) : ¬ fX7_mixOf na nb nc nd T (u2 m 0 20 0) x ki ri su r 0 + fX7_mixOf na nb nc nd T (u2 m 0 20 0) x ki ri su (400 + T) 0 = 0 := by
  have e1 : fX7_mixOf na nb nc nd T (u2 m 0 20 0) x ki ri su (400 + T) 0 = ki := by rw [mixOf_at, if_neg (by omega), if_neg (by omega), if_neg (by decide), if_pos rfl]
  have e2 : fX7_mixOf na nb nc nd T (u2 m 0 20 0) x ki ri su r 0 = m r 0 := by
    rw [mixOf_nr (by omega)]; exact u2_nk (by decide)
  rw [e1, e2]
  exact ne_add k0.1 (by omega) h0 (by omega) hk
theorem pr_bdI {w : Nat → Nat → Nat} (hI : Iv (w 0 0) (w 0 1) (w 0 2) (w 0 3) m) : bdI w m := by
  intro i hi
  have b := hI.2.2.2.2.2.1 i hi
  have k0 := b.1.k0
  have a := b.2.2.2.2.1
  have z : (0 : Int32).toInt = 0 := rfl
  have q10 : (10 : Int32).toInt = 10 := rfl
  refine ⟨fun h => by rw [h, z] at a; omega, fun h => ?_⟩
  have d1 : ((m (303 + i) 0) / (m (303 + i) 8)).toInt = (m (303 + i) 0).toInt / (m (303 + i) 8).toInt := ti_div k0.1 (by omega)
  have d2 := Int.ediv_nonneg k0.1 (show 0 ≤ (m (303 + i) 8).toInt by omega)
  have d3 : (m (303 + i) 0).toInt / (m (303 + i) 8).toInt ≤ (m (303 + i) 0).toInt := Int.ediv_le_self _ k0.1
  have h2 := congrArg Int32.toInt h
  rw [ti_add (by omega) (by omega), q10, z] at h2
  omega
theorem pr_ltI {w : Nat → Nat → Nat} (hI : Iv (w 0 0) (w 0 1) (w 0 2) (w 0 3) m) : ltI w m := by
  intro i j hi hj h1 h2
  have li := hI.2.2.2.2.2.2.1 i hi
  have lj := hI.2.2.2.2.2.2.1 j hj
  have ki := li.1.k0
  have kj := lj.1.k0
  have p := lj.2.2.2.2.2.2 h2
  have z : (0 : Int32).toInt = 0 := rfl
  exact ne_add ki.1 (by omega) kj.1 (by omega) (fun e => by rw [e, z] at p; omega)
theorem pr_in (hI : Iv na nb nc nd m) {i : Nat} (hi : i < nd) (h : ¬ fX7_isIn na nb nc nd T (u2 m 0 20 0) (308 + i) = 0) : 0 < (m (308 + i) 0).toInt := by
  unfold fX7_isIn at h
  by_cases c : u2 m 0 20 0 (308 + i) 10 = 1
  · exact (hI.2.2.2.2.2.2.1 i hi).2.2.2.2.2.2 ((u2_nr (by omega)).symm.trans c)
  · rw [if_neg c] at h; exact absurd rfl h
theorem pr_sell (hI : Iv na nb nc nd m) {x : Int32} (hl : ¬ fX7_isLot na nb nc nd T (u2 m 0 20 0) x = 0) (h : ¬ fX7_canSell na nb nc nd T (u2 m 0 20 0) x = 0) : ¬ 5 * (u2 m 0 20 0 (308 + x.toNatClampNeg) 0).toInt64 = 0 := by
  have hx := (pr_lot hI hl).1
  have hin : ¬ fX7_isIn na nb nc nd T (u2 m 0 20 0) (308 + x.toNatClampNeg) = 0 := fun e => h (by unfold fX7_canSell; rw [if_pos e])
  have p := pr_in hI hx hin
  have k0 := (hI.2.2.2.2.2.2.1 _ hx).1.k0
  have e : u2 m 0 20 0 (308 + x.toNatClampNeg) 0 = m (308 + x.toNatClampNeg) 0 := u2_nr (by omega)
  rw [e]
  intro h2
  have q5 : (5 : Int64).toInt = 5 := rfl
  have z : (0 : Int64).toInt = 0 := rfl
  have h3 := congrArg Int64.toInt h2
  rw [tl_mul (by rw [q5, Int32.toInt_toInt64]; omega) (by rw [q5, Int32.toInt_toInt64]; omega), q5, Int32.toInt_toInt64, z] at h3
  omega
theorem pr_can (hI : Iv na nb nc nd m) {x y : Int32} (hx : ¬ fX7_isLot na nb nc nd T (u2 m 0 20 0) x = 0) (hy : ¬ fX7_isLot na nb nc nd T (u2 m 0 20 0) y = 0) (h : ¬ fX7_canBlend na nb nc nd T (u2 m 0 20 0) (308 + x.toNatClampNeg) (308 + y.toNatClampNeg) = 0) : ¬ m (308 + x.toNatClampNeg) 0 + m (308 + y.toNatClampNeg) 0 = 0 := by
  have lx := (pr_lot hI hx).1
  have ly := (pr_lot hI hy).1
  have kx := (hI.2.2.2.2.2.2.1 _ lx).1.k0
  have ky := (hI.2.2.2.2.2.2.1 _ ly).1.k0
  have hin : ¬ fX7_isIn na nb nc nd T (u2 m 0 20 0) (308 + y.toNatClampNeg) = 0 := by
    intro e
    unfold fX7_canBlend at h
    by_cases c : fX7_isIn na nb nc nd T (u2 m 0 20 0) (308 + x.toNatClampNeg) = 0
    · rw [if_pos c] at h; exact h rfl
    · rw [if_neg c, if_pos e] at h; exact h rfl
  have p := pr_in hI ly hin
  have z : (0 : Int32).toInt = 0 := rfl
  exact ne_add kx.1 (by omega) ky.1 (by omega) (fun e => by rw [e, z] at p; omega)
end PM

theorem mX7_farm (l : Launch) (D : va_G) (cy : Nat → ClassId) (e0 : Nat) {bd w : Nat → Nat → Nat} (g : Md) (S : Int64) (sz : Nat) (x : Int32) (hI : Iv (w 0 0) (w 0 1) (w 0 2) (w 0 3) g) (h4 : w 0 4 = 0) (hcap : ∀ i, i < 4 → capI w i) : Met l yX7_farm wsX7_farm ({ frames := 7, cells := 2, slots := 68, locals := 251 } : Room) (va_Pc [.ref (bd 0 0), .int x] (mPre D cy e0 bd w g S sz)) (va_Qi (fun (r : Int32) (_ : Nat → Nat → Nat) => r = (fX7_farm (w 0 0) (w 0 1) (w 0 2) (w 0 3) (w 0 4) g x).1) (fun bd2 t => bd2 0 0 = bd 0 0 ∧ mG0 e0 bd w sz bd2 (wG w 0 (fX7_farm (w 0 0) (w 0 1) (w 0 2) (w 0 3) (w 0 4) g x).2.2) ∧ MW D cy bd2 (wG w 0 (fX7_farm (w 0 0) (w 0 1) (w 0 2) (w 0 3) (w 0 4) g x).2.2) (fX7_farm (w 0 0) (w 0 1) (w 0 2) (w 0 3) (w 0 4) g x).2.1 S t.heap) (mA bd w sz)) 2 68 (mA bd w sz) :=
  kX7_farm l D cy e0 g S sz x (by omega) (hcap 0 (by decide))
theorem mX7_label (l : Launch) (D : va_G) (cy : Nat → ClassId) (e0 : Nat) {bd w : Nat → Nat → Nat} (g : Md) (S : Int64) (sz : Nat) (x : Int32) (dy : Int32) (hI : Iv (w 0 0) (w 0 1) (w 0 2) (w 0 3) g) (h4 : w 0 4 = 0) (hcap : ∀ i, i < 4 → capI w i) : Met l yX7_label wsX7_label ({ frames := 3, cells := 0, slots := 0, locals := 64 } : Room) (va_Pc [.ref (bd 0 0), .int x, .int dy] (mPre D cy e0 bd w g S sz)) (mQi D cy bd w (fX7_label (w 0 0) (w 0 1) (w 0 2) (w 0 3) (w 0 4) g x dy).1 (fX7_label (w 0 0) (w 0 1) (w 0 2) (w 0 3) (w 0 4) g x dy).2 S sz) 0 0 (mA bd w sz) :=
  kX7_label l D cy e0 g S sz x dy 
theorem mX7_price (l : Launch) (D : va_G) (cy : Nat → ClassId) (e0 : Nat) {bd w : Nat → Nat → Nat} (g : Md) (S : Int64) (sz : Nat) (x : Int32) (hI : Iv (w 0 0) (w 0 1) (w 0 2) (w 0 3) g) (h4 : w 0 4 = 0) (hcap : ∀ i, i < 4 → capI w i) : Met l yX7_price wsX7_price ({ frames := 1, cells := 0, slots := 0, locals := 22 } : Room) (va_Pc [.ref (bd 0 0), .int x] (mPre D cy e0 bd w g S sz)) (mQi D cy bd w (fX7_price (w 0 0) (w 0 1) (w 0 2) (w 0 3) (w 0 4) g x).1 (fX7_price (w 0 0) (w 0 1) (w 0 2) (w 0 3) (w 0 4) g x).2 S sz) 0 0 (mA bd w sz) :=
  kX7_price l D cy e0 g S sz x 
theorem mX7_bring (l : Launch) (D : va_G) (cy : Nat → ClassId) (e0 : Nat) {bd w : Nat → Nat → Nat} (g : Md) (S : Int64) (sz : Nat) (x : Int32) (ki : Int32) (ri : Int32) (hI : Iv (w 0 0) (w 0 1) (w 0 2) (w 0 3) g) (h4 : w 0 4 = 0) (hcap : ∀ i, i < 4 → capI w i) : Met l yX7_bring wsX7_bring ({ frames := 7, cells := 2, slots := 70, locals := 251 } : Room) (va_Pc [.ref (bd 0 0), .int x, .int ki, .int ri] (mPre D cy e0 bd w g S sz)) (va_Qi (fun (r : Int32) (_ : Nat → Nat → Nat) => r = (fX7_bring (w 0 0) (w 0 1) (w 0 2) (w 0 3) (w 0 4) g x ki ri).1) (fun bd2 t => bd2 0 0 = bd 0 0 ∧ mG0 e0 bd w sz bd2 (wG w 1 (fX7_bring (w 0 0) (w 0 1) (w 0 2) (w 0 3) (w 0 4) g x ki ri).2.2) ∧ MW D cy bd2 (wG w 1 (fX7_bring (w 0 0) (w 0 1) (w 0 2) (w 0 3) (w 0 4) g x ki ri).2.2) (fX7_bring (w 0 0) (w 0 1) (w 0 2) (w 0 3) (w 0 4) g x ki ri).2.1 S t.heap) (mA bd w sz)) 2 70 (mA bd w sz) :=
  kX7_bring l D cy e0 g S sz x ki ri (by omega) (hcap 1 (by decide))
theorem mX7_pass_ (l : Launch) (D : va_G) (cy : Nat → ClassId) (e0 : Nat) {bd w : Nat → Nat → Nat} (g : Md) (S : Int64) (sz : Nat) (x : Int32) (wm : Int32) (rn : Int32) (hI : Iv (w 0 0) (w 0 1) (w 0 2) (w 0 3) g) (h4 : w 0 4 = 0) (hcap : ∀ i, i < 4 → capI w i) : Met l yX7_pass_ wsX7_pass_ ({ frames := 4, cells := 300, slots := 1200, locals := 81 } : Room) (va_Pc [.ref (bd 0 0), .int x, .int wm, .int rn] (mPre D cy e0 bd w g S sz)) (mQi D cy bd w (fX7_pass_ (w 0 0) (w 0 1) (w 0 2) (w 0 3) (w 0 4) g x wm rn).1 (fX7_pass_ (w 0 0) (w 0 1) (w 0 2) (w 0 3) (w 0 4) g x wm rn).2 S sz) 300 1200 (mA bd w sz) :=
  kX7_pass_ l D cy e0 g S sz x wm rn (fun _ _ _ _ => pr_bdI hI)
theorem mX7_bed (l : Launch) (D : va_G) (cy : Nat → ClassId) (e0 : Nat) {bd w : Nat → Nat → Nat} (g : Md) (S : Int64) (sz : Nat) (x : Int32) (hI : Iv (w 0 0) (w 0 1) (w 0 2) (w 0 3) g) (h4 : w 0 4 = 0) (hcap : ∀ i, i < 4 → capI w i) : Met l yX7_bed wsX7_bed ({ frames := 7, cells := 2, slots := 87, locals := 251 } : Room) (va_Pc [.ref (bd 0 0), .int x] (mPre D cy e0 bd w g S sz)) (va_Qi (fun (r : Int32) (_ : Nat → Nat → Nat) => r = (fX7_bed (w 0 0) (w 0 1) (w 0 2) (w 0 3) (w 0 4) g x).1) (fun bd2 t => bd2 0 0 = bd 0 0 ∧ mG0 e0 bd w sz bd2 (wG w 2 (fX7_bed (w 0 0) (w 0 1) (w 0 2) (w 0 3) (w 0 4) g x).2.2) ∧ MW D cy bd2 (wG w 2 (fX7_bed (w 0 0) (w 0 1) (w 0 2) (w 0 3) (w 0 4) g x).2.2) (fX7_bed (w 0 0) (w 0 1) (w 0 2) (w 0 3) (w 0 4) g x).2.1 S t.heap) (mA bd w sz)) 2 87 (mA bd w sz) :=
  kX7_bed l D cy e0 g S sz x (by omega) (hcap 2 (by decide))
theorem mX7_pulp (l : Launch) (D : va_G) (cy : Nat → ClassId) (e0 : Nat) {bd w : Nat → Nat → Nat} (g : Md) (S : Int64) (sz : Nat) (x : Int32) (ta : Int32) (hI : Iv (w 0 0) (w 0 1) (w 0 2) (w 0 3) g) (h4 : w 0 4 = 0) (hcap : ∀ i, i < 4 → capI w i) : Met l yX7_pulp wsX7_pulp ({ frames := 3, cells := 1, slots := 23, locals := 64 } : Room) (va_Pc [.ref (bd 0 0), .int x, .int ta] (mPre D cy e0 bd w g S sz)) (mQi D cy bd w (fX7_pulp (w 0 0) (w 0 1) (w 0 2) (w 0 3) (w 0 4) g x ta).1 (fX7_pulp (w 0 0) (w 0 1) (w 0 2) (w 0 3) (w 0 4) g x ta).2 S sz) 1 23 (mA bd w sz) :=
  kX7_pulp l D cy e0 g S sz x ta (by omega) (fun hb ht _ _ _ _ => pr_bf hI hb) (fun hb ht _ _ hk _ => pr_mix hI (by have := pr_tank ht; omega) (pr_tk hI ht) (half_b (pr_bk hI hb).1 (pr_bk hI hb).2).1 (by have := (half_b (pr_bk hI hb).1 (pr_bk hI hb).2).2; omega) hk) (fun hb ht _ _ _ _ => pr_bf hI hb) (fun hb ht _ _ hk _ => pr_mix hI (by have := pr_tank ht; omega) (pr_tk hI ht) (half_b (pr_bk hI hb).1 (pr_bk hI hb).2).1 (by have := (half_b (pr_bk hI hb).1 (pr_bk hI hb).2).2; omega) hk) (fun hb ht _ _ _ _ _ _ => pr_bf hI hb) (fun hb ht _ _ _ _ hk _ => pr_mix hI (by have := pr_tank ht; omega) (pr_tk hI ht) (half_b (pr_bk hI hb).1 (pr_bk hI hb).2).1 (by have := (half_b (pr_bk hI hb).1 (pr_bk hI hb).2).2; omega) hk) (fun hb ht _ _ _ _ _ _ => pr_bf hI hb) (fun hb ht _ _ _ _ hk _ => pr_mix hI (by have := pr_tank ht; omega) (pr_tk hI ht) (half_b (pr_bk hI hb).1 (pr_bk hI hb).2).1 (by have := (half_b (pr_bk hI hb).1 (pr_bk hI hb).2).2; omega) hk)
theorem mX7_wash (l : Launch) (D : va_G) (cy : Nat → ClassId) (e0 : Nat) {bd w : Nat → Nat → Nat} (g : Md) (S : Int64) (sz : Nat) (x : Int32) (bd_ : Int32) (ho : Int32) (hI : Iv (w 0 0) (w 0 1) (w 0 2) (w 0 3) g) (h4 : w 0 4 = 0) (hcap : ∀ i, i < 4 → capI w i) : Met l yX7_wash wsX7_wash ({ frames := 3, cells := 0, slots := 0, locals := 68 } : Room) (va_Pc [.ref (bd 0 0), .int x, .int bd_, .int ho] (mPre D cy e0 bd w g S sz)) (mQi D cy bd w (fX7_wash (w 0 0) (w 0 1) (w 0 2) (w 0 3) (w 0 4) g x bd_ ho).1 (fX7_wash (w 0 0) (w 0 1) (w 0 2) (w 0 3) (w 0 4) g x bd_ ho).2 S sz) 0 0 (mA bd w sz) :=
  kX7_wash l D cy e0 g S sz x bd_ ho (fun ht hd hk _ _ => ne_add (pr_dk hI hd).1 (by have := (pr_dk hI hd).2; omega) (pr_tk hI ht).1 (by have := (pr_tk hI ht).2; omega) hk) (fun ht hd hk _ _ _ => ne_add (pr_dk hI hd).1 (by have := (pr_dk hI hd).2; omega) (pr_tk hI ht).1 (by have := (pr_tk hI ht).2; omega) hk)
theorem mX7_whole (l : Launch) (D : va_G) (cy : Nat → ClassId) (e0 : Nat) {bd w : Nat → Nat → Nat} (g : Md) (S : Int64) (sz : Nat) (x : Int32) (be : Int32) (hI : Iv (w 0 0) (w 0 1) (w 0 2) (w 0 3) g) (h4 : w 0 4 = 0) (hcap : ∀ i, i < 4 → capI w i) : Met l yX7_whole wsX7_whole ({ frames := 3, cells := 1, slots := 23, locals := 68 } : Room) (va_Pc [.ref (bd 0 0), .int x, .int be] (mPre D cy e0 bd w g S sz)) (mQi D cy bd w (fX7_whole (w 0 0) (w 0 1) (w 0 2) (w 0 3) (w 0 4) g x be).1 (fX7_whole (w 0 0) (w 0 1) (w 0 2) (w 0 3) (w 0 4) g x be).2 S sz) 1 23 (mA bd w sz) :=
  kX7_whole l D cy e0 g S sz x be (by omega) (fun hb hd _ _ _ _ => pr_bf hI hb) (fun hb hd _ hk _ _ => pr_mix hI (by have := pr_bed hI hd; have := hI.1.2.2.1; omega) (pr_dk hI hd) (pr_bk hI hb).1 (pr_bk hI hb).2 hk) (fun hb hd _ _ _ _ => pr_bf hI hb) (fun hb hd _ hk _ _ => pr_mix hI (by have := pr_bed hI hd; have := hI.1.2.2.1; omega) (pr_dk hI hd) (pr_bk hI hb).1 (pr_bk hI hb).2 hk)
theorem mX7_turn (l : Launch) (D : va_G) (cy : Nat → ClassId) (e0 : Nat) {bd w : Nat → Nat → Nat} (g : Md) (S : Int64) (sz : Nat) (x : Int32) (hI : Iv (w 0 0) (w 0 1) (w 0 2) (w 0 3) g) (h4 : w 0 4 = 0) (hcap : ∀ i, i < 4 → capI w i) : Met l yX7_turn wsX7_turn ({ frames := 3, cells := 0, slots := 0, locals := 64 } : Room) (va_Pc [.ref (bd 0 0), .int x] (mPre D cy e0 bd w g S sz)) (mQi D cy bd w (fX7_turn (w 0 0) (w 0 1) (w 0 2) (w 0 3) (w 0 4) g x).1 (fX7_turn (w 0 0) (w 0 1) (w 0 2) (w 0 3) (w 0 4) g x).2 S sz) 0 0 (mA bd w sz) :=
  kX7_turn l D cy e0 g S sz x 
theorem mX7_cover (l : Launch) (D : va_G) (cy : Nat → ClassId) (e0 : Nat) {bd w : Nat → Nat → Nat} (g : Md) (S : Int64) (sz : Nat) (x : Int32) (on : Int32) (hI : Iv (w 0 0) (w 0 1) (w 0 2) (w 0 3) g) (h4 : w 0 4 = 0) (hcap : ∀ i, i < 4 → capI w i) : Met l yX7_cover wsX7_cover ({ frames := 3, cells := 0, slots := 0, locals := 64 } : Room) (va_Pc [.ref (bd 0 0), .int x, .int on] (mPre D cy e0 bd w g S sz)) (mQi D cy bd w (fX7_cover (w 0 0) (w 0 1) (w 0 2) (w 0 3) (w 0 4) g x on).1 (fX7_cover (w 0 0) (w 0 1) (w 0 2) (w 0 3) (w 0 4) g x on).2 S sz) 0 0 (mA bd w sz) :=
  kX7_cover l D cy e0 g S sz x on 
theorem mX7_store (l : Launch) (D : va_G) (cy : Nat → ClassId) (e0 : Nat) {bd w : Nat → Nat → Nat} (g : Md) (S : Int64) (sz : Nat) (x : Int32) (hI : Iv (w 0 0) (w 0 1) (w 0 2) (w 0 3) g) (h4 : w 0 4 = 0) (hcap : ∀ i, i < 4 → capI w i) : Met l yX7_store wsX7_store ({ frames := 7, cells := 2, slots := 87, locals := 251 } : Room) (va_Pc [.ref (bd 0 0), .int x] (mPre D cy e0 bd w g S sz)) (va_Qi (fun (r : Int32) (_ : Nat → Nat → Nat) => r = (fX7_store (w 0 0) (w 0 1) (w 0 2) (w 0 3) (w 0 4) g x).1) (fun bd2 t => bd2 0 0 = bd 0 0 ∧ mG0 e0 bd w sz bd2 (wG w 3 (fX7_store (w 0 0) (w 0 1) (w 0 2) (w 0 3) (w 0 4) g x).2.2) ∧ MW D cy bd2 (wG w 3 (fX7_store (w 0 0) (w 0 1) (w 0 2) (w 0 3) (w 0 4) g x).2.2) (fX7_store (w 0 0) (w 0 1) (w 0 2) (w 0 3) (w 0 4) g x).2.1 S t.heap) (mA bd w sz)) 2 87 (mA bd w sz) :=
  kX7_store l D cy e0 g S sz x (by omega) (hcap 3 (by decide))
theorem mX7_bias (l : Launch) (D : va_G) (cy : Nat → ClassId) (e0 : Nat) {bd w : Nat → Nat → Nat} (g : Md) (S : Int64) (sz : Nat) (x : Int32) (v : Int32) (hI : Iv (w 0 0) (w 0 1) (w 0 2) (w 0 3) g) (h4 : w 0 4 = 0) (hcap : ∀ i, i < 4 → capI w i) : Met l yX7_bias wsX7_bias ({ frames := 2, cells := 0, slots := 0, locals := 42 } : Room) (va_Pc [.ref (bd 0 0), .int x, .int v] (mPre D cy e0 bd w g S sz)) (mQi D cy bd w (fX7_bias (w 0 0) (w 0 1) (w 0 2) (w 0 3) (w 0 4) g x v).1 (fX7_bias (w 0 0) (w 0 1) (w 0 2) (w 0 3) (w 0 4) g x v).2 S sz) 0 0 (mA bd w sz) :=
  kX7_bias l D cy e0 g S sz x v 
theorem mX7_cup (l : Launch) (D : va_G) (cy : Nat → ClassId) (e0 : Nat) {bd w : Nat → Nat → Nat} (g : Md) (S : Int64) (sz : Nat) (x : Int32) (ta : Int32) (hI : Iv (w 0 0) (w 0 1) (w 0 2) (w 0 3) g) (h4 : w 0 4 = 0) (hcap : ∀ i, i < 4 → capI w i) : Met l yX7_cup wsX7_cup ({ frames := 4, cells := 0, slots := 0, locals := 88 } : Room) (va_Pc [.ref (bd 0 0), .int x, .int ta] (mPre D cy e0 bd w g S sz)) (mQi D cy bd w (fX7_cup (w 0 0) (w 0 1) (w 0 2) (w 0 3) (w 0 4) g x ta).1 (fX7_cup (w 0 0) (w 0 1) (w 0 2) (w 0 3) (w 0 4) g x ta).2 S sz) 0 0 (mA bd w sz) :=
  kX7_cup l D cy e0 g S sz x ta 
theorem mX7_blend (l : Launch) (D : va_G) (cy : Nat → ClassId) (e0 : Nat) {bd w : Nat → Nat → Nat} (g : Md) (S : Int64) (sz : Nat) (x : Int32) (y : Int32) (hI : Iv (w 0 0) (w 0 1) (w 0 2) (w 0 3) g) (h4 : w 0 4 = 0) (hcap : ∀ i, i < 4 → capI w i) : Met l yX7_blend wsX7_blend ({ frames := 3, cells := 1, slots := 23, locals := 67 } : Room) (va_Pc [.ref (bd 0 0), .int x, .int y] (mPre D cy e0 bd w g S sz)) (va_Qi (fun (r : Int32) (_ : Nat → Nat → Nat) => r = (fX7_blend (w 0 0) (w 0 1) (w 0 2) (w 0 3) (w 0 4) g x y).1) (fun bd2 t => bd2 0 0 = bd 0 0 ∧ mG0 e0 bd w sz bd2 w ∧ MW D cy bd2 w (fX7_blend (w 0 0) (w 0 1) (w 0 2) (w 0 3) (w 0 4) g x y).2 S t.heap) (mA bd w sz)) 1 23 (mA bd w sz) :=
  kX7_blend l D cy e0 g S sz x y (by omega) (fun hx hy _ hc => pr_can hI hx hy hc) (fun hx _ _ _ => vin_ti (pr_lot hI hx).2 (by have := clamp_ti (pr_lot hI hx).2; have := (pr_lot hI hx).1; have := hI.1.2.2.2; omega)) (fun _ hy _ _ => vin_ti (pr_lot hI hy).2 (by have := clamp_ti (pr_lot hI hy).2; have := (pr_lot hI hy).1; have := hI.1.2.2.2; omega))
theorem mX7_sell (l : Launch) (D : va_G) (cy : Nat → ClassId) (e0 : Nat) {bd w : Nat → Nat → Nat} (g : Md) (S : Int64) (sz : Nat) (x : Int32) (pr : Int32) (lb : Int32) (hI : Iv (w 0 0) (w 0 1) (w 0 2) (w 0 3) g) (h4 : w 0 4 = 0) (hcap : ∀ i, i < 4 → capI w i) : Met l yX7_sell wsX7_sell ({ frames := 5, cells := 0, slots := 0, locals := 113 } : Room) (va_Pc [.ref (bd 0 0), .int x, .int pr, .int lb] (mPre D cy e0 bd w g S sz)) (mQi D cy bd w (fX7_sell (w 0 0) (w 0 1) (w 0 2) (w 0 3) (w 0 4) g x pr lb).1 (fX7_sell (w 0 0) (w 0 1) (w 0 2) (w 0 3) (w 0 4) g x pr lb).2 S sz) 0 0 (mA bd w sz) :=
  kX7_sell l D cy e0 g S sz x pr lb (fun hx _ hc => pr_sell hI hx hc)
theorem mX7_ofFarm (l : Launch) (D : va_G) (cy : Nat → ClassId) (e0 : Nat) {bd w : Nat → Nat → Nat} (g : Md) (S : Int64) (sz : Nat) (x : Int32) (u : Int32) (hI : Iv (w 0 0) (w 0 1) (w 0 2) (w 0 3) g) (h4 : w 0 4 = 0) (hcap : ∀ i, i < 4 → capI w i) : Met l yX7_ofFarm wsX7_ofFarm ({ frames := 4, cells := 1, slots := 4, locals := 89 } : Room) (va_Pc [.ref (bd 0 0), .int x, .int u] (mPre D cy e0 bd w g S sz)) (mQi D cy bd w (fX7_ofFarm (w 0 0) (w 0 1) (w 0 2) (w 0 3) (w 0 4) g x u).1 (fX7_ofFarm (w 0 0) (w 0 1) (w 0 2) (w 0 3) (w 0 4) g x u).2 S sz) 1 4 (mA bd w sz) :=
  kX7_ofFarm l D cy e0 g S sz x u (fun _ hu h4 => vin_lt hu h4)
theorem mX7_ofBasket (l : Launch) (D : va_G) (cy : Nat → ClassId) (e0 : Nat) {bd w : Nat → Nat → Nat} (g : Md) (S : Int64) (sz : Nat) (x : Int32) (u : Int32) (hI : Iv (w 0 0) (w 0 1) (w 0 2) (w 0 3) g) (h4 : w 0 4 = 0) (hcap : ∀ i, i < 4 → capI w i) : Met l yX7_ofBasket wsX7_ofBasket ({ frames := 3, cells := 0, slots := 0, locals := 64 } : Room) (va_Pc [.ref (bd 0 0), .int x, .int u] (mPre D cy e0 bd w g S sz)) (mQi D cy bd w (fX7_ofBasket (w 0 0) (w 0 1) (w 0 2) (w 0 3) (w 0 4) g x u).1 (fX7_ofBasket (w 0 0) (w 0 1) (w 0 2) (w 0 3) (w 0 4) g x u).2 S sz) 0 0 (mA bd w sz) :=
  kX7_ofBasket l D cy e0 g S sz x u (fun _ hu => vin_u hu (by decide))
theorem mX7_ofTank (l : Launch) (D : va_G) (cy : Nat → ClassId) (e0 : Nat) {bd w : Nat → Nat → Nat} (g : Md) (S : Int64) (sz : Nat) (x : Int32) (u : Int32) (hI : Iv (w 0 0) (w 0 1) (w 0 2) (w 0 3) g) (h4 : w 0 4 = 0) (hcap : ∀ i, i < 4 → capI w i) : Met l yX7_ofTank wsX7_ofTank ({ frames := 2, cells := 0, slots := 0, locals := 45 } : Room) (va_Pc [.ref (bd 0 0), .int x, .int u] (mPre D cy e0 bd w g S sz)) (mQi D cy bd w (fX7_ofTank (w 0 0) (w 0 1) (w 0 2) (w 0 3) (w 0 4) g x u).1 (fX7_ofTank (w 0 0) (w 0 1) (w 0 2) (w 0 3) (w 0 4) g x u).2 S sz) 0 0 (mA bd w sz) :=
  kX7_ofTank l D cy e0 g S sz x u (fun hx _ => vin_ti (is_lt (n := 3) (by decide) hx).2 (by have := clamp_ti (is_lt (n := 3) (by decide) hx).2; have := pr_tank hx; omega)) (fun _ hu _ => vin_u hu (by decide))
theorem mX7_ofBed (l : Launch) (D : va_G) (cy : Nat → ClassId) (e0 : Nat) {bd w : Nat → Nat → Nat} (g : Md) (S : Int64) (sz : Nat) (x : Int32) (u : Int32) (hI : Iv (w 0 0) (w 0 1) (w 0 2) (w 0 3) g) (h4 : w 0 4 = 0) (hcap : ∀ i, i < 4 → capI w i) : Met l yX7_ofBed wsX7_ofBed ({ frames := 4, cells := 1, slots := 8, locals := 88 } : Room) (va_Pc [.ref (bd 0 0), .int x, .int u] (mPre D cy e0 bd w g S sz)) (mQi D cy bd w (fX7_ofBed (w 0 0) (w 0 1) (w 0 2) (w 0 3) (w 0 4) g x u).1 (fX7_ofBed (w 0 0) (w 0 1) (w 0 2) (w 0 3) (w 0 4) g x u).2 S sz) 1 8 (mA bd w sz) :=
  kX7_ofBed l D cy e0 g S sz x u (by omega) (fun _ hu => vin_u hu (by decide))
theorem mX7_ofLot (l : Launch) (D : va_G) (cy : Nat → ClassId) (e0 : Nat) {bd w : Nat → Nat → Nat} (g : Md) (S : Int64) (sz : Nat) (x : Int32) (u : Int32) (hI : Iv (w 0 0) (w 0 1) (w 0 2) (w 0 3) g) (h4 : w 0 4 = 0) (hcap : ∀ i, i < 4 → capI w i) : Met l yX7_ofLot wsX7_ofLot ({ frames := 5, cells := 1, slots := 12, locals := 112 } : Room) (va_Pc [.ref (bd 0 0), .int x, .int u] (mPre D cy e0 bd w g S sz)) (mQi D cy bd w (fX7_ofLot (w 0 0) (w 0 1) (w 0 2) (w 0 3) (w 0 4) g x u).1 (fX7_ofLot (w 0 0) (w 0 1) (w 0 2) (w 0 3) (w 0 4) g x u).2 S sz) 1 12 (mA bd w sz) :=
  kX7_ofLot l D cy e0 g S sz x u (by omega) (fun _ hu => vin_u hu (by decide))
theorem mX7_kilosOf (l : Launch) (D : va_G) (cy : Nat → ClassId) (e0 : Nat) {bd w : Nat → Nat → Nat} (g : Md) (S : Int64) (sz : Nat) (x : Int32) (fa : Int32) (hI : Iv (w 0 0) (w 0 1) (w 0 2) (w 0 3) g) (h4 : w 0 4 = 0) (hcap : ∀ i, i < 4 → capI w i) : Met l yX7_kilosOf wsX7_kilosOf ({ frames := 3, cells := 0, slots := 0, locals := 64 } : Room) (va_Pc [.ref (bd 0 0), .int x, .int fa] (mPre D cy e0 bd w g S sz)) (mQi D cy bd w (fX7_kilosOf (w 0 0) (w 0 1) (w 0 2) (w 0 3) (w 0 4) g x fa).1 (fX7_kilosOf (w 0 0) (w 0 1) (w 0 2) (w 0 3) (w 0 4) g x fa).2 S sz) 0 0 (mA bd w sz) :=
  kX7_kilosOf l D cy e0 g S sz x fa 
theorem mX7_many (l : Launch) (D : va_G) (cy : Nat → ClassId) (e0 : Nat) {bd w : Nat → Nat → Nat} (g : Md) (S : Int64) (sz : Nat) (u : Int32) (hI : Iv (w 0 0) (w 0 1) (w 0 2) (w 0 3) g) (h4 : w 0 4 = 0) (hcap : ∀ i, i < 4 → capI w i) : Met l yX7_many wsX7_many ({ frames := 4, cells := 5, slots := 32, locals := 82 } : Room) (va_Pc [.ref (bd 0 0), .int u] (mPre D cy e0 bd w g S sz)) (mQi D cy bd w (fX7_many (w 0 0) (w 0 1) (w 0 2) (w 0 3) (w 0 4) g u).1 (fX7_many (w 0 0) (w 0 1) (w 0 2) (w 0 3) (w 0 4) g u).2 S sz) 5 32 (mA bd w sz) :=
  kX7_many l D cy e0 g S sz u (by omega) (fun hu => vin_u hu (by decide))
theorem mX7_meanScore (l : Launch) (D : va_G) (cy : Nat → ClassId) (e0 : Nat) {bd w : Nat → Nat → Nat} (g : Md) (S : Int64) (sz : Nat) (hI : Iv (w 0 0) (w 0 1) (w 0 2) (w 0 3) g) (h4 : w 0 4 = 0) (hcap : ∀ i, i < 4 → capI w i) : Met l yX7_meanScore wsX7_meanScore ({ frames := 4, cells := 11, slots := 68, locals := 88 } : Room) (va_Pc [.ref (bd 0 0)] (mPre D cy e0 bd w g S sz)) (mQd D cy bd w (fX7_meanScore (w 0 0) (w 0 1) (w 0 2) (w 0 3) (w 0 4) g).1 (fX7_meanScore (w 0 0) (w 0 1) (w 0 2) (w 0 3) (w 0 4) g).2 S sz) 11 68 (mA bd w sz) :=
  kX7_meanScore l D cy e0 g S sz (by omega)
theorem mX7_readyIn (l : Launch) (D : va_G) (cy : Nat → ClassId) (e0 : Nat) {bd w : Nat → Nat → Nat} (g : Md) (S : Int64) (sz : Nat) (x : Int32) (wm : Int32) (hI : Iv (w 0 0) (w 0 1) (w 0 2) (w 0 3) g) (h4 : w 0 4 = 0) (hcap : ∀ i, i < 4 → capI w i) : Met l yX7_readyIn wsX7_readyIn ({ frames := 2, cells := 0, slots := 0, locals := 45 } : Room) (va_Pc [.ref (bd 0 0), .int x, .int wm] (mPre D cy e0 bd w g S sz)) (mQi D cy bd w (fX7_readyIn (w 0 0) (w 0 1) (w 0 2) (w 0 3) (w 0 4) g x wm).1 (fX7_readyIn (w 0 0) (w 0 1) (w 0 2) (w 0 3) (w 0 4) g x wm).2 S sz) 0 0 (mA bd w sz) :=
  kX7_readyIn l D cy e0 g S sz x wm (fun hx _ => vin_ti (is_lt (n := 3) (by decide) hx).2 (by have := clamp_ti (is_lt (n := 3) (by decide) hx).2; have := pr_tank hx; omega))
theorem mX7_dryIn (l : Launch) (D : va_G) (cy : Nat → ClassId) (e0 : Nat) {bd w : Nat → Nat → Nat} (g : Md) (S : Int64) (sz : Nat) (x : Int32) (wm : Int32) (hI : Iv (w 0 0) (w 0 1) (w 0 2) (w 0 3) g) (h4 : w 0 4 = 0) (hcap : ∀ i, i < 4 → capI w i) : Met l yX7_dryIn wsX7_dryIn ({ frames := 4, cells := 1, slots := 23, locals := 88 } : Room) (va_Pc [.ref (bd 0 0), .int x, .int wm] (mPre D cy e0 bd w g S sz)) (mQi D cy bd w (fX7_dryIn (w 0 0) (w 0 1) (w 0 2) (w 0 3) (w 0 4) g x wm).1 (fX7_dryIn (w 0 0) (w 0 1) (w 0 2) (w 0 3) (w 0 4) g x wm).2 S sz) 1 23 (mA bd w sz) :=
  kX7_dryIn l D cy e0 g S sz x wm (by omega) (fun hd _ _ => (pr_bdI hI.th _ (pr_bed hI hd)).1) (fun hd _ _ => (pr_bdI hI.th _ (pr_bed hI hd)).2)
theorem mX7_bestBlend (l : Launch) (D : va_G) (cy : Nat → ClassId) (e0 : Nat) {bd w : Nat → Nat → Nat} (g : Md) (S : Int64) (sz : Nat) (hI : Iv (w 0 0) (w 0 1) (w 0 2) (w 0 3) g) (h4 : w 0 4 = 0) (hcap : ∀ i, i < 4 → capI w i) : Met l yX7_bestBlend wsX7_bestBlend ({ frames := 5, cells := 144, slots := 3312, locals := 113 } : Room) (va_Pc [.ref (bd 0 0)] (mPre D cy e0 bd w g S sz)) (mQi D cy bd w (fX7_bestBlend (w 0 0) (w 0 1) (w 0 2) (w 0 3) (w 0 4) g).1 (fX7_bestBlend (w 0 0) (w 0 1) (w 0 2) (w 0 3) (w 0 4) g).2 S sz) 144 3312 (mA bd w sz) :=
  kX7_bestBlend l D cy e0 g S sz (by omega) (pr_ltI hI.th)
theorem mX7_wouldShare (l : Launch) (D : va_G) (cy : Nat → ClassId) (e0 : Nat) {bd w : Nat → Nat → Nat} (g : Md) (S : Int64) (sz : Nat) (x : Int32) (fa : Int32) (pr : Int32) (lb : Int32) (hI : Iv (w 0 0) (w 0 1) (w 0 2) (w 0 3) g) (h4 : w 0 4 = 0) (hcap : ∀ i, i < 4 → capI w i) : Met l yX7_wouldShare wsX7_wouldShare ({ frames := 5, cells := 0, slots := 0, locals := 113 } : Room) (va_Pc [.ref (bd 0 0), .int x, .int fa, .int pr, .int lb] (mPre D cy e0 bd w g S sz)) (mQi D cy bd w (fX7_wouldShare (w 0 0) (w 0 1) (w 0 2) (w 0 3) (w 0 4) g x fa pr lb).1 (fX7_wouldShare (w 0 0) (w 0 1) (w 0 2) (w 0 3) (w 0 4) g x fa pr lb).2 S sz) 0 0 (mA bd w sz) :=
  kX7_wouldShare l D cy e0 g S sz x fa pr lb (fun hx _ _ hc => pr_sell hI hx hc)
theorem mX7_digest (l : Launch) (D : va_G) (cy : Nat → ClassId) (e0 : Nat) {bd w : Nat → Nat → Nat} (g : Md) (S : Int64) (sz : Nat) (hI : Iv (w 0 0) (w 0 1) (w 0 2) (w 0 3) g) (h4 : w 0 4 = 0) (hcap : ∀ i, i < 4 → capI w i) : Met l yX7_digest wsX7_digest ({ frames := 5, cells := 444, slots := 6111, locals := 113 } : Room) (va_Pc [.ref (bd 0 0)] (mPre D cy e0 bd w g S sz)) (mQl D cy bd w (fX7_digest (w 0 0) (w 0 1) (w 0 2) (w 0 3) (w 0 4) g S) (u2 g 0 20 0) (fX7_digest (w 0 0) (w 0 1) (w 0 2) (w 0 3) (w 0 4) g S) sz) 444 6111 (mA bd w sz) :=
  kX7_digest l D cy e0 g S sz (by omega) (pr_bdI hI.th) (pr_ltI hI.th)
theorem mX7_thrown (l : Launch) (D : va_G) (cy : Nat → ClassId) (e0 : Nat) {bd w : Nat → Nat → Nat} (g : Md) (S : Int64) (sz : Nat) (hI : Iv (w 0 0) (w 0 1) (w 0 2) (w 0 3) g) (h4 : w 0 4 = 0) (hcap : ∀ i, i < 4 → capI w i) : Met l yX7_thrown wsX7_thrown ({ frames := 0, cells := 0, slots := 0, locals := 0 } : Room) (va_Pc [.ref (bd 0 0)] (mPre D cy e0 bd w g S sz)) (mQi D cy bd w (fX7_thrown (w 0 0) (w 0 1) (w 0 2) (w 0 3) (w 0 4) g) g S sz) 0 0 (mA bd w sz) :=
  kX7_thrown l D cy e0 g S sz 
