/-! ===== what changes a list ===== -/
theorem ix_wide {x : Int32} {n N : Nat} (h : vp_in x n) (hn : n ≤ N) : vp_in x N := fun q => h (q.elim Or.inl (fun q => Or.inr (Nat.le_trans hn q)))
section LC
variable {p : Program} {l : Launch} {e : Env} {R : Room} {s : State} {m : MethodId} {args : Array Value} {below : List Frame} {meth : Method} {c : Code} {H : Heap} {locs : List Loc} {cells slots : Nat} {Q : State → Prop}
variable {cc : ByteArray} {pc : Nat} {ls : Array Slot} {rest : List Value} {D : va_G} {cy : Nat → ClassId} {e0 : Nat} {bd w bd1 w1 : Nat → Nat → Nat} {mm m2 : Md} {S S2 : Int64}
variable {Ts ws ws' : List Cond} {bytes : ByteArray} {nL maxL index n mc ms : Nat} {own : String} {y : MethodName} {ret : Option FieldType} {rm : Room}

theorem m_any {i : Nat} (hB : MB D cy e0 bd1 w1 s) (hM : MW D cy bd w mm S H) (hi : rV w i) : va_Any "java/lang/Object" s H (bd 3 i) := by
  have hat := hM.2.2.2 3 i hi
  obtain ⟨c0, t0, f1, f2, f3⟩ := Cond.castable_spec (qB_use (A := #[]) hB.2.1 (w := .castable "[I" "java/lang/Object") (List.mem_of_getElem? (i := 21) rfl) rfl)
  have hnm : s.vm.findClass "[I" = some (cy 0) := (hB.1.2 0 _ rfl).2
  cases hnm.symm.trans f1
  obtain ⟨-, kA, hkA, -⟩ := (hB.1.2 0 _ rfl).1 0 (fun _ => .null)
  exact ⟨vp_cell (cy 0) (rl w i, q_ints (fun k => mm i k)), hat, rfl, ⟨kA, hkA⟩, fun comp h => by cases f2.symm.trans h; exact f3⟩
theorem q_ast {A : Nat → Prop} {H0 : Heap} {a : Nat} {cl : List vw_C} {tys : List (ClassId × FieldType)} (hexec : p.tables.exec = Jvm.exec) (hb : c.code = cc) (hK : va_K D cl tys s) (t0 : Nat) {E : String} {cA : ClassId} {n v : Nat} {f : Nat → Option Nat} (hat : va_at D cl (a, .inl (cA, n, q_opt f)) H) (hS : va_S A H0 H locs) (ha : A a) (ht : tys[t0]? = some (cA, .object E)) (hr : va_Any E s H v) {i : Int32} {k : Nat} (hk : i.toNatClampNeg = k) (hin : vp_in i n) (hdg : decode cc pc = .ok (.aastore, 1))
    (kk : ∀ (H1 : Heap) (locs1 : List Loc), va_at D cl (a, .inl (cA, n, q_opt (va_up f k (some v)))) H1 → H1.size = H.size → (∀ q : Nat, q ≠ a → H1[q]? = H[q]?) → va_S A H0 H1 locs1 → W p l e R s m args below meth c H1 locs1 cells slots Q (F0 m (pc + 1) ls rest)) : W p l e R s m args below meth c H locs cells slots Q (F0 m pc ls (.ref v :: .int i :: .ref a :: rest)) := by
  subst hk
  have hlt : i.toNatClampNeg < n := Nat.not_le.mp fun q => hin (Or.inr q)
  have h0 : ¬ i < 0 := fun q => hin (Or.inl q)
  obtain ⟨cellV, g1, g3, ⟨kC, hkC⟩, hasg⟩ := hr
  obtain ⟨kA, comp, k1, k2, k3, -⟩ := (hK.2 t0 _ ht).2
  obtain ⟨kE, hkE, -⟩ := Vm.findClass_spec k3
  refine W.aast hexec hb (show H[a]? = some (vp_cell cA (n, q_opt f)) from hat) (fun q h => by cases h) (fun h => by cases h) k1 k2 rfl hkE ⟨h0, by show _ < (arrV _ _ _).slots.size; rw [arrV_size]; exact hlt⟩ g1 (fun q h => by rw [h] at g3; cases g3) hkC (hasg _ k3) rfl rfl hdg fun H1 e z oq => ?_
  refine kk H1 _ ?_ z oq (hS.put z oq ha)
  show H1[a]? = some (vp_cell _ _)
  rw [e]
  rw [vp_cell_q, vp_cell_q, arrV_store]
  congr 2
  funext q
  by_cases hq : q = i.toNatClampNeg
  · subst hq
    simp [updV, va_up, va_rf]
  · simp [updV, va_up, hq]
/-- the row made last goes into a list, in the place of another one -/
def wS (w : Nat → Nat → Nat) : Nat → Nat → Nat := fun a b => if a = 0 ∧ b = 4 then w 0 4 - 1 else w a b
theorem wS_V {κ i : Nat} (hw : wB w) (h : mV (wS w) κ i) : mV w κ i ∧ ¬ (κ = 3 ∧ i = 400 + (w 0 4 - 1)) := by
  match κ, h with
  | 0, h => exact ⟨h, fun q => absurd q.1 (by decide)⟩
  | 1, h => exact ⟨h, fun q => absurd q.1 (by decide)⟩
  | 2, h =>
    have h : i < 4 ∧ 0 < wS w 0 i := h
    have h2 := h.2
    unfold wS at h2
    rw [if_neg (by omega)] at h2
    exact ⟨⟨h.1, h2⟩, fun q => absurd q.1 (by decide)⟩
  | 3, h =>
    have h : rV (wS w) i := h
    have e0 : wS w 0 0 = w 0 0 := rfl
    have e1 : wS w 0 1 = w 0 1 := rfl
    have e2 : wS w 0 2 = w 0 2 := rfl
    have e3 : wS w 0 3 = w 0 3 := rfl
    have e4 : wS w 0 4 = w 0 4 - 1 := rfl
    unfold rV at h
    rw [e0, e1, e2, e3, e4] at h
    unfold wB at hw
    exact ⟨show rV w i by unfold rV; omega, fun q => by omega⟩
  | 4, h => exact ⟨h, fun q => absurd q.1 (by decide)⟩
  | 5, h => exact ⟨h, fun q => absurd q.1 (by decide)⟩
  | 6, h => exact ⟨h, fun q => absurd q.1 (by decide)⟩
theorem MW.setRow {li k : Nat} {H1 : Heap} (hM : MW D cy bd w mm S H) (hli : li = 3) (hk : k < w 0 3) (h4 : 0 < w 0 4) (hlen : w 2 (w 0 4 - 1) = 23) (hat : va_at D vwCl (bd 2 li, .inl (cy 7, (w 1 li, q_opt (va_up (fun j => if j < w 0 li then some (bd 3 (rb li + j)) else none) k (some (bd 3 (400 + (w 0 4 - 1)))))))) H1) (hO : ∀ q, q ≠ bd 2 li → H1[q]? = H[q]?) : ∃ bd2 : Nat → Nat → Nat, (∀ κ i, mV (wS w) κ i → ¬ (κ = 3 ∧ i = 308 + k) → bd2 κ i = bd κ i) ∧ (∀ i, bd2 2 i = bd 2 i) ∧ bd2 3 (308 + k) = bd 3 (400 + (w 0 4 - 1)) ∧ MW D cy bd2 (wS w) (rz mm (308 + k) (fun j => mm (400 + (w 0 4 - 1)) j)) S H1 := by
  subst hli
  have hM0 := hM
  obtain ⟨hw, hI, ⟨hc1, hc2, hc3⟩, hC⟩ := hM
  have hwb := hw
  unfold wB at hwb
  have hTv : rV w (400 + (w 0 4 - 1)) := by unfold rV; omega
  have h2v : mV w 2 3 := ⟨by decide, by omega⟩
  have hne : ∀ κ i, mV w κ i → ¬ (κ = 2 ∧ i = 3) → bd κ i ≠ bd 2 3 := fun κ i hv hn e => hn (hI _ _ _ _ hv h2v e)
  obtain ⟨bd2, E, Ek⟩ : ∃ bd2 : Nat → Nat → Nat, (∀ κ i, ¬ (κ = 3 ∧ i = 308 + k) → bd2 κ i = bd κ i) ∧ bd2 3 (308 + k) = bd 3 (400 + (w 0 4 - 1)) := ⟨fun κ i => if κ = 3 ∧ i = 308 + k then bd 3 (400 + (w 0 4 - 1)) else bd κ i, fun κ i h => if_neg h, if_pos ⟨rfl, rfl⟩⟩
  refine ⟨bd2, fun κ i _ hn => E κ i hn, fun i => E 2 i (by omega), Ek, ?_⟩
  have hTv2 : mV w 3 (400 + (w 0 4 - 1)) := hTv
  have z : ∀ i, i < 4 → wS w 0 i = w 0 i := fun i hi => by unfold wS; rw [if_neg (by omega)]
  have R0 : ∀ r K, r ≠ 308 + k → rz mm (308 + k) (fun j => mm (400 + (w 0 4 - 1)) j) r K = mm r K := fun r K h => rz_nr h
  refine ⟨?_, ?_, ⟨fun i hi h => ?_, hc2, hc3⟩, ?_⟩
  · unfold wB
    rw [z 0 (by decide), z 1 (by decide), z 2 (by decide), z 3 (by decide)]
    have : wS w 0 4 = w 0 4 - 1 := rfl
    omega
  · intro κ i κ' i' h h' e
    obtain ⟨h, n1⟩ := wS_V hw h
    obtain ⟨h', n2⟩ := wS_V hw h'
    by_cases q : κ = 3 ∧ i = 308 + k <;> by_cases q' : κ' = 3 ∧ i' = 308 + k
    · obtain ⟨rfl, rfl⟩ := q
      obtain ⟨rfl, rfl⟩ := q'
      exact ⟨rfl, rfl⟩
    · rw [E κ' i' q'] at e
      obtain ⟨rfl, rfl⟩ := q
      rw [Ek] at e
      exact absurd (hI _ _ _ _ h' hTv2 e.symm) n2
    · rw [E κ i q] at e
      obtain ⟨rfl, rfl⟩ := q'
      rw [Ek] at e
      exact absurd (hI _ _ _ _ h hTv2 e) n1
    · rw [E κ i q, E κ' i' q'] at e
      exact hI _ _ _ _ h h' e
  · rw [z i hi] at h ⊢
    exact hc1 i hi h
  · intro κ i hv
    obtain ⟨hv, n1⟩ := wS_V hw hv
    match κ, hv, n1 with
    | 0, hv, _ =>
      have hv : i = 0 := hv
      subst hv
      have h := (hC 0 0 rfl).kept (hO _ (hne 0 0 rfl (by omega)))
      have e : ∀ r K, r = 0 → rz mm (308 + k) (fun j => mm (400 + (w 0 4 - 1)) j) r K = mm r K := fun r K h => R0 r K (by omega)
      simp only [mS, e 0 _ rfl] at h ⊢
      rw [E 0 0 (by omega), E 1 0 (by omega), E 1 1 (by omega), E 4 0 (by omega), E 1 2 (by omega), E 1 3 (by omega), E 5 0 (by omega), E 3 360 (by omega)]
      exact h
    | 1, hv, _ =>
      have hv : i < 4 := hv
      have h := (hC 1 i hv).kept (hO _ (hne 1 i hv (by omega)))
      have e6 : wS w 6 i = w 6 i := by unfold wS; rw [if_neg (by omega)]
      simp only [mS] at h ⊢
      rw [E 1 i (by omega), E 2 i (by omega), z i hv, e6]
      exact h
    | 2, hv, _ =>
      have hv : i < 4 ∧ 0 < w 0 i := hv
      have e1 : wS w 1 i = w 1 i := by unfold wS; rw [if_neg (by omega)]
      by_cases hi3 : i = 3
      · subst hi3
        simp only [mS]
        rw [E 2 3 (by omega), e1]
        have e : (fun K => if K < wS w 0 3 then some (bd2 3 (rb 3 + K)) else none) = va_up (fun j => if j < w 0 3 then some (bd 3 (rb 3 + j)) else none) k (some (bd 3 (400 + (w 0 4 - 1)))) := by
          funext K
          have er : rb 3 = 308 := rfl
          rw [z 3 (by decide), er]
          unfold va_up
          by_cases hK : K = k
          · subst hK
            rw [if_pos hk, if_pos rfl, Ek]
          · rw [if_neg hK]
            show _ = if K < w 0 3 then some (bd 3 (308 + K)) else none
            by_cases hK2 : K < w 0 3
            · rw [if_pos hK2, if_pos hK2, E _ _ (by omega)]
            · rw [if_neg hK2, if_neg hK2]
        rw [e]
        exact hat
      · have h := (hC 2 i hv).kept (hO _ (hne 2 i hv (by omega)))
        simp only [mS] at h ⊢
        rw [E 2 i (by omega), e1, z i hv.1]
        have e : ∀ K, K < w 0 i → bd2 3 (rb i + K) = bd 3 (rb i + K) := fun K hK => E _ _ (fun q => by
          have q2 := q.2
          obtain ⟨hi, -⟩ := hv
          match i, hi, hi3, hK, q2 with
          | 0, _, _, hK, q2 => have : rb 0 = 100 := rfl; omega
          | 1, _, _, hK, q2 => have : rb 1 = 200 := rfl; omega
          | 2, _, _, hK, q2 => have : rb 2 = 303 := rfl; omega
          | 3, _, hi3, _, _ => exact hi3 rfl)
        have e2 : (fun K => if K < w 0 i then some (bd2 3 (rb i + K)) else none) = (fun K => if K < w 0 i then some (bd 3 (rb i + K)) else none) := by
          funext K
          by_cases hK : K < w 0 i
          · rw [if_pos hK, if_pos hK, e K hK]
          · rw [if_neg hK, if_neg hK]
        rw [e2]
        exact h
    | 3, hv, n1 =>
      have hv : rV w i := hv
      have el : rl (wS w) i = rl w i := by unfold rl wS; simp
      by_cases hi : i = 308 + k
      · subst hi
        have h := (hC 3 _ hTv).kept (hO _ (hne 3 _ hTv (by omega)))
        have e1 : rl w (400 + (w 0 4 - 1)) = 23 := by
          unfold rl
          rw [if_neg (by omega), if_neg (by omega), if_neg (by omega), if_neg (by omega), Nat.add_sub_cancel_left]
          exact hlen
        have e2 : rl w (308 + k) = 23 := by
          unfold rl
          rw [if_neg (by omega), if_neg (by omega), if_pos (by omega)]
        simp only [mS, rz_eq, el, e2]
        simp only [mS, e1] at h
        rw [Ek]
        exact h
      · have h := (hC 3 i hv).kept (hO _ (hne 3 i hv (by omega)))
        have e : (fun K => rz mm (308 + k) (fun j => mm (400 + (w 0 4 - 1)) j) i K) = fun K => mm i K := funext fun K => R0 i K hi
        simp only [mS, el, e] at h ⊢
        rw [E 3 i (by omega)]
        exact h
    | 4, hv, _ =>
      have hv : i = 0 := hv
      subst hv
      have h := (hC 4 0 rfl).kept (hO _ (hne 4 0 rfl (by omega)))
      have e : (fun K => if K < 3 then some (bd2 3 (300 + K)) else none) = fun K => if K < 3 then some (bd 3 (300 + K)) else none := by
        funext K
        by_cases hK : K < 3
        · rw [if_pos hK, if_pos hK, E 3 (300 + K) (by omega)]
        · rw [if_neg hK, if_neg hK]
      simp only [mS] at h ⊢
      rw [E 4 0 (by omega), e]
      exact h
    | 5, hv, _ =>
      have hv : i = 0 := hv
      subst hv
      have h := (hC 5 0 rfl).kept (hO _ (hne 5 0 rfl (by omega)))
      have e : (fun K => if K < 12 then some (bd2 3 (340 + K)) else none) = fun K => if K < 12 then some (bd 3 (340 + K)) else none := by
        funext K
        by_cases hK : K < 12
        · rw [if_pos hK, if_pos hK, E 3 (340 + K) (by omega)]
        · rw [if_neg hK, if_neg hK]
      simp only [mS] at h ⊢
      rw [E 5 0 (by omega), e]
      exact h
    | 6, hv, _ =>
      have hv : i < w 0 5 := hv
      have h := (hC 6 i hv).kept (hO _ (hne 6 i hv (by omega)))
      have e3 : wS w 3 i = w 3 i := by unfold wS; rw [if_neg (by omega)]
      have e4 : wS w 4 i = w 4 i := by unfold wS; rw [if_neg (by omega)]
      have e5 : wS w 5 i = w 5 i := by unfold wS; rw [if_neg (by omega)]
      simp only [mS] at h ⊢
      rw [E 6 i (by omega), e3, e4, e5, E 1 (w 3 i) (by omega)]
      exact h
end LC
theorem Is1 : ∀ w ∈ wsJx4a65c0, w ∈ wsJx4a65c_set_bcc79 := fun _ h => (List.mem_cons_of_mem _ (List.mem_append_right _ h))
/-- the world behind set: the row made last stands in the list lots -/
def mSR (bd w bd2 : Nat → Nat → Nat) (k : Nat) : Prop := (∀ κ i, mV (wS w) κ i → ¬ (κ = 3 ∧ i = 308 + k) → bd2 κ i = bd κ i) ∧ (∀ i, bd2 2 i = bd 2 i) ∧ bd2 3 (308 + k) = bd 3 (400 + (w 0 4 - 1))
set_option maxRecDepth 100000 in
set_option maxHeartbeats 4000000 in
theorem kJx4a65c_set_bcc79 (l : Launch) (D : va_G) (cy : Nat → ClassId) (e0 : Nat) {bd w : Nat → Nat → Nat} (g : Md) (S : Int64) (sz : Nat) (x : Int32) (hj : vp_in x (w 0 3)) (h4 : 0 < w 0 4) (hlen : w 2 (w 0 4 - 1) = 23) : Met l yJx4a65c_set_bcc79 wsJx4a65c_set_bcc79 ({ frames := 2, cells := 0, slots := 0, locals := 43 } : Room) (va_Pc [.ref (bd 1 3), .int x, .ref (bd 3 (400 + (w 0 4 - 1)))] (mPre D cy e0 bd w g S sz)) (va_Qr (fun _ : Nat → Nat → Nat => True) (fun bd2 _ t => mSR bd w bd2 x.toNatClampNeg ∧ MW D cy bd2 (wS w) (rz g (308 + x.toNatClampNeg) (fun j => g (400 + (w 0 4 - 1)) j)) S t.heap) (mA bd w sz)) 0 0 (mA bd w sz) := by
  refine q_start (cc := cJx4a65c_set_bcc79) (maxL := 4) (ret := (some (.object "java/lang/Object"))) (own := RJx4a65c) (by decide) rfl rfl (Nat.le_of_ble_eq_true rfl) ?_
  intro p e s m below meth c hx hb hr hml hts hown hlocks ⟨hsz, hC, hB⟩ ls hl
  subst hsz
  have hS : va_S (mA bd w s.heap.size) s.heap s.heap [] := va_S.rf
  have hG : mG e0 bd w s.heap.size bd w := mG.rf hB.2.2.1
  have hl4 : 3 < 4 := by decide
  have hw0 := hC.1
  have hk : x.toNatClampNeg < w 0 3 := vp_lt hj
  have hTv : rV w (400 + (w 0 4 - 1)) := by unfold rV; omega
  have hl : lv_has ls 4 [(0, .ref (bd 1 3)), (1, .int x), (2, .ref (bd 3 (400 + (w 0 4 - 1))))] := hl
  refine lv_iload_n hx hb dJx4a65c_set_bcc79_0 rfl (lv_at hl 1 rfl) ?_
  refine lv_aload_n hx hb dJx4a65c_set_bcc79_1 rfl (lv_at hl 0 rfl) ?_
  refine gt_m1_2 hx hb hts Is1 hown hB.1 hC hl4 (List.mem_of_getElem? (i := 1) rfl) dJx4a65c_set_bcc79_2 ?_
  refine m_callSi (As := [.int x, .int (nI (w 0 3))]) ⟨hx, hb, hml, hown, hts⟩ (kJ15_checkIndex_7cf53 l D cy e0 (bd := bd) (w := w) g S _ x (nI (w 0 3)) (mI_in hj (Nat.le_trans (w0_20 hC.1 hl4) (by decide))).1 (mI_in hj (Nat.le_trans (w0_20 hC.1 hl4) (by decide))).2) (va_cwS 2 hts gJx4a65c_set_bcc79_J15_checkIndex_7cf53 rfl rfl rfl (by decide +kernel) ⟨Nat.le_of_ble_eq_true rfl, Nat.le_of_ble_eq_true rfl⟩) hB hG.2 hC hS rfl hl.1 (Nat.le_of_ble_eq_true rfl) dJx4a65c_set_bcc79_5 ⟨Nat.le_of_ble_eq_true rfl, Nat.le_of_ble_eq_true rfl⟩ (fun H locs hC hS => ?_)
  refine lv_pop hx hb dJx4a65c_set_bcc79_8 rfl ?_
  refine lv_aload_n hx hb dJx4a65c_set_bcc79_9 rfl (lv_at hl 0 rfl) ?_
  refine lv_iload_n hx hb dJx4a65c_set_bcc79_10 rfl (lv_at hl 1 rfl) ?_
  refine m_callVr (As := [.int x]) (κ := 1) (i := 3) hl4 rfl ⟨_, rfl⟩ rfl ⟨hx, hb, hml, hown, hts⟩ (kJx4a65c_elementData_915e3 l D cy e0 (bd := bd) (w := w) g S _ 3 hl4 x hj) (cwV 1 hts gJx4a65c_set_bcc79_Jx4a65c_elementData_915e3 rfl rfl rfl (by decide +kernel) ⟨Nat.le_of_ble_eq_true rfl, Nat.le_of_ble_eq_true rfl⟩) hB hG.2 hC hS rfl hl.1 (Nat.le_of_ble_eq_true rfl) dJx4a65c_set_bcc79_11 ⟨Nat.le_of_ble_eq_true rfl, Nat.le_of_ble_eq_true rfl⟩ (fun H locs hC hS => ?_)
  refine lv_astore_n (lv' := [(3, .ref (bd 3 (rb 3 + x.toNatClampNeg))), (0, .ref (bd 1 3)), (1, .int x), (2, .ref (bd 3 (400 + (w 0 4 - 1))))]) hx hb dJx4a65c_set_bcc79_14 rfl hl (by decide) rfl (fun ls hl => ?_)
  refine lv_aload_n hx hb dJx4a65c_set_bcc79_15 rfl (lv_at hl 1 rfl) ?_
  refine gt_m1_1 hx hb hts Is1 hown hB.1 hC hl4 (List.mem_of_getElem? (i := 2) rfl) dJx4a65c_set_bcc79_16 ?_
  refine lv_iload_n hx hb dJx4a65c_set_bcc79_19 rfl (lv_at hl 2 rfl) ?_
  refine lv_aload_n hx hb dJx4a65c_set_bcc79_20 rfl (lv_at hl 3 rfl) ?_
  have h2v : mV w 2 3 := ⟨hl4, by omega⟩
  have hcap := hC.2.2.1.1 3 hl4 (by omega)
  refine q_ast hx hb hB.1 7 (hC.2.2.2 2 3 h2v) hS (hG.2.1 2 3 h2v) rfl (m_any hB hC hTv) rfl (ix_wide hj hcap) dJx4a65c_set_bcc79_21 (fun H locs hat _ hO hS => ?_)
  obtain ⟨bd2, E1, E2, E3, hC2⟩ := hC.setRow rfl hk h4 hlen hat hO
  refine lv_aload_n hx hb dJx4a65c_set_bcc79_22 rfl (lv_at hl 0 rfl) ?_
  exact W.aret hx hb hr (Or.inl ⟨_, rfl⟩) (Or.inr ⟨_, rfl⟩) (fun t ht hW => ⟨⟨bd2, _, rfl, trivial, ⟨E1, E2, E3⟩, MW.at ht hC2⟩, hS.F ht⟩) hS.2.2 dJx4a65c_set_bcc79_23
section LD
variable {p : Program} {l : Launch} {e : Env} {R : Room} {s : State} {m : MethodId} {args : Array Value} {below : List Frame} {meth : Method} {c : Code} {H : Heap} {locs : List Loc} {cells slots : Nat} {Q : State → Prop}
variable {cc : ByteArray} {pc : Nat} {ls : Array Slot} {rest : List Value} {D : va_G} {cy : Nat → ClassId} {e0 : Nat} {bd w bd1 w1 : Nat → Nat → Nat} {mm m2 : Md} {S S2 : Int64}
variable {Ts ws ws' : List Cond} {bytes : ByteArray} {nL maxL index n mc ms : Nat} {own : String} {y : MethodName} {ret : Option FieldType} {rm : Room}

theorem m_setrow {w9 : Nat → Nat → Nat} {x : Int32} (CF : CallFix p m c cc nL s args Ts own) (hMe : Met l y ws rm (va_Pc [.ref (bd1 1 3), .int x, .ref (bd1 3 (400 + (w1 0 4 - 1)))] (mPre D cy e0 bd1 w1 mm S H.size)) (va_Qr (fun _ : Nat → Nat → Nat => True) (fun bd2 _ t => mSR bd1 w1 bd2 x.toNatClampNeg ∧ MW D cy bd2 (wS w1) (rz mm (308 + x.toNatClampNeg) (fun j => mm (400 + (w1 0 4 - 1)) j)) S t.heap) (mA bd1 w1 H.size)) mc ms (mA bd1 w1 H.size)) (cw : CallW R s args own RJx4a65c index y bytes maxL ret ws rm mc ms 2) (hB : MB D cy e0 bd w s) (hG : mG0 e0 bd w s.heap.size bd1 w1) (hM : MW D cy bd1 w1 mm S H) (hS : va_S (mA bd w s.heap.size) s.heap H locs) (h4 : 0 < w1 0 4) (hsize : ls.size = nL) (hW : (rest.map fun v => v.category).sum ≤ 8) (hdg : decode cc pc = .ok (.invokevirtual index, 3)) (hf : cells + mc ≤ R.cells ∧ slots + ms ≤ R.slots)
    (kk : ∀ (bd2 : Nat → Nat → Nat) (b : Nat) (H1 : Heap) (locs1 : List Loc), mSR bd1 w1 bd2 x.toNatClampNeg → mG0 e0 bd w s.heap.size bd2 (wS w1) → MW D cy bd2 (wS w1) (rz mm (308 + x.toNatClampNeg) (fun j => mm (400 + (w1 0 4 - 1)) j)) S H1 → va_S (mA bd w s.heap.size) s.heap H1 locs1 → W p l e R s m args below meth c H1 locs1 (cells + mc) (slots + ms) Q (F0 m (pc + 3) ls (.ref b :: rest))) : W p l e R s m args below meth c H locs cells slots Q (F0 m pc ls (.ref (bd1 3 (400 + (w1 0 4 - 1))) :: .int x :: .ref (bd1 1 3) :: rest)) := by
  have hFc : ∀ q : Nat, mA bd1 w1 H.size q → mA bd w s.heap.size q := fun q h => mA_in hG.1 hS.1 h
  have hat := hM.2.2.2 1 3 (show 3 < 4 by decide)
  have hrec := va_recv (ci := 1) hB.1 (q_one hat) rfl (q0 := 0) rfl
  refine va_callr (va_runV (As := [.int x, .ref (bd1 3 (400 + (w1 0 4 - 1)))]) (rest := rest) CF hMe cw ⟨mPre_blind, hrec, fun U hU hW2 => ⟨rfl, by rw [hU], MU.mk hB hM hG.1 hG.2 hS hU hW2⟩⟩ rfl rfl hsize rfl (lv_room hW) hdg hf) hS (fun q _ h => hFc q h) hFc (fun bd2 r t H1 locs1 ht hvm hw hBu hz1 hk1 hS1 => ?_)
  obtain ⟨hN, hBu⟩ := hBu
  refine kk bd2 r H1 locs1 hN ⟨fun κ i hv => ?_, fun i hi h0 => ?_⟩ (by rw [← ht]; exact hBu) hS1
  · obtain ⟨hv1, -⟩ := wS_V hM.1 hv
    by_cases q : κ = 3 ∧ i = 308 + x.toNatClampNeg
    · obtain ⟨rfl, rfl⟩ := q
      rw [hN.2.2]
      have hw := hM.1
      exact hG.1 3 _ (show rV w1 (400 + (w1 0 4 - 1)) by unfold rV; omega)
    · rw [hN.1 κ i hv q]; exact hG.1 κ i hv1
  · rw [hN.2.1 i]
    refine hG.2 i hi ?_
    have e : wS w1 0 i = w1 0 i := by unfold wS; rw [if_neg (by omega)]
    rw [← e]; exact h0
theorem wN_len {N : Nat} : wN w N 2 (wN w N 0 4 - 1) = N := by
  show wN w N 2 (w 0 4 + 1 - 1) = N
  rw [Nat.add_sub_cancel]
  unfold wN
  rw [if_neg (by omega), if_pos ⟨rfl, rfl⟩]
theorem wS_mE {N : Nat} (h : mE e0 bd (wS (wN w N))) : mE e0 bd w := fun i hi h0 => h i hi (by
  have e : wS (wN w N) 0 i = w 0 i := by unfold wS; rw [if_neg (by omega)]; unfold wN; rw [if_neg (by omega), if_neg (by omega)]
  rw [e]; exact h0)
theorem set_ne {x y : Int32} {n : Nat} (h : ¬ x = y) (hx : vp_in x n) (hy : vp_in y n) : x.toNatClampNeg ≠ y.toNatClampNeg := by
  intro e
  apply h
  have h1 : ¬ x < 0 := fun q => hx (Or.inl q)
  have h2 : ¬ y < 0 := fun q => hy (Or.inl q)
  rw [Int32.lt_iff_toInt_lt] at h1 h2
  have z : (0 : Int32).toInt = 0 := rfl
  have e1 : x.toNatClampNeg = x.toInt.toNat := rfl
  have e2 : y.toNatClampNeg = y.toInt.toNat := rfl
  apply Int32.toInt_inj.mp
  omega
theorem wSN_mD {N : Nat} : mD bd w bd (wS (wN w N)) := by
  have e : ∀ a b : Nat, ¬ (a = 2 ∧ b = w 0 4) → wS (wN w N) a b = w a b := by
    intro a b h
    unfold wS
    by_cases q : a = 0 ∧ b = 4
    · rw [if_pos q, q.1, q.2]; show w 0 4 + 1 - 1 = w 0 4; omega
    · rw [if_neg q]; unfold wN; rw [if_neg q, if_neg h]
  refine ⟨fun κ i h => ⟨?_, rfl⟩, fun i hi => e 0 i (by omega), fun i => e 1 i (by omega), fun t ht => e 2 t (by omega), fun t ht => ⟨e 3 t (by omega), e 4 t (by omega), e 5 t (by omega)⟩, by rw [e 0 4 (by omega)]; exact Nat.le_refl _, fun _ => rfl, fun i => e 6 i (by omega)⟩
  match κ, h with
  | 0, h => exact h
  | 1, h => exact h
  | 2, h =>
    have h : i < 4 ∧ 0 < w 0 i := h
    exact ⟨h.1, by rw [e 0 i (by omega)]; exact h.2⟩
  | 3, h =>
    have h : rV w i := h
    show rV (wS (wN w N)) i
    unfold rV
    rw [e 0 0 (by omega), e 0 1 (by omega), e 0 2 (by omega), e 0 3 (by omega), e 0 4 (by omega)]
    exact h
  | 4, h => exact h
  | 5, h => exact h
  | 6, h =>
    have h : i < w 0 5 := h
    show i < wS (wN w N) 0 5
    rw [e 0 5 (by omega)]; exact h
end LD
