theorem mm_X2_startAfresh_X2 : ∀ w ∈ wsX20, w ∈ wsX2_startAfresh := by decide +kernel
theorem li_X2_startAfresh_X5 : Cond.initialized RX5 ∈ wsX2_startAfresh := by decide +kernel
theorem lk_X2_startAfresh_25 : Cond.fieldLink RX2 25 "BackofficeAir$Station" "itsClass" "I" ∈ wsX2_startAfresh := by decide +kernel
theorem lk_X2_startAfresh_29 : Cond.fieldLink RX2 29 "BackofficeAir$Station" "window" "I" ∈ wsX2_startAfresh := by decide +kernel
theorem lk_X2_startAfresh_35 : Cond.fieldLink RX2 35 "BackofficeAir$Station" "failures" "I" ∈ wsX2_startAfresh := by decide +kernel
theorem ls_X2_startAfresh_X5_leastWindow : Cond.static yX5_leastWindow ∈ wsX2_startAfresh := by decide +kernel
theorem nk_X2_102 : Cond.methodLinkNest RX2 102 ⟨"BackofficeAir", "leastWindow", "(I)I"⟩ "BackofficeAir" ∈ nestW := by decide +kernel
def f_X2_startAfresh (S : Mem) (i : Nat) : Mem := ub (ub S (6 + 5 * i) 1 (f_X5_leastWindow (S (6 + 5 * i) 0))) (6 + 5 * i) 3 (nI 0)
theorem f_X2_startAfresh_d (S : Mem) (i : Nat) : f_X2_startAfresh S i = (ub (ub S (6 + 5 * i) 1 (f_X5_leastWindow (S (6 + 5 * i) 0))) (6 + 5 * i) 3 (nI 0)) := rfl
set_option maxHeartbeats 1000000 in
set_option maxRecDepth 100000 in
theorem c_X2_startAfresh (l : Launch) (D : va_G) (cI cS : ClassId) (G : Nat → Nat) (S : Mem) (sz : Nat) (i : Nat) (hi : i < 6) : Met l yX2_startAfresh wsX2_startAfresh ({ frames := 2, cells := 0, slots := 0, locals := 40 } : Room) (wPc 36 (cF cI cS G) D (tY cI cS) G S sz [.ref (G (6 + 5 * i))]) (mQv (f_X2_startAfresh S i) 36 (cF cI cS G) D G sz) 0 0 (fA 36 G sz) := by
  refine x_met (cc := cX2_startAfresh) (maxL := 1) (ret := none) (by decide) rfl (Nat.le_of_ble_eq_true rfl) ?_
  intro p e s m below meth c ls hx hb hr hml hts hown hlocks hsz hP hK hD hN hl hnm
  subst hsz
  have hown : s.vm.findClass RX2 = some m.cls := hown
  have hl : lv_has ls 1 [(0, .ref (G (6 + 5 * i)))] := hl
  have hq := f_X2_startAfresh_d S i
  have hA : ∀ q : Nat, s.heap.size ≤ q → (fA 36 G s.heap.size) q := fun q h => Or.inr h
  have hS : va_S (fA 36 G s.heap.size) s.heap s.heap [] := va_S.rf
  refine lv_aload_n hx hb dX2_startAfresh_0 rfl (lv_at hl 0 rfl) ?_
  refine lv_aload_n hx hb dX2_startAfresh_1 rfl (lv_at hl 0 rfl) ?_
  refine x_get hx hb hts mm_X2_startAfresh_X2 hown hK hP (6 + 5 * i) (by omega) (cF_st _ _) rfl 2 (by decide) (hts _ lk_X2_startAfresh_25) rfl rfl dX2_startAfresh_2 ?_
  refine x_pi (va_runSN (As := [.int (S (6 + 5 * i) 0)]) (rest := [.ref (G (6 + 5 * i))]) ⟨hx, hb, hml, hown, hts⟩ (c_X5_leastWindow l s.heap.size (S (6 + 5 * i) 0)) ⟨va_cnB 1 hts gX2_startAfresh_X5_leastWindow_n102 rfl rfl rfl (hN _ nk_X2_102) (hts _ li_X2_startAfresh_X5) (by decide +kernel) ⟨Nat.le_of_ble_eq_true rfl, Nat.le_of_ble_eq_true rfl⟩, hts _ ls_X2_startAfresh_X5_leastWindow, trivial⟩ ⟨sPc_blind, sPc_at hN⟩ rfl rfl hl.1 rfl (lv_room (Nat.le_of_ble_eq_true rfl)) dX2_startAfresh_5 ⟨Nat.le_refl _, Nat.le_refl _⟩) hS hA (fun q h => h) (fun H locs hz hk hS => ?_)
  have hP := P_kept hP hk
  refine x_put hx hb hts mm_X2_startAfresh_X2 tyX2 tyX2_ok nmX2 hown hK hP hD hS (6 + 5 * i) (by omega) (cF_st _ _) rfl 3 (by decide) (hts _ lk_X2_startAfresh_29) rfl rfl rfl rfl rfl (Nat.le_of_ble_eq_true rfl) 1 (cF_st _ _) dX2_startAfresh_8 (fun H locs hP hS => ?_)
  refine lv_aload_n hx hb dX2_startAfresh_11 rfl (lv_at hl 0 rfl) ?_
  refine lv_iconst (v := nI 0) hx hb dX2_startAfresh_12 (by decide) ?_
  refine x_put hx hb hts mm_X2_startAfresh_X2 tyX2 tyX2_ok nmX2 hown hK hP hD hS (6 + 5 * i) (by omega) (cF_st _ _) rfl 5 (by decide) (hts _ lk_X2_startAfresh_35) rfl rfl rfl rfl rfl (Nat.le_of_ble_eq_true rfl) 3 (cF_st _ _) dX2_startAfresh_13 (fun H locs hP hS => ?_)
  exact x_ret_v hx hb hr hlocks hP hS dX2_startAfresh_16 hq

theorem mm_X2_countFailure_X2 : ∀ w ∈ wsX20, w ∈ wsX2_countFailure := by decide +kernel
theorem lk_X2_countFailure_12 : Cond.fieldLink RX2 12 "BackofficeAir$Station" "row" "LBackofficeAir$Row;" ∈ wsX2_countFailure := by decide +kernel
theorem lk_X2_countFailure_29 : Cond.fieldLink RX2 29 "BackofficeAir$Station" "window" "I" ∈ wsX2_countFailure := by decide +kernel
theorem lk_X2_countFailure_35 : Cond.fieldLink RX2 35 "BackofficeAir$Station" "failures" "I" ∈ wsX2_countFailure := by decide +kernel
theorem lk_X2_countFailure_44 : Cond.fieldLink RX2 44 "BackofficeAir$Station" "dropped" "I" ∈ wsX2_countFailure := by decide +kernel
theorem lm1_X2_countFailure_min : Cond.methodLink RX2 96 Lib.Math.min.name ∈ wsX2_countFailure := by decide +kernel
theorem lm2_X2_countFailure_min : Cond.static Lib.Math.min.name ∈ wsX2_countFailure := by decide +kernel
theorem lm3_X2_countFailure_min : Cond.initialized "java/lang/Math" ∈ wsX2_countFailure := by decide +kernel
theorem lm4_X2_countFailure_min : Cond.code Lib.Math.min.name Lib.Math.min.code 2 (some .int) ∈ wsX2_countFailure := by decide +kernel
def f_X2_countFailure (S : Mem) (i : Nat) : Mem := if nI 5 ≤ (ub S (6 + 5 * i) 3 ((S (6 + 5 * i) 3) + (nI 1))) (6 + 5 * i) 3 then (f_X2_startAfresh (f_X0_removeFirst (ub (ub S (6 + 5 * i) 3 ((S (6 + 5 * i) 3) + (nI 1))) (6 + 5 * i) 6 (((ub S (6 + 5 * i) 3 ((S (6 + 5 * i) 3) + (nI 1))) (6 + 5 * i) 6) + (nI 1))) i) i) else (ub (ub S (6 + 5 * i) 3 ((S (6 + 5 * i) 3) + (nI 1))) (6 + 5 * i) 1 (if (nI 31) < (((nI 2) * ((ub S (6 + 5 * i) 3 ((S (6 + 5 * i) 3) + (nI 1))) (6 + 5 * i) 1)) + (nI 1)) then (nI 31) else (((nI 2) * ((ub S (6 + 5 * i) 3 ((S (6 + 5 * i) 3) + (nI 1))) (6 + 5 * i) 1)) + (nI 1))))
theorem f_X2_countFailure_d (S : Mem) (i : Nat) : f_X2_countFailure S i = (if nI 5 ≤ (ub S (6 + 5 * i) 3 ((S (6 + 5 * i) 3) + (nI 1))) (6 + 5 * i) 3 then (f_X2_startAfresh (f_X0_removeFirst (ub (ub S (6 + 5 * i) 3 ((S (6 + 5 * i) 3) + (nI 1))) (6 + 5 * i) 6 (((ub S (6 + 5 * i) 3 ((S (6 + 5 * i) 3) + (nI 1))) (6 + 5 * i) 6) + (nI 1))) i) i) else (ub (ub S (6 + 5 * i) 3 ((S (6 + 5 * i) 3) + (nI 1))) (6 + 5 * i) 1 (if (nI 31) < (((nI 2) * ((ub S (6 + 5 * i) 3 ((S (6 + 5 * i) 3) + (nI 1))) (6 + 5 * i) 1)) + (nI 1)) then (nI 31) else (((nI 2) * ((ub S (6 + 5 * i) 3 ((S (6 + 5 * i) 3) + (nI 1))) (6 + 5 * i) 1)) + (nI 1))))) := rfl
set_option maxHeartbeats 1000000 in
set_option maxRecDepth 100000 in
theorem c_X2_countFailure (l : Launch) (D : va_G) (cI cS : ClassId) (G : Nat → Nat) (S : Mem) (sz : Nat) (i : Nat) (hi : i < 6) : Met l yX2_countFailure wsX2_countFailure ({ frames := 3, cells := 0, slots := 0, locals := 60 } : Room) (wPc 36 (cF cI cS G) D (tY cI cS) G S sz [.ref (G (6 + 5 * i))]) (mQv (f_X2_countFailure S i) 36 (cF cI cS G) D G sz) 0 0 (fA 36 G sz) := by
  refine x_met (cc := cX2_countFailure) (maxL := 1) (ret := none) (by decide) rfl (Nat.le_of_ble_eq_true rfl) ?_
  intro p e s m below meth c ls hx hb hr hml hts hown hlocks hsz hP hK hD hN hl hnm
  subst hsz
  have hown : s.vm.findClass RX2 = some m.cls := hown
  have hl : lv_has ls 1 [(0, .ref (G (6 + 5 * i)))] := hl
  have hq := f_X2_countFailure_d S i
  have hA : ∀ q : Nat, s.heap.size ≤ q → (fA 36 G s.heap.size) q := fun q h => Or.inr h
  have hS : va_S (fA 36 G s.heap.size) s.heap s.heap [] := va_S.rf
  refine lv_aload_n hx hb dX2_countFailure_0 rfl (lv_at hl 0 rfl) ?_
  refine lv_dup hx hb dX2_countFailure_1 rfl ?_
  refine x_get hx hb hts mm_X2_countFailure_X2 hown hK hP (6 + 5 * i) (by omega) (cF_st _ _) rfl 5 (by decide) (hts _ lk_X2_countFailure_35) rfl rfl dX2_countFailure_2 ?_
  refine lv_iconst (v := nI 1) hx hb dX2_countFailure_5 (by decide) ?_
  refine lv_iadd hx hb dX2_countFailure_6 ?_
  refine x_put hx hb hts mm_X2_countFailure_X2 tyX2 tyX2_ok nmX2 hown hK hP hD hS (6 + 5 * i) (by omega) (cF_st _ _) rfl 5 (by decide) (hts _ lk_X2_countFailure_35) rfl rfl rfl rfl rfl (Nat.le_of_ble_eq_true rfl) 3 (cF_st _ _) dX2_countFailure_7 (fun H locs hP hS => ?_)
  refine lv_aload_n hx hb dX2_countFailure_10 rfl (lv_at hl 0 rfl) ?_
  refine x_get hx hb hts mm_X2_countFailure_X2 hown hK hP (6 + 5 * i) (by omega) (cF_st _ _) rfl 5 (by decide) (hts _ lk_X2_countFailure_35) rfl rfl dX2_countFailure_11 ?_
  refine lv_iconst (v := nI 5) hx hb dX2_countFailure_14 (by decide) ?_
  refine lv_icmp_ge (tgt := 36) hx hb dX2_countFailure_15 (by decide) (fun c_1 => ?_) (fun c_1 => ?_)
  · have hq := hq.trans (if_pos c_1)
    refine lv_aload_n hx hb dX2_countFailure_36 rfl (lv_at hl 0 rfl) ?_
    refine lv_dup hx hb dX2_countFailure_37 rfl ?_
    refine x_get hx hb hts mm_X2_countFailure_X2 hown hK hP (6 + 5 * i) (by omega) (cF_st _ _) rfl 8 (by decide) (hts _ lk_X2_countFailure_44) rfl rfl dX2_countFailure_38 ?_
    refine lv_iconst (v := nI 1) hx hb dX2_countFailure_41 (by decide) ?_
    refine lv_iadd hx hb dX2_countFailure_42 ?_
    refine x_put hx hb hts mm_X2_countFailure_X2 tyX2 tyX2_ok nmX2 hown hK hP hD hS (6 + 5 * i) (by omega) (cF_st _ _) rfl 8 (by decide) (hts _ lk_X2_countFailure_44) rfl rfl rfl rfl rfl (Nat.le_of_ble_eq_true rfl) 6 (cF_st _ _) dX2_countFailure_43 (fun H locs hP hS => ?_)
    refine lv_aload_n hx hb dX2_countFailure_46 rfl (lv_at hl 0 rfl) ?_
    refine x_get hx hb hts mm_X2_countFailure_X2 hown hK hP (6 + 5 * i) (by omega) (cF_st _ _) rfl 0 (by decide) (hts _ lk_X2_countFailure_12) rfl rfl dX2_countFailure_47 ?_
    refine x_mv (va_runV (As := []) (rest := []) ⟨hx, hb, hml, hown, hts⟩ (c_X0_removeFirst l D cI cS G (ub (ub S (6 + 5 * i) 3 ((S (6 + 5 * i) 3) + (nI 1))) (6 + 5 * i) 6 (((ub S (6 + 5 * i) 3 ((S (6 + 5 * i) 3) + (nI 1))) (6 + 5 * i) 6) + (nI 1))) H.size i (by omega)) (cwV 0 hts gX2_countFailure_X0_removeFirst rfl rfl rfl (by decide +kernel) ⟨Nat.le_of_ble_eq_true rfl, Nat.le_of_ble_eq_true rfl⟩) ⟨wPc_blind, va_recv hK hP (ci := 0) (q0 := 7 + 5 * i) rfl (WL_at (by omega) (cF_row _ _)), wPc_at hP hK hD hN⟩ rfl rfl hl.1 rfl (lv_room (Nat.le_of_ble_eq_true rfl)) dX2_countFailure_50 ⟨Nat.le_refl _, Nat.le_refl _⟩) hS (fA_sub (hD S) (fun q h => hA q (Nat.le_trans hS.1 h))) (fun H locs hz hk hP hS => ?_)
    refine lv_aload_n hx hb dX2_countFailure_53 rfl (lv_at hl 0 rfl) ?_
    refine x_mv (va_runV (As := []) (rest := []) ⟨hx, hb, hml, hown, hts⟩ (c_X2_startAfresh l D cI cS G (f_X0_removeFirst (ub (ub S (6 + 5 * i) 3 ((S (6 + 5 * i) 3) + (nI 1))) (6 + 5 * i) 6 (((ub S (6 + 5 * i) 3 ((S (6 + 5 * i) 3) + (nI 1))) (6 + 5 * i) 6) + (nI 1))) i) H.size i (by omega)) (cwV 0 hts gX2_countFailure_X2_startAfresh rfl rfl rfl (by decide +kernel) ⟨Nat.le_of_ble_eq_true rfl, Nat.le_of_ble_eq_true rfl⟩) ⟨wPc_blind, va_recv hK hP (ci := 2) (q0 := 6 + 5 * i) rfl (WL_at (by omega) (cF_st _ _)), wPc_at hP hK hD hN⟩ rfl rfl hl.1 rfl (lv_room (Nat.le_of_ble_eq_true rfl)) dX2_countFailure_54 ⟨Nat.le_refl _, Nat.le_refl _⟩) hS (fA_sub (hD S) (fun q h => hA q (Nat.le_trans hS.1 h))) (fun H locs hz hk hP hS => ?_)
    exact x_ret_v hx hb hr hlocks hP hS dX2_countFailure_57 hq
  · have hq := hq.trans (if_neg c_1)
    refine lv_aload_n hx hb dX2_countFailure_18 rfl (lv_at hl 0 rfl) ?_
    refine lv_iconst (v := nI 2) hx hb dX2_countFailure_19 (by decide) ?_
    refine lv_aload_n hx hb dX2_countFailure_20 rfl (lv_at hl 0 rfl) ?_
    refine x_get hx hb hts mm_X2_countFailure_X2 hown hK hP (6 + 5 * i) (by omega) (cF_st _ _) rfl 3 (by decide) (hts _ lk_X2_countFailure_29) rfl rfl dX2_countFailure_21 ?_
    refine lv_imul hx hb dX2_countFailure_24 ?_
    refine lv_iconst (v := nI 1) hx hb dX2_countFailure_25 (by decide) ?_
    refine lv_iadd hx hb dX2_countFailure_26 ?_
    refine lv_bipush (v := nI 31) hx hb dX2_countFailure_27 (by decide) ?_
    refine va_mmin hx hb (hml.trans hl.1.symm) hown (hts _ lm1_X2_countFailure_min) (hts _ lm2_X2_countFailure_min) (hts _ lm3_X2_countFailure_min) (hts _ lm4_X2_countFailure_min) (Nat.le_of_ble_eq_true rfl) (Nat.le_of_ble_eq_true rfl) (Nat.zero_le _) (Nat.zero_le _) dX2_countFailure_29 ?_
    refine x_put hx hb hts mm_X2_countFailure_X2 tyX2 tyX2_ok nmX2 hown hK hP hD hS (6 + 5 * i) (by omega) (cF_st _ _) rfl 3 (by decide) (hts _ lk_X2_countFailure_29) rfl rfl rfl rfl rfl (Nat.le_of_ble_eq_true rfl) 1 (cF_st _ _) dX2_countFailure_32 (fun H locs hP hS => ?_)
    exact x_ret_v hx hb hr hlocks hP hS dX2_countFailure_35 hq

theorem mm_X2_countSuccess_X2 : ∀ w ∈ wsX20, w ∈ wsX2_countSuccess := by decide +kernel
theorem lk_X2_countSuccess_12 : Cond.fieldLink RX2 12 "BackofficeAir$Station" "row" "LBackofficeAir$Row;" ∈ wsX2_countSuccess := by decide +kernel
theorem lk_X2_countSuccess_41 : Cond.fieldLink RX2 41 "BackofficeAir$Station" "delivered" "I" ∈ wsX2_countSuccess := by decide +kernel
def f_X2_countSuccess (S : Mem) (i : Nat) (x : Int32) : Mem := if f_X0_partsOfFirst (f_X2_startAfresh (f_X0_takeFromFirst (ub S (6 + 5 * i) 5 ((S (6 + 5 * i) 5) + (f_J6_bitCount_0f7a4 x))) i x) i) i = 0 then (f_X0_removeFirst (f_X2_startAfresh (f_X0_takeFromFirst (ub S (6 + 5 * i) 5 ((S (6 + 5 * i) 5) + (f_J6_bitCount_0f7a4 x))) i x) i) i) else (f_X2_startAfresh (f_X0_takeFromFirst (ub S (6 + 5 * i) 5 ((S (6 + 5 * i) 5) + (f_J6_bitCount_0f7a4 x))) i x) i)
theorem f_X2_countSuccess_d (S : Mem) (i : Nat) (x : Int32) : f_X2_countSuccess S i x = (if f_X0_partsOfFirst (f_X2_startAfresh (f_X0_takeFromFirst (ub S (6 + 5 * i) 5 ((S (6 + 5 * i) 5) + (f_J6_bitCount_0f7a4 x))) i x) i) i = 0 then (f_X0_removeFirst (f_X2_startAfresh (f_X0_takeFromFirst (ub S (6 + 5 * i) 5 ((S (6 + 5 * i) 5) + (f_J6_bitCount_0f7a4 x))) i x) i) i) else (f_X2_startAfresh (f_X0_takeFromFirst (ub S (6 + 5 * i) 5 ((S (6 + 5 * i) 5) + (f_J6_bitCount_0f7a4 x))) i x) i)) := rfl
set_option maxHeartbeats 1000000 in
set_option maxRecDepth 100000 in
theorem c_X2_countSuccess (l : Launch) (D : va_G) (cI cS : ClassId) (G : Nat → Nat) (S : Mem) (sz : Nat) (i : Nat) (x : Int32) (hi : i < 6) : Met l yX2_countSuccess wsX2_countSuccess ({ frames := 3, cells := 0, slots := 0, locals := 60 } : Room) (wPc 36 (cF cI cS G) D (tY cI cS) G S sz [.ref (G (6 + 5 * i)), .int x]) (mQv (f_X2_countSuccess S i x) 36 (cF cI cS G) D G sz) 0 0 (fA 36 G sz) := by
  refine x_met (cc := cX2_countSuccess) (maxL := 2) (ret := none) (by decide) rfl (Nat.le_of_ble_eq_true rfl) ?_
  intro p e s m below meth c ls hx hb hr hml hts hown hlocks hsz hP hK hD hN hl hnm
  subst hsz
  have hown : s.vm.findClass RX2 = some m.cls := hown
  have hl : lv_has ls 2 [(0, .ref (G (6 + 5 * i))), (1, .int x)] := hl
  have hq := f_X2_countSuccess_d S i x
  have hA : ∀ q : Nat, s.heap.size ≤ q → (fA 36 G s.heap.size) q := fun q h => Or.inr h
  have hS : va_S (fA 36 G s.heap.size) s.heap s.heap [] := va_S.rf
  refine lv_aload_n hx hb dX2_countSuccess_0 rfl (lv_at hl 0 rfl) ?_
  refine lv_dup hx hb dX2_countSuccess_1 rfl ?_
  refine x_get hx hb hts mm_X2_countSuccess_X2 hown hK hP (6 + 5 * i) (by omega) (cF_st _ _) rfl 7 (by decide) (hts _ lk_X2_countSuccess_41) rfl rfl dX2_countSuccess_2 ?_
  refine lv_iload_n hx hb dX2_countSuccess_5 rfl (lv_at hl 1 rfl) ?_
  refine x_pi (va_runS (As := [.int x]) (rest := [.int (S (6 + 5 * i) 5), .ref (G (6 + 5 * i))]) ⟨hx, hb, hml, hown, hts⟩ (c_J6_bitCount_0f7a4 l s.heap.size x) (va_cwS 1 hts gX2_countSuccess_J6_bitCount_0f7a4 rfl rfl rfl (by decide +kernel) ⟨Nat.le_of_ble_eq_true rfl, Nat.le_of_ble_eq_true rfl⟩) ⟨sPc_blind, sPc_at hN⟩ rfl rfl hl.1 rfl (lv_room (Nat.le_of_ble_eq_true rfl)) dX2_countSuccess_6 ⟨Nat.le_refl _, Nat.le_refl _⟩) hS hA (fun q h => h) (fun H locs hz hk hS => ?_)
  have hP := P_kept hP hk
  refine lv_iadd hx hb dX2_countSuccess_9 ?_
  refine x_put hx hb hts mm_X2_countSuccess_X2 tyX2 tyX2_ok nmX2 hown hK hP hD hS (6 + 5 * i) (by omega) (cF_st _ _) rfl 7 (by decide) (hts _ lk_X2_countSuccess_41) rfl rfl rfl rfl rfl (Nat.le_of_ble_eq_true rfl) 5 (cF_st _ _) dX2_countSuccess_10 (fun H locs hP hS => ?_)
  refine lv_aload_n hx hb dX2_countSuccess_13 rfl (lv_at hl 0 rfl) ?_
  refine x_get hx hb hts mm_X2_countSuccess_X2 hown hK hP (6 + 5 * i) (by omega) (cF_st _ _) rfl 0 (by decide) (hts _ lk_X2_countSuccess_12) rfl rfl dX2_countSuccess_14 ?_
  refine lv_iload_n hx hb dX2_countSuccess_17 rfl (lv_at hl 1 rfl) ?_
  refine x_mv (va_runV (As := [.int x]) (rest := []) ⟨hx, hb, hml, hown, hts⟩ (c_X0_takeFromFirst l D cI cS G (ub S (6 + 5 * i) 5 ((S (6 + 5 * i) 5) + (f_J6_bitCount_0f7a4 x))) H.size i x (by omega)) (cwV 1 hts gX2_countSuccess_X0_takeFromFirst rfl rfl rfl (by decide +kernel) ⟨Nat.le_of_ble_eq_true rfl, Nat.le_of_ble_eq_true rfl⟩) ⟨wPc_blind, va_recv hK hP (ci := 0) (q0 := 7 + 5 * i) rfl (WL_at (by omega) (cF_row _ _)), wPc_at hP hK hD hN⟩ rfl rfl hl.1 rfl (lv_room (Nat.le_of_ble_eq_true rfl)) dX2_countSuccess_18 ⟨Nat.le_refl _, Nat.le_refl _⟩) hS (fA_sub (hD S) (fun q h => hA q (Nat.le_trans hS.1 h))) (fun H locs hz hk hP hS => ?_)
  refine lv_aload_n hx hb dX2_countSuccess_21 rfl (lv_at hl 0 rfl) ?_
  refine x_mv (va_runV (As := []) (rest := []) ⟨hx, hb, hml, hown, hts⟩ (c_X2_startAfresh l D cI cS G (f_X0_takeFromFirst (ub S (6 + 5 * i) 5 ((S (6 + 5 * i) 5) + (f_J6_bitCount_0f7a4 x))) i x) H.size i (by omega)) (cwV 0 hts gX2_countSuccess_X2_startAfresh rfl rfl rfl (by decide +kernel) ⟨Nat.le_of_ble_eq_true rfl, Nat.le_of_ble_eq_true rfl⟩) ⟨wPc_blind, va_recv hK hP (ci := 2) (q0 := 6 + 5 * i) rfl (WL_at (by omega) (cF_st _ _)), wPc_at hP hK hD hN⟩ rfl rfl hl.1 rfl (lv_room (Nat.le_of_ble_eq_true rfl)) dX2_countSuccess_22 ⟨Nat.le_refl _, Nat.le_refl _⟩) hS (fA_sub (hD S) (fun q h => hA q (Nat.le_trans hS.1 h))) (fun H locs hz hk hP hS => ?_)
  refine lv_aload_n hx hb dX2_countSuccess_25 rfl (lv_at hl 0 rfl) ?_
  refine x_get hx hb hts mm_X2_countSuccess_X2 hown hK hP (6 + 5 * i) (by omega) (cF_st _ _) rfl 0 (by decide) (hts _ lk_X2_countSuccess_12) rfl rfl dX2_countSuccess_26 ?_
  refine x_pi (va_runV (As := []) (rest := []) ⟨hx, hb, hml, hown, hts⟩ (c_X0_partsOfFirst l D cI cS G (f_X2_startAfresh (f_X0_takeFromFirst (ub S (6 + 5 * i) 5 ((S (6 + 5 * i) 5) + (f_J6_bitCount_0f7a4 x))) i x) i) H.size i (by omega)) (cwV 0 hts gX2_countSuccess_X0_partsOfFirst rfl rfl rfl (by decide +kernel) ⟨Nat.le_of_ble_eq_true rfl, Nat.le_of_ble_eq_true rfl⟩) ⟨wPc_blind, va_recv hK hP (ci := 0) (q0 := 7 + 5 * i) rfl (WL_at (by omega) (cF_row _ _)), wPc_at hP hK hD hN⟩ rfl rfl hl.1 rfl (lv_room (Nat.le_of_ble_eq_true rfl)) dX2_countSuccess_29 ⟨Nat.le_refl _, Nat.le_refl _⟩) hS hA (fun q h => h) (fun H locs hz hk hS => ?_)
  have hP := P_kept hP hk
  refine lv_if_ne (tgt := 42) hx hb dX2_countSuccess_32 (by decide) (fun c_1 => ?_) (fun c_1 => ?_)
  · have hq := hq.trans (if_neg c_1)
    exact x_ret_v hx hb hr hlocks hP hS dX2_countSuccess_42 hq
  · have hq := hq.trans (if_pos c_1)
    refine lv_aload_n hx hb dX2_countSuccess_35 rfl (lv_at hl 0 rfl) ?_
    refine x_get hx hb hts mm_X2_countSuccess_X2 hown hK hP (6 + 5 * i) (by omega) (cF_st _ _) rfl 0 (by decide) (hts _ lk_X2_countSuccess_12) rfl rfl dX2_countSuccess_36 ?_
    refine x_mv (va_runV (As := []) (rest := []) ⟨hx, hb, hml, hown, hts⟩ (c_X0_removeFirst l D cI cS G (f_X2_startAfresh (f_X0_takeFromFirst (ub S (6 + 5 * i) 5 ((S (6 + 5 * i) 5) + (f_J6_bitCount_0f7a4 x))) i x) i) H.size i (by omega)) (cwV 0 hts gX2_countSuccess_X0_removeFirst rfl rfl rfl (by decide +kernel) ⟨Nat.le_of_ble_eq_true rfl, Nat.le_of_ble_eq_true rfl⟩) ⟨wPc_blind, va_recv hK hP (ci := 0) (q0 := 7 + 5 * i) rfl (WL_at (by omega) (cF_row _ _)), wPc_at hP hK hD hN⟩ rfl rfl hl.1 rfl (lv_room (Nat.le_of_ble_eq_true rfl)) dX2_countSuccess_39 ⟨Nat.le_refl _, Nat.le_refl _⟩) hS (fA_sub (hD S) (fun q h => hA q (Nat.le_trans hS.1 h))) (fun H locs hz hk hP hS => ?_)
    exact x_ret_v hx hb hr hlocks hP hS dX2_countSuccess_42 hq

theorem mm_X2_begin_X2 : ∀ w ∈ wsX20, w ∈ wsX2_begin := by decide +kernel
theorem lk_X2_begin_12 : Cond.fieldLink RX2 12 "BackofficeAir$Station" "row" "LBackofficeAir$Row;" ∈ wsX2_begin := by decide +kernel
theorem lk_X2_begin_21 : Cond.fieldLink RX2 21 "BackofficeAir$Station" "sending" "LBackofficeAir$Sending;" ∈ wsX2_begin := by decide +kernel
theorem lk_X2_begin_32 : Cond.fieldLink RX2 32 "BackofficeAir$Station" "wait" "I" ∈ wsX2_begin := by decide +kernel
def f_X2_begin (S : Mem) (i : Nat) (t : Int32) (v : Int32) : Mem := if f_J6_bitCount_0f7a4 (f_X0_partsOfFirst S i) < v then (f_X1_begin (ub S (6 + 5 * i) 2 ((-1))) i t (f_X0_partsOfFirst S i) (nI 0)) else (f_X1_begin (ub S (6 + 5 * i) 2 ((-1))) i t (f_X0_partsOfFirst S i) (nI 1))
theorem f_X2_begin_d (S : Mem) (i : Nat) (t : Int32) (v : Int32) : f_X2_begin S i t v = (if f_J6_bitCount_0f7a4 (f_X0_partsOfFirst S i) < v then (f_X1_begin (ub S (6 + 5 * i) 2 ((-1))) i t (f_X0_partsOfFirst S i) (nI 0)) else (f_X1_begin (ub S (6 + 5 * i) 2 ((-1))) i t (f_X0_partsOfFirst S i) (nI 1))) := rfl
set_option maxHeartbeats 1000000 in
set_option maxRecDepth 100000 in
theorem c_X2_begin (l : Launch) (D : va_G) (cI cS : ClassId) (G : Nat → Nat) (S : Mem) (sz : Nat) (i : Nat) (t : Int32) (v : Int32) (hi : i < 6) : Met l yX2_begin wsX2_begin ({ frames := 3, cells := 0, slots := 0, locals := 63 } : Room) (wPc 36 (cF cI cS G) D (tY cI cS) G S sz [.ref (G (6 + 5 * i)), .int t, .int v]) (mQv (f_X2_begin S i t v) 36 (cF cI cS G) D G sz) 0 0 (fA 36 G sz) := by
  refine x_met (cc := cX2_begin) (maxL := 4) (ret := none) (by decide) rfl (Nat.le_of_ble_eq_true rfl) ?_
  intro p e s m below meth c ls hx hb hr hml hts hown hlocks hsz hP hK hD hN hl hnm
  subst hsz
  have hown : s.vm.findClass RX2 = some m.cls := hown
  have hl : lv_has ls 4 [(0, .ref (G (6 + 5 * i))), (1, .int t), (2, .int v)] := hl
  have hq := f_X2_begin_d S i t v
  have hA : ∀ q : Nat, s.heap.size ≤ q → (fA 36 G s.heap.size) q := fun q h => Or.inr h
  have hS : va_S (fA 36 G s.heap.size) s.heap s.heap [] := va_S.rf
  refine lv_aload_n hx hb dX2_begin_0 rfl (lv_at hl 0 rfl) ?_
  refine x_get hx hb hts mm_X2_begin_X2 hown hK hP (6 + 5 * i) (by omega) (cF_st _ _) rfl 0 (by decide) (hts _ lk_X2_begin_12) rfl rfl dX2_begin_1 ?_
  refine x_pi (va_runV (As := []) (rest := []) ⟨hx, hb, hml, hown, hts⟩ (c_X0_partsOfFirst l D cI cS G S s.heap.size i (by omega)) (cwV 0 hts gX2_begin_X0_partsOfFirst rfl rfl rfl (by decide +kernel) ⟨Nat.le_of_ble_eq_true rfl, Nat.le_of_ble_eq_true rfl⟩) ⟨wPc_blind, va_recv hK hP (ci := 0) (q0 := 7 + 5 * i) rfl (WL_at (by omega) (cF_row _ _)), wPc_at hP hK hD hN⟩ rfl rfl hl.1 rfl (lv_room (Nat.le_of_ble_eq_true rfl)) dX2_begin_4 ⟨Nat.le_refl _, Nat.le_refl _⟩) hS hA (fun q h => h) (fun H locs hz hk hS => ?_)
  have hP := P_kept hP hk
  refine lv_istore_n (lv' := [(3, .int (f_X0_partsOfFirst S i)), (0, .ref (G (6 + 5 * i))), (1, .int t), (2, .int v)]) hx hb dX2_begin_7 rfl hl (by decide) rfl (fun ls hl => ?_)
  refine lv_aload_n hx hb dX2_begin_8 rfl (lv_at hl 1 rfl) ?_
  refine lv_iconst (v := (-1)) hx hb dX2_begin_9 (by decide) ?_
  refine x_put hx hb hts mm_X2_begin_X2 tyX2 tyX2_ok nmX2 hown hK hP hD hS (6 + 5 * i) (by omega) (cF_st _ _) rfl 4 (by decide) (hts _ lk_X2_begin_32) rfl rfl rfl rfl rfl (Nat.le_of_ble_eq_true rfl) 2 (cF_st _ _) dX2_begin_10 (fun H locs hP hS => ?_)
  refine lv_aload_n hx hb dX2_begin_13 rfl (lv_at hl 1 rfl) ?_
  refine x_get hx hb hts mm_X2_begin_X2 hown hK hP (6 + 5 * i) (by omega) (cF_st _ _) rfl 1 (by decide) (hts _ lk_X2_begin_21) rfl rfl dX2_begin_14 ?_
  refine lv_iload_n hx hb dX2_begin_17 rfl (lv_at hl 2 rfl) ?_
  refine lv_iload_n hx hb dX2_begin_18 rfl (lv_at hl 0 rfl) ?_
  refine lv_iload_n hx hb dX2_begin_19 rfl (lv_at hl 0 rfl) ?_
  refine x_pi (va_runS (As := [.int (f_X0_partsOfFirst S i)]) (rest := [.int (f_X0_partsOfFirst S i), .int t, .ref (G (8 + 5 * i))]) ⟨hx, hb, hml, hown, hts⟩ (c_J6_bitCount_0f7a4 l H.size (f_X0_partsOfFirst S i)) (va_cwS 1 hts gX2_begin_J6_bitCount_0f7a4 rfl rfl rfl (by decide +kernel) ⟨Nat.le_of_ble_eq_true rfl, Nat.le_of_ble_eq_true rfl⟩) ⟨sPc_blind, sPc_at hN⟩ rfl rfl hl.1 rfl (lv_room (Nat.le_of_ble_eq_true rfl)) dX2_begin_20 ⟨Nat.le_refl _, Nat.le_refl _⟩) hS hA (fun q h => h) (fun H locs hz hk hS => ?_)
  have hP := P_kept hP hk
  refine lv_iload_n hx hb dX2_begin_23 rfl (lv_at hl 3 rfl) ?_
  refine lv_icmp_lt (tgt := 31) hx hb dX2_begin_24 (by decide) (fun c_1 => ?_) (fun c_1 => ?_)
  · have hq := hq.trans (if_pos c_1)
    refine lv_iconst (v := nI 0) hx hb dX2_begin_31 (by decide) ?_
    refine x_mv (va_runV (As := [.int t, .int (f_X0_partsOfFirst S i), .int (nI 0)]) (rest := []) ⟨hx, hb, hml, hown, hts⟩ (c_X1_begin l D cI cS G (ub S (6 + 5 * i) 2 ((-1))) H.size i t (f_X0_partsOfFirst S i) (nI 0) (by omega) rfl rfl) (cwV 3 hts gX2_begin_X1_begin rfl rfl rfl (by decide +kernel) ⟨Nat.le_of_ble_eq_true rfl, Nat.le_of_ble_eq_true rfl⟩) ⟨wPc_blind, va_recv hK hP (ci := 1) (q0 := 8 + 5 * i) rfl (WL_at (by omega) (cF_sd _ _)), wPc_at hP hK hD hN⟩ rfl rfl hl.1 rfl (lv_room (Nat.le_of_ble_eq_true rfl)) dX2_begin_32 ⟨Nat.le_refl _, Nat.le_refl _⟩) hS (fA_sub (hD S) (fun q h => hA q (Nat.le_trans hS.1 h))) (fun H locs hz hk hP hS => ?_)
    exact x_ret_v hx hb hr hlocks hP hS dX2_begin_35 hq
  · have hq := hq.trans (if_neg c_1)
    refine lv_iconst (v := nI 1) hx hb dX2_begin_27 (by decide) ?_
    refine lv_goto (tgt := 32) hx hb dX2_begin_28 (by decide) ?_
    refine x_mv (va_runV (As := [.int t, .int (f_X0_partsOfFirst S i), .int (nI 1)]) (rest := []) ⟨hx, hb, hml, hown, hts⟩ (c_X1_begin l D cI cS G (ub S (6 + 5 * i) 2 ((-1))) H.size i t (f_X0_partsOfFirst S i) (nI 1) (by omega) rfl rfl) (cwV 3 hts gX2_begin_X1_begin rfl rfl rfl (by decide +kernel) ⟨Nat.le_of_ble_eq_true rfl, Nat.le_of_ble_eq_true rfl⟩) ⟨wPc_blind, va_recv hK hP (ci := 1) (q0 := 8 + 5 * i) rfl (WL_at (by omega) (cF_sd _ _)), wPc_at hP hK hD hN⟩ rfl rfl hl.1 rfl (lv_room (Nat.le_of_ble_eq_true rfl)) dX2_begin_32 ⟨Nat.le_refl _, Nat.le_refl _⟩) hS (fA_sub (hD S) (fun q h => hA q (Nat.le_trans hS.1 h))) (fun H locs hz hk hP hS => ?_)
    exact x_ret_v hx hb hr hlocks hP hS dX2_begin_35 hq

theorem mm_X2_end_X1 : ∀ w ∈ wsX10, w ∈ wsX2_end := by decide +kernel
theorem mm_X2_end_X2 : ∀ w ∈ wsX20, w ∈ wsX2_end := by decide +kernel
theorem lk_X2_end_21 : Cond.fieldLink RX2 21 "BackofficeAir$Station" "sending" "LBackofficeAir$Sending;" ∈ wsX2_end := by decide +kernel
theorem lk_X2_end_50 : Cond.fieldLink RX2 50 "BackofficeAir$Station" "slotsOfEnded" "I" ∈ wsX2_end := by decide +kernel
theorem nk_X2_70 : Cond.fieldLinkNest RX2 70 "BackofficeAir$Sending" "on" "Z" "BackofficeAir" ∈ nestW := by decide +kernel
def f_X2_end (S : Mem) (i : Nat) (t : Int32) : Mem := if f_X1_arrivedParts (ub (ub S (8 + 5 * i) 0 (nI 0)) (6 + 5 * i) 8 (((ub S (8 + 5 * i) 0 (nI 0)) (6 + 5 * i) 8) + (f_X1_slotsUpTo (ub S (8 + 5 * i) 0 (nI 0)) i t))) i = 0 then (f_X2_countFailure (ub (ub S (8 + 5 * i) 0 (nI 0)) (6 + 5 * i) 8 (((ub S (8 + 5 * i) 0 (nI 0)) (6 + 5 * i) 8) + (f_X1_slotsUpTo (ub S (8 + 5 * i) 0 (nI 0)) i t))) i) else (f_X2_countSuccess (ub (ub S (8 + 5 * i) 0 (nI 0)) (6 + 5 * i) 8 (((ub S (8 + 5 * i) 0 (nI 0)) (6 + 5 * i) 8) + (f_X1_slotsUpTo (ub S (8 + 5 * i) 0 (nI 0)) i t))) i (f_X1_arrivedParts (ub (ub S (8 + 5 * i) 0 (nI 0)) (6 + 5 * i) 8 (((ub S (8 + 5 * i) 0 (nI 0)) (6 + 5 * i) 8) + (f_X1_slotsUpTo (ub S (8 + 5 * i) 0 (nI 0)) i t))) i))
theorem f_X2_end_d (S : Mem) (i : Nat) (t : Int32) : f_X2_end S i t = (if f_X1_arrivedParts (ub (ub S (8 + 5 * i) 0 (nI 0)) (6 + 5 * i) 8 (((ub S (8 + 5 * i) 0 (nI 0)) (6 + 5 * i) 8) + (f_X1_slotsUpTo (ub S (8 + 5 * i) 0 (nI 0)) i t))) i = 0 then (f_X2_countFailure (ub (ub S (8 + 5 * i) 0 (nI 0)) (6 + 5 * i) 8 (((ub S (8 + 5 * i) 0 (nI 0)) (6 + 5 * i) 8) + (f_X1_slotsUpTo (ub S (8 + 5 * i) 0 (nI 0)) i t))) i) else (f_X2_countSuccess (ub (ub S (8 + 5 * i) 0 (nI 0)) (6 + 5 * i) 8 (((ub S (8 + 5 * i) 0 (nI 0)) (6 + 5 * i) 8) + (f_X1_slotsUpTo (ub S (8 + 5 * i) 0 (nI 0)) i t))) i (f_X1_arrivedParts (ub (ub S (8 + 5 * i) 0 (nI 0)) (6 + 5 * i) 8 (((ub S (8 + 5 * i) 0 (nI 0)) (6 + 5 * i) 8) + (f_X1_slotsUpTo (ub S (8 + 5 * i) 0 (nI 0)) i t))) i))) := rfl
set_option maxHeartbeats 1000000 in
set_option maxRecDepth 100000 in
theorem c_X2_end (l : Launch) (D : va_G) (cI cS : ClassId) (G : Nat → Nat) (S : Mem) (sz : Nat) (i : Nat) (t : Int32) (hi : i < 6) : Met l yX2_end wsX2_end ({ frames := 4, cells := 0, slots := 0, locals := 81 } : Room) (wPc 36 (cF cI cS G) D (tY cI cS) G S sz [.ref (G (6 + 5 * i)), .int t]) (mQv (f_X2_end S i t) 36 (cF cI cS G) D G sz) 0 0 (fA 36 G sz) := by
  refine x_met (cc := cX2_end) (maxL := 3) (ret := none) (by decide) rfl (Nat.le_of_ble_eq_true rfl) ?_
  intro p e s m below meth c ls hx hb hr hml hts hown hlocks hsz hP hK hD hN hl hnm
  subst hsz
  have hown : s.vm.findClass RX2 = some m.cls := hown
  have hl : lv_has ls 3 [(0, .ref (G (6 + 5 * i))), (1, .int t)] := hl
  have hq := f_X2_end_d S i t
  have hA : ∀ q : Nat, s.heap.size ≤ q → (fA 36 G s.heap.size) q := fun q h => Or.inr h
  have hS : va_S (fA 36 G s.heap.size) s.heap s.heap [] := va_S.rf
  refine lv_aload_n hx hb dX2_end_0 rfl (lv_at hl 0 rfl) ?_
  refine x_get hx hb hts mm_X2_end_X2 hown hK hP (6 + 5 * i) (by omega) (cF_st _ _) rfl 1 (by decide) (hts _ lk_X2_end_21) rfl rfl dX2_end_1 ?_
  refine lv_iconst (v := nI 0) hx hb dX2_end_4 (by decide) ?_
  refine x_putN hx hb hts mm_X2_end_X1 tyX1 tyX1_ok nmX1 hown hK hP hD hS (8 + 5 * i) (by omega) (cF_sd _ _) rfl 0 (by decide) (hN.use nk_X2_70 rfl) rfl rfl rfl rfl rfl (Nat.le_of_ble_eq_true rfl) 0 (cF_sd _ _) dX2_end_5 (fun H locs hP hS => ?_)
  refine lv_aload_n hx hb dX2_end_8 rfl (lv_at hl 0 rfl) ?_
  refine lv_dup hx hb dX2_end_9 rfl ?_
  refine x_get hx hb hts mm_X2_end_X2 hown hK hP (6 + 5 * i) (by omega) (cF_st _ _) rfl 10 (by decide) (hts _ lk_X2_end_50) rfl rfl dX2_end_10 ?_
  refine lv_aload_n hx hb dX2_end_13 rfl (lv_at hl 0 rfl) ?_
  refine x_get hx hb hts mm_X2_end_X2 hown hK hP (6 + 5 * i) (by omega) (cF_st _ _) rfl 1 (by decide) (hts _ lk_X2_end_21) rfl rfl dX2_end_14 ?_
  refine lv_iload_n hx hb dX2_end_17 rfl (lv_at hl 1 rfl) ?_
  refine x_pi (va_runV (As := [.int t]) (rest := [.int ((ub S (8 + 5 * i) 0 (nI 0)) (6 + 5 * i) 8), .ref (G (6 + 5 * i))]) ⟨hx, hb, hml, hown, hts⟩ (c_X1_slotsUpTo l D cI cS G (ub S (8 + 5 * i) 0 (nI 0)) H.size i t (by omega)) (cwV 1 hts gX2_end_X1_slotsUpTo rfl rfl rfl (by decide +kernel) ⟨Nat.le_of_ble_eq_true rfl, Nat.le_of_ble_eq_true rfl⟩) ⟨wPc_blind, va_recv hK hP (ci := 1) (q0 := 8 + 5 * i) rfl (WL_at (by omega) (cF_sd _ _)), wPc_at hP hK hD hN⟩ rfl rfl hl.1 rfl (lv_room (Nat.le_of_ble_eq_true rfl)) dX2_end_18 ⟨Nat.le_refl _, Nat.le_refl _⟩) hS hA (fun q h => h) (fun H locs hz hk hS => ?_)
  have hP := P_kept hP hk
  refine lv_iadd hx hb dX2_end_21 ?_
  refine x_put hx hb hts mm_X2_end_X2 tyX2 tyX2_ok nmX2 hown hK hP hD hS (6 + 5 * i) (by omega) (cF_st _ _) rfl 10 (by decide) (hts _ lk_X2_end_50) rfl rfl rfl rfl rfl (Nat.le_of_ble_eq_true rfl) 8 (cF_st _ _) dX2_end_22 (fun H locs hP hS => ?_)
  refine lv_aload_n hx hb dX2_end_25 rfl (lv_at hl 0 rfl) ?_
  refine x_get hx hb hts mm_X2_end_X2 hown hK hP (6 + 5 * i) (by omega) (cF_st _ _) rfl 1 (by decide) (hts _ lk_X2_end_21) rfl rfl dX2_end_26 ?_
  refine x_pi (va_runV (As := []) (rest := []) ⟨hx, hb, hml, hown, hts⟩ (c_X1_arrivedParts l D cI cS G (ub (ub S (8 + 5 * i) 0 (nI 0)) (6 + 5 * i) 8 (((ub S (8 + 5 * i) 0 (nI 0)) (6 + 5 * i) 8) + (f_X1_slotsUpTo (ub S (8 + 5 * i) 0 (nI 0)) i t))) H.size i (by omega)) (cwV 0 hts gX2_end_X1_arrivedParts rfl rfl rfl (by decide +kernel) ⟨Nat.le_of_ble_eq_true rfl, Nat.le_of_ble_eq_true rfl⟩) ⟨wPc_blind, va_recv hK hP (ci := 1) (q0 := 8 + 5 * i) rfl (WL_at (by omega) (cF_sd _ _)), wPc_at hP hK hD hN⟩ rfl rfl hl.1 rfl (lv_room (Nat.le_of_ble_eq_true rfl)) dX2_end_29 ⟨Nat.le_refl _, Nat.le_refl _⟩) hS hA (fun q h => h) (fun H locs hz hk hS => ?_)
  have hP := P_kept hP hk
  refine lv_istore_n (lv' := [(2, .int (f_X1_arrivedParts (ub (ub S (8 + 5 * i) 0 (nI 0)) (6 + 5 * i) 8 (((ub S (8 + 5 * i) 0 (nI 0)) (6 + 5 * i) 8) + (f_X1_slotsUpTo (ub S (8 + 5 * i) 0 (nI 0)) i t))) i)), (0, .ref (G (6 + 5 * i))), (1, .int t)]) hx hb dX2_end_32 rfl hl (by decide) rfl (fun ls hl => ?_)
  refine lv_iload_n hx hb dX2_end_33 rfl (lv_at hl 0 rfl) ?_
  refine lv_if_ne (tgt := 44) hx hb dX2_end_34 (by decide) (fun c_1 => ?_) (fun c_1 => ?_)
  · have hq := hq.trans (if_neg c_1)
    refine lv_aload_n hx hb dX2_end_44 rfl (lv_at hl 1 rfl) ?_
    refine lv_iload_n hx hb dX2_end_45 rfl (lv_at hl 0 rfl) ?_
    refine x_mv (va_runV (As := [.int (f_X1_arrivedParts (ub (ub S (8 + 5 * i) 0 (nI 0)) (6 + 5 * i) 8 (((ub S (8 + 5 * i) 0 (nI 0)) (6 + 5 * i) 8) + (f_X1_slotsUpTo (ub S (8 + 5 * i) 0 (nI 0)) i t))) i)]) (rest := []) ⟨hx, hb, hml, hown, hts⟩ (c_X2_countSuccess l D cI cS G (ub (ub S (8 + 5 * i) 0 (nI 0)) (6 + 5 * i) 8 (((ub S (8 + 5 * i) 0 (nI 0)) (6 + 5 * i) 8) + (f_X1_slotsUpTo (ub S (8 + 5 * i) 0 (nI 0)) i t))) H.size i (f_X1_arrivedParts (ub (ub S (8 + 5 * i) 0 (nI 0)) (6 + 5 * i) 8 (((ub S (8 + 5 * i) 0 (nI 0)) (6 + 5 * i) 8) + (f_X1_slotsUpTo (ub S (8 + 5 * i) 0 (nI 0)) i t))) i) (by omega)) (cwV 1 hts gX2_end_X2_countSuccess rfl rfl rfl (by decide +kernel) ⟨Nat.le_of_ble_eq_true rfl, Nat.le_of_ble_eq_true rfl⟩) ⟨wPc_blind, va_recv hK hP (ci := 2) (q0 := 6 + 5 * i) rfl (WL_at (by omega) (cF_st _ _)), wPc_at hP hK hD hN⟩ rfl rfl hl.1 rfl (lv_room (Nat.le_of_ble_eq_true rfl)) dX2_end_46 ⟨Nat.le_refl _, Nat.le_refl _⟩) hS (fA_sub (hD S) (fun q h => hA q (Nat.le_trans hS.1 h))) (fun H locs hz hk hP hS => ?_)
    exact x_ret_v hx hb hr hlocks hP hS dX2_end_49 hq
  · have hq := hq.trans (if_pos c_1)
    refine lv_aload_n hx hb dX2_end_37 rfl (lv_at hl 1 rfl) ?_
    refine x_mv (va_runV (As := []) (rest := []) ⟨hx, hb, hml, hown, hts⟩ (c_X2_countFailure l D cI cS G (ub (ub S (8 + 5 * i) 0 (nI 0)) (6 + 5 * i) 8 (((ub S (8 + 5 * i) 0 (nI 0)) (6 + 5 * i) 8) + (f_X1_slotsUpTo (ub S (8 + 5 * i) 0 (nI 0)) i t))) H.size i (by omega)) (cwV 0 hts gX2_end_X2_countFailure rfl rfl rfl (by decide +kernel) ⟨Nat.le_of_ble_eq_true rfl, Nat.le_of_ble_eq_true rfl⟩) ⟨wPc_blind, va_recv hK hP (ci := 2) (q0 := 6 + 5 * i) rfl (WL_at (by omega) (cF_st _ _)), wPc_at hP hK hD hN⟩ rfl rfl hl.1 rfl (lv_room (Nat.le_of_ble_eq_true rfl)) dX2_end_38 ⟨Nat.le_refl _, Nat.le_refl _⟩) hS (fA_sub (hD S) (fun q h => hA q (Nat.le_trans hS.1 h))) (fun H locs hz hk hP hS => ?_)
    refine lv_goto (tgt := 49) hx hb dX2_end_41 (by decide) ?_
    exact x_ret_v hx hb hr hlocks hP hS dX2_end_49 hq

theorem mm_X5_stationAt_X5 : ∀ w ∈ wsX50, w ∈ wsX5_stationAt := by decide +kernel
theorem lk_X5_stationAt_11 : Cond.fieldLink RX5 11 "BackofficeAir" "stations" "[LBackofficeAir$Station;" ∈ wsX5_stationAt := by decide +kernel
set_option maxHeartbeats 1000000 in
set_option maxRecDepth 100000 in
theorem c_X5_stationAt (l : Launch) (D : va_G) (cI cS : ClassId) (G : Nat → Nat) (S : Mem) (sz : Nat) (s1 : Nat) (h1 : s1 < 6) : Met l yX5_stationAt wsX5_stationAt ({ frames := 1, cells := 0, slots := 0, locals := 20 } : Room) (wPc 36 (cF cI cS G) D (tY cI cS) G S sz [.ref (G 0), .int (nI s1)]) (pQr (G (6 + 5 * s1)) sz) 0 0 (fun q => sz ≤ q) := by
  refine x_met (cc := cX5_stationAt) (maxL := 3) (ret := (some (.object "BackofficeAir$Station"))) (by decide) rfl (Nat.le_of_ble_eq_true rfl) ?_
  intro p e s m below meth c ls hx hb hr hml hts hown hlocks hsz hP hK hD hN hl hnm
  subst hsz
  have hown : s.vm.findClass RX5 = some m.cls := hown
  have hl : lv_has ls 3 [(0, .ref (G 0)), (1, .int (nI s1))] := hl
  have hA : ∀ q : Nat, s.heap.size ≤ q → (fun q => s.heap.size ≤ q) q := fun q h => h
  have hS : va_S (fun q => s.heap.size ≤ q) s.heap s.heap [] := va_S.rf
  refine lv_iload_n hx hb dX5_stationAt_0 rfl (lv_at hl 1 rfl) ?_
  refine lv_if_lt (tgt := 22) hx hb dX5_stationAt_1 (by decide) (fun c_1 => absurd c_1 (nI_pos (by omega))) (fun _ => ?_)
  refine lv_iload_n hx hb dX5_stationAt_4 rfl (lv_at hl 1 rfl) ?_
  refine lv_aload_n hx hb dX5_stationAt_5 rfl (lv_at hl 0 rfl) ?_
  refine x_get hx hb hts mm_X5_stationAt_X5 hown hK hP (0) (by decide) (cF_air _) rfl 0 (by decide) (hts _ lk_X5_stationAt_11) rfl rfl dX5_stationAt_6 ?_
  refine x_alen hx hb hK hP 1 1 (by decide) (cF_sts _) rfl dX5_stationAt_9 ?_
  refine lv_icmp_ge (tgt := 22) hx hb dX5_stationAt_10 (by decide) (fun c_2 => absurd c_2 (nI_ge h1 (by omega))) (fun _ => ?_)
  refine lv_aload_n hx hb dX5_stationAt_13 rfl (lv_at hl 0 rfl) ?_
  refine x_get hx hb hts mm_X5_stationAt_X5 hown hK hP (0) (by decide) (cF_air _) rfl 0 (by decide) (hts _ lk_X5_stationAt_11) rfl rfl dX5_stationAt_14 ?_
  refine lv_iload_n hx hb dX5_stationAt_17 rfl (lv_at hl 1 rfl) ?_
  refine x_aald hx hb hK hP 1 1 (by decide) (cF_sts _) rfl s1 (by omega) (by decide) (G (6 + 5 * s1)) rfl dX5_stationAt_18 ?_
  refine lv_goto (tgt := 23) hx hb dX5_stationAt_19 (by decide) ?_
  refine lv_astore_n (lv' := [(2, .ref (G (6 + 5 * s1))), (0, .ref (G 0)), (1, .int (nI s1))]) hx hb dX5_stationAt_23 rfl hl (by decide) rfl (fun ls hl => ?_)
  refine lv_aload_n hx hb dX5_stationAt_24 rfl (lv_at hl 0 rfl) ?_
  refine lv_ifnonnull (tgt := 38) hx hb dX5_stationAt_25 (by decide) ?_
  refine lv_aload_n hx hb dX5_stationAt_38 rfl (lv_at hl 0 rfl) ?_
  exact x_ret_r hx hb hr hlocks hS dX5_stationAt_39 rfl

theorem mm_X5_heardInSlotBefore_X2 : ∀ w ∈ wsX20, w ∈ wsX5_heardInSlotBefore := by decide +kernel
theorem mm_X5_heardInSlotBefore_X5 : ∀ w ∈ wsX50, w ∈ wsX5_heardInSlotBefore := by decide +kernel
theorem lk_X5_heardInSlotBefore_18 : Cond.fieldLink RX5 18 "BackofficeAir" "strengths" "LBackofficeAir$Strengths;" ∈ wsX5_heardInSlotBefore := by decide +kernel
theorem lk_X5_heardInSlotBefore_33 : Cond.fieldLink RX5 33 "BackofficeAir" "slot" "I" ∈ wsX5_heardInSlotBefore := by decide +kernel
theorem nk_X5_172 : Cond.fieldLinkNest RX5 172 "BackofficeAir$Station" "lastSlotSent" "I" "BackofficeAir" ∈ nestW := by decide +kernel
def f_X5_heardInSlotBefore_L1 (S : Mem) (s1 : Nat) : Nat → Nat → Int32
  | 0, i => nI 0
  | n + 1, i => if f_X3_between S s1 i ≤ 0 then (f_X5_heardInSlotBefore_L1 S s1 n (i + 1)) else (if S (6 + 5 * i) 9 = (S 0 1) - (nI 1) then (nI 1) else (f_X5_heardInSlotBefore_L1 S s1 n (i + 1)))
theorem f_X5_heardInSlotBefore_L1_z (S : Mem) (s1 : Nat) (i : Nat) : f_X5_heardInSlotBefore_L1 S s1 0 i = (nI 0) := rfl
theorem f_X5_heardInSlotBefore_L1_s (S : Mem) (s1 : Nat) (n : Nat) (i : Nat) : f_X5_heardInSlotBefore_L1 S s1 (n + 1) i = (if f_X3_between S s1 i ≤ 0 then (f_X5_heardInSlotBefore_L1 S s1 n (i + 1)) else (if S (6 + 5 * i) 9 = (S 0 1) - (nI 1) then (nI 1) else (f_X5_heardInSlotBefore_L1 S s1 n (i + 1)))) := rfl
def f_X5_heardInSlotBefore (S : Mem) (s1 : Nat) : Int32 := f_X5_heardInSlotBefore_L1 S s1 6 0
theorem f_X5_heardInSlotBefore_d (S : Mem) (s1 : Nat) : f_X5_heardInSlotBefore S s1 = (f_X5_heardInSlotBefore_L1 S s1 6 0) := rfl
set_option maxHeartbeats 1000000 in
set_option maxRecDepth 100000 in
theorem c_X5_heardInSlotBefore (l : Launch) (D : va_G) (cI cS : ClassId) (G : Nat → Nat) (S : Mem) (sz : Nat) (s1 : Nat) (h1 : s1 < 6) : Met l yX5_heardInSlotBefore wsX5_heardInSlotBefore ({ frames := 4, cells := 0, slots := 0, locals := 84 } : Room) (wPc 36 (cF cI cS G) D (tY cI cS) G S sz [.ref (G 0), .int (nI s1)]) (pQi (f_X5_heardInSlotBefore S s1) sz) 0 0 (fun q => sz ≤ q) := by
  refine x_met (cc := cX5_heardInSlotBefore) (maxL := 3) (ret := (some .boolean)) (by decide) rfl (Nat.le_of_ble_eq_true rfl) ?_
  intro p e s m below meth c ls hx hb hr hml hts hown hlocks hsz hP hK hD hN hl hnm
  subst hsz
  have hown : s.vm.findClass RX5 = some m.cls := hown
  have hl : lv_has ls 3 [(0, .ref (G 0)), (1, .int (nI s1))] := hl
  have hq := f_X5_heardInSlotBefore_d S s1
  have hA : ∀ q : Nat, s.heap.size ≤ q → (fun q => s.heap.size ≤ q) q := fun q h => h
  have hS : va_S (fun q => s.heap.size ≤ q) s.heap s.heap [] := va_S.rf
  refine lv_iconst (v := nI 0) hx hb dX5_heardInSlotBefore_0 (by decide) ?_
  refine lv_istore_n (lv' := [(2, .int (nI 0)), (0, .ref (G 0)), (1, .int (nI s1))]) hx hb dX5_heardInSlotBefore_1 rfl hl (by decide) rfl (fun ls hl => ?_)
  have L1 : ∀ (n : Nat) (i : Nat) (H : Heap) (locs : List Loc) (ls : Array Slot), i + n = 6 → f_X5_heardInSlotBefore S s1 = f_X5_heardInSlotBefore_L1 S s1 n i → va_P D vwCl (WL 36 G (cF cI cS G) S) H → va_S (fun q => s.heap.size ≤ q) s.heap H locs → lv_has ls 3 [(2, .int (nI i)), (0, .ref (G 0)), (1, .int (nI s1))] → W p l e ({ frames := 4, cells := 0, slots := 0, locals := 84 } : Room) s m ([.ref (G 0), .int (nI s1)] : List Value).toArray below meth c H locs 0 0 (MQ below (pQi (f_X5_heardInSlotBefore S s1) s.heap.size) ([.ref (G 0), .int (nI s1)] : List Value).toArray s 0 0 (fun q => s.heap.size ≤ q)) (F0 m 2 ls []) := by
    intro n
    induction n with
    | zero =>
      intro i H locs ls hin hq hP hS hl
      have hq := hq.trans (f_X5_heardInSlotBefore_L1_z _ _ _)
      refine lv_iload_n hx hb dX5_heardInSlotBefore_2 rfl (lv_at hl 0 rfl) ?_
      refine lv_bipush (v := nI 6) hx hb dX5_heardInSlotBefore_3 (by decide) ?_
      refine lv_icmp_ge (tgt := 45) hx hb dX5_heardInSlotBefore_5 (by decide) (fun _ => ?_) (fun c_1 => absurd (nI_le (by omega) (by omega)) c_1) 
      refine lv_iconst (v := nI 0) hx hb dX5_heardInSlotBefore_45 (by decide) ?_
      exact x_ret_p hx hb hr rfl hlocks hS dX5_heardInSlotBefore_46 hq
    | succ n ih =>
      intro i H locs ls hin hq hP hS hl
      have hq := hq.trans (f_X5_heardInSlotBefore_L1_s _ _ _ _)
      refine lv_iload_n hx hb dX5_heardInSlotBefore_2 rfl (lv_at hl 0 rfl) ?_
      refine lv_bipush (v := nI 6) hx hb dX5_heardInSlotBefore_3 (by decide) ?_
      refine lv_icmp_ge (tgt := 45) hx hb dX5_heardInSlotBefore_5 (by decide) (fun c_2 => absurd c_2 (nI_ge (by omega) (by omega))) (fun _ => ?_)
      refine lv_aload_n hx hb dX5_heardInSlotBefore_8 rfl (lv_at hl 1 rfl) ?_
      refine x_get hx hb hts mm_X5_heardInSlotBefore_X5 hown hK hP (0) (by decide) (cF_air _) rfl 1 (by decide) (hts _ lk_X5_heardInSlotBefore_18) rfl rfl dX5_heardInSlotBefore_9 ?_
      refine lv_iload_n hx hb dX5_heardInSlotBefore_12 rfl (lv_at hl 2 rfl) ?_
      refine lv_iload_n hx hb dX5_heardInSlotBefore_13 rfl (lv_at hl 0 rfl) ?_
      refine x_pi (va_runV (As := [.int (nI s1), .int (nI i)]) (rest := []) ⟨hx, hb, hml, hown, hts⟩ (c_X3_between l D cI cS G S H.size s1 i (by omega) (by omega)) (cwV 2 hts gX5_heardInSlotBefore_X3_between rfl rfl rfl (by decide +kernel) ⟨Nat.le_of_ble_eq_true rfl, Nat.le_of_ble_eq_true rfl⟩) ⟨wPc_blind, va_recv hK hP (ci := 3) (q0 := 2) rfl (WL_at (by decide) (cF_str _)), wPc_at hP hK hD hN⟩ rfl rfl hl.1 rfl (lv_room (Nat.le_of_ble_eq_true rfl)) dX5_heardInSlotBefore_14 ⟨Nat.le_refl _, Nat.le_refl _⟩) hS hA (fun q h => h) (fun H locs hz hk hS => ?_)
      have hP := P_kept hP hk
      refine lv_if_le (tgt := 39) hx hb dX5_heardInSlotBefore_17 (by decide) (fun c_3 => ?_) (fun c_3 => ?_)
      · have hq := hq.trans (if_pos c_3)
        refine lv_iinc (v := nI (i + 1)) (lv' := [(2, .int (nI (i + 1))), (0, .ref (G 0)), (1, .int (nI s1))]) hx hb dX5_heardInSlotBefore_39 hl (k := 0) rfl (nI_add _ _) (by decide) rfl (fun ls hl => ?_)
        refine lv_goto (tgt := 2) hx hb dX5_heardInSlotBefore_42 (by decide) ?_
        exact ih (i + 1) H locs ls (by omega) hq hP hS (lv_sub hl [0, 1, 2] rfl)
      · have hq := hq.trans (if_neg c_3)
        refine lv_aload_n hx hb dX5_heardInSlotBefore_20 rfl (lv_at hl 1 rfl) ?_
        refine lv_iload_n hx hb dX5_heardInSlotBefore_21 rfl (lv_at hl 0 rfl) ?_
        refine x_pr (va_runV (As := [.int (nI i)]) (rest := []) ⟨hx, hb, hml, hown, hts⟩ (c_X5_stationAt l D cI cS G S H.size i (by omega)) (cwV 1 hts gX5_heardInSlotBefore_X5_stationAt rfl rfl rfl (by decide +kernel) ⟨Nat.le_of_ble_eq_true rfl, Nat.le_of_ble_eq_true rfl⟩) ⟨wPc_blind, va_recv hK hP (ci := 5) (q0 := 0) rfl (WL_at (by decide) (cF_air _)), wPc_at hP hK hD hN⟩ rfl rfl hl.1 rfl (lv_room (Nat.le_of_ble_eq_true rfl)) dX5_heardInSlotBefore_22 ⟨Nat.le_refl _, Nat.le_refl _⟩) hS hA (fun q h => h) (fun H locs hz hk hS => ?_)
        have hP := P_kept hP hk
        refine x_getN hx hb hts mm_X5_heardInSlotBefore_X2 hown hK hP (6 + 5 * i) (by omega) (cF_st _ _) rfl 11 (by decide) (hN.use nk_X5_172 rfl) rfl rfl dX5_heardInSlotBefore_25 ?_
        refine lv_aload_n hx hb dX5_heardInSlotBefore_28 rfl (lv_at hl 1 rfl) ?_
        refine x_get hx hb hts mm_X5_heardInSlotBefore_X5 hown hK hP (0) (by decide) (cF_air _) rfl 4 (by decide) (hts _ lk_X5_heardInSlotBefore_33) rfl rfl dX5_heardInSlotBefore_29 ?_
        refine lv_iconst (v := nI 1) hx hb dX5_heardInSlotBefore_32 (by decide) ?_
        refine lv_isub hx hb dX5_heardInSlotBefore_33 ?_
        refine lv_icmp_ne (tgt := 39) hx hb dX5_heardInSlotBefore_34 (by decide) (fun c_4 => ?_) (fun c_4 => ?_)
        · have hq := hq.trans (if_neg c_4)
          refine lv_iinc (v := nI (i + 1)) (lv' := [(2, .int (nI (i + 1))), (0, .ref (G 0)), (1, .int (nI s1))]) hx hb dX5_heardInSlotBefore_39 hl (k := 0) rfl (nI_add _ _) (by decide) rfl (fun ls hl => ?_)
          refine lv_goto (tgt := 2) hx hb dX5_heardInSlotBefore_42 (by decide) ?_
          exact ih (i + 1) H locs ls (by omega) hq hP hS (lv_sub hl [0, 1, 2] rfl)
        · have hq := hq.trans (if_pos c_4)
          refine lv_iconst (v := nI 1) hx hb dX5_heardInSlotBefore_37 (by decide) ?_
          exact x_ret_p hx hb hr rfl hlocks hS dX5_heardInSlotBefore_38 hq
  exact L1 6 0 _ _ _ (by omega) hq hP hS (lv_sub hl [0, 1, 2] rfl)

theorem mm_X5_isBrokenAt_X1 : ∀ w ∈ wsX10, w ∈ wsX5_isBrokenAt := by decide +kernel
theorem mm_X5_isBrokenAt_X2 : ∀ w ∈ wsX20, w ∈ wsX5_isBrokenAt := by decide +kernel
theorem mm_X5_isBrokenAt_X5 : ∀ w ∈ wsX50, w ∈ wsX5_isBrokenAt := by decide +kernel
theorem lk_X5_isBrokenAt_18 : Cond.fieldLink RX5 18 "BackofficeAir" "strengths" "LBackofficeAir$Strengths;" ∈ wsX5_isBrokenAt := by decide +kernel
theorem nk_X5_108 : Cond.fieldLinkNest RX5 108 "BackofficeAir$Station" "sending" "LBackofficeAir$Sending;" "BackofficeAir" ∈ nestW := by decide +kernel
theorem nk_X5_112 : Cond.fieldLinkNest RX5 112 "BackofficeAir$Sending" "on" "Z" "BackofficeAir" ∈ nestW := by decide +kernel
def f_X5_isBrokenAt_L1 (S : Mem) (g : Nat) (s1 : Nat) : Nat → Nat → Int32
  | 0, i => nI 0
  | n + 1, i => if nI i = nI s1 then (f_X5_isBrokenAt_L1 S g s1 n (i + 1)) else (if f_X3_between S g i ≤ 0 then (f_X5_isBrokenAt_L1 S g s1 n (i + 1)) else (if S (8 + 5 * i) 0 = 0 then (f_X5_isBrokenAt_L1 S g s1 n (i + 1)) else (if f_X3_between S g i ≤ (f_X3_between S g s1) - (nI 3) then (f_X5_isBrokenAt_L1 S g s1 n (i + 1)) else (nI 1))))
theorem f_X5_isBrokenAt_L1_z (S : Mem) (g : Nat) (s1 : Nat) (i : Nat) : f_X5_isBrokenAt_L1 S g s1 0 i = (nI 0) := rfl
theorem f_X5_isBrokenAt_L1_s (S : Mem) (g : Nat) (s1 : Nat) (n : Nat) (i : Nat) : f_X5_isBrokenAt_L1 S g s1 (n + 1) i = (if nI i = nI s1 then (f_X5_isBrokenAt_L1 S g s1 n (i + 1)) else (if f_X3_between S g i ≤ 0 then (f_X5_isBrokenAt_L1 S g s1 n (i + 1)) else (if S (8 + 5 * i) 0 = 0 then (f_X5_isBrokenAt_L1 S g s1 n (i + 1)) else (if f_X3_between S g i ≤ (f_X3_between S g s1) - (nI 3) then (f_X5_isBrokenAt_L1 S g s1 n (i + 1)) else (nI 1))))) := rfl
def f_X5_isBrokenAt (S : Mem) (g : Nat) (s1 : Nat) : Int32 := if f_X3_between S g s1 = 0 then (nI 1) else (if S (8 + 5 * g) 0 = 0 then (f_X5_isBrokenAt_L1 S g s1 6 0) else (nI 1))
theorem f_X5_isBrokenAt_d (S : Mem) (g : Nat) (s1 : Nat) : f_X5_isBrokenAt S g s1 = (if f_X3_between S g s1 = 0 then (nI 1) else (if S (8 + 5 * g) 0 = 0 then (f_X5_isBrokenAt_L1 S g s1 6 0) else (nI 1))) := rfl
set_option maxHeartbeats 1000000 in
set_option maxRecDepth 100000 in
theorem c_X5_isBrokenAt (l : Launch) (D : va_G) (cI cS : ClassId) (G : Nat → Nat) (S : Mem) (sz : Nat) (g : Nat) (s1 : Nat) (hg : g < 6) (h1 : s1 < 6) : Met l yX5_isBrokenAt wsX5_isBrokenAt ({ frames := 4, cells := 0, slots := 0, locals := 84 } : Room) (wPc 36 (cF cI cS G) D (tY cI cS) G S sz [.ref (G 0), .int (nI g), .int (nI s1)]) (pQi (f_X5_isBrokenAt S g s1) sz) 0 0 (fun q => sz ≤ q) := by
  refine x_met (cc := cX5_isBrokenAt) (maxL := 7) (ret := (some .boolean)) (by decide) rfl (Nat.le_of_ble_eq_true rfl) ?_
  intro p e s m below meth c ls hx hb hr hml hts hown hlocks hsz hP hK hD hN hl hnm
  subst hsz
  have hown : s.vm.findClass RX5 = some m.cls := hown
  have hl : lv_has ls 7 [(0, .ref (G 0)), (1, .int (nI g)), (2, .int (nI s1))] := hl
  have hq := f_X5_isBrokenAt_d S g s1
  have hA : ∀ q : Nat, s.heap.size ≤ q → (fun q => s.heap.size ≤ q) q := fun q h => h
  have hS : va_S (fun q => s.heap.size ≤ q) s.heap s.heap [] := va_S.rf
  refine lv_aload_n hx hb dX5_isBrokenAt_0 rfl (lv_at hl 0 rfl) ?_
  refine x_get hx hb hts mm_X5_isBrokenAt_X5 hown hK hP (0) (by decide) (cF_air _) rfl 1 (by decide) (hts _ lk_X5_isBrokenAt_18) rfl rfl dX5_isBrokenAt_1 ?_
  refine lv_iload_n hx hb dX5_isBrokenAt_4 rfl (lv_at hl 1 rfl) ?_
  refine lv_iload_n hx hb dX5_isBrokenAt_5 rfl (lv_at hl 2 rfl) ?_
  refine x_pi (va_runV (As := [.int (nI g), .int (nI s1)]) (rest := []) ⟨hx, hb, hml, hown, hts⟩ (c_X3_between l D cI cS G S s.heap.size g s1 (by omega) (by omega)) (cwV 2 hts gX5_isBrokenAt_X3_between rfl rfl rfl (by decide +kernel) ⟨Nat.le_of_ble_eq_true rfl, Nat.le_of_ble_eq_true rfl⟩) ⟨wPc_blind, va_recv hK hP (ci := 3) (q0 := 2) rfl (WL_at (by decide) (cF_str _)), wPc_at hP hK hD hN⟩ rfl rfl hl.1 rfl (lv_room (Nat.le_of_ble_eq_true rfl)) dX5_isBrokenAt_6 ⟨Nat.le_refl _, Nat.le_refl _⟩) hS hA (fun q h => h) (fun H locs hz hk hS => ?_)
  have hP := P_kept hP hk
  refine lv_istore_n (lv' := [(3, .int (f_X3_between S g s1)), (0, .ref (G 0)), (1, .int (nI g)), (2, .int (nI s1))]) hx hb dX5_isBrokenAt_9 rfl hl (by decide) rfl (fun ls hl => ?_)
  refine lv_iload_n hx hb dX5_isBrokenAt_10 rfl (lv_at hl 0 rfl) ?_
  refine lv_if_eq (tgt := 28) hx hb dX5_isBrokenAt_11 (by decide) (fun c_1 => ?_) (fun c_1 => ?_)
  · have hq := hq.trans (if_pos c_1)
    refine lv_iconst (v := nI 1) hx hb dX5_isBrokenAt_28 (by decide) ?_
    exact x_ret_p hx hb hr rfl hlocks hS dX5_isBrokenAt_29 hq
  · have hq := hq.trans (if_neg c_1)
    refine lv_aload_n hx hb dX5_isBrokenAt_14 rfl (lv_at hl 1 rfl) ?_
    refine lv_iload_n hx hb dX5_isBrokenAt_15 rfl (lv_at hl 2 rfl) ?_
    refine x_pr (va_runV (As := [.int (nI g)]) (rest := []) ⟨hx, hb, hml, hown, hts⟩ (c_X5_stationAt l D cI cS G S H.size g (by omega)) (cwV 1 hts gX5_isBrokenAt_X5_stationAt rfl rfl rfl (by decide +kernel) ⟨Nat.le_of_ble_eq_true rfl, Nat.le_of_ble_eq_true rfl⟩) ⟨wPc_blind, va_recv hK hP (ci := 5) (q0 := 0) rfl (WL_at (by decide) (cF_air _)), wPc_at hP hK hD hN⟩ rfl rfl hl.1 rfl (lv_room (Nat.le_of_ble_eq_true rfl)) dX5_isBrokenAt_16 ⟨Nat.le_refl _, Nat.le_refl _⟩) hS hA (fun q h => h) (fun H locs hz hk hS => ?_)
    have hP := P_kept hP hk
    refine x_getN hx hb hts mm_X5_isBrokenAt_X2 hown hK hP (6 + 5 * g) (by omega) (cF_st _ _) rfl 1 (by decide) (hN.use nk_X5_108 rfl) rfl rfl dX5_isBrokenAt_19 ?_
    refine x_getN hx hb hts mm_X5_isBrokenAt_X1 hown hK hP (8 + 5 * g) (by omega) (cF_sd _ _) rfl 0 (by decide) (hN.use nk_X5_112 rfl) rfl rfl dX5_isBrokenAt_22 ?_
    refine lv_if_eq (tgt := 30) hx hb dX5_isBrokenAt_25 (by decide) (fun c_2 => ?_) (fun c_2 => ?_)
    · have hq := hq.trans (if_pos c_2)
      refine lv_iconst (v := nI 0) hx hb dX5_isBrokenAt_30 (by decide) ?_
      refine lv_istore (lv' := [(4, .int (nI 0)), (3, .int (f_X3_between S g s1)), (0, .ref (G 0)), (1, .int (nI g)), (2, .int (nI s1))]) hx hb dX5_isBrokenAt_31 hl (by decide) rfl (fun ls hl => ?_)
      have L1 : ∀ (n : Nat) (i : Nat) (H : Heap) (locs : List Loc) (ls : Array Slot), i + n = 6 → f_X5_isBrokenAt S g s1 = f_X5_isBrokenAt_L1 S g s1 n i → va_P D vwCl (WL 36 G (cF cI cS G) S) H → va_S (fun q => s.heap.size ≤ q) s.heap H locs → lv_has ls 7 [(4, .int (nI i)), (3, .int (f_X3_between S g s1)), (0, .ref (G 0)), (1, .int (nI g)), (2, .int (nI s1))] → W p l e ({ frames := 4, cells := 0, slots := 0, locals := 84 } : Room) s m ([.ref (G 0), .int (nI g), .int (nI s1)] : List Value).toArray below meth c H locs 0 0 (MQ below (pQi (f_X5_isBrokenAt S g s1) s.heap.size) ([.ref (G 0), .int (nI g), .int (nI s1)] : List Value).toArray s 0 0 (fun q => s.heap.size ≤ q)) (F0 m 33 ls []) := by
        intro n
        induction n with
        | zero =>
          intro i H locs ls hin hq hP hS hl
          have hq := hq.trans (f_X5_isBrokenAt_L1_z _ _ _ _)
          refine lv_iload hx hb dX5_isBrokenAt_33 (lv_at hl 0 rfl) ?_
          refine lv_bipush (v := nI 6) hx hb dX5_isBrokenAt_35 (by decide) ?_
          refine lv_icmp_ge (tgt := 106) hx hb dX5_isBrokenAt_37 (by decide) (fun _ => ?_) (fun c_3 => absurd (nI_le (by omega) (by omega)) c_3) 
          refine lv_iconst (v := nI 0) hx hb dX5_isBrokenAt_106 (by decide) ?_
          exact x_ret_p hx hb hr rfl hlocks hS dX5_isBrokenAt_107 hq
        | succ n ih =>
          intro i H locs ls hin hq hP hS hl
          have hq := hq.trans (f_X5_isBrokenAt_L1_s _ _ _ _ _)
          refine lv_iload hx hb dX5_isBrokenAt_33 (lv_at hl 0 rfl) ?_
          refine lv_bipush (v := nI 6) hx hb dX5_isBrokenAt_35 (by decide) ?_
          refine lv_icmp_ge (tgt := 106) hx hb dX5_isBrokenAt_37 (by decide) (fun c_4 => absurd c_4 (nI_ge (by omega) (by omega))) (fun _ => ?_)
          refine lv_aload_n hx hb dX5_isBrokenAt_40 rfl (lv_at hl 2 rfl) ?_
          refine x_get hx hb hts mm_X5_isBrokenAt_X5 hown hK hP (0) (by decide) (cF_air _) rfl 1 (by decide) (hts _ lk_X5_isBrokenAt_18) rfl rfl dX5_isBrokenAt_41 ?_
          refine lv_iload_n hx hb dX5_isBrokenAt_44 rfl (lv_at hl 3 rfl) ?_
          refine lv_iload hx hb dX5_isBrokenAt_45 (lv_at hl 0 rfl) ?_
          refine x_pi (va_runV (As := [.int (nI g), .int (nI i)]) (rest := []) ⟨hx, hb, hml, hown, hts⟩ (c_X3_between l D cI cS G S H.size g i (by omega) (by omega)) (cwV 2 hts gX5_isBrokenAt_X3_between rfl rfl rfl (by decide +kernel) ⟨Nat.le_of_ble_eq_true rfl, Nat.le_of_ble_eq_true rfl⟩) ⟨wPc_blind, va_recv hK hP (ci := 3) (q0 := 2) rfl (WL_at (by decide) (cF_str _)), wPc_at hP hK hD hN⟩ rfl rfl hl.1 rfl (lv_room (Nat.le_of_ble_eq_true rfl)) dX5_isBrokenAt_47 ⟨Nat.le_refl _, Nat.le_refl _⟩) hS hA (fun q h => h) (fun H locs hz hk hS => ?_)
          have hP := P_kept hP hk
          refine lv_istore (lv' := [(5, .int (f_X3_between S g i)), (4, .int (nI i)), (3, .int (f_X3_between S g s1)), (0, .ref (G 0)), (1, .int (nI g)), (2, .int (nI s1))]) hx hb dX5_isBrokenAt_50 hl (by decide) rfl (fun ls hl => ?_)
          refine lv_iload hx hb dX5_isBrokenAt_52 (lv_at hl 1 rfl) ?_
          refine lv_iload_n hx hb dX5_isBrokenAt_54 rfl (lv_at hl 5 rfl) ?_
          refine lv_icmp_eq (tgt := 82) hx hb dX5_isBrokenAt_55 (by decide) (fun c_5 => ?_) (fun c_5 => ?_)
          · have hq := hq.trans (if_pos c_5)
            refine lv_iconst (v := nI 0) hx hb dX5_isBrokenAt_82 (by decide) ?_
            refine lv_istore (lv' := [(6, .int (nI 0)), (5, .int (f_X3_between S g i)), (4, .int (nI i)), (3, .int (f_X3_between S g s1)), (0, .ref (G 0)), (1, .int (nI g)), (2, .int (nI s1))]) hx hb dX5_isBrokenAt_83 hl (by decide) rfl (fun ls hl => ?_)
            refine lv_iload hx hb dX5_isBrokenAt_85 (lv_at hl 0 rfl) ?_
            refine lv_if_eq (tgt := 100) hx hb dX5_isBrokenAt_87 (by decide) (fun _ => ?_) (fun c_6 => absurd (by decide) c_6) 
            refine lv_iinc (v := nI (i + 1)) (lv' := [(4, .int (nI (i + 1))), (6, .int (nI 0)), (5, .int (f_X3_between S g i)), (3, .int (f_X3_between S g s1)), (0, .ref (G 0)), (1, .int (nI g)), (2, .int (nI s1))]) hx hb dX5_isBrokenAt_100 hl (k := 2) rfl (nI_add _ _) (by decide) rfl (fun ls hl => ?_)
            refine lv_goto (tgt := 33) hx hb dX5_isBrokenAt_103 (by decide) ?_
            exact ih (i + 1) H locs ls (by omega) hq hP hS (lv_sub hl [0, 3, 4, 5, 6] rfl)
          · have hq := hq.trans (if_neg c_5)
            refine lv_iload hx hb dX5_isBrokenAt_58 (lv_at hl 0 rfl) ?_
            refine lv_if_le (tgt := 82) hx hb dX5_isBrokenAt_60 (by decide) (fun c_7 => ?_) (fun c_7 => ?_)
            · have hq := hq.trans (if_pos c_7)
              refine lv_iconst (v := nI 0) hx hb dX5_isBrokenAt_82 (by decide) ?_
              refine lv_istore (lv' := [(6, .int (nI 0)), (5, .int (f_X3_between S g i)), (4, .int (nI i)), (3, .int (f_X3_between S g s1)), (0, .ref (G 0)), (1, .int (nI g)), (2, .int (nI s1))]) hx hb dX5_isBrokenAt_83 hl (by decide) rfl (fun ls hl => ?_)
              refine lv_iload hx hb dX5_isBrokenAt_85 (lv_at hl 0 rfl) ?_
              refine lv_if_eq (tgt := 100) hx hb dX5_isBrokenAt_87 (by decide) (fun _ => ?_) (fun c_8 => absurd (by decide) c_8) 
              refine lv_iinc (v := nI (i + 1)) (lv' := [(4, .int (nI (i + 1))), (6, .int (nI 0)), (5, .int (f_X3_between S g i)), (3, .int (f_X3_between S g s1)), (0, .ref (G 0)), (1, .int (nI g)), (2, .int (nI s1))]) hx hb dX5_isBrokenAt_100 hl (k := 2) rfl (nI_add _ _) (by decide) rfl (fun ls hl => ?_)
              refine lv_goto (tgt := 33) hx hb dX5_isBrokenAt_103 (by decide) ?_
              exact ih (i + 1) H locs ls (by omega) hq hP hS (lv_sub hl [0, 3, 4, 5, 6] rfl)
            · have hq := hq.trans (if_neg c_7)
              refine lv_aload_n hx hb dX5_isBrokenAt_63 rfl (lv_at hl 3 rfl) ?_
              refine lv_iload hx hb dX5_isBrokenAt_64 (lv_at hl 1 rfl) ?_
              refine x_pr (va_runV (As := [.int (nI i)]) (rest := []) ⟨hx, hb, hml, hown, hts⟩ (c_X5_stationAt l D cI cS G S H.size i (by omega)) (cwV 1 hts gX5_isBrokenAt_X5_stationAt rfl rfl rfl (by decide +kernel) ⟨Nat.le_of_ble_eq_true rfl, Nat.le_of_ble_eq_true rfl⟩) ⟨wPc_blind, va_recv hK hP (ci := 5) (q0 := 0) rfl (WL_at (by decide) (cF_air _)), wPc_at hP hK hD hN⟩ rfl rfl hl.1 rfl (lv_room (Nat.le_of_ble_eq_true rfl)) dX5_isBrokenAt_66 ⟨Nat.le_refl _, Nat.le_refl _⟩) hS hA (fun q h => h) (fun H locs hz hk hS => ?_)
              have hP := P_kept hP hk
              refine x_getN hx hb hts mm_X5_isBrokenAt_X2 hown hK hP (6 + 5 * i) (by omega) (cF_st _ _) rfl 1 (by decide) (hN.use nk_X5_108 rfl) rfl rfl dX5_isBrokenAt_69 ?_
              refine x_getN hx hb hts mm_X5_isBrokenAt_X1 hown hK hP (8 + 5 * i) (by omega) (cF_sd _ _) rfl 0 (by decide) (hN.use nk_X5_112 rfl) rfl rfl dX5_isBrokenAt_72 ?_
              refine lv_if_eq (tgt := 82) hx hb dX5_isBrokenAt_75 (by decide) (fun c_9 => ?_) (fun c_9 => ?_)
              · have hq := hq.trans (if_pos c_9)
                refine lv_iconst (v := nI 0) hx hb dX5_isBrokenAt_82 (by decide) ?_
                refine lv_istore (lv' := [(6, .int (nI 0)), (5, .int (f_X3_between S g i)), (4, .int (nI i)), (3, .int (f_X3_between S g s1)), (0, .ref (G 0)), (1, .int (nI g)), (2, .int (nI s1))]) hx hb dX5_isBrokenAt_83 hl (by decide) rfl (fun ls hl => ?_)
                refine lv_iload hx hb dX5_isBrokenAt_85 (lv_at hl 0 rfl) ?_
                refine lv_if_eq (tgt := 100) hx hb dX5_isBrokenAt_87 (by decide) (fun _ => ?_) (fun c_10 => absurd (by decide) c_10) 
                refine lv_iinc (v := nI (i + 1)) (lv' := [(4, .int (nI (i + 1))), (6, .int (nI 0)), (5, .int (f_X3_between S g i)), (3, .int (f_X3_between S g s1)), (0, .ref (G 0)), (1, .int (nI g)), (2, .int (nI s1))]) hx hb dX5_isBrokenAt_100 hl (k := 2) rfl (nI_add _ _) (by decide) rfl (fun ls hl => ?_)
                refine lv_goto (tgt := 33) hx hb dX5_isBrokenAt_103 (by decide) ?_
                exact ih (i + 1) H locs ls (by omega) hq hP hS (lv_sub hl [0, 3, 4, 5, 6] rfl)
              · have hq := hq.trans (if_neg c_9)
                refine lv_iconst (v := nI 1) hx hb dX5_isBrokenAt_78 (by decide) ?_
                refine lv_goto (tgt := 83) hx hb dX5_isBrokenAt_79 (by decide) ?_
                refine lv_istore (lv' := [(6, .int (nI 1)), (5, .int (f_X3_between S g i)), (4, .int (nI i)), (3, .int (f_X3_between S g s1)), (0, .ref (G 0)), (1, .int (nI g)), (2, .int (nI s1))]) hx hb dX5_isBrokenAt_83 hl (by decide) rfl (fun ls hl => ?_)
                refine lv_iload hx hb dX5_isBrokenAt_85 (lv_at hl 0 rfl) ?_
                refine lv_if_eq (tgt := 100) hx hb dX5_isBrokenAt_87 (by decide) (fun c_11 => absurd c_11 (by decide)) (fun _ => ?_)
                refine lv_iload hx hb dX5_isBrokenAt_90 (lv_at hl 1 rfl) ?_
                refine lv_iload_n hx hb dX5_isBrokenAt_92 rfl (lv_at hl 3 rfl) ?_
                refine lv_iconst (v := nI 3) hx hb dX5_isBrokenAt_93 (by decide) ?_
                refine lv_isub hx hb dX5_isBrokenAt_94 ?_
                refine lv_icmp_le (tgt := 100) hx hb dX5_isBrokenAt_95 (by decide) (fun c_12 => ?_) (fun c_12 => ?_)
                · have hq := hq.trans (if_pos c_12)
                  refine lv_iinc (v := nI (i + 1)) (lv' := [(4, .int (nI (i + 1))), (6, .int (nI 1)), (5, .int (f_X3_between S g i)), (3, .int (f_X3_between S g s1)), (0, .ref (G 0)), (1, .int (nI g)), (2, .int (nI s1))]) hx hb dX5_isBrokenAt_100 hl (k := 2) rfl (nI_add _ _) (by decide) rfl (fun ls hl => ?_)
                  refine lv_goto (tgt := 33) hx hb dX5_isBrokenAt_103 (by decide) ?_
                  exact ih (i + 1) H locs ls (by omega) hq hP hS (lv_sub hl [0, 3, 4, 5, 6] rfl)
                · have hq := hq.trans (if_neg c_12)
                  refine lv_iconst (v := nI 1) hx hb dX5_isBrokenAt_98 (by decide) ?_
                  exact x_ret_p hx hb hr rfl hlocks hS dX5_isBrokenAt_99 hq
      exact L1 6 0 _ _ _ (by omega) hq hP hS (lv_sub hl [0, 1, 2, 3, 4] rfl)
    · have hq := hq.trans (if_neg c_2)
      refine lv_iconst (v := nI 1) hx hb dX5_isBrokenAt_28 (by decide) ?_
      exact x_ret_p hx hb hr rfl hlocks hS dX5_isBrokenAt_29 hq

theorem mm_X5_silenceAround_X2 : ∀ w ∈ wsX20, w ∈ wsX5_silenceAround := by decide +kernel
theorem mm_X5_silenceAround_X5 : ∀ w ∈ wsX50, w ∈ wsX5_silenceAround := by decide +kernel
theorem lk_X5_silenceAround_18 : Cond.fieldLink RX5 18 "BackofficeAir" "strengths" "LBackofficeAir$Strengths;" ∈ wsX5_silenceAround := by decide +kernel
theorem lm1_X5_silenceAround_max : Cond.methodLink RX5 200 Lib.Math.max.name ∈ wsX5_silenceAround := by decide +kernel
theorem lm2_X5_silenceAround_max : Cond.static Lib.Math.max.name ∈ wsX5_silenceAround := by decide +kernel
theorem lm3_X5_silenceAround_max : Cond.initialized "java/lang/Math" ∈ wsX5_silenceAround := by decide +kernel
theorem lm4_X5_silenceAround_max : Cond.code Lib.Math.max.name Lib.Math.max.code 2 (some .int) ∈ wsX5_silenceAround := by decide +kernel
theorem nk_X5_124 : Cond.fieldLinkNest RX5 124 "BackofficeAir$Station" "silencedTo" "I" "BackofficeAir" ∈ nestW := by decide +kernel
def f_X5_silenceAround_L1 (g : Nat) (s1 : Nat) (x : Int32) : Nat → Nat → Mem → Mem
  | 0, i, S_L1 => S_L1
  | n + 1, i, S_L1 => if nI i = nI s1 then (f_X5_silenceAround_L1 g s1 x n (i + 1) S_L1) else (if f_X3_between S_L1 g i ≤ 0 then (f_X5_silenceAround_L1 g s1 x n (i + 1) S_L1) else (f_X5_silenceAround_L1 g s1 x n (i + 1) (ub S_L1 (6 + 5 * i) 4 (if (S_L1 (6 + 5 * i) 4) < x then x else (S_L1 (6 + 5 * i) 4)))))
theorem f_X5_silenceAround_L1_z (g : Nat) (s1 : Nat) (x : Int32) (i : Nat) (S_L1 : Mem) : f_X5_silenceAround_L1 g s1 x 0 i S_L1 = (S_L1) := rfl
theorem f_X5_silenceAround_L1_s (g : Nat) (s1 : Nat) (x : Int32) (n : Nat) (i : Nat) (S_L1 : Mem) : f_X5_silenceAround_L1 g s1 x (n + 1) i S_L1 = (if nI i = nI s1 then (f_X5_silenceAround_L1 g s1 x n (i + 1) S_L1) else (if f_X3_between S_L1 g i ≤ 0 then (f_X5_silenceAround_L1 g s1 x n (i + 1) S_L1) else (f_X5_silenceAround_L1 g s1 x n (i + 1) (ub S_L1 (6 + 5 * i) 4 (if (S_L1 (6 + 5 * i) 4) < x then x else (S_L1 (6 + 5 * i) 4)))))) := rfl
def f_X5_silenceAround (S : Mem) (g : Nat) (s1 : Nat) (x : Int32) : Mem := f_X5_silenceAround_L1 g s1 x 6 0 S
theorem f_X5_silenceAround_d (S : Mem) (g : Nat) (s1 : Nat) (x : Int32) : f_X5_silenceAround S g s1 x = (f_X5_silenceAround_L1 g s1 x 6 0 S) := rfl
set_option maxHeartbeats 1000000 in
set_option maxRecDepth 100000 in
theorem c_X5_silenceAround (l : Launch) (D : va_G) (cI cS : ClassId) (G : Nat → Nat) (S : Mem) (sz : Nat) (g : Nat) (s1 : Nat) (x : Int32) (hg : g < 6) (h1 : s1 < 6) : Met l yX5_silenceAround wsX5_silenceAround ({ frames := 4, cells := 0, slots := 0, locals := 84 } : Room) (wPc 36 (cF cI cS G) D (tY cI cS) G S sz [.ref (G 0), .int (nI g), .int (nI s1), .int x]) (mQv (f_X5_silenceAround S g s1 x) 36 (cF cI cS G) D G sz) 0 0 (fA 36 G sz) := by
  refine x_met (cc := cX5_silenceAround) (maxL := 6) (ret := none) (by decide) rfl (Nat.le_of_ble_eq_true rfl) ?_
  intro p e s m below meth c ls hx hb hr hml hts hown hlocks hsz hP hK hD hN hl hnm
  subst hsz
  have hown : s.vm.findClass RX5 = some m.cls := hown
  have hl : lv_has ls 6 [(0, .ref (G 0)), (1, .int (nI g)), (2, .int (nI s1)), (3, .int x)] := hl
  have hq := f_X5_silenceAround_d S g s1 x
  have hA : ∀ q : Nat, s.heap.size ≤ q → (fA 36 G s.heap.size) q := fun q h => Or.inr h
  have hS : va_S (fA 36 G s.heap.size) s.heap s.heap [] := va_S.rf
  refine lv_iconst (v := nI 0) hx hb dX5_silenceAround_0 (by decide) ?_
  refine lv_istore (lv' := [(4, .int (nI 0)), (0, .ref (G 0)), (1, .int (nI g)), (2, .int (nI s1)), (3, .int x)]) hx hb dX5_silenceAround_1 hl (by decide) rfl (fun ls hl => ?_)
  have L1 : ∀ (n : Nat) (i : Nat) (S_L1 : Mem) (H : Heap) (locs : List Loc) (ls : Array Slot), i + n = 6 → f_X5_silenceAround S g s1 x = f_X5_silenceAround_L1 g s1 x n i S_L1 → va_P D vwCl (WL 36 G (cF cI cS G) S_L1) H → va_S (fA 36 G s.heap.size) s.heap H locs → lv_has ls 6 [(4, .int (nI i)), (0, .ref (G 0)), (1, .int (nI g)), (2, .int (nI s1)), (3, .int x)] → W p l e ({ frames := 4, cells := 0, slots := 0, locals := 84 } : Room) s m ([.ref (G 0), .int (nI g), .int (nI s1), .int x] : List Value).toArray below meth c H locs 0 0 (MQ below (mQv (f_X5_silenceAround S g s1 x) 36 (cF cI cS G) D G s.heap.size) ([.ref (G 0), .int (nI g), .int (nI s1), .int x] : List Value).toArray s 0 0 (fA 36 G s.heap.size)) (F0 m 3 ls []) := by
    intro n
    induction n with
    | zero =>
      intro i S_L1 H locs ls hin hq hP hS hl
      have hq := hq.trans (f_X5_silenceAround_L1_z _ _ _ _ _)
      refine lv_iload hx hb dX5_silenceAround_3 (lv_at hl 0 rfl) ?_
      refine lv_bipush (v := nI 6) hx hb dX5_silenceAround_5 (by decide) ?_
      refine lv_icmp_ge (tgt := 57) hx hb dX5_silenceAround_7 (by decide) (fun _ => ?_) (fun c_1 => absurd (nI_le (by omega) (by omega)) c_1) 
      exact x_ret_v hx hb hr hlocks hP hS dX5_silenceAround_57 hq
    | succ n ih =>
      intro i S_L1 H locs ls hin hq hP hS hl
      have hq := hq.trans (f_X5_silenceAround_L1_s _ _ _ _ _ _)
      refine lv_iload hx hb dX5_silenceAround_3 (lv_at hl 0 rfl) ?_
      refine lv_bipush (v := nI 6) hx hb dX5_silenceAround_5 (by decide) ?_
      refine lv_icmp_ge (tgt := 57) hx hb dX5_silenceAround_7 (by decide) (fun c_2 => absurd c_2 (nI_ge (by omega) (by omega))) (fun _ => ?_)
      refine lv_iload hx hb dX5_silenceAround_10 (lv_at hl 0 rfl) ?_
      refine lv_iload_n hx hb dX5_silenceAround_12 rfl (lv_at hl 3 rfl) ?_
      refine lv_icmp_eq (tgt := 51) hx hb dX5_silenceAround_13 (by decide) (fun c_3 => ?_) (fun c_3 => ?_)
      · have hq := hq.trans (if_pos c_3)
        refine lv_iinc (v := nI (i + 1)) (lv' := [(4, .int (nI (i + 1))), (0, .ref (G 0)), (1, .int (nI g)), (2, .int (nI s1)), (3, .int x)]) hx hb dX5_silenceAround_51 hl (k := 0) rfl (nI_add _ _) (by decide) rfl (fun ls hl => ?_)
        refine lv_goto (tgt := 3) hx hb dX5_silenceAround_54 (by decide) ?_
        exact ih (i + 1) S_L1 H locs ls (by omega) hq hP hS (lv_sub hl [0, 1, 2, 3, 4] rfl)
      · have hq := hq.trans (if_neg c_3)
        refine lv_aload_n hx hb dX5_silenceAround_16 rfl (lv_at hl 1 rfl) ?_
        refine x_get hx hb hts mm_X5_silenceAround_X5 hown hK hP (0) (by decide) (cF_air _) rfl 1 (by decide) (hts _ lk_X5_silenceAround_18) rfl rfl dX5_silenceAround_17 ?_
        refine lv_iload_n hx hb dX5_silenceAround_20 rfl (lv_at hl 2 rfl) ?_
        refine lv_iload hx hb dX5_silenceAround_21 (lv_at hl 0 rfl) ?_
        refine x_pi (va_runV (As := [.int (nI g), .int (nI i)]) (rest := []) ⟨hx, hb, hml, hown, hts⟩ (c_X3_between l D cI cS G S_L1 H.size g i (by omega) (by omega)) (cwV 2 hts gX5_silenceAround_X3_between rfl rfl rfl (by decide +kernel) ⟨Nat.le_of_ble_eq_true rfl, Nat.le_of_ble_eq_true rfl⟩) ⟨wPc_blind, va_recv hK hP (ci := 3) (q0 := 2) rfl (WL_at (by decide) (cF_str _)), wPc_at hP hK hD hN⟩ rfl rfl hl.1 rfl (lv_room (Nat.le_of_ble_eq_true rfl)) dX5_silenceAround_23 ⟨Nat.le_refl _, Nat.le_refl _⟩) hS hA (fun q h => h) (fun H locs hz hk hS => ?_)
        have hP := P_kept hP hk
        refine lv_if_le (tgt := 51) hx hb dX5_silenceAround_26 (by decide) (fun c_4 => ?_) (fun c_4 => ?_)
        · have hq := hq.trans (if_pos c_4)
          refine lv_iinc (v := nI (i + 1)) (lv' := [(4, .int (nI (i + 1))), (0, .ref (G 0)), (1, .int (nI g)), (2, .int (nI s1)), (3, .int x)]) hx hb dX5_silenceAround_51 hl (k := 0) rfl (nI_add _ _) (by decide) rfl (fun ls hl => ?_)
          refine lv_goto (tgt := 3) hx hb dX5_silenceAround_54 (by decide) ?_
          exact ih (i + 1) S_L1 H locs ls (by omega) hq hP hS (lv_sub hl [0, 1, 2, 3, 4] rfl)
        · have hq := hq.trans (if_neg c_4)
          refine lv_aload_n hx hb dX5_silenceAround_29 rfl (lv_at hl 1 rfl) ?_
          refine lv_iload hx hb dX5_silenceAround_30 (lv_at hl 0 rfl) ?_
          refine x_pr (va_runV (As := [.int (nI i)]) (rest := []) ⟨hx, hb, hml, hown, hts⟩ (c_X5_stationAt l D cI cS G S_L1 H.size i (by omega)) (cwV 1 hts gX5_silenceAround_X5_stationAt rfl rfl rfl (by decide +kernel) ⟨Nat.le_of_ble_eq_true rfl, Nat.le_of_ble_eq_true rfl⟩) ⟨wPc_blind, va_recv hK hP (ci := 5) (q0 := 0) rfl (WL_at (by decide) (cF_air _)), wPc_at hP hK hD hN⟩ rfl rfl hl.1 rfl (lv_room (Nat.le_of_ble_eq_true rfl)) dX5_silenceAround_32 ⟨Nat.le_refl _, Nat.le_refl _⟩) hS hA (fun q h => h) (fun H locs hz hk hS => ?_)
          have hP := P_kept hP hk
          refine lv_astore (lv' := [(5, .ref (G (6 + 5 * i))), (4, .int (nI i)), (0, .ref (G 0)), (1, .int (nI g)), (2, .int (nI s1)), (3, .int x)]) hx hb dX5_silenceAround_35 hl (by decide) rfl (fun ls hl => ?_)
          refine lv_aload hx hb dX5_silenceAround_37 (lv_at hl 0 rfl) ?_
          refine lv_aload hx hb dX5_silenceAround_39 (lv_at hl 0 rfl) ?_
          refine x_getN hx hb hts mm_X5_silenceAround_X2 hown hK hP (6 + 5 * i) (by omega) (cF_st _ _) rfl 6 (by decide) (hN.use nk_X5_124 rfl) rfl rfl dX5_silenceAround_41 ?_
          refine lv_iload_n hx hb dX5_silenceAround_44 rfl (lv_at hl 5 rfl) ?_
          refine va_mmax hx hb (hml.trans hl.1.symm) hown (hts _ lm1_X5_silenceAround_max) (hts _ lm2_X5_silenceAround_max) (hts _ lm3_X5_silenceAround_max) (hts _ lm4_X5_silenceAround_max) (Nat.le_of_ble_eq_true rfl) (Nat.le_of_ble_eq_true rfl) (Nat.zero_le _) (Nat.zero_le _) dX5_silenceAround_45 ?_
          refine x_putN hx hb hts mm_X5_silenceAround_X2 tyX2 tyX2_ok nmX2 hown hK hP hD hS (6 + 5 * i) (by omega) (cF_st _ _) rfl 6 (by decide) (hN.use nk_X5_124 rfl) rfl rfl rfl rfl rfl (Nat.le_of_ble_eq_true rfl) 4 (cF_st _ _) dX5_silenceAround_48 (fun H locs hP hS => ?_)
          refine lv_iinc (v := nI (i + 1)) (lv' := [(4, .int (nI (i + 1))), (5, .ref (G (6 + 5 * i))), (0, .ref (G 0)), (1, .int (nI g)), (2, .int (nI s1)), (3, .int x)]) hx hb dX5_silenceAround_51 hl (k := 1) rfl (nI_add _ _) (by decide) rfl (fun ls hl => ?_)
          refine lv_goto (tgt := 3) hx hb dX5_silenceAround_54 (by decide) ?_
          exact ih (i + 1) (ub S_L1 (6 + 5 * i) 4 (if (S_L1 (6 + 5 * i) 4) < x then x else (S_L1 (6 + 5 * i) 4))) H locs ls (by omega) hq hP hS (lv_sub hl [0, 2, 3, 4, 5] rfl)
  exact L1 6 0 S _ _ _ (by omega) hq hP hS (lv_sub hl [0, 1, 2, 3, 4] rfl)

def gof (S : Mem) (i : Nat) : Nat := kN (f_X0_goalOfFirst S i)
def gOK (S : Mem) (i : Nat) : Prop := f_X0_goalOfFirst S i = nI (gof S i) ∧ gof S i < 6
theorem gof_ub (S : Mem) (j i a : Nat) (v : Int32) : f_X0_goalOfFirst (ub S (6 + 5 * j) a v) i = f_X0_goalOfFirst S i := by
  unfold f_X0_goalOfFirst
  rw [ub_ne _ _ _ (by omega), ub_ne _ _ _ (by omega)]

theorem mm_X5_waitOrBegin_X0 : ∀ w ∈ wsX00, w ∈ wsX5_waitOrBegin := by decide +kernel
theorem mm_X5_waitOrBegin_X1 : ∀ w ∈ wsX10, w ∈ wsX5_waitOrBegin := by decide +kernel
theorem mm_X5_waitOrBegin_X2 : ∀ w ∈ wsX20, w ∈ wsX5_waitOrBegin := by decide +kernel
theorem mm_X5_waitOrBegin_X5 : ∀ w ∈ wsX50, w ∈ wsX5_waitOrBegin := by decide +kernel
theorem lk_X5_waitOrBegin_25 : Cond.fieldLink RX5 25 "BackofficeAir" "told" "LBackofficeAir$Told;" ∈ wsX5_waitOrBegin := by decide +kernel
theorem lk_X5_waitOrBegin_29 : Cond.fieldLink RX5 29 "BackofficeAir" "reserve" "I" ∈ wsX5_waitOrBegin := by decide +kernel
theorem lk_X5_waitOrBegin_33 : Cond.fieldLink RX5 33 "BackofficeAir" "slot" "I" ∈ wsX5_waitOrBegin := by decide +kernel
theorem nk_X5_118 : Cond.fieldLinkNest RX5 118 "BackofficeAir$Station" "wait" "I" "BackofficeAir" ∈ nestW := by decide +kernel
theorem nk_X5_67 : Cond.fieldLinkNest RX5 67 "BackofficeAir$Station" "window" "I" "BackofficeAir" ∈ nestW := by decide +kernel
theorem nk_X5_86 : Cond.fieldLinkNest RX5 86 "BackofficeAir$Station" "row" "LBackofficeAir$Row;" "BackofficeAir" ∈ nestW := by decide +kernel
theorem nk_X5_92 : Cond.fieldLinkNest RX5 92 "BackofficeAir$Row" "count" "I" "BackofficeAir" ∈ nestW := by decide +kernel
def f_X5_waitOrBegin (S : Mem) (s1 : Nat) : Mem := if S (8 + 5 * s1) 0 = 0 then (if S (7 + 5 * s1) 0 = 0 then (S) else (if S (6 + 5 * s1) 2 = (-1) then (if (ub ((f_X4_next S).2) (6 + 5 * s1) 2 (f_X5_restBy ((f_X4_next S).1) ((((f_X4_next S).2) (6 + 5 * s1) 1) + (nI 1)))) 0 1 ≤ (ub ((f_X4_next S).2) (6 + 5 * s1) 2 (f_X5_restBy ((f_X4_next S).1) ((((f_X4_next S).2) (6 + 5 * s1) 1) + (nI 1)))) (6 + 5 * s1) 4 then (ub ((f_X4_next S).2) (6 + 5 * s1) 2 (f_X5_restBy ((f_X4_next S).1) ((((f_X4_next S).2) (6 + 5 * s1) 1) + (nI 1)))) else (if f_X5_heardInSlotBefore (ub ((f_X4_next S).2) (6 + 5 * s1) 2 (f_X5_restBy ((f_X4_next S).1) ((((f_X4_next S).2) (6 + 5 * s1) 1) + (nI 1)))) s1 = 0 then (if (ub ((f_X4_next S).2) (6 + 5 * s1) 2 (f_X5_restBy ((f_X4_next S).1) ((((f_X4_next S).2) (6 + 5 * s1) 1) + (nI 1)))) (6 + 5 * s1) 2 ≤ 0 then (f_X2_begin (ub ((f_X4_next S).2) (6 + 5 * s1) 2 (f_X5_restBy ((f_X4_next S).1) ((((f_X4_next S).2) (6 + 5 * s1) 1) + (nI 1)))) s1 ((ub ((f_X4_next S).2) (6 + 5 * s1) 2 (f_X5_restBy ((f_X4_next S).1) ((((f_X4_next S).2) (6 + 5 * s1) 1) + (nI 1)))) 0 1) ((ub ((f_X4_next S).2) (6 + 5 * s1) 2 (f_X5_restBy ((f_X4_next S).1) ((((f_X4_next S).2) (6 + 5 * s1) 1) + (nI 1)))) 0 0)) else (ub (ub ((f_X4_next S).2) (6 + 5 * s1) 2 (f_X5_restBy ((f_X4_next S).1) ((((f_X4_next S).2) (6 + 5 * s1) 1) + (nI 1)))) (6 + 5 * s1) 2 (((ub ((f_X4_next S).2) (6 + 5 * s1) 2 (f_X5_restBy ((f_X4_next S).1) ((((f_X4_next S).2) (6 + 5 * s1) 1) + (nI 1)))) (6 + 5 * s1) 2) - (nI 1)))) else (ub ((f_X4_next S).2) (6 + 5 * s1) 2 (f_X5_restBy ((f_X4_next S).1) ((((f_X4_next S).2) (6 + 5 * s1) 1) + (nI 1)))))) else (if S 0 1 ≤ S (6 + 5 * s1) 4 then (S) else (if f_X5_heardInSlotBefore S s1 = 0 then (if S (6 + 5 * s1) 2 ≤ 0 then (f_X2_begin S s1 (S 0 1) (S 0 0)) else (ub S (6 + 5 * s1) 2 ((S (6 + 5 * s1) 2) - (nI 1)))) else (S))))) else (S)
theorem f_X5_waitOrBegin_d (S : Mem) (s1 : Nat) : f_X5_waitOrBegin S s1 = (if S (8 + 5 * s1) 0 = 0 then (if S (7 + 5 * s1) 0 = 0 then (S) else (if S (6 + 5 * s1) 2 = (-1) then (if (ub ((f_X4_next S).2) (6 + 5 * s1) 2 (f_X5_restBy ((f_X4_next S).1) ((((f_X4_next S).2) (6 + 5 * s1) 1) + (nI 1)))) 0 1 ≤ (ub ((f_X4_next S).2) (6 + 5 * s1) 2 (f_X5_restBy ((f_X4_next S).1) ((((f_X4_next S).2) (6 + 5 * s1) 1) + (nI 1)))) (6 + 5 * s1) 4 then (ub ((f_X4_next S).2) (6 + 5 * s1) 2 (f_X5_restBy ((f_X4_next S).1) ((((f_X4_next S).2) (6 + 5 * s1) 1) + (nI 1)))) else (if f_X5_heardInSlotBefore (ub ((f_X4_next S).2) (6 + 5 * s1) 2 (f_X5_restBy ((f_X4_next S).1) ((((f_X4_next S).2) (6 + 5 * s1) 1) + (nI 1)))) s1 = 0 then (if (ub ((f_X4_next S).2) (6 + 5 * s1) 2 (f_X5_restBy ((f_X4_next S).1) ((((f_X4_next S).2) (6 + 5 * s1) 1) + (nI 1)))) (6 + 5 * s1) 2 ≤ 0 then (f_X2_begin (ub ((f_X4_next S).2) (6 + 5 * s1) 2 (f_X5_restBy ((f_X4_next S).1) ((((f_X4_next S).2) (6 + 5 * s1) 1) + (nI 1)))) s1 ((ub ((f_X4_next S).2) (6 + 5 * s1) 2 (f_X5_restBy ((f_X4_next S).1) ((((f_X4_next S).2) (6 + 5 * s1) 1) + (nI 1)))) 0 1) ((ub ((f_X4_next S).2) (6 + 5 * s1) 2 (f_X5_restBy ((f_X4_next S).1) ((((f_X4_next S).2) (6 + 5 * s1) 1) + (nI 1)))) 0 0)) else (ub (ub ((f_X4_next S).2) (6 + 5 * s1) 2 (f_X5_restBy ((f_X4_next S).1) ((((f_X4_next S).2) (6 + 5 * s1) 1) + (nI 1)))) (6 + 5 * s1) 2 (((ub ((f_X4_next S).2) (6 + 5 * s1) 2 (f_X5_restBy ((f_X4_next S).1) ((((f_X4_next S).2) (6 + 5 * s1) 1) + (nI 1)))) (6 + 5 * s1) 2) - (nI 1)))) else (ub ((f_X4_next S).2) (6 + 5 * s1) 2 (f_X5_restBy ((f_X4_next S).1) ((((f_X4_next S).2) (6 + 5 * s1) 1) + (nI 1)))))) else (if S 0 1 ≤ S (6 + 5 * s1) 4 then (S) else (if f_X5_heardInSlotBefore S s1 = 0 then (if S (6 + 5 * s1) 2 ≤ 0 then (f_X2_begin S s1 (S 0 1) (S 0 0)) else (ub S (6 + 5 * s1) 2 ((S (6 + 5 * s1) 2) - (nI 1)))) else (S))))) else (S)) := rfl
set_option maxHeartbeats 1000000 in
set_option maxRecDepth 100000 in
theorem c_X5_waitOrBegin (l : Launch) (D : va_G) (cI cS : ClassId) (G : Nat → Nat) (S : Mem) (sz : Nat) (s1 : Nat) (h1 : s1 < 6) (hf : S 4 0 = nI (kN (S 4 0))) (hf2 : kN (S 4 0) < 200) : Met l yX5_waitOrBegin wsX5_waitOrBegin ({ frames := 5, cells := 0, slots := 0, locals := 106 } : Room) (wPc 36 (cF cI cS G) D (tY cI cS) G S sz [.ref (G 0), .int (nI s1)]) (mQv (f_X5_waitOrBegin S s1) 36 (cF cI cS G) D G sz) 0 0 (fA 36 G sz) := by
  refine x_met (cc := cX5_waitOrBegin) (maxL := 3) (ret := none) (by decide) rfl (Nat.le_of_ble_eq_true rfl) ?_
  intro p e s m below meth c ls hx hb hr hml hts hown hlocks hsz hP hK hD hN hl hnm
  subst hsz
  have hown : s.vm.findClass RX5 = some m.cls := hown
  have hl : lv_has ls 3 [(0, .ref (G 0)), (1, .int (nI s1))] := hl
  have hq := f_X5_waitOrBegin_d S s1
  have hA : ∀ q : Nat, s.heap.size ≤ q → (fA 36 G s.heap.size) q := fun q h => Or.inr h
  have hS : va_S (fA 36 G s.heap.size) s.heap s.heap [] := va_S.rf
  refine lv_aload_n hx hb dX5_waitOrBegin_0 rfl (lv_at hl 0 rfl) ?_
  refine lv_iload_n hx hb dX5_waitOrBegin_1 rfl (lv_at hl 1 rfl) ?_
  refine x_pr (va_runV (As := [.int (nI s1)]) (rest := []) ⟨hx, hb, hml, hown, hts⟩ (c_X5_stationAt l D cI cS G S s.heap.size s1 (by omega)) (cwV 1 hts gX5_waitOrBegin_X5_stationAt rfl rfl rfl (by decide +kernel) ⟨Nat.le_of_ble_eq_true rfl, Nat.le_of_ble_eq_true rfl⟩) ⟨wPc_blind, va_recv hK hP (ci := 5) (q0 := 0) rfl (WL_at (by decide) (cF_air _)), wPc_at hP hK hD hN⟩ rfl rfl hl.1 rfl (lv_room (Nat.le_of_ble_eq_true rfl)) dX5_waitOrBegin_2 ⟨Nat.le_refl _, Nat.le_refl _⟩) hS hA (fun q h => h) (fun H locs hz hk hS => ?_)
  have hP := P_kept hP hk
  refine lv_astore_n (lv' := [(2, .ref (G (6 + 5 * s1))), (0, .ref (G 0)), (1, .int (nI s1))]) hx hb dX5_waitOrBegin_5 rfl hl (by decide) rfl (fun ls hl => ?_)
  refine lv_aload_n hx hb dX5_waitOrBegin_6 rfl (lv_at hl 0 rfl) ?_
  refine x_getN hx hb hts mm_X5_waitOrBegin_X2 hown hK hP (6 + 5 * s1) (by omega) (cF_st _ _) rfl 1 (by decide) (hN.use nk_X5_108 rfl) rfl rfl dX5_waitOrBegin_7 ?_
  refine x_getN hx hb hts mm_X5_waitOrBegin_X1 hown hK hP (8 + 5 * s1) (by omega) (cF_sd _ _) rfl 0 (by decide) (hN.use nk_X5_112 rfl) rfl rfl dX5_waitOrBegin_10 ?_
  refine lv_if_ne (tgt := 26) hx hb dX5_waitOrBegin_13 (by decide) (fun c_1 => ?_) (fun c_1 => ?_)
  · have hq := hq.trans (if_neg c_1)
    exact x_ret_v hx hb hr hlocks hP hS dX5_waitOrBegin_26 hq
  · have hq := hq.trans (if_pos c_1)
    refine lv_aload_n hx hb dX5_waitOrBegin_16 rfl (lv_at hl 0 rfl) ?_
    refine x_getN hx hb hts mm_X5_waitOrBegin_X2 hown hK hP (6 + 5 * s1) (by omega) (cF_st _ _) rfl 0 (by decide) (hN.use nk_X5_86 rfl) rfl rfl dX5_waitOrBegin_17 ?_
    refine x_getN hx hb hts mm_X5_waitOrBegin_X0 hown hK hP (7 + 5 * s1) (by omega) (cF_row _ _) rfl 2 (by decide) (hN.use nk_X5_92 rfl) rfl rfl dX5_waitOrBegin_20 ?_
    refine lv_if_ne (tgt := 27) hx hb dX5_waitOrBegin_23 (by decide) (fun c_2 => ?_) (fun c_2 => ?_)
    · have hq := hq.trans (if_neg c_2)
      refine lv_aload_n hx hb dX5_waitOrBegin_27 rfl (lv_at hl 0 rfl) ?_
      refine x_getN hx hb hts mm_X5_waitOrBegin_X2 hown hK hP (6 + 5 * s1) (by omega) (cF_st _ _) rfl 4 (by decide) (hN.use nk_X5_118 rfl) rfl rfl dX5_waitOrBegin_28 ?_
      refine lv_iconst (v := (-1)) hx hb dX5_waitOrBegin_31 (by decide) ?_
      refine lv_icmp_ne (tgt := 55) hx hb dX5_waitOrBegin_32 (by decide) (fun c_3 => ?_) (fun c_3 => ?_)
      · have hq := hq.trans (if_neg c_3)
        refine lv_aload_n hx hb dX5_waitOrBegin_55 rfl (lv_at hl 1 rfl) ?_
        refine x_get hx hb hts mm_X5_waitOrBegin_X5 hown hK hP (0) (by decide) (cF_air _) rfl 4 (by decide) (hts _ lk_X5_waitOrBegin_33) rfl rfl dX5_waitOrBegin_56 ?_
        refine lv_aload_n hx hb dX5_waitOrBegin_59 rfl (lv_at hl 0 rfl) ?_
        refine x_getN hx hb hts mm_X5_waitOrBegin_X2 hown hK hP (6 + 5 * s1) (by omega) (cF_st _ _) rfl 6 (by decide) (hN.use nk_X5_124 rfl) rfl rfl dX5_waitOrBegin_60 ?_
        refine lv_icmp_le (tgt := 74) hx hb dX5_waitOrBegin_63 (by decide) (fun c_4 => ?_) (fun c_4 => ?_)
        · have hq := hq.trans (if_pos c_4)
          exact x_ret_v hx hb hr hlocks hP hS dX5_waitOrBegin_74 hq
        · have hq := hq.trans (if_neg c_4)
          refine lv_aload_n hx hb dX5_waitOrBegin_66 rfl (lv_at hl 1 rfl) ?_
          refine lv_iload_n hx hb dX5_waitOrBegin_67 rfl (lv_at hl 2 rfl) ?_
          refine x_pi (va_runV (As := [.int (nI s1)]) (rest := []) ⟨hx, hb, hml, hown, hts⟩ (c_X5_heardInSlotBefore l D cI cS G S H.size s1 (by omega)) (cwV 1 hts gX5_waitOrBegin_X5_heardInSlotBefore rfl rfl rfl (by decide +kernel) ⟨Nat.le_of_ble_eq_true rfl, Nat.le_of_ble_eq_true rfl⟩) ⟨wPc_blind, va_recv hK hP (ci := 5) (q0 := 0) rfl (WL_at (by decide) (cF_air _)), wPc_at hP hK hD hN⟩ rfl rfl hl.1 rfl (lv_room (Nat.le_of_ble_eq_true rfl)) dX5_waitOrBegin_68 ⟨Nat.le_refl _, Nat.le_refl _⟩) hS hA (fun q h => h) (fun H locs hz hk hS => ?_)
          have hP := P_kept hP hk
          refine lv_if_eq (tgt := 75) hx hb dX5_waitOrBegin_71 (by decide) (fun c_5 => ?_) (fun c_5 => ?_)
          · have hq := hq.trans (if_pos c_5)
            refine lv_aload_n hx hb dX5_waitOrBegin_75 rfl (lv_at hl 0 rfl) ?_
            refine x_getN hx hb hts mm_X5_waitOrBegin_X2 hown hK hP (6 + 5 * s1) (by omega) (cF_st _ _) rfl 4 (by decide) (hN.use nk_X5_118 rfl) rfl rfl dX5_waitOrBegin_76 ?_
            refine lv_if_le (tgt := 95) hx hb dX5_waitOrBegin_79 (by decide) (fun c_6 => ?_) (fun c_6 => ?_)
            · have hq := hq.trans (if_pos c_6)
              refine lv_aload_n hx hb dX5_waitOrBegin_95 rfl (lv_at hl 0 rfl) ?_
              refine lv_aload_n hx hb dX5_waitOrBegin_96 rfl (lv_at hl 1 rfl) ?_
              refine x_get hx hb hts mm_X5_waitOrBegin_X5 hown hK hP (0) (by decide) (cF_air _) rfl 4 (by decide) (hts _ lk_X5_waitOrBegin_33) rfl rfl dX5_waitOrBegin_97 ?_
              refine lv_aload_n hx hb dX5_waitOrBegin_100 rfl (lv_at hl 1 rfl) ?_
              refine x_get hx hb hts mm_X5_waitOrBegin_X5 hown hK hP (0) (by decide) (cF_air _) rfl 3 (by decide) (hts _ lk_X5_waitOrBegin_29) rfl rfl dX5_waitOrBegin_101 ?_
              refine x_mv (va_runV (As := [.int (S 0 1), .int (S 0 0)]) (rest := []) ⟨hx, hb, hml, hown, hts⟩ (c_X2_begin l D cI cS G S H.size s1 (S 0 1) (S 0 0) (by omega)) (cwV 2 hts gX5_waitOrBegin_X2_begin rfl rfl rfl (by decide +kernel) ⟨Nat.le_of_ble_eq_true rfl, Nat.le_of_ble_eq_true rfl⟩) ⟨wPc_blind, va_recv hK hP (ci := 2) (q0 := 6 + 5 * s1) rfl (WL_at (by omega) (cF_st _ _)), wPc_at hP hK hD hN⟩ rfl rfl hl.1 rfl (lv_room (Nat.le_of_ble_eq_true rfl)) dX5_waitOrBegin_104 ⟨Nat.le_refl _, Nat.le_refl _⟩) hS (fA_sub (hD S) (fun q h => hA q (Nat.le_trans hS.1 h))) (fun H locs hz hk hP hS => ?_)
              exact x_ret_v hx hb hr hlocks hP hS dX5_waitOrBegin_107 hq
            · have hq := hq.trans (if_neg c_6)
              refine lv_aload_n hx hb dX5_waitOrBegin_82 rfl (lv_at hl 0 rfl) ?_
              refine lv_dup hx hb dX5_waitOrBegin_83 rfl ?_
              refine x_getN hx hb hts mm_X5_waitOrBegin_X2 hown hK hP (6 + 5 * s1) (by omega) (cF_st _ _) rfl 4 (by decide) (hN.use nk_X5_118 rfl) rfl rfl dX5_waitOrBegin_84 ?_
              refine lv_iconst (v := nI 1) hx hb dX5_waitOrBegin_87 (by decide) ?_
              refine lv_isub hx hb dX5_waitOrBegin_88 ?_
              refine x_putN hx hb hts mm_X5_waitOrBegin_X2 tyX2 tyX2_ok nmX2 hown hK hP hD hS (6 + 5 * s1) (by omega) (cF_st _ _) rfl 4 (by decide) (hN.use nk_X5_118 rfl) rfl rfl rfl rfl rfl (Nat.le_of_ble_eq_true rfl) 2 (cF_st _ _) dX5_waitOrBegin_89 (fun H locs hP hS => ?_)
              refine lv_goto (tgt := 107) hx hb dX5_waitOrBegin_92 (by decide) ?_
              exact x_ret_v hx hb hr hlocks hP hS dX5_waitOrBegin_107 hq
          · have hq := hq.trans (if_neg c_5)
            exact x_ret_v hx hb hr hlocks hP hS dX5_waitOrBegin_74 hq
      · have hq := hq.trans (if_pos c_3)
        refine lv_aload_n hx hb dX5_waitOrBegin_35 rfl (lv_at hl 0 rfl) ?_
        refine lv_aload_n hx hb dX5_waitOrBegin_36 rfl (lv_at hl 1 rfl) ?_
        refine x_get hx hb hts mm_X5_waitOrBegin_X5 hown hK hP (0) (by decide) (cF_air _) rfl 2 (by decide) (hts _ lk_X5_waitOrBegin_25) rfl rfl dX5_waitOrBegin_37 ?_
        refine x_mi (va_runV (As := []) (rest := [.ref (G (6 + 5 * s1))]) ⟨hx, hb, hml, hown, hts⟩ (c_X4_next l D cI cS G S H.size hf hf2) (cwV 0 hts gX5_waitOrBegin_X4_next rfl rfl rfl (by decide +kernel) ⟨Nat.le_of_ble_eq_true rfl, Nat.le_of_ble_eq_true rfl⟩) ⟨wPc_blind, va_recv hK hP (ci := 4) (q0 := 4) rfl (WL_at (by decide) (cF_told _)), wPc_at hP hK hD hN⟩ rfl rfl hl.1 rfl (lv_room (Nat.le_of_ble_eq_true rfl)) dX5_waitOrBegin_40 ⟨Nat.le_refl _, Nat.le_refl _⟩) hS (fA_sub (hD S) (fun q h => hA q (Nat.le_trans hS.1 h))) (fun H locs hz hk hP hS => ?_)
        refine lv_aload_n hx hb dX5_waitOrBegin_43 rfl (lv_at hl 0 rfl) ?_
        refine x_getN hx hb hts mm_X5_waitOrBegin_X2 hown hK hP (6 + 5 * s1) (by omega) (cF_st _ _) rfl 3 (by decide) (hN.use nk_X5_67 rfl) rfl rfl dX5_waitOrBegin_44 ?_
        refine lv_iconst (v := nI 1) hx hb dX5_waitOrBegin_47 (by decide) ?_
        refine lv_iadd hx hb dX5_waitOrBegin_48 ?_
        refine x_pi (va_runS (As := [.int ((f_X4_next S).1), .int ((((f_X4_next S).2) (6 + 5 * s1) 1) + (nI 1))]) (rest := [.ref (G (6 + 5 * s1))]) ⟨hx, hb, hml, hown, hts⟩ (c_X5_restBy l H.size ((f_X4_next S).1) ((((f_X4_next S).2) (6 + 5 * s1) 1) + (nI 1))) (va_cwS 2 hts gX5_waitOrBegin_X5_restBy rfl rfl rfl (by decide +kernel) ⟨Nat.le_of_ble_eq_true rfl, Nat.le_of_ble_eq_true rfl⟩) ⟨sPc_blind, sPc_at hN⟩ rfl rfl hl.1 rfl (lv_room (Nat.le_of_ble_eq_true rfl)) dX5_waitOrBegin_49 ⟨Nat.le_refl _, Nat.le_refl _⟩) hS hA (fun q h => h) (fun H locs hz hk hS => ?_)
        have hP := P_kept hP hk
        refine x_putN hx hb hts mm_X5_waitOrBegin_X2 tyX2 tyX2_ok nmX2 hown hK hP hD hS (6 + 5 * s1) (by omega) (cF_st _ _) rfl 4 (by decide) (hN.use nk_X5_118 rfl) rfl rfl rfl rfl rfl (Nat.le_of_ble_eq_true rfl) 2 (cF_st _ _) dX5_waitOrBegin_52 (fun H locs hP hS => ?_)
        refine lv_aload_n hx hb dX5_waitOrBegin_55 rfl (lv_at hl 1 rfl) ?_
        refine x_get hx hb hts mm_X5_waitOrBegin_X5 hown hK hP (0) (by decide) (cF_air _) rfl 4 (by decide) (hts _ lk_X5_waitOrBegin_33) rfl rfl dX5_waitOrBegin_56 ?_
        refine lv_aload_n hx hb dX5_waitOrBegin_59 rfl (lv_at hl 0 rfl) ?_
        refine x_getN hx hb hts mm_X5_waitOrBegin_X2 hown hK hP (6 + 5 * s1) (by omega) (cF_st _ _) rfl 6 (by decide) (hN.use nk_X5_124 rfl) rfl rfl dX5_waitOrBegin_60 ?_
        refine lv_icmp_le (tgt := 74) hx hb dX5_waitOrBegin_63 (by decide) (fun c_7 => ?_) (fun c_7 => ?_)
        · have hq := hq.trans (if_pos c_7)
          exact x_ret_v hx hb hr hlocks hP hS dX5_waitOrBegin_74 hq
        · have hq := hq.trans (if_neg c_7)
          refine lv_aload_n hx hb dX5_waitOrBegin_66 rfl (lv_at hl 1 rfl) ?_
          refine lv_iload_n hx hb dX5_waitOrBegin_67 rfl (lv_at hl 2 rfl) ?_
          refine x_pi (va_runV (As := [.int (nI s1)]) (rest := []) ⟨hx, hb, hml, hown, hts⟩ (c_X5_heardInSlotBefore l D cI cS G (ub ((f_X4_next S).2) (6 + 5 * s1) 2 (f_X5_restBy ((f_X4_next S).1) ((((f_X4_next S).2) (6 + 5 * s1) 1) + (nI 1)))) H.size s1 (by omega)) (cwV 1 hts gX5_waitOrBegin_X5_heardInSlotBefore rfl rfl rfl (by decide +kernel) ⟨Nat.le_of_ble_eq_true rfl, Nat.le_of_ble_eq_true rfl⟩) ⟨wPc_blind, va_recv hK hP (ci := 5) (q0 := 0) rfl (WL_at (by decide) (cF_air _)), wPc_at hP hK hD hN⟩ rfl rfl hl.1 rfl (lv_room (Nat.le_of_ble_eq_true rfl)) dX5_waitOrBegin_68 ⟨Nat.le_refl _, Nat.le_refl _⟩) hS hA (fun q h => h) (fun H locs hz hk hS => ?_)
          have hP := P_kept hP hk
          refine lv_if_eq (tgt := 75) hx hb dX5_waitOrBegin_71 (by decide) (fun c_8 => ?_) (fun c_8 => ?_)
          · have hq := hq.trans (if_pos c_8)
            refine lv_aload_n hx hb dX5_waitOrBegin_75 rfl (lv_at hl 0 rfl) ?_
            refine x_getN hx hb hts mm_X5_waitOrBegin_X2 hown hK hP (6 + 5 * s1) (by omega) (cF_st _ _) rfl 4 (by decide) (hN.use nk_X5_118 rfl) rfl rfl dX5_waitOrBegin_76 ?_
            refine lv_if_le (tgt := 95) hx hb dX5_waitOrBegin_79 (by decide) (fun c_9 => ?_) (fun c_9 => ?_)
            · have hq := hq.trans (if_pos c_9)
              refine lv_aload_n hx hb dX5_waitOrBegin_95 rfl (lv_at hl 0 rfl) ?_
              refine lv_aload_n hx hb dX5_waitOrBegin_96 rfl (lv_at hl 1 rfl) ?_
              refine x_get hx hb hts mm_X5_waitOrBegin_X5 hown hK hP (0) (by decide) (cF_air _) rfl 4 (by decide) (hts _ lk_X5_waitOrBegin_33) rfl rfl dX5_waitOrBegin_97 ?_
              refine lv_aload_n hx hb dX5_waitOrBegin_100 rfl (lv_at hl 1 rfl) ?_
              refine x_get hx hb hts mm_X5_waitOrBegin_X5 hown hK hP (0) (by decide) (cF_air _) rfl 3 (by decide) (hts _ lk_X5_waitOrBegin_29) rfl rfl dX5_waitOrBegin_101 ?_
              refine x_mv (va_runV (As := [.int ((ub ((f_X4_next S).2) (6 + 5 * s1) 2 (f_X5_restBy ((f_X4_next S).1) ((((f_X4_next S).2) (6 + 5 * s1) 1) + (nI 1)))) 0 1), .int ((ub ((f_X4_next S).2) (6 + 5 * s1) 2 (f_X5_restBy ((f_X4_next S).1) ((((f_X4_next S).2) (6 + 5 * s1) 1) + (nI 1)))) 0 0)]) (rest := []) ⟨hx, hb, hml, hown, hts⟩ (c_X2_begin l D cI cS G (ub ((f_X4_next S).2) (6 + 5 * s1) 2 (f_X5_restBy ((f_X4_next S).1) ((((f_X4_next S).2) (6 + 5 * s1) 1) + (nI 1)))) H.size s1 ((ub ((f_X4_next S).2) (6 + 5 * s1) 2 (f_X5_restBy ((f_X4_next S).1) ((((f_X4_next S).2) (6 + 5 * s1) 1) + (nI 1)))) 0 1) ((ub ((f_X4_next S).2) (6 + 5 * s1) 2 (f_X5_restBy ((f_X4_next S).1) ((((f_X4_next S).2) (6 + 5 * s1) 1) + (nI 1)))) 0 0) (by omega)) (cwV 2 hts gX5_waitOrBegin_X2_begin rfl rfl rfl (by decide +kernel) ⟨Nat.le_of_ble_eq_true rfl, Nat.le_of_ble_eq_true rfl⟩) ⟨wPc_blind, va_recv hK hP (ci := 2) (q0 := 6 + 5 * s1) rfl (WL_at (by omega) (cF_st _ _)), wPc_at hP hK hD hN⟩ rfl rfl hl.1 rfl (lv_room (Nat.le_of_ble_eq_true rfl)) dX5_waitOrBegin_104 ⟨Nat.le_refl _, Nat.le_refl _⟩) hS (fA_sub (hD S) (fun q h => hA q (Nat.le_trans hS.1 h))) (fun H locs hz hk hP hS => ?_)
              exact x_ret_v hx hb hr hlocks hP hS dX5_waitOrBegin_107 hq
            · have hq := hq.trans (if_neg c_9)
              refine lv_aload_n hx hb dX5_waitOrBegin_82 rfl (lv_at hl 0 rfl) ?_
              refine lv_dup hx hb dX5_waitOrBegin_83 rfl ?_
              refine x_getN hx hb hts mm_X5_waitOrBegin_X2 hown hK hP (6 + 5 * s1) (by omega) (cF_st _ _) rfl 4 (by decide) (hN.use nk_X5_118 rfl) rfl rfl dX5_waitOrBegin_84 ?_
              refine lv_iconst (v := nI 1) hx hb dX5_waitOrBegin_87 (by decide) ?_
              refine lv_isub hx hb dX5_waitOrBegin_88 ?_
              refine x_putN hx hb hts mm_X5_waitOrBegin_X2 tyX2 tyX2_ok nmX2 hown hK hP hD hS (6 + 5 * s1) (by omega) (cF_st _ _) rfl 4 (by decide) (hN.use nk_X5_118 rfl) rfl rfl rfl rfl rfl (Nat.le_of_ble_eq_true rfl) 2 (cF_st _ _) dX5_waitOrBegin_89 (fun H locs hP hS => ?_)
              refine lv_goto (tgt := 107) hx hb dX5_waitOrBegin_92 (by decide) ?_
              exact x_ret_v hx hb hr hlocks hP hS dX5_waitOrBegin_107 hq
          · have hq := hq.trans (if_neg c_8)
            exact x_ret_v hx hb hr hlocks hP hS dX5_waitOrBegin_74 hq
    · have hq := hq.trans (if_pos c_2)
      exact x_ret_v hx hb hr hlocks hP hS dX5_waitOrBegin_26 hq

theorem mm_X5_sendInSlot_X1 : ∀ w ∈ wsX10, w ∈ wsX5_sendInSlot := by decide +kernel
theorem mm_X5_sendInSlot_X2 : ∀ w ∈ wsX20, w ∈ wsX5_sendInSlot := by decide +kernel
theorem mm_X5_sendInSlot_X5 : ∀ w ∈ wsX50, w ∈ wsX5_sendInSlot := by decide +kernel
theorem lk_X5_sendInSlot_33 : Cond.fieldLink RX5 33 "BackofficeAir" "slot" "I" ∈ wsX5_sendInSlot := by decide +kernel
theorem nk_X5_136 : Cond.fieldLinkNest RX5 136 "BackofficeAir$Station" "airtime" "I" "BackofficeAir" ∈ nestW := by decide +kernel
def f_X5_sendInSlot (S : Mem) (s1 : Nat) : Mem := if S (8 + 5 * s1) 0 = 0 then (S) else (if f_X5_isBrokenAt (ub (ub S (6 + 5 * s1) 7 ((S (6 + 5 * s1) 7) + (nI 1))) (6 + 5 * s1) 9 ((ub S (6 + 5 * s1) 7 ((S (6 + 5 * s1) 7) + (nI 1))) 0 1)) (gof S s1) s1 = 0 then (ub (ub S (6 + 5 * s1) 7 ((S (6 + 5 * s1) 7) + (nI 1))) (6 + 5 * s1) 9 ((ub S (6 + 5 * s1) 7 ((S (6 + 5 * s1) 7) + (nI 1))) 0 1)) else (f_X1_breakIn (ub (ub S (6 + 5 * s1) 7 ((S (6 + 5 * s1) 7) + (nI 1))) (6 + 5 * s1) 9 ((ub S (6 + 5 * s1) 7 ((S (6 + 5 * s1) 7) + (nI 1))) 0 1)) s1 ((ub (ub S (6 + 5 * s1) 7 ((S (6 + 5 * s1) 7) + (nI 1))) (6 + 5 * s1) 9 ((ub S (6 + 5 * s1) 7 ((S (6 + 5 * s1) 7) + (nI 1))) 0 1)) 0 1)))
theorem f_X5_sendInSlot_d (S : Mem) (s1 : Nat) : f_X5_sendInSlot S s1 = (if S (8 + 5 * s1) 0 = 0 then (S) else (if f_X5_isBrokenAt (ub (ub S (6 + 5 * s1) 7 ((S (6 + 5 * s1) 7) + (nI 1))) (6 + 5 * s1) 9 ((ub S (6 + 5 * s1) 7 ((S (6 + 5 * s1) 7) + (nI 1))) 0 1)) (gof S s1) s1 = 0 then (ub (ub S (6 + 5 * s1) 7 ((S (6 + 5 * s1) 7) + (nI 1))) (6 + 5 * s1) 9 ((ub S (6 + 5 * s1) 7 ((S (6 + 5 * s1) 7) + (nI 1))) 0 1)) else (f_X1_breakIn (ub (ub S (6 + 5 * s1) 7 ((S (6 + 5 * s1) 7) + (nI 1))) (6 + 5 * s1) 9 ((ub S (6 + 5 * s1) 7 ((S (6 + 5 * s1) 7) + (nI 1))) 0 1)) s1 ((ub (ub S (6 + 5 * s1) 7 ((S (6 + 5 * s1) 7) + (nI 1))) (6 + 5 * s1) 9 ((ub S (6 + 5 * s1) 7 ((S (6 + 5 * s1) 7) + (nI 1))) 0 1)) 0 1)))) := rfl
set_option maxHeartbeats 1000000 in
set_option maxRecDepth 100000 in
theorem c_X5_sendInSlot (l : Launch) (D : va_G) (cI cS : ClassId) (G : Nat → Nat) (S : Mem) (sz : Nat) (s1 : Nat) (h1 : s1 < 6) (hg : ¬ S (8 + 5 * s1) 0 = 0 → gOK S s1) : Met l yX5_sendInSlot wsX5_sendInSlot ({ frames := 5, cells := 0, slots := 0, locals := 110 } : Room) (wPc 36 (cF cI cS G) D (tY cI cS) G S sz [.ref (G 0), .int (nI s1)]) (mQv (f_X5_sendInSlot S s1) 36 (cF cI cS G) D G sz) 0 0 (fA 36 G sz) := by
  refine x_met (cc := cX5_sendInSlot) (maxL := 3) (ret := none) (by decide) rfl (Nat.le_of_ble_eq_true rfl) ?_
  intro p e s m below meth c ls hx hb hr hml hts hown hlocks hsz hP hK hD hN hl hnm
  subst hsz
  have hown : s.vm.findClass RX5 = some m.cls := hown
  have hl : lv_has ls 3 [(0, .ref (G 0)), (1, .int (nI s1))] := hl
  have hq := f_X5_sendInSlot_d S s1
  have hA : ∀ q : Nat, s.heap.size ≤ q → (fA 36 G s.heap.size) q := fun q h => Or.inr h
  have hS : va_S (fA 36 G s.heap.size) s.heap s.heap [] := va_S.rf
  refine lv_aload_n hx hb dX5_sendInSlot_0 rfl (lv_at hl 0 rfl) ?_
  refine lv_iload_n hx hb dX5_sendInSlot_1 rfl (lv_at hl 1 rfl) ?_
  refine x_pr (va_runV (As := [.int (nI s1)]) (rest := []) ⟨hx, hb, hml, hown, hts⟩ (c_X5_stationAt l D cI cS G S s.heap.size s1 (by omega)) (cwV 1 hts gX5_sendInSlot_X5_stationAt rfl rfl rfl (by decide +kernel) ⟨Nat.le_of_ble_eq_true rfl, Nat.le_of_ble_eq_true rfl⟩) ⟨wPc_blind, va_recv hK hP (ci := 5) (q0 := 0) rfl (WL_at (by decide) (cF_air _)), wPc_at hP hK hD hN⟩ rfl rfl hl.1 rfl (lv_room (Nat.le_of_ble_eq_true rfl)) dX5_sendInSlot_2 ⟨Nat.le_refl _, Nat.le_refl _⟩) hS hA (fun q h => h) (fun H locs hz hk hS => ?_)
  have hP := P_kept hP hk
  refine lv_astore_n (lv' := [(2, .ref (G (6 + 5 * s1))), (0, .ref (G 0)), (1, .int (nI s1))]) hx hb dX5_sendInSlot_5 rfl hl (by decide) rfl (fun ls hl => ?_)
  refine lv_aload_n hx hb dX5_sendInSlot_6 rfl (lv_at hl 0 rfl) ?_
  refine x_getN hx hb hts mm_X5_sendInSlot_X2 hown hK hP (6 + 5 * s1) (by omega) (cF_st _ _) rfl 1 (by decide) (hN.use nk_X5_108 rfl) rfl rfl dX5_sendInSlot_7 ?_
  refine x_getN hx hb hts mm_X5_sendInSlot_X1 hown hK hP (8 + 5 * s1) (by omega) (cF_sd _ _) rfl 0 (by decide) (hN.use nk_X5_112 rfl) rfl rfl dX5_sendInSlot_10 ?_
  refine lv_if_ne (tgt := 17) hx hb dX5_sendInSlot_13 (by decide) (fun c_1 => ?_) (fun c_1 => ?_)
  · have hq := hq.trans (if_neg c_1)
    have hg := hg c_1
    refine lv_aload_n hx hb dX5_sendInSlot_17 rfl (lv_at hl 0 rfl) ?_
    refine lv_dup hx hb dX5_sendInSlot_18 rfl ?_
    refine x_getN hx hb hts mm_X5_sendInSlot_X2 hown hK hP (6 + 5 * s1) (by omega) (cF_st _ _) rfl 9 (by decide) (hN.use nk_X5_136 rfl) rfl rfl dX5_sendInSlot_19 ?_
    refine lv_iconst (v := nI 1) hx hb dX5_sendInSlot_22 (by decide) ?_
    refine lv_iadd hx hb dX5_sendInSlot_23 ?_
    refine x_putN hx hb hts mm_X5_sendInSlot_X2 tyX2 tyX2_ok nmX2 hown hK hP hD hS (6 + 5 * s1) (by omega) (cF_st _ _) rfl 9 (by decide) (hN.use nk_X5_136 rfl) rfl rfl rfl rfl rfl (Nat.le_of_ble_eq_true rfl) 7 (cF_st _ _) dX5_sendInSlot_24 (fun H locs hP hS => ?_)
    refine lv_aload_n hx hb dX5_sendInSlot_27 rfl (lv_at hl 0 rfl) ?_
    refine lv_aload_n hx hb dX5_sendInSlot_28 rfl (lv_at hl 1 rfl) ?_
    refine x_get hx hb hts mm_X5_sendInSlot_X5 hown hK hP (0) (by decide) (cF_air _) rfl 4 (by decide) (hts _ lk_X5_sendInSlot_33) rfl rfl dX5_sendInSlot_29 ?_
    refine x_putN hx hb hts mm_X5_sendInSlot_X2 tyX2 tyX2_ok nmX2 hown hK hP hD hS (6 + 5 * s1) (by omega) (cF_st _ _) rfl 11 (by decide) (hN.use nk_X5_172 rfl) rfl rfl rfl rfl rfl (Nat.le_of_ble_eq_true rfl) 9 (cF_st _ _) dX5_sendInSlot_32 (fun H locs hP hS => ?_)
    refine lv_aload_n hx hb dX5_sendInSlot_35 rfl (lv_at hl 1 rfl) ?_
    refine lv_aload_n hx hb dX5_sendInSlot_36 rfl (lv_at hl 0 rfl) ?_
    refine x_getN hx hb hts mm_X5_sendInSlot_X2 hown hK hP (6 + 5 * s1) (by omega) (cF_st _ _) rfl 0 (by decide) (hN.use nk_X5_86 rfl) rfl rfl dX5_sendInSlot_37 ?_
    refine x_pi (va_runV (As := []) (rest := [.ref (G 0)]) ⟨hx, hb, hml, hown, hts⟩ (c_X0_goalOfFirst l D cI cS G (ub (ub S (6 + 5 * s1) 7 ((S (6 + 5 * s1) 7) + (nI 1))) (6 + 5 * s1) 9 ((ub S (6 + 5 * s1) 7 ((S (6 + 5 * s1) 7) + (nI 1))) 0 1)) H.size s1 (by omega)) (cwV 0 hts gX5_sendInSlot_X0_goalOfFirst rfl rfl rfl (by decide +kernel) ⟨Nat.le_of_ble_eq_true rfl, Nat.le_of_ble_eq_true rfl⟩) ⟨wPc_blind, va_recv hK hP (ci := 0) (q0 := 7 + 5 * s1) rfl (WL_at (by omega) (cF_row _ _)), wPc_at hP hK hD hN⟩ rfl rfl hl.1 rfl (lv_room (Nat.le_of_ble_eq_true rfl)) dX5_sendInSlot_40 ⟨Nat.le_refl _, Nat.le_refl _⟩) hS hA (fun q h => h) (fun H locs hz hk hS => ?_)
    have hP := P_kept hP hk
    refine x_top (y := nI (gof S s1)) (by rw [gof_ub, gof_ub]; exact hg.1) ?_
    refine lv_iload_n hx hb dX5_sendInSlot_43 rfl (lv_at hl 2 rfl) ?_
    refine x_pi (va_runV (As := [.int (nI (gof S s1)), .int (nI s1)]) (rest := []) ⟨hx, hb, hml, hown, hts⟩ (c_X5_isBrokenAt l D cI cS G (ub (ub S (6 + 5 * s1) 7 ((S (6 + 5 * s1) 7) + (nI 1))) (6 + 5 * s1) 9 ((ub S (6 + 5 * s1) 7 ((S (6 + 5 * s1) 7) + (nI 1))) 0 1)) H.size (gof S s1) s1 hg.2 h1) (cwV 2 hts gX5_sendInSlot_X5_isBrokenAt rfl rfl rfl (by decide +kernel) ⟨Nat.le_of_ble_eq_true rfl, Nat.le_of_ble_eq_true rfl⟩) ⟨wPc_blind, va_recv hK hP (ci := 5) (q0 := 0) rfl (WL_at (by decide) (cF_air _)), wPc_at hP hK hD hN⟩ rfl rfl hl.1 rfl (lv_room (Nat.le_of_ble_eq_true rfl)) dX5_sendInSlot_44 ⟨Nat.le_refl _, Nat.le_refl _⟩) hS hA (fun q h => h) (fun H locs hz hk hS => ?_)
    have hP := P_kept hP hk
    refine lv_if_eq (tgt := 61) hx hb dX5_sendInSlot_47 (by decide) (fun c_2 => ?_) (fun c_2 => ?_)
    · have hq := hq.trans (if_pos c_2)
      exact x_ret_v hx hb hr hlocks hP hS dX5_sendInSlot_61 hq
    · have hq := hq.trans (if_neg c_2)
      refine lv_aload_n hx hb dX5_sendInSlot_50 rfl (lv_at hl 0 rfl) ?_
      refine x_getN hx hb hts mm_X5_sendInSlot_X2 hown hK hP (6 + 5 * s1) (by omega) (cF_st _ _) rfl 1 (by decide) (hN.use nk_X5_108 rfl) rfl rfl dX5_sendInSlot_51 ?_
      refine lv_aload_n hx hb dX5_sendInSlot_54 rfl (lv_at hl 1 rfl) ?_
      refine x_get hx hb hts mm_X5_sendInSlot_X5 hown hK hP (0) (by decide) (cF_air _) rfl 4 (by decide) (hts _ lk_X5_sendInSlot_33) rfl rfl dX5_sendInSlot_55 ?_
      refine x_mv (va_runV (As := [.int ((ub (ub S (6 + 5 * s1) 7 ((S (6 + 5 * s1) 7) + (nI 1))) (6 + 5 * s1) 9 ((ub S (6 + 5 * s1) 7 ((S (6 + 5 * s1) 7) + (nI 1))) 0 1)) 0 1)]) (rest := []) ⟨hx, hb, hml, hown, hts⟩ (c_X1_breakIn l D cI cS G (ub (ub S (6 + 5 * s1) 7 ((S (6 + 5 * s1) 7) + (nI 1))) (6 + 5 * s1) 9 ((ub S (6 + 5 * s1) 7 ((S (6 + 5 * s1) 7) + (nI 1))) 0 1)) H.size s1 ((ub (ub S (6 + 5 * s1) 7 ((S (6 + 5 * s1) 7) + (nI 1))) (6 + 5 * s1) 9 ((ub S (6 + 5 * s1) 7 ((S (6 + 5 * s1) 7) + (nI 1))) 0 1)) 0 1) (by omega)) (cwV 1 hts gX5_sendInSlot_X1_breakIn rfl rfl rfl (by decide +kernel) ⟨Nat.le_of_ble_eq_true rfl, Nat.le_of_ble_eq_true rfl⟩) ⟨wPc_blind, va_recv hK hP (ci := 1) (q0 := 8 + 5 * s1) rfl (WL_at (by omega) (cF_sd _ _)), wPc_at hP hK hD hN⟩ rfl rfl hl.1 rfl (lv_room (Nat.le_of_ble_eq_true rfl)) dX5_sendInSlot_58 ⟨Nat.le_refl _, Nat.le_refl _⟩) hS (fA_sub (hD S) (fun q h => hA q (Nat.le_trans hS.1 h))) (fun H locs hz hk hP hS => ?_)
      exact x_ret_v hx hb hr hlocks hP hS dX5_sendInSlot_61 hq
  · have hq := hq.trans (if_pos c_1)
    exact x_ret_v hx hb hr hlocks hP hS dX5_sendInSlot_16 hq

theorem mm_X5_endsAfterSlot_X1 : ∀ w ∈ wsX10, w ∈ wsX5_endsAfterSlot := by decide +kernel
theorem mm_X5_endsAfterSlot_X2 : ∀ w ∈ wsX20, w ∈ wsX5_endsAfterSlot := by decide +kernel
theorem mm_X5_endsAfterSlot_X5 : ∀ w ∈ wsX50, w ∈ wsX5_endsAfterSlot := by decide +kernel
theorem lk_X5_endsAfterSlot_33 : Cond.fieldLink RX5 33 "BackofficeAir" "slot" "I" ∈ wsX5_endsAfterSlot := by decide +kernel
theorem nk_X5_188 : Cond.fieldLinkNest RX5 188 "BackofficeAir$Sending" "requestBroken" "Z" "BackofficeAir" ∈ nestW := by decide +kernel
theorem nk_X5_191 : Cond.fieldLinkNest RX5 191 "BackofficeAir$Sending" "lastSlot" "I" "BackofficeAir" ∈ nestW := by decide +kernel
def f_X5_endsAfterSlot (S : Mem) (s1 : Nat) : Int32 × Mem := if S (8 + 5 * s1) 0 = 0 then ((nI 0, S)) else (if f_X1_isRequest S s1 (S 0 1) = 0 then (if f_X1_isRequest S s1 (S 0 1) = 0 then (if S 0 1 < S (8 + 5 * s1) 2 then ((nI 0, S)) else ((nI 1, f_X2_end S s1 (S 0 1)))) else ((nI 1, f_X2_end S s1 (S 0 1)))) else (if S (8 + 5 * s1) 4 = 0 then ((nI 0, f_X5_silenceAround S (gof S s1) s1 (S (8 + 5 * s1) 2))) else (if f_X1_isRequest S s1 (S 0 1) = 0 then (if S 0 1 < S (8 + 5 * s1) 2 then ((nI 0, S)) else ((nI 1, f_X2_end S s1 (S 0 1)))) else ((nI 1, f_X2_end S s1 (S 0 1))))))
theorem f_X5_endsAfterSlot_d (S : Mem) (s1 : Nat) : f_X5_endsAfterSlot S s1 = (if S (8 + 5 * s1) 0 = 0 then ((nI 0, S)) else (if f_X1_isRequest S s1 (S 0 1) = 0 then (if f_X1_isRequest S s1 (S 0 1) = 0 then (if S 0 1 < S (8 + 5 * s1) 2 then ((nI 0, S)) else ((nI 1, f_X2_end S s1 (S 0 1)))) else ((nI 1, f_X2_end S s1 (S 0 1)))) else (if S (8 + 5 * s1) 4 = 0 then ((nI 0, f_X5_silenceAround S (gof S s1) s1 (S (8 + 5 * s1) 2))) else (if f_X1_isRequest S s1 (S 0 1) = 0 then (if S 0 1 < S (8 + 5 * s1) 2 then ((nI 0, S)) else ((nI 1, f_X2_end S s1 (S 0 1)))) else ((nI 1, f_X2_end S s1 (S 0 1))))))) := rfl
set_option maxHeartbeats 1000000 in
set_option maxRecDepth 100000 in
theorem c_X5_endsAfterSlot (l : Launch) (D : va_G) (cI cS : ClassId) (G : Nat → Nat) (S : Mem) (sz : Nat) (s1 : Nat) (h1 : s1 < 6) (hg : ¬ S (8 + 5 * s1) 0 = 0 → gOK S s1) : Met l yX5_endsAfterSlot wsX5_endsAfterSlot ({ frames := 5, cells := 0, slots := 0, locals := 109 } : Room) (wPc 36 (cF cI cS G) D (tY cI cS) G S sz [.ref (G 0), .int (nI s1)]) (mQi (f_X5_endsAfterSlot S s1) 36 (cF cI cS G) D G sz) 0 0 (fA 36 G sz) := by
  refine x_met (cc := cX5_endsAfterSlot) (maxL := 3) (ret := (some .boolean)) (by decide) rfl (Nat.le_of_ble_eq_true rfl) ?_
  intro p e s m below meth c ls hx hb hr hml hts hown hlocks hsz hP hK hD hN hl hnm
  subst hsz
  have hown : s.vm.findClass RX5 = some m.cls := hown
  have hl : lv_has ls 3 [(0, .ref (G 0)), (1, .int (nI s1))] := hl
  have hq := f_X5_endsAfterSlot_d S s1
  have hA : ∀ q : Nat, s.heap.size ≤ q → (fA 36 G s.heap.size) q := fun q h => Or.inr h
  have hS : va_S (fA 36 G s.heap.size) s.heap s.heap [] := va_S.rf
  refine lv_aload_n hx hb dX5_endsAfterSlot_0 rfl (lv_at hl 0 rfl) ?_
  refine lv_iload_n hx hb dX5_endsAfterSlot_1 rfl (lv_at hl 1 rfl) ?_
  refine x_pr (va_runV (As := [.int (nI s1)]) (rest := []) ⟨hx, hb, hml, hown, hts⟩ (c_X5_stationAt l D cI cS G S s.heap.size s1 (by omega)) (cwV 1 hts gX5_endsAfterSlot_X5_stationAt rfl rfl rfl (by decide +kernel) ⟨Nat.le_of_ble_eq_true rfl, Nat.le_of_ble_eq_true rfl⟩) ⟨wPc_blind, va_recv hK hP (ci := 5) (q0 := 0) rfl (WL_at (by decide) (cF_air _)), wPc_at hP hK hD hN⟩ rfl rfl hl.1 rfl (lv_room (Nat.le_of_ble_eq_true rfl)) dX5_endsAfterSlot_2 ⟨Nat.le_refl _, Nat.le_refl _⟩) hS hA (fun q h => h) (fun H locs hz hk hS => ?_)
  have hP := P_kept hP hk
  refine lv_astore_n (lv' := [(2, .ref (G (6 + 5 * s1))), (0, .ref (G 0)), (1, .int (nI s1))]) hx hb dX5_endsAfterSlot_5 rfl hl (by decide) rfl (fun ls hl => ?_)
  refine lv_aload_n hx hb dX5_endsAfterSlot_6 rfl (lv_at hl 0 rfl) ?_
  refine x_getN hx hb hts mm_X5_endsAfterSlot_X2 hown hK hP (6 + 5 * s1) (by omega) (cF_st _ _) rfl 1 (by decide) (hN.use nk_X5_108 rfl) rfl rfl dX5_endsAfterSlot_7 ?_
  refine x_getN hx hb hts mm_X5_endsAfterSlot_X1 hown hK hP (8 + 5 * s1) (by omega) (cF_sd _ _) rfl 0 (by decide) (hN.use nk_X5_112 rfl) rfl rfl dX5_endsAfterSlot_10 ?_
  refine lv_if_ne (tgt := 18) hx hb dX5_endsAfterSlot_13 (by decide) (fun c_1 => ?_) (fun c_1 => ?_)
  · have hq := hq.trans (if_neg c_1)
    have hg := hg c_1
    refine lv_aload_n hx hb dX5_endsAfterSlot_18 rfl (lv_at hl 0 rfl) ?_
    refine x_getN hx hb hts mm_X5_endsAfterSlot_X2 hown hK hP (6 + 5 * s1) (by omega) (cF_st _ _) rfl 1 (by decide) (hN.use nk_X5_108 rfl) rfl rfl dX5_endsAfterSlot_19 ?_
    refine lv_aload_n hx hb dX5_endsAfterSlot_22 rfl (lv_at hl 1 rfl) ?_
    refine x_get hx hb hts mm_X5_endsAfterSlot_X5 hown hK hP (0) (by decide) (cF_air _) rfl 4 (by decide) (hts _ lk_X5_endsAfterSlot_33) rfl rfl dX5_endsAfterSlot_23 ?_
    refine x_pi (va_runV (As := [.int (S 0 1)]) (rest := []) ⟨hx, hb, hml, hown, hts⟩ (c_X1_isRequest l D cI cS G S H.size s1 (S 0 1) (by omega)) (cwV 1 hts gX5_endsAfterSlot_X1_isRequest rfl rfl rfl (by decide +kernel) ⟨Nat.le_of_ble_eq_true rfl, Nat.le_of_ble_eq_true rfl⟩) ⟨wPc_blind, va_recv hK hP (ci := 1) (q0 := 8 + 5 * s1) rfl (WL_at (by omega) (cF_sd _ _)), wPc_at hP hK hD hN⟩ rfl rfl hl.1 rfl (lv_room (Nat.le_of_ble_eq_true rfl)) dX5_endsAfterSlot_26 ⟨Nat.le_refl _, Nat.le_refl _⟩) hS hA (fun q h => h) (fun H locs hz hk hS => ?_)
    have hP := P_kept hP hk
    refine lv_if_eq (tgt := 63) hx hb dX5_endsAfterSlot_29 (by decide) (fun c_2 => ?_) (fun c_2 => ?_)
    · have hq := hq.trans (if_pos c_2)
      refine lv_aload_n hx hb dX5_endsAfterSlot_63 rfl (lv_at hl 0 rfl) ?_
      refine x_getN hx hb hts mm_X5_endsAfterSlot_X2 hown hK hP (6 + 5 * s1) (by omega) (cF_st _ _) rfl 1 (by decide) (hN.use nk_X5_108 rfl) rfl rfl dX5_endsAfterSlot_64 ?_
      refine lv_aload_n hx hb dX5_endsAfterSlot_67 rfl (lv_at hl 1 rfl) ?_
      refine x_get hx hb hts mm_X5_endsAfterSlot_X5 hown hK hP (0) (by decide) (cF_air _) rfl 4 (by decide) (hts _ lk_X5_endsAfterSlot_33) rfl rfl dX5_endsAfterSlot_68 ?_
      refine x_pi (va_runV (As := [.int (S 0 1)]) (rest := []) ⟨hx, hb, hml, hown, hts⟩ (c_X1_isRequest l D cI cS G S H.size s1 (S 0 1) (by omega)) (cwV 1 hts gX5_endsAfterSlot_X1_isRequest rfl rfl rfl (by decide +kernel) ⟨Nat.le_of_ble_eq_true rfl, Nat.le_of_ble_eq_true rfl⟩) ⟨wPc_blind, va_recv hK hP (ci := 1) (q0 := 8 + 5 * s1) rfl (WL_at (by omega) (cF_sd _ _)), wPc_at hP hK hD hN⟩ rfl rfl hl.1 rfl (lv_room (Nat.le_of_ble_eq_true rfl)) dX5_endsAfterSlot_71 ⟨Nat.le_refl _, Nat.le_refl _⟩) hS hA (fun q h => h) (fun H locs hz hk hS => ?_)
      have hP := P_kept hP hk
      refine lv_if_ne (tgt := 91) hx hb dX5_endsAfterSlot_74 (by decide) (fun c_3 => ?_) (fun c_3 => ?_)
      · have hq := hq.trans (if_neg c_3)
        refine lv_aload_n hx hb dX5_endsAfterSlot_91 rfl (lv_at hl 0 rfl) ?_
        refine lv_aload_n hx hb dX5_endsAfterSlot_92 rfl (lv_at hl 1 rfl) ?_
        refine x_get hx hb hts mm_X5_endsAfterSlot_X5 hown hK hP (0) (by decide) (cF_air _) rfl 4 (by decide) (hts _ lk_X5_endsAfterSlot_33) rfl rfl dX5_endsAfterSlot_93 ?_
        refine x_mv (va_runV (As := [.int (S 0 1)]) (rest := []) ⟨hx, hb, hml, hown, hts⟩ (c_X2_end l D cI cS G S H.size s1 (S 0 1) (by omega)) (cwV 1 hts gX5_endsAfterSlot_X2_end rfl rfl rfl (by decide +kernel) ⟨Nat.le_of_ble_eq_true rfl, Nat.le_of_ble_eq_true rfl⟩) ⟨wPc_blind, va_recv hK hP (ci := 2) (q0 := 6 + 5 * s1) rfl (WL_at (by omega) (cF_st _ _)), wPc_at hP hK hD hN⟩ rfl rfl hl.1 rfl (lv_room (Nat.le_of_ble_eq_true rfl)) dX5_endsAfterSlot_96 ⟨Nat.le_refl _, Nat.le_refl _⟩) hS (fA_sub (hD S) (fun q h => hA q (Nat.le_trans hS.1 h))) (fun H locs hz hk hP hS => ?_)
        refine lv_iconst (v := nI 1) hx hb dX5_endsAfterSlot_99 (by decide) ?_
        exact x_ret_m hx hb hr rfl hlocks hP hS dX5_endsAfterSlot_100 hq
      · have hq := hq.trans (if_pos c_3)
        refine lv_aload_n hx hb dX5_endsAfterSlot_77 rfl (lv_at hl 1 rfl) ?_
        refine x_get hx hb hts mm_X5_endsAfterSlot_X5 hown hK hP (0) (by decide) (cF_air _) rfl 4 (by decide) (hts _ lk_X5_endsAfterSlot_33) rfl rfl dX5_endsAfterSlot_78 ?_
        refine lv_aload_n hx hb dX5_endsAfterSlot_81 rfl (lv_at hl 0 rfl) ?_
        refine x_getN hx hb hts mm_X5_endsAfterSlot_X2 hown hK hP (6 + 5 * s1) (by omega) (cF_st _ _) rfl 1 (by decide) (hN.use nk_X5_108 rfl) rfl rfl dX5_endsAfterSlot_82 ?_
        refine x_getN hx hb hts mm_X5_endsAfterSlot_X1 hown hK hP (8 + 5 * s1) (by omega) (cF_sd _ _) rfl 2 (by decide) (hN.use nk_X5_191 rfl) rfl rfl dX5_endsAfterSlot_85 ?_
        refine lv_icmp_lt (tgt := 101) hx hb dX5_endsAfterSlot_88 (by decide) (fun c_4 => ?_) (fun c_4 => ?_)
        · have hq := hq.trans (if_pos c_4)
          refine lv_iconst (v := nI 0) hx hb dX5_endsAfterSlot_101 (by decide) ?_
          exact x_ret_m hx hb hr rfl hlocks hP hS dX5_endsAfterSlot_102 hq
        · have hq := hq.trans (if_neg c_4)
          refine lv_aload_n hx hb dX5_endsAfterSlot_91 rfl (lv_at hl 0 rfl) ?_
          refine lv_aload_n hx hb dX5_endsAfterSlot_92 rfl (lv_at hl 1 rfl) ?_
          refine x_get hx hb hts mm_X5_endsAfterSlot_X5 hown hK hP (0) (by decide) (cF_air _) rfl 4 (by decide) (hts _ lk_X5_endsAfterSlot_33) rfl rfl dX5_endsAfterSlot_93 ?_
          refine x_mv (va_runV (As := [.int (S 0 1)]) (rest := []) ⟨hx, hb, hml, hown, hts⟩ (c_X2_end l D cI cS G S H.size s1 (S 0 1) (by omega)) (cwV 1 hts gX5_endsAfterSlot_X2_end rfl rfl rfl (by decide +kernel) ⟨Nat.le_of_ble_eq_true rfl, Nat.le_of_ble_eq_true rfl⟩) ⟨wPc_blind, va_recv hK hP (ci := 2) (q0 := 6 + 5 * s1) rfl (WL_at (by omega) (cF_st _ _)), wPc_at hP hK hD hN⟩ rfl rfl hl.1 rfl (lv_room (Nat.le_of_ble_eq_true rfl)) dX5_endsAfterSlot_96 ⟨Nat.le_refl _, Nat.le_refl _⟩) hS (fA_sub (hD S) (fun q h => hA q (Nat.le_trans hS.1 h))) (fun H locs hz hk hP hS => ?_)
          refine lv_iconst (v := nI 1) hx hb dX5_endsAfterSlot_99 (by decide) ?_
          exact x_ret_m hx hb hr rfl hlocks hP hS dX5_endsAfterSlot_100 hq
    · have hq := hq.trans (if_neg c_2)
      refine lv_aload_n hx hb dX5_endsAfterSlot_32 rfl (lv_at hl 0 rfl) ?_
      refine x_getN hx hb hts mm_X5_endsAfterSlot_X2 hown hK hP (6 + 5 * s1) (by omega) (cF_st _ _) rfl 1 (by decide) (hN.use nk_X5_108 rfl) rfl rfl dX5_endsAfterSlot_33 ?_
      refine x_getN hx hb hts mm_X5_endsAfterSlot_X1 hown hK hP (8 + 5 * s1) (by omega) (cF_sd _ _) rfl 4 (by decide) (hN.use nk_X5_188 rfl) rfl rfl dX5_endsAfterSlot_36 ?_
      refine lv_if_ne (tgt := 63) hx hb dX5_endsAfterSlot_39 (by decide) (fun c_5 => ?_) (fun c_5 => ?_)
      · have hq := hq.trans (if_neg c_5)
        refine lv_aload_n hx hb dX5_endsAfterSlot_63 rfl (lv_at hl 0 rfl) ?_
        refine x_getN hx hb hts mm_X5_endsAfterSlot_X2 hown hK hP (6 + 5 * s1) (by omega) (cF_st _ _) rfl 1 (by decide) (hN.use nk_X5_108 rfl) rfl rfl dX5_endsAfterSlot_64 ?_
        refine lv_aload_n hx hb dX5_endsAfterSlot_67 rfl (lv_at hl 1 rfl) ?_
        refine x_get hx hb hts mm_X5_endsAfterSlot_X5 hown hK hP (0) (by decide) (cF_air _) rfl 4 (by decide) (hts _ lk_X5_endsAfterSlot_33) rfl rfl dX5_endsAfterSlot_68 ?_
        refine x_pi (va_runV (As := [.int (S 0 1)]) (rest := []) ⟨hx, hb, hml, hown, hts⟩ (c_X1_isRequest l D cI cS G S H.size s1 (S 0 1) (by omega)) (cwV 1 hts gX5_endsAfterSlot_X1_isRequest rfl rfl rfl (by decide +kernel) ⟨Nat.le_of_ble_eq_true rfl, Nat.le_of_ble_eq_true rfl⟩) ⟨wPc_blind, va_recv hK hP (ci := 1) (q0 := 8 + 5 * s1) rfl (WL_at (by omega) (cF_sd _ _)), wPc_at hP hK hD hN⟩ rfl rfl hl.1 rfl (lv_room (Nat.le_of_ble_eq_true rfl)) dX5_endsAfterSlot_71 ⟨Nat.le_refl _, Nat.le_refl _⟩) hS hA (fun q h => h) (fun H locs hz hk hS => ?_)
        have hP := P_kept hP hk
        refine lv_if_ne (tgt := 91) hx hb dX5_endsAfterSlot_74 (by decide) (fun c_6 => ?_) (fun c_6 => ?_)
        · have hq := hq.trans (if_neg c_6)
          refine lv_aload_n hx hb dX5_endsAfterSlot_91 rfl (lv_at hl 0 rfl) ?_
          refine lv_aload_n hx hb dX5_endsAfterSlot_92 rfl (lv_at hl 1 rfl) ?_
          refine x_get hx hb hts mm_X5_endsAfterSlot_X5 hown hK hP (0) (by decide) (cF_air _) rfl 4 (by decide) (hts _ lk_X5_endsAfterSlot_33) rfl rfl dX5_endsAfterSlot_93 ?_
          refine x_mv (va_runV (As := [.int (S 0 1)]) (rest := []) ⟨hx, hb, hml, hown, hts⟩ (c_X2_end l D cI cS G S H.size s1 (S 0 1) (by omega)) (cwV 1 hts gX5_endsAfterSlot_X2_end rfl rfl rfl (by decide +kernel) ⟨Nat.le_of_ble_eq_true rfl, Nat.le_of_ble_eq_true rfl⟩) ⟨wPc_blind, va_recv hK hP (ci := 2) (q0 := 6 + 5 * s1) rfl (WL_at (by omega) (cF_st _ _)), wPc_at hP hK hD hN⟩ rfl rfl hl.1 rfl (lv_room (Nat.le_of_ble_eq_true rfl)) dX5_endsAfterSlot_96 ⟨Nat.le_refl _, Nat.le_refl _⟩) hS (fA_sub (hD S) (fun q h => hA q (Nat.le_trans hS.1 h))) (fun H locs hz hk hP hS => ?_)
          refine lv_iconst (v := nI 1) hx hb dX5_endsAfterSlot_99 (by decide) ?_
          exact x_ret_m hx hb hr rfl hlocks hP hS dX5_endsAfterSlot_100 hq
        · have hq := hq.trans (if_pos c_6)
          refine lv_aload_n hx hb dX5_endsAfterSlot_77 rfl (lv_at hl 1 rfl) ?_
          refine x_get hx hb hts mm_X5_endsAfterSlot_X5 hown hK hP (0) (by decide) (cF_air _) rfl 4 (by decide) (hts _ lk_X5_endsAfterSlot_33) rfl rfl dX5_endsAfterSlot_78 ?_
          refine lv_aload_n hx hb dX5_endsAfterSlot_81 rfl (lv_at hl 0 rfl) ?_
          refine x_getN hx hb hts mm_X5_endsAfterSlot_X2 hown hK hP (6 + 5 * s1) (by omega) (cF_st _ _) rfl 1 (by decide) (hN.use nk_X5_108 rfl) rfl rfl dX5_endsAfterSlot_82 ?_
          refine x_getN hx hb hts mm_X5_endsAfterSlot_X1 hown hK hP (8 + 5 * s1) (by omega) (cF_sd _ _) rfl 2 (by decide) (hN.use nk_X5_191 rfl) rfl rfl dX5_endsAfterSlot_85 ?_
          refine lv_icmp_lt (tgt := 101) hx hb dX5_endsAfterSlot_88 (by decide) (fun c_7 => ?_) (fun c_7 => ?_)
          · have hq := hq.trans (if_pos c_7)
            refine lv_iconst (v := nI 0) hx hb dX5_endsAfterSlot_101 (by decide) ?_
            exact x_ret_m hx hb hr rfl hlocks hP hS dX5_endsAfterSlot_102 hq
          · have hq := hq.trans (if_neg c_7)
            refine lv_aload_n hx hb dX5_endsAfterSlot_91 rfl (lv_at hl 0 rfl) ?_
            refine lv_aload_n hx hb dX5_endsAfterSlot_92 rfl (lv_at hl 1 rfl) ?_
            refine x_get hx hb hts mm_X5_endsAfterSlot_X5 hown hK hP (0) (by decide) (cF_air _) rfl 4 (by decide) (hts _ lk_X5_endsAfterSlot_33) rfl rfl dX5_endsAfterSlot_93 ?_
            refine x_mv (va_runV (As := [.int (S 0 1)]) (rest := []) ⟨hx, hb, hml, hown, hts⟩ (c_X2_end l D cI cS G S H.size s1 (S 0 1) (by omega)) (cwV 1 hts gX5_endsAfterSlot_X2_end rfl rfl rfl (by decide +kernel) ⟨Nat.le_of_ble_eq_true rfl, Nat.le_of_ble_eq_true rfl⟩) ⟨wPc_blind, va_recv hK hP (ci := 2) (q0 := 6 + 5 * s1) rfl (WL_at (by omega) (cF_st _ _)), wPc_at hP hK hD hN⟩ rfl rfl hl.1 rfl (lv_room (Nat.le_of_ble_eq_true rfl)) dX5_endsAfterSlot_96 ⟨Nat.le_refl _, Nat.le_refl _⟩) hS (fA_sub (hD S) (fun q h => hA q (Nat.le_trans hS.1 h))) (fun H locs hz hk hP hS => ?_)
            refine lv_iconst (v := nI 1) hx hb dX5_endsAfterSlot_99 (by decide) ?_
            exact x_ret_m hx hb hr rfl hlocks hP hS dX5_endsAfterSlot_100 hq
      · have hq := hq.trans (if_pos c_5)
        refine lv_aload_n hx hb dX5_endsAfterSlot_42 rfl (lv_at hl 1 rfl) ?_
        refine lv_aload_n hx hb dX5_endsAfterSlot_43 rfl (lv_at hl 0 rfl) ?_
        refine x_getN hx hb hts mm_X5_endsAfterSlot_X2 hown hK hP (6 + 5 * s1) (by omega) (cF_st _ _) rfl 0 (by decide) (hN.use nk_X5_86 rfl) rfl rfl dX5_endsAfterSlot_44 ?_
        refine x_pi (va_runV (As := []) (rest := [.ref (G 0)]) ⟨hx, hb, hml, hown, hts⟩ (c_X0_goalOfFirst l D cI cS G S H.size s1 (by omega)) (cwV 0 hts gX5_endsAfterSlot_X0_goalOfFirst rfl rfl rfl (by decide +kernel) ⟨Nat.le_of_ble_eq_true rfl, Nat.le_of_ble_eq_true rfl⟩) ⟨wPc_blind, va_recv hK hP (ci := 0) (q0 := 7 + 5 * s1) rfl (WL_at (by omega) (cF_row _ _)), wPc_at hP hK hD hN⟩ rfl rfl hl.1 rfl (lv_room (Nat.le_of_ble_eq_true rfl)) dX5_endsAfterSlot_47 ⟨Nat.le_refl _, Nat.le_refl _⟩) hS hA (fun q h => h) (fun H locs hz hk hS => ?_)
        have hP := P_kept hP hk
        refine x_top (y := nI (gof S s1)) (hg.1) ?_
        refine lv_iload_n hx hb dX5_endsAfterSlot_50 rfl (lv_at hl 2 rfl) ?_
        refine lv_aload_n hx hb dX5_endsAfterSlot_51 rfl (lv_at hl 0 rfl) ?_
        refine x_getN hx hb hts mm_X5_endsAfterSlot_X2 hown hK hP (6 + 5 * s1) (by omega) (cF_st _ _) rfl 1 (by decide) (hN.use nk_X5_108 rfl) rfl rfl dX5_endsAfterSlot_52 ?_
        refine x_getN hx hb hts mm_X5_endsAfterSlot_X1 hown hK hP (8 + 5 * s1) (by omega) (cF_sd _ _) rfl 2 (by decide) (hN.use nk_X5_191 rfl) rfl rfl dX5_endsAfterSlot_55 ?_
        refine x_mv (va_runV (As := [.int (nI (gof S s1)), .int (nI s1), .int (S (8 + 5 * s1) 2)]) (rest := []) ⟨hx, hb, hml, hown, hts⟩ (c_X5_silenceAround l D cI cS G S H.size (gof S s1) s1 (S (8 + 5 * s1) 2) hg.2 h1) (cwV 3 hts gX5_endsAfterSlot_X5_silenceAround rfl rfl rfl (by decide +kernel) ⟨Nat.le_of_ble_eq_true rfl, Nat.le_of_ble_eq_true rfl⟩) ⟨wPc_blind, va_recv hK hP (ci := 5) (q0 := 0) rfl (WL_at (by decide) (cF_air _)), wPc_at hP hK hD hN⟩ rfl rfl hl.1 rfl (lv_room (Nat.le_of_ble_eq_true rfl)) dX5_endsAfterSlot_58 ⟨Nat.le_refl _, Nat.le_refl _⟩) hS (fA_sub (hD S) (fun q h => hA q (Nat.le_trans hS.1 h))) (fun H locs hz hk hP hS => ?_)
        refine lv_iconst (v := nI 0) hx hb dX5_endsAfterSlot_61 (by decide) ?_
        exact x_ret_m hx hb hr rfl hlocks hP hS dX5_endsAfterSlot_62 hq
  · have hq := hq.trans (if_pos c_1)
    refine lv_iconst (v := nI 0) hx hb dX5_endsAfterSlot_16 (by decide) ?_
    exact x_ret_m hx hb hr rfl hlocks hP hS dX5_endsAfterSlot_17 hq

