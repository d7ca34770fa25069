theorem mm_X5_setStrength_X5 : ∀ w ∈ wsX50, w ∈ wsX5_setStrength := by decide +kernel
theorem lk_X5_setStrength_18 : Cond.fieldLink RX5 18 "BackofficeAir" "strengths" "LBackofficeAir$Strengths;" ∈ wsX5_setStrength := by decide +kernel
def f_X5_setStrength (S : Mem) (a : Nat) (b : Nat) (v : Int32) : Int32 × Mem := (f_X3_between S a b, f_X3_put S a b v)
theorem f_X5_setStrength_d (S : Mem) (a : Nat) (b : Nat) (v : Int32) : f_X5_setStrength S a b v = ((f_X3_between S a b, f_X3_put S a b v)) := rfl
set_option maxHeartbeats 1000000 in
set_option maxRecDepth 100000 in
theorem c_X5_setStrength (l : Launch) (D : va_G) (cI cS : ClassId) (G : Nat → Nat) (S : Mem) (sz : Nat) (a : Nat) (b : Nat) (v : Int32) (ha : a < 6) (hb6 : b < 6) (hv1 : ¬ v < 0) (hv2 : v ≤ nI 9) (hne : ¬ nI a = nI b) : Met l yX5_setStrength wsX5_setStrength ({ frames := 4, cells := 0, slots := 0, locals := 86 } : Room) (wPc 36 (cF cI cS G) D (tY cI cS) G S sz [.ref (G 0), .int (nI a), .int (nI b), .int v]) (mQi (f_X5_setStrength S a b v) 36 (cF cI cS G) D G sz) 0 0 (fA 36 G sz) := by
  refine x_met (cc := cX5_setStrength) (maxL := 5) (ret := (some .int)) (by decide) rfl (Nat.le_of_ble_eq_true rfl) ?_
  intro p e s m below meth c ls hx hb hr hml hts hown hlocks hsz hP hK hD hN hl hnm
  subst hsz
  have hown : s.vm.findClass RX5 = some m.cls := hown
  have hl : lv_has ls 5 [(0, .ref (G 0)), (1, .int (nI a)), (2, .int (nI b)), (3, .int v)] := hl
  have hq := f_X5_setStrength_d S a b v
  have hA : ∀ q : Nat, s.heap.size ≤ q → (fA 36 G s.heap.size) q := fun q h => Or.inr h
  have hS : va_S (fA 36 G s.heap.size) s.heap s.heap [] := va_S.rf
  refine lv_aload_n hx hb dX5_setStrength_0 rfl (lv_at hl 0 rfl) ?_
  refine lv_iload_n hx hb dX5_setStrength_1 rfl (lv_at hl 1 rfl) ?_
  refine x_pr (va_runV (As := [.int (nI a)]) (rest := []) ⟨hx, hb, hml, hown, hts⟩ (c_X5_stationAt l D cI cS G S s.heap.size a (by omega)) (cwV 1 hts gX5_setStrength_X5_stationAt rfl rfl rfl (by decide +kernel) ⟨Nat.le_of_ble_eq_true rfl, Nat.le_of_ble_eq_true rfl⟩) ⟨wPc_blind, va_recv hK hP (ci := 5) (q0 := 0) rfl (WL_at (by decide) (cF_air _)), wPc_at hP hK hD hN⟩ rfl rfl hl.1 rfl (lv_room (Nat.le_of_ble_eq_true rfl)) dX5_setStrength_2 ⟨Nat.le_refl _, Nat.le_refl _⟩) hS hA (fun q h => h) (fun H locs hz hk hS => ?_)
  have hP := P_kept hP hk
  refine lv_pop hx hb dX5_setStrength_5 rfl ?_
  refine lv_aload_n hx hb dX5_setStrength_6 rfl (lv_at hl 0 rfl) ?_
  refine lv_iload_n hx hb dX5_setStrength_7 rfl (lv_at hl 2 rfl) ?_
  refine x_pr (va_runV (As := [.int (nI b)]) (rest := []) ⟨hx, hb, hml, hown, hts⟩ (c_X5_stationAt l D cI cS G S H.size b (by omega)) (cwV 1 hts gX5_setStrength_X5_stationAt rfl rfl rfl (by decide +kernel) ⟨Nat.le_of_ble_eq_true rfl, Nat.le_of_ble_eq_true rfl⟩) ⟨wPc_blind, va_recv hK hP (ci := 5) (q0 := 0) rfl (WL_at (by decide) (cF_air _)), wPc_at hP hK hD hN⟩ rfl rfl hl.1 rfl (lv_room (Nat.le_of_ble_eq_true rfl)) dX5_setStrength_8 ⟨Nat.le_refl _, Nat.le_refl _⟩) hS hA (fun q h => h) (fun H locs hz hk hS => ?_)
  have hP := P_kept hP hk
  refine lv_pop hx hb dX5_setStrength_11 rfl ?_
  refine lv_iload_n hx hb dX5_setStrength_12 rfl (lv_at hl 3 rfl) ?_
  refine lv_if_lt (tgt := 22) hx hb dX5_setStrength_13 (by decide) (fun c_1 => absurd c_1 hv1) (fun _ => ?_)
  refine lv_iload_n hx hb dX5_setStrength_16 rfl (lv_at hl 3 rfl) ?_
  refine lv_bipush (v := nI 9) hx hb dX5_setStrength_17 (by decide) ?_
  refine lv_icmp_le (tgt := 32) hx hb dX5_setStrength_19 (by decide) (fun _ => ?_) (fun c_2 => absurd hv2 c_2) 
  refine lv_iload_n hx hb dX5_setStrength_32 rfl (lv_at hl 1 rfl) ?_
  refine lv_iload_n hx hb dX5_setStrength_33 rfl (lv_at hl 2 rfl) ?_
  refine lv_icmp_ne (tgt := 47) hx hb dX5_setStrength_34 (by decide) (fun _ => ?_) (fun c_3 => absurd c_3 hne)
  refine lv_aload_n hx hb dX5_setStrength_47 rfl (lv_at hl 0 rfl) ?_
  refine x_get hx hb hts mm_X5_setStrength_X5 hown hK hP (0) (by decide) (cF_air _) rfl 1 (by decide) (hts _ lk_X5_setStrength_18) rfl rfl dX5_setStrength_48 ?_
  refine lv_iload_n hx hb dX5_setStrength_51 rfl (lv_at hl 1 rfl) ?_
  refine lv_iload_n hx hb dX5_setStrength_52 rfl (lv_at hl 2 rfl) ?_
  refine x_pi (va_runV (As := [.int (nI a), .int (nI b)]) (rest := []) ⟨hx, hb, hml, hown, hts⟩ (c_X3_between l D cI cS G S H.size a b (by omega) (by omega)) (cwV 2 hts gX5_setStrength_X3_between rfl rfl rfl (by decide +kernel) ⟨Nat.le_of_ble_eq_true rfl, Nat.le_of_ble_eq_true rfl⟩) ⟨wPc_blind, va_recv hK hP (ci := 3) (q0 := 2) rfl (WL_at (by decide) (cF_str _)), wPc_at hP hK hD hN⟩ rfl rfl hl.1 rfl (lv_room (Nat.le_of_ble_eq_true rfl)) dX5_setStrength_53 ⟨Nat.le_refl _, Nat.le_refl _⟩) hS hA (fun q h => h) (fun H locs hz hk hS => ?_)
  have hP := P_kept hP hk
  refine lv_istore (lv' := [(4, .int (f_X3_between S a b)), (0, .ref (G 0)), (1, .int (nI a)), (2, .int (nI b)), (3, .int v)]) hx hb dX5_setStrength_56 hl (by decide) rfl (fun ls hl => ?_)
  refine lv_aload_n hx hb dX5_setStrength_58 rfl (lv_at hl 1 rfl) ?_
  refine x_get hx hb hts mm_X5_setStrength_X5 hown hK hP (0) (by decide) (cF_air _) rfl 1 (by decide) (hts _ lk_X5_setStrength_18) rfl rfl dX5_setStrength_59 ?_
  refine lv_iload_n hx hb dX5_setStrength_62 rfl (lv_at hl 2 rfl) ?_
  refine lv_iload_n hx hb dX5_setStrength_63 rfl (lv_at hl 3 rfl) ?_
  refine lv_iload_n hx hb dX5_setStrength_64 rfl (lv_at hl 4 rfl) ?_
  refine x_mv (va_runV (As := [.int (nI a), .int (nI b), .int v]) (rest := []) ⟨hx, hb, hml, hown, hts⟩ (c_X3_put l D cI cS G S H.size a b v (by omega) (by omega)) (cwV 3 hts gX5_setStrength_X3_put rfl rfl rfl (by decide +kernel) ⟨Nat.le_of_ble_eq_true rfl, Nat.le_of_ble_eq_true rfl⟩) ⟨wPc_blind, va_recv hK hP (ci := 3) (q0 := 2) rfl (WL_at (by decide) (cF_str _)), wPc_at hP hK hD hN⟩ rfl rfl hl.1 rfl (lv_room (Nat.le_of_ble_eq_true rfl)) dX5_setStrength_65 ⟨Nat.le_refl _, Nat.le_refl _⟩) hS (fA_sub (hD S) (fun q h => hA q (Nat.le_trans hS.1 h))) (fun H locs hz hk hP hS => ?_)
  refine lv_iload hx hb dX5_setStrength_68 (lv_at hl 0 rfl) ?_
  exact x_ret_m hx hb hr rfl hlocks hP hS dX5_setStrength_70 hq

theorem mm_X5_setClass_X2 : ∀ w ∈ wsX20, w ∈ wsX5_setClass := by decide +kernel
theorem nk_X5_60 : Cond.fieldLinkNest RX5 60 "BackofficeAir$Station" "itsClass" "I" "BackofficeAir" ∈ nestW := by decide +kernel
def f_X5_setClass (S : Mem) (s1 : Nat) (y : Int32) : Int32 × Mem := (S (6 + 5 * s1) 0, ub (ub S (6 + 5 * s1) 0 y) (6 + 5 * s1) 1 (f_X5_leastWindow y))
theorem f_X5_setClass_d (S : Mem) (s1 : Nat) (y : Int32) : f_X5_setClass S s1 y = ((S (6 + 5 * s1) 0, ub (ub S (6 + 5 * s1) 0 y) (6 + 5 * s1) 1 (f_X5_leastWindow y))) := rfl
set_option maxHeartbeats 1000000 in
set_option maxRecDepth 100000 in
theorem c_X5_setClass (l : Launch) (D : va_G) (cI cS : ClassId) (G : Nat → Nat) (S : Mem) (sz : Nat) (s1 : Nat) (y : Int32) (h1 : s1 < 6) (hv1 : ¬ y < 0) (hv2 : y ≤ nI 1) : Met l yX5_setClass wsX5_setClass ({ frames := 2, cells := 0, slots := 0, locals := 42 } : Room) (wPc 36 (cF cI cS G) D (tY cI cS) G S sz [.ref (G 0), .int (nI s1), .int y]) (mQi (f_X5_setClass S s1 y) 36 (cF cI cS G) D G sz) 0 0 (fA 36 G sz) := by
  refine x_met (cc := cX5_setClass) (maxL := 5) (ret := (some .int)) (by decide) rfl (Nat.le_of_ble_eq_true rfl) ?_
  intro p e s m below meth c ls hx hb hr hml hts hown hlocks hsz hP hK hD hN hl hnm
  subst hsz
  have hown : s.vm.findClass RX5 = some m.cls := hown
  have hl : lv_has ls 5 [(0, .ref (G 0)), (1, .int (nI s1)), (2, .int y)] := hl
  have hq := f_X5_setClass_d S s1 y
  have hA : ∀ q : Nat, s.heap.size ≤ q → (fA 36 G s.heap.size) q := fun q h => Or.inr h
  have hS : va_S (fA 36 G s.heap.size) s.heap s.heap [] := va_S.rf
  refine lv_aload_n hx hb dX5_setClass_0 rfl (lv_at hl 0 rfl) ?_
  refine lv_iload_n hx hb dX5_setClass_1 rfl (lv_at hl 1 rfl) ?_
  refine x_pr (va_runV (As := [.int (nI s1)]) (rest := []) ⟨hx, hb, hml, hown, hts⟩ (c_X5_stationAt l D cI cS G S s.heap.size s1 (by omega)) (cwV 1 hts gX5_setClass_X5_stationAt rfl rfl rfl (by decide +kernel) ⟨Nat.le_of_ble_eq_true rfl, Nat.le_of_ble_eq_true rfl⟩) ⟨wPc_blind, va_recv hK hP (ci := 5) (q0 := 0) rfl (WL_at (by decide) (cF_air _)), wPc_at hP hK hD hN⟩ rfl rfl hl.1 rfl (lv_room (Nat.le_of_ble_eq_true rfl)) dX5_setClass_2 ⟨Nat.le_refl _, Nat.le_refl _⟩) hS hA (fun q h => h) (fun H locs hz hk hS => ?_)
  have hP := P_kept hP hk
  refine lv_astore_n (lv' := [(3, .ref (G (6 + 5 * s1))), (0, .ref (G 0)), (1, .int (nI s1)), (2, .int y)]) hx hb dX5_setClass_5 rfl hl (by decide) rfl (fun ls hl => ?_)
  refine lv_iload_n hx hb dX5_setClass_6 rfl (lv_at hl 3 rfl) ?_
  refine lv_if_lt (tgt := 15) hx hb dX5_setClass_7 (by decide) (fun c_1 => absurd c_1 hv1) (fun _ => ?_)
  refine lv_iload_n hx hb dX5_setClass_10 rfl (lv_at hl 3 rfl) ?_
  refine lv_iconst (v := nI 1) hx hb dX5_setClass_11 (by decide) ?_
  refine lv_icmp_le (tgt := 25) hx hb dX5_setClass_12 (by decide) (fun _ => ?_) (fun c_2 => absurd hv2 c_2) 
  refine lv_aload_n hx hb dX5_setClass_25 rfl (lv_at hl 0 rfl) ?_
  refine x_getN hx hb hts mm_X5_setClass_X2 hown hK hP (6 + 5 * s1) (by omega) (cF_st _ _) rfl 2 (by decide) (hN.use nk_X5_60 rfl) rfl rfl dX5_setClass_26 ?_
  refine lv_istore (lv' := [(4, .int (S (6 + 5 * s1) 0)), (3, .ref (G (6 + 5 * s1))), (0, .ref (G 0)), (1, .int (nI s1)), (2, .int y)]) hx hb dX5_setClass_29 hl (by decide) rfl (fun ls hl => ?_)
  refine lv_aload_n hx hb dX5_setClass_31 rfl (lv_at hl 1 rfl) ?_
  refine lv_iload_n hx hb dX5_setClass_32 rfl (lv_at hl 4 rfl) ?_
  refine x_putN hx hb hts mm_X5_setClass_X2 tyX2 tyX2_ok nmX2 hown hK hP hD hS (6 + 5 * s1) (by omega) (cF_st _ _) rfl 2 (by decide) (hN.use nk_X5_60 rfl) rfl rfl rfl rfl rfl (Nat.le_of_ble_eq_true rfl) 0 (cF_st _ _) dX5_setClass_33 (fun H locs hP hS => ?_)
  refine lv_aload_n hx hb dX5_setClass_36 rfl (lv_at hl 1 rfl) ?_
  refine lv_iload_n hx hb dX5_setClass_37 rfl (lv_at hl 4 rfl) ?_
  refine x_pi (va_runS (As := [.int y]) (rest := [.ref (G (6 + 5 * s1))]) ⟨hx, hb, hml, hown, hts⟩ (c_X5_leastWindow l H.size y) (va_cwS 1 hts gX5_setClass_X5_leastWindow rfl rfl rfl (by decide +kernel) ⟨Nat.le_of_ble_eq_true rfl, Nat.le_of_ble_eq_true rfl⟩) ⟨sPc_blind, sPc_at hN⟩ rfl rfl hl.1 rfl (lv_room (Nat.le_of_ble_eq_true rfl)) dX5_setClass_38 ⟨Nat.le_refl _, Nat.le_refl _⟩) hS hA (fun q h => h) (fun H locs hz hk hS => ?_)
  have hP := P_kept hP hk
  refine x_putN hx hb hts mm_X5_setClass_X2 tyX2 tyX2_ok nmX2 hown hK hP hD hS (6 + 5 * s1) (by omega) (cF_st _ _) rfl 3 (by decide) (hN.use nk_X5_67 rfl) rfl rfl rfl rfl rfl (Nat.le_of_ble_eq_true rfl) 1 (cF_st _ _) dX5_setClass_41 (fun H locs hP hS => ?_)
  refine lv_iload hx hb dX5_setClass_44 (lv_at hl 0 rfl) ?_
  exact x_ret_m hx hb hr rfl hlocks hP hS dX5_setClass_46 hq

theorem mm_X5_setReserve_X5 : ∀ w ∈ wsX50, w ∈ wsX5_setReserve := by decide +kernel
theorem lk_X5_setReserve_29 : Cond.fieldLink RX5 29 "BackofficeAir" "reserve" "I" ∈ wsX5_setReserve := by decide +kernel
def f_X5_setReserve (S : Mem) (x : Int32) : Int32 × Mem := (S 0 0, ub S 0 0 x)
theorem f_X5_setReserve_d (S : Mem) (x : Int32) : f_X5_setReserve S x = ((S 0 0, ub S 0 0 x)) := rfl
set_option maxHeartbeats 1000000 in
set_option maxRecDepth 100000 in
theorem c_X5_setReserve (l : Launch) (D : va_G) (cI cS : ClassId) (G : Nat → Nat) (S : Mem) (sz : Nat) (x : Int32) (hv1 : ¬ x < nI 1) (hv2 : x ≤ nI 5) : Met l yX5_setReserve wsX5_setReserve ({ frames := 1, cells := 0, slots := 0, locals := 20 } : Room) (wPc 36 (cF cI cS G) D (tY cI cS) G S sz [.ref (G 0), .int x]) (mQi (f_X5_setReserve S x) 36 (cF cI cS G) D G sz) 0 0 (fA 36 G sz) := by
  refine x_met (cc := cX5_setReserve) (maxL := 3) (ret := (some .int)) (by decide) rfl (Nat.le_of_ble_eq_true rfl) ?_
  intro p e s m below meth c ls hx hb hr hml hts hown hlocks hsz hP hK hD hN hl hnm
  subst hsz
  have hown : s.vm.findClass RX5 = some m.cls := hown
  have hl : lv_has ls 3 [(0, .ref (G 0)), (1, .int x)] := hl
  have hq := f_X5_setReserve_d S x
  have hA : ∀ q : Nat, s.heap.size ≤ q → (fA 36 G s.heap.size) q := fun q h => Or.inr h
  have hS : va_S (fA 36 G s.heap.size) s.heap s.heap [] := va_S.rf
  refine lv_iload_n hx hb dX5_setReserve_0 rfl (lv_at hl 1 rfl) ?_
  refine lv_iconst (v := nI 1) hx hb dX5_setReserve_1 (by decide) ?_
  refine lv_icmp_lt (tgt := 10) hx hb dX5_setReserve_2 (by decide) (fun c_1 => absurd c_1 hv1) (fun _ => ?_)
  refine lv_iload_n hx hb dX5_setReserve_5 rfl (lv_at hl 1 rfl) ?_
  refine lv_iconst (v := nI 5) hx hb dX5_setReserve_6 (by decide) ?_
  refine lv_icmp_le (tgt := 20) hx hb dX5_setReserve_7 (by decide) (fun _ => ?_) (fun c_2 => absurd hv2 c_2) 
  refine lv_aload_n hx hb dX5_setReserve_20 rfl (lv_at hl 0 rfl) ?_
  refine x_get hx hb hts mm_X5_setReserve_X5 hown hK hP (0) (by decide) (cF_air _) rfl 3 (by decide) (hts _ lk_X5_setReserve_29) rfl rfl dX5_setReserve_21 ?_
  refine lv_istore_n (lv' := [(2, .int (S 0 0)), (0, .ref (G 0)), (1, .int x)]) hx hb dX5_setReserve_24 rfl hl (by decide) rfl (fun ls hl => ?_)
  refine lv_aload_n hx hb dX5_setReserve_25 rfl (lv_at hl 1 rfl) ?_
  refine lv_iload_n hx hb dX5_setReserve_26 rfl (lv_at hl 2 rfl) ?_
  refine x_put hx hb hts mm_X5_setReserve_X5 tyX5 tyX5_ok nmX5 hown hK hP hD hS 0 (by decide) (cF_air _) rfl 3 (by decide) (hts _ lk_X5_setReserve_29) rfl rfl rfl rfl rfl (Nat.le_of_ble_eq_true rfl) 0 (cF_air _) dX5_setReserve_27 (fun H locs hP hS => ?_)
  refine lv_iload_n hx hb dX5_setReserve_30 rfl (lv_at hl 0 rfl) ?_
  exact x_ret_m hx hb hr rfl hlocks hP hS dX5_setReserve_31 hq

theorem mm_X5_tell_X4 : ∀ w ∈ wsX40, w ∈ wsX5_tell := by decide +kernel
theorem mm_X5_tell_X5 : ∀ w ∈ wsX50, w ∈ wsX5_tell := by decide +kernel
theorem lk_X5_tell_25 : Cond.fieldLink RX5 25 "BackofficeAir" "told" "LBackofficeAir$Told;" ∈ wsX5_tell := by decide +kernel
theorem nk_X5_74 : Cond.fieldLinkNest RX5 74 "BackofficeAir$Told" "left" "I" "BackofficeAir" ∈ nestW := by decide +kernel
def f_X5_tell (S : Mem) (x : Int32) : Int32 × Mem := ((f_X4_add S x) 4 1, f_X4_add S x)
theorem f_X5_tell_d (S : Mem) (x : Int32) : f_X5_tell S x = (((f_X4_add S x) 4 1, f_X4_add S x)) := rfl
set_option maxHeartbeats 1000000 in
set_option maxRecDepth 100000 in
theorem c_X5_tell (l : Launch) (D : va_G) (cI cS : ClassId) (G : Nat → Nat) (S : Mem) (sz : Nat) (x : Int32) (hv1 : ¬ x < 0) (hv2 : x ≤ nI 1000) (hlt : S 4 1 < nI 200) (hf : S 4 0 = nI (kN (S 4 0))) (hf2 : kN (S 4 0) < 200) (hl1 : S 4 1 = nI (kN (S 4 1))) (hl2 : kN (S 4 1) < 200) : Met l yX5_tell wsX5_tell ({ frames := 2, cells := 0, slots := 0, locals := 42 } : Room) (wPc 36 (cF cI cS G) D (tY cI cS) G S sz [.ref (G 0), .int x]) (mQi (f_X5_tell S x) 36 (cF cI cS G) D G sz) 0 0 (fA 36 G sz) := by
  refine x_met (cc := cX5_tell) (maxL := 2) (ret := (some .int)) (by decide) rfl (Nat.le_of_ble_eq_true rfl) ?_
  intro p e s m below meth c ls hx hb hr hml hts hown hlocks hsz hP hK hD hN hl hnm
  subst hsz
  have hown : s.vm.findClass RX5 = some m.cls := hown
  have hl : lv_has ls 2 [(0, .ref (G 0)), (1, .int x)] := hl
  have hq := f_X5_tell_d S x
  have hA : ∀ q : Nat, s.heap.size ≤ q → (fA 36 G s.heap.size) q := fun q h => Or.inr h
  have hS : va_S (fA 36 G s.heap.size) s.heap s.heap [] := va_S.rf
  refine lv_iload_n hx hb dX5_tell_0 rfl (lv_at hl 1 rfl) ?_
  refine lv_if_lt (tgt := 11) hx hb dX5_tell_1 (by decide) (fun c_1 => absurd c_1 hv1) (fun _ => ?_)
  refine lv_iload_n hx hb dX5_tell_4 rfl (lv_at hl 1 rfl) ?_
  refine lv_sipush (v := nI 1000) hx hb dX5_tell_5 (by decide) ?_
  refine lv_icmp_le (tgt := 21) hx hb dX5_tell_8 (by decide) (fun _ => ?_) (fun c_2 => absurd hv2 c_2) 
  refine lv_aload_n hx hb dX5_tell_21 rfl (lv_at hl 0 rfl) ?_
  refine x_get hx hb hts mm_X5_tell_X5 hown hK hP (0) (by decide) (cF_air _) rfl 2 (by decide) (hts _ lk_X5_tell_25) rfl rfl dX5_tell_22 ?_
  refine x_getN hx hb hts mm_X5_tell_X4 hown hK hP (4) (by decide) (cF_told _) rfl 2 (by decide) (hN.use nk_X5_74 rfl) rfl rfl dX5_tell_25 ?_
  refine lv_sipush (v := nI 200) hx hb dX5_tell_28 (by decide) ?_
  refine lv_icmp_lt (tgt := 44) hx hb dX5_tell_31 (by decide) (fun _ => ?_) (fun c_3 => absurd hlt c_3) 
  refine lv_aload_n hx hb dX5_tell_44 rfl (lv_at hl 0 rfl) ?_
  refine x_get hx hb hts mm_X5_tell_X5 hown hK hP (0) (by decide) (cF_air _) rfl 2 (by decide) (hts _ lk_X5_tell_25) rfl rfl dX5_tell_45 ?_
  refine lv_iload_n hx hb dX5_tell_48 rfl (lv_at hl 1 rfl) ?_
  refine x_mv (va_runV (As := [.int x]) (rest := []) ⟨hx, hb, hml, hown, hts⟩ (c_X4_add l D cI cS G S s.heap.size x hf hf2 hl1 hl2) (cwV 1 hts gX5_tell_X4_add rfl rfl rfl (by decide +kernel) ⟨Nat.le_of_ble_eq_true rfl, Nat.le_of_ble_eq_true rfl⟩) ⟨wPc_blind, va_recv hK hP (ci := 4) (q0 := 4) rfl (WL_at (by decide) (cF_told _)), wPc_at hP hK hD hN⟩ rfl rfl hl.1 rfl (lv_room (Nat.le_of_ble_eq_true rfl)) dX5_tell_49 ⟨Nat.le_refl _, Nat.le_refl _⟩) hS (fA_sub (hD S) (fun q h => hA q (Nat.le_trans hS.1 h))) (fun H locs hz hk hP hS => ?_)
  refine lv_aload_n hx hb dX5_tell_52 rfl (lv_at hl 0 rfl) ?_
  refine x_get hx hb hts mm_X5_tell_X5 hown hK hP (0) (by decide) (cF_air _) rfl 2 (by decide) (hts _ lk_X5_tell_25) rfl rfl dX5_tell_53 ?_
  refine x_getN hx hb hts mm_X5_tell_X4 hown hK hP (4) (by decide) (cF_told _) rfl 2 (by decide) (hN.use nk_X5_74 rfl) rfl rfl dX5_tell_56 ?_
  exact x_ret_m hx hb hr rfl hlocks hP hS dX5_tell_59 hq

theorem mm_X5_frame_X0 : ∀ w ∈ wsX00, w ∈ wsX5_frame := by decide +kernel
theorem mm_X5_frame_X2 : ∀ w ∈ wsX20, w ∈ wsX5_frame := by decide +kernel
def f_X5_frame (S : Mem) (a : Nat) (b : Nat) (v : Int32) : Int32 × Mem := ((f_X0_add S a (nI b) v) (7 + 5 * a) 0, f_X0_add S a (nI b) v)
theorem f_X5_frame_d (S : Mem) (a : Nat) (b : Nat) (v : Int32) : f_X5_frame S a b v = (((f_X0_add S a (nI b) v) (7 + 5 * a) 0, f_X0_add S a (nI b) v)) := rfl
set_option maxHeartbeats 1000000 in
set_option maxRecDepth 100000 in
theorem c_X5_frame (l : Launch) (D : va_G) (cI cS : ClassId) (G : Nat → Nat) (S : Mem) (sz : Nat) (a : Nat) (b : Nat) (v : Int32) (ha : a < 6) (hb6 : b < 6) (hv1 : ¬ v < nI 1) (hv2 : v ≤ nI 4) (hne : ¬ nI a = nI b) (hlt : S (7 + 5 * a) 0 < nI 5) (hc : S (7 + 5 * a) 0 = nI (kN (S (7 + 5 * a) 0))) (hc5 : kN (S (7 + 5 * a) 0) < 5) : Met l yX5_frame wsX5_frame ({ frames := 2, cells := 0, slots := 0, locals := 42 } : Room) (wPc 36 (cF cI cS G) D (tY cI cS) G S sz [.ref (G 0), .int (nI a), .int (nI b), .int v]) (mQi (f_X5_frame S a b v) 36 (cF cI cS G) D G sz) 0 0 (fA 36 G sz) := by
  refine x_met (cc := cX5_frame) (maxL := 5) (ret := (some .int)) (by decide) rfl (Nat.le_of_ble_eq_true rfl) ?_
  intro p e s m below meth c ls hx hb hr hml hts hown hlocks hsz hP hK hD hN hl hnm
  subst hsz
  have hown : s.vm.findClass RX5 = some m.cls := hown
  have hl : lv_has ls 5 [(0, .ref (G 0)), (1, .int (nI a)), (2, .int (nI b)), (3, .int v)] := hl
  have hq := f_X5_frame_d S a b v
  have hA : ∀ q : Nat, s.heap.size ≤ q → (fA 36 G s.heap.size) q := fun q h => Or.inr h
  have hS : va_S (fA 36 G s.heap.size) s.heap s.heap [] := va_S.rf
  refine lv_aload_n hx hb dX5_frame_0 rfl (lv_at hl 0 rfl) ?_
  refine lv_iload_n hx hb dX5_frame_1 rfl (lv_at hl 1 rfl) ?_
  refine x_pr (va_runV (As := [.int (nI a)]) (rest := []) ⟨hx, hb, hml, hown, hts⟩ (c_X5_stationAt l D cI cS G S s.heap.size a (by omega)) (cwV 1 hts gX5_frame_X5_stationAt rfl rfl rfl (by decide +kernel) ⟨Nat.le_of_ble_eq_true rfl, Nat.le_of_ble_eq_true rfl⟩) ⟨wPc_blind, va_recv hK hP (ci := 5) (q0 := 0) rfl (WL_at (by decide) (cF_air _)), wPc_at hP hK hD hN⟩ rfl rfl hl.1 rfl (lv_room (Nat.le_of_ble_eq_true rfl)) dX5_frame_2 ⟨Nat.le_refl _, Nat.le_refl _⟩) hS hA (fun q h => h) (fun H locs hz hk hS => ?_)
  have hP := P_kept hP hk
  refine x_getN hx hb hts mm_X5_frame_X2 hown hK hP (6 + 5 * a) (by omega) (cF_st _ _) rfl 0 (by decide) (hN.use nk_X5_86 rfl) rfl rfl dX5_frame_5 ?_
  refine lv_astore (lv' := [(4, .ref (G (7 + 5 * a))), (0, .ref (G 0)), (1, .int (nI a)), (2, .int (nI b)), (3, .int v)]) hx hb dX5_frame_8 hl (by decide) rfl (fun ls hl => ?_)
  refine lv_aload_n hx hb dX5_frame_10 rfl (lv_at hl 1 rfl) ?_
  refine lv_iload_n hx hb dX5_frame_11 rfl (lv_at hl 3 rfl) ?_
  refine x_pr (va_runV (As := [.int (nI b)]) (rest := []) ⟨hx, hb, hml, hown, hts⟩ (c_X5_stationAt l D cI cS G S H.size b (by omega)) (cwV 1 hts gX5_frame_X5_stationAt rfl rfl rfl (by decide +kernel) ⟨Nat.le_of_ble_eq_true rfl, Nat.le_of_ble_eq_true rfl⟩) ⟨wPc_blind, va_recv hK hP (ci := 5) (q0 := 0) rfl (WL_at (by decide) (cF_air _)), wPc_at hP hK hD hN⟩ rfl rfl hl.1 rfl (lv_room (Nat.le_of_ble_eq_true rfl)) dX5_frame_12 ⟨Nat.le_refl _, Nat.le_refl _⟩) hS hA (fun q h => h) (fun H locs hz hk hS => ?_)
  have hP := P_kept hP hk
  refine lv_pop hx hb dX5_frame_15 rfl ?_
  refine lv_iload_n hx hb dX5_frame_16 rfl (lv_at hl 4 rfl) ?_
  refine lv_iconst (v := nI 1) hx hb dX5_frame_17 (by decide) ?_
  refine lv_icmp_lt (tgt := 26) hx hb dX5_frame_18 (by decide) (fun c_1 => absurd c_1 hv1) (fun _ => ?_)
  refine lv_iload_n hx hb dX5_frame_21 rfl (lv_at hl 4 rfl) ?_
  refine lv_iconst (v := nI 4) hx hb dX5_frame_22 (by decide) ?_
  refine lv_icmp_le (tgt := 36) hx hb dX5_frame_23 (by decide) (fun _ => ?_) (fun c_2 => absurd hv2 c_2) 
  refine lv_iload_n hx hb dX5_frame_36 rfl (lv_at hl 2 rfl) ?_
  refine lv_iload_n hx hb dX5_frame_37 rfl (lv_at hl 3 rfl) ?_
  refine lv_icmp_ne (tgt := 51) hx hb dX5_frame_38 (by decide) (fun _ => ?_) (fun c_3 => absurd c_3 hne)
  refine lv_aload hx hb dX5_frame_51 (lv_at hl 0 rfl) ?_
  refine x_getN hx hb hts mm_X5_frame_X0 hown hK hP (7 + 5 * a) (by omega) (cF_row _ _) rfl 2 (by decide) (hN.use nk_X5_92 rfl) rfl rfl dX5_frame_53 ?_
  refine lv_iconst (v := nI 5) hx hb dX5_frame_56 (by decide) ?_
  refine lv_icmp_lt (tgt := 70) hx hb dX5_frame_57 (by decide) (fun _ => ?_) (fun c_4 => absurd hlt c_4) 
  refine lv_aload hx hb dX5_frame_70 (lv_at hl 0 rfl) ?_
  refine lv_iload_n hx hb dX5_frame_72 rfl (lv_at hl 3 rfl) ?_
  refine lv_iload_n hx hb dX5_frame_73 rfl (lv_at hl 4 rfl) ?_
  refine x_mv (va_runV (As := [.int (nI b), .int v]) (rest := []) ⟨hx, hb, hml, hown, hts⟩ (c_X0_add l D cI cS G S H.size a (nI b) v ha hc hc5) (cwV 2 hts gX5_frame_X0_add rfl rfl rfl (by decide +kernel) ⟨Nat.le_of_ble_eq_true rfl, Nat.le_of_ble_eq_true rfl⟩) ⟨wPc_blind, va_recv hK hP (ci := 0) (q0 := 7 + 5 * a) rfl (WL_at (by omega) (cF_row _ _)), wPc_at hP hK hD hN⟩ rfl rfl hl.1 rfl (lv_room (Nat.le_of_ble_eq_true rfl)) dX5_frame_74 ⟨Nat.le_refl _, Nat.le_refl _⟩) hS (fA_sub (hD S) (fun q h => hA q (Nat.le_trans hS.1 h))) (fun H locs hz hk hP hS => ?_)
  refine lv_aload hx hb dX5_frame_77 (lv_at hl 0 rfl) ?_
  refine x_getN hx hb hts mm_X5_frame_X0 hown hK hP (7 + 5 * a) (by omega) (cF_row _ _) rfl 2 (by decide) (hN.use nk_X5_92 rfl) rfl rfl dX5_frame_79 ?_
  exact x_ret_m hx hb hr rfl hlocks hP hS dX5_frame_82 hq

def f_X5_pass_L1 (k : Nat) : Nat → Nat → Mem → Int32 → Int32 × Mem
  | 0, i, S_L1, q => (q, S_L1)
  | n + 1, i, S_L1, q => f_X5_pass_L1 k n (i + 1) ((f_X5_passOneSlot S_L1).2) (q + ((f_X5_passOneSlot S_L1).1))
theorem f_X5_pass_L1_z (k : Nat) (i : Nat) (S_L1 : Mem) (q : Int32) : f_X5_pass_L1 k 0 i S_L1 q = ((q, S_L1)) := rfl
theorem f_X5_pass_L1_s (k : Nat) (n : Nat) (i : Nat) (S_L1 : Mem) (q : Int32) : f_X5_pass_L1 k (n + 1) i S_L1 q = (f_X5_pass_L1 k n (i + 1) ((f_X5_passOneSlot S_L1).2) (q + ((f_X5_passOneSlot S_L1).1))) := rfl
def f_X5_pass_L1_b (k : Nat) (i : Nat) (S_L1 : Mem) : Mem := (f_X5_passOneSlot S_L1).2
theorem f_X5_pass_L1_b_d (k : Nat) (i : Nat) (S_L1 : Mem) : f_X5_pass_L1_b k i S_L1 = ((f_X5_passOneSlot S_L1).2) := rfl
def ctp (S : Mem) (i : Nat) : Mem := itr (f_X5_pass_L1_b 0) S i
theorem ctp_0 (S : Mem) : ctp S 0 = S := itr_0 _ _
theorem ctp_s (S : Mem) (i : Nat) : ctp S (i + 1) = (f_X5_passOneSlot (ctp S i)).2 := itr_s _ _ _
def f_X5_pass (S : Mem) (k : Nat) : Int32 × Mem := f_X5_pass_L1 k k 0 S (nI 0)
theorem f_X5_pass_d (S : Mem) (k : Nat) : f_X5_pass S k = (f_X5_pass_L1 k k 0 S (nI 0)) := rfl
set_option maxHeartbeats 1000000 in
set_option maxRecDepth 100000 in
theorem c_X5_pass (l : Launch) (D : va_G) (cI cS : ClassId) (G : Nat → Nat) (S : Mem) (sz : Nat) (k : Nat) (hk1 : 1 ≤ k) (hk2 : k ≤ 50) (hall : ∀ j, j < k → pOK (ctp S j)) : Met l yX5_pass wsX5_pass ({ frames := 7, cells := 0, slots := 0, locals := 154 } : Room) (wPc 36 (cF cI cS G) D (tY cI cS) G S sz [.ref (G 0), .int (nI k)]) (mQi (f_X5_pass S k) 36 (cF cI cS G) D G sz) 0 0 (fA 36 G sz) := by
  refine x_met (cc := cX5_pass) (maxL := 4) (ret := (some .int)) (by decide) rfl (Nat.le_of_ble_eq_true rfl) ?_
  intro p e s m below meth c ls hx hb hr hml hts hown hlocks hsz hP hK hD hN hl hnm
  subst hsz
  have hown : s.vm.findClass RX5 = some m.cls := hown
  have hl : lv_has ls 4 [(0, .ref (G 0)), (1, .int (nI k))] := hl
  have hq := f_X5_pass_d S k
  have hA : ∀ q : Nat, s.heap.size ≤ q → (fA 36 G s.heap.size) q := fun q h => Or.inr h
  have hS : va_S (fA 36 G s.heap.size) s.heap s.heap [] := va_S.rf
  refine lv_iload_n hx hb dX5_pass_0 rfl (lv_at hl 1 rfl) ?_
  refine lv_iconst (v := nI 1) hx hb dX5_pass_1 (by decide) ?_
  refine lv_icmp_lt (tgt := 11) hx hb dX5_pass_2 (by decide) (fun c_1 => absurd c_1 (nI_nlt hk1 (by omega))) (fun _ => ?_)
  refine lv_iload_n hx hb dX5_pass_5 rfl (lv_at hl 1 rfl) ?_
  refine lv_bipush (v := nI 50) hx hb dX5_pass_6 (by decide) ?_
  refine lv_icmp_le (tgt := 21) hx hb dX5_pass_8 (by decide) (fun _ => ?_) (fun c_2 => absurd (nI_le hk2 (by omega)) c_2) 
  refine lv_iconst (v := nI 0) hx hb dX5_pass_21 (by decide) ?_
  refine lv_istore_n (lv' := [(2, .int (nI 0)), (0, .ref (G 0)), (1, .int (nI k))]) hx hb dX5_pass_22 rfl hl (by decide) rfl (fun ls hl => ?_)
  refine lv_iconst (v := nI 0) hx hb dX5_pass_23 (by decide) ?_
  refine lv_istore_n (lv' := [(3, .int (nI 0)), (2, .int (nI 0)), (0, .ref (G 0)), (1, .int (nI k))]) hx hb dX5_pass_24 rfl hl (by decide) rfl (fun ls hl => ?_)
  have L1 : ∀ (n : Nat) (i : Nat) (S_L1 : Mem) (q : Int32) (H : Heap) (locs : List Loc) (ls : Array Slot), i + n = k → f_X5_pass S k = f_X5_pass_L1 k n i S_L1 q → (S_L1 = ctp S i) → va_P D vwCl (WL 36 G (cF cI cS G) S_L1) H → va_S (fA 36 G s.heap.size) s.heap H locs → lv_has ls 4 [(3, .int (nI i)), (2, .int q), (0, .ref (G 0)), (1, .int (nI k))] → W p l e ({ frames := 7, cells := 0, slots := 0, locals := 154 } : Room) s m ([.ref (G 0), .int (nI k)] : List Value).toArray below meth c H locs 0 0 (MQ below (mQi (f_X5_pass S k) 36 (cF cI cS G) D G s.heap.size) ([.ref (G 0), .int (nI k)] : List Value).toArray s 0 0 (fA 36 G s.heap.size)) (F0 m 25 ls []) := by
    intro n
    induction n with
    | zero =>
      intro i S_L1 q H locs ls hin hq hv hP hS hl
      have hq := hq.trans (f_X5_pass_L1_z _ _ _ _)
      refine lv_iload_n hx hb dX5_pass_25 rfl (lv_at hl 0 rfl) ?_
      refine lv_iload_n hx hb dX5_pass_26 rfl (lv_at hl 3 rfl) ?_
      refine lv_icmp_ge (tgt := 43) hx hb dX5_pass_27 (by decide) (fun _ => ?_) (fun c_3 => absurd (nI_le (by omega) (by omega)) c_3) 
      refine lv_iload_n hx hb dX5_pass_43 rfl (lv_at hl 1 rfl) ?_
      exact x_ret_m hx hb hr rfl hlocks hP hS dX5_pass_44 hq
    | succ n ih =>
      intro i S_L1 q H locs ls hin hq hv hP hS hl
      have hq := hq.trans (f_X5_pass_L1_s _ _ _ _ _)
      refine lv_iload_n hx hb dX5_pass_25 rfl (lv_at hl 0 rfl) ?_
      refine lv_iload_n hx hb dX5_pass_26 rfl (lv_at hl 3 rfl) ?_
      refine lv_icmp_ge (tgt := 43) hx hb dX5_pass_27 (by decide) (fun c_4 => absurd c_4 (nI_ge (by omega) (by omega))) (fun _ => ?_)
      refine lv_iload_n hx hb dX5_pass_30 rfl (lv_at hl 1 rfl) ?_
      refine lv_aload_n hx hb dX5_pass_31 rfl (lv_at hl 2 rfl) ?_
      refine x_mi (va_runV (As := []) (rest := [.int q]) ⟨hx, hb, hml, hown, hts⟩ (c_X5_passOneSlot l D cI cS G S_L1 H.size (by rw [hv]; exact hall i (by omega))) (cwV 0 hts gX5_pass_X5_passOneSlot rfl rfl rfl (by decide +kernel) ⟨Nat.le_of_ble_eq_true rfl, Nat.le_of_ble_eq_true rfl⟩) ⟨wPc_blind, va_recv hK hP (ci := 5) (q0 := 0) rfl (WL_at (by decide) (cF_air _)), wPc_at hP hK hD hN⟩ rfl rfl hl.1 rfl (lv_room (Nat.le_of_ble_eq_true rfl)) dX5_pass_32 ⟨Nat.le_refl _, Nat.le_refl _⟩) hS (fA_sub (hD S) (fun q h => hA q (Nat.le_trans hS.1 h))) (fun H locs hz hk hP hS => ?_)
      refine lv_iadd hx hb dX5_pass_35 ?_
      refine lv_istore_n (lv' := [(2, .int (q + ((f_X5_passOneSlot S_L1).1))), (3, .int (nI i)), (0, .ref (G 0)), (1, .int (nI k))]) hx hb dX5_pass_36 rfl hl (by decide) rfl (fun ls hl => ?_)
      refine lv_iinc (v := nI (i + 1)) (lv' := [(3, .int (nI (i + 1))), (2, .int (q + ((f_X5_passOneSlot S_L1).1))), (0, .ref (G 0)), (1, .int (nI k))]) hx hb dX5_pass_37 hl (k := 1) rfl (nI_add _ _) (by decide) rfl (fun ls hl => ?_)
      refine lv_goto (tgt := 25) hx hb dX5_pass_40 (by decide) ?_
      have hB : f_X5_pass_L1_b k i S_L1 = (f_X5_passOneSlot S_L1).2 := (f_X5_pass_L1_b_d _ _ _)
      exact ih (i + 1) ((f_X5_passOneSlot S_L1).2) (q + ((f_X5_passOneSlot S_L1).1)) H locs ls (by omega) hq (hB.symm.trans ((congrArg (f_X5_pass_L1_b k i) hv).trans (ctp_s S i).symm)) hP hS (lv_sub hl [0, 1, 2, 3] rfl)
  exact L1 k 0 S (nI 0) _ _ _ (by omega) hq (ctp_0 S).symm hP hS (lv_sub hl [0, 1, 2, 3] rfl)

theorem mm_X5_now_X5 : ∀ w ∈ wsX50, w ∈ wsX5_now := by decide +kernel
theorem lk_X5_now_33 : Cond.fieldLink RX5 33 "BackofficeAir" "slot" "I" ∈ wsX5_now := by decide +kernel
def f_X5_now (S : Mem) : Int32 := S 0 1
theorem f_X5_now_d (S : Mem) : f_X5_now S = (S 0 1) := rfl
set_option maxHeartbeats 1000000 in
set_option maxRecDepth 100000 in
theorem c_X5_now (l : Launch) (D : va_G) (cI cS : ClassId) (G : Nat → Nat) (S : Mem) (sz : Nat) : Met l yX5_now wsX5_now ({ frames := 1, cells := 0, slots := 0, locals := 20 } : Room) (wPc 36 (cF cI cS G) D (tY cI cS) G S sz [.ref (G 0)]) (pQi (f_X5_now S) sz) 0 0 (fun q => sz ≤ q) := by
  refine x_met (cc := cX5_now) (maxL := 1) (ret := (some .int)) (by decide) rfl (Nat.le_of_ble_eq_true rfl) ?_
  intro p e s m below meth c ls hx hb hr hml hts hown hlocks hsz hP hK hD hN hl hnm
  subst hsz
  have hown : s.vm.findClass RX5 = some m.cls := hown
  have hl : lv_has ls 1 [(0, .ref (G 0))] := hl
  have hq := f_X5_now_d S
  have hA : ∀ q : Nat, s.heap.size ≤ q → (fun q => s.heap.size ≤ q) q := fun q h => h
  have hS : va_S (fun q => s.heap.size ≤ q) s.heap s.heap [] := va_S.rf
  refine lv_aload_n hx hb dX5_now_0 rfl (lv_at hl 0 rfl) ?_
  refine x_get hx hb hts mm_X5_now_X5 hown hK hP (0) (by decide) (cF_air _) rfl 4 (by decide) (hts _ lk_X5_now_33) rfl rfl dX5_now_1 ?_
  exact x_ret_p hx hb hr rfl hlocks hS dX5_now_4 hq

theorem mm_X5_numbers_X4 : ∀ w ∈ wsX40, w ∈ wsX5_numbers := by decide +kernel
theorem mm_X5_numbers_X5 : ∀ w ∈ wsX50, w ∈ wsX5_numbers := by decide +kernel
theorem lk_X5_numbers_25 : Cond.fieldLink RX5 25 "BackofficeAir" "told" "LBackofficeAir$Told;" ∈ wsX5_numbers := by decide +kernel
def f_X5_numbers (S : Mem) : Int32 := S 4 1
theorem f_X5_numbers_d (S : Mem) : f_X5_numbers S = (S 4 1) := rfl
set_option maxHeartbeats 1000000 in
set_option maxRecDepth 100000 in
theorem c_X5_numbers (l : Launch) (D : va_G) (cI cS : ClassId) (G : Nat → Nat) (S : Mem) (sz : Nat) : Met l yX5_numbers wsX5_numbers ({ frames := 1, cells := 0, slots := 0, locals := 20 } : Room) (wPc 36 (cF cI cS G) D (tY cI cS) G S sz [.ref (G 0)]) (pQi (f_X5_numbers S) sz) 0 0 (fun q => sz ≤ q) := by
  refine x_met (cc := cX5_numbers) (maxL := 1) (ret := (some .int)) (by decide) rfl (Nat.le_of_ble_eq_true rfl) ?_
  intro p e s m below meth c ls hx hb hr hml hts hown hlocks hsz hP hK hD hN hl hnm
  subst hsz
  have hown : s.vm.findClass RX5 = some m.cls := hown
  have hl : lv_has ls 1 [(0, .ref (G 0))] := hl
  have hq := f_X5_numbers_d S
  have hA : ∀ q : Nat, s.heap.size ≤ q → (fun q => s.heap.size ≤ q) q := fun q h => h
  have hS : va_S (fun q => s.heap.size ≤ q) s.heap s.heap [] := va_S.rf
  refine lv_aload_n hx hb dX5_numbers_0 rfl (lv_at hl 0 rfl) ?_
  refine x_get hx hb hts mm_X5_numbers_X5 hown hK hP (0) (by decide) (cF_air _) rfl 2 (by decide) (hts _ lk_X5_numbers_25) rfl rfl dX5_numbers_1 ?_
  refine x_getN hx hb hts mm_X5_numbers_X4 hown hK hP (4) (by decide) (cF_told _) rfl 2 (by decide) (hN.use nk_X5_74 rfl) rfl rfl dX5_numbers_4 ?_
  exact x_ret_p hx hb hr rfl hlocks hS dX5_numbers_7 hq

theorem mm_X5_sends_X1 : ∀ w ∈ wsX10, w ∈ wsX5_sends := by decide +kernel
theorem mm_X5_sends_X2 : ∀ w ∈ wsX20, w ∈ wsX5_sends := by decide +kernel
def f_X5_sends (S : Mem) (s1 : Nat) : Int32 := S (8 + 5 * s1) 0
theorem f_X5_sends_d (S : Mem) (s1 : Nat) : f_X5_sends S s1 = (S (8 + 5 * s1) 0) := rfl
set_option maxHeartbeats 1000000 in
set_option maxRecDepth 100000 in
theorem c_X5_sends (l : Launch) (D : va_G) (cI cS : ClassId) (G : Nat → Nat) (S : Mem) (sz : Nat) (s1 : Nat) (h1 : s1 < 6) (hbo : narrow .boolean (.int (S (8 + 5 * s1) 0)) = .int (S (8 + 5 * s1) 0)) : Met l yX5_sends wsX5_sends ({ frames := 2, cells := 0, slots := 0, locals := 42 } : Room) (wPc 36 (cF cI cS G) D (tY cI cS) G S sz [.ref (G 0), .int (nI s1)]) (pQi (f_X5_sends S s1) sz) 0 0 (fun q => sz ≤ q) := by
  refine x_met (cc := cX5_sends) (maxL := 2) (ret := (some .boolean)) (by decide) rfl (Nat.le_of_ble_eq_true rfl) ?_
  intro p e s m below meth c ls hx hb hr hml hts hown hlocks hsz hP hK hD hN hl hnm
  subst hsz
  have hown : s.vm.findClass RX5 = some m.cls := hown
  have hl : lv_has ls 2 [(0, .ref (G 0)), (1, .int (nI s1))] := hl
  have hq := f_X5_sends_d S s1
  have hA : ∀ q : Nat, s.heap.size ≤ q → (fun q => s.heap.size ≤ q) q := fun q h => h
  have hS : va_S (fun q => s.heap.size ≤ q) s.heap s.heap [] := va_S.rf
  refine lv_aload_n hx hb dX5_sends_0 rfl (lv_at hl 0 rfl) ?_
  refine lv_iload_n hx hb dX5_sends_1 rfl (lv_at hl 1 rfl) ?_
  refine x_pr (va_runV (As := [.int (nI s1)]) (rest := []) ⟨hx, hb, hml, hown, hts⟩ (c_X5_stationAt l D cI cS G S s.heap.size s1 (by omega)) (cwV 1 hts gX5_sends_X5_stationAt rfl rfl rfl (by decide +kernel) ⟨Nat.le_of_ble_eq_true rfl, Nat.le_of_ble_eq_true rfl⟩) ⟨wPc_blind, va_recv hK hP (ci := 5) (q0 := 0) rfl (WL_at (by decide) (cF_air _)), wPc_at hP hK hD hN⟩ rfl rfl hl.1 rfl (lv_room (Nat.le_of_ble_eq_true rfl)) dX5_sends_2 ⟨Nat.le_refl _, Nat.le_refl _⟩) hS hA (fun q h => h) (fun H locs hz hk hS => ?_)
  have hP := P_kept hP hk
  refine x_getN hx hb hts mm_X5_sends_X2 hown hK hP (6 + 5 * s1) (by omega) (cF_st _ _) rfl 1 (by decide) (hN.use nk_X5_108 rfl) rfl rfl dX5_sends_5 ?_
  refine x_getN hx hb hts mm_X5_sends_X1 hown hK hP (8 + 5 * s1) (by omega) (cF_sd _ _) rfl 0 (by decide) (hN.use nk_X5_112 rfl) rfl rfl dX5_sends_8 ?_
  exact x_ret_p hx hb hr hbo hlocks hS dX5_sends_11 hq

theorem mm_X5_waitOf_X2 : ∀ w ∈ wsX20, w ∈ wsX5_waitOf := by decide +kernel
def f_X5_waitOf (S : Mem) (s1 : Nat) : Int32 := S (6 + 5 * s1) 2
theorem f_X5_waitOf_d (S : Mem) (s1 : Nat) : f_X5_waitOf S s1 = (S (6 + 5 * s1) 2) := rfl
set_option maxHeartbeats 1000000 in
set_option maxRecDepth 100000 in
theorem c_X5_waitOf (l : Launch) (D : va_G) (cI cS : ClassId) (G : Nat → Nat) (S : Mem) (sz : Nat) (s1 : Nat) (h1 : s1 < 6) : Met l yX5_waitOf wsX5_waitOf ({ frames := 2, cells := 0, slots := 0, locals := 42 } : Room) (wPc 36 (cF cI cS G) D (tY cI cS) G S sz [.ref (G 0), .int (nI s1)]) (pQi (f_X5_waitOf S s1) sz) 0 0 (fun q => sz ≤ q) := by
  refine x_met (cc := cX5_waitOf) (maxL := 2) (ret := (some .int)) (by decide) rfl (Nat.le_of_ble_eq_true rfl) ?_
  intro p e s m below meth c ls hx hb hr hml hts hown hlocks hsz hP hK hD hN hl hnm
  subst hsz
  have hown : s.vm.findClass RX5 = some m.cls := hown
  have hl : lv_has ls 2 [(0, .ref (G 0)), (1, .int (nI s1))] := hl
  have hq := f_X5_waitOf_d S s1
  have hA : ∀ q : Nat, s.heap.size ≤ q → (fun q => s.heap.size ≤ q) q := fun q h => h
  have hS : va_S (fun q => s.heap.size ≤ q) s.heap s.heap [] := va_S.rf
  refine lv_aload_n hx hb dX5_waitOf_0 rfl (lv_at hl 0 rfl) ?_
  refine lv_iload_n hx hb dX5_waitOf_1 rfl (lv_at hl 1 rfl) ?_
  refine x_pr (va_runV (As := [.int (nI s1)]) (rest := []) ⟨hx, hb, hml, hown, hts⟩ (c_X5_stationAt l D cI cS G S s.heap.size s1 (by omega)) (cwV 1 hts gX5_waitOf_X5_stationAt rfl rfl rfl (by decide +kernel) ⟨Nat.le_of_ble_eq_true rfl, Nat.le_of_ble_eq_true rfl⟩) ⟨wPc_blind, va_recv hK hP (ci := 5) (q0 := 0) rfl (WL_at (by decide) (cF_air _)), wPc_at hP hK hD hN⟩ rfl rfl hl.1 rfl (lv_room (Nat.le_of_ble_eq_true rfl)) dX5_waitOf_2 ⟨Nat.le_refl _, Nat.le_refl _⟩) hS hA (fun q h => h) (fun H locs hz hk hS => ?_)
  have hP := P_kept hP hk
  refine x_getN hx hb hts mm_X5_waitOf_X2 hown hK hP (6 + 5 * s1) (by omega) (cF_st _ _) rfl 4 (by decide) (hN.use nk_X5_118 rfl) rfl rfl dX5_waitOf_5 ?_
  exact x_ret_p hx hb hr rfl hlocks hS dX5_waitOf_8 hq

theorem mm_X5_window_X2 : ∀ w ∈ wsX20, w ∈ wsX5_window := by decide +kernel
def f_X5_window (S : Mem) (s1 : Nat) : Int32 := S (6 + 5 * s1) 1
theorem f_X5_window_d (S : Mem) (s1 : Nat) : f_X5_window S s1 = (S (6 + 5 * s1) 1) := rfl
set_option maxHeartbeats 1000000 in
set_option maxRecDepth 100000 in
theorem c_X5_window (l : Launch) (D : va_G) (cI cS : ClassId) (G : Nat → Nat) (S : Mem) (sz : Nat) (s1 : Nat) (h1 : s1 < 6) : Met l yX5_window wsX5_window ({ frames := 2, cells := 0, slots := 0, locals := 42 } : Room) (wPc 36 (cF cI cS G) D (tY cI cS) G S sz [.ref (G 0), .int (nI s1)]) (pQi (f_X5_window S s1) sz) 0 0 (fun q => sz ≤ q) := by
  refine x_met (cc := cX5_window) (maxL := 2) (ret := (some .int)) (by decide) rfl (Nat.le_of_ble_eq_true rfl) ?_
  intro p e s m below meth c ls hx hb hr hml hts hown hlocks hsz hP hK hD hN hl hnm
  subst hsz
  have hown : s.vm.findClass RX5 = some m.cls := hown
  have hl : lv_has ls 2 [(0, .ref (G 0)), (1, .int (nI s1))] := hl
  have hq := f_X5_window_d S s1
  have hA : ∀ q : Nat, s.heap.size ≤ q → (fun q => s.heap.size ≤ q) q := fun q h => h
  have hS : va_S (fun q => s.heap.size ≤ q) s.heap s.heap [] := va_S.rf
  refine lv_aload_n hx hb dX5_window_0 rfl (lv_at hl 0 rfl) ?_
  refine lv_iload_n hx hb dX5_window_1 rfl (lv_at hl 1 rfl) ?_
  refine x_pr (va_runV (As := [.int (nI s1)]) (rest := []) ⟨hx, hb, hml, hown, hts⟩ (c_X5_stationAt l D cI cS G S s.heap.size s1 (by omega)) (cwV 1 hts gX5_window_X5_stationAt rfl rfl rfl (by decide +kernel) ⟨Nat.le_of_ble_eq_true rfl, Nat.le_of_ble_eq_true rfl⟩) ⟨wPc_blind, va_recv hK hP (ci := 5) (q0 := 0) rfl (WL_at (by decide) (cF_air _)), wPc_at hP hK hD hN⟩ rfl rfl hl.1 rfl (lv_room (Nat.le_of_ble_eq_true rfl)) dX5_window_2 ⟨Nat.le_refl _, Nat.le_refl _⟩) hS hA (fun q h => h) (fun H locs hz hk hS => ?_)
  have hP := P_kept hP hk
  refine x_getN hx hb hts mm_X5_window_X2 hown hK hP (6 + 5 * s1) (by omega) (cF_st _ _) rfl 3 (by decide) (hN.use nk_X5_67 rfl) rfl rfl dX5_window_5 ?_
  exact x_ret_p hx hb hr rfl hlocks hS dX5_window_8 hq

theorem mm_X5_failures_X2 : ∀ w ∈ wsX20, w ∈ wsX5_failures := by decide +kernel
theorem nk_X5_121 : Cond.fieldLinkNest RX5 121 "BackofficeAir$Station" "failures" "I" "BackofficeAir" ∈ nestW := by decide +kernel
def f_X5_failures (S : Mem) (s1 : Nat) : Int32 := S (6 + 5 * s1) 3
theorem f_X5_failures_d (S : Mem) (s1 : Nat) : f_X5_failures S s1 = (S (6 + 5 * s1) 3) := rfl
set_option maxHeartbeats 1000000 in
set_option maxRecDepth 100000 in
theorem c_X5_failures (l : Launch) (D : va_G) (cI cS : ClassId) (G : Nat → Nat) (S : Mem) (sz : Nat) (s1 : Nat) (h1 : s1 < 6) : Met l yX5_failures wsX5_failures ({ frames := 2, cells := 0, slots := 0, locals := 42 } : Room) (wPc 36 (cF cI cS G) D (tY cI cS) G S sz [.ref (G 0), .int (nI s1)]) (pQi (f_X5_failures S s1) sz) 0 0 (fun q => sz ≤ q) := by
  refine x_met (cc := cX5_failures) (maxL := 2) (ret := (some .int)) (by decide) rfl (Nat.le_of_ble_eq_true rfl) ?_
  intro p e s m below meth c ls hx hb hr hml hts hown hlocks hsz hP hK hD hN hl hnm
  subst hsz
  have hown : s.vm.findClass RX5 = some m.cls := hown
  have hl : lv_has ls 2 [(0, .ref (G 0)), (1, .int (nI s1))] := hl
  have hq := f_X5_failures_d S s1
  have hA : ∀ q : Nat, s.heap.size ≤ q → (fun q => s.heap.size ≤ q) q := fun q h => h
  have hS : va_S (fun q => s.heap.size ≤ q) s.heap s.heap [] := va_S.rf
  refine lv_aload_n hx hb dX5_failures_0 rfl (lv_at hl 0 rfl) ?_
  refine lv_iload_n hx hb dX5_failures_1 rfl (lv_at hl 1 rfl) ?_
  refine x_pr (va_runV (As := [.int (nI s1)]) (rest := []) ⟨hx, hb, hml, hown, hts⟩ (c_X5_stationAt l D cI cS G S s.heap.size s1 (by omega)) (cwV 1 hts gX5_failures_X5_stationAt rfl rfl rfl (by decide +kernel) ⟨Nat.le_of_ble_eq_true rfl, Nat.le_of_ble_eq_true rfl⟩) ⟨wPc_blind, va_recv hK hP (ci := 5) (q0 := 0) rfl (WL_at (by decide) (cF_air _)), wPc_at hP hK hD hN⟩ rfl rfl hl.1 rfl (lv_room (Nat.le_of_ble_eq_true rfl)) dX5_failures_2 ⟨Nat.le_refl _, Nat.le_refl _⟩) hS hA (fun q h => h) (fun H locs hz hk hS => ?_)
  have hP := P_kept hP hk
  refine x_getN hx hb hts mm_X5_failures_X2 hown hK hP (6 + 5 * s1) (by omega) (cF_st _ _) rfl 5 (by decide) (hN.use nk_X5_121 rfl) rfl rfl dX5_failures_5 ?_
  exact x_ret_p hx hb hr rfl hlocks hS dX5_failures_8 hq

theorem mm_X5_silencedTo_X2 : ∀ w ∈ wsX20, w ∈ wsX5_silencedTo := by decide +kernel
def f_X5_silencedTo (S : Mem) (s1 : Nat) : Int32 := S (6 + 5 * s1) 4
theorem f_X5_silencedTo_d (S : Mem) (s1 : Nat) : f_X5_silencedTo S s1 = (S (6 + 5 * s1) 4) := rfl
set_option maxHeartbeats 1000000 in
set_option maxRecDepth 100000 in
theorem c_X5_silencedTo (l : Launch) (D : va_G) (cI cS : ClassId) (G : Nat → Nat) (S : Mem) (sz : Nat) (s1 : Nat) (h1 : s1 < 6) : Met l yX5_silencedTo wsX5_silencedTo ({ frames := 2, cells := 0, slots := 0, locals := 42 } : Room) (wPc 36 (cF cI cS G) D (tY cI cS) G S sz [.ref (G 0), .int (nI s1)]) (pQi (f_X5_silencedTo S s1) sz) 0 0 (fun q => sz ≤ q) := by
  refine x_met (cc := cX5_silencedTo) (maxL := 2) (ret := (some .int)) (by decide) rfl (Nat.le_of_ble_eq_true rfl) ?_
  intro p e s m below meth c ls hx hb hr hml hts hown hlocks hsz hP hK hD hN hl hnm
  subst hsz
  have hown : s.vm.findClass RX5 = some m.cls := hown
  have hl : lv_has ls 2 [(0, .ref (G 0)), (1, .int (nI s1))] := hl
  have hq := f_X5_silencedTo_d S s1
  have hA : ∀ q : Nat, s.heap.size ≤ q → (fun q => s.heap.size ≤ q) q := fun q h => h
  have hS : va_S (fun q => s.heap.size ≤ q) s.heap s.heap [] := va_S.rf
  refine lv_aload_n hx hb dX5_silencedTo_0 rfl (lv_at hl 0 rfl) ?_
  refine lv_iload_n hx hb dX5_silencedTo_1 rfl (lv_at hl 1 rfl) ?_
  refine x_pr (va_runV (As := [.int (nI s1)]) (rest := []) ⟨hx, hb, hml, hown, hts⟩ (c_X5_stationAt l D cI cS G S s.heap.size s1 (by omega)) (cwV 1 hts gX5_silencedTo_X5_stationAt rfl rfl rfl (by decide +kernel) ⟨Nat.le_of_ble_eq_true rfl, Nat.le_of_ble_eq_true rfl⟩) ⟨wPc_blind, va_recv hK hP (ci := 5) (q0 := 0) rfl (WL_at (by decide) (cF_air _)), wPc_at hP hK hD hN⟩ rfl rfl hl.1 rfl (lv_room (Nat.le_of_ble_eq_true rfl)) dX5_silencedTo_2 ⟨Nat.le_refl _, Nat.le_refl _⟩) hS hA (fun q h => h) (fun H locs hz hk hS => ?_)
  have hP := P_kept hP hk
  refine x_getN hx hb hts mm_X5_silencedTo_X2 hown hK hP (6 + 5 * s1) (by omega) (cF_st _ _) rfl 6 (by decide) (hN.use nk_X5_124 rfl) rfl rfl dX5_silencedTo_5 ?_
  exact x_ret_p hx hb hr rfl hlocks hS dX5_silencedTo_8 hq

theorem mm_X5_frames_X0 : ∀ w ∈ wsX00, w ∈ wsX5_frames := by decide +kernel
theorem mm_X5_frames_X2 : ∀ w ∈ wsX20, w ∈ wsX5_frames := by decide +kernel
def f_X5_frames (S : Mem) (s1 : Nat) : Int32 := S (7 + 5 * s1) 0
theorem f_X5_frames_d (S : Mem) (s1 : Nat) : f_X5_frames S s1 = (S (7 + 5 * s1) 0) := rfl
set_option maxHeartbeats 1000000 in
set_option maxRecDepth 100000 in
theorem c_X5_frames (l : Launch) (D : va_G) (cI cS : ClassId) (G : Nat → Nat) (S : Mem) (sz : Nat) (s1 : Nat) (h1 : s1 < 6) : Met l yX5_frames wsX5_frames ({ frames := 2, cells := 0, slots := 0, locals := 42 } : Room) (wPc 36 (cF cI cS G) D (tY cI cS) G S sz [.ref (G 0), .int (nI s1)]) (pQi (f_X5_frames S s1) sz) 0 0 (fun q => sz ≤ q) := by
  refine x_met (cc := cX5_frames) (maxL := 2) (ret := (some .int)) (by decide) rfl (Nat.le_of_ble_eq_true rfl) ?_
  intro p e s m below meth c ls hx hb hr hml hts hown hlocks hsz hP hK hD hN hl hnm
  subst hsz
  have hown : s.vm.findClass RX5 = some m.cls := hown
  have hl : lv_has ls 2 [(0, .ref (G 0)), (1, .int (nI s1))] := hl
  have hq := f_X5_frames_d S s1
  have hA : ∀ q : Nat, s.heap.size ≤ q → (fun q => s.heap.size ≤ q) q := fun q h => h
  have hS : va_S (fun q => s.heap.size ≤ q) s.heap s.heap [] := va_S.rf
  refine lv_aload_n hx hb dX5_frames_0 rfl (lv_at hl 0 rfl) ?_
  refine lv_iload_n hx hb dX5_frames_1 rfl (lv_at hl 1 rfl) ?_
  refine x_pr (va_runV (As := [.int (nI s1)]) (rest := []) ⟨hx, hb, hml, hown, hts⟩ (c_X5_stationAt l D cI cS G S s.heap.size s1 (by omega)) (cwV 1 hts gX5_frames_X5_stationAt rfl rfl rfl (by decide +kernel) ⟨Nat.le_of_ble_eq_true rfl, Nat.le_of_ble_eq_true rfl⟩) ⟨wPc_blind, va_recv hK hP (ci := 5) (q0 := 0) rfl (WL_at (by decide) (cF_air _)), wPc_at hP hK hD hN⟩ rfl rfl hl.1 rfl (lv_room (Nat.le_of_ble_eq_true rfl)) dX5_frames_2 ⟨Nat.le_refl _, Nat.le_refl _⟩) hS hA (fun q h => h) (fun H locs hz hk hS => ?_)
  have hP := P_kept hP hk
  refine x_getN hx hb hts mm_X5_frames_X2 hown hK hP (6 + 5 * s1) (by omega) (cF_st _ _) rfl 0 (by decide) (hN.use nk_X5_86 rfl) rfl rfl dX5_frames_5 ?_
  refine x_getN hx hb hts mm_X5_frames_X0 hown hK hP (7 + 5 * s1) (by omega) (cF_row _ _) rfl 2 (by decide) (hN.use nk_X5_92 rfl) rfl rfl dX5_frames_8 ?_
  exact x_ret_p hx hb hr rfl hlocks hS dX5_frames_11 hq

theorem mm_X5_partsLeft_X2 : ∀ w ∈ wsX20, w ∈ wsX5_partsLeft := by decide +kernel
def f_X5_partsLeft (S : Mem) (s1 : Nat) : Int32 := f_X0_partsOfFirst S s1
theorem f_X5_partsLeft_d (S : Mem) (s1 : Nat) : f_X5_partsLeft S s1 = (f_X0_partsOfFirst S s1) := rfl
set_option maxHeartbeats 1000000 in
set_option maxRecDepth 100000 in
theorem c_X5_partsLeft (l : Launch) (D : va_G) (cI cS : ClassId) (G : Nat → Nat) (S : Mem) (sz : Nat) (s1 : Nat) (h1 : s1 < 6) : Met l yX5_partsLeft wsX5_partsLeft ({ frames := 2, cells := 0, slots := 0, locals := 42 } : Room) (wPc 36 (cF cI cS G) D (tY cI cS) G S sz [.ref (G 0), .int (nI s1)]) (pQi (f_X5_partsLeft S s1) sz) 0 0 (fun q => sz ≤ q) := by
  refine x_met (cc := cX5_partsLeft) (maxL := 2) (ret := (some .int)) (by decide) rfl (Nat.le_of_ble_eq_true rfl) ?_
  intro p e s m below meth c ls hx hb hr hml hts hown hlocks hsz hP hK hD hN hl hnm
  subst hsz
  have hown : s.vm.findClass RX5 = some m.cls := hown
  have hl : lv_has ls 2 [(0, .ref (G 0)), (1, .int (nI s1))] := hl
  have hq := f_X5_partsLeft_d S s1
  have hA : ∀ q : Nat, s.heap.size ≤ q → (fun q => s.heap.size ≤ q) q := fun q h => h
  have hS : va_S (fun q => s.heap.size ≤ q) s.heap s.heap [] := va_S.rf
  refine lv_aload_n hx hb dX5_partsLeft_0 rfl (lv_at hl 0 rfl) ?_
  refine lv_iload_n hx hb dX5_partsLeft_1 rfl (lv_at hl 1 rfl) ?_
  refine x_pr (va_runV (As := [.int (nI s1)]) (rest := []) ⟨hx, hb, hml, hown, hts⟩ (c_X5_stationAt l D cI cS G S s.heap.size s1 (by omega)) (cwV 1 hts gX5_partsLeft_X5_stationAt rfl rfl rfl (by decide +kernel) ⟨Nat.le_of_ble_eq_true rfl, Nat.le_of_ble_eq_true rfl⟩) ⟨wPc_blind, va_recv hK hP (ci := 5) (q0 := 0) rfl (WL_at (by decide) (cF_air _)), wPc_at hP hK hD hN⟩ rfl rfl hl.1 rfl (lv_room (Nat.le_of_ble_eq_true rfl)) dX5_partsLeft_2 ⟨Nat.le_refl _, Nat.le_refl _⟩) hS hA (fun q h => h) (fun H locs hz hk hS => ?_)
  have hP := P_kept hP hk
  refine x_getN hx hb hts mm_X5_partsLeft_X2 hown hK hP (6 + 5 * s1) (by omega) (cF_st _ _) rfl 0 (by decide) (hN.use nk_X5_86 rfl) rfl rfl dX5_partsLeft_5 ?_
  refine x_pi (va_runV (As := []) (rest := []) ⟨hx, hb, hml, hown, hts⟩ (c_X0_partsOfFirst l D cI cS G S H.size s1 (by omega)) (cwV 0 hts gX5_partsLeft_X0_partsOfFirst rfl rfl rfl (by decide +kernel) ⟨Nat.le_of_ble_eq_true rfl, Nat.le_of_ble_eq_true rfl⟩) ⟨wPc_blind, va_recv hK hP (ci := 0) (q0 := 7 + 5 * s1) rfl (WL_at (by omega) (cF_row _ _)), wPc_at hP hK hD hN⟩ rfl rfl hl.1 rfl (lv_room (Nat.le_of_ble_eq_true rfl)) dX5_partsLeft_8 ⟨Nat.le_refl _, Nat.le_refl _⟩) hS hA (fun q h => h) (fun H locs hz hk hS => ?_)
  have hP := P_kept hP hk
  exact x_ret_p hx hb hr rfl hlocks hS dX5_partsLeft_11 hq

theorem mm_X5_delivered_X2 : ∀ w ∈ wsX20, w ∈ wsX5_delivered := by decide +kernel
theorem nk_X5_130 : Cond.fieldLinkNest RX5 130 "BackofficeAir$Station" "delivered" "I" "BackofficeAir" ∈ nestW := by decide +kernel
def f_X5_delivered (S : Mem) (s1 : Nat) : Int32 := S (6 + 5 * s1) 5
theorem f_X5_delivered_d (S : Mem) (s1 : Nat) : f_X5_delivered S s1 = (S (6 + 5 * s1) 5) := rfl
set_option maxHeartbeats 1000000 in
set_option maxRecDepth 100000 in
theorem c_X5_delivered (l : Launch) (D : va_G) (cI cS : ClassId) (G : Nat → Nat) (S : Mem) (sz : Nat) (s1 : Nat) (h1 : s1 < 6) : Met l yX5_delivered wsX5_delivered ({ frames := 2, cells := 0, slots := 0, locals := 42 } : Room) (wPc 36 (cF cI cS G) D (tY cI cS) G S sz [.ref (G 0), .int (nI s1)]) (pQi (f_X5_delivered S s1) sz) 0 0 (fun q => sz ≤ q) := by
  refine x_met (cc := cX5_delivered) (maxL := 2) (ret := (some .int)) (by decide) rfl (Nat.le_of_ble_eq_true rfl) ?_
  intro p e s m below meth c ls hx hb hr hml hts hown hlocks hsz hP hK hD hN hl hnm
  subst hsz
  have hown : s.vm.findClass RX5 = some m.cls := hown
  have hl : lv_has ls 2 [(0, .ref (G 0)), (1, .int (nI s1))] := hl
  have hq := f_X5_delivered_d S s1
  have hA : ∀ q : Nat, s.heap.size ≤ q → (fun q => s.heap.size ≤ q) q := fun q h => h
  have hS : va_S (fun q => s.heap.size ≤ q) s.heap s.heap [] := va_S.rf
  refine lv_aload_n hx hb dX5_delivered_0 rfl (lv_at hl 0 rfl) ?_
  refine lv_iload_n hx hb dX5_delivered_1 rfl (lv_at hl 1 rfl) ?_
  refine x_pr (va_runV (As := [.int (nI s1)]) (rest := []) ⟨hx, hb, hml, hown, hts⟩ (c_X5_stationAt l D cI cS G S s.heap.size s1 (by omega)) (cwV 1 hts gX5_delivered_X5_stationAt rfl rfl rfl (by decide +kernel) ⟨Nat.le_of_ble_eq_true rfl, Nat.le_of_ble_eq_true rfl⟩) ⟨wPc_blind, va_recv hK hP (ci := 5) (q0 := 0) rfl (WL_at (by decide) (cF_air _)), wPc_at hP hK hD hN⟩ rfl rfl hl.1 rfl (lv_room (Nat.le_of_ble_eq_true rfl)) dX5_delivered_2 ⟨Nat.le_refl _, Nat.le_refl _⟩) hS hA (fun q h => h) (fun H locs hz hk hS => ?_)
  have hP := P_kept hP hk
  refine x_getN hx hb hts mm_X5_delivered_X2 hown hK hP (6 + 5 * s1) (by omega) (cF_st _ _) rfl 7 (by decide) (hN.use nk_X5_130 rfl) rfl rfl dX5_delivered_5 ?_
  exact x_ret_p hx hb hr rfl hlocks hS dX5_delivered_8 hq

theorem mm_X5_dropped_X2 : ∀ w ∈ wsX20, w ∈ wsX5_dropped := by decide +kernel
theorem nk_X5_133 : Cond.fieldLinkNest RX5 133 "BackofficeAir$Station" "dropped" "I" "BackofficeAir" ∈ nestW := by decide +kernel
def f_X5_dropped (S : Mem) (s1 : Nat) : Int32 := S (6 + 5 * s1) 6
theorem f_X5_dropped_d (S : Mem) (s1 : Nat) : f_X5_dropped S s1 = (S (6 + 5 * s1) 6) := rfl
set_option maxHeartbeats 1000000 in
set_option maxRecDepth 100000 in
theorem c_X5_dropped (l : Launch) (D : va_G) (cI cS : ClassId) (G : Nat → Nat) (S : Mem) (sz : Nat) (s1 : Nat) (h1 : s1 < 6) : Met l yX5_dropped wsX5_dropped ({ frames := 2, cells := 0, slots := 0, locals := 42 } : Room) (wPc 36 (cF cI cS G) D (tY cI cS) G S sz [.ref (G 0), .int (nI s1)]) (pQi (f_X5_dropped S s1) sz) 0 0 (fun q => sz ≤ q) := by
  refine x_met (cc := cX5_dropped) (maxL := 2) (ret := (some .int)) (by decide) rfl (Nat.le_of_ble_eq_true rfl) ?_
  intro p e s m below meth c ls hx hb hr hml hts hown hlocks hsz hP hK hD hN hl hnm
  subst hsz
  have hown : s.vm.findClass RX5 = some m.cls := hown
  have hl : lv_has ls 2 [(0, .ref (G 0)), (1, .int (nI s1))] := hl
  have hq := f_X5_dropped_d S s1
  have hA : ∀ q : Nat, s.heap.size ≤ q → (fun q => s.heap.size ≤ q) q := fun q h => h
  have hS : va_S (fun q => s.heap.size ≤ q) s.heap s.heap [] := va_S.rf
  refine lv_aload_n hx hb dX5_dropped_0 rfl (lv_at hl 0 rfl) ?_
  refine lv_iload_n hx hb dX5_dropped_1 rfl (lv_at hl 1 rfl) ?_
  refine x_pr (va_runV (As := [.int (nI s1)]) (rest := []) ⟨hx, hb, hml, hown, hts⟩ (c_X5_stationAt l D cI cS G S s.heap.size s1 (by omega)) (cwV 1 hts gX5_dropped_X5_stationAt rfl rfl rfl (by decide +kernel) ⟨Nat.le_of_ble_eq_true rfl, Nat.le_of_ble_eq_true rfl⟩) ⟨wPc_blind, va_recv hK hP (ci := 5) (q0 := 0) rfl (WL_at (by decide) (cF_air _)), wPc_at hP hK hD hN⟩ rfl rfl hl.1 rfl (lv_room (Nat.le_of_ble_eq_true rfl)) dX5_dropped_2 ⟨Nat.le_refl _, Nat.le_refl _⟩) hS hA (fun q h => h) (fun H locs hz hk hS => ?_)
  have hP := P_kept hP hk
  refine x_getN hx hb hts mm_X5_dropped_X2 hown hK hP (6 + 5 * s1) (by omega) (cF_st _ _) rfl 8 (by decide) (hN.use nk_X5_133 rfl) rfl rfl dX5_dropped_5 ?_
  exact x_ret_p hx hb hr rfl hlocks hS dX5_dropped_8 hq

theorem mm_X5_airtime_X2 : ∀ w ∈ wsX20, w ∈ wsX5_airtime := by decide +kernel
def f_X5_airtime (S : Mem) (s1 : Nat) : Int32 := S (6 + 5 * s1) 7
theorem f_X5_airtime_d (S : Mem) (s1 : Nat) : f_X5_airtime S s1 = (S (6 + 5 * s1) 7) := rfl
set_option maxHeartbeats 1000000 in
set_option maxRecDepth 100000 in
theorem c_X5_airtime (l : Launch) (D : va_G) (cI cS : ClassId) (G : Nat → Nat) (S : Mem) (sz : Nat) (s1 : Nat) (h1 : s1 < 6) : Met l yX5_airtime wsX5_airtime ({ frames := 2, cells := 0, slots := 0, locals := 42 } : Room) (wPc 36 (cF cI cS G) D (tY cI cS) G S sz [.ref (G 0), .int (nI s1)]) (pQi (f_X5_airtime S s1) sz) 0 0 (fun q => sz ≤ q) := by
  refine x_met (cc := cX5_airtime) (maxL := 2) (ret := (some .int)) (by decide) rfl (Nat.le_of_ble_eq_true rfl) ?_
  intro p e s m below meth c ls hx hb hr hml hts hown hlocks hsz hP hK hD hN hl hnm
  subst hsz
  have hown : s.vm.findClass RX5 = some m.cls := hown
  have hl : lv_has ls 2 [(0, .ref (G 0)), (1, .int (nI s1))] := hl
  have hq := f_X5_airtime_d S s1
  have hA : ∀ q : Nat, s.heap.size ≤ q → (fun q => s.heap.size ≤ q) q := fun q h => h
  have hS : va_S (fun q => s.heap.size ≤ q) s.heap s.heap [] := va_S.rf
  refine lv_aload_n hx hb dX5_airtime_0 rfl (lv_at hl 0 rfl) ?_
  refine lv_iload_n hx hb dX5_airtime_1 rfl (lv_at hl 1 rfl) ?_
  refine x_pr (va_runV (As := [.int (nI s1)]) (rest := []) ⟨hx, hb, hml, hown, hts⟩ (c_X5_stationAt l D cI cS G S s.heap.size s1 (by omega)) (cwV 1 hts gX5_airtime_X5_stationAt rfl rfl rfl (by decide +kernel) ⟨Nat.le_of_ble_eq_true rfl, Nat.le_of_ble_eq_true rfl⟩) ⟨wPc_blind, va_recv hK hP (ci := 5) (q0 := 0) rfl (WL_at (by decide) (cF_air _)), wPc_at hP hK hD hN⟩ rfl rfl hl.1 rfl (lv_room (Nat.le_of_ble_eq_true rfl)) dX5_airtime_2 ⟨Nat.le_refl _, Nat.le_refl _⟩) hS hA (fun q h => h) (fun H locs hz hk hS => ?_)
  have hP := P_kept hP hk
  refine x_getN hx hb hts mm_X5_airtime_X2 hown hK hP (6 + 5 * s1) (by omega) (cF_st _ _) rfl 9 (by decide) (hN.use nk_X5_136 rfl) rfl rfl dX5_airtime_5 ?_
  exact x_ret_p hx hb hr rfl hlocks hS dX5_airtime_8 hq

theorem mm_X5_airtimeBySendings_X1 : ∀ w ∈ wsX10, w ∈ wsX5_airtimeBySendings := by decide +kernel
theorem mm_X5_airtimeBySendings_X2 : ∀ w ∈ wsX20, w ∈ wsX5_airtimeBySendings := by decide +kernel
theorem mm_X5_airtimeBySendings_X5 : ∀ w ∈ wsX50, w ∈ wsX5_airtimeBySendings := by decide +kernel
theorem lk_X5_airtimeBySendings_33 : Cond.fieldLink RX5 33 "BackofficeAir" "slot" "I" ∈ wsX5_airtimeBySendings := by decide +kernel
theorem nk_X5_139 : Cond.fieldLinkNest RX5 139 "BackofficeAir$Station" "slotsOfEnded" "I" "BackofficeAir" ∈ nestW := by decide +kernel
def f_X5_airtimeBySendings (S : Mem) (s1 : Nat) : Int32 := if S (8 + 5 * s1) 0 = 0 then ((S (6 + 5 * s1) 8) + (nI 0)) else ((S (6 + 5 * s1) 8) + (f_X1_slotsUpTo S s1 (S 0 1)))
theorem f_X5_airtimeBySendings_d (S : Mem) (s1 : Nat) : f_X5_airtimeBySendings S s1 = (if S (8 + 5 * s1) 0 = 0 then ((S (6 + 5 * s1) 8) + (nI 0)) else ((S (6 + 5 * s1) 8) + (f_X1_slotsUpTo S s1 (S 0 1)))) := rfl
set_option maxHeartbeats 1000000 in
set_option maxRecDepth 100000 in
theorem c_X5_airtimeBySendings (l : Launch) (D : va_G) (cI cS : ClassId) (G : Nat → Nat) (S : Mem) (sz : Nat) (s1 : Nat) (h1 : s1 < 6) : Met l yX5_airtimeBySendings wsX5_airtimeBySendings ({ frames := 2, cells := 0, slots := 0, locals := 42 } : Room) (wPc 36 (cF cI cS G) D (tY cI cS) G S sz [.ref (G 0), .int (nI s1)]) (pQi (f_X5_airtimeBySendings S s1) sz) 0 0 (fun q => sz ≤ q) := by
  refine x_met (cc := cX5_airtimeBySendings) (maxL := 3) (ret := (some .int)) (by decide) rfl (Nat.le_of_ble_eq_true rfl) ?_
  intro p e s m below meth c ls hx hb hr hml hts hown hlocks hsz hP hK hD hN hl hnm
  subst hsz
  have hown : s.vm.findClass RX5 = some m.cls := hown
  have hl : lv_has ls 3 [(0, .ref (G 0)), (1, .int (nI s1))] := hl
  have hq := f_X5_airtimeBySendings_d S s1
  have hA : ∀ q : Nat, s.heap.size ≤ q → (fun q => s.heap.size ≤ q) q := fun q h => h
  have hS : va_S (fun q => s.heap.size ≤ q) s.heap s.heap [] := va_S.rf
  refine lv_aload_n hx hb dX5_airtimeBySendings_0 rfl (lv_at hl 0 rfl) ?_
  refine lv_iload_n hx hb dX5_airtimeBySendings_1 rfl (lv_at hl 1 rfl) ?_
  refine x_pr (va_runV (As := [.int (nI s1)]) (rest := []) ⟨hx, hb, hml, hown, hts⟩ (c_X5_stationAt l D cI cS G S s.heap.size s1 (by omega)) (cwV 1 hts gX5_airtimeBySendings_X5_stationAt rfl rfl rfl (by decide +kernel) ⟨Nat.le_of_ble_eq_true rfl, Nat.le_of_ble_eq_true rfl⟩) ⟨wPc_blind, va_recv hK hP (ci := 5) (q0 := 0) rfl (WL_at (by decide) (cF_air _)), wPc_at hP hK hD hN⟩ rfl rfl hl.1 rfl (lv_room (Nat.le_of_ble_eq_true rfl)) dX5_airtimeBySendings_2 ⟨Nat.le_refl _, Nat.le_refl _⟩) hS hA (fun q h => h) (fun H locs hz hk hS => ?_)
  have hP := P_kept hP hk
  refine lv_astore_n (lv' := [(2, .ref (G (6 + 5 * s1))), (0, .ref (G 0)), (1, .int (nI s1))]) hx hb dX5_airtimeBySendings_5 rfl hl (by decide) rfl (fun ls hl => ?_)
  refine lv_aload_n hx hb dX5_airtimeBySendings_6 rfl (lv_at hl 0 rfl) ?_
  refine x_getN hx hb hts mm_X5_airtimeBySendings_X2 hown hK hP (6 + 5 * s1) (by omega) (cF_st _ _) rfl 10 (by decide) (hN.use nk_X5_139 rfl) rfl rfl dX5_airtimeBySendings_7 ?_
  refine lv_aload_n hx hb dX5_airtimeBySendings_10 rfl (lv_at hl 0 rfl) ?_
  refine x_getN hx hb hts mm_X5_airtimeBySendings_X2 hown hK hP (6 + 5 * s1) (by omega) (cF_st _ _) rfl 1 (by decide) (hN.use nk_X5_108 rfl) rfl rfl dX5_airtimeBySendings_11 ?_
  refine x_getN hx hb hts mm_X5_airtimeBySendings_X1 hown hK hP (8 + 5 * s1) (by omega) (cF_sd _ _) rfl 0 (by decide) (hN.use nk_X5_112 rfl) rfl rfl dX5_airtimeBySendings_14 ?_
  refine lv_if_eq (tgt := 34) hx hb dX5_airtimeBySendings_17 (by decide) (fun c_1 => ?_) (fun c_1 => ?_)
  · have hq := hq.trans (if_pos c_1)
    refine lv_iconst (v := nI 0) hx hb dX5_airtimeBySendings_34 (by decide) ?_
    refine lv_iadd hx hb dX5_airtimeBySendings_35 ?_
    exact x_ret_p hx hb hr rfl hlocks hS dX5_airtimeBySendings_36 hq
  · have hq := hq.trans (if_neg c_1)
    refine lv_aload_n hx hb dX5_airtimeBySendings_20 rfl (lv_at hl 0 rfl) ?_
    refine x_getN hx hb hts mm_X5_airtimeBySendings_X2 hown hK hP (6 + 5 * s1) (by omega) (cF_st _ _) rfl 1 (by decide) (hN.use nk_X5_108 rfl) rfl rfl dX5_airtimeBySendings_21 ?_
    refine lv_aload_n hx hb dX5_airtimeBySendings_24 rfl (lv_at hl 1 rfl) ?_
    refine x_get hx hb hts mm_X5_airtimeBySendings_X5 hown hK hP (0) (by decide) (cF_air _) rfl 4 (by decide) (hts _ lk_X5_airtimeBySendings_33) rfl rfl dX5_airtimeBySendings_25 ?_
    refine x_pi (va_runV (As := [.int (S 0 1)]) (rest := [.int (S (6 + 5 * s1) 8)]) ⟨hx, hb, hml, hown, hts⟩ (c_X1_slotsUpTo l D cI cS G S H.size s1 (S 0 1) (by omega)) (cwV 1 hts gX5_airtimeBySendings_X1_slotsUpTo rfl rfl rfl (by decide +kernel) ⟨Nat.le_of_ble_eq_true rfl, Nat.le_of_ble_eq_true rfl⟩) ⟨wPc_blind, va_recv hK hP (ci := 1) (q0 := 8 + 5 * s1) rfl (WL_at (by omega) (cF_sd _ _)), wPc_at hP hK hD hN⟩ rfl rfl hl.1 rfl (lv_room (Nat.le_of_ble_eq_true rfl)) dX5_airtimeBySendings_28 ⟨Nat.le_refl _, Nat.le_refl _⟩) hS hA (fun q h => h) (fun H locs hz hk hS => ?_)
    have hP := P_kept hP hk
    refine lv_goto (tgt := 35) hx hb dX5_airtimeBySendings_31 (by decide) ?_
    refine lv_iadd hx hb dX5_airtimeBySendings_35 ?_
    exact x_ret_p hx hb hr rfl hlocks hS dX5_airtimeBySendings_36 hq

