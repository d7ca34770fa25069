def kN (x : Int32) : Nat := x.toNatClampNeg
theorem kN_nI {n : Nat} (h : n < 2 ^ 31) : kN (nI n) = n := nI_clamp h
theorem nI_ge0 {n : Nat} (h : n < 2 ^ 31) : 0 ≤ nI n := nI_pos' h
theorem nI_inj {a b : Nat} (ha : a < 2 ^ 31) (hb : b < 2 ^ 31) (h : nI a = nI b) : a = b := (nI_eq ha hb).mp h

def ush (x : Int32) (k : Nat) : Int32 := (x.toUInt32 >>> ((nI k).toUInt32 &&& Int32.toUInt32 31)).toInt32
def bc1 (x : Int32) : Int32 := x - (ush x 1 &&& 1431655765)
def bc2 (x : Int32) : Int32 := (x &&& 858993459) + (ush x 2 &&& 858993459)
def bc3 (x : Int32) : Int32 := (x + ush x 4) &&& 252645135
def bc4 (x : Int32) : Int32 := x + ush x 8
def bc5 (x : Int32) : Int32 := x + ush x 16

theorem lc_J6_bitCount_0f7a4_265 : Cond.constant RJ6 265 (1431655765) ∈ wsJ6_bitCount_0f7a4 := by decide +kernel
theorem lc_J6_bitCount_0f7a4_266 : Cond.constant RJ6 266 (858993459) ∈ wsJ6_bitCount_0f7a4 := by decide +kernel
theorem lc_J6_bitCount_0f7a4_267 : Cond.constant RJ6 267 (252645135) ∈ wsJ6_bitCount_0f7a4 := by decide +kernel
def f_J6_bitCount_0f7a4 (x : Int32) : Int32 := (bc5 (bc4 (bc3 (bc2 (bc1 x))))) &&& (nI 63)
theorem f_J6_bitCount_0f7a4_d (x : Int32) : f_J6_bitCount_0f7a4 x = ((bc5 (bc4 (bc3 (bc2 (bc1 x))))) &&& (nI 63)) := rfl
set_option maxHeartbeats 1000000 in
set_option maxRecDepth 100000 in
theorem c_J6_bitCount_0f7a4 (l : Launch) (sz : Nat) (x : Int32) : Met l yJ6_bitCount_0f7a4 wsJ6_bitCount_0f7a4 ({ frames := 1, cells := 0, slots := 0, locals := 20 } : Room) (sPc sz [.int x]) (pQi (f_J6_bitCount_0f7a4 x) sz) 0 0 (fun q => sz ≤ q) := by
  refine x_sta (cc := cJ6_bitCount_0f7a4) (maxL := 1) (ret := (some .int)) (by decide) rfl (Nat.le_of_ble_eq_true rfl) ?_
  intro p e s m below meth c ls hx hb hr hml hts hown hlocks hsz hN hl
  subst hsz
  have hown : s.vm.findClass RJ6 = some m.cls := hown
  have hl : lv_has ls 1 [(0, .int x)] := hl
  have hq := f_J6_bitCount_0f7a4_d x
  have hA : ∀ q : Nat, s.heap.size ≤ q → (fun q => s.heap.size ≤ q) q := fun q h => h
  have hS : va_S (fun q => s.heap.size ≤ q) s.heap s.heap [] := va_S.rf
  refine lv_iload_n hx hb dJ6_bitCount_0f7a4_0 rfl (lv_at hl 0 rfl) ?_
  refine lv_iload_n hx hb dJ6_bitCount_0f7a4_1 rfl (lv_at hl 0 rfl) ?_
  refine lv_iconst (v := nI 1) hx hb dJ6_bitCount_0f7a4_2 (by decide) ?_
  refine lv_iushr (v := (x.toUInt32 >>> ((nI 1).toUInt32 &&& Int32.toUInt32 31)).toInt32) hx hb dJ6_bitCount_0f7a4_3 rfl ?_
  refine lv_ldcw (v := 1431655765) hx hb hown (hts _ lc_J6_bitCount_0f7a4_265) dJ6_bitCount_0f7a4_4 ?_
  refine lv_iand hx hb dJ6_bitCount_0f7a4_7 ?_
  refine lv_isub hx hb dJ6_bitCount_0f7a4_8 ?_
  refine x_top (y := bc1 x) (rfl) ?_
  refine lv_istore_n (lv' := [(0, .int (bc1 x))]) hx hb dJ6_bitCount_0f7a4_9 rfl hl (by decide) rfl (fun ls hl => ?_)
  refine lv_iload_n hx hb dJ6_bitCount_0f7a4_10 rfl (lv_at hl 0 rfl) ?_
  refine lv_ldcw (v := 858993459) hx hb hown (hts _ lc_J6_bitCount_0f7a4_266) dJ6_bitCount_0f7a4_11 ?_
  refine lv_iand hx hb dJ6_bitCount_0f7a4_14 ?_
  refine lv_iload_n hx hb dJ6_bitCount_0f7a4_15 rfl (lv_at hl 0 rfl) ?_
  refine lv_iconst (v := nI 2) hx hb dJ6_bitCount_0f7a4_16 (by decide) ?_
  refine lv_iushr (v := ((bc1 x).toUInt32 >>> ((nI 2).toUInt32 &&& Int32.toUInt32 31)).toInt32) hx hb dJ6_bitCount_0f7a4_17 rfl ?_
  refine lv_ldcw (v := 858993459) hx hb hown (hts _ lc_J6_bitCount_0f7a4_266) dJ6_bitCount_0f7a4_18 ?_
  refine lv_iand hx hb dJ6_bitCount_0f7a4_21 ?_
  refine lv_iadd hx hb dJ6_bitCount_0f7a4_22 ?_
  refine x_top (y := bc2 (bc1 x)) (rfl) ?_
  refine lv_istore_n (lv' := [(0, .int (bc2 (bc1 x)))]) hx hb dJ6_bitCount_0f7a4_23 rfl hl (by decide) rfl (fun ls hl => ?_)
  refine lv_iload_n hx hb dJ6_bitCount_0f7a4_24 rfl (lv_at hl 0 rfl) ?_
  refine lv_iload_n hx hb dJ6_bitCount_0f7a4_25 rfl (lv_at hl 0 rfl) ?_
  refine lv_iconst (v := nI 4) hx hb dJ6_bitCount_0f7a4_26 (by decide) ?_
  refine lv_iushr (v := ((bc2 (bc1 x)).toUInt32 >>> ((nI 4).toUInt32 &&& Int32.toUInt32 31)).toInt32) hx hb dJ6_bitCount_0f7a4_27 rfl ?_
  refine lv_iadd hx hb dJ6_bitCount_0f7a4_28 ?_
  refine lv_ldcw (v := 252645135) hx hb hown (hts _ lc_J6_bitCount_0f7a4_267) dJ6_bitCount_0f7a4_29 ?_
  refine lv_iand hx hb dJ6_bitCount_0f7a4_32 ?_
  refine x_top (y := bc3 (bc2 (bc1 x))) (rfl) ?_
  refine lv_istore_n (lv' := [(0, .int (bc3 (bc2 (bc1 x))))]) hx hb dJ6_bitCount_0f7a4_33 rfl hl (by decide) rfl (fun ls hl => ?_)
  refine lv_iload_n hx hb dJ6_bitCount_0f7a4_34 rfl (lv_at hl 0 rfl) ?_
  refine lv_iload_n hx hb dJ6_bitCount_0f7a4_35 rfl (lv_at hl 0 rfl) ?_
  refine lv_bipush (v := nI 8) hx hb dJ6_bitCount_0f7a4_36 (by decide) ?_
  refine lv_iushr (v := ((bc3 (bc2 (bc1 x))).toUInt32 >>> ((nI 8).toUInt32 &&& Int32.toUInt32 31)).toInt32) hx hb dJ6_bitCount_0f7a4_38 rfl ?_
  refine lv_iadd hx hb dJ6_bitCount_0f7a4_39 ?_
  refine x_top (y := bc4 (bc3 (bc2 (bc1 x)))) (rfl) ?_
  refine lv_istore_n (lv' := [(0, .int (bc4 (bc3 (bc2 (bc1 x)))))]) hx hb dJ6_bitCount_0f7a4_40 rfl hl (by decide) rfl (fun ls hl => ?_)
  refine lv_iload_n hx hb dJ6_bitCount_0f7a4_41 rfl (lv_at hl 0 rfl) ?_
  refine lv_iload_n hx hb dJ6_bitCount_0f7a4_42 rfl (lv_at hl 0 rfl) ?_
  refine lv_bipush (v := nI 16) hx hb dJ6_bitCount_0f7a4_43 (by decide) ?_
  refine lv_iushr (v := ((bc4 (bc3 (bc2 (bc1 x)))).toUInt32 >>> ((nI 16).toUInt32 &&& Int32.toUInt32 31)).toInt32) hx hb dJ6_bitCount_0f7a4_45 rfl ?_
  refine lv_iadd hx hb dJ6_bitCount_0f7a4_46 ?_
  refine x_top (y := bc5 (bc4 (bc3 (bc2 (bc1 x))))) (rfl) ?_
  refine lv_istore_n (lv' := [(0, .int (bc5 (bc4 (bc3 (bc2 (bc1 x))))))]) hx hb dJ6_bitCount_0f7a4_47 rfl hl (by decide) rfl (fun ls hl => ?_)
  refine lv_iload_n hx hb dJ6_bitCount_0f7a4_48 rfl (lv_at hl 0 rfl) ?_
  refine lv_bipush (v := nI 63) hx hb dJ6_bitCount_0f7a4_49 (by decide) ?_
  refine lv_iand hx hb dJ6_bitCount_0f7a4_51 ?_
  exact x_ret_p hx hb hr rfl hlocks hS dJ6_bitCount_0f7a4_52 hq

def f_X5_isStation (x : Int32) : Int32 := if x < 0 then (nI 0) else (if nI 6 ≤ x then (nI 0) else (nI 1))
theorem f_X5_isStation_d (x : Int32) : f_X5_isStation x = (if x < 0 then (nI 0) else (if nI 6 ≤ x then (nI 0) else (nI 1))) := rfl
set_option maxHeartbeats 1000000 in
set_option maxRecDepth 100000 in
theorem c_X5_isStation (l : Launch) (sz : Nat) (x : Int32) : Met l yX5_isStation wsX5_isStation ({ frames := 1, cells := 0, slots := 0, locals := 20 } : Room) (sPc sz [.int x]) (pQi (f_X5_isStation x) sz) 0 0 (fun q => sz ≤ q) := by
  refine x_sta (cc := cX5_isStation) (maxL := 1) (ret := (some .boolean)) (by decide) rfl (Nat.le_of_ble_eq_true rfl) ?_
  intro p e s m below meth c ls hx hb hr hml hts hown hlocks hsz hN hl
  subst hsz
  have hown : s.vm.findClass RX5 = some m.cls := hown
  have hl : lv_has ls 1 [(0, .int x)] := hl
  have hq := f_X5_isStation_d x
  have hA : ∀ q : Nat, s.heap.size ≤ q → (fun q => s.heap.size ≤ q) q := fun q h => h
  have hS : va_S (fun q => s.heap.size ≤ q) s.heap s.heap [] := va_S.rf
  refine lv_iload_n hx hb dX5_isStation_0 rfl (lv_at hl 0 rfl) ?_
  refine lv_if_lt (tgt := 14) hx hb dX5_isStation_1 (by decide) (fun c_1 => ?_) (fun c_1 => ?_)
  · have hq := hq.trans (if_pos c_1)
    refine lv_iconst (v := nI 0) hx hb dX5_isStation_14 (by decide) ?_
    exact x_ret_p hx hb hr rfl hlocks hS dX5_isStation_15 hq
  · have hq := hq.trans (if_neg c_1)
    refine lv_iload_n hx hb dX5_isStation_4 rfl (lv_at hl 0 rfl) ?_
    refine lv_bipush (v := nI 6) hx hb dX5_isStation_5 (by decide) ?_
    refine lv_icmp_ge (tgt := 14) hx hb dX5_isStation_7 (by decide) (fun c_2 => ?_) (fun c_2 => ?_)
    · have hq := hq.trans (if_pos c_2)
      refine lv_iconst (v := nI 0) hx hb dX5_isStation_14 (by decide) ?_
      exact x_ret_p hx hb hr rfl hlocks hS dX5_isStation_15 hq
    · have hq := hq.trans (if_neg c_2)
      refine lv_iconst (v := nI 1) hx hb dX5_isStation_10 (by decide) ?_
      refine lv_goto (tgt := 15) hx hb dX5_isStation_11 (by decide) ?_
      exact x_ret_p hx hb hr rfl hlocks hS dX5_isStation_15 hq

def f_X5_leastWindow (x : Int32) : Int32 := if x = 0 then (nI 3) else (nI 7)
theorem f_X5_leastWindow_d (x : Int32) : f_X5_leastWindow x = (if x = 0 then (nI 3) else (nI 7)) := rfl
set_option maxHeartbeats 1000000 in
set_option maxRecDepth 100000 in
theorem c_X5_leastWindow (l : Launch) (sz : Nat) (x : Int32) : Met l yX5_leastWindow wsX5_leastWindow ({ frames := 1, cells := 0, slots := 0, locals := 20 } : Room) (sPc sz [.int x]) (pQi (f_X5_leastWindow x) sz) 0 0 (fun q => sz ≤ q) := by
  refine x_sta (cc := cX5_leastWindow) (maxL := 1) (ret := (some .int)) (by decide) rfl (Nat.le_of_ble_eq_true rfl) ?_
  intro p e s m below meth c ls hx hb hr hml hts hown hlocks hsz hN hl
  subst hsz
  have hown : s.vm.findClass RX5 = some m.cls := hown
  have hl : lv_has ls 1 [(0, .int x)] := hl
  have hq := f_X5_leastWindow_d x
  have hA : ∀ q : Nat, s.heap.size ≤ q → (fun q => s.heap.size ≤ q) q := fun q h => h
  have hS : va_S (fun q => s.heap.size ≤ q) s.heap s.heap [] := va_S.rf
  refine lv_iload_n hx hb dX5_leastWindow_0 rfl (lv_at hl 0 rfl) ?_
  refine lv_if_ne (tgt := 8) hx hb dX5_leastWindow_1 (by decide) (fun c_1 => ?_) (fun c_1 => ?_)
  · have hq := hq.trans (if_neg c_1)
    refine lv_bipush (v := nI 7) hx hb dX5_leastWindow_8 (by decide) ?_
    exact x_ret_p hx hb hr rfl hlocks hS dX5_leastWindow_10 hq
  · have hq := hq.trans (if_pos c_1)
    refine lv_iconst (v := nI 3) hx hb dX5_leastWindow_4 (by decide) ?_
    refine lv_goto (tgt := 10) hx hb dX5_leastWindow_5 (by decide) ?_
    exact x_ret_p hx hb hr rfl hlocks hS dX5_leastWindow_10 hq

def f_X5_restBy (x : Int32) (y : Int32) : Int32 := if y ≤ 0 then (nI 0) else (x - x / y * y)
theorem f_X5_restBy_d (x : Int32) (y : Int32) : f_X5_restBy x y = (if y ≤ 0 then (nI 0) else (x - x / y * y)) := rfl
set_option maxHeartbeats 1000000 in
set_option maxRecDepth 100000 in
theorem c_X5_restBy (l : Launch) (sz : Nat) (x : Int32) (y : Int32) : Met l yX5_restBy wsX5_restBy ({ frames := 1, cells := 0, slots := 0, locals := 20 } : Room) (sPc sz [.int x, .int y]) (pQi (f_X5_restBy x y) sz) 0 0 (fun q => sz ≤ q) := by
  refine x_sta (cc := cX5_restBy) (maxL := 2) (ret := (some .int)) (by decide) rfl (Nat.le_of_ble_eq_true rfl) ?_
  intro p e s m below meth c ls hx hb hr hml hts hown hlocks hsz hN hl
  subst hsz
  have hown : s.vm.findClass RX5 = some m.cls := hown
  have hl : lv_has ls 2 [(0, .int x), (1, .int y)] := hl
  have hq := f_X5_restBy_d x y
  have hA : ∀ q : Nat, s.heap.size ≤ q → (fun q => s.heap.size ≤ q) q := fun q h => h
  have hS : va_S (fun q => s.heap.size ≤ q) s.heap s.heap [] := va_S.rf
  refine lv_iload_n hx hb dX5_restBy_0 rfl (lv_at hl 1 rfl) ?_
  refine lv_if_le (tgt := 10) hx hb dX5_restBy_1 (by decide) (fun c_1 => ?_) (fun c_1 => ?_)
  · have hq := hq.trans (if_pos c_1)
    refine lv_iconst (v := nI 0) hx hb dX5_restBy_10 (by decide) ?_
    exact x_ret_p hx hb hr rfl hlocks hS dX5_restBy_11 hq
  · have hq := hq.trans (if_neg c_1)
    refine lv_iload_n hx hb dX5_restBy_4 rfl (lv_at hl 0 rfl) ?_
    refine lv_iload_n hx hb dX5_restBy_5 rfl (lv_at hl 1 rfl) ?_
    refine lv_irem hx hb dX5_restBy_6 (fun h => by subst h; exact c_1 (by decide)) ?_
    refine lv_goto (tgt := 11) hx hb dX5_restBy_7 (by decide) ?_
    exact x_ret_p hx hb hr rfl hlocks hS dX5_restBy_11 hq

theorem li_X3_placeOf_X5 : Cond.initialized RX5 ∈ wsX3_placeOf := by decide +kernel
theorem ls_X3_placeOf_X5_isStation : Cond.static yX5_isStation ∈ wsX3_placeOf := by decide +kernel
theorem nk_X3_19 : Cond.methodLinkNest RX3 19 ⟨"BackofficeAir", "isStation", "(I)Z"⟩ "BackofficeAir" ∈ nestW := by decide +kernel
def f_X3_placeOf (x : Int32) (y : Int32) : Int32 := if f_X5_isStation x = 0 then ((-1)) else (if f_X5_isStation y = 0 then ((-1)) else ((x * (nI 6)) + y))
theorem f_X3_placeOf_d (x : Int32) (y : Int32) : f_X3_placeOf x y = (if f_X5_isStation x = 0 then ((-1)) else (if f_X5_isStation y = 0 then ((-1)) else ((x * (nI 6)) + y))) := rfl
set_option maxHeartbeats 1000000 in
set_option maxRecDepth 100000 in
theorem c_X3_placeOf (l : Launch) (sz : Nat) (x : Int32) (y : Int32) : Met l yX3_placeOf wsX3_placeOf ({ frames := 2, cells := 0, slots := 0, locals := 40 } : Room) (sPc sz [.int x, .int y]) (pQi (f_X3_placeOf x y) sz) 0 0 (fun q => sz ≤ q) := by
  refine x_sta (cc := cX3_placeOf) (maxL := 2) (ret := (some .int)) (by decide) rfl (Nat.le_of_ble_eq_true rfl) ?_
  intro p e s m below meth c ls hx hb hr hml hts hown hlocks hsz hN hl
  subst hsz
  have hown : s.vm.findClass RX3 = some m.cls := hown
  have hl : lv_has ls 2 [(0, .int x), (1, .int y)] := hl
  have hq := f_X3_placeOf_d x y
  have hA : ∀ q : Nat, s.heap.size ≤ q → (fun q => s.heap.size ≤ q) q := fun q h => h
  have hS : va_S (fun q => s.heap.size ≤ q) s.heap s.heap [] := va_S.rf
  refine lv_iload_n hx hb dX3_placeOf_0 rfl (lv_at hl 0 rfl) ?_
  refine x_pi (va_runSN (As := [.int x]) (rest := []) ⟨hx, hb, hml, hown, hts⟩ (c_X5_isStation l s.heap.size x) ⟨va_cnB 1 hts gX3_placeOf_X5_isStation_n19 rfl rfl rfl (hN _ nk_X3_19) (hts _ li_X3_placeOf_X5) (by decide +kernel) ⟨Nat.le_of_ble_eq_true rfl, Nat.le_of_ble_eq_true rfl⟩, hts _ ls_X3_placeOf_X5_isStation, trivial⟩ ⟨sPc_blind, sPc_at hN⟩ rfl rfl hl.1 rfl (lv_room (Nat.le_of_ble_eq_true rfl)) dX3_placeOf_1 ⟨Nat.le_refl _, Nat.le_refl _⟩) hS hA (fun q h => h) (fun H locs hz hk hS => ?_)
  refine lv_if_eq (tgt := 23) hx hb dX3_placeOf_4 (by decide) (fun c_1 => ?_) (fun c_1 => ?_)
  · have hq := hq.trans (if_pos c_1)
    refine lv_iconst (v := (-1)) hx hb dX3_placeOf_23 (by decide) ?_
    exact x_ret_p hx hb hr rfl hlocks hS dX3_placeOf_24 hq
  · have hq := hq.trans (if_neg c_1)
    refine lv_iload_n hx hb dX3_placeOf_7 rfl (lv_at hl 1 rfl) ?_
    refine x_pi (va_runSN (As := [.int y]) (rest := []) ⟨hx, hb, hml, hown, hts⟩ (c_X5_isStation l H.size y) ⟨va_cnB 1 hts gX3_placeOf_X5_isStation_n19 rfl rfl rfl (hN _ nk_X3_19) (hts _ li_X3_placeOf_X5) (by decide +kernel) ⟨Nat.le_of_ble_eq_true rfl, Nat.le_of_ble_eq_true rfl⟩, hts _ ls_X3_placeOf_X5_isStation, trivial⟩ ⟨sPc_blind, sPc_at hN⟩ rfl rfl hl.1 rfl (lv_room (Nat.le_of_ble_eq_true rfl)) dX3_placeOf_8 ⟨Nat.le_refl _, Nat.le_refl _⟩) hS hA (fun q h => h) (fun H locs hz hk hS => ?_)
    refine lv_if_eq (tgt := 23) hx hb dX3_placeOf_11 (by decide) (fun c_2 => ?_) (fun c_2 => ?_)
    · have hq := hq.trans (if_pos c_2)
      refine lv_iconst (v := (-1)) hx hb dX3_placeOf_23 (by decide) ?_
      exact x_ret_p hx hb hr rfl hlocks hS dX3_placeOf_24 hq
    · have hq := hq.trans (if_neg c_2)
      refine lv_iload_n hx hb dX3_placeOf_14 rfl (lv_at hl 0 rfl) ?_
      refine lv_bipush (v := nI 6) hx hb dX3_placeOf_15 (by decide) ?_
      refine lv_imul hx hb dX3_placeOf_17 ?_
      refine lv_iload_n hx hb dX3_placeOf_18 rfl (lv_at hl 1 rfl) ?_
      refine lv_iadd hx hb dX3_placeOf_19 ?_
      refine lv_goto (tgt := 24) hx hb dX3_placeOf_20 (by decide) ?_
      exact x_ret_p hx hb hr rfl hlocks hS dX3_placeOf_24 hq

theorem f_isStation_in {a : Nat} (h : a < 6) : f_X5_isStation (nI a) = nI 1 := by
  unfold f_X5_isStation
  rw [if_neg (nI_pos (by omega)), if_neg (nI_ge h (by omega))]
theorem f_placeOf_in {a b : Nat} (h : a < 6) (h2 : b < 6) : f_X3_placeOf (nI a) (nI b) = nI (a * 6 + b) := by
  unfold f_X3_placeOf
  rw [f_isStation_in h, f_isStation_in h2, if_neg (by decide), if_neg (by decide), pk_mul, nI_add]

theorem mm_X0_add_X0 : ∀ w ∈ wsX00, w ∈ wsX0_add := by decide +kernel
theorem lk_X0_add_15 : Cond.fieldLink RX0 15 "BackofficeAir$Row" "parts" "[I" ∈ wsX0_add := by decide +kernel
theorem lk_X0_add_18 : Cond.fieldLink RX0 18 "BackofficeAir$Row" "count" "I" ∈ wsX0_add := by decide +kernel
theorem lk_X0_add_9 : Cond.fieldLink RX0 9 "BackofficeAir$Row" "goals" "[I" ∈ wsX0_add := by decide +kernel
def f_X0_add (S : Mem) (i : Nat) (g : Int32) (q : Int32) : Mem := ub (ub (ub S (9 + 5 * i) (kN (S (7 + 5 * i) 0)) g) (10 + 5 * i) (kN (S (7 + 5 * i) 0)) (((nI 1) <<< (q &&& 31)) - (nI 1))) (7 + 5 * i) 0 (((ub (ub S (9 + 5 * i) (kN (S (7 + 5 * i) 0)) g) (10 + 5 * i) (kN (S (7 + 5 * i) 0)) (((nI 1) <<< (q &&& 31)) - (nI 1))) (7 + 5 * i) 0) + (nI 1))
theorem f_X0_add_d (S : Mem) (i : Nat) (g : Int32) (q : Int32) : f_X0_add S i g q = (ub (ub (ub S (9 + 5 * i) (kN (S (7 + 5 * i) 0)) g) (10 + 5 * i) (kN (S (7 + 5 * i) 0)) (((nI 1) <<< (q &&& 31)) - (nI 1))) (7 + 5 * i) 0 (((ub (ub S (9 + 5 * i) (kN (S (7 + 5 * i) 0)) g) (10 + 5 * i) (kN (S (7 + 5 * i) 0)) (((nI 1) <<< (q &&& 31)) - (nI 1))) (7 + 5 * i) 0) + (nI 1))) := rfl
set_option maxHeartbeats 1000000 in
set_option maxRecDepth 100000 in
theorem c_X0_add (l : Launch) (D : va_G) (cI cS : ClassId) (G : Nat → Nat) (S : Mem) (sz : Nat) (i : Nat) (g : Int32) (q : Int32) (hi : i < 6) (hc : S (7 + 5 * i) 0 = nI (kN (S (7 + 5 * i) 0))) (hc5 : kN (S (7 + 5 * i) 0) < 5) : Met l yX0_add wsX0_add ({ frames := 1, cells := 0, slots := 0, locals := 20 } : Room) (wPc 36 (cF cI cS G) D (tY cI cS) G S sz [.ref (G (7 + 5 * i)), .int g, .int q]) (mQv (f_X0_add S i g q) 36 (cF cI cS G) D G sz) 0 0 (fA 36 G sz) := by
  refine x_met (cc := cX0_add) (maxL := 3) (ret := none) (by decide) rfl (Nat.le_of_ble_eq_true rfl) ?_
  intro p e s m below meth c ls hx hb hr hml hts hown hlocks hsz hP hK hD hN hl hnm
  subst hsz
  have hown : s.vm.findClass RX0 = some m.cls := hown
  have hl : lv_has ls 3 [(0, .ref (G (7 + 5 * i))), (1, .int g), (2, .int q)] := hl
  have hq := f_X0_add_d S i g q
  have hA : ∀ q : Nat, s.heap.size ≤ q → (fA 36 G s.heap.size) q := fun q h => Or.inr h
  have hS : va_S (fA 36 G s.heap.size) s.heap s.heap [] := va_S.rf
  refine lv_aload_n hx hb dX0_add_0 rfl (lv_at hl 0 rfl) ?_
  refine x_get hx hb hts mm_X0_add_X0 hown hK hP (7 + 5 * i) (by omega) (cF_row _ _) rfl 2 (by decide) (hts _ lk_X0_add_18) rfl rfl dX0_add_1 ?_
  refine x_top (y := nI (kN (S (7 + 5 * i) 0))) (hc) ?_
  refine lv_if_lt (tgt := 65) hx hb dX0_add_4 (by decide) (fun c_1 => absurd c_1 (nI_pos (by omega))) (fun _ => ?_)
  refine lv_aload_n hx hb dX0_add_7 rfl (lv_at hl 0 rfl) ?_
  refine x_get hx hb hts mm_X0_add_X0 hown hK hP (7 + 5 * i) (by omega) (cF_row _ _) rfl 2 (by decide) (hts _ lk_X0_add_18) rfl rfl dX0_add_8 ?_
  refine x_top (y := nI (kN (S (7 + 5 * i) 0))) (hc) ?_
  refine lv_aload_n hx hb dX0_add_11 rfl (lv_at hl 0 rfl) ?_
  refine x_get hx hb hts mm_X0_add_X0 hown hK hP (7 + 5 * i) (by omega) (cF_row _ _) rfl 0 (by decide) (hts _ lk_X0_add_9) rfl rfl dX0_add_12 ?_
  refine x_alen hx hb hK hP (9 + 5 * i) 0 (by omega) (cF_gl _ _) rfl dX0_add_15 ?_
  refine lv_icmp_ge (tgt := 65) hx hb dX0_add_16 (by decide) (fun c_2 => absurd c_2 (nI_ge hc5 (by omega))) (fun _ => ?_)
  refine lv_aload_n hx hb dX0_add_19 rfl (lv_at hl 0 rfl) ?_
  refine x_get hx hb hts mm_X0_add_X0 hown hK hP (7 + 5 * i) (by omega) (cF_row _ _) rfl 2 (by decide) (hts _ lk_X0_add_18) rfl rfl dX0_add_20 ?_
  refine x_top (y := nI (kN (S (7 + 5 * i) 0))) (hc) ?_
  refine lv_aload_n hx hb dX0_add_23 rfl (lv_at hl 0 rfl) ?_
  refine x_get hx hb hts mm_X0_add_X0 hown hK hP (7 + 5 * i) (by omega) (cF_row _ _) rfl 1 (by decide) (hts _ lk_X0_add_15) rfl rfl dX0_add_24 ?_
  refine x_alen hx hb hK hP (10 + 5 * i) 0 (by omega) (cF_pt _ _) rfl dX0_add_27 ?_
  refine lv_icmp_ge (tgt := 65) hx hb dX0_add_28 (by decide) (fun c_3 => absurd c_3 (nI_ge hc5 (by omega))) (fun _ => ?_)
  refine lv_aload_n hx hb dX0_add_31 rfl (lv_at hl 0 rfl) ?_
  refine x_get hx hb hts mm_X0_add_X0 hown hK hP (7 + 5 * i) (by omega) (cF_row _ _) rfl 0 (by decide) (hts _ lk_X0_add_9) rfl rfl dX0_add_32 ?_
  refine lv_aload_n hx hb dX0_add_35 rfl (lv_at hl 0 rfl) ?_
  refine x_get hx hb hts mm_X0_add_X0 hown hK hP (7 + 5 * i) (by omega) (cF_row _ _) rfl 2 (by decide) (hts _ lk_X0_add_18) rfl rfl dX0_add_36 ?_
  refine x_top (y := nI (kN (S (7 + 5 * i) 0))) (hc) ?_
  refine lv_iload_n hx hb dX0_add_39 rfl (lv_at hl 1 rfl) ?_
  refine x_iast hx hb hK hP hD hS (9 + 5 * i) 0 (by omega) (cF_gl _) rfl (kN (S (7 + 5 * i) 0)) (by omega) (by decide) dX0_add_40 (fun H locs hP hS => ?_)
  refine lv_aload_n hx hb dX0_add_41 rfl (lv_at hl 0 rfl) ?_
  refine x_get hx hb hts mm_X0_add_X0 hown hK hP (7 + 5 * i) (by omega) (cF_row _ _) rfl 1 (by decide) (hts _ lk_X0_add_15) rfl rfl dX0_add_42 ?_
  refine lv_aload_n hx hb dX0_add_45 rfl (lv_at hl 0 rfl) ?_
  refine x_get hx hb hts mm_X0_add_X0 hown hK hP (7 + 5 * i) (by omega) (cF_row _ _) rfl 2 (by decide) (hts _ lk_X0_add_18) rfl rfl dX0_add_46 ?_
  refine x_top (y := nI (kN (S (7 + 5 * i) 0))) (by rw [ub_ne _ _ _ (by omega)]; exact hc) ?_
  refine lv_iconst (v := nI 1) hx hb dX0_add_49 (by decide) ?_
  refine lv_iload_n hx hb dX0_add_50 rfl (lv_at hl 2 rfl) ?_
  refine lv_ishl hx hb dX0_add_51 ?_
  refine lv_iconst (v := nI 1) hx hb dX0_add_52 (by decide) ?_
  refine lv_isub hx hb dX0_add_53 ?_
  refine x_iast hx hb hK hP hD hS (10 + 5 * i) 0 (by omega) (cF_pt _) rfl (kN (S (7 + 5 * i) 0)) (by omega) (by decide) dX0_add_54 (fun H locs hP hS => ?_)
  refine lv_aload_n hx hb dX0_add_55 rfl (lv_at hl 0 rfl) ?_
  refine lv_dup hx hb dX0_add_56 rfl ?_
  refine x_get hx hb hts mm_X0_add_X0 hown hK hP (7 + 5 * i) (by omega) (cF_row _ _) rfl 2 (by decide) (hts _ lk_X0_add_18) rfl rfl dX0_add_57 ?_
  refine lv_iconst (v := nI 1) hx hb dX0_add_60 (by decide) ?_
  refine lv_iadd hx hb dX0_add_61 ?_
  refine x_put hx hb hts mm_X0_add_X0 tyX0 tyX0_ok nmX0 hown hK hP hD hS (7 + 5 * i) (by omega) (cF_row _ _) rfl 2 (by decide) (hts _ lk_X0_add_18) rfl rfl rfl rfl rfl (Nat.le_of_ble_eq_true rfl) 0 (cF_row _ _) dX0_add_62 (fun H locs hP hS => ?_)
  exact x_ret_v hx hb hr hlocks hP hS dX0_add_65 hq

theorem mm_X0_goalOfFirst_X0 : ∀ w ∈ wsX00, w ∈ wsX0_goalOfFirst := by decide +kernel
theorem lk_X0_goalOfFirst_18 : Cond.fieldLink RX0 18 "BackofficeAir$Row" "count" "I" ∈ wsX0_goalOfFirst := by decide +kernel
theorem lk_X0_goalOfFirst_9 : Cond.fieldLink RX0 9 "BackofficeAir$Row" "goals" "[I" ∈ wsX0_goalOfFirst := by decide +kernel
def f_X0_goalOfFirst (S : Mem) (i : Nat) : Int32 := if S (7 + 5 * i) 0 ≤ 0 then ((-1)) else (S (9 + 5 * i) 0)
theorem f_X0_goalOfFirst_d (S : Mem) (i : Nat) : f_X0_goalOfFirst S i = (if S (7 + 5 * i) 0 ≤ 0 then ((-1)) else (S (9 + 5 * i) 0)) := rfl
set_option maxHeartbeats 1000000 in
set_option maxRecDepth 100000 in
theorem c_X0_goalOfFirst (l : Launch) (D : va_G) (cI cS : ClassId) (G : Nat → Nat) (S : Mem) (sz : Nat) (i : Nat) (hi : i < 6) : Met l yX0_goalOfFirst wsX0_goalOfFirst ({ frames := 1, cells := 0, slots := 0, locals := 20 } : Room) (wPc 36 (cF cI cS G) D (tY cI cS) G S sz [.ref (G (7 + 5 * i))]) (pQi (f_X0_goalOfFirst S i) sz) 0 0 (fun q => sz ≤ q) := by
  refine x_met (cc := cX0_goalOfFirst) (maxL := 1) (ret := (some .int)) (by decide) rfl (Nat.le_of_ble_eq_true rfl) ?_
  intro p e s m below meth c ls hx hb hr hml hts hown hlocks hsz hP hK hD hN hl hnm
  subst hsz
  have hown : s.vm.findClass RX0 = some m.cls := hown
  have hl : lv_has ls 1 [(0, .ref (G (7 + 5 * i)))] := hl
  have hq := f_X0_goalOfFirst_d S i
  have hA : ∀ q : Nat, s.heap.size ≤ q → (fun q => s.heap.size ≤ q) q := fun q h => h
  have hS : va_S (fun q => s.heap.size ≤ q) s.heap s.heap [] := va_S.rf
  refine lv_aload_n hx hb dX0_goalOfFirst_0 rfl (lv_at hl 0 rfl) ?_
  refine x_get hx hb hts mm_X0_goalOfFirst_X0 hown hK hP (7 + 5 * i) (by omega) (cF_row _ _) rfl 2 (by decide) (hts _ lk_X0_goalOfFirst_18) rfl rfl dX0_goalOfFirst_1 ?_
  refine lv_if_le (tgt := 24) hx hb dX0_goalOfFirst_4 (by decide) (fun c_1 => ?_) (fun c_1 => ?_)
  · have hq := hq.trans (if_pos c_1)
    refine lv_iconst (v := (-1)) hx hb dX0_goalOfFirst_24 (by decide) ?_
    exact x_ret_p hx hb hr rfl hlocks hS dX0_goalOfFirst_25 hq
  · have hq := hq.trans (if_neg c_1)
    refine lv_aload_n hx hb dX0_goalOfFirst_7 rfl (lv_at hl 0 rfl) ?_
    refine x_get hx hb hts mm_X0_goalOfFirst_X0 hown hK hP (7 + 5 * i) (by omega) (cF_row _ _) rfl 0 (by decide) (hts _ lk_X0_goalOfFirst_9) rfl rfl dX0_goalOfFirst_8 ?_
    refine x_alen hx hb hK hP (9 + 5 * i) 0 (by omega) (cF_gl _ _) rfl dX0_goalOfFirst_11 ?_
    refine lv_if_le (tgt := 24) hx hb dX0_goalOfFirst_12 (by decide) (fun c_2 => absurd c_2 (by decide)) (fun _ => ?_)
    refine lv_aload_n hx hb dX0_goalOfFirst_15 rfl (lv_at hl 0 rfl) ?_
    refine x_get hx hb hts mm_X0_goalOfFirst_X0 hown hK hP (7 + 5 * i) (by omega) (cF_row _ _) rfl 0 (by decide) (hts _ lk_X0_goalOfFirst_9) rfl rfl dX0_goalOfFirst_16 ?_
    refine lv_iconst (v := nI 0) hx hb dX0_goalOfFirst_19 (by decide) ?_
    refine x_iald hx hb hK hP (9 + 5 * i) 0 (by omega) (cF_gl _ _) rfl 0 (by omega) (by decide) dX0_goalOfFirst_20 ?_
    refine lv_goto (tgt := 25) hx hb dX0_goalOfFirst_21 (by decide) ?_
    exact x_ret_p hx hb hr rfl hlocks hS dX0_goalOfFirst_25 hq

theorem mm_X0_partsOfFirst_X0 : ∀ w ∈ wsX00, w ∈ wsX0_partsOfFirst := by decide +kernel
theorem lk_X0_partsOfFirst_15 : Cond.fieldLink RX0 15 "BackofficeAir$Row" "parts" "[I" ∈ wsX0_partsOfFirst := by decide +kernel
theorem lk_X0_partsOfFirst_18 : Cond.fieldLink RX0 18 "BackofficeAir$Row" "count" "I" ∈ wsX0_partsOfFirst := by decide +kernel
def f_X0_partsOfFirst (S : Mem) (i : Nat) : Int32 := if S (7 + 5 * i) 0 ≤ 0 then (nI 0) else (S (10 + 5 * i) 0)
theorem f_X0_partsOfFirst_d (S : Mem) (i : Nat) : f_X0_partsOfFirst S i = (if S (7 + 5 * i) 0 ≤ 0 then (nI 0) else (S (10 + 5 * i) 0)) := rfl
set_option maxHeartbeats 1000000 in
set_option maxRecDepth 100000 in
theorem c_X0_partsOfFirst (l : Launch) (D : va_G) (cI cS : ClassId) (G : Nat → Nat) (S : Mem) (sz : Nat) (i : Nat) (hi : i < 6) : Met l yX0_partsOfFirst wsX0_partsOfFirst ({ frames := 1, cells := 0, slots := 0, locals := 20 } : Room) (wPc 36 (cF cI cS G) D (tY cI cS) G S sz [.ref (G (7 + 5 * i))]) (pQi (f_X0_partsOfFirst S i) sz) 0 0 (fun q => sz ≤ q) := by
  refine x_met (cc := cX0_partsOfFirst) (maxL := 1) (ret := (some .int)) (by decide) rfl (Nat.le_of_ble_eq_true rfl) ?_
  intro p e s m below meth c ls hx hb hr hml hts hown hlocks hsz hP hK hD hN hl hnm
  subst hsz
  have hown : s.vm.findClass RX0 = some m.cls := hown
  have hl : lv_has ls 1 [(0, .ref (G (7 + 5 * i)))] := hl
  have hq := f_X0_partsOfFirst_d S i
  have hA : ∀ q : Nat, s.heap.size ≤ q → (fun q => s.heap.size ≤ q) q := fun q h => h
  have hS : va_S (fun q => s.heap.size ≤ q) s.heap s.heap [] := va_S.rf
  refine lv_aload_n hx hb dX0_partsOfFirst_0 rfl (lv_at hl 0 rfl) ?_
  refine x_get hx hb hts mm_X0_partsOfFirst_X0 hown hK hP (7 + 5 * i) (by omega) (cF_row _ _) rfl 2 (by decide) (hts _ lk_X0_partsOfFirst_18) rfl rfl dX0_partsOfFirst_1 ?_
  refine lv_if_le (tgt := 24) hx hb dX0_partsOfFirst_4 (by decide) (fun c_1 => ?_) (fun c_1 => ?_)
  · have hq := hq.trans (if_pos c_1)
    refine lv_iconst (v := nI 0) hx hb dX0_partsOfFirst_24 (by decide) ?_
    exact x_ret_p hx hb hr rfl hlocks hS dX0_partsOfFirst_25 hq
  · have hq := hq.trans (if_neg c_1)
    refine lv_aload_n hx hb dX0_partsOfFirst_7 rfl (lv_at hl 0 rfl) ?_
    refine x_get hx hb hts mm_X0_partsOfFirst_X0 hown hK hP (7 + 5 * i) (by omega) (cF_row _ _) rfl 1 (by decide) (hts _ lk_X0_partsOfFirst_15) rfl rfl dX0_partsOfFirst_8 ?_
    refine x_alen hx hb hK hP (10 + 5 * i) 0 (by omega) (cF_pt _ _) rfl dX0_partsOfFirst_11 ?_
    refine lv_if_le (tgt := 24) hx hb dX0_partsOfFirst_12 (by decide) (fun c_2 => absurd c_2 (by decide)) (fun _ => ?_)
    refine lv_aload_n hx hb dX0_partsOfFirst_15 rfl (lv_at hl 0 rfl) ?_
    refine x_get hx hb hts mm_X0_partsOfFirst_X0 hown hK hP (7 + 5 * i) (by omega) (cF_row _ _) rfl 1 (by decide) (hts _ lk_X0_partsOfFirst_15) rfl rfl dX0_partsOfFirst_16 ?_
    refine lv_iconst (v := nI 0) hx hb dX0_partsOfFirst_19 (by decide) ?_
    refine x_iald hx hb hK hP (10 + 5 * i) 0 (by omega) (cF_pt _ _) rfl 0 (by omega) (by decide) dX0_partsOfFirst_20 ?_
    refine lv_goto (tgt := 25) hx hb dX0_partsOfFirst_21 (by decide) ?_
    exact x_ret_p hx hb hr rfl hlocks hS dX0_partsOfFirst_25 hq

theorem mm_X0_takeFromFirst_X0 : ∀ w ∈ wsX00, w ∈ wsX0_takeFromFirst := by decide +kernel
theorem lk_X0_takeFromFirst_15 : Cond.fieldLink RX0 15 "BackofficeAir$Row" "parts" "[I" ∈ wsX0_takeFromFirst := by decide +kernel
theorem lk_X0_takeFromFirst_18 : Cond.fieldLink RX0 18 "BackofficeAir$Row" "count" "I" ∈ wsX0_takeFromFirst := by decide +kernel
def f_X0_takeFromFirst (S : Mem) (i : Nat) (x : Int32) : Mem := if S (7 + 5 * i) 0 ≤ 0 then (S) else (ub S (10 + 5 * i) 0 ((S (10 + 5 * i) 0) &&& (x ^^^ ((-1)))))
theorem f_X0_takeFromFirst_d (S : Mem) (i : Nat) (x : Int32) : f_X0_takeFromFirst S i x = (if S (7 + 5 * i) 0 ≤ 0 then (S) else (ub S (10 + 5 * i) 0 ((S (10 + 5 * i) 0) &&& (x ^^^ ((-1)))))) := rfl
set_option maxHeartbeats 1000000 in
set_option maxRecDepth 100000 in
theorem c_X0_takeFromFirst (l : Launch) (D : va_G) (cI cS : ClassId) (G : Nat → Nat) (S : Mem) (sz : Nat) (i : Nat) (x : Int32) (hi : i < 6) : Met l yX0_takeFromFirst wsX0_takeFromFirst ({ frames := 1, cells := 0, slots := 0, locals := 20 } : Room) (wPc 36 (cF cI cS G) D (tY cI cS) G S sz [.ref (G (7 + 5 * i)), .int x]) (mQv (f_X0_takeFromFirst S i x) 36 (cF cI cS G) D G sz) 0 0 (fA 36 G sz) := by
  refine x_met (cc := cX0_takeFromFirst) (maxL := 2) (ret := none) (by decide) rfl (Nat.le_of_ble_eq_true rfl) ?_
  intro p e s m below meth c ls hx hb hr hml hts hown hlocks hsz hP hK hD hN hl hnm
  subst hsz
  have hown : s.vm.findClass RX0 = some m.cls := hown
  have hl : lv_has ls 2 [(0, .ref (G (7 + 5 * i))), (1, .int x)] := hl
  have hq := f_X0_takeFromFirst_d S i x
  have hA : ∀ q : Nat, s.heap.size ≤ q → (fA 36 G s.heap.size) q := fun q h => Or.inr h
  have hS : va_S (fA 36 G s.heap.size) s.heap s.heap [] := va_S.rf
  refine lv_aload_n hx hb dX0_takeFromFirst_0 rfl (lv_at hl 0 rfl) ?_
  refine x_get hx hb hts mm_X0_takeFromFirst_X0 hown hK hP (7 + 5 * i) (by omega) (cF_row _ _) rfl 2 (by decide) (hts _ lk_X0_takeFromFirst_18) rfl rfl dX0_takeFromFirst_1 ?_
  refine lv_if_le (tgt := 27) hx hb dX0_takeFromFirst_4 (by decide) (fun c_1 => ?_) (fun c_1 => ?_)
  · have hq := hq.trans (if_pos c_1)
    exact x_ret_v hx hb hr hlocks hP hS dX0_takeFromFirst_27 hq
  · have hq := hq.trans (if_neg c_1)
    refine lv_aload_n hx hb dX0_takeFromFirst_7 rfl (lv_at hl 0 rfl) ?_
    refine x_get hx hb hts mm_X0_takeFromFirst_X0 hown hK hP (7 + 5 * i) (by omega) (cF_row _ _) rfl 1 (by decide) (hts _ lk_X0_takeFromFirst_15) rfl rfl dX0_takeFromFirst_8 ?_
    refine x_alen hx hb hK hP (10 + 5 * i) 0 (by omega) (cF_pt _ _) rfl dX0_takeFromFirst_11 ?_
    refine lv_if_le (tgt := 27) hx hb dX0_takeFromFirst_12 (by decide) (fun c_2 => absurd c_2 (by decide)) (fun _ => ?_)
    refine lv_aload_n hx hb dX0_takeFromFirst_15 rfl (lv_at hl 0 rfl) ?_
    refine x_get hx hb hts mm_X0_takeFromFirst_X0 hown hK hP (7 + 5 * i) (by omega) (cF_row _ _) rfl 1 (by decide) (hts _ lk_X0_takeFromFirst_15) rfl rfl dX0_takeFromFirst_16 ?_
    refine lv_iconst (v := nI 0) hx hb dX0_takeFromFirst_19 (by decide) ?_
    refine lv_dup2_11 hx hb dX0_takeFromFirst_20 rfl rfl ?_
    refine x_iald hx hb hK hP (10 + 5 * i) 0 (by omega) (cF_pt _ _) rfl 0 (by omega) (by decide) dX0_takeFromFirst_21 ?_
    refine lv_iload_n hx hb dX0_takeFromFirst_22 rfl (lv_at hl 1 rfl) ?_
    refine lv_iconst (v := (-1)) hx hb dX0_takeFromFirst_23 (by decide) ?_
    refine lv_ixor hx hb dX0_takeFromFirst_24 ?_
    refine lv_iand hx hb dX0_takeFromFirst_25 ?_
    refine x_iast hx hb hK hP hD hS (10 + 5 * i) 0 (by omega) (cF_pt _) rfl 0 (by omega) (by decide) dX0_takeFromFirst_26 (fun H locs hP hS => ?_)
    exact x_ret_v hx hb hr hlocks hP hS dX0_takeFromFirst_27 hq

theorem mm_X0_removeFirst_X0 : ∀ w ∈ wsX00, w ∈ wsX0_removeFirst := by decide +kernel
theorem lk_X0_removeFirst_15 : Cond.fieldLink RX0 15 "BackofficeAir$Row" "parts" "[I" ∈ wsX0_removeFirst := by decide +kernel
theorem lk_X0_removeFirst_18 : Cond.fieldLink RX0 18 "BackofficeAir$Row" "count" "I" ∈ wsX0_removeFirst := by decide +kernel
theorem lk_X0_removeFirst_9 : Cond.fieldLink RX0 9 "BackofficeAir$Row" "goals" "[I" ∈ wsX0_removeFirst := by decide +kernel
theorem lm1_X0_removeFirst_max : Cond.methodLink RX0 22 Lib.Math.max.name ∈ wsX0_removeFirst := by decide +kernel
theorem lm2_X0_removeFirst_max : Cond.static Lib.Math.max.name ∈ wsX0_removeFirst := by decide +kernel
theorem lm3_X0_removeFirst_max : Cond.initialized "java/lang/Math" ∈ wsX0_removeFirst := by decide +kernel
theorem lm4_X0_removeFirst_max : Cond.code Lib.Math.max.name Lib.Math.max.code 2 (some .int) ∈ wsX0_removeFirst := by decide +kernel
def f_X0_removeFirst_L1 (i0 : Nat) : Nat → Nat → Mem → Mem
  | 0, i, S_L1 => if S_L1 (7 + 5 * i0) 0 ≤ nI i then (ub S_L1 (7 + 5 * i0) 0 (if ((S_L1 (7 + 5 * i0) 0) - (nI 1)) < (nI 0) then (nI 0) else ((S_L1 (7 + 5 * i0) 0) - (nI 1)))) else (ub S_L1 (7 + 5 * i0) 0 (if ((S_L1 (7 + 5 * i0) 0) - (nI 1)) < (nI 0) then (nI 0) else ((S_L1 (7 + 5 * i0) 0) - (nI 1))))
  | n + 1, i, S_L1 => if S_L1 (7 + 5 * i0) 0 ≤ nI i then (ub S_L1 (7 + 5 * i0) 0 (if ((S_L1 (7 + 5 * i0) 0) - (nI 1)) < (nI 0) then (nI 0) else ((S_L1 (7 + 5 * i0) 0) - (nI 1)))) else (f_X0_removeFirst_L1 i0 n (i + 1) (ub (ub S_L1 (9 + 5 * i0) (i - 1) (S_L1 (9 + 5 * i0) i)) (10 + 5 * i0) (i - 1) ((ub S_L1 (9 + 5 * i0) (i - 1) (S_L1 (9 + 5 * i0) i)) (10 + 5 * i0) i)))
theorem f_X0_removeFirst_L1_z (i0 : Nat) (i : Nat) (S_L1 : Mem) : f_X0_removeFirst_L1 i0 0 i S_L1 = (if S_L1 (7 + 5 * i0) 0 ≤ nI i then (ub S_L1 (7 + 5 * i0) 0 (if ((S_L1 (7 + 5 * i0) 0) - (nI 1)) < (nI 0) then (nI 0) else ((S_L1 (7 + 5 * i0) 0) - (nI 1)))) else (ub S_L1 (7 + 5 * i0) 0 (if ((S_L1 (7 + 5 * i0) 0) - (nI 1)) < (nI 0) then (nI 0) else ((S_L1 (7 + 5 * i0) 0) - (nI 1))))) := rfl
theorem f_X0_removeFirst_L1_s (i0 : Nat) (n : Nat) (i : Nat) (S_L1 : Mem) : f_X0_removeFirst_L1 i0 (n + 1) i S_L1 = (if S_L1 (7 + 5 * i0) 0 ≤ nI i then (ub S_L1 (7 + 5 * i0) 0 (if ((S_L1 (7 + 5 * i0) 0) - (nI 1)) < (nI 0) then (nI 0) else ((S_L1 (7 + 5 * i0) 0) - (nI 1)))) else (f_X0_removeFirst_L1 i0 n (i + 1) (ub (ub S_L1 (9 + 5 * i0) (i - 1) (S_L1 (9 + 5 * i0) i)) (10 + 5 * i0) (i - 1) ((ub S_L1 (9 + 5 * i0) (i - 1) (S_L1 (9 + 5 * i0) i)) (10 + 5 * i0) i)))) := rfl
def f_X0_removeFirst (S : Mem) (i0 : Nat) : Mem := f_X0_removeFirst_L1 i0 (5 - 1) 1 S
theorem f_X0_removeFirst_d (S : Mem) (i0 : Nat) : f_X0_removeFirst S i0 = (f_X0_removeFirst_L1 i0 (5 - 1) 1 S) := rfl
set_option maxHeartbeats 1000000 in
set_option maxRecDepth 100000 in
theorem c_X0_removeFirst (l : Launch) (D : va_G) (cI cS : ClassId) (G : Nat → Nat) (S : Mem) (sz : Nat) (i0 : Nat) (hi : i0 < 6) : Met l yX0_removeFirst wsX0_removeFirst ({ frames := 1, cells := 0, slots := 0, locals := 20 } : Room) (wPc 36 (cF cI cS G) D (tY cI cS) G S sz [.ref (G (7 + 5 * i0))]) (mQv (f_X0_removeFirst S i0) 36 (cF cI cS G) D G sz) 0 0 (fA 36 G sz) := by
  refine x_met (cc := cX0_removeFirst) (maxL := 2) (ret := none) (by decide) rfl (Nat.le_of_ble_eq_true rfl) ?_
  intro p e s m below meth c ls hx hb hr hml hts hown hlocks hsz hP hK hD hN hl hnm
  subst hsz
  have hown : s.vm.findClass RX0 = some m.cls := hown
  have hl : lv_has ls 2 [(0, .ref (G (7 + 5 * i0)))] := hl
  have hq := f_X0_removeFirst_d S i0
  have hA : ∀ q : Nat, s.heap.size ≤ q → (fA 36 G s.heap.size) q := fun q h => Or.inr h
  have hS : va_S (fA 36 G s.heap.size) s.heap s.heap [] := va_S.rf
  refine lv_iconst (v := nI 1) hx hb dX0_removeFirst_0 (by decide) ?_
  refine lv_istore_n (lv' := [(1, .int (nI 1)), (0, .ref (G (7 + 5 * i0)))]) hx hb dX0_removeFirst_1 rfl hl (by decide) rfl (fun ls hl => ?_)
  have L1 : ∀ (n : Nat) (i : Nat) (S_L1 : Mem) (H : Heap) (locs : List Loc) (ls : Array Slot), i + n = 5 → f_X0_removeFirst S i0 = f_X0_removeFirst_L1 i0 n i S_L1 → (1 ≤ i) → va_P D vwCl (WL 36 G (cF cI cS G) S_L1) H → va_S (fA 36 G s.heap.size) s.heap H locs → lv_has ls 2 [(1, .int (nI i)), (0, .ref (G (7 + 5 * i0)))] → W p l e ({ frames := 1, cells := 0, slots := 0, locals := 20 } : Room) s m ([.ref (G (7 + 5 * i0))] : List Value).toArray below meth c H locs 0 0 (MQ below (mQv (f_X0_removeFirst S i0) 36 (cF cI cS G) D G s.heap.size) ([.ref (G (7 + 5 * i0))] : List Value).toArray s 0 0 (fA 36 G s.heap.size)) (F0 m 2 ls []) := by
    intro n
    induction n with
    | zero =>
      intro i S_L1 H locs ls hin hq h1 hP hS hl
      have hq := hq.trans (f_X0_removeFirst_L1_z _ _ _)
      refine lv_iload_n hx hb dX0_removeFirst_2 rfl (lv_at hl 0 rfl) ?_
      refine lv_aload_n hx hb dX0_removeFirst_3 rfl (lv_at hl 1 rfl) ?_
      refine x_get hx hb hts mm_X0_removeFirst_X0 hown hK hP (7 + 5 * i0) (by omega) (cF_row _ _) rfl 2 (by decide) (hts _ lk_X0_removeFirst_18) rfl rfl dX0_removeFirst_4 ?_
      refine lv_icmp_ge (tgt := 62) hx hb dX0_removeFirst_7 (by decide) (fun c_1 => ?_) (fun c_1 => ?_)
      · have hq := hq.trans (if_pos c_1)
        refine lv_aload_n hx hb dX0_removeFirst_62 rfl (lv_at hl 1 rfl) ?_
        refine lv_aload_n hx hb dX0_removeFirst_63 rfl (lv_at hl 1 rfl) ?_
        refine x_get hx hb hts mm_X0_removeFirst_X0 hown hK hP (7 + 5 * i0) (by omega) (cF_row _ _) rfl 2 (by decide) (hts _ lk_X0_removeFirst_18) rfl rfl dX0_removeFirst_64 ?_
        refine lv_iconst (v := nI 1) hx hb dX0_removeFirst_67 (by decide) ?_
        refine lv_isub hx hb dX0_removeFirst_68 ?_
        refine lv_iconst (v := nI 0) hx hb dX0_removeFirst_69 (by decide) ?_
        refine va_mmax hx hb (hml.trans hl.1.symm) hown (hts _ lm1_X0_removeFirst_max) (hts _ lm2_X0_removeFirst_max) (hts _ lm3_X0_removeFirst_max) (hts _ lm4_X0_removeFirst_max) (Nat.le_of_ble_eq_true rfl) (Nat.le_of_ble_eq_true rfl) (Nat.zero_le _) (Nat.zero_le _) dX0_removeFirst_70 ?_
        refine x_put hx hb hts mm_X0_removeFirst_X0 tyX0 tyX0_ok nmX0 hown hK hP hD hS (7 + 5 * i0) (by omega) (cF_row _ _) rfl 2 (by decide) (hts _ lk_X0_removeFirst_18) rfl rfl rfl rfl rfl (Nat.le_of_ble_eq_true rfl) 0 (cF_row _ _) dX0_removeFirst_73 (fun H locs hP hS => ?_)
        exact x_ret_v hx hb hr hlocks hP hS dX0_removeFirst_76 hq
      · have hq := hq.trans (if_neg c_1)
        refine lv_iload_n hx hb dX0_removeFirst_10 rfl (lv_at hl 0 rfl) ?_
        refine lv_aload_n hx hb dX0_removeFirst_11 rfl (lv_at hl 1 rfl) ?_
        refine x_get hx hb hts mm_X0_removeFirst_X0 hown hK hP (7 + 5 * i0) (by omega) (cF_row _ _) rfl 0 (by decide) (hts _ lk_X0_removeFirst_9) rfl rfl dX0_removeFirst_12 ?_
        refine x_alen hx hb hK hP (9 + 5 * i0) 0 (by omega) (cF_gl _ _) rfl dX0_removeFirst_15 ?_
        refine lv_icmp_ge (tgt := 62) hx hb dX0_removeFirst_16 (by decide) (fun _ => ?_) (fun c_2 => absurd (nI_le (by omega) (by omega)) c_2) 
        refine lv_aload_n hx hb dX0_removeFirst_62 rfl (lv_at hl 1 rfl) ?_
        refine lv_aload_n hx hb dX0_removeFirst_63 rfl (lv_at hl 1 rfl) ?_
        refine x_get hx hb hts mm_X0_removeFirst_X0 hown hK hP (7 + 5 * i0) (by omega) (cF_row _ _) rfl 2 (by decide) (hts _ lk_X0_removeFirst_18) rfl rfl dX0_removeFirst_64 ?_
        refine lv_iconst (v := nI 1) hx hb dX0_removeFirst_67 (by decide) ?_
        refine lv_isub hx hb dX0_removeFirst_68 ?_
        refine lv_iconst (v := nI 0) hx hb dX0_removeFirst_69 (by decide) ?_
        refine va_mmax hx hb (hml.trans hl.1.symm) hown (hts _ lm1_X0_removeFirst_max) (hts _ lm2_X0_removeFirst_max) (hts _ lm3_X0_removeFirst_max) (hts _ lm4_X0_removeFirst_max) (Nat.le_of_ble_eq_true rfl) (Nat.le_of_ble_eq_true rfl) (Nat.zero_le _) (Nat.zero_le _) dX0_removeFirst_70 ?_
        refine x_put hx hb hts mm_X0_removeFirst_X0 tyX0 tyX0_ok nmX0 hown hK hP hD hS (7 + 5 * i0) (by omega) (cF_row _ _) rfl 2 (by decide) (hts _ lk_X0_removeFirst_18) rfl rfl rfl rfl rfl (Nat.le_of_ble_eq_true rfl) 0 (cF_row _ _) dX0_removeFirst_73 (fun H locs hP hS => ?_)
        exact x_ret_v hx hb hr hlocks hP hS dX0_removeFirst_76 hq
    | succ n ih =>
      intro i S_L1 H locs ls hin hq h1 hP hS hl
      have hq := hq.trans (f_X0_removeFirst_L1_s _ _ _ _)
      refine lv_iload_n hx hb dX0_removeFirst_2 rfl (lv_at hl 0 rfl) ?_
      refine lv_aload_n hx hb dX0_removeFirst_3 rfl (lv_at hl 1 rfl) ?_
      refine x_get hx hb hts mm_X0_removeFirst_X0 hown hK hP (7 + 5 * i0) (by omega) (cF_row _ _) rfl 2 (by decide) (hts _ lk_X0_removeFirst_18) rfl rfl dX0_removeFirst_4 ?_
      refine lv_icmp_ge (tgt := 62) hx hb dX0_removeFirst_7 (by decide) (fun c_3 => ?_) (fun c_3 => ?_)
      · have hq := hq.trans (if_pos c_3)
        refine lv_aload_n hx hb dX0_removeFirst_62 rfl (lv_at hl 1 rfl) ?_
        refine lv_aload_n hx hb dX0_removeFirst_63 rfl (lv_at hl 1 rfl) ?_
        refine x_get hx hb hts mm_X0_removeFirst_X0 hown hK hP (7 + 5 * i0) (by omega) (cF_row _ _) rfl 2 (by decide) (hts _ lk_X0_removeFirst_18) rfl rfl dX0_removeFirst_64 ?_
        refine lv_iconst (v := nI 1) hx hb dX0_removeFirst_67 (by decide) ?_
        refine lv_isub hx hb dX0_removeFirst_68 ?_
        refine lv_iconst (v := nI 0) hx hb dX0_removeFirst_69 (by decide) ?_
        refine va_mmax hx hb (hml.trans hl.1.symm) hown (hts _ lm1_X0_removeFirst_max) (hts _ lm2_X0_removeFirst_max) (hts _ lm3_X0_removeFirst_max) (hts _ lm4_X0_removeFirst_max) (Nat.le_of_ble_eq_true rfl) (Nat.le_of_ble_eq_true rfl) (Nat.zero_le _) (Nat.zero_le _) dX0_removeFirst_70 ?_
        refine x_put hx hb hts mm_X0_removeFirst_X0 tyX0 tyX0_ok nmX0 hown hK hP hD hS (7 + 5 * i0) (by omega) (cF_row _ _) rfl 2 (by decide) (hts _ lk_X0_removeFirst_18) rfl rfl rfl rfl rfl (Nat.le_of_ble_eq_true rfl) 0 (cF_row _ _) dX0_removeFirst_73 (fun H locs hP hS => ?_)
        exact x_ret_v hx hb hr hlocks hP hS dX0_removeFirst_76 hq
      · have hq := hq.trans (if_neg c_3)
        refine lv_iload_n hx hb dX0_removeFirst_10 rfl (lv_at hl 0 rfl) ?_
        refine lv_aload_n hx hb dX0_removeFirst_11 rfl (lv_at hl 1 rfl) ?_
        refine x_get hx hb hts mm_X0_removeFirst_X0 hown hK hP (7 + 5 * i0) (by omega) (cF_row _ _) rfl 0 (by decide) (hts _ lk_X0_removeFirst_9) rfl rfl dX0_removeFirst_12 ?_
        refine x_alen hx hb hK hP (9 + 5 * i0) 0 (by omega) (cF_gl _ _) rfl dX0_removeFirst_15 ?_
        refine lv_icmp_ge (tgt := 62) hx hb dX0_removeFirst_16 (by decide) (fun c_4 => absurd c_4 (nI_ge (by omega) (by omega))) (fun _ => ?_)
        refine lv_iload_n hx hb dX0_removeFirst_19 rfl (lv_at hl 0 rfl) ?_
        refine lv_aload_n hx hb dX0_removeFirst_20 rfl (lv_at hl 1 rfl) ?_
        refine x_get hx hb hts mm_X0_removeFirst_X0 hown hK hP (7 + 5 * i0) (by omega) (cF_row _ _) rfl 1 (by decide) (hts _ lk_X0_removeFirst_15) rfl rfl dX0_removeFirst_21 ?_
        refine x_alen hx hb hK hP (10 + 5 * i0) 0 (by omega) (cF_pt _ _) rfl dX0_removeFirst_24 ?_
        refine lv_icmp_ge (tgt := 62) hx hb dX0_removeFirst_25 (by decide) (fun c_5 => absurd c_5 (nI_ge (by omega) (by omega))) (fun _ => ?_)
        refine lv_aload_n hx hb dX0_removeFirst_28 rfl (lv_at hl 1 rfl) ?_
        refine x_get hx hb hts mm_X0_removeFirst_X0 hown hK hP (7 + 5 * i0) (by omega) (cF_row _ _) rfl 0 (by decide) (hts _ lk_X0_removeFirst_9) rfl rfl dX0_removeFirst_29 ?_
        refine lv_iload_n hx hb dX0_removeFirst_32 rfl (lv_at hl 0 rfl) ?_
        refine lv_iconst (v := nI 1) hx hb dX0_removeFirst_33 (by decide) ?_
        refine x_isubN hx hb h1 dX0_removeFirst_34 ?_
        refine lv_aload_n hx hb dX0_removeFirst_35 rfl (lv_at hl 1 rfl) ?_
        refine x_get hx hb hts mm_X0_removeFirst_X0 hown hK hP (7 + 5 * i0) (by omega) (cF_row _ _) rfl 0 (by decide) (hts _ lk_X0_removeFirst_9) rfl rfl dX0_removeFirst_36 ?_
        refine lv_iload_n hx hb dX0_removeFirst_39 rfl (lv_at hl 0 rfl) ?_
        refine x_iald hx hb hK hP (9 + 5 * i0) 0 (by omega) (cF_gl _ _) rfl i (by omega) (by decide) dX0_removeFirst_40 ?_
        refine x_iast hx hb hK hP hD hS (9 + 5 * i0) 0 (by omega) (cF_gl _) rfl (i - 1) (by omega) (by decide) dX0_removeFirst_41 (fun H locs hP hS => ?_)
        refine lv_aload_n hx hb dX0_removeFirst_42 rfl (lv_at hl 1 rfl) ?_
        refine x_get hx hb hts mm_X0_removeFirst_X0 hown hK hP (7 + 5 * i0) (by omega) (cF_row _ _) rfl 1 (by decide) (hts _ lk_X0_removeFirst_15) rfl rfl dX0_removeFirst_43 ?_
        refine lv_iload_n hx hb dX0_removeFirst_46 rfl (lv_at hl 0 rfl) ?_
        refine lv_iconst (v := nI 1) hx hb dX0_removeFirst_47 (by decide) ?_
        refine x_isubN hx hb h1 dX0_removeFirst_48 ?_
        refine lv_aload_n hx hb dX0_removeFirst_49 rfl (lv_at hl 1 rfl) ?_
        refine x_get hx hb hts mm_X0_removeFirst_X0 hown hK hP (7 + 5 * i0) (by omega) (cF_row _ _) rfl 1 (by decide) (hts _ lk_X0_removeFirst_15) rfl rfl dX0_removeFirst_50 ?_
        refine lv_iload_n hx hb dX0_removeFirst_53 rfl (lv_at hl 0 rfl) ?_
        refine x_iald hx hb hK hP (10 + 5 * i0) 0 (by omega) (cF_pt _ _) rfl i (by omega) (by decide) dX0_removeFirst_54 ?_
        refine x_iast hx hb hK hP hD hS (10 + 5 * i0) 0 (by omega) (cF_pt _) rfl (i - 1) (by omega) (by decide) dX0_removeFirst_55 (fun H locs hP hS => ?_)
        refine lv_iinc (v := nI (i + 1)) (lv' := [(1, .int (nI (i + 1))), (0, .ref (G (7 + 5 * i0)))]) hx hb dX0_removeFirst_56 hl (k := 0) rfl (nI_add _ _) (by decide) rfl (fun ls hl => ?_)
        refine lv_goto (tgt := 2) hx hb dX0_removeFirst_59 (by decide) ?_
        exact ih (i + 1) (ub (ub S_L1 (9 + 5 * i0) (i - 1) (S_L1 (9 + 5 * i0) i)) (10 + 5 * i0) (i - 1) ((ub S_L1 (9 + 5 * i0) (i - 1) (S_L1 (9 + 5 * i0) i)) (10 + 5 * i0) i)) H locs ls (by omega) hq (by omega) hP hS (lv_sub hl [0, 1] rfl)
  exact L1 (5 - 1) 1 S _ _ _ (by omega) hq (by omega) hP hS (lv_sub hl [0, 1] rfl)

theorem mm_X1_firstSlotOfParts_X1 : ∀ w ∈ wsX10, w ∈ wsX1_firstSlotOfParts := by decide +kernel
theorem lk_X1_firstSlotOfParts_15 : Cond.fieldLink RX1 15 "BackofficeAir$Sending" "firstSlot" "I" ∈ wsX1_firstSlotOfParts := by decide +kernel
theorem lk_X1_firstSlotOfParts_22 : Cond.fieldLink RX1 22 "BackofficeAir$Sending" "hasRequest" "Z" ∈ wsX1_firstSlotOfParts := by decide +kernel
def f_X1_firstSlotOfParts (S : Mem) (i : Nat) : Int32 := if S (8 + 5 * i) 3 = 0 then (S (8 + 5 * i) 1) else ((S (8 + 5 * i) 1) + (nI 1))
theorem f_X1_firstSlotOfParts_d (S : Mem) (i : Nat) : f_X1_firstSlotOfParts S i = (if S (8 + 5 * i) 3 = 0 then (S (8 + 5 * i) 1) else ((S (8 + 5 * i) 1) + (nI 1))) := rfl
set_option maxHeartbeats 1000000 in
set_option maxRecDepth 100000 in
theorem c_X1_firstSlotOfParts (l : Launch) (D : va_G) (cI cS : ClassId) (G : Nat → Nat) (S : Mem) (sz : Nat) (i : Nat) (hi : i < 6) : Met l yX1_firstSlotOfParts wsX1_firstSlotOfParts ({ frames := 1, cells := 0, slots := 0, locals := 20 } : Room) (wPc 36 (cF cI cS G) D (tY cI cS) G S sz [.ref (G (8 + 5 * i))]) (pQi (f_X1_firstSlotOfParts S i) sz) 0 0 (fun q => sz ≤ q) := by
  refine x_met (cc := cX1_firstSlotOfParts) (maxL := 1) (ret := (some .int)) (by decide) rfl (Nat.le_of_ble_eq_true rfl) ?_
  intro p e s m below meth c ls hx hb hr hml hts hown hlocks hsz hP hK hD hN hl hnm
  subst hsz
  have hown : s.vm.findClass RX1 = some m.cls := hown
  have hl : lv_has ls 1 [(0, .ref (G (8 + 5 * i)))] := hl
  have hq := f_X1_firstSlotOfParts_d S i
  have hA : ∀ q : Nat, s.heap.size ≤ q → (fun q => s.heap.size ≤ q) q := fun q h => h
  have hS : va_S (fun q => s.heap.size ≤ q) s.heap s.heap [] := va_S.rf
  refine lv_aload_n hx hb dX1_firstSlotOfParts_0 rfl (lv_at hl 0 rfl) ?_
  refine x_get hx hb hts mm_X1_firstSlotOfParts_X1 hown hK hP (8 + 5 * i) (by omega) (cF_sd _ _) rfl 3 (by decide) (hts _ lk_X1_firstSlotOfParts_22) rfl rfl dX1_firstSlotOfParts_1 ?_
  refine lv_if_eq (tgt := 16) hx hb dX1_firstSlotOfParts_4 (by decide) (fun c_1 => ?_) (fun c_1 => ?_)
  · have hq := hq.trans (if_pos c_1)
    refine lv_aload_n hx hb dX1_firstSlotOfParts_16 rfl (lv_at hl 0 rfl) ?_
    refine x_get hx hb hts mm_X1_firstSlotOfParts_X1 hown hK hP (8 + 5 * i) (by omega) (cF_sd _ _) rfl 1 (by decide) (hts _ lk_X1_firstSlotOfParts_15) rfl rfl dX1_firstSlotOfParts_17 ?_
    exact x_ret_p hx hb hr rfl hlocks hS dX1_firstSlotOfParts_20 hq
  · have hq := hq.trans (if_neg c_1)
    refine lv_aload_n hx hb dX1_firstSlotOfParts_7 rfl (lv_at hl 0 rfl) ?_
    refine x_get hx hb hts mm_X1_firstSlotOfParts_X1 hown hK hP (8 + 5 * i) (by omega) (cF_sd _ _) rfl 1 (by decide) (hts _ lk_X1_firstSlotOfParts_15) rfl rfl dX1_firstSlotOfParts_8 ?_
    refine lv_iconst (v := nI 1) hx hb dX1_firstSlotOfParts_11 (by decide) ?_
    refine lv_iadd hx hb dX1_firstSlotOfParts_12 ?_
    refine lv_goto (tgt := 20) hx hb dX1_firstSlotOfParts_13 (by decide) ?_
    exact x_ret_p hx hb hr rfl hlocks hS dX1_firstSlotOfParts_20 hq

theorem mm_X1_begin_X1 : ∀ w ∈ wsX10, w ∈ wsX1_begin := by decide +kernel
theorem lk_X1_begin_15 : Cond.fieldLink RX1 15 "BackofficeAir$Sending" "firstSlot" "I" ∈ wsX1_begin := by decide +kernel
theorem lk_X1_begin_19 : Cond.fieldLink RX1 19 "BackofficeAir$Sending" "lastSlot" "I" ∈ wsX1_begin := by decide +kernel
theorem lk_X1_begin_22 : Cond.fieldLink RX1 22 "BackofficeAir$Sending" "hasRequest" "Z" ∈ wsX1_begin := by decide +kernel
theorem lk_X1_begin_25 : Cond.fieldLink RX1 25 "BackofficeAir$Sending" "requestBroken" "Z" ∈ wsX1_begin := by decide +kernel
theorem lk_X1_begin_28 : Cond.fieldLink RX1 28 "BackofficeAir$Sending" "parts" "I" ∈ wsX1_begin := by decide +kernel
theorem lk_X1_begin_31 : Cond.fieldLink RX1 31 "BackofficeAir$Sending" "brokenParts" "I" ∈ wsX1_begin := by decide +kernel
theorem lk_X1_begin_9 : Cond.fieldLink RX1 9 "BackofficeAir$Sending" "on" "Z" ∈ wsX1_begin := by decide +kernel
def f_X1_begin (S : Mem) (i : Nat) (t : Int32) (q : Int32) (r : Int32) : Mem := ub (ub (ub (ub (ub (ub (ub S (8 + 5 * i) 0 (nI 1)) (8 + 5 * i) 1 t) (8 + 5 * i) 3 r) (8 + 5 * i) 4 (nI 0)) (8 + 5 * i) 5 q) (8 + 5 * i) 6 (nI 0)) (8 + 5 * i) 2 (((f_X1_firstSlotOfParts (ub (ub (ub (ub (ub (ub S (8 + 5 * i) 0 (nI 1)) (8 + 5 * i) 1 t) (8 + 5 * i) 3 r) (8 + 5 * i) 4 (nI 0)) (8 + 5 * i) 5 q) (8 + 5 * i) 6 (nI 0)) i) + ((nI 2) * (f_J6_bitCount_0f7a4 q))) - (nI 1))
theorem f_X1_begin_d (S : Mem) (i : Nat) (t : Int32) (q : Int32) (r : Int32) : f_X1_begin S i t q r = (ub (ub (ub (ub (ub (ub (ub S (8 + 5 * i) 0 (nI 1)) (8 + 5 * i) 1 t) (8 + 5 * i) 3 r) (8 + 5 * i) 4 (nI 0)) (8 + 5 * i) 5 q) (8 + 5 * i) 6 (nI 0)) (8 + 5 * i) 2 (((f_X1_firstSlotOfParts (ub (ub (ub (ub (ub (ub S (8 + 5 * i) 0 (nI 1)) (8 + 5 * i) 1 t) (8 + 5 * i) 3 r) (8 + 5 * i) 4 (nI 0)) (8 + 5 * i) 5 q) (8 + 5 * i) 6 (nI 0)) i) + ((nI 2) * (f_J6_bitCount_0f7a4 q))) - (nI 1))) := rfl
set_option maxHeartbeats 1000000 in
set_option maxRecDepth 100000 in
theorem c_X1_begin (l : Launch) (D : va_G) (cI cS : ClassId) (G : Nat → Nat) (S : Mem) (sz : Nat) (i : Nat) (t : Int32) (q : Int32) (r : Int32) (hi : i < 6) (hr1 : narrow .boolean (.int r) = .int r) (hr2 : fits .boolean (.int r) = true) : Met l yX1_begin wsX1_begin ({ frames := 2, cells := 0, slots := 0, locals := 40 } : Room) (wPc 36 (cF cI cS G) D (tY cI cS) G S sz [.ref (G (8 + 5 * i)), .int t, .int q, .int r]) (mQv (f_X1_begin S i t q r) 36 (cF cI cS G) D G sz) 0 0 (fA 36 G sz) := by
  refine x_met (cc := cX1_begin) (maxL := 4) (ret := none) (by decide) rfl (Nat.le_of_ble_eq_true rfl) ?_
  intro p e s m below meth c ls hx hb hr hml hts hown hlocks hsz hP hK hD hN hl hnm
  subst hsz
  have hown : s.vm.findClass RX1 = some m.cls := hown
  have hl : lv_has ls 4 [(0, .ref (G (8 + 5 * i))), (1, .int t), (2, .int q), (3, .int r)] := hl
  have hq := f_X1_begin_d S i t q r
  have hA : ∀ q : Nat, s.heap.size ≤ q → (fA 36 G s.heap.size) q := fun q h => Or.inr h
  have hS : va_S (fA 36 G s.heap.size) s.heap s.heap [] := va_S.rf
  refine lv_aload_n hx hb dX1_begin_0 rfl (lv_at hl 0 rfl) ?_
  refine lv_iconst (v := nI 1) hx hb dX1_begin_1 (by decide) ?_
  refine x_put hx hb hts mm_X1_begin_X1 tyX1 tyX1_ok nmX1 hown hK hP hD hS (8 + 5 * i) (by omega) (cF_sd _ _) rfl 0 (by decide) (hts _ lk_X1_begin_9) rfl rfl rfl rfl rfl (Nat.le_of_ble_eq_true rfl) 0 (cF_sd _ _) dX1_begin_2 (fun H locs hP hS => ?_)
  refine lv_aload_n hx hb dX1_begin_5 rfl (lv_at hl 0 rfl) ?_
  refine lv_iload_n hx hb dX1_begin_6 rfl (lv_at hl 1 rfl) ?_
  refine x_put hx hb hts mm_X1_begin_X1 tyX1 tyX1_ok nmX1 hown hK hP hD hS (8 + 5 * i) (by omega) (cF_sd _ _) rfl 1 (by decide) (hts _ lk_X1_begin_15) rfl rfl rfl rfl rfl (Nat.le_of_ble_eq_true rfl) 1 (cF_sd _ _) dX1_begin_7 (fun H locs hP hS => ?_)
  refine lv_aload_n hx hb dX1_begin_10 rfl (lv_at hl 0 rfl) ?_
  refine lv_iload_n hx hb dX1_begin_11 rfl (lv_at hl 3 rfl) ?_
  refine x_put hx hb hts mm_X1_begin_X1 tyX1 tyX1_ok nmX1 hown hK hP hD hS (8 + 5 * i) (by omega) (cF_sd _ _) rfl 3 (by decide) (hts _ lk_X1_begin_22) rfl rfl rfl hr1 hr2 (Nat.le_of_ble_eq_true rfl) 3 (cF_sd _ _) dX1_begin_12 (fun H locs hP hS => ?_)
  refine lv_aload_n hx hb dX1_begin_15 rfl (lv_at hl 0 rfl) ?_
  refine lv_iconst (v := nI 0) hx hb dX1_begin_16 (by decide) ?_
  refine x_put hx hb hts mm_X1_begin_X1 tyX1 tyX1_ok nmX1 hown hK hP hD hS (8 + 5 * i) (by omega) (cF_sd _ _) rfl 4 (by decide) (hts _ lk_X1_begin_25) rfl rfl rfl rfl rfl (Nat.le_of_ble_eq_true rfl) 4 (cF_sd _ _) dX1_begin_17 (fun H locs hP hS => ?_)
  refine lv_aload_n hx hb dX1_begin_20 rfl (lv_at hl 0 rfl) ?_
  refine lv_iload_n hx hb dX1_begin_21 rfl (lv_at hl 2 rfl) ?_
  refine x_put hx hb hts mm_X1_begin_X1 tyX1 tyX1_ok nmX1 hown hK hP hD hS (8 + 5 * i) (by omega) (cF_sd _ _) rfl 5 (by decide) (hts _ lk_X1_begin_28) rfl rfl rfl rfl rfl (Nat.le_of_ble_eq_true rfl) 5 (cF_sd _ _) dX1_begin_22 (fun H locs hP hS => ?_)
  refine lv_aload_n hx hb dX1_begin_25 rfl (lv_at hl 0 rfl) ?_
  refine lv_iconst (v := nI 0) hx hb dX1_begin_26 (by decide) ?_
  refine x_put hx hb hts mm_X1_begin_X1 tyX1 tyX1_ok nmX1 hown hK hP hD hS (8 + 5 * i) (by omega) (cF_sd _ _) rfl 6 (by decide) (hts _ lk_X1_begin_31) rfl rfl rfl rfl rfl (Nat.le_of_ble_eq_true rfl) 6 (cF_sd _ _) dX1_begin_27 (fun H locs hP hS => ?_)
  refine lv_aload_n hx hb dX1_begin_30 rfl (lv_at hl 0 rfl) ?_
  refine lv_aload_n hx hb dX1_begin_31 rfl (lv_at hl 0 rfl) ?_
  refine x_pi (va_runV (As := []) (rest := [.ref (G (8 + 5 * i))]) ⟨hx, hb, hml, hown, hts⟩ (c_X1_firstSlotOfParts l D cI cS G (ub (ub (ub (ub (ub (ub S (8 + 5 * i) 0 (nI 1)) (8 + 5 * i) 1 t) (8 + 5 * i) 3 r) (8 + 5 * i) 4 (nI 0)) (8 + 5 * i) 5 q) (8 + 5 * i) 6 (nI 0)) H.size i (by omega)) (cwV 0 hts gX1_begin_X1_firstSlotOfParts rfl rfl rfl (by decide +kernel) ⟨Nat.le_of_ble_eq_true rfl, Nat.le_of_ble_eq_true rfl⟩) ⟨wPc_blind, va_recv hK hP (ci := 1) (q0 := 8 + 5 * i) rfl (WL_at (by omega) (cF_sd _ _)), wPc_at hP hK hD hN⟩ rfl rfl hl.1 rfl (lv_room (Nat.le_of_ble_eq_true rfl)) dX1_begin_32 ⟨Nat.le_refl _, Nat.le_refl _⟩) hS hA (fun q h => h) (fun H locs hz hk hS => ?_)
  have hP := P_kept hP hk
  refine lv_iconst (v := nI 2) hx hb dX1_begin_35 (by decide) ?_
  refine lv_iload_n hx hb dX1_begin_36 rfl (lv_at hl 2 rfl) ?_
  refine x_pi (va_runS (As := [.int q]) (rest := [.int (nI 2), .int (f_X1_firstSlotOfParts (ub (ub (ub (ub (ub (ub S (8 + 5 * i) 0 (nI 1)) (8 + 5 * i) 1 t) (8 + 5 * i) 3 r) (8 + 5 * i) 4 (nI 0)) (8 + 5 * i) 5 q) (8 + 5 * i) 6 (nI 0)) i), .ref (G (8 + 5 * i))]) ⟨hx, hb, hml, hown, hts⟩ (c_J6_bitCount_0f7a4 l H.size q) (va_cwS 1 hts gX1_begin_J6_bitCount_0f7a4 rfl rfl rfl (by decide +kernel) ⟨Nat.le_of_ble_eq_true rfl, Nat.le_of_ble_eq_true rfl⟩) ⟨sPc_blind, sPc_at hN⟩ rfl rfl hl.1 rfl (lv_room (Nat.le_of_ble_eq_true rfl)) dX1_begin_37 ⟨Nat.le_refl _, Nat.le_refl _⟩) hS hA (fun q h => h) (fun H locs hz hk hS => ?_)
  have hP := P_kept hP hk
  refine lv_imul hx hb dX1_begin_40 ?_
  refine lv_iadd hx hb dX1_begin_41 ?_
  refine lv_iconst (v := nI 1) hx hb dX1_begin_42 (by decide) ?_
  refine lv_isub hx hb dX1_begin_43 ?_
  refine x_put hx hb hts mm_X1_begin_X1 tyX1 tyX1_ok nmX1 hown hK hP hD hS (8 + 5 * i) (by omega) (cF_sd _ _) rfl 2 (by decide) (hts _ lk_X1_begin_19) rfl rfl rfl rfl rfl (Nat.le_of_ble_eq_true rfl) 2 (cF_sd _ _) dX1_begin_44 (fun H locs hP hS => ?_)
  exact x_ret_v hx hb hr hlocks hP hS dX1_begin_47 hq

theorem mm_X1_slotsUpTo_X1 : ∀ w ∈ wsX10, w ∈ wsX1_slotsUpTo := by decide +kernel
theorem lk_X1_slotsUpTo_15 : Cond.fieldLink RX1 15 "BackofficeAir$Sending" "firstSlot" "I" ∈ wsX1_slotsUpTo := by decide +kernel
def f_X1_slotsUpTo (S : Mem) (i : Nat) (t : Int32) : Int32 := (t - (S (8 + 5 * i) 1)) + (nI 1)
theorem f_X1_slotsUpTo_d (S : Mem) (i : Nat) (t : Int32) : f_X1_slotsUpTo S i t = ((t - (S (8 + 5 * i) 1)) + (nI 1)) := rfl
set_option maxHeartbeats 1000000 in
set_option maxRecDepth 100000 in
theorem c_X1_slotsUpTo (l : Launch) (D : va_G) (cI cS : ClassId) (G : Nat → Nat) (S : Mem) (sz : Nat) (i : Nat) (t : Int32) (hi : i < 6) : Met l yX1_slotsUpTo wsX1_slotsUpTo ({ frames := 1, cells := 0, slots := 0, locals := 20 } : Room) (wPc 36 (cF cI cS G) D (tY cI cS) G S sz [.ref (G (8 + 5 * i)), .int t]) (pQi (f_X1_slotsUpTo S i t) sz) 0 0 (fun q => sz ≤ q) := by
  refine x_met (cc := cX1_slotsUpTo) (maxL := 2) (ret := (some .int)) (by decide) rfl (Nat.le_of_ble_eq_true rfl) ?_
  intro p e s m below meth c ls hx hb hr hml hts hown hlocks hsz hP hK hD hN hl hnm
  subst hsz
  have hown : s.vm.findClass RX1 = some m.cls := hown
  have hl : lv_has ls 2 [(0, .ref (G (8 + 5 * i))), (1, .int t)] := hl
  have hq := f_X1_slotsUpTo_d S i t
  have hA : ∀ q : Nat, s.heap.size ≤ q → (fun q => s.heap.size ≤ q) q := fun q h => h
  have hS : va_S (fun q => s.heap.size ≤ q) s.heap s.heap [] := va_S.rf
  refine lv_iload_n hx hb dX1_slotsUpTo_0 rfl (lv_at hl 1 rfl) ?_
  refine lv_aload_n hx hb dX1_slotsUpTo_1 rfl (lv_at hl 0 rfl) ?_
  refine x_get hx hb hts mm_X1_slotsUpTo_X1 hown hK hP (8 + 5 * i) (by omega) (cF_sd _ _) rfl 1 (by decide) (hts _ lk_X1_slotsUpTo_15) rfl rfl dX1_slotsUpTo_2 ?_
  refine lv_isub hx hb dX1_slotsUpTo_5 ?_
  refine lv_iconst (v := nI 1) hx hb dX1_slotsUpTo_6 (by decide) ?_
  refine lv_iadd hx hb dX1_slotsUpTo_7 ?_
  exact x_ret_p hx hb hr rfl hlocks hS dX1_slotsUpTo_8 hq

theorem mm_X1_isRequest_X1 : ∀ w ∈ wsX10, w ∈ wsX1_isRequest := by decide +kernel
theorem lk_X1_isRequest_15 : Cond.fieldLink RX1 15 "BackofficeAir$Sending" "firstSlot" "I" ∈ wsX1_isRequest := by decide +kernel
theorem lk_X1_isRequest_22 : Cond.fieldLink RX1 22 "BackofficeAir$Sending" "hasRequest" "Z" ∈ wsX1_isRequest := by decide +kernel
def f_X1_isRequest (S : Mem) (i : Nat) (t : Int32) : Int32 := if S (8 + 5 * i) 3 = 0 then (nI 0) else (if t = S (8 + 5 * i) 1 then (nI 1) else (nI 0))
theorem f_X1_isRequest_d (S : Mem) (i : Nat) (t : Int32) : f_X1_isRequest S i t = (if S (8 + 5 * i) 3 = 0 then (nI 0) else (if t = S (8 + 5 * i) 1 then (nI 1) else (nI 0))) := rfl
set_option maxHeartbeats 1000000 in
set_option maxRecDepth 100000 in
theorem c_X1_isRequest (l : Launch) (D : va_G) (cI cS : ClassId) (G : Nat → Nat) (S : Mem) (sz : Nat) (i : Nat) (t : Int32) (hi : i < 6) : Met l yX1_isRequest wsX1_isRequest ({ frames := 1, cells := 0, slots := 0, locals := 20 } : Room) (wPc 36 (cF cI cS G) D (tY cI cS) G S sz [.ref (G (8 + 5 * i)), .int t]) (pQi (f_X1_isRequest S i t) sz) 0 0 (fun q => sz ≤ q) := by
  refine x_met (cc := cX1_isRequest) (maxL := 2) (ret := (some .boolean)) (by decide) rfl (Nat.le_of_ble_eq_true rfl) ?_
  intro p e s m below meth c ls hx hb hr hml hts hown hlocks hsz hP hK hD hN hl hnm
  subst hsz
  have hown : s.vm.findClass RX1 = some m.cls := hown
  have hl : lv_has ls 2 [(0, .ref (G (8 + 5 * i))), (1, .int t)] := hl
  have hq := f_X1_isRequest_d S i t
  have hA : ∀ q : Nat, s.heap.size ≤ q → (fun q => s.heap.size ≤ q) q := fun q h => h
  have hS : va_S (fun q => s.heap.size ≤ q) s.heap s.heap [] := va_S.rf
  refine lv_aload_n hx hb dX1_isRequest_0 rfl (lv_at hl 0 rfl) ?_
  refine x_get hx hb hts mm_X1_isRequest_X1 hown hK hP (8 + 5 * i) (by omega) (cF_sd _ _) rfl 3 (by decide) (hts _ lk_X1_isRequest_22) rfl rfl dX1_isRequest_1 ?_
  refine lv_if_eq (tgt := 19) hx hb dX1_isRequest_4 (by decide) (fun c_1 => ?_) (fun c_1 => ?_)
  · have hq := hq.trans (if_pos c_1)
    refine lv_iconst (v := nI 0) hx hb dX1_isRequest_19 (by decide) ?_
    exact x_ret_p hx hb hr rfl hlocks hS dX1_isRequest_20 hq
  · have hq := hq.trans (if_neg c_1)
    refine lv_iload_n hx hb dX1_isRequest_7 rfl (lv_at hl 1 rfl) ?_
    refine lv_aload_n hx hb dX1_isRequest_8 rfl (lv_at hl 0 rfl) ?_
    refine x_get hx hb hts mm_X1_isRequest_X1 hown hK hP (8 + 5 * i) (by omega) (cF_sd _ _) rfl 1 (by decide) (hts _ lk_X1_isRequest_15) rfl rfl dX1_isRequest_9 ?_
    refine lv_icmp_ne (tgt := 19) hx hb dX1_isRequest_12 (by decide) (fun c_2 => ?_) (fun c_2 => ?_)
    · have hq := hq.trans (if_neg c_2)
      refine lv_iconst (v := nI 0) hx hb dX1_isRequest_19 (by decide) ?_
      exact x_ret_p hx hb hr rfl hlocks hS dX1_isRequest_20 hq
    · have hq := hq.trans (if_pos c_2)
      refine lv_iconst (v := nI 1) hx hb dX1_isRequest_15 (by decide) ?_
      refine lv_goto (tgt := 20) hx hb dX1_isRequest_16 (by decide) ?_
      exact x_ret_p hx hb hr rfl hlocks hS dX1_isRequest_20 hq

theorem mm_X1_partIn_X1 : ∀ w ∈ wsX10, w ∈ wsX1_partIn := by decide +kernel
theorem lk_X1_partIn_28 : Cond.fieldLink RX1 28 "BackofficeAir$Sending" "parts" "I" ∈ wsX1_partIn := by decide +kernel
def f_X1_partIn_L1 (S : Mem) (i0 : Nat) (t : Int32) : Nat → Nat → Int32 → Int32
  | 0, i, r => if (t - (f_X1_firstSlotOfParts S i0)) / (nI 2) ≤ nI i then (r &&& (-r)) else (r &&& (-r))
  | n + 1, i, r => if (t - (f_X1_firstSlotOfParts S i0)) / (nI 2) ≤ nI i then (r &&& (-r)) else (f_X1_partIn_L1 S i0 t n (i + 1) (r &&& (r - (nI 1))))
theorem f_X1_partIn_L1_z (S : Mem) (i0 : Nat) (t : Int32) (i : Nat) (r : Int32) : f_X1_partIn_L1 S i0 t 0 i r = (if (t - (f_X1_firstSlotOfParts S i0)) / (nI 2) ≤ nI i then (r &&& (-r)) else (r &&& (-r))) := rfl
theorem f_X1_partIn_L1_s (S : Mem) (i0 : Nat) (t : Int32) (n : Nat) (i : Nat) (r : Int32) : f_X1_partIn_L1 S i0 t (n + 1) i r = (if (t - (f_X1_firstSlotOfParts S i0)) / (nI 2) ≤ nI i then (r &&& (-r)) else (f_X1_partIn_L1 S i0 t n (i + 1) (r &&& (r - (nI 1))))) := rfl
def f_X1_partIn (S : Mem) (i0 : Nat) (t : Int32) : Int32 := f_X1_partIn_L1 S i0 t 4 0 (S (8 + 5 * i0) 5)
theorem f_X1_partIn_d (S : Mem) (i0 : Nat) (t : Int32) : f_X1_partIn S i0 t = (f_X1_partIn_L1 S i0 t 4 0 (S (8 + 5 * i0) 5)) := rfl
set_option maxHeartbeats 1000000 in
set_option maxRecDepth 100000 in
theorem c_X1_partIn (l : Launch) (D : va_G) (cI cS : ClassId) (G : Nat → Nat) (S : Mem) (sz : Nat) (i0 : Nat) (t : Int32) (hi : i0 < 6) : Met l yX1_partIn wsX1_partIn ({ frames := 2, cells := 0, slots := 0, locals := 40 } : Room) (wPc 36 (cF cI cS G) D (tY cI cS) G S sz [.ref (G (8 + 5 * i0)), .int t]) (pQi (f_X1_partIn S i0 t) sz) 0 0 (fun q => sz ≤ q) := by
  refine x_met (cc := cX1_partIn) (maxL := 5) (ret := (some .int)) (by decide) rfl (Nat.le_of_ble_eq_true rfl) ?_
  intro p e s m below meth c ls hx hb hr hml hts hown hlocks hsz hP hK hD hN hl hnm
  subst hsz
  have hown : s.vm.findClass RX1 = some m.cls := hown
  have hl : lv_has ls 5 [(0, .ref (G (8 + 5 * i0))), (1, .int t)] := hl
  have hq := f_X1_partIn_d S i0 t
  have hA : ∀ q : Nat, s.heap.size ≤ q → (fun q => s.heap.size ≤ q) q := fun q h => h
  have hS : va_S (fun q => s.heap.size ≤ q) s.heap s.heap [] := va_S.rf
  refine lv_iload_n hx hb dX1_partIn_0 rfl (lv_at hl 1 rfl) ?_
  refine lv_aload_n hx hb dX1_partIn_1 rfl (lv_at hl 0 rfl) ?_
  refine x_pi (va_runV (As := []) (rest := [.int t]) ⟨hx, hb, hml, hown, hts⟩ (c_X1_firstSlotOfParts l D cI cS G S s.heap.size i0 (by omega)) (cwV 0 hts gX1_partIn_X1_firstSlotOfParts rfl rfl rfl (by decide +kernel) ⟨Nat.le_of_ble_eq_true rfl, Nat.le_of_ble_eq_true rfl⟩) ⟨wPc_blind, va_recv hK hP (ci := 1) (q0 := 8 + 5 * i0) rfl (WL_at (by omega) (cF_sd _ _)), wPc_at hP hK hD hN⟩ rfl rfl hl.1 rfl (lv_room (Nat.le_of_ble_eq_true rfl)) dX1_partIn_2 ⟨Nat.le_refl _, Nat.le_refl _⟩) hS hA (fun q h => h) (fun H locs hz hk hS => ?_)
  have hP := P_kept hP hk
  refine lv_isub hx hb dX1_partIn_5 ?_
  refine lv_iconst (v := nI 2) hx hb dX1_partIn_6 (by decide) ?_
  refine lv_idiv hx hb dX1_partIn_7 (by decide) ?_
  refine lv_istore_n (lv' := [(2, .int ((t - (f_X1_firstSlotOfParts S i0)) / (nI 2))), (0, .ref (G (8 + 5 * i0))), (1, .int t)]) hx hb dX1_partIn_8 rfl hl (by decide) rfl (fun ls hl => ?_)
  refine lv_aload_n hx hb dX1_partIn_9 rfl (lv_at hl 1 rfl) ?_
  refine x_get hx hb hts mm_X1_partIn_X1 hown hK hP (8 + 5 * i0) (by omega) (cF_sd _ _) rfl 5 (by decide) (hts _ lk_X1_partIn_28) rfl rfl dX1_partIn_10 ?_
  refine lv_istore_n (lv' := [(3, .int (S (8 + 5 * i0) 5)), (2, .int ((t - (f_X1_firstSlotOfParts S i0)) / (nI 2))), (0, .ref (G (8 + 5 * i0))), (1, .int t)]) hx hb dX1_partIn_13 rfl hl (by decide) rfl (fun ls hl => ?_)
  refine lv_iconst (v := nI 0) hx hb dX1_partIn_14 (by decide) ?_
  refine lv_istore (lv' := [(4, .int (nI 0)), (3, .int (S (8 + 5 * i0) 5)), (2, .int ((t - (f_X1_firstSlotOfParts S i0)) / (nI 2))), (0, .ref (G (8 + 5 * i0))), (1, .int t)]) hx hb dX1_partIn_15 hl (by decide) rfl (fun ls hl => ?_)
  have L1 : ∀ (n : Nat) (i : Nat) (r : Int32) (H : Heap) (locs : List Loc) (ls : Array Slot), i + n = 4 → f_X1_partIn S i0 t = f_X1_partIn_L1 S i0 t n i r → va_P D vwCl (WL 36 G (cF cI cS G) S) H → va_S (fun q => s.heap.size ≤ q) s.heap H locs → lv_has ls 5 [(4, .int (nI i)), (3, .int r), (2, .int ((t - (f_X1_firstSlotOfParts S i0)) / (nI 2))), (0, .ref (G (8 + 5 * i0))), (1, .int t)] → W p l e ({ frames := 2, cells := 0, slots := 0, locals := 40 } : Room) s m ([.ref (G (8 + 5 * i0)), .int t] : List Value).toArray below meth c H locs 0 0 (MQ below (pQi (f_X1_partIn S i0 t) s.heap.size) ([.ref (G (8 + 5 * i0)), .int t] : List Value).toArray s 0 0 (fun q => s.heap.size ≤ q)) (F0 m 17 ls []) := by
    intro n
    induction n with
    | zero =>
      intro i r H locs ls hin hq hP hS hl
      have hq := hq.trans (f_X1_partIn_L1_z _ _ _ _ _)
      refine lv_iload hx hb dX1_partIn_17 (lv_at hl 0 rfl) ?_
      refine lv_iload_n hx hb dX1_partIn_19 rfl (lv_at hl 2 rfl) ?_
      refine lv_icmp_ge (tgt := 41) hx hb dX1_partIn_20 (by decide) (fun c_1 => ?_) (fun c_1 => ?_)
      · have hq := hq.trans (if_pos c_1)
        refine lv_iload_n hx hb dX1_partIn_41 rfl (lv_at hl 1 rfl) ?_
        refine lv_iload_n hx hb dX1_partIn_42 rfl (lv_at hl 1 rfl) ?_
        refine lv_ineg hx hb dX1_partIn_43 ?_
        refine lv_iand hx hb dX1_partIn_44 ?_
        exact x_ret_p hx hb hr rfl hlocks hS dX1_partIn_45 hq
      · have hq := hq.trans (if_neg c_1)
        refine lv_iload hx hb dX1_partIn_23 (lv_at hl 0 rfl) ?_
        refine lv_iconst (v := nI 4) hx hb dX1_partIn_25 (by decide) ?_
        refine lv_icmp_ge (tgt := 41) hx hb dX1_partIn_26 (by decide) (fun _ => ?_) (fun c_2 => absurd (nI_le (by omega) (by omega)) c_2) 
        refine lv_iload_n hx hb dX1_partIn_41 rfl (lv_at hl 1 rfl) ?_
        refine lv_iload_n hx hb dX1_partIn_42 rfl (lv_at hl 1 rfl) ?_
        refine lv_ineg hx hb dX1_partIn_43 ?_
        refine lv_iand hx hb dX1_partIn_44 ?_
        exact x_ret_p hx hb hr rfl hlocks hS dX1_partIn_45 hq
    | succ n ih =>
      intro i r H locs ls hin hq hP hS hl
      have hq := hq.trans (f_X1_partIn_L1_s _ _ _ _ _ _)
      refine lv_iload hx hb dX1_partIn_17 (lv_at hl 0 rfl) ?_
      refine lv_iload_n hx hb dX1_partIn_19 rfl (lv_at hl 2 rfl) ?_
      refine lv_icmp_ge (tgt := 41) hx hb dX1_partIn_20 (by decide) (fun c_3 => ?_) (fun c_3 => ?_)
      · have hq := hq.trans (if_pos c_3)
        refine lv_iload_n hx hb dX1_partIn_41 rfl (lv_at hl 1 rfl) ?_
        refine lv_iload_n hx hb dX1_partIn_42 rfl (lv_at hl 1 rfl) ?_
        refine lv_ineg hx hb dX1_partIn_43 ?_
        refine lv_iand hx hb dX1_partIn_44 ?_
        exact x_ret_p hx hb hr rfl hlocks hS dX1_partIn_45 hq
      · have hq := hq.trans (if_neg c_3)
        refine lv_iload hx hb dX1_partIn_23 (lv_at hl 0 rfl) ?_
        refine lv_iconst (v := nI 4) hx hb dX1_partIn_25 (by decide) ?_
        refine lv_icmp_ge (tgt := 41) hx hb dX1_partIn_26 (by decide) (fun c_4 => absurd c_4 (nI_ge (by omega) (by omega))) (fun _ => ?_)
        refine lv_iload_n hx hb dX1_partIn_29 rfl (lv_at hl 1 rfl) ?_
        refine lv_iload_n hx hb dX1_partIn_30 rfl (lv_at hl 1 rfl) ?_
        refine lv_iconst (v := nI 1) hx hb dX1_partIn_31 (by decide) ?_
        refine lv_isub hx hb dX1_partIn_32 ?_
        refine lv_iand hx hb dX1_partIn_33 ?_
        refine lv_istore_n (lv' := [(3, .int (r &&& (r - (nI 1)))), (4, .int (nI i)), (2, .int ((t - (f_X1_firstSlotOfParts S i0)) / (nI 2))), (0, .ref (G (8 + 5 * i0))), (1, .int t)]) hx hb dX1_partIn_34 rfl hl (by decide) rfl (fun ls hl => ?_)
        refine lv_iinc (v := nI (i + 1)) (lv' := [(4, .int (nI (i + 1))), (3, .int (r &&& (r - (nI 1)))), (2, .int ((t - (f_X1_firstSlotOfParts S i0)) / (nI 2))), (0, .ref (G (8 + 5 * i0))), (1, .int t)]) hx hb dX1_partIn_35 hl (k := 1) rfl (nI_add _ _) (by decide) rfl (fun ls hl => ?_)
        refine lv_goto (tgt := 17) hx hb dX1_partIn_38 (by decide) ?_
        exact ih (i + 1) (r &&& (r - (nI 1))) H locs ls (by omega) hq hP hS (lv_sub hl [0, 1, 2, 3, 4] rfl)
  exact L1 4 0 (S (8 + 5 * i0) 5) _ _ _ (by omega) hq hP hS (lv_sub hl [0, 1, 2, 3, 4] rfl)

theorem mm_X1_breakIn_X1 : ∀ w ∈ wsX10, w ∈ wsX1_breakIn := by decide +kernel
theorem lk_X1_breakIn_25 : Cond.fieldLink RX1 25 "BackofficeAir$Sending" "requestBroken" "Z" ∈ wsX1_breakIn := by decide +kernel
theorem lk_X1_breakIn_31 : Cond.fieldLink RX1 31 "BackofficeAir$Sending" "brokenParts" "I" ∈ wsX1_breakIn := by decide +kernel
def f_X1_breakIn (S : Mem) (i : Nat) (t : Int32) : Mem := if f_X1_isRequest S i t = 0 then (ub S (8 + 5 * i) 6 ((S (8 + 5 * i) 6) ||| (f_X1_partIn S i t))) else (ub S (8 + 5 * i) 4 (nI 1))
theorem f_X1_breakIn_d (S : Mem) (i : Nat) (t : Int32) : f_X1_breakIn S i t = (if f_X1_isRequest S i t = 0 then (ub S (8 + 5 * i) 6 ((S (8 + 5 * i) 6) ||| (f_X1_partIn S i t))) else (ub S (8 + 5 * i) 4 (nI 1))) := rfl
set_option maxHeartbeats 1000000 in
set_option maxRecDepth 100000 in
theorem c_X1_breakIn (l : Launch) (D : va_G) (cI cS : ClassId) (G : Nat → Nat) (S : Mem) (sz : Nat) (i : Nat) (t : Int32) (hi : i < 6) : Met l yX1_breakIn wsX1_breakIn ({ frames := 3, cells := 0, slots := 0, locals := 64 } : Room) (wPc 36 (cF cI cS G) D (tY cI cS) G S sz [.ref (G (8 + 5 * i)), .int t]) (mQv (f_X1_breakIn S i t) 36 (cF cI cS G) D G sz) 0 0 (fA 36 G sz) := by
  refine x_met (cc := cX1_breakIn) (maxL := 2) (ret := none) (by decide) rfl (Nat.le_of_ble_eq_true rfl) ?_
  intro p e s m below meth c ls hx hb hr hml hts hown hlocks hsz hP hK hD hN hl hnm
  subst hsz
  have hown : s.vm.findClass RX1 = some m.cls := hown
  have hl : lv_has ls 2 [(0, .ref (G (8 + 5 * i))), (1, .int t)] := hl
  have hq := f_X1_breakIn_d S i t
  have hA : ∀ q : Nat, s.heap.size ≤ q → (fA 36 G s.heap.size) q := fun q h => Or.inr h
  have hS : va_S (fA 36 G s.heap.size) s.heap s.heap [] := va_S.rf
  refine lv_aload_n hx hb dX1_breakIn_0 rfl (lv_at hl 0 rfl) ?_
  refine lv_iload_n hx hb dX1_breakIn_1 rfl (lv_at hl 1 rfl) ?_
  refine x_pi (va_runV (As := [.int t]) (rest := []) ⟨hx, hb, hml, hown, hts⟩ (c_X1_isRequest l D cI cS G S s.heap.size i t (by omega)) (cwV 1 hts gX1_breakIn_X1_isRequest rfl rfl rfl (by decide +kernel) ⟨Nat.le_of_ble_eq_true rfl, Nat.le_of_ble_eq_true rfl⟩) ⟨wPc_blind, va_recv hK hP (ci := 1) (q0 := 8 + 5 * i) rfl (WL_at (by omega) (cF_sd _ _)), wPc_at hP hK hD hN⟩ rfl rfl hl.1 rfl (lv_room (Nat.le_of_ble_eq_true rfl)) dX1_breakIn_2 ⟨Nat.le_refl _, Nat.le_refl _⟩) hS hA (fun q h => h) (fun H locs hz hk hS => ?_)
  have hP := P_kept hP hk
  refine lv_if_eq (tgt := 16) hx hb dX1_breakIn_5 (by decide) (fun c_1 => ?_) (fun c_1 => ?_)
  · have hq := hq.trans (if_pos c_1)
    refine lv_aload_n hx hb dX1_breakIn_16 rfl (lv_at hl 0 rfl) ?_
    refine lv_dup hx hb dX1_breakIn_17 rfl ?_
    refine x_get hx hb hts mm_X1_breakIn_X1 hown hK hP (8 + 5 * i) (by omega) (cF_sd _ _) rfl 6 (by decide) (hts _ lk_X1_breakIn_31) rfl rfl dX1_breakIn_18 ?_
    refine lv_aload_n hx hb dX1_breakIn_21 rfl (lv_at hl 0 rfl) ?_
    refine lv_iload_n hx hb dX1_breakIn_22 rfl (lv_at hl 1 rfl) ?_
    refine x_pi (va_runV (As := [.int t]) (rest := [.int (S (8 + 5 * i) 6), .ref (G (8 + 5 * i))]) ⟨hx, hb, hml, hown, hts⟩ (c_X1_partIn l D cI cS G S H.size i t (by omega)) (cwV 1 hts gX1_breakIn_X1_partIn rfl rfl rfl (by decide +kernel) ⟨Nat.le_of_ble_eq_true rfl, Nat.le_of_ble_eq_true rfl⟩) ⟨wPc_blind, va_recv hK hP (ci := 1) (q0 := 8 + 5 * i) rfl (WL_at (by omega) (cF_sd _ _)), wPc_at hP hK hD hN⟩ rfl rfl hl.1 rfl (lv_room (Nat.le_of_ble_eq_true rfl)) dX1_breakIn_23 ⟨Nat.le_refl _, Nat.le_refl _⟩) hS hA (fun q h => h) (fun H locs hz hk hS => ?_)
    have hP := P_kept hP hk
    refine lv_ior hx hb dX1_breakIn_26 ?_
    refine x_put hx hb hts mm_X1_breakIn_X1 tyX1 tyX1_ok nmX1 hown hK hP hD hS (8 + 5 * i) (by omega) (cF_sd _ _) rfl 6 (by decide) (hts _ lk_X1_breakIn_31) rfl rfl rfl rfl rfl (Nat.le_of_ble_eq_true rfl) 6 (cF_sd _ _) dX1_breakIn_27 (fun H locs hP hS => ?_)
    exact x_ret_v hx hb hr hlocks hP hS dX1_breakIn_30 hq
  · have hq := hq.trans (if_neg c_1)
    refine lv_aload_n hx hb dX1_breakIn_8 rfl (lv_at hl 0 rfl) ?_
    refine lv_iconst (v := nI 1) hx hb dX1_breakIn_9 (by decide) ?_
    refine x_put hx hb hts mm_X1_breakIn_X1 tyX1 tyX1_ok nmX1 hown hK hP hD hS (8 + 5 * i) (by omega) (cF_sd _ _) rfl 4 (by decide) (hts _ lk_X1_breakIn_25) rfl rfl rfl rfl rfl (Nat.le_of_ble_eq_true rfl) 4 (cF_sd _ _) dX1_breakIn_10 (fun H locs hP hS => ?_)
    refine lv_goto (tgt := 30) hx hb dX1_breakIn_13 (by decide) ?_
    exact x_ret_v hx hb hr hlocks hP hS dX1_breakIn_30 hq

theorem mm_X1_arrivedParts_X1 : ∀ w ∈ wsX10, w ∈ wsX1_arrivedParts := by decide +kernel
theorem lk_X1_arrivedParts_25 : Cond.fieldLink RX1 25 "BackofficeAir$Sending" "requestBroken" "Z" ∈ wsX1_arrivedParts := by decide +kernel
theorem lk_X1_arrivedParts_28 : Cond.fieldLink RX1 28 "BackofficeAir$Sending" "parts" "I" ∈ wsX1_arrivedParts := by decide +kernel
theorem lk_X1_arrivedParts_31 : Cond.fieldLink RX1 31 "BackofficeAir$Sending" "brokenParts" "I" ∈ wsX1_arrivedParts := by decide +kernel
def f_X1_arrivedParts (S : Mem) (i : Nat) : Int32 := if S (8 + 5 * i) 4 = 0 then ((S (8 + 5 * i) 5) &&& ((S (8 + 5 * i) 6) ^^^ ((-1)))) else (nI 0)
theorem f_X1_arrivedParts_d (S : Mem) (i : Nat) : f_X1_arrivedParts S i = (if S (8 + 5 * i) 4 = 0 then ((S (8 + 5 * i) 5) &&& ((S (8 + 5 * i) 6) ^^^ ((-1)))) else (nI 0)) := rfl
set_option maxHeartbeats 1000000 in
set_option maxRecDepth 100000 in
theorem c_X1_arrivedParts (l : Launch) (D : va_G) (cI cS : ClassId) (G : Nat → Nat) (S : Mem) (sz : Nat) (i : Nat) (hi : i < 6) : Met l yX1_arrivedParts wsX1_arrivedParts ({ frames := 1, cells := 0, slots := 0, locals := 20 } : Room) (wPc 36 (cF cI cS G) D (tY cI cS) G S sz [.ref (G (8 + 5 * i))]) (pQi (f_X1_arrivedParts S i) sz) 0 0 (fun q => sz ≤ q) := by
  refine x_met (cc := cX1_arrivedParts) (maxL := 1) (ret := (some .int)) (by decide) rfl (Nat.le_of_ble_eq_true rfl) ?_
  intro p e s m below meth c ls hx hb hr hml hts hown hlocks hsz hP hK hD hN hl hnm
  subst hsz
  have hown : s.vm.findClass RX1 = some m.cls := hown
  have hl : lv_has ls 1 [(0, .ref (G (8 + 5 * i)))] := hl
  have hq := f_X1_arrivedParts_d S i
  have hA : ∀ q : Nat, s.heap.size ≤ q → (fun q => s.heap.size ≤ q) q := fun q h => h
  have hS : va_S (fun q => s.heap.size ≤ q) s.heap s.heap [] := va_S.rf
  refine lv_aload_n hx hb dX1_arrivedParts_0 rfl (lv_at hl 0 rfl) ?_
  refine x_get hx hb hts mm_X1_arrivedParts_X1 hown hK hP (8 + 5 * i) (by omega) (cF_sd _ _) rfl 4 (by decide) (hts _ lk_X1_arrivedParts_25) rfl rfl dX1_arrivedParts_1 ?_
  refine lv_if_eq (tgt := 11) hx hb dX1_arrivedParts_4 (by decide) (fun c_1 => ?_) (fun c_1 => ?_)
  · have hq := hq.trans (if_pos c_1)
    refine lv_aload_n hx hb dX1_arrivedParts_11 rfl (lv_at hl 0 rfl) ?_
    refine x_get hx hb hts mm_X1_arrivedParts_X1 hown hK hP (8 + 5 * i) (by omega) (cF_sd _ _) rfl 5 (by decide) (hts _ lk_X1_arrivedParts_28) rfl rfl dX1_arrivedParts_12 ?_
    refine lv_aload_n hx hb dX1_arrivedParts_15 rfl (lv_at hl 0 rfl) ?_
    refine x_get hx hb hts mm_X1_arrivedParts_X1 hown hK hP (8 + 5 * i) (by omega) (cF_sd _ _) rfl 6 (by decide) (hts _ lk_X1_arrivedParts_31) rfl rfl dX1_arrivedParts_16 ?_
    refine lv_iconst (v := (-1)) hx hb dX1_arrivedParts_19 (by decide) ?_
    refine lv_ixor hx hb dX1_arrivedParts_20 ?_
    refine lv_iand hx hb dX1_arrivedParts_21 ?_
    exact x_ret_p hx hb hr rfl hlocks hS dX1_arrivedParts_22 hq
  · have hq := hq.trans (if_neg c_1)
    refine lv_iconst (v := nI 0) hx hb dX1_arrivedParts_7 (by decide) ?_
    refine lv_goto (tgt := 22) hx hb dX1_arrivedParts_8 (by decide) ?_
    exact x_ret_p hx hb hr rfl hlocks hS dX1_arrivedParts_22 hq

theorem mm_X3_between_X3 : ∀ w ∈ wsX30, w ∈ wsX3_between := by decide +kernel
theorem lk_X3_between_9 : Cond.fieldLink RX3 9 "BackofficeAir$Strengths" "all" "[I" ∈ wsX3_between := by decide +kernel
def f_X3_between (S : Mem) (a : Nat) (b : Nat) : Int32 := S 3 (a * 6 + b)
theorem f_X3_between_d (S : Mem) (a : Nat) (b : Nat) : f_X3_between S a b = (S 3 (a * 6 + b)) := rfl
set_option maxHeartbeats 1000000 in
set_option maxRecDepth 100000 in
theorem c_X3_between (l : Launch) (D : va_G) (cI cS : ClassId) (G : Nat → Nat) (S : Mem) (sz : Nat) (a : Nat) (b : Nat) (ha : a < 6) (hb6 : b < 6) : Met l yX3_between wsX3_between ({ frames := 3, cells := 0, slots := 0, locals := 61 } : Room) (wPc 36 (cF cI cS G) D (tY cI cS) G S sz [.ref (G 2), .int (nI a), .int (nI b)]) (pQi (f_X3_between S a b) sz) 0 0 (fun q => sz ≤ q) := by
  refine x_met (cc := cX3_between) (maxL := 4) (ret := (some .int)) (by decide) rfl (Nat.le_of_ble_eq_true rfl) ?_
  intro p e s m below meth c ls hx hb hr hml hts hown hlocks hsz hP hK hD hN hl hnm
  subst hsz
  have hown : s.vm.findClass RX3 = some m.cls := hown
  have hl : lv_has ls 4 [(0, .ref (G 2)), (1, .int (nI a)), (2, .int (nI b))] := hl
  have hq := f_X3_between_d S a b
  have hA : ∀ q : Nat, s.heap.size ≤ q → (fun q => s.heap.size ≤ q) q := fun q h => h
  have hS : va_S (fun q => s.heap.size ≤ q) s.heap s.heap [] := va_S.rf
  refine lv_iload_n hx hb dX3_between_0 rfl (lv_at hl 1 rfl) ?_
  refine lv_iload_n hx hb dX3_between_1 rfl (lv_at hl 2 rfl) ?_
  refine x_pi (va_runS (As := [.int (nI a), .int (nI b)]) (rest := []) ⟨hx, hb, hml, hown, hts⟩ (c_X3_placeOf l s.heap.size (nI a) (nI b)) (va_cwS 2 hts gX3_between_X3_placeOf rfl rfl rfl (by decide +kernel) ⟨Nat.le_of_ble_eq_true rfl, Nat.le_of_ble_eq_true rfl⟩) ⟨sPc_blind, sPc_at hN⟩ rfl rfl hl.1 rfl (lv_room (Nat.le_of_ble_eq_true rfl)) dX3_between_2 ⟨Nat.le_refl _, Nat.le_refl _⟩) hS hA (fun q h => h) (fun H locs hz hk hS => ?_)
  have hP := P_kept hP hk
  refine x_top (y := nI (a * 6 + b)) (f_placeOf_in ha hb6) ?_
  refine lv_istore_n (lv' := [(3, .int (nI (a * 6 + b))), (0, .ref (G 2)), (1, .int (nI a)), (2, .int (nI b))]) hx hb dX3_between_5 rfl hl (by decide) rfl (fun ls hl => ?_)
  refine lv_iload_n hx hb dX3_between_6 rfl (lv_at hl 0 rfl) ?_
  refine lv_if_lt (tgt := 28) hx hb dX3_between_7 (by decide) (fun c_1 => absurd c_1 (nI_pos (by omega))) (fun _ => ?_)
  refine lv_iload_n hx hb dX3_between_10 rfl (lv_at hl 0 rfl) ?_
  refine lv_aload_n hx hb dX3_between_11 rfl (lv_at hl 1 rfl) ?_
  refine x_get hx hb hts mm_X3_between_X3 hown hK hP (2) (by decide) (cF_str _) rfl 0 (by decide) (hts _ lk_X3_between_9) rfl rfl dX3_between_12 ?_
  refine x_alen hx hb hK hP 3 0 (by decide) (cF_all _) rfl dX3_between_15 ?_
  refine lv_icmp_ge (tgt := 28) hx hb dX3_between_16 (by decide) (fun c_2 => absurd c_2 (nI_ge (by omega) (by omega))) (fun _ => ?_)
  refine lv_aload_n hx hb dX3_between_19 rfl (lv_at hl 1 rfl) ?_
  refine x_get hx hb hts mm_X3_between_X3 hown hK hP (2) (by decide) (cF_str _) rfl 0 (by decide) (hts _ lk_X3_between_9) rfl rfl dX3_between_20 ?_
  refine lv_iload_n hx hb dX3_between_23 rfl (lv_at hl 0 rfl) ?_
  refine x_iald hx hb hK hP 3 0 (by decide) (cF_all _) rfl (a * 6 + b) (by omega) (by decide) dX3_between_24 ?_
  refine lv_goto (tgt := 29) hx hb dX3_between_25 (by decide) ?_
  exact x_ret_p hx hb hr rfl hlocks hS dX3_between_29 hq

theorem mm_X3_put_X3 : ∀ w ∈ wsX30, w ∈ wsX3_put := by decide +kernel
theorem lk_X3_put_9 : Cond.fieldLink RX3 9 "BackofficeAir$Strengths" "all" "[I" ∈ wsX3_put := by decide +kernel
def f_X3_put (S : Mem) (a : Nat) (b : Nat) (v : Int32) : Mem := ub (ub S 3 (a * 6 + b) v) 3 (b * 6 + a) v
theorem f_X3_put_d (S : Mem) (a : Nat) (b : Nat) (v : Int32) : f_X3_put S a b v = (ub (ub S 3 (a * 6 + b) v) 3 (b * 6 + a) v) := rfl
set_option maxHeartbeats 1000000 in
set_option maxRecDepth 100000 in
theorem c_X3_put (l : Launch) (D : va_G) (cI cS : ClassId) (G : Nat → Nat) (S : Mem) (sz : Nat) (a : Nat) (b : Nat) (v : Int32) (ha : a < 6) (hb6 : b < 6) : Met l yX3_put wsX3_put ({ frames := 3, cells := 0, slots := 0, locals := 61 } : Room) (wPc 36 (cF cI cS G) D (tY cI cS) G S sz [.ref (G 2), .int (nI a), .int (nI b), .int v]) (mQv (f_X3_put S a b v) 36 (cF cI cS G) D G sz) 0 0 (fA 36 G sz) := by
  refine x_met (cc := cX3_put) (maxL := 6) (ret := none) (by decide) rfl (Nat.le_of_ble_eq_true rfl) ?_
  intro p e s m below meth c ls hx hb hr hml hts hown hlocks hsz hP hK hD hN hl hnm
  subst hsz
  have hown : s.vm.findClass RX3 = some m.cls := hown
  have hl : lv_has ls 6 [(0, .ref (G 2)), (1, .int (nI a)), (2, .int (nI b)), (3, .int v)] := hl
  have hq := f_X3_put_d S a b v
  have hA : ∀ q : Nat, s.heap.size ≤ q → (fA 36 G s.heap.size) q := fun q h => Or.inr h
  have hS : va_S (fA 36 G s.heap.size) s.heap s.heap [] := va_S.rf
  refine lv_iload_n hx hb dX3_put_0 rfl (lv_at hl 1 rfl) ?_
  refine lv_iload_n hx hb dX3_put_1 rfl (lv_at hl 2 rfl) ?_
  refine x_pi (va_runS (As := [.int (nI a), .int (nI b)]) (rest := []) ⟨hx, hb, hml, hown, hts⟩ (c_X3_placeOf l s.heap.size (nI a) (nI b)) (va_cwS 2 hts gX3_put_X3_placeOf rfl rfl rfl (by decide +kernel) ⟨Nat.le_of_ble_eq_true rfl, Nat.le_of_ble_eq_true rfl⟩) ⟨sPc_blind, sPc_at hN⟩ rfl rfl hl.1 rfl (lv_room (Nat.le_of_ble_eq_true rfl)) dX3_put_2 ⟨Nat.le_refl _, Nat.le_refl _⟩) hS hA (fun q h => h) (fun H locs hz hk hS => ?_)
  have hP := P_kept hP hk
  refine x_top (y := nI (a * 6 + b)) (f_placeOf_in ha hb6) ?_
  refine lv_istore (lv' := [(4, .int (nI (a * 6 + b))), (0, .ref (G 2)), (1, .int (nI a)), (2, .int (nI b)), (3, .int v)]) hx hb dX3_put_5 hl (by decide) rfl (fun ls hl => ?_)
  refine lv_iload_n hx hb dX3_put_7 rfl (lv_at hl 3 rfl) ?_
  refine lv_iload_n hx hb dX3_put_8 rfl (lv_at hl 2 rfl) ?_
  refine x_pi (va_runS (As := [.int (nI b), .int (nI a)]) (rest := []) ⟨hx, hb, hml, hown, hts⟩ (c_X3_placeOf l H.size (nI b) (nI a)) (va_cwS 2 hts gX3_put_X3_placeOf rfl rfl rfl (by decide +kernel) ⟨Nat.le_of_ble_eq_true rfl, Nat.le_of_ble_eq_true rfl⟩) ⟨sPc_blind, sPc_at hN⟩ rfl rfl hl.1 rfl (lv_room (Nat.le_of_ble_eq_true rfl)) dX3_put_9 ⟨Nat.le_refl _, Nat.le_refl _⟩) hS hA (fun q h => h) (fun H locs hz hk hS => ?_)
  have hP := P_kept hP hk
  refine x_top (y := nI (b * 6 + a)) (f_placeOf_in hb6 ha) ?_
  refine lv_istore (lv' := [(5, .int (nI (b * 6 + a))), (4, .int (nI (a * 6 + b))), (0, .ref (G 2)), (1, .int (nI a)), (2, .int (nI b)), (3, .int v)]) hx hb dX3_put_12 hl (by decide) rfl (fun ls hl => ?_)
  refine lv_iload hx hb dX3_put_14 (lv_at hl 1 rfl) ?_
  refine lv_if_lt (tgt := 60) hx hb dX3_put_16 (by decide) (fun c_1 => absurd c_1 (nI_pos (by omega))) (fun _ => ?_)
  refine lv_iload hx hb dX3_put_19 (lv_at hl 1 rfl) ?_
  refine lv_aload_n hx hb dX3_put_21 rfl (lv_at hl 2 rfl) ?_
  refine x_get hx hb hts mm_X3_put_X3 hown hK hP (2) (by decide) (cF_str _) rfl 0 (by decide) (hts _ lk_X3_put_9) rfl rfl dX3_put_22 ?_
  refine x_alen hx hb hK hP 3 0 (by decide) (cF_all _) rfl dX3_put_25 ?_
  refine lv_icmp_ge (tgt := 60) hx hb dX3_put_26 (by decide) (fun c_2 => absurd c_2 (nI_ge (by omega) (by omega))) (fun _ => ?_)
  refine lv_iload hx hb dX3_put_29 (lv_at hl 0 rfl) ?_
  refine lv_if_lt (tgt := 60) hx hb dX3_put_31 (by decide) (fun c_3 => absurd c_3 (nI_pos (by omega))) (fun _ => ?_)
  refine lv_iload hx hb dX3_put_34 (lv_at hl 0 rfl) ?_
  refine lv_aload_n hx hb dX3_put_36 rfl (lv_at hl 2 rfl) ?_
  refine x_get hx hb hts mm_X3_put_X3 hown hK hP (2) (by decide) (cF_str _) rfl 0 (by decide) (hts _ lk_X3_put_9) rfl rfl dX3_put_37 ?_
  refine x_alen hx hb hK hP 3 0 (by decide) (cF_all _) rfl dX3_put_40 ?_
  refine lv_icmp_ge (tgt := 60) hx hb dX3_put_41 (by decide) (fun c_4 => absurd c_4 (nI_ge (by omega) (by omega))) (fun _ => ?_)
  refine lv_aload_n hx hb dX3_put_44 rfl (lv_at hl 2 rfl) ?_
  refine x_get hx hb hts mm_X3_put_X3 hown hK hP (2) (by decide) (cF_str _) rfl 0 (by decide) (hts _ lk_X3_put_9) rfl rfl dX3_put_45 ?_
  refine lv_iload hx hb dX3_put_48 (lv_at hl 1 rfl) ?_
  refine lv_iload_n hx hb dX3_put_50 rfl (lv_at hl 5 rfl) ?_
  refine x_iast hx hb hK hP hD hS 3 0 (by decide) cF_all rfl (a * 6 + b) (by omega) (by decide) dX3_put_51 (fun H locs hP hS => ?_)
  refine lv_aload_n hx hb dX3_put_52 rfl (lv_at hl 2 rfl) ?_
  refine x_get hx hb hts mm_X3_put_X3 hown hK hP (2) (by decide) (cF_str _) rfl 0 (by decide) (hts _ lk_X3_put_9) rfl rfl dX3_put_53 ?_
  refine lv_iload hx hb dX3_put_56 (lv_at hl 0 rfl) ?_
  refine lv_iload_n hx hb dX3_put_58 rfl (lv_at hl 5 rfl) ?_
  refine x_iast hx hb hK hP hD hS 3 0 (by decide) cF_all rfl (b * 6 + a) (by omega) (by decide) dX3_put_59 (fun H locs hP hS => ?_)
  exact x_ret_v hx hb hr hlocks hP hS dX3_put_60 hq

theorem mm_X4_add_X4 : ∀ w ∈ wsX40, w ∈ wsX4_add := by decide +kernel
theorem lk_X4_add_15 : Cond.fieldLink RX4 15 "BackofficeAir$Told" "first" "I" ∈ wsX4_add := by decide +kernel
theorem lk_X4_add_19 : Cond.fieldLink RX4 19 "BackofficeAir$Told" "left" "I" ∈ wsX4_add := by decide +kernel
theorem lk_X4_add_9 : Cond.fieldLink RX4 9 "BackofficeAir$Told" "ring" "[I" ∈ wsX4_add := by decide +kernel
def f_X4_add (S : Mem) (v : Int32) : Mem := if nI ((kN (S 4 0)) + (kN (S 4 1))) < nI 200 then (ub (ub S 5 ((kN (S 4 0)) + (kN (S 4 1))) v) 4 1 (((ub S 5 ((kN (S 4 0)) + (kN (S 4 1))) v) 4 1) + (nI 1))) else (ub (ub S 5 (((kN (S 4 0)) + (kN (S 4 1))) - 200) v) 4 1 (((ub S 5 (((kN (S 4 0)) + (kN (S 4 1))) - 200) v) 4 1) + (nI 1)))
theorem f_X4_add_d (S : Mem) (v : Int32) : f_X4_add S v = (if nI ((kN (S 4 0)) + (kN (S 4 1))) < nI 200 then (ub (ub S 5 ((kN (S 4 0)) + (kN (S 4 1))) v) 4 1 (((ub S 5 ((kN (S 4 0)) + (kN (S 4 1))) v) 4 1) + (nI 1))) else (ub (ub S 5 (((kN (S 4 0)) + (kN (S 4 1))) - 200) v) 4 1 (((ub S 5 (((kN (S 4 0)) + (kN (S 4 1))) - 200) v) 4 1) + (nI 1)))) := rfl
set_option maxHeartbeats 1000000 in
set_option maxRecDepth 100000 in
theorem c_X4_add (l : Launch) (D : va_G) (cI cS : ClassId) (G : Nat → Nat) (S : Mem) (sz : Nat) (v : Int32) (hf : S 4 0 = nI (kN (S 4 0))) (hf2 : kN (S 4 0) < 200) (hl1 : S 4 1 = nI (kN (S 4 1))) (hl2 : kN (S 4 1) < 200) : Met l yX4_add wsX4_add ({ frames := 1, cells := 0, slots := 0, locals := 20 } : Room) (wPc 36 (cF cI cS G) D (tY cI cS) G S sz [.ref (G 4), .int v]) (mQv (f_X4_add S v) 36 (cF cI cS G) D G sz) 0 0 (fA 36 G sz) := by
  refine x_met (cc := cX4_add) (maxL := 3) (ret := none) (by decide) rfl (Nat.le_of_ble_eq_true rfl) ?_
  intro p e s m below meth c ls hx hb hr hml hts hown hlocks hsz hP hK hD hN hl hnm
  subst hsz
  have hown : s.vm.findClass RX4 = some m.cls := hown
  have hl : lv_has ls 3 [(0, .ref (G 4)), (1, .int v)] := hl
  have hq := f_X4_add_d S v
  have hA : ∀ q : Nat, s.heap.size ≤ q → (fA 36 G s.heap.size) q := fun q h => Or.inr h
  have hS : va_S (fA 36 G s.heap.size) s.heap s.heap [] := va_S.rf
  refine lv_aload_n hx hb dX4_add_0 rfl (lv_at hl 0 rfl) ?_
  refine x_get hx hb hts mm_X4_add_X4 hown hK hP (4) (by decide) (cF_told _) rfl 1 (by decide) (hts _ lk_X4_add_15) rfl rfl dX4_add_1 ?_
  refine x_top (y := nI (kN (S 4 0))) (hf) ?_
  refine lv_aload_n hx hb dX4_add_4 rfl (lv_at hl 0 rfl) ?_
  refine x_get hx hb hts mm_X4_add_X4 hown hK hP (4) (by decide) (cF_told _) rfl 2 (by decide) (hts _ lk_X4_add_19) rfl rfl dX4_add_5 ?_
  refine x_top (y := nI (kN (S 4 1))) (hl1) ?_
  refine x_iaddN hx hb dX4_add_8 ?_
  refine lv_istore_n (lv' := [(2, .int (nI ((kN (S 4 0)) + (kN (S 4 1))))), (0, .ref (G 4)), (1, .int v)]) hx hb dX4_add_9 rfl hl (by decide) rfl (fun ls hl => ?_)
  refine lv_iload_n hx hb dX4_add_10 rfl (lv_at hl 0 rfl) ?_
  refine lv_aload_n hx hb dX4_add_11 rfl (lv_at hl 1 rfl) ?_
  refine x_get hx hb hts mm_X4_add_X4 hown hK hP (4) (by decide) (cF_told _) rfl 0 (by decide) (hts _ lk_X4_add_9) rfl rfl dX4_add_12 ?_
  refine x_alen hx hb hK hP 5 0 (by decide) (cF_ring _) rfl dX4_add_15 ?_
  refine lv_icmp_lt (tgt := 27) hx hb dX4_add_16 (by decide) (fun c_1 => ?_) (fun c_1 => ?_)
  · have hq := hq.trans (if_pos c_1)
    have hlt : kN (S 4 0) + kN (S 4 1) < 200 := (nI_ltI (by omega) (by omega)).mp c_1
    refine lv_aload_n hx hb dX4_add_27 rfl (lv_at hl 1 rfl) ?_
    refine x_get hx hb hts mm_X4_add_X4 hown hK hP (4) (by decide) (cF_told _) rfl 2 (by decide) (hts _ lk_X4_add_19) rfl rfl dX4_add_28 ?_
    refine x_top (y := nI (kN (S 4 1))) (hl1) ?_
    refine lv_aload_n hx hb dX4_add_31 rfl (lv_at hl 1 rfl) ?_
    refine x_get hx hb hts mm_X4_add_X4 hown hK hP (4) (by decide) (cF_told _) rfl 0 (by decide) (hts _ lk_X4_add_9) rfl rfl dX4_add_32 ?_
    refine x_alen hx hb hK hP 5 0 (by decide) (cF_ring _) rfl dX4_add_35 ?_
    refine lv_icmp_ge (tgt := 69) hx hb dX4_add_36 (by decide) (fun c_2 => absurd c_2 (nI_ge hl2 (by omega))) (fun _ => ?_)
    refine lv_iload_n hx hb dX4_add_39 rfl (lv_at hl 0 rfl) ?_
    refine lv_if_lt (tgt := 69) hx hb dX4_add_40 (by decide) (fun c_3 => absurd c_3 (nI_pos (by omega))) (fun _ => ?_)
    refine lv_iload_n hx hb dX4_add_43 rfl (lv_at hl 0 rfl) ?_
    refine lv_aload_n hx hb dX4_add_44 rfl (lv_at hl 1 rfl) ?_
    refine x_get hx hb hts mm_X4_add_X4 hown hK hP (4) (by decide) (cF_told _) rfl 0 (by decide) (hts _ lk_X4_add_9) rfl rfl dX4_add_45 ?_
    refine x_alen hx hb hK hP 5 0 (by decide) (cF_ring _) rfl dX4_add_48 ?_
    refine lv_icmp_ge (tgt := 69) hx hb dX4_add_49 (by decide) (fun c_4 => absurd c_4 (nI_ge (by omega) (by omega))) (fun _ => ?_)
    refine lv_aload_n hx hb dX4_add_52 rfl (lv_at hl 1 rfl) ?_
    refine x_get hx hb hts mm_X4_add_X4 hown hK hP (4) (by decide) (cF_told _) rfl 0 (by decide) (hts _ lk_X4_add_9) rfl rfl dX4_add_53 ?_
    refine lv_iload_n hx hb dX4_add_56 rfl (lv_at hl 0 rfl) ?_
    refine lv_iload_n hx hb dX4_add_57 rfl (lv_at hl 2 rfl) ?_
    refine x_iast hx hb hK hP hD hS 5 0 (by decide) cF_ring rfl ((kN (S 4 0)) + (kN (S 4 1))) (by omega) (by decide) dX4_add_58 (fun H locs hP hS => ?_)
    refine lv_aload_n hx hb dX4_add_59 rfl (lv_at hl 1 rfl) ?_
    refine lv_dup hx hb dX4_add_60 rfl ?_
    refine x_get hx hb hts mm_X4_add_X4 hown hK hP (4) (by decide) (cF_told _) rfl 2 (by decide) (hts _ lk_X4_add_19) rfl rfl dX4_add_61 ?_
    refine lv_iconst (v := nI 1) hx hb dX4_add_64 (by decide) ?_
    refine lv_iadd hx hb dX4_add_65 ?_
    refine x_put hx hb hts mm_X4_add_X4 tyX4 tyX4_ok nmX4 hown hK hP hD hS 4 (by decide) (cF_told _) rfl 2 (by decide) (hts _ lk_X4_add_19) rfl rfl rfl rfl rfl (Nat.le_of_ble_eq_true rfl) 1 (cF_told _) dX4_add_66 (fun H locs hP hS => ?_)
    exact x_ret_v hx hb hr hlocks hP hS dX4_add_69 hq
  · have hq := hq.trans (if_neg c_1)
    have hlt : ¬ kN (S 4 0) + kN (S 4 1) < 200 := fun h => c_1 (nI_lt h (by omega))
    refine lv_iload_n hx hb dX4_add_19 rfl (lv_at hl 0 rfl) ?_
    refine lv_aload_n hx hb dX4_add_20 rfl (lv_at hl 1 rfl) ?_
    refine x_get hx hb hts mm_X4_add_X4 hown hK hP (4) (by decide) (cF_told _) rfl 0 (by decide) (hts _ lk_X4_add_9) rfl rfl dX4_add_21 ?_
    refine x_alen hx hb hK hP 5 0 (by decide) (cF_ring _) rfl dX4_add_24 ?_
    refine x_isubN hx hb (by omega) dX4_add_25 ?_
    refine lv_istore_n (lv' := [(2, .int (nI (((kN (S 4 0)) + (kN (S 4 1))) - 200))), (0, .ref (G 4)), (1, .int v)]) hx hb dX4_add_26 rfl hl (by decide) rfl (fun ls hl => ?_)
    refine lv_aload_n hx hb dX4_add_27 rfl (lv_at hl 1 rfl) ?_
    refine x_get hx hb hts mm_X4_add_X4 hown hK hP (4) (by decide) (cF_told _) rfl 2 (by decide) (hts _ lk_X4_add_19) rfl rfl dX4_add_28 ?_
    refine x_top (y := nI (kN (S 4 1))) (hl1) ?_
    refine lv_aload_n hx hb dX4_add_31 rfl (lv_at hl 1 rfl) ?_
    refine x_get hx hb hts mm_X4_add_X4 hown hK hP (4) (by decide) (cF_told _) rfl 0 (by decide) (hts _ lk_X4_add_9) rfl rfl dX4_add_32 ?_
    refine x_alen hx hb hK hP 5 0 (by decide) (cF_ring _) rfl dX4_add_35 ?_
    refine lv_icmp_ge (tgt := 69) hx hb dX4_add_36 (by decide) (fun c_5 => absurd c_5 (nI_ge hl2 (by omega))) (fun _ => ?_)
    refine lv_iload_n hx hb dX4_add_39 rfl (lv_at hl 0 rfl) ?_
    refine lv_if_lt (tgt := 69) hx hb dX4_add_40 (by decide) (fun c_6 => absurd c_6 (nI_pos (by omega))) (fun _ => ?_)
    refine lv_iload_n hx hb dX4_add_43 rfl (lv_at hl 0 rfl) ?_
    refine lv_aload_n hx hb dX4_add_44 rfl (lv_at hl 1 rfl) ?_
    refine x_get hx hb hts mm_X4_add_X4 hown hK hP (4) (by decide) (cF_told _) rfl 0 (by decide) (hts _ lk_X4_add_9) rfl rfl dX4_add_45 ?_
    refine x_alen hx hb hK hP 5 0 (by decide) (cF_ring _) rfl dX4_add_48 ?_
    refine lv_icmp_ge (tgt := 69) hx hb dX4_add_49 (by decide) (fun c_7 => absurd c_7 (nI_ge (by omega) (by omega))) (fun _ => ?_)
    refine lv_aload_n hx hb dX4_add_52 rfl (lv_at hl 1 rfl) ?_
    refine x_get hx hb hts mm_X4_add_X4 hown hK hP (4) (by decide) (cF_told _) rfl 0 (by decide) (hts _ lk_X4_add_9) rfl rfl dX4_add_53 ?_
    refine lv_iload_n hx hb dX4_add_56 rfl (lv_at hl 0 rfl) ?_
    refine lv_iload_n hx hb dX4_add_57 rfl (lv_at hl 2 rfl) ?_
    refine x_iast hx hb hK hP hD hS 5 0 (by decide) cF_ring rfl (((kN (S 4 0)) + (kN (S 4 1))) - 200) (by omega) (by decide) dX4_add_58 (fun H locs hP hS => ?_)
    refine lv_aload_n hx hb dX4_add_59 rfl (lv_at hl 1 rfl) ?_
    refine lv_dup hx hb dX4_add_60 rfl ?_
    refine x_get hx hb hts mm_X4_add_X4 hown hK hP (4) (by decide) (cF_told _) rfl 2 (by decide) (hts _ lk_X4_add_19) rfl rfl dX4_add_61 ?_
    refine lv_iconst (v := nI 1) hx hb dX4_add_64 (by decide) ?_
    refine lv_iadd hx hb dX4_add_65 ?_
    refine x_put hx hb hts mm_X4_add_X4 tyX4 tyX4_ok nmX4 hown hK hP hD hS 4 (by decide) (cF_told _) rfl 2 (by decide) (hts _ lk_X4_add_19) rfl rfl rfl rfl rfl (Nat.le_of_ble_eq_true rfl) 1 (cF_told _) dX4_add_66 (fun H locs hP hS => ?_)
    exact x_ret_v hx hb hr hlocks hP hS dX4_add_69 hq

theorem mm_X4_next_X4 : ∀ w ∈ wsX40, w ∈ wsX4_next := by decide +kernel
theorem lk_X4_next_15 : Cond.fieldLink RX4 15 "BackofficeAir$Told" "first" "I" ∈ wsX4_next := by decide +kernel
theorem lk_X4_next_19 : Cond.fieldLink RX4 19 "BackofficeAir$Told" "left" "I" ∈ wsX4_next := by decide +kernel
theorem lk_X4_next_9 : Cond.fieldLink RX4 9 "BackofficeAir$Told" "ring" "[I" ∈ wsX4_next := by decide +kernel
def f_X4_next (S : Mem) : Int32 × Mem := if S 4 1 ≤ 0 then ((nI 0, S)) else (if nI 200 ≤ (S 4 0) + (nI 1) then ((S 5 (kN (S 4 0)), ub (ub S 4 0 (nI 0)) 4 1 (((ub S 4 0 (nI 0)) 4 1) - (nI 1)))) else ((S 5 (kN (S 4 0)), ub (ub S 4 0 ((S 4 0) + (nI 1))) 4 1 (((ub S 4 0 ((S 4 0) + (nI 1))) 4 1) - (nI 1)))))
theorem f_X4_next_d (S : Mem) : f_X4_next S = (if S 4 1 ≤ 0 then ((nI 0, S)) else (if nI 200 ≤ (S 4 0) + (nI 1) then ((S 5 (kN (S 4 0)), ub (ub S 4 0 (nI 0)) 4 1 (((ub S 4 0 (nI 0)) 4 1) - (nI 1)))) else ((S 5 (kN (S 4 0)), ub (ub S 4 0 ((S 4 0) + (nI 1))) 4 1 (((ub S 4 0 ((S 4 0) + (nI 1))) 4 1) - (nI 1)))))) := rfl
set_option maxHeartbeats 1000000 in
set_option maxRecDepth 100000 in
theorem c_X4_next (l : Launch) (D : va_G) (cI cS : ClassId) (G : Nat → Nat) (S : Mem) (sz : Nat) (hf : S 4 0 = nI (kN (S 4 0))) (hf2 : kN (S 4 0) < 200) : Met l yX4_next wsX4_next ({ frames := 1, cells := 0, slots := 0, locals := 20 } : Room) (wPc 36 (cF cI cS G) D (tY cI cS) G S sz [.ref (G 4)]) (mQi (f_X4_next S) 36 (cF cI cS G) D G sz) 0 0 (fA 36 G sz) := by
  refine x_met (cc := cX4_next) (maxL := 2) (ret := (some .int)) (by decide) rfl (Nat.le_of_ble_eq_true rfl) ?_
  intro p e s m below meth c ls hx hb hr hml hts hown hlocks hsz hP hK hD hN hl hnm
  subst hsz
  have hown : s.vm.findClass RX4 = some m.cls := hown
  have hl : lv_has ls 2 [(0, .ref (G 4))] := hl
  have hq := f_X4_next_d S
  have hA : ∀ q : Nat, s.heap.size ≤ q → (fA 36 G s.heap.size) q := fun q h => Or.inr h
  have hS : va_S (fA 36 G s.heap.size) s.heap s.heap [] := va_S.rf
  refine lv_aload_n hx hb dX4_next_0 rfl (lv_at hl 0 rfl) ?_
  refine x_get hx hb hts mm_X4_next_X4 hown hK hP (4) (by decide) (cF_told _) rfl 2 (by decide) (hts _ lk_X4_next_19) rfl rfl dX4_next_1 ?_
  refine lv_if_le (tgt := 26) hx hb dX4_next_4 (by decide) (fun c_1 => ?_) (fun c_1 => ?_)
  · have hq := hq.trans (if_pos c_1)
    refine lv_iconst (v := nI 0) hx hb dX4_next_26 (by decide) ?_
    exact x_ret_m hx hb hr rfl hlocks hP hS dX4_next_27 hq
  · have hq := hq.trans (if_neg c_1)
    refine lv_aload_n hx hb dX4_next_7 rfl (lv_at hl 0 rfl) ?_
    refine x_get hx hb hts mm_X4_next_X4 hown hK hP (4) (by decide) (cF_told _) rfl 1 (by decide) (hts _ lk_X4_next_15) rfl rfl dX4_next_8 ?_
    refine x_top (y := nI (kN (S 4 0))) (hf) ?_
    refine lv_if_lt (tgt := 26) hx hb dX4_next_11 (by decide) (fun c_2 => absurd c_2 (nI_pos (by omega))) (fun _ => ?_)
    refine lv_aload_n hx hb dX4_next_14 rfl (lv_at hl 0 rfl) ?_
    refine x_get hx hb hts mm_X4_next_X4 hown hK hP (4) (by decide) (cF_told _) rfl 1 (by decide) (hts _ lk_X4_next_15) rfl rfl dX4_next_15 ?_
    refine x_top (y := nI (kN (S 4 0))) (hf) ?_
    refine lv_aload_n hx hb dX4_next_18 rfl (lv_at hl 0 rfl) ?_
    refine x_get hx hb hts mm_X4_next_X4 hown hK hP (4) (by decide) (cF_told _) rfl 0 (by decide) (hts _ lk_X4_next_9) rfl rfl dX4_next_19 ?_
    refine x_alen hx hb hK hP 5 0 (by decide) (cF_ring _) rfl dX4_next_22 ?_
    refine lv_icmp_lt (tgt := 28) hx hb dX4_next_23 (by decide) (fun _ => ?_) (fun c_3 => absurd (nI_lt hf2 (by omega)) c_3) 
    refine lv_aload_n hx hb dX4_next_28 rfl (lv_at hl 0 rfl) ?_
    refine x_get hx hb hts mm_X4_next_X4 hown hK hP (4) (by decide) (cF_told _) rfl 0 (by decide) (hts _ lk_X4_next_9) rfl rfl dX4_next_29 ?_
    refine lv_aload_n hx hb dX4_next_32 rfl (lv_at hl 0 rfl) ?_
    refine x_get hx hb hts mm_X4_next_X4 hown hK hP (4) (by decide) (cF_told _) rfl 1 (by decide) (hts _ lk_X4_next_15) rfl rfl dX4_next_33 ?_
    refine x_top (y := nI (kN (S 4 0))) (hf) ?_
    refine x_iald hx hb hK hP 5 0 (by decide) (cF_ring _) rfl (kN (S 4 0)) (by omega) (by decide) dX4_next_36 ?_
    refine lv_istore_n (lv' := [(1, .int (S 5 (kN (S 4 0)))), (0, .ref (G 4))]) hx hb dX4_next_37 rfl hl (by decide) rfl (fun ls hl => ?_)
    refine lv_aload_n hx hb dX4_next_38 rfl (lv_at hl 1 rfl) ?_
    refine lv_aload_n hx hb dX4_next_39 rfl (lv_at hl 1 rfl) ?_
    refine x_get hx hb hts mm_X4_next_X4 hown hK hP (4) (by decide) (cF_told _) rfl 1 (by decide) (hts _ lk_X4_next_15) rfl rfl dX4_next_40 ?_
    refine lv_iconst (v := nI 1) hx hb dX4_next_43 (by decide) ?_
    refine lv_iadd hx hb dX4_next_44 ?_
    refine lv_aload_n hx hb dX4_next_45 rfl (lv_at hl 1 rfl) ?_
    refine x_get hx hb hts mm_X4_next_X4 hown hK hP (4) (by decide) (cF_told _) rfl 0 (by decide) (hts _ lk_X4_next_9) rfl rfl dX4_next_46 ?_
    refine x_alen hx hb hK hP 5 0 (by decide) (cF_ring _) rfl dX4_next_49 ?_
    refine lv_icmp_ge (tgt := 62) hx hb dX4_next_50 (by decide) (fun c_4 => ?_) (fun c_4 => ?_)
    · have hq := hq.trans (if_pos c_4)
      refine lv_iconst (v := nI 0) hx hb dX4_next_62 (by decide) ?_
      refine x_put hx hb hts mm_X4_next_X4 tyX4 tyX4_ok nmX4 hown hK hP hD hS 4 (by decide) (cF_told _) rfl 1 (by decide) (hts _ lk_X4_next_15) rfl rfl rfl rfl rfl (Nat.le_of_ble_eq_true rfl) 0 (cF_told _) dX4_next_63 (fun H locs hP hS => ?_)
      refine lv_aload_n hx hb dX4_next_66 rfl (lv_at hl 1 rfl) ?_
      refine lv_dup hx hb dX4_next_67 rfl ?_
      refine x_get hx hb hts mm_X4_next_X4 hown hK hP (4) (by decide) (cF_told _) rfl 2 (by decide) (hts _ lk_X4_next_19) rfl rfl dX4_next_68 ?_
      refine lv_iconst (v := nI 1) hx hb dX4_next_71 (by decide) ?_
      refine lv_isub hx hb dX4_next_72 ?_
      refine x_put hx hb hts mm_X4_next_X4 tyX4 tyX4_ok nmX4 hown hK hP hD hS 4 (by decide) (cF_told _) rfl 2 (by decide) (hts _ lk_X4_next_19) rfl rfl rfl rfl rfl (Nat.le_of_ble_eq_true rfl) 1 (cF_told _) dX4_next_73 (fun H locs hP hS => ?_)
      refine lv_iload_n hx hb dX4_next_76 rfl (lv_at hl 0 rfl) ?_
      exact x_ret_m hx hb hr rfl hlocks hP hS dX4_next_77 hq
    · have hq := hq.trans (if_neg c_4)
      refine lv_aload_n hx hb dX4_next_53 rfl (lv_at hl 1 rfl) ?_
      refine x_get hx hb hts mm_X4_next_X4 hown hK hP (4) (by decide) (cF_told _) rfl 1 (by decide) (hts _ lk_X4_next_15) rfl rfl dX4_next_54 ?_
      refine lv_iconst (v := nI 1) hx hb dX4_next_57 (by decide) ?_
      refine lv_iadd hx hb dX4_next_58 ?_
      refine lv_goto (tgt := 63) hx hb dX4_next_59 (by decide) ?_
      refine x_put hx hb hts mm_X4_next_X4 tyX4 tyX4_ok nmX4 hown hK hP hD hS 4 (by decide) (cF_told _) rfl 1 (by decide) (hts _ lk_X4_next_15) rfl rfl rfl rfl rfl (Nat.le_of_ble_eq_true rfl) 0 (cF_told _) dX4_next_63 (fun H locs hP hS => ?_)
      refine lv_aload_n hx hb dX4_next_66 rfl (lv_at hl 1 rfl) ?_
      refine lv_dup hx hb dX4_next_67 rfl ?_
      refine x_get hx hb hts mm_X4_next_X4 hown hK hP (4) (by decide) (cF_told _) rfl 2 (by decide) (hts _ lk_X4_next_19) rfl rfl dX4_next_68 ?_
      refine lv_iconst (v := nI 1) hx hb dX4_next_71 (by decide) ?_
      refine lv_isub hx hb dX4_next_72 ?_
      refine x_put hx hb hts mm_X4_next_X4 tyX4 tyX4_ok nmX4 hown hK hP hD hS 4 (by decide) (cF_told _) rfl 2 (by decide) (hts _ lk_X4_next_19) rfl rfl rfl rfl rfl (Nat.le_of_ble_eq_true rfl) 1 (cF_told _) dX4_next_73 (fun H locs hP hS => ?_)
      refine lv_iload_n hx hb dX4_next_76 rfl (lv_at hl 0 rfl) ?_
      exact x_ret_m hx hb hr rfl hlocks hP hS dX4_next_77 hq

