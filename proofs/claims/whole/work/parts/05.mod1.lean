def f_X6_isIn (x : Int32) (lo : Int32) (hi : Int32) : Int32 := if x < lo then (nI 0) else (if hi < x then (nI 0) else (nI 1))
theorem f_X6_isIn_d (x : Int32) (lo : Int32) (hi : Int32) : f_X6_isIn x lo hi = (if x < lo then (nI 0) else (if hi < x then (nI 0) else (nI 1))) := rfl
set_option maxHeartbeats 1000000 in
set_option maxRecDepth 100000 in
theorem c_X6_isIn (l : Launch) (sz : Nat) (x : Int32) (lo : Int32) (hi : Int32) : Met l yX6_isIn wsX6_isIn ({ frames := 1, cells := 0, slots := 0, locals := 20 } : Room) (sPc sz [.int x, .int lo, .int hi]) (pQi (f_X6_isIn x lo hi) sz) 0 0 (fun q => sz ≤ q) := by
  refine x_sta (cc := cX6_isIn) (maxL := 3) (ret := (some .boolean)) (by decide) rfl (Nat.le_of_ble_eq_true rfl) ?_
  intro p e s m below meth c ls hx hb hr hml hts hown hlocks hsz hN hl
  subst hsz
  have hown : s.vm.findClass RX6 = some m.cls := hown
  have hl : lv_has ls 3 [(0, .int x), (1, .int lo), (2, .int hi)] := hl
  have hq := f_X6_isIn_d x lo hi
  have hA : ∀ q : Nat, s.heap.size ≤ q → (fun q => s.heap.size ≤ q) q := fun q h => h
  have hS : va_S (fun q => s.heap.size ≤ q) s.heap s.heap [] := va_S.rf
  refine lv_iload_n hx hb dX6_isIn_0 rfl (lv_at hl 0 rfl) ?_
  refine lv_iload_n hx hb dX6_isIn_1 rfl (lv_at hl 1 rfl) ?_
  refine lv_icmp_lt (tgt := 14) hx hb dX6_isIn_2 (by decide) (fun c_1 => ?_) (fun c_1 => ?_)
  · have hq := hq.trans (if_pos c_1)
    refine lv_iconst (v := nI 0) hx hb dX6_isIn_14 (by decide) ?_
    exact x_ret_p hx hb hr rfl hlocks hS dX6_isIn_15 hq
  · have hq := hq.trans (if_neg c_1)
    refine lv_iload_n hx hb dX6_isIn_5 rfl (lv_at hl 0 rfl) ?_
    refine lv_iload_n hx hb dX6_isIn_6 rfl (lv_at hl 2 rfl) ?_
    refine lv_icmp_gt (tgt := 14) hx hb dX6_isIn_7 (by decide) (fun c_2 => ?_) (fun c_2 => ?_)
    · have hq := hq.trans (if_pos c_2)
      refine lv_iconst (v := nI 0) hx hb dX6_isIn_14 (by decide) ?_
      exact x_ret_p hx hb hr rfl hlocks hS dX6_isIn_15 hq
    · have hq := hq.trans (if_neg c_2)
      refine lv_iconst (v := nI 1) hx hb dX6_isIn_10 (by decide) ?_
      refine lv_goto (tgt := 15) hx hb dX6_isIn_11 (by decide) ?_
      exact x_ret_p hx hb hr rfl hlocks hS dX6_isIn_15 hq

theorem isIn_nar (x lo hi : Int32) : narrow .boolean (.int (f_X6_isIn x lo hi)) = .int (f_X6_isIn x lo hi) := by
  rw [f_X6_isIn_d]
  split
  · rfl
  · split <;> rfl
theorem nar01 {b : Int32} (h : b = nI 0 ∨ b = nI 1) : narrow .boolean (.int b) = .int b := by rcases h with rfl | rfl <;> rfl

def f_X6_isStation (x : Int32) : Int32 := f_X6_isIn x (nI 0) (nI 5)
theorem f_X6_isStation_d (x : Int32) : f_X6_isStation x = (f_X6_isIn x (nI 0) (nI 5)) := rfl
set_option maxHeartbeats 1000000 in
set_option maxRecDepth 100000 in
theorem c_X6_isStation (l : Launch) (sz : Nat) (x : Int32) : Met l yX6_isStation wsX6_isStation ({ frames := 2, cells := 0, slots := 0, locals := 42 } : Room) (sPc sz [.int x]) (pQi (f_X6_isStation x) sz) 0 0 (fun q => sz ≤ q) := by
  refine x_sta (cc := cX6_isStation) (maxL := 1) (ret := (some .boolean)) (by decide) rfl (Nat.le_of_ble_eq_true rfl) ?_
  intro p e s m below meth c ls hx hb hr hml hts hown hlocks hsz hN hl
  subst hsz
  have hown : s.vm.findClass RX6 = some m.cls := hown
  have hl : lv_has ls 1 [(0, .int x)] := hl
  have hq := f_X6_isStation_d x
  have hA : ∀ q : Nat, s.heap.size ≤ q → (fun q => s.heap.size ≤ q) q := fun q h => h
  have hS : va_S (fun q => s.heap.size ≤ q) s.heap s.heap [] := va_S.rf
  refine lv_iload_n hx hb dX6_isStation_0 rfl (lv_at hl 0 rfl) ?_
  refine lv_iconst (v := nI 0) hx hb dX6_isStation_1 (by decide) ?_
  refine lv_iconst (v := nI 5) hx hb dX6_isStation_2 (by decide) ?_
  refine x_pi (va_runS (As := [.int x, .int (nI 0), .int (nI 5)]) (rest := []) ⟨hx, hb, hml, hown, hts⟩ (c_X6_isIn l s.heap.size x (nI 0) (nI 5)) (va_cwS 3 hts gX6_isStation_X6_isIn rfl rfl rfl (by decide +kernel) ⟨Nat.le_of_ble_eq_true rfl, Nat.le_of_ble_eq_true rfl⟩) ⟨sPc_blind, sPc_at hN⟩ rfl rfl hl.1 rfl (lv_room (Nat.le_of_ble_eq_true rfl)) dX6_isStation_3 ⟨Nat.le_refl _, Nat.le_refl _⟩) hS hA (fun q h => h) (fun H locs hz hk hS => ?_)
  exact x_ret_p hx hb hr (isIn_nar _ _ _) hlocks hS dX6_isStation_6 hq

theorem mm_X6_isFine_X6 : ∀ w ∈ wsX60, w ∈ wsX6_isFine := by decide +kernel
theorem lk_X6_isFine_72 : Cond.fieldLink RX6 72 "BackofficeAirModel" "thrown" "I" ∈ wsX6_isFine := by decide +kernel
def f_X6_isFine (S : Mem) (k : Int32) : Int32 × Mem := if k = 0 then ((nI 1, ub S 0 0 k)) else ((nI 0, ub S 0 0 k))
theorem f_X6_isFine_d (S : Mem) (k : Int32) : f_X6_isFine S k = (if k = 0 then ((nI 1, ub S 0 0 k)) else ((nI 0, ub S 0 0 k))) := rfl
set_option maxHeartbeats 1000000 in
set_option maxRecDepth 100000 in
theorem c_X6_isFine (l : Launch) (D : va_G) (cI cS cZ cJ : ClassId) (G : Nat → Nat) (S : Mem) (sz : Nat) (k : Int32) : Met l yX6_isFine wsX6_isFine ({ frames := 1, cells := 0, slots := 0, locals := 20 } : Room) (wPc 20 (mF cI cZ G) D (tY cI cS cZ cJ) G S sz [.ref (G 0), .int k]) (mQi (f_X6_isFine S k) 20 (mF cI cZ G) D G sz) 0 0 (fA 20 G sz) := by
  refine x_met (cc := cX6_isFine) (maxL := 2) (ret := (some .boolean)) (by decide) rfl (Nat.le_of_ble_eq_true rfl) ?_
  intro p e s m below meth c ls hx hb hr hml hts hown hlocks hsz hP hK hD hN hl hnm
  subst hsz
  have hown : s.vm.findClass RX6 = some m.cls := hown
  have hl : lv_has ls 2 [(0, .ref (G 0)), (1, .int k)] := hl
  have hq := f_X6_isFine_d S k
  have hA : ∀ q : Nat, s.heap.size ≤ q → (fA 20 G s.heap.size) q := fun q h => Or.inr h
  have hS : va_S (fA 20 G s.heap.size) s.heap s.heap [] := va_S.rf
  refine lv_aload_n hx hb dX6_isFine_0 rfl (lv_at hl 0 rfl) ?_
  refine lv_iload_n hx hb dX6_isFine_1 rfl (lv_at hl 1 rfl) ?_
  refine x_put hx hb hts mm_X6_isFine_X6 tyX6 tyX6_ok nmX6 hown hK hP hD hS 0 (by decide) (rfl) rfl 0 (by decide) (hts _ lk_X6_isFine_72) rfl rfl rfl rfl rfl (Nat.le_of_ble_eq_true rfl) 0 (rfl) dX6_isFine_2 (fun H locs hP hS => ?_)
  refine lv_iload_n hx hb dX6_isFine_5 rfl (lv_at hl 1 rfl) ?_
  refine lv_if_ne (tgt := 13) hx hb dX6_isFine_6 (by decide) (fun c_1 => ?_) (fun c_1 => ?_)
  · have hq := hq.trans (if_neg c_1)
    refine lv_iconst (v := nI 0) hx hb dX6_isFine_13 (by decide) ?_
    exact x_ret_m hx hb hr rfl hlocks hP hS dX6_isFine_14 hq
  · have hq := hq.trans (if_pos c_1)
    refine lv_iconst (v := nI 1) hx hb dX6_isFine_9 (by decide) ?_
    refine lv_goto (tgt := 14) hx hb dX6_isFine_10 (by decide) ?_
    exact x_ret_m hx hb hr rfl hlocks hP hS dX6_isFine_14 hq

theorem mm_X6_thrown_X6 : ∀ w ∈ wsX60, w ∈ wsX6_thrown := by decide +kernel
theorem lk_X6_thrown_72 : Cond.fieldLink RX6 72 "BackofficeAirModel" "thrown" "I" ∈ wsX6_thrown := by decide +kernel
def f_X6_thrown (S : Mem) : Int32 := S 0 0
theorem f_X6_thrown_d (S : Mem) : f_X6_thrown S = (S 0 0) := rfl
set_option maxHeartbeats 1000000 in
set_option maxRecDepth 100000 in
theorem c_X6_thrown (l : Launch) (D : va_G) (cI cS cZ cJ : ClassId) (G : Nat → Nat) (S : Mem) (sz : Nat) : Met l yX6_thrown wsX6_thrown ({ frames := 1, cells := 0, slots := 0, locals := 20 } : Room) (wPc 20 (mF cI cZ G) D (tY cI cS cZ cJ) G S sz [.ref (G 0)]) (pQi (f_X6_thrown S) sz) 0 0 (fun q => sz ≤ q) := by
  refine x_met (cc := cX6_thrown) (maxL := 1) (ret := (some .int)) (by decide) rfl (Nat.le_of_ble_eq_true rfl) ?_
  intro p e s m below meth c ls hx hb hr hml hts hown hlocks hsz hP hK hD hN hl hnm
  subst hsz
  have hown : s.vm.findClass RX6 = some m.cls := hown
  have hl : lv_has ls 1 [(0, .ref (G 0))] := hl
  have hq := f_X6_thrown_d S
  have hA : ∀ q : Nat, s.heap.size ≤ q → (fun q => s.heap.size ≤ q) q := fun q h => h
  have hS : va_S (fun q => s.heap.size ≤ q) s.heap s.heap [] := va_S.rf
  refine lv_aload_n hx hb dX6_thrown_0 rfl (lv_at hl 0 rfl) ?_
  refine x_get hx hb hts mm_X6_thrown_X6 hown hK hP (0) (by decide) (rfl) rfl 0 (by decide) (hts _ lk_X6_thrown_72) rfl rfl dX6_thrown_1 ?_
  exact x_ret_p hx hb hr rfl hlocks hS dX6_thrown_4 hq

theorem mm_X6_heard_X6 : ∀ w ∈ wsX60, w ∈ wsX6_heard := by decide +kernel
theorem lk_X6_heard_13 : Cond.fieldLink RX6 13 "BackofficeAirModel" "strength" "[I" ∈ wsX6_heard := by decide +kernel
def f_X6_heard (S : Mem) (s1 : Nat) (t : Nat) : Int32 := S 1 ((6 * s1) + t)
theorem f_X6_heard_d (S : Mem) (s1 : Nat) (t : Nat) : f_X6_heard S s1 t = (S 1 ((6 * s1) + t)) := rfl
set_option maxHeartbeats 1000000 in
set_option maxRecDepth 100000 in
theorem c_X6_heard (l : Launch) (D : va_G) (cI cS cZ cJ : ClassId) (G : Nat → Nat) (S : Mem) (sz : Nat) (s1 : Nat) (t : Nat) (h1 : s1 < 6) (ht : t < 6) : Met l yX6_heard wsX6_heard ({ frames := 1, cells := 0, slots := 0, locals := 20 } : Room) (wPc 20 (mF cI cZ G) D (tY cI cS cZ cJ) G S sz [.ref (G 0), .int (nI s1), .int (nI t)]) (pQi (f_X6_heard S s1 t) sz) 0 0 (fun q => sz ≤ q) := by
  refine x_met (cc := cX6_heard) (maxL := 3) (ret := (some .int)) (by decide) rfl (Nat.le_of_ble_eq_true rfl) ?_
  intro p e s m below meth c ls hx hb hr hml hts hown hlocks hsz hP hK hD hN hl hnm
  subst hsz
  have hown : s.vm.findClass RX6 = some m.cls := hown
  have hl : lv_has ls 3 [(0, .ref (G 0)), (1, .int (nI s1)), (2, .int (nI t))] := hl
  have hq := f_X6_heard_d S s1 t
  have hA : ∀ q : Nat, s.heap.size ≤ q → (fun q => s.heap.size ≤ q) q := fun q h => h
  have hS : va_S (fun q => s.heap.size ≤ q) s.heap s.heap [] := va_S.rf
  refine lv_aload_n hx hb dX6_heard_0 rfl (lv_at hl 0 rfl) ?_
  refine x_get hx hb hts mm_X6_heard_X6 hown hK hP (0) (by decide) (rfl) rfl 3 (by decide) (hts _ lk_X6_heard_13) rfl rfl dX6_heard_1 ?_
  refine lv_bipush (v := nI 6) hx hb dX6_heard_4 (by decide) ?_
  refine lv_iload_n hx hb dX6_heard_6 rfl (lv_at hl 1 rfl) ?_
  refine x_imulN hx hb dX6_heard_7 ?_
  refine lv_iload_n hx hb dX6_heard_8 rfl (lv_at hl 2 rfl) ?_
  refine x_iaddN hx hb dX6_heard_9 ?_
  refine x_iald hx hb hK hP 1 0 (by decide) (rfl) rfl ((6 * s1) + t) (by omega) (by decide) dX6_heard_10 ?_
  exact x_ret_p hx hb hr rfl hlocks hS dX6_heard_11 hq

theorem mm_X6_least_X6 : ∀ w ∈ wsX60, w ∈ wsX6_least := by decide +kernel
theorem lk_X6_least_17 : Cond.fieldLink RX6 17 "BackofficeAirModel" "its" "[I" ∈ wsX6_least := by decide +kernel
def f_X6_least (S : Mem) (s1 : Nat) : Int32 := if S 2 s1 = 0 then (nI 3) else (nI 7)
theorem f_X6_least_d (S : Mem) (s1 : Nat) : f_X6_least S s1 = (if S 2 s1 = 0 then (nI 3) else (nI 7)) := rfl
set_option maxHeartbeats 1000000 in
set_option maxRecDepth 100000 in
theorem c_X6_least (l : Launch) (D : va_G) (cI cS cZ cJ : ClassId) (G : Nat → Nat) (S : Mem) (sz : Nat) (s1 : Nat) (h1 : s1 < 6) : Met l yX6_least wsX6_least ({ frames := 1, cells := 0, slots := 0, locals := 20 } : Room) (wPc 20 (mF cI cZ G) D (tY cI cS cZ cJ) G S sz [.ref (G 0), .int (nI s1)]) (pQi (f_X6_least S s1) sz) 0 0 (fun q => sz ≤ q) := by
  refine x_met (cc := cX6_least) (maxL := 2) (ret := (some .int)) (by decide) rfl (Nat.le_of_ble_eq_true rfl) ?_
  intro p e s m below meth c ls hx hb hr hml hts hown hlocks hsz hP hK hD hN hl hnm
  subst hsz
  have hown : s.vm.findClass RX6 = some m.cls := hown
  have hl : lv_has ls 2 [(0, .ref (G 0)), (1, .int (nI s1))] := hl
  have hq := f_X6_least_d S s1
  have hA : ∀ q : Nat, s.heap.size ≤ q → (fun q => s.heap.size ≤ q) q := fun q h => h
  have hS : va_S (fun q => s.heap.size ≤ q) s.heap s.heap [] := va_S.rf
  refine lv_aload_n hx hb dX6_least_0 rfl (lv_at hl 0 rfl) ?_
  refine x_get hx hb hts mm_X6_least_X6 hown hK hP (0) (by decide) (rfl) rfl 4 (by decide) (hts _ lk_X6_least_17) rfl rfl dX6_least_1 ?_
  refine lv_iload_n hx hb dX6_least_4 rfl (lv_at hl 1 rfl) ?_
  refine x_iald hx hb hK hP 2 0 (by decide) (rfl) rfl s1 (by omega) (by decide) dX6_least_5 ?_
  refine lv_if_ne (tgt := 13) hx hb dX6_least_6 (by decide) (fun c_1 => ?_) (fun c_1 => ?_)
  · have hq := hq.trans (if_neg c_1)
    refine lv_bipush (v := nI 7) hx hb dX6_least_13 (by decide) ?_
    exact x_ret_p hx hb hr rfl hlocks hS dX6_least_15 hq
  · have hq := hq.trans (if_pos c_1)
    refine lv_iconst (v := nI 3) hx hb dX6_least_9 (by decide) ?_
    refine lv_goto (tgt := 15) hx hb dX6_least_10 (by decide) ?_
    exact x_ret_p hx hb hr rfl hlocks hS dX6_least_15 hq

def f_X6_count (x : Int32) : Int32 := (((x &&& (nI 1)) + ((x >>> ((nI 1) &&& 31)) &&& (nI 1))) + ((x >>> ((nI 2) &&& 31)) &&& (nI 1))) + ((x >>> ((nI 3) &&& 31)) &&& (nI 1))
theorem f_X6_count_d (x : Int32) : f_X6_count x = ((((x &&& (nI 1)) + ((x >>> ((nI 1) &&& 31)) &&& (nI 1))) + ((x >>> ((nI 2) &&& 31)) &&& (nI 1))) + ((x >>> ((nI 3) &&& 31)) &&& (nI 1))) := rfl
set_option maxHeartbeats 1000000 in
set_option maxRecDepth 100000 in
theorem c_X6_count (l : Launch) (sz : Nat) (x : Int32) : Met l yX6_count wsX6_count ({ frames := 1, cells := 0, slots := 0, locals := 20 } : Room) (sPc sz [.int x]) (pQi (f_X6_count x) sz) 0 0 (fun q => sz ≤ q) := by
  refine x_sta (cc := cX6_count) (maxL := 1) (ret := (some .int)) (by decide) rfl (Nat.le_of_ble_eq_true rfl) ?_
  intro p e s m below meth c ls hx hb hr hml hts hown hlocks hsz hN hl
  subst hsz
  have hown : s.vm.findClass RX6 = some m.cls := hown
  have hl : lv_has ls 1 [(0, .int x)] := hl
  have hq := f_X6_count_d x
  have hA : ∀ q : Nat, s.heap.size ≤ q → (fun q => s.heap.size ≤ q) q := fun q h => h
  have hS : va_S (fun q => s.heap.size ≤ q) s.heap s.heap [] := va_S.rf
  refine lv_iload_n hx hb dX6_count_0 rfl (lv_at hl 0 rfl) ?_
  refine lv_iconst (v := nI 1) hx hb dX6_count_1 (by decide) ?_
  refine lv_iand hx hb dX6_count_2 ?_
  refine lv_iload_n hx hb dX6_count_3 rfl (lv_at hl 0 rfl) ?_
  refine lv_iconst (v := nI 1) hx hb dX6_count_4 (by decide) ?_
  refine lv_ishr hx hb dX6_count_5 ?_
  refine lv_iconst (v := nI 1) hx hb dX6_count_6 (by decide) ?_
  refine lv_iand hx hb dX6_count_7 ?_
  refine lv_iadd hx hb dX6_count_8 ?_
  refine lv_iload_n hx hb dX6_count_9 rfl (lv_at hl 0 rfl) ?_
  refine lv_iconst (v := nI 2) hx hb dX6_count_10 (by decide) ?_
  refine lv_ishr hx hb dX6_count_11 ?_
  refine lv_iconst (v := nI 1) hx hb dX6_count_12 (by decide) ?_
  refine lv_iand hx hb dX6_count_13 ?_
  refine lv_iadd hx hb dX6_count_14 ?_
  refine lv_iload_n hx hb dX6_count_15 rfl (lv_at hl 0 rfl) ?_
  refine lv_iconst (v := nI 3) hx hb dX6_count_16 (by decide) ?_
  refine lv_ishr hx hb dX6_count_17 ?_
  refine lv_iconst (v := nI 1) hx hb dX6_count_18 (by decide) ?_
  refine lv_iand hx hb dX6_count_19 ?_
  refine lv_iadd hx hb dX6_count_20 ?_
  exact x_ret_p hx hb hr rfl hlocks hS dX6_count_21 hq

theorem isSt_k {x : Int32} (h : ¬ f_X6_isStation x = 0) : x = nI (kN x) ∧ kN x < 6 := by
  rw [f_X6_isStation_d, f_X6_isIn_d] at h
  by_cases h1 : x < nI 0
  · rw [if_pos h1] at h; exact absurd (by decide) h
  · rw [if_neg h1] at h
    by_cases h2 : nI 5 < x
    · rw [if_pos h2] at h; exact absurd (by decide) h
    · obtain ⟨j, hj, rfl⟩ := nI_of2 (M := nI 5) (n := 5) (by decide) (show ¬ x < 0 from h1) (Int32.not_lt.mp h2)
      rw [kN_nI (by omega)]
      exact ⟨rfl, by omega⟩
theorem isFine_0 (S : Mem) : ¬ (f_X6_isFine S (nI 0)).1 = 0 := by
  rw [f_X6_isFine_d, if_pos (by decide)]; exact (by decide : ¬ nI 1 = 0)
theorem isFine_1 (S : Mem) : (f_X6_isFine S (nI 1)).1 = 0 := by
  rw [f_X6_isFine_d, if_neg (by decide)]; exact (by decide : nI 0 = 0)
theorem isFine_2 (S : Mem) : (f_X6_isFine S (nI 2)).1 = 0 := by
  rw [f_X6_isFine_d, if_neg (by decide)]; exact (by decide : nI 0 = 0)
theorem isFine_3 (S : Mem) : (f_X6_isFine S (nI 3)).1 = 0 := by
  rw [f_X6_isFine_d, if_neg (by decide)]; exact (by decide : nI 0 = 0)
theorem isFine_st (S : Mem) (k : Int32) : (f_X6_isFine S k).2 = ub S 0 0 k := by
  rw [f_X6_isFine_d]; split <;> rfl
theorem num_lt {S : Mem} (hn : S 0 3 = nI (kN (S 0 3))) (h2 : kN (S 0 3) ≤ 200) (h : ¬ S 0 3 = nI 200) : kN (S 0 3) < 200 := by
  rcases Nat.lt_or_ge (kN (S 0 3)) 200 with q | q
  · exact q
  · exact absurd (hn.trans (congrArg nI (by omega))) h
theorem num_pred {S : Mem} {b j q : Nat} (hn : S b j = nI (kN (S b j))) (h2 : kN (S b j) ≤ q + 1) (hq : q < 1000) : ub S b j (S b j - nI 1) b j ≤ nI q := by
  rw [ub_blk, pk_us, hn]
  rcases Nat.eq_zero_or_pos (kN (S b j)) with h0 | h0
  · rw [h0, show nI 0 - nI 1 = -1 by decide]
    exact Int32.le_trans (show (-1 : Int32) ≤ nI 0 by decide) (nI_le (by omega) (by omega))
  · rw [pk_sub (by omega)]
    exact nI_le (by omega) (by omega)

theorem mm_X6_setStrength_X6 : ∀ w ∈ wsX60, w ∈ wsX6_setStrength := by decide +kernel
theorem lk_X6_setStrength_13 : Cond.fieldLink RX6 13 "BackofficeAirModel" "strength" "[I" ∈ wsX6_setStrength := by decide +kernel
def f_X6_setStrength (S : Mem) (x : Int32) (y : Int32) (v : Int32) : Int32 × Mem := if f_X6_isStation x = 0 then ((nI 0, (f_X6_isFine S (nI 1)).2)) else (if f_X6_isStation y = 0 then ((nI 0, (f_X6_isFine S (nI 1)).2)) else (if f_X6_isIn v (nI 0) (nI 9) = 0 then ((nI 0, (f_X6_isFine S (nI 2)).2)) else (if x = y then ((nI 0, (f_X6_isFine S (nI 2)).2)) else ((f_X6_heard ((f_X6_isFine S (nI 0)).2) (kN x) (kN y), ub (ub ((f_X6_isFine S (nI 0)).2) 1 ((6 * (kN x)) + (kN y)) v) 1 ((6 * (kN y)) + (kN x)) v)))))
theorem f_X6_setStrength_d (S : Mem) (x : Int32) (y : Int32) (v : Int32) : f_X6_setStrength S x y v = (if f_X6_isStation x = 0 then ((nI 0, (f_X6_isFine S (nI 1)).2)) else (if f_X6_isStation y = 0 then ((nI 0, (f_X6_isFine S (nI 1)).2)) else (if f_X6_isIn v (nI 0) (nI 9) = 0 then ((nI 0, (f_X6_isFine S (nI 2)).2)) else (if x = y then ((nI 0, (f_X6_isFine S (nI 2)).2)) else ((f_X6_heard ((f_X6_isFine S (nI 0)).2) (kN x) (kN y), ub (ub ((f_X6_isFine S (nI 0)).2) 1 ((6 * (kN x)) + (kN y)) v) 1 ((6 * (kN y)) + (kN x)) v)))))) := rfl
set_option maxHeartbeats 1000000 in
set_option maxRecDepth 100000 in
theorem c_X6_setStrength (l : Launch) (D : va_G) (cI cS cZ cJ : ClassId) (G : Nat → Nat) (S : Mem) (sz : Nat) (x : Int32) (y : Int32) (v : Int32) : Met l yX6_setStrength wsX6_setStrength ({ frames := 3, cells := 0, slots := 0, locals := 62 } : Room) (wPc 20 (mF cI cZ G) D (tY cI cS cZ cJ) G S sz [.ref (G 0), .int x, .int y, .int v]) (mQi (f_X6_setStrength S x y v) 20 (mF cI cZ G) D G sz) 0 0 (fA 20 G sz) := by
  refine x_met (cc := cX6_setStrength) (maxL := 6) (ret := (some .int)) (by decide) rfl (Nat.le_of_ble_eq_true rfl) ?_
  intro p e s m below meth c ls hx hb hr hml hts hown hlocks hsz hP hK hD hN hl hnm
  subst hsz
  have hown : s.vm.findClass RX6 = some m.cls := hown
  have hl : lv_has ls 6 [(0, .ref (G 0)), (1, .int x), (2, .int y), (3, .int v)] := hl
  have hq := f_X6_setStrength_d S x y v
  have hA : ∀ q : Nat, s.heap.size ≤ q → (fA 20 G s.heap.size) q := fun q h => Or.inr h
  have hS : va_S (fA 20 G s.heap.size) s.heap s.heap [] := va_S.rf
  refine lv_iload_n hx hb dX6_setStrength_0 rfl (lv_at hl 1 rfl) ?_
  refine x_pi (va_runS (As := [.int x]) (rest := []) ⟨hx, hb, hml, hown, hts⟩ (c_X6_isStation l s.heap.size x) (va_cwS 1 hts gX6_setStrength_X6_isStation rfl rfl rfl (by decide +kernel) ⟨Nat.le_of_ble_eq_true rfl, Nat.le_of_ble_eq_true rfl⟩) ⟨sPc_blind, sPc_at hN⟩ rfl rfl hl.1 rfl (lv_room (Nat.le_of_ble_eq_true rfl)) dX6_setStrength_1 ⟨Nat.le_refl _, Nat.le_refl _⟩) hS hA (fun q h => h) (fun H locs hz hk hS => ?_)
  have hP := P_kept hP hk
  refine lv_if_eq (tgt := 18) hx hb dX6_setStrength_4 (by decide) (fun c_1 => ?_) (fun c_1 => ?_)
  · have hq := hq.trans (if_pos c_1)
    refine lv_iconst (v := nI 0) hx hb dX6_setStrength_18 (by decide) ?_
    refine lv_istore (lv' := [(4, .int (nI 0)), (0, .ref (G 0)), (1, .int x), (2, .int y), (3, .int v)]) hx hb dX6_setStrength_19 hl (by decide) rfl (fun ls hl => ?_)
    refine lv_aload_n hx hb dX6_setStrength_21 rfl (lv_at hl 1 rfl) ?_
    refine lv_iload hx hb dX6_setStrength_22 (lv_at hl 0 rfl) ?_
    refine lv_if_ne (tgt := 31) hx hb dX6_setStrength_24 (by decide) (fun c_2 => absurd (by decide) c_2) (fun _ => ?_)
    refine lv_iconst (v := nI 1) hx hb dX6_setStrength_27 (by decide) ?_
    refine lv_goto (tgt := 51) hx hb dX6_setStrength_28 (by decide) ?_
    refine x_mi (va_runV (As := [.int (nI 1)]) (rest := []) ⟨hx, hb, hml, hown, hts⟩ (c_X6_isFine l D cI cS cZ cJ G S H.size (nI 1)) (cwV 1 hts gX6_setStrength_X6_isFine rfl rfl rfl (by decide +kernel) ⟨Nat.le_of_ble_eq_true rfl, Nat.le_of_ble_eq_true rfl⟩) ⟨wPc_blind, va_recv hK hP (ci := 6) (q0 := 0) rfl (WL_at (by decide) (rfl)), wPc_at hP hK hD hN⟩ rfl rfl hl.1 rfl (lv_room (Nat.le_of_ble_eq_true rfl)) dX6_setStrength_51 ⟨Nat.le_refl _, Nat.le_refl _⟩) hS (fA_sub (hD S) (fun q h => hA q (Nat.le_trans hS.1 h))) (fun H locs hz hk hP hS => ?_)
    refine lv_if_ne (tgt := 59) hx hb dX6_setStrength_54 (by decide) (fun c_3 => absurd (isFine_1 _) c_3) (fun _ => ?_)
    refine lv_iconst (v := nI 0) hx hb dX6_setStrength_57 (by decide) ?_
    exact x_ret_m hx hb hr rfl hlocks hP hS dX6_setStrength_58 hq
  · have hq := hq.trans (if_neg c_1)
    have kx := isSt_k c_1
    refine lv_iload_n hx hb dX6_setStrength_7 rfl (lv_at hl 2 rfl) ?_
    refine x_pi (va_runS (As := [.int y]) (rest := []) ⟨hx, hb, hml, hown, hts⟩ (c_X6_isStation l H.size y) (va_cwS 1 hts gX6_setStrength_X6_isStation rfl rfl rfl (by decide +kernel) ⟨Nat.le_of_ble_eq_true rfl, Nat.le_of_ble_eq_true rfl⟩) ⟨sPc_blind, sPc_at hN⟩ rfl rfl hl.1 rfl (lv_room (Nat.le_of_ble_eq_true rfl)) dX6_setStrength_8 ⟨Nat.le_refl _, Nat.le_refl _⟩) hS hA (fun q h => h) (fun H locs hz hk hS => ?_)
    have hP := P_kept hP hk
    refine lv_if_eq (tgt := 18) hx hb dX6_setStrength_11 (by decide) (fun c_4 => ?_) (fun c_4 => ?_)
    · have hq := hq.trans (if_pos c_4)
      refine lv_iconst (v := nI 0) hx hb dX6_setStrength_18 (by decide) ?_
      refine lv_istore (lv' := [(4, .int (nI 0)), (0, .ref (G 0)), (1, .int x), (2, .int y), (3, .int v)]) hx hb dX6_setStrength_19 hl (by decide) rfl (fun ls hl => ?_)
      refine lv_aload_n hx hb dX6_setStrength_21 rfl (lv_at hl 1 rfl) ?_
      refine lv_iload hx hb dX6_setStrength_22 (lv_at hl 0 rfl) ?_
      refine lv_if_ne (tgt := 31) hx hb dX6_setStrength_24 (by decide) (fun c_5 => absurd (by decide) c_5) (fun _ => ?_)
      refine lv_iconst (v := nI 1) hx hb dX6_setStrength_27 (by decide) ?_
      refine lv_goto (tgt := 51) hx hb dX6_setStrength_28 (by decide) ?_
      refine x_mi (va_runV (As := [.int (nI 1)]) (rest := []) ⟨hx, hb, hml, hown, hts⟩ (c_X6_isFine l D cI cS cZ cJ G S H.size (nI 1)) (cwV 1 hts gX6_setStrength_X6_isFine rfl rfl rfl (by decide +kernel) ⟨Nat.le_of_ble_eq_true rfl, Nat.le_of_ble_eq_true rfl⟩) ⟨wPc_blind, va_recv hK hP (ci := 6) (q0 := 0) rfl (WL_at (by decide) (rfl)), wPc_at hP hK hD hN⟩ rfl rfl hl.1 rfl (lv_room (Nat.le_of_ble_eq_true rfl)) dX6_setStrength_51 ⟨Nat.le_refl _, Nat.le_refl _⟩) hS (fA_sub (hD S) (fun q h => hA q (Nat.le_trans hS.1 h))) (fun H locs hz hk hP hS => ?_)
      refine lv_if_ne (tgt := 59) hx hb dX6_setStrength_54 (by decide) (fun c_6 => absurd (isFine_1 _) c_6) (fun _ => ?_)
      refine lv_iconst (v := nI 0) hx hb dX6_setStrength_57 (by decide) ?_
      exact x_ret_m hx hb hr rfl hlocks hP hS dX6_setStrength_58 hq
    · have hq := hq.trans (if_neg c_4)
      have ky := isSt_k c_4
      refine lv_iconst (v := nI 1) hx hb dX6_setStrength_14 (by decide) ?_
      refine lv_goto (tgt := 19) hx hb dX6_setStrength_15 (by decide) ?_
      refine lv_istore (lv' := [(4, .int (nI 1)), (0, .ref (G 0)), (1, .int x), (2, .int y), (3, .int v)]) hx hb dX6_setStrength_19 hl (by decide) rfl (fun ls hl => ?_)
      refine lv_aload_n hx hb dX6_setStrength_21 rfl (lv_at hl 1 rfl) ?_
      refine lv_iload hx hb dX6_setStrength_22 (lv_at hl 0 rfl) ?_
      refine lv_if_ne (tgt := 31) hx hb dX6_setStrength_24 (by decide) (fun _ => ?_) (fun c_7 => absurd c_7 (by decide))
      refine lv_iload_n hx hb dX6_setStrength_31 rfl (lv_at hl 4 rfl) ?_
      refine lv_iconst (v := nI 0) hx hb dX6_setStrength_32 (by decide) ?_
      refine lv_bipush (v := nI 9) hx hb dX6_setStrength_33 (by decide) ?_
      refine x_pi (va_runS (As := [.int v, .int (nI 0), .int (nI 9)]) (rest := [.ref (G 0)]) ⟨hx, hb, hml, hown, hts⟩ (c_X6_isIn l H.size v (nI 0) (nI 9)) (va_cwS 3 hts gX6_setStrength_X6_isIn rfl rfl rfl (by decide +kernel) ⟨Nat.le_of_ble_eq_true rfl, Nat.le_of_ble_eq_true rfl⟩) ⟨sPc_blind, sPc_at hN⟩ rfl rfl hl.1 rfl (lv_room (Nat.le_of_ble_eq_true rfl)) dX6_setStrength_35 ⟨Nat.le_refl _, Nat.le_refl _⟩) hS hA (fun q h => h) (fun H locs hz hk hS => ?_)
      have hP := P_kept hP hk
      refine lv_if_eq (tgt := 46) hx hb dX6_setStrength_38 (by decide) (fun c_8 => ?_) (fun c_8 => ?_)
      · have hq := hq.trans (if_pos c_8)
        refine lv_iconst (v := nI 2) hx hb dX6_setStrength_46 (by decide) ?_
        refine lv_goto (tgt := 51) hx hb dX6_setStrength_47 (by decide) ?_
        refine x_mi (va_runV (As := [.int (nI 2)]) (rest := []) ⟨hx, hb, hml, hown, hts⟩ (c_X6_isFine l D cI cS cZ cJ G S H.size (nI 2)) (cwV 1 hts gX6_setStrength_X6_isFine rfl rfl rfl (by decide +kernel) ⟨Nat.le_of_ble_eq_true rfl, Nat.le_of_ble_eq_true rfl⟩) ⟨wPc_blind, va_recv hK hP (ci := 6) (q0 := 0) rfl (WL_at (by decide) (rfl)), wPc_at hP hK hD hN⟩ rfl rfl hl.1 rfl (lv_room (Nat.le_of_ble_eq_true rfl)) dX6_setStrength_51 ⟨Nat.le_refl _, Nat.le_refl _⟩) hS (fA_sub (hD S) (fun q h => hA q (Nat.le_trans hS.1 h))) (fun H locs hz hk hP hS => ?_)
        refine lv_if_ne (tgt := 59) hx hb dX6_setStrength_54 (by decide) (fun c_9 => absurd (isFine_2 _) c_9) (fun _ => ?_)
        refine lv_iconst (v := nI 0) hx hb dX6_setStrength_57 (by decide) ?_
        exact x_ret_m hx hb hr rfl hlocks hP hS dX6_setStrength_58 hq
      · have hq := hq.trans (if_neg c_8)
        refine lv_iload_n hx hb dX6_setStrength_41 rfl (lv_at hl 2 rfl) ?_
        refine lv_iload_n hx hb dX6_setStrength_42 rfl (lv_at hl 3 rfl) ?_
        refine lv_icmp_ne (tgt := 50) hx hb dX6_setStrength_43 (by decide) (fun c_10 => ?_) (fun c_10 => ?_)
        · have hq := hq.trans (if_neg c_10)
          refine lv_iconst (v := nI 0) hx hb dX6_setStrength_50 (by decide) ?_
          refine x_mi (va_runV (As := [.int (nI 0)]) (rest := []) ⟨hx, hb, hml, hown, hts⟩ (c_X6_isFine l D cI cS cZ cJ G S H.size (nI 0)) (cwV 1 hts gX6_setStrength_X6_isFine rfl rfl rfl (by decide +kernel) ⟨Nat.le_of_ble_eq_true rfl, Nat.le_of_ble_eq_true rfl⟩) ⟨wPc_blind, va_recv hK hP (ci := 6) (q0 := 0) rfl (WL_at (by decide) (rfl)), wPc_at hP hK hD hN⟩ rfl rfl hl.1 rfl (lv_room (Nat.le_of_ble_eq_true rfl)) dX6_setStrength_51 ⟨Nat.le_refl _, Nat.le_refl _⟩) hS (fA_sub (hD S) (fun q h => hA q (Nat.le_trans hS.1 h))) (fun H locs hz hk hP hS => ?_)
          refine lv_if_ne (tgt := 59) hx hb dX6_setStrength_54 (by decide) (fun _ => ?_) (fun c_11 => absurd c_11 (isFine_0 _))
          refine lv_aload_n hx hb dX6_setStrength_59 rfl (lv_at hl 1 rfl) ?_
          refine lv_iload_n hx hb dX6_setStrength_60 rfl (lv_at hl 2 rfl) ?_
          refine x_top (y := nI (kN x)) (kx.1) ?_
          refine lv_iload_n hx hb dX6_setStrength_61 rfl (lv_at hl 3 rfl) ?_
          refine x_top (y := nI (kN y)) (ky.1) ?_
          refine x_pi (va_runV (As := [.int (nI (kN x)), .int (nI (kN y))]) (rest := []) ⟨hx, hb, hml, hown, hts⟩ (c_X6_heard l D cI cS cZ cJ G ((f_X6_isFine S (nI 0)).2) H.size (kN x) (kN y) (by omega) (by omega)) (cwV 2 hts gX6_setStrength_X6_heard rfl rfl rfl (by decide +kernel) ⟨Nat.le_of_ble_eq_true rfl, Nat.le_of_ble_eq_true rfl⟩) ⟨wPc_blind, va_recv hK hP (ci := 6) (q0 := 0) rfl (WL_at (by decide) (rfl)), wPc_at hP hK hD hN⟩ rfl rfl hl.1 rfl (lv_room (Nat.le_of_ble_eq_true rfl)) dX6_setStrength_62 ⟨Nat.le_refl _, Nat.le_refl _⟩) hS hA (fun q h => h) (fun H locs hz hk hS => ?_)
          have hP := P_kept hP hk
          refine lv_istore (lv' := [(5, .int (f_X6_heard ((f_X6_isFine S (nI 0)).2) (kN x) (kN y))), (4, .int (nI 1)), (0, .ref (G 0)), (1, .int x), (2, .int y), (3, .int v)]) hx hb dX6_setStrength_65 hl (by decide) rfl (fun ls hl => ?_)
          refine lv_aload_n hx hb dX6_setStrength_67 rfl (lv_at hl 2 rfl) ?_
          refine x_get hx hb hts mm_X6_setStrength_X6 hown hK hP (0) (by decide) (rfl) rfl 3 (by decide) (hts _ lk_X6_setStrength_13) rfl rfl dX6_setStrength_68 ?_
          refine lv_bipush (v := nI 6) hx hb dX6_setStrength_71 (by decide) ?_
          refine lv_iload_n hx hb dX6_setStrength_73 rfl (lv_at hl 3 rfl) ?_
          refine x_top (y := nI (kN x)) (kx.1) ?_
          refine x_imulN hx hb dX6_setStrength_74 ?_
          refine lv_iload_n hx hb dX6_setStrength_75 rfl (lv_at hl 4 rfl) ?_
          refine x_top (y := nI (kN y)) (ky.1) ?_
          refine x_iaddN hx hb dX6_setStrength_76 ?_
          refine lv_iload_n hx hb dX6_setStrength_77 rfl (lv_at hl 5 rfl) ?_
          refine x_iast hx hb hK hP hD hS 1 0 (by decide) ((fun _ => rfl)) rfl ((6 * (kN x)) + (kN y)) (by omega) (by decide) dX6_setStrength_78 (fun H locs hP hS => ?_)
          refine lv_aload_n hx hb dX6_setStrength_79 rfl (lv_at hl 2 rfl) ?_
          refine x_get hx hb hts mm_X6_setStrength_X6 hown hK hP (0) (by decide) (rfl) rfl 3 (by decide) (hts _ lk_X6_setStrength_13) rfl rfl dX6_setStrength_80 ?_
          refine lv_bipush (v := nI 6) hx hb dX6_setStrength_83 (by decide) ?_
          refine lv_iload_n hx hb dX6_setStrength_85 rfl (lv_at hl 4 rfl) ?_
          refine x_top (y := nI (kN y)) (ky.1) ?_
          refine x_imulN hx hb dX6_setStrength_86 ?_
          refine lv_iload_n hx hb dX6_setStrength_87 rfl (lv_at hl 3 rfl) ?_
          refine x_top (y := nI (kN x)) (kx.1) ?_
          refine x_iaddN hx hb dX6_setStrength_88 ?_
          refine lv_iload_n hx hb dX6_setStrength_89 rfl (lv_at hl 5 rfl) ?_
          refine x_iast hx hb hK hP hD hS 1 0 (by decide) ((fun _ => rfl)) rfl ((6 * (kN y)) + (kN x)) (by omega) (by decide) dX6_setStrength_90 (fun H locs hP hS => ?_)
          refine lv_iload hx hb dX6_setStrength_91 (lv_at hl 0 rfl) ?_
          exact x_ret_m hx hb hr rfl hlocks hP hS dX6_setStrength_93 hq
        · have hq := hq.trans (if_pos c_10)
          refine lv_iconst (v := nI 2) hx hb dX6_setStrength_46 (by decide) ?_
          refine lv_goto (tgt := 51) hx hb dX6_setStrength_47 (by decide) ?_
          refine x_mi (va_runV (As := [.int (nI 2)]) (rest := []) ⟨hx, hb, hml, hown, hts⟩ (c_X6_isFine l D cI cS cZ cJ G S H.size (nI 2)) (cwV 1 hts gX6_setStrength_X6_isFine rfl rfl rfl (by decide +kernel) ⟨Nat.le_of_ble_eq_true rfl, Nat.le_of_ble_eq_true rfl⟩) ⟨wPc_blind, va_recv hK hP (ci := 6) (q0 := 0) rfl (WL_at (by decide) (rfl)), wPc_at hP hK hD hN⟩ rfl rfl hl.1 rfl (lv_room (Nat.le_of_ble_eq_true rfl)) dX6_setStrength_51 ⟨Nat.le_refl _, Nat.le_refl _⟩) hS (fA_sub (hD S) (fun q h => hA q (Nat.le_trans hS.1 h))) (fun H locs hz hk hP hS => ?_)
          refine lv_if_ne (tgt := 59) hx hb dX6_setStrength_54 (by decide) (fun c_12 => absurd (isFine_2 _) c_12) (fun _ => ?_)
          refine lv_iconst (v := nI 0) hx hb dX6_setStrength_57 (by decide) ?_
          exact x_ret_m hx hb hr rfl hlocks hP hS dX6_setStrength_58 hq

theorem mm_X6_setClass_X6 : ∀ w ∈ wsX60, w ∈ wsX6_setClass := by decide +kernel
theorem lk_X6_setClass_17 : Cond.fieldLink RX6 17 "BackofficeAirModel" "its" "[I" ∈ wsX6_setClass := by decide +kernel
theorem lk_X6_setClass_20 : Cond.fieldLink RX6 20 "BackofficeAirModel" "window" "[I" ∈ wsX6_setClass := by decide +kernel
def f_X6_setClass (S : Mem) (x : Int32) (y : Int32) : Int32 × Mem := if f_X6_isStation x = 0 then ((nI 0, (f_X6_isFine S (nI 1)).2)) else (if f_X6_isIn y (nI 0) (nI 1) = 0 then ((nI 0, (f_X6_isFine S (nI 2)).2)) else ((((f_X6_isFine S (nI 0)).2) 2 (kN x), ub (ub ((f_X6_isFine S (nI 0)).2) 2 (kN x) y) 3 (kN x) (f_X6_least (ub ((f_X6_isFine S (nI 0)).2) 2 (kN x) y) (kN x)))))
theorem f_X6_setClass_d (S : Mem) (x : Int32) (y : Int32) : f_X6_setClass S x y = (if f_X6_isStation x = 0 then ((nI 0, (f_X6_isFine S (nI 1)).2)) else (if f_X6_isIn y (nI 0) (nI 1) = 0 then ((nI 0, (f_X6_isFine S (nI 2)).2)) else ((((f_X6_isFine S (nI 0)).2) 2 (kN x), ub (ub ((f_X6_isFine S (nI 0)).2) 2 (kN x) y) 3 (kN x) (f_X6_least (ub ((f_X6_isFine S (nI 0)).2) 2 (kN x) y) (kN x)))))) := rfl
set_option maxHeartbeats 1000000 in
set_option maxRecDepth 100000 in
theorem c_X6_setClass (l : Launch) (D : va_G) (cI cS cZ cJ : ClassId) (G : Nat → Nat) (S : Mem) (sz : Nat) (x : Int32) (y : Int32) : Met l yX6_setClass wsX6_setClass ({ frames := 3, cells := 0, slots := 0, locals := 62 } : Room) (wPc 20 (mF cI cZ G) D (tY cI cS cZ cJ) G S sz [.ref (G 0), .int x, .int y]) (mQi (f_X6_setClass S x y) 20 (mF cI cZ G) D G sz) 0 0 (fA 20 G sz) := by
  refine x_met (cc := cX6_setClass) (maxL := 4) (ret := (some .int)) (by decide) rfl (Nat.le_of_ble_eq_true rfl) ?_
  intro p e s m below meth c ls hx hb hr hml hts hown hlocks hsz hP hK hD hN hl hnm
  subst hsz
  have hown : s.vm.findClass RX6 = some m.cls := hown
  have hl : lv_has ls 4 [(0, .ref (G 0)), (1, .int x), (2, .int y)] := hl
  have hq := f_X6_setClass_d S x y
  have hA : ∀ q : Nat, s.heap.size ≤ q → (fA 20 G s.heap.size) q := fun q h => Or.inr h
  have hS : va_S (fA 20 G s.heap.size) s.heap s.heap [] := va_S.rf
  refine lv_aload_n hx hb dX6_setClass_0 rfl (lv_at hl 0 rfl) ?_
  refine lv_iload_n hx hb dX6_setClass_1 rfl (lv_at hl 1 rfl) ?_
  refine x_pi (va_runS (As := [.int x]) (rest := [.ref (G 0)]) ⟨hx, hb, hml, hown, hts⟩ (c_X6_isStation l s.heap.size x) (va_cwS 1 hts gX6_setClass_X6_isStation rfl rfl rfl (by decide +kernel) ⟨Nat.le_of_ble_eq_true rfl, Nat.le_of_ble_eq_true rfl⟩) ⟨sPc_blind, sPc_at hN⟩ rfl rfl hl.1 rfl (lv_room (Nat.le_of_ble_eq_true rfl)) dX6_setClass_2 ⟨Nat.le_refl _, Nat.le_refl _⟩) hS hA (fun q h => h) (fun H locs hz hk hS => ?_)
  have hP := P_kept hP hk
  refine lv_if_ne (tgt := 12) hx hb dX6_setClass_5 (by decide) (fun c_1 => ?_) (fun c_1 => ?_)
  · have hq := hq.trans (if_neg c_1)
    have kx := isSt_k c_1
    refine lv_iload_n hx hb dX6_setClass_12 rfl (lv_at hl 2 rfl) ?_
    refine lv_iconst (v := nI 0) hx hb dX6_setClass_13 (by decide) ?_
    refine lv_iconst (v := nI 1) hx hb dX6_setClass_14 (by decide) ?_
    refine x_pi (va_runS (As := [.int y, .int (nI 0), .int (nI 1)]) (rest := [.ref (G 0)]) ⟨hx, hb, hml, hown, hts⟩ (c_X6_isIn l H.size y (nI 0) (nI 1)) (va_cwS 3 hts gX6_setClass_X6_isIn rfl rfl rfl (by decide +kernel) ⟨Nat.le_of_ble_eq_true rfl, Nat.le_of_ble_eq_true rfl⟩) ⟨sPc_blind, sPc_at hN⟩ rfl rfl hl.1 rfl (lv_room (Nat.le_of_ble_eq_true rfl)) dX6_setClass_15 ⟨Nat.le_refl _, Nat.le_refl _⟩) hS hA (fun q h => h) (fun H locs hz hk hS => ?_)
    have hP := P_kept hP hk
    refine lv_if_ne (tgt := 25) hx hb dX6_setClass_18 (by decide) (fun c_2 => ?_) (fun c_2 => ?_)
    · have hq := hq.trans (if_neg c_2)
      refine lv_iconst (v := nI 0) hx hb dX6_setClass_25 (by decide) ?_
      refine x_mi (va_runV (As := [.int (nI 0)]) (rest := []) ⟨hx, hb, hml, hown, hts⟩ (c_X6_isFine l D cI cS cZ cJ G S H.size (nI 0)) (cwV 1 hts gX6_setClass_X6_isFine rfl rfl rfl (by decide +kernel) ⟨Nat.le_of_ble_eq_true rfl, Nat.le_of_ble_eq_true rfl⟩) ⟨wPc_blind, va_recv hK hP (ci := 6) (q0 := 0) rfl (WL_at (by decide) (rfl)), wPc_at hP hK hD hN⟩ rfl rfl hl.1 rfl (lv_room (Nat.le_of_ble_eq_true rfl)) dX6_setClass_26 ⟨Nat.le_refl _, Nat.le_refl _⟩) hS (fA_sub (hD S) (fun q h => hA q (Nat.le_trans hS.1 h))) (fun H locs hz hk hP hS => ?_)
      refine lv_if_ne (tgt := 34) hx hb dX6_setClass_29 (by decide) (fun _ => ?_) (fun c_3 => absurd c_3 (isFine_0 _))
      refine lv_aload_n hx hb dX6_setClass_34 rfl (lv_at hl 0 rfl) ?_
      refine x_get hx hb hts mm_X6_setClass_X6 hown hK hP (0) (by decide) (rfl) rfl 4 (by decide) (hts _ lk_X6_setClass_17) rfl rfl dX6_setClass_35 ?_
      refine lv_iload_n hx hb dX6_setClass_38 rfl (lv_at hl 1 rfl) ?_
      refine x_top (y := nI (kN x)) (kx.1) ?_
      refine x_iald hx hb hK hP 2 0 (by decide) (rfl) rfl (kN x) (by omega) (by decide) dX6_setClass_39 ?_
      refine lv_istore_n (lv' := [(3, .int (((f_X6_isFine S (nI 0)).2) 2 (kN x))), (0, .ref (G 0)), (1, .int x), (2, .int y)]) hx hb dX6_setClass_40 rfl hl (by decide) rfl (fun ls hl => ?_)
      refine lv_aload_n hx hb dX6_setClass_41 rfl (lv_at hl 1 rfl) ?_
      refine x_get hx hb hts mm_X6_setClass_X6 hown hK hP (0) (by decide) (rfl) rfl 4 (by decide) (hts _ lk_X6_setClass_17) rfl rfl dX6_setClass_42 ?_
      refine lv_iload_n hx hb dX6_setClass_45 rfl (lv_at hl 2 rfl) ?_
      refine x_top (y := nI (kN x)) (kx.1) ?_
      refine lv_iload_n hx hb dX6_setClass_46 rfl (lv_at hl 3 rfl) ?_
      refine x_iast hx hb hK hP hD hS 2 0 (by decide) ((fun _ => rfl)) rfl (kN x) (by omega) (by decide) dX6_setClass_47 (fun H locs hP hS => ?_)
      refine lv_aload_n hx hb dX6_setClass_48 rfl (lv_at hl 1 rfl) ?_
      refine x_get hx hb hts mm_X6_setClass_X6 hown hK hP (0) (by decide) (rfl) rfl 5 (by decide) (hts _ lk_X6_setClass_20) rfl rfl dX6_setClass_49 ?_
      refine lv_iload_n hx hb dX6_setClass_52 rfl (lv_at hl 2 rfl) ?_
      refine x_top (y := nI (kN x)) (kx.1) ?_
      refine lv_aload_n hx hb dX6_setClass_53 rfl (lv_at hl 1 rfl) ?_
      refine lv_iload_n hx hb dX6_setClass_54 rfl (lv_at hl 2 rfl) ?_
      refine x_top (y := nI (kN x)) (kx.1) ?_
      refine x_pi (va_runV (As := [.int (nI (kN x))]) (rest := [.int (nI (kN x)), .ref (G 3)]) ⟨hx, hb, hml, hown, hts⟩ (c_X6_least l D cI cS cZ cJ G (ub ((f_X6_isFine S (nI 0)).2) 2 (kN x) y) H.size (kN x) (by omega)) (cwV 1 hts gX6_setClass_X6_least rfl rfl rfl (by decide +kernel) ⟨Nat.le_of_ble_eq_true rfl, Nat.le_of_ble_eq_true rfl⟩) ⟨wPc_blind, va_recv hK hP (ci := 6) (q0 := 0) rfl (WL_at (by decide) (rfl)), wPc_at hP hK hD hN⟩ rfl rfl hl.1 rfl (lv_room (Nat.le_of_ble_eq_true rfl)) dX6_setClass_55 ⟨Nat.le_refl _, Nat.le_refl _⟩) hS hA (fun q h => h) (fun H locs hz hk hS => ?_)
      have hP := P_kept hP hk
      refine x_iast hx hb hK hP hD hS 3 0 (by decide) ((fun _ => rfl)) rfl (kN x) (by omega) (by decide) dX6_setClass_58 (fun H locs hP hS => ?_)
      refine lv_iload_n hx hb dX6_setClass_59 rfl (lv_at hl 0 rfl) ?_
      exact x_ret_m hx hb hr rfl hlocks hP hS dX6_setClass_60 hq
    · have hq := hq.trans (if_pos c_2)
      refine lv_iconst (v := nI 2) hx hb dX6_setClass_21 (by decide) ?_
      refine lv_goto (tgt := 26) hx hb dX6_setClass_22 (by decide) ?_
      refine x_mi (va_runV (As := [.int (nI 2)]) (rest := []) ⟨hx, hb, hml, hown, hts⟩ (c_X6_isFine l D cI cS cZ cJ G S H.size (nI 2)) (cwV 1 hts gX6_setClass_X6_isFine rfl rfl rfl (by decide +kernel) ⟨Nat.le_of_ble_eq_true rfl, Nat.le_of_ble_eq_true rfl⟩) ⟨wPc_blind, va_recv hK hP (ci := 6) (q0 := 0) rfl (WL_at (by decide) (rfl)), wPc_at hP hK hD hN⟩ rfl rfl hl.1 rfl (lv_room (Nat.le_of_ble_eq_true rfl)) dX6_setClass_26 ⟨Nat.le_refl _, Nat.le_refl _⟩) hS (fA_sub (hD S) (fun q h => hA q (Nat.le_trans hS.1 h))) (fun H locs hz hk hP hS => ?_)
      refine lv_if_ne (tgt := 34) hx hb dX6_setClass_29 (by decide) (fun c_4 => absurd (isFine_2 _) c_4) (fun _ => ?_)
      refine lv_iconst (v := nI 0) hx hb dX6_setClass_32 (by decide) ?_
      exact x_ret_m hx hb hr rfl hlocks hP hS dX6_setClass_33 hq
  · have hq := hq.trans (if_pos c_1)
    refine lv_iconst (v := nI 1) hx hb dX6_setClass_8 (by decide) ?_
    refine lv_goto (tgt := 26) hx hb dX6_setClass_9 (by decide) ?_
    refine x_mi (va_runV (As := [.int (nI 1)]) (rest := []) ⟨hx, hb, hml, hown, hts⟩ (c_X6_isFine l D cI cS cZ cJ G S H.size (nI 1)) (cwV 1 hts gX6_setClass_X6_isFine rfl rfl rfl (by decide +kernel) ⟨Nat.le_of_ble_eq_true rfl, Nat.le_of_ble_eq_true rfl⟩) ⟨wPc_blind, va_recv hK hP (ci := 6) (q0 := 0) rfl (WL_at (by decide) (rfl)), wPc_at hP hK hD hN⟩ rfl rfl hl.1 rfl (lv_room (Nat.le_of_ble_eq_true rfl)) dX6_setClass_26 ⟨Nat.le_refl _, Nat.le_refl _⟩) hS (fA_sub (hD S) (fun q h => hA q (Nat.le_trans hS.1 h))) (fun H locs hz hk hP hS => ?_)
    refine lv_if_ne (tgt := 34) hx hb dX6_setClass_29 (by decide) (fun c_5 => absurd (isFine_1 _) c_5) (fun _ => ?_)
    refine lv_iconst (v := nI 0) hx hb dX6_setClass_32 (by decide) ?_
    exact x_ret_m hx hb hr rfl hlocks hP hS dX6_setClass_33 hq

theorem mm_X6_setReserve_X6 : ∀ w ∈ wsX60, w ∈ wsX6_setReserve := by decide +kernel
theorem lk_X6_setReserve_7 : Cond.fieldLink RX6 7 "BackofficeAirModel" "reserve" "I" ∈ wsX6_setReserve := by decide +kernel
def f_X6_setReserve (S : Mem) (x : Int32) : Int32 × Mem := if f_X6_isIn x (nI 1) (nI 5) = 0 then ((nI 0, (f_X6_isFine S (nI 1)).2)) else ((((f_X6_isFine S (nI 0)).2) 0 2, ub ((f_X6_isFine S (nI 0)).2) 0 2 x))
theorem f_X6_setReserve_d (S : Mem) (x : Int32) : f_X6_setReserve S x = (if f_X6_isIn x (nI 1) (nI 5) = 0 then ((nI 0, (f_X6_isFine S (nI 1)).2)) else ((((f_X6_isFine S (nI 0)).2) 0 2, ub ((f_X6_isFine S (nI 0)).2) 0 2 x))) := rfl
set_option maxHeartbeats 1000000 in
set_option maxRecDepth 100000 in
theorem c_X6_setReserve (l : Launch) (D : va_G) (cI cS cZ cJ : ClassId) (G : Nat → Nat) (S : Mem) (sz : Nat) (x : Int32) : Met l yX6_setReserve wsX6_setReserve ({ frames := 2, cells := 0, slots := 0, locals := 42 } : Room) (wPc 20 (mF cI cZ G) D (tY cI cS cZ cJ) G S sz [.ref (G 0), .int x]) (mQi (f_X6_setReserve S x) 20 (mF cI cZ G) D G sz) 0 0 (fA 20 G sz) := by
  refine x_met (cc := cX6_setReserve) (maxL := 3) (ret := (some .int)) (by decide) rfl (Nat.le_of_ble_eq_true rfl) ?_
  intro p e s m below meth c ls hx hb hr hml hts hown hlocks hsz hP hK hD hN hl hnm
  subst hsz
  have hown : s.vm.findClass RX6 = some m.cls := hown
  have hl : lv_has ls 3 [(0, .ref (G 0)), (1, .int x)] := hl
  have hq := f_X6_setReserve_d S x
  have hA : ∀ q : Nat, s.heap.size ≤ q → (fA 20 G s.heap.size) q := fun q h => Or.inr h
  have hS : va_S (fA 20 G s.heap.size) s.heap s.heap [] := va_S.rf
  refine lv_aload_n hx hb dX6_setReserve_0 rfl (lv_at hl 0 rfl) ?_
  refine lv_iload_n hx hb dX6_setReserve_1 rfl (lv_at hl 1 rfl) ?_
  refine lv_iconst (v := nI 1) hx hb dX6_setReserve_2 (by decide) ?_
  refine lv_iconst (v := nI 5) hx hb dX6_setReserve_3 (by decide) ?_
  refine x_pi (va_runS (As := [.int x, .int (nI 1), .int (nI 5)]) (rest := [.ref (G 0)]) ⟨hx, hb, hml, hown, hts⟩ (c_X6_isIn l s.heap.size x (nI 1) (nI 5)) (va_cwS 3 hts gX6_setReserve_X6_isIn rfl rfl rfl (by decide +kernel) ⟨Nat.le_of_ble_eq_true rfl, Nat.le_of_ble_eq_true rfl⟩) ⟨sPc_blind, sPc_at hN⟩ rfl rfl hl.1 rfl (lv_room (Nat.le_of_ble_eq_true rfl)) dX6_setReserve_4 ⟨Nat.le_refl _, Nat.le_refl _⟩) hS hA (fun q h => h) (fun H locs hz hk hS => ?_)
  have hP := P_kept hP hk
  refine lv_if_eq (tgt := 14) hx hb dX6_setReserve_7 (by decide) (fun c_1 => ?_) (fun c_1 => ?_)
  · have hq := hq.trans (if_pos c_1)
    refine lv_iconst (v := nI 1) hx hb dX6_setReserve_14 (by decide) ?_
    refine x_mi (va_runV (As := [.int (nI 1)]) (rest := []) ⟨hx, hb, hml, hown, hts⟩ (c_X6_isFine l D cI cS cZ cJ G S H.size (nI 1)) (cwV 1 hts gX6_setReserve_X6_isFine rfl rfl rfl (by decide +kernel) ⟨Nat.le_of_ble_eq_true rfl, Nat.le_of_ble_eq_true rfl⟩) ⟨wPc_blind, va_recv hK hP (ci := 6) (q0 := 0) rfl (WL_at (by decide) (rfl)), wPc_at hP hK hD hN⟩ rfl rfl hl.1 rfl (lv_room (Nat.le_of_ble_eq_true rfl)) dX6_setReserve_15 ⟨Nat.le_refl _, Nat.le_refl _⟩) hS (fA_sub (hD S) (fun q h => hA q (Nat.le_trans hS.1 h))) (fun H locs hz hk hP hS => ?_)
    refine lv_if_ne (tgt := 23) hx hb dX6_setReserve_18 (by decide) (fun c_2 => absurd (isFine_1 _) c_2) (fun _ => ?_)
    refine lv_iconst (v := nI 0) hx hb dX6_setReserve_21 (by decide) ?_
    exact x_ret_m hx hb hr rfl hlocks hP hS dX6_setReserve_22 hq
  · have hq := hq.trans (if_neg c_1)
    refine lv_iconst (v := nI 0) hx hb dX6_setReserve_10 (by decide) ?_
    refine lv_goto (tgt := 15) hx hb dX6_setReserve_11 (by decide) ?_
    refine x_mi (va_runV (As := [.int (nI 0)]) (rest := []) ⟨hx, hb, hml, hown, hts⟩ (c_X6_isFine l D cI cS cZ cJ G S H.size (nI 0)) (cwV 1 hts gX6_setReserve_X6_isFine rfl rfl rfl (by decide +kernel) ⟨Nat.le_of_ble_eq_true rfl, Nat.le_of_ble_eq_true rfl⟩) ⟨wPc_blind, va_recv hK hP (ci := 6) (q0 := 0) rfl (WL_at (by decide) (rfl)), wPc_at hP hK hD hN⟩ rfl rfl hl.1 rfl (lv_room (Nat.le_of_ble_eq_true rfl)) dX6_setReserve_15 ⟨Nat.le_refl _, Nat.le_refl _⟩) hS (fA_sub (hD S) (fun q h => hA q (Nat.le_trans hS.1 h))) (fun H locs hz hk hP hS => ?_)
    refine lv_if_ne (tgt := 23) hx hb dX6_setReserve_18 (by decide) (fun _ => ?_) (fun c_3 => absurd c_3 (isFine_0 _))
    refine lv_aload_n hx hb dX6_setReserve_23 rfl (lv_at hl 0 rfl) ?_
    refine x_get hx hb hts mm_X6_setReserve_X6 hown hK hP (0) (by decide) (rfl) rfl 2 (by decide) (hts _ lk_X6_setReserve_7) rfl rfl dX6_setReserve_24 ?_
    refine lv_istore_n (lv' := [(2, .int (((f_X6_isFine S (nI 0)).2) 0 2)), (0, .ref (G 0)), (1, .int x)]) hx hb dX6_setReserve_27 rfl hl (by decide) rfl (fun ls hl => ?_)
    refine lv_aload_n hx hb dX6_setReserve_28 rfl (lv_at hl 1 rfl) ?_
    refine lv_iload_n hx hb dX6_setReserve_29 rfl (lv_at hl 2 rfl) ?_
    refine x_put hx hb hts mm_X6_setReserve_X6 tyX6 tyX6_ok nmX6 hown hK hP hD hS 0 (by decide) (rfl) rfl 2 (by decide) (hts _ lk_X6_setReserve_7) rfl rfl rfl rfl rfl (Nat.le_of_ble_eq_true rfl) 2 (rfl) dX6_setReserve_30 (fun H locs hP hS => ?_)
    refine lv_iload_n hx hb dX6_setReserve_33 rfl (lv_at hl 0 rfl) ?_
    exact x_ret_m hx hb hr rfl hlocks hP hS dX6_setReserve_34 hq

theorem mm_X6_tell_X6 : ∀ w ∈ wsX60, w ∈ wsX6_tell := by decide +kernel
theorem lk_X6_tell_69 : Cond.fieldLink RX6 69 "BackofficeAirModel" "number" "[I" ∈ wsX6_tell := by decide +kernel
theorem lk_X6_tell_94 : Cond.fieldLink RX6 94 "BackofficeAirModel" "numbers" "I" ∈ wsX6_tell := by decide +kernel
def f_X6_tell (S : Mem) (x : Int32) : Int32 × Mem := if f_X6_isIn x (nI 0) (nI 1000) = 0 then ((nI 0, (f_X6_isFine S (nI 1)).2)) else (if S 0 3 = nI 200 then ((nI 0, (f_X6_isFine S (nI 2)).2)) else (((ub (ub ((f_X6_isFine S (nI 0)).2) 19 (kN (S 0 3)) x) 0 3 (((ub ((f_X6_isFine S (nI 0)).2) 19 (kN (S 0 3)) x) 0 3) + (nI 1))) 0 3, ub (ub ((f_X6_isFine S (nI 0)).2) 19 (kN (S 0 3)) x) 0 3 (((ub ((f_X6_isFine S (nI 0)).2) 19 (kN (S 0 3)) x) 0 3) + (nI 1)))))
theorem f_X6_tell_d (S : Mem) (x : Int32) : f_X6_tell S x = (if f_X6_isIn x (nI 0) (nI 1000) = 0 then ((nI 0, (f_X6_isFine S (nI 1)).2)) else (if S 0 3 = nI 200 then ((nI 0, (f_X6_isFine S (nI 2)).2)) else (((ub (ub ((f_X6_isFine S (nI 0)).2) 19 (kN (S 0 3)) x) 0 3 (((ub ((f_X6_isFine S (nI 0)).2) 19 (kN (S 0 3)) x) 0 3) + (nI 1))) 0 3, ub (ub ((f_X6_isFine S (nI 0)).2) 19 (kN (S 0 3)) x) 0 3 (((ub ((f_X6_isFine S (nI 0)).2) 19 (kN (S 0 3)) x) 0 3) + (nI 1)))))) := rfl
set_option maxHeartbeats 1000000 in
set_option maxRecDepth 100000 in
theorem c_X6_tell (l : Launch) (D : va_G) (cI cS cZ cJ : ClassId) (G : Nat → Nat) (S : Mem) (sz : Nat) (x : Int32) (hn : S 0 3 = nI (kN (S 0 3))) (hn2 : kN (S 0 3) ≤ 200) : Met l yX6_tell wsX6_tell ({ frames := 2, cells := 0, slots := 0, locals := 42 } : Room) (wPc 20 (mF cI cZ G) D (tY cI cS cZ cJ) G S sz [.ref (G 0), .int x]) (mQi (f_X6_tell S x) 20 (mF cI cZ G) D G sz) 0 0 (fA 20 G sz) := by
  refine x_met (cc := cX6_tell) (maxL := 2) (ret := (some .int)) (by decide) rfl (Nat.le_of_ble_eq_true rfl) ?_
  intro p e s m below meth c ls hx hb hr hml hts hown hlocks hsz hP hK hD hN hl hnm
  subst hsz
  have hown : s.vm.findClass RX6 = some m.cls := hown
  have hl : lv_has ls 2 [(0, .ref (G 0)), (1, .int x)] := hl
  have hq := f_X6_tell_d S x
  have hA : ∀ q : Nat, s.heap.size ≤ q → (fA 20 G s.heap.size) q := fun q h => Or.inr h
  have hS : va_S (fA 20 G s.heap.size) s.heap s.heap [] := va_S.rf
  refine lv_aload_n hx hb dX6_tell_0 rfl (lv_at hl 0 rfl) ?_
  refine lv_iload_n hx hb dX6_tell_1 rfl (lv_at hl 1 rfl) ?_
  refine lv_iconst (v := nI 0) hx hb dX6_tell_2 (by decide) ?_
  refine lv_sipush (v := nI 1000) hx hb dX6_tell_3 (by decide) ?_
  refine x_pi (va_runS (As := [.int x, .int (nI 0), .int (nI 1000)]) (rest := [.ref (G 0)]) ⟨hx, hb, hml, hown, hts⟩ (c_X6_isIn l s.heap.size x (nI 0) (nI 1000)) (va_cwS 3 hts gX6_tell_X6_isIn rfl rfl rfl (by decide +kernel) ⟨Nat.le_of_ble_eq_true rfl, Nat.le_of_ble_eq_true rfl⟩) ⟨sPc_blind, sPc_at hN⟩ rfl rfl hl.1 rfl (lv_room (Nat.le_of_ble_eq_true rfl)) dX6_tell_6 ⟨Nat.le_refl _, Nat.le_refl _⟩) hS hA (fun q h => h) (fun H locs hz hk hS => ?_)
  have hP := P_kept hP hk
  refine lv_if_ne (tgt := 16) hx hb dX6_tell_9 (by decide) (fun c_1 => ?_) (fun c_1 => ?_)
  · have hq := hq.trans (if_neg c_1)
    refine lv_aload_n hx hb dX6_tell_16 rfl (lv_at hl 0 rfl) ?_
    refine x_get hx hb hts mm_X6_tell_X6 hown hK hP (0) (by decide) (rfl) rfl 22 (by decide) (hts _ lk_X6_tell_94) rfl rfl dX6_tell_17 ?_
    refine lv_sipush (v := nI 200) hx hb dX6_tell_20 (by decide) ?_
    refine lv_icmp_ne (tgt := 30) hx hb dX6_tell_23 (by decide) (fun c_2 => ?_) (fun c_2 => ?_)
    · have hq := hq.trans (if_neg c_2)
      have hlt := num_lt hn hn2 c_2
      refine lv_iconst (v := nI 0) hx hb dX6_tell_30 (by decide) ?_
      refine x_mi (va_runV (As := [.int (nI 0)]) (rest := []) ⟨hx, hb, hml, hown, hts⟩ (c_X6_isFine l D cI cS cZ cJ G S H.size (nI 0)) (cwV 1 hts gX6_tell_X6_isFine rfl rfl rfl (by decide +kernel) ⟨Nat.le_of_ble_eq_true rfl, Nat.le_of_ble_eq_true rfl⟩) ⟨wPc_blind, va_recv hK hP (ci := 6) (q0 := 0) rfl (WL_at (by decide) (rfl)), wPc_at hP hK hD hN⟩ rfl rfl hl.1 rfl (lv_room (Nat.le_of_ble_eq_true rfl)) dX6_tell_31 ⟨Nat.le_refl _, Nat.le_refl _⟩) hS (fA_sub (hD S) (fun q h => hA q (Nat.le_trans hS.1 h))) (fun H locs hz hk hP hS => ?_)
      refine lv_if_ne (tgt := 39) hx hb dX6_tell_34 (by decide) (fun _ => ?_) (fun c_3 => absurd c_3 (isFine_0 _))
      refine lv_aload_n hx hb dX6_tell_39 rfl (lv_at hl 0 rfl) ?_
      refine x_get hx hb hts mm_X6_tell_X6 hown hK hP (0) (by decide) (rfl) rfl 21 (by decide) (hts _ lk_X6_tell_69) rfl rfl dX6_tell_40 ?_
      refine lv_aload_n hx hb dX6_tell_43 rfl (lv_at hl 0 rfl) ?_
      refine x_get hx hb hts mm_X6_tell_X6 hown hK hP (0) (by decide) (rfl) rfl 22 (by decide) (hts _ lk_X6_tell_94) rfl rfl dX6_tell_44 ?_
      refine x_top (y := nI (kN (S 0 3))) (by rw [isFine_st, ub_blk]; exact hn) ?_
      refine lv_iload_n hx hb dX6_tell_47 rfl (lv_at hl 1 rfl) ?_
      refine x_iast hx hb hK hP hD hS 19 0 (by decide) ((fun _ => rfl)) rfl (kN (S 0 3)) (by omega) (by decide) dX6_tell_48 (fun H locs hP hS => ?_)
      refine lv_aload_n hx hb dX6_tell_49 rfl (lv_at hl 0 rfl) ?_
      refine lv_dup hx hb dX6_tell_50 rfl ?_
      refine x_get hx hb hts mm_X6_tell_X6 hown hK hP (0) (by decide) (rfl) rfl 22 (by decide) (hts _ lk_X6_tell_94) rfl rfl dX6_tell_51 ?_
      refine lv_iconst (v := nI 1) hx hb dX6_tell_54 (by decide) ?_
      refine lv_iadd hx hb dX6_tell_55 ?_
      refine x_put hx hb hts mm_X6_tell_X6 tyX6 tyX6_ok nmX6 hown hK hP hD hS 0 (by decide) (rfl) rfl 22 (by decide) (hts _ lk_X6_tell_94) rfl rfl rfl rfl rfl (Nat.le_of_ble_eq_true rfl) 3 (rfl) dX6_tell_56 (fun H locs hP hS => ?_)
      refine lv_aload_n hx hb dX6_tell_59 rfl (lv_at hl 0 rfl) ?_
      refine x_get hx hb hts mm_X6_tell_X6 hown hK hP (0) (by decide) (rfl) rfl 22 (by decide) (hts _ lk_X6_tell_94) rfl rfl dX6_tell_60 ?_
      exact x_ret_m hx hb hr rfl hlocks hP hS dX6_tell_63 hq
    · have hq := hq.trans (if_pos c_2)
      refine lv_iconst (v := nI 2) hx hb dX6_tell_26 (by decide) ?_
      refine lv_goto (tgt := 31) hx hb dX6_tell_27 (by decide) ?_
      refine x_mi (va_runV (As := [.int (nI 2)]) (rest := []) ⟨hx, hb, hml, hown, hts⟩ (c_X6_isFine l D cI cS cZ cJ G S H.size (nI 2)) (cwV 1 hts gX6_tell_X6_isFine rfl rfl rfl (by decide +kernel) ⟨Nat.le_of_ble_eq_true rfl, Nat.le_of_ble_eq_true rfl⟩) ⟨wPc_blind, va_recv hK hP (ci := 6) (q0 := 0) rfl (WL_at (by decide) (rfl)), wPc_at hP hK hD hN⟩ rfl rfl hl.1 rfl (lv_room (Nat.le_of_ble_eq_true rfl)) dX6_tell_31 ⟨Nat.le_refl _, Nat.le_refl _⟩) hS (fA_sub (hD S) (fun q h => hA q (Nat.le_trans hS.1 h))) (fun H locs hz hk hP hS => ?_)
      refine lv_if_ne (tgt := 39) hx hb dX6_tell_34 (by decide) (fun c_4 => absurd (isFine_2 _) c_4) (fun _ => ?_)
      refine lv_iconst (v := nI 0) hx hb dX6_tell_37 (by decide) ?_
      exact x_ret_m hx hb hr rfl hlocks hP hS dX6_tell_38 hq
  · have hq := hq.trans (if_pos c_1)
    refine lv_iconst (v := nI 1) hx hb dX6_tell_12 (by decide) ?_
    refine lv_goto (tgt := 31) hx hb dX6_tell_13 (by decide) ?_
    refine x_mi (va_runV (As := [.int (nI 1)]) (rest := []) ⟨hx, hb, hml, hown, hts⟩ (c_X6_isFine l D cI cS cZ cJ G S H.size (nI 1)) (cwV 1 hts gX6_tell_X6_isFine rfl rfl rfl (by decide +kernel) ⟨Nat.le_of_ble_eq_true rfl, Nat.le_of_ble_eq_true rfl⟩) ⟨wPc_blind, va_recv hK hP (ci := 6) (q0 := 0) rfl (WL_at (by decide) (rfl)), wPc_at hP hK hD hN⟩ rfl rfl hl.1 rfl (lv_room (Nat.le_of_ble_eq_true rfl)) dX6_tell_31 ⟨Nat.le_refl _, Nat.le_refl _⟩) hS (fA_sub (hD S) (fun q h => hA q (Nat.le_trans hS.1 h))) (fun H locs hz hk hP hS => ?_)
    refine lv_if_ne (tgt := 39) hx hb dX6_tell_34 (by decide) (fun c_5 => absurd (isFine_1 _) c_5) (fun _ => ?_)
    refine lv_iconst (v := nI 0) hx hb dX6_tell_37 (by decide) ?_
    exact x_ret_m hx hb hr rfl hlocks hP hS dX6_tell_38 hq

theorem mm_X6_frame_X6 : ∀ w ∈ wsX60, w ∈ wsX6_frame := by decide +kernel
theorem lk_X6_frame_32 : Cond.fieldLink RX6 32 "BackofficeAirModel" "goal" "[I" ∈ wsX6_frame := by decide +kernel
theorem lk_X6_frame_35 : Cond.fieldLink RX6 35 "BackofficeAirModel" "left" "[I" ∈ wsX6_frame := by decide +kernel
theorem lk_X6_frame_38 : Cond.fieldLink RX6 38 "BackofficeAirModel" "frames" "[I" ∈ wsX6_frame := by decide +kernel
def f_X6_frame (S : Mem) (x : Int32) (y : Int32) (v : Int32) : Int32 × Mem := if f_X6_isStation x = 0 then ((nI 0, (f_X6_isFine S (nI 1)).2)) else (if f_X6_isStation y = 0 then ((nI 0, (f_X6_isFine S (nI 1)).2)) else (if f_X6_isIn v (nI 1) (nI 4) = 0 then ((nI 0, (f_X6_isFine S (nI 2)).2)) else (if x = y then ((nI 0, (f_X6_isFine S (nI 2)).2)) else (if S 9 (kN x) = nI 5 then ((nI 0, (f_X6_isFine S (nI 3)).2)) else (((ub (ub (ub ((f_X6_isFine S (nI 0)).2) 7 ((5 * (kN x)) + (kN (S 9 (kN x)))) y) 8 ((5 * (kN x)) + (kN (S 9 (kN x)))) (((nI 1) <<< (v &&& 31)) - (nI 1))) 9 (kN x) (((ub (ub ((f_X6_isFine S (nI 0)).2) 7 ((5 * (kN x)) + (kN (S 9 (kN x)))) y) 8 ((5 * (kN x)) + (kN (S 9 (kN x)))) (((nI 1) <<< (v &&& 31)) - (nI 1))) 9 (kN x)) + (nI 1))) 9 (kN x), ub (ub (ub ((f_X6_isFine S (nI 0)).2) 7 ((5 * (kN x)) + (kN (S 9 (kN x)))) y) 8 ((5 * (kN x)) + (kN (S 9 (kN x)))) (((nI 1) <<< (v &&& 31)) - (nI 1))) 9 (kN x) (((ub (ub ((f_X6_isFine S (nI 0)).2) 7 ((5 * (kN x)) + (kN (S 9 (kN x)))) y) 8 ((5 * (kN x)) + (kN (S 9 (kN x)))) (((nI 1) <<< (v &&& 31)) - (nI 1))) 9 (kN x)) + (nI 1))))))))
theorem f_X6_frame_d (S : Mem) (x : Int32) (y : Int32) (v : Int32) : f_X6_frame S x y v = (if f_X6_isStation x = 0 then ((nI 0, (f_X6_isFine S (nI 1)).2)) else (if f_X6_isStation y = 0 then ((nI 0, (f_X6_isFine S (nI 1)).2)) else (if f_X6_isIn v (nI 1) (nI 4) = 0 then ((nI 0, (f_X6_isFine S (nI 2)).2)) else (if x = y then ((nI 0, (f_X6_isFine S (nI 2)).2)) else (if S 9 (kN x) = nI 5 then ((nI 0, (f_X6_isFine S (nI 3)).2)) else (((ub (ub (ub ((f_X6_isFine S (nI 0)).2) 7 ((5 * (kN x)) + (kN (S 9 (kN x)))) y) 8 ((5 * (kN x)) + (kN (S 9 (kN x)))) (((nI 1) <<< (v &&& 31)) - (nI 1))) 9 (kN x) (((ub (ub ((f_X6_isFine S (nI 0)).2) 7 ((5 * (kN x)) + (kN (S 9 (kN x)))) y) 8 ((5 * (kN x)) + (kN (S 9 (kN x)))) (((nI 1) <<< (v &&& 31)) - (nI 1))) 9 (kN x)) + (nI 1))) 9 (kN x), ub (ub (ub ((f_X6_isFine S (nI 0)).2) 7 ((5 * (kN x)) + (kN (S 9 (kN x)))) y) 8 ((5 * (kN x)) + (kN (S 9 (kN x)))) (((nI 1) <<< (v &&& 31)) - (nI 1))) 9 (kN x) (((ub (ub ((f_X6_isFine S (nI 0)).2) 7 ((5 * (kN x)) + (kN (S 9 (kN x)))) y) 8 ((5 * (kN x)) + (kN (S 9 (kN x)))) (((nI 1) <<< (v &&& 31)) - (nI 1))) 9 (kN x)) + (nI 1))))))))) := rfl
set_option maxHeartbeats 1000000 in
set_option maxRecDepth 100000 in
theorem c_X6_frame (l : Launch) (D : va_G) (cI cS cZ cJ : ClassId) (G : Nat → Nat) (S : Mem) (sz : Nat) (x : Int32) (y : Int32) (v : Int32) (hfr : ∀ j, j < 6 → S 9 j = nI (kN (S 9 j)) ∧ kN (S 9 j) ≤ 5) : Met l yX6_frame wsX6_frame ({ frames := 3, cells := 0, slots := 0, locals := 62 } : Room) (wPc 20 (mF cI cZ G) D (tY cI cS cZ cJ) G S sz [.ref (G 0), .int x, .int y, .int v]) (mQi (f_X6_frame S x y v) 20 (mF cI cZ G) D G sz) 0 0 (fA 20 G sz) := by
  refine x_met (cc := cX6_frame) (maxL := 6) (ret := (some .int)) (by decide) rfl (Nat.le_of_ble_eq_true rfl) ?_
  intro p e s m below meth c ls hx hb hr hml hts hown hlocks hsz hP hK hD hN hl hnm
  subst hsz
  have hown : s.vm.findClass RX6 = some m.cls := hown
  have hl : lv_has ls 6 [(0, .ref (G 0)), (1, .int x), (2, .int y), (3, .int v)] := hl
  have hq := f_X6_frame_d S x y v
  have hA : ∀ q : Nat, s.heap.size ≤ q → (fA 20 G s.heap.size) q := fun q h => Or.inr h
  have hS : va_S (fA 20 G s.heap.size) s.heap s.heap [] := va_S.rf
  refine lv_iload_n hx hb dX6_frame_0 rfl (lv_at hl 1 rfl) ?_
  refine x_pi (va_runS (As := [.int x]) (rest := []) ⟨hx, hb, hml, hown, hts⟩ (c_X6_isStation l s.heap.size x) (va_cwS 1 hts gX6_frame_X6_isStation rfl rfl rfl (by decide +kernel) ⟨Nat.le_of_ble_eq_true rfl, Nat.le_of_ble_eq_true rfl⟩) ⟨sPc_blind, sPc_at hN⟩ rfl rfl hl.1 rfl (lv_room (Nat.le_of_ble_eq_true rfl)) dX6_frame_1 ⟨Nat.le_refl _, Nat.le_refl _⟩) hS hA (fun q h => h) (fun H locs hz hk hS => ?_)
  have hP := P_kept hP hk
  refine lv_if_eq (tgt := 18) hx hb dX6_frame_4 (by decide) (fun c_1 => ?_) (fun c_1 => ?_)
  · have hq := hq.trans (if_pos c_1)
    refine lv_iconst (v := nI 0) hx hb dX6_frame_18 (by decide) ?_
    refine lv_istore (lv' := [(4, .int (nI 0)), (0, .ref (G 0)), (1, .int x), (2, .int y), (3, .int v)]) hx hb dX6_frame_19 hl (by decide) rfl (fun ls hl => ?_)
    refine lv_aload_n hx hb dX6_frame_21 rfl (lv_at hl 1 rfl) ?_
    refine lv_iload hx hb dX6_frame_22 (lv_at hl 0 rfl) ?_
    refine lv_if_ne (tgt := 31) hx hb dX6_frame_24 (by decide) (fun c_2 => absurd (by decide) c_2) (fun _ => ?_)
    refine lv_iconst (v := nI 1) hx hb dX6_frame_27 (by decide) ?_
    refine lv_goto (tgt := 64) hx hb dX6_frame_28 (by decide) ?_
    refine x_mi (va_runV (As := [.int (nI 1)]) (rest := []) ⟨hx, hb, hml, hown, hts⟩ (c_X6_isFine l D cI cS cZ cJ G S H.size (nI 1)) (cwV 1 hts gX6_frame_X6_isFine rfl rfl rfl (by decide +kernel) ⟨Nat.le_of_ble_eq_true rfl, Nat.le_of_ble_eq_true rfl⟩) ⟨wPc_blind, va_recv hK hP (ci := 6) (q0 := 0) rfl (WL_at (by decide) (rfl)), wPc_at hP hK hD hN⟩ rfl rfl hl.1 rfl (lv_room (Nat.le_of_ble_eq_true rfl)) dX6_frame_64 ⟨Nat.le_refl _, Nat.le_refl _⟩) hS (fA_sub (hD S) (fun q h => hA q (Nat.le_trans hS.1 h))) (fun H locs hz hk hP hS => ?_)
    refine lv_if_ne (tgt := 72) hx hb dX6_frame_67 (by decide) (fun c_3 => absurd (isFine_1 _) c_3) (fun _ => ?_)
    refine lv_iconst (v := nI 0) hx hb dX6_frame_70 (by decide) ?_
    exact x_ret_m hx hb hr rfl hlocks hP hS dX6_frame_71 hq
  · have hq := hq.trans (if_neg c_1)
    have kx := isSt_k c_1
    refine lv_iload_n hx hb dX6_frame_7 rfl (lv_at hl 2 rfl) ?_
    refine x_pi (va_runS (As := [.int y]) (rest := []) ⟨hx, hb, hml, hown, hts⟩ (c_X6_isStation l H.size y) (va_cwS 1 hts gX6_frame_X6_isStation rfl rfl rfl (by decide +kernel) ⟨Nat.le_of_ble_eq_true rfl, Nat.le_of_ble_eq_true rfl⟩) ⟨sPc_blind, sPc_at hN⟩ rfl rfl hl.1 rfl (lv_room (Nat.le_of_ble_eq_true rfl)) dX6_frame_8 ⟨Nat.le_refl _, Nat.le_refl _⟩) hS hA (fun q h => h) (fun H locs hz hk hS => ?_)
    have hP := P_kept hP hk
    refine lv_if_eq (tgt := 18) hx hb dX6_frame_11 (by decide) (fun c_4 => ?_) (fun c_4 => ?_)
    · have hq := hq.trans (if_pos c_4)
      refine lv_iconst (v := nI 0) hx hb dX6_frame_18 (by decide) ?_
      refine lv_istore (lv' := [(4, .int (nI 0)), (0, .ref (G 0)), (1, .int x), (2, .int y), (3, .int v)]) hx hb dX6_frame_19 hl (by decide) rfl (fun ls hl => ?_)
      refine lv_aload_n hx hb dX6_frame_21 rfl (lv_at hl 1 rfl) ?_
      refine lv_iload hx hb dX6_frame_22 (lv_at hl 0 rfl) ?_
      refine lv_if_ne (tgt := 31) hx hb dX6_frame_24 (by decide) (fun c_5 => absurd (by decide) c_5) (fun _ => ?_)
      refine lv_iconst (v := nI 1) hx hb dX6_frame_27 (by decide) ?_
      refine lv_goto (tgt := 64) hx hb dX6_frame_28 (by decide) ?_
      refine x_mi (va_runV (As := [.int (nI 1)]) (rest := []) ⟨hx, hb, hml, hown, hts⟩ (c_X6_isFine l D cI cS cZ cJ G S H.size (nI 1)) (cwV 1 hts gX6_frame_X6_isFine rfl rfl rfl (by decide +kernel) ⟨Nat.le_of_ble_eq_true rfl, Nat.le_of_ble_eq_true rfl⟩) ⟨wPc_blind, va_recv hK hP (ci := 6) (q0 := 0) rfl (WL_at (by decide) (rfl)), wPc_at hP hK hD hN⟩ rfl rfl hl.1 rfl (lv_room (Nat.le_of_ble_eq_true rfl)) dX6_frame_64 ⟨Nat.le_refl _, Nat.le_refl _⟩) hS (fA_sub (hD S) (fun q h => hA q (Nat.le_trans hS.1 h))) (fun H locs hz hk hP hS => ?_)
      refine lv_if_ne (tgt := 72) hx hb dX6_frame_67 (by decide) (fun c_6 => absurd (isFine_1 _) c_6) (fun _ => ?_)
      refine lv_iconst (v := nI 0) hx hb dX6_frame_70 (by decide) ?_
      exact x_ret_m hx hb hr rfl hlocks hP hS dX6_frame_71 hq
    · have hq := hq.trans (if_neg c_4)
      have ky := isSt_k c_4
      refine lv_iconst (v := nI 1) hx hb dX6_frame_14 (by decide) ?_
      refine lv_goto (tgt := 19) hx hb dX6_frame_15 (by decide) ?_
      refine lv_istore (lv' := [(4, .int (nI 1)), (0, .ref (G 0)), (1, .int x), (2, .int y), (3, .int v)]) hx hb dX6_frame_19 hl (by decide) rfl (fun ls hl => ?_)
      refine lv_aload_n hx hb dX6_frame_21 rfl (lv_at hl 1 rfl) ?_
      refine lv_iload hx hb dX6_frame_22 (lv_at hl 0 rfl) ?_
      refine lv_if_ne (tgt := 31) hx hb dX6_frame_24 (by decide) (fun _ => ?_) (fun c_7 => absurd c_7 (by decide))
      refine lv_iload_n hx hb dX6_frame_31 rfl (lv_at hl 4 rfl) ?_
      refine lv_iconst (v := nI 1) hx hb dX6_frame_32 (by decide) ?_
      refine lv_iconst (v := nI 4) hx hb dX6_frame_33 (by decide) ?_
      refine x_pi (va_runS (As := [.int v, .int (nI 1), .int (nI 4)]) (rest := [.ref (G 0)]) ⟨hx, hb, hml, hown, hts⟩ (c_X6_isIn l H.size v (nI 1) (nI 4)) (va_cwS 3 hts gX6_frame_X6_isIn rfl rfl rfl (by decide +kernel) ⟨Nat.le_of_ble_eq_true rfl, Nat.le_of_ble_eq_true rfl⟩) ⟨sPc_blind, sPc_at hN⟩ rfl rfl hl.1 rfl (lv_room (Nat.le_of_ble_eq_true rfl)) dX6_frame_34 ⟨Nat.le_refl _, Nat.le_refl _⟩) hS hA (fun q h => h) (fun H locs hz hk hS => ?_)
      have hP := P_kept hP hk
      refine lv_if_eq (tgt := 45) hx hb dX6_frame_37 (by decide) (fun c_8 => ?_) (fun c_8 => ?_)
      · have hq := hq.trans (if_pos c_8)
        refine lv_iconst (v := nI 2) hx hb dX6_frame_45 (by decide) ?_
        refine lv_goto (tgt := 64) hx hb dX6_frame_46 (by decide) ?_
        refine x_mi (va_runV (As := [.int (nI 2)]) (rest := []) ⟨hx, hb, hml, hown, hts⟩ (c_X6_isFine l D cI cS cZ cJ G S H.size (nI 2)) (cwV 1 hts gX6_frame_X6_isFine rfl rfl rfl (by decide +kernel) ⟨Nat.le_of_ble_eq_true rfl, Nat.le_of_ble_eq_true rfl⟩) ⟨wPc_blind, va_recv hK hP (ci := 6) (q0 := 0) rfl (WL_at (by decide) (rfl)), wPc_at hP hK hD hN⟩ rfl rfl hl.1 rfl (lv_room (Nat.le_of_ble_eq_true rfl)) dX6_frame_64 ⟨Nat.le_refl _, Nat.le_refl _⟩) hS (fA_sub (hD S) (fun q h => hA q (Nat.le_trans hS.1 h))) (fun H locs hz hk hP hS => ?_)
        refine lv_if_ne (tgt := 72) hx hb dX6_frame_67 (by decide) (fun c_9 => absurd (isFine_2 _) c_9) (fun _ => ?_)
        refine lv_iconst (v := nI 0) hx hb dX6_frame_70 (by decide) ?_
        exact x_ret_m hx hb hr rfl hlocks hP hS dX6_frame_71 hq
      · have hq := hq.trans (if_neg c_8)
        refine lv_iload_n hx hb dX6_frame_40 rfl (lv_at hl 2 rfl) ?_
        refine lv_iload_n hx hb dX6_frame_41 rfl (lv_at hl 3 rfl) ?_
        refine lv_icmp_ne (tgt := 49) hx hb dX6_frame_42 (by decide) (fun c_10 => ?_) (fun c_10 => ?_)
        · have hq := hq.trans (if_neg c_10)
          refine lv_aload_n hx hb dX6_frame_49 rfl (lv_at hl 1 rfl) ?_
          refine x_get hx hb hts mm_X6_frame_X6 hown hK hP (0) (by decide) (rfl) rfl 11 (by decide) (hts _ lk_X6_frame_38) rfl rfl dX6_frame_50 ?_
          refine lv_iload_n hx hb dX6_frame_53 rfl (lv_at hl 2 rfl) ?_
          refine x_top (y := nI (kN x)) (kx.1) ?_
          refine x_iald hx hb hK hP 9 0 (by decide) (rfl) rfl (kN x) (by omega) (by decide) dX6_frame_54 ?_
          refine lv_iconst (v := nI 5) hx hb dX6_frame_55 (by decide) ?_
          refine lv_icmp_ne (tgt := 63) hx hb dX6_frame_56 (by decide) (fun c_11 => ?_) (fun c_11 => ?_)
          · have hq := hq.trans (if_neg c_11)
            have hlt : kN (S 9 (kN x)) < 5 := by
              rcases Nat.lt_or_ge (kN (S 9 (kN x))) 5 with q | q
              · exact q
              · exact absurd ((hfr _ kx.2).1.trans (congrArg nI (by have := (hfr _ kx.2).2; omega))) c_11
            refine lv_iconst (v := nI 0) hx hb dX6_frame_63 (by decide) ?_
            refine x_mi (va_runV (As := [.int (nI 0)]) (rest := []) ⟨hx, hb, hml, hown, hts⟩ (c_X6_isFine l D cI cS cZ cJ G S H.size (nI 0)) (cwV 1 hts gX6_frame_X6_isFine rfl rfl rfl (by decide +kernel) ⟨Nat.le_of_ble_eq_true rfl, Nat.le_of_ble_eq_true rfl⟩) ⟨wPc_blind, va_recv hK hP (ci := 6) (q0 := 0) rfl (WL_at (by decide) (rfl)), wPc_at hP hK hD hN⟩ rfl rfl hl.1 rfl (lv_room (Nat.le_of_ble_eq_true rfl)) dX6_frame_64 ⟨Nat.le_refl _, Nat.le_refl _⟩) hS (fA_sub (hD S) (fun q h => hA q (Nat.le_trans hS.1 h))) (fun H locs hz hk hP hS => ?_)
            refine lv_if_ne (tgt := 72) hx hb dX6_frame_67 (by decide) (fun _ => ?_) (fun c_12 => absurd c_12 (isFine_0 _))
            refine lv_iconst (v := nI 5) hx hb dX6_frame_72 (by decide) ?_
            refine lv_iload_n hx hb dX6_frame_73 rfl (lv_at hl 2 rfl) ?_
            refine x_top (y := nI (kN x)) (kx.1) ?_
            refine x_imulN hx hb dX6_frame_74 ?_
            refine lv_aload_n hx hb dX6_frame_75 rfl (lv_at hl 1 rfl) ?_
            refine x_get hx hb hts mm_X6_frame_X6 hown hK hP (0) (by decide) (rfl) rfl 11 (by decide) (hts _ lk_X6_frame_38) rfl rfl dX6_frame_76 ?_
            refine lv_iload_n hx hb dX6_frame_79 rfl (lv_at hl 2 rfl) ?_
            refine x_top (y := nI (kN x)) (kx.1) ?_
            refine x_iald hx hb hK hP 9 0 (by decide) (rfl) rfl (kN x) (by omega) (by decide) dX6_frame_80 ?_
            refine x_top (y := nI (kN (S 9 (kN x)))) (by rw [isFine_st, ub_ne _ _ _ (by decide)]; exact (hfr _ kx.2).1) ?_
            refine x_iaddN hx hb dX6_frame_81 ?_
            refine lv_istore (lv' := [(5, .int (nI ((5 * (kN x)) + (kN (S 9 (kN x)))))), (4, .int (nI 1)), (0, .ref (G 0)), (1, .int x), (2, .int y), (3, .int v)]) hx hb dX6_frame_82 hl (by decide) rfl (fun ls hl => ?_)
            refine lv_aload_n hx hb dX6_frame_84 rfl (lv_at hl 2 rfl) ?_
            refine x_get hx hb hts mm_X6_frame_X6 hown hK hP (0) (by decide) (rfl) rfl 9 (by decide) (hts _ lk_X6_frame_32) rfl rfl dX6_frame_85 ?_
            refine lv_iload hx hb dX6_frame_88 (lv_at hl 0 rfl) ?_
            refine lv_iload_n hx hb dX6_frame_90 rfl (lv_at hl 4 rfl) ?_
            refine x_iast hx hb hK hP hD hS 7 0 (by decide) ((fun _ => rfl)) rfl ((5 * (kN x)) + (kN (S 9 (kN x)))) (by omega) (by decide) dX6_frame_91 (fun H locs hP hS => ?_)
            refine lv_aload_n hx hb dX6_frame_92 rfl (lv_at hl 2 rfl) ?_
            refine x_get hx hb hts mm_X6_frame_X6 hown hK hP (0) (by decide) (rfl) rfl 10 (by decide) (hts _ lk_X6_frame_35) rfl rfl dX6_frame_93 ?_
            refine lv_iload hx hb dX6_frame_96 (lv_at hl 0 rfl) ?_
            refine lv_iconst (v := nI 1) hx hb dX6_frame_98 (by decide) ?_
            refine lv_iload_n hx hb dX6_frame_99 rfl (lv_at hl 5 rfl) ?_
            refine lv_ishl hx hb dX6_frame_100 ?_
            refine lv_iconst (v := nI 1) hx hb dX6_frame_101 (by decide) ?_
            refine lv_isub hx hb dX6_frame_102 ?_
            refine x_iast hx hb hK hP hD hS 8 0 (by decide) ((fun _ => rfl)) rfl ((5 * (kN x)) + (kN (S 9 (kN x)))) (by omega) (by decide) dX6_frame_103 (fun H locs hP hS => ?_)
            refine lv_aload_n hx hb dX6_frame_104 rfl (lv_at hl 2 rfl) ?_
            refine x_get hx hb hts mm_X6_frame_X6 hown hK hP (0) (by decide) (rfl) rfl 11 (by decide) (hts _ lk_X6_frame_38) rfl rfl dX6_frame_105 ?_
            refine lv_iload_n hx hb dX6_frame_108 rfl (lv_at hl 3 rfl) ?_
            refine x_top (y := nI (kN x)) (kx.1) ?_
            refine lv_dup2_11 hx hb dX6_frame_109 rfl rfl ?_
            refine x_iald hx hb hK hP 9 0 (by decide) (rfl) rfl (kN x) (by omega) (by decide) dX6_frame_110 ?_
            refine lv_iconst (v := nI 1) hx hb dX6_frame_111 (by decide) ?_
            refine lv_iadd hx hb dX6_frame_112 ?_
            refine x_iast hx hb hK hP hD hS 9 0 (by decide) ((fun _ => rfl)) rfl (kN x) (by omega) (by decide) dX6_frame_113 (fun H locs hP hS => ?_)
            refine lv_aload_n hx hb dX6_frame_114 rfl (lv_at hl 2 rfl) ?_
            refine x_get hx hb hts mm_X6_frame_X6 hown hK hP (0) (by decide) (rfl) rfl 11 (by decide) (hts _ lk_X6_frame_38) rfl rfl dX6_frame_115 ?_
            refine lv_iload_n hx hb dX6_frame_118 rfl (lv_at hl 3 rfl) ?_
            refine x_top (y := nI (kN x)) (kx.1) ?_
            refine x_iald hx hb hK hP 9 0 (by decide) (rfl) rfl (kN x) (by omega) (by decide) dX6_frame_119 ?_
            exact x_ret_m hx hb hr rfl hlocks hP hS dX6_frame_120 hq
          · have hq := hq.trans (if_pos c_11)
            refine lv_iconst (v := nI 3) hx hb dX6_frame_59 (by decide) ?_
            refine lv_goto (tgt := 64) hx hb dX6_frame_60 (by decide) ?_
            refine x_mi (va_runV (As := [.int (nI 3)]) (rest := []) ⟨hx, hb, hml, hown, hts⟩ (c_X6_isFine l D cI cS cZ cJ G S H.size (nI 3)) (cwV 1 hts gX6_frame_X6_isFine rfl rfl rfl (by decide +kernel) ⟨Nat.le_of_ble_eq_true rfl, Nat.le_of_ble_eq_true rfl⟩) ⟨wPc_blind, va_recv hK hP (ci := 6) (q0 := 0) rfl (WL_at (by decide) (rfl)), wPc_at hP hK hD hN⟩ rfl rfl hl.1 rfl (lv_room (Nat.le_of_ble_eq_true rfl)) dX6_frame_64 ⟨Nat.le_refl _, Nat.le_refl _⟩) hS (fA_sub (hD S) (fun q h => hA q (Nat.le_trans hS.1 h))) (fun H locs hz hk hP hS => ?_)
            refine lv_if_ne (tgt := 72) hx hb dX6_frame_67 (by decide) (fun c_13 => absurd (isFine_3 _) c_13) (fun _ => ?_)
            refine lv_iconst (v := nI 0) hx hb dX6_frame_70 (by decide) ?_
            exact x_ret_m hx hb hr rfl hlocks hP hS dX6_frame_71 hq
        · have hq := hq.trans (if_pos c_10)
          refine lv_iconst (v := nI 2) hx hb dX6_frame_45 (by decide) ?_
          refine lv_goto (tgt := 64) hx hb dX6_frame_46 (by decide) ?_
          refine x_mi (va_runV (As := [.int (nI 2)]) (rest := []) ⟨hx, hb, hml, hown, hts⟩ (c_X6_isFine l D cI cS cZ cJ G S H.size (nI 2)) (cwV 1 hts gX6_frame_X6_isFine rfl rfl rfl (by decide +kernel) ⟨Nat.le_of_ble_eq_true rfl, Nat.le_of_ble_eq_true rfl⟩) ⟨wPc_blind, va_recv hK hP (ci := 6) (q0 := 0) rfl (WL_at (by decide) (rfl)), wPc_at hP hK hD hN⟩ rfl rfl hl.1 rfl (lv_room (Nat.le_of_ble_eq_true rfl)) dX6_frame_64 ⟨Nat.le_refl _, Nat.le_refl _⟩) hS (fA_sub (hD S) (fun q h => hA q (Nat.le_trans hS.1 h))) (fun H locs hz hk hP hS => ?_)
          refine lv_if_ne (tgt := 72) hx hb dX6_frame_67 (by decide) (fun c_14 => absurd (isFine_2 _) c_14) (fun _ => ?_)
          refine lv_iconst (v := nI 0) hx hb dX6_frame_70 (by decide) ?_
          exact x_ret_m hx hb hr rfl hlocks hP hS dX6_frame_71 hq

theorem mm_X6_nextNumber_X6 : ∀ w ∈ wsX60, w ∈ wsX6_nextNumber := by decide +kernel
theorem lk_X6_nextNumber_69 : Cond.fieldLink RX6 69 "BackofficeAirModel" "number" "[I" ∈ wsX6_nextNumber := by decide +kernel
theorem lk_X6_nextNumber_94 : Cond.fieldLink RX6 94 "BackofficeAirModel" "numbers" "I" ∈ wsX6_nextNumber := by decide +kernel
def f_X6_nextNumber_L1 : Nat → Nat → Mem → Int32 → Int32 × Mem
  | 0, i, S_L1, nx => (nx, S_L1)
  | n + 1, i, S_L1, nx => if S_L1 0 3 ≤ nI i then ((nx, S_L1)) else (f_X6_nextNumber_L1 n (i + 1) (ub S_L1 19 i (S_L1 19 (i + 1))) nx)
theorem f_X6_nextNumber_L1_z (i : Nat) (S_L1 : Mem) (nx : Int32) : f_X6_nextNumber_L1  0 i S_L1 nx = ((nx, S_L1)) := rfl
theorem f_X6_nextNumber_L1_s (n : Nat) (i : Nat) (S_L1 : Mem) (nx : Int32) : f_X6_nextNumber_L1  (n + 1) i S_L1 nx = (if S_L1 0 3 ≤ nI i then ((nx, S_L1)) else (f_X6_nextNumber_L1 n (i + 1) (ub S_L1 19 i (S_L1 19 (i + 1))) nx)) := rfl
def f_X6_nextNumber (S : Mem) : Int32 × Mem := if S 0 3 = 0 then ((nI 0, S)) else (f_X6_nextNumber_L1 199 0 (ub S 0 3 ((S 0 3) - (nI 1))) (S 19 0))
theorem f_X6_nextNumber_d (S : Mem) : f_X6_nextNumber S = (if S 0 3 = 0 then ((nI 0, S)) else (f_X6_nextNumber_L1 199 0 (ub S 0 3 ((S 0 3) - (nI 1))) (S 19 0))) := rfl
set_option maxHeartbeats 1000000 in
set_option maxRecDepth 100000 in
theorem c_X6_nextNumber (l : Launch) (D : va_G) (cI cS cZ cJ : ClassId) (G : Nat → Nat) (S : Mem) (sz : Nat) (hn : S 0 3 = nI (kN (S 0 3))) (hn2 : kN (S 0 3) ≤ 200) : Met l yX6_nextNumber wsX6_nextNumber ({ frames := 1, cells := 0, slots := 0, locals := 20 } : Room) (wPc 20 (mF cI cZ G) D (tY cI cS cZ cJ) G S sz [.ref (G 0)]) (mQi (f_X6_nextNumber S) 20 (mF cI cZ G) D G sz) 0 0 (fA 20 G sz) := by
  refine x_met (cc := cX6_nextNumber) (maxL := 3) (ret := (some .int)) (by decide) rfl (Nat.le_of_ble_eq_true rfl) ?_
  intro p e s m below meth c ls hx hb hr hml hts hown hlocks hsz hP hK hD hN hl hnm
  subst hsz
  have hown : s.vm.findClass RX6 = some m.cls := hown
  have hl : lv_has ls 3 [(0, .ref (G 0))] := hl
  have hq := f_X6_nextNumber_d S
  have hA : ∀ q : Nat, s.heap.size ≤ q → (fA 20 G s.heap.size) q := fun q h => Or.inr h
  have hS : va_S (fA 20 G s.heap.size) s.heap s.heap [] := va_S.rf
  refine lv_aload_n hx hb dX6_nextNumber_0 rfl (lv_at hl 0 rfl) ?_
  refine x_get hx hb hts mm_X6_nextNumber_X6 hown hK hP (0) (by decide) (rfl) rfl 22 (by decide) (hts _ lk_X6_nextNumber_94) rfl rfl dX6_nextNumber_1 ?_
  refine lv_if_ne (tgt := 9) hx hb dX6_nextNumber_4 (by decide) (fun c_1 => ?_) (fun c_1 => ?_)
  · have hq := hq.trans (if_neg c_1)
    refine lv_aload_n hx hb dX6_nextNumber_9 rfl (lv_at hl 0 rfl) ?_
    refine x_get hx hb hts mm_X6_nextNumber_X6 hown hK hP (0) (by decide) (rfl) rfl 21 (by decide) (hts _ lk_X6_nextNumber_69) rfl rfl dX6_nextNumber_10 ?_
    refine lv_iconst (v := nI 0) hx hb dX6_nextNumber_13 (by decide) ?_
    refine x_iald hx hb hK hP 19 0 (by decide) (rfl) rfl 0 (by omega) (by decide) dX6_nextNumber_14 ?_
    refine lv_istore_n (lv' := [(1, .int (S 19 0)), (0, .ref (G 0))]) hx hb dX6_nextNumber_15 rfl hl (by decide) rfl (fun ls hl => ?_)
    refine lv_aload_n hx hb dX6_nextNumber_16 rfl (lv_at hl 1 rfl) ?_
    refine lv_dup hx hb dX6_nextNumber_17 rfl ?_
    refine x_get hx hb hts mm_X6_nextNumber_X6 hown hK hP (0) (by decide) (rfl) rfl 22 (by decide) (hts _ lk_X6_nextNumber_94) rfl rfl dX6_nextNumber_18 ?_
    refine lv_iconst (v := nI 1) hx hb dX6_nextNumber_21 (by decide) ?_
    refine lv_isub hx hb dX6_nextNumber_22 ?_
    refine x_put hx hb hts mm_X6_nextNumber_X6 tyX6 tyX6_ok nmX6 hown hK hP hD hS 0 (by decide) (rfl) rfl 22 (by decide) (hts _ lk_X6_nextNumber_94) rfl rfl rfl rfl rfl (Nat.le_of_ble_eq_true rfl) 3 (rfl) dX6_nextNumber_23 (fun H locs hP hS => ?_)
    refine lv_iconst (v := nI 0) hx hb dX6_nextNumber_26 (by decide) ?_
    refine lv_istore_n (lv' := [(2, .int (nI 0)), (1, .int (S 19 0)), (0, .ref (G 0))]) hx hb dX6_nextNumber_27 rfl hl (by decide) rfl (fun ls hl => ?_)
    have L1 : ∀ (n : Nat) (i : Nat) (S_L1 : Mem) (nx : Int32) (H : Heap) (locs : List Loc) (ls : Array Slot), i + n = 199 → f_X6_nextNumber S = f_X6_nextNumber_L1 n i S_L1 nx → (S_L1 0 3 ≤ nI 199) → va_P D vwCl (WL 20 G (mF cI cZ G) S_L1) H → va_S (fA 20 G s.heap.size) s.heap H locs → lv_has ls 3 [(2, .int (nI i)), (1, .int nx), (0, .ref (G 0))] → W p l e ({ frames := 1, cells := 0, slots := 0, locals := 20 } : Room) s m ([.ref (G 0)] : List Value).toArray below meth c H locs 0 0 (MQ below (mQi (f_X6_nextNumber S) 20 (mF cI cZ G) D G s.heap.size) ([.ref (G 0)] : List Value).toArray s 0 0 (fA 20 G s.heap.size)) (F0 m 28 ls []) := by
      intro n
      induction n with
      | zero =>
        intro i S_L1 nx H locs ls hin hq hv hP hS hl
        have hq := hq.trans (f_X6_nextNumber_L1_z _ _ _)
        refine lv_iload_n hx hb dX6_nextNumber_28 rfl (lv_at hl 0 rfl) ?_
        refine lv_aload_n hx hb dX6_nextNumber_29 rfl (lv_at hl 2 rfl) ?_
        refine x_get hx hb hts mm_X6_nextNumber_X6 hown hK hP (0) (by decide) (rfl) rfl 22 (by decide) (hts _ lk_X6_nextNumber_94) rfl rfl dX6_nextNumber_30 ?_
        refine lv_icmp_ge (tgt := 56) hx hb dX6_nextNumber_33 (by decide) (fun _ => ?_) (fun c_2 => absurd (by rw [show i = 199 by omega]; exact hv) c_2) 
        refine lv_iload_n hx hb dX6_nextNumber_56 rfl (lv_at hl 1 rfl) ?_
        exact x_ret_m hx hb hr rfl hlocks hP hS dX6_nextNumber_57 hq
      | succ n ih =>
        intro i S_L1 nx H locs ls hin hq hv hP hS hl
        have hq := hq.trans (f_X6_nextNumber_L1_s _ _ _ _)
        refine lv_iload_n hx hb dX6_nextNumber_28 rfl (lv_at hl 0 rfl) ?_
        refine lv_aload_n hx hb dX6_nextNumber_29 rfl (lv_at hl 2 rfl) ?_
        refine x_get hx hb hts mm_X6_nextNumber_X6 hown hK hP (0) (by decide) (rfl) rfl 22 (by decide) (hts _ lk_X6_nextNumber_94) rfl rfl dX6_nextNumber_30 ?_
        refine lv_icmp_ge (tgt := 56) hx hb dX6_nextNumber_33 (by decide) (fun c_3 => ?_) (fun c_3 => ?_)
        · have hq := hq.trans (if_pos c_3)
          refine lv_iload_n hx hb dX6_nextNumber_56 rfl (lv_at hl 1 rfl) ?_
          exact x_ret_m hx hb hr rfl hlocks hP hS dX6_nextNumber_57 hq
        · have hq := hq.trans (if_neg c_3)
          refine lv_aload_n hx hb dX6_nextNumber_36 rfl (lv_at hl 2 rfl) ?_
          refine x_get hx hb hts mm_X6_nextNumber_X6 hown hK hP (0) (by decide) (rfl) rfl 21 (by decide) (hts _ lk_X6_nextNumber_69) rfl rfl dX6_nextNumber_37 ?_
          refine lv_iload_n hx hb dX6_nextNumber_40 rfl (lv_at hl 0 rfl) ?_
          refine lv_aload_n hx hb dX6_nextNumber_41 rfl (lv_at hl 2 rfl) ?_
          refine x_get hx hb hts mm_X6_nextNumber_X6 hown hK hP (0) (by decide) (rfl) rfl 21 (by decide) (hts _ lk_X6_nextNumber_69) rfl rfl dX6_nextNumber_42 ?_
          refine lv_iload_n hx hb dX6_nextNumber_45 rfl (lv_at hl 0 rfl) ?_
          refine lv_iconst (v := nI 1) hx hb dX6_nextNumber_46 (by decide) ?_
          refine x_iaddN hx hb dX6_nextNumber_47 ?_
          refine x_iald hx hb hK hP 19 0 (by decide) (rfl) rfl (i + 1) (by omega) (by decide) dX6_nextNumber_48 ?_
          refine x_iast hx hb hK hP hD hS 19 0 (by decide) ((fun _ => rfl)) rfl i (by omega) (by decide) dX6_nextNumber_49 (fun H locs hP hS => ?_)
          refine lv_iinc (v := nI (i + 1)) (lv' := [(2, .int (nI (i + 1))), (1, .int nx), (0, .ref (G 0))]) hx hb dX6_nextNumber_50 hl (k := 0) rfl (nI_add _ _) (by decide) rfl (fun ls hl => ?_)
          refine lv_goto (tgt := 28) hx hb dX6_nextNumber_53 (by decide) ?_
          exact ih (i + 1) (ub S_L1 19 i (S_L1 19 (i + 1))) nx H locs ls (by omega) hq (by rw [ub_ne _ _ _ (by decide)]; exact hv) hP hS (lv_sub hl [0, 1, 2] rfl)
    exact L1 199 0 (ub S 0 3 ((S 0 3) - (nI 1))) (S 19 0) _ _ _ (by omega) hq (num_pred hn hn2 (by decide)) hP hS (lv_sub hl [0, 1, 2] rfl)
  · have hq := hq.trans (if_pos c_1)
    refine lv_iconst (v := nI 0) hx hb dX6_nextNumber_7 (by decide) ?_
    exact x_ret_m hx hb hr rfl hlocks hP hS dX6_nextNumber_8 hq

theorem mm_X6_leaves_X6 : ∀ w ∈ wsX60, w ∈ wsX6_leaves := by decide +kernel
theorem lk_X6_leaves_32 : Cond.fieldLink RX6 32 "BackofficeAirModel" "goal" "[I" ∈ wsX6_leaves := by decide +kernel
theorem lk_X6_leaves_35 : Cond.fieldLink RX6 35 "BackofficeAirModel" "left" "[I" ∈ wsX6_leaves := by decide +kernel
theorem lk_X6_leaves_38 : Cond.fieldLink RX6 38 "BackofficeAirModel" "frames" "[I" ∈ wsX6_leaves := by decide +kernel
def f_X6_leaves_L1 (s1 : Nat) : Nat → Nat → Mem → Mem
  | 0, i, S_L1 => S_L1
  | n + 1, i, S_L1 => if S_L1 9 s1 ≤ nI i then (S_L1) else (f_X6_leaves_L1 s1 n (i + 1) (ub (ub S_L1 7 ((5 * s1) + i) (S_L1 7 (((5 * s1) + i) + 1))) 8 ((5 * s1) + i) ((ub S_L1 7 ((5 * s1) + i) (S_L1 7 (((5 * s1) + i) + 1))) 8 (((5 * s1) + i) + 1))))
theorem f_X6_leaves_L1_z (s1 : Nat) (i : Nat) (S_L1 : Mem) : f_X6_leaves_L1 s1 0 i S_L1 = (S_L1) := rfl
theorem f_X6_leaves_L1_s (s1 : Nat) (n : Nat) (i : Nat) (S_L1 : Mem) : f_X6_leaves_L1 s1 (n + 1) i S_L1 = (if S_L1 9 s1 ≤ nI i then (S_L1) else (f_X6_leaves_L1 s1 n (i + 1) (ub (ub S_L1 7 ((5 * s1) + i) (S_L1 7 (((5 * s1) + i) + 1))) 8 ((5 * s1) + i) ((ub S_L1 7 ((5 * s1) + i) (S_L1 7 (((5 * s1) + i) + 1))) 8 (((5 * s1) + i) + 1))))) := rfl
def f_X6_leaves (S : Mem) (s1 : Nat) : Mem := f_X6_leaves_L1 s1 4 0 (ub S 9 s1 ((S 9 s1) - (nI 1)))
theorem f_X6_leaves_d (S : Mem) (s1 : Nat) : f_X6_leaves S s1 = (f_X6_leaves_L1 s1 4 0 (ub S 9 s1 ((S 9 s1) - (nI 1)))) := rfl
set_option maxHeartbeats 1000000 in
set_option maxRecDepth 100000 in
theorem c_X6_leaves (l : Launch) (D : va_G) (cI cS cZ cJ : ClassId) (G : Nat → Nat) (S : Mem) (sz : Nat) (s1 : Nat) (h1 : s1 < 6) (hfr : S 9 s1 = nI (kN (S 9 s1))) (hf5 : kN (S 9 s1) ≤ 5) : Met l yX6_leaves wsX6_leaves ({ frames := 1, cells := 0, slots := 0, locals := 20 } : Room) (wPc 20 (mF cI cZ G) D (tY cI cS cZ cJ) G S sz [.ref (G 0), .int (nI s1)]) (mQv (f_X6_leaves S s1) 20 (mF cI cZ G) D G sz) 0 0 (fA 20 G sz) := by
  refine x_met (cc := cX6_leaves) (maxL := 3) (ret := none) (by decide) rfl (Nat.le_of_ble_eq_true rfl) ?_
  intro p e s m below meth c ls hx hb hr hml hts hown hlocks hsz hP hK hD hN hl hnm
  subst hsz
  have hown : s.vm.findClass RX6 = some m.cls := hown
  have hl : lv_has ls 3 [(0, .ref (G 0)), (1, .int (nI s1))] := hl
  have hq := f_X6_leaves_d S s1
  have hA : ∀ q : Nat, s.heap.size ≤ q → (fA 20 G s.heap.size) q := fun q h => Or.inr h
  have hS : va_S (fA 20 G s.heap.size) s.heap s.heap [] := va_S.rf
  refine lv_aload_n hx hb dX6_leaves_0 rfl (lv_at hl 0 rfl) ?_
  refine x_get hx hb hts mm_X6_leaves_X6 hown hK hP (0) (by decide) (rfl) rfl 11 (by decide) (hts _ lk_X6_leaves_38) rfl rfl dX6_leaves_1 ?_
  refine lv_iload_n hx hb dX6_leaves_4 rfl (lv_at hl 1 rfl) ?_
  refine lv_dup2_11 hx hb dX6_leaves_5 rfl rfl ?_
  refine x_iald hx hb hK hP 9 0 (by decide) (rfl) rfl s1 (by omega) (by decide) dX6_leaves_6 ?_
  refine lv_iconst (v := nI 1) hx hb dX6_leaves_7 (by decide) ?_
  refine lv_isub hx hb dX6_leaves_8 ?_
  refine x_iast hx hb hK hP hD hS 9 0 (by decide) ((fun _ => rfl)) rfl s1 (by omega) (by decide) dX6_leaves_9 (fun H locs hP hS => ?_)
  refine lv_iconst (v := nI 0) hx hb dX6_leaves_10 (by decide) ?_
  refine lv_istore_n (lv' := [(2, .int (nI 0)), (0, .ref (G 0)), (1, .int (nI s1))]) hx hb dX6_leaves_11 rfl hl (by decide) rfl (fun ls hl => ?_)
  have L1 : ∀ (n : Nat) (i : Nat) (S_L1 : Mem) (H : Heap) (locs : List Loc) (ls : Array Slot), i + n = 4 → f_X6_leaves S s1 = f_X6_leaves_L1 s1 n i S_L1 → (S_L1 9 s1 ≤ nI 4) → va_P D vwCl (WL 20 G (mF cI cZ G) S_L1) H → va_S (fA 20 G s.heap.size) s.heap H locs → lv_has ls 3 [(2, .int (nI i)), (0, .ref (G 0)), (1, .int (nI s1))] → W p l e ({ frames := 1, cells := 0, slots := 0, locals := 20 } : Room) s m ([.ref (G 0), .int (nI s1)] : List Value).toArray below meth c H locs 0 0 (MQ below (mQv (f_X6_leaves S s1) 20 (mF cI cZ G) D G s.heap.size) ([.ref (G 0), .int (nI s1)] : List Value).toArray s 0 0 (fA 20 G s.heap.size)) (F0 m 12 ls []) := by
    intro n
    induction n with
    | zero =>
      intro i S_L1 H locs ls hin hq hv hP hS hl
      have hq := hq.trans (f_X6_leaves_L1_z _ _ _)
      refine lv_iload_n hx hb dX6_leaves_12 rfl (lv_at hl 0 rfl) ?_
      refine lv_aload_n hx hb dX6_leaves_13 rfl (lv_at hl 1 rfl) ?_
      refine x_get hx hb hts mm_X6_leaves_X6 hown hK hP (0) (by decide) (rfl) rfl 11 (by decide) (hts _ lk_X6_leaves_38) rfl rfl dX6_leaves_14 ?_
      refine lv_iload_n hx hb dX6_leaves_17 rfl (lv_at hl 2 rfl) ?_
      refine x_iald hx hb hK hP 9 0 (by decide) (rfl) rfl s1 (by omega) (by decide) dX6_leaves_18 ?_
      refine lv_icmp_ge (tgt := 72) hx hb dX6_leaves_19 (by decide) (fun _ => ?_) (fun c_1 => absurd (by rw [show i = 4 by omega]; exact hv) c_1) 
      exact x_ret_v hx hb hr hlocks hP hS dX6_leaves_72 hq
    | succ n ih =>
      intro i S_L1 H locs ls hin hq hv hP hS hl
      have hq := hq.trans (f_X6_leaves_L1_s _ _ _ _)
      refine lv_iload_n hx hb dX6_leaves_12 rfl (lv_at hl 0 rfl) ?_
      refine lv_aload_n hx hb dX6_leaves_13 rfl (lv_at hl 1 rfl) ?_
      refine x_get hx hb hts mm_X6_leaves_X6 hown hK hP (0) (by decide) (rfl) rfl 11 (by decide) (hts _ lk_X6_leaves_38) rfl rfl dX6_leaves_14 ?_
      refine lv_iload_n hx hb dX6_leaves_17 rfl (lv_at hl 2 rfl) ?_
      refine x_iald hx hb hK hP 9 0 (by decide) (rfl) rfl s1 (by omega) (by decide) dX6_leaves_18 ?_
      refine lv_icmp_ge (tgt := 72) hx hb dX6_leaves_19 (by decide) (fun c_2 => ?_) (fun c_2 => ?_)
      · have hq := hq.trans (if_pos c_2)
        exact x_ret_v hx hb hr hlocks hP hS dX6_leaves_72 hq
      · have hq := hq.trans (if_neg c_2)
        refine lv_aload_n hx hb dX6_leaves_22 rfl (lv_at hl 1 rfl) ?_
        refine x_get hx hb hts mm_X6_leaves_X6 hown hK hP (0) (by decide) (rfl) rfl 9 (by decide) (hts _ lk_X6_leaves_32) rfl rfl dX6_leaves_23 ?_
        refine lv_iconst (v := nI 5) hx hb dX6_leaves_26 (by decide) ?_
        refine lv_iload_n hx hb dX6_leaves_27 rfl (lv_at hl 2 rfl) ?_
        refine x_imulN hx hb dX6_leaves_28 ?_
        refine lv_iload_n hx hb dX6_leaves_29 rfl (lv_at hl 0 rfl) ?_
        refine x_iaddN hx hb dX6_leaves_30 ?_
        refine lv_aload_n hx hb dX6_leaves_31 rfl (lv_at hl 1 rfl) ?_
        refine x_get hx hb hts mm_X6_leaves_X6 hown hK hP (0) (by decide) (rfl) rfl 9 (by decide) (hts _ lk_X6_leaves_32) rfl rfl dX6_leaves_32 ?_
        refine lv_iconst (v := nI 5) hx hb dX6_leaves_35 (by decide) ?_
        refine lv_iload_n hx hb dX6_leaves_36 rfl (lv_at hl 2 rfl) ?_
        refine x_imulN hx hb dX6_leaves_37 ?_
        refine lv_iload_n hx hb dX6_leaves_38 rfl (lv_at hl 0 rfl) ?_
        refine x_iaddN hx hb dX6_leaves_39 ?_
        refine lv_iconst (v := nI 1) hx hb dX6_leaves_40 (by decide) ?_
        refine x_iaddN hx hb dX6_leaves_41 ?_
        refine x_iald hx hb hK hP 7 0 (by decide) (rfl) rfl (((5 * s1) + i) + 1) (by omega) (by decide) dX6_leaves_42 ?_
        refine x_iast hx hb hK hP hD hS 7 0 (by decide) ((fun _ => rfl)) rfl ((5 * s1) + i) (by omega) (by decide) dX6_leaves_43 (fun H locs hP hS => ?_)
        refine lv_aload_n hx hb dX6_leaves_44 rfl (lv_at hl 1 rfl) ?_
        refine x_get hx hb hts mm_X6_leaves_X6 hown hK hP (0) (by decide) (rfl) rfl 10 (by decide) (hts _ lk_X6_leaves_35) rfl rfl dX6_leaves_45 ?_
        refine lv_iconst (v := nI 5) hx hb dX6_leaves_48 (by decide) ?_
        refine lv_iload_n hx hb dX6_leaves_49 rfl (lv_at hl 2 rfl) ?_
        refine x_imulN hx hb dX6_leaves_50 ?_
        refine lv_iload_n hx hb dX6_leaves_51 rfl (lv_at hl 0 rfl) ?_
        refine x_iaddN hx hb dX6_leaves_52 ?_
        refine lv_aload_n hx hb dX6_leaves_53 rfl (lv_at hl 1 rfl) ?_
        refine x_get hx hb hts mm_X6_leaves_X6 hown hK hP (0) (by decide) (rfl) rfl 10 (by decide) (hts _ lk_X6_leaves_35) rfl rfl dX6_leaves_54 ?_
        refine lv_iconst (v := nI 5) hx hb dX6_leaves_57 (by decide) ?_
        refine lv_iload_n hx hb dX6_leaves_58 rfl (lv_at hl 2 rfl) ?_
        refine x_imulN hx hb dX6_leaves_59 ?_
        refine lv_iload_n hx hb dX6_leaves_60 rfl (lv_at hl 0 rfl) ?_
        refine x_iaddN hx hb dX6_leaves_61 ?_
        refine lv_iconst (v := nI 1) hx hb dX6_leaves_62 (by decide) ?_
        refine x_iaddN hx hb dX6_leaves_63 ?_
        refine x_iald hx hb hK hP 8 0 (by decide) (rfl) rfl (((5 * s1) + i) + 1) (by omega) (by decide) dX6_leaves_64 ?_
        refine x_iast hx hb hK hP hD hS 8 0 (by decide) ((fun _ => rfl)) rfl ((5 * s1) + i) (by omega) (by decide) dX6_leaves_65 (fun H locs hP hS => ?_)
        refine lv_iinc (v := nI (i + 1)) (lv' := [(2, .int (nI (i + 1))), (0, .ref (G 0)), (1, .int (nI s1))]) hx hb dX6_leaves_66 hl (k := 0) rfl (nI_add _ _) (by decide) rfl (fun ls hl => ?_)
        refine lv_goto (tgt := 12) hx hb dX6_leaves_69 (by decide) ?_
        exact ih (i + 1) (ub (ub S_L1 7 ((5 * s1) + i) (S_L1 7 (((5 * s1) + i) + 1))) 8 ((5 * s1) + i) ((ub S_L1 7 ((5 * s1) + i) (S_L1 7 (((5 * s1) + i) + 1))) 8 (((5 * s1) + i) + 1))) H locs ls (by omega) hq (by rw [ub_ne _ _ _ (by decide), ub_ne _ _ _ (by decide)]; exact hv) hP hS (lv_sub hl [0, 1, 2] rfl)
  exact L1 4 0 (ub S 9 s1 ((S 9 s1) - (nI 1))) _ _ _ (by omega) hq (num_pred hfr hf5 (by decide)) hP hS (lv_sub hl [0, 1, 2] rfl)

theorem mm_X6_begins_X6 : ∀ w ∈ wsX60, w ∈ wsX6_begins := by decide +kernel
theorem lk_X6_begins_100 : Cond.fieldLink RX6 100 "BackofficeAirModel" "now" "I" ∈ wsX6_begins := by decide +kernel
theorem lk_X6_begins_23 : Cond.fieldLink RX6 23 "BackofficeAirModel" "waits" "[I" ∈ wsX6_begins := by decide +kernel
theorem lk_X6_begins_35 : Cond.fieldLink RX6 35 "BackofficeAirModel" "left" "[I" ∈ wsX6_begins := by decide +kernel
theorem lk_X6_begins_41 : Cond.fieldLink RX6 41 "BackofficeAirModel" "isSending" "[Z" ∈ wsX6_begins := by decide +kernel
theorem lk_X6_begins_48 : Cond.fieldLink RX6 48 "BackofficeAirModel" "isRequest" "[Z" ∈ wsX6_begins := by decide +kernel
theorem lk_X6_begins_51 : Cond.fieldLink RX6 51 "BackofficeAirModel" "first" "[I" ∈ wsX6_begins := by decide +kernel
theorem lk_X6_begins_54 : Cond.fieldLink RX6 54 "BackofficeAirModel" "last" "[I" ∈ wsX6_begins := by decide +kernel
theorem lk_X6_begins_57 : Cond.fieldLink RX6 57 "BackofficeAirModel" "broken" "[I" ∈ wsX6_begins := by decide +kernel
theorem lk_X6_begins_7 : Cond.fieldLink RX6 7 "BackofficeAirModel" "reserve" "I" ∈ wsX6_begins := by decide +kernel
def f_X6_begins (S : Mem) (s1 : Nat) : Mem := if f_X6_count (S 8 (5 * s1)) < (ub S 10 s1 (vp_nar .boolean (nI 1))) 0 2 then (if (ub (ub (ub S 10 s1 (vp_nar .boolean (nI 1))) 12 s1 (vp_nar .boolean (nI 0))) 13 s1 ((ub (ub S 10 s1 (vp_nar .boolean (nI 1))) 12 s1 (vp_nar .boolean (nI 0))) 0 1)) 12 s1 = 0 then (ub (ub (ub (ub (ub (ub S 10 s1 (vp_nar .boolean (nI 1))) 12 s1 (vp_nar .boolean (nI 0))) 13 s1 ((ub (ub S 10 s1 (vp_nar .boolean (nI 1))) 12 s1 (vp_nar .boolean (nI 0))) 0 1)) 14 s1 ((((ub (ub (ub S 10 s1 (vp_nar .boolean (nI 1))) 12 s1 (vp_nar .boolean (nI 0))) 13 s1 ((ub (ub S 10 s1 (vp_nar .boolean (nI 1))) 12 s1 (vp_nar .boolean (nI 0))) 0 1)) 0 1) + ((nI 2) * (f_X6_count (S 8 (5 * s1))))) - (nI 1))) 15 s1 (nI 0)) 4 s1 ((-1))) else (ub (ub (ub (ub (ub (ub S 10 s1 (vp_nar .boolean (nI 1))) 12 s1 (vp_nar .boolean (nI 0))) 13 s1 ((ub (ub S 10 s1 (vp_nar .boolean (nI 1))) 12 s1 (vp_nar .boolean (nI 0))) 0 1)) 14 s1 ((((ub (ub (ub S 10 s1 (vp_nar .boolean (nI 1))) 12 s1 (vp_nar .boolean (nI 0))) 13 s1 ((ub (ub S 10 s1 (vp_nar .boolean (nI 1))) 12 s1 (vp_nar .boolean (nI 0))) 0 1)) 0 1) + ((nI 2) * (f_X6_count (S 8 (5 * s1))))) - (nI 0))) 15 s1 (nI 0)) 4 s1 ((-1)))) else (if (ub (ub (ub S 10 s1 (vp_nar .boolean (nI 1))) 12 s1 (vp_nar .boolean (nI 1))) 13 s1 ((ub (ub S 10 s1 (vp_nar .boolean (nI 1))) 12 s1 (vp_nar .boolean (nI 1))) 0 1)) 12 s1 = 0 then (ub (ub (ub (ub (ub (ub S 10 s1 (vp_nar .boolean (nI 1))) 12 s1 (vp_nar .boolean (nI 1))) 13 s1 ((ub (ub S 10 s1 (vp_nar .boolean (nI 1))) 12 s1 (vp_nar .boolean (nI 1))) 0 1)) 14 s1 ((((ub (ub (ub S 10 s1 (vp_nar .boolean (nI 1))) 12 s1 (vp_nar .boolean (nI 1))) 13 s1 ((ub (ub S 10 s1 (vp_nar .boolean (nI 1))) 12 s1 (vp_nar .boolean (nI 1))) 0 1)) 0 1) + ((nI 2) * (f_X6_count (S 8 (5 * s1))))) - (nI 1))) 15 s1 (nI 0)) 4 s1 ((-1))) else (ub (ub (ub (ub (ub (ub S 10 s1 (vp_nar .boolean (nI 1))) 12 s1 (vp_nar .boolean (nI 1))) 13 s1 ((ub (ub S 10 s1 (vp_nar .boolean (nI 1))) 12 s1 (vp_nar .boolean (nI 1))) 0 1)) 14 s1 ((((ub (ub (ub S 10 s1 (vp_nar .boolean (nI 1))) 12 s1 (vp_nar .boolean (nI 1))) 13 s1 ((ub (ub S 10 s1 (vp_nar .boolean (nI 1))) 12 s1 (vp_nar .boolean (nI 1))) 0 1)) 0 1) + ((nI 2) * (f_X6_count (S 8 (5 * s1))))) - (nI 0))) 15 s1 (nI 0)) 4 s1 ((-1))))
theorem f_X6_begins_d (S : Mem) (s1 : Nat) : f_X6_begins S s1 = (if f_X6_count (S 8 (5 * s1)) < (ub S 10 s1 (vp_nar .boolean (nI 1))) 0 2 then (if (ub (ub (ub S 10 s1 (vp_nar .boolean (nI 1))) 12 s1 (vp_nar .boolean (nI 0))) 13 s1 ((ub (ub S 10 s1 (vp_nar .boolean (nI 1))) 12 s1 (vp_nar .boolean (nI 0))) 0 1)) 12 s1 = 0 then (ub (ub (ub (ub (ub (ub S 10 s1 (vp_nar .boolean (nI 1))) 12 s1 (vp_nar .boolean (nI 0))) 13 s1 ((ub (ub S 10 s1 (vp_nar .boolean (nI 1))) 12 s1 (vp_nar .boolean (nI 0))) 0 1)) 14 s1 ((((ub (ub (ub S 10 s1 (vp_nar .boolean (nI 1))) 12 s1 (vp_nar .boolean (nI 0))) 13 s1 ((ub (ub S 10 s1 (vp_nar .boolean (nI 1))) 12 s1 (vp_nar .boolean (nI 0))) 0 1)) 0 1) + ((nI 2) * (f_X6_count (S 8 (5 * s1))))) - (nI 1))) 15 s1 (nI 0)) 4 s1 ((-1))) else (ub (ub (ub (ub (ub (ub S 10 s1 (vp_nar .boolean (nI 1))) 12 s1 (vp_nar .boolean (nI 0))) 13 s1 ((ub (ub S 10 s1 (vp_nar .boolean (nI 1))) 12 s1 (vp_nar .boolean (nI 0))) 0 1)) 14 s1 ((((ub (ub (ub S 10 s1 (vp_nar .boolean (nI 1))) 12 s1 (vp_nar .boolean (nI 0))) 13 s1 ((ub (ub S 10 s1 (vp_nar .boolean (nI 1))) 12 s1 (vp_nar .boolean (nI 0))) 0 1)) 0 1) + ((nI 2) * (f_X6_count (S 8 (5 * s1))))) - (nI 0))) 15 s1 (nI 0)) 4 s1 ((-1)))) else (if (ub (ub (ub S 10 s1 (vp_nar .boolean (nI 1))) 12 s1 (vp_nar .boolean (nI 1))) 13 s1 ((ub (ub S 10 s1 (vp_nar .boolean (nI 1))) 12 s1 (vp_nar .boolean (nI 1))) 0 1)) 12 s1 = 0 then (ub (ub (ub (ub (ub (ub S 10 s1 (vp_nar .boolean (nI 1))) 12 s1 (vp_nar .boolean (nI 1))) 13 s1 ((ub (ub S 10 s1 (vp_nar .boolean (nI 1))) 12 s1 (vp_nar .boolean (nI 1))) 0 1)) 14 s1 ((((ub (ub (ub S 10 s1 (vp_nar .boolean (nI 1))) 12 s1 (vp_nar .boolean (nI 1))) 13 s1 ((ub (ub S 10 s1 (vp_nar .boolean (nI 1))) 12 s1 (vp_nar .boolean (nI 1))) 0 1)) 0 1) + ((nI 2) * (f_X6_count (S 8 (5 * s1))))) - (nI 1))) 15 s1 (nI 0)) 4 s1 ((-1))) else (ub (ub (ub (ub (ub (ub S 10 s1 (vp_nar .boolean (nI 1))) 12 s1 (vp_nar .boolean (nI 1))) 13 s1 ((ub (ub S 10 s1 (vp_nar .boolean (nI 1))) 12 s1 (vp_nar .boolean (nI 1))) 0 1)) 14 s1 ((((ub (ub (ub S 10 s1 (vp_nar .boolean (nI 1))) 12 s1 (vp_nar .boolean (nI 1))) 13 s1 ((ub (ub S 10 s1 (vp_nar .boolean (nI 1))) 12 s1 (vp_nar .boolean (nI 1))) 0 1)) 0 1) + ((nI 2) * (f_X6_count (S 8 (5 * s1))))) - (nI 0))) 15 s1 (nI 0)) 4 s1 ((-1))))) := rfl
set_option maxHeartbeats 1000000 in
set_option maxRecDepth 100000 in
theorem c_X6_begins (l : Launch) (D : va_G) (cI cS cZ cJ : ClassId) (G : Nat → Nat) (S : Mem) (sz : Nat) (s1 : Nat) (h1 : s1 < 6) : Met l yX6_begins wsX6_begins ({ frames := 2, cells := 0, slots := 0, locals := 40 } : Room) (wPc 20 (mF cI cZ G) D (tY cI cS cZ cJ) G S sz [.ref (G 0), .int (nI s1)]) (mQv (f_X6_begins S s1) 20 (mF cI cZ G) D G sz) 0 0 (fA 20 G sz) := by
  refine x_met (cc := cX6_begins) (maxL := 3) (ret := none) (by decide) rfl (Nat.le_of_ble_eq_true rfl) ?_
  intro p e s m below meth c ls hx hb hr hml hts hown hlocks hsz hP hK hD hN hl hnm
  subst hsz
  have hown : s.vm.findClass RX6 = some m.cls := hown
  have hl : lv_has ls 3 [(0, .ref (G 0)), (1, .int (nI s1))] := hl
  have hq := f_X6_begins_d S s1
  have hA : ∀ q : Nat, s.heap.size ≤ q → (fA 20 G s.heap.size) q := fun q h => Or.inr h
  have hS : va_S (fA 20 G s.heap.size) s.heap s.heap [] := va_S.rf
  refine lv_aload_n hx hb dX6_begins_0 rfl (lv_at hl 0 rfl) ?_
  refine x_get hx hb hts mm_X6_begins_X6 hown hK hP (0) (by decide) (rfl) rfl 10 (by decide) (hts _ lk_X6_begins_35) rfl rfl dX6_begins_1 ?_
  refine lv_iconst (v := nI 5) hx hb dX6_begins_4 (by decide) ?_
  refine lv_iload_n hx hb dX6_begins_5 rfl (lv_at hl 1 rfl) ?_
  refine x_imulN hx hb dX6_begins_6 ?_
  refine x_iald hx hb hK hP 8 0 (by decide) (rfl) rfl (5 * s1) (by omega) (by decide) dX6_begins_7 ?_
  refine x_pi (va_runS (As := [.int (S 8 (5 * s1))]) (rest := []) ⟨hx, hb, hml, hown, hts⟩ (c_X6_count l s.heap.size (S 8 (5 * s1))) (va_cwS 1 hts gX6_begins_X6_count rfl rfl rfl (by decide +kernel) ⟨Nat.le_of_ble_eq_true rfl, Nat.le_of_ble_eq_true rfl⟩) ⟨sPc_blind, sPc_at hN⟩ rfl rfl hl.1 rfl (lv_room (Nat.le_of_ble_eq_true rfl)) dX6_begins_8 ⟨Nat.le_refl _, Nat.le_refl _⟩) hS hA (fun q h => h) (fun H locs hz hk hS => ?_)
  have hP := P_kept hP hk
  refine lv_istore_n (lv' := [(2, .int (f_X6_count (S 8 (5 * s1)))), (0, .ref (G 0)), (1, .int (nI s1))]) hx hb dX6_begins_11 rfl hl (by decide) rfl (fun ls hl => ?_)
  refine lv_aload_n hx hb dX6_begins_12 rfl (lv_at hl 1 rfl) ?_
  refine x_get hx hb hts mm_X6_begins_X6 hown hK hP (0) (by decide) (rfl) rfl 12 (by decide) (hts _ lk_X6_begins_41) rfl rfl dX6_begins_13 ?_
  refine lv_iload_n hx hb dX6_begins_16 rfl (lv_at hl 2 rfl) ?_
  refine lv_iconst (v := nI 1) hx hb dX6_begins_17 (by decide) ?_
  refine x_zast hx hb hK hP hD hS 10 2 (by decide) ((fun _ => rfl)) rfl s1 (by omega) (by decide) dX6_begins_18 (fun H locs hP hS => ?_)
  refine lv_aload_n hx hb dX6_begins_19 rfl (lv_at hl 1 rfl) ?_
  refine x_get hx hb hts mm_X6_begins_X6 hown hK hP (0) (by decide) (rfl) rfl 14 (by decide) (hts _ lk_X6_begins_48) rfl rfl dX6_begins_20 ?_
  refine lv_iload_n hx hb dX6_begins_23 rfl (lv_at hl 2 rfl) ?_
  refine lv_iload_n hx hb dX6_begins_24 rfl (lv_at hl 0 rfl) ?_
  refine lv_aload_n hx hb dX6_begins_25 rfl (lv_at hl 1 rfl) ?_
  refine x_get hx hb hts mm_X6_begins_X6 hown hK hP (0) (by decide) (rfl) rfl 2 (by decide) (hts _ lk_X6_begins_7) rfl rfl dX6_begins_26 ?_
  refine lv_icmp_lt (tgt := 36) hx hb dX6_begins_29 (by decide) (fun c_1 => ?_) (fun c_1 => ?_)
  · have hq := hq.trans (if_pos c_1)
    refine lv_iconst (v := nI 0) hx hb dX6_begins_36 (by decide) ?_
    refine x_zast hx hb hK hP hD hS 12 2 (by decide) ((fun _ => rfl)) rfl s1 (by omega) (by decide) dX6_begins_37 (fun H locs hP hS => ?_)
    refine lv_aload_n hx hb dX6_begins_38 rfl (lv_at hl 1 rfl) ?_
    refine x_get hx hb hts mm_X6_begins_X6 hown hK hP (0) (by decide) (rfl) rfl 15 (by decide) (hts _ lk_X6_begins_51) rfl rfl dX6_begins_39 ?_
    refine lv_iload_n hx hb dX6_begins_42 rfl (lv_at hl 2 rfl) ?_
    refine lv_aload_n hx hb dX6_begins_43 rfl (lv_at hl 1 rfl) ?_
    refine x_get hx hb hts mm_X6_begins_X6 hown hK hP (0) (by decide) (rfl) rfl 1 (by decide) (hts _ lk_X6_begins_100) rfl rfl dX6_begins_44 ?_
    refine x_iast hx hb hK hP hD hS 13 0 (by decide) ((fun _ => rfl)) rfl s1 (by omega) (by decide) dX6_begins_47 (fun H locs hP hS => ?_)
    refine lv_aload_n hx hb dX6_begins_48 rfl (lv_at hl 1 rfl) ?_
    refine x_get hx hb hts mm_X6_begins_X6 hown hK hP (0) (by decide) (rfl) rfl 16 (by decide) (hts _ lk_X6_begins_54) rfl rfl dX6_begins_49 ?_
    refine lv_iload_n hx hb dX6_begins_52 rfl (lv_at hl 2 rfl) ?_
    refine lv_aload_n hx hb dX6_begins_53 rfl (lv_at hl 1 rfl) ?_
    refine x_get hx hb hts mm_X6_begins_X6 hown hK hP (0) (by decide) (rfl) rfl 1 (by decide) (hts _ lk_X6_begins_100) rfl rfl dX6_begins_54 ?_
    refine lv_iconst (v := nI 2) hx hb dX6_begins_57 (by decide) ?_
    refine lv_iload_n hx hb dX6_begins_58 rfl (lv_at hl 0 rfl) ?_
    refine lv_imul hx hb dX6_begins_59 ?_
    refine lv_iadd hx hb dX6_begins_60 ?_
    refine lv_aload_n hx hb dX6_begins_61 rfl (lv_at hl 1 rfl) ?_
    refine x_get hx hb hts mm_X6_begins_X6 hown hK hP (0) (by decide) (rfl) rfl 14 (by decide) (hts _ lk_X6_begins_48) rfl rfl dX6_begins_62 ?_
    refine lv_iload_n hx hb dX6_begins_65 rfl (lv_at hl 2 rfl) ?_
    refine x_zald hx hb hK hP 12 2 (by decide) (rfl) rfl s1 (by omega) (by decide) dX6_begins_66 ?_
    refine lv_if_eq (tgt := 74) hx hb dX6_begins_67 (by decide) (fun c_2 => ?_) (fun c_2 => ?_)
    · have hq := hq.trans (if_pos c_2)
      refine lv_iconst (v := nI 1) hx hb dX6_begins_74 (by decide) ?_
      refine lv_isub hx hb dX6_begins_75 ?_
      refine x_iast hx hb hK hP hD hS 14 0 (by decide) ((fun _ => rfl)) rfl s1 (by omega) (by decide) dX6_begins_76 (fun H locs hP hS => ?_)
      refine lv_aload_n hx hb dX6_begins_77 rfl (lv_at hl 1 rfl) ?_
      refine x_get hx hb hts mm_X6_begins_X6 hown hK hP (0) (by decide) (rfl) rfl 17 (by decide) (hts _ lk_X6_begins_57) rfl rfl dX6_begins_78 ?_
      refine lv_iload_n hx hb dX6_begins_81 rfl (lv_at hl 2 rfl) ?_
      refine lv_iconst (v := nI 0) hx hb dX6_begins_82 (by decide) ?_
      refine x_iast hx hb hK hP hD hS 15 0 (by decide) ((fun _ => rfl)) rfl s1 (by omega) (by decide) dX6_begins_83 (fun H locs hP hS => ?_)
      refine lv_aload_n hx hb dX6_begins_84 rfl (lv_at hl 1 rfl) ?_
      refine x_get hx hb hts mm_X6_begins_X6 hown hK hP (0) (by decide) (rfl) rfl 6 (by decide) (hts _ lk_X6_begins_23) rfl rfl dX6_begins_85 ?_
      refine lv_iload_n hx hb dX6_begins_88 rfl (lv_at hl 2 rfl) ?_
      refine lv_iconst (v := (-1)) hx hb dX6_begins_89 (by decide) ?_
      refine x_iast hx hb hK hP hD hS 4 0 (by decide) ((fun _ => rfl)) rfl s1 (by omega) (by decide) dX6_begins_90 (fun H locs hP hS => ?_)
      exact x_ret_v hx hb hr hlocks hP hS dX6_begins_91 hq
    · have hq := hq.trans (if_neg c_2)
      refine lv_iconst (v := nI 0) hx hb dX6_begins_70 (by decide) ?_
      refine lv_goto (tgt := 75) hx hb dX6_begins_71 (by decide) ?_
      refine lv_isub hx hb dX6_begins_75 ?_
      refine x_iast hx hb hK hP hD hS 14 0 (by decide) ((fun _ => rfl)) rfl s1 (by omega) (by decide) dX6_begins_76 (fun H locs hP hS => ?_)
      refine lv_aload_n hx hb dX6_begins_77 rfl (lv_at hl 1 rfl) ?_
      refine x_get hx hb hts mm_X6_begins_X6 hown hK hP (0) (by decide) (rfl) rfl 17 (by decide) (hts _ lk_X6_begins_57) rfl rfl dX6_begins_78 ?_
      refine lv_iload_n hx hb dX6_begins_81 rfl (lv_at hl 2 rfl) ?_
      refine lv_iconst (v := nI 0) hx hb dX6_begins_82 (by decide) ?_
      refine x_iast hx hb hK hP hD hS 15 0 (by decide) ((fun _ => rfl)) rfl s1 (by omega) (by decide) dX6_begins_83 (fun H locs hP hS => ?_)
      refine lv_aload_n hx hb dX6_begins_84 rfl (lv_at hl 1 rfl) ?_
      refine x_get hx hb hts mm_X6_begins_X6 hown hK hP (0) (by decide) (rfl) rfl 6 (by decide) (hts _ lk_X6_begins_23) rfl rfl dX6_begins_85 ?_
      refine lv_iload_n hx hb dX6_begins_88 rfl (lv_at hl 2 rfl) ?_
      refine lv_iconst (v := (-1)) hx hb dX6_begins_89 (by decide) ?_
      refine x_iast hx hb hK hP hD hS 4 0 (by decide) ((fun _ => rfl)) rfl s1 (by omega) (by decide) dX6_begins_90 (fun H locs hP hS => ?_)
      exact x_ret_v hx hb hr hlocks hP hS dX6_begins_91 hq
  · have hq := hq.trans (if_neg c_1)
    refine lv_iconst (v := nI 1) hx hb dX6_begins_32 (by decide) ?_
    refine lv_goto (tgt := 37) hx hb dX6_begins_33 (by decide) ?_
    refine x_zast hx hb hK hP hD hS 12 2 (by decide) ((fun _ => rfl)) rfl s1 (by omega) (by decide) dX6_begins_37 (fun H locs hP hS => ?_)
    refine lv_aload_n hx hb dX6_begins_38 rfl (lv_at hl 1 rfl) ?_
    refine x_get hx hb hts mm_X6_begins_X6 hown hK hP (0) (by decide) (rfl) rfl 15 (by decide) (hts _ lk_X6_begins_51) rfl rfl dX6_begins_39 ?_
    refine lv_iload_n hx hb dX6_begins_42 rfl (lv_at hl 2 rfl) ?_
    refine lv_aload_n hx hb dX6_begins_43 rfl (lv_at hl 1 rfl) ?_
    refine x_get hx hb hts mm_X6_begins_X6 hown hK hP (0) (by decide) (rfl) rfl 1 (by decide) (hts _ lk_X6_begins_100) rfl rfl dX6_begins_44 ?_
    refine x_iast hx hb hK hP hD hS 13 0 (by decide) ((fun _ => rfl)) rfl s1 (by omega) (by decide) dX6_begins_47 (fun H locs hP hS => ?_)
    refine lv_aload_n hx hb dX6_begins_48 rfl (lv_at hl 1 rfl) ?_
    refine x_get hx hb hts mm_X6_begins_X6 hown hK hP (0) (by decide) (rfl) rfl 16 (by decide) (hts _ lk_X6_begins_54) rfl rfl dX6_begins_49 ?_
    refine lv_iload_n hx hb dX6_begins_52 rfl (lv_at hl 2 rfl) ?_
    refine lv_aload_n hx hb dX6_begins_53 rfl (lv_at hl 1 rfl) ?_
    refine x_get hx hb hts mm_X6_begins_X6 hown hK hP (0) (by decide) (rfl) rfl 1 (by decide) (hts _ lk_X6_begins_100) rfl rfl dX6_begins_54 ?_
    refine lv_iconst (v := nI 2) hx hb dX6_begins_57 (by decide) ?_
    refine lv_iload_n hx hb dX6_begins_58 rfl (lv_at hl 0 rfl) ?_
    refine lv_imul hx hb dX6_begins_59 ?_
    refine lv_iadd hx hb dX6_begins_60 ?_
    refine lv_aload_n hx hb dX6_begins_61 rfl (lv_at hl 1 rfl) ?_
    refine x_get hx hb hts mm_X6_begins_X6 hown hK hP (0) (by decide) (rfl) rfl 14 (by decide) (hts _ lk_X6_begins_48) rfl rfl dX6_begins_62 ?_
    refine lv_iload_n hx hb dX6_begins_65 rfl (lv_at hl 2 rfl) ?_
    refine x_zald hx hb hK hP 12 2 (by decide) (rfl) rfl s1 (by omega) (by decide) dX6_begins_66 ?_
    refine lv_if_eq (tgt := 74) hx hb dX6_begins_67 (by decide) (fun c_3 => ?_) (fun c_3 => ?_)
    · have hq := hq.trans (if_pos c_3)
      refine lv_iconst (v := nI 1) hx hb dX6_begins_74 (by decide) ?_
      refine lv_isub hx hb dX6_begins_75 ?_
      refine x_iast hx hb hK hP hD hS 14 0 (by decide) ((fun _ => rfl)) rfl s1 (by omega) (by decide) dX6_begins_76 (fun H locs hP hS => ?_)
      refine lv_aload_n hx hb dX6_begins_77 rfl (lv_at hl 1 rfl) ?_
      refine x_get hx hb hts mm_X6_begins_X6 hown hK hP (0) (by decide) (rfl) rfl 17 (by decide) (hts _ lk_X6_begins_57) rfl rfl dX6_begins_78 ?_
      refine lv_iload_n hx hb dX6_begins_81 rfl (lv_at hl 2 rfl) ?_
      refine lv_iconst (v := nI 0) hx hb dX6_begins_82 (by decide) ?_
      refine x_iast hx hb hK hP hD hS 15 0 (by decide) ((fun _ => rfl)) rfl s1 (by omega) (by decide) dX6_begins_83 (fun H locs hP hS => ?_)
      refine lv_aload_n hx hb dX6_begins_84 rfl (lv_at hl 1 rfl) ?_
      refine x_get hx hb hts mm_X6_begins_X6 hown hK hP (0) (by decide) (rfl) rfl 6 (by decide) (hts _ lk_X6_begins_23) rfl rfl dX6_begins_85 ?_
      refine lv_iload_n hx hb dX6_begins_88 rfl (lv_at hl 2 rfl) ?_
      refine lv_iconst (v := (-1)) hx hb dX6_begins_89 (by decide) ?_
      refine x_iast hx hb hK hP hD hS 4 0 (by decide) ((fun _ => rfl)) rfl s1 (by omega) (by decide) dX6_begins_90 (fun H locs hP hS => ?_)
      exact x_ret_v hx hb hr hlocks hP hS dX6_begins_91 hq
    · have hq := hq.trans (if_neg c_3)
      refine lv_iconst (v := nI 0) hx hb dX6_begins_70 (by decide) ?_
      refine lv_goto (tgt := 75) hx hb dX6_begins_71 (by decide) ?_
      refine lv_isub hx hb dX6_begins_75 ?_
      refine x_iast hx hb hK hP hD hS 14 0 (by decide) ((fun _ => rfl)) rfl s1 (by omega) (by decide) dX6_begins_76 (fun H locs hP hS => ?_)
      refine lv_aload_n hx hb dX6_begins_77 rfl (lv_at hl 1 rfl) ?_
      refine x_get hx hb hts mm_X6_begins_X6 hown hK hP (0) (by decide) (rfl) rfl 17 (by decide) (hts _ lk_X6_begins_57) rfl rfl dX6_begins_78 ?_
      refine lv_iload_n hx hb dX6_begins_81 rfl (lv_at hl 2 rfl) ?_
      refine lv_iconst (v := nI 0) hx hb dX6_begins_82 (by decide) ?_
      refine x_iast hx hb hK hP hD hS 15 0 (by decide) ((fun _ => rfl)) rfl s1 (by omega) (by decide) dX6_begins_83 (fun H locs hP hS => ?_)
      refine lv_aload_n hx hb dX6_begins_84 rfl (lv_at hl 1 rfl) ?_
      refine x_get hx hb hts mm_X6_begins_X6 hown hK hP (0) (by decide) (rfl) rfl 6 (by decide) (hts _ lk_X6_begins_23) rfl rfl dX6_begins_85 ?_
      refine lv_iload_n hx hb dX6_begins_88 rfl (lv_at hl 2 rfl) ?_
      refine lv_iconst (v := (-1)) hx hb dX6_begins_89 (by decide) ?_
      refine x_iast hx hb hK hP hD hS 4 0 (by decide) ((fun _ => rfl)) rfl s1 (by omega) (by decide) dX6_begins_90 (fun H locs hP hS => ?_)
      exact x_ret_v hx hb hr hlocks hP hS dX6_begins_91 hq

theorem mm_X6_isBusy_X6 : ∀ w ∈ wsX60, w ∈ wsX6_isBusy := by decide +kernel
theorem lk_X6_isBusy_45 : Cond.fieldLink RX6 45 "BackofficeAirModel" "wasSending" "[Z" ∈ wsX6_isBusy := by decide +kernel
def f_X6_isBusy_L1 (S : Mem) (s1 : Nat) : Nat → Nat → Int32 → Int32
  | 0, i, b => b
  | n + 1, i, b => if b = 0 then (if nI i = nI s1 then (f_X6_isBusy_L1 S s1 n (i + 1) (nI 0)) else (if f_X6_heard S s1 i ≤ 0 then (f_X6_isBusy_L1 S s1 n (i + 1) (nI 0)) else (if S 11 i = 0 then (f_X6_isBusy_L1 S s1 n (i + 1) (nI 0)) else (f_X6_isBusy_L1 S s1 n (i + 1) (nI 1))))) else (f_X6_isBusy_L1 S s1 n (i + 1) (nI 1))
theorem f_X6_isBusy_L1_z (S : Mem) (s1 : Nat) (i : Nat) (b : Int32) : f_X6_isBusy_L1 S s1 0 i b = (b) := rfl
theorem f_X6_isBusy_L1_s (S : Mem) (s1 : Nat) (n : Nat) (i : Nat) (b : Int32) : f_X6_isBusy_L1 S s1 (n + 1) i b = (if b = 0 then (if nI i = nI s1 then (f_X6_isBusy_L1 S s1 n (i + 1) (nI 0)) else (if f_X6_heard S s1 i ≤ 0 then (f_X6_isBusy_L1 S s1 n (i + 1) (nI 0)) else (if S 11 i = 0 then (f_X6_isBusy_L1 S s1 n (i + 1) (nI 0)) else (f_X6_isBusy_L1 S s1 n (i + 1) (nI 1))))) else (f_X6_isBusy_L1 S s1 n (i + 1) (nI 1))) := rfl
def f_X6_isBusy (S : Mem) (s1 : Nat) : Int32 := f_X6_isBusy_L1 S s1 6 0 (nI 0)
theorem f_X6_isBusy_d (S : Mem) (s1 : Nat) : f_X6_isBusy S s1 = (f_X6_isBusy_L1 S s1 6 0 (nI 0)) := rfl
set_option maxHeartbeats 1000000 in
set_option maxRecDepth 100000 in
theorem c_X6_isBusy (l : Launch) (D : va_G) (cI cS cZ cJ : ClassId) (G : Nat → Nat) (S : Mem) (sz : Nat) (s1 : Nat) (h1 : s1 < 6) : Met l yX6_isBusy wsX6_isBusy ({ frames := 2, cells := 0, slots := 0, locals := 42 } : Room) (wPc 20 (mF cI cZ G) D (tY cI cS cZ cJ) G S sz [.ref (G 0), .int (nI s1)]) (pQi (f_X6_isBusy S s1) sz) 0 0 (fun q => sz ≤ q) := by
  refine x_met (cc := cX6_isBusy) (maxL := 4) (ret := (some .boolean)) (by decide) rfl (Nat.le_of_ble_eq_true rfl) ?_
  intro p e s m below meth c ls hx hb hr hml hts hown hlocks hsz hP hK hD hN hl hnm
  subst hsz
  have hown : s.vm.findClass RX6 = some m.cls := hown
  have hl : lv_has ls 4 [(0, .ref (G 0)), (1, .int (nI s1))] := hl
  have hq := f_X6_isBusy_d S s1
  have hA : ∀ q : Nat, s.heap.size ≤ q → (fun q => s.heap.size ≤ q) q := fun q h => h
  have hS : va_S (fun q => s.heap.size ≤ q) s.heap s.heap [] := va_S.rf
  refine lv_iconst (v := nI 0) hx hb dX6_isBusy_0 (by decide) ?_
  refine lv_istore_n (lv' := [(2, .int (nI 0)), (0, .ref (G 0)), (1, .int (nI s1))]) hx hb dX6_isBusy_1 rfl hl (by decide) rfl (fun ls hl => ?_)
  refine lv_iconst (v := nI 0) hx hb dX6_isBusy_2 (by decide) ?_
  refine lv_istore_n (lv' := [(3, .int (nI 0)), (2, .int (nI 0)), (0, .ref (G 0)), (1, .int (nI s1))]) hx hb dX6_isBusy_3 rfl hl (by decide) rfl (fun ls hl => ?_)
  have L1 : ∀ (n : Nat) (i : Nat) (b : Int32) (H : Heap) (locs : List Loc) (ls : Array Slot), i + n = 6 → f_X6_isBusy S s1 = f_X6_isBusy_L1 S s1 n i b → (b = nI 0 ∨ b = nI 1) → va_P D vwCl (WL 20 G (mF cI cZ G) S) H → va_S (fun q => s.heap.size ≤ q) s.heap H locs → lv_has ls 4 [(3, .int (nI i)), (2, .int b), (0, .ref (G 0)), (1, .int (nI s1))] → W p l e ({ frames := 2, cells := 0, slots := 0, locals := 42 } : Room) s m ([.ref (G 0), .int (nI s1)] : List Value).toArray below meth c H locs 0 0 (MQ below (pQi (f_X6_isBusy S s1) s.heap.size) ([.ref (G 0), .int (nI s1)] : List Value).toArray s 0 0 (fun q => s.heap.size ≤ q)) (F0 m 4 ls []) := by
    intro n
    induction n with
    | zero =>
      intro i b H locs ls hin hq hb01 hP hS hl
      have hq := hq.trans (f_X6_isBusy_L1_z _ _ _ _)
      refine lv_iload_n hx hb dX6_isBusy_4 rfl (lv_at hl 0 rfl) ?_
      refine lv_bipush (v := nI 6) hx hb dX6_isBusy_5 (by decide) ?_
      refine lv_icmp_ge (tgt := 49) hx hb dX6_isBusy_7 (by decide) (fun _ => ?_) (fun c_1 => absurd (nI_le (by omega) (by omega)) c_1) 
      refine lv_iload_n hx hb dX6_isBusy_49 rfl (lv_at hl 1 rfl) ?_
      exact x_ret_p hx hb hr (nar01 hb01) hlocks hS dX6_isBusy_50 hq
    | succ n ih =>
      intro i b H locs ls hin hq hb01 hP hS hl
      have hq := hq.trans (f_X6_isBusy_L1_s _ _ _ _ _)
      refine lv_iload_n hx hb dX6_isBusy_4 rfl (lv_at hl 0 rfl) ?_
      refine lv_bipush (v := nI 6) hx hb dX6_isBusy_5 (by decide) ?_
      refine lv_icmp_ge (tgt := 49) hx hb dX6_isBusy_7 (by decide) (fun c_2 => absurd c_2 (nI_ge (by omega) (by omega))) (fun _ => ?_)
      refine lv_iload_n hx hb dX6_isBusy_10 rfl (lv_at hl 1 rfl) ?_
      refine lv_if_ne (tgt := 37) hx hb dX6_isBusy_11 (by decide) (fun c_3 => ?_) (fun c_3 => ?_)
      · have hq := hq.trans (if_neg c_3)
        refine lv_iconst (v := nI 1) hx hb dX6_isBusy_37 (by decide) ?_
        refine lv_goto (tgt := 42) hx hb dX6_isBusy_38 (by decide) ?_
        refine lv_istore_n (lv' := [(2, .int (nI 1)), (3, .int (nI i)), (0, .ref (G 0)), (1, .int (nI s1))]) hx hb dX6_isBusy_42 rfl hl (by decide) rfl (fun ls hl => ?_)
        refine lv_iinc (v := nI (i + 1)) (lv' := [(3, .int (nI (i + 1))), (2, .int (nI 1)), (0, .ref (G 0)), (1, .int (nI s1))]) hx hb dX6_isBusy_43 hl (k := 1) rfl (nI_add _ _) (by decide) rfl (fun ls hl => ?_)
        refine lv_goto (tgt := 4) hx hb dX6_isBusy_46 (by decide) ?_
        exact ih (i + 1) (nI 1) H locs ls (by omega) hq (by first | exact Or.inl rfl | exact Or.inr rfl) hP hS (lv_sub hl [0, 1, 2, 3] rfl)
      · have hq := hq.trans (if_pos c_3)
        refine lv_iload_n hx hb dX6_isBusy_14 rfl (lv_at hl 0 rfl) ?_
        refine lv_iload_n hx hb dX6_isBusy_15 rfl (lv_at hl 3 rfl) ?_
        refine lv_icmp_eq (tgt := 41) hx hb dX6_isBusy_16 (by decide) (fun c_4 => ?_) (fun c_4 => ?_)
        · have hq := hq.trans (if_pos c_4)
          refine lv_iconst (v := nI 0) hx hb dX6_isBusy_41 (by decide) ?_
          refine lv_istore_n (lv' := [(2, .int (nI 0)), (3, .int (nI i)), (0, .ref (G 0)), (1, .int (nI s1))]) hx hb dX6_isBusy_42 rfl hl (by decide) rfl (fun ls hl => ?_)
          refine lv_iinc (v := nI (i + 1)) (lv' := [(3, .int (nI (i + 1))), (2, .int (nI 0)), (0, .ref (G 0)), (1, .int (nI s1))]) hx hb dX6_isBusy_43 hl (k := 1) rfl (nI_add _ _) (by decide) rfl (fun ls hl => ?_)
          refine lv_goto (tgt := 4) hx hb dX6_isBusy_46 (by decide) ?_
          exact ih (i + 1) (nI 0) H locs ls (by omega) hq (by first | exact Or.inl rfl | exact Or.inr rfl) hP hS (lv_sub hl [0, 1, 2, 3] rfl)
        · have hq := hq.trans (if_neg c_4)
          refine lv_aload_n hx hb dX6_isBusy_19 rfl (lv_at hl 2 rfl) ?_
          refine lv_iload_n hx hb dX6_isBusy_20 rfl (lv_at hl 3 rfl) ?_
          refine lv_iload_n hx hb dX6_isBusy_21 rfl (lv_at hl 0 rfl) ?_
          refine x_pi (va_runV (As := [.int (nI s1), .int (nI i)]) (rest := []) ⟨hx, hb, hml, hown, hts⟩ (c_X6_heard l D cI cS cZ cJ G S H.size s1 i (by omega) (by omega)) (cwV 2 hts gX6_isBusy_X6_heard rfl rfl rfl (by decide +kernel) ⟨Nat.le_of_ble_eq_true rfl, Nat.le_of_ble_eq_true rfl⟩) ⟨wPc_blind, va_recv hK hP (ci := 6) (q0 := 0) rfl (WL_at (by decide) (rfl)), wPc_at hP hK hD hN⟩ rfl rfl hl.1 rfl (lv_room (Nat.le_of_ble_eq_true rfl)) dX6_isBusy_22 ⟨Nat.le_refl _, Nat.le_refl _⟩) hS hA (fun q h => h) (fun H locs hz hk hS => ?_)
          have hP := P_kept hP hk
          refine lv_if_le (tgt := 41) hx hb dX6_isBusy_25 (by decide) (fun c_5 => ?_) (fun c_5 => ?_)
          · have hq := hq.trans (if_pos c_5)
            refine lv_iconst (v := nI 0) hx hb dX6_isBusy_41 (by decide) ?_
            refine lv_istore_n (lv' := [(2, .int (nI 0)), (3, .int (nI i)), (0, .ref (G 0)), (1, .int (nI s1))]) hx hb dX6_isBusy_42 rfl hl (by decide) rfl (fun ls hl => ?_)
            refine lv_iinc (v := nI (i + 1)) (lv' := [(3, .int (nI (i + 1))), (2, .int (nI 0)), (0, .ref (G 0)), (1, .int (nI s1))]) hx hb dX6_isBusy_43 hl (k := 1) rfl (nI_add _ _) (by decide) rfl (fun ls hl => ?_)
            refine lv_goto (tgt := 4) hx hb dX6_isBusy_46 (by decide) ?_
            exact ih (i + 1) (nI 0) H locs ls (by omega) hq (by first | exact Or.inl rfl | exact Or.inr rfl) hP hS (lv_sub hl [0, 1, 2, 3] rfl)
          · have hq := hq.trans (if_neg c_5)
            refine lv_aload_n hx hb dX6_isBusy_28 rfl (lv_at hl 2 rfl) ?_
            refine x_get hx hb hts mm_X6_isBusy_X6 hown hK hP (0) (by decide) (rfl) rfl 13 (by decide) (hts _ lk_X6_isBusy_45) rfl rfl dX6_isBusy_29 ?_
            refine lv_iload_n hx hb dX6_isBusy_32 rfl (lv_at hl 0 rfl) ?_
            refine x_zald hx hb hK hP 11 2 (by decide) (rfl) rfl i (by omega) (by decide) dX6_isBusy_33 ?_
            refine lv_if_eq (tgt := 41) hx hb dX6_isBusy_34 (by decide) (fun c_6 => ?_) (fun c_6 => ?_)
            · have hq := hq.trans (if_pos c_6)
              refine lv_iconst (v := nI 0) hx hb dX6_isBusy_41 (by decide) ?_
              refine lv_istore_n (lv' := [(2, .int (nI 0)), (3, .int (nI i)), (0, .ref (G 0)), (1, .int (nI s1))]) hx hb dX6_isBusy_42 rfl hl (by decide) rfl (fun ls hl => ?_)
              refine lv_iinc (v := nI (i + 1)) (lv' := [(3, .int (nI (i + 1))), (2, .int (nI 0)), (0, .ref (G 0)), (1, .int (nI s1))]) hx hb dX6_isBusy_43 hl (k := 1) rfl (nI_add _ _) (by decide) rfl (fun ls hl => ?_)
              refine lv_goto (tgt := 4) hx hb dX6_isBusy_46 (by decide) ?_
              exact ih (i + 1) (nI 0) H locs ls (by omega) hq (by first | exact Or.inl rfl | exact Or.inr rfl) hP hS (lv_sub hl [0, 1, 2, 3] rfl)
            · have hq := hq.trans (if_neg c_6)
              refine lv_iconst (v := nI 1) hx hb dX6_isBusy_37 (by decide) ?_
              refine lv_goto (tgt := 42) hx hb dX6_isBusy_38 (by decide) ?_
              refine lv_istore_n (lv' := [(2, .int (nI 1)), (3, .int (nI i)), (0, .ref (G 0)), (1, .int (nI s1))]) hx hb dX6_isBusy_42 rfl hl (by decide) rfl (fun ls hl => ?_)
              refine lv_iinc (v := nI (i + 1)) (lv' := [(3, .int (nI (i + 1))), (2, .int (nI 1)), (0, .ref (G 0)), (1, .int (nI s1))]) hx hb dX6_isBusy_43 hl (k := 1) rfl (nI_add _ _) (by decide) rfl (fun ls hl => ?_)
              refine lv_goto (tgt := 4) hx hb dX6_isBusy_46 (by decide) ?_
              exact ih (i + 1) (nI 1) H locs ls (by omega) hq (by first | exact Or.inl rfl | exact Or.inr rfl) hP hS (lv_sub hl [0, 1, 2, 3] rfl)
  exact L1 6 0 (nI 0) _ _ _ (by omega) hq (by first | exact Or.inl rfl | exact Or.inr rfl) hP hS (lv_sub hl [0, 1, 2, 3] rfl)

