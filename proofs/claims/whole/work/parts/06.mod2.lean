theorem nn_L1_blk {b : Nat} (hb : b ≠ 19) : ∀ (n i : Nat) (S : Mem) (nx : Int32), (f_X6_nextNumber_L1 n i S nx).2 b = S b
  | 0, i, S, nx => by rw [f_X6_nextNumber_L1_z]
  | n + 1, i, S, nx => by
    rw [f_X6_nextNumber_L1_s]
    split
    · rfl
    · rw [nn_L1_blk hb n, ub_ne _ _ _ hb]
theorem nn_blk (S : Mem) {b : Nat} (hb : b ≠ 19) (h0 : b ≠ 0) : (f_X6_nextNumber S).2 b = S b := by
  rw [f_X6_nextNumber_d]
  split
  · rfl
  · rw [nn_L1_blk hb, ub_ne _ _ _ h0]
theorem win_ne {w : Int32} (h : w = nI (kN w)) (h2 : kN w ≤ 31) : ¬ w + nI 1 = 0 := by
  rw [h, nI_add]
  exact nI_ne0 (by omega) (by omega)
theorem lv_leaves_L1_blk {b s1 : Nat} (h7 : b ≠ 7) (h8 : b ≠ 8) : ∀ (n i : Nat) (S : Mem), f_X6_leaves_L1 s1 n i S b = S b
  | 0, i, S => by rw [f_X6_leaves_L1_z]
  | n + 1, i, S => by
    rw [f_X6_leaves_L1_s]
    split
    · rfl
    · rw [lv_leaves_L1_blk h7 h8 n, ub_ne _ _ _ h8, ub_ne _ _ _ h7]
theorem leaves_blk (S : Mem) {b s1 : Nat} (h7 : b ≠ 7) (h8 : b ≠ 8) (h9 : b ≠ 9) : f_X6_leaves S s1 b = S b := by
  rw [f_X6_leaves_d, lv_leaves_L1_blk h7 h8, ub_ne _ _ _ h9]

theorem mm_X6_listens_X6 : ∀ w ∈ wsX60, w ∈ wsX6_listens := by decide +kernel
theorem lk_X6_listens_100 : Cond.fieldLink RX6 100 "BackofficeAirModel" "now" "I" ∈ wsX6_listens := by decide +kernel
theorem lk_X6_listens_20 : Cond.fieldLink RX6 20 "BackofficeAirModel" "window" "[I" ∈ wsX6_listens := by decide +kernel
theorem lk_X6_listens_23 : Cond.fieldLink RX6 23 "BackofficeAirModel" "waits" "[I" ∈ wsX6_listens := by decide +kernel
theorem lk_X6_listens_29 : Cond.fieldLink RX6 29 "BackofficeAirModel" "silenced" "[I" ∈ wsX6_listens := by decide +kernel
def f_X6_listens (S : Mem) (s1 : Nat) : Mem := if S 4 s1 = (-1) then (if (ub ((f_X6_nextNumber S).2) 4 s1 (((f_X6_nextNumber S).1) - ((f_X6_nextNumber S).1) / ((((f_X6_nextNumber S).2) 3 s1) + (nI 1)) * ((((f_X6_nextNumber S).2) 3 s1) + (nI 1)))) 0 1 ≤ (ub ((f_X6_nextNumber S).2) 4 s1 (((f_X6_nextNumber S).1) - ((f_X6_nextNumber S).1) / ((((f_X6_nextNumber S).2) 3 s1) + (nI 1)) * ((((f_X6_nextNumber S).2) 3 s1) + (nI 1)))) 6 s1 then (ub ((f_X6_nextNumber S).2) 4 s1 (((f_X6_nextNumber S).1) - ((f_X6_nextNumber S).1) / ((((f_X6_nextNumber S).2) 3 s1) + (nI 1)) * ((((f_X6_nextNumber S).2) 3 s1) + (nI 1)))) else (if f_X6_isBusy (ub ((f_X6_nextNumber S).2) 4 s1 (((f_X6_nextNumber S).1) - ((f_X6_nextNumber S).1) / ((((f_X6_nextNumber S).2) 3 s1) + (nI 1)) * ((((f_X6_nextNumber S).2) 3 s1) + (nI 1)))) s1 = 0 then (if (ub ((f_X6_nextNumber S).2) 4 s1 (((f_X6_nextNumber S).1) - ((f_X6_nextNumber S).1) / ((((f_X6_nextNumber S).2) 3 s1) + (nI 1)) * ((((f_X6_nextNumber S).2) 3 s1) + (nI 1)))) 4 s1 = 0 then (f_X6_begins (ub ((f_X6_nextNumber S).2) 4 s1 (((f_X6_nextNumber S).1) - ((f_X6_nextNumber S).1) / ((((f_X6_nextNumber S).2) 3 s1) + (nI 1)) * ((((f_X6_nextNumber S).2) 3 s1) + (nI 1)))) s1) else (ub (ub ((f_X6_nextNumber S).2) 4 s1 (((f_X6_nextNumber S).1) - ((f_X6_nextNumber S).1) / ((((f_X6_nextNumber S).2) 3 s1) + (nI 1)) * ((((f_X6_nextNumber S).2) 3 s1) + (nI 1)))) 4 s1 (((ub ((f_X6_nextNumber S).2) 4 s1 (((f_X6_nextNumber S).1) - ((f_X6_nextNumber S).1) / ((((f_X6_nextNumber S).2) 3 s1) + (nI 1)) * ((((f_X6_nextNumber S).2) 3 s1) + (nI 1)))) 4 s1) - (nI 1)))) else (ub ((f_X6_nextNumber S).2) 4 s1 (((f_X6_nextNumber S).1) - ((f_X6_nextNumber S).1) / ((((f_X6_nextNumber S).2) 3 s1) + (nI 1)) * ((((f_X6_nextNumber S).2) 3 s1) + (nI 1)))))) else (if S 0 1 ≤ S 6 s1 then (S) else (if f_X6_isBusy S s1 = 0 then (if S 4 s1 = 0 then (f_X6_begins S s1) else (ub S 4 s1 ((S 4 s1) - (nI 1)))) else (S)))
theorem f_X6_listens_d (S : Mem) (s1 : Nat) : f_X6_listens S s1 = (if S 4 s1 = (-1) then (if (ub ((f_X6_nextNumber S).2) 4 s1 (((f_X6_nextNumber S).1) - ((f_X6_nextNumber S).1) / ((((f_X6_nextNumber S).2) 3 s1) + (nI 1)) * ((((f_X6_nextNumber S).2) 3 s1) + (nI 1)))) 0 1 ≤ (ub ((f_X6_nextNumber S).2) 4 s1 (((f_X6_nextNumber S).1) - ((f_X6_nextNumber S).1) / ((((f_X6_nextNumber S).2) 3 s1) + (nI 1)) * ((((f_X6_nextNumber S).2) 3 s1) + (nI 1)))) 6 s1 then (ub ((f_X6_nextNumber S).2) 4 s1 (((f_X6_nextNumber S).1) - ((f_X6_nextNumber S).1) / ((((f_X6_nextNumber S).2) 3 s1) + (nI 1)) * ((((f_X6_nextNumber S).2) 3 s1) + (nI 1)))) else (if f_X6_isBusy (ub ((f_X6_nextNumber S).2) 4 s1 (((f_X6_nextNumber S).1) - ((f_X6_nextNumber S).1) / ((((f_X6_nextNumber S).2) 3 s1) + (nI 1)) * ((((f_X6_nextNumber S).2) 3 s1) + (nI 1)))) s1 = 0 then (if (ub ((f_X6_nextNumber S).2) 4 s1 (((f_X6_nextNumber S).1) - ((f_X6_nextNumber S).1) / ((((f_X6_nextNumber S).2) 3 s1) + (nI 1)) * ((((f_X6_nextNumber S).2) 3 s1) + (nI 1)))) 4 s1 = 0 then (f_X6_begins (ub ((f_X6_nextNumber S).2) 4 s1 (((f_X6_nextNumber S).1) - ((f_X6_nextNumber S).1) / ((((f_X6_nextNumber S).2) 3 s1) + (nI 1)) * ((((f_X6_nextNumber S).2) 3 s1) + (nI 1)))) s1) else (ub (ub ((f_X6_nextNumber S).2) 4 s1 (((f_X6_nextNumber S).1) - ((f_X6_nextNumber S).1) / ((((f_X6_nextNumber S).2) 3 s1) + (nI 1)) * ((((f_X6_nextNumber S).2) 3 s1) + (nI 1)))) 4 s1 (((ub ((f_X6_nextNumber S).2) 4 s1 (((f_X6_nextNumber S).1) - ((f_X6_nextNumber S).1) / ((((f_X6_nextNumber S).2) 3 s1) + (nI 1)) * ((((f_X6_nextNumber S).2) 3 s1) + (nI 1)))) 4 s1) - (nI 1)))) else (ub ((f_X6_nextNumber S).2) 4 s1 (((f_X6_nextNumber S).1) - ((f_X6_nextNumber S).1) / ((((f_X6_nextNumber S).2) 3 s1) + (nI 1)) * ((((f_X6_nextNumber S).2) 3 s1) + (nI 1)))))) else (if S 0 1 ≤ S 6 s1 then (S) else (if f_X6_isBusy S s1 = 0 then (if S 4 s1 = 0 then (f_X6_begins S s1) else (ub S 4 s1 ((S 4 s1) - (nI 1)))) else (S)))) := rfl
set_option maxHeartbeats 1000000 in
set_option maxRecDepth 100000 in
theorem c_X6_listens (l : Launch) (D : va_G) (cI cS cZ cJ : ClassId) (G : Nat → Nat) (S : Mem) (sz : Nat) (s1 : Nat) (h1 : s1 < 6) (hn : S 0 3 = nI (kN (S 0 3))) (hn2 : kN (S 0 3) ≤ 200) (hw : S 3 s1 = nI (kN (S 3 s1))) (hw2 : kN (S 3 s1) ≤ 31) : Met l yX6_listens wsX6_listens ({ frames := 3, cells := 0, slots := 0, locals := 65 } : Room) (wPc 20 (mF cI cZ G) D (tY cI cS cZ cJ) G S sz [.ref (G 0), .int (nI s1)]) (mQv (f_X6_listens S s1) 20 (mF cI cZ G) D G sz) 0 0 (fA 20 G sz) := by
  refine x_met (cc := cX6_listens) (maxL := 2) (ret := none) (by decide) rfl (Nat.le_of_ble_eq_true rfl) ?_
  intro p e s m below meth c ls hx hb hr hml hts hown hlocks hsz hP hK hD hN hl hnm
  subst hsz
  have hown : s.vm.findClass RX6 = some m.cls := hown
  have hl : lv_has ls 2 [(0, .ref (G 0)), (1, .int (nI s1))] := hl
  have hq := f_X6_listens_d S s1
  have hA : ∀ q : Nat, s.heap.size ≤ q → (fA 20 G s.heap.size) q := fun q h => Or.inr h
  have hS : va_S (fA 20 G s.heap.size) s.heap s.heap [] := va_S.rf
  refine lv_aload_n hx hb dX6_listens_0 rfl (lv_at hl 0 rfl) ?_
  refine x_get hx hb hts mm_X6_listens_X6 hown hK hP (0) (by decide) (rfl) rfl 6 (by decide) (hts _ lk_X6_listens_23) rfl rfl dX6_listens_1 ?_
  refine lv_iload_n hx hb dX6_listens_4 rfl (lv_at hl 1 rfl) ?_
  refine x_iald hx hb hK hP 4 0 (by decide) (rfl) rfl s1 (by omega) (by decide) dX6_listens_5 ?_
  refine lv_iconst (v := (-1)) hx hb dX6_listens_6 (by decide) ?_
  refine lv_icmp_ne (tgt := 29) hx hb dX6_listens_7 (by decide) (fun c_1 => ?_) (fun c_1 => ?_)
  · have hq := hq.trans (if_neg c_1)
    refine lv_aload_n hx hb dX6_listens_29 rfl (lv_at hl 0 rfl) ?_
    refine x_get hx hb hts mm_X6_listens_X6 hown hK hP (0) (by decide) (rfl) rfl 1 (by decide) (hts _ lk_X6_listens_100) rfl rfl dX6_listens_30 ?_
    refine lv_aload_n hx hb dX6_listens_33 rfl (lv_at hl 0 rfl) ?_
    refine x_get hx hb hts mm_X6_listens_X6 hown hK hP (0) (by decide) (rfl) rfl 8 (by decide) (hts _ lk_X6_listens_29) rfl rfl dX6_listens_34 ?_
    refine lv_iload_n hx hb dX6_listens_37 rfl (lv_at hl 1 rfl) ?_
    refine x_iald hx hb hK hP 6 0 (by decide) (rfl) rfl s1 (by omega) (by decide) dX6_listens_38 ?_
    refine lv_icmp_le (tgt := 77) hx hb dX6_listens_39 (by decide) (fun c_2 => ?_) (fun c_2 => ?_)
    · have hq := hq.trans (if_pos c_2)
      exact x_ret_v hx hb hr hlocks hP hS dX6_listens_77 hq
    · have hq := hq.trans (if_neg c_2)
      refine lv_aload_n hx hb dX6_listens_42 rfl (lv_at hl 0 rfl) ?_
      refine lv_iload_n hx hb dX6_listens_43 rfl (lv_at hl 1 rfl) ?_
      refine x_pi (va_runV (As := [.int (nI s1)]) (rest := []) ⟨hx, hb, hml, hown, hts⟩ (c_X6_isBusy l D cI cS cZ cJ G S s.heap.size s1 (by omega)) (cwV 1 hts gX6_listens_X6_isBusy rfl rfl rfl (by decide +kernel) ⟨Nat.le_of_ble_eq_true rfl, Nat.le_of_ble_eq_true rfl⟩) ⟨wPc_blind, va_recv hK hP (ci := 6) (q0 := 0) rfl (WL_at (by decide) (rfl)), wPc_at hP hK hD hN⟩ rfl rfl hl.1 rfl (lv_room (Nat.le_of_ble_eq_true rfl)) dX6_listens_44 ⟨Nat.le_refl _, Nat.le_refl _⟩) hS hA (fun q h => h) (fun H locs hz hk hS => ?_)
      have hP := P_kept hP hk
      refine lv_if_ne (tgt := 77) hx hb dX6_listens_47 (by decide) (fun c_3 => ?_) (fun c_3 => ?_)
      · have hq := hq.trans (if_neg c_3)
        exact x_ret_v hx hb hr hlocks hP hS dX6_listens_77 hq
      · have hq := hq.trans (if_pos c_3)
        refine lv_aload_n hx hb dX6_listens_50 rfl (lv_at hl 0 rfl) ?_
        refine x_get hx hb hts mm_X6_listens_X6 hown hK hP (0) (by decide) (rfl) rfl 6 (by decide) (hts _ lk_X6_listens_23) rfl rfl dX6_listens_51 ?_
        refine lv_iload_n hx hb dX6_listens_54 rfl (lv_at hl 1 rfl) ?_
        refine x_iald hx hb hK hP 4 0 (by decide) (rfl) rfl s1 (by omega) (by decide) dX6_listens_55 ?_
        refine lv_if_ne (tgt := 67) hx hb dX6_listens_56 (by decide) (fun c_4 => ?_) (fun c_4 => ?_)
        · have hq := hq.trans (if_neg c_4)
          refine lv_aload_n hx hb dX6_listens_67 rfl (lv_at hl 0 rfl) ?_
          refine x_get hx hb hts mm_X6_listens_X6 hown hK hP (0) (by decide) (rfl) rfl 6 (by decide) (hts _ lk_X6_listens_23) rfl rfl dX6_listens_68 ?_
          refine lv_iload_n hx hb dX6_listens_71 rfl (lv_at hl 1 rfl) ?_
          refine lv_dup2_11 hx hb dX6_listens_72 rfl rfl ?_
          refine x_iald hx hb hK hP 4 0 (by decide) (rfl) rfl s1 (by omega) (by decide) dX6_listens_73 ?_
          refine lv_iconst (v := nI 1) hx hb dX6_listens_74 (by decide) ?_
          refine lv_isub hx hb dX6_listens_75 ?_
          refine x_iast hx hb hK hP hD hS 4 0 (by decide) ((fun _ => rfl)) rfl s1 (by omega) (by decide) dX6_listens_76 (fun H locs hP hS => ?_)
          exact x_ret_v hx hb hr hlocks hP hS dX6_listens_77 hq
        · have hq := hq.trans (if_pos c_4)
          refine lv_aload_n hx hb dX6_listens_59 rfl (lv_at hl 0 rfl) ?_
          refine lv_iload_n hx hb dX6_listens_60 rfl (lv_at hl 1 rfl) ?_
          refine x_mv (va_runV (As := [.int (nI s1)]) (rest := []) ⟨hx, hb, hml, hown, hts⟩ (c_X6_begins l D cI cS cZ cJ G S H.size s1 (by omega)) (cwV 1 hts gX6_listens_X6_begins rfl rfl rfl (by decide +kernel) ⟨Nat.le_of_ble_eq_true rfl, Nat.le_of_ble_eq_true rfl⟩) ⟨wPc_blind, va_recv hK hP (ci := 6) (q0 := 0) rfl (WL_at (by decide) (rfl)), wPc_at hP hK hD hN⟩ rfl rfl hl.1 rfl (lv_room (Nat.le_of_ble_eq_true rfl)) dX6_listens_61 ⟨Nat.le_refl _, Nat.le_refl _⟩) hS (fA_sub (hD S) (fun q h => hA q (Nat.le_trans hS.1 h))) (fun H locs hz hk hP hS => ?_)
          refine lv_goto (tgt := 77) hx hb dX6_listens_64 (by decide) ?_
          exact x_ret_v hx hb hr hlocks hP hS dX6_listens_77 hq
  · have hq := hq.trans (if_pos c_1)
    refine lv_aload_n hx hb dX6_listens_10 rfl (lv_at hl 0 rfl) ?_
    refine x_get hx hb hts mm_X6_listens_X6 hown hK hP (0) (by decide) (rfl) rfl 6 (by decide) (hts _ lk_X6_listens_23) rfl rfl dX6_listens_11 ?_
    refine lv_iload_n hx hb dX6_listens_14 rfl (lv_at hl 1 rfl) ?_
    refine lv_aload_n hx hb dX6_listens_15 rfl (lv_at hl 0 rfl) ?_
    refine x_mi (va_runV (As := []) (rest := [.int (nI s1), .ref (G 4)]) ⟨hx, hb, hml, hown, hts⟩ (c_X6_nextNumber l D cI cS cZ cJ G S s.heap.size hn hn2) (cwV 0 hts gX6_listens_X6_nextNumber rfl rfl rfl (by decide +kernel) ⟨Nat.le_of_ble_eq_true rfl, Nat.le_of_ble_eq_true rfl⟩) ⟨wPc_blind, va_recv hK hP (ci := 6) (q0 := 0) rfl (WL_at (by decide) (rfl)), wPc_at hP hK hD hN⟩ rfl rfl hl.1 rfl (lv_room (Nat.le_of_ble_eq_true rfl)) dX6_listens_16 ⟨Nat.le_refl _, Nat.le_refl _⟩) hS (fA_sub (hD S) (fun q h => hA q (Nat.le_trans hS.1 h))) (fun H locs hz hk hP hS => ?_)
    refine lv_aload_n hx hb dX6_listens_19 rfl (lv_at hl 0 rfl) ?_
    refine x_get hx hb hts mm_X6_listens_X6 hown hK hP (0) (by decide) (rfl) rfl 5 (by decide) (hts _ lk_X6_listens_20) rfl rfl dX6_listens_20 ?_
    refine lv_iload_n hx hb dX6_listens_23 rfl (lv_at hl 1 rfl) ?_
    refine x_iald hx hb hK hP 3 0 (by decide) (rfl) rfl s1 (by omega) (by decide) dX6_listens_24 ?_
    refine lv_iconst (v := nI 1) hx hb dX6_listens_25 (by decide) ?_
    refine lv_iadd hx hb dX6_listens_26 ?_
    refine lv_irem hx hb dX6_listens_27 (by rw [nn_blk _ (by decide) (by decide)]; exact win_ne hw hw2) ?_
    refine x_iast hx hb hK hP hD hS 4 0 (by decide) ((fun _ => rfl)) rfl s1 (by omega) (by decide) dX6_listens_28 (fun H locs hP hS => ?_)
    refine lv_aload_n hx hb dX6_listens_29 rfl (lv_at hl 0 rfl) ?_
    refine x_get hx hb hts mm_X6_listens_X6 hown hK hP (0) (by decide) (rfl) rfl 1 (by decide) (hts _ lk_X6_listens_100) rfl rfl dX6_listens_30 ?_
    refine lv_aload_n hx hb dX6_listens_33 rfl (lv_at hl 0 rfl) ?_
    refine x_get hx hb hts mm_X6_listens_X6 hown hK hP (0) (by decide) (rfl) rfl 8 (by decide) (hts _ lk_X6_listens_29) rfl rfl dX6_listens_34 ?_
    refine lv_iload_n hx hb dX6_listens_37 rfl (lv_at hl 1 rfl) ?_
    refine x_iald hx hb hK hP 6 0 (by decide) (rfl) rfl s1 (by omega) (by decide) dX6_listens_38 ?_
    refine lv_icmp_le (tgt := 77) hx hb dX6_listens_39 (by decide) (fun c_5 => ?_) (fun c_5 => ?_)
    · have hq := hq.trans (if_pos c_5)
      exact x_ret_v hx hb hr hlocks hP hS dX6_listens_77 hq
    · have hq := hq.trans (if_neg c_5)
      refine lv_aload_n hx hb dX6_listens_42 rfl (lv_at hl 0 rfl) ?_
      refine lv_iload_n hx hb dX6_listens_43 rfl (lv_at hl 1 rfl) ?_
      refine x_pi (va_runV (As := [.int (nI s1)]) (rest := []) ⟨hx, hb, hml, hown, hts⟩ (c_X6_isBusy l D cI cS cZ cJ G (ub ((f_X6_nextNumber S).2) 4 s1 (((f_X6_nextNumber S).1) - ((f_X6_nextNumber S).1) / ((((f_X6_nextNumber S).2) 3 s1) + (nI 1)) * ((((f_X6_nextNumber S).2) 3 s1) + (nI 1)))) H.size s1 (by omega)) (cwV 1 hts gX6_listens_X6_isBusy rfl rfl rfl (by decide +kernel) ⟨Nat.le_of_ble_eq_true rfl, Nat.le_of_ble_eq_true rfl⟩) ⟨wPc_blind, va_recv hK hP (ci := 6) (q0 := 0) rfl (WL_at (by decide) (rfl)), wPc_at hP hK hD hN⟩ rfl rfl hl.1 rfl (lv_room (Nat.le_of_ble_eq_true rfl)) dX6_listens_44 ⟨Nat.le_refl _, Nat.le_refl _⟩) hS hA (fun q h => h) (fun H locs hz hk hS => ?_)
      have hP := P_kept hP hk
      refine lv_if_ne (tgt := 77) hx hb dX6_listens_47 (by decide) (fun c_6 => ?_) (fun c_6 => ?_)
      · have hq := hq.trans (if_neg c_6)
        exact x_ret_v hx hb hr hlocks hP hS dX6_listens_77 hq
      · have hq := hq.trans (if_pos c_6)
        refine lv_aload_n hx hb dX6_listens_50 rfl (lv_at hl 0 rfl) ?_
        refine x_get hx hb hts mm_X6_listens_X6 hown hK hP (0) (by decide) (rfl) rfl 6 (by decide) (hts _ lk_X6_listens_23) rfl rfl dX6_listens_51 ?_
        refine lv_iload_n hx hb dX6_listens_54 rfl (lv_at hl 1 rfl) ?_
        refine x_iald hx hb hK hP 4 0 (by decide) (rfl) rfl s1 (by omega) (by decide) dX6_listens_55 ?_
        refine lv_if_ne (tgt := 67) hx hb dX6_listens_56 (by decide) (fun c_7 => ?_) (fun c_7 => ?_)
        · have hq := hq.trans (if_neg c_7)
          refine lv_aload_n hx hb dX6_listens_67 rfl (lv_at hl 0 rfl) ?_
          refine x_get hx hb hts mm_X6_listens_X6 hown hK hP (0) (by decide) (rfl) rfl 6 (by decide) (hts _ lk_X6_listens_23) rfl rfl dX6_listens_68 ?_
          refine lv_iload_n hx hb dX6_listens_71 rfl (lv_at hl 1 rfl) ?_
          refine lv_dup2_11 hx hb dX6_listens_72 rfl rfl ?_
          refine x_iald hx hb hK hP 4 0 (by decide) (rfl) rfl s1 (by omega) (by decide) dX6_listens_73 ?_
          refine lv_iconst (v := nI 1) hx hb dX6_listens_74 (by decide) ?_
          refine lv_isub hx hb dX6_listens_75 ?_
          refine x_iast hx hb hK hP hD hS 4 0 (by decide) ((fun _ => rfl)) rfl s1 (by omega) (by decide) dX6_listens_76 (fun H locs hP hS => ?_)
          exact x_ret_v hx hb hr hlocks hP hS dX6_listens_77 hq
        · have hq := hq.trans (if_pos c_7)
          refine lv_aload_n hx hb dX6_listens_59 rfl (lv_at hl 0 rfl) ?_
          refine lv_iload_n hx hb dX6_listens_60 rfl (lv_at hl 1 rfl) ?_
          refine x_mv (va_runV (As := [.int (nI s1)]) (rest := []) ⟨hx, hb, hml, hown, hts⟩ (c_X6_begins l D cI cS cZ cJ G (ub ((f_X6_nextNumber S).2) 4 s1 (((f_X6_nextNumber S).1) - ((f_X6_nextNumber S).1) / ((((f_X6_nextNumber S).2) 3 s1) + (nI 1)) * ((((f_X6_nextNumber S).2) 3 s1) + (nI 1)))) H.size s1 (by omega)) (cwV 1 hts gX6_listens_X6_begins rfl rfl rfl (by decide +kernel) ⟨Nat.le_of_ble_eq_true rfl, Nat.le_of_ble_eq_true rfl⟩) ⟨wPc_blind, va_recv hK hP (ci := 6) (q0 := 0) rfl (WL_at (by decide) (rfl)), wPc_at hP hK hD hN⟩ rfl rfl hl.1 rfl (lv_room (Nat.le_of_ble_eq_true rfl)) dX6_listens_61 ⟨Nat.le_refl _, Nat.le_refl _⟩) hS (fA_sub (hD S) (fun q h => hA q (Nat.le_trans hS.1 h))) (fun H locs hz hk hP hS => ?_)
          refine lv_goto (tgt := 77) hx hb dX6_listens_64 (by decide) ?_
          exact x_ret_v hx hb hr hlocks hP hS dX6_listens_77 hq

theorem mm_X6_piece_X6 : ∀ w ∈ wsX60, w ∈ wsX6_piece := by decide +kernel
theorem lk_X6_piece_100 : Cond.fieldLink RX6 100 "BackofficeAirModel" "now" "I" ∈ wsX6_piece := by decide +kernel
theorem lk_X6_piece_35 : Cond.fieldLink RX6 35 "BackofficeAirModel" "left" "[I" ∈ wsX6_piece := by decide +kernel
theorem lk_X6_piece_48 : Cond.fieldLink RX6 48 "BackofficeAirModel" "isRequest" "[Z" ∈ wsX6_piece := by decide +kernel
theorem lk_X6_piece_51 : Cond.fieldLink RX6 51 "BackofficeAirModel" "first" "[I" ∈ wsX6_piece := by decide +kernel
def f_X6_piece_L1 (S : Mem) (s1 : Nat) : Nat → Nat → Int32 → Int32 → Int32
  | 0, i, b, r => b
  | n + 1, i, b, r => if ((S 8 (5 * s1)) >>> ((nI i) &&& 31)) &&& (nI 1) = nI 1 then (if r = 0 then (f_X6_piece_L1 S s1 n (i + 1) ((nI 1) <<< ((nI i) &&& 31)) (r - (nI 1))) else (f_X6_piece_L1 S s1 n (i + 1) b (r - (nI 1)))) else (f_X6_piece_L1 S s1 n (i + 1) b (r - (nI 0)))
theorem f_X6_piece_L1_z (S : Mem) (s1 : Nat) (i : Nat) (b : Int32) (r : Int32) : f_X6_piece_L1 S s1 0 i b r = (b) := rfl
theorem f_X6_piece_L1_s (S : Mem) (s1 : Nat) (n : Nat) (i : Nat) (b : Int32) (r : Int32) : f_X6_piece_L1 S s1 (n + 1) i b r = (if ((S 8 (5 * s1)) >>> ((nI i) &&& 31)) &&& (nI 1) = nI 1 then (if r = 0 then (f_X6_piece_L1 S s1 n (i + 1) ((nI 1) <<< ((nI i) &&& 31)) (r - (nI 1))) else (f_X6_piece_L1 S s1 n (i + 1) b (r - (nI 1)))) else (f_X6_piece_L1 S s1 n (i + 1) b (r - (nI 0)))) := rfl
def f_X6_piece (S : Mem) (s1 : Nat) : Int32 := if S 12 s1 = 0 then (if 0 ≤ ((S 0 1) - (S 13 s1)) - (nI 0) then (f_X6_piece_L1 S s1 4 0 (nI 1) ((((S 0 1) - (S 13 s1)) - (nI 0)) / (nI 2))) else (nI 16)) else (if 0 ≤ ((S 0 1) - (S 13 s1)) - (nI 1) then (f_X6_piece_L1 S s1 4 0 (nI 1) ((((S 0 1) - (S 13 s1)) - (nI 1)) / (nI 2))) else (nI 16))
theorem f_X6_piece_d (S : Mem) (s1 : Nat) : f_X6_piece S s1 = (if S 12 s1 = 0 then (if 0 ≤ ((S 0 1) - (S 13 s1)) - (nI 0) then (f_X6_piece_L1 S s1 4 0 (nI 1) ((((S 0 1) - (S 13 s1)) - (nI 0)) / (nI 2))) else (nI 16)) else (if 0 ≤ ((S 0 1) - (S 13 s1)) - (nI 1) then (f_X6_piece_L1 S s1 4 0 (nI 1) ((((S 0 1) - (S 13 s1)) - (nI 1)) / (nI 2))) else (nI 16))) := rfl
set_option maxHeartbeats 1000000 in
set_option maxRecDepth 100000 in
theorem c_X6_piece (l : Launch) (D : va_G) (cI cS cZ cJ : ClassId) (G : Nat → Nat) (S : Mem) (sz : Nat) (s1 : Nat) (h1 : s1 < 6) : Met l yX6_piece wsX6_piece ({ frames := 1, cells := 0, slots := 0, locals := 20 } : Room) (wPc 20 (mF cI cZ G) D (tY cI cS cZ cJ) G S sz [.ref (G 0), .int (nI s1)]) (pQi (f_X6_piece S s1) sz) 0 0 (fun q => sz ≤ q) := by
  refine x_met (cc := cX6_piece) (maxL := 7) (ret := (some .int)) (by decide) rfl (Nat.le_of_ble_eq_true rfl) ?_
  intro p e s m below meth c ls hx hb hr hml hts hown hlocks hsz hP hK hD hN hl hnm
  subst hsz
  have hown : s.vm.findClass RX6 = some m.cls := hown
  have hl : lv_has ls 7 [(0, .ref (G 0)), (1, .int (nI s1))] := hl
  have hq := f_X6_piece_d S s1
  have hA : ∀ q : Nat, s.heap.size ≤ q → (fun q => s.heap.size ≤ q) q := fun q h => h
  have hS : va_S (fun q => s.heap.size ≤ q) s.heap s.heap [] := va_S.rf
  refine lv_aload_n hx hb dX6_piece_0 rfl (lv_at hl 0 rfl) ?_
  refine x_get hx hb hts mm_X6_piece_X6 hown hK hP (0) (by decide) (rfl) rfl 1 (by decide) (hts _ lk_X6_piece_100) rfl rfl dX6_piece_1 ?_
  refine lv_aload_n hx hb dX6_piece_4 rfl (lv_at hl 0 rfl) ?_
  refine x_get hx hb hts mm_X6_piece_X6 hown hK hP (0) (by decide) (rfl) rfl 15 (by decide) (hts _ lk_X6_piece_51) rfl rfl dX6_piece_5 ?_
  refine lv_iload_n hx hb dX6_piece_8 rfl (lv_at hl 1 rfl) ?_
  refine x_iald hx hb hK hP 13 0 (by decide) (rfl) rfl s1 (by omega) (by decide) dX6_piece_9 ?_
  refine lv_isub hx hb dX6_piece_10 ?_
  refine lv_aload_n hx hb dX6_piece_11 rfl (lv_at hl 0 rfl) ?_
  refine x_get hx hb hts mm_X6_piece_X6 hown hK hP (0) (by decide) (rfl) rfl 14 (by decide) (hts _ lk_X6_piece_48) rfl rfl dX6_piece_12 ?_
  refine lv_iload_n hx hb dX6_piece_15 rfl (lv_at hl 1 rfl) ?_
  refine x_zald hx hb hK hP 12 2 (by decide) (rfl) rfl s1 (by omega) (by decide) dX6_piece_16 ?_
  refine lv_if_eq (tgt := 24) hx hb dX6_piece_17 (by decide) (fun c_1 => ?_) (fun c_1 => ?_)
  · have hq := hq.trans (if_pos c_1)
    refine lv_iconst (v := nI 0) hx hb dX6_piece_24 (by decide) ?_
    refine lv_isub hx hb dX6_piece_25 ?_
    refine lv_istore_n (lv' := [(2, .int (((S 0 1) - (S 13 s1)) - (nI 0))), (0, .ref (G 0)), (1, .int (nI s1))]) hx hb dX6_piece_26 rfl hl (by decide) rfl (fun ls hl => ?_)
    refine lv_iload_n hx hb dX6_piece_27 rfl (lv_at hl 0 rfl) ?_
    refine lv_if_ge (tgt := 34) hx hb dX6_piece_28 (by decide) (fun c_2 => ?_) (fun c_2 => ?_)
    · have hq := hq.trans (if_pos c_2)
      refine lv_iload_n hx hb dX6_piece_34 rfl (lv_at hl 0 rfl) ?_
      refine lv_iconst (v := nI 2) hx hb dX6_piece_35 (by decide) ?_
      refine lv_idiv hx hb dX6_piece_36 (by decide) ?_
      refine lv_istore_n (lv' := [(3, .int ((((S 0 1) - (S 13 s1)) - (nI 0)) / (nI 2))), (2, .int (((S 0 1) - (S 13 s1)) - (nI 0))), (0, .ref (G 0)), (1, .int (nI s1))]) hx hb dX6_piece_37 rfl hl (by decide) rfl (fun ls hl => ?_)
      refine lv_iconst (v := nI 1) hx hb dX6_piece_38 (by decide) ?_
      refine lv_istore (lv' := [(4, .int (nI 1)), (3, .int ((((S 0 1) - (S 13 s1)) - (nI 0)) / (nI 2))), (2, .int (((S 0 1) - (S 13 s1)) - (nI 0))), (0, .ref (G 0)), (1, .int (nI s1))]) hx hb dX6_piece_39 hl (by decide) rfl (fun ls hl => ?_)
      refine lv_iconst (v := nI 0) hx hb dX6_piece_41 (by decide) ?_
      refine lv_istore (lv' := [(5, .int (nI 0)), (4, .int (nI 1)), (3, .int ((((S 0 1) - (S 13 s1)) - (nI 0)) / (nI 2))), (2, .int (((S 0 1) - (S 13 s1)) - (nI 0))), (0, .ref (G 0)), (1, .int (nI s1))]) hx hb dX6_piece_42 hl (by decide) rfl (fun ls hl => ?_)
      have L1 : ∀ (n : Nat) (i : Nat) (b : Int32) (r : Int32) (H : Heap) (locs : List Loc) (ls : Array Slot), i + n = 4 → f_X6_piece S s1 = f_X6_piece_L1 S s1 n i b r → va_P D vwCl (WL 20 G (mF cI cZ G) S) H → va_S (fun q => s.heap.size ≤ q) s.heap H locs → lv_has ls 7 [(5, .int (nI i)), (4, .int b), (3, .int r), (2, .int (((S 0 1) - (S 13 s1)) - (nI 0))), (0, .ref (G 0)), (1, .int (nI s1))] → W p l e ({ frames := 1, cells := 0, slots := 0, locals := 20 } : Room) s m ([.ref (G 0), .int (nI s1)] : List Value).toArray below meth c H locs 0 0 (MQ below (pQi (f_X6_piece S s1) s.heap.size) ([.ref (G 0), .int (nI s1)] : List Value).toArray s 0 0 (fun q => s.heap.size ≤ q)) (F0 m 44 ls []) := by
        intro n
        induction n with
        | zero =>
          intro i b r H locs ls hin hq hP hS hl
          have hq := hq.trans (f_X6_piece_L1_z _ _ _ _ _)
          refine lv_iload hx hb dX6_piece_44 (lv_at hl 0 rfl) ?_
          refine lv_iconst (v := nI 4) hx hb dX6_piece_46 (by decide) ?_
          refine lv_icmp_ge (tgt := 113) hx hb dX6_piece_47 (by decide) (fun _ => ?_) (fun c_3 => absurd (nI_le (by omega) (by omega)) c_3) 
          refine lv_iload hx hb dX6_piece_113 (lv_at hl 1 rfl) ?_
          exact x_ret_p hx hb hr rfl hlocks hS dX6_piece_115 hq
        | succ n ih =>
          intro i b r H locs ls hin hq hP hS hl
          have hq := hq.trans (f_X6_piece_L1_s _ _ _ _ _ _)
          refine lv_iload hx hb dX6_piece_44 (lv_at hl 0 rfl) ?_
          refine lv_iconst (v := nI 4) hx hb dX6_piece_46 (by decide) ?_
          refine lv_icmp_ge (tgt := 113) hx hb dX6_piece_47 (by decide) (fun c_4 => absurd c_4 (nI_ge (by omega) (by omega))) (fun _ => ?_)
          refine lv_aload_n hx hb dX6_piece_50 rfl (lv_at hl 4 rfl) ?_
          refine x_get hx hb hts mm_X6_piece_X6 hown hK hP (0) (by decide) (rfl) rfl 10 (by decide) (hts _ lk_X6_piece_35) rfl rfl dX6_piece_51 ?_
          refine lv_iconst (v := nI 5) hx hb dX6_piece_54 (by decide) ?_
          refine lv_iload_n hx hb dX6_piece_55 rfl (lv_at hl 5 rfl) ?_
          refine x_imulN hx hb dX6_piece_56 ?_
          refine x_iald hx hb hK hP 8 0 (by decide) (rfl) rfl (5 * s1) (by omega) (by decide) dX6_piece_57 ?_
          refine lv_iload hx hb dX6_piece_58 (lv_at hl 0 rfl) ?_
          refine lv_ishr hx hb dX6_piece_60 ?_
          refine lv_iconst (v := nI 1) hx hb dX6_piece_61 (by decide) ?_
          refine lv_iand hx hb dX6_piece_62 ?_
          refine lv_iconst (v := nI 1) hx hb dX6_piece_63 (by decide) ?_
          refine lv_icmp_ne (tgt := 71) hx hb dX6_piece_64 (by decide) (fun c_5 => ?_) (fun c_5 => ?_)
          · have hq := hq.trans (if_neg c_5)
            refine lv_iconst (v := nI 0) hx hb dX6_piece_71 (by decide) ?_
            refine lv_istore (lv' := [(6, .int (nI 0)), (5, .int (nI i)), (4, .int b), (3, .int r), (2, .int (((S 0 1) - (S 13 s1)) - (nI 0))), (0, .ref (G 0)), (1, .int (nI s1))]) hx hb dX6_piece_72 hl (by decide) rfl (fun ls hl => ?_)
            refine lv_iload hx hb dX6_piece_74 (lv_at hl 0 rfl) ?_
            refine lv_if_eq (tgt := 90) hx hb dX6_piece_76 (by decide) (fun _ => ?_) (fun c_6 => absurd (by decide) c_6) 
            refine lv_iload hx hb dX6_piece_90 (lv_at hl 2 rfl) ?_
            refine lv_istore (lv' := [(4, .int b), (6, .int (nI 0)), (5, .int (nI i)), (3, .int r), (2, .int (((S 0 1) - (S 13 s1)) - (nI 0))), (0, .ref (G 0)), (1, .int (nI s1))]) hx hb dX6_piece_92 hl (by decide) rfl (fun ls hl => ?_)
            refine lv_iload_n hx hb dX6_piece_94 rfl (lv_at hl 3 rfl) ?_
            refine lv_iload hx hb dX6_piece_95 (lv_at hl 1 rfl) ?_
            refine lv_if_eq (tgt := 104) hx hb dX6_piece_97 (by decide) (fun _ => ?_) (fun c_7 => absurd (by decide) c_7) 
            refine lv_iconst (v := nI 0) hx hb dX6_piece_104 (by decide) ?_
            refine lv_isub hx hb dX6_piece_105 ?_
            refine lv_istore_n (lv' := [(3, .int (r - (nI 0))), (4, .int b), (6, .int (nI 0)), (5, .int (nI i)), (2, .int (((S 0 1) - (S 13 s1)) - (nI 0))), (0, .ref (G 0)), (1, .int (nI s1))]) hx hb dX6_piece_106 rfl hl (by decide) rfl (fun ls hl => ?_)
            refine lv_iinc (v := nI (i + 1)) (lv' := [(5, .int (nI (i + 1))), (3, .int (r - (nI 0))), (4, .int b), (6, .int (nI 0)), (2, .int (((S 0 1) - (S 13 s1)) - (nI 0))), (0, .ref (G 0)), (1, .int (nI s1))]) hx hb dX6_piece_107 hl (k := 3) rfl (nI_add _ _) (by decide) rfl (fun ls hl => ?_)
            refine lv_goto (tgt := 44) hx hb dX6_piece_110 (by decide) ?_
            exact ih (i + 1) b (r - (nI 0)) H locs ls (by omega) hq hP hS (lv_sub hl [0, 2, 1, 4, 5, 6] rfl)
          · have hq := hq.trans (if_pos c_5)
            refine lv_iconst (v := nI 1) hx hb dX6_piece_67 (by decide) ?_
            refine lv_goto (tgt := 72) hx hb dX6_piece_68 (by decide) ?_
            refine lv_istore (lv' := [(6, .int (nI 1)), (5, .int (nI i)), (4, .int b), (3, .int r), (2, .int (((S 0 1) - (S 13 s1)) - (nI 0))), (0, .ref (G 0)), (1, .int (nI s1))]) hx hb dX6_piece_72 hl (by decide) rfl (fun ls hl => ?_)
            refine lv_iload hx hb dX6_piece_74 (lv_at hl 0 rfl) ?_
            refine lv_if_eq (tgt := 90) hx hb dX6_piece_76 (by decide) (fun c_8 => absurd c_8 (by decide)) (fun _ => ?_)
            refine lv_iload_n hx hb dX6_piece_79 rfl (lv_at hl 3 rfl) ?_
            refine lv_if_ne (tgt := 90) hx hb dX6_piece_80 (by decide) (fun c_9 => ?_) (fun c_9 => ?_)
            · have hq := hq.trans (if_neg c_9)
              refine lv_iload hx hb dX6_piece_90 (lv_at hl 2 rfl) ?_
              refine lv_istore (lv' := [(4, .int b), (6, .int (nI 1)), (5, .int (nI i)), (3, .int r), (2, .int (((S 0 1) - (S 13 s1)) - (nI 0))), (0, .ref (G 0)), (1, .int (nI s1))]) hx hb dX6_piece_92 hl (by decide) rfl (fun ls hl => ?_)
              refine lv_iload_n hx hb dX6_piece_94 rfl (lv_at hl 3 rfl) ?_
              refine lv_iload hx hb dX6_piece_95 (lv_at hl 1 rfl) ?_
              refine lv_if_eq (tgt := 104) hx hb dX6_piece_97 (by decide) (fun c_10 => absurd c_10 (by decide)) (fun _ => ?_)
              refine lv_iconst (v := nI 1) hx hb dX6_piece_100 (by decide) ?_
              refine lv_goto (tgt := 105) hx hb dX6_piece_101 (by decide) ?_
              refine lv_isub hx hb dX6_piece_105 ?_
              refine lv_istore_n (lv' := [(3, .int (r - (nI 1))), (4, .int b), (6, .int (nI 1)), (5, .int (nI i)), (2, .int (((S 0 1) - (S 13 s1)) - (nI 0))), (0, .ref (G 0)), (1, .int (nI s1))]) hx hb dX6_piece_106 rfl hl (by decide) rfl (fun ls hl => ?_)
              refine lv_iinc (v := nI (i + 1)) (lv' := [(5, .int (nI (i + 1))), (3, .int (r - (nI 1))), (4, .int b), (6, .int (nI 1)), (2, .int (((S 0 1) - (S 13 s1)) - (nI 0))), (0, .ref (G 0)), (1, .int (nI s1))]) hx hb dX6_piece_107 hl (k := 3) rfl (nI_add _ _) (by decide) rfl (fun ls hl => ?_)
              refine lv_goto (tgt := 44) hx hb dX6_piece_110 (by decide) ?_
              exact ih (i + 1) b (r - (nI 1)) H locs ls (by omega) hq hP hS (lv_sub hl [0, 2, 1, 4, 5, 6] rfl)
            · have hq := hq.trans (if_pos c_9)
              refine lv_iconst (v := nI 1) hx hb dX6_piece_83 (by decide) ?_
              refine lv_iload hx hb dX6_piece_84 (lv_at hl 1 rfl) ?_
              refine lv_ishl hx hb dX6_piece_86 ?_
              refine lv_goto (tgt := 92) hx hb dX6_piece_87 (by decide) ?_
              refine lv_istore (lv' := [(4, .int ((nI 1) <<< ((nI i) &&& 31))), (6, .int (nI 1)), (5, .int (nI i)), (3, .int r), (2, .int (((S 0 1) - (S 13 s1)) - (nI 0))), (0, .ref (G 0)), (1, .int (nI s1))]) hx hb dX6_piece_92 hl (by decide) rfl (fun ls hl => ?_)
              refine lv_iload_n hx hb dX6_piece_94 rfl (lv_at hl 3 rfl) ?_
              refine lv_iload hx hb dX6_piece_95 (lv_at hl 1 rfl) ?_
              refine lv_if_eq (tgt := 104) hx hb dX6_piece_97 (by decide) (fun c_11 => absurd c_11 (by decide)) (fun _ => ?_)
              refine lv_iconst (v := nI 1) hx hb dX6_piece_100 (by decide) ?_
              refine lv_goto (tgt := 105) hx hb dX6_piece_101 (by decide) ?_
              refine lv_isub hx hb dX6_piece_105 ?_
              refine lv_istore_n (lv' := [(3, .int (r - (nI 1))), (4, .int ((nI 1) <<< ((nI i) &&& 31))), (6, .int (nI 1)), (5, .int (nI i)), (2, .int (((S 0 1) - (S 13 s1)) - (nI 0))), (0, .ref (G 0)), (1, .int (nI s1))]) hx hb dX6_piece_106 rfl hl (by decide) rfl (fun ls hl => ?_)
              refine lv_iinc (v := nI (i + 1)) (lv' := [(5, .int (nI (i + 1))), (3, .int (r - (nI 1))), (4, .int ((nI 1) <<< ((nI i) &&& 31))), (6, .int (nI 1)), (2, .int (((S 0 1) - (S 13 s1)) - (nI 0))), (0, .ref (G 0)), (1, .int (nI s1))]) hx hb dX6_piece_107 hl (k := 3) rfl (nI_add _ _) (by decide) rfl (fun ls hl => ?_)
              refine lv_goto (tgt := 44) hx hb dX6_piece_110 (by decide) ?_
              exact ih (i + 1) ((nI 1) <<< ((nI i) &&& 31)) (r - (nI 1)) H locs ls (by omega) hq hP hS (lv_sub hl [0, 2, 1, 4, 5, 6] rfl)
      exact L1 4 0 (nI 1) ((((S 0 1) - (S 13 s1)) - (nI 0)) / (nI 2)) _ _ _ (by omega) hq hP hS (lv_sub hl [0, 1, 2, 3, 4, 5] rfl)
    · have hq := hq.trans (if_neg c_2)
      refine lv_bipush (v := nI 16) hx hb dX6_piece_31 (by decide) ?_
      exact x_ret_p hx hb hr rfl hlocks hS dX6_piece_33 hq
  · have hq := hq.trans (if_neg c_1)
    refine lv_iconst (v := nI 1) hx hb dX6_piece_20 (by decide) ?_
    refine lv_goto (tgt := 25) hx hb dX6_piece_21 (by decide) ?_
    refine lv_isub hx hb dX6_piece_25 ?_
    refine lv_istore_n (lv' := [(2, .int (((S 0 1) - (S 13 s1)) - (nI 1))), (0, .ref (G 0)), (1, .int (nI s1))]) hx hb dX6_piece_26 rfl hl (by decide) rfl (fun ls hl => ?_)
    refine lv_iload_n hx hb dX6_piece_27 rfl (lv_at hl 0 rfl) ?_
    refine lv_if_ge (tgt := 34) hx hb dX6_piece_28 (by decide) (fun c_12 => ?_) (fun c_12 => ?_)
    · have hq := hq.trans (if_pos c_12)
      refine lv_iload_n hx hb dX6_piece_34 rfl (lv_at hl 0 rfl) ?_
      refine lv_iconst (v := nI 2) hx hb dX6_piece_35 (by decide) ?_
      refine lv_idiv hx hb dX6_piece_36 (by decide) ?_
      refine lv_istore_n (lv' := [(3, .int ((((S 0 1) - (S 13 s1)) - (nI 1)) / (nI 2))), (2, .int (((S 0 1) - (S 13 s1)) - (nI 1))), (0, .ref (G 0)), (1, .int (nI s1))]) hx hb dX6_piece_37 rfl hl (by decide) rfl (fun ls hl => ?_)
      refine lv_iconst (v := nI 1) hx hb dX6_piece_38 (by decide) ?_
      refine lv_istore (lv' := [(4, .int (nI 1)), (3, .int ((((S 0 1) - (S 13 s1)) - (nI 1)) / (nI 2))), (2, .int (((S 0 1) - (S 13 s1)) - (nI 1))), (0, .ref (G 0)), (1, .int (nI s1))]) hx hb dX6_piece_39 hl (by decide) rfl (fun ls hl => ?_)
      refine lv_iconst (v := nI 0) hx hb dX6_piece_41 (by decide) ?_
      refine lv_istore (lv' := [(5, .int (nI 0)), (4, .int (nI 1)), (3, .int ((((S 0 1) - (S 13 s1)) - (nI 1)) / (nI 2))), (2, .int (((S 0 1) - (S 13 s1)) - (nI 1))), (0, .ref (G 0)), (1, .int (nI s1))]) hx hb dX6_piece_42 hl (by decide) rfl (fun ls hl => ?_)
      have L1 : ∀ (n : Nat) (i : Nat) (b : Int32) (r : Int32) (H : Heap) (locs : List Loc) (ls : Array Slot), i + n = 4 → f_X6_piece S s1 = f_X6_piece_L1 S s1 n i b r → va_P D vwCl (WL 20 G (mF cI cZ G) S) H → va_S (fun q => s.heap.size ≤ q) s.heap H locs → lv_has ls 7 [(5, .int (nI i)), (4, .int b), (3, .int r), (2, .int (((S 0 1) - (S 13 s1)) - (nI 1))), (0, .ref (G 0)), (1, .int (nI s1))] → W p l e ({ frames := 1, cells := 0, slots := 0, locals := 20 } : Room) s m ([.ref (G 0), .int (nI s1)] : List Value).toArray below meth c H locs 0 0 (MQ below (pQi (f_X6_piece S s1) s.heap.size) ([.ref (G 0), .int (nI s1)] : List Value).toArray s 0 0 (fun q => s.heap.size ≤ q)) (F0 m 44 ls []) := by
        intro n
        induction n with
        | zero =>
          intro i b r H locs ls hin hq hP hS hl
          have hq := hq.trans (f_X6_piece_L1_z _ _ _ _ _)
          refine lv_iload hx hb dX6_piece_44 (lv_at hl 0 rfl) ?_
          refine lv_iconst (v := nI 4) hx hb dX6_piece_46 (by decide) ?_
          refine lv_icmp_ge (tgt := 113) hx hb dX6_piece_47 (by decide) (fun _ => ?_) (fun c_13 => absurd (nI_le (by omega) (by omega)) c_13) 
          refine lv_iload hx hb dX6_piece_113 (lv_at hl 1 rfl) ?_
          exact x_ret_p hx hb hr rfl hlocks hS dX6_piece_115 hq
        | succ n ih =>
          intro i b r H locs ls hin hq hP hS hl
          have hq := hq.trans (f_X6_piece_L1_s _ _ _ _ _ _)
          refine lv_iload hx hb dX6_piece_44 (lv_at hl 0 rfl) ?_
          refine lv_iconst (v := nI 4) hx hb dX6_piece_46 (by decide) ?_
          refine lv_icmp_ge (tgt := 113) hx hb dX6_piece_47 (by decide) (fun c_14 => absurd c_14 (nI_ge (by omega) (by omega))) (fun _ => ?_)
          refine lv_aload_n hx hb dX6_piece_50 rfl (lv_at hl 4 rfl) ?_
          refine x_get hx hb hts mm_X6_piece_X6 hown hK hP (0) (by decide) (rfl) rfl 10 (by decide) (hts _ lk_X6_piece_35) rfl rfl dX6_piece_51 ?_
          refine lv_iconst (v := nI 5) hx hb dX6_piece_54 (by decide) ?_
          refine lv_iload_n hx hb dX6_piece_55 rfl (lv_at hl 5 rfl) ?_
          refine x_imulN hx hb dX6_piece_56 ?_
          refine x_iald hx hb hK hP 8 0 (by decide) (rfl) rfl (5 * s1) (by omega) (by decide) dX6_piece_57 ?_
          refine lv_iload hx hb dX6_piece_58 (lv_at hl 0 rfl) ?_
          refine lv_ishr hx hb dX6_piece_60 ?_
          refine lv_iconst (v := nI 1) hx hb dX6_piece_61 (by decide) ?_
          refine lv_iand hx hb dX6_piece_62 ?_
          refine lv_iconst (v := nI 1) hx hb dX6_piece_63 (by decide) ?_
          refine lv_icmp_ne (tgt := 71) hx hb dX6_piece_64 (by decide) (fun c_15 => ?_) (fun c_15 => ?_)
          · have hq := hq.trans (if_neg c_15)
            refine lv_iconst (v := nI 0) hx hb dX6_piece_71 (by decide) ?_
            refine lv_istore (lv' := [(6, .int (nI 0)), (5, .int (nI i)), (4, .int b), (3, .int r), (2, .int (((S 0 1) - (S 13 s1)) - (nI 1))), (0, .ref (G 0)), (1, .int (nI s1))]) hx hb dX6_piece_72 hl (by decide) rfl (fun ls hl => ?_)
            refine lv_iload hx hb dX6_piece_74 (lv_at hl 0 rfl) ?_
            refine lv_if_eq (tgt := 90) hx hb dX6_piece_76 (by decide) (fun _ => ?_) (fun c_16 => absurd (by decide) c_16) 
            refine lv_iload hx hb dX6_piece_90 (lv_at hl 2 rfl) ?_
            refine lv_istore (lv' := [(4, .int b), (6, .int (nI 0)), (5, .int (nI i)), (3, .int r), (2, .int (((S 0 1) - (S 13 s1)) - (nI 1))), (0, .ref (G 0)), (1, .int (nI s1))]) hx hb dX6_piece_92 hl (by decide) rfl (fun ls hl => ?_)
            refine lv_iload_n hx hb dX6_piece_94 rfl (lv_at hl 3 rfl) ?_
            refine lv_iload hx hb dX6_piece_95 (lv_at hl 1 rfl) ?_
            refine lv_if_eq (tgt := 104) hx hb dX6_piece_97 (by decide) (fun _ => ?_) (fun c_17 => absurd (by decide) c_17) 
            refine lv_iconst (v := nI 0) hx hb dX6_piece_104 (by decide) ?_
            refine lv_isub hx hb dX6_piece_105 ?_
            refine lv_istore_n (lv' := [(3, .int (r - (nI 0))), (4, .int b), (6, .int (nI 0)), (5, .int (nI i)), (2, .int (((S 0 1) - (S 13 s1)) - (nI 1))), (0, .ref (G 0)), (1, .int (nI s1))]) hx hb dX6_piece_106 rfl hl (by decide) rfl (fun ls hl => ?_)
            refine lv_iinc (v := nI (i + 1)) (lv' := [(5, .int (nI (i + 1))), (3, .int (r - (nI 0))), (4, .int b), (6, .int (nI 0)), (2, .int (((S 0 1) - (S 13 s1)) - (nI 1))), (0, .ref (G 0)), (1, .int (nI s1))]) hx hb dX6_piece_107 hl (k := 3) rfl (nI_add _ _) (by decide) rfl (fun ls hl => ?_)
            refine lv_goto (tgt := 44) hx hb dX6_piece_110 (by decide) ?_
            exact ih (i + 1) b (r - (nI 0)) H locs ls (by omega) hq hP hS (lv_sub hl [0, 2, 1, 4, 5, 6] rfl)
          · have hq := hq.trans (if_pos c_15)
            refine lv_iconst (v := nI 1) hx hb dX6_piece_67 (by decide) ?_
            refine lv_goto (tgt := 72) hx hb dX6_piece_68 (by decide) ?_
            refine lv_istore (lv' := [(6, .int (nI 1)), (5, .int (nI i)), (4, .int b), (3, .int r), (2, .int (((S 0 1) - (S 13 s1)) - (nI 1))), (0, .ref (G 0)), (1, .int (nI s1))]) hx hb dX6_piece_72 hl (by decide) rfl (fun ls hl => ?_)
            refine lv_iload hx hb dX6_piece_74 (lv_at hl 0 rfl) ?_
            refine lv_if_eq (tgt := 90) hx hb dX6_piece_76 (by decide) (fun c_18 => absurd c_18 (by decide)) (fun _ => ?_)
            refine lv_iload_n hx hb dX6_piece_79 rfl (lv_at hl 3 rfl) ?_
            refine lv_if_ne (tgt := 90) hx hb dX6_piece_80 (by decide) (fun c_19 => ?_) (fun c_19 => ?_)
            · have hq := hq.trans (if_neg c_19)
              refine lv_iload hx hb dX6_piece_90 (lv_at hl 2 rfl) ?_
              refine lv_istore (lv' := [(4, .int b), (6, .int (nI 1)), (5, .int (nI i)), (3, .int r), (2, .int (((S 0 1) - (S 13 s1)) - (nI 1))), (0, .ref (G 0)), (1, .int (nI s1))]) hx hb dX6_piece_92 hl (by decide) rfl (fun ls hl => ?_)
              refine lv_iload_n hx hb dX6_piece_94 rfl (lv_at hl 3 rfl) ?_
              refine lv_iload hx hb dX6_piece_95 (lv_at hl 1 rfl) ?_
              refine lv_if_eq (tgt := 104) hx hb dX6_piece_97 (by decide) (fun c_20 => absurd c_20 (by decide)) (fun _ => ?_)
              refine lv_iconst (v := nI 1) hx hb dX6_piece_100 (by decide) ?_
              refine lv_goto (tgt := 105) hx hb dX6_piece_101 (by decide) ?_
              refine lv_isub hx hb dX6_piece_105 ?_
              refine lv_istore_n (lv' := [(3, .int (r - (nI 1))), (4, .int b), (6, .int (nI 1)), (5, .int (nI i)), (2, .int (((S 0 1) - (S 13 s1)) - (nI 1))), (0, .ref (G 0)), (1, .int (nI s1))]) hx hb dX6_piece_106 rfl hl (by decide) rfl (fun ls hl => ?_)
              refine lv_iinc (v := nI (i + 1)) (lv' := [(5, .int (nI (i + 1))), (3, .int (r - (nI 1))), (4, .int b), (6, .int (nI 1)), (2, .int (((S 0 1) - (S 13 s1)) - (nI 1))), (0, .ref (G 0)), (1, .int (nI s1))]) hx hb dX6_piece_107 hl (k := 3) rfl (nI_add _ _) (by decide) rfl (fun ls hl => ?_)
              refine lv_goto (tgt := 44) hx hb dX6_piece_110 (by decide) ?_
              exact ih (i + 1) b (r - (nI 1)) H locs ls (by omega) hq hP hS (lv_sub hl [0, 2, 1, 4, 5, 6] rfl)
            · have hq := hq.trans (if_pos c_19)
              refine lv_iconst (v := nI 1) hx hb dX6_piece_83 (by decide) ?_
              refine lv_iload hx hb dX6_piece_84 (lv_at hl 1 rfl) ?_
              refine lv_ishl hx hb dX6_piece_86 ?_
              refine lv_goto (tgt := 92) hx hb dX6_piece_87 (by decide) ?_
              refine lv_istore (lv' := [(4, .int ((nI 1) <<< ((nI i) &&& 31))), (6, .int (nI 1)), (5, .int (nI i)), (3, .int r), (2, .int (((S 0 1) - (S 13 s1)) - (nI 1))), (0, .ref (G 0)), (1, .int (nI s1))]) hx hb dX6_piece_92 hl (by decide) rfl (fun ls hl => ?_)
              refine lv_iload_n hx hb dX6_piece_94 rfl (lv_at hl 3 rfl) ?_
              refine lv_iload hx hb dX6_piece_95 (lv_at hl 1 rfl) ?_
              refine lv_if_eq (tgt := 104) hx hb dX6_piece_97 (by decide) (fun c_21 => absurd c_21 (by decide)) (fun _ => ?_)
              refine lv_iconst (v := nI 1) hx hb dX6_piece_100 (by decide) ?_
              refine lv_goto (tgt := 105) hx hb dX6_piece_101 (by decide) ?_
              refine lv_isub hx hb dX6_piece_105 ?_
              refine lv_istore_n (lv' := [(3, .int (r - (nI 1))), (4, .int ((nI 1) <<< ((nI i) &&& 31))), (6, .int (nI 1)), (5, .int (nI i)), (2, .int (((S 0 1) - (S 13 s1)) - (nI 1))), (0, .ref (G 0)), (1, .int (nI s1))]) hx hb dX6_piece_106 rfl hl (by decide) rfl (fun ls hl => ?_)
              refine lv_iinc (v := nI (i + 1)) (lv' := [(5, .int (nI (i + 1))), (3, .int (r - (nI 1))), (4, .int ((nI 1) <<< ((nI i) &&& 31))), (6, .int (nI 1)), (2, .int (((S 0 1) - (S 13 s1)) - (nI 1))), (0, .ref (G 0)), (1, .int (nI s1))]) hx hb dX6_piece_107 hl (k := 3) rfl (nI_add _ _) (by decide) rfl (fun ls hl => ?_)
              refine lv_goto (tgt := 44) hx hb dX6_piece_110 (by decide) ?_
              exact ih (i + 1) ((nI 1) <<< ((nI i) &&& 31)) (r - (nI 1)) H locs ls (by omega) hq hP hS (lv_sub hl [0, 2, 1, 4, 5, 6] rfl)
      exact L1 4 0 (nI 1) ((((S 0 1) - (S 13 s1)) - (nI 1)) / (nI 2)) _ _ _ (by omega) hq hP hS (lv_sub hl [0, 1, 2, 3, 4, 5] rfl)
    · have hq := hq.trans (if_neg c_12)
      refine lv_bipush (v := nI 16) hx hb dX6_piece_31 (by decide) ?_
      exact x_ret_p hx hb hr rfl hlocks hS dX6_piece_33 hq

theorem mm_X6_isBroken_X6 : ∀ w ∈ wsX60, w ∈ wsX6_isBroken := by decide +kernel
theorem lk_X6_isBroken_32 : Cond.fieldLink RX6 32 "BackofficeAirModel" "goal" "[I" ∈ wsX6_isBroken := by decide +kernel
theorem lk_X6_isBroken_41 : Cond.fieldLink RX6 41 "BackofficeAirModel" "isSending" "[Z" ∈ wsX6_isBroken := by decide +kernel
def f_X6_isBroken_L1 (S : Mem) (s1 : Nat) : Nat → Nat → Int32 → Int32
  | 0, i, b => b
  | n + 1, i, b => if b = 0 then (if nI i = nI s1 then (f_X6_isBroken_L1 S s1 n (i + 1) (nI 0)) else (if nI i = nI (kN (S 7 (5 * s1))) then (f_X6_isBroken_L1 S s1 n (i + 1) (nI 0)) else (if S 10 i = 0 then (f_X6_isBroken_L1 S s1 n (i + 1) (nI 0)) else (if f_X6_heard S i (kN (S 7 (5 * s1))) ≤ 0 then (f_X6_isBroken_L1 S s1 n (i + 1) (nI 0)) else (if f_X6_heard S i (kN (S 7 (5 * s1))) ≤ (f_X6_heard S s1 (kN (S 7 (5 * s1)))) - (nI 3) then (f_X6_isBroken_L1 S s1 n (i + 1) (nI 0)) else (f_X6_isBroken_L1 S s1 n (i + 1) (nI 1))))))) else (f_X6_isBroken_L1 S s1 n (i + 1) (nI 1))
theorem f_X6_isBroken_L1_z (S : Mem) (s1 : Nat) (i : Nat) (b : Int32) : f_X6_isBroken_L1 S s1 0 i b = (b) := rfl
theorem f_X6_isBroken_L1_s (S : Mem) (s1 : Nat) (n : Nat) (i : Nat) (b : Int32) : f_X6_isBroken_L1 S s1 (n + 1) i b = (if b = 0 then (if nI i = nI s1 then (f_X6_isBroken_L1 S s1 n (i + 1) (nI 0)) else (if nI i = nI (kN (S 7 (5 * s1))) then (f_X6_isBroken_L1 S s1 n (i + 1) (nI 0)) else (if S 10 i = 0 then (f_X6_isBroken_L1 S s1 n (i + 1) (nI 0)) else (if f_X6_heard S i (kN (S 7 (5 * s1))) ≤ 0 then (f_X6_isBroken_L1 S s1 n (i + 1) (nI 0)) else (if f_X6_heard S i (kN (S 7 (5 * s1))) ≤ (f_X6_heard S s1 (kN (S 7 (5 * s1)))) - (nI 3) then (f_X6_isBroken_L1 S s1 n (i + 1) (nI 0)) else (f_X6_isBroken_L1 S s1 n (i + 1) (nI 1))))))) else (f_X6_isBroken_L1 S s1 n (i + 1) (nI 1))) := rfl
def f_X6_isBroken (S : Mem) (s1 : Nat) : Int32 := if S 10 (kN (S 7 (5 * s1))) = 0 then (if f_X6_heard S s1 (kN (S 7 (5 * s1))) = 0 then (f_X6_isBroken_L1 S s1 6 0 (nI 1)) else (f_X6_isBroken_L1 S s1 6 0 (nI 0))) else (f_X6_isBroken_L1 S s1 6 0 (nI 1))
theorem f_X6_isBroken_d (S : Mem) (s1 : Nat) : f_X6_isBroken S s1 = (if S 10 (kN (S 7 (5 * s1))) = 0 then (if f_X6_heard S s1 (kN (S 7 (5 * s1))) = 0 then (f_X6_isBroken_L1 S s1 6 0 (nI 1)) else (f_X6_isBroken_L1 S s1 6 0 (nI 0))) else (f_X6_isBroken_L1 S s1 6 0 (nI 1))) := rfl
set_option maxHeartbeats 1000000 in
set_option maxRecDepth 100000 in
theorem c_X6_isBroken (l : Launch) (D : va_G) (cI cS cZ cJ : ClassId) (G : Nat → Nat) (S : Mem) (sz : Nat) (s1 : Nat) (h1 : s1 < 6) (hg : S 7 (5 * s1) = nI (kN (S 7 (5 * s1)))) (hg6 : kN (S 7 (5 * s1)) < 6) : Met l yX6_isBroken wsX6_isBroken ({ frames := 2, cells := 0, slots := 0, locals := 42 } : Room) (wPc 20 (mF cI cZ G) D (tY cI cS cZ cJ) G S sz [.ref (G 0), .int (nI s1)]) (pQi (f_X6_isBroken S s1) sz) 0 0 (fun q => sz ≤ q) := by
  refine x_met (cc := cX6_isBroken) (maxL := 5) (ret := (some .boolean)) (by decide) rfl (Nat.le_of_ble_eq_true rfl) ?_
  intro p e s m below meth c ls hx hb hr hml hts hown hlocks hsz hP hK hD hN hl hnm
  subst hsz
  have hown : s.vm.findClass RX6 = some m.cls := hown
  have hl : lv_has ls 5 [(0, .ref (G 0)), (1, .int (nI s1))] := hl
  have hq := f_X6_isBroken_d S s1
  have hA : ∀ q : Nat, s.heap.size ≤ q → (fun q => s.heap.size ≤ q) q := fun q h => h
  have hS : va_S (fun q => s.heap.size ≤ q) s.heap s.heap [] := va_S.rf
  refine lv_aload_n hx hb dX6_isBroken_0 rfl (lv_at hl 0 rfl) ?_
  refine x_get hx hb hts mm_X6_isBroken_X6 hown hK hP (0) (by decide) (rfl) rfl 9 (by decide) (hts _ lk_X6_isBroken_32) rfl rfl dX6_isBroken_1 ?_
  refine lv_iconst (v := nI 5) hx hb dX6_isBroken_4 (by decide) ?_
  refine lv_iload_n hx hb dX6_isBroken_5 rfl (lv_at hl 1 rfl) ?_
  refine x_imulN hx hb dX6_isBroken_6 ?_
  refine x_iald hx hb hK hP 7 0 (by decide) (rfl) rfl (5 * s1) (by omega) (by decide) dX6_isBroken_7 ?_
  refine x_top (y := nI (kN (S 7 (5 * s1)))) (hg) ?_
  refine lv_istore_n (lv' := [(2, .int (nI (kN (S 7 (5 * s1))))), (0, .ref (G 0)), (1, .int (nI s1))]) hx hb dX6_isBroken_8 rfl hl (by decide) rfl (fun ls hl => ?_)
  refine lv_aload_n hx hb dX6_isBroken_9 rfl (lv_at hl 1 rfl) ?_
  refine x_get hx hb hts mm_X6_isBroken_X6 hown hK hP (0) (by decide) (rfl) rfl 12 (by decide) (hts _ lk_X6_isBroken_41) rfl rfl dX6_isBroken_10 ?_
  refine lv_iload_n hx hb dX6_isBroken_13 rfl (lv_at hl 0 rfl) ?_
  refine x_zald hx hb hK hP 10 2 (by decide) (rfl) rfl (kN (S 7 (5 * s1))) (by omega) (by decide) dX6_isBroken_14 ?_
  refine lv_if_ne (tgt := 27) hx hb dX6_isBroken_15 (by decide) (fun c_1 => ?_) (fun c_1 => ?_)
  · have hq := hq.trans (if_neg c_1)
    refine lv_iconst (v := nI 1) hx hb dX6_isBroken_27 (by decide) ?_
    refine lv_goto (tgt := 32) hx hb dX6_isBroken_28 (by decide) ?_
    refine lv_istore_n (lv' := [(3, .int (nI 1)), (2, .int (nI (kN (S 7 (5 * s1))))), (0, .ref (G 0)), (1, .int (nI s1))]) hx hb dX6_isBroken_32 rfl hl (by decide) rfl (fun ls hl => ?_)
    refine lv_iconst (v := nI 0) hx hb dX6_isBroken_33 (by decide) ?_
    refine lv_istore (lv' := [(4, .int (nI 0)), (3, .int (nI 1)), (2, .int (nI (kN (S 7 (5 * s1))))), (0, .ref (G 0)), (1, .int (nI s1))]) hx hb dX6_isBroken_34 hl (by decide) rfl (fun ls hl => ?_)
    have L1 : ∀ (n : Nat) (i : Nat) (b : Int32) (H : Heap) (locs : List Loc) (ls : Array Slot), i + n = 6 → f_X6_isBroken S s1 = f_X6_isBroken_L1 S s1 n i b → (b = nI 0 ∨ b = nI 1) → va_P D vwCl (WL 20 G (mF cI cZ G) S) H → va_S (fun q => s.heap.size ≤ q) s.heap H locs → lv_has ls 5 [(4, .int (nI i)), (3, .int b), (2, .int (nI (kN (S 7 (5 * s1))))), (0, .ref (G 0)), (1, .int (nI s1))] → W p l e ({ frames := 2, cells := 0, slots := 0, locals := 42 } : Room) s m ([.ref (G 0), .int (nI s1)] : List Value).toArray below meth c H locs 0 0 (MQ below (pQi (f_X6_isBroken S s1) s.heap.size) ([.ref (G 0), .int (nI s1)] : List Value).toArray s 0 0 (fun q => s.heap.size ≤ q)) (F0 m 36 ls []) := by
      intro n
      induction n with
      | zero =>
        intro i b H locs ls hin hq hb01 hP hS hl
        have hq := hq.trans (f_X6_isBroken_L1_z _ _ _ _)
        refine lv_iload hx hb dX6_isBroken_36 (lv_at hl 0 rfl) ?_
        refine lv_bipush (v := nI 6) hx hb dX6_isBroken_38 (by decide) ?_
        refine lv_icmp_ge (tgt := 109) hx hb dX6_isBroken_40 (by decide) (fun _ => ?_) (fun c_2 => absurd (nI_le (by omega) (by omega)) c_2) 
        refine lv_iload_n hx hb dX6_isBroken_109 rfl (lv_at hl 1 rfl) ?_
        exact x_ret_p hx hb hr (nar01 hb01) hlocks hS dX6_isBroken_110 hq
      | succ n ih =>
        intro i b H locs ls hin hq hb01 hP hS hl
        have hq := hq.trans (f_X6_isBroken_L1_s _ _ _ _ _)
        refine lv_iload hx hb dX6_isBroken_36 (lv_at hl 0 rfl) ?_
        refine lv_bipush (v := nI 6) hx hb dX6_isBroken_38 (by decide) ?_
        refine lv_icmp_ge (tgt := 109) hx hb dX6_isBroken_40 (by decide) (fun c_3 => absurd c_3 (nI_ge (by omega) (by omega))) (fun _ => ?_)
        refine lv_iload_n hx hb dX6_isBroken_43 rfl (lv_at hl 1 rfl) ?_
        refine lv_if_ne (tgt := 97) hx hb dX6_isBroken_44 (by decide) (fun c_4 => ?_) (fun c_4 => ?_)
        · have hq := hq.trans (if_neg c_4)
          refine lv_iconst (v := nI 1) hx hb dX6_isBroken_97 (by decide) ?_
          refine lv_goto (tgt := 102) hx hb dX6_isBroken_98 (by decide) ?_
          refine lv_istore_n (lv' := [(3, .int (nI 1)), (4, .int (nI i)), (2, .int (nI (kN (S 7 (5 * s1))))), (0, .ref (G 0)), (1, .int (nI s1))]) hx hb dX6_isBroken_102 rfl hl (by decide) rfl (fun ls hl => ?_)
          refine lv_iinc (v := nI (i + 1)) (lv' := [(4, .int (nI (i + 1))), (3, .int (nI 1)), (2, .int (nI (kN (S 7 (5 * s1))))), (0, .ref (G 0)), (1, .int (nI s1))]) hx hb dX6_isBroken_103 hl (k := 1) rfl (nI_add _ _) (by decide) rfl (fun ls hl => ?_)
          refine lv_goto (tgt := 36) hx hb dX6_isBroken_106 (by decide) ?_
          exact ih (i + 1) (nI 1) H locs ls (by omega) hq (by first | exact Or.inl rfl | exact Or.inr rfl) hP hS (lv_sub hl [0, 1, 2, 3, 4] rfl)
        · have hq := hq.trans (if_pos c_4)
          refine lv_iload hx hb dX6_isBroken_47 (lv_at hl 0 rfl) ?_
          refine lv_iload_n hx hb dX6_isBroken_49 rfl (lv_at hl 4 rfl) ?_
          refine lv_icmp_eq (tgt := 101) hx hb dX6_isBroken_50 (by decide) (fun c_5 => ?_) (fun c_5 => ?_)
          · have hq := hq.trans (if_pos c_5)
            refine lv_iconst (v := nI 0) hx hb dX6_isBroken_101 (by decide) ?_
            refine lv_istore_n (lv' := [(3, .int (nI 0)), (4, .int (nI i)), (2, .int (nI (kN (S 7 (5 * s1))))), (0, .ref (G 0)), (1, .int (nI s1))]) hx hb dX6_isBroken_102 rfl hl (by decide) rfl (fun ls hl => ?_)
            refine lv_iinc (v := nI (i + 1)) (lv' := [(4, .int (nI (i + 1))), (3, .int (nI 0)), (2, .int (nI (kN (S 7 (5 * s1))))), (0, .ref (G 0)), (1, .int (nI s1))]) hx hb dX6_isBroken_103 hl (k := 1) rfl (nI_add _ _) (by decide) rfl (fun ls hl => ?_)
            refine lv_goto (tgt := 36) hx hb dX6_isBroken_106 (by decide) ?_
            exact ih (i + 1) (nI 0) H locs ls (by omega) hq (by first | exact Or.inl rfl | exact Or.inr rfl) hP hS (lv_sub hl [0, 1, 2, 3, 4] rfl)
          · have hq := hq.trans (if_neg c_5)
            refine lv_iload hx hb dX6_isBroken_53 (lv_at hl 0 rfl) ?_
            refine lv_iload_n hx hb dX6_isBroken_55 rfl (lv_at hl 2 rfl) ?_
            refine lv_icmp_eq (tgt := 101) hx hb dX6_isBroken_56 (by decide) (fun c_6 => ?_) (fun c_6 => ?_)
            · have hq := hq.trans (if_pos c_6)
              refine lv_iconst (v := nI 0) hx hb dX6_isBroken_101 (by decide) ?_
              refine lv_istore_n (lv' := [(3, .int (nI 0)), (4, .int (nI i)), (2, .int (nI (kN (S 7 (5 * s1))))), (0, .ref (G 0)), (1, .int (nI s1))]) hx hb dX6_isBroken_102 rfl hl (by decide) rfl (fun ls hl => ?_)
              refine lv_iinc (v := nI (i + 1)) (lv' := [(4, .int (nI (i + 1))), (3, .int (nI 0)), (2, .int (nI (kN (S 7 (5 * s1))))), (0, .ref (G 0)), (1, .int (nI s1))]) hx hb dX6_isBroken_103 hl (k := 1) rfl (nI_add _ _) (by decide) rfl (fun ls hl => ?_)
              refine lv_goto (tgt := 36) hx hb dX6_isBroken_106 (by decide) ?_
              exact ih (i + 1) (nI 0) H locs ls (by omega) hq (by first | exact Or.inl rfl | exact Or.inr rfl) hP hS (lv_sub hl [0, 1, 2, 3, 4] rfl)
            · have hq := hq.trans (if_neg c_6)
              refine lv_aload_n hx hb dX6_isBroken_59 rfl (lv_at hl 3 rfl) ?_
              refine x_get hx hb hts mm_X6_isBroken_X6 hown hK hP (0) (by decide) (rfl) rfl 12 (by decide) (hts _ lk_X6_isBroken_41) rfl rfl dX6_isBroken_60 ?_
              refine lv_iload hx hb dX6_isBroken_63 (lv_at hl 0 rfl) ?_
              refine x_zald hx hb hK hP 10 2 (by decide) (rfl) rfl i (by omega) (by decide) dX6_isBroken_65 ?_
              refine lv_if_eq (tgt := 101) hx hb dX6_isBroken_66 (by decide) (fun c_7 => ?_) (fun c_7 => ?_)
              · have hq := hq.trans (if_pos c_7)
                refine lv_iconst (v := nI 0) hx hb dX6_isBroken_101 (by decide) ?_
                refine lv_istore_n (lv' := [(3, .int (nI 0)), (4, .int (nI i)), (2, .int (nI (kN (S 7 (5 * s1))))), (0, .ref (G 0)), (1, .int (nI s1))]) hx hb dX6_isBroken_102 rfl hl (by decide) rfl (fun ls hl => ?_)
                refine lv_iinc (v := nI (i + 1)) (lv' := [(4, .int (nI (i + 1))), (3, .int (nI 0)), (2, .int (nI (kN (S 7 (5 * s1))))), (0, .ref (G 0)), (1, .int (nI s1))]) hx hb dX6_isBroken_103 hl (k := 1) rfl (nI_add _ _) (by decide) rfl (fun ls hl => ?_)
                refine lv_goto (tgt := 36) hx hb dX6_isBroken_106 (by decide) ?_
                exact ih (i + 1) (nI 0) H locs ls (by omega) hq (by first | exact Or.inl rfl | exact Or.inr rfl) hP hS (lv_sub hl [0, 1, 2, 3, 4] rfl)
              · have hq := hq.trans (if_neg c_7)
                refine lv_aload_n hx hb dX6_isBroken_69 rfl (lv_at hl 3 rfl) ?_
                refine lv_iload hx hb dX6_isBroken_70 (lv_at hl 0 rfl) ?_
                refine lv_iload_n hx hb dX6_isBroken_72 rfl (lv_at hl 2 rfl) ?_
                refine x_pi (va_runV (As := [.int (nI i), .int (nI (kN (S 7 (5 * s1))))]) (rest := []) ⟨hx, hb, hml, hown, hts⟩ (c_X6_heard l D cI cS cZ cJ G S H.size i (kN (S 7 (5 * s1))) (by omega) (by omega)) (cwV 2 hts gX6_isBroken_X6_heard rfl rfl rfl (by decide +kernel) ⟨Nat.le_of_ble_eq_true rfl, Nat.le_of_ble_eq_true rfl⟩) ⟨wPc_blind, va_recv hK hP (ci := 6) (q0 := 0) rfl (WL_at (by decide) (rfl)), wPc_at hP hK hD hN⟩ rfl rfl hl.1 rfl (lv_room (Nat.le_of_ble_eq_true rfl)) dX6_isBroken_73 ⟨Nat.le_refl _, Nat.le_refl _⟩) hS hA (fun q h => h) (fun H locs hz hk hS => ?_)
                have hP := P_kept hP hk
                refine lv_if_le (tgt := 101) hx hb dX6_isBroken_76 (by decide) (fun c_8 => ?_) (fun c_8 => ?_)
                · have hq := hq.trans (if_pos c_8)
                  refine lv_iconst (v := nI 0) hx hb dX6_isBroken_101 (by decide) ?_
                  refine lv_istore_n (lv' := [(3, .int (nI 0)), (4, .int (nI i)), (2, .int (nI (kN (S 7 (5 * s1))))), (0, .ref (G 0)), (1, .int (nI s1))]) hx hb dX6_isBroken_102 rfl hl (by decide) rfl (fun ls hl => ?_)
                  refine lv_iinc (v := nI (i + 1)) (lv' := [(4, .int (nI (i + 1))), (3, .int (nI 0)), (2, .int (nI (kN (S 7 (5 * s1))))), (0, .ref (G 0)), (1, .int (nI s1))]) hx hb dX6_isBroken_103 hl (k := 1) rfl (nI_add _ _) (by decide) rfl (fun ls hl => ?_)
                  refine lv_goto (tgt := 36) hx hb dX6_isBroken_106 (by decide) ?_
                  exact ih (i + 1) (nI 0) H locs ls (by omega) hq (by first | exact Or.inl rfl | exact Or.inr rfl) hP hS (lv_sub hl [0, 1, 2, 3, 4] rfl)
                · have hq := hq.trans (if_neg c_8)
                  refine lv_aload_n hx hb dX6_isBroken_79 rfl (lv_at hl 3 rfl) ?_
                  refine lv_iload hx hb dX6_isBroken_80 (lv_at hl 0 rfl) ?_
                  refine lv_iload_n hx hb dX6_isBroken_82 rfl (lv_at hl 2 rfl) ?_
                  refine x_pi (va_runV (As := [.int (nI i), .int (nI (kN (S 7 (5 * s1))))]) (rest := []) ⟨hx, hb, hml, hown, hts⟩ (c_X6_heard l D cI cS cZ cJ G S H.size i (kN (S 7 (5 * s1))) (by omega) (by omega)) (cwV 2 hts gX6_isBroken_X6_heard rfl rfl rfl (by decide +kernel) ⟨Nat.le_of_ble_eq_true rfl, Nat.le_of_ble_eq_true rfl⟩) ⟨wPc_blind, va_recv hK hP (ci := 6) (q0 := 0) rfl (WL_at (by decide) (rfl)), wPc_at hP hK hD hN⟩ rfl rfl hl.1 rfl (lv_room (Nat.le_of_ble_eq_true rfl)) dX6_isBroken_83 ⟨Nat.le_refl _, Nat.le_refl _⟩) hS hA (fun q h => h) (fun H locs hz hk hS => ?_)
                  have hP := P_kept hP hk
                  refine lv_aload_n hx hb dX6_isBroken_86 rfl (lv_at hl 3 rfl) ?_
                  refine lv_iload_n hx hb dX6_isBroken_87 rfl (lv_at hl 4 rfl) ?_
                  refine lv_iload_n hx hb dX6_isBroken_88 rfl (lv_at hl 2 rfl) ?_
                  refine x_pi (va_runV (As := [.int (nI s1), .int (nI (kN (S 7 (5 * s1))))]) (rest := [.int (f_X6_heard S i (kN (S 7 (5 * s1))))]) ⟨hx, hb, hml, hown, hts⟩ (c_X6_heard l D cI cS cZ cJ G S H.size s1 (kN (S 7 (5 * s1))) (by omega) (by omega)) (cwV 2 hts gX6_isBroken_X6_heard rfl rfl rfl (by decide +kernel) ⟨Nat.le_of_ble_eq_true rfl, Nat.le_of_ble_eq_true rfl⟩) ⟨wPc_blind, va_recv hK hP (ci := 6) (q0 := 0) rfl (WL_at (by decide) (rfl)), wPc_at hP hK hD hN⟩ rfl rfl hl.1 rfl (lv_room (Nat.le_of_ble_eq_true rfl)) dX6_isBroken_89 ⟨Nat.le_refl _, Nat.le_refl _⟩) hS hA (fun q h => h) (fun H locs hz hk hS => ?_)
                  have hP := P_kept hP hk
                  refine lv_iconst (v := nI 3) hx hb dX6_isBroken_92 (by decide) ?_
                  refine lv_isub hx hb dX6_isBroken_93 ?_
                  refine lv_icmp_le (tgt := 101) hx hb dX6_isBroken_94 (by decide) (fun c_9 => ?_) (fun c_9 => ?_)
                  · have hq := hq.trans (if_pos c_9)
                    refine lv_iconst (v := nI 0) hx hb dX6_isBroken_101 (by decide) ?_
                    refine lv_istore_n (lv' := [(3, .int (nI 0)), (4, .int (nI i)), (2, .int (nI (kN (S 7 (5 * s1))))), (0, .ref (G 0)), (1, .int (nI s1))]) hx hb dX6_isBroken_102 rfl hl (by decide) rfl (fun ls hl => ?_)
                    refine lv_iinc (v := nI (i + 1)) (lv' := [(4, .int (nI (i + 1))), (3, .int (nI 0)), (2, .int (nI (kN (S 7 (5 * s1))))), (0, .ref (G 0)), (1, .int (nI s1))]) hx hb dX6_isBroken_103 hl (k := 1) rfl (nI_add _ _) (by decide) rfl (fun ls hl => ?_)
                    refine lv_goto (tgt := 36) hx hb dX6_isBroken_106 (by decide) ?_
                    exact ih (i + 1) (nI 0) H locs ls (by omega) hq (by first | exact Or.inl rfl | exact Or.inr rfl) hP hS (lv_sub hl [0, 1, 2, 3, 4] rfl)
                  · have hq := hq.trans (if_neg c_9)
                    refine lv_iconst (v := nI 1) hx hb dX6_isBroken_97 (by decide) ?_
                    refine lv_goto (tgt := 102) hx hb dX6_isBroken_98 (by decide) ?_
                    refine lv_istore_n (lv' := [(3, .int (nI 1)), (4, .int (nI i)), (2, .int (nI (kN (S 7 (5 * s1))))), (0, .ref (G 0)), (1, .int (nI s1))]) hx hb dX6_isBroken_102 rfl hl (by decide) rfl (fun ls hl => ?_)
                    refine lv_iinc (v := nI (i + 1)) (lv' := [(4, .int (nI (i + 1))), (3, .int (nI 1)), (2, .int (nI (kN (S 7 (5 * s1))))), (0, .ref (G 0)), (1, .int (nI s1))]) hx hb dX6_isBroken_103 hl (k := 1) rfl (nI_add _ _) (by decide) rfl (fun ls hl => ?_)
                    refine lv_goto (tgt := 36) hx hb dX6_isBroken_106 (by decide) ?_
                    exact ih (i + 1) (nI 1) H locs ls (by omega) hq (by first | exact Or.inl rfl | exact Or.inr rfl) hP hS (lv_sub hl [0, 1, 2, 3, 4] rfl)
    exact L1 6 0 (nI 1) _ _ _ (by omega) hq (by first | exact Or.inl rfl | exact Or.inr rfl) hP hS (lv_sub hl [0, 1, 2, 3, 4] rfl)
  · have hq := hq.trans (if_pos c_1)
    refine lv_aload_n hx hb dX6_isBroken_18 rfl (lv_at hl 1 rfl) ?_
    refine lv_iload_n hx hb dX6_isBroken_19 rfl (lv_at hl 2 rfl) ?_
    refine lv_iload_n hx hb dX6_isBroken_20 rfl (lv_at hl 0 rfl) ?_
    refine x_pi (va_runV (As := [.int (nI s1), .int (nI (kN (S 7 (5 * s1))))]) (rest := []) ⟨hx, hb, hml, hown, hts⟩ (c_X6_heard l D cI cS cZ cJ G S s.heap.size s1 (kN (S 7 (5 * s1))) (by omega) (by omega)) (cwV 2 hts gX6_isBroken_X6_heard rfl rfl rfl (by decide +kernel) ⟨Nat.le_of_ble_eq_true rfl, Nat.le_of_ble_eq_true rfl⟩) ⟨wPc_blind, va_recv hK hP (ci := 6) (q0 := 0) rfl (WL_at (by decide) (rfl)), wPc_at hP hK hD hN⟩ rfl rfl hl.1 rfl (lv_room (Nat.le_of_ble_eq_true rfl)) dX6_isBroken_21 ⟨Nat.le_refl _, Nat.le_refl _⟩) hS hA (fun q h => h) (fun H locs hz hk hS => ?_)
    have hP := P_kept hP hk
    refine lv_if_ne (tgt := 31) hx hb dX6_isBroken_24 (by decide) (fun c_10 => ?_) (fun c_10 => ?_)
    · have hq := hq.trans (if_neg c_10)
      refine lv_iconst (v := nI 0) hx hb dX6_isBroken_31 (by decide) ?_
      refine lv_istore_n (lv' := [(3, .int (nI 0)), (2, .int (nI (kN (S 7 (5 * s1))))), (0, .ref (G 0)), (1, .int (nI s1))]) hx hb dX6_isBroken_32 rfl hl (by decide) rfl (fun ls hl => ?_)
      refine lv_iconst (v := nI 0) hx hb dX6_isBroken_33 (by decide) ?_
      refine lv_istore (lv' := [(4, .int (nI 0)), (3, .int (nI 0)), (2, .int (nI (kN (S 7 (5 * s1))))), (0, .ref (G 0)), (1, .int (nI s1))]) hx hb dX6_isBroken_34 hl (by decide) rfl (fun ls hl => ?_)
      have L1 : ∀ (n : Nat) (i : Nat) (b : Int32) (H : Heap) (locs : List Loc) (ls : Array Slot), i + n = 6 → f_X6_isBroken S s1 = f_X6_isBroken_L1 S s1 n i b → (b = nI 0 ∨ b = nI 1) → va_P D vwCl (WL 20 G (mF cI cZ G) S) H → va_S (fun q => s.heap.size ≤ q) s.heap H locs → lv_has ls 5 [(4, .int (nI i)), (3, .int b), (2, .int (nI (kN (S 7 (5 * s1))))), (0, .ref (G 0)), (1, .int (nI s1))] → W p l e ({ frames := 2, cells := 0, slots := 0, locals := 42 } : Room) s m ([.ref (G 0), .int (nI s1)] : List Value).toArray below meth c H locs 0 0 (MQ below (pQi (f_X6_isBroken S s1) s.heap.size) ([.ref (G 0), .int (nI s1)] : List Value).toArray s 0 0 (fun q => s.heap.size ≤ q)) (F0 m 36 ls []) := by
        intro n
        induction n with
        | zero =>
          intro i b H locs ls hin hq hb01 hP hS hl
          have hq := hq.trans (f_X6_isBroken_L1_z _ _ _ _)
          refine lv_iload hx hb dX6_isBroken_36 (lv_at hl 0 rfl) ?_
          refine lv_bipush (v := nI 6) hx hb dX6_isBroken_38 (by decide) ?_
          refine lv_icmp_ge (tgt := 109) hx hb dX6_isBroken_40 (by decide) (fun _ => ?_) (fun c_11 => absurd (nI_le (by omega) (by omega)) c_11) 
          refine lv_iload_n hx hb dX6_isBroken_109 rfl (lv_at hl 1 rfl) ?_
          exact x_ret_p hx hb hr (nar01 hb01) hlocks hS dX6_isBroken_110 hq
        | succ n ih =>
          intro i b H locs ls hin hq hb01 hP hS hl
          have hq := hq.trans (f_X6_isBroken_L1_s _ _ _ _ _)
          refine lv_iload hx hb dX6_isBroken_36 (lv_at hl 0 rfl) ?_
          refine lv_bipush (v := nI 6) hx hb dX6_isBroken_38 (by decide) ?_
          refine lv_icmp_ge (tgt := 109) hx hb dX6_isBroken_40 (by decide) (fun c_12 => absurd c_12 (nI_ge (by omega) (by omega))) (fun _ => ?_)
          refine lv_iload_n hx hb dX6_isBroken_43 rfl (lv_at hl 1 rfl) ?_
          refine lv_if_ne (tgt := 97) hx hb dX6_isBroken_44 (by decide) (fun c_13 => ?_) (fun c_13 => ?_)
          · have hq := hq.trans (if_neg c_13)
            refine lv_iconst (v := nI 1) hx hb dX6_isBroken_97 (by decide) ?_
            refine lv_goto (tgt := 102) hx hb dX6_isBroken_98 (by decide) ?_
            refine lv_istore_n (lv' := [(3, .int (nI 1)), (4, .int (nI i)), (2, .int (nI (kN (S 7 (5 * s1))))), (0, .ref (G 0)), (1, .int (nI s1))]) hx hb dX6_isBroken_102 rfl hl (by decide) rfl (fun ls hl => ?_)
            refine lv_iinc (v := nI (i + 1)) (lv' := [(4, .int (nI (i + 1))), (3, .int (nI 1)), (2, .int (nI (kN (S 7 (5 * s1))))), (0, .ref (G 0)), (1, .int (nI s1))]) hx hb dX6_isBroken_103 hl (k := 1) rfl (nI_add _ _) (by decide) rfl (fun ls hl => ?_)
            refine lv_goto (tgt := 36) hx hb dX6_isBroken_106 (by decide) ?_
            exact ih (i + 1) (nI 1) H locs ls (by omega) hq (by first | exact Or.inl rfl | exact Or.inr rfl) hP hS (lv_sub hl [0, 1, 2, 3, 4] rfl)
          · have hq := hq.trans (if_pos c_13)
            refine lv_iload hx hb dX6_isBroken_47 (lv_at hl 0 rfl) ?_
            refine lv_iload_n hx hb dX6_isBroken_49 rfl (lv_at hl 4 rfl) ?_
            refine lv_icmp_eq (tgt := 101) hx hb dX6_isBroken_50 (by decide) (fun c_14 => ?_) (fun c_14 => ?_)
            · have hq := hq.trans (if_pos c_14)
              refine lv_iconst (v := nI 0) hx hb dX6_isBroken_101 (by decide) ?_
              refine lv_istore_n (lv' := [(3, .int (nI 0)), (4, .int (nI i)), (2, .int (nI (kN (S 7 (5 * s1))))), (0, .ref (G 0)), (1, .int (nI s1))]) hx hb dX6_isBroken_102 rfl hl (by decide) rfl (fun ls hl => ?_)
              refine lv_iinc (v := nI (i + 1)) (lv' := [(4, .int (nI (i + 1))), (3, .int (nI 0)), (2, .int (nI (kN (S 7 (5 * s1))))), (0, .ref (G 0)), (1, .int (nI s1))]) hx hb dX6_isBroken_103 hl (k := 1) rfl (nI_add _ _) (by decide) rfl (fun ls hl => ?_)
              refine lv_goto (tgt := 36) hx hb dX6_isBroken_106 (by decide) ?_
              exact ih (i + 1) (nI 0) H locs ls (by omega) hq (by first | exact Or.inl rfl | exact Or.inr rfl) hP hS (lv_sub hl [0, 1, 2, 3, 4] rfl)
            · have hq := hq.trans (if_neg c_14)
              refine lv_iload hx hb dX6_isBroken_53 (lv_at hl 0 rfl) ?_
              refine lv_iload_n hx hb dX6_isBroken_55 rfl (lv_at hl 2 rfl) ?_
              refine lv_icmp_eq (tgt := 101) hx hb dX6_isBroken_56 (by decide) (fun c_15 => ?_) (fun c_15 => ?_)
              · have hq := hq.trans (if_pos c_15)
                refine lv_iconst (v := nI 0) hx hb dX6_isBroken_101 (by decide) ?_
                refine lv_istore_n (lv' := [(3, .int (nI 0)), (4, .int (nI i)), (2, .int (nI (kN (S 7 (5 * s1))))), (0, .ref (G 0)), (1, .int (nI s1))]) hx hb dX6_isBroken_102 rfl hl (by decide) rfl (fun ls hl => ?_)
                refine lv_iinc (v := nI (i + 1)) (lv' := [(4, .int (nI (i + 1))), (3, .int (nI 0)), (2, .int (nI (kN (S 7 (5 * s1))))), (0, .ref (G 0)), (1, .int (nI s1))]) hx hb dX6_isBroken_103 hl (k := 1) rfl (nI_add _ _) (by decide) rfl (fun ls hl => ?_)
                refine lv_goto (tgt := 36) hx hb dX6_isBroken_106 (by decide) ?_
                exact ih (i + 1) (nI 0) H locs ls (by omega) hq (by first | exact Or.inl rfl | exact Or.inr rfl) hP hS (lv_sub hl [0, 1, 2, 3, 4] rfl)
              · have hq := hq.trans (if_neg c_15)
                refine lv_aload_n hx hb dX6_isBroken_59 rfl (lv_at hl 3 rfl) ?_
                refine x_get hx hb hts mm_X6_isBroken_X6 hown hK hP (0) (by decide) (rfl) rfl 12 (by decide) (hts _ lk_X6_isBroken_41) rfl rfl dX6_isBroken_60 ?_
                refine lv_iload hx hb dX6_isBroken_63 (lv_at hl 0 rfl) ?_
                refine x_zald hx hb hK hP 10 2 (by decide) (rfl) rfl i (by omega) (by decide) dX6_isBroken_65 ?_
                refine lv_if_eq (tgt := 101) hx hb dX6_isBroken_66 (by decide) (fun c_16 => ?_) (fun c_16 => ?_)
                · have hq := hq.trans (if_pos c_16)
                  refine lv_iconst (v := nI 0) hx hb dX6_isBroken_101 (by decide) ?_
                  refine lv_istore_n (lv' := [(3, .int (nI 0)), (4, .int (nI i)), (2, .int (nI (kN (S 7 (5 * s1))))), (0, .ref (G 0)), (1, .int (nI s1))]) hx hb dX6_isBroken_102 rfl hl (by decide) rfl (fun ls hl => ?_)
                  refine lv_iinc (v := nI (i + 1)) (lv' := [(4, .int (nI (i + 1))), (3, .int (nI 0)), (2, .int (nI (kN (S 7 (5 * s1))))), (0, .ref (G 0)), (1, .int (nI s1))]) hx hb dX6_isBroken_103 hl (k := 1) rfl (nI_add _ _) (by decide) rfl (fun ls hl => ?_)
                  refine lv_goto (tgt := 36) hx hb dX6_isBroken_106 (by decide) ?_
                  exact ih (i + 1) (nI 0) H locs ls (by omega) hq (by first | exact Or.inl rfl | exact Or.inr rfl) hP hS (lv_sub hl [0, 1, 2, 3, 4] rfl)
                · have hq := hq.trans (if_neg c_16)
                  refine lv_aload_n hx hb dX6_isBroken_69 rfl (lv_at hl 3 rfl) ?_
                  refine lv_iload hx hb dX6_isBroken_70 (lv_at hl 0 rfl) ?_
                  refine lv_iload_n hx hb dX6_isBroken_72 rfl (lv_at hl 2 rfl) ?_
                  refine x_pi (va_runV (As := [.int (nI i), .int (nI (kN (S 7 (5 * s1))))]) (rest := []) ⟨hx, hb, hml, hown, hts⟩ (c_X6_heard l D cI cS cZ cJ G S H.size i (kN (S 7 (5 * s1))) (by omega) (by omega)) (cwV 2 hts gX6_isBroken_X6_heard rfl rfl rfl (by decide +kernel) ⟨Nat.le_of_ble_eq_true rfl, Nat.le_of_ble_eq_true rfl⟩) ⟨wPc_blind, va_recv hK hP (ci := 6) (q0 := 0) rfl (WL_at (by decide) (rfl)), wPc_at hP hK hD hN⟩ rfl rfl hl.1 rfl (lv_room (Nat.le_of_ble_eq_true rfl)) dX6_isBroken_73 ⟨Nat.le_refl _, Nat.le_refl _⟩) hS hA (fun q h => h) (fun H locs hz hk hS => ?_)
                  have hP := P_kept hP hk
                  refine lv_if_le (tgt := 101) hx hb dX6_isBroken_76 (by decide) (fun c_17 => ?_) (fun c_17 => ?_)
                  · have hq := hq.trans (if_pos c_17)
                    refine lv_iconst (v := nI 0) hx hb dX6_isBroken_101 (by decide) ?_
                    refine lv_istore_n (lv' := [(3, .int (nI 0)), (4, .int (nI i)), (2, .int (nI (kN (S 7 (5 * s1))))), (0, .ref (G 0)), (1, .int (nI s1))]) hx hb dX6_isBroken_102 rfl hl (by decide) rfl (fun ls hl => ?_)
                    refine lv_iinc (v := nI (i + 1)) (lv' := [(4, .int (nI (i + 1))), (3, .int (nI 0)), (2, .int (nI (kN (S 7 (5 * s1))))), (0, .ref (G 0)), (1, .int (nI s1))]) hx hb dX6_isBroken_103 hl (k := 1) rfl (nI_add _ _) (by decide) rfl (fun ls hl => ?_)
                    refine lv_goto (tgt := 36) hx hb dX6_isBroken_106 (by decide) ?_
                    exact ih (i + 1) (nI 0) H locs ls (by omega) hq (by first | exact Or.inl rfl | exact Or.inr rfl) hP hS (lv_sub hl [0, 1, 2, 3, 4] rfl)
                  · have hq := hq.trans (if_neg c_17)
                    refine lv_aload_n hx hb dX6_isBroken_79 rfl (lv_at hl 3 rfl) ?_
                    refine lv_iload hx hb dX6_isBroken_80 (lv_at hl 0 rfl) ?_
                    refine lv_iload_n hx hb dX6_isBroken_82 rfl (lv_at hl 2 rfl) ?_
                    refine x_pi (va_runV (As := [.int (nI i), .int (nI (kN (S 7 (5 * s1))))]) (rest := []) ⟨hx, hb, hml, hown, hts⟩ (c_X6_heard l D cI cS cZ cJ G S H.size i (kN (S 7 (5 * s1))) (by omega) (by omega)) (cwV 2 hts gX6_isBroken_X6_heard rfl rfl rfl (by decide +kernel) ⟨Nat.le_of_ble_eq_true rfl, Nat.le_of_ble_eq_true rfl⟩) ⟨wPc_blind, va_recv hK hP (ci := 6) (q0 := 0) rfl (WL_at (by decide) (rfl)), wPc_at hP hK hD hN⟩ rfl rfl hl.1 rfl (lv_room (Nat.le_of_ble_eq_true rfl)) dX6_isBroken_83 ⟨Nat.le_refl _, Nat.le_refl _⟩) hS hA (fun q h => h) (fun H locs hz hk hS => ?_)
                    have hP := P_kept hP hk
                    refine lv_aload_n hx hb dX6_isBroken_86 rfl (lv_at hl 3 rfl) ?_
                    refine lv_iload_n hx hb dX6_isBroken_87 rfl (lv_at hl 4 rfl) ?_
                    refine lv_iload_n hx hb dX6_isBroken_88 rfl (lv_at hl 2 rfl) ?_
                    refine x_pi (va_runV (As := [.int (nI s1), .int (nI (kN (S 7 (5 * s1))))]) (rest := [.int (f_X6_heard S i (kN (S 7 (5 * s1))))]) ⟨hx, hb, hml, hown, hts⟩ (c_X6_heard l D cI cS cZ cJ G S H.size s1 (kN (S 7 (5 * s1))) (by omega) (by omega)) (cwV 2 hts gX6_isBroken_X6_heard rfl rfl rfl (by decide +kernel) ⟨Nat.le_of_ble_eq_true rfl, Nat.le_of_ble_eq_true rfl⟩) ⟨wPc_blind, va_recv hK hP (ci := 6) (q0 := 0) rfl (WL_at (by decide) (rfl)), wPc_at hP hK hD hN⟩ rfl rfl hl.1 rfl (lv_room (Nat.le_of_ble_eq_true rfl)) dX6_isBroken_89 ⟨Nat.le_refl _, Nat.le_refl _⟩) hS hA (fun q h => h) (fun H locs hz hk hS => ?_)
                    have hP := P_kept hP hk
                    refine lv_iconst (v := nI 3) hx hb dX6_isBroken_92 (by decide) ?_
                    refine lv_isub hx hb dX6_isBroken_93 ?_
                    refine lv_icmp_le (tgt := 101) hx hb dX6_isBroken_94 (by decide) (fun c_18 => ?_) (fun c_18 => ?_)
                    · have hq := hq.trans (if_pos c_18)
                      refine lv_iconst (v := nI 0) hx hb dX6_isBroken_101 (by decide) ?_
                      refine lv_istore_n (lv' := [(3, .int (nI 0)), (4, .int (nI i)), (2, .int (nI (kN (S 7 (5 * s1))))), (0, .ref (G 0)), (1, .int (nI s1))]) hx hb dX6_isBroken_102 rfl hl (by decide) rfl (fun ls hl => ?_)
                      refine lv_iinc (v := nI (i + 1)) (lv' := [(4, .int (nI (i + 1))), (3, .int (nI 0)), (2, .int (nI (kN (S 7 (5 * s1))))), (0, .ref (G 0)), (1, .int (nI s1))]) hx hb dX6_isBroken_103 hl (k := 1) rfl (nI_add _ _) (by decide) rfl (fun ls hl => ?_)
                      refine lv_goto (tgt := 36) hx hb dX6_isBroken_106 (by decide) ?_
                      exact ih (i + 1) (nI 0) H locs ls (by omega) hq (by first | exact Or.inl rfl | exact Or.inr rfl) hP hS (lv_sub hl [0, 1, 2, 3, 4] rfl)
                    · have hq := hq.trans (if_neg c_18)
                      refine lv_iconst (v := nI 1) hx hb dX6_isBroken_97 (by decide) ?_
                      refine lv_goto (tgt := 102) hx hb dX6_isBroken_98 (by decide) ?_
                      refine lv_istore_n (lv' := [(3, .int (nI 1)), (4, .int (nI i)), (2, .int (nI (kN (S 7 (5 * s1))))), (0, .ref (G 0)), (1, .int (nI s1))]) hx hb dX6_isBroken_102 rfl hl (by decide) rfl (fun ls hl => ?_)
                      refine lv_iinc (v := nI (i + 1)) (lv' := [(4, .int (nI (i + 1))), (3, .int (nI 1)), (2, .int (nI (kN (S 7 (5 * s1))))), (0, .ref (G 0)), (1, .int (nI s1))]) hx hb dX6_isBroken_103 hl (k := 1) rfl (nI_add _ _) (by decide) rfl (fun ls hl => ?_)
                      refine lv_goto (tgt := 36) hx hb dX6_isBroken_106 (by decide) ?_
                      exact ih (i + 1) (nI 1) H locs ls (by omega) hq (by first | exact Or.inl rfl | exact Or.inr rfl) hP hS (lv_sub hl [0, 1, 2, 3, 4] rfl)
      exact L1 6 0 (nI 0) _ _ _ (by omega) hq (by first | exact Or.inl rfl | exact Or.inr rfl) hP hS (lv_sub hl [0, 1, 2, 3, 4] rfl)
    · have hq := hq.trans (if_pos c_10)
      refine lv_iconst (v := nI 1) hx hb dX6_isBroken_27 (by decide) ?_
      refine lv_goto (tgt := 32) hx hb dX6_isBroken_28 (by decide) ?_
      refine lv_istore_n (lv' := [(3, .int (nI 1)), (2, .int (nI (kN (S 7 (5 * s1))))), (0, .ref (G 0)), (1, .int (nI s1))]) hx hb dX6_isBroken_32 rfl hl (by decide) rfl (fun ls hl => ?_)
      refine lv_iconst (v := nI 0) hx hb dX6_isBroken_33 (by decide) ?_
      refine lv_istore (lv' := [(4, .int (nI 0)), (3, .int (nI 1)), (2, .int (nI (kN (S 7 (5 * s1))))), (0, .ref (G 0)), (1, .int (nI s1))]) hx hb dX6_isBroken_34 hl (by decide) rfl (fun ls hl => ?_)
      have L1 : ∀ (n : Nat) (i : Nat) (b : Int32) (H : Heap) (locs : List Loc) (ls : Array Slot), i + n = 6 → f_X6_isBroken S s1 = f_X6_isBroken_L1 S s1 n i b → (b = nI 0 ∨ b = nI 1) → va_P D vwCl (WL 20 G (mF cI cZ G) S) H → va_S (fun q => s.heap.size ≤ q) s.heap H locs → lv_has ls 5 [(4, .int (nI i)), (3, .int b), (2, .int (nI (kN (S 7 (5 * s1))))), (0, .ref (G 0)), (1, .int (nI s1))] → W p l e ({ frames := 2, cells := 0, slots := 0, locals := 42 } : Room) s m ([.ref (G 0), .int (nI s1)] : List Value).toArray below meth c H locs 0 0 (MQ below (pQi (f_X6_isBroken S s1) s.heap.size) ([.ref (G 0), .int (nI s1)] : List Value).toArray s 0 0 (fun q => s.heap.size ≤ q)) (F0 m 36 ls []) := by
        intro n
        induction n with
        | zero =>
          intro i b H locs ls hin hq hb01 hP hS hl
          have hq := hq.trans (f_X6_isBroken_L1_z _ _ _ _)
          refine lv_iload hx hb dX6_isBroken_36 (lv_at hl 0 rfl) ?_
          refine lv_bipush (v := nI 6) hx hb dX6_isBroken_38 (by decide) ?_
          refine lv_icmp_ge (tgt := 109) hx hb dX6_isBroken_40 (by decide) (fun _ => ?_) (fun c_19 => absurd (nI_le (by omega) (by omega)) c_19) 
          refine lv_iload_n hx hb dX6_isBroken_109 rfl (lv_at hl 1 rfl) ?_
          exact x_ret_p hx hb hr (nar01 hb01) hlocks hS dX6_isBroken_110 hq
        | succ n ih =>
          intro i b H locs ls hin hq hb01 hP hS hl
          have hq := hq.trans (f_X6_isBroken_L1_s _ _ _ _ _)
          refine lv_iload hx hb dX6_isBroken_36 (lv_at hl 0 rfl) ?_
          refine lv_bipush (v := nI 6) hx hb dX6_isBroken_38 (by decide) ?_
          refine lv_icmp_ge (tgt := 109) hx hb dX6_isBroken_40 (by decide) (fun c_20 => absurd c_20 (nI_ge (by omega) (by omega))) (fun _ => ?_)
          refine lv_iload_n hx hb dX6_isBroken_43 rfl (lv_at hl 1 rfl) ?_
          refine lv_if_ne (tgt := 97) hx hb dX6_isBroken_44 (by decide) (fun c_21 => ?_) (fun c_21 => ?_)
          · have hq := hq.trans (if_neg c_21)
            refine lv_iconst (v := nI 1) hx hb dX6_isBroken_97 (by decide) ?_
            refine lv_goto (tgt := 102) hx hb dX6_isBroken_98 (by decide) ?_
            refine lv_istore_n (lv' := [(3, .int (nI 1)), (4, .int (nI i)), (2, .int (nI (kN (S 7 (5 * s1))))), (0, .ref (G 0)), (1, .int (nI s1))]) hx hb dX6_isBroken_102 rfl hl (by decide) rfl (fun ls hl => ?_)
            refine lv_iinc (v := nI (i + 1)) (lv' := [(4, .int (nI (i + 1))), (3, .int (nI 1)), (2, .int (nI (kN (S 7 (5 * s1))))), (0, .ref (G 0)), (1, .int (nI s1))]) hx hb dX6_isBroken_103 hl (k := 1) rfl (nI_add _ _) (by decide) rfl (fun ls hl => ?_)
            refine lv_goto (tgt := 36) hx hb dX6_isBroken_106 (by decide) ?_
            exact ih (i + 1) (nI 1) H locs ls (by omega) hq (by first | exact Or.inl rfl | exact Or.inr rfl) hP hS (lv_sub hl [0, 1, 2, 3, 4] rfl)
          · have hq := hq.trans (if_pos c_21)
            refine lv_iload hx hb dX6_isBroken_47 (lv_at hl 0 rfl) ?_
            refine lv_iload_n hx hb dX6_isBroken_49 rfl (lv_at hl 4 rfl) ?_
            refine lv_icmp_eq (tgt := 101) hx hb dX6_isBroken_50 (by decide) (fun c_22 => ?_) (fun c_22 => ?_)
            · have hq := hq.trans (if_pos c_22)
              refine lv_iconst (v := nI 0) hx hb dX6_isBroken_101 (by decide) ?_
              refine lv_istore_n (lv' := [(3, .int (nI 0)), (4, .int (nI i)), (2, .int (nI (kN (S 7 (5 * s1))))), (0, .ref (G 0)), (1, .int (nI s1))]) hx hb dX6_isBroken_102 rfl hl (by decide) rfl (fun ls hl => ?_)
              refine lv_iinc (v := nI (i + 1)) (lv' := [(4, .int (nI (i + 1))), (3, .int (nI 0)), (2, .int (nI (kN (S 7 (5 * s1))))), (0, .ref (G 0)), (1, .int (nI s1))]) hx hb dX6_isBroken_103 hl (k := 1) rfl (nI_add _ _) (by decide) rfl (fun ls hl => ?_)
              refine lv_goto (tgt := 36) hx hb dX6_isBroken_106 (by decide) ?_
              exact ih (i + 1) (nI 0) H locs ls (by omega) hq (by first | exact Or.inl rfl | exact Or.inr rfl) hP hS (lv_sub hl [0, 1, 2, 3, 4] rfl)
            · have hq := hq.trans (if_neg c_22)
              refine lv_iload hx hb dX6_isBroken_53 (lv_at hl 0 rfl) ?_
              refine lv_iload_n hx hb dX6_isBroken_55 rfl (lv_at hl 2 rfl) ?_
              refine lv_icmp_eq (tgt := 101) hx hb dX6_isBroken_56 (by decide) (fun c_23 => ?_) (fun c_23 => ?_)
              · have hq := hq.trans (if_pos c_23)
                refine lv_iconst (v := nI 0) hx hb dX6_isBroken_101 (by decide) ?_
                refine lv_istore_n (lv' := [(3, .int (nI 0)), (4, .int (nI i)), (2, .int (nI (kN (S 7 (5 * s1))))), (0, .ref (G 0)), (1, .int (nI s1))]) hx hb dX6_isBroken_102 rfl hl (by decide) rfl (fun ls hl => ?_)
                refine lv_iinc (v := nI (i + 1)) (lv' := [(4, .int (nI (i + 1))), (3, .int (nI 0)), (2, .int (nI (kN (S 7 (5 * s1))))), (0, .ref (G 0)), (1, .int (nI s1))]) hx hb dX6_isBroken_103 hl (k := 1) rfl (nI_add _ _) (by decide) rfl (fun ls hl => ?_)
                refine lv_goto (tgt := 36) hx hb dX6_isBroken_106 (by decide) ?_
                exact ih (i + 1) (nI 0) H locs ls (by omega) hq (by first | exact Or.inl rfl | exact Or.inr rfl) hP hS (lv_sub hl [0, 1, 2, 3, 4] rfl)
              · have hq := hq.trans (if_neg c_23)
                refine lv_aload_n hx hb dX6_isBroken_59 rfl (lv_at hl 3 rfl) ?_
                refine x_get hx hb hts mm_X6_isBroken_X6 hown hK hP (0) (by decide) (rfl) rfl 12 (by decide) (hts _ lk_X6_isBroken_41) rfl rfl dX6_isBroken_60 ?_
                refine lv_iload hx hb dX6_isBroken_63 (lv_at hl 0 rfl) ?_
                refine x_zald hx hb hK hP 10 2 (by decide) (rfl) rfl i (by omega) (by decide) dX6_isBroken_65 ?_
                refine lv_if_eq (tgt := 101) hx hb dX6_isBroken_66 (by decide) (fun c_24 => ?_) (fun c_24 => ?_)
                · have hq := hq.trans (if_pos c_24)
                  refine lv_iconst (v := nI 0) hx hb dX6_isBroken_101 (by decide) ?_
                  refine lv_istore_n (lv' := [(3, .int (nI 0)), (4, .int (nI i)), (2, .int (nI (kN (S 7 (5 * s1))))), (0, .ref (G 0)), (1, .int (nI s1))]) hx hb dX6_isBroken_102 rfl hl (by decide) rfl (fun ls hl => ?_)
                  refine lv_iinc (v := nI (i + 1)) (lv' := [(4, .int (nI (i + 1))), (3, .int (nI 0)), (2, .int (nI (kN (S 7 (5 * s1))))), (0, .ref (G 0)), (1, .int (nI s1))]) hx hb dX6_isBroken_103 hl (k := 1) rfl (nI_add _ _) (by decide) rfl (fun ls hl => ?_)
                  refine lv_goto (tgt := 36) hx hb dX6_isBroken_106 (by decide) ?_
                  exact ih (i + 1) (nI 0) H locs ls (by omega) hq (by first | exact Or.inl rfl | exact Or.inr rfl) hP hS (lv_sub hl [0, 1, 2, 3, 4] rfl)
                · have hq := hq.trans (if_neg c_24)
                  refine lv_aload_n hx hb dX6_isBroken_69 rfl (lv_at hl 3 rfl) ?_
                  refine lv_iload hx hb dX6_isBroken_70 (lv_at hl 0 rfl) ?_
                  refine lv_iload_n hx hb dX6_isBroken_72 rfl (lv_at hl 2 rfl) ?_
                  refine x_pi (va_runV (As := [.int (nI i), .int (nI (kN (S 7 (5 * s1))))]) (rest := []) ⟨hx, hb, hml, hown, hts⟩ (c_X6_heard l D cI cS cZ cJ G S H.size i (kN (S 7 (5 * s1))) (by omega) (by omega)) (cwV 2 hts gX6_isBroken_X6_heard rfl rfl rfl (by decide +kernel) ⟨Nat.le_of_ble_eq_true rfl, Nat.le_of_ble_eq_true rfl⟩) ⟨wPc_blind, va_recv hK hP (ci := 6) (q0 := 0) rfl (WL_at (by decide) (rfl)), wPc_at hP hK hD hN⟩ rfl rfl hl.1 rfl (lv_room (Nat.le_of_ble_eq_true rfl)) dX6_isBroken_73 ⟨Nat.le_refl _, Nat.le_refl _⟩) hS hA (fun q h => h) (fun H locs hz hk hS => ?_)
                  have hP := P_kept hP hk
                  refine lv_if_le (tgt := 101) hx hb dX6_isBroken_76 (by decide) (fun c_25 => ?_) (fun c_25 => ?_)
                  · have hq := hq.trans (if_pos c_25)
                    refine lv_iconst (v := nI 0) hx hb dX6_isBroken_101 (by decide) ?_
                    refine lv_istore_n (lv' := [(3, .int (nI 0)), (4, .int (nI i)), (2, .int (nI (kN (S 7 (5 * s1))))), (0, .ref (G 0)), (1, .int (nI s1))]) hx hb dX6_isBroken_102 rfl hl (by decide) rfl (fun ls hl => ?_)
                    refine lv_iinc (v := nI (i + 1)) (lv' := [(4, .int (nI (i + 1))), (3, .int (nI 0)), (2, .int (nI (kN (S 7 (5 * s1))))), (0, .ref (G 0)), (1, .int (nI s1))]) hx hb dX6_isBroken_103 hl (k := 1) rfl (nI_add _ _) (by decide) rfl (fun ls hl => ?_)
                    refine lv_goto (tgt := 36) hx hb dX6_isBroken_106 (by decide) ?_
                    exact ih (i + 1) (nI 0) H locs ls (by omega) hq (by first | exact Or.inl rfl | exact Or.inr rfl) hP hS (lv_sub hl [0, 1, 2, 3, 4] rfl)
                  · have hq := hq.trans (if_neg c_25)
                    refine lv_aload_n hx hb dX6_isBroken_79 rfl (lv_at hl 3 rfl) ?_
                    refine lv_iload hx hb dX6_isBroken_80 (lv_at hl 0 rfl) ?_
                    refine lv_iload_n hx hb dX6_isBroken_82 rfl (lv_at hl 2 rfl) ?_
                    refine x_pi (va_runV (As := [.int (nI i), .int (nI (kN (S 7 (5 * s1))))]) (rest := []) ⟨hx, hb, hml, hown, hts⟩ (c_X6_heard l D cI cS cZ cJ G S H.size i (kN (S 7 (5 * s1))) (by omega) (by omega)) (cwV 2 hts gX6_isBroken_X6_heard rfl rfl rfl (by decide +kernel) ⟨Nat.le_of_ble_eq_true rfl, Nat.le_of_ble_eq_true rfl⟩) ⟨wPc_blind, va_recv hK hP (ci := 6) (q0 := 0) rfl (WL_at (by decide) (rfl)), wPc_at hP hK hD hN⟩ rfl rfl hl.1 rfl (lv_room (Nat.le_of_ble_eq_true rfl)) dX6_isBroken_83 ⟨Nat.le_refl _, Nat.le_refl _⟩) hS hA (fun q h => h) (fun H locs hz hk hS => ?_)
                    have hP := P_kept hP hk
                    refine lv_aload_n hx hb dX6_isBroken_86 rfl (lv_at hl 3 rfl) ?_
                    refine lv_iload_n hx hb dX6_isBroken_87 rfl (lv_at hl 4 rfl) ?_
                    refine lv_iload_n hx hb dX6_isBroken_88 rfl (lv_at hl 2 rfl) ?_
                    refine x_pi (va_runV (As := [.int (nI s1), .int (nI (kN (S 7 (5 * s1))))]) (rest := [.int (f_X6_heard S i (kN (S 7 (5 * s1))))]) ⟨hx, hb, hml, hown, hts⟩ (c_X6_heard l D cI cS cZ cJ G S H.size s1 (kN (S 7 (5 * s1))) (by omega) (by omega)) (cwV 2 hts gX6_isBroken_X6_heard rfl rfl rfl (by decide +kernel) ⟨Nat.le_of_ble_eq_true rfl, Nat.le_of_ble_eq_true rfl⟩) ⟨wPc_blind, va_recv hK hP (ci := 6) (q0 := 0) rfl (WL_at (by decide) (rfl)), wPc_at hP hK hD hN⟩ rfl rfl hl.1 rfl (lv_room (Nat.le_of_ble_eq_true rfl)) dX6_isBroken_89 ⟨Nat.le_refl _, Nat.le_refl _⟩) hS hA (fun q h => h) (fun H locs hz hk hS => ?_)
                    have hP := P_kept hP hk
                    refine lv_iconst (v := nI 3) hx hb dX6_isBroken_92 (by decide) ?_
                    refine lv_isub hx hb dX6_isBroken_93 ?_
                    refine lv_icmp_le (tgt := 101) hx hb dX6_isBroken_94 (by decide) (fun c_26 => ?_) (fun c_26 => ?_)
                    · have hq := hq.trans (if_pos c_26)
                      refine lv_iconst (v := nI 0) hx hb dX6_isBroken_101 (by decide) ?_
                      refine lv_istore_n (lv' := [(3, .int (nI 0)), (4, .int (nI i)), (2, .int (nI (kN (S 7 (5 * s1))))), (0, .ref (G 0)), (1, .int (nI s1))]) hx hb dX6_isBroken_102 rfl hl (by decide) rfl (fun ls hl => ?_)
                      refine lv_iinc (v := nI (i + 1)) (lv' := [(4, .int (nI (i + 1))), (3, .int (nI 0)), (2, .int (nI (kN (S 7 (5 * s1))))), (0, .ref (G 0)), (1, .int (nI s1))]) hx hb dX6_isBroken_103 hl (k := 1) rfl (nI_add _ _) (by decide) rfl (fun ls hl => ?_)
                      refine lv_goto (tgt := 36) hx hb dX6_isBroken_106 (by decide) ?_
                      exact ih (i + 1) (nI 0) H locs ls (by omega) hq (by first | exact Or.inl rfl | exact Or.inr rfl) hP hS (lv_sub hl [0, 1, 2, 3, 4] rfl)
                    · have hq := hq.trans (if_neg c_26)
                      refine lv_iconst (v := nI 1) hx hb dX6_isBroken_97 (by decide) ?_
                      refine lv_goto (tgt := 102) hx hb dX6_isBroken_98 (by decide) ?_
                      refine lv_istore_n (lv' := [(3, .int (nI 1)), (4, .int (nI i)), (2, .int (nI (kN (S 7 (5 * s1))))), (0, .ref (G 0)), (1, .int (nI s1))]) hx hb dX6_isBroken_102 rfl hl (by decide) rfl (fun ls hl => ?_)
                      refine lv_iinc (v := nI (i + 1)) (lv' := [(4, .int (nI (i + 1))), (3, .int (nI 1)), (2, .int (nI (kN (S 7 (5 * s1))))), (0, .ref (G 0)), (1, .int (nI s1))]) hx hb dX6_isBroken_103 hl (k := 1) rfl (nI_add _ _) (by decide) rfl (fun ls hl => ?_)
                      refine lv_goto (tgt := 36) hx hb dX6_isBroken_106 (by decide) ?_
                      exact ih (i + 1) (nI 1) H locs ls (by omega) hq (by first | exact Or.inl rfl | exact Or.inr rfl) hP hS (lv_sub hl [0, 1, 2, 3, 4] rfl)
      exact L1 6 0 (nI 1) _ _ _ (by omega) hq (by first | exact Or.inl rfl | exact Or.inr rfl) hP hS (lv_sub hl [0, 1, 2, 3, 4] rfl)

theorem mm_X6_fails_X6 : ∀ w ∈ wsX60, w ∈ wsX6_fails := by decide +kernel
theorem lk_X6_fails_20 : Cond.fieldLink RX6 20 "BackofficeAirModel" "window" "[I" ∈ wsX6_fails := by decide +kernel
theorem lk_X6_fails_26 : Cond.fieldLink RX6 26 "BackofficeAirModel" "failures" "[I" ∈ wsX6_fails := by decide +kernel
theorem lk_X6_fails_41 : Cond.fieldLink RX6 41 "BackofficeAirModel" "isSending" "[Z" ∈ wsX6_fails := by decide +kernel
theorem lk_X6_fails_63 : Cond.fieldLink RX6 63 "BackofficeAirModel" "dropped" "[I" ∈ wsX6_fails := by decide +kernel
def f_X6_fails (S : Mem) (s1 : Nat) : Mem := if ((nI 2) * ((ub (ub S 10 s1 (vp_nar .boolean (nI 0))) 5 s1 (((ub S 10 s1 (vp_nar .boolean (nI 0))) 5 s1) + (nI 1))) 3 s1)) + (nI 1) ≤ nI 31 then (if (ub (ub (ub S 10 s1 (vp_nar .boolean (nI 0))) 5 s1 (((ub S 10 s1 (vp_nar .boolean (nI 0))) 5 s1) + (nI 1))) 3 s1 (((nI 2) * ((ub (ub S 10 s1 (vp_nar .boolean (nI 0))) 5 s1 (((ub S 10 s1 (vp_nar .boolean (nI 0))) 5 s1) + (nI 1))) 3 s1)) + (nI 1))) 5 s1 = nI 5 then (ub (ub (ub (f_X6_leaves (ub (ub (ub S 10 s1 (vp_nar .boolean (nI 0))) 5 s1 (((ub S 10 s1 (vp_nar .boolean (nI 0))) 5 s1) + (nI 1))) 3 s1 (((nI 2) * ((ub (ub S 10 s1 (vp_nar .boolean (nI 0))) 5 s1 (((ub S 10 s1 (vp_nar .boolean (nI 0))) 5 s1) + (nI 1))) 3 s1)) + (nI 1))) s1) 17 s1 (((f_X6_leaves (ub (ub (ub S 10 s1 (vp_nar .boolean (nI 0))) 5 s1 (((ub S 10 s1 (vp_nar .boolean (nI 0))) 5 s1) + (nI 1))) 3 s1 (((nI 2) * ((ub (ub S 10 s1 (vp_nar .boolean (nI 0))) 5 s1 (((ub S 10 s1 (vp_nar .boolean (nI 0))) 5 s1) + (nI 1))) 3 s1)) + (nI 1))) s1) 17 s1) + (nI 1))) 3 s1 (f_X6_least (ub (f_X6_leaves (ub (ub (ub S 10 s1 (vp_nar .boolean (nI 0))) 5 s1 (((ub S 10 s1 (vp_nar .boolean (nI 0))) 5 s1) + (nI 1))) 3 s1 (((nI 2) * ((ub (ub S 10 s1 (vp_nar .boolean (nI 0))) 5 s1 (((ub S 10 s1 (vp_nar .boolean (nI 0))) 5 s1) + (nI 1))) 3 s1)) + (nI 1))) s1) 17 s1 (((f_X6_leaves (ub (ub (ub S 10 s1 (vp_nar .boolean (nI 0))) 5 s1 (((ub S 10 s1 (vp_nar .boolean (nI 0))) 5 s1) + (nI 1))) 3 s1 (((nI 2) * ((ub (ub S 10 s1 (vp_nar .boolean (nI 0))) 5 s1 (((ub S 10 s1 (vp_nar .boolean (nI 0))) 5 s1) + (nI 1))) 3 s1)) + (nI 1))) s1) 17 s1) + (nI 1))) s1)) 5 s1 (nI 0)) else (ub (ub (ub S 10 s1 (vp_nar .boolean (nI 0))) 5 s1 (((ub S 10 s1 (vp_nar .boolean (nI 0))) 5 s1) + (nI 1))) 3 s1 (((nI 2) * ((ub (ub S 10 s1 (vp_nar .boolean (nI 0))) 5 s1 (((ub S 10 s1 (vp_nar .boolean (nI 0))) 5 s1) + (nI 1))) 3 s1)) + (nI 1)))) else (if (ub (ub (ub S 10 s1 (vp_nar .boolean (nI 0))) 5 s1 (((ub S 10 s1 (vp_nar .boolean (nI 0))) 5 s1) + (nI 1))) 3 s1 (nI 31)) 5 s1 = nI 5 then (ub (ub (ub (f_X6_leaves (ub (ub (ub S 10 s1 (vp_nar .boolean (nI 0))) 5 s1 (((ub S 10 s1 (vp_nar .boolean (nI 0))) 5 s1) + (nI 1))) 3 s1 (nI 31)) s1) 17 s1 (((f_X6_leaves (ub (ub (ub S 10 s1 (vp_nar .boolean (nI 0))) 5 s1 (((ub S 10 s1 (vp_nar .boolean (nI 0))) 5 s1) + (nI 1))) 3 s1 (nI 31)) s1) 17 s1) + (nI 1))) 3 s1 (f_X6_least (ub (f_X6_leaves (ub (ub (ub S 10 s1 (vp_nar .boolean (nI 0))) 5 s1 (((ub S 10 s1 (vp_nar .boolean (nI 0))) 5 s1) + (nI 1))) 3 s1 (nI 31)) s1) 17 s1 (((f_X6_leaves (ub (ub (ub S 10 s1 (vp_nar .boolean (nI 0))) 5 s1 (((ub S 10 s1 (vp_nar .boolean (nI 0))) 5 s1) + (nI 1))) 3 s1 (nI 31)) s1) 17 s1) + (nI 1))) s1)) 5 s1 (nI 0)) else (ub (ub (ub S 10 s1 (vp_nar .boolean (nI 0))) 5 s1 (((ub S 10 s1 (vp_nar .boolean (nI 0))) 5 s1) + (nI 1))) 3 s1 (nI 31)))
theorem f_X6_fails_d (S : Mem) (s1 : Nat) : f_X6_fails S s1 = (if ((nI 2) * ((ub (ub S 10 s1 (vp_nar .boolean (nI 0))) 5 s1 (((ub S 10 s1 (vp_nar .boolean (nI 0))) 5 s1) + (nI 1))) 3 s1)) + (nI 1) ≤ nI 31 then (if (ub (ub (ub S 10 s1 (vp_nar .boolean (nI 0))) 5 s1 (((ub S 10 s1 (vp_nar .boolean (nI 0))) 5 s1) + (nI 1))) 3 s1 (((nI 2) * ((ub (ub S 10 s1 (vp_nar .boolean (nI 0))) 5 s1 (((ub S 10 s1 (vp_nar .boolean (nI 0))) 5 s1) + (nI 1))) 3 s1)) + (nI 1))) 5 s1 = nI 5 then (ub (ub (ub (f_X6_leaves (ub (ub (ub S 10 s1 (vp_nar .boolean (nI 0))) 5 s1 (((ub S 10 s1 (vp_nar .boolean (nI 0))) 5 s1) + (nI 1))) 3 s1 (((nI 2) * ((ub (ub S 10 s1 (vp_nar .boolean (nI 0))) 5 s1 (((ub S 10 s1 (vp_nar .boolean (nI 0))) 5 s1) + (nI 1))) 3 s1)) + (nI 1))) s1) 17 s1 (((f_X6_leaves (ub (ub (ub S 10 s1 (vp_nar .boolean (nI 0))) 5 s1 (((ub S 10 s1 (vp_nar .boolean (nI 0))) 5 s1) + (nI 1))) 3 s1 (((nI 2) * ((ub (ub S 10 s1 (vp_nar .boolean (nI 0))) 5 s1 (((ub S 10 s1 (vp_nar .boolean (nI 0))) 5 s1) + (nI 1))) 3 s1)) + (nI 1))) s1) 17 s1) + (nI 1))) 3 s1 (f_X6_least (ub (f_X6_leaves (ub (ub (ub S 10 s1 (vp_nar .boolean (nI 0))) 5 s1 (((ub S 10 s1 (vp_nar .boolean (nI 0))) 5 s1) + (nI 1))) 3 s1 (((nI 2) * ((ub (ub S 10 s1 (vp_nar .boolean (nI 0))) 5 s1 (((ub S 10 s1 (vp_nar .boolean (nI 0))) 5 s1) + (nI 1))) 3 s1)) + (nI 1))) s1) 17 s1 (((f_X6_leaves (ub (ub (ub S 10 s1 (vp_nar .boolean (nI 0))) 5 s1 (((ub S 10 s1 (vp_nar .boolean (nI 0))) 5 s1) + (nI 1))) 3 s1 (((nI 2) * ((ub (ub S 10 s1 (vp_nar .boolean (nI 0))) 5 s1 (((ub S 10 s1 (vp_nar .boolean (nI 0))) 5 s1) + (nI 1))) 3 s1)) + (nI 1))) s1) 17 s1) + (nI 1))) s1)) 5 s1 (nI 0)) else (ub (ub (ub S 10 s1 (vp_nar .boolean (nI 0))) 5 s1 (((ub S 10 s1 (vp_nar .boolean (nI 0))) 5 s1) + (nI 1))) 3 s1 (((nI 2) * ((ub (ub S 10 s1 (vp_nar .boolean (nI 0))) 5 s1 (((ub S 10 s1 (vp_nar .boolean (nI 0))) 5 s1) + (nI 1))) 3 s1)) + (nI 1)))) else (if (ub (ub (ub S 10 s1 (vp_nar .boolean (nI 0))) 5 s1 (((ub S 10 s1 (vp_nar .boolean (nI 0))) 5 s1) + (nI 1))) 3 s1 (nI 31)) 5 s1 = nI 5 then (ub (ub (ub (f_X6_leaves (ub (ub (ub S 10 s1 (vp_nar .boolean (nI 0))) 5 s1 (((ub S 10 s1 (vp_nar .boolean (nI 0))) 5 s1) + (nI 1))) 3 s1 (nI 31)) s1) 17 s1 (((f_X6_leaves (ub (ub (ub S 10 s1 (vp_nar .boolean (nI 0))) 5 s1 (((ub S 10 s1 (vp_nar .boolean (nI 0))) 5 s1) + (nI 1))) 3 s1 (nI 31)) s1) 17 s1) + (nI 1))) 3 s1 (f_X6_least (ub (f_X6_leaves (ub (ub (ub S 10 s1 (vp_nar .boolean (nI 0))) 5 s1 (((ub S 10 s1 (vp_nar .boolean (nI 0))) 5 s1) + (nI 1))) 3 s1 (nI 31)) s1) 17 s1 (((f_X6_leaves (ub (ub (ub S 10 s1 (vp_nar .boolean (nI 0))) 5 s1 (((ub S 10 s1 (vp_nar .boolean (nI 0))) 5 s1) + (nI 1))) 3 s1 (nI 31)) s1) 17 s1) + (nI 1))) s1)) 5 s1 (nI 0)) else (ub (ub (ub S 10 s1 (vp_nar .boolean (nI 0))) 5 s1 (((ub S 10 s1 (vp_nar .boolean (nI 0))) 5 s1) + (nI 1))) 3 s1 (nI 31)))) := rfl
set_option maxHeartbeats 1000000 in
set_option maxRecDepth 100000 in
theorem c_X6_fails (l : Launch) (D : va_G) (cI cS cZ cJ : ClassId) (G : Nat → Nat) (S : Mem) (sz : Nat) (s1 : Nat) (h1 : s1 < 6) (hfr : S 9 s1 = nI (kN (S 9 s1))) (hf5 : kN (S 9 s1) ≤ 5) : Met l yX6_fails wsX6_fails ({ frames := 2, cells := 0, slots := 0, locals := 42 } : Room) (wPc 20 (mF cI cZ G) D (tY cI cS cZ cJ) G S sz [.ref (G 0), .int (nI s1)]) (mQv (f_X6_fails S s1) 20 (mF cI cZ G) D G sz) 0 0 (fA 20 G sz) := by
  refine x_met (cc := cX6_fails) (maxL := 2) (ret := none) (by decide) rfl (Nat.le_of_ble_eq_true rfl) ?_
  intro p e s m below meth c ls hx hb hr hml hts hown hlocks hsz hP hK hD hN hl hnm
  subst hsz
  have hown : s.vm.findClass RX6 = some m.cls := hown
  have hl : lv_has ls 2 [(0, .ref (G 0)), (1, .int (nI s1))] := hl
  have hq := f_X6_fails_d S s1
  have hA : ∀ q : Nat, s.heap.size ≤ q → (fA 20 G s.heap.size) q := fun q h => Or.inr h
  have hS : va_S (fA 20 G s.heap.size) s.heap s.heap [] := va_S.rf
  refine lv_aload_n hx hb dX6_fails_0 rfl (lv_at hl 0 rfl) ?_
  refine x_get hx hb hts mm_X6_fails_X6 hown hK hP (0) (by decide) (rfl) rfl 12 (by decide) (hts _ lk_X6_fails_41) rfl rfl dX6_fails_1 ?_
  refine lv_iload_n hx hb dX6_fails_4 rfl (lv_at hl 1 rfl) ?_
  refine lv_iconst (v := nI 0) hx hb dX6_fails_5 (by decide) ?_
  refine x_zast hx hb hK hP hD hS 10 2 (by decide) ((fun _ => rfl)) rfl s1 (by omega) (by decide) dX6_fails_6 (fun H locs hP hS => ?_)
  refine lv_aload_n hx hb dX6_fails_7 rfl (lv_at hl 0 rfl) ?_
  refine x_get hx hb hts mm_X6_fails_X6 hown hK hP (0) (by decide) (rfl) rfl 7 (by decide) (hts _ lk_X6_fails_26) rfl rfl dX6_fails_8 ?_
  refine lv_iload_n hx hb dX6_fails_11 rfl (lv_at hl 1 rfl) ?_
  refine lv_dup2_11 hx hb dX6_fails_12 rfl rfl ?_
  refine x_iald hx hb hK hP 5 0 (by decide) (rfl) rfl s1 (by omega) (by decide) dX6_fails_13 ?_
  refine lv_iconst (v := nI 1) hx hb dX6_fails_14 (by decide) ?_
  refine lv_iadd hx hb dX6_fails_15 ?_
  refine x_iast hx hb hK hP hD hS 5 0 (by decide) ((fun _ => rfl)) rfl s1 (by omega) (by decide) dX6_fails_16 (fun H locs hP hS => ?_)
  refine lv_aload_n hx hb dX6_fails_17 rfl (lv_at hl 0 rfl) ?_
  refine x_get hx hb hts mm_X6_fails_X6 hown hK hP (0) (by decide) (rfl) rfl 5 (by decide) (hts _ lk_X6_fails_20) rfl rfl dX6_fails_18 ?_
  refine lv_iload_n hx hb dX6_fails_21 rfl (lv_at hl 1 rfl) ?_
  refine lv_iconst (v := nI 2) hx hb dX6_fails_22 (by decide) ?_
  refine lv_aload_n hx hb dX6_fails_23 rfl (lv_at hl 0 rfl) ?_
  refine x_get hx hb hts mm_X6_fails_X6 hown hK hP (0) (by decide) (rfl) rfl 5 (by decide) (hts _ lk_X6_fails_20) rfl rfl dX6_fails_24 ?_
  refine lv_iload_n hx hb dX6_fails_27 rfl (lv_at hl 1 rfl) ?_
  refine x_iald hx hb hK hP 3 0 (by decide) (rfl) rfl s1 (by omega) (by decide) dX6_fails_28 ?_
  refine lv_imul hx hb dX6_fails_29 ?_
  refine lv_iconst (v := nI 1) hx hb dX6_fails_30 (by decide) ?_
  refine lv_iadd hx hb dX6_fails_31 ?_
  refine lv_bipush (v := nI 31) hx hb dX6_fails_32 (by decide) ?_
  refine lv_icmp_le (tgt := 42) hx hb dX6_fails_34 (by decide) (fun c_1 => ?_) (fun c_1 => ?_)
  · have hq := hq.trans (if_pos c_1)
    refine lv_iconst (v := nI 2) hx hb dX6_fails_42 (by decide) ?_
    refine lv_aload_n hx hb dX6_fails_43 rfl (lv_at hl 0 rfl) ?_
    refine x_get hx hb hts mm_X6_fails_X6 hown hK hP (0) (by decide) (rfl) rfl 5 (by decide) (hts _ lk_X6_fails_20) rfl rfl dX6_fails_44 ?_
    refine lv_iload_n hx hb dX6_fails_47 rfl (lv_at hl 1 rfl) ?_
    refine x_iald hx hb hK hP 3 0 (by decide) (rfl) rfl s1 (by omega) (by decide) dX6_fails_48 ?_
    refine lv_imul hx hb dX6_fails_49 ?_
    refine lv_iconst (v := nI 1) hx hb dX6_fails_50 (by decide) ?_
    refine lv_iadd hx hb dX6_fails_51 ?_
    refine x_iast hx hb hK hP hD hS 3 0 (by decide) ((fun _ => rfl)) rfl s1 (by omega) (by decide) dX6_fails_52 (fun H locs hP hS => ?_)
    refine lv_aload_n hx hb dX6_fails_53 rfl (lv_at hl 0 rfl) ?_
    refine x_get hx hb hts mm_X6_fails_X6 hown hK hP (0) (by decide) (rfl) rfl 7 (by decide) (hts _ lk_X6_fails_26) rfl rfl dX6_fails_54 ?_
    refine lv_iload_n hx hb dX6_fails_57 rfl (lv_at hl 1 rfl) ?_
    refine x_iald hx hb hK hP 5 0 (by decide) (rfl) rfl s1 (by omega) (by decide) dX6_fails_58 ?_
    refine lv_iconst (v := nI 5) hx hb dX6_fails_59 (by decide) ?_
    refine lv_icmp_ne (tgt := 96) hx hb dX6_fails_60 (by decide) (fun c_2 => ?_) (fun c_2 => ?_)
    · have hq := hq.trans (if_neg c_2)
      exact x_ret_v hx hb hr hlocks hP hS dX6_fails_96 hq
    · have hq := hq.trans (if_pos c_2)
      refine lv_aload_n hx hb dX6_fails_63 rfl (lv_at hl 0 rfl) ?_
      refine lv_iload_n hx hb dX6_fails_64 rfl (lv_at hl 1 rfl) ?_
      refine x_mv (va_runV (As := [.int (nI s1)]) (rest := []) ⟨hx, hb, hml, hown, hts⟩ (c_X6_leaves l D cI cS cZ cJ G (ub (ub (ub S 10 s1 (vp_nar .boolean (nI 0))) 5 s1 (((ub S 10 s1 (vp_nar .boolean (nI 0))) 5 s1) + (nI 1))) 3 s1 (((nI 2) * ((ub (ub S 10 s1 (vp_nar .boolean (nI 0))) 5 s1 (((ub S 10 s1 (vp_nar .boolean (nI 0))) 5 s1) + (nI 1))) 3 s1)) + (nI 1))) H.size s1 h1 (by rw [ub_ne _ _ _ (by decide), ub_ne _ _ _ (by decide), ub_ne _ _ _ (by decide)]; exact hfr) (by rw [ub_ne _ _ _ (by decide), ub_ne _ _ _ (by decide), ub_ne _ _ _ (by decide)]; exact hf5)) (cwV 1 hts gX6_fails_X6_leaves rfl rfl rfl (by decide +kernel) ⟨Nat.le_of_ble_eq_true rfl, Nat.le_of_ble_eq_true rfl⟩) ⟨wPc_blind, va_recv hK hP (ci := 6) (q0 := 0) rfl (WL_at (by decide) (rfl)), wPc_at hP hK hD hN⟩ rfl rfl hl.1 rfl (lv_room (Nat.le_of_ble_eq_true rfl)) dX6_fails_65 ⟨Nat.le_refl _, Nat.le_refl _⟩) hS (fA_sub (hD S) (fun q h => hA q (Nat.le_trans hS.1 h))) (fun H locs hz hk hP hS => ?_)
      refine lv_aload_n hx hb dX6_fails_68 rfl (lv_at hl 0 rfl) ?_
      refine x_get hx hb hts mm_X6_fails_X6 hown hK hP (0) (by decide) (rfl) rfl 19 (by decide) (hts _ lk_X6_fails_63) rfl rfl dX6_fails_69 ?_
      refine lv_iload_n hx hb dX6_fails_72 rfl (lv_at hl 1 rfl) ?_
      refine lv_dup2_11 hx hb dX6_fails_73 rfl rfl ?_
      refine x_iald hx hb hK hP 17 0 (by decide) (rfl) rfl s1 (by omega) (by decide) dX6_fails_74 ?_
      refine lv_iconst (v := nI 1) hx hb dX6_fails_75 (by decide) ?_
      refine lv_iadd hx hb dX6_fails_76 ?_
      refine x_iast hx hb hK hP hD hS 17 0 (by decide) ((fun _ => rfl)) rfl s1 (by omega) (by decide) dX6_fails_77 (fun H locs hP hS => ?_)
      refine lv_aload_n hx hb dX6_fails_78 rfl (lv_at hl 0 rfl) ?_
      refine x_get hx hb hts mm_X6_fails_X6 hown hK hP (0) (by decide) (rfl) rfl 5 (by decide) (hts _ lk_X6_fails_20) rfl rfl dX6_fails_79 ?_
      refine lv_iload_n hx hb dX6_fails_82 rfl (lv_at hl 1 rfl) ?_
      refine lv_aload_n hx hb dX6_fails_83 rfl (lv_at hl 0 rfl) ?_
      refine lv_iload_n hx hb dX6_fails_84 rfl (lv_at hl 1 rfl) ?_
      refine x_pi (va_runV (As := [.int (nI s1)]) (rest := [.int (nI s1), .ref (G 3)]) ⟨hx, hb, hml, hown, hts⟩ (c_X6_least l D cI cS cZ cJ G (ub (f_X6_leaves (ub (ub (ub S 10 s1 (vp_nar .boolean (nI 0))) 5 s1 (((ub S 10 s1 (vp_nar .boolean (nI 0))) 5 s1) + (nI 1))) 3 s1 (((nI 2) * ((ub (ub S 10 s1 (vp_nar .boolean (nI 0))) 5 s1 (((ub S 10 s1 (vp_nar .boolean (nI 0))) 5 s1) + (nI 1))) 3 s1)) + (nI 1))) s1) 17 s1 (((f_X6_leaves (ub (ub (ub S 10 s1 (vp_nar .boolean (nI 0))) 5 s1 (((ub S 10 s1 (vp_nar .boolean (nI 0))) 5 s1) + (nI 1))) 3 s1 (((nI 2) * ((ub (ub S 10 s1 (vp_nar .boolean (nI 0))) 5 s1 (((ub S 10 s1 (vp_nar .boolean (nI 0))) 5 s1) + (nI 1))) 3 s1)) + (nI 1))) s1) 17 s1) + (nI 1))) H.size s1 (by omega)) (cwV 1 hts gX6_fails_X6_least rfl rfl rfl (by decide +kernel) ⟨Nat.le_of_ble_eq_true rfl, Nat.le_of_ble_eq_true rfl⟩) ⟨wPc_blind, va_recv hK hP (ci := 6) (q0 := 0) rfl (WL_at (by decide) (rfl)), wPc_at hP hK hD hN⟩ rfl rfl hl.1 rfl (lv_room (Nat.le_of_ble_eq_true rfl)) dX6_fails_85 ⟨Nat.le_refl _, Nat.le_refl _⟩) hS hA (fun q h => h) (fun H locs hz hk hS => ?_)
      have hP := P_kept hP hk
      refine x_iast hx hb hK hP hD hS 3 0 (by decide) ((fun _ => rfl)) rfl s1 (by omega) (by decide) dX6_fails_88 (fun H locs hP hS => ?_)
      refine lv_aload_n hx hb dX6_fails_89 rfl (lv_at hl 0 rfl) ?_
      refine x_get hx hb hts mm_X6_fails_X6 hown hK hP (0) (by decide) (rfl) rfl 7 (by decide) (hts _ lk_X6_fails_26) rfl rfl dX6_fails_90 ?_
      refine lv_iload_n hx hb dX6_fails_93 rfl (lv_at hl 1 rfl) ?_
      refine lv_iconst (v := nI 0) hx hb dX6_fails_94 (by decide) ?_
      refine x_iast hx hb hK hP hD hS 5 0 (by decide) ((fun _ => rfl)) rfl s1 (by omega) (by decide) dX6_fails_95 (fun H locs hP hS => ?_)
      exact x_ret_v hx hb hr hlocks hP hS dX6_fails_96 hq
  · have hq := hq.trans (if_neg c_1)
    refine lv_bipush (v := nI 31) hx hb dX6_fails_37 (by decide) ?_
    refine lv_goto (tgt := 52) hx hb dX6_fails_39 (by decide) ?_
    refine x_iast hx hb hK hP hD hS 3 0 (by decide) ((fun _ => rfl)) rfl s1 (by omega) (by decide) dX6_fails_52 (fun H locs hP hS => ?_)
    refine lv_aload_n hx hb dX6_fails_53 rfl (lv_at hl 0 rfl) ?_
    refine x_get hx hb hts mm_X6_fails_X6 hown hK hP (0) (by decide) (rfl) rfl 7 (by decide) (hts _ lk_X6_fails_26) rfl rfl dX6_fails_54 ?_
    refine lv_iload_n hx hb dX6_fails_57 rfl (lv_at hl 1 rfl) ?_
    refine x_iald hx hb hK hP 5 0 (by decide) (rfl) rfl s1 (by omega) (by decide) dX6_fails_58 ?_
    refine lv_iconst (v := nI 5) hx hb dX6_fails_59 (by decide) ?_
    refine lv_icmp_ne (tgt := 96) hx hb dX6_fails_60 (by decide) (fun c_3 => ?_) (fun c_3 => ?_)
    · have hq := hq.trans (if_neg c_3)
      exact x_ret_v hx hb hr hlocks hP hS dX6_fails_96 hq
    · have hq := hq.trans (if_pos c_3)
      refine lv_aload_n hx hb dX6_fails_63 rfl (lv_at hl 0 rfl) ?_
      refine lv_iload_n hx hb dX6_fails_64 rfl (lv_at hl 1 rfl) ?_
      refine x_mv (va_runV (As := [.int (nI s1)]) (rest := []) ⟨hx, hb, hml, hown, hts⟩ (c_X6_leaves l D cI cS cZ cJ G (ub (ub (ub S 10 s1 (vp_nar .boolean (nI 0))) 5 s1 (((ub S 10 s1 (vp_nar .boolean (nI 0))) 5 s1) + (nI 1))) 3 s1 (nI 31)) H.size s1 h1 (by rw [ub_ne _ _ _ (by decide), ub_ne _ _ _ (by decide), ub_ne _ _ _ (by decide)]; exact hfr) (by rw [ub_ne _ _ _ (by decide), ub_ne _ _ _ (by decide), ub_ne _ _ _ (by decide)]; exact hf5)) (cwV 1 hts gX6_fails_X6_leaves rfl rfl rfl (by decide +kernel) ⟨Nat.le_of_ble_eq_true rfl, Nat.le_of_ble_eq_true rfl⟩) ⟨wPc_blind, va_recv hK hP (ci := 6) (q0 := 0) rfl (WL_at (by decide) (rfl)), wPc_at hP hK hD hN⟩ rfl rfl hl.1 rfl (lv_room (Nat.le_of_ble_eq_true rfl)) dX6_fails_65 ⟨Nat.le_refl _, Nat.le_refl _⟩) hS (fA_sub (hD S) (fun q h => hA q (Nat.le_trans hS.1 h))) (fun H locs hz hk hP hS => ?_)
      refine lv_aload_n hx hb dX6_fails_68 rfl (lv_at hl 0 rfl) ?_
      refine x_get hx hb hts mm_X6_fails_X6 hown hK hP (0) (by decide) (rfl) rfl 19 (by decide) (hts _ lk_X6_fails_63) rfl rfl dX6_fails_69 ?_
      refine lv_iload_n hx hb dX6_fails_72 rfl (lv_at hl 1 rfl) ?_
      refine lv_dup2_11 hx hb dX6_fails_73 rfl rfl ?_
      refine x_iald hx hb hK hP 17 0 (by decide) (rfl) rfl s1 (by omega) (by decide) dX6_fails_74 ?_
      refine lv_iconst (v := nI 1) hx hb dX6_fails_75 (by decide) ?_
      refine lv_iadd hx hb dX6_fails_76 ?_
      refine x_iast hx hb hK hP hD hS 17 0 (by decide) ((fun _ => rfl)) rfl s1 (by omega) (by decide) dX6_fails_77 (fun H locs hP hS => ?_)
      refine lv_aload_n hx hb dX6_fails_78 rfl (lv_at hl 0 rfl) ?_
      refine x_get hx hb hts mm_X6_fails_X6 hown hK hP (0) (by decide) (rfl) rfl 5 (by decide) (hts _ lk_X6_fails_20) rfl rfl dX6_fails_79 ?_
      refine lv_iload_n hx hb dX6_fails_82 rfl (lv_at hl 1 rfl) ?_
      refine lv_aload_n hx hb dX6_fails_83 rfl (lv_at hl 0 rfl) ?_
      refine lv_iload_n hx hb dX6_fails_84 rfl (lv_at hl 1 rfl) ?_
      refine x_pi (va_runV (As := [.int (nI s1)]) (rest := [.int (nI s1), .ref (G 3)]) ⟨hx, hb, hml, hown, hts⟩ (c_X6_least l D cI cS cZ cJ G (ub (f_X6_leaves (ub (ub (ub S 10 s1 (vp_nar .boolean (nI 0))) 5 s1 (((ub S 10 s1 (vp_nar .boolean (nI 0))) 5 s1) + (nI 1))) 3 s1 (nI 31)) s1) 17 s1 (((f_X6_leaves (ub (ub (ub S 10 s1 (vp_nar .boolean (nI 0))) 5 s1 (((ub S 10 s1 (vp_nar .boolean (nI 0))) 5 s1) + (nI 1))) 3 s1 (nI 31)) s1) 17 s1) + (nI 1))) H.size s1 (by omega)) (cwV 1 hts gX6_fails_X6_least rfl rfl rfl (by decide +kernel) ⟨Nat.le_of_ble_eq_true rfl, Nat.le_of_ble_eq_true rfl⟩) ⟨wPc_blind, va_recv hK hP (ci := 6) (q0 := 0) rfl (WL_at (by decide) (rfl)), wPc_at hP hK hD hN⟩ rfl rfl hl.1 rfl (lv_room (Nat.le_of_ble_eq_true rfl)) dX6_fails_85 ⟨Nat.le_refl _, Nat.le_refl _⟩) hS hA (fun q h => h) (fun H locs hz hk hS => ?_)
      have hP := P_kept hP hk
      refine x_iast hx hb hK hP hD hS 3 0 (by decide) ((fun _ => rfl)) rfl s1 (by omega) (by decide) dX6_fails_88 (fun H locs hP hS => ?_)
      refine lv_aload_n hx hb dX6_fails_89 rfl (lv_at hl 0 rfl) ?_
      refine x_get hx hb hts mm_X6_fails_X6 hown hK hP (0) (by decide) (rfl) rfl 7 (by decide) (hts _ lk_X6_fails_26) rfl rfl dX6_fails_90 ?_
      refine lv_iload_n hx hb dX6_fails_93 rfl (lv_at hl 1 rfl) ?_
      refine lv_iconst (v := nI 0) hx hb dX6_fails_94 (by decide) ?_
      refine x_iast hx hb hK hP hD hS 5 0 (by decide) ((fun _ => rfl)) rfl s1 (by omega) (by decide) dX6_fails_95 (fun H locs hP hS => ?_)
      exact x_ret_v hx hb hr hlocks hP hS dX6_fails_96 hq

theorem mm_X6_silences_X6 : ∀ w ∈ wsX60, w ∈ wsX6_silences := by decide +kernel
theorem lk_X6_silences_29 : Cond.fieldLink RX6 29 "BackofficeAirModel" "silenced" "[I" ∈ wsX6_silences := by decide +kernel
theorem lk_X6_silences_32 : Cond.fieldLink RX6 32 "BackofficeAirModel" "goal" "[I" ∈ wsX6_silences := by decide +kernel
theorem lk_X6_silences_54 : Cond.fieldLink RX6 54 "BackofficeAirModel" "last" "[I" ∈ wsX6_silences := by decide +kernel
def f_X6_silences_L1 (s1 : Nat) : Nat → Nat → Mem → Nat → Mem
  | 0, i, S_L1, to => S_L1
  | n + 1, i, S_L1, to => if nI i = nI s1 then (f_X6_silences_L1 s1 n (i + 1) S_L1 to) else (if nI i = nI to then (f_X6_silences_L1 s1 n (i + 1) S_L1 to) else (if f_X6_heard S_L1 i to ≤ 0 then (f_X6_silences_L1 s1 n (i + 1) S_L1 to) else (if S_L1 14 s1 ≤ S_L1 6 i then (f_X6_silences_L1 s1 n (i + 1) S_L1 to) else (f_X6_silences_L1 s1 n (i + 1) (ub S_L1 6 i (S_L1 14 s1)) to))))
theorem f_X6_silences_L1_z (s1 : Nat) (i : Nat) (S_L1 : Mem) (to : Nat) : f_X6_silences_L1 s1 0 i S_L1 to = (S_L1) := rfl
theorem f_X6_silences_L1_s (s1 : Nat) (n : Nat) (i : Nat) (S_L1 : Mem) (to : Nat) : f_X6_silences_L1 s1 (n + 1) i S_L1 to = (if nI i = nI s1 then (f_X6_silences_L1 s1 n (i + 1) S_L1 to) else (if nI i = nI to then (f_X6_silences_L1 s1 n (i + 1) S_L1 to) else (if f_X6_heard S_L1 i to ≤ 0 then (f_X6_silences_L1 s1 n (i + 1) S_L1 to) else (if S_L1 14 s1 ≤ S_L1 6 i then (f_X6_silences_L1 s1 n (i + 1) S_L1 to) else (f_X6_silences_L1 s1 n (i + 1) (ub S_L1 6 i (S_L1 14 s1)) to))))) := rfl
def f_X6_silences (S : Mem) (s1 : Nat) : Mem := f_X6_silences_L1 s1 6 0 S (kN (S 7 (5 * s1)))
theorem f_X6_silences_d (S : Mem) (s1 : Nat) : f_X6_silences S s1 = (f_X6_silences_L1 s1 6 0 S (kN (S 7 (5 * s1)))) := rfl
set_option maxHeartbeats 1000000 in
set_option maxRecDepth 100000 in
theorem c_X6_silences (l : Launch) (D : va_G) (cI cS cZ cJ : ClassId) (G : Nat → Nat) (S : Mem) (sz : Nat) (s1 : Nat) (h1 : s1 < 6) (hg : S 7 (5 * s1) = nI (kN (S 7 (5 * s1)))) (hg6 : kN (S 7 (5 * s1)) < 6) : Met l yX6_silences wsX6_silences ({ frames := 2, cells := 0, slots := 0, locals := 42 } : Room) (wPc 20 (mF cI cZ G) D (tY cI cS cZ cJ) G S sz [.ref (G 0), .int (nI s1)]) (mQv (f_X6_silences S s1) 20 (mF cI cZ G) D G sz) 0 0 (fA 20 G sz) := by
  refine x_met (cc := cX6_silences) (maxL := 4) (ret := none) (by decide) rfl (Nat.le_of_ble_eq_true rfl) ?_
  intro p e s m below meth c ls hx hb hr hml hts hown hlocks hsz hP hK hD hN hl hnm
  subst hsz
  have hown : s.vm.findClass RX6 = some m.cls := hown
  have hl : lv_has ls 4 [(0, .ref (G 0)), (1, .int (nI s1))] := hl
  have hq := f_X6_silences_d S s1
  have hA : ∀ q : Nat, s.heap.size ≤ q → (fA 20 G s.heap.size) q := fun q h => Or.inr h
  have hS : va_S (fA 20 G s.heap.size) s.heap s.heap [] := va_S.rf
  refine lv_aload_n hx hb dX6_silences_0 rfl (lv_at hl 0 rfl) ?_
  refine x_get hx hb hts mm_X6_silences_X6 hown hK hP (0) (by decide) (rfl) rfl 9 (by decide) (hts _ lk_X6_silences_32) rfl rfl dX6_silences_1 ?_
  refine lv_iconst (v := nI 5) hx hb dX6_silences_4 (by decide) ?_
  refine lv_iload_n hx hb dX6_silences_5 rfl (lv_at hl 1 rfl) ?_
  refine x_imulN hx hb dX6_silences_6 ?_
  refine x_iald hx hb hK hP 7 0 (by decide) (rfl) rfl (5 * s1) (by omega) (by decide) dX6_silences_7 ?_
  refine x_top (y := nI (kN (S 7 (5 * s1)))) (hg) ?_
  refine lv_istore_n (lv' := [(2, .int (nI (kN (S 7 (5 * s1))))), (0, .ref (G 0)), (1, .int (nI s1))]) hx hb dX6_silences_8 rfl hl (by decide) rfl (fun ls hl => ?_)
  refine lv_iconst (v := nI 0) hx hb dX6_silences_9 (by decide) ?_
  refine lv_istore_n (lv' := [(3, .int (nI 0)), (2, .int (nI (kN (S 7 (5 * s1))))), (0, .ref (G 0)), (1, .int (nI s1))]) hx hb dX6_silences_10 rfl hl (by decide) rfl (fun ls hl => ?_)
  have L1 : ∀ (n : Nat) (i : Nat) (S_L1 : Mem) (to : Nat) (H : Heap) (locs : List Loc) (ls : Array Slot), i + n = 6 → f_X6_silences S s1 = f_X6_silences_L1 s1 n i S_L1 to → (to < 6) → va_P D vwCl (WL 20 G (mF cI cZ G) S_L1) H → va_S (fA 20 G s.heap.size) s.heap H locs → lv_has ls 4 [(3, .int (nI i)), (2, .int (nI to)), (0, .ref (G 0)), (1, .int (nI s1))] → W p l e ({ frames := 2, cells := 0, slots := 0, locals := 42 } : Room) s m ([.ref (G 0), .int (nI s1)] : List Value).toArray below meth c H locs 0 0 (MQ below (mQv (f_X6_silences S s1) 20 (mF cI cZ G) D G s.heap.size) ([.ref (G 0), .int (nI s1)] : List Value).toArray s 0 0 (fA 20 G s.heap.size)) (F0 m 11 ls []) := by
    intro n
    induction n with
    | zero =>
      intro i S_L1 to H locs ls hin hq hto hP hS hl
      have hq := hq.trans (f_X6_silences_L1_z _ _ _ _)
      refine lv_iload_n hx hb dX6_silences_11 rfl (lv_at hl 0 rfl) ?_
      refine lv_bipush (v := nI 6) hx hb dX6_silences_12 (by decide) ?_
      refine lv_icmp_ge (tgt := 69) hx hb dX6_silences_14 (by decide) (fun _ => ?_) (fun c_1 => absurd (nI_le (by omega) (by omega)) c_1) 
      exact x_ret_v hx hb hr hlocks hP hS dX6_silences_69 hq
    | succ n ih =>
      intro i S_L1 to H locs ls hin hq hto hP hS hl
      have hq := hq.trans (f_X6_silences_L1_s _ _ _ _ _)
      refine lv_iload_n hx hb dX6_silences_11 rfl (lv_at hl 0 rfl) ?_
      refine lv_bipush (v := nI 6) hx hb dX6_silences_12 (by decide) ?_
      refine lv_icmp_ge (tgt := 69) hx hb dX6_silences_14 (by decide) (fun c_2 => absurd c_2 (nI_ge (by omega) (by omega))) (fun _ => ?_)
      refine lv_iload_n hx hb dX6_silences_17 rfl (lv_at hl 0 rfl) ?_
      refine lv_iload_n hx hb dX6_silences_18 rfl (lv_at hl 3 rfl) ?_
      refine lv_icmp_eq (tgt := 63) hx hb dX6_silences_19 (by decide) (fun c_3 => ?_) (fun c_3 => ?_)
      · have hq := hq.trans (if_pos c_3)
        refine lv_iinc (v := nI (i + 1)) (lv' := [(3, .int (nI (i + 1))), (2, .int (nI to)), (0, .ref (G 0)), (1, .int (nI s1))]) hx hb dX6_silences_63 hl (k := 0) rfl (nI_add _ _) (by decide) rfl (fun ls hl => ?_)
        refine lv_goto (tgt := 11) hx hb dX6_silences_66 (by decide) ?_
        exact ih (i + 1) S_L1 to H locs ls (by omega) hq hto hP hS (lv_sub hl [0, 1, 2, 3] rfl)
      · have hq := hq.trans (if_neg c_3)
        refine lv_iload_n hx hb dX6_silences_22 rfl (lv_at hl 0 rfl) ?_
        refine lv_iload_n hx hb dX6_silences_23 rfl (lv_at hl 1 rfl) ?_
        refine lv_icmp_eq (tgt := 63) hx hb dX6_silences_24 (by decide) (fun c_4 => ?_) (fun c_4 => ?_)
        · have hq := hq.trans (if_pos c_4)
          refine lv_iinc (v := nI (i + 1)) (lv' := [(3, .int (nI (i + 1))), (2, .int (nI to)), (0, .ref (G 0)), (1, .int (nI s1))]) hx hb dX6_silences_63 hl (k := 0) rfl (nI_add _ _) (by decide) rfl (fun ls hl => ?_)
          refine lv_goto (tgt := 11) hx hb dX6_silences_66 (by decide) ?_
          exact ih (i + 1) S_L1 to H locs ls (by omega) hq hto hP hS (lv_sub hl [0, 1, 2, 3] rfl)
        · have hq := hq.trans (if_neg c_4)
          refine lv_aload_n hx hb dX6_silences_27 rfl (lv_at hl 2 rfl) ?_
          refine lv_iload_n hx hb dX6_silences_28 rfl (lv_at hl 0 rfl) ?_
          refine lv_iload_n hx hb dX6_silences_29 rfl (lv_at hl 1 rfl) ?_
          refine x_pi (va_runV (As := [.int (nI i), .int (nI to)]) (rest := []) ⟨hx, hb, hml, hown, hts⟩ (c_X6_heard l D cI cS cZ cJ G S_L1 H.size i to (by omega) (by omega)) (cwV 2 hts gX6_silences_X6_heard rfl rfl rfl (by decide +kernel) ⟨Nat.le_of_ble_eq_true rfl, Nat.le_of_ble_eq_true rfl⟩) ⟨wPc_blind, va_recv hK hP (ci := 6) (q0 := 0) rfl (WL_at (by decide) (rfl)), wPc_at hP hK hD hN⟩ rfl rfl hl.1 rfl (lv_room (Nat.le_of_ble_eq_true rfl)) dX6_silences_30 ⟨Nat.le_refl _, Nat.le_refl _⟩) hS hA (fun q h => h) (fun H locs hz hk hS => ?_)
          have hP := P_kept hP hk
          refine lv_if_le (tgt := 63) hx hb dX6_silences_33 (by decide) (fun c_5 => ?_) (fun c_5 => ?_)
          · have hq := hq.trans (if_pos c_5)
            refine lv_iinc (v := nI (i + 1)) (lv' := [(3, .int (nI (i + 1))), (2, .int (nI to)), (0, .ref (G 0)), (1, .int (nI s1))]) hx hb dX6_silences_63 hl (k := 0) rfl (nI_add _ _) (by decide) rfl (fun ls hl => ?_)
            refine lv_goto (tgt := 11) hx hb dX6_silences_66 (by decide) ?_
            exact ih (i + 1) S_L1 to H locs ls (by omega) hq hto hP hS (lv_sub hl [0, 1, 2, 3] rfl)
          · have hq := hq.trans (if_neg c_5)
            refine lv_aload_n hx hb dX6_silences_36 rfl (lv_at hl 2 rfl) ?_
            refine x_get hx hb hts mm_X6_silences_X6 hown hK hP (0) (by decide) (rfl) rfl 8 (by decide) (hts _ lk_X6_silences_29) rfl rfl dX6_silences_37 ?_
            refine lv_iload_n hx hb dX6_silences_40 rfl (lv_at hl 0 rfl) ?_
            refine x_iald hx hb hK hP 6 0 (by decide) (rfl) rfl i (by omega) (by decide) dX6_silences_41 ?_
            refine lv_aload_n hx hb dX6_silences_42 rfl (lv_at hl 2 rfl) ?_
            refine x_get hx hb hts mm_X6_silences_X6 hown hK hP (0) (by decide) (rfl) rfl 16 (by decide) (hts _ lk_X6_silences_54) rfl rfl dX6_silences_43 ?_
            refine lv_iload_n hx hb dX6_silences_46 rfl (lv_at hl 3 rfl) ?_
            refine x_iald hx hb hK hP 14 0 (by decide) (rfl) rfl s1 (by omega) (by decide) dX6_silences_47 ?_
            refine lv_icmp_ge (tgt := 63) hx hb dX6_silences_48 (by decide) (fun c_6 => ?_) (fun c_6 => ?_)
            · have hq := hq.trans (if_pos c_6)
              refine lv_iinc (v := nI (i + 1)) (lv' := [(3, .int (nI (i + 1))), (2, .int (nI to)), (0, .ref (G 0)), (1, .int (nI s1))]) hx hb dX6_silences_63 hl (k := 0) rfl (nI_add _ _) (by decide) rfl (fun ls hl => ?_)
              refine lv_goto (tgt := 11) hx hb dX6_silences_66 (by decide) ?_
              exact ih (i + 1) S_L1 to H locs ls (by omega) hq hto hP hS (lv_sub hl [0, 1, 2, 3] rfl)
            · have hq := hq.trans (if_neg c_6)
              refine lv_aload_n hx hb dX6_silences_51 rfl (lv_at hl 2 rfl) ?_
              refine x_get hx hb hts mm_X6_silences_X6 hown hK hP (0) (by decide) (rfl) rfl 8 (by decide) (hts _ lk_X6_silences_29) rfl rfl dX6_silences_52 ?_
              refine lv_iload_n hx hb dX6_silences_55 rfl (lv_at hl 0 rfl) ?_
              refine lv_aload_n hx hb dX6_silences_56 rfl (lv_at hl 2 rfl) ?_
              refine x_get hx hb hts mm_X6_silences_X6 hown hK hP (0) (by decide) (rfl) rfl 16 (by decide) (hts _ lk_X6_silences_54) rfl rfl dX6_silences_57 ?_
              refine lv_iload_n hx hb dX6_silences_60 rfl (lv_at hl 3 rfl) ?_
              refine x_iald hx hb hK hP 14 0 (by decide) (rfl) rfl s1 (by omega) (by decide) dX6_silences_61 ?_
              refine x_iast hx hb hK hP hD hS 6 0 (by decide) ((fun _ => rfl)) rfl i (by omega) (by decide) dX6_silences_62 (fun H locs hP hS => ?_)
              refine lv_iinc (v := nI (i + 1)) (lv' := [(3, .int (nI (i + 1))), (2, .int (nI to)), (0, .ref (G 0)), (1, .int (nI s1))]) hx hb dX6_silences_63 hl (k := 0) rfl (nI_add _ _) (by decide) rfl (fun ls hl => ?_)
              refine lv_goto (tgt := 11) hx hb dX6_silences_66 (by decide) ?_
              exact ih (i + 1) (ub S_L1 6 i (S_L1 14 s1)) to H locs ls (by omega) hq hto hP hS (lv_sub hl [0, 1, 2, 3] rfl)
  exact L1 6 0 S (kN (S 7 (5 * s1))) _ _ _ (by omega) hq hg6 hP hS (lv_sub hl [0, 1, 2, 3] rfl)

theorem mm_X6_ends_X6 : ∀ w ∈ wsX60, w ∈ wsX6_ends := by decide +kernel
theorem lk_X6_ends_20 : Cond.fieldLink RX6 20 "BackofficeAirModel" "window" "[I" ∈ wsX6_ends := by decide +kernel
theorem lk_X6_ends_26 : Cond.fieldLink RX6 26 "BackofficeAirModel" "failures" "[I" ∈ wsX6_ends := by decide +kernel
theorem lk_X6_ends_35 : Cond.fieldLink RX6 35 "BackofficeAirModel" "left" "[I" ∈ wsX6_ends := by decide +kernel
theorem lk_X6_ends_41 : Cond.fieldLink RX6 41 "BackofficeAirModel" "isSending" "[Z" ∈ wsX6_ends := by decide +kernel
theorem lk_X6_ends_57 : Cond.fieldLink RX6 57 "BackofficeAirModel" "broken" "[I" ∈ wsX6_ends := by decide +kernel
theorem lk_X6_ends_60 : Cond.fieldLink RX6 60 "BackofficeAirModel" "delivered" "[I" ∈ wsX6_ends := by decide +kernel
def f_X6_ends (S : Mem) (s1 : Nat) : Mem := if (S 8 (5 * s1)) &&& ((S 15 s1) ^^^ ((-1))) = 0 then (f_X6_fails S s1) else (if (ub (ub (ub (ub (ub S 10 s1 (vp_nar .boolean (nI 0))) 16 s1 (((ub S 10 s1 (vp_nar .boolean (nI 0))) 16 s1) + (f_X6_count ((S 8 (5 * s1)) &&& ((S 15 s1) ^^^ ((-1))))))) 8 (5 * s1) (((ub (ub S 10 s1 (vp_nar .boolean (nI 0))) 16 s1 (((ub S 10 s1 (vp_nar .boolean (nI 0))) 16 s1) + (f_X6_count ((S 8 (5 * s1)) &&& ((S 15 s1) ^^^ ((-1))))))) 8 (5 * s1)) &&& ((ub (ub S 10 s1 (vp_nar .boolean (nI 0))) 16 s1 (((ub S 10 s1 (vp_nar .boolean (nI 0))) 16 s1) + (f_X6_count ((S 8 (5 * s1)) &&& ((S 15 s1) ^^^ ((-1))))))) 15 s1))) 3 s1 (f_X6_least (ub (ub (ub S 10 s1 (vp_nar .boolean (nI 0))) 16 s1 (((ub S 10 s1 (vp_nar .boolean (nI 0))) 16 s1) + (f_X6_count ((S 8 (5 * s1)) &&& ((S 15 s1) ^^^ ((-1))))))) 8 (5 * s1) (((ub (ub S 10 s1 (vp_nar .boolean (nI 0))) 16 s1 (((ub S 10 s1 (vp_nar .boolean (nI 0))) 16 s1) + (f_X6_count ((S 8 (5 * s1)) &&& ((S 15 s1) ^^^ ((-1))))))) 8 (5 * s1)) &&& ((ub (ub S 10 s1 (vp_nar .boolean (nI 0))) 16 s1 (((ub S 10 s1 (vp_nar .boolean (nI 0))) 16 s1) + (f_X6_count ((S 8 (5 * s1)) &&& ((S 15 s1) ^^^ ((-1))))))) 15 s1))) s1)) 5 s1 (nI 0)) 8 (5 * s1) = 0 then (f_X6_leaves (ub (ub (ub (ub (ub S 10 s1 (vp_nar .boolean (nI 0))) 16 s1 (((ub S 10 s1 (vp_nar .boolean (nI 0))) 16 s1) + (f_X6_count ((S 8 (5 * s1)) &&& ((S 15 s1) ^^^ ((-1))))))) 8 (5 * s1) (((ub (ub S 10 s1 (vp_nar .boolean (nI 0))) 16 s1 (((ub S 10 s1 (vp_nar .boolean (nI 0))) 16 s1) + (f_X6_count ((S 8 (5 * s1)) &&& ((S 15 s1) ^^^ ((-1))))))) 8 (5 * s1)) &&& ((ub (ub S 10 s1 (vp_nar .boolean (nI 0))) 16 s1 (((ub S 10 s1 (vp_nar .boolean (nI 0))) 16 s1) + (f_X6_count ((S 8 (5 * s1)) &&& ((S 15 s1) ^^^ ((-1))))))) 15 s1))) 3 s1 (f_X6_least (ub (ub (ub S 10 s1 (vp_nar .boolean (nI 0))) 16 s1 (((ub S 10 s1 (vp_nar .boolean (nI 0))) 16 s1) + (f_X6_count ((S 8 (5 * s1)) &&& ((S 15 s1) ^^^ ((-1))))))) 8 (5 * s1) (((ub (ub S 10 s1 (vp_nar .boolean (nI 0))) 16 s1 (((ub S 10 s1 (vp_nar .boolean (nI 0))) 16 s1) + (f_X6_count ((S 8 (5 * s1)) &&& ((S 15 s1) ^^^ ((-1))))))) 8 (5 * s1)) &&& ((ub (ub S 10 s1 (vp_nar .boolean (nI 0))) 16 s1 (((ub S 10 s1 (vp_nar .boolean (nI 0))) 16 s1) + (f_X6_count ((S 8 (5 * s1)) &&& ((S 15 s1) ^^^ ((-1))))))) 15 s1))) s1)) 5 s1 (nI 0)) s1) else (ub (ub (ub (ub (ub S 10 s1 (vp_nar .boolean (nI 0))) 16 s1 (((ub S 10 s1 (vp_nar .boolean (nI 0))) 16 s1) + (f_X6_count ((S 8 (5 * s1)) &&& ((S 15 s1) ^^^ ((-1))))))) 8 (5 * s1) (((ub (ub S 10 s1 (vp_nar .boolean (nI 0))) 16 s1 (((ub S 10 s1 (vp_nar .boolean (nI 0))) 16 s1) + (f_X6_count ((S 8 (5 * s1)) &&& ((S 15 s1) ^^^ ((-1))))))) 8 (5 * s1)) &&& ((ub (ub S 10 s1 (vp_nar .boolean (nI 0))) 16 s1 (((ub S 10 s1 (vp_nar .boolean (nI 0))) 16 s1) + (f_X6_count ((S 8 (5 * s1)) &&& ((S 15 s1) ^^^ ((-1))))))) 15 s1))) 3 s1 (f_X6_least (ub (ub (ub S 10 s1 (vp_nar .boolean (nI 0))) 16 s1 (((ub S 10 s1 (vp_nar .boolean (nI 0))) 16 s1) + (f_X6_count ((S 8 (5 * s1)) &&& ((S 15 s1) ^^^ ((-1))))))) 8 (5 * s1) (((ub (ub S 10 s1 (vp_nar .boolean (nI 0))) 16 s1 (((ub S 10 s1 (vp_nar .boolean (nI 0))) 16 s1) + (f_X6_count ((S 8 (5 * s1)) &&& ((S 15 s1) ^^^ ((-1))))))) 8 (5 * s1)) &&& ((ub (ub S 10 s1 (vp_nar .boolean (nI 0))) 16 s1 (((ub S 10 s1 (vp_nar .boolean (nI 0))) 16 s1) + (f_X6_count ((S 8 (5 * s1)) &&& ((S 15 s1) ^^^ ((-1))))))) 15 s1))) s1)) 5 s1 (nI 0)))
theorem f_X6_ends_d (S : Mem) (s1 : Nat) : f_X6_ends S s1 = (if (S 8 (5 * s1)) &&& ((S 15 s1) ^^^ ((-1))) = 0 then (f_X6_fails S s1) else (if (ub (ub (ub (ub (ub S 10 s1 (vp_nar .boolean (nI 0))) 16 s1 (((ub S 10 s1 (vp_nar .boolean (nI 0))) 16 s1) + (f_X6_count ((S 8 (5 * s1)) &&& ((S 15 s1) ^^^ ((-1))))))) 8 (5 * s1) (((ub (ub S 10 s1 (vp_nar .boolean (nI 0))) 16 s1 (((ub S 10 s1 (vp_nar .boolean (nI 0))) 16 s1) + (f_X6_count ((S 8 (5 * s1)) &&& ((S 15 s1) ^^^ ((-1))))))) 8 (5 * s1)) &&& ((ub (ub S 10 s1 (vp_nar .boolean (nI 0))) 16 s1 (((ub S 10 s1 (vp_nar .boolean (nI 0))) 16 s1) + (f_X6_count ((S 8 (5 * s1)) &&& ((S 15 s1) ^^^ ((-1))))))) 15 s1))) 3 s1 (f_X6_least (ub (ub (ub S 10 s1 (vp_nar .boolean (nI 0))) 16 s1 (((ub S 10 s1 (vp_nar .boolean (nI 0))) 16 s1) + (f_X6_count ((S 8 (5 * s1)) &&& ((S 15 s1) ^^^ ((-1))))))) 8 (5 * s1) (((ub (ub S 10 s1 (vp_nar .boolean (nI 0))) 16 s1 (((ub S 10 s1 (vp_nar .boolean (nI 0))) 16 s1) + (f_X6_count ((S 8 (5 * s1)) &&& ((S 15 s1) ^^^ ((-1))))))) 8 (5 * s1)) &&& ((ub (ub S 10 s1 (vp_nar .boolean (nI 0))) 16 s1 (((ub S 10 s1 (vp_nar .boolean (nI 0))) 16 s1) + (f_X6_count ((S 8 (5 * s1)) &&& ((S 15 s1) ^^^ ((-1))))))) 15 s1))) s1)) 5 s1 (nI 0)) 8 (5 * s1) = 0 then (f_X6_leaves (ub (ub (ub (ub (ub S 10 s1 (vp_nar .boolean (nI 0))) 16 s1 (((ub S 10 s1 (vp_nar .boolean (nI 0))) 16 s1) + (f_X6_count ((S 8 (5 * s1)) &&& ((S 15 s1) ^^^ ((-1))))))) 8 (5 * s1) (((ub (ub S 10 s1 (vp_nar .boolean (nI 0))) 16 s1 (((ub S 10 s1 (vp_nar .boolean (nI 0))) 16 s1) + (f_X6_count ((S 8 (5 * s1)) &&& ((S 15 s1) ^^^ ((-1))))))) 8 (5 * s1)) &&& ((ub (ub S 10 s1 (vp_nar .boolean (nI 0))) 16 s1 (((ub S 10 s1 (vp_nar .boolean (nI 0))) 16 s1) + (f_X6_count ((S 8 (5 * s1)) &&& ((S 15 s1) ^^^ ((-1))))))) 15 s1))) 3 s1 (f_X6_least (ub (ub (ub S 10 s1 (vp_nar .boolean (nI 0))) 16 s1 (((ub S 10 s1 (vp_nar .boolean (nI 0))) 16 s1) + (f_X6_count ((S 8 (5 * s1)) &&& ((S 15 s1) ^^^ ((-1))))))) 8 (5 * s1) (((ub (ub S 10 s1 (vp_nar .boolean (nI 0))) 16 s1 (((ub S 10 s1 (vp_nar .boolean (nI 0))) 16 s1) + (f_X6_count ((S 8 (5 * s1)) &&& ((S 15 s1) ^^^ ((-1))))))) 8 (5 * s1)) &&& ((ub (ub S 10 s1 (vp_nar .boolean (nI 0))) 16 s1 (((ub S 10 s1 (vp_nar .boolean (nI 0))) 16 s1) + (f_X6_count ((S 8 (5 * s1)) &&& ((S 15 s1) ^^^ ((-1))))))) 15 s1))) s1)) 5 s1 (nI 0)) s1) else (ub (ub (ub (ub (ub S 10 s1 (vp_nar .boolean (nI 0))) 16 s1 (((ub S 10 s1 (vp_nar .boolean (nI 0))) 16 s1) + (f_X6_count ((S 8 (5 * s1)) &&& ((S 15 s1) ^^^ ((-1))))))) 8 (5 * s1) (((ub (ub S 10 s1 (vp_nar .boolean (nI 0))) 16 s1 (((ub S 10 s1 (vp_nar .boolean (nI 0))) 16 s1) + (f_X6_count ((S 8 (5 * s1)) &&& ((S 15 s1) ^^^ ((-1))))))) 8 (5 * s1)) &&& ((ub (ub S 10 s1 (vp_nar .boolean (nI 0))) 16 s1 (((ub S 10 s1 (vp_nar .boolean (nI 0))) 16 s1) + (f_X6_count ((S 8 (5 * s1)) &&& ((S 15 s1) ^^^ ((-1))))))) 15 s1))) 3 s1 (f_X6_least (ub (ub (ub S 10 s1 (vp_nar .boolean (nI 0))) 16 s1 (((ub S 10 s1 (vp_nar .boolean (nI 0))) 16 s1) + (f_X6_count ((S 8 (5 * s1)) &&& ((S 15 s1) ^^^ ((-1))))))) 8 (5 * s1) (((ub (ub S 10 s1 (vp_nar .boolean (nI 0))) 16 s1 (((ub S 10 s1 (vp_nar .boolean (nI 0))) 16 s1) + (f_X6_count ((S 8 (5 * s1)) &&& ((S 15 s1) ^^^ ((-1))))))) 8 (5 * s1)) &&& ((ub (ub S 10 s1 (vp_nar .boolean (nI 0))) 16 s1 (((ub S 10 s1 (vp_nar .boolean (nI 0))) 16 s1) + (f_X6_count ((S 8 (5 * s1)) &&& ((S 15 s1) ^^^ ((-1))))))) 15 s1))) s1)) 5 s1 (nI 0)))) := rfl
set_option maxHeartbeats 1000000 in
set_option maxRecDepth 100000 in
theorem c_X6_ends (l : Launch) (D : va_G) (cI cS cZ cJ : ClassId) (G : Nat → Nat) (S : Mem) (sz : Nat) (s1 : Nat) (h1 : s1 < 6) (hfr : S 9 s1 = nI (kN (S 9 s1))) (hf5 : kN (S 9 s1) ≤ 5) : Met l yX6_ends wsX6_ends ({ frames := 3, cells := 0, slots := 0, locals := 63 } : Room) (wPc 20 (mF cI cZ G) D (tY cI cS cZ cJ) G S sz [.ref (G 0), .int (nI s1)]) (mQv (f_X6_ends S s1) 20 (mF cI cZ G) D G sz) 0 0 (fA 20 G sz) := by
  refine x_met (cc := cX6_ends) (maxL := 3) (ret := none) (by decide) rfl (Nat.le_of_ble_eq_true rfl) ?_
  intro p e s m below meth c ls hx hb hr hml hts hown hlocks hsz hP hK hD hN hl hnm
  subst hsz
  have hown : s.vm.findClass RX6 = some m.cls := hown
  have hl : lv_has ls 3 [(0, .ref (G 0)), (1, .int (nI s1))] := hl
  have hq := f_X6_ends_d S s1
  have hA : ∀ q : Nat, s.heap.size ≤ q → (fA 20 G s.heap.size) q := fun q h => Or.inr h
  have hS : va_S (fA 20 G s.heap.size) s.heap s.heap [] := va_S.rf
  refine lv_aload_n hx hb dX6_ends_0 rfl (lv_at hl 0 rfl) ?_
  refine x_get hx hb hts mm_X6_ends_X6 hown hK hP (0) (by decide) (rfl) rfl 10 (by decide) (hts _ lk_X6_ends_35) rfl rfl dX6_ends_1 ?_
  refine lv_iconst (v := nI 5) hx hb dX6_ends_4 (by decide) ?_
  refine lv_iload_n hx hb dX6_ends_5 rfl (lv_at hl 1 rfl) ?_
  refine x_imulN hx hb dX6_ends_6 ?_
  refine x_iald hx hb hK hP 8 0 (by decide) (rfl) rfl (5 * s1) (by omega) (by decide) dX6_ends_7 ?_
  refine lv_aload_n hx hb dX6_ends_8 rfl (lv_at hl 0 rfl) ?_
  refine x_get hx hb hts mm_X6_ends_X6 hown hK hP (0) (by decide) (rfl) rfl 17 (by decide) (hts _ lk_X6_ends_57) rfl rfl dX6_ends_9 ?_
  refine lv_iload_n hx hb dX6_ends_12 rfl (lv_at hl 1 rfl) ?_
  refine x_iald hx hb hK hP 15 0 (by decide) (rfl) rfl s1 (by omega) (by decide) dX6_ends_13 ?_
  refine lv_iconst (v := (-1)) hx hb dX6_ends_14 (by decide) ?_
  refine lv_ixor hx hb dX6_ends_15 ?_
  refine lv_iand hx hb dX6_ends_16 ?_
  refine lv_istore_n (lv' := [(2, .int ((S 8 (5 * s1)) &&& ((S 15 s1) ^^^ ((-1))))), (0, .ref (G 0)), (1, .int (nI s1))]) hx hb dX6_ends_17 rfl hl (by decide) rfl (fun ls hl => ?_)
  refine lv_iload_n hx hb dX6_ends_18 rfl (lv_at hl 0 rfl) ?_
  refine lv_if_ne (tgt := 28) hx hb dX6_ends_19 (by decide) (fun c_1 => ?_) (fun c_1 => ?_)
  · have hq := hq.trans (if_neg c_1)
    refine lv_aload_n hx hb dX6_ends_28 rfl (lv_at hl 1 rfl) ?_
    refine x_get hx hb hts mm_X6_ends_X6 hown hK hP (0) (by decide) (rfl) rfl 12 (by decide) (hts _ lk_X6_ends_41) rfl rfl dX6_ends_29 ?_
    refine lv_iload_n hx hb dX6_ends_32 rfl (lv_at hl 2 rfl) ?_
    refine lv_iconst (v := nI 0) hx hb dX6_ends_33 (by decide) ?_
    refine x_zast hx hb hK hP hD hS 10 2 (by decide) ((fun _ => rfl)) rfl s1 (by omega) (by decide) dX6_ends_34 (fun H locs hP hS => ?_)
    refine lv_aload_n hx hb dX6_ends_35 rfl (lv_at hl 1 rfl) ?_
    refine x_get hx hb hts mm_X6_ends_X6 hown hK hP (0) (by decide) (rfl) rfl 18 (by decide) (hts _ lk_X6_ends_60) rfl rfl dX6_ends_36 ?_
    refine lv_iload_n hx hb dX6_ends_39 rfl (lv_at hl 2 rfl) ?_
    refine lv_dup2_11 hx hb dX6_ends_40 rfl rfl ?_
    refine x_iald hx hb hK hP 16 0 (by decide) (rfl) rfl s1 (by omega) (by decide) dX6_ends_41 ?_
    refine lv_iload_n hx hb dX6_ends_42 rfl (lv_at hl 0 rfl) ?_
    refine x_pi (va_runS (As := [.int ((S 8 (5 * s1)) &&& ((S 15 s1) ^^^ ((-1))))]) (rest := [.int ((ub S 10 s1 (vp_nar .boolean (nI 0))) 16 s1), .int (nI s1), .ref (G 16)]) ⟨hx, hb, hml, hown, hts⟩ (c_X6_count l H.size ((S 8 (5 * s1)) &&& ((S 15 s1) ^^^ ((-1))))) (va_cwS 1 hts gX6_ends_X6_count rfl rfl rfl (by decide +kernel) ⟨Nat.le_of_ble_eq_true rfl, Nat.le_of_ble_eq_true rfl⟩) ⟨sPc_blind, sPc_at hN⟩ rfl rfl hl.1 rfl (lv_room (Nat.le_of_ble_eq_true rfl)) dX6_ends_43 ⟨Nat.le_refl _, Nat.le_refl _⟩) hS hA (fun q h => h) (fun H locs hz hk hS => ?_)
    have hP := P_kept hP hk
    refine lv_iadd hx hb dX6_ends_46 ?_
    refine x_iast hx hb hK hP hD hS 16 0 (by decide) ((fun _ => rfl)) rfl s1 (by omega) (by decide) dX6_ends_47 (fun H locs hP hS => ?_)
    refine lv_aload_n hx hb dX6_ends_48 rfl (lv_at hl 1 rfl) ?_
    refine x_get hx hb hts mm_X6_ends_X6 hown hK hP (0) (by decide) (rfl) rfl 10 (by decide) (hts _ lk_X6_ends_35) rfl rfl dX6_ends_49 ?_
    refine lv_iconst (v := nI 5) hx hb dX6_ends_52 (by decide) ?_
    refine lv_iload_n hx hb dX6_ends_53 rfl (lv_at hl 2 rfl) ?_
    refine x_imulN hx hb dX6_ends_54 ?_
    refine lv_dup2_11 hx hb dX6_ends_55 rfl rfl ?_
    refine x_iald hx hb hK hP 8 0 (by decide) (rfl) rfl (5 * s1) (by omega) (by decide) dX6_ends_56 ?_
    refine lv_aload_n hx hb dX6_ends_57 rfl (lv_at hl 1 rfl) ?_
    refine x_get hx hb hts mm_X6_ends_X6 hown hK hP (0) (by decide) (rfl) rfl 17 (by decide) (hts _ lk_X6_ends_57) rfl rfl dX6_ends_58 ?_
    refine lv_iload_n hx hb dX6_ends_61 rfl (lv_at hl 2 rfl) ?_
    refine x_iald hx hb hK hP 15 0 (by decide) (rfl) rfl s1 (by omega) (by decide) dX6_ends_62 ?_
    refine lv_iand hx hb dX6_ends_63 ?_
    refine x_iast hx hb hK hP hD hS 8 0 (by decide) ((fun _ => rfl)) rfl (5 * s1) (by omega) (by decide) dX6_ends_64 (fun H locs hP hS => ?_)
    refine lv_aload_n hx hb dX6_ends_65 rfl (lv_at hl 1 rfl) ?_
    refine x_get hx hb hts mm_X6_ends_X6 hown hK hP (0) (by decide) (rfl) rfl 5 (by decide) (hts _ lk_X6_ends_20) rfl rfl dX6_ends_66 ?_
    refine lv_iload_n hx hb dX6_ends_69 rfl (lv_at hl 2 rfl) ?_
    refine lv_aload_n hx hb dX6_ends_70 rfl (lv_at hl 1 rfl) ?_
    refine lv_iload_n hx hb dX6_ends_71 rfl (lv_at hl 2 rfl) ?_
    refine x_pi (va_runV (As := [.int (nI s1)]) (rest := [.int (nI s1), .ref (G 3)]) ⟨hx, hb, hml, hown, hts⟩ (c_X6_least l D cI cS cZ cJ G (ub (ub (ub S 10 s1 (vp_nar .boolean (nI 0))) 16 s1 (((ub S 10 s1 (vp_nar .boolean (nI 0))) 16 s1) + (f_X6_count ((S 8 (5 * s1)) &&& ((S 15 s1) ^^^ ((-1))))))) 8 (5 * s1) (((ub (ub S 10 s1 (vp_nar .boolean (nI 0))) 16 s1 (((ub S 10 s1 (vp_nar .boolean (nI 0))) 16 s1) + (f_X6_count ((S 8 (5 * s1)) &&& ((S 15 s1) ^^^ ((-1))))))) 8 (5 * s1)) &&& ((ub (ub S 10 s1 (vp_nar .boolean (nI 0))) 16 s1 (((ub S 10 s1 (vp_nar .boolean (nI 0))) 16 s1) + (f_X6_count ((S 8 (5 * s1)) &&& ((S 15 s1) ^^^ ((-1))))))) 15 s1))) H.size s1 (by omega)) (cwV 1 hts gX6_ends_X6_least rfl rfl rfl (by decide +kernel) ⟨Nat.le_of_ble_eq_true rfl, Nat.le_of_ble_eq_true rfl⟩) ⟨wPc_blind, va_recv hK hP (ci := 6) (q0 := 0) rfl (WL_at (by decide) (rfl)), wPc_at hP hK hD hN⟩ rfl rfl hl.1 rfl (lv_room (Nat.le_of_ble_eq_true rfl)) dX6_ends_72 ⟨Nat.le_refl _, Nat.le_refl _⟩) hS hA (fun q h => h) (fun H locs hz hk hS => ?_)
    have hP := P_kept hP hk
    refine x_iast hx hb hK hP hD hS 3 0 (by decide) ((fun _ => rfl)) rfl s1 (by omega) (by decide) dX6_ends_75 (fun H locs hP hS => ?_)
    refine lv_aload_n hx hb dX6_ends_76 rfl (lv_at hl 1 rfl) ?_
    refine x_get hx hb hts mm_X6_ends_X6 hown hK hP (0) (by decide) (rfl) rfl 7 (by decide) (hts _ lk_X6_ends_26) rfl rfl dX6_ends_77 ?_
    refine lv_iload_n hx hb dX6_ends_80 rfl (lv_at hl 2 rfl) ?_
    refine lv_iconst (v := nI 0) hx hb dX6_ends_81 (by decide) ?_
    refine x_iast hx hb hK hP hD hS 5 0 (by decide) ((fun _ => rfl)) rfl s1 (by omega) (by decide) dX6_ends_82 (fun H locs hP hS => ?_)
    refine lv_aload_n hx hb dX6_ends_83 rfl (lv_at hl 1 rfl) ?_
    refine x_get hx hb hts mm_X6_ends_X6 hown hK hP (0) (by decide) (rfl) rfl 10 (by decide) (hts _ lk_X6_ends_35) rfl rfl dX6_ends_84 ?_
    refine lv_iconst (v := nI 5) hx hb dX6_ends_87 (by decide) ?_
    refine lv_iload_n hx hb dX6_ends_88 rfl (lv_at hl 2 rfl) ?_
    refine x_imulN hx hb dX6_ends_89 ?_
    refine x_iald hx hb hK hP 8 0 (by decide) (rfl) rfl (5 * s1) (by omega) (by decide) dX6_ends_90 ?_
    refine lv_if_ne (tgt := 99) hx hb dX6_ends_91 (by decide) (fun c_2 => ?_) (fun c_2 => ?_)
    · have hq := hq.trans (if_neg c_2)
      exact x_ret_v hx hb hr hlocks hP hS dX6_ends_99 hq
    · have hq := hq.trans (if_pos c_2)
      refine lv_aload_n hx hb dX6_ends_94 rfl (lv_at hl 1 rfl) ?_
      refine lv_iload_n hx hb dX6_ends_95 rfl (lv_at hl 2 rfl) ?_
      refine x_mv (va_runV (As := [.int (nI s1)]) (rest := []) ⟨hx, hb, hml, hown, hts⟩ (c_X6_leaves l D cI cS cZ cJ G (ub (ub (ub (ub (ub S 10 s1 (vp_nar .boolean (nI 0))) 16 s1 (((ub S 10 s1 (vp_nar .boolean (nI 0))) 16 s1) + (f_X6_count ((S 8 (5 * s1)) &&& ((S 15 s1) ^^^ ((-1))))))) 8 (5 * s1) (((ub (ub S 10 s1 (vp_nar .boolean (nI 0))) 16 s1 (((ub S 10 s1 (vp_nar .boolean (nI 0))) 16 s1) + (f_X6_count ((S 8 (5 * s1)) &&& ((S 15 s1) ^^^ ((-1))))))) 8 (5 * s1)) &&& ((ub (ub S 10 s1 (vp_nar .boolean (nI 0))) 16 s1 (((ub S 10 s1 (vp_nar .boolean (nI 0))) 16 s1) + (f_X6_count ((S 8 (5 * s1)) &&& ((S 15 s1) ^^^ ((-1))))))) 15 s1))) 3 s1 (f_X6_least (ub (ub (ub S 10 s1 (vp_nar .boolean (nI 0))) 16 s1 (((ub S 10 s1 (vp_nar .boolean (nI 0))) 16 s1) + (f_X6_count ((S 8 (5 * s1)) &&& ((S 15 s1) ^^^ ((-1))))))) 8 (5 * s1) (((ub (ub S 10 s1 (vp_nar .boolean (nI 0))) 16 s1 (((ub S 10 s1 (vp_nar .boolean (nI 0))) 16 s1) + (f_X6_count ((S 8 (5 * s1)) &&& ((S 15 s1) ^^^ ((-1))))))) 8 (5 * s1)) &&& ((ub (ub S 10 s1 (vp_nar .boolean (nI 0))) 16 s1 (((ub S 10 s1 (vp_nar .boolean (nI 0))) 16 s1) + (f_X6_count ((S 8 (5 * s1)) &&& ((S 15 s1) ^^^ ((-1))))))) 15 s1))) s1)) 5 s1 (nI 0)) H.size s1 h1 (by rw [ub_ne _ _ _ (by decide), ub_ne _ _ _ (by decide), ub_ne _ _ _ (by decide), ub_ne _ _ _ (by decide), ub_ne _ _ _ (by decide)]; exact hfr) (by rw [ub_ne _ _ _ (by decide), ub_ne _ _ _ (by decide), ub_ne _ _ _ (by decide), ub_ne _ _ _ (by decide), ub_ne _ _ _ (by decide)]; exact hf5)) (cwV 1 hts gX6_ends_X6_leaves rfl rfl rfl (by decide +kernel) ⟨Nat.le_of_ble_eq_true rfl, Nat.le_of_ble_eq_true rfl⟩) ⟨wPc_blind, va_recv hK hP (ci := 6) (q0 := 0) rfl (WL_at (by decide) (rfl)), wPc_at hP hK hD hN⟩ rfl rfl hl.1 rfl (lv_room (Nat.le_of_ble_eq_true rfl)) dX6_ends_96 ⟨Nat.le_refl _, Nat.le_refl _⟩) hS (fA_sub (hD S) (fun q h => hA q (Nat.le_trans hS.1 h))) (fun H locs hz hk hP hS => ?_)
      exact x_ret_v hx hb hr hlocks hP hS dX6_ends_99 hq
  · have hq := hq.trans (if_pos c_1)
    refine lv_aload_n hx hb dX6_ends_22 rfl (lv_at hl 1 rfl) ?_
    refine lv_iload_n hx hb dX6_ends_23 rfl (lv_at hl 2 rfl) ?_
    refine x_mv (va_runV (As := [.int (nI s1)]) (rest := []) ⟨hx, hb, hml, hown, hts⟩ (c_X6_fails l D cI cS cZ cJ G S s.heap.size s1 h1 hfr hf5) (cwV 1 hts gX6_ends_X6_fails rfl rfl rfl (by decide +kernel) ⟨Nat.le_of_ble_eq_true rfl, Nat.le_of_ble_eq_true rfl⟩) ⟨wPc_blind, va_recv hK hP (ci := 6) (q0 := 0) rfl (WL_at (by decide) (rfl)), wPc_at hP hK hD hN⟩ rfl rfl hl.1 rfl (lv_room (Nat.le_of_ble_eq_true rfl)) dX6_ends_24 ⟨Nat.le_refl _, Nat.le_refl _⟩) hS (fA_sub (hD S) (fun q h => hA q (Nat.le_trans hS.1 h))) (fun H locs hz hk hP hS => ?_)
    exact x_ret_v hx hb hr hlocks hP hS dX6_ends_27 hq

