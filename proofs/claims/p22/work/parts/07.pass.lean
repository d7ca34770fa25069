def itr (f : Nat → Mem → Mem) (S : Mem) : Nat → Mem
  | 0 => S
  | n + 1 => f n (itr f S n)
theorem itr_0 (f : Nat → Mem → Mem) (S : Mem) : itr f S 0 = S := rfl
theorem itr_s (f : Nat → Mem → Mem) (S : Mem) (n : Nat) : itr f S (n + 1) = f n (itr f S n) := rfl

theorem mm_X5_passOneSlot_X5 : ∀ w ∈ wsX50, w ∈ wsX5_passOneSlot := by decide +kernel
theorem lk_X5_passOneSlot_33 : Cond.fieldLink RX5 33 "BackofficeAir" "slot" "I" ∈ wsX5_passOneSlot := by decide +kernel
def f_X5_passOneSlot_L3 : Nat → Nat → Mem → Int32 → Int32 × Mem
  | 0, i, S_L3, b => (b, S_L3)
  | n + 1, i, S_L3, b => if (f_X5_endsAfterSlot S_L3 i).1 = 0 then (f_X5_passOneSlot_L3 n (i + 1) ((f_X5_endsAfterSlot S_L3 i).2) b) else (f_X5_passOneSlot_L3 n (i + 1) ((f_X5_endsAfterSlot S_L3 i).2) (b + Int32.ofInt 1))
theorem f_X5_passOneSlot_L3_z (i : Nat) (S_L3 : Mem) (b : Int32) : f_X5_passOneSlot_L3  0 i S_L3 b = ((b, S_L3)) := rfl
theorem f_X5_passOneSlot_L3_s (n : Nat) (i : Nat) (S_L3 : Mem) (b : Int32) : f_X5_passOneSlot_L3  (n + 1) i S_L3 b = (if (f_X5_endsAfterSlot S_L3 i).1 = 0 then (f_X5_passOneSlot_L3 n (i + 1) ((f_X5_endsAfterSlot S_L3 i).2) b) else (f_X5_passOneSlot_L3 n (i + 1) ((f_X5_endsAfterSlot S_L3 i).2) (b + Int32.ofInt 1))) := rfl
def f_X5_passOneSlot_L3_b (i : Nat) (S_L3 : Mem) : Mem := if (f_X5_endsAfterSlot S_L3 i).1 = 0 then ((f_X5_endsAfterSlot S_L3 i).2) else ((f_X5_endsAfterSlot S_L3 i).2)
theorem f_X5_passOneSlot_L3_b_d (i : Nat) (S_L3 : Mem) : f_X5_passOneSlot_L3_b i S_L3 = (if (f_X5_endsAfterSlot S_L3 i).1 = 0 then ((f_X5_endsAfterSlot S_L3 i).2) else ((f_X5_endsAfterSlot S_L3 i).2)) := rfl
def f_X5_passOneSlot_L2 : Nat → Nat → Mem → Int32 × Mem
  | 0, i, S_L2 => f_X5_passOneSlot_L3 6 0 S_L2 (nI 0)
  | n + 1, i, S_L2 => f_X5_passOneSlot_L2 n (i + 1) (f_X5_sendInSlot S_L2 i)
theorem f_X5_passOneSlot_L2_z (i : Nat) (S_L2 : Mem) : f_X5_passOneSlot_L2  0 i S_L2 = (f_X5_passOneSlot_L3 6 0 S_L2 (nI 0)) := rfl
theorem f_X5_passOneSlot_L2_s (n : Nat) (i : Nat) (S_L2 : Mem) : f_X5_passOneSlot_L2  (n + 1) i S_L2 = (f_X5_passOneSlot_L2 n (i + 1) (f_X5_sendInSlot S_L2 i)) := rfl
def f_X5_passOneSlot_L2_b (i : Nat) (S_L2 : Mem) : Mem := f_X5_sendInSlot S_L2 i
theorem f_X5_passOneSlot_L2_b_d (i : Nat) (S_L2 : Mem) : f_X5_passOneSlot_L2_b i S_L2 = (f_X5_sendInSlot S_L2 i) := rfl
def f_X5_passOneSlot_L1 : Nat → Nat → Mem → Int32 × Mem
  | 0, i, S_L1 => f_X5_passOneSlot_L2 6 0 S_L1
  | n + 1, i, S_L1 => f_X5_passOneSlot_L1 n (i + 1) (f_X5_waitOrBegin S_L1 i)
theorem f_X5_passOneSlot_L1_z (i : Nat) (S_L1 : Mem) : f_X5_passOneSlot_L1  0 i S_L1 = (f_X5_passOneSlot_L2 6 0 S_L1) := rfl
theorem f_X5_passOneSlot_L1_s (n : Nat) (i : Nat) (S_L1 : Mem) : f_X5_passOneSlot_L1  (n + 1) i S_L1 = (f_X5_passOneSlot_L1 n (i + 1) (f_X5_waitOrBegin S_L1 i)) := rfl
def f_X5_passOneSlot_L1_b (i : Nat) (S_L1 : Mem) : Mem := f_X5_waitOrBegin S_L1 i
theorem f_X5_passOneSlot_L1_b_d (i : Nat) (S_L1 : Mem) : f_X5_passOneSlot_L1_b i S_L1 = (f_X5_waitOrBegin S_L1 i) := rfl
def ct0 (S : Mem) : Mem := ub S 0 1 ((S 0 1) + (nI 1))
def ct1 (S : Mem) (i : Nat) : Mem := itr f_X5_passOneSlot_L1_b (ct0 S) i
def ct2 (S : Mem) (i : Nat) : Mem := itr f_X5_passOneSlot_L2_b (ct1 S 6) i
def ct3 (S : Mem) (i : Nat) : Mem := itr f_X5_passOneSlot_L3_b (ct2 S 6) i
theorem ct1_0 (S : Mem) : ct1 S 0 = ub S 0 1 ((S 0 1) + (nI 1)) := itr_0 _ _
theorem ct1_s (S : Mem) (i : Nat) : ct1 S (i + 1) = f_X5_passOneSlot_L1_b i (ct1 S i) := itr_s _ _ _
theorem ct2_0 (S : Mem) : ct2 S 0 = ct1 S 6 := itr_0 _ _
theorem ct2_s (S : Mem) (i : Nat) : ct2 S (i + 1) = f_X5_passOneSlot_L2_b i (ct2 S i) := itr_s _ _ _
theorem ct3_0 (S : Mem) : ct3 S 0 = ct2 S 6 := itr_0 _ _
theorem ct3_s (S : Mem) (i : Nat) : ct3 S (i + 1) = f_X5_passOneSlot_L3_b i (ct3 S i) := itr_s _ _ _
def pOK (S : Mem) : Prop := (∀ i, i < 6 → ct1 S i 4 0 = nI (kN (ct1 S i 4 0)) ∧ kN (ct1 S i 4 0) < 200) ∧ (∀ i, i < 6 → ¬ ct2 S i (8 + 5 * i) 0 = 0 → gOK (ct2 S i) i) ∧ ∀ i, i < 6 → ¬ ct3 S i (8 + 5 * i) 0 = 0 → gOK (ct3 S i) i
def f_X5_passOneSlot (S : Mem) : Int32 × Mem := f_X5_passOneSlot_L1 6 0 (ub S 0 1 ((S 0 1) + (nI 1)))
theorem f_X5_passOneSlot_d (S : Mem) : f_X5_passOneSlot S = (f_X5_passOneSlot_L1 6 0 (ub S 0 1 ((S 0 1) + (nI 1)))) := rfl
set_option maxHeartbeats 1000000 in
set_option maxRecDepth 100000 in
theorem c_X5_passOneSlot (l : Launch) (D : va_G) (cI cS : ClassId) (G : Nat → Nat) (S : Mem) (sz : Nat) (hp : pOK S) : Met l yX5_passOneSlot wsX5_passOneSlot ({ frames := 6, cells := 0, slots := 0, locals := 132 } : Room) (wPc 36 (cF cI cS G) D (tY cI cS) G S sz [.ref (G 0)]) (mQi (f_X5_passOneSlot S) 36 (cF cI cS G) D G sz) 0 0 (fA 36 G sz) := by
  refine x_met (cc := cX5_passOneSlot) (maxL := 3) (ret := (some .int)) (by decide) rfl (Nat.le_of_ble_eq_true rfl) ?_
  intro p e s m below meth c ls hx hb hr hml hts hown hlocks hsz hP hK hD hN hl hnm
  subst hsz
  have hown : s.vm.findClass RX5 = some m.cls := hown
  have hl : lv_has ls 3 [(0, .ref (G 0))] := hl
  have hq := f_X5_passOneSlot_d S
  have hA : ∀ q : Nat, s.heap.size ≤ q → (fA 36 G s.heap.size) q := fun q h => Or.inr h
  have hS : va_S (fA 36 G s.heap.size) s.heap s.heap [] := va_S.rf
  refine lv_aload_n hx hb dX5_passOneSlot_0 rfl (lv_at hl 0 rfl) ?_
  refine lv_dup hx hb dX5_passOneSlot_1 rfl ?_
  refine x_get hx hb hts mm_X5_passOneSlot_X5 hown hK hP (0) (by decide) (cF_air _) rfl 4 (by decide) (hts _ lk_X5_passOneSlot_33) rfl rfl dX5_passOneSlot_2 ?_
  refine lv_iconst (v := nI 1) hx hb dX5_passOneSlot_5 (by decide) ?_
  refine lv_iadd hx hb dX5_passOneSlot_6 ?_
  refine x_put hx hb hts mm_X5_passOneSlot_X5 tyX5 tyX5_ok nmX5 hown hK hP hD hS 0 (by decide) (cF_air _) rfl 4 (by decide) (hts _ lk_X5_passOneSlot_33) rfl rfl rfl rfl rfl (Nat.le_of_ble_eq_true rfl) 1 (cF_air _) dX5_passOneSlot_7 (fun H locs hP hS => ?_)
  refine lv_iconst (v := nI 0) hx hb dX5_passOneSlot_10 (by decide) ?_
  refine lv_istore_n (lv' := [(1, .int (nI 0)), (0, .ref (G 0))]) hx hb dX5_passOneSlot_11 rfl hl (by decide) rfl (fun ls hl => ?_)
  have L1 : ∀ (n : Nat) (i : Nat) (S_L1 : Mem) (H : Heap) (locs : List Loc) (ls : Array Slot), i + n = 6 → f_X5_passOneSlot S = f_X5_passOneSlot_L1 n i S_L1 → (S_L1 = ct1 S i) → va_P D vwCl (WL 36 G (cF cI cS G) S_L1) H → va_S (fA 36 G s.heap.size) s.heap H locs → lv_has ls 3 [(1, .int (nI i)), (0, .ref (G 0))] → W p l e ({ frames := 6, cells := 0, slots := 0, locals := 132 } : Room) s m ([.ref (G 0)] : List Value).toArray below meth c H locs 0 0 (MQ below (mQi (f_X5_passOneSlot S) 36 (cF cI cS G) D G s.heap.size) ([.ref (G 0)] : List Value).toArray s 0 0 (fA 36 G s.heap.size)) (F0 m 12 ls []) := by
    intro n
    induction n with
    | zero =>
      intro i S_L1 H locs ls hin hq hv hP hS hl
      have hq := hq.trans (f_X5_passOneSlot_L1_z _ _)
      refine lv_iload_n hx hb dX5_passOneSlot_12 rfl (lv_at hl 0 rfl) ?_
      refine lv_bipush (v := nI 6) hx hb dX5_passOneSlot_13 (by decide) ?_
      refine lv_icmp_ge (tgt := 29) hx hb dX5_passOneSlot_15 (by decide) (fun _ => ?_) (fun c_1 => absurd (nI_le (by omega) (by omega)) c_1) 
      refine lv_iconst (v := nI 0) hx hb dX5_passOneSlot_29 (by decide) ?_
      refine lv_istore_n (lv' := [(1, .int (nI 0)), (0, .ref (G 0))]) hx hb dX5_passOneSlot_30 rfl hl (by decide) rfl (fun ls hl => ?_)
      have L2 : ∀ (n : Nat) (i : Nat) (S_L2 : Mem) (H : Heap) (locs : List Loc) (ls : Array Slot), i + n = 6 → f_X5_passOneSlot S = f_X5_passOneSlot_L2 n i S_L2 → (S_L2 = ct2 S i) → va_P D vwCl (WL 36 G (cF cI cS G) S_L2) H → va_S (fA 36 G s.heap.size) s.heap H locs → lv_has ls 3 [(1, .int (nI i)), (0, .ref (G 0))] → W p l e ({ frames := 6, cells := 0, slots := 0, locals := 132 } : Room) s m ([.ref (G 0)] : List Value).toArray below meth c H locs 0 0 (MQ below (mQi (f_X5_passOneSlot S) 36 (cF cI cS G) D G s.heap.size) ([.ref (G 0)] : List Value).toArray s 0 0 (fA 36 G s.heap.size)) (F0 m 31 ls []) := by
        intro n
        induction n with
        | zero =>
          intro i S_L2 H locs ls hin hq hv hP hS hl
          have hq := hq.trans (f_X5_passOneSlot_L2_z _ _)
          refine lv_iload_n hx hb dX5_passOneSlot_31 rfl (lv_at hl 0 rfl) ?_
          refine lv_bipush (v := nI 6) hx hb dX5_passOneSlot_32 (by decide) ?_
          refine lv_icmp_ge (tgt := 48) hx hb dX5_passOneSlot_34 (by decide) (fun _ => ?_) (fun c_2 => absurd (nI_le (by omega) (by omega)) c_2) 
          refine lv_iconst (v := nI 0) hx hb dX5_passOneSlot_48 (by decide) ?_
          refine lv_istore_n (lv' := [(1, .int (nI 0)), (0, .ref (G 0))]) hx hb dX5_passOneSlot_49 rfl hl (by decide) rfl (fun ls hl => ?_)
          refine lv_iconst (v := nI 0) hx hb dX5_passOneSlot_50 (by decide) ?_
          refine lv_istore_n (lv' := [(2, .int (nI 0)), (1, .int (nI 0)), (0, .ref (G 0))]) hx hb dX5_passOneSlot_51 rfl hl (by decide) rfl (fun ls hl => ?_)
          have L3 : ∀ (n : Nat) (i : Nat) (S_L3 : Mem) (b : Int32) (H : Heap) (locs : List Loc) (ls : Array Slot), i + n = 6 → f_X5_passOneSlot S = f_X5_passOneSlot_L3 n i S_L3 b → (S_L3 = ct3 S i) → va_P D vwCl (WL 36 G (cF cI cS G) S_L3) H → va_S (fA 36 G s.heap.size) s.heap H locs → lv_has ls 3 [(2, .int (nI i)), (1, .int b), (0, .ref (G 0))] → W p l e ({ frames := 6, cells := 0, slots := 0, locals := 132 } : Room) s m ([.ref (G 0)] : List Value).toArray below meth c H locs 0 0 (MQ below (mQi (f_X5_passOneSlot S) 36 (cF cI cS G) D G s.heap.size) ([.ref (G 0)] : List Value).toArray s 0 0 (fA 36 G s.heap.size)) (F0 m 52 ls []) := by
            intro n
            induction n with
            | zero =>
              intro i S_L3 b H locs ls hin hq hv hP hS hl
              have hq := hq.trans (f_X5_passOneSlot_L3_z _ _ _)
              refine lv_iload_n hx hb dX5_passOneSlot_52 rfl (lv_at hl 0 rfl) ?_
              refine lv_bipush (v := nI 6) hx hb dX5_passOneSlot_53 (by decide) ?_
              refine lv_icmp_ge (tgt := 75) hx hb dX5_passOneSlot_55 (by decide) (fun _ => ?_) (fun c_3 => absurd (nI_le (by omega) (by omega)) c_3) 
              refine lv_iload_n hx hb dX5_passOneSlot_75 rfl (lv_at hl 1 rfl) ?_
              exact x_ret_m hx hb hr rfl hlocks hP hS dX5_passOneSlot_76 hq
            | succ n ih =>
              intro i S_L3 b H locs ls hin hq hv hP hS hl
              have hq := hq.trans (f_X5_passOneSlot_L3_s _ _ _ _)
              refine lv_iload_n hx hb dX5_passOneSlot_52 rfl (lv_at hl 0 rfl) ?_
              refine lv_bipush (v := nI 6) hx hb dX5_passOneSlot_53 (by decide) ?_
              refine lv_icmp_ge (tgt := 75) hx hb dX5_passOneSlot_55 (by decide) (fun c_4 => absurd c_4 (nI_ge (by omega) (by omega))) (fun _ => ?_)
              refine lv_aload_n hx hb dX5_passOneSlot_58 rfl (lv_at hl 2 rfl) ?_
              refine lv_iload_n hx hb dX5_passOneSlot_59 rfl (lv_at hl 0 rfl) ?_
              refine x_mi (va_runV (As := [.int (nI i)]) (rest := []) ⟨hx, hb, hml, hown, hts⟩ (c_X5_endsAfterSlot l D cI cS G S_L3 H.size i (by omega) (by rw [hv]; exact hp.2.2 i (by omega))) (cwV 1 hts gX5_passOneSlot_X5_endsAfterSlot rfl rfl rfl (by decide +kernel) ⟨Nat.le_of_ble_eq_true rfl, Nat.le_of_ble_eq_true rfl⟩) ⟨wPc_blind, va_recv hK hP (ci := 5) (q0 := 0) rfl (WL_at (by decide) (cF_air _)), wPc_at hP hK hD hN⟩ rfl rfl hl.1 rfl (lv_room (Nat.le_of_ble_eq_true rfl)) dX5_passOneSlot_60 ⟨Nat.le_refl _, Nat.le_refl _⟩) hS (fA_sub (hD S) (fun q h => hA q (Nat.le_trans hS.1 h))) (fun H locs hz hk hP hS => ?_)
              refine lv_if_eq (tgt := 69) hx hb dX5_passOneSlot_63 (by decide) (fun c_5 => ?_) (fun c_5 => ?_)
              · have hq := hq.trans (if_pos c_5)
                refine lv_iinc (v := nI (i + 1)) (lv' := [(2, .int (nI (i + 1))), (1, .int b), (0, .ref (G 0))]) hx hb dX5_passOneSlot_69 hl (k := 0) rfl (nI_add _ _) (by decide) rfl (fun ls hl => ?_)
                refine lv_goto (tgt := 52) hx hb dX5_passOneSlot_72 (by decide) ?_
                have hB : f_X5_passOneSlot_L3_b i S_L3 = (f_X5_endsAfterSlot S_L3 i).2 := ((f_X5_passOneSlot_L3_b_d _ _).trans (if_pos c_5))
                exact ih (i + 1) ((f_X5_endsAfterSlot S_L3 i).2) b H locs ls (by omega) hq (hB.symm.trans ((congrArg _ hv).trans (ct3_s S i).symm)) hP hS (lv_sub hl [0, 1, 2] rfl)
              · have hq := hq.trans (if_neg c_5)
                refine lv_iinc (v := b + Int32.ofInt 1) (lv' := [(1, .int (b + Int32.ofInt 1)), (2, .int (nI i)), (0, .ref (G 0))]) hx hb dX5_passOneSlot_66 hl (k := 1) rfl rfl (by decide) rfl (fun ls hl => ?_)
                refine lv_iinc (v := nI (i + 1)) (lv' := [(2, .int (nI (i + 1))), (1, .int (b + Int32.ofInt 1)), (0, .ref (G 0))]) hx hb dX5_passOneSlot_69 hl (k := 1) rfl (nI_add _ _) (by decide) rfl (fun ls hl => ?_)
                refine lv_goto (tgt := 52) hx hb dX5_passOneSlot_72 (by decide) ?_
                have hB : f_X5_passOneSlot_L3_b i S_L3 = (f_X5_endsAfterSlot S_L3 i).2 := ((f_X5_passOneSlot_L3_b_d _ _).trans (if_neg c_5))
                exact ih (i + 1) ((f_X5_endsAfterSlot S_L3 i).2) (b + Int32.ofInt 1) H locs ls (by omega) hq (hB.symm.trans ((congrArg _ hv).trans (ct3_s S i).symm)) hP hS (lv_sub hl [0, 1, 2] rfl)
          exact L3 6 0 S_L2 (nI 0) _ _ _ (by omega) hq (hv.trans ((congrArg (ct2 S) (show i = 6 by omega)).trans (ct3_0 S).symm)) hP hS (lv_sub hl [0, 1, 2] rfl)
        | succ n ih =>
          intro i S_L2 H locs ls hin hq hv hP hS hl
          have hq := hq.trans (f_X5_passOneSlot_L2_s _ _ _)
          refine lv_iload_n hx hb dX5_passOneSlot_31 rfl (lv_at hl 0 rfl) ?_
          refine lv_bipush (v := nI 6) hx hb dX5_passOneSlot_32 (by decide) ?_
          refine lv_icmp_ge (tgt := 48) hx hb dX5_passOneSlot_34 (by decide) (fun c_6 => absurd c_6 (nI_ge (by omega) (by omega))) (fun _ => ?_)
          refine lv_aload_n hx hb dX5_passOneSlot_37 rfl (lv_at hl 1 rfl) ?_
          refine lv_iload_n hx hb dX5_passOneSlot_38 rfl (lv_at hl 0 rfl) ?_
          refine x_mv (va_runV (As := [.int (nI i)]) (rest := []) ⟨hx, hb, hml, hown, hts⟩ (c_X5_sendInSlot l D cI cS G S_L2 H.size i (by omega) (by rw [hv]; exact hp.2.1 i (by omega))) (cwV 1 hts gX5_passOneSlot_X5_sendInSlot rfl rfl rfl (by decide +kernel) ⟨Nat.le_of_ble_eq_true rfl, Nat.le_of_ble_eq_true rfl⟩) ⟨wPc_blind, va_recv hK hP (ci := 5) (q0 := 0) rfl (WL_at (by decide) (cF_air _)), wPc_at hP hK hD hN⟩ rfl rfl hl.1 rfl (lv_room (Nat.le_of_ble_eq_true rfl)) dX5_passOneSlot_39 ⟨Nat.le_refl _, Nat.le_refl _⟩) hS (fA_sub (hD S) (fun q h => hA q (Nat.le_trans hS.1 h))) (fun H locs hz hk hP hS => ?_)
          refine lv_iinc (v := nI (i + 1)) (lv' := [(1, .int (nI (i + 1))), (0, .ref (G 0))]) hx hb dX5_passOneSlot_42 hl (k := 0) rfl (nI_add _ _) (by decide) rfl (fun ls hl => ?_)
          refine lv_goto (tgt := 31) hx hb dX5_passOneSlot_45 (by decide) ?_
          have hB : f_X5_passOneSlot_L2_b i S_L2 = f_X5_sendInSlot S_L2 i := (f_X5_passOneSlot_L2_b_d _ _)
          exact ih (i + 1) (f_X5_sendInSlot S_L2 i) H locs ls (by omega) hq (hB.symm.trans ((congrArg _ hv).trans (ct2_s S i).symm)) hP hS (lv_sub hl [0, 1] rfl)
      exact L2 6 0 S_L1 _ _ _ (by omega) hq (hv.trans ((congrArg (ct1 S) (show i = 6 by omega)).trans (ct2_0 S).symm)) hP hS (lv_sub hl [0, 1] rfl)
    | succ n ih =>
      intro i S_L1 H locs ls hin hq hv hP hS hl
      have hq := hq.trans (f_X5_passOneSlot_L1_s _ _ _)
      refine lv_iload_n hx hb dX5_passOneSlot_12 rfl (lv_at hl 0 rfl) ?_
      refine lv_bipush (v := nI 6) hx hb dX5_passOneSlot_13 (by decide) ?_
      refine lv_icmp_ge (tgt := 29) hx hb dX5_passOneSlot_15 (by decide) (fun c_7 => absurd c_7 (nI_ge (by omega) (by omega))) (fun _ => ?_)
      refine lv_aload_n hx hb dX5_passOneSlot_18 rfl (lv_at hl 1 rfl) ?_
      refine lv_iload_n hx hb dX5_passOneSlot_19 rfl (lv_at hl 0 rfl) ?_
      refine x_mv (va_runV (As := [.int (nI i)]) (rest := []) ⟨hx, hb, hml, hown, hts⟩ (c_X5_waitOrBegin l D cI cS G S_L1 H.size i (by omega) (by rw [hv]; exact (hp.1 i (by omega)).1) (by rw [hv]; exact (hp.1 i (by omega)).2)) (cwV 1 hts gX5_passOneSlot_X5_waitOrBegin rfl rfl rfl (by decide +kernel) ⟨Nat.le_of_ble_eq_true rfl, Nat.le_of_ble_eq_true rfl⟩) ⟨wPc_blind, va_recv hK hP (ci := 5) (q0 := 0) rfl (WL_at (by decide) (cF_air _)), wPc_at hP hK hD hN⟩ rfl rfl hl.1 rfl (lv_room (Nat.le_of_ble_eq_true rfl)) dX5_passOneSlot_20 ⟨Nat.le_refl _, Nat.le_refl _⟩) hS (fA_sub (hD S) (fun q h => hA q (Nat.le_trans hS.1 h))) (fun H locs hz hk hP hS => ?_)
      refine lv_iinc (v := nI (i + 1)) (lv' := [(1, .int (nI (i + 1))), (0, .ref (G 0))]) hx hb dX5_passOneSlot_23 hl (k := 0) rfl (nI_add _ _) (by decide) rfl (fun ls hl => ?_)
      refine lv_goto (tgt := 12) hx hb dX5_passOneSlot_26 (by decide) ?_
      have hB : f_X5_passOneSlot_L1_b i S_L1 = f_X5_waitOrBegin S_L1 i := (f_X5_passOneSlot_L1_b_d _ _)
      exact ih (i + 1) (f_X5_waitOrBegin S_L1 i) H locs ls (by omega) hq (hB.symm.trans ((congrArg _ hv).trans (ct1_s S i).symm)) hP hS (lv_sub hl [0, 1] rfl)
  exact L1 6 0 (ub S 0 1 ((S 0 1) + (nI 1))) _ _ _ (by omega) hq (ct1_0 S).symm hP hS (lv_sub hl [0, 1] rfl)

