def itr (f : Nat → Mem → Mem) (S : Mem) : Nat → Mem
  | 0 => S
  | n + 1 => f n (itr f S n)
theorem itr_0 (f : Nat → Mem → Mem) (S : Mem) : itr f S 0 = S := rfl
theorem itr_s (f : Nat → Mem → Mem) (S : Mem) (n : Nat) : itr f S (n + 1) = f n (itr f S n) := rfl

theorem mm_X5_passOneSlot_X5 : ∀ w ∈ wsX50, w ∈ wsX5_passOneSlot := by decide +kernel
theorem lk_X5_passOneSlot_33 : Cond.fieldLink RX5 33 "BackofficeAir" "slot" "I" ∈ wsX5_passOneSlot := by decide +kernel
def f_X5_passOneSlot_L3 : Nat → Nat → Mem → Int32 → Int32 × Mem
  | 0, i, S_L3, b => (b, S_L3)
  | n + 1, i, S_L3, b => if (f_X5_endsAfterSlot S_L3 i).1 = 0 then (f_X5_passOneSlot_L3 n (i + 1) ((f_X5_endsAfterSlot S_L3 i).2) b) else (f_X5_passOneSlot_L3 n (i + 1) ((f_X5_endsAfterSlot S_L3 i).2) (b + Int32.ofInt 1))
theorem f_X5_passOneSlot_L3_z (i : Nat) (S_L3 : Mem) (b : Int32) : f_X5_passOneSlot_L3  0 i S_L3 b = ((b, S_L3)) := rfl
theorem f_X5_passOneSlot_L3_s (n : Nat) (i : Nat) (S_L3 : Mem) (b : Int32) : f_X5_passOneSlot_L3  (n + 1) i S_L3 b = (if (f_X5_endsAfterSlot S_L3 i).1 = 0 then (f_X5_passOneSlot_L3 n (i + 1) ((f_X5_endsAfterSlot S_L3 i).2) b) else (f_X5_passOneSlot_L3 n (i + 1) ((f_X5_endsAfterSlot S_L3 i).2) (b + Int32.ofInt 1))) := rfl
def f_X5_passOneSlot_L3_b (i : Nat) (S_L3 : Mem) : Mem := if (f_X5_endsAfterSlot S_L3 i).1 = 0 then ((f_X5_endsAfterSlot S_L3 i).2) else ((f_X5_endsAfterSlot S_L3 i).2)
theorem f_X5_passOneSlot_L3_b_d (i : Nat) (S_L3 : Mem) : f_X5_passOneSlot_L3_b i S_L3 = (if (f_X5_endsAfterSlot S_L3 i).1 = 0 then ((f_X5_endsAfterSlot S_L3 i).2) else ((f_X5_endsAfterSlot S_L3 i).2)) := rfl
def f_X5_passOneSlot_L2 : Nat → Nat → Mem → Int32 × Mem
  | 0, i, S_L2 => f_X5_passOneSlot_L3 6 0 S_L2 (nI 0)
  | n + 1, i, S_L2 => f_X5_passOneSlot_L2 n (i + 1) (f_X5_sendInSlot S_L2 i)
theorem f_X5_passOneSlot_L2_z (i : Nat) (S_L2 : Mem) : f_X5_passOneSlot_L2  0 i S_L2 = (f_X5_passOneSlot_L3 6 0 S_L2 (nI 0)) := rfl
theorem f_X5_passOneSlot_L2_s (n : Nat) (i : Nat) (S_L2 : Mem) : f_X5_passOneSlot_L2  (n + 1) i S_L2 = (f_X5_passOneSlot_L2 n (i + 1) (f_X5_sendInSlot S_L2 i)) := rfl
def f_X5_passOneSlot_L2_b (i : Nat) (S_L2 : Mem) : Mem := f_X5_sendInSlot S_L2 i
theorem f_X5_passOneSlot_L2_b_d (i : Nat) (S_L2 : Mem) : f_X5_passOneSlot_L2_b i S_L2 = (f_X5_sendInSlot S_L2 i) := rfl
def f_X5_passOneSlot_L1 : Nat → Nat → Mem → Int32 × Mem
  | 0, i, S_L1 => f_X5_passOneSlot_L2 6 0 S_L1
  | n + 1, i, S_L1 => f_X5_passOneSlot_L1 n (i + 1) (f_X5_waitOrBegin S_L1 i)
theorem f_X5_passOneSlot_L1_z (i : Nat) (S_L1 : Mem) : f_X5_passOneSlot_L1  0 i S_L1 = (f_X5_passOneSlot_L2 6 0 S_L1) := rfl
theorem f_X5_passOneSlot_L1_s (n : Nat) (i : Nat) (S_L1 : Mem) : f_X5_passOneSlot_L1  (n + 1) i S_L1 = (f_X5_passOneSlot_L1 n (i + 1) (f_X5_waitOrBegin S_L1 i)) := rfl
def f_X5_passOneSlot_L1_b (i : Nat) (S_L1 : Mem) : Mem := f_X5_waitOrBegin S_L1 i
theorem f_X5_passOneSlot_L1_b_d (i : Nat) (S_L1 : Mem) : f_X5_passOneSlot_L1_b i S_L1 = (f_X5_waitOrBegin S_L1 i) := rfl
def ct0 (S : Mem) : Mem := ub S 0 1 ((S 0 1) + (nI 1))
def ct1 (S : Mem) (i : Nat) : Mem := itr f_X5_passOneSlot_L1_b (ct0 S) i
def ct2 (S : Mem) (i : Nat) : Mem := itr f_X5_passOneSlot_L2_b (ct1 S 6) i
def ct3 (S : Mem) (i : Nat) : Mem := itr f_X5_passOneSlot_L3_b (ct2 S 6) i
theorem ct1_0 (S : Mem) : ct1 S 0 = ub S 0 1 ((S 0 1) + (nI 1)) := itr_0 _ _
theorem ct1_s (S : Mem) (i : Nat) : ct1 S (i + 1) = f_X5_passOneSlot_L1_b i (ct1 S i) := itr_s _ _ _
theorem ct2_0 (S : Mem) : ct2 S 0 = ct1 S 6 := itr_0 _ _
theorem ct2_s (S : Mem) (i : Nat) : ct2 S (i + 1) = f_X5_passOneSlot_L2_b i (ct2 S i) := itr_s _ _ _
theorem ct3_0 (S : Mem) : ct3 S 0 = ct2 S 6 := itr_0 _ _
theorem ct3_s (S : Mem) (i : Nat) : ct3 S (i + 1) = f_X5_passOneSlot_L3_b i (ct3 S i) := itr_s _ _ _
def pOK (S : Mem) : Prop := (∀ i, i < 6 → ct1 S i 4 0 = nI (kN (ct1 S i 4 0)) ∧ kN (ct1 S i 4 0) < 200) ∧ (∀ i, i < 6 → ¬ ct2 S i (8 + 5 * i) 0 = 0 → gOK (ct2 S i) i) ∧ ∀ i, i < 6 → ¬ ct3 S i (8 + 5 * i) 0 = 0 → gOK (ct3 S i) i
def f_X5_passOneSlot (S : Mem) : Int32 × Mem := f_X5_passOneSlot_L1 6 0 (ub S 0 1 ((S 0 1) + (nI 1)))
theorem f_X5_passOneSlot_d (S : Mem) : f_X5_passOneSlot S = (f_X5_passOneSlot_L1 6 0 (ub S 0 1 ((S 0 1) + (nI 1)))) := rfl
set_option maxHeartbeats 1000000 in
set_option maxRecDepth 100000 in
theorem c_X5_passOneSlot (l : Launch) (D : va_G) (cI cS cZ cJ : ClassId) (G : Nat → Nat) (S : Mem) (sz : Nat) (hp : pOK S) : Met l yX5_passOneSlot wsX5_passOneSlot ({ frames := 6, cells := 0, slots := 0, locals := 132 } : Room) (wPc 36 (cF cI cS G) D (tY cI cS cZ cJ) G S sz [.ref (G 0)]) (mQi (f_X5_passOneSlot S) 36 (cF cI cS G) D G sz) 0 0 (fA 36 G sz) := by
  refine x_met (cc := cX5_passOneSlot) (maxL := 3) (ret := (some .int)) (by decide) rfl (Nat.le_of_ble_eq_true rfl) ?_
  intro p e s m below meth c ls hx hb hr hml hts hown hlocks hsz hP hK hD hN hl hnm
  subst hsz
  have hown : s.vm.findClass RX5 = some m.cls := hown
  have hl : lv_has ls 3 [(0, .ref (G 0))] := hl
  have hq := f_X5_passOneSlot_d S
  have hA : ∀ q : Nat, s.heap.size ≤ q → (fA 36 G s.heap.size) q := fun q h => Or.inr h
  have hS : va_S (fA 36 G s.heap.size) s.heap s.heap [] := va_S.rf
  refine lv_aload_n hx hb dX5_passOneSlot_0 rfl (lv_at hl 0 rfl) ?_
  refine lv_dup hx hb dX5_passOneSlot_1 rfl ?_
  refine x_get hx hb hts mm_X5_passOneSlot_X5 hown hK hP (0) (by decide) (cF_air _) rfl 4 (by decide) (hts _ lk_X5_passOneSlot_33) rfl rfl dX5_passOneSlot_2 ?_
  refine lv_iconst (v := nI 1) hx hb dX5_passOneSlot_5 (by decide) ?_
  refine lv_iadd hx hb dX5_passOneSlot_6 ?_
  refine x_put hx hb hts mm_X5_passOneSlot_X5 tyX5 tyX5_ok nmX5 hown hK hP hD hS 0 (by decide) (cF_air _) rfl 4 (by decide) (hts _ lk_X5_passOneSlot_33) rfl rfl rfl rfl rfl (Nat.le_of_ble_eq_true rfl) 1 (cF_air _) dX5_passOneSlot_7 (fun H locs hP hS => ?_)
  refine lv_iconst (v := nI 0) hx hb dX5_passOneSlot_10 (by decide) ?_
  refine lv_istore_n (lv' := [(1, .int (nI 0)), (0, .ref (G 0))]) hx hb dX5_passOneSlot_11 rfl hl (by decide) rfl (fun ls hl => ?_)
  have L1 : ∀ (n : Nat) (i : Nat) (S_L1 : Mem) (H : Heap) (locs : List Loc) (ls : Array Slot), i + n = 6 → f_X5_passOneSlot S = f_X5_passOneSlot_L1 n i S_L1 → (S_L1 = ct1 S i) → va_P D vwCl (WL 36 G (cF cI cS G) S_L1) H → va_S (fA 36 G s.heap.size) s.heap H locs → lv_has ls 3 [(1, .int (nI i)), (0, .ref (G 0))] → W p l e ({ frames := 6, cells := 0, slots := 0, locals := 132 } : Room) s m ([.ref (G 0)] : List Value).toArray below meth c H locs 0 0 (MQ below (mQi (f_X5_passOneSlot S) 36 (cF cI cS G) D G s.heap.size) ([.ref (G 0)] : List Value).toArray s 0 0 (fA 36 G s.heap.size)) (F0 m 12 ls []) := by
    intro n
    induction n with
    | zero =>
      intro i S_L1 H locs ls hin hq hv hP hS hl
      have hq := hq.trans (f_X5_passOneSlot_L1_z _ _)
      refine lv_iload_n hx hb dX5_passOneSlot_12 rfl (lv_at hl 0 rfl) ?_
      refine lv_bipush (v := nI 6) hx hb dX5_passOneSlot_13 (by decide) ?_
      refine lv_icmp_ge (tgt := 29) hx hb dX5_passOneSlot_15 (by decide) (fun _ => ?_) (fun c_1 => absurd (nI_le (by omega) (by omega)) c_1) 
      refine lv_iconst (v := nI 0) hx hb dX5_passOneSlot_29 (by decide) ?_
      refine lv_istore_n (lv' := [(1, .int (nI 0)), (0, .ref (G 0))]) hx hb dX5_passOneSlot_30 rfl hl (by decide) rfl (fun ls hl => ?_)
      have L2 : ∀ (n : Nat) (i : Nat) (S_L2 : Mem) (H : Heap) (locs : List Loc) (ls : Array Slot), i + n = 6 → f_X5_passOneSlot S = f_X5_passOneSlot_L2 n i S_L2 → (S_L2 = ct2 S i) → va_P D vwCl (WL 36 G (cF cI cS G) S_L2) H → va_S (fA 36 G s.heap.size) s.heap H locs → lv_has ls 3 [(1, .int (nI i)), (0, .ref (G 0))] → W p l e ({ frames := 6, cells := 0, slots := 0, locals := 132 } : Room) s m ([.ref (G 0)] : List Value).toArray below meth c H locs 0 0 (MQ below (mQi (f_X5_passOneSlot S) 36 (cF cI cS G) D G s.heap.size) ([.ref (G 0)] : List Value).toArray s 0 0 (fA 36 G s.heap.size)) (F0 m 31 ls []) := by
        intro n
        induction n with
        | zero =>
          intro i S_L2 H locs ls hin hq hv hP hS hl
          have hq := hq.trans (f_X5_passOneSlot_L2_z _ _)
          refine lv_iload_n hx hb dX5_passOneSlot_31 rfl (lv_at hl 0 rfl) ?_
          refine lv_bipush (v := nI 6) hx hb dX5_passOneSlot_32 (by decide) ?_
          refine lv_icmp_ge (tgt := 48) hx hb dX5_passOneSlot_34 (by decide) (fun _ => ?_) (fun c_2 => absurd (nI_le (by omega) (by omega)) c_2) 
          refine lv_iconst (v := nI 0) hx hb dX5_passOneSlot_48 (by decide) ?_
          refine lv_istore_n (lv' := [(1, .int (nI 0)), (0, .ref (G 0))]) hx hb dX5_passOneSlot_49 rfl hl (by decide) rfl (fun ls hl => ?_)
          refine lv_iconst (v := nI 0) hx hb dX5_passOneSlot_50 (by decide) ?_
          refine lv_istore_n (lv' := [(2, .int (nI 0)), (1, .int (nI 0)), (0, .ref (G 0))]) hx hb dX5_passOneSlot_51 rfl hl (by decide) rfl (fun ls hl => ?_)
          have L3 : ∀ (n : Nat) (i : Nat) (S_L3 : Mem) (b : Int32) (H : Heap) (locs : List Loc) (ls : Array Slot), i + n = 6 → f_X5_passOneSlot S = f_X5_passOneSlot_L3 n i S_L3 b → (S_L3 = ct3 S i) → va_P D vwCl (WL 36 G (cF cI cS G) S_L3) H → va_S (fA 36 G s.heap.size) s.heap H locs → lv_has ls 3 [(2, .int (nI i)), (1, .int b), (0, .ref (G 0))] → W p l e ({ frames := 6, cells := 0, slots := 0, locals := 132 } : Room) s m ([.ref (G 0)] : List Value).toArray below meth c H locs 0 0 (MQ below (mQi (f_X5_passOneSlot S) 36 (cF cI cS G) D G s.heap.size) ([.ref (G 0)] : List Value).toArray s 0 0 (fA 36 G s.heap.size)) (F0 m 52 ls []) := by
            intro n
            induction n with
            | zero =>
              intro i S_L3 b H locs ls hin hq hv hP hS hl
              have hq := hq.trans (f_X5_passOneSlot_L3_z _ _ _)
              refine lv_iload_n hx hb dX5_passOneSlot_52 rfl (lv_at hl 0 rfl) ?_
              refine lv_bipush (v := nI 6) hx hb dX5_passOneSlot_53 (by decide) ?_
              refine lv_icmp_ge (tgt := 75) hx hb dX5_passOneSlot_55 (by decide) (fun _ => ?_) (fun c_3 => absurd (nI_le (by omega) (by omega)) c_3) 
              refine lv_iload_n hx hb dX5_passOneSlot_75 rfl (lv_at hl 1 rfl) ?_
              exact x_ret_m hx hb hr rfl hlocks hP hS dX5_passOneSlot_76 hq
            | succ n ih =>
              intro i S_L3 b H locs ls hin hq hv hP hS hl
              have hq := hq.trans (f_X5_passOneSlot_L3_s _ _ _ _)
              refine lv_iload_n hx hb dX5_passOneSlot_52 rfl (lv_at hl 0 rfl) ?_
              refine lv_bipush (v := nI 6) hx hb dX5_passOneSlot_53 (by decide) ?_
              refine lv_icmp_ge (tgt := 75) hx hb dX5_passOneSlot_55 (by decide) (fun c_4 => absurd c_4 (nI_ge (by omega) (by omega))) (fun _ => ?_)
              refine lv_aload_n hx hb dX5_passOneSlot_58 rfl (lv_at hl 2 rfl) ?_
              refine lv_iload_n hx hb dX5_passOneSlot_59 rfl (lv_at hl 0 rfl) ?_
              refine x_mi (va_runV (As := [.int (nI i)]) (rest := []) ⟨hx, hb, hml, hown, hts⟩ (c_X5_endsAfterSlot l D cI cS cZ cJ G S_L3 H.size i (by omega) (by rw [hv]; exact hp.2.2 i (by omega))) (cwV 1 hts gX5_passOneSlot_X5_endsAfterSlot rfl rfl rfl (by decide +kernel) ⟨Nat.le_of_ble_eq_true rfl, Nat.le_of_ble_eq_true rfl⟩) ⟨wPc_blind, va_recv hK hP (ci := 5) (q0 := 0) rfl (WL_at (by decide) (cF_air _)), wPc_at hP hK hD hN⟩ rfl rfl hl.1 rfl (lv_room (Nat.le_of_ble_eq_true rfl)) dX5_passOneSlot_60 ⟨Nat.le_refl _, Nat.le_refl _⟩) hS (fA_sub (hD S) (fun q h => hA q (Nat.le_trans hS.1 h))) (fun H locs hz hk hP hS => ?_)
              refine lv_if_eq (tgt := 69) hx hb dX5_passOneSlot_63 (by decide) (fun c_5 => ?_) (fun c_5 => ?_)
              · have hq := hq.trans (if_pos c_5)
                refine lv_iinc (v := nI (i + 1)) (lv' := [(2, .int (nI (i + 1))), (1, .int b), (0, .ref (G 0))]) hx hb dX5_passOneSlot_69 hl (k := 0) rfl (nI_add _ _) (by decide) rfl (fun ls hl => ?_)
                refine lv_goto (tgt := 52) hx hb dX5_passOneSlot_72 (by decide) ?_
                have hB : f_X5_passOneSlot_L3_b i S_L3 = (f_X5_endsAfterSlot S_L3 i).2 := ((f_X5_passOneSlot_L3_b_d _ _).trans (if_pos c_5))
                exact ih (i + 1) ((f_X5_endsAfterSlot S_L3 i).2) b H locs ls (by omega) hq (hB.symm.trans ((congrArg _ hv).trans (ct3_s S i).symm)) hP hS (lv_sub hl [0, 1, 2] rfl)
              · have hq := hq.trans (if_neg c_5)
                refine lv_iinc (v := b + Int32.ofInt 1) (lv' := [(1, .int (b + Int32.ofInt 1)), (2, .int (nI i)), (0, .ref (G 0))]) hx hb dX5_passOneSlot_66 hl (k := 1) rfl rfl (by decide) rfl (fun ls hl => ?_)
                refine lv_iinc (v := nI (i + 1)) (lv' := [(2, .int (nI (i + 1))), (1, .int (b + Int32.ofInt 1)), (0, .ref (G 0))]) hx hb dX5_passOneSlot_69 hl (k := 1) rfl (nI_add _ _) (by decide) rfl (fun ls hl => ?_)
                refine lv_goto (tgt := 52) hx hb dX5_passOneSlot_72 (by decide) ?_
                have hB : f_X5_passOneSlot_L3_b i S_L3 = (f_X5_endsAfterSlot S_L3 i).2 := ((f_X5_passOneSlot_L3_b_d _ _).trans (if_neg c_5))
                exact ih (i + 1) ((f_X5_endsAfterSlot S_L3 i).2) (b + Int32.ofInt 1) H locs ls (by omega) hq (hB.symm.trans ((congrArg _ hv).trans (ct3_s S i).symm)) hP hS (lv_sub hl [0, 1, 2] rfl)
          exact L3 6 0 S_L2 (nI 0) _ _ _ (by omega) hq (hv.trans ((congrArg (ct2 S) (show i = 6 by omega)).trans (ct3_0 S).symm)) hP hS (lv_sub hl [0, 1, 2] rfl)
        | succ n ih =>
          intro i S_L2 H locs ls hin hq hv hP hS hl
          have hq := hq.trans (f_X5_passOneSlot_L2_s _ _ _)
          refine lv_iload_n hx hb dX5_passOneSlot_31 rfl (lv_at hl 0 rfl) ?_
          refine lv_bipush (v := nI 6) hx hb dX5_passOneSlot_32 (by decide) ?_
          refine lv_icmp_ge (tgt := 48) hx hb dX5_passOneSlot_34 (by decide) (fun c_6 => absurd c_6 (nI_ge (by omega) (by omega))) (fun _ => ?_)
          refine lv_aload_n hx hb dX5_passOneSlot_37 rfl (lv_at hl 1 rfl) ?_
          refine lv_iload_n hx hb dX5_passOneSlot_38 rfl (lv_at hl 0 rfl) ?_
          refine x_mv (va_runV (As := [.int (nI i)]) (rest := []) ⟨hx, hb, hml, hown, hts⟩ (c_X5_sendInSlot l D cI cS cZ cJ G S_L2 H.size i (by omega) (by rw [hv]; exact hp.2.1 i (by omega))) (cwV 1 hts gX5_passOneSlot_X5_sendInSlot rfl rfl rfl (by decide +kernel) ⟨Nat.le_of_ble_eq_true rfl, Nat.le_of_ble_eq_true rfl⟩) ⟨wPc_blind, va_recv hK hP (ci := 5) (q0 := 0) rfl (WL_at (by decide) (cF_air _)), wPc_at hP hK hD hN⟩ rfl rfl hl.1 rfl (lv_room (Nat.le_of_ble_eq_true rfl)) dX5_passOneSlot_39 ⟨Nat.le_refl _, Nat.le_refl _⟩) hS (fA_sub (hD S) (fun q h => hA q (Nat.le_trans hS.1 h))) (fun H locs hz hk hP hS => ?_)
          refine lv_iinc (v := nI (i + 1)) (lv' := [(1, .int (nI (i + 1))), (0, .ref (G 0))]) hx hb dX5_passOneSlot_42 hl (k := 0) rfl (nI_add _ _) (by decide) rfl (fun ls hl => ?_)
          refine lv_goto (tgt := 31) hx hb dX5_passOneSlot_45 (by decide) ?_
          have hB : f_X5_passOneSlot_L2_b i S_L2 = f_X5_sendInSlot S_L2 i := (f_X5_passOneSlot_L2_b_d _ _)
          exact ih (i + 1) (f_X5_sendInSlot S_L2 i) H locs ls (by omega) hq (hB.symm.trans ((congrArg _ hv).trans (ct2_s S i).symm)) hP hS (lv_sub hl [0, 1] rfl)
      exact L2 6 0 S_L1 _ _ _ (by omega) hq (hv.trans ((congrArg (ct1 S) (show i = 6 by omega)).trans (ct2_0 S).symm)) hP hS (lv_sub hl [0, 1] rfl)
    | succ n ih =>
      intro i S_L1 H locs ls hin hq hv hP hS hl
      have hq := hq.trans (f_X5_passOneSlot_L1_s _ _ _)
      refine lv_iload_n hx hb dX5_passOneSlot_12 rfl (lv_at hl 0 rfl) ?_
      refine lv_bipush (v := nI 6) hx hb dX5_passOneSlot_13 (by decide) ?_
      refine lv_icmp_ge (tgt := 29) hx hb dX5_passOneSlot_15 (by decide) (fun c_7 => absurd c_7 (nI_ge (by omega) (by omega))) (fun _ => ?_)
      refine lv_aload_n hx hb dX5_passOneSlot_18 rfl (lv_at hl 1 rfl) ?_
      refine lv_iload_n hx hb dX5_passOneSlot_19 rfl (lv_at hl 0 rfl) ?_
      refine x_mv (va_runV (As := [.int (nI i)]) (rest := []) ⟨hx, hb, hml, hown, hts⟩ (c_X5_waitOrBegin l D cI cS cZ cJ G S_L1 H.size i (by omega) (by rw [hv]; exact (hp.1 i (by omega)).1) (by rw [hv]; exact (hp.1 i (by omega)).2)) (cwV 1 hts gX5_passOneSlot_X5_waitOrBegin rfl rfl rfl (by decide +kernel) ⟨Nat.le_of_ble_eq_true rfl, Nat.le_of_ble_eq_true rfl⟩) ⟨wPc_blind, va_recv hK hP (ci := 5) (q0 := 0) rfl (WL_at (by decide) (cF_air _)), wPc_at hP hK hD hN⟩ rfl rfl hl.1 rfl (lv_room (Nat.le_of_ble_eq_true rfl)) dX5_passOneSlot_20 ⟨Nat.le_refl _, Nat.le_refl _⟩) hS (fA_sub (hD S) (fun q h => hA q (Nat.le_trans hS.1 h))) (fun H locs hz hk hP hS => ?_)
      refine lv_iinc (v := nI (i + 1)) (lv' := [(1, .int (nI (i + 1))), (0, .ref (G 0))]) hx hb dX5_passOneSlot_23 hl (k := 0) rfl (nI_add _ _) (by decide) rfl (fun ls hl => ?_)
      refine lv_goto (tgt := 12) hx hb dX5_passOneSlot_26 (by decide) ?_
      have hB : f_X5_passOneSlot_L1_b i S_L1 = f_X5_waitOrBegin S_L1 i := (f_X5_passOneSlot_L1_b_d _ _)
      exact ih (i + 1) (f_X5_waitOrBegin S_L1 i) H locs ls (by omega) hq (hB.symm.trans ((congrArg _ hv).trans (ct1_s S i).symm)) hP hS (lv_sub hl [0, 1] rfl)
  exact L1 6 0 (ub S 0 1 ((S 0 1) + (nI 1))) _ _ _ (by omega) hq (ct1_0 S).symm hP hS (lv_sub hl [0, 1] rfl)

theorem mm_X6_passes_X6 : ∀ w ∈ wsX60, w ∈ wsX6_passes := by decide +kernel
theorem lk_X6_passes_100 : Cond.fieldLink RX6 100 "BackofficeAirModel" "now" "I" ∈ wsX6_passes := by decide +kernel
theorem lk_X6_passes_38 : Cond.fieldLink RX6 38 "BackofficeAirModel" "frames" "[I" ∈ wsX6_passes := by decide +kernel
theorem lk_X6_passes_41 : Cond.fieldLink RX6 41 "BackofficeAirModel" "isSending" "[Z" ∈ wsX6_passes := by decide +kernel
theorem lk_X6_passes_45 : Cond.fieldLink RX6 45 "BackofficeAirModel" "wasSending" "[Z" ∈ wsX6_passes := by decide +kernel
theorem lk_X6_passes_54 : Cond.fieldLink RX6 54 "BackofficeAirModel" "last" "[I" ∈ wsX6_passes := by decide +kernel
theorem lk_X6_passes_57 : Cond.fieldLink RX6 57 "BackofficeAirModel" "broken" "[I" ∈ wsX6_passes := by decide +kernel
theorem lk_X6_passes_66 : Cond.fieldLink RX6 66 "BackofficeAirModel" "airtime" "[I" ∈ wsX6_passes := by decide +kernel
def f_X6_passes_L3 : Nat → Nat → Mem → Int32 → Int32 × Mem
  | 0, i, S_L3, b => (b, S_L3)
  | n + 1, i, S_L3, b => if S_L3 11 i = 0 then (f_X6_passes_L3 n (i + 1) S_L3 b) else (if f_X6_piece S_L3 i = nI 16 then (if S_L3 15 i ≤ 0 then (if f_X6_piece S_L3 i = nI 16 then (if (f_X6_silences S_L3 i) 10 i = 0 then (f_X6_passes_L3 n (i + 1) (f_X6_silences S_L3 i) (b + (nI 1))) else (f_X6_passes_L3 n (i + 1) (f_X6_silences S_L3 i) (b + (nI 0)))) else (if S_L3 0 1 = S_L3 14 i then (if (f_X6_ends S_L3 i) 10 i = 0 then (f_X6_passes_L3 n (i + 1) (f_X6_ends S_L3 i) (b + (nI 1))) else (f_X6_passes_L3 n (i + 1) (f_X6_ends S_L3 i) (b + (nI 0)))) else (if S_L3 10 i = 0 then (f_X6_passes_L3 n (i + 1) S_L3 (b + (nI 1))) else (f_X6_passes_L3 n (i + 1) S_L3 (b + (nI 0)))))) else (if (f_X6_fails S_L3 i) 10 i = 0 then (f_X6_passes_L3 n (i + 1) (f_X6_fails S_L3 i) (b + (nI 1))) else (f_X6_passes_L3 n (i + 1) (f_X6_fails S_L3 i) (b + (nI 0))))) else (if f_X6_piece S_L3 i = nI 16 then (if (f_X6_silences S_L3 i) 10 i = 0 then (f_X6_passes_L3 n (i + 1) (f_X6_silences S_L3 i) (b + (nI 1))) else (f_X6_passes_L3 n (i + 1) (f_X6_silences S_L3 i) (b + (nI 0)))) else (if S_L3 0 1 = S_L3 14 i then (if (f_X6_ends S_L3 i) 10 i = 0 then (f_X6_passes_L3 n (i + 1) (f_X6_ends S_L3 i) (b + (nI 1))) else (f_X6_passes_L3 n (i + 1) (f_X6_ends S_L3 i) (b + (nI 0)))) else (if S_L3 10 i = 0 then (f_X6_passes_L3 n (i + 1) S_L3 (b + (nI 1))) else (f_X6_passes_L3 n (i + 1) S_L3 (b + (nI 0)))))))
theorem f_X6_passes_L3_z (i : Nat) (S_L3 : Mem) (b : Int32) : f_X6_passes_L3  0 i S_L3 b = ((b, S_L3)) := rfl
theorem f_X6_passes_L3_s (n : Nat) (i : Nat) (S_L3 : Mem) (b : Int32) : f_X6_passes_L3  (n + 1) i S_L3 b = (if S_L3 11 i = 0 then (f_X6_passes_L3 n (i + 1) S_L3 b) else (if f_X6_piece S_L3 i = nI 16 then (if S_L3 15 i ≤ 0 then (if f_X6_piece S_L3 i = nI 16 then (if (f_X6_silences S_L3 i) 10 i = 0 then (f_X6_passes_L3 n (i + 1) (f_X6_silences S_L3 i) (b + (nI 1))) else (f_X6_passes_L3 n (i + 1) (f_X6_silences S_L3 i) (b + (nI 0)))) else (if S_L3 0 1 = S_L3 14 i then (if (f_X6_ends S_L3 i) 10 i = 0 then (f_X6_passes_L3 n (i + 1) (f_X6_ends S_L3 i) (b + (nI 1))) else (f_X6_passes_L3 n (i + 1) (f_X6_ends S_L3 i) (b + (nI 0)))) else (if S_L3 10 i = 0 then (f_X6_passes_L3 n (i + 1) S_L3 (b + (nI 1))) else (f_X6_passes_L3 n (i + 1) S_L3 (b + (nI 0)))))) else (if (f_X6_fails S_L3 i) 10 i = 0 then (f_X6_passes_L3 n (i + 1) (f_X6_fails S_L3 i) (b + (nI 1))) else (f_X6_passes_L3 n (i + 1) (f_X6_fails S_L3 i) (b + (nI 0))))) else (if f_X6_piece S_L3 i = nI 16 then (if (f_X6_silences S_L3 i) 10 i = 0 then (f_X6_passes_L3 n (i + 1) (f_X6_silences S_L3 i) (b + (nI 1))) else (f_X6_passes_L3 n (i + 1) (f_X6_silences S_L3 i) (b + (nI 0)))) else (if S_L3 0 1 = S_L3 14 i then (if (f_X6_ends S_L3 i) 10 i = 0 then (f_X6_passes_L3 n (i + 1) (f_X6_ends S_L3 i) (b + (nI 1))) else (f_X6_passes_L3 n (i + 1) (f_X6_ends S_L3 i) (b + (nI 0)))) else (if S_L3 10 i = 0 then (f_X6_passes_L3 n (i + 1) S_L3 (b + (nI 1))) else (f_X6_passes_L3 n (i + 1) S_L3 (b + (nI 0)))))))) := rfl
def f_X6_passes_L3_b (i : Nat) (S_L3 : Mem) : Mem := if S_L3 11 i = 0 then (S_L3) else (if f_X6_piece S_L3 i = nI 16 then (if S_L3 15 i ≤ 0 then (if f_X6_piece S_L3 i = nI 16 then (if (f_X6_silences S_L3 i) 10 i = 0 then (f_X6_silences S_L3 i) else (f_X6_silences S_L3 i)) else (if S_L3 0 1 = S_L3 14 i then (if (f_X6_ends S_L3 i) 10 i = 0 then (f_X6_ends S_L3 i) else (f_X6_ends S_L3 i)) else (if S_L3 10 i = 0 then (S_L3) else (S_L3)))) else (if (f_X6_fails S_L3 i) 10 i = 0 then (f_X6_fails S_L3 i) else (f_X6_fails S_L3 i))) else (if f_X6_piece S_L3 i = nI 16 then (if (f_X6_silences S_L3 i) 10 i = 0 then (f_X6_silences S_L3 i) else (f_X6_silences S_L3 i)) else (if S_L3 0 1 = S_L3 14 i then (if (f_X6_ends S_L3 i) 10 i = 0 then (f_X6_ends S_L3 i) else (f_X6_ends S_L3 i)) else (if S_L3 10 i = 0 then (S_L3) else (S_L3)))))
theorem f_X6_passes_L3_b_d (i : Nat) (S_L3 : Mem) : f_X6_passes_L3_b i S_L3 = (if S_L3 11 i = 0 then (S_L3) else (if f_X6_piece S_L3 i = nI 16 then (if S_L3 15 i ≤ 0 then (if f_X6_piece S_L3 i = nI 16 then (if (f_X6_silences S_L3 i) 10 i = 0 then (f_X6_silences S_L3 i) else (f_X6_silences S_L3 i)) else (if S_L3 0 1 = S_L3 14 i then (if (f_X6_ends S_L3 i) 10 i = 0 then (f_X6_ends S_L3 i) else (f_X6_ends S_L3 i)) else (if S_L3 10 i = 0 then (S_L3) else (S_L3)))) else (if (f_X6_fails S_L3 i) 10 i = 0 then (f_X6_fails S_L3 i) else (f_X6_fails S_L3 i))) else (if f_X6_piece S_L3 i = nI 16 then (if (f_X6_silences S_L3 i) 10 i = 0 then (f_X6_silences S_L3 i) else (f_X6_silences S_L3 i)) else (if S_L3 0 1 = S_L3 14 i then (if (f_X6_ends S_L3 i) 10 i = 0 then (f_X6_ends S_L3 i) else (f_X6_ends S_L3 i)) else (if S_L3 10 i = 0 then (S_L3) else (S_L3)))))) := rfl
def f_X6_passes_L2 : Nat → Nat → Mem → Int32 × Mem
  | 0, i, S_L2 => f_X6_passes_L3 6 0 S_L2 (nI 0)
  | n + 1, i, S_L2 => if (ub S_L2 11 i (vp_nar .boolean (S_L2 10 i))) 10 i = 0 then (if (ub (ub S_L2 11 i (vp_nar .boolean (S_L2 10 i))) 18 i (((ub S_L2 11 i (vp_nar .boolean (S_L2 10 i))) 18 i) + (nI 0))) 10 i = 0 then (f_X6_passes_L2 n (i + 1) (ub (ub (ub S_L2 11 i (vp_nar .boolean (S_L2 10 i))) 18 i (((ub S_L2 11 i (vp_nar .boolean (S_L2 10 i))) 18 i) + (nI 0))) 15 i (((ub (ub S_L2 11 i (vp_nar .boolean (S_L2 10 i))) 18 i (((ub S_L2 11 i (vp_nar .boolean (S_L2 10 i))) 18 i) + (nI 0))) 15 i) ||| (nI 0)))) else (if f_X6_isBroken (ub (ub S_L2 11 i (vp_nar .boolean (S_L2 10 i))) 18 i (((ub S_L2 11 i (vp_nar .boolean (S_L2 10 i))) 18 i) + (nI 0))) i = 0 then (f_X6_passes_L2 n (i + 1) (ub (ub (ub S_L2 11 i (vp_nar .boolean (S_L2 10 i))) 18 i (((ub S_L2 11 i (vp_nar .boolean (S_L2 10 i))) 18 i) + (nI 0))) 15 i (((ub (ub S_L2 11 i (vp_nar .boolean (S_L2 10 i))) 18 i (((ub S_L2 11 i (vp_nar .boolean (S_L2 10 i))) 18 i) + (nI 0))) 15 i) ||| (nI 0)))) else (f_X6_passes_L2 n (i + 1) (ub (ub (ub S_L2 11 i (vp_nar .boolean (S_L2 10 i))) 18 i (((ub S_L2 11 i (vp_nar .boolean (S_L2 10 i))) 18 i) + (nI 0))) 15 i (((ub (ub S_L2 11 i (vp_nar .boolean (S_L2 10 i))) 18 i (((ub S_L2 11 i (vp_nar .boolean (S_L2 10 i))) 18 i) + (nI 0))) 15 i) ||| (f_X6_piece (ub (ub S_L2 11 i (vp_nar .boolean (S_L2 10 i))) 18 i (((ub S_L2 11 i (vp_nar .boolean (S_L2 10 i))) 18 i) + (nI 0))) i)))))) else (if (ub (ub S_L2 11 i (vp_nar .boolean (S_L2 10 i))) 18 i (((ub S_L2 11 i (vp_nar .boolean (S_L2 10 i))) 18 i) + (nI 1))) 10 i = 0 then (f_X6_passes_L2 n (i + 1) (ub (ub (ub S_L2 11 i (vp_nar .boolean (S_L2 10 i))) 18 i (((ub S_L2 11 i (vp_nar .boolean (S_L2 10 i))) 18 i) + (nI 1))) 15 i (((ub (ub S_L2 11 i (vp_nar .boolean (S_L2 10 i))) 18 i (((ub S_L2 11 i (vp_nar .boolean (S_L2 10 i))) 18 i) + (nI 1))) 15 i) ||| (nI 0)))) else (if f_X6_isBroken (ub (ub S_L2 11 i (vp_nar .boolean (S_L2 10 i))) 18 i (((ub S_L2 11 i (vp_nar .boolean (S_L2 10 i))) 18 i) + (nI 1))) i = 0 then (f_X6_passes_L2 n (i + 1) (ub (ub (ub S_L2 11 i (vp_nar .boolean (S_L2 10 i))) 18 i (((ub S_L2 11 i (vp_nar .boolean (S_L2 10 i))) 18 i) + (nI 1))) 15 i (((ub (ub S_L2 11 i (vp_nar .boolean (S_L2 10 i))) 18 i (((ub S_L2 11 i (vp_nar .boolean (S_L2 10 i))) 18 i) + (nI 1))) 15 i) ||| (nI 0)))) else (f_X6_passes_L2 n (i + 1) (ub (ub (ub S_L2 11 i (vp_nar .boolean (S_L2 10 i))) 18 i (((ub S_L2 11 i (vp_nar .boolean (S_L2 10 i))) 18 i) + (nI 1))) 15 i (((ub (ub S_L2 11 i (vp_nar .boolean (S_L2 10 i))) 18 i (((ub S_L2 11 i (vp_nar .boolean (S_L2 10 i))) 18 i) + (nI 1))) 15 i) ||| (f_X6_piece (ub (ub S_L2 11 i (vp_nar .boolean (S_L2 10 i))) 18 i (((ub S_L2 11 i (vp_nar .boolean (S_L2 10 i))) 18 i) + (nI 1))) i))))))
theorem f_X6_passes_L2_z (i : Nat) (S_L2 : Mem) : f_X6_passes_L2  0 i S_L2 = (f_X6_passes_L3 6 0 S_L2 (nI 0)) := rfl
theorem f_X6_passes_L2_s (n : Nat) (i : Nat) (S_L2 : Mem) : f_X6_passes_L2  (n + 1) i S_L2 = (if (ub S_L2 11 i (vp_nar .boolean (S_L2 10 i))) 10 i = 0 then (if (ub (ub S_L2 11 i (vp_nar .boolean (S_L2 10 i))) 18 i (((ub S_L2 11 i (vp_nar .boolean (S_L2 10 i))) 18 i) + (nI 0))) 10 i = 0 then (f_X6_passes_L2 n (i + 1) (ub (ub (ub S_L2 11 i (vp_nar .boolean (S_L2 10 i))) 18 i (((ub S_L2 11 i (vp_nar .boolean (S_L2 10 i))) 18 i) + (nI 0))) 15 i (((ub (ub S_L2 11 i (vp_nar .boolean (S_L2 10 i))) 18 i (((ub S_L2 11 i (vp_nar .boolean (S_L2 10 i))) 18 i) + (nI 0))) 15 i) ||| (nI 0)))) else (if f_X6_isBroken (ub (ub S_L2 11 i (vp_nar .boolean (S_L2 10 i))) 18 i (((ub S_L2 11 i (vp_nar .boolean (S_L2 10 i))) 18 i) + (nI 0))) i = 0 then (f_X6_passes_L2 n (i + 1) (ub (ub (ub S_L2 11 i (vp_nar .boolean (S_L2 10 i))) 18 i (((ub S_L2 11 i (vp_nar .boolean (S_L2 10 i))) 18 i) + (nI 0))) 15 i (((ub (ub S_L2 11 i (vp_nar .boolean (S_L2 10 i))) 18 i (((ub S_L2 11 i (vp_nar .boolean (S_L2 10 i))) 18 i) + (nI 0))) 15 i) ||| (nI 0)))) else (f_X6_passes_L2 n (i + 1) (ub (ub (ub S_L2 11 i (vp_nar .boolean (S_L2 10 i))) 18 i (((ub S_L2 11 i (vp_nar .boolean (S_L2 10 i))) 18 i) + (nI 0))) 15 i (((ub (ub S_L2 11 i (vp_nar .boolean (S_L2 10 i))) 18 i (((ub S_L2 11 i (vp_nar .boolean (S_L2 10 i))) 18 i) + (nI 0))) 15 i) ||| (f_X6_piece (ub (ub S_L2 11 i (vp_nar .boolean (S_L2 10 i))) 18 i (((ub S_L2 11 i (vp_nar .boolean (S_L2 10 i))) 18 i) + (nI 0))) i)))))) else (if (ub (ub S_L2 11 i (vp_nar .boolean (S_L2 10 i))) 18 i (((ub S_L2 11 i (vp_nar .boolean (S_L2 10 i))) 18 i) + (nI 1))) 10 i = 0 then (f_X6_passes_L2 n (i + 1) (ub (ub (ub S_L2 11 i (vp_nar .boolean (S_L2 10 i))) 18 i (((ub S_L2 11 i (vp_nar .boolean (S_L2 10 i))) 18 i) + (nI 1))) 15 i (((ub (ub S_L2 11 i (vp_nar .boolean (S_L2 10 i))) 18 i (((ub S_L2 11 i (vp_nar .boolean (S_L2 10 i))) 18 i) + (nI 1))) 15 i) ||| (nI 0)))) else (if f_X6_isBroken (ub (ub S_L2 11 i (vp_nar .boolean (S_L2 10 i))) 18 i (((ub S_L2 11 i (vp_nar .boolean (S_L2 10 i))) 18 i) + (nI 1))) i = 0 then (f_X6_passes_L2 n (i + 1) (ub (ub (ub S_L2 11 i (vp_nar .boolean (S_L2 10 i))) 18 i (((ub S_L2 11 i (vp_nar .boolean (S_L2 10 i))) 18 i) + (nI 1))) 15 i (((ub (ub S_L2 11 i (vp_nar .boolean (S_L2 10 i))) 18 i (((ub S_L2 11 i (vp_nar .boolean (S_L2 10 i))) 18 i) + (nI 1))) 15 i) ||| (nI 0)))) else (f_X6_passes_L2 n (i + 1) (ub (ub (ub S_L2 11 i (vp_nar .boolean (S_L2 10 i))) 18 i (((ub S_L2 11 i (vp_nar .boolean (S_L2 10 i))) 18 i) + (nI 1))) 15 i (((ub (ub S_L2 11 i (vp_nar .boolean (S_L2 10 i))) 18 i (((ub S_L2 11 i (vp_nar .boolean (S_L2 10 i))) 18 i) + (nI 1))) 15 i) ||| (f_X6_piece (ub (ub S_L2 11 i (vp_nar .boolean (S_L2 10 i))) 18 i (((ub S_L2 11 i (vp_nar .boolean (S_L2 10 i))) 18 i) + (nI 1))) i))))))) := rfl
def f_X6_passes_L2_b (i : Nat) (S_L2 : Mem) : Mem := if (ub S_L2 11 i (vp_nar .boolean (S_L2 10 i))) 10 i = 0 then (if (ub (ub S_L2 11 i (vp_nar .boolean (S_L2 10 i))) 18 i (((ub S_L2 11 i (vp_nar .boolean (S_L2 10 i))) 18 i) + (nI 0))) 10 i = 0 then (ub (ub (ub S_L2 11 i (vp_nar .boolean (S_L2 10 i))) 18 i (((ub S_L2 11 i (vp_nar .boolean (S_L2 10 i))) 18 i) + (nI 0))) 15 i (((ub (ub S_L2 11 i (vp_nar .boolean (S_L2 10 i))) 18 i (((ub S_L2 11 i (vp_nar .boolean (S_L2 10 i))) 18 i) + (nI 0))) 15 i) ||| (nI 0))) else (if f_X6_isBroken (ub (ub S_L2 11 i (vp_nar .boolean (S_L2 10 i))) 18 i (((ub S_L2 11 i (vp_nar .boolean (S_L2 10 i))) 18 i) + (nI 0))) i = 0 then (ub (ub (ub S_L2 11 i (vp_nar .boolean (S_L2 10 i))) 18 i (((ub S_L2 11 i (vp_nar .boolean (S_L2 10 i))) 18 i) + (nI 0))) 15 i (((ub (ub S_L2 11 i (vp_nar .boolean (S_L2 10 i))) 18 i (((ub S_L2 11 i (vp_nar .boolean (S_L2 10 i))) 18 i) + (nI 0))) 15 i) ||| (nI 0))) else (ub (ub (ub S_L2 11 i (vp_nar .boolean (S_L2 10 i))) 18 i (((ub S_L2 11 i (vp_nar .boolean (S_L2 10 i))) 18 i) + (nI 0))) 15 i (((ub (ub S_L2 11 i (vp_nar .boolean (S_L2 10 i))) 18 i (((ub S_L2 11 i (vp_nar .boolean (S_L2 10 i))) 18 i) + (nI 0))) 15 i) ||| (f_X6_piece (ub (ub S_L2 11 i (vp_nar .boolean (S_L2 10 i))) 18 i (((ub S_L2 11 i (vp_nar .boolean (S_L2 10 i))) 18 i) + (nI 0))) i))))) else (if (ub (ub S_L2 11 i (vp_nar .boolean (S_L2 10 i))) 18 i (((ub S_L2 11 i (vp_nar .boolean (S_L2 10 i))) 18 i) + (nI 1))) 10 i = 0 then (ub (ub (ub S_L2 11 i (vp_nar .boolean (S_L2 10 i))) 18 i (((ub S_L2 11 i (vp_nar .boolean (S_L2 10 i))) 18 i) + (nI 1))) 15 i (((ub (ub S_L2 11 i (vp_nar .boolean (S_L2 10 i))) 18 i (((ub S_L2 11 i (vp_nar .boolean (S_L2 10 i))) 18 i) + (nI 1))) 15 i) ||| (nI 0))) else (if f_X6_isBroken (ub (ub S_L2 11 i (vp_nar .boolean (S_L2 10 i))) 18 i (((ub S_L2 11 i (vp_nar .boolean (S_L2 10 i))) 18 i) + (nI 1))) i = 0 then (ub (ub (ub S_L2 11 i (vp_nar .boolean (S_L2 10 i))) 18 i (((ub S_L2 11 i (vp_nar .boolean (S_L2 10 i))) 18 i) + (nI 1))) 15 i (((ub (ub S_L2 11 i (vp_nar .boolean (S_L2 10 i))) 18 i (((ub S_L2 11 i (vp_nar .boolean (S_L2 10 i))) 18 i) + (nI 1))) 15 i) ||| (nI 0))) else (ub (ub (ub S_L2 11 i (vp_nar .boolean (S_L2 10 i))) 18 i (((ub S_L2 11 i (vp_nar .boolean (S_L2 10 i))) 18 i) + (nI 1))) 15 i (((ub (ub S_L2 11 i (vp_nar .boolean (S_L2 10 i))) 18 i (((ub S_L2 11 i (vp_nar .boolean (S_L2 10 i))) 18 i) + (nI 1))) 15 i) ||| (f_X6_piece (ub (ub S_L2 11 i (vp_nar .boolean (S_L2 10 i))) 18 i (((ub S_L2 11 i (vp_nar .boolean (S_L2 10 i))) 18 i) + (nI 1))) i)))))
theorem f_X6_passes_L2_b_d (i : Nat) (S_L2 : Mem) : f_X6_passes_L2_b i S_L2 = (if (ub S_L2 11 i (vp_nar .boolean (S_L2 10 i))) 10 i = 0 then (if (ub (ub S_L2 11 i (vp_nar .boolean (S_L2 10 i))) 18 i (((ub S_L2 11 i (vp_nar .boolean (S_L2 10 i))) 18 i) + (nI 0))) 10 i = 0 then (ub (ub (ub S_L2 11 i (vp_nar .boolean (S_L2 10 i))) 18 i (((ub S_L2 11 i (vp_nar .boolean (S_L2 10 i))) 18 i) + (nI 0))) 15 i (((ub (ub S_L2 11 i (vp_nar .boolean (S_L2 10 i))) 18 i (((ub S_L2 11 i (vp_nar .boolean (S_L2 10 i))) 18 i) + (nI 0))) 15 i) ||| (nI 0))) else (if f_X6_isBroken (ub (ub S_L2 11 i (vp_nar .boolean (S_L2 10 i))) 18 i (((ub S_L2 11 i (vp_nar .boolean (S_L2 10 i))) 18 i) + (nI 0))) i = 0 then (ub (ub (ub S_L2 11 i (vp_nar .boolean (S_L2 10 i))) 18 i (((ub S_L2 11 i (vp_nar .boolean (S_L2 10 i))) 18 i) + (nI 0))) 15 i (((ub (ub S_L2 11 i (vp_nar .boolean (S_L2 10 i))) 18 i (((ub S_L2 11 i (vp_nar .boolean (S_L2 10 i))) 18 i) + (nI 0))) 15 i) ||| (nI 0))) else (ub (ub (ub S_L2 11 i (vp_nar .boolean (S_L2 10 i))) 18 i (((ub S_L2 11 i (vp_nar .boolean (S_L2 10 i))) 18 i) + (nI 0))) 15 i (((ub (ub S_L2 11 i (vp_nar .boolean (S_L2 10 i))) 18 i (((ub S_L2 11 i (vp_nar .boolean (S_L2 10 i))) 18 i) + (nI 0))) 15 i) ||| (f_X6_piece (ub (ub S_L2 11 i (vp_nar .boolean (S_L2 10 i))) 18 i (((ub S_L2 11 i (vp_nar .boolean (S_L2 10 i))) 18 i) + (nI 0))) i))))) else (if (ub (ub S_L2 11 i (vp_nar .boolean (S_L2 10 i))) 18 i (((ub S_L2 11 i (vp_nar .boolean (S_L2 10 i))) 18 i) + (nI 1))) 10 i = 0 then (ub (ub (ub S_L2 11 i (vp_nar .boolean (S_L2 10 i))) 18 i (((ub S_L2 11 i (vp_nar .boolean (S_L2 10 i))) 18 i) + (nI 1))) 15 i (((ub (ub S_L2 11 i (vp_nar .boolean (S_L2 10 i))) 18 i (((ub S_L2 11 i (vp_nar .boolean (S_L2 10 i))) 18 i) + (nI 1))) 15 i) ||| (nI 0))) else (if f_X6_isBroken (ub (ub S_L2 11 i (vp_nar .boolean (S_L2 10 i))) 18 i (((ub S_L2 11 i (vp_nar .boolean (S_L2 10 i))) 18 i) + (nI 1))) i = 0 then (ub (ub (ub S_L2 11 i (vp_nar .boolean (S_L2 10 i))) 18 i (((ub S_L2 11 i (vp_nar .boolean (S_L2 10 i))) 18 i) + (nI 1))) 15 i (((ub (ub S_L2 11 i (vp_nar .boolean (S_L2 10 i))) 18 i (((ub S_L2 11 i (vp_nar .boolean (S_L2 10 i))) 18 i) + (nI 1))) 15 i) ||| (nI 0))) else (ub (ub (ub S_L2 11 i (vp_nar .boolean (S_L2 10 i))) 18 i (((ub S_L2 11 i (vp_nar .boolean (S_L2 10 i))) 18 i) + (nI 1))) 15 i (((ub (ub S_L2 11 i (vp_nar .boolean (S_L2 10 i))) 18 i (((ub S_L2 11 i (vp_nar .boolean (S_L2 10 i))) 18 i) + (nI 1))) 15 i) ||| (f_X6_piece (ub (ub S_L2 11 i (vp_nar .boolean (S_L2 10 i))) 18 i (((ub S_L2 11 i (vp_nar .boolean (S_L2 10 i))) 18 i) + (nI 1))) i)))))) := rfl
def f_X6_passes_L1 : Nat → Nat → Mem → Int32 × Mem
  | 0, i, S_L1 => f_X6_passes_L2 6 0 S_L1
  | n + 1, i, S_L1 => if S_L1 10 i = 0 then (if S_L1 9 i ≤ 0 then (f_X6_passes_L1 n (i + 1) S_L1) else (f_X6_passes_L1 n (i + 1) (f_X6_listens S_L1 i))) else (f_X6_passes_L1 n (i + 1) S_L1)
theorem f_X6_passes_L1_z (i : Nat) (S_L1 : Mem) : f_X6_passes_L1  0 i S_L1 = (f_X6_passes_L2 6 0 S_L1) := rfl
theorem f_X6_passes_L1_s (n : Nat) (i : Nat) (S_L1 : Mem) : f_X6_passes_L1  (n + 1) i S_L1 = (if S_L1 10 i = 0 then (if S_L1 9 i ≤ 0 then (f_X6_passes_L1 n (i + 1) S_L1) else (f_X6_passes_L1 n (i + 1) (f_X6_listens S_L1 i))) else (f_X6_passes_L1 n (i + 1) S_L1)) := rfl
def f_X6_passes_L1_b (i : Nat) (S_L1 : Mem) : Mem := if S_L1 10 i = 0 then (if S_L1 9 i ≤ 0 then (S_L1) else (f_X6_listens S_L1 i)) else (S_L1)
theorem f_X6_passes_L1_b_d (i : Nat) (S_L1 : Mem) : f_X6_passes_L1_b i S_L1 = (if S_L1 10 i = 0 then (if S_L1 9 i ≤ 0 then (S_L1) else (f_X6_listens S_L1 i)) else (S_L1)) := rfl
def mt0 (S : Mem) : Mem := ub S 0 1 ((S 0 1) + (nI 1))
def mt1 (S : Mem) (i : Nat) : Mem := itr f_X6_passes_L1_b (mt0 S) i
def mt2 (S : Mem) (i : Nat) : Mem := itr f_X6_passes_L2_b (mt1 S 6) i
def mt3 (S : Mem) (i : Nat) : Mem := itr f_X6_passes_L3_b (mt2 S 6) i
theorem mt1_0 (S : Mem) : mt1 S 0 = ub S 0 1 ((S 0 1) + (nI 1)) := itr_0 _ _
theorem mt1_s (S : Mem) (i : Nat) : mt1 S (i + 1) = f_X6_passes_L1_b i (mt1 S i) := itr_s _ _ _
theorem mt2_0 (S : Mem) : mt2 S 0 = mt1 S 6 := itr_0 _ _
theorem mt2_s (S : Mem) (i : Nat) : mt2 S (i + 1) = f_X6_passes_L2_b i (mt2 S i) := itr_s _ _ _
theorem mt3_0 (S : Mem) : mt3 S 0 = mt2 S 6 := itr_0 _ _
theorem mt3_s (S : Mem) (i : Nat) : mt3 S (i + 1) = f_X6_passes_L3_b i (mt3 S i) := itr_s _ _ _
def mGo (S : Mem) (i : Nat) : Prop := S 7 (5 * i) = nI (kN (S 7 (5 * i))) ∧ kN (S 7 (5 * i)) < 6
def mFr (S : Mem) (i : Nat) : Prop := S 9 i = nI (kN (S 9 i)) ∧ kN (S 9 i) ≤ 5
def qOK (S : Mem) : Prop := (∀ i, i < 6 → (mt1 S i 0 3 = nI (kN (mt1 S i 0 3)) ∧ kN (mt1 S i 0 3) ≤ 200) ∧ (mt1 S i 3 i = nI (kN (mt1 S i 3 i)) ∧ kN (mt1 S i 3 i) ≤ 31)) ∧ (∀ i, i < 6 → ¬ mt2 S i 10 i = 0 → mGo (mt2 S i) i) ∧ ∀ i, i < 6 → ¬ mt3 S i 11 i = 0 → mGo (mt3 S i) i ∧ mFr (mt3 S i) i
def f_X6_passes (S : Mem) : Int32 × Mem := f_X6_passes_L1 6 0 (ub S 0 1 ((S 0 1) + (nI 1)))
theorem f_X6_passes_d (S : Mem) : f_X6_passes S = (f_X6_passes_L1 6 0 (ub S 0 1 ((S 0 1) + (nI 1)))) := rfl
set_option maxHeartbeats 1000000 in
set_option maxRecDepth 100000 in
theorem c_X6_passes (l : Launch) (D : va_G) (cI cS cZ cJ : ClassId) (G : Nat → Nat) (S : Mem) (sz : Nat) (hp : qOK S) : Met l yX6_passes wsX6_passes ({ frames := 4, cells := 0, slots := 0, locals := 86 } : Room) (wPc 20 (mF cI cZ G) D (tY cI cS cZ cJ) G S sz [.ref (G 0)]) (mQi (f_X6_passes S) 20 (mF cI cZ G) D G sz) 0 0 (fA 20 G sz) := by
  refine x_met (cc := cX6_passes) (maxL := 3) (ret := (some .int)) (by decide) rfl (Nat.le_of_ble_eq_true rfl) ?_
  intro p e s m below meth c ls hx hb hr hml hts hown hlocks hsz hP hK hD hN hl hnm
  subst hsz
  have hown : s.vm.findClass RX6 = some m.cls := hown
  have hl : lv_has ls 3 [(0, .ref (G 0))] := hl
  have hq := f_X6_passes_d S
  have hA : ∀ q : Nat, s.heap.size ≤ q → (fA 20 G s.heap.size) q := fun q h => Or.inr h
  have hS : va_S (fA 20 G s.heap.size) s.heap s.heap [] := va_S.rf
  refine lv_aload_n hx hb dX6_passes_0 rfl (lv_at hl 0 rfl) ?_
  refine lv_dup hx hb dX6_passes_1 rfl ?_
  refine x_get hx hb hts mm_X6_passes_X6 hown hK hP (0) (by decide) (rfl) rfl 1 (by decide) (hts _ lk_X6_passes_100) rfl rfl dX6_passes_2 ?_
  refine lv_iconst (v := nI 1) hx hb dX6_passes_5 (by decide) ?_
  refine lv_iadd hx hb dX6_passes_6 ?_
  refine x_put hx hb hts mm_X6_passes_X6 tyX6 tyX6_ok nmX6 hown hK hP hD hS 0 (by decide) (rfl) rfl 1 (by decide) (hts _ lk_X6_passes_100) rfl rfl rfl rfl rfl (Nat.le_of_ble_eq_true rfl) 1 (rfl) dX6_passes_7 (fun H locs hP hS => ?_)
  refine lv_iconst (v := nI 0) hx hb dX6_passes_10 (by decide) ?_
  refine lv_istore_n (lv' := [(1, .int (nI 0)), (0, .ref (G 0))]) hx hb dX6_passes_11 rfl hl (by decide) rfl (fun ls hl => ?_)
  have L1 : ∀ (n : Nat) (i : Nat) (S_L1 : Mem) (H : Heap) (locs : List Loc) (ls : Array Slot), i + n = 6 → f_X6_passes S = f_X6_passes_L1 n i S_L1 → (S_L1 = mt1 S i) → va_P D vwCl (WL 20 G (mF cI cZ G) S_L1) H → va_S (fA 20 G s.heap.size) s.heap H locs → lv_has ls 3 [(1, .int (nI i)), (0, .ref (G 0))] → W p l e ({ frames := 4, cells := 0, slots := 0, locals := 86 } : Room) s m ([.ref (G 0)] : List Value).toArray below meth c H locs 0 0 (MQ below (mQi (f_X6_passes S) 20 (mF cI cZ G) D G s.heap.size) ([.ref (G 0)] : List Value).toArray s 0 0 (fA 20 G s.heap.size)) (F0 m 12 ls []) := by
    intro n
    induction n with
    | zero =>
      intro i S_L1 H locs ls hin hq hv hP hS hl
      have hq := hq.trans (f_X6_passes_L1_z _ _)
      refine lv_iload_n hx hb dX6_passes_12 rfl (lv_at hl 0 rfl) ?_
      refine lv_bipush (v := nI 6) hx hb dX6_passes_13 (by decide) ?_
      refine lv_icmp_ge (tgt := 47) hx hb dX6_passes_15 (by decide) (fun _ => ?_) (fun c_1 => absurd (nI_le (by omega) (by omega)) c_1) 
      refine lv_iconst (v := nI 0) hx hb dX6_passes_47 (by decide) ?_
      refine lv_istore_n (lv' := [(1, .int (nI 0)), (0, .ref (G 0))]) hx hb dX6_passes_48 rfl hl (by decide) rfl (fun ls hl => ?_)
      have L2 : ∀ (n : Nat) (i : Nat) (S_L2 : Mem) (H : Heap) (locs : List Loc) (ls : Array Slot), i + n = 6 → f_X6_passes S = f_X6_passes_L2 n i S_L2 → (S_L2 = mt2 S i) → va_P D vwCl (WL 20 G (mF cI cZ G) S_L2) H → va_S (fA 20 G s.heap.size) s.heap H locs → lv_has ls 3 [(1, .int (nI i)), (0, .ref (G 0))] → W p l e ({ frames := 4, cells := 0, slots := 0, locals := 86 } : Room) s m ([.ref (G 0)] : List Value).toArray below meth c H locs 0 0 (MQ below (mQi (f_X6_passes S) 20 (mF cI cZ G) D G s.heap.size) ([.ref (G 0)] : List Value).toArray s 0 0 (fA 20 G s.heap.size)) (F0 m 49 ls []) := by
        intro n
        induction n with
        | zero =>
          intro i S_L2 H locs ls hin hq hv hP hS hl
          have hq := hq.trans (f_X6_passes_L2_z _ _)
          refine lv_iload_n hx hb dX6_passes_49 rfl (lv_at hl 0 rfl) ?_
          refine lv_bipush (v := nI 6) hx hb dX6_passes_50 (by decide) ?_
          refine lv_icmp_ge (tgt := 131) hx hb dX6_passes_52 (by decide) (fun _ => ?_) (fun c_2 => absurd (nI_le (by omega) (by omega)) c_2) 
          refine lv_iconst (v := nI 0) hx hb dX6_passes_131 (by decide) ?_
          refine lv_istore_n (lv' := [(1, .int (nI 0)), (0, .ref (G 0))]) hx hb dX6_passes_132 rfl hl (by decide) rfl (fun ls hl => ?_)
          refine lv_iconst (v := nI 0) hx hb dX6_passes_133 (by decide) ?_
          refine lv_istore_n (lv' := [(2, .int (nI 0)), (1, .int (nI 0)), (0, .ref (G 0))]) hx hb dX6_passes_134 rfl hl (by decide) rfl (fun ls hl => ?_)
          have L3 : ∀ (n : Nat) (i : Nat) (S_L3 : Mem) (b : Int32) (H : Heap) (locs : List Loc) (ls : Array Slot), i + n = 6 → f_X6_passes S = f_X6_passes_L3 n i S_L3 b → (S_L3 = mt3 S i) → va_P D vwCl (WL 20 G (mF cI cZ G) S_L3) H → va_S (fA 20 G s.heap.size) s.heap H locs → lv_has ls 3 [(2, .int (nI i)), (1, .int b), (0, .ref (G 0))] → W p l e ({ frames := 4, cells := 0, slots := 0, locals := 86 } : Room) s m ([.ref (G 0)] : List Value).toArray below meth c H locs 0 0 (MQ below (mQi (f_X6_passes S) 20 (mF cI cZ G) D G s.heap.size) ([.ref (G 0)] : List Value).toArray s 0 0 (fA 20 G s.heap.size)) (F0 m 135 ls []) := by
            intro n
            induction n with
            | zero =>
              intro i S_L3 b H locs ls hin hq hv hP hS hl
              have hq := hq.trans (f_X6_passes_L3_z _ _ _)
              refine lv_iload_n hx hb dX6_passes_135 rfl (lv_at hl 0 rfl) ?_
              refine lv_bipush (v := nI 6) hx hb dX6_passes_136 (by decide) ?_
              refine lv_icmp_ge (tgt := 236) hx hb dX6_passes_138 (by decide) (fun _ => ?_) (fun c_3 => absurd (nI_le (by omega) (by omega)) c_3) 
              refine lv_iload_n hx hb dX6_passes_236 rfl (lv_at hl 1 rfl) ?_
              exact x_ret_m hx hb hr rfl hlocks hP hS dX6_passes_237 hq
            | succ n ih =>
              intro i S_L3 b H locs ls hin hq hv hP hS hl
              have hq := hq.trans (f_X6_passes_L3_s _ _ _ _)
              refine lv_iload_n hx hb dX6_passes_135 rfl (lv_at hl 0 rfl) ?_
              refine lv_bipush (v := nI 6) hx hb dX6_passes_136 (by decide) ?_
              refine lv_icmp_ge (tgt := 236) hx hb dX6_passes_138 (by decide) (fun c_4 => absurd c_4 (nI_ge (by omega) (by omega))) (fun _ => ?_)
              refine lv_aload_n hx hb dX6_passes_141 rfl (lv_at hl 2 rfl) ?_
              refine x_get hx hb hts mm_X6_passes_X6 hown hK hP (0) (by decide) (rfl) rfl 13 (by decide) (hts _ lk_X6_passes_45) rfl rfl dX6_passes_142 ?_
              refine lv_iload_n hx hb dX6_passes_145 rfl (lv_at hl 0 rfl) ?_
              refine x_zald hx hb hK hP 11 2 (by decide) (rfl) rfl i (by omega) (by decide) dX6_passes_146 ?_
              refine lv_if_eq (tgt := 230) hx hb dX6_passes_147 (by decide) (fun c_5 => ?_) (fun c_5 => ?_)
              · have hq := hq.trans (if_pos c_5)
                refine lv_iinc (v := nI (i + 1)) (lv' := [(2, .int (nI (i + 1))), (1, .int b), (0, .ref (G 0))]) hx hb dX6_passes_230 hl (k := 0) rfl (nI_add _ _) (by decide) rfl (fun ls hl => ?_)
                refine lv_goto (tgt := 135) hx hb dX6_passes_233 (by decide) ?_
                have hB : f_X6_passes_L3_b i S_L3 = S_L3 := ((f_X6_passes_L3_b_d _ _).trans (if_pos c_5))
                exact ih (i + 1) S_L3 b H locs ls (by omega) hq (hB.symm.trans ((congrArg _ hv).trans (mt3_s S i).symm)) hP hS (lv_sub hl [0, 1, 2] rfl)
              · have hq := hq.trans (if_neg c_5)
                have hgf : mGo S_L3 i ∧ mFr S_L3 i := by
                  have h9 := hp.2.2 i (by omega)
                  rw [← hv] at h9
                  exact h9 c_5
                refine lv_aload_n hx hb dX6_passes_150 rfl (lv_at hl 2 rfl) ?_
                refine lv_iload_n hx hb dX6_passes_151 rfl (lv_at hl 0 rfl) ?_
                refine x_pi (va_runV (As := [.int (nI i)]) (rest := []) ⟨hx, hb, hml, hown, hts⟩ (c_X6_piece l D cI cS cZ cJ G S_L3 H.size i (by omega)) (cwV 1 hts gX6_passes_X6_piece rfl rfl rfl (by decide +kernel) ⟨Nat.le_of_ble_eq_true rfl, Nat.le_of_ble_eq_true rfl⟩) ⟨wPc_blind, va_recv hK hP (ci := 6) (q0 := 0) rfl (WL_at (by decide) (rfl)), wPc_at hP hK hD hN⟩ rfl rfl hl.1 rfl (lv_room (Nat.le_of_ble_eq_true rfl)) dX6_passes_152 ⟨Nat.le_refl _, Nat.le_refl _⟩) hS hA (fun q h => h) (fun H locs hz hk hS => ?_)
                have hP := P_kept hP hk
                refine lv_bipush (v := nI 16) hx hb dX6_passes_155 (by decide) ?_
                refine lv_icmp_ne (tgt := 177) hx hb dX6_passes_157 (by decide) (fun c_6 => ?_) (fun c_6 => ?_)
                · have hq := hq.trans (if_neg c_6)
                  refine lv_aload_n hx hb dX6_passes_177 rfl (lv_at hl 2 rfl) ?_
                  refine lv_iload_n hx hb dX6_passes_178 rfl (lv_at hl 0 rfl) ?_
                  refine x_pi (va_runV (As := [.int (nI i)]) (rest := []) ⟨hx, hb, hml, hown, hts⟩ (c_X6_piece l D cI cS cZ cJ G S_L3 H.size i (by omega)) (cwV 1 hts gX6_passes_X6_piece rfl rfl rfl (by decide +kernel) ⟨Nat.le_of_ble_eq_true rfl, Nat.le_of_ble_eq_true rfl⟩) ⟨wPc_blind, va_recv hK hP (ci := 6) (q0 := 0) rfl (WL_at (by decide) (rfl)), wPc_at hP hK hD hN⟩ rfl rfl hl.1 rfl (lv_room (Nat.le_of_ble_eq_true rfl)) dX6_passes_179 ⟨Nat.le_refl _, Nat.le_refl _⟩) hS hA (fun q h => h) (fun H locs hz hk hS => ?_)
                  have hP := P_kept hP hk
                  refine lv_bipush (v := nI 16) hx hb dX6_passes_182 (by decide) ?_
                  refine lv_icmp_ne (tgt := 195) hx hb dX6_passes_184 (by decide) (fun c_7 => ?_) (fun c_7 => ?_)
                  · have hq := hq.trans (if_neg c_7)
                    refine lv_aload_n hx hb dX6_passes_195 rfl (lv_at hl 2 rfl) ?_
                    refine x_get hx hb hts mm_X6_passes_X6 hown hK hP (0) (by decide) (rfl) rfl 1 (by decide) (hts _ lk_X6_passes_100) rfl rfl dX6_passes_196 ?_
                    refine lv_aload_n hx hb dX6_passes_199 rfl (lv_at hl 2 rfl) ?_
                    refine x_get hx hb hts mm_X6_passes_X6 hown hK hP (0) (by decide) (rfl) rfl 16 (by decide) (hts _ lk_X6_passes_54) rfl rfl dX6_passes_200 ?_
                    refine lv_iload_n hx hb dX6_passes_203 rfl (lv_at hl 0 rfl) ?_
                    refine x_iald hx hb hK hP 14 0 (by decide) (rfl) rfl i (by omega) (by decide) dX6_passes_204 ?_
                    refine lv_icmp_ne (tgt := 213) hx hb dX6_passes_205 (by decide) (fun c_8 => ?_) (fun c_8 => ?_)
                    · have hq := hq.trans (if_neg c_8)
                      refine lv_iload_n hx hb dX6_passes_213 rfl (lv_at hl 1 rfl) ?_
                      refine lv_aload_n hx hb dX6_passes_214 rfl (lv_at hl 2 rfl) ?_
                      refine x_get hx hb hts mm_X6_passes_X6 hown hK hP (0) (by decide) (rfl) rfl 12 (by decide) (hts _ lk_X6_passes_41) rfl rfl dX6_passes_215 ?_
                      refine lv_iload_n hx hb dX6_passes_218 rfl (lv_at hl 0 rfl) ?_
                      refine x_zald hx hb hK hP 10 2 (by decide) (rfl) rfl i (by omega) (by decide) dX6_passes_219 ?_
                      refine lv_if_eq (tgt := 227) hx hb dX6_passes_220 (by decide) (fun c_9 => ?_) (fun c_9 => ?_)
                      · have hq := hq.trans (if_pos c_9)
                        refine lv_iconst (v := nI 1) hx hb dX6_passes_227 (by decide) ?_
                        refine lv_iadd hx hb dX6_passes_228 ?_
                        refine lv_istore_n (lv' := [(1, .int (b + (nI 1))), (2, .int (nI i)), (0, .ref (G 0))]) hx hb dX6_passes_229 rfl hl (by decide) rfl (fun ls hl => ?_)
                        refine lv_iinc (v := nI (i + 1)) (lv' := [(2, .int (nI (i + 1))), (1, .int (b + (nI 1))), (0, .ref (G 0))]) hx hb dX6_passes_230 hl (k := 1) rfl (nI_add _ _) (by decide) rfl (fun ls hl => ?_)
                        refine lv_goto (tgt := 135) hx hb dX6_passes_233 (by decide) ?_
                        have hB : f_X6_passes_L3_b i S_L3 = S_L3 := ((((((f_X6_passes_L3_b_d _ _).trans (if_neg c_5)).trans (if_neg c_6)).trans (if_neg c_7)).trans (if_neg c_8)).trans (if_pos c_9))
                        exact ih (i + 1) S_L3 (b + (nI 1)) H locs ls (by omega) hq (hB.symm.trans ((congrArg _ hv).trans (mt3_s S i).symm)) hP hS (lv_sub hl [0, 1, 2] rfl)
                      · have hq := hq.trans (if_neg c_9)
                        refine lv_iconst (v := nI 0) hx hb dX6_passes_223 (by decide) ?_
                        refine lv_goto (tgt := 228) hx hb dX6_passes_224 (by decide) ?_
                        refine lv_iadd hx hb dX6_passes_228 ?_
                        refine lv_istore_n (lv' := [(1, .int (b + (nI 0))), (2, .int (nI i)), (0, .ref (G 0))]) hx hb dX6_passes_229 rfl hl (by decide) rfl (fun ls hl => ?_)
                        refine lv_iinc (v := nI (i + 1)) (lv' := [(2, .int (nI (i + 1))), (1, .int (b + (nI 0))), (0, .ref (G 0))]) hx hb dX6_passes_230 hl (k := 1) rfl (nI_add _ _) (by decide) rfl (fun ls hl => ?_)
                        refine lv_goto (tgt := 135) hx hb dX6_passes_233 (by decide) ?_
                        have hB : f_X6_passes_L3_b i S_L3 = S_L3 := ((((((f_X6_passes_L3_b_d _ _).trans (if_neg c_5)).trans (if_neg c_6)).trans (if_neg c_7)).trans (if_neg c_8)).trans (if_neg c_9))
                        exact ih (i + 1) S_L3 (b + (nI 0)) H locs ls (by omega) hq (hB.symm.trans ((congrArg _ hv).trans (mt3_s S i).symm)) hP hS (lv_sub hl [0, 1, 2] rfl)
                    · have hq := hq.trans (if_pos c_8)
                      refine lv_aload_n hx hb dX6_passes_208 rfl (lv_at hl 2 rfl) ?_
                      refine lv_iload_n hx hb dX6_passes_209 rfl (lv_at hl 0 rfl) ?_
                      refine x_mv (va_runV (As := [.int (nI i)]) (rest := []) ⟨hx, hb, hml, hown, hts⟩ (c_X6_ends l D cI cS cZ cJ G S_L3 H.size i (by omega) hgf.2.1 hgf.2.2) (cwV 1 hts gX6_passes_X6_ends rfl rfl rfl (by decide +kernel) ⟨Nat.le_of_ble_eq_true rfl, Nat.le_of_ble_eq_true rfl⟩) ⟨wPc_blind, va_recv hK hP (ci := 6) (q0 := 0) rfl (WL_at (by decide) (rfl)), wPc_at hP hK hD hN⟩ rfl rfl hl.1 rfl (lv_room (Nat.le_of_ble_eq_true rfl)) dX6_passes_210 ⟨Nat.le_refl _, Nat.le_refl _⟩) hS (fA_sub (hD S) (fun q h => hA q (Nat.le_trans hS.1 h))) (fun H locs hz hk hP hS => ?_)
                      refine lv_iload_n hx hb dX6_passes_213 rfl (lv_at hl 1 rfl) ?_
                      refine lv_aload_n hx hb dX6_passes_214 rfl (lv_at hl 2 rfl) ?_
                      refine x_get hx hb hts mm_X6_passes_X6 hown hK hP (0) (by decide) (rfl) rfl 12 (by decide) (hts _ lk_X6_passes_41) rfl rfl dX6_passes_215 ?_
                      refine lv_iload_n hx hb dX6_passes_218 rfl (lv_at hl 0 rfl) ?_
                      refine x_zald hx hb hK hP 10 2 (by decide) (rfl) rfl i (by omega) (by decide) dX6_passes_219 ?_
                      refine lv_if_eq (tgt := 227) hx hb dX6_passes_220 (by decide) (fun c_10 => ?_) (fun c_10 => ?_)
                      · have hq := hq.trans (if_pos c_10)
                        refine lv_iconst (v := nI 1) hx hb dX6_passes_227 (by decide) ?_
                        refine lv_iadd hx hb dX6_passes_228 ?_
                        refine lv_istore_n (lv' := [(1, .int (b + (nI 1))), (2, .int (nI i)), (0, .ref (G 0))]) hx hb dX6_passes_229 rfl hl (by decide) rfl (fun ls hl => ?_)
                        refine lv_iinc (v := nI (i + 1)) (lv' := [(2, .int (nI (i + 1))), (1, .int (b + (nI 1))), (0, .ref (G 0))]) hx hb dX6_passes_230 hl (k := 1) rfl (nI_add _ _) (by decide) rfl (fun ls hl => ?_)
                        refine lv_goto (tgt := 135) hx hb dX6_passes_233 (by decide) ?_
                        have hB : f_X6_passes_L3_b i S_L3 = f_X6_ends S_L3 i := ((((((f_X6_passes_L3_b_d _ _).trans (if_neg c_5)).trans (if_neg c_6)).trans (if_neg c_7)).trans (if_pos c_8)).trans (if_pos c_10))
                        exact ih (i + 1) (f_X6_ends S_L3 i) (b + (nI 1)) H locs ls (by omega) hq (hB.symm.trans ((congrArg _ hv).trans (mt3_s S i).symm)) hP hS (lv_sub hl [0, 1, 2] rfl)
                      · have hq := hq.trans (if_neg c_10)
                        refine lv_iconst (v := nI 0) hx hb dX6_passes_223 (by decide) ?_
                        refine lv_goto (tgt := 228) hx hb dX6_passes_224 (by decide) ?_
                        refine lv_iadd hx hb dX6_passes_228 ?_
                        refine lv_istore_n (lv' := [(1, .int (b + (nI 0))), (2, .int (nI i)), (0, .ref (G 0))]) hx hb dX6_passes_229 rfl hl (by decide) rfl (fun ls hl => ?_)
                        refine lv_iinc (v := nI (i + 1)) (lv' := [(2, .int (nI (i + 1))), (1, .int (b + (nI 0))), (0, .ref (G 0))]) hx hb dX6_passes_230 hl (k := 1) rfl (nI_add _ _) (by decide) rfl (fun ls hl => ?_)
                        refine lv_goto (tgt := 135) hx hb dX6_passes_233 (by decide) ?_
                        have hB : f_X6_passes_L3_b i S_L3 = f_X6_ends S_L3 i := ((((((f_X6_passes_L3_b_d _ _).trans (if_neg c_5)).trans (if_neg c_6)).trans (if_neg c_7)).trans (if_pos c_8)).trans (if_neg c_10))
                        exact ih (i + 1) (f_X6_ends S_L3 i) (b + (nI 0)) H locs ls (by omega) hq (hB.symm.trans ((congrArg _ hv).trans (mt3_s S i).symm)) hP hS (lv_sub hl [0, 1, 2] rfl)
                  · have hq := hq.trans (if_pos c_7)
                    refine lv_aload_n hx hb dX6_passes_187 rfl (lv_at hl 2 rfl) ?_
                    refine lv_iload_n hx hb dX6_passes_188 rfl (lv_at hl 0 rfl) ?_
                    refine x_mv (va_runV (As := [.int (nI i)]) (rest := []) ⟨hx, hb, hml, hown, hts⟩ (c_X6_silences l D cI cS cZ cJ G S_L3 H.size i (by omega) hgf.1.1 hgf.1.2) (cwV 1 hts gX6_passes_X6_silences rfl rfl rfl (by decide +kernel) ⟨Nat.le_of_ble_eq_true rfl, Nat.le_of_ble_eq_true rfl⟩) ⟨wPc_blind, va_recv hK hP (ci := 6) (q0 := 0) rfl (WL_at (by decide) (rfl)), wPc_at hP hK hD hN⟩ rfl rfl hl.1 rfl (lv_room (Nat.le_of_ble_eq_true rfl)) dX6_passes_189 ⟨Nat.le_refl _, Nat.le_refl _⟩) hS (fA_sub (hD S) (fun q h => hA q (Nat.le_trans hS.1 h))) (fun H locs hz hk hP hS => ?_)
                    refine lv_goto (tgt := 213) hx hb dX6_passes_192 (by decide) ?_
                    refine lv_iload_n hx hb dX6_passes_213 rfl (lv_at hl 1 rfl) ?_
                    refine lv_aload_n hx hb dX6_passes_214 rfl (lv_at hl 2 rfl) ?_
                    refine x_get hx hb hts mm_X6_passes_X6 hown hK hP (0) (by decide) (rfl) rfl 12 (by decide) (hts _ lk_X6_passes_41) rfl rfl dX6_passes_215 ?_
                    refine lv_iload_n hx hb dX6_passes_218 rfl (lv_at hl 0 rfl) ?_
                    refine x_zald hx hb hK hP 10 2 (by decide) (rfl) rfl i (by omega) (by decide) dX6_passes_219 ?_
                    refine lv_if_eq (tgt := 227) hx hb dX6_passes_220 (by decide) (fun c_11 => ?_) (fun c_11 => ?_)
                    · have hq := hq.trans (if_pos c_11)
                      refine lv_iconst (v := nI 1) hx hb dX6_passes_227 (by decide) ?_
                      refine lv_iadd hx hb dX6_passes_228 ?_
                      refine lv_istore_n (lv' := [(1, .int (b + (nI 1))), (2, .int (nI i)), (0, .ref (G 0))]) hx hb dX6_passes_229 rfl hl (by decide) rfl (fun ls hl => ?_)
                      refine lv_iinc (v := nI (i + 1)) (lv' := [(2, .int (nI (i + 1))), (1, .int (b + (nI 1))), (0, .ref (G 0))]) hx hb dX6_passes_230 hl (k := 1) rfl (nI_add _ _) (by decide) rfl (fun ls hl => ?_)
                      refine lv_goto (tgt := 135) hx hb dX6_passes_233 (by decide) ?_
                      have hB : f_X6_passes_L3_b i S_L3 = f_X6_silences S_L3 i := (((((f_X6_passes_L3_b_d _ _).trans (if_neg c_5)).trans (if_neg c_6)).trans (if_pos c_7)).trans (if_pos c_11))
                      exact ih (i + 1) (f_X6_silences S_L3 i) (b + (nI 1)) H locs ls (by omega) hq (hB.symm.trans ((congrArg _ hv).trans (mt3_s S i).symm)) hP hS (lv_sub hl [0, 1, 2] rfl)
                    · have hq := hq.trans (if_neg c_11)
                      refine lv_iconst (v := nI 0) hx hb dX6_passes_223 (by decide) ?_
                      refine lv_goto (tgt := 228) hx hb dX6_passes_224 (by decide) ?_
                      refine lv_iadd hx hb dX6_passes_228 ?_
                      refine lv_istore_n (lv' := [(1, .int (b + (nI 0))), (2, .int (nI i)), (0, .ref (G 0))]) hx hb dX6_passes_229 rfl hl (by decide) rfl (fun ls hl => ?_)
                      refine lv_iinc (v := nI (i + 1)) (lv' := [(2, .int (nI (i + 1))), (1, .int (b + (nI 0))), (0, .ref (G 0))]) hx hb dX6_passes_230 hl (k := 1) rfl (nI_add _ _) (by decide) rfl (fun ls hl => ?_)
                      refine lv_goto (tgt := 135) hx hb dX6_passes_233 (by decide) ?_
                      have hB : f_X6_passes_L3_b i S_L3 = f_X6_silences S_L3 i := (((((f_X6_passes_L3_b_d _ _).trans (if_neg c_5)).trans (if_neg c_6)).trans (if_pos c_7)).trans (if_neg c_11))
                      exact ih (i + 1) (f_X6_silences S_L3 i) (b + (nI 0)) H locs ls (by omega) hq (hB.symm.trans ((congrArg _ hv).trans (mt3_s S i).symm)) hP hS (lv_sub hl [0, 1, 2] rfl)
                · have hq := hq.trans (if_pos c_6)
                  refine lv_aload_n hx hb dX6_passes_160 rfl (lv_at hl 2 rfl) ?_
                  refine x_get hx hb hts mm_X6_passes_X6 hown hK hP (0) (by decide) (rfl) rfl 17 (by decide) (hts _ lk_X6_passes_57) rfl rfl dX6_passes_161 ?_
                  refine lv_iload_n hx hb dX6_passes_164 rfl (lv_at hl 0 rfl) ?_
                  refine x_iald hx hb hK hP 15 0 (by decide) (rfl) rfl i (by omega) (by decide) dX6_passes_165 ?_
                  refine lv_if_le (tgt := 177) hx hb dX6_passes_166 (by decide) (fun c_12 => ?_) (fun c_12 => ?_)
                  · have hq := hq.trans (if_pos c_12)
                    refine lv_aload_n hx hb dX6_passes_177 rfl (lv_at hl 2 rfl) ?_
                    refine lv_iload_n hx hb dX6_passes_178 rfl (lv_at hl 0 rfl) ?_
                    refine x_pi (va_runV (As := [.int (nI i)]) (rest := []) ⟨hx, hb, hml, hown, hts⟩ (c_X6_piece l D cI cS cZ cJ G S_L3 H.size i (by omega)) (cwV 1 hts gX6_passes_X6_piece rfl rfl rfl (by decide +kernel) ⟨Nat.le_of_ble_eq_true rfl, Nat.le_of_ble_eq_true rfl⟩) ⟨wPc_blind, va_recv hK hP (ci := 6) (q0 := 0) rfl (WL_at (by decide) (rfl)), wPc_at hP hK hD hN⟩ rfl rfl hl.1 rfl (lv_room (Nat.le_of_ble_eq_true rfl)) dX6_passes_179 ⟨Nat.le_refl _, Nat.le_refl _⟩) hS hA (fun q h => h) (fun H locs hz hk hS => ?_)
                    have hP := P_kept hP hk
                    refine lv_bipush (v := nI 16) hx hb dX6_passes_182 (by decide) ?_
                    refine lv_icmp_ne (tgt := 195) hx hb dX6_passes_184 (by decide) (fun c_13 => ?_) (fun c_13 => ?_)
                    · have hq := hq.trans (if_neg c_13)
                      refine lv_aload_n hx hb dX6_passes_195 rfl (lv_at hl 2 rfl) ?_
                      refine x_get hx hb hts mm_X6_passes_X6 hown hK hP (0) (by decide) (rfl) rfl 1 (by decide) (hts _ lk_X6_passes_100) rfl rfl dX6_passes_196 ?_
                      refine lv_aload_n hx hb dX6_passes_199 rfl (lv_at hl 2 rfl) ?_
                      refine x_get hx hb hts mm_X6_passes_X6 hown hK hP (0) (by decide) (rfl) rfl 16 (by decide) (hts _ lk_X6_passes_54) rfl rfl dX6_passes_200 ?_
                      refine lv_iload_n hx hb dX6_passes_203 rfl (lv_at hl 0 rfl) ?_
                      refine x_iald hx hb hK hP 14 0 (by decide) (rfl) rfl i (by omega) (by decide) dX6_passes_204 ?_
                      refine lv_icmp_ne (tgt := 213) hx hb dX6_passes_205 (by decide) (fun c_14 => ?_) (fun c_14 => ?_)
                      · have hq := hq.trans (if_neg c_14)
                        refine lv_iload_n hx hb dX6_passes_213 rfl (lv_at hl 1 rfl) ?_
                        refine lv_aload_n hx hb dX6_passes_214 rfl (lv_at hl 2 rfl) ?_
                        refine x_get hx hb hts mm_X6_passes_X6 hown hK hP (0) (by decide) (rfl) rfl 12 (by decide) (hts _ lk_X6_passes_41) rfl rfl dX6_passes_215 ?_
                        refine lv_iload_n hx hb dX6_passes_218 rfl (lv_at hl 0 rfl) ?_
                        refine x_zald hx hb hK hP 10 2 (by decide) (rfl) rfl i (by omega) (by decide) dX6_passes_219 ?_
                        refine lv_if_eq (tgt := 227) hx hb dX6_passes_220 (by decide) (fun c_15 => ?_) (fun c_15 => ?_)
                        · have hq := hq.trans (if_pos c_15)
                          refine lv_iconst (v := nI 1) hx hb dX6_passes_227 (by decide) ?_
                          refine lv_iadd hx hb dX6_passes_228 ?_
                          refine lv_istore_n (lv' := [(1, .int (b + (nI 1))), (2, .int (nI i)), (0, .ref (G 0))]) hx hb dX6_passes_229 rfl hl (by decide) rfl (fun ls hl => ?_)
                          refine lv_iinc (v := nI (i + 1)) (lv' := [(2, .int (nI (i + 1))), (1, .int (b + (nI 1))), (0, .ref (G 0))]) hx hb dX6_passes_230 hl (k := 1) rfl (nI_add _ _) (by decide) rfl (fun ls hl => ?_)
                          refine lv_goto (tgt := 135) hx hb dX6_passes_233 (by decide) ?_
                          have hB : f_X6_passes_L3_b i S_L3 = S_L3 := (((((((f_X6_passes_L3_b_d _ _).trans (if_neg c_5)).trans (if_pos c_6)).trans (if_pos c_12)).trans (if_neg c_13)).trans (if_neg c_14)).trans (if_pos c_15))
                          exact ih (i + 1) S_L3 (b + (nI 1)) H locs ls (by omega) hq (hB.symm.trans ((congrArg _ hv).trans (mt3_s S i).symm)) hP hS (lv_sub hl [0, 1, 2] rfl)
                        · have hq := hq.trans (if_neg c_15)
                          refine lv_iconst (v := nI 0) hx hb dX6_passes_223 (by decide) ?_
                          refine lv_goto (tgt := 228) hx hb dX6_passes_224 (by decide) ?_
                          refine lv_iadd hx hb dX6_passes_228 ?_
                          refine lv_istore_n (lv' := [(1, .int (b + (nI 0))), (2, .int (nI i)), (0, .ref (G 0))]) hx hb dX6_passes_229 rfl hl (by decide) rfl (fun ls hl => ?_)
                          refine lv_iinc (v := nI (i + 1)) (lv' := [(2, .int (nI (i + 1))), (1, .int (b + (nI 0))), (0, .ref (G 0))]) hx hb dX6_passes_230 hl (k := 1) rfl (nI_add _ _) (by decide) rfl (fun ls hl => ?_)
                          refine lv_goto (tgt := 135) hx hb dX6_passes_233 (by decide) ?_
                          have hB : f_X6_passes_L3_b i S_L3 = S_L3 := (((((((f_X6_passes_L3_b_d _ _).trans (if_neg c_5)).trans (if_pos c_6)).trans (if_pos c_12)).trans (if_neg c_13)).trans (if_neg c_14)).trans (if_neg c_15))
                          exact ih (i + 1) S_L3 (b + (nI 0)) H locs ls (by omega) hq (hB.symm.trans ((congrArg _ hv).trans (mt3_s S i).symm)) hP hS (lv_sub hl [0, 1, 2] rfl)
                      · have hq := hq.trans (if_pos c_14)
                        refine lv_aload_n hx hb dX6_passes_208 rfl (lv_at hl 2 rfl) ?_
                        refine lv_iload_n hx hb dX6_passes_209 rfl (lv_at hl 0 rfl) ?_
                        refine x_mv (va_runV (As := [.int (nI i)]) (rest := []) ⟨hx, hb, hml, hown, hts⟩ (c_X6_ends l D cI cS cZ cJ G S_L3 H.size i (by omega) hgf.2.1 hgf.2.2) (cwV 1 hts gX6_passes_X6_ends rfl rfl rfl (by decide +kernel) ⟨Nat.le_of_ble_eq_true rfl, Nat.le_of_ble_eq_true rfl⟩) ⟨wPc_blind, va_recv hK hP (ci := 6) (q0 := 0) rfl (WL_at (by decide) (rfl)), wPc_at hP hK hD hN⟩ rfl rfl hl.1 rfl (lv_room (Nat.le_of_ble_eq_true rfl)) dX6_passes_210 ⟨Nat.le_refl _, Nat.le_refl _⟩) hS (fA_sub (hD S) (fun q h => hA q (Nat.le_trans hS.1 h))) (fun H locs hz hk hP hS => ?_)
                        refine lv_iload_n hx hb dX6_passes_213 rfl (lv_at hl 1 rfl) ?_
                        refine lv_aload_n hx hb dX6_passes_214 rfl (lv_at hl 2 rfl) ?_
                        refine x_get hx hb hts mm_X6_passes_X6 hown hK hP (0) (by decide) (rfl) rfl 12 (by decide) (hts _ lk_X6_passes_41) rfl rfl dX6_passes_215 ?_
                        refine lv_iload_n hx hb dX6_passes_218 rfl (lv_at hl 0 rfl) ?_
                        refine x_zald hx hb hK hP 10 2 (by decide) (rfl) rfl i (by omega) (by decide) dX6_passes_219 ?_
                        refine lv_if_eq (tgt := 227) hx hb dX6_passes_220 (by decide) (fun c_16 => ?_) (fun c_16 => ?_)
                        · have hq := hq.trans (if_pos c_16)
                          refine lv_iconst (v := nI 1) hx hb dX6_passes_227 (by decide) ?_
                          refine lv_iadd hx hb dX6_passes_228 ?_
                          refine lv_istore_n (lv' := [(1, .int (b + (nI 1))), (2, .int (nI i)), (0, .ref (G 0))]) hx hb dX6_passes_229 rfl hl (by decide) rfl (fun ls hl => ?_)
                          refine lv_iinc (v := nI (i + 1)) (lv' := [(2, .int (nI (i + 1))), (1, .int (b + (nI 1))), (0, .ref (G 0))]) hx hb dX6_passes_230 hl (k := 1) rfl (nI_add _ _) (by decide) rfl (fun ls hl => ?_)
                          refine lv_goto (tgt := 135) hx hb dX6_passes_233 (by decide) ?_
                          have hB : f_X6_passes_L3_b i S_L3 = f_X6_ends S_L3 i := (((((((f_X6_passes_L3_b_d _ _).trans (if_neg c_5)).trans (if_pos c_6)).trans (if_pos c_12)).trans (if_neg c_13)).trans (if_pos c_14)).trans (if_pos c_16))
                          exact ih (i + 1) (f_X6_ends S_L3 i) (b + (nI 1)) H locs ls (by omega) hq (hB.symm.trans ((congrArg _ hv).trans (mt3_s S i).symm)) hP hS (lv_sub hl [0, 1, 2] rfl)
                        · have hq := hq.trans (if_neg c_16)
                          refine lv_iconst (v := nI 0) hx hb dX6_passes_223 (by decide) ?_
                          refine lv_goto (tgt := 228) hx hb dX6_passes_224 (by decide) ?_
                          refine lv_iadd hx hb dX6_passes_228 ?_
                          refine lv_istore_n (lv' := [(1, .int (b + (nI 0))), (2, .int (nI i)), (0, .ref (G 0))]) hx hb dX6_passes_229 rfl hl (by decide) rfl (fun ls hl => ?_)
                          refine lv_iinc (v := nI (i + 1)) (lv' := [(2, .int (nI (i + 1))), (1, .int (b + (nI 0))), (0, .ref (G 0))]) hx hb dX6_passes_230 hl (k := 1) rfl (nI_add _ _) (by decide) rfl (fun ls hl => ?_)
                          refine lv_goto (tgt := 135) hx hb dX6_passes_233 (by decide) ?_
                          have hB : f_X6_passes_L3_b i S_L3 = f_X6_ends S_L3 i := (((((((f_X6_passes_L3_b_d _ _).trans (if_neg c_5)).trans (if_pos c_6)).trans (if_pos c_12)).trans (if_neg c_13)).trans (if_pos c_14)).trans (if_neg c_16))
                          exact ih (i + 1) (f_X6_ends S_L3 i) (b + (nI 0)) H locs ls (by omega) hq (hB.symm.trans ((congrArg _ hv).trans (mt3_s S i).symm)) hP hS (lv_sub hl [0, 1, 2] rfl)
                    · have hq := hq.trans (if_pos c_13)
                      refine lv_aload_n hx hb dX6_passes_187 rfl (lv_at hl 2 rfl) ?_
                      refine lv_iload_n hx hb dX6_passes_188 rfl (lv_at hl 0 rfl) ?_
                      refine x_mv (va_runV (As := [.int (nI i)]) (rest := []) ⟨hx, hb, hml, hown, hts⟩ (c_X6_silences l D cI cS cZ cJ G S_L3 H.size i (by omega) hgf.1.1 hgf.1.2) (cwV 1 hts gX6_passes_X6_silences rfl rfl rfl (by decide +kernel) ⟨Nat.le_of_ble_eq_true rfl, Nat.le_of_ble_eq_true rfl⟩) ⟨wPc_blind, va_recv hK hP (ci := 6) (q0 := 0) rfl (WL_at (by decide) (rfl)), wPc_at hP hK hD hN⟩ rfl rfl hl.1 rfl (lv_room (Nat.le_of_ble_eq_true rfl)) dX6_passes_189 ⟨Nat.le_refl _, Nat.le_refl _⟩) hS (fA_sub (hD S) (fun q h => hA q (Nat.le_trans hS.1 h))) (fun H locs hz hk hP hS => ?_)
                      refine lv_goto (tgt := 213) hx hb dX6_passes_192 (by decide) ?_
                      refine lv_iload_n hx hb dX6_passes_213 rfl (lv_at hl 1 rfl) ?_
                      refine lv_aload_n hx hb dX6_passes_214 rfl (lv_at hl 2 rfl) ?_
                      refine x_get hx hb hts mm_X6_passes_X6 hown hK hP (0) (by decide) (rfl) rfl 12 (by decide) (hts _ lk_X6_passes_41) rfl rfl dX6_passes_215 ?_
                      refine lv_iload_n hx hb dX6_passes_218 rfl (lv_at hl 0 rfl) ?_
                      refine x_zald hx hb hK hP 10 2 (by decide) (rfl) rfl i (by omega) (by decide) dX6_passes_219 ?_
                      refine lv_if_eq (tgt := 227) hx hb dX6_passes_220 (by decide) (fun c_17 => ?_) (fun c_17 => ?_)
                      · have hq := hq.trans (if_pos c_17)
                        refine lv_iconst (v := nI 1) hx hb dX6_passes_227 (by decide) ?_
                        refine lv_iadd hx hb dX6_passes_228 ?_
                        refine lv_istore_n (lv' := [(1, .int (b + (nI 1))), (2, .int (nI i)), (0, .ref (G 0))]) hx hb dX6_passes_229 rfl hl (by decide) rfl (fun ls hl => ?_)
                        refine lv_iinc (v := nI (i + 1)) (lv' := [(2, .int (nI (i + 1))), (1, .int (b + (nI 1))), (0, .ref (G 0))]) hx hb dX6_passes_230 hl (k := 1) rfl (nI_add _ _) (by decide) rfl (fun ls hl => ?_)
                        refine lv_goto (tgt := 135) hx hb dX6_passes_233 (by decide) ?_
                        have hB : f_X6_passes_L3_b i S_L3 = f_X6_silences S_L3 i := ((((((f_X6_passes_L3_b_d _ _).trans (if_neg c_5)).trans (if_pos c_6)).trans (if_pos c_12)).trans (if_pos c_13)).trans (if_pos c_17))
                        exact ih (i + 1) (f_X6_silences S_L3 i) (b + (nI 1)) H locs ls (by omega) hq (hB.symm.trans ((congrArg _ hv).trans (mt3_s S i).symm)) hP hS (lv_sub hl [0, 1, 2] rfl)
                      · have hq := hq.trans (if_neg c_17)
                        refine lv_iconst (v := nI 0) hx hb dX6_passes_223 (by decide) ?_
                        refine lv_goto (tgt := 228) hx hb dX6_passes_224 (by decide) ?_
                        refine lv_iadd hx hb dX6_passes_228 ?_
                        refine lv_istore_n (lv' := [(1, .int (b + (nI 0))), (2, .int (nI i)), (0, .ref (G 0))]) hx hb dX6_passes_229 rfl hl (by decide) rfl (fun ls hl => ?_)
                        refine lv_iinc (v := nI (i + 1)) (lv' := [(2, .int (nI (i + 1))), (1, .int (b + (nI 0))), (0, .ref (G 0))]) hx hb dX6_passes_230 hl (k := 1) rfl (nI_add _ _) (by decide) rfl (fun ls hl => ?_)
                        refine lv_goto (tgt := 135) hx hb dX6_passes_233 (by decide) ?_
                        have hB : f_X6_passes_L3_b i S_L3 = f_X6_silences S_L3 i := ((((((f_X6_passes_L3_b_d _ _).trans (if_neg c_5)).trans (if_pos c_6)).trans (if_pos c_12)).trans (if_pos c_13)).trans (if_neg c_17))
                        exact ih (i + 1) (f_X6_silences S_L3 i) (b + (nI 0)) H locs ls (by omega) hq (hB.symm.trans ((congrArg _ hv).trans (mt3_s S i).symm)) hP hS (lv_sub hl [0, 1, 2] rfl)
                  · have hq := hq.trans (if_neg c_12)
                    refine lv_aload_n hx hb dX6_passes_169 rfl (lv_at hl 2 rfl) ?_
                    refine lv_iload_n hx hb dX6_passes_170 rfl (lv_at hl 0 rfl) ?_
                    refine x_mv (va_runV (As := [.int (nI i)]) (rest := []) ⟨hx, hb, hml, hown, hts⟩ (c_X6_fails l D cI cS cZ cJ G S_L3 H.size i (by omega) hgf.2.1 hgf.2.2) (cwV 1 hts gX6_passes_X6_fails rfl rfl rfl (by decide +kernel) ⟨Nat.le_of_ble_eq_true rfl, Nat.le_of_ble_eq_true rfl⟩) ⟨wPc_blind, va_recv hK hP (ci := 6) (q0 := 0) rfl (WL_at (by decide) (rfl)), wPc_at hP hK hD hN⟩ rfl rfl hl.1 rfl (lv_room (Nat.le_of_ble_eq_true rfl)) dX6_passes_171 ⟨Nat.le_refl _, Nat.le_refl _⟩) hS (fA_sub (hD S) (fun q h => hA q (Nat.le_trans hS.1 h))) (fun H locs hz hk hP hS => ?_)
                    refine lv_goto (tgt := 213) hx hb dX6_passes_174 (by decide) ?_
                    refine lv_iload_n hx hb dX6_passes_213 rfl (lv_at hl 1 rfl) ?_
                    refine lv_aload_n hx hb dX6_passes_214 rfl (lv_at hl 2 rfl) ?_
                    refine x_get hx hb hts mm_X6_passes_X6 hown hK hP (0) (by decide) (rfl) rfl 12 (by decide) (hts _ lk_X6_passes_41) rfl rfl dX6_passes_215 ?_
                    refine lv_iload_n hx hb dX6_passes_218 rfl (lv_at hl 0 rfl) ?_
                    refine x_zald hx hb hK hP 10 2 (by decide) (rfl) rfl i (by omega) (by decide) dX6_passes_219 ?_
                    refine lv_if_eq (tgt := 227) hx hb dX6_passes_220 (by decide) (fun c_18 => ?_) (fun c_18 => ?_)
                    · have hq := hq.trans (if_pos c_18)
                      refine lv_iconst (v := nI 1) hx hb dX6_passes_227 (by decide) ?_
                      refine lv_iadd hx hb dX6_passes_228 ?_
                      refine lv_istore_n (lv' := [(1, .int (b + (nI 1))), (2, .int (nI i)), (0, .ref (G 0))]) hx hb dX6_passes_229 rfl hl (by decide) rfl (fun ls hl => ?_)
                      refine lv_iinc (v := nI (i + 1)) (lv' := [(2, .int (nI (i + 1))), (1, .int (b + (nI 1))), (0, .ref (G 0))]) hx hb dX6_passes_230 hl (k := 1) rfl (nI_add _ _) (by decide) rfl (fun ls hl => ?_)
                      refine lv_goto (tgt := 135) hx hb dX6_passes_233 (by decide) ?_
                      have hB : f_X6_passes_L3_b i S_L3 = f_X6_fails S_L3 i := (((((f_X6_passes_L3_b_d _ _).trans (if_neg c_5)).trans (if_pos c_6)).trans (if_neg c_12)).trans (if_pos c_18))
                      exact ih (i + 1) (f_X6_fails S_L3 i) (b + (nI 1)) H locs ls (by omega) hq (hB.symm.trans ((congrArg _ hv).trans (mt3_s S i).symm)) hP hS (lv_sub hl [0, 1, 2] rfl)
                    · have hq := hq.trans (if_neg c_18)
                      refine lv_iconst (v := nI 0) hx hb dX6_passes_223 (by decide) ?_
                      refine lv_goto (tgt := 228) hx hb dX6_passes_224 (by decide) ?_
                      refine lv_iadd hx hb dX6_passes_228 ?_
                      refine lv_istore_n (lv' := [(1, .int (b + (nI 0))), (2, .int (nI i)), (0, .ref (G 0))]) hx hb dX6_passes_229 rfl hl (by decide) rfl (fun ls hl => ?_)
                      refine lv_iinc (v := nI (i + 1)) (lv' := [(2, .int (nI (i + 1))), (1, .int (b + (nI 0))), (0, .ref (G 0))]) hx hb dX6_passes_230 hl (k := 1) rfl (nI_add _ _) (by decide) rfl (fun ls hl => ?_)
                      refine lv_goto (tgt := 135) hx hb dX6_passes_233 (by decide) ?_
                      have hB : f_X6_passes_L3_b i S_L3 = f_X6_fails S_L3 i := (((((f_X6_passes_L3_b_d _ _).trans (if_neg c_5)).trans (if_pos c_6)).trans (if_neg c_12)).trans (if_neg c_18))
                      exact ih (i + 1) (f_X6_fails S_L3 i) (b + (nI 0)) H locs ls (by omega) hq (hB.symm.trans ((congrArg _ hv).trans (mt3_s S i).symm)) hP hS (lv_sub hl [0, 1, 2] rfl)
          exact L3 6 0 S_L2 (nI 0) _ _ _ (by omega) hq (hv.trans ((congrArg (mt2 S) (show i = 6 by omega)).trans (mt3_0 S).symm)) hP hS (lv_sub hl [0, 1, 2] rfl)
        | succ n ih =>
          intro i S_L2 H locs ls hin hq hv hP hS hl
          have hq := hq.trans (f_X6_passes_L2_s _ _ _)
          refine lv_iload_n hx hb dX6_passes_49 rfl (lv_at hl 0 rfl) ?_
          refine lv_bipush (v := nI 6) hx hb dX6_passes_50 (by decide) ?_
          refine lv_icmp_ge (tgt := 131) hx hb dX6_passes_52 (by decide) (fun c_19 => absurd c_19 (nI_ge (by omega) (by omega))) (fun _ => ?_)
          refine lv_aload_n hx hb dX6_passes_55 rfl (lv_at hl 1 rfl) ?_
          refine x_get hx hb hts mm_X6_passes_X6 hown hK hP (0) (by decide) (rfl) rfl 13 (by decide) (hts _ lk_X6_passes_45) rfl rfl dX6_passes_56 ?_
          refine lv_iload_n hx hb dX6_passes_59 rfl (lv_at hl 0 rfl) ?_
          refine lv_aload_n hx hb dX6_passes_60 rfl (lv_at hl 1 rfl) ?_
          refine x_get hx hb hts mm_X6_passes_X6 hown hK hP (0) (by decide) (rfl) rfl 12 (by decide) (hts _ lk_X6_passes_41) rfl rfl dX6_passes_61 ?_
          refine lv_iload_n hx hb dX6_passes_64 rfl (lv_at hl 0 rfl) ?_
          refine x_zald hx hb hK hP 10 2 (by decide) (rfl) rfl i (by omega) (by decide) dX6_passes_65 ?_
          refine x_zast hx hb hK hP hD hS 11 2 (by decide) ((fun _ => rfl)) rfl i (by omega) (by decide) dX6_passes_66 (fun H locs hP hS => ?_)
          refine lv_aload_n hx hb dX6_passes_67 rfl (lv_at hl 1 rfl) ?_
          refine x_get hx hb hts mm_X6_passes_X6 hown hK hP (0) (by decide) (rfl) rfl 20 (by decide) (hts _ lk_X6_passes_66) rfl rfl dX6_passes_68 ?_
          refine lv_iload_n hx hb dX6_passes_71 rfl (lv_at hl 0 rfl) ?_
          refine lv_dup2_11 hx hb dX6_passes_72 rfl rfl ?_
          refine x_iald hx hb hK hP 18 0 (by decide) (rfl) rfl i (by omega) (by decide) dX6_passes_73 ?_
          refine lv_aload_n hx hb dX6_passes_74 rfl (lv_at hl 1 rfl) ?_
          refine x_get hx hb hts mm_X6_passes_X6 hown hK hP (0) (by decide) (rfl) rfl 12 (by decide) (hts _ lk_X6_passes_41) rfl rfl dX6_passes_75 ?_
          refine lv_iload_n hx hb dX6_passes_78 rfl (lv_at hl 0 rfl) ?_
          refine x_zald hx hb hK hP 10 2 (by decide) (rfl) rfl i (by omega) (by decide) dX6_passes_79 ?_
          refine lv_if_eq (tgt := 87) hx hb dX6_passes_80 (by decide) (fun c_20 => ?_) (fun c_20 => ?_)
          · have hq := hq.trans (if_pos c_20)
            refine lv_iconst (v := nI 0) hx hb dX6_passes_87 (by decide) ?_
            refine lv_iadd hx hb dX6_passes_88 ?_
            refine x_iast hx hb hK hP hD hS 18 0 (by decide) ((fun _ => rfl)) rfl i (by omega) (by decide) dX6_passes_89 (fun H locs hP hS => ?_)
            refine lv_aload_n hx hb dX6_passes_90 rfl (lv_at hl 1 rfl) ?_
            refine x_get hx hb hts mm_X6_passes_X6 hown hK hP (0) (by decide) (rfl) rfl 17 (by decide) (hts _ lk_X6_passes_57) rfl rfl dX6_passes_91 ?_
            refine lv_iload_n hx hb dX6_passes_94 rfl (lv_at hl 0 rfl) ?_
            refine lv_dup2_11 hx hb dX6_passes_95 rfl rfl ?_
            refine x_iald hx hb hK hP 15 0 (by decide) (rfl) rfl i (by omega) (by decide) dX6_passes_96 ?_
            refine lv_aload_n hx hb dX6_passes_97 rfl (lv_at hl 1 rfl) ?_
            refine x_get hx hb hts mm_X6_passes_X6 hown hK hP (0) (by decide) (rfl) rfl 12 (by decide) (hts _ lk_X6_passes_41) rfl rfl dX6_passes_98 ?_
            refine lv_iload_n hx hb dX6_passes_101 rfl (lv_at hl 0 rfl) ?_
            refine x_zald hx hb hK hP 10 2 (by decide) (rfl) rfl i (by omega) (by decide) dX6_passes_102 ?_
            refine lv_if_eq (tgt := 122) hx hb dX6_passes_103 (by decide) (fun c_21 => ?_) (fun c_21 => ?_)
            · have hq := hq.trans (if_pos c_21)
              refine lv_iconst (v := nI 0) hx hb dX6_passes_122 (by decide) ?_
              refine lv_ior hx hb dX6_passes_123 ?_
              refine x_iast hx hb hK hP hD hS 15 0 (by decide) ((fun _ => rfl)) rfl i (by omega) (by decide) dX6_passes_124 (fun H locs hP hS => ?_)
              refine lv_iinc (v := nI (i + 1)) (lv' := [(1, .int (nI (i + 1))), (0, .ref (G 0))]) hx hb dX6_passes_125 hl (k := 0) rfl (nI_add _ _) (by decide) rfl (fun ls hl => ?_)
              refine lv_goto (tgt := 49) hx hb dX6_passes_128 (by decide) ?_
              have hB : f_X6_passes_L2_b i S_L2 = ub (ub (ub S_L2 11 i (vp_nar .boolean (S_L2 10 i))) 18 i (((ub S_L2 11 i (vp_nar .boolean (S_L2 10 i))) 18 i) + (nI 0))) 15 i (((ub (ub S_L2 11 i (vp_nar .boolean (S_L2 10 i))) 18 i (((ub S_L2 11 i (vp_nar .boolean (S_L2 10 i))) 18 i) + (nI 0))) 15 i) ||| (nI 0)) := (((f_X6_passes_L2_b_d _ _).trans (if_pos c_20)).trans (if_pos c_21))
              exact ih (i + 1) (ub (ub (ub S_L2 11 i (vp_nar .boolean (S_L2 10 i))) 18 i (((ub S_L2 11 i (vp_nar .boolean (S_L2 10 i))) 18 i) + (nI 0))) 15 i (((ub (ub S_L2 11 i (vp_nar .boolean (S_L2 10 i))) 18 i (((ub S_L2 11 i (vp_nar .boolean (S_L2 10 i))) 18 i) + (nI 0))) 15 i) ||| (nI 0))) H locs ls (by omega) hq (hB.symm.trans ((congrArg _ hv).trans (mt2_s S i).symm)) hP hS (lv_sub hl [0, 1] rfl)
            · have hq := hq.trans (if_neg c_21)
              have hgo : mGo S_L2 i := by
                have h9 := hp.2.1 i (by omega)
                rw [← hv] at h9
                exact h9 (by have h8 := c_21; rw [ub_ne _ _ _ (by decide), ub_ne _ _ _ (by decide)] at h8; exact h8)
              refine lv_aload_n hx hb dX6_passes_106 rfl (lv_at hl 1 rfl) ?_
              refine lv_iload_n hx hb dX6_passes_107 rfl (lv_at hl 0 rfl) ?_
              refine x_pi (va_runV (As := [.int (nI i)]) (rest := [.int ((ub (ub S_L2 11 i (vp_nar .boolean (S_L2 10 i))) 18 i (((ub S_L2 11 i (vp_nar .boolean (S_L2 10 i))) 18 i) + (nI 0))) 15 i), .int (nI i), .ref (G 15)]) ⟨hx, hb, hml, hown, hts⟩ (c_X6_isBroken l D cI cS cZ cJ G (ub (ub S_L2 11 i (vp_nar .boolean (S_L2 10 i))) 18 i (((ub S_L2 11 i (vp_nar .boolean (S_L2 10 i))) 18 i) + (nI 0))) H.size i (by omega) (by rw [ub_ne _ _ _ (by decide), ub_ne _ _ _ (by decide)]; exact hgo.1) (by rw [ub_ne _ _ _ (by decide), ub_ne _ _ _ (by decide)]; exact hgo.2)) (cwV 1 hts gX6_passes_X6_isBroken rfl rfl rfl (by decide +kernel) ⟨Nat.le_of_ble_eq_true rfl, Nat.le_of_ble_eq_true rfl⟩) ⟨wPc_blind, va_recv hK hP (ci := 6) (q0 := 0) rfl (WL_at (by decide) (rfl)), wPc_at hP hK hD hN⟩ rfl rfl hl.1 rfl (lv_room (Nat.le_of_ble_eq_true rfl)) dX6_passes_108 ⟨Nat.le_refl _, Nat.le_refl _⟩) hS hA (fun q h => h) (fun H locs hz hk hS => ?_)
              have hP := P_kept hP hk
              refine lv_if_eq (tgt := 122) hx hb dX6_passes_111 (by decide) (fun c_22 => ?_) (fun c_22 => ?_)
              · have hq := hq.trans (if_pos c_22)
                refine lv_iconst (v := nI 0) hx hb dX6_passes_122 (by decide) ?_
                refine lv_ior hx hb dX6_passes_123 ?_
                refine x_iast hx hb hK hP hD hS 15 0 (by decide) ((fun _ => rfl)) rfl i (by omega) (by decide) dX6_passes_124 (fun H locs hP hS => ?_)
                refine lv_iinc (v := nI (i + 1)) (lv' := [(1, .int (nI (i + 1))), (0, .ref (G 0))]) hx hb dX6_passes_125 hl (k := 0) rfl (nI_add _ _) (by decide) rfl (fun ls hl => ?_)
                refine lv_goto (tgt := 49) hx hb dX6_passes_128 (by decide) ?_
                have hB : f_X6_passes_L2_b i S_L2 = ub (ub (ub S_L2 11 i (vp_nar .boolean (S_L2 10 i))) 18 i (((ub S_L2 11 i (vp_nar .boolean (S_L2 10 i))) 18 i) + (nI 0))) 15 i (((ub (ub S_L2 11 i (vp_nar .boolean (S_L2 10 i))) 18 i (((ub S_L2 11 i (vp_nar .boolean (S_L2 10 i))) 18 i) + (nI 0))) 15 i) ||| (nI 0)) := ((((f_X6_passes_L2_b_d _ _).trans (if_pos c_20)).trans (if_neg c_21)).trans (if_pos c_22))
                exact ih (i + 1) (ub (ub (ub S_L2 11 i (vp_nar .boolean (S_L2 10 i))) 18 i (((ub S_L2 11 i (vp_nar .boolean (S_L2 10 i))) 18 i) + (nI 0))) 15 i (((ub (ub S_L2 11 i (vp_nar .boolean (S_L2 10 i))) 18 i (((ub S_L2 11 i (vp_nar .boolean (S_L2 10 i))) 18 i) + (nI 0))) 15 i) ||| (nI 0))) H locs ls (by omega) hq (hB.symm.trans ((congrArg _ hv).trans (mt2_s S i).symm)) hP hS (lv_sub hl [0, 1] rfl)
              · have hq := hq.trans (if_neg c_22)
                refine lv_aload_n hx hb dX6_passes_114 rfl (lv_at hl 1 rfl) ?_
                refine lv_iload_n hx hb dX6_passes_115 rfl (lv_at hl 0 rfl) ?_
                refine x_pi (va_runV (As := [.int (nI i)]) (rest := [.int ((ub (ub S_L2 11 i (vp_nar .boolean (S_L2 10 i))) 18 i (((ub S_L2 11 i (vp_nar .boolean (S_L2 10 i))) 18 i) + (nI 0))) 15 i), .int (nI i), .ref (G 15)]) ⟨hx, hb, hml, hown, hts⟩ (c_X6_piece l D cI cS cZ cJ G (ub (ub S_L2 11 i (vp_nar .boolean (S_L2 10 i))) 18 i (((ub S_L2 11 i (vp_nar .boolean (S_L2 10 i))) 18 i) + (nI 0))) H.size i (by omega)) (cwV 1 hts gX6_passes_X6_piece rfl rfl rfl (by decide +kernel) ⟨Nat.le_of_ble_eq_true rfl, Nat.le_of_ble_eq_true rfl⟩) ⟨wPc_blind, va_recv hK hP (ci := 6) (q0 := 0) rfl (WL_at (by decide) (rfl)), wPc_at hP hK hD hN⟩ rfl rfl hl.1 rfl (lv_room (Nat.le_of_ble_eq_true rfl)) dX6_passes_116 ⟨Nat.le_refl _, Nat.le_refl _⟩) hS hA (fun q h => h) (fun H locs hz hk hS => ?_)
                have hP := P_kept hP hk
                refine lv_goto (tgt := 123) hx hb dX6_passes_119 (by decide) ?_
                refine lv_ior hx hb dX6_passes_123 ?_
                refine x_iast hx hb hK hP hD hS 15 0 (by decide) ((fun _ => rfl)) rfl i (by omega) (by decide) dX6_passes_124 (fun H locs hP hS => ?_)
                refine lv_iinc (v := nI (i + 1)) (lv' := [(1, .int (nI (i + 1))), (0, .ref (G 0))]) hx hb dX6_passes_125 hl (k := 0) rfl (nI_add _ _) (by decide) rfl (fun ls hl => ?_)
                refine lv_goto (tgt := 49) hx hb dX6_passes_128 (by decide) ?_
                have hB : f_X6_passes_L2_b i S_L2 = ub (ub (ub S_L2 11 i (vp_nar .boolean (S_L2 10 i))) 18 i (((ub S_L2 11 i (vp_nar .boolean (S_L2 10 i))) 18 i) + (nI 0))) 15 i (((ub (ub S_L2 11 i (vp_nar .boolean (S_L2 10 i))) 18 i (((ub S_L2 11 i (vp_nar .boolean (S_L2 10 i))) 18 i) + (nI 0))) 15 i) ||| (f_X6_piece (ub (ub S_L2 11 i (vp_nar .boolean (S_L2 10 i))) 18 i (((ub S_L2 11 i (vp_nar .boolean (S_L2 10 i))) 18 i) + (nI 0))) i)) := ((((f_X6_passes_L2_b_d _ _).trans (if_pos c_20)).trans (if_neg c_21)).trans (if_neg c_22))
                exact ih (i + 1) (ub (ub (ub S_L2 11 i (vp_nar .boolean (S_L2 10 i))) 18 i (((ub S_L2 11 i (vp_nar .boolean (S_L2 10 i))) 18 i) + (nI 0))) 15 i (((ub (ub S_L2 11 i (vp_nar .boolean (S_L2 10 i))) 18 i (((ub S_L2 11 i (vp_nar .boolean (S_L2 10 i))) 18 i) + (nI 0))) 15 i) ||| (f_X6_piece (ub (ub S_L2 11 i (vp_nar .boolean (S_L2 10 i))) 18 i (((ub S_L2 11 i (vp_nar .boolean (S_L2 10 i))) 18 i) + (nI 0))) i))) H locs ls (by omega) hq (hB.symm.trans ((congrArg _ hv).trans (mt2_s S i).symm)) hP hS (lv_sub hl [0, 1] rfl)
          · have hq := hq.trans (if_neg c_20)
            refine lv_iconst (v := nI 1) hx hb dX6_passes_83 (by decide) ?_
            refine lv_goto (tgt := 88) hx hb dX6_passes_84 (by decide) ?_
            refine lv_iadd hx hb dX6_passes_88 ?_
            refine x_iast hx hb hK hP hD hS 18 0 (by decide) ((fun _ => rfl)) rfl i (by omega) (by decide) dX6_passes_89 (fun H locs hP hS => ?_)
            refine lv_aload_n hx hb dX6_passes_90 rfl (lv_at hl 1 rfl) ?_
            refine x_get hx hb hts mm_X6_passes_X6 hown hK hP (0) (by decide) (rfl) rfl 17 (by decide) (hts _ lk_X6_passes_57) rfl rfl dX6_passes_91 ?_
            refine lv_iload_n hx hb dX6_passes_94 rfl (lv_at hl 0 rfl) ?_
            refine lv_dup2_11 hx hb dX6_passes_95 rfl rfl ?_
            refine x_iald hx hb hK hP 15 0 (by decide) (rfl) rfl i (by omega) (by decide) dX6_passes_96 ?_
            refine lv_aload_n hx hb dX6_passes_97 rfl (lv_at hl 1 rfl) ?_
            refine x_get hx hb hts mm_X6_passes_X6 hown hK hP (0) (by decide) (rfl) rfl 12 (by decide) (hts _ lk_X6_passes_41) rfl rfl dX6_passes_98 ?_
            refine lv_iload_n hx hb dX6_passes_101 rfl (lv_at hl 0 rfl) ?_
            refine x_zald hx hb hK hP 10 2 (by decide) (rfl) rfl i (by omega) (by decide) dX6_passes_102 ?_
            refine lv_if_eq (tgt := 122) hx hb dX6_passes_103 (by decide) (fun c_23 => ?_) (fun c_23 => ?_)
            · have hq := hq.trans (if_pos c_23)
              refine lv_iconst (v := nI 0) hx hb dX6_passes_122 (by decide) ?_
              refine lv_ior hx hb dX6_passes_123 ?_
              refine x_iast hx hb hK hP hD hS 15 0 (by decide) ((fun _ => rfl)) rfl i (by omega) (by decide) dX6_passes_124 (fun H locs hP hS => ?_)
              refine lv_iinc (v := nI (i + 1)) (lv' := [(1, .int (nI (i + 1))), (0, .ref (G 0))]) hx hb dX6_passes_125 hl (k := 0) rfl (nI_add _ _) (by decide) rfl (fun ls hl => ?_)
              refine lv_goto (tgt := 49) hx hb dX6_passes_128 (by decide) ?_
              have hB : f_X6_passes_L2_b i S_L2 = ub (ub (ub S_L2 11 i (vp_nar .boolean (S_L2 10 i))) 18 i (((ub S_L2 11 i (vp_nar .boolean (S_L2 10 i))) 18 i) + (nI 1))) 15 i (((ub (ub S_L2 11 i (vp_nar .boolean (S_L2 10 i))) 18 i (((ub S_L2 11 i (vp_nar .boolean (S_L2 10 i))) 18 i) + (nI 1))) 15 i) ||| (nI 0)) := (((f_X6_passes_L2_b_d _ _).trans (if_neg c_20)).trans (if_pos c_23))
              exact ih (i + 1) (ub (ub (ub S_L2 11 i (vp_nar .boolean (S_L2 10 i))) 18 i (((ub S_L2 11 i (vp_nar .boolean (S_L2 10 i))) 18 i) + (nI 1))) 15 i (((ub (ub S_L2 11 i (vp_nar .boolean (S_L2 10 i))) 18 i (((ub S_L2 11 i (vp_nar .boolean (S_L2 10 i))) 18 i) + (nI 1))) 15 i) ||| (nI 0))) H locs ls (by omega) hq (hB.symm.trans ((congrArg _ hv).trans (mt2_s S i).symm)) hP hS (lv_sub hl [0, 1] rfl)
            · have hq := hq.trans (if_neg c_23)
              have hgo : mGo S_L2 i := by
                have h9 := hp.2.1 i (by omega)
                rw [← hv] at h9
                exact h9 (by have h8 := c_23; rw [ub_ne _ _ _ (by decide), ub_ne _ _ _ (by decide)] at h8; exact h8)
              refine lv_aload_n hx hb dX6_passes_106 rfl (lv_at hl 1 rfl) ?_
              refine lv_iload_n hx hb dX6_passes_107 rfl (lv_at hl 0 rfl) ?_
              refine x_pi (va_runV (As := [.int (nI i)]) (rest := [.int ((ub (ub S_L2 11 i (vp_nar .boolean (S_L2 10 i))) 18 i (((ub S_L2 11 i (vp_nar .boolean (S_L2 10 i))) 18 i) + (nI 1))) 15 i), .int (nI i), .ref (G 15)]) ⟨hx, hb, hml, hown, hts⟩ (c_X6_isBroken l D cI cS cZ cJ G (ub (ub S_L2 11 i (vp_nar .boolean (S_L2 10 i))) 18 i (((ub S_L2 11 i (vp_nar .boolean (S_L2 10 i))) 18 i) + (nI 1))) H.size i (by omega) (by rw [ub_ne _ _ _ (by decide), ub_ne _ _ _ (by decide)]; exact hgo.1) (by rw [ub_ne _ _ _ (by decide), ub_ne _ _ _ (by decide)]; exact hgo.2)) (cwV 1 hts gX6_passes_X6_isBroken rfl rfl rfl (by decide +kernel) ⟨Nat.le_of_ble_eq_true rfl, Nat.le_of_ble_eq_true rfl⟩) ⟨wPc_blind, va_recv hK hP (ci := 6) (q0 := 0) rfl (WL_at (by decide) (rfl)), wPc_at hP hK hD hN⟩ rfl rfl hl.1 rfl (lv_room (Nat.le_of_ble_eq_true rfl)) dX6_passes_108 ⟨Nat.le_refl _, Nat.le_refl _⟩) hS hA (fun q h => h) (fun H locs hz hk hS => ?_)
              have hP := P_kept hP hk
              refine lv_if_eq (tgt := 122) hx hb dX6_passes_111 (by decide) (fun c_24 => ?_) (fun c_24 => ?_)
              · have hq := hq.trans (if_pos c_24)
                refine lv_iconst (v := nI 0) hx hb dX6_passes_122 (by decide) ?_
                refine lv_ior hx hb dX6_passes_123 ?_
                refine x_iast hx hb hK hP hD hS 15 0 (by decide) ((fun _ => rfl)) rfl i (by omega) (by decide) dX6_passes_124 (fun H locs hP hS => ?_)
                refine lv_iinc (v := nI (i + 1)) (lv' := [(1, .int (nI (i + 1))), (0, .ref (G 0))]) hx hb dX6_passes_125 hl (k := 0) rfl (nI_add _ _) (by decide) rfl (fun ls hl => ?_)
                refine lv_goto (tgt := 49) hx hb dX6_passes_128 (by decide) ?_
                have hB : f_X6_passes_L2_b i S_L2 = ub (ub (ub S_L2 11 i (vp_nar .boolean (S_L2 10 i))) 18 i (((ub S_L2 11 i (vp_nar .boolean (S_L2 10 i))) 18 i) + (nI 1))) 15 i (((ub (ub S_L2 11 i (vp_nar .boolean (S_L2 10 i))) 18 i (((ub S_L2 11 i (vp_nar .boolean (S_L2 10 i))) 18 i) + (nI 1))) 15 i) ||| (nI 0)) := ((((f_X6_passes_L2_b_d _ _).trans (if_neg c_20)).trans (if_neg c_23)).trans (if_pos c_24))
                exact ih (i + 1) (ub (ub (ub S_L2 11 i (vp_nar .boolean (S_L2 10 i))) 18 i (((ub S_L2 11 i (vp_nar .boolean (S_L2 10 i))) 18 i) + (nI 1))) 15 i (((ub (ub S_L2 11 i (vp_nar .boolean (S_L2 10 i))) 18 i (((ub S_L2 11 i (vp_nar .boolean (S_L2 10 i))) 18 i) + (nI 1))) 15 i) ||| (nI 0))) H locs ls (by omega) hq (hB.symm.trans ((congrArg _ hv).trans (mt2_s S i).symm)) hP hS (lv_sub hl [0, 1] rfl)
              · have hq := hq.trans (if_neg c_24)
                refine lv_aload_n hx hb dX6_passes_114 rfl (lv_at hl 1 rfl) ?_
                refine lv_iload_n hx hb dX6_passes_115 rfl (lv_at hl 0 rfl) ?_
                refine x_pi (va_runV (As := [.int (nI i)]) (rest := [.int ((ub (ub S_L2 11 i (vp_nar .boolean (S_L2 10 i))) 18 i (((ub S_L2 11 i (vp_nar .boolean (S_L2 10 i))) 18 i) + (nI 1))) 15 i), .int (nI i), .ref (G 15)]) ⟨hx, hb, hml, hown, hts⟩ (c_X6_piece l D cI cS cZ cJ G (ub (ub S_L2 11 i (vp_nar .boolean (S_L2 10 i))) 18 i (((ub S_L2 11 i (vp_nar .boolean (S_L2 10 i))) 18 i) + (nI 1))) H.size i (by omega)) (cwV 1 hts gX6_passes_X6_piece rfl rfl rfl (by decide +kernel) ⟨Nat.le_of_ble_eq_true rfl, Nat.le_of_ble_eq_true rfl⟩) ⟨wPc_blind, va_recv hK hP (ci := 6) (q0 := 0) rfl (WL_at (by decide) (rfl)), wPc_at hP hK hD hN⟩ rfl rfl hl.1 rfl (lv_room (Nat.le_of_ble_eq_true rfl)) dX6_passes_116 ⟨Nat.le_refl _, Nat.le_refl _⟩) hS hA (fun q h => h) (fun H locs hz hk hS => ?_)
                have hP := P_kept hP hk
                refine lv_goto (tgt := 123) hx hb dX6_passes_119 (by decide) ?_
                refine lv_ior hx hb dX6_passes_123 ?_
                refine x_iast hx hb hK hP hD hS 15 0 (by decide) ((fun _ => rfl)) rfl i (by omega) (by decide) dX6_passes_124 (fun H locs hP hS => ?_)
                refine lv_iinc (v := nI (i + 1)) (lv' := [(1, .int (nI (i + 1))), (0, .ref (G 0))]) hx hb dX6_passes_125 hl (k := 0) rfl (nI_add _ _) (by decide) rfl (fun ls hl => ?_)
                refine lv_goto (tgt := 49) hx hb dX6_passes_128 (by decide) ?_
                have hB : f_X6_passes_L2_b i S_L2 = ub (ub (ub S_L2 11 i (vp_nar .boolean (S_L2 10 i))) 18 i (((ub S_L2 11 i (vp_nar .boolean (S_L2 10 i))) 18 i) + (nI 1))) 15 i (((ub (ub S_L2 11 i (vp_nar .boolean (S_L2 10 i))) 18 i (((ub S_L2 11 i (vp_nar .boolean (S_L2 10 i))) 18 i) + (nI 1))) 15 i) ||| (f_X6_piece (ub (ub S_L2 11 i (vp_nar .boolean (S_L2 10 i))) 18 i (((ub S_L2 11 i (vp_nar .boolean (S_L2 10 i))) 18 i) + (nI 1))) i)) := ((((f_X6_passes_L2_b_d _ _).trans (if_neg c_20)).trans (if_neg c_23)).trans (if_neg c_24))
                exact ih (i + 1) (ub (ub (ub S_L2 11 i (vp_nar .boolean (S_L2 10 i))) 18 i (((ub S_L2 11 i (vp_nar .boolean (S_L2 10 i))) 18 i) + (nI 1))) 15 i (((ub (ub S_L2 11 i (vp_nar .boolean (S_L2 10 i))) 18 i (((ub S_L2 11 i (vp_nar .boolean (S_L2 10 i))) 18 i) + (nI 1))) 15 i) ||| (f_X6_piece (ub (ub S_L2 11 i (vp_nar .boolean (S_L2 10 i))) 18 i (((ub S_L2 11 i (vp_nar .boolean (S_L2 10 i))) 18 i) + (nI 1))) i))) H locs ls (by omega) hq (hB.symm.trans ((congrArg _ hv).trans (mt2_s S i).symm)) hP hS (lv_sub hl [0, 1] rfl)
      exact L2 6 0 S_L1 _ _ _ (by omega) hq (hv.trans ((congrArg (mt1 S) (show i = 6 by omega)).trans (mt2_0 S).symm)) hP hS (lv_sub hl [0, 1] rfl)
    | succ n ih =>
      intro i S_L1 H locs ls hin hq hv hP hS hl
      have hq := hq.trans (f_X6_passes_L1_s _ _ _)
      refine lv_iload_n hx hb dX6_passes_12 rfl (lv_at hl 0 rfl) ?_
      refine lv_bipush (v := nI 6) hx hb dX6_passes_13 (by decide) ?_
      refine lv_icmp_ge (tgt := 47) hx hb dX6_passes_15 (by decide) (fun c_25 => absurd c_25 (nI_ge (by omega) (by omega))) (fun _ => ?_)
      refine lv_aload_n hx hb dX6_passes_18 rfl (lv_at hl 1 rfl) ?_
      refine x_get hx hb hts mm_X6_passes_X6 hown hK hP (0) (by decide) (rfl) rfl 12 (by decide) (hts _ lk_X6_passes_41) rfl rfl dX6_passes_19 ?_
      refine lv_iload_n hx hb dX6_passes_22 rfl (lv_at hl 0 rfl) ?_
      refine x_zald hx hb hK hP 10 2 (by decide) (rfl) rfl i (by omega) (by decide) dX6_passes_23 ?_
      refine lv_if_ne (tgt := 41) hx hb dX6_passes_24 (by decide) (fun c_26 => ?_) (fun c_26 => ?_)
      · have hq := hq.trans (if_neg c_26)
        refine lv_iinc (v := nI (i + 1)) (lv' := [(1, .int (nI (i + 1))), (0, .ref (G 0))]) hx hb dX6_passes_41 hl (k := 0) rfl (nI_add _ _) (by decide) rfl (fun ls hl => ?_)
        refine lv_goto (tgt := 12) hx hb dX6_passes_44 (by decide) ?_
        have hB : f_X6_passes_L1_b i S_L1 = S_L1 := ((f_X6_passes_L1_b_d _ _).trans (if_neg c_26))
        exact ih (i + 1) S_L1 H locs ls (by omega) hq (hB.symm.trans ((congrArg _ hv).trans (mt1_s S i).symm)) hP hS (lv_sub hl [0, 1] rfl)
      · have hq := hq.trans (if_pos c_26)
        refine lv_aload_n hx hb dX6_passes_27 rfl (lv_at hl 1 rfl) ?_
        refine x_get hx hb hts mm_X6_passes_X6 hown hK hP (0) (by decide) (rfl) rfl 11 (by decide) (hts _ lk_X6_passes_38) rfl rfl dX6_passes_28 ?_
        refine lv_iload_n hx hb dX6_passes_31 rfl (lv_at hl 0 rfl) ?_
        refine x_iald hx hb hK hP 9 0 (by decide) (rfl) rfl i (by omega) (by decide) dX6_passes_32 ?_
        refine lv_if_le (tgt := 41) hx hb dX6_passes_33 (by decide) (fun c_27 => ?_) (fun c_27 => ?_)
        · have hq := hq.trans (if_pos c_27)
          refine lv_iinc (v := nI (i + 1)) (lv' := [(1, .int (nI (i + 1))), (0, .ref (G 0))]) hx hb dX6_passes_41 hl (k := 0) rfl (nI_add _ _) (by decide) rfl (fun ls hl => ?_)
          refine lv_goto (tgt := 12) hx hb dX6_passes_44 (by decide) ?_
          have hB : f_X6_passes_L1_b i S_L1 = S_L1 := (((f_X6_passes_L1_b_d _ _).trans (if_pos c_26)).trans (if_pos c_27))
          exact ih (i + 1) S_L1 H locs ls (by omega) hq (hB.symm.trans ((congrArg _ hv).trans (mt1_s S i).symm)) hP hS (lv_sub hl [0, 1] rfl)
        · have hq := hq.trans (if_neg c_27)
          refine lv_aload_n hx hb dX6_passes_36 rfl (lv_at hl 1 rfl) ?_
          refine lv_iload_n hx hb dX6_passes_37 rfl (lv_at hl 0 rfl) ?_
          refine x_mv (va_runV (As := [.int (nI i)]) (rest := []) ⟨hx, hb, hml, hown, hts⟩ (c_X6_listens l D cI cS cZ cJ G S_L1 H.size i (by omega) (by rw [hv]; exact (hp.1 i (by omega)).1.1) (by rw [hv]; exact (hp.1 i (by omega)).1.2) (by rw [hv]; exact (hp.1 i (by omega)).2.1) (by rw [hv]; exact (hp.1 i (by omega)).2.2)) (cwV 1 hts gX6_passes_X6_listens rfl rfl rfl (by decide +kernel) ⟨Nat.le_of_ble_eq_true rfl, Nat.le_of_ble_eq_true rfl⟩) ⟨wPc_blind, va_recv hK hP (ci := 6) (q0 := 0) rfl (WL_at (by decide) (rfl)), wPc_at hP hK hD hN⟩ rfl rfl hl.1 rfl (lv_room (Nat.le_of_ble_eq_true rfl)) dX6_passes_38 ⟨Nat.le_refl _, Nat.le_refl _⟩) hS (fA_sub (hD S) (fun q h => hA q (Nat.le_trans hS.1 h))) (fun H locs hz hk hP hS => ?_)
          refine lv_iinc (v := nI (i + 1)) (lv' := [(1, .int (nI (i + 1))), (0, .ref (G 0))]) hx hb dX6_passes_41 hl (k := 0) rfl (nI_add _ _) (by decide) rfl (fun ls hl => ?_)
          refine lv_goto (tgt := 12) hx hb dX6_passes_44 (by decide) ?_
          have hB : f_X6_passes_L1_b i S_L1 = f_X6_listens S_L1 i := (((f_X6_passes_L1_b_d _ _).trans (if_pos c_26)).trans (if_neg c_27))
          exact ih (i + 1) (f_X6_listens S_L1 i) H locs ls (by omega) hq (hB.symm.trans ((congrArg _ hv).trans (mt1_s S i).symm)) hP hS (lv_sub hl [0, 1] rfl)
  exact L1 6 0 (ub S 0 1 ((S 0 1) + (nI 1))) _ _ _ (by omega) hq (mt1_0 S).symm hP hS (lv_sub hl [0, 1] rfl)

