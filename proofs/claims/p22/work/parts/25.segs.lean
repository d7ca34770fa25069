-- the pieces of isSlot
def bS (T : Mem) (i k : Nat) (b : Int32) : Int32 := if b = 0 then (if nI k = nI i then nI 0 else (if T 0 (6 * i + k) ≤ 0 then nI 0 else (if T 2 k = nI 1 then nI 1 else nI 0))) else nI 1
theorem ne_succ (x : Int32) : ¬ x = x + (nI 1) := fun h => by
  have h1 : x + nI 1 - x = x - x := congrArg (fun y => y - x) h.symm
  rw [Int32.add_comm, Int32.add_sub_cancel, Int32.sub_self] at h1
  exact absurd h1 (by decide)
section ISL
variable {p : Program} {l : Launch} {e : Env} {s : State} {m : MethodId} {args : Array Value} {below : List Frame} {meth : Method} {c : Code} {H : Heap} {locs : List Loc} {ls : Array Slot} {Q : State → Prop} {D : va_G} {A : Nat → Prop} {cI cS : ClassId} {G : Nat → Nat}
def IX (p : Program) (s : State) (m : MethodId) (args : Array Value) (c : Code) (D : va_G) (A : Nat → Prop) (cI cS : ClassId) (G : Nat → Nat) : Prop := p.tables.exec = Jvm.exec ∧ c.code = cL_isSlot ∧ c.maxLocals = 13 ∧ s.vm.findClass RL = some m.cls ∧ (∀ w ∈ wsL_isSlot, w.before args s = true) ∧ va_K D vwCl (tY cI cS) s ∧ (∀ S' : Mem, va_D A (WL 40 G (lF cI cS G) S')) ∧ (∀ q : Nat, s.heap.size ≤ q → A q) ∧ NW s
set_option maxHeartbeats 1000000 in
set_option maxRecDepth 100000 in
theorem sg_A {S T : Mem} {t : Nat} (hX : IX p s m args c D A cI cS G) (ht : S 0 1 = nI t) (hP : va_P D vwCl (WL 40 G (lF cI cS G) (cmb S T)) H) (hS : va_S A s.heap H locs) (hl : lv_has ls 13 [(0, .ref (G 0)), (1, .ref (G 36)), (2, .ref (G 37)), (3, .ref (G 38))])
    (kk : ∀ (H : Heap) (locs : List Loc) (ls : Array Slot), va_P D vwCl (WL 40 G (lF cI cS G) (cmb S T)) H → va_S A s.heap H locs → lv_has ls 13 [(0, .ref (G 0)), (1, .ref (G 36)), (2, .ref (G 37)), (3, .ref (G 38)), (4, .int (nI 0)), (5, .int (nI t)), (6, .int (nI 0))] → W p l e ({ frames := 8, cells := 0, slots := 0, locals := 177 } : Room) s m args below meth c H locs 0 0 Q (F0 m 12 ls [])) : W p l e ({ frames := 8, cells := 0, slots := 0, locals := 177 } : Room) s m args below meth c H locs 0 0 Q (F0 m 0 ls []) := by
  obtain ⟨hx, hb, hml, hown, hts, hK, hD, hA, hN⟩ := hX
  refine lv_iconst (v := nI 0) hx hb dL_isSlot_0 (by decide) ?_
  refine lv_istore (lv' := [(4, .int (nI 0)), (0, .ref (G 0)), (1, .ref (G 36)), (2, .ref (G 37)), (3, .ref (G 38))]) hx hb dL_isSlot_1 hl (by decide) rfl (fun ls hl => ?_)
  refine lv_aload_n hx hb dL_isSlot_3 rfl (lv_at hl 1 rfl) ?_
  refine x_pi (va_runV (As := []) (rest := []) ⟨hx, hb, hml, hown, hts⟩ (c_X5_now l D cI cS G S H.size  ) (cwV 0 hts gL_isSlot_X5_now rfl rfl rfl (by decide +kernel) ⟨Nat.le_of_ble_eq_true rfl, Nat.le_of_ble_eq_true rfl⟩) ⟨wPc_blind, va_recv hK (L_P hP) (ci := 5) (q0 := 0) rfl (WL_at (by decide) (cF_air _)), wPc_at (L_P hP) hK (L_D hD) hN⟩ rfl rfl hl.1 rfl (lv_room (Nat.le_of_ble_eq_true rfl)) dL_isSlot_4 ⟨Nat.le_of_ble_eq_true rfl, Nat.le_of_ble_eq_true rfl⟩) hS hA (fun q h => h) (fun H locs hz hk hS => ?_)
  have hP := P_kept hP hk
  refine x_top (y := nI t) ((f_X5_now_d _).trans ht) ?_
  refine lv_istore (lv' := [(5, .int (nI t)), (4, .int (nI 0)), (0, .ref (G 0)), (1, .ref (G 36)), (2, .ref (G 37)), (3, .ref (G 38))]) hx hb dL_isSlot_7 hl (by decide) rfl (fun ls hl => ?_)
  refine lv_iconst (v := nI 0) hx hb dL_isSlot_9 (by decide) ?_
  refine lv_istore (lv' := [(6, .int (nI 0)), (5, .int (nI t)), (4, .int (nI 0)), (0, .ref (G 0)), (1, .ref (G 36)), (2, .ref (G 37)), (3, .ref (G 38))]) hx hb dL_isSlot_10 hl (by decide) rfl (fun ls hl => ?_)
  exact kk H locs ls hP hS (lv_sub hl [3, 4, 5, 6, 2, 1, 0] rfl)
set_option maxHeartbeats 1000000 in
set_option maxRecDepth 100000 in
theorem sg_B {S T : Mem} {t i z : Nat} (hX : IX p s m args c D A cI cS G) (hi : i < 6) (hon : S (8 + 5 * i) 0 = nI z) (hzz : z = 0 ∨ z = 1) (hnz : narrow .boolean (.int (nI z)) = .int (nI z)) (hP : va_P D vwCl (WL 40 G (lF cI cS G) (cmb S T)) H) (hS : va_S A s.heap H locs) (hl : lv_has ls 13 [(0, .ref (G 0)), (1, .ref (G 36)), (2, .ref (G 37)), (3, .ref (G 38)), (4, .int (nI 0)), (5, .int (nI t)), (6, .int (nI i))])
    (kk : ∀ (H : Heap) (locs : List Loc) (ls : Array Slot), va_P D vwCl (WL 40 G (lF cI cS G) (cmb S (ub (ub (ub (ub (ub (ub (ub (ub T 1 (8 * i) (nI z)) 1 ((8 * i) + 1) (S (6 + 5 * i) 2)) 1 ((8 * i) + 2) (S (7 + 5 * i) 0)) 1 ((8 * i) + 3) (S (6 + 5 * i) 7)) 1 ((8 * i) + 4) (S (6 + 5 * i) 4)) 1 ((8 * i) + 5) (S (6 + 5 * i) 5)) 1 ((8 * i) + 6) (f_X0_partsOfFirst S i)) 1 ((8 * i) + 7) (S (6 + 5 * i) 6)))) H → va_S A s.heap H locs → lv_has ls 13 [(0, .ref (G 0)), (1, .ref (G 36)), (2, .ref (G 37)), (3, .ref (G 38)), (4, .int (nI 0)), (5, .int (nI t)), (6, .int (nI (i + 1)))] → W p l e ({ frames := 8, cells := 0, slots := 0, locals := 177 } : Room) s m args below meth c H locs 0 0 Q (F0 m 12 ls [])) : W p l e ({ frames := 8, cells := 0, slots := 0, locals := 177 } : Room) s m args below meth c H locs 0 0 Q (F0 m 12 ls []) := by
  obtain ⟨hx, hb, hml, hown, hts, hK, hD, hA, hN⟩ := hX
  refine lv_iload hx hb dL_isSlot_12 (lv_at hl 6 rfl) ?_
  refine lv_bipush (v := nI 6) hx hb dL_isSlot_14 (by decide) ?_
  refine lv_icmp_ge (tgt := 153) hx hb dL_isSlot_16 (by decide) (fun c_1 => absurd c_1 (nI_ge hi (by omega))) (fun _ => ?_)
  refine lv_aload_n hx hb dL_isSlot_19 rfl (lv_at hl 2 rfl) ?_
  refine lv_bipush (v := nI 8) hx hb dL_isSlot_20 (by decide) ?_
  refine lv_iload hx hb dL_isSlot_22 (lv_at hl 6 rfl) ?_
  refine x_imulN hx hb dL_isSlot_24 ?_
  refine lv_aload_n hx hb dL_isSlot_25 rfl (lv_at hl 0 rfl) ?_
  refine lv_iload hx hb dL_isSlot_26 (lv_at hl 6 rfl) ?_
  refine x_pi (va_runV (As := [.int (nI i)]) (rest := [.int (nI (8 * i)), .ref (G 37)]) ⟨hx, hb, hml, hown, hts⟩ (c_X5_sends l D cI cS G S H.size i hi (by rw [hon]; exact hnz)) (cwV 1 hts gL_isSlot_X5_sends rfl rfl rfl (by decide +kernel) ⟨Nat.le_of_ble_eq_true rfl, Nat.le_of_ble_eq_true rfl⟩) ⟨wPc_blind, va_recv hK (L_P hP) (ci := 5) (q0 := 0) rfl (WL_at (by decide) (cF_air _)), wPc_at (L_P hP) hK (L_D hD) hN⟩ rfl rfl hl.1 rfl (lv_room (Nat.le_of_ble_eq_true rfl)) dL_isSlot_28 ⟨Nat.le_of_ble_eq_true rfl, Nat.le_of_ble_eq_true rfl⟩) hS hA (fun q h => h) (fun H locs hz hk hS => ?_)
  have hP := P_kept hP hk
  refine x_top (y := nI z) ((f_X5_sends_d _ _).trans hon) ?_
  refine lv_if_eq (tgt := 38) hx hb dL_isSlot_31 (by decide) (fun c_2 => ?_) (fun c_2 => ?_)
  · have h31 := c_2
    refine lv_iconst (v := nI 0) hx hb dL_isSlot_38 (by decide) ?_
    refine x_top (y := nI z) (nI0.trans h31.symm) ?_
    refine x_astL hx hb hK hP hD hS 37 1 rfl (by decide) lF_37 (8 * i) (by omega) (by decide) dL_isSlot_39 (fun H locs hP hS => ?_)
    refine lv_aload_n hx hb dL_isSlot_40 rfl (lv_at hl 2 rfl) ?_
    refine lv_bipush (v := nI 8) hx hb dL_isSlot_41 (by decide) ?_
    refine lv_iload hx hb dL_isSlot_43 (lv_at hl 6 rfl) ?_
    refine x_imulN hx hb dL_isSlot_45 ?_
    refine lv_iconst (v := nI 1) hx hb dL_isSlot_46 (by decide) ?_
    refine x_iaddN hx hb dL_isSlot_47 ?_
    refine lv_aload_n hx hb dL_isSlot_48 rfl (lv_at hl 0 rfl) ?_
    refine lv_iload hx hb dL_isSlot_49 (lv_at hl 6 rfl) ?_
    refine x_pi (va_runV (As := [.int (nI i)]) (rest := [.int (nI ((8 * i) + 1)), .ref (G 37)]) ⟨hx, hb, hml, hown, hts⟩ (c_X5_waitOf l D cI cS G S H.size i (by omega)) (cwV 1 hts gL_isSlot_X5_waitOf rfl rfl rfl (by decide +kernel) ⟨Nat.le_of_ble_eq_true rfl, Nat.le_of_ble_eq_true rfl⟩) ⟨wPc_blind, va_recv hK (L_P hP) (ci := 5) (q0 := 0) rfl (WL_at (by decide) (cF_air _)), wPc_at (L_P hP) hK (L_D hD) hN⟩ rfl rfl hl.1 rfl (lv_room (Nat.le_of_ble_eq_true rfl)) dL_isSlot_51 ⟨Nat.le_of_ble_eq_true rfl, Nat.le_of_ble_eq_true rfl⟩) hS hA (fun q h => h) (fun H locs hz hk hS => ?_)
    have hP := P_kept hP hk
    refine x_top (y := S (6 + 5 * i) 2) (f_X5_waitOf_d _ _) ?_
    refine x_astL hx hb hK hP hD hS 37 1 rfl (by decide) lF_37 ((8 * i) + 1) (by omega) (by decide) dL_isSlot_54 (fun H locs hP hS => ?_)
    refine lv_aload_n hx hb dL_isSlot_55 rfl (lv_at hl 2 rfl) ?_
    refine lv_bipush (v := nI 8) hx hb dL_isSlot_56 (by decide) ?_
    refine lv_iload hx hb dL_isSlot_58 (lv_at hl 6 rfl) ?_
    refine x_imulN hx hb dL_isSlot_60 ?_
    refine lv_iconst (v := nI 2) hx hb dL_isSlot_61 (by decide) ?_
    refine x_iaddN hx hb dL_isSlot_62 ?_
    refine lv_aload_n hx hb dL_isSlot_63 rfl (lv_at hl 0 rfl) ?_
    refine lv_iload hx hb dL_isSlot_64 (lv_at hl 6 rfl) ?_
    refine x_pi (va_runV (As := [.int (nI i)]) (rest := [.int (nI ((8 * i) + 2)), .ref (G 37)]) ⟨hx, hb, hml, hown, hts⟩ (c_X5_frames l D cI cS G S H.size i (by omega)) (cwV 1 hts gL_isSlot_X5_frames rfl rfl rfl (by decide +kernel) ⟨Nat.le_of_ble_eq_true rfl, Nat.le_of_ble_eq_true rfl⟩) ⟨wPc_blind, va_recv hK (L_P hP) (ci := 5) (q0 := 0) rfl (WL_at (by decide) (cF_air _)), wPc_at (L_P hP) hK (L_D hD) hN⟩ rfl rfl hl.1 rfl (lv_room (Nat.le_of_ble_eq_true rfl)) dL_isSlot_66 ⟨Nat.le_of_ble_eq_true rfl, Nat.le_of_ble_eq_true rfl⟩) hS hA (fun q h => h) (fun H locs hz hk hS => ?_)
    have hP := P_kept hP hk
    refine x_top (y := S (7 + 5 * i) 0) (f_X5_frames_d _ _) ?_
    refine x_astL hx hb hK hP hD hS 37 1 rfl (by decide) lF_37 ((8 * i) + 2) (by omega) (by decide) dL_isSlot_69 (fun H locs hP hS => ?_)
    refine lv_aload_n hx hb dL_isSlot_70 rfl (lv_at hl 2 rfl) ?_
    refine lv_bipush (v := nI 8) hx hb dL_isSlot_71 (by decide) ?_
    refine lv_iload hx hb dL_isSlot_73 (lv_at hl 6 rfl) ?_
    refine x_imulN hx hb dL_isSlot_75 ?_
    refine lv_iconst (v := nI 3) hx hb dL_isSlot_76 (by decide) ?_
    refine x_iaddN hx hb dL_isSlot_77 ?_
    refine lv_aload_n hx hb dL_isSlot_78 rfl (lv_at hl 0 rfl) ?_
    refine lv_iload hx hb dL_isSlot_79 (lv_at hl 6 rfl) ?_
    refine x_pi (va_runV (As := [.int (nI i)]) (rest := [.int (nI ((8 * i) + 3)), .ref (G 37)]) ⟨hx, hb, hml, hown, hts⟩ (c_X5_airtime l D cI cS G S H.size i (by omega)) (cwV 1 hts gL_isSlot_X5_airtime rfl rfl rfl (by decide +kernel) ⟨Nat.le_of_ble_eq_true rfl, Nat.le_of_ble_eq_true rfl⟩) ⟨wPc_blind, va_recv hK (L_P hP) (ci := 5) (q0 := 0) rfl (WL_at (by decide) (cF_air _)), wPc_at (L_P hP) hK (L_D hD) hN⟩ rfl rfl hl.1 rfl (lv_room (Nat.le_of_ble_eq_true rfl)) dL_isSlot_81 ⟨Nat.le_of_ble_eq_true rfl, Nat.le_of_ble_eq_true rfl⟩) hS hA (fun q h => h) (fun H locs hz hk hS => ?_)
    have hP := P_kept hP hk
    refine x_top (y := S (6 + 5 * i) 7) (f_X5_airtime_d _ _) ?_
    refine x_astL hx hb hK hP hD hS 37 1 rfl (by decide) lF_37 ((8 * i) + 3) (by omega) (by decide) dL_isSlot_84 (fun H locs hP hS => ?_)
    refine lv_aload_n hx hb dL_isSlot_85 rfl (lv_at hl 2 rfl) ?_
    refine lv_bipush (v := nI 8) hx hb dL_isSlot_86 (by decide) ?_
    refine lv_iload hx hb dL_isSlot_88 (lv_at hl 6 rfl) ?_
    refine x_imulN hx hb dL_isSlot_90 ?_
    refine lv_iconst (v := nI 4) hx hb dL_isSlot_91 (by decide) ?_
    refine x_iaddN hx hb dL_isSlot_92 ?_
    refine lv_aload_n hx hb dL_isSlot_93 rfl (lv_at hl 0 rfl) ?_
    refine lv_iload hx hb dL_isSlot_94 (lv_at hl 6 rfl) ?_
    refine x_pi (va_runV (As := [.int (nI i)]) (rest := [.int (nI ((8 * i) + 4)), .ref (G 37)]) ⟨hx, hb, hml, hown, hts⟩ (c_X5_silencedTo l D cI cS G S H.size i (by omega)) (cwV 1 hts gL_isSlot_X5_silencedTo rfl rfl rfl (by decide +kernel) ⟨Nat.le_of_ble_eq_true rfl, Nat.le_of_ble_eq_true rfl⟩) ⟨wPc_blind, va_recv hK (L_P hP) (ci := 5) (q0 := 0) rfl (WL_at (by decide) (cF_air _)), wPc_at (L_P hP) hK (L_D hD) hN⟩ rfl rfl hl.1 rfl (lv_room (Nat.le_of_ble_eq_true rfl)) dL_isSlot_96 ⟨Nat.le_of_ble_eq_true rfl, Nat.le_of_ble_eq_true rfl⟩) hS hA (fun q h => h) (fun H locs hz hk hS => ?_)
    have hP := P_kept hP hk
    refine x_top (y := S (6 + 5 * i) 4) (f_X5_silencedTo_d _ _) ?_
    refine x_astL hx hb hK hP hD hS 37 1 rfl (by decide) lF_37 ((8 * i) + 4) (by omega) (by decide) dL_isSlot_99 (fun H locs hP hS => ?_)
    refine lv_aload_n hx hb dL_isSlot_100 rfl (lv_at hl 2 rfl) ?_
    refine lv_bipush (v := nI 8) hx hb dL_isSlot_101 (by decide) ?_
    refine lv_iload hx hb dL_isSlot_103 (lv_at hl 6 rfl) ?_
    refine x_imulN hx hb dL_isSlot_105 ?_
    refine lv_iconst (v := nI 5) hx hb dL_isSlot_106 (by decide) ?_
    refine x_iaddN hx hb dL_isSlot_107 ?_
    refine lv_aload_n hx hb dL_isSlot_108 rfl (lv_at hl 0 rfl) ?_
    refine lv_iload hx hb dL_isSlot_109 (lv_at hl 6 rfl) ?_
    refine x_pi (va_runV (As := [.int (nI i)]) (rest := [.int (nI ((8 * i) + 5)), .ref (G 37)]) ⟨hx, hb, hml, hown, hts⟩ (c_X5_delivered l D cI cS G S H.size i (by omega)) (cwV 1 hts gL_isSlot_X5_delivered rfl rfl rfl (by decide +kernel) ⟨Nat.le_of_ble_eq_true rfl, Nat.le_of_ble_eq_true rfl⟩) ⟨wPc_blind, va_recv hK (L_P hP) (ci := 5) (q0 := 0) rfl (WL_at (by decide) (cF_air _)), wPc_at (L_P hP) hK (L_D hD) hN⟩ rfl rfl hl.1 rfl (lv_room (Nat.le_of_ble_eq_true rfl)) dL_isSlot_111 ⟨Nat.le_of_ble_eq_true rfl, Nat.le_of_ble_eq_true rfl⟩) hS hA (fun q h => h) (fun H locs hz hk hS => ?_)
    have hP := P_kept hP hk
    refine x_top (y := S (6 + 5 * i) 5) (f_X5_delivered_d _ _) ?_
    refine x_astL hx hb hK hP hD hS 37 1 rfl (by decide) lF_37 ((8 * i) + 5) (by omega) (by decide) dL_isSlot_114 (fun H locs hP hS => ?_)
    refine lv_aload_n hx hb dL_isSlot_115 rfl (lv_at hl 2 rfl) ?_
    refine lv_bipush (v := nI 8) hx hb dL_isSlot_116 (by decide) ?_
    refine lv_iload hx hb dL_isSlot_118 (lv_at hl 6 rfl) ?_
    refine x_imulN hx hb dL_isSlot_120 ?_
    refine lv_bipush (v := nI 6) hx hb dL_isSlot_121 (by decide) ?_
    refine x_iaddN hx hb dL_isSlot_123 ?_
    refine lv_aload_n hx hb dL_isSlot_124 rfl (lv_at hl 0 rfl) ?_
    refine lv_iload hx hb dL_isSlot_125 (lv_at hl 6 rfl) ?_
    refine x_pi (va_runV (As := [.int (nI i)]) (rest := [.int (nI ((8 * i) + 6)), .ref (G 37)]) ⟨hx, hb, hml, hown, hts⟩ (c_X5_partsLeft l D cI cS G S H.size i (by omega)) (cwV 1 hts gL_isSlot_X5_partsLeft rfl rfl rfl (by decide +kernel) ⟨Nat.le_of_ble_eq_true rfl, Nat.le_of_ble_eq_true rfl⟩) ⟨wPc_blind, va_recv hK (L_P hP) (ci := 5) (q0 := 0) rfl (WL_at (by decide) (cF_air _)), wPc_at (L_P hP) hK (L_D hD) hN⟩ rfl rfl hl.1 rfl (lv_room (Nat.le_of_ble_eq_true rfl)) dL_isSlot_127 ⟨Nat.le_of_ble_eq_true rfl, Nat.le_of_ble_eq_true rfl⟩) hS hA (fun q h => h) (fun H locs hz hk hS => ?_)
    have hP := P_kept hP hk
    refine x_top (y := f_X0_partsOfFirst S i) (f_X5_partsLeft_d _ _) ?_
    refine x_astL hx hb hK hP hD hS 37 1 rfl (by decide) lF_37 ((8 * i) + 6) (by omega) (by decide) dL_isSlot_130 (fun H locs hP hS => ?_)
    refine lv_aload_n hx hb dL_isSlot_131 rfl (lv_at hl 2 rfl) ?_
    refine lv_bipush (v := nI 8) hx hb dL_isSlot_132 (by decide) ?_
    refine lv_iload hx hb dL_isSlot_134 (lv_at hl 6 rfl) ?_
    refine x_imulN hx hb dL_isSlot_136 ?_
    refine lv_bipush (v := nI 7) hx hb dL_isSlot_137 (by decide) ?_
    refine x_iaddN hx hb dL_isSlot_139 ?_
    refine lv_aload_n hx hb dL_isSlot_140 rfl (lv_at hl 0 rfl) ?_
    refine lv_iload hx hb dL_isSlot_141 (lv_at hl 6 rfl) ?_
    refine x_pi (va_runV (As := [.int (nI i)]) (rest := [.int (nI ((8 * i) + 7)), .ref (G 37)]) ⟨hx, hb, hml, hown, hts⟩ (c_X5_dropped l D cI cS G S H.size i (by omega)) (cwV 1 hts gL_isSlot_X5_dropped rfl rfl rfl (by decide +kernel) ⟨Nat.le_of_ble_eq_true rfl, Nat.le_of_ble_eq_true rfl⟩) ⟨wPc_blind, va_recv hK (L_P hP) (ci := 5) (q0 := 0) rfl (WL_at (by decide) (cF_air _)), wPc_at (L_P hP) hK (L_D hD) hN⟩ rfl rfl hl.1 rfl (lv_room (Nat.le_of_ble_eq_true rfl)) dL_isSlot_143 ⟨Nat.le_of_ble_eq_true rfl, Nat.le_of_ble_eq_true rfl⟩) hS hA (fun q h => h) (fun H locs hz hk hS => ?_)
    have hP := P_kept hP hk
    refine x_top (y := S (6 + 5 * i) 6) (f_X5_dropped_d _ _) ?_
    refine x_astL hx hb hK hP hD hS 37 1 rfl (by decide) lF_37 ((8 * i) + 7) (by omega) (by decide) dL_isSlot_146 (fun H locs hP hS => ?_)
    refine lv_iinc (v := nI (i + 1)) (lv' := [(6, .int (nI (i + 1))), (0, .ref (G 0)), (1, .ref (G 36)), (2, .ref (G 37)), (3, .ref (G 38)), (4, .int (nI 0)), (5, .int (nI t))]) hx hb dL_isSlot_147 hl (k := 6) rfl (nI_add _ _) (by decide) rfl (fun ls hl => ?_)
    refine lv_goto (tgt := 12) hx hb dL_isSlot_150 (by decide) ?_
    exact kk H locs ls hP hS (lv_sub hl [1, 2, 3, 4, 5, 6, 0] rfl)
  · have h31 := c_2
    refine lv_iconst (v := nI 1) hx hb dL_isSlot_34 (by decide) ?_
    refine x_top (y := nI z) (by rw [hzz.resolve_left (fun h => h31 (by rw [h]; exact nI0))]) ?_
    refine lv_goto (tgt := 39) hx hb dL_isSlot_35 (by decide) ?_
    refine x_astL hx hb hK hP hD hS 37 1 rfl (by decide) lF_37 (8 * i) (by omega) (by decide) dL_isSlot_39 (fun H locs hP hS => ?_)
    refine lv_aload_n hx hb dL_isSlot_40 rfl (lv_at hl 2 rfl) ?_
    refine lv_bipush (v := nI 8) hx hb dL_isSlot_41 (by decide) ?_
    refine lv_iload hx hb dL_isSlot_43 (lv_at hl 6 rfl) ?_
    refine x_imulN hx hb dL_isSlot_45 ?_
    refine lv_iconst (v := nI 1) hx hb dL_isSlot_46 (by decide) ?_
    refine x_iaddN hx hb dL_isSlot_47 ?_
    refine lv_aload_n hx hb dL_isSlot_48 rfl (lv_at hl 0 rfl) ?_
    refine lv_iload hx hb dL_isSlot_49 (lv_at hl 6 rfl) ?_
    refine x_pi (va_runV (As := [.int (nI i)]) (rest := [.int (nI ((8 * i) + 1)), .ref (G 37)]) ⟨hx, hb, hml, hown, hts⟩ (c_X5_waitOf l D cI cS G S H.size i (by omega)) (cwV 1 hts gL_isSlot_X5_waitOf rfl rfl rfl (by decide +kernel) ⟨Nat.le_of_ble_eq_true rfl, Nat.le_of_ble_eq_true rfl⟩) ⟨wPc_blind, va_recv hK (L_P hP) (ci := 5) (q0 := 0) rfl (WL_at (by decide) (cF_air _)), wPc_at (L_P hP) hK (L_D hD) hN⟩ rfl rfl hl.1 rfl (lv_room (Nat.le_of_ble_eq_true rfl)) dL_isSlot_51 ⟨Nat.le_of_ble_eq_true rfl, Nat.le_of_ble_eq_true rfl⟩) hS hA (fun q h => h) (fun H locs hz hk hS => ?_)
    have hP := P_kept hP hk
    refine x_top (y := S (6 + 5 * i) 2) (f_X5_waitOf_d _ _) ?_
    refine x_astL hx hb hK hP hD hS 37 1 rfl (by decide) lF_37 ((8 * i) + 1) (by omega) (by decide) dL_isSlot_54 (fun H locs hP hS => ?_)
    refine lv_aload_n hx hb dL_isSlot_55 rfl (lv_at hl 2 rfl) ?_
    refine lv_bipush (v := nI 8) hx hb dL_isSlot_56 (by decide) ?_
    refine lv_iload hx hb dL_isSlot_58 (lv_at hl 6 rfl) ?_
    refine x_imulN hx hb dL_isSlot_60 ?_
    refine lv_iconst (v := nI 2) hx hb dL_isSlot_61 (by decide) ?_
    refine x_iaddN hx hb dL_isSlot_62 ?_
    refine lv_aload_n hx hb dL_isSlot_63 rfl (lv_at hl 0 rfl) ?_
    refine lv_iload hx hb dL_isSlot_64 (lv_at hl 6 rfl) ?_
    refine x_pi (va_runV (As := [.int (nI i)]) (rest := [.int (nI ((8 * i) + 2)), .ref (G 37)]) ⟨hx, hb, hml, hown, hts⟩ (c_X5_frames l D cI cS G S H.size i (by omega)) (cwV 1 hts gL_isSlot_X5_frames rfl rfl rfl (by decide +kernel) ⟨Nat.le_of_ble_eq_true rfl, Nat.le_of_ble_eq_true rfl⟩) ⟨wPc_blind, va_recv hK (L_P hP) (ci := 5) (q0 := 0) rfl (WL_at (by decide) (cF_air _)), wPc_at (L_P hP) hK (L_D hD) hN⟩ rfl rfl hl.1 rfl (lv_room (Nat.le_of_ble_eq_true rfl)) dL_isSlot_66 ⟨Nat.le_of_ble_eq_true rfl, Nat.le_of_ble_eq_true rfl⟩) hS hA (fun q h => h) (fun H locs hz hk hS => ?_)
    have hP := P_kept hP hk
    refine x_top (y := S (7 + 5 * i) 0) (f_X5_frames_d _ _) ?_
    refine x_astL hx hb hK hP hD hS 37 1 rfl (by decide) lF_37 ((8 * i) + 2) (by omega) (by decide) dL_isSlot_69 (fun H locs hP hS => ?_)
    refine lv_aload_n hx hb dL_isSlot_70 rfl (lv_at hl 2 rfl) ?_
    refine lv_bipush (v := nI 8) hx hb dL_isSlot_71 (by decide) ?_
    refine lv_iload hx hb dL_isSlot_73 (lv_at hl 6 rfl) ?_
    refine x_imulN hx hb dL_isSlot_75 ?_
    refine lv_iconst (v := nI 3) hx hb dL_isSlot_76 (by decide) ?_
    refine x_iaddN hx hb dL_isSlot_77 ?_
    refine lv_aload_n hx hb dL_isSlot_78 rfl (lv_at hl 0 rfl) ?_
    refine lv_iload hx hb dL_isSlot_79 (lv_at hl 6 rfl) ?_
    refine x_pi (va_runV (As := [.int (nI i)]) (rest := [.int (nI ((8 * i) + 3)), .ref (G 37)]) ⟨hx, hb, hml, hown, hts⟩ (c_X5_airtime l D cI cS G S H.size i (by omega)) (cwV 1 hts gL_isSlot_X5_airtime rfl rfl rfl (by decide +kernel) ⟨Nat.le_of_ble_eq_true rfl, Nat.le_of_ble_eq_true rfl⟩) ⟨wPc_blind, va_recv hK (L_P hP) (ci := 5) (q0 := 0) rfl (WL_at (by decide) (cF_air _)), wPc_at (L_P hP) hK (L_D hD) hN⟩ rfl rfl hl.1 rfl (lv_room (Nat.le_of_ble_eq_true rfl)) dL_isSlot_81 ⟨Nat.le_of_ble_eq_true rfl, Nat.le_of_ble_eq_true rfl⟩) hS hA (fun q h => h) (fun H locs hz hk hS => ?_)
    have hP := P_kept hP hk
    refine x_top (y := S (6 + 5 * i) 7) (f_X5_airtime_d _ _) ?_
    refine x_astL hx hb hK hP hD hS 37 1 rfl (by decide) lF_37 ((8 * i) + 3) (by omega) (by decide) dL_isSlot_84 (fun H locs hP hS => ?_)
    refine lv_aload_n hx hb dL_isSlot_85 rfl (lv_at hl 2 rfl) ?_
    refine lv_bipush (v := nI 8) hx hb dL_isSlot_86 (by decide) ?_
    refine lv_iload hx hb dL_isSlot_88 (lv_at hl 6 rfl) ?_
    refine x_imulN hx hb dL_isSlot_90 ?_
    refine lv_iconst (v := nI 4) hx hb dL_isSlot_91 (by decide) ?_
    refine x_iaddN hx hb dL_isSlot_92 ?_
    refine lv_aload_n hx hb dL_isSlot_93 rfl (lv_at hl 0 rfl) ?_
    refine lv_iload hx hb dL_isSlot_94 (lv_at hl 6 rfl) ?_
    refine x_pi (va_runV (As := [.int (nI i)]) (rest := [.int (nI ((8 * i) + 4)), .ref (G 37)]) ⟨hx, hb, hml, hown, hts⟩ (c_X5_silencedTo l D cI cS G S H.size i (by omega)) (cwV 1 hts gL_isSlot_X5_silencedTo rfl rfl rfl (by decide +kernel) ⟨Nat.le_of_ble_eq_true rfl, Nat.le_of_ble_eq_true rfl⟩) ⟨wPc_blind, va_recv hK (L_P hP) (ci := 5) (q0 := 0) rfl (WL_at (by decide) (cF_air _)), wPc_at (L_P hP) hK (L_D hD) hN⟩ rfl rfl hl.1 rfl (lv_room (Nat.le_of_ble_eq_true rfl)) dL_isSlot_96 ⟨Nat.le_of_ble_eq_true rfl, Nat.le_of_ble_eq_true rfl⟩) hS hA (fun q h => h) (fun H locs hz hk hS => ?_)
    have hP := P_kept hP hk
    refine x_top (y := S (6 + 5 * i) 4) (f_X5_silencedTo_d _ _) ?_
    refine x_astL hx hb hK hP hD hS 37 1 rfl (by decide) lF_37 ((8 * i) + 4) (by omega) (by decide) dL_isSlot_99 (fun H locs hP hS => ?_)
    refine lv_aload_n hx hb dL_isSlot_100 rfl (lv_at hl 2 rfl) ?_
    refine lv_bipush (v := nI 8) hx hb dL_isSlot_101 (by decide) ?_
    refine lv_iload hx hb dL_isSlot_103 (lv_at hl 6 rfl) ?_
    refine x_imulN hx hb dL_isSlot_105 ?_
    refine lv_iconst (v := nI 5) hx hb dL_isSlot_106 (by decide) ?_
    refine x_iaddN hx hb dL_isSlot_107 ?_
    refine lv_aload_n hx hb dL_isSlot_108 rfl (lv_at hl 0 rfl) ?_
    refine lv_iload hx hb dL_isSlot_109 (lv_at hl 6 rfl) ?_
    refine x_pi (va_runV (As := [.int (nI i)]) (rest := [.int (nI ((8 * i) + 5)), .ref (G 37)]) ⟨hx, hb, hml, hown, hts⟩ (c_X5_delivered l D cI cS G S H.size i (by omega)) (cwV 1 hts gL_isSlot_X5_delivered rfl rfl rfl (by decide +kernel) ⟨Nat.le_of_ble_eq_true rfl, Nat.le_of_ble_eq_true rfl⟩) ⟨wPc_blind, va_recv hK (L_P hP) (ci := 5) (q0 := 0) rfl (WL_at (by decide) (cF_air _)), wPc_at (L_P hP) hK (L_D hD) hN⟩ rfl rfl hl.1 rfl (lv_room (Nat.le_of_ble_eq_true rfl)) dL_isSlot_111 ⟨Nat.le_of_ble_eq_true rfl, Nat.le_of_ble_eq_true rfl⟩) hS hA (fun q h => h) (fun H locs hz hk hS => ?_)
    have hP := P_kept hP hk
    refine x_top (y := S (6 + 5 * i) 5) (f_X5_delivered_d _ _) ?_
    refine x_astL hx hb hK hP hD hS 37 1 rfl (by decide) lF_37 ((8 * i) + 5) (by omega) (by decide) dL_isSlot_114 (fun H locs hP hS => ?_)
    refine lv_aload_n hx hb dL_isSlot_115 rfl (lv_at hl 2 rfl) ?_
    refine lv_bipush (v := nI 8) hx hb dL_isSlot_116 (by decide) ?_
    refine lv_iload hx hb dL_isSlot_118 (lv_at hl 6 rfl) ?_
    refine x_imulN hx hb dL_isSlot_120 ?_
    refine lv_bipush (v := nI 6) hx hb dL_isSlot_121 (by decide) ?_
    refine x_iaddN hx hb dL_isSlot_123 ?_
    refine lv_aload_n hx hb dL_isSlot_124 rfl (lv_at hl 0 rfl) ?_
    refine lv_iload hx hb dL_isSlot_125 (lv_at hl 6 rfl) ?_
    refine x_pi (va_runV (As := [.int (nI i)]) (rest := [.int (nI ((8 * i) + 6)), .ref (G 37)]) ⟨hx, hb, hml, hown, hts⟩ (c_X5_partsLeft l D cI cS G S H.size i (by omega)) (cwV 1 hts gL_isSlot_X5_partsLeft rfl rfl rfl (by decide +kernel) ⟨Nat.le_of_ble_eq_true rfl, Nat.le_of_ble_eq_true rfl⟩) ⟨wPc_blind, va_recv hK (L_P hP) (ci := 5) (q0 := 0) rfl (WL_at (by decide) (cF_air _)), wPc_at (L_P hP) hK (L_D hD) hN⟩ rfl rfl hl.1 rfl (lv_room (Nat.le_of_ble_eq_true rfl)) dL_isSlot_127 ⟨Nat.le_of_ble_eq_true rfl, Nat.le_of_ble_eq_true rfl⟩) hS hA (fun q h => h) (fun H locs hz hk hS => ?_)
    have hP := P_kept hP hk
    refine x_top (y := f_X0_partsOfFirst S i) (f_X5_partsLeft_d _ _) ?_
    refine x_astL hx hb hK hP hD hS 37 1 rfl (by decide) lF_37 ((8 * i) + 6) (by omega) (by decide) dL_isSlot_130 (fun H locs hP hS => ?_)
    refine lv_aload_n hx hb dL_isSlot_131 rfl (lv_at hl 2 rfl) ?_
    refine lv_bipush (v := nI 8) hx hb dL_isSlot_132 (by decide) ?_
    refine lv_iload hx hb dL_isSlot_134 (lv_at hl 6 rfl) ?_
    refine x_imulN hx hb dL_isSlot_136 ?_
    refine lv_bipush (v := nI 7) hx hb dL_isSlot_137 (by decide) ?_
    refine x_iaddN hx hb dL_isSlot_139 ?_
    refine lv_aload_n hx hb dL_isSlot_140 rfl (lv_at hl 0 rfl) ?_
    refine lv_iload hx hb dL_isSlot_141 (lv_at hl 6 rfl) ?_
    refine x_pi (va_runV (As := [.int (nI i)]) (rest := [.int (nI ((8 * i) + 7)), .ref (G 37)]) ⟨hx, hb, hml, hown, hts⟩ (c_X5_dropped l D cI cS G S H.size i (by omega)) (cwV 1 hts gL_isSlot_X5_dropped rfl rfl rfl (by decide +kernel) ⟨Nat.le_of_ble_eq_true rfl, Nat.le_of_ble_eq_true rfl⟩) ⟨wPc_blind, va_recv hK (L_P hP) (ci := 5) (q0 := 0) rfl (WL_at (by decide) (cF_air _)), wPc_at (L_P hP) hK (L_D hD) hN⟩ rfl rfl hl.1 rfl (lv_room (Nat.le_of_ble_eq_true rfl)) dL_isSlot_143 ⟨Nat.le_of_ble_eq_true rfl, Nat.le_of_ble_eq_true rfl⟩) hS hA (fun q h => h) (fun H locs hz hk hS => ?_)
    have hP := P_kept hP hk
    refine x_top (y := S (6 + 5 * i) 6) (f_X5_dropped_d _ _) ?_
    refine x_astL hx hb hK hP hD hS 37 1 rfl (by decide) lF_37 ((8 * i) + 7) (by omega) (by decide) dL_isSlot_146 (fun H locs hP hS => ?_)
    refine lv_iinc (v := nI (i + 1)) (lv' := [(6, .int (nI (i + 1))), (0, .ref (G 0)), (1, .ref (G 36)), (2, .ref (G 37)), (3, .ref (G 38)), (4, .int (nI 0)), (5, .int (nI t))]) hx hb dL_isSlot_147 hl (k := 6) rfl (nI_add _ _) (by decide) rfl (fun ls hl => ?_)
    refine lv_goto (tgt := 12) hx hb dL_isSlot_150 (by decide) ?_
    exact kk H locs ls hP hS (lv_sub hl [1, 2, 3, 4, 5, 6, 0] rfl)
set_option maxHeartbeats 1000000 in
set_option maxRecDepth 100000 in
theorem sg_C {S T F : Mem} {t en : Nat} (hX : IX p s m args c D A cI cS G) (hall : ∀ j, j < 1 → pOK (ctp S j)) (hpass : f_X5_pass S 1 = (nI en, F)) (hF : F 0 1 = nI (t + 1)) (hP : va_P D vwCl (WL 40 G (lF cI cS G) (cmb S T)) H) (hS : va_S A s.heap H locs) (hl : lv_has ls 13 [(0, .ref (G 0)), (1, .ref (G 36)), (2, .ref (G 37)), (3, .ref (G 38)), (4, .int (nI 0)), (5, .int (nI t)), (6, .int (nI 6))])
    (kk : ∀ (H : Heap) (locs : List Loc) (ls : Array Slot), va_P D vwCl (WL 40 G (lF cI cS G) (cmb F T)) H → va_S A s.heap H locs → lv_has ls 13 [(0, .ref (G 0)), (1, .ref (G 36)), (2, .ref (G 37)), (3, .ref (G 38)), (4, .int (nI 0)), (5, .int (nI t)), (6, .int (nI en)), (7, .int (nI 1)), (8, .int (nI 0))] → W p l e ({ frames := 8, cells := 0, slots := 0, locals := 177 } : Room) s m args below meth c H locs 0 0 Q (F0 m 181 ls [])) : W p l e ({ frames := 8, cells := 0, slots := 0, locals := 177 } : Room) s m args below meth c H locs 0 0 Q (F0 m 12 ls []) := by
  obtain ⟨hx, hb, hml, hown, hts, hK, hD, hA, hN⟩ := hX
  refine lv_iload hx hb dL_isSlot_12 (lv_at hl 6 rfl) ?_
  refine lv_bipush (v := nI 6) hx hb dL_isSlot_14 (by decide) ?_
  refine lv_icmp_ge (tgt := 153) hx hb dL_isSlot_16 (by decide) (fun _ => ?_) (fun c_1 => absurd (by decide) c_1) 
  refine lv_aload_n hx hb dL_isSlot_153 rfl (lv_at hl 0 rfl) ?_
  refine lv_iconst (v := nI 1) hx hb dL_isSlot_154 (by decide) ?_
  refine x_miL (hpass) (va_runV (As := [.int (nI 1)]) (rest := []) ⟨hx, hb, hml, hown, hts⟩ (c_X5_pass l D cI cS G S H.size 1 (by decide) (by decide) hall) (cwV 1 hts gL_isSlot_X5_pass rfl rfl rfl (by decide +kernel) ⟨Nat.le_of_ble_eq_true rfl, Nat.le_of_ble_eq_true rfl⟩) ⟨wPc_blind, va_recv hK (L_P hP) (ci := 5) (q0 := 0) rfl (WL_at (by decide) (cF_air _)), wPc_at (L_P hP) hK (L_D hD) hN⟩ rfl rfl hl.1 rfl (lv_room (Nat.le_of_ble_eq_true rfl)) dL_isSlot_155 ⟨Nat.le_of_ble_eq_true rfl, Nat.le_of_ble_eq_true rfl⟩) hP hD hS hA (fun H locs hP hS => ?_)
  refine lv_istore (lv' := [(6, .int (nI en)), (0, .ref (G 0)), (1, .ref (G 36)), (2, .ref (G 37)), (3, .ref (G 38)), (4, .int (nI 0)), (5, .int (nI t))]) hx hb dL_isSlot_158 hl (by decide) rfl (fun ls hl => ?_)
  refine lv_aload_n hx hb dL_isSlot_160 rfl (lv_at hl 1 rfl) ?_
  refine x_pi (va_runV (As := []) (rest := []) ⟨hx, hb, hml, hown, hts⟩ (c_X5_now l D cI cS G F H.size  ) (cwV 0 hts gL_isSlot_X5_now rfl rfl rfl (by decide +kernel) ⟨Nat.le_of_ble_eq_true rfl, Nat.le_of_ble_eq_true rfl⟩) ⟨wPc_blind, va_recv hK (L_P hP) (ci := 5) (q0 := 0) rfl (WL_at (by decide) (cF_air _)), wPc_at (L_P hP) hK (L_D hD) hN⟩ rfl rfl hl.1 rfl (lv_room (Nat.le_of_ble_eq_true rfl)) dL_isSlot_161 ⟨Nat.le_of_ble_eq_true rfl, Nat.le_of_ble_eq_true rfl⟩) hS hA (fun q h => h) (fun H locs hz hk hS => ?_)
  have hP := P_kept hP hk
  refine x_top (y := nI (t + 1)) ((f_X5_now_d _).trans hF) ?_
  refine lv_iload hx hb dL_isSlot_164 (lv_at hl 6 rfl) ?_
  refine lv_iconst (v := nI 1) hx hb dL_isSlot_166 (by decide) ?_
  refine x_iaddN hx hb dL_isSlot_167 ?_
  refine lv_icmp_ne (tgt := 175) hx hb dL_isSlot_168 (by decide) (fun c_2 => absurd rfl c_2) (fun _ => ?_)
  refine lv_iconst (v := nI 1) hx hb dL_isSlot_171 (by decide) ?_
  refine lv_goto (tgt := 176) hx hb dL_isSlot_172 (by decide) ?_
  refine lv_istore (lv' := [(7, .int (nI 1)), (6, .int (nI en)), (0, .ref (G 0)), (1, .ref (G 36)), (2, .ref (G 37)), (3, .ref (G 38)), (4, .int (nI 0)), (5, .int (nI t))]) hx hb dL_isSlot_176 hl (by decide) rfl (fun ls hl => ?_)
  refine lv_iconst (v := nI 0) hx hb dL_isSlot_178 (by decide) ?_
  refine lv_istore (lv' := [(8, .int (nI 0)), (7, .int (nI 1)), (6, .int (nI en)), (0, .ref (G 0)), (1, .ref (G 36)), (2, .ref (G 37)), (3, .ref (G 38)), (4, .int (nI 0)), (5, .int (nI t))]) hx hb dL_isSlot_179 hl (by decide) rfl (fun ls hl => ?_)
  exact kk H locs ls hP hS (lv_sub hl [3, 4, 5, 6, 7, 8, 2, 1, 0] rfl)
set_option maxHeartbeats 1000000 in
set_option maxRecDepth 100000 in
theorem sg_D0 {F T : Mem} {t i a e9 en : Nat} {sl : Int32} (hX : IX p s m args c D A cI cS G) (hi : i < 6) (ha : a < 200000) (h7 : F (6 + 5 * i) 7 = nI a) (h3 : T 1 (8 * i + 3) = nI a) (h4 : T 1 (8 * i + 4) = sl) (hP : va_P D vwCl (WL 40 G (lF cI cS G) (cmb F T)) H) (hS : va_S A s.heap H locs) (hl : lv_has ls 13 [(0, .ref (G 0)), (1, .ref (G 36)), (2, .ref (G 37)), (3, .ref (G 38)), (4, .int (nI e9)), (5, .int (nI t)), (6, .int (nI en)), (7, .int (nI 1)), (8, .int (nI i))])
    (kk : ∀ (H : Heap) (locs : List Loc) (ls : Array Slot), va_P D vwCl (WL 40 G (lF cI cS G) (cmb F T)) H → va_S A s.heap H locs → lv_has ls 13 [(0, .ref (G 0)), (1, .ref (G 36)), (2, .ref (G 37)), (3, .ref (G 38)), (4, .int (nI e9)), (5, .int (nI t)), (6, .int (nI en)), (7, .int (nI 1)), (8, .int (nI i)), (9, .int (nI 0)), (10, .int ((if sl ≤ nI t then nI 0 else nI 1))), (11, .int (nI 0))] → W p l e ({ frames := 8, cells := 0, slots := 0, locals := 177 } : Room) s m args below meth c H locs 0 0 Q (F0 m 242 ls [])) : W p l e ({ frames := 8, cells := 0, slots := 0, locals := 177 } : Room) s m args below meth c H locs 0 0 Q (F0 m 181 ls []) := by
  obtain ⟨hx, hb, hml, hown, hts, hK, hD, hA, hN⟩ := hX
  refine lv_iload hx hb dL_isSlot_181 (lv_at hl 8 rfl) ?_
  refine lv_bipush (v := nI 6) hx hb dL_isSlot_183 (by decide) ?_
  refine lv_icmp_ge (tgt := 719) hx hb dL_isSlot_185 (by decide) (fun c_1 => absurd c_1 (nI_ge hi (by omega))) (fun _ => ?_)
  refine lv_iload hx hb dL_isSlot_188 (lv_at hl 7 rfl) ?_
  refine lv_if_eq (tgt := 719) hx hb dL_isSlot_190 (by decide) (fun c_2 => absurd c_2 (by decide)) (fun _ => ?_)
  refine lv_aload_n hx hb dL_isSlot_193 rfl (lv_at hl 0 rfl) ?_
  refine lv_iload hx hb dL_isSlot_194 (lv_at hl 8 rfl) ?_
  refine x_pi (va_runV (As := [.int (nI i)]) (rest := []) ⟨hx, hb, hml, hown, hts⟩ (c_X5_airtime l D cI cS G F H.size i (by omega)) (cwV 1 hts gL_isSlot_X5_airtime rfl rfl rfl (by decide +kernel) ⟨Nat.le_of_ble_eq_true rfl, Nat.le_of_ble_eq_true rfl⟩) ⟨wPc_blind, va_recv hK (L_P hP) (ci := 5) (q0 := 0) rfl (WL_at (by decide) (cF_air _)), wPc_at (L_P hP) hK (L_D hD) hN⟩ rfl rfl hl.1 rfl (lv_room (Nat.le_of_ble_eq_true rfl)) dL_isSlot_196 ⟨Nat.le_of_ble_eq_true rfl, Nat.le_of_ble_eq_true rfl⟩) hS hA (fun q h => h) (fun H locs hz hk hS => ?_)
  have hP := P_kept hP hk
  refine x_top (y := nI a) ((f_X5_airtime_d _ _).trans h7) ?_
  refine lv_aload_n hx hb dL_isSlot_199 rfl (lv_at hl 2 rfl) ?_
  refine lv_bipush (v := nI 8) hx hb dL_isSlot_200 (by decide) ?_
  refine lv_iload hx hb dL_isSlot_202 (lv_at hl 8 rfl) ?_
  refine x_imulN hx hb dL_isSlot_204 ?_
  refine lv_iconst (v := nI 3) hx hb dL_isSlot_205 (by decide) ?_
  refine x_iaddN hx hb dL_isSlot_206 ?_
  refine x_aldL hx hb hK hP 37 1 rfl (by decide) lF_37 ((8 * i) + 3) (by omega) (by decide) dL_isSlot_207 ?_
  refine x_top (y := nI a) (h3) ?_
  refine lv_icmp_le (tgt := 215) hx hb dL_isSlot_208 (by decide) (fun _ => ?_) (fun c_3 => absurd (Int32.le_refl _) c_3) 
  refine lv_iconst (v := nI 0) hx hb dL_isSlot_215 (by decide) ?_
  refine lv_istore (lv' := [(9, .int (nI 0)), (0, .ref (G 0)), (1, .ref (G 36)), (2, .ref (G 37)), (3, .ref (G 38)), (4, .int (nI e9)), (5, .int (nI t)), (6, .int (nI en)), (7, .int (nI 1)), (8, .int (nI i))]) hx hb dL_isSlot_216 hl (by decide) rfl (fun ls hl => ?_)
  refine lv_aload_n hx hb dL_isSlot_218 rfl (lv_at hl 3 rfl) ?_
  refine lv_bipush (v := nI 8) hx hb dL_isSlot_219 (by decide) ?_
  refine lv_iload hx hb dL_isSlot_221 (lv_at hl 9 rfl) ?_
  refine x_imulN hx hb dL_isSlot_223 ?_
  refine lv_iconst (v := nI 4) hx hb dL_isSlot_224 (by decide) ?_
  refine x_iaddN hx hb dL_isSlot_225 ?_
  refine x_aldL hx hb hK hP 37 1 rfl (by decide) lF_37 ((8 * i) + 4) (by omega) (by decide) dL_isSlot_226 ?_
  refine x_top (y := sl) (h4) ?_
  refine lv_iload hx hb dL_isSlot_227 (lv_at hl 6 rfl) ?_
  refine lv_icmp_le (tgt := 236) hx hb dL_isSlot_229 (by decide) (fun c_4 => ?_) (fun c_4 => ?_)
  · have h229 := c_4
    refine lv_iconst (v := nI 0) hx hb dL_isSlot_236 (by decide) ?_
    refine x_top (y := (if sl ≤ nI t then nI 0 else nI 1)) ((if_pos h229).symm) ?_
    refine lv_istore (lv' := [(10, .int ((if sl ≤ nI t then nI 0 else nI 1))), (9, .int (nI 0)), (0, .ref (G 0)), (1, .ref (G 36)), (2, .ref (G 37)), (3, .ref (G 38)), (4, .int (nI e9)), (5, .int (nI t)), (6, .int (nI en)), (7, .int (nI 1)), (8, .int (nI i))]) hx hb dL_isSlot_237 hl (by decide) rfl (fun ls hl => ?_)
    refine lv_iconst (v := nI 0) hx hb dL_isSlot_239 (by decide) ?_
    refine lv_istore (lv' := [(11, .int (nI 0)), (10, .int ((if sl ≤ nI t then nI 0 else nI 1))), (9, .int (nI 0)), (0, .ref (G 0)), (1, .ref (G 36)), (2, .ref (G 37)), (3, .ref (G 38)), (4, .int (nI e9)), (5, .int (nI t)), (6, .int (nI en)), (7, .int (nI 1)), (8, .int (nI i))]) hx hb dL_isSlot_240 hl (by decide) rfl (fun ls hl => ?_)
    exact kk H locs ls hP hS (lv_sub hl [3, 4, 5, 6, 7, 8, 9, 10, 11, 2, 1, 0] rfl)
  · have h229 := c_4
    refine lv_iconst (v := nI 1) hx hb dL_isSlot_232 (by decide) ?_
    refine x_top (y := (if sl ≤ nI t then nI 0 else nI 1)) ((if_neg h229).symm) ?_
    refine lv_goto (tgt := 237) hx hb dL_isSlot_233 (by decide) ?_
    refine lv_istore (lv' := [(10, .int ((if sl ≤ nI t then nI 0 else nI 1))), (9, .int (nI 0)), (0, .ref (G 0)), (1, .ref (G 36)), (2, .ref (G 37)), (3, .ref (G 38)), (4, .int (nI e9)), (5, .int (nI t)), (6, .int (nI en)), (7, .int (nI 1)), (8, .int (nI i))]) hx hb dL_isSlot_237 hl (by decide) rfl (fun ls hl => ?_)
    refine lv_iconst (v := nI 0) hx hb dL_isSlot_239 (by decide) ?_
    refine lv_istore (lv' := [(11, .int (nI 0)), (10, .int ((if sl ≤ nI t then nI 0 else nI 1))), (9, .int (nI 0)), (0, .ref (G 0)), (1, .ref (G 36)), (2, .ref (G 37)), (3, .ref (G 38)), (4, .int (nI e9)), (5, .int (nI t)), (6, .int (nI en)), (7, .int (nI 1)), (8, .int (nI i))]) hx hb dL_isSlot_240 hl (by decide) rfl (fun ls hl => ?_)
    exact kk H locs ls hP hS (lv_sub hl [3, 4, 5, 6, 7, 8, 9, 10, 11, 2, 1, 0] rfl)
set_option maxHeartbeats 1000000 in
set_option maxRecDepth 100000 in
theorem sg_D1 {F T : Mem} {t i a e9 en : Nat} {sl : Int32} (hX : IX p s m args c D A cI cS G) (hi : i < 6) (ha : a < 200000) (h7 : F (6 + 5 * i) 7 = nI (a + 1)) (h3 : T 1 (8 * i + 3) = nI a) (h4 : T 1 (8 * i + 4) = sl) (hP : va_P D vwCl (WL 40 G (lF cI cS G) (cmb F T)) H) (hS : va_S A s.heap H locs) (hl : lv_has ls 13 [(0, .ref (G 0)), (1, .ref (G 36)), (2, .ref (G 37)), (3, .ref (G 38)), (4, .int (nI e9)), (5, .int (nI t)), (6, .int (nI en)), (7, .int (nI 1)), (8, .int (nI i))])
    (kk : ∀ (H : Heap) (locs : List Loc) (ls : Array Slot), va_P D vwCl (WL 40 G (lF cI cS G) (cmb F T)) H → va_S A s.heap H locs → lv_has ls 13 [(0, .ref (G 0)), (1, .ref (G 36)), (2, .ref (G 37)), (3, .ref (G 38)), (4, .int (nI e9)), (5, .int (nI t)), (6, .int (nI en)), (7, .int (nI 1)), (8, .int (nI i)), (9, .int (nI 1)), (10, .int ((if sl ≤ nI t then nI 0 else nI 1))), (11, .int (nI 0))] → W p l e ({ frames := 8, cells := 0, slots := 0, locals := 177 } : Room) s m args below meth c H locs 0 0 Q (F0 m 242 ls [])) : W p l e ({ frames := 8, cells := 0, slots := 0, locals := 177 } : Room) s m args below meth c H locs 0 0 Q (F0 m 181 ls []) := by
  obtain ⟨hx, hb, hml, hown, hts, hK, hD, hA, hN⟩ := hX
  refine lv_iload hx hb dL_isSlot_181 (lv_at hl 8 rfl) ?_
  refine lv_bipush (v := nI 6) hx hb dL_isSlot_183 (by decide) ?_
  refine lv_icmp_ge (tgt := 719) hx hb dL_isSlot_185 (by decide) (fun c_1 => absurd c_1 (nI_ge hi (by omega))) (fun _ => ?_)
  refine lv_iload hx hb dL_isSlot_188 (lv_at hl 7 rfl) ?_
  refine lv_if_eq (tgt := 719) hx hb dL_isSlot_190 (by decide) (fun c_2 => absurd c_2 (by decide)) (fun _ => ?_)
  refine lv_aload_n hx hb dL_isSlot_193 rfl (lv_at hl 0 rfl) ?_
  refine lv_iload hx hb dL_isSlot_194 (lv_at hl 8 rfl) ?_
  refine x_pi (va_runV (As := [.int (nI i)]) (rest := []) ⟨hx, hb, hml, hown, hts⟩ (c_X5_airtime l D cI cS G F H.size i (by omega)) (cwV 1 hts gL_isSlot_X5_airtime rfl rfl rfl (by decide +kernel) ⟨Nat.le_of_ble_eq_true rfl, Nat.le_of_ble_eq_true rfl⟩) ⟨wPc_blind, va_recv hK (L_P hP) (ci := 5) (q0 := 0) rfl (WL_at (by decide) (cF_air _)), wPc_at (L_P hP) hK (L_D hD) hN⟩ rfl rfl hl.1 rfl (lv_room (Nat.le_of_ble_eq_true rfl)) dL_isSlot_196 ⟨Nat.le_of_ble_eq_true rfl, Nat.le_of_ble_eq_true rfl⟩) hS hA (fun q h => h) (fun H locs hz hk hS => ?_)
  have hP := P_kept hP hk
  refine x_top (y := nI (a + 1)) ((f_X5_airtime_d _ _).trans h7) ?_
  refine lv_aload_n hx hb dL_isSlot_199 rfl (lv_at hl 2 rfl) ?_
  refine lv_bipush (v := nI 8) hx hb dL_isSlot_200 (by decide) ?_
  refine lv_iload hx hb dL_isSlot_202 (lv_at hl 8 rfl) ?_
  refine x_imulN hx hb dL_isSlot_204 ?_
  refine lv_iconst (v := nI 3) hx hb dL_isSlot_205 (by decide) ?_
  refine x_iaddN hx hb dL_isSlot_206 ?_
  refine x_aldL hx hb hK hP 37 1 rfl (by decide) lF_37 ((8 * i) + 3) (by omega) (by decide) dL_isSlot_207 ?_
  refine x_top (y := nI a) (h3) ?_
  refine lv_icmp_le (tgt := 215) hx hb dL_isSlot_208 (by decide) (fun c_3 => absurd c_3 (nI_ge (Nat.lt_succ_self a) (by omega))) (fun _ => ?_)
  refine lv_iconst (v := nI 1) hx hb dL_isSlot_211 (by decide) ?_
  refine lv_goto (tgt := 216) hx hb dL_isSlot_212 (by decide) ?_
  refine lv_istore (lv' := [(9, .int (nI 1)), (0, .ref (G 0)), (1, .ref (G 36)), (2, .ref (G 37)), (3, .ref (G 38)), (4, .int (nI e9)), (5, .int (nI t)), (6, .int (nI en)), (7, .int (nI 1)), (8, .int (nI i))]) hx hb dL_isSlot_216 hl (by decide) rfl (fun ls hl => ?_)
  refine lv_aload_n hx hb dL_isSlot_218 rfl (lv_at hl 3 rfl) ?_
  refine lv_bipush (v := nI 8) hx hb dL_isSlot_219 (by decide) ?_
  refine lv_iload hx hb dL_isSlot_221 (lv_at hl 9 rfl) ?_
  refine x_imulN hx hb dL_isSlot_223 ?_
  refine lv_iconst (v := nI 4) hx hb dL_isSlot_224 (by decide) ?_
  refine x_iaddN hx hb dL_isSlot_225 ?_
  refine x_aldL hx hb hK hP 37 1 rfl (by decide) lF_37 ((8 * i) + 4) (by omega) (by decide) dL_isSlot_226 ?_
  refine x_top (y := sl) (h4) ?_
  refine lv_iload hx hb dL_isSlot_227 (lv_at hl 6 rfl) ?_
  refine lv_icmp_le (tgt := 236) hx hb dL_isSlot_229 (by decide) (fun c_4 => ?_) (fun c_4 => ?_)
  · have h229 := c_4
    refine lv_iconst (v := nI 0) hx hb dL_isSlot_236 (by decide) ?_
    refine x_top (y := (if sl ≤ nI t then nI 0 else nI 1)) ((if_pos h229).symm) ?_
    refine lv_istore (lv' := [(10, .int ((if sl ≤ nI t then nI 0 else nI 1))), (9, .int (nI 1)), (0, .ref (G 0)), (1, .ref (G 36)), (2, .ref (G 37)), (3, .ref (G 38)), (4, .int (nI e9)), (5, .int (nI t)), (6, .int (nI en)), (7, .int (nI 1)), (8, .int (nI i))]) hx hb dL_isSlot_237 hl (by decide) rfl (fun ls hl => ?_)
    refine lv_iconst (v := nI 0) hx hb dL_isSlot_239 (by decide) ?_
    refine lv_istore (lv' := [(11, .int (nI 0)), (10, .int ((if sl ≤ nI t then nI 0 else nI 1))), (9, .int (nI 1)), (0, .ref (G 0)), (1, .ref (G 36)), (2, .ref (G 37)), (3, .ref (G 38)), (4, .int (nI e9)), (5, .int (nI t)), (6, .int (nI en)), (7, .int (nI 1)), (8, .int (nI i))]) hx hb dL_isSlot_240 hl (by decide) rfl (fun ls hl => ?_)
    exact kk H locs ls hP hS (lv_sub hl [3, 4, 5, 6, 7, 8, 9, 10, 11, 2, 1, 0] rfl)
  · have h229 := c_4
    refine lv_iconst (v := nI 1) hx hb dL_isSlot_232 (by decide) ?_
    refine x_top (y := (if sl ≤ nI t then nI 0 else nI 1)) ((if_neg h229).symm) ?_
    refine lv_goto (tgt := 237) hx hb dL_isSlot_233 (by decide) ?_
    refine lv_istore (lv' := [(10, .int ((if sl ≤ nI t then nI 0 else nI 1))), (9, .int (nI 1)), (0, .ref (G 0)), (1, .ref (G 36)), (2, .ref (G 37)), (3, .ref (G 38)), (4, .int (nI e9)), (5, .int (nI t)), (6, .int (nI en)), (7, .int (nI 1)), (8, .int (nI i))]) hx hb dL_isSlot_237 hl (by decide) rfl (fun ls hl => ?_)
    refine lv_iconst (v := nI 0) hx hb dL_isSlot_239 (by decide) ?_
    refine lv_istore (lv' := [(11, .int (nI 0)), (10, .int ((if sl ≤ nI t then nI 0 else nI 1))), (9, .int (nI 1)), (0, .ref (G 0)), (1, .ref (G 36)), (2, .ref (G 37)), (3, .ref (G 38)), (4, .int (nI e9)), (5, .int (nI t)), (6, .int (nI en)), (7, .int (nI 1)), (8, .int (nI i))]) hx hb dL_isSlot_240 hl (by decide) rfl (fun ls hl => ?_)
    exact kk H locs ls hP hS (lv_sub hl [3, 4, 5, 6, 7, 8, 9, 10, 11, 2, 1, 0] rfl)
set_option maxHeartbeats 1000000 in
set_option maxRecDepth 100000 in
theorem sg_E0 {F T : Mem} {t i k e9 en : Nat} {b : Int32} (hX : IX p s m args c D A cI cS G) (hi : i < 6) (hk : k < 6) (hP : va_P D vwCl (WL 40 G (lF cI cS G) (cmb F T)) H) (hS : va_S A s.heap H locs) (hl : lv_has ls 13 [(0, .ref (G 0)), (1, .ref (G 36)), (2, .ref (G 37)), (3, .ref (G 38)), (4, .int (nI e9)), (5, .int (nI t)), (6, .int (nI en)), (7, .int (nI 1)), (8, .int (nI i)), (9, .int (nI 0)), (10, .int b), (11, .int (nI k))])
    (kk : ∀ (H : Heap) (locs : List Loc) (ls : Array Slot), va_P D vwCl (WL 40 G (lF cI cS G) (cmb F T)) H → va_S A s.heap H locs → lv_has ls 13 [(0, .ref (G 0)), (1, .ref (G 36)), (2, .ref (G 37)), (3, .ref (G 38)), (4, .int (nI e9)), (5, .int (nI t)), (6, .int (nI en)), (7, .int (nI 1)), (8, .int (nI i)), (9, .int (nI 0)), (10, .int (bS T i k b)), (11, .int (nI (k + 1)))] → W p l e ({ frames := 8, cells := 0, slots := 0, locals := 177 } : Room) s m args below meth c H locs 0 0 Q (F0 m 242 ls [])) : W p l e ({ frames := 8, cells := 0, slots := 0, locals := 177 } : Room) s m args below meth c H locs 0 0 Q (F0 m 242 ls []) := by
  obtain ⟨hx, hb, hml, hown, hts, hK, hD, hA, hN⟩ := hX
  refine lv_iload hx hb dL_isSlot_242 (lv_at hl 11 rfl) ?_
  refine lv_bipush (v := nI 6) hx hb dL_isSlot_244 (by decide) ?_
  refine lv_icmp_ge (tgt := 295) hx hb dL_isSlot_246 (by decide) (fun c_1 => absurd c_1 (nI_ge hk (by omega))) (fun _ => ?_)
  refine lv_iload hx hb dL_isSlot_249 (lv_at hl 10 rfl) ?_
  refine lv_if_ne (tgt := 282) hx hb dL_isSlot_251 (by decide) (fun c_2 => ?_) (fun c_2 => ?_)
  · refine lv_iconst (v := nI 1) hx hb dL_isSlot_282 (by decide) ?_
    refine x_top (y := bS T i k b) (by unfold bS; rw [if_neg c_2]) ?_
    refine lv_goto (tgt := 287) hx hb dL_isSlot_283 (by decide) ?_
    refine lv_istore (lv' := [(10, .int (bS T i k b)), (0, .ref (G 0)), (1, .ref (G 36)), (2, .ref (G 37)), (3, .ref (G 38)), (4, .int (nI e9)), (5, .int (nI t)), (6, .int (nI en)), (7, .int (nI 1)), (8, .int (nI i)), (9, .int (nI 0)), (11, .int (nI k))]) hx hb dL_isSlot_287 hl (by decide) rfl (fun ls hl => ?_)
    refine lv_iinc (v := nI (k + 1)) (lv' := [(11, .int (nI (k + 1))), (10, .int (bS T i k b)), (0, .ref (G 0)), (1, .ref (G 36)), (2, .ref (G 37)), (3, .ref (G 38)), (4, .int (nI e9)), (5, .int (nI t)), (6, .int (nI en)), (7, .int (nI 1)), (8, .int (nI i)), (9, .int (nI 0))]) hx hb dL_isSlot_289 hl (k := 11) rfl (nI_add _ _) (by decide) rfl (fun ls hl => ?_)
    refine lv_goto (tgt := 242) hx hb dL_isSlot_292 (by decide) ?_
    exact kk H locs ls hP hS (lv_sub hl [2, 3, 4, 5, 6, 7, 8, 9, 10, 11, 1, 0] rfl)
  · refine lv_iload hx hb dL_isSlot_254 (lv_at hl 11 rfl) ?_
    refine lv_iload hx hb dL_isSlot_256 (lv_at hl 8 rfl) ?_
    refine lv_icmp_eq (tgt := 286) hx hb dL_isSlot_258 (by decide) (fun c_3 => ?_) (fun c_3 => ?_)
    · refine lv_iconst (v := nI 0) hx hb dL_isSlot_286 (by decide) ?_
      refine x_top (y := bS T i k b) (by unfold bS; rw [if_pos c_2, if_pos c_3]) ?_
      refine lv_istore (lv' := [(10, .int (bS T i k b)), (0, .ref (G 0)), (1, .ref (G 36)), (2, .ref (G 37)), (3, .ref (G 38)), (4, .int (nI e9)), (5, .int (nI t)), (6, .int (nI en)), (7, .int (nI 1)), (8, .int (nI i)), (9, .int (nI 0)), (11, .int (nI k))]) hx hb dL_isSlot_287 hl (by decide) rfl (fun ls hl => ?_)
      refine lv_iinc (v := nI (k + 1)) (lv' := [(11, .int (nI (k + 1))), (10, .int (bS T i k b)), (0, .ref (G 0)), (1, .ref (G 36)), (2, .ref (G 37)), (3, .ref (G 38)), (4, .int (nI e9)), (5, .int (nI t)), (6, .int (nI en)), (7, .int (nI 1)), (8, .int (nI i)), (9, .int (nI 0))]) hx hb dL_isSlot_289 hl (k := 11) rfl (nI_add _ _) (by decide) rfl (fun ls hl => ?_)
      refine lv_goto (tgt := 242) hx hb dL_isSlot_292 (by decide) ?_
      exact kk H locs ls hP hS (lv_sub hl [2, 3, 4, 5, 6, 7, 8, 9, 10, 11, 1, 0] rfl)
    · refine lv_aload_n hx hb dL_isSlot_261 rfl (lv_at hl 1 rfl) ?_
      refine lv_bipush (v := nI 6) hx hb dL_isSlot_262 (by decide) ?_
      refine lv_iload hx hb dL_isSlot_264 (lv_at hl 8 rfl) ?_
      refine x_imulN hx hb dL_isSlot_266 ?_
      refine lv_iload hx hb dL_isSlot_267 (lv_at hl 11 rfl) ?_
      refine x_iaddN hx hb dL_isSlot_269 ?_
      refine x_aldL hx hb hK hP 36 0 rfl (by decide) lF_36 ((6 * i) + k) (by omega) (by decide) dL_isSlot_270 ?_
      refine lv_if_le (tgt := 286) hx hb dL_isSlot_271 (by decide) (fun c_4 => ?_) (fun c_4 => ?_)
      · refine lv_iconst (v := nI 0) hx hb dL_isSlot_286 (by decide) ?_
        refine x_top (y := bS T i k b) (by unfold bS; rw [if_pos c_2, if_neg c_3, if_pos c_4]) ?_
        refine lv_istore (lv' := [(10, .int (bS T i k b)), (0, .ref (G 0)), (1, .ref (G 36)), (2, .ref (G 37)), (3, .ref (G 38)), (4, .int (nI e9)), (5, .int (nI t)), (6, .int (nI en)), (7, .int (nI 1)), (8, .int (nI i)), (9, .int (nI 0)), (11, .int (nI k))]) hx hb dL_isSlot_287 hl (by decide) rfl (fun ls hl => ?_)
        refine lv_iinc (v := nI (k + 1)) (lv' := [(11, .int (nI (k + 1))), (10, .int (bS T i k b)), (0, .ref (G 0)), (1, .ref (G 36)), (2, .ref (G 37)), (3, .ref (G 38)), (4, .int (nI e9)), (5, .int (nI t)), (6, .int (nI en)), (7, .int (nI 1)), (8, .int (nI i)), (9, .int (nI 0))]) hx hb dL_isSlot_289 hl (k := 11) rfl (nI_add _ _) (by decide) rfl (fun ls hl => ?_)
        refine lv_goto (tgt := 242) hx hb dL_isSlot_292 (by decide) ?_
        exact kk H locs ls hP hS (lv_sub hl [2, 3, 4, 5, 6, 7, 8, 9, 10, 11, 1, 0] rfl)
      · refine lv_aload_n hx hb dL_isSlot_274 rfl (lv_at hl 3 rfl) ?_
        refine lv_iload hx hb dL_isSlot_275 (lv_at hl 11 rfl) ?_
        refine x_aldL hx hb hK hP 38 2 rfl (by decide) lF_38 k (by omega) (by decide) dL_isSlot_277 ?_
        refine lv_iconst (v := nI 1) hx hb dL_isSlot_278 (by decide) ?_
        refine lv_icmp_ne (tgt := 286) hx hb dL_isSlot_279 (by decide) (fun c_5 => ?_) (fun c_5 => ?_)
        · refine lv_iconst (v := nI 0) hx hb dL_isSlot_286 (by decide) ?_
          refine x_top (y := bS T i k b) (by unfold bS; rw [if_pos c_2, if_neg c_3, if_neg c_4, if_neg c_5]) ?_
          refine lv_istore (lv' := [(10, .int (bS T i k b)), (0, .ref (G 0)), (1, .ref (G 36)), (2, .ref (G 37)), (3, .ref (G 38)), (4, .int (nI e9)), (5, .int (nI t)), (6, .int (nI en)), (7, .int (nI 1)), (8, .int (nI i)), (9, .int (nI 0)), (11, .int (nI k))]) hx hb dL_isSlot_287 hl (by decide) rfl (fun ls hl => ?_)
          refine lv_iinc (v := nI (k + 1)) (lv' := [(11, .int (nI (k + 1))), (10, .int (bS T i k b)), (0, .ref (G 0)), (1, .ref (G 36)), (2, .ref (G 37)), (3, .ref (G 38)), (4, .int (nI e9)), (5, .int (nI t)), (6, .int (nI en)), (7, .int (nI 1)), (8, .int (nI i)), (9, .int (nI 0))]) hx hb dL_isSlot_289 hl (k := 11) rfl (nI_add _ _) (by decide) rfl (fun ls hl => ?_)
          refine lv_goto (tgt := 242) hx hb dL_isSlot_292 (by decide) ?_
          exact kk H locs ls hP hS (lv_sub hl [2, 3, 4, 5, 6, 7, 8, 9, 10, 11, 1, 0] rfl)
        · refine lv_iconst (v := nI 1) hx hb dL_isSlot_282 (by decide) ?_
          refine x_top (y := bS T i k b) (by unfold bS; rw [if_pos c_2, if_neg c_3, if_neg c_4, if_pos c_5]) ?_
          refine lv_goto (tgt := 287) hx hb dL_isSlot_283 (by decide) ?_
          refine lv_istore (lv' := [(10, .int (bS T i k b)), (0, .ref (G 0)), (1, .ref (G 36)), (2, .ref (G 37)), (3, .ref (G 38)), (4, .int (nI e9)), (5, .int (nI t)), (6, .int (nI en)), (7, .int (nI 1)), (8, .int (nI i)), (9, .int (nI 0)), (11, .int (nI k))]) hx hb dL_isSlot_287 hl (by decide) rfl (fun ls hl => ?_)
          refine lv_iinc (v := nI (k + 1)) (lv' := [(11, .int (nI (k + 1))), (10, .int (bS T i k b)), (0, .ref (G 0)), (1, .ref (G 36)), (2, .ref (G 37)), (3, .ref (G 38)), (4, .int (nI e9)), (5, .int (nI t)), (6, .int (nI en)), (7, .int (nI 1)), (8, .int (nI i)), (9, .int (nI 0))]) hx hb dL_isSlot_289 hl (k := 11) rfl (nI_add _ _) (by decide) rfl (fun ls hl => ?_)
          refine lv_goto (tgt := 242) hx hb dL_isSlot_292 (by decide) ?_
          exact kk H locs ls hP hS (lv_sub hl [2, 3, 4, 5, 6, 7, 8, 9, 10, 11, 1, 0] rfl)
set_option maxHeartbeats 1000000 in
set_option maxRecDepth 100000 in
theorem sg_E1 {F T : Mem} {t i k e9 en : Nat} {b : Int32} (hX : IX p s m args c D A cI cS G) (hi : i < 6) (hk : k < 6) (hP : va_P D vwCl (WL 40 G (lF cI cS G) (cmb F T)) H) (hS : va_S A s.heap H locs) (hl : lv_has ls 13 [(0, .ref (G 0)), (1, .ref (G 36)), (2, .ref (G 37)), (3, .ref (G 38)), (4, .int (nI e9)), (5, .int (nI t)), (6, .int (nI en)), (7, .int (nI 1)), (8, .int (nI i)), (9, .int (nI 1)), (10, .int b), (11, .int (nI k))])
    (kk : ∀ (H : Heap) (locs : List Loc) (ls : Array Slot), va_P D vwCl (WL 40 G (lF cI cS G) (cmb F T)) H → va_S A s.heap H locs → lv_has ls 13 [(0, .ref (G 0)), (1, .ref (G 36)), (2, .ref (G 37)), (3, .ref (G 38)), (4, .int (nI e9)), (5, .int (nI t)), (6, .int (nI en)), (7, .int (nI 1)), (8, .int (nI i)), (9, .int (nI 1)), (10, .int (bS T i k b)), (11, .int (nI (k + 1)))] → W p l e ({ frames := 8, cells := 0, slots := 0, locals := 177 } : Room) s m args below meth c H locs 0 0 Q (F0 m 242 ls [])) : W p l e ({ frames := 8, cells := 0, slots := 0, locals := 177 } : Room) s m args below meth c H locs 0 0 Q (F0 m 242 ls []) := by
  obtain ⟨hx, hb, hml, hown, hts, hK, hD, hA, hN⟩ := hX
  refine lv_iload hx hb dL_isSlot_242 (lv_at hl 11 rfl) ?_
  refine lv_bipush (v := nI 6) hx hb dL_isSlot_244 (by decide) ?_
  refine lv_icmp_ge (tgt := 295) hx hb dL_isSlot_246 (by decide) (fun c_1 => absurd c_1 (nI_ge hk (by omega))) (fun _ => ?_)
  refine lv_iload hx hb dL_isSlot_249 (lv_at hl 10 rfl) ?_
  refine lv_if_ne (tgt := 282) hx hb dL_isSlot_251 (by decide) (fun c_2 => ?_) (fun c_2 => ?_)
  · refine lv_iconst (v := nI 1) hx hb dL_isSlot_282 (by decide) ?_
    refine x_top (y := bS T i k b) (by unfold bS; rw [if_neg c_2]) ?_
    refine lv_goto (tgt := 287) hx hb dL_isSlot_283 (by decide) ?_
    refine lv_istore (lv' := [(10, .int (bS T i k b)), (0, .ref (G 0)), (1, .ref (G 36)), (2, .ref (G 37)), (3, .ref (G 38)), (4, .int (nI e9)), (5, .int (nI t)), (6, .int (nI en)), (7, .int (nI 1)), (8, .int (nI i)), (9, .int (nI 1)), (11, .int (nI k))]) hx hb dL_isSlot_287 hl (by decide) rfl (fun ls hl => ?_)
    refine lv_iinc (v := nI (k + 1)) (lv' := [(11, .int (nI (k + 1))), (10, .int (bS T i k b)), (0, .ref (G 0)), (1, .ref (G 36)), (2, .ref (G 37)), (3, .ref (G 38)), (4, .int (nI e9)), (5, .int (nI t)), (6, .int (nI en)), (7, .int (nI 1)), (8, .int (nI i)), (9, .int (nI 1))]) hx hb dL_isSlot_289 hl (k := 11) rfl (nI_add _ _) (by decide) rfl (fun ls hl => ?_)
    refine lv_goto (tgt := 242) hx hb dL_isSlot_292 (by decide) ?_
    exact kk H locs ls hP hS (lv_sub hl [2, 3, 4, 5, 6, 7, 8, 9, 10, 11, 1, 0] rfl)
  · refine lv_iload hx hb dL_isSlot_254 (lv_at hl 11 rfl) ?_
    refine lv_iload hx hb dL_isSlot_256 (lv_at hl 8 rfl) ?_
    refine lv_icmp_eq (tgt := 286) hx hb dL_isSlot_258 (by decide) (fun c_3 => ?_) (fun c_3 => ?_)
    · refine lv_iconst (v := nI 0) hx hb dL_isSlot_286 (by decide) ?_
      refine x_top (y := bS T i k b) (by unfold bS; rw [if_pos c_2, if_pos c_3]) ?_
      refine lv_istore (lv' := [(10, .int (bS T i k b)), (0, .ref (G 0)), (1, .ref (G 36)), (2, .ref (G 37)), (3, .ref (G 38)), (4, .int (nI e9)), (5, .int (nI t)), (6, .int (nI en)), (7, .int (nI 1)), (8, .int (nI i)), (9, .int (nI 1)), (11, .int (nI k))]) hx hb dL_isSlot_287 hl (by decide) rfl (fun ls hl => ?_)
      refine lv_iinc (v := nI (k + 1)) (lv' := [(11, .int (nI (k + 1))), (10, .int (bS T i k b)), (0, .ref (G 0)), (1, .ref (G 36)), (2, .ref (G 37)), (3, .ref (G 38)), (4, .int (nI e9)), (5, .int (nI t)), (6, .int (nI en)), (7, .int (nI 1)), (8, .int (nI i)), (9, .int (nI 1))]) hx hb dL_isSlot_289 hl (k := 11) rfl (nI_add _ _) (by decide) rfl (fun ls hl => ?_)
      refine lv_goto (tgt := 242) hx hb dL_isSlot_292 (by decide) ?_
      exact kk H locs ls hP hS (lv_sub hl [2, 3, 4, 5, 6, 7, 8, 9, 10, 11, 1, 0] rfl)
    · refine lv_aload_n hx hb dL_isSlot_261 rfl (lv_at hl 1 rfl) ?_
      refine lv_bipush (v := nI 6) hx hb dL_isSlot_262 (by decide) ?_
      refine lv_iload hx hb dL_isSlot_264 (lv_at hl 8 rfl) ?_
      refine x_imulN hx hb dL_isSlot_266 ?_
      refine lv_iload hx hb dL_isSlot_267 (lv_at hl 11 rfl) ?_
      refine x_iaddN hx hb dL_isSlot_269 ?_
      refine x_aldL hx hb hK hP 36 0 rfl (by decide) lF_36 ((6 * i) + k) (by omega) (by decide) dL_isSlot_270 ?_
      refine lv_if_le (tgt := 286) hx hb dL_isSlot_271 (by decide) (fun c_4 => ?_) (fun c_4 => ?_)
      · refine lv_iconst (v := nI 0) hx hb dL_isSlot_286 (by decide) ?_
        refine x_top (y := bS T i k b) (by unfold bS; rw [if_pos c_2, if_neg c_3, if_pos c_4]) ?_
        refine lv_istore (lv' := [(10, .int (bS T i k b)), (0, .ref (G 0)), (1, .ref (G 36)), (2, .ref (G 37)), (3, .ref (G 38)), (4, .int (nI e9)), (5, .int (nI t)), (6, .int (nI en)), (7, .int (nI 1)), (8, .int (nI i)), (9, .int (nI 1)), (11, .int (nI k))]) hx hb dL_isSlot_287 hl (by decide) rfl (fun ls hl => ?_)
        refine lv_iinc (v := nI (k + 1)) (lv' := [(11, .int (nI (k + 1))), (10, .int (bS T i k b)), (0, .ref (G 0)), (1, .ref (G 36)), (2, .ref (G 37)), (3, .ref (G 38)), (4, .int (nI e9)), (5, .int (nI t)), (6, .int (nI en)), (7, .int (nI 1)), (8, .int (nI i)), (9, .int (nI 1))]) hx hb dL_isSlot_289 hl (k := 11) rfl (nI_add _ _) (by decide) rfl (fun ls hl => ?_)
        refine lv_goto (tgt := 242) hx hb dL_isSlot_292 (by decide) ?_
        exact kk H locs ls hP hS (lv_sub hl [2, 3, 4, 5, 6, 7, 8, 9, 10, 11, 1, 0] rfl)
      · refine lv_aload_n hx hb dL_isSlot_274 rfl (lv_at hl 3 rfl) ?_
        refine lv_iload hx hb dL_isSlot_275 (lv_at hl 11 rfl) ?_
        refine x_aldL hx hb hK hP 38 2 rfl (by decide) lF_38 k (by omega) (by decide) dL_isSlot_277 ?_
        refine lv_iconst (v := nI 1) hx hb dL_isSlot_278 (by decide) ?_
        refine lv_icmp_ne (tgt := 286) hx hb dL_isSlot_279 (by decide) (fun c_5 => ?_) (fun c_5 => ?_)
        · refine lv_iconst (v := nI 0) hx hb dL_isSlot_286 (by decide) ?_
          refine x_top (y := bS T i k b) (by unfold bS; rw [if_pos c_2, if_neg c_3, if_neg c_4, if_neg c_5]) ?_
          refine lv_istore (lv' := [(10, .int (bS T i k b)), (0, .ref (G 0)), (1, .ref (G 36)), (2, .ref (G 37)), (3, .ref (G 38)), (4, .int (nI e9)), (5, .int (nI t)), (6, .int (nI en)), (7, .int (nI 1)), (8, .int (nI i)), (9, .int (nI 1)), (11, .int (nI k))]) hx hb dL_isSlot_287 hl (by decide) rfl (fun ls hl => ?_)
          refine lv_iinc (v := nI (k + 1)) (lv' := [(11, .int (nI (k + 1))), (10, .int (bS T i k b)), (0, .ref (G 0)), (1, .ref (G 36)), (2, .ref (G 37)), (3, .ref (G 38)), (4, .int (nI e9)), (5, .int (nI t)), (6, .int (nI en)), (7, .int (nI 1)), (8, .int (nI i)), (9, .int (nI 1))]) hx hb dL_isSlot_289 hl (k := 11) rfl (nI_add _ _) (by decide) rfl (fun ls hl => ?_)
          refine lv_goto (tgt := 242) hx hb dL_isSlot_292 (by decide) ?_
          exact kk H locs ls hP hS (lv_sub hl [2, 3, 4, 5, 6, 7, 8, 9, 10, 11, 1, 0] rfl)
        · refine lv_iconst (v := nI 1) hx hb dL_isSlot_282 (by decide) ?_
          refine x_top (y := bS T i k b) (by unfold bS; rw [if_pos c_2, if_neg c_3, if_neg c_4, if_pos c_5]) ?_
          refine lv_goto (tgt := 287) hx hb dL_isSlot_283 (by decide) ?_
          refine lv_istore (lv' := [(10, .int (bS T i k b)), (0, .ref (G 0)), (1, .ref (G 36)), (2, .ref (G 37)), (3, .ref (G 38)), (4, .int (nI e9)), (5, .int (nI t)), (6, .int (nI en)), (7, .int (nI 1)), (8, .int (nI i)), (9, .int (nI 1)), (11, .int (nI k))]) hx hb dL_isSlot_287 hl (by decide) rfl (fun ls hl => ?_)
          refine lv_iinc (v := nI (k + 1)) (lv' := [(11, .int (nI (k + 1))), (10, .int (bS T i k b)), (0, .ref (G 0)), (1, .ref (G 36)), (2, .ref (G 37)), (3, .ref (G 38)), (4, .int (nI e9)), (5, .int (nI t)), (6, .int (nI en)), (7, .int (nI 1)), (8, .int (nI i)), (9, .int (nI 1))]) hx hb dL_isSlot_289 hl (k := 11) rfl (nI_add _ _) (by decide) rfl (fun ls hl => ?_)
          refine lv_goto (tgt := 242) hx hb dL_isSlot_292 (by decide) ?_
          exact kk H locs ls hP hS (lv_sub hl [2, 3, 4, 5, 6, 7, 8, 9, 10, 11, 1, 0] rfl)
set_option maxHeartbeats 1000000 in
set_option maxRecDepth 100000 in
theorem sg_Fqa0 {F T : Mem} {t i a e9 en : Nat} {fr : Int32} (hX : IX p s m args c D A cI cS G) (hi : i < 6) (ha : a < 200000) (h7 : F (6 + 5 * i) 7 = nI a) (h0 : T 1 (8 * i) = nI 0) (h1 : T 1 (8 * i + 1) = (-1)) (h2 : T 1 (8 * i + 2) = fr) (h3 : T 1 (8 * i + 3) = nI a) (hP : va_P D vwCl (WL 40 G (lF cI cS G) (cmb F T)) H) (hS : va_S A s.heap H locs) (hl : lv_has ls 13 [(0, .ref (G 0)), (1, .ref (G 36)), (2, .ref (G 37)), (3, .ref (G 38)), (4, .int (nI e9)), (5, .int (nI t)), (6, .int (nI en)), (7, .int (nI 1)), (8, .int (nI i)), (9, .int (nI 0)), (10, .int (nI 0)), (11, .int (nI 6))])
    (kk : ∀ (H : Heap) (locs : List Loc) (ls : Array Slot), va_P D vwCl (WL 40 G (lF cI cS G) (cmb F T)) H → va_S A s.heap H locs → lv_has ls 13 [(0, .ref (G 0)), (1, .ref (G 36)), (2, .ref (G 37)), (3, .ref (G 38)), (4, .int (nI e9)), (5, .int (nI t)), (6, .int (nI en)), (7, .int (nI 1)), (8, .int (nI i)), (9, .int (nI 0)), (10, .int (nI 0))] → W p l e ({ frames := 8, cells := 0, slots := 0, locals := 177 } : Room) s m args below meth c H locs 0 0 Q (F0 m 506 ls [])) : W p l e ({ frames := 8, cells := 0, slots := 0, locals := 177 } : Room) s m args below meth c H locs 0 0 Q (F0 m 242 ls []) := by
  obtain ⟨hx, hb, hml, hown, hts, hK, hD, hA, hN⟩ := hX
  refine lv_iload hx hb dL_isSlot_242 (lv_at hl 11 rfl) ?_
  refine lv_bipush (v := nI 6) hx hb dL_isSlot_244 (by decide) ?_
  refine lv_icmp_ge (tgt := 295) hx hb dL_isSlot_246 (by decide) (fun _ => ?_) (fun c_1 => absurd (by decide) c_1) 
  refine lv_aload_n hx hb dL_isSlot_295 rfl (lv_at hl 0 rfl) ?_
  refine lv_iload hx hb dL_isSlot_296 (lv_at hl 8 rfl) ?_
  refine x_pi (va_runV (As := [.int (nI i)]) (rest := []) ⟨hx, hb, hml, hown, hts⟩ (c_X5_airtime l D cI cS G F H.size i (by omega)) (cwV 1 hts gL_isSlot_X5_airtime rfl rfl rfl (by decide +kernel) ⟨Nat.le_of_ble_eq_true rfl, Nat.le_of_ble_eq_true rfl⟩) ⟨wPc_blind, va_recv hK (L_P hP) (ci := 5) (q0 := 0) rfl (WL_at (by decide) (cF_air _)), wPc_at (L_P hP) hK (L_D hD) hN⟩ rfl rfl hl.1 rfl (lv_room (Nat.le_of_ble_eq_true rfl)) dL_isSlot_298 ⟨Nat.le_of_ble_eq_true rfl, Nat.le_of_ble_eq_true rfl⟩) hS hA (fun q h => h) (fun H locs hz hk hS => ?_)
  have hP := P_kept hP hk
  refine x_top (y := nI a) ((f_X5_airtime_d _ _).trans h7) ?_
  refine lv_aload_n hx hb dL_isSlot_301 rfl (lv_at hl 2 rfl) ?_
  refine lv_bipush (v := nI 8) hx hb dL_isSlot_302 (by decide) ?_
  refine lv_iload hx hb dL_isSlot_304 (lv_at hl 8 rfl) ?_
  refine x_imulN hx hb dL_isSlot_306 ?_
  refine lv_iconst (v := nI 3) hx hb dL_isSlot_307 (by decide) ?_
  refine x_iaddN hx hb dL_isSlot_308 ?_
  refine x_aldL hx hb hK hP 37 1 rfl (by decide) lF_37 ((8 * i) + 3) (by omega) (by decide) dL_isSlot_309 ?_
  refine x_top (y := nI a) (h3) ?_
  refine lv_iconst (v := nI 1) hx hb dL_isSlot_310 (by decide) ?_
  refine x_iaddN hx hb dL_isSlot_311 ?_
  refine lv_icmp_gt (tgt := 386) hx hb dL_isSlot_312 (by decide) (fun c_2 => absurd c_2 (nI_nlt (by omega) (by omega))) (fun _ => ?_)
  refine lv_aload_n hx hb dL_isSlot_315 rfl (lv_at hl 2 rfl) ?_
  refine lv_bipush (v := nI 8) hx hb dL_isSlot_316 (by decide) ?_
  refine lv_iload hx hb dL_isSlot_318 (lv_at hl 8 rfl) ?_
  refine x_imulN hx hb dL_isSlot_320 ?_
  refine x_aldL hx hb hK hP 37 1 rfl (by decide) lF_37 (8 * i) (by omega) (by decide) dL_isSlot_321 ?_
  refine x_top (y := nI 0) (h0) ?_
  refine lv_if_eq (tgt := 330) hx hb dL_isSlot_322 (by decide) (fun _ => ?_) (fun c_3 => absurd (by decide) c_3) 
  refine lv_aload_n hx hb dL_isSlot_330 rfl (lv_at hl 2 rfl) ?_
  refine lv_bipush (v := nI 8) hx hb dL_isSlot_331 (by decide) ?_
  refine lv_iload hx hb dL_isSlot_333 (lv_at hl 8 rfl) ?_
  refine x_imulN hx hb dL_isSlot_335 ?_
  refine x_aldL hx hb hK hP 37 1 rfl (by decide) lF_37 (8 * i) (by omega) (by decide) dL_isSlot_336 ?_
  refine x_top (y := nI 0) (h0) ?_
  refine lv_iconst (v := nI 1) hx hb dL_isSlot_337 (by decide) ?_
  refine lv_icmp_eq (tgt := 382) hx hb dL_isSlot_338 (by decide) (fun c_4 => absurd c_4 (by decide)) (fun _ => ?_)
  refine lv_iload hx hb dL_isSlot_341 (lv_at hl 10 rfl) ?_
  refine lv_if_eq (tgt := 382) hx hb dL_isSlot_343 (by decide) (fun _ => ?_) (fun c_5 => absurd (by decide) c_5) 
  refine lv_iconst (v := nI 1) hx hb dL_isSlot_382 (by decide) ?_
  refine lv_goto (tgt := 387) hx hb dL_isSlot_383 (by decide) ?_
  refine lv_istore (lv' := [(7, .int (nI 1)), (0, .ref (G 0)), (1, .ref (G 36)), (2, .ref (G 37)), (3, .ref (G 38)), (4, .int (nI e9)), (5, .int (nI t)), (6, .int (nI en)), (8, .int (nI i)), (9, .int (nI 0)), (10, .int (nI 0)), (11, .int (nI 6))]) hx hb dL_isSlot_387 hl (by decide) rfl (fun ls hl => ?_)
  refine lv_iload hx hb dL_isSlot_389 (lv_at hl 0 rfl) ?_
  refine lv_if_eq (tgt := 503) hx hb dL_isSlot_391 (by decide) (fun c_6 => absurd c_6 (by decide)) (fun _ => ?_)
  refine lv_aload_n hx hb dL_isSlot_394 rfl (lv_at hl 3 rfl) ?_
  refine lv_bipush (v := nI 8) hx hb dL_isSlot_395 (by decide) ?_
  refine lv_iload hx hb dL_isSlot_397 (lv_at hl 8 rfl) ?_
  refine x_imulN hx hb dL_isSlot_399 ?_
  refine x_aldL hx hb hK hP 37 1 rfl (by decide) lF_37 (8 * i) (by omega) (by decide) dL_isSlot_400 ?_
  refine x_top (y := nI 0) (h0) ?_
  refine lv_iconst (v := nI 1) hx hb dL_isSlot_401 (by decide) ?_
  refine lv_icmp_eq (tgt := 460) hx hb dL_isSlot_402 (by decide) (fun c_7 => absurd c_7 (by decide)) (fun _ => ?_)
  refine lv_iload hx hb dL_isSlot_405 (lv_at hl 10 rfl) ?_
  refine lv_if_ne (tgt := 460) hx hb dL_isSlot_407 (by decide) (fun c_8 => absurd (by decide) c_8) (fun _ => ?_)
  refine lv_aload_n hx hb dL_isSlot_410 rfl (lv_at hl 3 rfl) ?_
  refine lv_bipush (v := nI 8) hx hb dL_isSlot_411 (by decide) ?_
  refine lv_iload hx hb dL_isSlot_413 (lv_at hl 8 rfl) ?_
  refine x_imulN hx hb dL_isSlot_415 ?_
  refine lv_iconst (v := nI 2) hx hb dL_isSlot_416 (by decide) ?_
  refine x_iaddN hx hb dL_isSlot_417 ?_
  refine x_aldL hx hb hK hP 37 1 rfl (by decide) lF_37 ((8 * i) + 2) (by omega) (by decide) dL_isSlot_418 ?_
  refine x_top (y := fr) (h2) ?_
  refine lv_if_eq (tgt := 460) hx hb dL_isSlot_419 (by decide) (fun c_9 => ?_) (fun c_9 => ?_)
  · refine lv_aload_n hx hb dL_isSlot_460 rfl (lv_at hl 3 rfl) ?_
    refine lv_bipush (v := nI 8) hx hb dL_isSlot_461 (by decide) ?_
    refine lv_iload hx hb dL_isSlot_463 (lv_at hl 8 rfl) ?_
    refine x_imulN hx hb dL_isSlot_465 ?_
    refine lv_iconst (v := nI 1) hx hb dL_isSlot_466 (by decide) ?_
    refine x_iaddN hx hb dL_isSlot_467 ?_
    refine x_aldL hx hb hK hP 37 1 rfl (by decide) lF_37 ((8 * i) + 1) (by omega) (by decide) dL_isSlot_468 ?_
    refine x_top (y := (-1)) (h1) ?_
    refine lv_if_ne (tgt := 482) hx hb dL_isSlot_469 (by decide) (fun _ => ?_) (fun c_10 => absurd c_10 (by decide))
    refine lv_aload_n hx hb dL_isSlot_482 rfl (lv_at hl 3 rfl) ?_
    refine lv_bipush (v := nI 8) hx hb dL_isSlot_483 (by decide) ?_
    refine lv_iload hx hb dL_isSlot_485 (lv_at hl 8 rfl) ?_
    refine x_imulN hx hb dL_isSlot_487 ?_
    refine lv_iconst (v := nI 2) hx hb dL_isSlot_488 (by decide) ?_
    refine x_iaddN hx hb dL_isSlot_489 ?_
    refine x_aldL hx hb hK hP 37 1 rfl (by decide) lF_37 ((8 * i) + 2) (by omega) (by decide) dL_isSlot_490 ?_
    refine x_top (y := fr) (h2) ?_
    refine lv_if_gt (tgt := 499) hx hb dL_isSlot_491 (by decide) (fun c_11 => ?_) (fun c_11 => ?_)
    · refine lv_iconst (v := nI 1) hx hb dL_isSlot_499 (by decide) ?_
      refine lv_goto (tgt := 504) hx hb dL_isSlot_500 (by decide) ?_
      refine lv_istore (lv' := [(7, .int (nI 1)), (0, .ref (G 0)), (1, .ref (G 36)), (2, .ref (G 37)), (3, .ref (G 38)), (4, .int (nI e9)), (5, .int (nI t)), (6, .int (nI en)), (8, .int (nI i)), (9, .int (nI 0)), (10, .int (nI 0)), (11, .int (nI 6))]) hx hb dL_isSlot_504 hl (by decide) rfl (fun ls hl => ?_)
      exact kk H locs ls hP hS (lv_sub hl [1, 2, 3, 4, 5, 6, 7, 0, 8, 9, 10] rfl)
    · refine lv_iload hx hb dL_isSlot_494 (lv_at hl 9 rfl) ?_
      refine lv_if_ne (tgt := 503) hx hb dL_isSlot_496 (by decide) (fun c_12 => absurd (by decide) c_12) (fun _ => ?_)
      refine lv_iconst (v := nI 1) hx hb dL_isSlot_499 (by decide) ?_
      refine lv_goto (tgt := 504) hx hb dL_isSlot_500 (by decide) ?_
      refine lv_istore (lv' := [(7, .int (nI 1)), (0, .ref (G 0)), (1, .ref (G 36)), (2, .ref (G 37)), (3, .ref (G 38)), (4, .int (nI e9)), (5, .int (nI t)), (6, .int (nI en)), (8, .int (nI i)), (9, .int (nI 0)), (10, .int (nI 0)), (11, .int (nI 6))]) hx hb dL_isSlot_504 hl (by decide) rfl (fun ls hl => ?_)
      exact kk H locs ls hP hS (lv_sub hl [1, 2, 3, 4, 5, 6, 7, 0, 8, 9, 10] rfl)
  · refine lv_aload_n hx hb dL_isSlot_422 rfl (lv_at hl 3 rfl) ?_
    refine lv_bipush (v := nI 8) hx hb dL_isSlot_423 (by decide) ?_
    refine lv_iload hx hb dL_isSlot_425 (lv_at hl 8 rfl) ?_
    refine x_imulN hx hb dL_isSlot_427 ?_
    refine lv_iconst (v := nI 1) hx hb dL_isSlot_428 (by decide) ?_
    refine x_iaddN hx hb dL_isSlot_429 ?_
    refine x_aldL hx hb hK hP 37 1 rfl (by decide) lF_37 ((8 * i) + 1) (by omega) (by decide) dL_isSlot_430 ?_
    refine x_top (y := (-1)) (h1) ?_
    refine lv_iconst (v := nI 1) hx hb dL_isSlot_431 (by decide) ?_
    refine lv_icmp_lt (tgt := 460) hx hb dL_isSlot_432 (by decide) (fun _ => ?_) (fun c_13 => absurd (by decide) c_13) 
    refine lv_aload_n hx hb dL_isSlot_460 rfl (lv_at hl 3 rfl) ?_
    refine lv_bipush (v := nI 8) hx hb dL_isSlot_461 (by decide) ?_
    refine lv_iload hx hb dL_isSlot_463 (lv_at hl 8 rfl) ?_
    refine x_imulN hx hb dL_isSlot_465 ?_
    refine lv_iconst (v := nI 1) hx hb dL_isSlot_466 (by decide) ?_
    refine x_iaddN hx hb dL_isSlot_467 ?_
    refine x_aldL hx hb hK hP 37 1 rfl (by decide) lF_37 ((8 * i) + 1) (by omega) (by decide) dL_isSlot_468 ?_
    refine x_top (y := (-1)) (h1) ?_
    refine lv_if_ne (tgt := 482) hx hb dL_isSlot_469 (by decide) (fun _ => ?_) (fun c_14 => absurd c_14 (by decide))
    refine lv_aload_n hx hb dL_isSlot_482 rfl (lv_at hl 3 rfl) ?_
    refine lv_bipush (v := nI 8) hx hb dL_isSlot_483 (by decide) ?_
    refine lv_iload hx hb dL_isSlot_485 (lv_at hl 8 rfl) ?_
    refine x_imulN hx hb dL_isSlot_487 ?_
    refine lv_iconst (v := nI 2) hx hb dL_isSlot_488 (by decide) ?_
    refine x_iaddN hx hb dL_isSlot_489 ?_
    refine x_aldL hx hb hK hP 37 1 rfl (by decide) lF_37 ((8 * i) + 2) (by omega) (by decide) dL_isSlot_490 ?_
    refine x_top (y := fr) (h2) ?_
    refine lv_if_gt (tgt := 499) hx hb dL_isSlot_491 (by decide) (fun c_15 => ?_) (fun c_15 => ?_)
    · refine lv_iconst (v := nI 1) hx hb dL_isSlot_499 (by decide) ?_
      refine lv_goto (tgt := 504) hx hb dL_isSlot_500 (by decide) ?_
      refine lv_istore (lv' := [(7, .int (nI 1)), (0, .ref (G 0)), (1, .ref (G 36)), (2, .ref (G 37)), (3, .ref (G 38)), (4, .int (nI e9)), (5, .int (nI t)), (6, .int (nI en)), (8, .int (nI i)), (9, .int (nI 0)), (10, .int (nI 0)), (11, .int (nI 6))]) hx hb dL_isSlot_504 hl (by decide) rfl (fun ls hl => ?_)
      exact kk H locs ls hP hS (lv_sub hl [1, 2, 3, 4, 5, 6, 7, 0, 8, 9, 10] rfl)
    · refine lv_iload hx hb dL_isSlot_494 (lv_at hl 9 rfl) ?_
      refine lv_if_ne (tgt := 503) hx hb dL_isSlot_496 (by decide) (fun c_16 => absurd (by decide) c_16) (fun _ => ?_)
      refine lv_iconst (v := nI 1) hx hb dL_isSlot_499 (by decide) ?_
      refine lv_goto (tgt := 504) hx hb dL_isSlot_500 (by decide) ?_
      refine lv_istore (lv' := [(7, .int (nI 1)), (0, .ref (G 0)), (1, .ref (G 36)), (2, .ref (G 37)), (3, .ref (G 38)), (4, .int (nI e9)), (5, .int (nI t)), (6, .int (nI en)), (8, .int (nI i)), (9, .int (nI 0)), (10, .int (nI 0)), (11, .int (nI 6))]) hx hb dL_isSlot_504 hl (by decide) rfl (fun ls hl => ?_)
      exact kk H locs ls hP hS (lv_sub hl [1, 2, 3, 4, 5, 6, 7, 0, 8, 9, 10] rfl)
set_option maxHeartbeats 1000000 in
set_option maxRecDepth 100000 in
theorem sg_Fqa1 {F T : Mem} {t i a e9 en : Nat} {fr : Int32} (hX : IX p s m args c D A cI cS G) (hi : i < 6) (ha : a < 200000) (h7 : F (6 + 5 * i) 7 = nI a) (h0 : T 1 (8 * i) = nI 0) (h1 : T 1 (8 * i + 1) = (-1)) (h2 : T 1 (8 * i + 2) = fr) (h3 : T 1 (8 * i + 3) = nI a) (hP : va_P D vwCl (WL 40 G (lF cI cS G) (cmb F T)) H) (hS : va_S A s.heap H locs) (hl : lv_has ls 13 [(0, .ref (G 0)), (1, .ref (G 36)), (2, .ref (G 37)), (3, .ref (G 38)), (4, .int (nI e9)), (5, .int (nI t)), (6, .int (nI en)), (7, .int (nI 1)), (8, .int (nI i)), (9, .int (nI 0)), (10, .int (nI 1)), (11, .int (nI 6))])
    (kk : ∀ (H : Heap) (locs : List Loc) (ls : Array Slot), va_P D vwCl (WL 40 G (lF cI cS G) (cmb F T)) H → va_S A s.heap H locs → lv_has ls 13 [(0, .ref (G 0)), (1, .ref (G 36)), (2, .ref (G 37)), (3, .ref (G 38)), (4, .int (nI e9)), (5, .int (nI t)), (6, .int (nI en)), (7, .int (nI 1)), (8, .int (nI i)), (9, .int (nI 0)), (10, .int (nI 1))] → W p l e ({ frames := 8, cells := 0, slots := 0, locals := 177 } : Room) s m args below meth c H locs 0 0 Q (F0 m 506 ls [])) : W p l e ({ frames := 8, cells := 0, slots := 0, locals := 177 } : Room) s m args below meth c H locs 0 0 Q (F0 m 242 ls []) := by
  obtain ⟨hx, hb, hml, hown, hts, hK, hD, hA, hN⟩ := hX
  refine lv_iload hx hb dL_isSlot_242 (lv_at hl 11 rfl) ?_
  refine lv_bipush (v := nI 6) hx hb dL_isSlot_244 (by decide) ?_
  refine lv_icmp_ge (tgt := 295) hx hb dL_isSlot_246 (by decide) (fun _ => ?_) (fun c_1 => absurd (by decide) c_1) 
  refine lv_aload_n hx hb dL_isSlot_295 rfl (lv_at hl 0 rfl) ?_
  refine lv_iload hx hb dL_isSlot_296 (lv_at hl 8 rfl) ?_
  refine x_pi (va_runV (As := [.int (nI i)]) (rest := []) ⟨hx, hb, hml, hown, hts⟩ (c_X5_airtime l D cI cS G F H.size i (by omega)) (cwV 1 hts gL_isSlot_X5_airtime rfl rfl rfl (by decide +kernel) ⟨Nat.le_of_ble_eq_true rfl, Nat.le_of_ble_eq_true rfl⟩) ⟨wPc_blind, va_recv hK (L_P hP) (ci := 5) (q0 := 0) rfl (WL_at (by decide) (cF_air _)), wPc_at (L_P hP) hK (L_D hD) hN⟩ rfl rfl hl.1 rfl (lv_room (Nat.le_of_ble_eq_true rfl)) dL_isSlot_298 ⟨Nat.le_of_ble_eq_true rfl, Nat.le_of_ble_eq_true rfl⟩) hS hA (fun q h => h) (fun H locs hz hk hS => ?_)
  have hP := P_kept hP hk
  refine x_top (y := nI a) ((f_X5_airtime_d _ _).trans h7) ?_
  refine lv_aload_n hx hb dL_isSlot_301 rfl (lv_at hl 2 rfl) ?_
  refine lv_bipush (v := nI 8) hx hb dL_isSlot_302 (by decide) ?_
  refine lv_iload hx hb dL_isSlot_304 (lv_at hl 8 rfl) ?_
  refine x_imulN hx hb dL_isSlot_306 ?_
  refine lv_iconst (v := nI 3) hx hb dL_isSlot_307 (by decide) ?_
  refine x_iaddN hx hb dL_isSlot_308 ?_
  refine x_aldL hx hb hK hP 37 1 rfl (by decide) lF_37 ((8 * i) + 3) (by omega) (by decide) dL_isSlot_309 ?_
  refine x_top (y := nI a) (h3) ?_
  refine lv_iconst (v := nI 1) hx hb dL_isSlot_310 (by decide) ?_
  refine x_iaddN hx hb dL_isSlot_311 ?_
  refine lv_icmp_gt (tgt := 386) hx hb dL_isSlot_312 (by decide) (fun c_2 => absurd c_2 (nI_nlt (by omega) (by omega))) (fun _ => ?_)
  refine lv_aload_n hx hb dL_isSlot_315 rfl (lv_at hl 2 rfl) ?_
  refine lv_bipush (v := nI 8) hx hb dL_isSlot_316 (by decide) ?_
  refine lv_iload hx hb dL_isSlot_318 (lv_at hl 8 rfl) ?_
  refine x_imulN hx hb dL_isSlot_320 ?_
  refine x_aldL hx hb hK hP 37 1 rfl (by decide) lF_37 (8 * i) (by omega) (by decide) dL_isSlot_321 ?_
  refine x_top (y := nI 0) (h0) ?_
  refine lv_if_eq (tgt := 330) hx hb dL_isSlot_322 (by decide) (fun _ => ?_) (fun c_3 => absurd (by decide) c_3) 
  refine lv_aload_n hx hb dL_isSlot_330 rfl (lv_at hl 2 rfl) ?_
  refine lv_bipush (v := nI 8) hx hb dL_isSlot_331 (by decide) ?_
  refine lv_iload hx hb dL_isSlot_333 (lv_at hl 8 rfl) ?_
  refine x_imulN hx hb dL_isSlot_335 ?_
  refine x_aldL hx hb hK hP 37 1 rfl (by decide) lF_37 (8 * i) (by omega) (by decide) dL_isSlot_336 ?_
  refine x_top (y := nI 0) (h0) ?_
  refine lv_iconst (v := nI 1) hx hb dL_isSlot_337 (by decide) ?_
  refine lv_icmp_eq (tgt := 382) hx hb dL_isSlot_338 (by decide) (fun c_4 => absurd c_4 (by decide)) (fun _ => ?_)
  refine lv_iload hx hb dL_isSlot_341 (lv_at hl 10 rfl) ?_
  refine lv_if_eq (tgt := 382) hx hb dL_isSlot_343 (by decide) (fun c_5 => absurd c_5 (by decide)) (fun _ => ?_)
  refine lv_iload hx hb dL_isSlot_346 (lv_at hl 9 rfl) ?_
  refine lv_if_ne (tgt := 386) hx hb dL_isSlot_348 (by decide) (fun c_6 => absurd (by decide) c_6) (fun _ => ?_)
  refine lv_aload_n hx hb dL_isSlot_351 rfl (lv_at hl 2 rfl) ?_
  refine lv_bipush (v := nI 8) hx hb dL_isSlot_352 (by decide) ?_
  refine lv_iload hx hb dL_isSlot_354 (lv_at hl 8 rfl) ?_
  refine x_imulN hx hb dL_isSlot_356 ?_
  refine lv_iconst (v := nI 1) hx hb dL_isSlot_357 (by decide) ?_
  refine x_iaddN hx hb dL_isSlot_358 ?_
  refine x_aldL hx hb hK hP 37 1 rfl (by decide) lF_37 ((8 * i) + 1) (by omega) (by decide) dL_isSlot_359 ?_
  refine x_top (y := (-1)) (h1) ?_
  refine lv_iconst (v := (-1)) hx hb dL_isSlot_360 (by decide) ?_
  refine lv_icmp_eq (tgt := 382) hx hb dL_isSlot_361 (by decide) (fun _ => ?_) (fun c_7 => absurd (by decide) c_7) 
  refine lv_iconst (v := nI 1) hx hb dL_isSlot_382 (by decide) ?_
  refine lv_goto (tgt := 387) hx hb dL_isSlot_383 (by decide) ?_
  refine lv_istore (lv' := [(7, .int (nI 1)), (0, .ref (G 0)), (1, .ref (G 36)), (2, .ref (G 37)), (3, .ref (G 38)), (4, .int (nI e9)), (5, .int (nI t)), (6, .int (nI en)), (8, .int (nI i)), (9, .int (nI 0)), (10, .int (nI 1)), (11, .int (nI 6))]) hx hb dL_isSlot_387 hl (by decide) rfl (fun ls hl => ?_)
  refine lv_iload hx hb dL_isSlot_389 (lv_at hl 0 rfl) ?_
  refine lv_if_eq (tgt := 503) hx hb dL_isSlot_391 (by decide) (fun c_8 => absurd c_8 (by decide)) (fun _ => ?_)
  refine lv_aload_n hx hb dL_isSlot_394 rfl (lv_at hl 3 rfl) ?_
  refine lv_bipush (v := nI 8) hx hb dL_isSlot_395 (by decide) ?_
  refine lv_iload hx hb dL_isSlot_397 (lv_at hl 8 rfl) ?_
  refine x_imulN hx hb dL_isSlot_399 ?_
  refine x_aldL hx hb hK hP 37 1 rfl (by decide) lF_37 (8 * i) (by omega) (by decide) dL_isSlot_400 ?_
  refine x_top (y := nI 0) (h0) ?_
  refine lv_iconst (v := nI 1) hx hb dL_isSlot_401 (by decide) ?_
  refine lv_icmp_eq (tgt := 460) hx hb dL_isSlot_402 (by decide) (fun c_9 => absurd c_9 (by decide)) (fun _ => ?_)
  refine lv_iload hx hb dL_isSlot_405 (lv_at hl 10 rfl) ?_
  refine lv_if_ne (tgt := 460) hx hb dL_isSlot_407 (by decide) (fun _ => ?_) (fun c_10 => absurd c_10 (by decide))
  refine lv_aload_n hx hb dL_isSlot_460 rfl (lv_at hl 3 rfl) ?_
  refine lv_bipush (v := nI 8) hx hb dL_isSlot_461 (by decide) ?_
  refine lv_iload hx hb dL_isSlot_463 (lv_at hl 8 rfl) ?_
  refine x_imulN hx hb dL_isSlot_465 ?_
  refine lv_iconst (v := nI 1) hx hb dL_isSlot_466 (by decide) ?_
  refine x_iaddN hx hb dL_isSlot_467 ?_
  refine x_aldL hx hb hK hP 37 1 rfl (by decide) lF_37 ((8 * i) + 1) (by omega) (by decide) dL_isSlot_468 ?_
  refine x_top (y := (-1)) (h1) ?_
  refine lv_if_ne (tgt := 482) hx hb dL_isSlot_469 (by decide) (fun _ => ?_) (fun c_11 => absurd c_11 (by decide))
  refine lv_aload_n hx hb dL_isSlot_482 rfl (lv_at hl 3 rfl) ?_
  refine lv_bipush (v := nI 8) hx hb dL_isSlot_483 (by decide) ?_
  refine lv_iload hx hb dL_isSlot_485 (lv_at hl 8 rfl) ?_
  refine x_imulN hx hb dL_isSlot_487 ?_
  refine lv_iconst (v := nI 2) hx hb dL_isSlot_488 (by decide) ?_
  refine x_iaddN hx hb dL_isSlot_489 ?_
  refine x_aldL hx hb hK hP 37 1 rfl (by decide) lF_37 ((8 * i) + 2) (by omega) (by decide) dL_isSlot_490 ?_
  refine x_top (y := fr) (h2) ?_
  refine lv_if_gt (tgt := 499) hx hb dL_isSlot_491 (by decide) (fun c_12 => ?_) (fun c_12 => ?_)
  · refine lv_iconst (v := nI 1) hx hb dL_isSlot_499 (by decide) ?_
    refine lv_goto (tgt := 504) hx hb dL_isSlot_500 (by decide) ?_
    refine lv_istore (lv' := [(7, .int (nI 1)), (0, .ref (G 0)), (1, .ref (G 36)), (2, .ref (G 37)), (3, .ref (G 38)), (4, .int (nI e9)), (5, .int (nI t)), (6, .int (nI en)), (8, .int (nI i)), (9, .int (nI 0)), (10, .int (nI 1)), (11, .int (nI 6))]) hx hb dL_isSlot_504 hl (by decide) rfl (fun ls hl => ?_)
    exact kk H locs ls hP hS (lv_sub hl [1, 2, 3, 4, 5, 6, 7, 0, 8, 9, 10] rfl)
  · refine lv_iload hx hb dL_isSlot_494 (lv_at hl 9 rfl) ?_
    refine lv_if_ne (tgt := 503) hx hb dL_isSlot_496 (by decide) (fun c_13 => absurd (by decide) c_13) (fun _ => ?_)
    refine lv_iconst (v := nI 1) hx hb dL_isSlot_499 (by decide) ?_
    refine lv_goto (tgt := 504) hx hb dL_isSlot_500 (by decide) ?_
    refine lv_istore (lv' := [(7, .int (nI 1)), (0, .ref (G 0)), (1, .ref (G 36)), (2, .ref (G 37)), (3, .ref (G 38)), (4, .int (nI e9)), (5, .int (nI t)), (6, .int (nI en)), (8, .int (nI i)), (9, .int (nI 0)), (10, .int (nI 1)), (11, .int (nI 6))]) hx hb dL_isSlot_504 hl (by decide) rfl (fun ls hl => ?_)
    exact kk H locs ls hP hS (lv_sub hl [1, 2, 3, 4, 5, 6, 7, 0, 8, 9, 10] rfl)
set_option maxHeartbeats 1000000 in
set_option maxRecDepth 100000 in
theorem sg_Fqb {F T : Mem} {t i a e9 en : Nat} {fr wt : Int32} (hX : IX p s m args c D A cI cS G) (hi : i < 6) (ha : a < 200000) (h7 : F (6 + 5 * i) 7 = nI a) (h0 : T 1 (8 * i) = nI 0) (h1 : T 1 (8 * i + 1) = wt) (h2 : T 1 (8 * i + 2) = fr) (h3 : T 1 (8 * i + 3) = nI a) (h1w : F (6 + 5 * i) 2 = wt) (hne : ¬ wt = (-1)) (hP : va_P D vwCl (WL 40 G (lF cI cS G) (cmb F T)) H) (hS : va_S A s.heap H locs) (hl : lv_has ls 13 [(0, .ref (G 0)), (1, .ref (G 36)), (2, .ref (G 37)), (3, .ref (G 38)), (4, .int (nI e9)), (5, .int (nI t)), (6, .int (nI en)), (7, .int (nI 1)), (8, .int (nI i)), (9, .int (nI 0)), (10, .int (nI 1)), (11, .int (nI 6))])
    (kk : ∀ (H : Heap) (locs : List Loc) (ls : Array Slot), va_P D vwCl (WL 40 G (lF cI cS G) (cmb F T)) H → va_S A s.heap H locs → lv_has ls 13 [(0, .ref (G 0)), (1, .ref (G 36)), (2, .ref (G 37)), (3, .ref (G 38)), (4, .int (nI e9)), (5, .int (nI t)), (6, .int (nI en)), (7, .int (nI 1)), (8, .int (nI i)), (9, .int (nI 0)), (10, .int (nI 1))] → W p l e ({ frames := 8, cells := 0, slots := 0, locals := 177 } : Room) s m args below meth c H locs 0 0 Q (F0 m 506 ls [])) : W p l e ({ frames := 8, cells := 0, slots := 0, locals := 177 } : Room) s m args below meth c H locs 0 0 Q (F0 m 242 ls []) := by
  obtain ⟨hx, hb, hml, hown, hts, hK, hD, hA, hN⟩ := hX
  refine lv_iload hx hb dL_isSlot_242 (lv_at hl 11 rfl) ?_
  refine lv_bipush (v := nI 6) hx hb dL_isSlot_244 (by decide) ?_
  refine lv_icmp_ge (tgt := 295) hx hb dL_isSlot_246 (by decide) (fun _ => ?_) (fun c_1 => absurd (by decide) c_1) 
  refine lv_aload_n hx hb dL_isSlot_295 rfl (lv_at hl 0 rfl) ?_
  refine lv_iload hx hb dL_isSlot_296 (lv_at hl 8 rfl) ?_
  refine x_pi (va_runV (As := [.int (nI i)]) (rest := []) ⟨hx, hb, hml, hown, hts⟩ (c_X5_airtime l D cI cS G F H.size i (by omega)) (cwV 1 hts gL_isSlot_X5_airtime rfl rfl rfl (by decide +kernel) ⟨Nat.le_of_ble_eq_true rfl, Nat.le_of_ble_eq_true rfl⟩) ⟨wPc_blind, va_recv hK (L_P hP) (ci := 5) (q0 := 0) rfl (WL_at (by decide) (cF_air _)), wPc_at (L_P hP) hK (L_D hD) hN⟩ rfl rfl hl.1 rfl (lv_room (Nat.le_of_ble_eq_true rfl)) dL_isSlot_298 ⟨Nat.le_of_ble_eq_true rfl, Nat.le_of_ble_eq_true rfl⟩) hS hA (fun q h => h) (fun H locs hz hk hS => ?_)
  have hP := P_kept hP hk
  refine x_top (y := nI a) ((f_X5_airtime_d _ _).trans h7) ?_
  refine lv_aload_n hx hb dL_isSlot_301 rfl (lv_at hl 2 rfl) ?_
  refine lv_bipush (v := nI 8) hx hb dL_isSlot_302 (by decide) ?_
  refine lv_iload hx hb dL_isSlot_304 (lv_at hl 8 rfl) ?_
  refine x_imulN hx hb dL_isSlot_306 ?_
  refine lv_iconst (v := nI 3) hx hb dL_isSlot_307 (by decide) ?_
  refine x_iaddN hx hb dL_isSlot_308 ?_
  refine x_aldL hx hb hK hP 37 1 rfl (by decide) lF_37 ((8 * i) + 3) (by omega) (by decide) dL_isSlot_309 ?_
  refine x_top (y := nI a) (h3) ?_
  refine lv_iconst (v := nI 1) hx hb dL_isSlot_310 (by decide) ?_
  refine x_iaddN hx hb dL_isSlot_311 ?_
  refine lv_icmp_gt (tgt := 386) hx hb dL_isSlot_312 (by decide) (fun c_2 => absurd c_2 (nI_nlt (by omega) (by omega))) (fun _ => ?_)
  refine lv_aload_n hx hb dL_isSlot_315 rfl (lv_at hl 2 rfl) ?_
  refine lv_bipush (v := nI 8) hx hb dL_isSlot_316 (by decide) ?_
  refine lv_iload hx hb dL_isSlot_318 (lv_at hl 8 rfl) ?_
  refine x_imulN hx hb dL_isSlot_320 ?_
  refine x_aldL hx hb hK hP 37 1 rfl (by decide) lF_37 (8 * i) (by omega) (by decide) dL_isSlot_321 ?_
  refine x_top (y := nI 0) (h0) ?_
  refine lv_if_eq (tgt := 330) hx hb dL_isSlot_322 (by decide) (fun _ => ?_) (fun c_3 => absurd (by decide) c_3) 
  refine lv_aload_n hx hb dL_isSlot_330 rfl (lv_at hl 2 rfl) ?_
  refine lv_bipush (v := nI 8) hx hb dL_isSlot_331 (by decide) ?_
  refine lv_iload hx hb dL_isSlot_333 (lv_at hl 8 rfl) ?_
  refine x_imulN hx hb dL_isSlot_335 ?_
  refine x_aldL hx hb hK hP 37 1 rfl (by decide) lF_37 (8 * i) (by omega) (by decide) dL_isSlot_336 ?_
  refine x_top (y := nI 0) (h0) ?_
  refine lv_iconst (v := nI 1) hx hb dL_isSlot_337 (by decide) ?_
  refine lv_icmp_eq (tgt := 382) hx hb dL_isSlot_338 (by decide) (fun c_4 => absurd c_4 (by decide)) (fun _ => ?_)
  refine lv_iload hx hb dL_isSlot_341 (lv_at hl 10 rfl) ?_
  refine lv_if_eq (tgt := 382) hx hb dL_isSlot_343 (by decide) (fun c_5 => absurd c_5 (by decide)) (fun _ => ?_)
  refine lv_iload hx hb dL_isSlot_346 (lv_at hl 9 rfl) ?_
  refine lv_if_ne (tgt := 386) hx hb dL_isSlot_348 (by decide) (fun c_6 => absurd (by decide) c_6) (fun _ => ?_)
  refine lv_aload_n hx hb dL_isSlot_351 rfl (lv_at hl 2 rfl) ?_
  refine lv_bipush (v := nI 8) hx hb dL_isSlot_352 (by decide) ?_
  refine lv_iload hx hb dL_isSlot_354 (lv_at hl 8 rfl) ?_
  refine x_imulN hx hb dL_isSlot_356 ?_
  refine lv_iconst (v := nI 1) hx hb dL_isSlot_357 (by decide) ?_
  refine x_iaddN hx hb dL_isSlot_358 ?_
  refine x_aldL hx hb hK hP 37 1 rfl (by decide) lF_37 ((8 * i) + 1) (by omega) (by decide) dL_isSlot_359 ?_
  refine x_top (y := wt) (h1) ?_
  refine lv_iconst (v := (-1)) hx hb dL_isSlot_360 (by decide) ?_
  refine lv_icmp_eq (tgt := 382) hx hb dL_isSlot_361 (by decide) (fun c_7 => absurd c_7 hne) (fun _ => ?_)
  refine lv_aload_n hx hb dL_isSlot_364 rfl (lv_at hl 0 rfl) ?_
  refine lv_iload hx hb dL_isSlot_365 (lv_at hl 8 rfl) ?_
  refine x_pi (va_runV (As := [.int (nI i)]) (rest := []) ⟨hx, hb, hml, hown, hts⟩ (c_X5_waitOf l D cI cS G F H.size i (by omega)) (cwV 1 hts gL_isSlot_X5_waitOf rfl rfl rfl (by decide +kernel) ⟨Nat.le_of_ble_eq_true rfl, Nat.le_of_ble_eq_true rfl⟩) ⟨wPc_blind, va_recv hK (L_P hP) (ci := 5) (q0 := 0) rfl (WL_at (by decide) (cF_air _)), wPc_at (L_P hP) hK (L_D hD) hN⟩ rfl rfl hl.1 rfl (lv_room (Nat.le_of_ble_eq_true rfl)) dL_isSlot_367 ⟨Nat.le_of_ble_eq_true rfl, Nat.le_of_ble_eq_true rfl⟩) hS hA (fun q h => h) (fun H locs hz hk hS => ?_)
  have hP := P_kept hP hk
  refine x_top (y := wt) ((f_X5_waitOf_d _ _).trans h1w) ?_
  refine lv_aload_n hx hb dL_isSlot_370 rfl (lv_at hl 2 rfl) ?_
  refine lv_bipush (v := nI 8) hx hb dL_isSlot_371 (by decide) ?_
  refine lv_iload hx hb dL_isSlot_373 (lv_at hl 8 rfl) ?_
  refine x_imulN hx hb dL_isSlot_375 ?_
  refine lv_iconst (v := nI 1) hx hb dL_isSlot_376 (by decide) ?_
  refine x_iaddN hx hb dL_isSlot_377 ?_
  refine x_aldL hx hb hK hP 37 1 rfl (by decide) lF_37 ((8 * i) + 1) (by omega) (by decide) dL_isSlot_378 ?_
  refine x_top (y := wt) (h1) ?_
  refine lv_icmp_ne (tgt := 386) hx hb dL_isSlot_379 (by decide) (fun c_8 => absurd rfl c_8) (fun _ => ?_)
  refine lv_iconst (v := nI 1) hx hb dL_isSlot_382 (by decide) ?_
  refine lv_goto (tgt := 387) hx hb dL_isSlot_383 (by decide) ?_
  refine lv_istore (lv' := [(7, .int (nI 1)), (0, .ref (G 0)), (1, .ref (G 36)), (2, .ref (G 37)), (3, .ref (G 38)), (4, .int (nI e9)), (5, .int (nI t)), (6, .int (nI en)), (8, .int (nI i)), (9, .int (nI 0)), (10, .int (nI 1)), (11, .int (nI 6))]) hx hb dL_isSlot_387 hl (by decide) rfl (fun ls hl => ?_)
  refine lv_iload hx hb dL_isSlot_389 (lv_at hl 0 rfl) ?_
  refine lv_if_eq (tgt := 503) hx hb dL_isSlot_391 (by decide) (fun c_9 => absurd c_9 (by decide)) (fun _ => ?_)
  refine lv_aload_n hx hb dL_isSlot_394 rfl (lv_at hl 3 rfl) ?_
  refine lv_bipush (v := nI 8) hx hb dL_isSlot_395 (by decide) ?_
  refine lv_iload hx hb dL_isSlot_397 (lv_at hl 8 rfl) ?_
  refine x_imulN hx hb dL_isSlot_399 ?_
  refine x_aldL hx hb hK hP 37 1 rfl (by decide) lF_37 (8 * i) (by omega) (by decide) dL_isSlot_400 ?_
  refine x_top (y := nI 0) (h0) ?_
  refine lv_iconst (v := nI 1) hx hb dL_isSlot_401 (by decide) ?_
  refine lv_icmp_eq (tgt := 460) hx hb dL_isSlot_402 (by decide) (fun c_10 => absurd c_10 (by decide)) (fun _ => ?_)
  refine lv_iload hx hb dL_isSlot_405 (lv_at hl 10 rfl) ?_
  refine lv_if_ne (tgt := 460) hx hb dL_isSlot_407 (by decide) (fun _ => ?_) (fun c_11 => absurd c_11 (by decide))
  refine lv_aload_n hx hb dL_isSlot_460 rfl (lv_at hl 3 rfl) ?_
  refine lv_bipush (v := nI 8) hx hb dL_isSlot_461 (by decide) ?_
  refine lv_iload hx hb dL_isSlot_463 (lv_at hl 8 rfl) ?_
  refine x_imulN hx hb dL_isSlot_465 ?_
  refine lv_iconst (v := nI 1) hx hb dL_isSlot_466 (by decide) ?_
  refine x_iaddN hx hb dL_isSlot_467 ?_
  refine x_aldL hx hb hK hP 37 1 rfl (by decide) lF_37 ((8 * i) + 1) (by omega) (by decide) dL_isSlot_468 ?_
  refine x_top (y := wt) (h1) ?_
  refine lv_if_ne (tgt := 482) hx hb dL_isSlot_469 (by decide) (fun c_12 => ?_) (fun c_12 => ?_)
  · refine lv_aload_n hx hb dL_isSlot_482 rfl (lv_at hl 3 rfl) ?_
    refine lv_bipush (v := nI 8) hx hb dL_isSlot_483 (by decide) ?_
    refine lv_iload hx hb dL_isSlot_485 (lv_at hl 8 rfl) ?_
    refine x_imulN hx hb dL_isSlot_487 ?_
    refine lv_iconst (v := nI 2) hx hb dL_isSlot_488 (by decide) ?_
    refine x_iaddN hx hb dL_isSlot_489 ?_
    refine x_aldL hx hb hK hP 37 1 rfl (by decide) lF_37 ((8 * i) + 2) (by omega) (by decide) dL_isSlot_490 ?_
    refine x_top (y := fr) (h2) ?_
    refine lv_if_gt (tgt := 499) hx hb dL_isSlot_491 (by decide) (fun c_13 => ?_) (fun c_13 => ?_)
    · refine lv_iconst (v := nI 1) hx hb dL_isSlot_499 (by decide) ?_
      refine lv_goto (tgt := 504) hx hb dL_isSlot_500 (by decide) ?_
      refine lv_istore (lv' := [(7, .int (nI 1)), (0, .ref (G 0)), (1, .ref (G 36)), (2, .ref (G 37)), (3, .ref (G 38)), (4, .int (nI e9)), (5, .int (nI t)), (6, .int (nI en)), (8, .int (nI i)), (9, .int (nI 0)), (10, .int (nI 1)), (11, .int (nI 6))]) hx hb dL_isSlot_504 hl (by decide) rfl (fun ls hl => ?_)
      exact kk H locs ls hP hS (lv_sub hl [1, 2, 3, 4, 5, 6, 7, 0, 8, 9, 10] rfl)
    · refine lv_iload hx hb dL_isSlot_494 (lv_at hl 9 rfl) ?_
      refine lv_if_ne (tgt := 503) hx hb dL_isSlot_496 (by decide) (fun c_14 => absurd (by decide) c_14) (fun _ => ?_)
      refine lv_iconst (v := nI 1) hx hb dL_isSlot_499 (by decide) ?_
      refine lv_goto (tgt := 504) hx hb dL_isSlot_500 (by decide) ?_
      refine lv_istore (lv' := [(7, .int (nI 1)), (0, .ref (G 0)), (1, .ref (G 36)), (2, .ref (G 37)), (3, .ref (G 38)), (4, .int (nI e9)), (5, .int (nI t)), (6, .int (nI en)), (8, .int (nI i)), (9, .int (nI 0)), (10, .int (nI 1)), (11, .int (nI 6))]) hx hb dL_isSlot_504 hl (by decide) rfl (fun ls hl => ?_)
      exact kk H locs ls hP hS (lv_sub hl [1, 2, 3, 4, 5, 6, 7, 0, 8, 9, 10] rfl)
  · refine lv_iload hx hb dL_isSlot_472 (lv_at hl 10 rfl) ?_
    refine lv_if_ne (tgt := 482) hx hb dL_isSlot_474 (by decide) (fun _ => ?_) (fun c_15 => absurd c_15 (by decide))
    refine lv_aload_n hx hb dL_isSlot_482 rfl (lv_at hl 3 rfl) ?_
    refine lv_bipush (v := nI 8) hx hb dL_isSlot_483 (by decide) ?_
    refine lv_iload hx hb dL_isSlot_485 (lv_at hl 8 rfl) ?_
    refine x_imulN hx hb dL_isSlot_487 ?_
    refine lv_iconst (v := nI 2) hx hb dL_isSlot_488 (by decide) ?_
    refine x_iaddN hx hb dL_isSlot_489 ?_
    refine x_aldL hx hb hK hP 37 1 rfl (by decide) lF_37 ((8 * i) + 2) (by omega) (by decide) dL_isSlot_490 ?_
    refine x_top (y := fr) (h2) ?_
    refine lv_if_gt (tgt := 499) hx hb dL_isSlot_491 (by decide) (fun c_16 => ?_) (fun c_16 => ?_)
    · refine lv_iconst (v := nI 1) hx hb dL_isSlot_499 (by decide) ?_
      refine lv_goto (tgt := 504) hx hb dL_isSlot_500 (by decide) ?_
      refine lv_istore (lv' := [(7, .int (nI 1)), (0, .ref (G 0)), (1, .ref (G 36)), (2, .ref (G 37)), (3, .ref (G 38)), (4, .int (nI e9)), (5, .int (nI t)), (6, .int (nI en)), (8, .int (nI i)), (9, .int (nI 0)), (10, .int (nI 1)), (11, .int (nI 6))]) hx hb dL_isSlot_504 hl (by decide) rfl (fun ls hl => ?_)
      exact kk H locs ls hP hS (lv_sub hl [1, 2, 3, 4, 5, 6, 7, 0, 8, 9, 10] rfl)
    · refine lv_iload hx hb dL_isSlot_494 (lv_at hl 9 rfl) ?_
      refine lv_if_ne (tgt := 503) hx hb dL_isSlot_496 (by decide) (fun c_17 => absurd (by decide) c_17) (fun _ => ?_)
      refine lv_iconst (v := nI 1) hx hb dL_isSlot_499 (by decide) ?_
      refine lv_goto (tgt := 504) hx hb dL_isSlot_500 (by decide) ?_
      refine lv_istore (lv' := [(7, .int (nI 1)), (0, .ref (G 0)), (1, .ref (G 36)), (2, .ref (G 37)), (3, .ref (G 38)), (4, .int (nI e9)), (5, .int (nI t)), (6, .int (nI en)), (8, .int (nI i)), (9, .int (nI 0)), (10, .int (nI 1)), (11, .int (nI 6))]) hx hb dL_isSlot_504 hl (by decide) rfl (fun ls hl => ?_)
      exact kk H locs ls hP hS (lv_sub hl [1, 2, 3, 4, 5, 6, 7, 0, 8, 9, 10] rfl)
set_option maxHeartbeats 1000000 in
set_option maxRecDepth 100000 in
theorem sg_Fqc {F T : Mem} {t i a e9 en : Nat} {fr : Int32} {w : Nat} (hX : IX p s m args c D A cI cS G) (hi : i < 6) (ha : a < 200000) (h7 : F (6 + 5 * i) 7 = nI a) (h0 : T 1 (8 * i) = nI 0) (h1 : T 1 (8 * i + 1) = nI (w + 1)) (h2 : T 1 (8 * i + 2) = fr) (h3 : T 1 (8 * i + 3) = nI a) (h1w : F (6 + 5 * i) 2 = nI w) (hw : w < 31) (hfr : ¬ fr = 0) (hP : va_P D vwCl (WL 40 G (lF cI cS G) (cmb F T)) H) (hS : va_S A s.heap H locs) (hl : lv_has ls 13 [(0, .ref (G 0)), (1, .ref (G 36)), (2, .ref (G 37)), (3, .ref (G 38)), (4, .int (nI e9)), (5, .int (nI t)), (6, .int (nI en)), (7, .int (nI 1)), (8, .int (nI i)), (9, .int (nI 0)), (10, .int (nI 0)), (11, .int (nI 6))])
    (kk : ∀ (H : Heap) (locs : List Loc) (ls : Array Slot), va_P D vwCl (WL 40 G (lF cI cS G) (cmb F T)) H → va_S A s.heap H locs → lv_has ls 13 [(0, .ref (G 0)), (1, .ref (G 36)), (2, .ref (G 37)), (3, .ref (G 38)), (4, .int (nI e9)), (5, .int (nI t)), (6, .int (nI en)), (7, .int (nI 1)), (8, .int (nI i)), (9, .int (nI 0)), (10, .int (nI 0))] → W p l e ({ frames := 8, cells := 0, slots := 0, locals := 177 } : Room) s m args below meth c H locs 0 0 Q (F0 m 506 ls [])) : W p l e ({ frames := 8, cells := 0, slots := 0, locals := 177 } : Room) s m args below meth c H locs 0 0 Q (F0 m 242 ls []) := by
  obtain ⟨hx, hb, hml, hown, hts, hK, hD, hA, hN⟩ := hX
  refine lv_iload hx hb dL_isSlot_242 (lv_at hl 11 rfl) ?_
  refine lv_bipush (v := nI 6) hx hb dL_isSlot_244 (by decide) ?_
  refine lv_icmp_ge (tgt := 295) hx hb dL_isSlot_246 (by decide) (fun _ => ?_) (fun c_1 => absurd (by decide) c_1) 
  refine lv_aload_n hx hb dL_isSlot_295 rfl (lv_at hl 0 rfl) ?_
  refine lv_iload hx hb dL_isSlot_296 (lv_at hl 8 rfl) ?_
  refine x_pi (va_runV (As := [.int (nI i)]) (rest := []) ⟨hx, hb, hml, hown, hts⟩ (c_X5_airtime l D cI cS G F H.size i (by omega)) (cwV 1 hts gL_isSlot_X5_airtime rfl rfl rfl (by decide +kernel) ⟨Nat.le_of_ble_eq_true rfl, Nat.le_of_ble_eq_true rfl⟩) ⟨wPc_blind, va_recv hK (L_P hP) (ci := 5) (q0 := 0) rfl (WL_at (by decide) (cF_air _)), wPc_at (L_P hP) hK (L_D hD) hN⟩ rfl rfl hl.1 rfl (lv_room (Nat.le_of_ble_eq_true rfl)) dL_isSlot_298 ⟨Nat.le_of_ble_eq_true rfl, Nat.le_of_ble_eq_true rfl⟩) hS hA (fun q h => h) (fun H locs hz hk hS => ?_)
  have hP := P_kept hP hk
  refine x_top (y := nI a) ((f_X5_airtime_d _ _).trans h7) ?_
  refine lv_aload_n hx hb dL_isSlot_301 rfl (lv_at hl 2 rfl) ?_
  refine lv_bipush (v := nI 8) hx hb dL_isSlot_302 (by decide) ?_
  refine lv_iload hx hb dL_isSlot_304 (lv_at hl 8 rfl) ?_
  refine x_imulN hx hb dL_isSlot_306 ?_
  refine lv_iconst (v := nI 3) hx hb dL_isSlot_307 (by decide) ?_
  refine x_iaddN hx hb dL_isSlot_308 ?_
  refine x_aldL hx hb hK hP 37 1 rfl (by decide) lF_37 ((8 * i) + 3) (by omega) (by decide) dL_isSlot_309 ?_
  refine x_top (y := nI a) (h3) ?_
  refine lv_iconst (v := nI 1) hx hb dL_isSlot_310 (by decide) ?_
  refine x_iaddN hx hb dL_isSlot_311 ?_
  refine lv_icmp_gt (tgt := 386) hx hb dL_isSlot_312 (by decide) (fun c_2 => absurd c_2 (nI_nlt (by omega) (by omega))) (fun _ => ?_)
  refine lv_aload_n hx hb dL_isSlot_315 rfl (lv_at hl 2 rfl) ?_
  refine lv_bipush (v := nI 8) hx hb dL_isSlot_316 (by decide) ?_
  refine lv_iload hx hb dL_isSlot_318 (lv_at hl 8 rfl) ?_
  refine x_imulN hx hb dL_isSlot_320 ?_
  refine x_aldL hx hb hK hP 37 1 rfl (by decide) lF_37 (8 * i) (by omega) (by decide) dL_isSlot_321 ?_
  refine x_top (y := nI 0) (h0) ?_
  refine lv_if_eq (tgt := 330) hx hb dL_isSlot_322 (by decide) (fun _ => ?_) (fun c_3 => absurd (by decide) c_3) 
  refine lv_aload_n hx hb dL_isSlot_330 rfl (lv_at hl 2 rfl) ?_
  refine lv_bipush (v := nI 8) hx hb dL_isSlot_331 (by decide) ?_
  refine lv_iload hx hb dL_isSlot_333 (lv_at hl 8 rfl) ?_
  refine x_imulN hx hb dL_isSlot_335 ?_
  refine x_aldL hx hb hK hP 37 1 rfl (by decide) lF_37 (8 * i) (by omega) (by decide) dL_isSlot_336 ?_
  refine x_top (y := nI 0) (h0) ?_
  refine lv_iconst (v := nI 1) hx hb dL_isSlot_337 (by decide) ?_
  refine lv_icmp_eq (tgt := 382) hx hb dL_isSlot_338 (by decide) (fun c_4 => absurd c_4 (by decide)) (fun _ => ?_)
  refine lv_iload hx hb dL_isSlot_341 (lv_at hl 10 rfl) ?_
  refine lv_if_eq (tgt := 382) hx hb dL_isSlot_343 (by decide) (fun _ => ?_) (fun c_5 => absurd (by decide) c_5) 
  refine lv_iconst (v := nI 1) hx hb dL_isSlot_382 (by decide) ?_
  refine lv_goto (tgt := 387) hx hb dL_isSlot_383 (by decide) ?_
  refine lv_istore (lv' := [(7, .int (nI 1)), (0, .ref (G 0)), (1, .ref (G 36)), (2, .ref (G 37)), (3, .ref (G 38)), (4, .int (nI e9)), (5, .int (nI t)), (6, .int (nI en)), (8, .int (nI i)), (9, .int (nI 0)), (10, .int (nI 0)), (11, .int (nI 6))]) hx hb dL_isSlot_387 hl (by decide) rfl (fun ls hl => ?_)
  refine lv_iload hx hb dL_isSlot_389 (lv_at hl 0 rfl) ?_
  refine lv_if_eq (tgt := 503) hx hb dL_isSlot_391 (by decide) (fun c_6 => absurd c_6 (by decide)) (fun _ => ?_)
  refine lv_aload_n hx hb dL_isSlot_394 rfl (lv_at hl 3 rfl) ?_
  refine lv_bipush (v := nI 8) hx hb dL_isSlot_395 (by decide) ?_
  refine lv_iload hx hb dL_isSlot_397 (lv_at hl 8 rfl) ?_
  refine x_imulN hx hb dL_isSlot_399 ?_
  refine x_aldL hx hb hK hP 37 1 rfl (by decide) lF_37 (8 * i) (by omega) (by decide) dL_isSlot_400 ?_
  refine x_top (y := nI 0) (h0) ?_
  refine lv_iconst (v := nI 1) hx hb dL_isSlot_401 (by decide) ?_
  refine lv_icmp_eq (tgt := 460) hx hb dL_isSlot_402 (by decide) (fun c_7 => absurd c_7 (by decide)) (fun _ => ?_)
  refine lv_iload hx hb dL_isSlot_405 (lv_at hl 10 rfl) ?_
  refine lv_if_ne (tgt := 460) hx hb dL_isSlot_407 (by decide) (fun c_8 => absurd (by decide) c_8) (fun _ => ?_)
  refine lv_aload_n hx hb dL_isSlot_410 rfl (lv_at hl 3 rfl) ?_
  refine lv_bipush (v := nI 8) hx hb dL_isSlot_411 (by decide) ?_
  refine lv_iload hx hb dL_isSlot_413 (lv_at hl 8 rfl) ?_
  refine x_imulN hx hb dL_isSlot_415 ?_
  refine lv_iconst (v := nI 2) hx hb dL_isSlot_416 (by decide) ?_
  refine x_iaddN hx hb dL_isSlot_417 ?_
  refine x_aldL hx hb hK hP 37 1 rfl (by decide) lF_37 ((8 * i) + 2) (by omega) (by decide) dL_isSlot_418 ?_
  refine x_top (y := fr) (h2) ?_
  refine lv_if_eq (tgt := 460) hx hb dL_isSlot_419 (by decide) (fun c_9 => absurd c_9 hfr) (fun _ => ?_)
  refine lv_aload_n hx hb dL_isSlot_422 rfl (lv_at hl 3 rfl) ?_
  refine lv_bipush (v := nI 8) hx hb dL_isSlot_423 (by decide) ?_
  refine lv_iload hx hb dL_isSlot_425 (lv_at hl 8 rfl) ?_
  refine x_imulN hx hb dL_isSlot_427 ?_
  refine lv_iconst (v := nI 1) hx hb dL_isSlot_428 (by decide) ?_
  refine x_iaddN hx hb dL_isSlot_429 ?_
  refine x_aldL hx hb hK hP 37 1 rfl (by decide) lF_37 ((8 * i) + 1) (by omega) (by decide) dL_isSlot_430 ?_
  refine x_top (y := nI (w + 1)) (h1) ?_
  refine lv_iconst (v := nI 1) hx hb dL_isSlot_431 (by decide) ?_
  refine lv_icmp_lt (tgt := 460) hx hb dL_isSlot_432 (by decide) (fun c_10 => absurd c_10 (nI_nlt (by omega) (by omega))) (fun _ => ?_)
  refine lv_iload hx hb dL_isSlot_435 (lv_at hl 9 rfl) ?_
  refine lv_if_ne (tgt := 503) hx hb dL_isSlot_437 (by decide) (fun c_11 => absurd (by decide) c_11) (fun _ => ?_)
  refine lv_aload_n hx hb dL_isSlot_440 rfl (lv_at hl 1 rfl) ?_
  refine lv_iload hx hb dL_isSlot_441 (lv_at hl 8 rfl) ?_
  refine x_pi (va_runV (As := [.int (nI i)]) (rest := []) ⟨hx, hb, hml, hown, hts⟩ (c_X5_waitOf l D cI cS G F H.size i (by omega)) (cwV 1 hts gL_isSlot_X5_waitOf rfl rfl rfl (by decide +kernel) ⟨Nat.le_of_ble_eq_true rfl, Nat.le_of_ble_eq_true rfl⟩) ⟨wPc_blind, va_recv hK (L_P hP) (ci := 5) (q0 := 0) rfl (WL_at (by decide) (cF_air _)), wPc_at (L_P hP) hK (L_D hD) hN⟩ rfl rfl hl.1 rfl (lv_room (Nat.le_of_ble_eq_true rfl)) dL_isSlot_443 ⟨Nat.le_of_ble_eq_true rfl, Nat.le_of_ble_eq_true rfl⟩) hS hA (fun q h => h) (fun H locs hz hk hS => ?_)
  have hP := P_kept hP hk
  refine x_top (y := nI w) ((f_X5_waitOf_d _ _).trans h1w) ?_
  refine lv_aload_n hx hb dL_isSlot_446 rfl (lv_at hl 3 rfl) ?_
  refine lv_bipush (v := nI 8) hx hb dL_isSlot_447 (by decide) ?_
  refine lv_iload hx hb dL_isSlot_449 (lv_at hl 8 rfl) ?_
  refine x_imulN hx hb dL_isSlot_451 ?_
  refine lv_iconst (v := nI 1) hx hb dL_isSlot_452 (by decide) ?_
  refine x_iaddN hx hb dL_isSlot_453 ?_
  refine x_aldL hx hb hK hP 37 1 rfl (by decide) lF_37 ((8 * i) + 1) (by omega) (by decide) dL_isSlot_454 ?_
  refine x_top (y := nI (w + 1)) (h1) ?_
  refine lv_iconst (v := nI 1) hx hb dL_isSlot_455 (by decide) ?_
  refine lv_isub hx hb dL_isSlot_456 ?_
  refine x_top (y := nI w) (pk_sub (Nat.succ_le_succ (Nat.zero_le w))) ?_
  refine lv_icmp_ne (tgt := 503) hx hb dL_isSlot_457 (by decide) (fun c_12 => absurd rfl c_12) (fun _ => ?_)
  refine lv_aload_n hx hb dL_isSlot_460 rfl (lv_at hl 3 rfl) ?_
  refine lv_bipush (v := nI 8) hx hb dL_isSlot_461 (by decide) ?_
  refine lv_iload hx hb dL_isSlot_463 (lv_at hl 8 rfl) ?_
  refine x_imulN hx hb dL_isSlot_465 ?_
  refine lv_iconst (v := nI 1) hx hb dL_isSlot_466 (by decide) ?_
  refine x_iaddN hx hb dL_isSlot_467 ?_
  refine x_aldL hx hb hK hP 37 1 rfl (by decide) lF_37 ((8 * i) + 1) (by omega) (by decide) dL_isSlot_468 ?_
  refine x_top (y := nI (w + 1)) (h1) ?_
  refine lv_if_ne (tgt := 482) hx hb dL_isSlot_469 (by decide) (fun _ => ?_) (fun c_13 => absurd c_13 (nI_ne0 (by omega) (by omega)))
  refine lv_aload_n hx hb dL_isSlot_482 rfl (lv_at hl 3 rfl) ?_
  refine lv_bipush (v := nI 8) hx hb dL_isSlot_483 (by decide) ?_
  refine lv_iload hx hb dL_isSlot_485 (lv_at hl 8 rfl) ?_
  refine x_imulN hx hb dL_isSlot_487 ?_
  refine lv_iconst (v := nI 2) hx hb dL_isSlot_488 (by decide) ?_
  refine x_iaddN hx hb dL_isSlot_489 ?_
  refine x_aldL hx hb hK hP 37 1 rfl (by decide) lF_37 ((8 * i) + 2) (by omega) (by decide) dL_isSlot_490 ?_
  refine x_top (y := fr) (h2) ?_
  refine lv_if_gt (tgt := 499) hx hb dL_isSlot_491 (by decide) (fun c_14 => ?_) (fun c_14 => ?_)
  · refine lv_iconst (v := nI 1) hx hb dL_isSlot_499 (by decide) ?_
    refine lv_goto (tgt := 504) hx hb dL_isSlot_500 (by decide) ?_
    refine lv_istore (lv' := [(7, .int (nI 1)), (0, .ref (G 0)), (1, .ref (G 36)), (2, .ref (G 37)), (3, .ref (G 38)), (4, .int (nI e9)), (5, .int (nI t)), (6, .int (nI en)), (8, .int (nI i)), (9, .int (nI 0)), (10, .int (nI 0)), (11, .int (nI 6))]) hx hb dL_isSlot_504 hl (by decide) rfl (fun ls hl => ?_)
    exact kk H locs ls hP hS (lv_sub hl [1, 2, 3, 4, 5, 6, 7, 0, 8, 9, 10] rfl)
  · refine lv_iload hx hb dL_isSlot_494 (lv_at hl 9 rfl) ?_
    refine lv_if_ne (tgt := 503) hx hb dL_isSlot_496 (by decide) (fun c_15 => absurd (by decide) c_15) (fun _ => ?_)
    refine lv_iconst (v := nI 1) hx hb dL_isSlot_499 (by decide) ?_
    refine lv_goto (tgt := 504) hx hb dL_isSlot_500 (by decide) ?_
    refine lv_istore (lv' := [(7, .int (nI 1)), (0, .ref (G 0)), (1, .ref (G 36)), (2, .ref (G 37)), (3, .ref (G 38)), (4, .int (nI e9)), (5, .int (nI t)), (6, .int (nI en)), (8, .int (nI i)), (9, .int (nI 0)), (10, .int (nI 0)), (11, .int (nI 6))]) hx hb dL_isSlot_504 hl (by decide) rfl (fun ls hl => ?_)
    exact kk H locs ls hP hS (lv_sub hl [1, 2, 3, 4, 5, 6, 7, 0, 8, 9, 10] rfl)
set_option maxHeartbeats 1000000 in
set_option maxRecDepth 100000 in
theorem sg_Fsa0 {F T : Mem} {t i a e9 en : Nat} {cn : Nat} (hX : IX p s m args c D A cI cS G) (hi : i < 6) (ha : a < 200000) (h7 : F (6 + 5 * i) 7 = nI (a + 1)) (h0 : T 1 (8 * i) = nI 1) (h1 : T 1 (8 * i + 1) = (-1)) (h2 : T 1 (8 * i + 2) = nI cn) (h3 : T 1 (8 * i + 3) = nI a) (hc0 : 0 < cn) (hc6 : cn < 6) (hP : va_P D vwCl (WL 40 G (lF cI cS G) (cmb F T)) H) (hS : va_S A s.heap H locs) (hl : lv_has ls 13 [(0, .ref (G 0)), (1, .ref (G 36)), (2, .ref (G 37)), (3, .ref (G 38)), (4, .int (nI e9)), (5, .int (nI t)), (6, .int (nI en)), (7, .int (nI 1)), (8, .int (nI i)), (9, .int (nI 1)), (10, .int (nI 0)), (11, .int (nI 6))])
    (kk : ∀ (H : Heap) (locs : List Loc) (ls : Array Slot), va_P D vwCl (WL 40 G (lF cI cS G) (cmb F T)) H → va_S A s.heap H locs → lv_has ls 13 [(0, .ref (G 0)), (1, .ref (G 36)), (2, .ref (G 37)), (3, .ref (G 38)), (4, .int (nI e9)), (5, .int (nI t)), (6, .int (nI en)), (7, .int (nI 1)), (8, .int (nI i)), (9, .int (nI 1)), (10, .int (nI 0))] → W p l e ({ frames := 8, cells := 0, slots := 0, locals := 177 } : Room) s m args below meth c H locs 0 0 Q (F0 m 506 ls [])) : W p l e ({ frames := 8, cells := 0, slots := 0, locals := 177 } : Room) s m args below meth c H locs 0 0 Q (F0 m 242 ls []) := by
  obtain ⟨hx, hb, hml, hown, hts, hK, hD, hA, hN⟩ := hX
  refine lv_iload hx hb dL_isSlot_242 (lv_at hl 11 rfl) ?_
  refine lv_bipush (v := nI 6) hx hb dL_isSlot_244 (by decide) ?_
  refine lv_icmp_ge (tgt := 295) hx hb dL_isSlot_246 (by decide) (fun _ => ?_) (fun c_1 => absurd (by decide) c_1) 
  refine lv_aload_n hx hb dL_isSlot_295 rfl (lv_at hl 0 rfl) ?_
  refine lv_iload hx hb dL_isSlot_296 (lv_at hl 8 rfl) ?_
  refine x_pi (va_runV (As := [.int (nI i)]) (rest := []) ⟨hx, hb, hml, hown, hts⟩ (c_X5_airtime l D cI cS G F H.size i (by omega)) (cwV 1 hts gL_isSlot_X5_airtime rfl rfl rfl (by decide +kernel) ⟨Nat.le_of_ble_eq_true rfl, Nat.le_of_ble_eq_true rfl⟩) ⟨wPc_blind, va_recv hK (L_P hP) (ci := 5) (q0 := 0) rfl (WL_at (by decide) (cF_air _)), wPc_at (L_P hP) hK (L_D hD) hN⟩ rfl rfl hl.1 rfl (lv_room (Nat.le_of_ble_eq_true rfl)) dL_isSlot_298 ⟨Nat.le_of_ble_eq_true rfl, Nat.le_of_ble_eq_true rfl⟩) hS hA (fun q h => h) (fun H locs hz hk hS => ?_)
  have hP := P_kept hP hk
  refine x_top (y := nI (a + 1)) ((f_X5_airtime_d _ _).trans h7) ?_
  refine lv_aload_n hx hb dL_isSlot_301 rfl (lv_at hl 2 rfl) ?_
  refine lv_bipush (v := nI 8) hx hb dL_isSlot_302 (by decide) ?_
  refine lv_iload hx hb dL_isSlot_304 (lv_at hl 8 rfl) ?_
  refine x_imulN hx hb dL_isSlot_306 ?_
  refine lv_iconst (v := nI 3) hx hb dL_isSlot_307 (by decide) ?_
  refine x_iaddN hx hb dL_isSlot_308 ?_
  refine x_aldL hx hb hK hP 37 1 rfl (by decide) lF_37 ((8 * i) + 3) (by omega) (by decide) dL_isSlot_309 ?_
  refine x_top (y := nI a) (h3) ?_
  refine lv_iconst (v := nI 1) hx hb dL_isSlot_310 (by decide) ?_
  refine x_iaddN hx hb dL_isSlot_311 ?_
  refine lv_icmp_gt (tgt := 386) hx hb dL_isSlot_312 (by decide) (fun c_2 => absurd c_2 (nI_nlt (by omega) (by omega))) (fun _ => ?_)
  refine lv_aload_n hx hb dL_isSlot_315 rfl (lv_at hl 2 rfl) ?_
  refine lv_bipush (v := nI 8) hx hb dL_isSlot_316 (by decide) ?_
  refine lv_iload hx hb dL_isSlot_318 (lv_at hl 8 rfl) ?_
  refine x_imulN hx hb dL_isSlot_320 ?_
  refine x_aldL hx hb hK hP 37 1 rfl (by decide) lF_37 (8 * i) (by omega) (by decide) dL_isSlot_321 ?_
  refine x_top (y := nI 1) (h0) ?_
  refine lv_if_eq (tgt := 330) hx hb dL_isSlot_322 (by decide) (fun c_3 => absurd c_3 (by decide)) (fun _ => ?_)
  refine lv_iload hx hb dL_isSlot_325 (lv_at hl 9 rfl) ?_
  refine lv_if_eq (tgt := 386) hx hb dL_isSlot_327 (by decide) (fun c_4 => absurd c_4 (by decide)) (fun _ => ?_)
  refine lv_aload_n hx hb dL_isSlot_330 rfl (lv_at hl 2 rfl) ?_
  refine lv_bipush (v := nI 8) hx hb dL_isSlot_331 (by decide) ?_
  refine lv_iload hx hb dL_isSlot_333 (lv_at hl 8 rfl) ?_
  refine x_imulN hx hb dL_isSlot_335 ?_
  refine x_aldL hx hb hK hP 37 1 rfl (by decide) lF_37 (8 * i) (by omega) (by decide) dL_isSlot_336 ?_
  refine x_top (y := nI 1) (h0) ?_
  refine lv_iconst (v := nI 1) hx hb dL_isSlot_337 (by decide) ?_
  refine lv_icmp_eq (tgt := 382) hx hb dL_isSlot_338 (by decide) (fun _ => ?_) (fun c_5 => absurd (by decide) c_5) 
  refine lv_iconst (v := nI 1) hx hb dL_isSlot_382 (by decide) ?_
  refine lv_goto (tgt := 387) hx hb dL_isSlot_383 (by decide) ?_
  refine lv_istore (lv' := [(7, .int (nI 1)), (0, .ref (G 0)), (1, .ref (G 36)), (2, .ref (G 37)), (3, .ref (G 38)), (4, .int (nI e9)), (5, .int (nI t)), (6, .int (nI en)), (8, .int (nI i)), (9, .int (nI 1)), (10, .int (nI 0)), (11, .int (nI 6))]) hx hb dL_isSlot_387 hl (by decide) rfl (fun ls hl => ?_)
  refine lv_iload hx hb dL_isSlot_389 (lv_at hl 0 rfl) ?_
  refine lv_if_eq (tgt := 503) hx hb dL_isSlot_391 (by decide) (fun c_6 => absurd c_6 (by decide)) (fun _ => ?_)
  refine lv_aload_n hx hb dL_isSlot_394 rfl (lv_at hl 3 rfl) ?_
  refine lv_bipush (v := nI 8) hx hb dL_isSlot_395 (by decide) ?_
  refine lv_iload hx hb dL_isSlot_397 (lv_at hl 8 rfl) ?_
  refine x_imulN hx hb dL_isSlot_399 ?_
  refine x_aldL hx hb hK hP 37 1 rfl (by decide) lF_37 (8 * i) (by omega) (by decide) dL_isSlot_400 ?_
  refine x_top (y := nI 1) (h0) ?_
  refine lv_iconst (v := nI 1) hx hb dL_isSlot_401 (by decide) ?_
  refine lv_icmp_eq (tgt := 460) hx hb dL_isSlot_402 (by decide) (fun _ => ?_) (fun c_7 => absurd (by decide) c_7) 
  refine lv_aload_n hx hb dL_isSlot_460 rfl (lv_at hl 3 rfl) ?_
  refine lv_bipush (v := nI 8) hx hb dL_isSlot_461 (by decide) ?_
  refine lv_iload hx hb dL_isSlot_463 (lv_at hl 8 rfl) ?_
  refine x_imulN hx hb dL_isSlot_465 ?_
  refine lv_iconst (v := nI 1) hx hb dL_isSlot_466 (by decide) ?_
  refine x_iaddN hx hb dL_isSlot_467 ?_
  refine x_aldL hx hb hK hP 37 1 rfl (by decide) lF_37 ((8 * i) + 1) (by omega) (by decide) dL_isSlot_468 ?_
  refine x_top (y := (-1)) (h1) ?_
  refine lv_if_ne (tgt := 482) hx hb dL_isSlot_469 (by decide) (fun _ => ?_) (fun c_8 => absurd c_8 (by decide))
  refine lv_aload_n hx hb dL_isSlot_482 rfl (lv_at hl 3 rfl) ?_
  refine lv_bipush (v := nI 8) hx hb dL_isSlot_483 (by decide) ?_
  refine lv_iload hx hb dL_isSlot_485 (lv_at hl 8 rfl) ?_
  refine x_imulN hx hb dL_isSlot_487 ?_
  refine lv_iconst (v := nI 2) hx hb dL_isSlot_488 (by decide) ?_
  refine x_iaddN hx hb dL_isSlot_489 ?_
  refine x_aldL hx hb hK hP 37 1 rfl (by decide) lF_37 ((8 * i) + 2) (by omega) (by decide) dL_isSlot_490 ?_
  refine x_top (y := nI cn) (h2) ?_
  refine lv_if_gt (tgt := 499) hx hb dL_isSlot_491 (by decide) (fun _ => ?_) (fun c_9 => absurd (nI_lt hc0 (by omega)) c_9) 
  refine lv_iconst (v := nI 1) hx hb dL_isSlot_499 (by decide) ?_
  refine lv_goto (tgt := 504) hx hb dL_isSlot_500 (by decide) ?_
  refine lv_istore (lv' := [(7, .int (nI 1)), (0, .ref (G 0)), (1, .ref (G 36)), (2, .ref (G 37)), (3, .ref (G 38)), (4, .int (nI e9)), (5, .int (nI t)), (6, .int (nI en)), (8, .int (nI i)), (9, .int (nI 1)), (10, .int (nI 0)), (11, .int (nI 6))]) hx hb dL_isSlot_504 hl (by decide) rfl (fun ls hl => ?_)
  exact kk H locs ls hP hS (lv_sub hl [1, 2, 3, 4, 5, 6, 7, 0, 8, 9, 10] rfl)
set_option maxHeartbeats 1000000 in
set_option maxRecDepth 100000 in
theorem sg_Fsa1 {F T : Mem} {t i a e9 en : Nat} {cn : Nat} (hX : IX p s m args c D A cI cS G) (hi : i < 6) (ha : a < 200000) (h7 : F (6 + 5 * i) 7 = nI (a + 1)) (h0 : T 1 (8 * i) = nI 1) (h1 : T 1 (8 * i + 1) = (-1)) (h2 : T 1 (8 * i + 2) = nI cn) (h3 : T 1 (8 * i + 3) = nI a) (hc0 : 0 < cn) (hc6 : cn < 6) (hP : va_P D vwCl (WL 40 G (lF cI cS G) (cmb F T)) H) (hS : va_S A s.heap H locs) (hl : lv_has ls 13 [(0, .ref (G 0)), (1, .ref (G 36)), (2, .ref (G 37)), (3, .ref (G 38)), (4, .int (nI e9)), (5, .int (nI t)), (6, .int (nI en)), (7, .int (nI 1)), (8, .int (nI i)), (9, .int (nI 1)), (10, .int (nI 1)), (11, .int (nI 6))])
    (kk : ∀ (H : Heap) (locs : List Loc) (ls : Array Slot), va_P D vwCl (WL 40 G (lF cI cS G) (cmb F T)) H → va_S A s.heap H locs → lv_has ls 13 [(0, .ref (G 0)), (1, .ref (G 36)), (2, .ref (G 37)), (3, .ref (G 38)), (4, .int (nI e9)), (5, .int (nI t)), (6, .int (nI en)), (7, .int (nI 1)), (8, .int (nI i)), (9, .int (nI 1)), (10, .int (nI 1))] → W p l e ({ frames := 8, cells := 0, slots := 0, locals := 177 } : Room) s m args below meth c H locs 0 0 Q (F0 m 506 ls [])) : W p l e ({ frames := 8, cells := 0, slots := 0, locals := 177 } : Room) s m args below meth c H locs 0 0 Q (F0 m 242 ls []) := by
  obtain ⟨hx, hb, hml, hown, hts, hK, hD, hA, hN⟩ := hX
  refine lv_iload hx hb dL_isSlot_242 (lv_at hl 11 rfl) ?_
  refine lv_bipush (v := nI 6) hx hb dL_isSlot_244 (by decide) ?_
  refine lv_icmp_ge (tgt := 295) hx hb dL_isSlot_246 (by decide) (fun _ => ?_) (fun c_1 => absurd (by decide) c_1) 
  refine lv_aload_n hx hb dL_isSlot_295 rfl (lv_at hl 0 rfl) ?_
  refine lv_iload hx hb dL_isSlot_296 (lv_at hl 8 rfl) ?_
  refine x_pi (va_runV (As := [.int (nI i)]) (rest := []) ⟨hx, hb, hml, hown, hts⟩ (c_X5_airtime l D cI cS G F H.size i (by omega)) (cwV 1 hts gL_isSlot_X5_airtime rfl rfl rfl (by decide +kernel) ⟨Nat.le_of_ble_eq_true rfl, Nat.le_of_ble_eq_true rfl⟩) ⟨wPc_blind, va_recv hK (L_P hP) (ci := 5) (q0 := 0) rfl (WL_at (by decide) (cF_air _)), wPc_at (L_P hP) hK (L_D hD) hN⟩ rfl rfl hl.1 rfl (lv_room (Nat.le_of_ble_eq_true rfl)) dL_isSlot_298 ⟨Nat.le_of_ble_eq_true rfl, Nat.le_of_ble_eq_true rfl⟩) hS hA (fun q h => h) (fun H locs hz hk hS => ?_)
  have hP := P_kept hP hk
  refine x_top (y := nI (a + 1)) ((f_X5_airtime_d _ _).trans h7) ?_
  refine lv_aload_n hx hb dL_isSlot_301 rfl (lv_at hl 2 rfl) ?_
  refine lv_bipush (v := nI 8) hx hb dL_isSlot_302 (by decide) ?_
  refine lv_iload hx hb dL_isSlot_304 (lv_at hl 8 rfl) ?_
  refine x_imulN hx hb dL_isSlot_306 ?_
  refine lv_iconst (v := nI 3) hx hb dL_isSlot_307 (by decide) ?_
  refine x_iaddN hx hb dL_isSlot_308 ?_
  refine x_aldL hx hb hK hP 37 1 rfl (by decide) lF_37 ((8 * i) + 3) (by omega) (by decide) dL_isSlot_309 ?_
  refine x_top (y := nI a) (h3) ?_
  refine lv_iconst (v := nI 1) hx hb dL_isSlot_310 (by decide) ?_
  refine x_iaddN hx hb dL_isSlot_311 ?_
  refine lv_icmp_gt (tgt := 386) hx hb dL_isSlot_312 (by decide) (fun c_2 => absurd c_2 (nI_nlt (by omega) (by omega))) (fun _ => ?_)
  refine lv_aload_n hx hb dL_isSlot_315 rfl (lv_at hl 2 rfl) ?_
  refine lv_bipush (v := nI 8) hx hb dL_isSlot_316 (by decide) ?_
  refine lv_iload hx hb dL_isSlot_318 (lv_at hl 8 rfl) ?_
  refine x_imulN hx hb dL_isSlot_320 ?_
  refine x_aldL hx hb hK hP 37 1 rfl (by decide) lF_37 (8 * i) (by omega) (by decide) dL_isSlot_321 ?_
  refine x_top (y := nI 1) (h0) ?_
  refine lv_if_eq (tgt := 330) hx hb dL_isSlot_322 (by decide) (fun c_3 => absurd c_3 (by decide)) (fun _ => ?_)
  refine lv_iload hx hb dL_isSlot_325 (lv_at hl 9 rfl) ?_
  refine lv_if_eq (tgt := 386) hx hb dL_isSlot_327 (by decide) (fun c_4 => absurd c_4 (by decide)) (fun _ => ?_)
  refine lv_aload_n hx hb dL_isSlot_330 rfl (lv_at hl 2 rfl) ?_
  refine lv_bipush (v := nI 8) hx hb dL_isSlot_331 (by decide) ?_
  refine lv_iload hx hb dL_isSlot_333 (lv_at hl 8 rfl) ?_
  refine x_imulN hx hb dL_isSlot_335 ?_
  refine x_aldL hx hb hK hP 37 1 rfl (by decide) lF_37 (8 * i) (by omega) (by decide) dL_isSlot_336 ?_
  refine x_top (y := nI 1) (h0) ?_
  refine lv_iconst (v := nI 1) hx hb dL_isSlot_337 (by decide) ?_
  refine lv_icmp_eq (tgt := 382) hx hb dL_isSlot_338 (by decide) (fun _ => ?_) (fun c_5 => absurd (by decide) c_5) 
  refine lv_iconst (v := nI 1) hx hb dL_isSlot_382 (by decide) ?_
  refine lv_goto (tgt := 387) hx hb dL_isSlot_383 (by decide) ?_
  refine lv_istore (lv' := [(7, .int (nI 1)), (0, .ref (G 0)), (1, .ref (G 36)), (2, .ref (G 37)), (3, .ref (G 38)), (4, .int (nI e9)), (5, .int (nI t)), (6, .int (nI en)), (8, .int (nI i)), (9, .int (nI 1)), (10, .int (nI 1)), (11, .int (nI 6))]) hx hb dL_isSlot_387 hl (by decide) rfl (fun ls hl => ?_)
  refine lv_iload hx hb dL_isSlot_389 (lv_at hl 0 rfl) ?_
  refine lv_if_eq (tgt := 503) hx hb dL_isSlot_391 (by decide) (fun c_6 => absurd c_6 (by decide)) (fun _ => ?_)
  refine lv_aload_n hx hb dL_isSlot_394 rfl (lv_at hl 3 rfl) ?_
  refine lv_bipush (v := nI 8) hx hb dL_isSlot_395 (by decide) ?_
  refine lv_iload hx hb dL_isSlot_397 (lv_at hl 8 rfl) ?_
  refine x_imulN hx hb dL_isSlot_399 ?_
  refine x_aldL hx hb hK hP 37 1 rfl (by decide) lF_37 (8 * i) (by omega) (by decide) dL_isSlot_400 ?_
  refine x_top (y := nI 1) (h0) ?_
  refine lv_iconst (v := nI 1) hx hb dL_isSlot_401 (by decide) ?_
  refine lv_icmp_eq (tgt := 460) hx hb dL_isSlot_402 (by decide) (fun _ => ?_) (fun c_7 => absurd (by decide) c_7) 
  refine lv_aload_n hx hb dL_isSlot_460 rfl (lv_at hl 3 rfl) ?_
  refine lv_bipush (v := nI 8) hx hb dL_isSlot_461 (by decide) ?_
  refine lv_iload hx hb dL_isSlot_463 (lv_at hl 8 rfl) ?_
  refine x_imulN hx hb dL_isSlot_465 ?_
  refine lv_iconst (v := nI 1) hx hb dL_isSlot_466 (by decide) ?_
  refine x_iaddN hx hb dL_isSlot_467 ?_
  refine x_aldL hx hb hK hP 37 1 rfl (by decide) lF_37 ((8 * i) + 1) (by omega) (by decide) dL_isSlot_468 ?_
  refine x_top (y := (-1)) (h1) ?_
  refine lv_if_ne (tgt := 482) hx hb dL_isSlot_469 (by decide) (fun _ => ?_) (fun c_8 => absurd c_8 (by decide))
  refine lv_aload_n hx hb dL_isSlot_482 rfl (lv_at hl 3 rfl) ?_
  refine lv_bipush (v := nI 8) hx hb dL_isSlot_483 (by decide) ?_
  refine lv_iload hx hb dL_isSlot_485 (lv_at hl 8 rfl) ?_
  refine x_imulN hx hb dL_isSlot_487 ?_
  refine lv_iconst (v := nI 2) hx hb dL_isSlot_488 (by decide) ?_
  refine x_iaddN hx hb dL_isSlot_489 ?_
  refine x_aldL hx hb hK hP 37 1 rfl (by decide) lF_37 ((8 * i) + 2) (by omega) (by decide) dL_isSlot_490 ?_
  refine x_top (y := nI cn) (h2) ?_
  refine lv_if_gt (tgt := 499) hx hb dL_isSlot_491 (by decide) (fun _ => ?_) (fun c_9 => absurd (nI_lt hc0 (by omega)) c_9) 
  refine lv_iconst (v := nI 1) hx hb dL_isSlot_499 (by decide) ?_
  refine lv_goto (tgt := 504) hx hb dL_isSlot_500 (by decide) ?_
  refine lv_istore (lv' := [(7, .int (nI 1)), (0, .ref (G 0)), (1, .ref (G 36)), (2, .ref (G 37)), (3, .ref (G 38)), (4, .int (nI e9)), (5, .int (nI t)), (6, .int (nI en)), (8, .int (nI i)), (9, .int (nI 1)), (10, .int (nI 1)), (11, .int (nI 6))]) hx hb dL_isSlot_504 hl (by decide) rfl (fun ls hl => ?_)
  exact kk H locs ls hP hS (lv_sub hl [1, 2, 3, 4, 5, 6, 7, 0, 8, 9, 10] rfl)
set_option maxHeartbeats 1000000 in
set_option maxRecDepth 100000 in
theorem sg_Fsb {F T : Mem} {t i a e9 en : Nat} {cn : Nat} (hX : IX p s m args c D A cI cS G) (hi : i < 6) (ha : a < 200000) (h7 : F (6 + 5 * i) 7 = nI (a + 1)) (h0 : T 1 (8 * i) = nI 0) (h1 : T 1 (8 * i + 1) = (-1)) (h2 : T 1 (8 * i + 2) = nI cn) (h3 : T 1 (8 * i + 3) = nI a) (hc0 : 0 < cn) (hc6 : cn < 6) (hP : va_P D vwCl (WL 40 G (lF cI cS G) (cmb F T)) H) (hS : va_S A s.heap H locs) (hl : lv_has ls 13 [(0, .ref (G 0)), (1, .ref (G 36)), (2, .ref (G 37)), (3, .ref (G 38)), (4, .int (nI e9)), (5, .int (nI t)), (6, .int (nI en)), (7, .int (nI 1)), (8, .int (nI i)), (9, .int (nI 1)), (10, .int (nI 0)), (11, .int (nI 6))])
    (kk : ∀ (H : Heap) (locs : List Loc) (ls : Array Slot), va_P D vwCl (WL 40 G (lF cI cS G) (cmb F T)) H → va_S A s.heap H locs → lv_has ls 13 [(0, .ref (G 0)), (1, .ref (G 36)), (2, .ref (G 37)), (3, .ref (G 38)), (4, .int (nI e9)), (5, .int (nI t)), (6, .int (nI en)), (7, .int (nI 1)), (8, .int (nI i)), (9, .int (nI 1)), (10, .int (nI 0))] → W p l e ({ frames := 8, cells := 0, slots := 0, locals := 177 } : Room) s m args below meth c H locs 0 0 Q (F0 m 506 ls [])) : W p l e ({ frames := 8, cells := 0, slots := 0, locals := 177 } : Room) s m args below meth c H locs 0 0 Q (F0 m 242 ls []) := by
  obtain ⟨hx, hb, hml, hown, hts, hK, hD, hA, hN⟩ := hX
  refine lv_iload hx hb dL_isSlot_242 (lv_at hl 11 rfl) ?_
  refine lv_bipush (v := nI 6) hx hb dL_isSlot_244 (by decide) ?_
  refine lv_icmp_ge (tgt := 295) hx hb dL_isSlot_246 (by decide) (fun _ => ?_) (fun c_1 => absurd (by decide) c_1) 
  refine lv_aload_n hx hb dL_isSlot_295 rfl (lv_at hl 0 rfl) ?_
  refine lv_iload hx hb dL_isSlot_296 (lv_at hl 8 rfl) ?_
  refine x_pi (va_runV (As := [.int (nI i)]) (rest := []) ⟨hx, hb, hml, hown, hts⟩ (c_X5_airtime l D cI cS G F H.size i (by omega)) (cwV 1 hts gL_isSlot_X5_airtime rfl rfl rfl (by decide +kernel) ⟨Nat.le_of_ble_eq_true rfl, Nat.le_of_ble_eq_true rfl⟩) ⟨wPc_blind, va_recv hK (L_P hP) (ci := 5) (q0 := 0) rfl (WL_at (by decide) (cF_air _)), wPc_at (L_P hP) hK (L_D hD) hN⟩ rfl rfl hl.1 rfl (lv_room (Nat.le_of_ble_eq_true rfl)) dL_isSlot_298 ⟨Nat.le_of_ble_eq_true rfl, Nat.le_of_ble_eq_true rfl⟩) hS hA (fun q h => h) (fun H locs hz hk hS => ?_)
  have hP := P_kept hP hk
  refine x_top (y := nI (a + 1)) ((f_X5_airtime_d _ _).trans h7) ?_
  refine lv_aload_n hx hb dL_isSlot_301 rfl (lv_at hl 2 rfl) ?_
  refine lv_bipush (v := nI 8) hx hb dL_isSlot_302 (by decide) ?_
  refine lv_iload hx hb dL_isSlot_304 (lv_at hl 8 rfl) ?_
  refine x_imulN hx hb dL_isSlot_306 ?_
  refine lv_iconst (v := nI 3) hx hb dL_isSlot_307 (by decide) ?_
  refine x_iaddN hx hb dL_isSlot_308 ?_
  refine x_aldL hx hb hK hP 37 1 rfl (by decide) lF_37 ((8 * i) + 3) (by omega) (by decide) dL_isSlot_309 ?_
  refine x_top (y := nI a) (h3) ?_
  refine lv_iconst (v := nI 1) hx hb dL_isSlot_310 (by decide) ?_
  refine x_iaddN hx hb dL_isSlot_311 ?_
  refine lv_icmp_gt (tgt := 386) hx hb dL_isSlot_312 (by decide) (fun c_2 => absurd c_2 (nI_nlt (by omega) (by omega))) (fun _ => ?_)
  refine lv_aload_n hx hb dL_isSlot_315 rfl (lv_at hl 2 rfl) ?_
  refine lv_bipush (v := nI 8) hx hb dL_isSlot_316 (by decide) ?_
  refine lv_iload hx hb dL_isSlot_318 (lv_at hl 8 rfl) ?_
  refine x_imulN hx hb dL_isSlot_320 ?_
  refine x_aldL hx hb hK hP 37 1 rfl (by decide) lF_37 (8 * i) (by omega) (by decide) dL_isSlot_321 ?_
  refine x_top (y := nI 0) (h0) ?_
  refine lv_if_eq (tgt := 330) hx hb dL_isSlot_322 (by decide) (fun _ => ?_) (fun c_3 => absurd (by decide) c_3) 
  refine lv_aload_n hx hb dL_isSlot_330 rfl (lv_at hl 2 rfl) ?_
  refine lv_bipush (v := nI 8) hx hb dL_isSlot_331 (by decide) ?_
  refine lv_iload hx hb dL_isSlot_333 (lv_at hl 8 rfl) ?_
  refine x_imulN hx hb dL_isSlot_335 ?_
  refine x_aldL hx hb hK hP 37 1 rfl (by decide) lF_37 (8 * i) (by omega) (by decide) dL_isSlot_336 ?_
  refine x_top (y := nI 0) (h0) ?_
  refine lv_iconst (v := nI 1) hx hb dL_isSlot_337 (by decide) ?_
  refine lv_icmp_eq (tgt := 382) hx hb dL_isSlot_338 (by decide) (fun c_4 => absurd c_4 (by decide)) (fun _ => ?_)
  refine lv_iload hx hb dL_isSlot_341 (lv_at hl 10 rfl) ?_
  refine lv_if_eq (tgt := 382) hx hb dL_isSlot_343 (by decide) (fun _ => ?_) (fun c_5 => absurd (by decide) c_5) 
  refine lv_iconst (v := nI 1) hx hb dL_isSlot_382 (by decide) ?_
  refine lv_goto (tgt := 387) hx hb dL_isSlot_383 (by decide) ?_
  refine lv_istore (lv' := [(7, .int (nI 1)), (0, .ref (G 0)), (1, .ref (G 36)), (2, .ref (G 37)), (3, .ref (G 38)), (4, .int (nI e9)), (5, .int (nI t)), (6, .int (nI en)), (8, .int (nI i)), (9, .int (nI 1)), (10, .int (nI 0)), (11, .int (nI 6))]) hx hb dL_isSlot_387 hl (by decide) rfl (fun ls hl => ?_)
  refine lv_iload hx hb dL_isSlot_389 (lv_at hl 0 rfl) ?_
  refine lv_if_eq (tgt := 503) hx hb dL_isSlot_391 (by decide) (fun c_6 => absurd c_6 (by decide)) (fun _ => ?_)
  refine lv_aload_n hx hb dL_isSlot_394 rfl (lv_at hl 3 rfl) ?_
  refine lv_bipush (v := nI 8) hx hb dL_isSlot_395 (by decide) ?_
  refine lv_iload hx hb dL_isSlot_397 (lv_at hl 8 rfl) ?_
  refine x_imulN hx hb dL_isSlot_399 ?_
  refine x_aldL hx hb hK hP 37 1 rfl (by decide) lF_37 (8 * i) (by omega) (by decide) dL_isSlot_400 ?_
  refine x_top (y := nI 0) (h0) ?_
  refine lv_iconst (v := nI 1) hx hb dL_isSlot_401 (by decide) ?_
  refine lv_icmp_eq (tgt := 460) hx hb dL_isSlot_402 (by decide) (fun c_7 => absurd c_7 (by decide)) (fun _ => ?_)
  refine lv_iload hx hb dL_isSlot_405 (lv_at hl 10 rfl) ?_
  refine lv_if_ne (tgt := 460) hx hb dL_isSlot_407 (by decide) (fun c_8 => absurd (by decide) c_8) (fun _ => ?_)
  refine lv_aload_n hx hb dL_isSlot_410 rfl (lv_at hl 3 rfl) ?_
  refine lv_bipush (v := nI 8) hx hb dL_isSlot_411 (by decide) ?_
  refine lv_iload hx hb dL_isSlot_413 (lv_at hl 8 rfl) ?_
  refine x_imulN hx hb dL_isSlot_415 ?_
  refine lv_iconst (v := nI 2) hx hb dL_isSlot_416 (by decide) ?_
  refine x_iaddN hx hb dL_isSlot_417 ?_
  refine x_aldL hx hb hK hP 37 1 rfl (by decide) lF_37 ((8 * i) + 2) (by omega) (by decide) dL_isSlot_418 ?_
  refine x_top (y := nI cn) (h2) ?_
  refine lv_if_eq (tgt := 460) hx hb dL_isSlot_419 (by decide) (fun c_9 => absurd c_9 (nI_ne0 hc0 (by omega))) (fun _ => ?_)
  refine lv_aload_n hx hb dL_isSlot_422 rfl (lv_at hl 3 rfl) ?_
  refine lv_bipush (v := nI 8) hx hb dL_isSlot_423 (by decide) ?_
  refine lv_iload hx hb dL_isSlot_425 (lv_at hl 8 rfl) ?_
  refine x_imulN hx hb dL_isSlot_427 ?_
  refine lv_iconst (v := nI 1) hx hb dL_isSlot_428 (by decide) ?_
  refine x_iaddN hx hb dL_isSlot_429 ?_
  refine x_aldL hx hb hK hP 37 1 rfl (by decide) lF_37 ((8 * i) + 1) (by omega) (by decide) dL_isSlot_430 ?_
  refine x_top (y := (-1)) (h1) ?_
  refine lv_iconst (v := nI 1) hx hb dL_isSlot_431 (by decide) ?_
  refine lv_icmp_lt (tgt := 460) hx hb dL_isSlot_432 (by decide) (fun _ => ?_) (fun c_10 => absurd (by decide) c_10) 
  refine lv_aload_n hx hb dL_isSlot_460 rfl (lv_at hl 3 rfl) ?_
  refine lv_bipush (v := nI 8) hx hb dL_isSlot_461 (by decide) ?_
  refine lv_iload hx hb dL_isSlot_463 (lv_at hl 8 rfl) ?_
  refine x_imulN hx hb dL_isSlot_465 ?_
  refine lv_iconst (v := nI 1) hx hb dL_isSlot_466 (by decide) ?_
  refine x_iaddN hx hb dL_isSlot_467 ?_
  refine x_aldL hx hb hK hP 37 1 rfl (by decide) lF_37 ((8 * i) + 1) (by omega) (by decide) dL_isSlot_468 ?_
  refine x_top (y := (-1)) (h1) ?_
  refine lv_if_ne (tgt := 482) hx hb dL_isSlot_469 (by decide) (fun _ => ?_) (fun c_11 => absurd c_11 (by decide))
  refine lv_aload_n hx hb dL_isSlot_482 rfl (lv_at hl 3 rfl) ?_
  refine lv_bipush (v := nI 8) hx hb dL_isSlot_483 (by decide) ?_
  refine lv_iload hx hb dL_isSlot_485 (lv_at hl 8 rfl) ?_
  refine x_imulN hx hb dL_isSlot_487 ?_
  refine lv_iconst (v := nI 2) hx hb dL_isSlot_488 (by decide) ?_
  refine x_iaddN hx hb dL_isSlot_489 ?_
  refine x_aldL hx hb hK hP 37 1 rfl (by decide) lF_37 ((8 * i) + 2) (by omega) (by decide) dL_isSlot_490 ?_
  refine x_top (y := nI cn) (h2) ?_
  refine lv_if_gt (tgt := 499) hx hb dL_isSlot_491 (by decide) (fun _ => ?_) (fun c_12 => absurd (nI_lt hc0 (by omega)) c_12) 
  refine lv_iconst (v := nI 1) hx hb dL_isSlot_499 (by decide) ?_
  refine lv_goto (tgt := 504) hx hb dL_isSlot_500 (by decide) ?_
  refine lv_istore (lv' := [(7, .int (nI 1)), (0, .ref (G 0)), (1, .ref (G 36)), (2, .ref (G 37)), (3, .ref (G 38)), (4, .int (nI e9)), (5, .int (nI t)), (6, .int (nI en)), (8, .int (nI i)), (9, .int (nI 1)), (10, .int (nI 0)), (11, .int (nI 6))]) hx hb dL_isSlot_504 hl (by decide) rfl (fun ls hl => ?_)
  exact kk H locs ls hP hS (lv_sub hl [1, 2, 3, 4, 5, 6, 7, 0, 8, 9, 10] rfl)
set_option maxHeartbeats 1000000 in
set_option maxRecDepth 100000 in
theorem sg_Fsc {F T : Mem} {t i a e9 en : Nat} {cn : Nat} (hX : IX p s m args c D A cI cS G) (hi : i < 6) (ha : a < 200000) (h7 : F (6 + 5 * i) 7 = nI (a + 1)) (h0 : T 1 (8 * i) = nI 0) (h1 : T 1 (8 * i + 1) = nI 0) (h2 : T 1 (8 * i + 2) = nI cn) (h3 : T 1 (8 * i + 3) = nI a) (hc0 : 0 < cn) (hc6 : cn < 6) (hP : va_P D vwCl (WL 40 G (lF cI cS G) (cmb F T)) H) (hS : va_S A s.heap H locs) (hl : lv_has ls 13 [(0, .ref (G 0)), (1, .ref (G 36)), (2, .ref (G 37)), (3, .ref (G 38)), (4, .int (nI e9)), (5, .int (nI t)), (6, .int (nI en)), (7, .int (nI 1)), (8, .int (nI i)), (9, .int (nI 1)), (10, .int (nI 0)), (11, .int (nI 6))])
    (kk : ∀ (H : Heap) (locs : List Loc) (ls : Array Slot), va_P D vwCl (WL 40 G (lF cI cS G) (cmb F T)) H → va_S A s.heap H locs → lv_has ls 13 [(0, .ref (G 0)), (1, .ref (G 36)), (2, .ref (G 37)), (3, .ref (G 38)), (4, .int (nI e9)), (5, .int (nI t)), (6, .int (nI en)), (7, .int (nI 1)), (8, .int (nI i)), (9, .int (nI 1)), (10, .int (nI 0))] → W p l e ({ frames := 8, cells := 0, slots := 0, locals := 177 } : Room) s m args below meth c H locs 0 0 Q (F0 m 506 ls [])) : W p l e ({ frames := 8, cells := 0, slots := 0, locals := 177 } : Room) s m args below meth c H locs 0 0 Q (F0 m 242 ls []) := by
  obtain ⟨hx, hb, hml, hown, hts, hK, hD, hA, hN⟩ := hX
  refine lv_iload hx hb dL_isSlot_242 (lv_at hl 11 rfl) ?_
  refine lv_bipush (v := nI 6) hx hb dL_isSlot_244 (by decide) ?_
  refine lv_icmp_ge (tgt := 295) hx hb dL_isSlot_246 (by decide) (fun _ => ?_) (fun c_1 => absurd (by decide) c_1) 
  refine lv_aload_n hx hb dL_isSlot_295 rfl (lv_at hl 0 rfl) ?_
  refine lv_iload hx hb dL_isSlot_296 (lv_at hl 8 rfl) ?_
  refine x_pi (va_runV (As := [.int (nI i)]) (rest := []) ⟨hx, hb, hml, hown, hts⟩ (c_X5_airtime l D cI cS G F H.size i (by omega)) (cwV 1 hts gL_isSlot_X5_airtime rfl rfl rfl (by decide +kernel) ⟨Nat.le_of_ble_eq_true rfl, Nat.le_of_ble_eq_true rfl⟩) ⟨wPc_blind, va_recv hK (L_P hP) (ci := 5) (q0 := 0) rfl (WL_at (by decide) (cF_air _)), wPc_at (L_P hP) hK (L_D hD) hN⟩ rfl rfl hl.1 rfl (lv_room (Nat.le_of_ble_eq_true rfl)) dL_isSlot_298 ⟨Nat.le_of_ble_eq_true rfl, Nat.le_of_ble_eq_true rfl⟩) hS hA (fun q h => h) (fun H locs hz hk hS => ?_)
  have hP := P_kept hP hk
  refine x_top (y := nI (a + 1)) ((f_X5_airtime_d _ _).trans h7) ?_
  refine lv_aload_n hx hb dL_isSlot_301 rfl (lv_at hl 2 rfl) ?_
  refine lv_bipush (v := nI 8) hx hb dL_isSlot_302 (by decide) ?_
  refine lv_iload hx hb dL_isSlot_304 (lv_at hl 8 rfl) ?_
  refine x_imulN hx hb dL_isSlot_306 ?_
  refine lv_iconst (v := nI 3) hx hb dL_isSlot_307 (by decide) ?_
  refine x_iaddN hx hb dL_isSlot_308 ?_
  refine x_aldL hx hb hK hP 37 1 rfl (by decide) lF_37 ((8 * i) + 3) (by omega) (by decide) dL_isSlot_309 ?_
  refine x_top (y := nI a) (h3) ?_
  refine lv_iconst (v := nI 1) hx hb dL_isSlot_310 (by decide) ?_
  refine x_iaddN hx hb dL_isSlot_311 ?_
  refine lv_icmp_gt (tgt := 386) hx hb dL_isSlot_312 (by decide) (fun c_2 => absurd c_2 (nI_nlt (by omega) (by omega))) (fun _ => ?_)
  refine lv_aload_n hx hb dL_isSlot_315 rfl (lv_at hl 2 rfl) ?_
  refine lv_bipush (v := nI 8) hx hb dL_isSlot_316 (by decide) ?_
  refine lv_iload hx hb dL_isSlot_318 (lv_at hl 8 rfl) ?_
  refine x_imulN hx hb dL_isSlot_320 ?_
  refine x_aldL hx hb hK hP 37 1 rfl (by decide) lF_37 (8 * i) (by omega) (by decide) dL_isSlot_321 ?_
  refine x_top (y := nI 0) (h0) ?_
  refine lv_if_eq (tgt := 330) hx hb dL_isSlot_322 (by decide) (fun _ => ?_) (fun c_3 => absurd (by decide) c_3) 
  refine lv_aload_n hx hb dL_isSlot_330 rfl (lv_at hl 2 rfl) ?_
  refine lv_bipush (v := nI 8) hx hb dL_isSlot_331 (by decide) ?_
  refine lv_iload hx hb dL_isSlot_333 (lv_at hl 8 rfl) ?_
  refine x_imulN hx hb dL_isSlot_335 ?_
  refine x_aldL hx hb hK hP 37 1 rfl (by decide) lF_37 (8 * i) (by omega) (by decide) dL_isSlot_336 ?_
  refine x_top (y := nI 0) (h0) ?_
  refine lv_iconst (v := nI 1) hx hb dL_isSlot_337 (by decide) ?_
  refine lv_icmp_eq (tgt := 382) hx hb dL_isSlot_338 (by decide) (fun c_4 => absurd c_4 (by decide)) (fun _ => ?_)
  refine lv_iload hx hb dL_isSlot_341 (lv_at hl 10 rfl) ?_
  refine lv_if_eq (tgt := 382) hx hb dL_isSlot_343 (by decide) (fun _ => ?_) (fun c_5 => absurd (by decide) c_5) 
  refine lv_iconst (v := nI 1) hx hb dL_isSlot_382 (by decide) ?_
  refine lv_goto (tgt := 387) hx hb dL_isSlot_383 (by decide) ?_
  refine lv_istore (lv' := [(7, .int (nI 1)), (0, .ref (G 0)), (1, .ref (G 36)), (2, .ref (G 37)), (3, .ref (G 38)), (4, .int (nI e9)), (5, .int (nI t)), (6, .int (nI en)), (8, .int (nI i)), (9, .int (nI 1)), (10, .int (nI 0)), (11, .int (nI 6))]) hx hb dL_isSlot_387 hl (by decide) rfl (fun ls hl => ?_)
  refine lv_iload hx hb dL_isSlot_389 (lv_at hl 0 rfl) ?_
  refine lv_if_eq (tgt := 503) hx hb dL_isSlot_391 (by decide) (fun c_6 => absurd c_6 (by decide)) (fun _ => ?_)
  refine lv_aload_n hx hb dL_isSlot_394 rfl (lv_at hl 3 rfl) ?_
  refine lv_bipush (v := nI 8) hx hb dL_isSlot_395 (by decide) ?_
  refine lv_iload hx hb dL_isSlot_397 (lv_at hl 8 rfl) ?_
  refine x_imulN hx hb dL_isSlot_399 ?_
  refine x_aldL hx hb hK hP 37 1 rfl (by decide) lF_37 (8 * i) (by omega) (by decide) dL_isSlot_400 ?_
  refine x_top (y := nI 0) (h0) ?_
  refine lv_iconst (v := nI 1) hx hb dL_isSlot_401 (by decide) ?_
  refine lv_icmp_eq (tgt := 460) hx hb dL_isSlot_402 (by decide) (fun c_7 => absurd c_7 (by decide)) (fun _ => ?_)
  refine lv_iload hx hb dL_isSlot_405 (lv_at hl 10 rfl) ?_
  refine lv_if_ne (tgt := 460) hx hb dL_isSlot_407 (by decide) (fun c_8 => absurd (by decide) c_8) (fun _ => ?_)
  refine lv_aload_n hx hb dL_isSlot_410 rfl (lv_at hl 3 rfl) ?_
  refine lv_bipush (v := nI 8) hx hb dL_isSlot_411 (by decide) ?_
  refine lv_iload hx hb dL_isSlot_413 (lv_at hl 8 rfl) ?_
  refine x_imulN hx hb dL_isSlot_415 ?_
  refine lv_iconst (v := nI 2) hx hb dL_isSlot_416 (by decide) ?_
  refine x_iaddN hx hb dL_isSlot_417 ?_
  refine x_aldL hx hb hK hP 37 1 rfl (by decide) lF_37 ((8 * i) + 2) (by omega) (by decide) dL_isSlot_418 ?_
  refine x_top (y := nI cn) (h2) ?_
  refine lv_if_eq (tgt := 460) hx hb dL_isSlot_419 (by decide) (fun c_9 => absurd c_9 (nI_ne0 hc0 (by omega))) (fun _ => ?_)
  refine lv_aload_n hx hb dL_isSlot_422 rfl (lv_at hl 3 rfl) ?_
  refine lv_bipush (v := nI 8) hx hb dL_isSlot_423 (by decide) ?_
  refine lv_iload hx hb dL_isSlot_425 (lv_at hl 8 rfl) ?_
  refine x_imulN hx hb dL_isSlot_427 ?_
  refine lv_iconst (v := nI 1) hx hb dL_isSlot_428 (by decide) ?_
  refine x_iaddN hx hb dL_isSlot_429 ?_
  refine x_aldL hx hb hK hP 37 1 rfl (by decide) lF_37 ((8 * i) + 1) (by omega) (by decide) dL_isSlot_430 ?_
  refine x_top (y := nI 0) (h1) ?_
  refine lv_iconst (v := nI 1) hx hb dL_isSlot_431 (by decide) ?_
  refine lv_icmp_lt (tgt := 460) hx hb dL_isSlot_432 (by decide) (fun _ => ?_) (fun c_10 => absurd (by decide) c_10) 
  refine lv_aload_n hx hb dL_isSlot_460 rfl (lv_at hl 3 rfl) ?_
  refine lv_bipush (v := nI 8) hx hb dL_isSlot_461 (by decide) ?_
  refine lv_iload hx hb dL_isSlot_463 (lv_at hl 8 rfl) ?_
  refine x_imulN hx hb dL_isSlot_465 ?_
  refine lv_iconst (v := nI 1) hx hb dL_isSlot_466 (by decide) ?_
  refine x_iaddN hx hb dL_isSlot_467 ?_
  refine x_aldL hx hb hK hP 37 1 rfl (by decide) lF_37 ((8 * i) + 1) (by omega) (by decide) dL_isSlot_468 ?_
  refine x_top (y := nI 0) (h1) ?_
  refine lv_if_ne (tgt := 482) hx hb dL_isSlot_469 (by decide) (fun c_11 => absurd (by decide) c_11) (fun _ => ?_)
  refine lv_iload hx hb dL_isSlot_472 (lv_at hl 10 rfl) ?_
  refine lv_if_ne (tgt := 482) hx hb dL_isSlot_474 (by decide) (fun c_12 => absurd (by decide) c_12) (fun _ => ?_)
  refine lv_iload hx hb dL_isSlot_477 (lv_at hl 9 rfl) ?_
  refine lv_if_eq (tgt := 503) hx hb dL_isSlot_479 (by decide) (fun c_13 => absurd c_13 (by decide)) (fun _ => ?_)
  refine lv_aload_n hx hb dL_isSlot_482 rfl (lv_at hl 3 rfl) ?_
  refine lv_bipush (v := nI 8) hx hb dL_isSlot_483 (by decide) ?_
  refine lv_iload hx hb dL_isSlot_485 (lv_at hl 8 rfl) ?_
  refine x_imulN hx hb dL_isSlot_487 ?_
  refine lv_iconst (v := nI 2) hx hb dL_isSlot_488 (by decide) ?_
  refine x_iaddN hx hb dL_isSlot_489 ?_
  refine x_aldL hx hb hK hP 37 1 rfl (by decide) lF_37 ((8 * i) + 2) (by omega) (by decide) dL_isSlot_490 ?_
  refine x_top (y := nI cn) (h2) ?_
  refine lv_if_gt (tgt := 499) hx hb dL_isSlot_491 (by decide) (fun _ => ?_) (fun c_14 => absurd (nI_lt hc0 (by omega)) c_14) 
  refine lv_iconst (v := nI 1) hx hb dL_isSlot_499 (by decide) ?_
  refine lv_goto (tgt := 504) hx hb dL_isSlot_500 (by decide) ?_
  refine lv_istore (lv' := [(7, .int (nI 1)), (0, .ref (G 0)), (1, .ref (G 36)), (2, .ref (G 37)), (3, .ref (G 38)), (4, .int (nI e9)), (5, .int (nI t)), (6, .int (nI en)), (8, .int (nI i)), (9, .int (nI 1)), (10, .int (nI 0)), (11, .int (nI 6))]) hx hb dL_isSlot_504 hl (by decide) rfl (fun ls hl => ?_)
  exact kk H locs ls hP hS (lv_sub hl [1, 2, 3, 4, 5, 6, 7, 0, 8, 9, 10] rfl)
set_option maxHeartbeats 1000000 in
set_option maxRecDepth 100000 in
theorem sg_Gq {F T : Mem} {t i dl pp e9 en : Nat} {fr : Int32} (hX : IX p s m args c D A cI cS G) (hi : i < 6) (hpp : pp < 16) (hp4 : ppc pp ≤ 4) (h2 : T 1 (8 * i + 2) = fr) (h5 : T 1 (8 * i + 5) = nI dl) (h6 : T 1 (8 * i + 6) = nI pp) (h5F : F (6 + 5 * i) 5 = nI dl) (h2F : F (7 + 5 * i) 0 = fr) (hP : va_P D vwCl (WL 40 G (lF cI cS G) (cmb F T)) H) (hS : va_S A s.heap H locs) (hl : lv_has ls 13 [(0, .ref (G 0)), (1, .ref (G 36)), (2, .ref (G 37)), (3, .ref (G 38)), (4, .int (nI e9)), (5, .int (nI t)), (6, .int (nI en)), (7, .int (nI 1)), (8, .int (nI i)), (9, .int (nI 0))])
    (kk : ∀ (H : Heap) (locs : List Loc) (ls : Array Slot), va_P D vwCl (WL 40 G (lF cI cS G) (cmb F (ub T 1 (8 * i) (nI 0)))) H → va_S A s.heap H locs → lv_has ls 13 [(0, .ref (G 0)), (1, .ref (G 36)), (2, .ref (G 37)), (3, .ref (G 38)), (4, .int (nI (e9 + 0))), (5, .int (nI t)), (6, .int (nI en)), (7, .int (nI 1)), (8, .int (nI (i + 1)))] → W p l e ({ frames := 8, cells := 0, slots := 0, locals := 177 } : Room) s m args below meth c H locs 0 0 Q (F0 m 181 ls [])) : W p l e ({ frames := 8, cells := 0, slots := 0, locals := 177 } : Room) s m args below meth c H locs 0 0 Q (F0 m 506 ls []) := by
  obtain ⟨hx, hb, hml, hown, hts, hK, hD, hA, hN⟩ := hX
  refine lv_aload_n hx hb dL_isSlot_506 rfl (lv_at hl 0 rfl) ?_
  refine lv_iload hx hb dL_isSlot_507 (lv_at hl 8 rfl) ?_
  refine x_pi (va_runV (As := [.int (nI i)]) (rest := []) ⟨hx, hb, hml, hown, hts⟩ (c_X5_delivered l D cI cS G F H.size i (by omega)) (cwV 1 hts gL_isSlot_X5_delivered rfl rfl rfl (by decide +kernel) ⟨Nat.le_of_ble_eq_true rfl, Nat.le_of_ble_eq_true rfl⟩) ⟨wPc_blind, va_recv hK (L_P hP) (ci := 5) (q0 := 0) rfl (WL_at (by decide) (cF_air _)), wPc_at (L_P hP) hK (L_D hD) hN⟩ rfl rfl hl.1 rfl (lv_room (Nat.le_of_ble_eq_true rfl)) dL_isSlot_509 ⟨Nat.le_of_ble_eq_true rfl, Nat.le_of_ble_eq_true rfl⟩) hS hA (fun q h => h) (fun H locs hz hk hS => ?_)
  have hP := P_kept hP hk
  refine x_top (y := nI dl) ((f_X5_delivered_d _ _).trans h5F) ?_
  refine lv_aload_n hx hb dL_isSlot_512 rfl (lv_at hl 2 rfl) ?_
  refine lv_bipush (v := nI 8) hx hb dL_isSlot_513 (by decide) ?_
  refine lv_iload hx hb dL_isSlot_515 (lv_at hl 8 rfl) ?_
  refine x_imulN hx hb dL_isSlot_517 ?_
  refine lv_iconst (v := nI 5) hx hb dL_isSlot_518 (by decide) ?_
  refine x_iaddN hx hb dL_isSlot_519 ?_
  refine x_aldL hx hb hK hP 37 1 rfl (by decide) lF_37 ((8 * i) + 5) (by omega) (by decide) dL_isSlot_520 ?_
  refine x_top (y := nI dl) (h5) ?_
  refine lv_isub hx hb dL_isSlot_521 ?_
  refine x_top (y := nI 0) (by rw [pk_sub (Nat.le_refl _), Nat.sub_self]) ?_
  refine lv_istore (lv' := [(11, .int (nI 0)), (0, .ref (G 0)), (1, .ref (G 36)), (2, .ref (G 37)), (3, .ref (G 38)), (4, .int (nI e9)), (5, .int (nI t)), (6, .int (nI en)), (7, .int (nI 1)), (8, .int (nI i)), (9, .int (nI 0))]) hx hb dL_isSlot_522 hl (by decide) rfl (fun ls hl => ?_)
  refine lv_iload hx hb dL_isSlot_524 (lv_at hl 5 rfl) ?_
  refine lv_iload hx hb dL_isSlot_526 (lv_at hl 10 rfl) ?_
  refine lv_if_eq (tgt := 544) hx hb dL_isSlot_528 (by decide) (fun _ => ?_) (fun c_1 => absurd (by decide) c_1) 
  refine lv_iconst (v := nI 0) hx hb dL_isSlot_544 (by decide) ?_
  refine x_iaddN hx hb dL_isSlot_545 ?_
  refine lv_istore (lv' := [(4, .int (nI (e9 + 0))), (11, .int (nI 0)), (0, .ref (G 0)), (1, .ref (G 36)), (2, .ref (G 37)), (3, .ref (G 38)), (5, .int (nI t)), (6, .int (nI en)), (7, .int (nI 1)), (8, .int (nI i)), (9, .int (nI 0))]) hx hb dL_isSlot_546 hl (by decide) rfl (fun ls hl => ?_)
  refine lv_iload hx hb dL_isSlot_548 (lv_at hl 8 rfl) ?_
  refine lv_if_eq (tgt := 608) hx hb dL_isSlot_550 (by decide) (fun c_2 => absurd c_2 (by decide)) (fun _ => ?_)
  refine lv_iload hx hb dL_isSlot_553 (lv_at hl 1 rfl) ?_
  refine lv_if_lt (tgt := 608) hx hb dL_isSlot_555 (by decide) (fun c_3 => absurd c_3 (by decide)) (fun _ => ?_)
  refine lv_iload hx hb dL_isSlot_558 (lv_at hl 1 rfl) ?_
  refine lv_aload_n hx hb dL_isSlot_560 rfl (lv_at hl 4 rfl) ?_
  refine lv_bipush (v := nI 8) hx hb dL_isSlot_561 (by decide) ?_
  refine lv_iload hx hb dL_isSlot_563 (lv_at hl 9 rfl) ?_
  refine x_imulN hx hb dL_isSlot_565 ?_
  refine lv_bipush (v := nI 6) hx hb dL_isSlot_566 (by decide) ?_
  refine x_iaddN hx hb dL_isSlot_568 ?_
  refine x_aldL hx hb hK hP 37 1 rfl (by decide) lF_37 ((8 * i) + 6) (by omega) (by decide) dL_isSlot_569 ?_
  refine x_top (y := nI pp) (h6) ?_
  refine x_pi (va_runS (As := [.int (nI pp)]) (rest := [.int (nI 0)]) ⟨hx, hb, hml, hown, hts⟩ (c_L_bits l H.size (nI pp)) (va_cwS 1 hts gL_isSlot_L_bits rfl rfl rfl (by decide +kernel) ⟨Nat.le_of_ble_eq_true rfl, Nat.le_of_ble_eq_true rfl⟩) ⟨sPc_blind, sPc_at hN⟩ rfl rfl hl.1 rfl (lv_room (Nat.le_of_ble_eq_true rfl)) dL_isSlot_570 ⟨Nat.le_of_ble_eq_true rfl, Nat.le_of_ble_eq_true rfl⟩) hS hA (fun q h => h) (fun H locs hz hk hS => ?_)
  have hP := P_kept hP hk
  refine x_top (y := nI (ppc pp)) (bits_tab pp hpp) ?_
  refine lv_icmp_gt (tgt := 608) hx hb dL_isSlot_573 (by decide) (fun c_4 => absurd c_4 (nI_nlt (Nat.zero_le _) (by omega))) (fun _ => ?_)
  refine lv_iload hx hb dL_isSlot_576 (lv_at hl 1 rfl) ?_
  refine lv_if_eq (tgt := 604) hx hb dL_isSlot_578 (by decide) (fun _ => ?_) (fun c_5 => absurd (by decide) c_5) 
  refine lv_iconst (v := nI 1) hx hb dL_isSlot_604 (by decide) ?_
  refine lv_goto (tgt := 609) hx hb dL_isSlot_605 (by decide) ?_
  refine lv_istore (lv' := [(7, .int (nI 1)), (4, .int (nI (e9 + 0))), (11, .int (nI 0)), (0, .ref (G 0)), (1, .ref (G 36)), (2, .ref (G 37)), (3, .ref (G 38)), (5, .int (nI t)), (6, .int (nI en)), (8, .int (nI i)), (9, .int (nI 0))]) hx hb dL_isSlot_609 hl (by decide) rfl (fun ls hl => ?_)
  refine lv_aload_n hx hb dL_isSlot_611 rfl (lv_at hl 5 rfl) ?_
  refine lv_bipush (v := nI 8) hx hb dL_isSlot_612 (by decide) ?_
  refine lv_iload hx hb dL_isSlot_614 (lv_at hl 9 rfl) ?_
  refine x_imulN hx hb dL_isSlot_616 ?_
  refine lv_iconst (v := nI 2) hx hb dL_isSlot_617 (by decide) ?_
  refine x_iaddN hx hb dL_isSlot_618 ?_
  refine x_aldL hx hb hK hP 37 1 rfl (by decide) lF_37 ((8 * i) + 2) (by omega) (by decide) dL_isSlot_619 ?_
  refine x_top (y := fr) (h2) ?_
  refine lv_aload_n hx hb dL_isSlot_620 rfl (lv_at hl 3 rfl) ?_
  refine lv_iload hx hb dL_isSlot_621 (lv_at hl 9 rfl) ?_
  refine x_pi (va_runV (As := [.int (nI i)]) (rest := [.int fr]) ⟨hx, hb, hml, hown, hts⟩ (c_X5_frames l D cI cS G F H.size i (by omega)) (cwV 1 hts gL_isSlot_X5_frames rfl rfl rfl (by decide +kernel) ⟨Nat.le_of_ble_eq_true rfl, Nat.le_of_ble_eq_true rfl⟩) ⟨wPc_blind, va_recv hK (L_P hP) (ci := 5) (q0 := 0) rfl (WL_at (by decide) (cF_air _)), wPc_at (L_P hP) hK (L_D hD) hN⟩ rfl rfl hl.1 rfl (lv_room (Nat.le_of_ble_eq_true rfl)) dL_isSlot_623 ⟨Nat.le_of_ble_eq_true rfl, Nat.le_of_ble_eq_true rfl⟩) hS hA (fun q h => h) (fun H locs hz hk hS => ?_)
  have hP := P_kept hP hk
  refine x_top (y := fr) ((f_X5_frames_d _ _).trans h2F) ?_
  refine lv_isub hx hb dL_isSlot_626 ?_
  refine x_top (y := nI 0) (by rw [Int32.sub_self]; rfl) ?_
  refine lv_istore (lv' := [(12, .int (nI 0)), (7, .int (nI 1)), (4, .int (nI (e9 + 0))), (11, .int (nI 0)), (0, .ref (G 0)), (1, .ref (G 36)), (2, .ref (G 37)), (3, .ref (G 38)), (5, .int (nI t)), (6, .int (nI en)), (8, .int (nI i)), (9, .int (nI 0))]) hx hb dL_isSlot_627 hl (by decide) rfl (fun ls hl => ?_)
  refine lv_iload hx hb dL_isSlot_629 (lv_at hl 1 rfl) ?_
  refine lv_if_eq (tgt := 693) hx hb dL_isSlot_631 (by decide) (fun c_6 => absurd c_6 (by decide)) (fun _ => ?_)
  refine lv_iload hx hb dL_isSlot_634 (lv_at hl 0 rfl) ?_
  refine lv_if_eq (tgt := 689) hx hb dL_isSlot_636 (by decide) (fun _ => ?_) (fun c_7 => absurd (by decide) c_7) 
  refine lv_iconst (v := nI 1) hx hb dL_isSlot_689 (by decide) ?_
  refine lv_goto (tgt := 694) hx hb dL_isSlot_690 (by decide) ?_
  refine lv_istore (lv' := [(7, .int (nI 1)), (12, .int (nI 0)), (4, .int (nI (e9 + 0))), (11, .int (nI 0)), (0, .ref (G 0)), (1, .ref (G 36)), (2, .ref (G 37)), (3, .ref (G 38)), (5, .int (nI t)), (6, .int (nI en)), (8, .int (nI i)), (9, .int (nI 0))]) hx hb dL_isSlot_694 hl (by decide) rfl (fun ls hl => ?_)
  refine lv_aload_n hx hb dL_isSlot_696 rfl (lv_at hl 6 rfl) ?_
  refine lv_bipush (v := nI 8) hx hb dL_isSlot_697 (by decide) ?_
  refine lv_iload hx hb dL_isSlot_699 (lv_at hl 10 rfl) ?_
  refine x_imulN hx hb dL_isSlot_701 ?_
  refine lv_iload hx hb dL_isSlot_702 (lv_at hl 11 rfl) ?_
  refine lv_if_eq (tgt := 711) hx hb dL_isSlot_704 (by decide) (fun _ => ?_) (fun c_8 => absurd (by decide) c_8) 
  refine lv_iconst (v := nI 0) hx hb dL_isSlot_711 (by decide) ?_
  refine x_astL hx hb hK hP hD hS 37 1 rfl (by decide) lF_37 (8 * i) (by omega) (by decide) dL_isSlot_712 (fun H locs hP hS => ?_)
  refine lv_iinc (v := nI (i + 1)) (lv' := [(8, .int (nI (i + 1))), (7, .int (nI 1)), (12, .int (nI 0)), (4, .int (nI (e9 + 0))), (11, .int (nI 0)), (0, .ref (G 0)), (1, .ref (G 36)), (2, .ref (G 37)), (3, .ref (G 38)), (5, .int (nI t)), (6, .int (nI en)), (9, .int (nI 0))]) hx hb dL_isSlot_713 hl (k := 10) rfl (nI_add _ _) (by decide) rfl (fun ls hl => ?_)
  refine lv_goto (tgt := 181) hx hb dL_isSlot_716 (by decide) ?_
  exact kk H locs ls hP hS (lv_sub hl [5, 6, 7, 8, 3, 9, 10, 1, 0] rfl)
set_option maxHeartbeats 1000000 in
set_option maxRecDepth 100000 in
theorem sg_G1 {F T : Mem} {t i dl pp e9 en : Nat} {fr : Int32} (hX : IX p s m args c D A cI cS G) (hi : i < 6) (hpp : pp < 16) (hp4 : ppc pp ≤ 4) (h2 : T 1 (8 * i + 2) = fr) (h5 : T 1 (8 * i + 5) = nI dl) (h6 : T 1 (8 * i + 6) = nI pp) (h5F : F (6 + 5 * i) 5 = nI dl) (h2F : F (7 + 5 * i) 0 = fr) (hon : F (8 + 5 * i) 0 = nI 1) (hP : va_P D vwCl (WL 40 G (lF cI cS G) (cmb F T)) H) (hS : va_S A s.heap H locs) (hl : lv_has ls 13 [(0, .ref (G 0)), (1, .ref (G 36)), (2, .ref (G 37)), (3, .ref (G 38)), (4, .int (nI e9)), (5, .int (nI t)), (6, .int (nI en)), (7, .int (nI 1)), (8, .int (nI i)), (9, .int (nI 1))])
    (kk : ∀ (H : Heap) (locs : List Loc) (ls : Array Slot), va_P D vwCl (WL 40 G (lF cI cS G) (cmb F (ub T 1 (8 * i) (nI 1)))) H → va_S A s.heap H locs → lv_has ls 13 [(0, .ref (G 0)), (1, .ref (G 36)), (2, .ref (G 37)), (3, .ref (G 38)), (4, .int (nI (e9 + 0))), (5, .int (nI t)), (6, .int (nI en)), (7, .int (nI 1)), (8, .int (nI (i + 1)))] → W p l e ({ frames := 8, cells := 0, slots := 0, locals := 177 } : Room) s m args below meth c H locs 0 0 Q (F0 m 181 ls [])) : W p l e ({ frames := 8, cells := 0, slots := 0, locals := 177 } : Room) s m args below meth c H locs 0 0 Q (F0 m 506 ls []) := by
  obtain ⟨hx, hb, hml, hown, hts, hK, hD, hA, hN⟩ := hX
  refine lv_aload_n hx hb dL_isSlot_506 rfl (lv_at hl 0 rfl) ?_
  refine lv_iload hx hb dL_isSlot_507 (lv_at hl 8 rfl) ?_
  refine x_pi (va_runV (As := [.int (nI i)]) (rest := []) ⟨hx, hb, hml, hown, hts⟩ (c_X5_delivered l D cI cS G F H.size i (by omega)) (cwV 1 hts gL_isSlot_X5_delivered rfl rfl rfl (by decide +kernel) ⟨Nat.le_of_ble_eq_true rfl, Nat.le_of_ble_eq_true rfl⟩) ⟨wPc_blind, va_recv hK (L_P hP) (ci := 5) (q0 := 0) rfl (WL_at (by decide) (cF_air _)), wPc_at (L_P hP) hK (L_D hD) hN⟩ rfl rfl hl.1 rfl (lv_room (Nat.le_of_ble_eq_true rfl)) dL_isSlot_509 ⟨Nat.le_of_ble_eq_true rfl, Nat.le_of_ble_eq_true rfl⟩) hS hA (fun q h => h) (fun H locs hz hk hS => ?_)
  have hP := P_kept hP hk
  refine x_top (y := nI dl) ((f_X5_delivered_d _ _).trans h5F) ?_
  refine lv_aload_n hx hb dL_isSlot_512 rfl (lv_at hl 2 rfl) ?_
  refine lv_bipush (v := nI 8) hx hb dL_isSlot_513 (by decide) ?_
  refine lv_iload hx hb dL_isSlot_515 (lv_at hl 8 rfl) ?_
  refine x_imulN hx hb dL_isSlot_517 ?_
  refine lv_iconst (v := nI 5) hx hb dL_isSlot_518 (by decide) ?_
  refine x_iaddN hx hb dL_isSlot_519 ?_
  refine x_aldL hx hb hK hP 37 1 rfl (by decide) lF_37 ((8 * i) + 5) (by omega) (by decide) dL_isSlot_520 ?_
  refine x_top (y := nI dl) (h5) ?_
  refine lv_isub hx hb dL_isSlot_521 ?_
  refine x_top (y := nI 0) (by rw [pk_sub (Nat.le_refl _), Nat.sub_self]) ?_
  refine lv_istore (lv' := [(11, .int (nI 0)), (0, .ref (G 0)), (1, .ref (G 36)), (2, .ref (G 37)), (3, .ref (G 38)), (4, .int (nI e9)), (5, .int (nI t)), (6, .int (nI en)), (7, .int (nI 1)), (8, .int (nI i)), (9, .int (nI 1))]) hx hb dL_isSlot_522 hl (by decide) rfl (fun ls hl => ?_)
  refine lv_iload hx hb dL_isSlot_524 (lv_at hl 5 rfl) ?_
  refine lv_iload hx hb dL_isSlot_526 (lv_at hl 10 rfl) ?_
  refine lv_if_eq (tgt := 544) hx hb dL_isSlot_528 (by decide) (fun c_1 => absurd c_1 (by decide)) (fun _ => ?_)
  refine lv_aload_n hx hb dL_isSlot_531 rfl (lv_at hl 1 rfl) ?_
  refine lv_iload hx hb dL_isSlot_532 (lv_at hl 9 rfl) ?_
  refine x_pi (va_runV (As := [.int (nI i)]) (rest := [.int (nI e9)]) ⟨hx, hb, hml, hown, hts⟩ (c_X5_sends l D cI cS G F H.size i hi (by rw [hon]; rfl)) (cwV 1 hts gL_isSlot_X5_sends rfl rfl rfl (by decide +kernel) ⟨Nat.le_of_ble_eq_true rfl, Nat.le_of_ble_eq_true rfl⟩) ⟨wPc_blind, va_recv hK (L_P hP) (ci := 5) (q0 := 0) rfl (WL_at (by decide) (cF_air _)), wPc_at (L_P hP) hK (L_D hD) hN⟩ rfl rfl hl.1 rfl (lv_room (Nat.le_of_ble_eq_true rfl)) dL_isSlot_534 ⟨Nat.le_of_ble_eq_true rfl, Nat.le_of_ble_eq_true rfl⟩) hS hA (fun q h => h) (fun H locs hz hk hS => ?_)
  have hP := P_kept hP hk
  refine x_top (y := nI 1) ((f_X5_sends_d _ _).trans hon) ?_
  refine lv_if_ne (tgt := 544) hx hb dL_isSlot_537 (by decide) (fun _ => ?_) (fun c_2 => absurd c_2 (by decide))
  refine lv_iconst (v := nI 0) hx hb dL_isSlot_544 (by decide) ?_
  refine x_iaddN hx hb dL_isSlot_545 ?_
  refine lv_istore (lv' := [(4, .int (nI (e9 + 0))), (11, .int (nI 0)), (0, .ref (G 0)), (1, .ref (G 36)), (2, .ref (G 37)), (3, .ref (G 38)), (5, .int (nI t)), (6, .int (nI en)), (7, .int (nI 1)), (8, .int (nI i)), (9, .int (nI 1))]) hx hb dL_isSlot_546 hl (by decide) rfl (fun ls hl => ?_)
  refine lv_iload hx hb dL_isSlot_548 (lv_at hl 8 rfl) ?_
  refine lv_if_eq (tgt := 608) hx hb dL_isSlot_550 (by decide) (fun c_3 => absurd c_3 (by decide)) (fun _ => ?_)
  refine lv_iload hx hb dL_isSlot_553 (lv_at hl 1 rfl) ?_
  refine lv_if_lt (tgt := 608) hx hb dL_isSlot_555 (by decide) (fun c_4 => absurd c_4 (by decide)) (fun _ => ?_)
  refine lv_iload hx hb dL_isSlot_558 (lv_at hl 1 rfl) ?_
  refine lv_aload_n hx hb dL_isSlot_560 rfl (lv_at hl 4 rfl) ?_
  refine lv_bipush (v := nI 8) hx hb dL_isSlot_561 (by decide) ?_
  refine lv_iload hx hb dL_isSlot_563 (lv_at hl 9 rfl) ?_
  refine x_imulN hx hb dL_isSlot_565 ?_
  refine lv_bipush (v := nI 6) hx hb dL_isSlot_566 (by decide) ?_
  refine x_iaddN hx hb dL_isSlot_568 ?_
  refine x_aldL hx hb hK hP 37 1 rfl (by decide) lF_37 ((8 * i) + 6) (by omega) (by decide) dL_isSlot_569 ?_
  refine x_top (y := nI pp) (h6) ?_
  refine x_pi (va_runS (As := [.int (nI pp)]) (rest := [.int (nI 0)]) ⟨hx, hb, hml, hown, hts⟩ (c_L_bits l H.size (nI pp)) (va_cwS 1 hts gL_isSlot_L_bits rfl rfl rfl (by decide +kernel) ⟨Nat.le_of_ble_eq_true rfl, Nat.le_of_ble_eq_true rfl⟩) ⟨sPc_blind, sPc_at hN⟩ rfl rfl hl.1 rfl (lv_room (Nat.le_of_ble_eq_true rfl)) dL_isSlot_570 ⟨Nat.le_of_ble_eq_true rfl, Nat.le_of_ble_eq_true rfl⟩) hS hA (fun q h => h) (fun H locs hz hk hS => ?_)
  have hP := P_kept hP hk
  refine x_top (y := nI (ppc pp)) (bits_tab pp hpp) ?_
  refine lv_icmp_gt (tgt := 608) hx hb dL_isSlot_573 (by decide) (fun c_5 => absurd c_5 (nI_nlt (Nat.zero_le _) (by omega))) (fun _ => ?_)
  refine lv_iload hx hb dL_isSlot_576 (lv_at hl 1 rfl) ?_
  refine lv_if_eq (tgt := 604) hx hb dL_isSlot_578 (by decide) (fun _ => ?_) (fun c_6 => absurd (by decide) c_6) 
  refine lv_iconst (v := nI 1) hx hb dL_isSlot_604 (by decide) ?_
  refine lv_goto (tgt := 609) hx hb dL_isSlot_605 (by decide) ?_
  refine lv_istore (lv' := [(7, .int (nI 1)), (4, .int (nI (e9 + 0))), (11, .int (nI 0)), (0, .ref (G 0)), (1, .ref (G 36)), (2, .ref (G 37)), (3, .ref (G 38)), (5, .int (nI t)), (6, .int (nI en)), (8, .int (nI i)), (9, .int (nI 1))]) hx hb dL_isSlot_609 hl (by decide) rfl (fun ls hl => ?_)
  refine lv_aload_n hx hb dL_isSlot_611 rfl (lv_at hl 5 rfl) ?_
  refine lv_bipush (v := nI 8) hx hb dL_isSlot_612 (by decide) ?_
  refine lv_iload hx hb dL_isSlot_614 (lv_at hl 9 rfl) ?_
  refine x_imulN hx hb dL_isSlot_616 ?_
  refine lv_iconst (v := nI 2) hx hb dL_isSlot_617 (by decide) ?_
  refine x_iaddN hx hb dL_isSlot_618 ?_
  refine x_aldL hx hb hK hP 37 1 rfl (by decide) lF_37 ((8 * i) + 2) (by omega) (by decide) dL_isSlot_619 ?_
  refine x_top (y := fr) (h2) ?_
  refine lv_aload_n hx hb dL_isSlot_620 rfl (lv_at hl 3 rfl) ?_
  refine lv_iload hx hb dL_isSlot_621 (lv_at hl 9 rfl) ?_
  refine x_pi (va_runV (As := [.int (nI i)]) (rest := [.int fr]) ⟨hx, hb, hml, hown, hts⟩ (c_X5_frames l D cI cS G F H.size i (by omega)) (cwV 1 hts gL_isSlot_X5_frames rfl rfl rfl (by decide +kernel) ⟨Nat.le_of_ble_eq_true rfl, Nat.le_of_ble_eq_true rfl⟩) ⟨wPc_blind, va_recv hK (L_P hP) (ci := 5) (q0 := 0) rfl (WL_at (by decide) (cF_air _)), wPc_at (L_P hP) hK (L_D hD) hN⟩ rfl rfl hl.1 rfl (lv_room (Nat.le_of_ble_eq_true rfl)) dL_isSlot_623 ⟨Nat.le_of_ble_eq_true rfl, Nat.le_of_ble_eq_true rfl⟩) hS hA (fun q h => h) (fun H locs hz hk hS => ?_)
  have hP := P_kept hP hk
  refine x_top (y := fr) ((f_X5_frames_d _ _).trans h2F) ?_
  refine lv_isub hx hb dL_isSlot_626 ?_
  refine x_top (y := nI 0) (by rw [Int32.sub_self]; rfl) ?_
  refine lv_istore (lv' := [(12, .int (nI 0)), (7, .int (nI 1)), (4, .int (nI (e9 + 0))), (11, .int (nI 0)), (0, .ref (G 0)), (1, .ref (G 36)), (2, .ref (G 37)), (3, .ref (G 38)), (5, .int (nI t)), (6, .int (nI en)), (8, .int (nI i)), (9, .int (nI 1))]) hx hb dL_isSlot_627 hl (by decide) rfl (fun ls hl => ?_)
  refine lv_iload hx hb dL_isSlot_629 (lv_at hl 1 rfl) ?_
  refine lv_if_eq (tgt := 693) hx hb dL_isSlot_631 (by decide) (fun c_7 => absurd c_7 (by decide)) (fun _ => ?_)
  refine lv_iload hx hb dL_isSlot_634 (lv_at hl 0 rfl) ?_
  refine lv_if_eq (tgt := 689) hx hb dL_isSlot_636 (by decide) (fun _ => ?_) (fun c_8 => absurd (by decide) c_8) 
  refine lv_iconst (v := nI 1) hx hb dL_isSlot_689 (by decide) ?_
  refine lv_goto (tgt := 694) hx hb dL_isSlot_690 (by decide) ?_
  refine lv_istore (lv' := [(7, .int (nI 1)), (12, .int (nI 0)), (4, .int (nI (e9 + 0))), (11, .int (nI 0)), (0, .ref (G 0)), (1, .ref (G 36)), (2, .ref (G 37)), (3, .ref (G 38)), (5, .int (nI t)), (6, .int (nI en)), (8, .int (nI i)), (9, .int (nI 1))]) hx hb dL_isSlot_694 hl (by decide) rfl (fun ls hl => ?_)
  refine lv_aload_n hx hb dL_isSlot_696 rfl (lv_at hl 6 rfl) ?_
  refine lv_bipush (v := nI 8) hx hb dL_isSlot_697 (by decide) ?_
  refine lv_iload hx hb dL_isSlot_699 (lv_at hl 10 rfl) ?_
  refine x_imulN hx hb dL_isSlot_701 ?_
  refine lv_iload hx hb dL_isSlot_702 (lv_at hl 11 rfl) ?_
  refine lv_if_eq (tgt := 711) hx hb dL_isSlot_704 (by decide) (fun c_9 => absurd c_9 (by decide)) (fun _ => ?_)
  refine lv_iconst (v := nI 1) hx hb dL_isSlot_707 (by decide) ?_
  refine lv_goto (tgt := 712) hx hb dL_isSlot_708 (by decide) ?_
  refine x_astL hx hb hK hP hD hS 37 1 rfl (by decide) lF_37 (8 * i) (by omega) (by decide) dL_isSlot_712 (fun H locs hP hS => ?_)
  refine lv_iinc (v := nI (i + 1)) (lv' := [(8, .int (nI (i + 1))), (7, .int (nI 1)), (12, .int (nI 0)), (4, .int (nI (e9 + 0))), (11, .int (nI 0)), (0, .ref (G 0)), (1, .ref (G 36)), (2, .ref (G 37)), (3, .ref (G 38)), (5, .int (nI t)), (6, .int (nI en)), (9, .int (nI 1))]) hx hb dL_isSlot_713 hl (k := 10) rfl (nI_add _ _) (by decide) rfl (fun ls hl => ?_)
  refine lv_goto (tgt := 181) hx hb dL_isSlot_716 (by decide) ?_
  exact kk H locs ls hP hS (lv_sub hl [5, 6, 7, 8, 3, 9, 10, 1, 0] rfl)
set_option maxHeartbeats 1000000 in
set_option maxRecDepth 100000 in
theorem sg_G2 {F T : Mem} {t i dl pp e9 en : Nat} {fr : Int32} (hX : IX p s m args c D A cI cS G) (hi : i < 6) (hpp : pp < 16) (hp4 : ppc pp ≤ 4) (h2 : T 1 (8 * i + 2) = fr) (h5 : T 1 (8 * i + 5) = nI dl) (h6 : T 1 (8 * i + 6) = nI pp) (h5F : F (6 + 5 * i) 5 = nI dl) (h2F : F (7 + 5 * i) 0 = fr) (hon : F (8 + 5 * i) 0 = nI 0) (hP : va_P D vwCl (WL 40 G (lF cI cS G) (cmb F T)) H) (hS : va_S A s.heap H locs) (hl : lv_has ls 13 [(0, .ref (G 0)), (1, .ref (G 36)), (2, .ref (G 37)), (3, .ref (G 38)), (4, .int (nI e9)), (5, .int (nI t)), (6, .int (nI en)), (7, .int (nI 1)), (8, .int (nI i)), (9, .int (nI 1))])
    (kk : ∀ (H : Heap) (locs : List Loc) (ls : Array Slot), va_P D vwCl (WL 40 G (lF cI cS G) (cmb F (ub T 1 (8 * i) (nI 1)))) H → va_S A s.heap H locs → lv_has ls 13 [(0, .ref (G 0)), (1, .ref (G 36)), (2, .ref (G 37)), (3, .ref (G 38)), (4, .int (nI (e9 + 1))), (5, .int (nI t)), (6, .int (nI en)), (7, .int (nI 1)), (8, .int (nI (i + 1)))] → W p l e ({ frames := 8, cells := 0, slots := 0, locals := 177 } : Room) s m args below meth c H locs 0 0 Q (F0 m 181 ls [])) : W p l e ({ frames := 8, cells := 0, slots := 0, locals := 177 } : Room) s m args below meth c H locs 0 0 Q (F0 m 506 ls []) := by
  obtain ⟨hx, hb, hml, hown, hts, hK, hD, hA, hN⟩ := hX
  refine lv_aload_n hx hb dL_isSlot_506 rfl (lv_at hl 0 rfl) ?_
  refine lv_iload hx hb dL_isSlot_507 (lv_at hl 8 rfl) ?_
  refine x_pi (va_runV (As := [.int (nI i)]) (rest := []) ⟨hx, hb, hml, hown, hts⟩ (c_X5_delivered l D cI cS G F H.size i (by omega)) (cwV 1 hts gL_isSlot_X5_delivered rfl rfl rfl (by decide +kernel) ⟨Nat.le_of_ble_eq_true rfl, Nat.le_of_ble_eq_true rfl⟩) ⟨wPc_blind, va_recv hK (L_P hP) (ci := 5) (q0 := 0) rfl (WL_at (by decide) (cF_air _)), wPc_at (L_P hP) hK (L_D hD) hN⟩ rfl rfl hl.1 rfl (lv_room (Nat.le_of_ble_eq_true rfl)) dL_isSlot_509 ⟨Nat.le_of_ble_eq_true rfl, Nat.le_of_ble_eq_true rfl⟩) hS hA (fun q h => h) (fun H locs hz hk hS => ?_)
  have hP := P_kept hP hk
  refine x_top (y := nI dl) ((f_X5_delivered_d _ _).trans h5F) ?_
  refine lv_aload_n hx hb dL_isSlot_512 rfl (lv_at hl 2 rfl) ?_
  refine lv_bipush (v := nI 8) hx hb dL_isSlot_513 (by decide) ?_
  refine lv_iload hx hb dL_isSlot_515 (lv_at hl 8 rfl) ?_
  refine x_imulN hx hb dL_isSlot_517 ?_
  refine lv_iconst (v := nI 5) hx hb dL_isSlot_518 (by decide) ?_
  refine x_iaddN hx hb dL_isSlot_519 ?_
  refine x_aldL hx hb hK hP 37 1 rfl (by decide) lF_37 ((8 * i) + 5) (by omega) (by decide) dL_isSlot_520 ?_
  refine x_top (y := nI dl) (h5) ?_
  refine lv_isub hx hb dL_isSlot_521 ?_
  refine x_top (y := nI 0) (by rw [pk_sub (Nat.le_refl _), Nat.sub_self]) ?_
  refine lv_istore (lv' := [(11, .int (nI 0)), (0, .ref (G 0)), (1, .ref (G 36)), (2, .ref (G 37)), (3, .ref (G 38)), (4, .int (nI e9)), (5, .int (nI t)), (6, .int (nI en)), (7, .int (nI 1)), (8, .int (nI i)), (9, .int (nI 1))]) hx hb dL_isSlot_522 hl (by decide) rfl (fun ls hl => ?_)
  refine lv_iload hx hb dL_isSlot_524 (lv_at hl 5 rfl) ?_
  refine lv_iload hx hb dL_isSlot_526 (lv_at hl 10 rfl) ?_
  refine lv_if_eq (tgt := 544) hx hb dL_isSlot_528 (by decide) (fun c_1 => absurd c_1 (by decide)) (fun _ => ?_)
  refine lv_aload_n hx hb dL_isSlot_531 rfl (lv_at hl 1 rfl) ?_
  refine lv_iload hx hb dL_isSlot_532 (lv_at hl 9 rfl) ?_
  refine x_pi (va_runV (As := [.int (nI i)]) (rest := [.int (nI e9)]) ⟨hx, hb, hml, hown, hts⟩ (c_X5_sends l D cI cS G F H.size i hi (by rw [hon]; rfl)) (cwV 1 hts gL_isSlot_X5_sends rfl rfl rfl (by decide +kernel) ⟨Nat.le_of_ble_eq_true rfl, Nat.le_of_ble_eq_true rfl⟩) ⟨wPc_blind, va_recv hK (L_P hP) (ci := 5) (q0 := 0) rfl (WL_at (by decide) (cF_air _)), wPc_at (L_P hP) hK (L_D hD) hN⟩ rfl rfl hl.1 rfl (lv_room (Nat.le_of_ble_eq_true rfl)) dL_isSlot_534 ⟨Nat.le_of_ble_eq_true rfl, Nat.le_of_ble_eq_true rfl⟩) hS hA (fun q h => h) (fun H locs hz hk hS => ?_)
  have hP := P_kept hP hk
  refine x_top (y := nI 0) ((f_X5_sends_d _ _).trans hon) ?_
  refine lv_if_ne (tgt := 544) hx hb dL_isSlot_537 (by decide) (fun c_2 => absurd (by decide) c_2) (fun _ => ?_)
  refine lv_iconst (v := nI 1) hx hb dL_isSlot_540 (by decide) ?_
  refine lv_goto (tgt := 545) hx hb dL_isSlot_541 (by decide) ?_
  refine x_iaddN hx hb dL_isSlot_545 ?_
  refine lv_istore (lv' := [(4, .int (nI (e9 + 1))), (11, .int (nI 0)), (0, .ref (G 0)), (1, .ref (G 36)), (2, .ref (G 37)), (3, .ref (G 38)), (5, .int (nI t)), (6, .int (nI en)), (7, .int (nI 1)), (8, .int (nI i)), (9, .int (nI 1))]) hx hb dL_isSlot_546 hl (by decide) rfl (fun ls hl => ?_)
  refine lv_iload hx hb dL_isSlot_548 (lv_at hl 8 rfl) ?_
  refine lv_if_eq (tgt := 608) hx hb dL_isSlot_550 (by decide) (fun c_3 => absurd c_3 (by decide)) (fun _ => ?_)
  refine lv_iload hx hb dL_isSlot_553 (lv_at hl 1 rfl) ?_
  refine lv_if_lt (tgt := 608) hx hb dL_isSlot_555 (by decide) (fun c_4 => absurd c_4 (by decide)) (fun _ => ?_)
  refine lv_iload hx hb dL_isSlot_558 (lv_at hl 1 rfl) ?_
  refine lv_aload_n hx hb dL_isSlot_560 rfl (lv_at hl 4 rfl) ?_
  refine lv_bipush (v := nI 8) hx hb dL_isSlot_561 (by decide) ?_
  refine lv_iload hx hb dL_isSlot_563 (lv_at hl 9 rfl) ?_
  refine x_imulN hx hb dL_isSlot_565 ?_
  refine lv_bipush (v := nI 6) hx hb dL_isSlot_566 (by decide) ?_
  refine x_iaddN hx hb dL_isSlot_568 ?_
  refine x_aldL hx hb hK hP 37 1 rfl (by decide) lF_37 ((8 * i) + 6) (by omega) (by decide) dL_isSlot_569 ?_
  refine x_top (y := nI pp) (h6) ?_
  refine x_pi (va_runS (As := [.int (nI pp)]) (rest := [.int (nI 0)]) ⟨hx, hb, hml, hown, hts⟩ (c_L_bits l H.size (nI pp)) (va_cwS 1 hts gL_isSlot_L_bits rfl rfl rfl (by decide +kernel) ⟨Nat.le_of_ble_eq_true rfl, Nat.le_of_ble_eq_true rfl⟩) ⟨sPc_blind, sPc_at hN⟩ rfl rfl hl.1 rfl (lv_room (Nat.le_of_ble_eq_true rfl)) dL_isSlot_570 ⟨Nat.le_of_ble_eq_true rfl, Nat.le_of_ble_eq_true rfl⟩) hS hA (fun q h => h) (fun H locs hz hk hS => ?_)
  have hP := P_kept hP hk
  refine x_top (y := nI (ppc pp)) (bits_tab pp hpp) ?_
  refine lv_icmp_gt (tgt := 608) hx hb dL_isSlot_573 (by decide) (fun c_5 => absurd c_5 (nI_nlt (Nat.zero_le _) (by omega))) (fun _ => ?_)
  refine lv_iload hx hb dL_isSlot_576 (lv_at hl 1 rfl) ?_
  refine lv_if_eq (tgt := 604) hx hb dL_isSlot_578 (by decide) (fun _ => ?_) (fun c_6 => absurd (by decide) c_6) 
  refine lv_iconst (v := nI 1) hx hb dL_isSlot_604 (by decide) ?_
  refine lv_goto (tgt := 609) hx hb dL_isSlot_605 (by decide) ?_
  refine lv_istore (lv' := [(7, .int (nI 1)), (4, .int (nI (e9 + 1))), (11, .int (nI 0)), (0, .ref (G 0)), (1, .ref (G 36)), (2, .ref (G 37)), (3, .ref (G 38)), (5, .int (nI t)), (6, .int (nI en)), (8, .int (nI i)), (9, .int (nI 1))]) hx hb dL_isSlot_609 hl (by decide) rfl (fun ls hl => ?_)
  refine lv_aload_n hx hb dL_isSlot_611 rfl (lv_at hl 5 rfl) ?_
  refine lv_bipush (v := nI 8) hx hb dL_isSlot_612 (by decide) ?_
  refine lv_iload hx hb dL_isSlot_614 (lv_at hl 9 rfl) ?_
  refine x_imulN hx hb dL_isSlot_616 ?_
  refine lv_iconst (v := nI 2) hx hb dL_isSlot_617 (by decide) ?_
  refine x_iaddN hx hb dL_isSlot_618 ?_
  refine x_aldL hx hb hK hP 37 1 rfl (by decide) lF_37 ((8 * i) + 2) (by omega) (by decide) dL_isSlot_619 ?_
  refine x_top (y := fr) (h2) ?_
  refine lv_aload_n hx hb dL_isSlot_620 rfl (lv_at hl 3 rfl) ?_
  refine lv_iload hx hb dL_isSlot_621 (lv_at hl 9 rfl) ?_
  refine x_pi (va_runV (As := [.int (nI i)]) (rest := [.int fr]) ⟨hx, hb, hml, hown, hts⟩ (c_X5_frames l D cI cS G F H.size i (by omega)) (cwV 1 hts gL_isSlot_X5_frames rfl rfl rfl (by decide +kernel) ⟨Nat.le_of_ble_eq_true rfl, Nat.le_of_ble_eq_true rfl⟩) ⟨wPc_blind, va_recv hK (L_P hP) (ci := 5) (q0 := 0) rfl (WL_at (by decide) (cF_air _)), wPc_at (L_P hP) hK (L_D hD) hN⟩ rfl rfl hl.1 rfl (lv_room (Nat.le_of_ble_eq_true rfl)) dL_isSlot_623 ⟨Nat.le_of_ble_eq_true rfl, Nat.le_of_ble_eq_true rfl⟩) hS hA (fun q h => h) (fun H locs hz hk hS => ?_)
  have hP := P_kept hP hk
  refine x_top (y := fr) ((f_X5_frames_d _ _).trans h2F) ?_
  refine lv_isub hx hb dL_isSlot_626 ?_
  refine x_top (y := nI 0) (by rw [Int32.sub_self]; rfl) ?_
  refine lv_istore (lv' := [(12, .int (nI 0)), (7, .int (nI 1)), (4, .int (nI (e9 + 1))), (11, .int (nI 0)), (0, .ref (G 0)), (1, .ref (G 36)), (2, .ref (G 37)), (3, .ref (G 38)), (5, .int (nI t)), (6, .int (nI en)), (8, .int (nI i)), (9, .int (nI 1))]) hx hb dL_isSlot_627 hl (by decide) rfl (fun ls hl => ?_)
  refine lv_iload hx hb dL_isSlot_629 (lv_at hl 1 rfl) ?_
  refine lv_if_eq (tgt := 693) hx hb dL_isSlot_631 (by decide) (fun c_7 => absurd c_7 (by decide)) (fun _ => ?_)
  refine lv_iload hx hb dL_isSlot_634 (lv_at hl 0 rfl) ?_
  refine lv_if_eq (tgt := 689) hx hb dL_isSlot_636 (by decide) (fun _ => ?_) (fun c_8 => absurd (by decide) c_8) 
  refine lv_iconst (v := nI 1) hx hb dL_isSlot_689 (by decide) ?_
  refine lv_goto (tgt := 694) hx hb dL_isSlot_690 (by decide) ?_
  refine lv_istore (lv' := [(7, .int (nI 1)), (12, .int (nI 0)), (4, .int (nI (e9 + 1))), (11, .int (nI 0)), (0, .ref (G 0)), (1, .ref (G 36)), (2, .ref (G 37)), (3, .ref (G 38)), (5, .int (nI t)), (6, .int (nI en)), (8, .int (nI i)), (9, .int (nI 1))]) hx hb dL_isSlot_694 hl (by decide) rfl (fun ls hl => ?_)
  refine lv_aload_n hx hb dL_isSlot_696 rfl (lv_at hl 6 rfl) ?_
  refine lv_bipush (v := nI 8) hx hb dL_isSlot_697 (by decide) ?_
  refine lv_iload hx hb dL_isSlot_699 (lv_at hl 10 rfl) ?_
  refine x_imulN hx hb dL_isSlot_701 ?_
  refine lv_iload hx hb dL_isSlot_702 (lv_at hl 11 rfl) ?_
  refine lv_if_eq (tgt := 711) hx hb dL_isSlot_704 (by decide) (fun c_9 => absurd c_9 (by decide)) (fun _ => ?_)
  refine lv_iconst (v := nI 1) hx hb dL_isSlot_707 (by decide) ?_
  refine lv_goto (tgt := 712) hx hb dL_isSlot_708 (by decide) ?_
  refine x_astL hx hb hK hP hD hS 37 1 rfl (by decide) lF_37 (8 * i) (by omega) (by decide) dL_isSlot_712 (fun H locs hP hS => ?_)
  refine lv_iinc (v := nI (i + 1)) (lv' := [(8, .int (nI (i + 1))), (7, .int (nI 1)), (12, .int (nI 0)), (4, .int (nI (e9 + 1))), (11, .int (nI 0)), (0, .ref (G 0)), (1, .ref (G 36)), (2, .ref (G 37)), (3, .ref (G 38)), (5, .int (nI t)), (6, .int (nI en)), (9, .int (nI 1))]) hx hb dL_isSlot_713 hl (k := 10) rfl (nI_add _ _) (by decide) rfl (fun ls hl => ?_)
  refine lv_goto (tgt := 181) hx hb dL_isSlot_716 (by decide) ?_
  exact kk H locs ls hP hS (lv_sub hl [5, 6, 7, 8, 3, 9, 10, 1, 0] rfl)
set_option maxHeartbeats 1000000 in
set_option maxRecDepth 100000 in
theorem sg_G3 {F T : Mem} {t i dl pp e9 en : Nat} {cn : Nat} {dr : Int32} (hX : IX p s m args c D A cI cS G) (hi : i < 6) (hpp : pp < 16) (hp4 : ppc pp ≤ 4) (h2 : T 1 (8 * i + 2) = nI (cn + 1)) (h5 : T 1 (8 * i + 5) = nI dl) (h6 : T 1 (8 * i + 6) = nI pp) (h5F : F (6 + 5 * i) 5 = nI dl) (h2F : F (7 + 5 * i) 0 = nI cn) (hon : F (8 + 5 * i) 0 = nI 0) (h7d : T 1 (8 * i + 7) = dr) (h7F : F (6 + 5 * i) 6 = dr + (nI 1)) (hc5 : cn < 5) (hP : va_P D vwCl (WL 40 G (lF cI cS G) (cmb F T)) H) (hS : va_S A s.heap H locs) (hl : lv_has ls 13 [(0, .ref (G 0)), (1, .ref (G 36)), (2, .ref (G 37)), (3, .ref (G 38)), (4, .int (nI e9)), (5, .int (nI t)), (6, .int (nI en)), (7, .int (nI 1)), (8, .int (nI i)), (9, .int (nI 1))])
    (kk : ∀ (H : Heap) (locs : List Loc) (ls : Array Slot), va_P D vwCl (WL 40 G (lF cI cS G) (cmb F (ub T 1 (8 * i) (nI 1)))) H → va_S A s.heap H locs → lv_has ls 13 [(0, .ref (G 0)), (1, .ref (G 36)), (2, .ref (G 37)), (3, .ref (G 38)), (4, .int (nI (e9 + 1))), (5, .int (nI t)), (6, .int (nI en)), (7, .int (nI 1)), (8, .int (nI (i + 1)))] → W p l e ({ frames := 8, cells := 0, slots := 0, locals := 177 } : Room) s m args below meth c H locs 0 0 Q (F0 m 181 ls [])) : W p l e ({ frames := 8, cells := 0, slots := 0, locals := 177 } : Room) s m args below meth c H locs 0 0 Q (F0 m 506 ls []) := by
  obtain ⟨hx, hb, hml, hown, hts, hK, hD, hA, hN⟩ := hX
  refine lv_aload_n hx hb dL_isSlot_506 rfl (lv_at hl 0 rfl) ?_
  refine lv_iload hx hb dL_isSlot_507 (lv_at hl 8 rfl) ?_
  refine x_pi (va_runV (As := [.int (nI i)]) (rest := []) ⟨hx, hb, hml, hown, hts⟩ (c_X5_delivered l D cI cS G F H.size i (by omega)) (cwV 1 hts gL_isSlot_X5_delivered rfl rfl rfl (by decide +kernel) ⟨Nat.le_of_ble_eq_true rfl, Nat.le_of_ble_eq_true rfl⟩) ⟨wPc_blind, va_recv hK (L_P hP) (ci := 5) (q0 := 0) rfl (WL_at (by decide) (cF_air _)), wPc_at (L_P hP) hK (L_D hD) hN⟩ rfl rfl hl.1 rfl (lv_room (Nat.le_of_ble_eq_true rfl)) dL_isSlot_509 ⟨Nat.le_of_ble_eq_true rfl, Nat.le_of_ble_eq_true rfl⟩) hS hA (fun q h => h) (fun H locs hz hk hS => ?_)
  have hP := P_kept hP hk
  refine x_top (y := nI dl) ((f_X5_delivered_d _ _).trans h5F) ?_
  refine lv_aload_n hx hb dL_isSlot_512 rfl (lv_at hl 2 rfl) ?_
  refine lv_bipush (v := nI 8) hx hb dL_isSlot_513 (by decide) ?_
  refine lv_iload hx hb dL_isSlot_515 (lv_at hl 8 rfl) ?_
  refine x_imulN hx hb dL_isSlot_517 ?_
  refine lv_iconst (v := nI 5) hx hb dL_isSlot_518 (by decide) ?_
  refine x_iaddN hx hb dL_isSlot_519 ?_
  refine x_aldL hx hb hK hP 37 1 rfl (by decide) lF_37 ((8 * i) + 5) (by omega) (by decide) dL_isSlot_520 ?_
  refine x_top (y := nI dl) (h5) ?_
  refine lv_isub hx hb dL_isSlot_521 ?_
  refine x_top (y := nI 0) (by rw [pk_sub (Nat.le_refl _), Nat.sub_self]) ?_
  refine lv_istore (lv' := [(11, .int (nI 0)), (0, .ref (G 0)), (1, .ref (G 36)), (2, .ref (G 37)), (3, .ref (G 38)), (4, .int (nI e9)), (5, .int (nI t)), (6, .int (nI en)), (7, .int (nI 1)), (8, .int (nI i)), (9, .int (nI 1))]) hx hb dL_isSlot_522 hl (by decide) rfl (fun ls hl => ?_)
  refine lv_iload hx hb dL_isSlot_524 (lv_at hl 5 rfl) ?_
  refine lv_iload hx hb dL_isSlot_526 (lv_at hl 10 rfl) ?_
  refine lv_if_eq (tgt := 544) hx hb dL_isSlot_528 (by decide) (fun c_1 => absurd c_1 (by decide)) (fun _ => ?_)
  refine lv_aload_n hx hb dL_isSlot_531 rfl (lv_at hl 1 rfl) ?_
  refine lv_iload hx hb dL_isSlot_532 (lv_at hl 9 rfl) ?_
  refine x_pi (va_runV (As := [.int (nI i)]) (rest := [.int (nI e9)]) ⟨hx, hb, hml, hown, hts⟩ (c_X5_sends l D cI cS G F H.size i hi (by rw [hon]; rfl)) (cwV 1 hts gL_isSlot_X5_sends rfl rfl rfl (by decide +kernel) ⟨Nat.le_of_ble_eq_true rfl, Nat.le_of_ble_eq_true rfl⟩) ⟨wPc_blind, va_recv hK (L_P hP) (ci := 5) (q0 := 0) rfl (WL_at (by decide) (cF_air _)), wPc_at (L_P hP) hK (L_D hD) hN⟩ rfl rfl hl.1 rfl (lv_room (Nat.le_of_ble_eq_true rfl)) dL_isSlot_534 ⟨Nat.le_of_ble_eq_true rfl, Nat.le_of_ble_eq_true rfl⟩) hS hA (fun q h => h) (fun H locs hz hk hS => ?_)
  have hP := P_kept hP hk
  refine x_top (y := nI 0) ((f_X5_sends_d _ _).trans hon) ?_
  refine lv_if_ne (tgt := 544) hx hb dL_isSlot_537 (by decide) (fun c_2 => absurd (by decide) c_2) (fun _ => ?_)
  refine lv_iconst (v := nI 1) hx hb dL_isSlot_540 (by decide) ?_
  refine lv_goto (tgt := 545) hx hb dL_isSlot_541 (by decide) ?_
  refine x_iaddN hx hb dL_isSlot_545 ?_
  refine lv_istore (lv' := [(4, .int (nI (e9 + 1))), (11, .int (nI 0)), (0, .ref (G 0)), (1, .ref (G 36)), (2, .ref (G 37)), (3, .ref (G 38)), (5, .int (nI t)), (6, .int (nI en)), (7, .int (nI 1)), (8, .int (nI i)), (9, .int (nI 1))]) hx hb dL_isSlot_546 hl (by decide) rfl (fun ls hl => ?_)
  refine lv_iload hx hb dL_isSlot_548 (lv_at hl 8 rfl) ?_
  refine lv_if_eq (tgt := 608) hx hb dL_isSlot_550 (by decide) (fun c_3 => absurd c_3 (by decide)) (fun _ => ?_)
  refine lv_iload hx hb dL_isSlot_553 (lv_at hl 1 rfl) ?_
  refine lv_if_lt (tgt := 608) hx hb dL_isSlot_555 (by decide) (fun c_4 => absurd c_4 (by decide)) (fun _ => ?_)
  refine lv_iload hx hb dL_isSlot_558 (lv_at hl 1 rfl) ?_
  refine lv_aload_n hx hb dL_isSlot_560 rfl (lv_at hl 4 rfl) ?_
  refine lv_bipush (v := nI 8) hx hb dL_isSlot_561 (by decide) ?_
  refine lv_iload hx hb dL_isSlot_563 (lv_at hl 9 rfl) ?_
  refine x_imulN hx hb dL_isSlot_565 ?_
  refine lv_bipush (v := nI 6) hx hb dL_isSlot_566 (by decide) ?_
  refine x_iaddN hx hb dL_isSlot_568 ?_
  refine x_aldL hx hb hK hP 37 1 rfl (by decide) lF_37 ((8 * i) + 6) (by omega) (by decide) dL_isSlot_569 ?_
  refine x_top (y := nI pp) (h6) ?_
  refine x_pi (va_runS (As := [.int (nI pp)]) (rest := [.int (nI 0)]) ⟨hx, hb, hml, hown, hts⟩ (c_L_bits l H.size (nI pp)) (va_cwS 1 hts gL_isSlot_L_bits rfl rfl rfl (by decide +kernel) ⟨Nat.le_of_ble_eq_true rfl, Nat.le_of_ble_eq_true rfl⟩) ⟨sPc_blind, sPc_at hN⟩ rfl rfl hl.1 rfl (lv_room (Nat.le_of_ble_eq_true rfl)) dL_isSlot_570 ⟨Nat.le_of_ble_eq_true rfl, Nat.le_of_ble_eq_true rfl⟩) hS hA (fun q h => h) (fun H locs hz hk hS => ?_)
  have hP := P_kept hP hk
  refine x_top (y := nI (ppc pp)) (bits_tab pp hpp) ?_
  refine lv_icmp_gt (tgt := 608) hx hb dL_isSlot_573 (by decide) (fun c_5 => absurd c_5 (nI_nlt (Nat.zero_le _) (by omega))) (fun _ => ?_)
  refine lv_iload hx hb dL_isSlot_576 (lv_at hl 1 rfl) ?_
  refine lv_if_eq (tgt := 604) hx hb dL_isSlot_578 (by decide) (fun _ => ?_) (fun c_6 => absurd (by decide) c_6) 
  refine lv_iconst (v := nI 1) hx hb dL_isSlot_604 (by decide) ?_
  refine lv_goto (tgt := 609) hx hb dL_isSlot_605 (by decide) ?_
  refine lv_istore (lv' := [(7, .int (nI 1)), (4, .int (nI (e9 + 1))), (11, .int (nI 0)), (0, .ref (G 0)), (1, .ref (G 36)), (2, .ref (G 37)), (3, .ref (G 38)), (5, .int (nI t)), (6, .int (nI en)), (8, .int (nI i)), (9, .int (nI 1))]) hx hb dL_isSlot_609 hl (by decide) rfl (fun ls hl => ?_)
  refine lv_aload_n hx hb dL_isSlot_611 rfl (lv_at hl 5 rfl) ?_
  refine lv_bipush (v := nI 8) hx hb dL_isSlot_612 (by decide) ?_
  refine lv_iload hx hb dL_isSlot_614 (lv_at hl 9 rfl) ?_
  refine x_imulN hx hb dL_isSlot_616 ?_
  refine lv_iconst (v := nI 2) hx hb dL_isSlot_617 (by decide) ?_
  refine x_iaddN hx hb dL_isSlot_618 ?_
  refine x_aldL hx hb hK hP 37 1 rfl (by decide) lF_37 ((8 * i) + 2) (by omega) (by decide) dL_isSlot_619 ?_
  refine x_top (y := nI (cn + 1)) (h2) ?_
  refine lv_aload_n hx hb dL_isSlot_620 rfl (lv_at hl 3 rfl) ?_
  refine lv_iload hx hb dL_isSlot_621 (lv_at hl 9 rfl) ?_
  refine x_pi (va_runV (As := [.int (nI i)]) (rest := [.int (nI (cn + 1))]) ⟨hx, hb, hml, hown, hts⟩ (c_X5_frames l D cI cS G F H.size i (by omega)) (cwV 1 hts gL_isSlot_X5_frames rfl rfl rfl (by decide +kernel) ⟨Nat.le_of_ble_eq_true rfl, Nat.le_of_ble_eq_true rfl⟩) ⟨wPc_blind, va_recv hK (L_P hP) (ci := 5) (q0 := 0) rfl (WL_at (by decide) (cF_air _)), wPc_at (L_P hP) hK (L_D hD) hN⟩ rfl rfl hl.1 rfl (lv_room (Nat.le_of_ble_eq_true rfl)) dL_isSlot_623 ⟨Nat.le_of_ble_eq_true rfl, Nat.le_of_ble_eq_true rfl⟩) hS hA (fun q h => h) (fun H locs hz hk hS => ?_)
  have hP := P_kept hP hk
  refine x_top (y := nI cn) ((f_X5_frames_d _ _).trans h2F) ?_
  refine lv_isub hx hb dL_isSlot_626 ?_
  refine x_top (y := nI 1) (by rw [pk_sub (Nat.le_succ _), Nat.succ_sub (Nat.le_refl _), Nat.sub_self]) ?_
  refine lv_istore (lv' := [(12, .int (nI 1)), (7, .int (nI 1)), (4, .int (nI (e9 + 1))), (11, .int (nI 0)), (0, .ref (G 0)), (1, .ref (G 36)), (2, .ref (G 37)), (3, .ref (G 38)), (5, .int (nI t)), (6, .int (nI en)), (8, .int (nI i)), (9, .int (nI 1))]) hx hb dL_isSlot_627 hl (by decide) rfl (fun ls hl => ?_)
  refine lv_iload hx hb dL_isSlot_629 (lv_at hl 1 rfl) ?_
  refine lv_if_eq (tgt := 693) hx hb dL_isSlot_631 (by decide) (fun c_7 => absurd c_7 (by decide)) (fun _ => ?_)
  refine lv_iload hx hb dL_isSlot_634 (lv_at hl 0 rfl) ?_
  refine lv_if_eq (tgt := 689) hx hb dL_isSlot_636 (by decide) (fun c_8 => absurd c_8 (by decide)) (fun _ => ?_)
  refine lv_iload hx hb dL_isSlot_639 (lv_at hl 0 rfl) ?_
  refine lv_iconst (v := nI 1) hx hb dL_isSlot_641 (by decide) ?_
  refine lv_icmp_ne (tgt := 693) hx hb dL_isSlot_642 (by decide) (fun c_9 => absurd (by decide) c_9) (fun _ => ?_)
  refine lv_aload_n hx hb dL_isSlot_645 rfl (lv_at hl 4 rfl) ?_
  refine lv_iload hx hb dL_isSlot_646 (lv_at hl 10 rfl) ?_
  refine x_pi (va_runV (As := [.int (nI i)]) (rest := []) ⟨hx, hb, hml, hown, hts⟩ (c_X5_dropped l D cI cS G F H.size i (by omega)) (cwV 1 hts gL_isSlot_X5_dropped rfl rfl rfl (by decide +kernel) ⟨Nat.le_of_ble_eq_true rfl, Nat.le_of_ble_eq_true rfl⟩) ⟨wPc_blind, va_recv hK (L_P hP) (ci := 5) (q0 := 0) rfl (WL_at (by decide) (cF_air _)), wPc_at (L_P hP) hK (L_D hD) hN⟩ rfl rfl hl.1 rfl (lv_room (Nat.le_of_ble_eq_true rfl)) dL_isSlot_648 ⟨Nat.le_of_ble_eq_true rfl, Nat.le_of_ble_eq_true rfl⟩) hS hA (fun q h => h) (fun H locs hz hk hS => ?_)
  have hP := P_kept hP hk
  refine x_top (y := dr + (nI 1)) ((f_X5_dropped_d _ _).trans h7F) ?_
  refine lv_aload_n hx hb dL_isSlot_651 rfl (lv_at hl 6 rfl) ?_
  refine lv_bipush (v := nI 8) hx hb dL_isSlot_652 (by decide) ?_
  refine lv_iload hx hb dL_isSlot_654 (lv_at hl 10 rfl) ?_
  refine x_imulN hx hb dL_isSlot_656 ?_
  refine lv_bipush (v := nI 7) hx hb dL_isSlot_657 (by decide) ?_
  refine x_iaddN hx hb dL_isSlot_659 ?_
  refine x_aldL hx hb hK hP 37 1 rfl (by decide) lF_37 ((8 * i) + 7) (by omega) (by decide) dL_isSlot_660 ?_
  refine x_top (y := dr) (h7d) ?_
  refine lv_iconst (v := nI 1) hx hb dL_isSlot_661 (by decide) ?_
  refine lv_iadd hx hb dL_isSlot_662 ?_
  refine lv_icmp_ne (tgt := 671) hx hb dL_isSlot_663 (by decide) (fun c_10 => absurd rfl c_10) (fun _ => ?_)
  refine lv_iload hx hb dL_isSlot_666 (lv_at hl 3 rfl) ?_
  refine lv_if_eq (tgt := 689) hx hb dL_isSlot_668 (by decide) (fun _ => ?_) (fun c_11 => absurd (by decide) c_11) 
  refine lv_iconst (v := nI 1) hx hb dL_isSlot_689 (by decide) ?_
  refine lv_goto (tgt := 694) hx hb dL_isSlot_690 (by decide) ?_
  refine lv_istore (lv' := [(7, .int (nI 1)), (12, .int (nI 1)), (4, .int (nI (e9 + 1))), (11, .int (nI 0)), (0, .ref (G 0)), (1, .ref (G 36)), (2, .ref (G 37)), (3, .ref (G 38)), (5, .int (nI t)), (6, .int (nI en)), (8, .int (nI i)), (9, .int (nI 1))]) hx hb dL_isSlot_694 hl (by decide) rfl (fun ls hl => ?_)
  refine lv_aload_n hx hb dL_isSlot_696 rfl (lv_at hl 6 rfl) ?_
  refine lv_bipush (v := nI 8) hx hb dL_isSlot_697 (by decide) ?_
  refine lv_iload hx hb dL_isSlot_699 (lv_at hl 10 rfl) ?_
  refine x_imulN hx hb dL_isSlot_701 ?_
  refine lv_iload hx hb dL_isSlot_702 (lv_at hl 11 rfl) ?_
  refine lv_if_eq (tgt := 711) hx hb dL_isSlot_704 (by decide) (fun c_12 => absurd c_12 (by decide)) (fun _ => ?_)
  refine lv_iconst (v := nI 1) hx hb dL_isSlot_707 (by decide) ?_
  refine lv_goto (tgt := 712) hx hb dL_isSlot_708 (by decide) ?_
  refine x_astL hx hb hK hP hD hS 37 1 rfl (by decide) lF_37 (8 * i) (by omega) (by decide) dL_isSlot_712 (fun H locs hP hS => ?_)
  refine lv_iinc (v := nI (i + 1)) (lv' := [(8, .int (nI (i + 1))), (7, .int (nI 1)), (12, .int (nI 1)), (4, .int (nI (e9 + 1))), (11, .int (nI 0)), (0, .ref (G 0)), (1, .ref (G 36)), (2, .ref (G 37)), (3, .ref (G 38)), (5, .int (nI t)), (6, .int (nI en)), (9, .int (nI 1))]) hx hb dL_isSlot_713 hl (k := 10) rfl (nI_add _ _) (by decide) rfl (fun ls hl => ?_)
  refine lv_goto (tgt := 181) hx hb dL_isSlot_716 (by decide) ?_
  exact kk H locs ls hP hS (lv_sub hl [5, 6, 7, 8, 3, 9, 10, 1, 0] rfl)
set_option maxHeartbeats 1000000 in
set_option maxRecDepth 100000 in
theorem sg_G4a {F T : Mem} {t i dl pp e9 en : Nat} {fr : Int32} {g : Nat} (hX : IX p s m args c D A cI cS G) (hi : i < 6) (hpp : pp < 16) (hp4 : ppc pp ≤ 4) (h2 : T 1 (8 * i + 2) = fr) (h5 : T 1 (8 * i + 5) = nI dl) (h6 : T 1 (8 * i + 6) = nI pp) (h5F : F (6 + 5 * i) 5 = nI (dl + g)) (h2F : F (7 + 5 * i) 0 = fr) (hon : F (8 + 5 * i) 0 = nI 0) (hg : g ≤ ppc pp) (hg0 : 0 < g) (h3F : F (6 + 5 * i) 3 = nI 0) (hP : va_P D vwCl (WL 40 G (lF cI cS G) (cmb F T)) H) (hS : va_S A s.heap H locs) (hl : lv_has ls 13 [(0, .ref (G 0)), (1, .ref (G 36)), (2, .ref (G 37)), (3, .ref (G 38)), (4, .int (nI e9)), (5, .int (nI t)), (6, .int (nI en)), (7, .int (nI 1)), (8, .int (nI i)), (9, .int (nI 1))])
    (kk : ∀ (H : Heap) (locs : List Loc) (ls : Array Slot), va_P D vwCl (WL 40 G (lF cI cS G) (cmb F (ub T 1 (8 * i) (nI 1)))) H → va_S A s.heap H locs → lv_has ls 13 [(0, .ref (G 0)), (1, .ref (G 36)), (2, .ref (G 37)), (3, .ref (G 38)), (4, .int (nI (e9 + 1))), (5, .int (nI t)), (6, .int (nI en)), (7, .int (nI 1)), (8, .int (nI (i + 1)))] → W p l e ({ frames := 8, cells := 0, slots := 0, locals := 177 } : Room) s m args below meth c H locs 0 0 Q (F0 m 181 ls [])) : W p l e ({ frames := 8, cells := 0, slots := 0, locals := 177 } : Room) s m args below meth c H locs 0 0 Q (F0 m 506 ls []) := by
  obtain ⟨hx, hb, hml, hown, hts, hK, hD, hA, hN⟩ := hX
  refine lv_aload_n hx hb dL_isSlot_506 rfl (lv_at hl 0 rfl) ?_
  refine lv_iload hx hb dL_isSlot_507 (lv_at hl 8 rfl) ?_
  refine x_pi (va_runV (As := [.int (nI i)]) (rest := []) ⟨hx, hb, hml, hown, hts⟩ (c_X5_delivered l D cI cS G F H.size i (by omega)) (cwV 1 hts gL_isSlot_X5_delivered rfl rfl rfl (by decide +kernel) ⟨Nat.le_of_ble_eq_true rfl, Nat.le_of_ble_eq_true rfl⟩) ⟨wPc_blind, va_recv hK (L_P hP) (ci := 5) (q0 := 0) rfl (WL_at (by decide) (cF_air _)), wPc_at (L_P hP) hK (L_D hD) hN⟩ rfl rfl hl.1 rfl (lv_room (Nat.le_of_ble_eq_true rfl)) dL_isSlot_509 ⟨Nat.le_of_ble_eq_true rfl, Nat.le_of_ble_eq_true rfl⟩) hS hA (fun q h => h) (fun H locs hz hk hS => ?_)
  have hP := P_kept hP hk
  refine x_top (y := nI (dl + g)) ((f_X5_delivered_d _ _).trans h5F) ?_
  refine lv_aload_n hx hb dL_isSlot_512 rfl (lv_at hl 2 rfl) ?_
  refine lv_bipush (v := nI 8) hx hb dL_isSlot_513 (by decide) ?_
  refine lv_iload hx hb dL_isSlot_515 (lv_at hl 8 rfl) ?_
  refine x_imulN hx hb dL_isSlot_517 ?_
  refine lv_iconst (v := nI 5) hx hb dL_isSlot_518 (by decide) ?_
  refine x_iaddN hx hb dL_isSlot_519 ?_
  refine x_aldL hx hb hK hP 37 1 rfl (by decide) lF_37 ((8 * i) + 5) (by omega) (by decide) dL_isSlot_520 ?_
  refine x_top (y := nI dl) (h5) ?_
  refine lv_isub hx hb dL_isSlot_521 ?_
  refine x_top (y := nI g) (by rw [pk_sub (Nat.le_add_right _ _), Nat.add_sub_cancel_left]) ?_
  refine lv_istore (lv' := [(11, .int (nI g)), (0, .ref (G 0)), (1, .ref (G 36)), (2, .ref (G 37)), (3, .ref (G 38)), (4, .int (nI e9)), (5, .int (nI t)), (6, .int (nI en)), (7, .int (nI 1)), (8, .int (nI i)), (9, .int (nI 1))]) hx hb dL_isSlot_522 hl (by decide) rfl (fun ls hl => ?_)
  refine lv_iload hx hb dL_isSlot_524 (lv_at hl 5 rfl) ?_
  refine lv_iload hx hb dL_isSlot_526 (lv_at hl 10 rfl) ?_
  refine lv_if_eq (tgt := 544) hx hb dL_isSlot_528 (by decide) (fun c_1 => absurd c_1 (by decide)) (fun _ => ?_)
  refine lv_aload_n hx hb dL_isSlot_531 rfl (lv_at hl 1 rfl) ?_
  refine lv_iload hx hb dL_isSlot_532 (lv_at hl 9 rfl) ?_
  refine x_pi (va_runV (As := [.int (nI i)]) (rest := [.int (nI e9)]) ⟨hx, hb, hml, hown, hts⟩ (c_X5_sends l D cI cS G F H.size i hi (by rw [hon]; rfl)) (cwV 1 hts gL_isSlot_X5_sends rfl rfl rfl (by decide +kernel) ⟨Nat.le_of_ble_eq_true rfl, Nat.le_of_ble_eq_true rfl⟩) ⟨wPc_blind, va_recv hK (L_P hP) (ci := 5) (q0 := 0) rfl (WL_at (by decide) (cF_air _)), wPc_at (L_P hP) hK (L_D hD) hN⟩ rfl rfl hl.1 rfl (lv_room (Nat.le_of_ble_eq_true rfl)) dL_isSlot_534 ⟨Nat.le_of_ble_eq_true rfl, Nat.le_of_ble_eq_true rfl⟩) hS hA (fun q h => h) (fun H locs hz hk hS => ?_)
  have hP := P_kept hP hk
  refine x_top (y := nI 0) ((f_X5_sends_d _ _).trans hon) ?_
  refine lv_if_ne (tgt := 544) hx hb dL_isSlot_537 (by decide) (fun c_2 => absurd (by decide) c_2) (fun _ => ?_)
  refine lv_iconst (v := nI 1) hx hb dL_isSlot_540 (by decide) ?_
  refine lv_goto (tgt := 545) hx hb dL_isSlot_541 (by decide) ?_
  refine x_iaddN hx hb dL_isSlot_545 ?_
  refine lv_istore (lv' := [(4, .int (nI (e9 + 1))), (11, .int (nI g)), (0, .ref (G 0)), (1, .ref (G 36)), (2, .ref (G 37)), (3, .ref (G 38)), (5, .int (nI t)), (6, .int (nI en)), (7, .int (nI 1)), (8, .int (nI i)), (9, .int (nI 1))]) hx hb dL_isSlot_546 hl (by decide) rfl (fun ls hl => ?_)
  refine lv_iload hx hb dL_isSlot_548 (lv_at hl 8 rfl) ?_
  refine lv_if_eq (tgt := 608) hx hb dL_isSlot_550 (by decide) (fun c_3 => absurd c_3 (by decide)) (fun _ => ?_)
  refine lv_iload hx hb dL_isSlot_553 (lv_at hl 1 rfl) ?_
  refine lv_if_lt (tgt := 608) hx hb dL_isSlot_555 (by decide) (fun c_4 => absurd c_4 (nI_pos (by omega))) (fun _ => ?_)
  refine lv_iload hx hb dL_isSlot_558 (lv_at hl 1 rfl) ?_
  refine lv_aload_n hx hb dL_isSlot_560 rfl (lv_at hl 4 rfl) ?_
  refine lv_bipush (v := nI 8) hx hb dL_isSlot_561 (by decide) ?_
  refine lv_iload hx hb dL_isSlot_563 (lv_at hl 9 rfl) ?_
  refine x_imulN hx hb dL_isSlot_565 ?_
  refine lv_bipush (v := nI 6) hx hb dL_isSlot_566 (by decide) ?_
  refine x_iaddN hx hb dL_isSlot_568 ?_
  refine x_aldL hx hb hK hP 37 1 rfl (by decide) lF_37 ((8 * i) + 6) (by omega) (by decide) dL_isSlot_569 ?_
  refine x_top (y := nI pp) (h6) ?_
  refine x_pi (va_runS (As := [.int (nI pp)]) (rest := [.int (nI g)]) ⟨hx, hb, hml, hown, hts⟩ (c_L_bits l H.size (nI pp)) (va_cwS 1 hts gL_isSlot_L_bits rfl rfl rfl (by decide +kernel) ⟨Nat.le_of_ble_eq_true rfl, Nat.le_of_ble_eq_true rfl⟩) ⟨sPc_blind, sPc_at hN⟩ rfl rfl hl.1 rfl (lv_room (Nat.le_of_ble_eq_true rfl)) dL_isSlot_570 ⟨Nat.le_of_ble_eq_true rfl, Nat.le_of_ble_eq_true rfl⟩) hS hA (fun q h => h) (fun H locs hz hk hS => ?_)
  have hP := P_kept hP hk
  refine x_top (y := nI (ppc pp)) (bits_tab pp hpp) ?_
  refine lv_icmp_gt (tgt := 608) hx hb dL_isSlot_573 (by decide) (fun c_5 => absurd c_5 (nI_nlt hg (by omega))) (fun _ => ?_)
  refine lv_iload hx hb dL_isSlot_576 (lv_at hl 1 rfl) ?_
  refine lv_if_eq (tgt := 604) hx hb dL_isSlot_578 (by decide) (fun c_6 => absurd c_6 (nI_ne0 hg0 (by omega))) (fun _ => ?_)
  refine lv_iload hx hb dL_isSlot_581 (lv_at hl 10 rfl) ?_
  refine lv_if_eq (tgt := 608) hx hb dL_isSlot_583 (by decide) (fun c_7 => absurd c_7 (by decide)) (fun _ => ?_)
  refine lv_aload_n hx hb dL_isSlot_586 rfl (lv_at hl 2 rfl) ?_
  refine lv_iload hx hb dL_isSlot_587 (lv_at hl 9 rfl) ?_
  refine x_pi (va_runV (As := [.int (nI i)]) (rest := []) ⟨hx, hb, hml, hown, hts⟩ (c_X5_sends l D cI cS G F H.size i hi (by rw [hon]; rfl)) (cwV 1 hts gL_isSlot_X5_sends rfl rfl rfl (by decide +kernel) ⟨Nat.le_of_ble_eq_true rfl, Nat.le_of_ble_eq_true rfl⟩) ⟨wPc_blind, va_recv hK (L_P hP) (ci := 5) (q0 := 0) rfl (WL_at (by decide) (cF_air _)), wPc_at (L_P hP) hK (L_D hD) hN⟩ rfl rfl hl.1 rfl (lv_room (Nat.le_of_ble_eq_true rfl)) dL_isSlot_589 ⟨Nat.le_of_ble_eq_true rfl, Nat.le_of_ble_eq_true rfl⟩) hS hA (fun q h => h) (fun H locs hz hk hS => ?_)
  have hP := P_kept hP hk
  refine x_top (y := nI 0) ((f_X5_sends_d _ _).trans hon) ?_
  refine lv_if_ne (tgt := 608) hx hb dL_isSlot_592 (by decide) (fun c_8 => absurd (by decide) c_8) (fun _ => ?_)
  refine lv_aload_n hx hb dL_isSlot_595 rfl (lv_at hl 2 rfl) ?_
  refine lv_iload hx hb dL_isSlot_596 (lv_at hl 9 rfl) ?_
  refine x_pi (va_runV (As := [.int (nI i)]) (rest := []) ⟨hx, hb, hml, hown, hts⟩ (c_X5_failures l D cI cS G F H.size i (by omega)) (cwV 1 hts gL_isSlot_X5_failures rfl rfl rfl (by decide +kernel) ⟨Nat.le_of_ble_eq_true rfl, Nat.le_of_ble_eq_true rfl⟩) ⟨wPc_blind, va_recv hK (L_P hP) (ci := 5) (q0 := 0) rfl (WL_at (by decide) (cF_air _)), wPc_at (L_P hP) hK (L_D hD) hN⟩ rfl rfl hl.1 rfl (lv_room (Nat.le_of_ble_eq_true rfl)) dL_isSlot_598 ⟨Nat.le_of_ble_eq_true rfl, Nat.le_of_ble_eq_true rfl⟩) hS hA (fun q h => h) (fun H locs hz hk hS => ?_)
  have hP := P_kept hP hk
  refine x_top (y := nI 0) ((f_X5_failures_d _ _).trans h3F) ?_
  refine lv_if_ne (tgt := 608) hx hb dL_isSlot_601 (by decide) (fun c_9 => absurd (by decide) c_9) (fun _ => ?_)
  refine lv_iconst (v := nI 1) hx hb dL_isSlot_604 (by decide) ?_
  refine lv_goto (tgt := 609) hx hb dL_isSlot_605 (by decide) ?_
  refine lv_istore (lv' := [(7, .int (nI 1)), (4, .int (nI (e9 + 1))), (11, .int (nI g)), (0, .ref (G 0)), (1, .ref (G 36)), (2, .ref (G 37)), (3, .ref (G 38)), (5, .int (nI t)), (6, .int (nI en)), (8, .int (nI i)), (9, .int (nI 1))]) hx hb dL_isSlot_609 hl (by decide) rfl (fun ls hl => ?_)
  refine lv_aload_n hx hb dL_isSlot_611 rfl (lv_at hl 5 rfl) ?_
  refine lv_bipush (v := nI 8) hx hb dL_isSlot_612 (by decide) ?_
  refine lv_iload hx hb dL_isSlot_614 (lv_at hl 9 rfl) ?_
  refine x_imulN hx hb dL_isSlot_616 ?_
  refine lv_iconst (v := nI 2) hx hb dL_isSlot_617 (by decide) ?_
  refine x_iaddN hx hb dL_isSlot_618 ?_
  refine x_aldL hx hb hK hP 37 1 rfl (by decide) lF_37 ((8 * i) + 2) (by omega) (by decide) dL_isSlot_619 ?_
  refine x_top (y := fr) (h2) ?_
  refine lv_aload_n hx hb dL_isSlot_620 rfl (lv_at hl 3 rfl) ?_
  refine lv_iload hx hb dL_isSlot_621 (lv_at hl 9 rfl) ?_
  refine x_pi (va_runV (As := [.int (nI i)]) (rest := [.int fr]) ⟨hx, hb, hml, hown, hts⟩ (c_X5_frames l D cI cS G F H.size i (by omega)) (cwV 1 hts gL_isSlot_X5_frames rfl rfl rfl (by decide +kernel) ⟨Nat.le_of_ble_eq_true rfl, Nat.le_of_ble_eq_true rfl⟩) ⟨wPc_blind, va_recv hK (L_P hP) (ci := 5) (q0 := 0) rfl (WL_at (by decide) (cF_air _)), wPc_at (L_P hP) hK (L_D hD) hN⟩ rfl rfl hl.1 rfl (lv_room (Nat.le_of_ble_eq_true rfl)) dL_isSlot_623 ⟨Nat.le_of_ble_eq_true rfl, Nat.le_of_ble_eq_true rfl⟩) hS hA (fun q h => h) (fun H locs hz hk hS => ?_)
  have hP := P_kept hP hk
  refine x_top (y := fr) ((f_X5_frames_d _ _).trans h2F) ?_
  refine lv_isub hx hb dL_isSlot_626 ?_
  refine x_top (y := nI 0) (by rw [Int32.sub_self]; rfl) ?_
  refine lv_istore (lv' := [(12, .int (nI 0)), (7, .int (nI 1)), (4, .int (nI (e9 + 1))), (11, .int (nI g)), (0, .ref (G 0)), (1, .ref (G 36)), (2, .ref (G 37)), (3, .ref (G 38)), (5, .int (nI t)), (6, .int (nI en)), (8, .int (nI i)), (9, .int (nI 1))]) hx hb dL_isSlot_627 hl (by decide) rfl (fun ls hl => ?_)
  refine lv_iload hx hb dL_isSlot_629 (lv_at hl 1 rfl) ?_
  refine lv_if_eq (tgt := 693) hx hb dL_isSlot_631 (by decide) (fun c_10 => absurd c_10 (by decide)) (fun _ => ?_)
  refine lv_iload hx hb dL_isSlot_634 (lv_at hl 0 rfl) ?_
  refine lv_if_eq (tgt := 689) hx hb dL_isSlot_636 (by decide) (fun _ => ?_) (fun c_11 => absurd (by decide) c_11) 
  refine lv_iconst (v := nI 1) hx hb dL_isSlot_689 (by decide) ?_
  refine lv_goto (tgt := 694) hx hb dL_isSlot_690 (by decide) ?_
  refine lv_istore (lv' := [(7, .int (nI 1)), (12, .int (nI 0)), (4, .int (nI (e9 + 1))), (11, .int (nI g)), (0, .ref (G 0)), (1, .ref (G 36)), (2, .ref (G 37)), (3, .ref (G 38)), (5, .int (nI t)), (6, .int (nI en)), (8, .int (nI i)), (9, .int (nI 1))]) hx hb dL_isSlot_694 hl (by decide) rfl (fun ls hl => ?_)
  refine lv_aload_n hx hb dL_isSlot_696 rfl (lv_at hl 6 rfl) ?_
  refine lv_bipush (v := nI 8) hx hb dL_isSlot_697 (by decide) ?_
  refine lv_iload hx hb dL_isSlot_699 (lv_at hl 10 rfl) ?_
  refine x_imulN hx hb dL_isSlot_701 ?_
  refine lv_iload hx hb dL_isSlot_702 (lv_at hl 11 rfl) ?_
  refine lv_if_eq (tgt := 711) hx hb dL_isSlot_704 (by decide) (fun c_12 => absurd c_12 (by decide)) (fun _ => ?_)
  refine lv_iconst (v := nI 1) hx hb dL_isSlot_707 (by decide) ?_
  refine lv_goto (tgt := 712) hx hb dL_isSlot_708 (by decide) ?_
  refine x_astL hx hb hK hP hD hS 37 1 rfl (by decide) lF_37 (8 * i) (by omega) (by decide) dL_isSlot_712 (fun H locs hP hS => ?_)
  refine lv_iinc (v := nI (i + 1)) (lv' := [(8, .int (nI (i + 1))), (7, .int (nI 1)), (12, .int (nI 0)), (4, .int (nI (e9 + 1))), (11, .int (nI g)), (0, .ref (G 0)), (1, .ref (G 36)), (2, .ref (G 37)), (3, .ref (G 38)), (5, .int (nI t)), (6, .int (nI en)), (9, .int (nI 1))]) hx hb dL_isSlot_713 hl (k := 10) rfl (nI_add _ _) (by decide) rfl (fun ls hl => ?_)
  refine lv_goto (tgt := 181) hx hb dL_isSlot_716 (by decide) ?_
  exact kk H locs ls hP hS (lv_sub hl [5, 6, 7, 8, 3, 9, 10, 1, 0] rfl)
set_option maxHeartbeats 1000000 in
set_option maxRecDepth 100000 in
theorem sg_G4b {F T : Mem} {t i dl pp e9 en : Nat} {cn : Nat} {dr : Int32} (hX : IX p s m args c D A cI cS G) (hi : i < 6) (hpp : pp < 16) (hp4 : ppc pp ≤ 4) (h2 : T 1 (8 * i + 2) = nI (cn + 1)) (h5 : T 1 (8 * i + 5) = nI dl) (h6 : T 1 (8 * i + 6) = nI pp) (h5F : F (6 + 5 * i) 5 = nI (dl + ppc pp)) (h2F : F (7 + 5 * i) 0 = nI cn) (hon : F (8 + 5 * i) 0 = nI 0) (h7d : T 1 (8 * i + 7) = dr) (h7F : F (6 + 5 * i) 6 = dr) (hg : ppc pp ≤ ppc pp) (hg0 : 0 < ppc pp) (h3F : F (6 + 5 * i) 3 = nI 0) (hc5 : cn < 5) (hP : va_P D vwCl (WL 40 G (lF cI cS G) (cmb F T)) H) (hS : va_S A s.heap H locs) (hl : lv_has ls 13 [(0, .ref (G 0)), (1, .ref (G 36)), (2, .ref (G 37)), (3, .ref (G 38)), (4, .int (nI e9)), (5, .int (nI t)), (6, .int (nI en)), (7, .int (nI 1)), (8, .int (nI i)), (9, .int (nI 1))])
    (kk : ∀ (H : Heap) (locs : List Loc) (ls : Array Slot), va_P D vwCl (WL 40 G (lF cI cS G) (cmb F (ub T 1 (8 * i) (nI 1)))) H → va_S A s.heap H locs → lv_has ls 13 [(0, .ref (G 0)), (1, .ref (G 36)), (2, .ref (G 37)), (3, .ref (G 38)), (4, .int (nI (e9 + 1))), (5, .int (nI t)), (6, .int (nI en)), (7, .int (nI 1)), (8, .int (nI (i + 1)))] → W p l e ({ frames := 8, cells := 0, slots := 0, locals := 177 } : Room) s m args below meth c H locs 0 0 Q (F0 m 181 ls [])) : W p l e ({ frames := 8, cells := 0, slots := 0, locals := 177 } : Room) s m args below meth c H locs 0 0 Q (F0 m 506 ls []) := by
  obtain ⟨hx, hb, hml, hown, hts, hK, hD, hA, hN⟩ := hX
  refine lv_aload_n hx hb dL_isSlot_506 rfl (lv_at hl 0 rfl) ?_
  refine lv_iload hx hb dL_isSlot_507 (lv_at hl 8 rfl) ?_
  refine x_pi (va_runV (As := [.int (nI i)]) (rest := []) ⟨hx, hb, hml, hown, hts⟩ (c_X5_delivered l D cI cS G F H.size i (by omega)) (cwV 1 hts gL_isSlot_X5_delivered rfl rfl rfl (by decide +kernel) ⟨Nat.le_of_ble_eq_true rfl, Nat.le_of_ble_eq_true rfl⟩) ⟨wPc_blind, va_recv hK (L_P hP) (ci := 5) (q0 := 0) rfl (WL_at (by decide) (cF_air _)), wPc_at (L_P hP) hK (L_D hD) hN⟩ rfl rfl hl.1 rfl (lv_room (Nat.le_of_ble_eq_true rfl)) dL_isSlot_509 ⟨Nat.le_of_ble_eq_true rfl, Nat.le_of_ble_eq_true rfl⟩) hS hA (fun q h => h) (fun H locs hz hk hS => ?_)
  have hP := P_kept hP hk
  refine x_top (y := nI (dl + ppc pp)) ((f_X5_delivered_d _ _).trans h5F) ?_
  refine lv_aload_n hx hb dL_isSlot_512 rfl (lv_at hl 2 rfl) ?_
  refine lv_bipush (v := nI 8) hx hb dL_isSlot_513 (by decide) ?_
  refine lv_iload hx hb dL_isSlot_515 (lv_at hl 8 rfl) ?_
  refine x_imulN hx hb dL_isSlot_517 ?_
  refine lv_iconst (v := nI 5) hx hb dL_isSlot_518 (by decide) ?_
  refine x_iaddN hx hb dL_isSlot_519 ?_
  refine x_aldL hx hb hK hP 37 1 rfl (by decide) lF_37 ((8 * i) + 5) (by omega) (by decide) dL_isSlot_520 ?_
  refine x_top (y := nI dl) (h5) ?_
  refine lv_isub hx hb dL_isSlot_521 ?_
  refine x_top (y := nI (ppc pp)) (by rw [pk_sub (Nat.le_add_right _ _), Nat.add_sub_cancel_left]) ?_
  refine lv_istore (lv' := [(11, .int (nI (ppc pp))), (0, .ref (G 0)), (1, .ref (G 36)), (2, .ref (G 37)), (3, .ref (G 38)), (4, .int (nI e9)), (5, .int (nI t)), (6, .int (nI en)), (7, .int (nI 1)), (8, .int (nI i)), (9, .int (nI 1))]) hx hb dL_isSlot_522 hl (by decide) rfl (fun ls hl => ?_)
  refine lv_iload hx hb dL_isSlot_524 (lv_at hl 5 rfl) ?_
  refine lv_iload hx hb dL_isSlot_526 (lv_at hl 10 rfl) ?_
  refine lv_if_eq (tgt := 544) hx hb dL_isSlot_528 (by decide) (fun c_1 => absurd c_1 (by decide)) (fun _ => ?_)
  refine lv_aload_n hx hb dL_isSlot_531 rfl (lv_at hl 1 rfl) ?_
  refine lv_iload hx hb dL_isSlot_532 (lv_at hl 9 rfl) ?_
  refine x_pi (va_runV (As := [.int (nI i)]) (rest := [.int (nI e9)]) ⟨hx, hb, hml, hown, hts⟩ (c_X5_sends l D cI cS G F H.size i hi (by rw [hon]; rfl)) (cwV 1 hts gL_isSlot_X5_sends rfl rfl rfl (by decide +kernel) ⟨Nat.le_of_ble_eq_true rfl, Nat.le_of_ble_eq_true rfl⟩) ⟨wPc_blind, va_recv hK (L_P hP) (ci := 5) (q0 := 0) rfl (WL_at (by decide) (cF_air _)), wPc_at (L_P hP) hK (L_D hD) hN⟩ rfl rfl hl.1 rfl (lv_room (Nat.le_of_ble_eq_true rfl)) dL_isSlot_534 ⟨Nat.le_of_ble_eq_true rfl, Nat.le_of_ble_eq_true rfl⟩) hS hA (fun q h => h) (fun H locs hz hk hS => ?_)
  have hP := P_kept hP hk
  refine x_top (y := nI 0) ((f_X5_sends_d _ _).trans hon) ?_
  refine lv_if_ne (tgt := 544) hx hb dL_isSlot_537 (by decide) (fun c_2 => absurd (by decide) c_2) (fun _ => ?_)
  refine lv_iconst (v := nI 1) hx hb dL_isSlot_540 (by decide) ?_
  refine lv_goto (tgt := 545) hx hb dL_isSlot_541 (by decide) ?_
  refine x_iaddN hx hb dL_isSlot_545 ?_
  refine lv_istore (lv' := [(4, .int (nI (e9 + 1))), (11, .int (nI (ppc pp))), (0, .ref (G 0)), (1, .ref (G 36)), (2, .ref (G 37)), (3, .ref (G 38)), (5, .int (nI t)), (6, .int (nI en)), (7, .int (nI 1)), (8, .int (nI i)), (9, .int (nI 1))]) hx hb dL_isSlot_546 hl (by decide) rfl (fun ls hl => ?_)
  refine lv_iload hx hb dL_isSlot_548 (lv_at hl 8 rfl) ?_
  refine lv_if_eq (tgt := 608) hx hb dL_isSlot_550 (by decide) (fun c_3 => absurd c_3 (by decide)) (fun _ => ?_)
  refine lv_iload hx hb dL_isSlot_553 (lv_at hl 1 rfl) ?_
  refine lv_if_lt (tgt := 608) hx hb dL_isSlot_555 (by decide) (fun c_4 => absurd c_4 (nI_pos (by omega))) (fun _ => ?_)
  refine lv_iload hx hb dL_isSlot_558 (lv_at hl 1 rfl) ?_
  refine lv_aload_n hx hb dL_isSlot_560 rfl (lv_at hl 4 rfl) ?_
  refine lv_bipush (v := nI 8) hx hb dL_isSlot_561 (by decide) ?_
  refine lv_iload hx hb dL_isSlot_563 (lv_at hl 9 rfl) ?_
  refine x_imulN hx hb dL_isSlot_565 ?_
  refine lv_bipush (v := nI 6) hx hb dL_isSlot_566 (by decide) ?_
  refine x_iaddN hx hb dL_isSlot_568 ?_
  refine x_aldL hx hb hK hP 37 1 rfl (by decide) lF_37 ((8 * i) + 6) (by omega) (by decide) dL_isSlot_569 ?_
  refine x_top (y := nI pp) (h6) ?_
  refine x_pi (va_runS (As := [.int (nI pp)]) (rest := [.int (nI (ppc pp))]) ⟨hx, hb, hml, hown, hts⟩ (c_L_bits l H.size (nI pp)) (va_cwS 1 hts gL_isSlot_L_bits rfl rfl rfl (by decide +kernel) ⟨Nat.le_of_ble_eq_true rfl, Nat.le_of_ble_eq_true rfl⟩) ⟨sPc_blind, sPc_at hN⟩ rfl rfl hl.1 rfl (lv_room (Nat.le_of_ble_eq_true rfl)) dL_isSlot_570 ⟨Nat.le_of_ble_eq_true rfl, Nat.le_of_ble_eq_true rfl⟩) hS hA (fun q h => h) (fun H locs hz hk hS => ?_)
  have hP := P_kept hP hk
  refine x_top (y := nI (ppc pp)) (bits_tab pp hpp) ?_
  refine lv_icmp_gt (tgt := 608) hx hb dL_isSlot_573 (by decide) (fun c_5 => absurd c_5 (nI_nlt hg (by omega))) (fun _ => ?_)
  refine lv_iload hx hb dL_isSlot_576 (lv_at hl 1 rfl) ?_
  refine lv_if_eq (tgt := 604) hx hb dL_isSlot_578 (by decide) (fun c_6 => absurd c_6 (nI_ne0 hg0 (by omega))) (fun _ => ?_)
  refine lv_iload hx hb dL_isSlot_581 (lv_at hl 10 rfl) ?_
  refine lv_if_eq (tgt := 608) hx hb dL_isSlot_583 (by decide) (fun c_7 => absurd c_7 (by decide)) (fun _ => ?_)
  refine lv_aload_n hx hb dL_isSlot_586 rfl (lv_at hl 2 rfl) ?_
  refine lv_iload hx hb dL_isSlot_587 (lv_at hl 9 rfl) ?_
  refine x_pi (va_runV (As := [.int (nI i)]) (rest := []) ⟨hx, hb, hml, hown, hts⟩ (c_X5_sends l D cI cS G F H.size i hi (by rw [hon]; rfl)) (cwV 1 hts gL_isSlot_X5_sends rfl rfl rfl (by decide +kernel) ⟨Nat.le_of_ble_eq_true rfl, Nat.le_of_ble_eq_true rfl⟩) ⟨wPc_blind, va_recv hK (L_P hP) (ci := 5) (q0 := 0) rfl (WL_at (by decide) (cF_air _)), wPc_at (L_P hP) hK (L_D hD) hN⟩ rfl rfl hl.1 rfl (lv_room (Nat.le_of_ble_eq_true rfl)) dL_isSlot_589 ⟨Nat.le_of_ble_eq_true rfl, Nat.le_of_ble_eq_true rfl⟩) hS hA (fun q h => h) (fun H locs hz hk hS => ?_)
  have hP := P_kept hP hk
  refine x_top (y := nI 0) ((f_X5_sends_d _ _).trans hon) ?_
  refine lv_if_ne (tgt := 608) hx hb dL_isSlot_592 (by decide) (fun c_8 => absurd (by decide) c_8) (fun _ => ?_)
  refine lv_aload_n hx hb dL_isSlot_595 rfl (lv_at hl 2 rfl) ?_
  refine lv_iload hx hb dL_isSlot_596 (lv_at hl 9 rfl) ?_
  refine x_pi (va_runV (As := [.int (nI i)]) (rest := []) ⟨hx, hb, hml, hown, hts⟩ (c_X5_failures l D cI cS G F H.size i (by omega)) (cwV 1 hts gL_isSlot_X5_failures rfl rfl rfl (by decide +kernel) ⟨Nat.le_of_ble_eq_true rfl, Nat.le_of_ble_eq_true rfl⟩) ⟨wPc_blind, va_recv hK (L_P hP) (ci := 5) (q0 := 0) rfl (WL_at (by decide) (cF_air _)), wPc_at (L_P hP) hK (L_D hD) hN⟩ rfl rfl hl.1 rfl (lv_room (Nat.le_of_ble_eq_true rfl)) dL_isSlot_598 ⟨Nat.le_of_ble_eq_true rfl, Nat.le_of_ble_eq_true rfl⟩) hS hA (fun q h => h) (fun H locs hz hk hS => ?_)
  have hP := P_kept hP hk
  refine x_top (y := nI 0) ((f_X5_failures_d _ _).trans h3F) ?_
  refine lv_if_ne (tgt := 608) hx hb dL_isSlot_601 (by decide) (fun c_9 => absurd (by decide) c_9) (fun _ => ?_)
  refine lv_iconst (v := nI 1) hx hb dL_isSlot_604 (by decide) ?_
  refine lv_goto (tgt := 609) hx hb dL_isSlot_605 (by decide) ?_
  refine lv_istore (lv' := [(7, .int (nI 1)), (4, .int (nI (e9 + 1))), (11, .int (nI (ppc pp))), (0, .ref (G 0)), (1, .ref (G 36)), (2, .ref (G 37)), (3, .ref (G 38)), (5, .int (nI t)), (6, .int (nI en)), (8, .int (nI i)), (9, .int (nI 1))]) hx hb dL_isSlot_609 hl (by decide) rfl (fun ls hl => ?_)
  refine lv_aload_n hx hb dL_isSlot_611 rfl (lv_at hl 5 rfl) ?_
  refine lv_bipush (v := nI 8) hx hb dL_isSlot_612 (by decide) ?_
  refine lv_iload hx hb dL_isSlot_614 (lv_at hl 9 rfl) ?_
  refine x_imulN hx hb dL_isSlot_616 ?_
  refine lv_iconst (v := nI 2) hx hb dL_isSlot_617 (by decide) ?_
  refine x_iaddN hx hb dL_isSlot_618 ?_
  refine x_aldL hx hb hK hP 37 1 rfl (by decide) lF_37 ((8 * i) + 2) (by omega) (by decide) dL_isSlot_619 ?_
  refine x_top (y := nI (cn + 1)) (h2) ?_
  refine lv_aload_n hx hb dL_isSlot_620 rfl (lv_at hl 3 rfl) ?_
  refine lv_iload hx hb dL_isSlot_621 (lv_at hl 9 rfl) ?_
  refine x_pi (va_runV (As := [.int (nI i)]) (rest := [.int (nI (cn + 1))]) ⟨hx, hb, hml, hown, hts⟩ (c_X5_frames l D cI cS G F H.size i (by omega)) (cwV 1 hts gL_isSlot_X5_frames rfl rfl rfl (by decide +kernel) ⟨Nat.le_of_ble_eq_true rfl, Nat.le_of_ble_eq_true rfl⟩) ⟨wPc_blind, va_recv hK (L_P hP) (ci := 5) (q0 := 0) rfl (WL_at (by decide) (cF_air _)), wPc_at (L_P hP) hK (L_D hD) hN⟩ rfl rfl hl.1 rfl (lv_room (Nat.le_of_ble_eq_true rfl)) dL_isSlot_623 ⟨Nat.le_of_ble_eq_true rfl, Nat.le_of_ble_eq_true rfl⟩) hS hA (fun q h => h) (fun H locs hz hk hS => ?_)
  have hP := P_kept hP hk
  refine x_top (y := nI cn) ((f_X5_frames_d _ _).trans h2F) ?_
  refine lv_isub hx hb dL_isSlot_626 ?_
  refine x_top (y := nI 1) (by rw [pk_sub (Nat.le_succ _), Nat.succ_sub (Nat.le_refl _), Nat.sub_self]) ?_
  refine lv_istore (lv' := [(12, .int (nI 1)), (7, .int (nI 1)), (4, .int (nI (e9 + 1))), (11, .int (nI (ppc pp))), (0, .ref (G 0)), (1, .ref (G 36)), (2, .ref (G 37)), (3, .ref (G 38)), (5, .int (nI t)), (6, .int (nI en)), (8, .int (nI i)), (9, .int (nI 1))]) hx hb dL_isSlot_627 hl (by decide) rfl (fun ls hl => ?_)
  refine lv_iload hx hb dL_isSlot_629 (lv_at hl 1 rfl) ?_
  refine lv_if_eq (tgt := 693) hx hb dL_isSlot_631 (by decide) (fun c_10 => absurd c_10 (by decide)) (fun _ => ?_)
  refine lv_iload hx hb dL_isSlot_634 (lv_at hl 0 rfl) ?_
  refine lv_if_eq (tgt := 689) hx hb dL_isSlot_636 (by decide) (fun c_11 => absurd c_11 (by decide)) (fun _ => ?_)
  refine lv_iload hx hb dL_isSlot_639 (lv_at hl 0 rfl) ?_
  refine lv_iconst (v := nI 1) hx hb dL_isSlot_641 (by decide) ?_
  refine lv_icmp_ne (tgt := 693) hx hb dL_isSlot_642 (by decide) (fun c_12 => absurd (by decide) c_12) (fun _ => ?_)
  refine lv_aload_n hx hb dL_isSlot_645 rfl (lv_at hl 4 rfl) ?_
  refine lv_iload hx hb dL_isSlot_646 (lv_at hl 10 rfl) ?_
  refine x_pi (va_runV (As := [.int (nI i)]) (rest := []) ⟨hx, hb, hml, hown, hts⟩ (c_X5_dropped l D cI cS G F H.size i (by omega)) (cwV 1 hts gL_isSlot_X5_dropped rfl rfl rfl (by decide +kernel) ⟨Nat.le_of_ble_eq_true rfl, Nat.le_of_ble_eq_true rfl⟩) ⟨wPc_blind, va_recv hK (L_P hP) (ci := 5) (q0 := 0) rfl (WL_at (by decide) (cF_air _)), wPc_at (L_P hP) hK (L_D hD) hN⟩ rfl rfl hl.1 rfl (lv_room (Nat.le_of_ble_eq_true rfl)) dL_isSlot_648 ⟨Nat.le_of_ble_eq_true rfl, Nat.le_of_ble_eq_true rfl⟩) hS hA (fun q h => h) (fun H locs hz hk hS => ?_)
  have hP := P_kept hP hk
  refine x_top (y := dr) ((f_X5_dropped_d _ _).trans h7F) ?_
  refine lv_aload_n hx hb dL_isSlot_651 rfl (lv_at hl 6 rfl) ?_
  refine lv_bipush (v := nI 8) hx hb dL_isSlot_652 (by decide) ?_
  refine lv_iload hx hb dL_isSlot_654 (lv_at hl 10 rfl) ?_
  refine x_imulN hx hb dL_isSlot_656 ?_
  refine lv_bipush (v := nI 7) hx hb dL_isSlot_657 (by decide) ?_
  refine x_iaddN hx hb dL_isSlot_659 ?_
  refine x_aldL hx hb hK hP 37 1 rfl (by decide) lF_37 ((8 * i) + 7) (by omega) (by decide) dL_isSlot_660 ?_
  refine x_top (y := dr) (h7d) ?_
  refine lv_iconst (v := nI 1) hx hb dL_isSlot_661 (by decide) ?_
  refine lv_iadd hx hb dL_isSlot_662 ?_
  refine lv_icmp_ne (tgt := 671) hx hb dL_isSlot_663 (by decide) (fun _ => ?_) (fun c_13 => absurd c_13 (ne_succ _))
  refine lv_iload hx hb dL_isSlot_671 (lv_at hl 3 rfl) ?_
  refine lv_aload_n hx hb dL_isSlot_673 rfl (lv_at hl 6 rfl) ?_
  refine lv_bipush (v := nI 8) hx hb dL_isSlot_674 (by decide) ?_
  refine lv_iload hx hb dL_isSlot_676 (lv_at hl 10 rfl) ?_
  refine x_imulN hx hb dL_isSlot_678 ?_
  refine lv_bipush (v := nI 6) hx hb dL_isSlot_679 (by decide) ?_
  refine x_iaddN hx hb dL_isSlot_681 ?_
  refine x_aldL hx hb hK hP 37 1 rfl (by decide) lF_37 ((8 * i) + 6) (by omega) (by decide) dL_isSlot_682 ?_
  refine x_top (y := nI pp) (h6) ?_
  refine x_pi (va_runS (As := [.int (nI pp)]) (rest := [.int (nI (ppc pp))]) ⟨hx, hb, hml, hown, hts⟩ (c_L_bits l H.size (nI pp)) (va_cwS 1 hts gL_isSlot_L_bits rfl rfl rfl (by decide +kernel) ⟨Nat.le_of_ble_eq_true rfl, Nat.le_of_ble_eq_true rfl⟩) ⟨sPc_blind, sPc_at hN⟩ rfl rfl hl.1 rfl (lv_room (Nat.le_of_ble_eq_true rfl)) dL_isSlot_683 ⟨Nat.le_of_ble_eq_true rfl, Nat.le_of_ble_eq_true rfl⟩) hS hA (fun q h => h) (fun H locs hz hk hS => ?_)
  have hP := P_kept hP hk
  refine x_top (y := nI (ppc pp)) (bits_tab pp hpp) ?_
  refine lv_icmp_ne (tgt := 693) hx hb dL_isSlot_686 (by decide) (fun c_14 => absurd rfl c_14) (fun _ => ?_)
  refine lv_iconst (v := nI 1) hx hb dL_isSlot_689 (by decide) ?_
  refine lv_goto (tgt := 694) hx hb dL_isSlot_690 (by decide) ?_
  refine lv_istore (lv' := [(7, .int (nI 1)), (12, .int (nI 1)), (4, .int (nI (e9 + 1))), (11, .int (nI (ppc pp))), (0, .ref (G 0)), (1, .ref (G 36)), (2, .ref (G 37)), (3, .ref (G 38)), (5, .int (nI t)), (6, .int (nI en)), (8, .int (nI i)), (9, .int (nI 1))]) hx hb dL_isSlot_694 hl (by decide) rfl (fun ls hl => ?_)
  refine lv_aload_n hx hb dL_isSlot_696 rfl (lv_at hl 6 rfl) ?_
  refine lv_bipush (v := nI 8) hx hb dL_isSlot_697 (by decide) ?_
  refine lv_iload hx hb dL_isSlot_699 (lv_at hl 10 rfl) ?_
  refine x_imulN hx hb dL_isSlot_701 ?_
  refine lv_iload hx hb dL_isSlot_702 (lv_at hl 11 rfl) ?_
  refine lv_if_eq (tgt := 711) hx hb dL_isSlot_704 (by decide) (fun c_15 => absurd c_15 (by decide)) (fun _ => ?_)
  refine lv_iconst (v := nI 1) hx hb dL_isSlot_707 (by decide) ?_
  refine lv_goto (tgt := 712) hx hb dL_isSlot_708 (by decide) ?_
  refine x_astL hx hb hK hP hD hS 37 1 rfl (by decide) lF_37 (8 * i) (by omega) (by decide) dL_isSlot_712 (fun H locs hP hS => ?_)
  refine lv_iinc (v := nI (i + 1)) (lv' := [(8, .int (nI (i + 1))), (7, .int (nI 1)), (12, .int (nI 1)), (4, .int (nI (e9 + 1))), (11, .int (nI (ppc pp))), (0, .ref (G 0)), (1, .ref (G 36)), (2, .ref (G 37)), (3, .ref (G 38)), (5, .int (nI t)), (6, .int (nI en)), (9, .int (nI 1))]) hx hb dL_isSlot_713 hl (k := 10) rfl (nI_add _ _) (by decide) rfl (fun ls hl => ?_)
  refine lv_goto (tgt := 181) hx hb dL_isSlot_716 (by decide) ?_
  exact kk H locs ls hP hS (lv_sub hl [5, 6, 7, 8, 3, 9, 10, 1, 0] rfl)
set_option maxHeartbeats 1000000 in
set_option maxRecDepth 100000 in
theorem sg_H {F T : Mem} {t en : Nat} (hX : IX p s m args c D A cI cS G) (hP : va_P D vwCl (WL 40 G (lF cI cS G) (cmb F T)) H) (hS : va_S A s.heap H locs) (hl : lv_has ls 13 [(0, .ref (G 0)), (1, .ref (G 36)), (2, .ref (G 37)), (3, .ref (G 38)), (4, .int (nI en)), (5, .int (nI t)), (6, .int (nI en)), (7, .int (nI 1)), (8, .int (nI 6))])
    (kk : ∀ (H : Heap) (locs : List Loc) (ls : Array Slot), va_P D vwCl (WL 40 G (lF cI cS G) (cmb F T)) H → va_S A s.heap H locs → lv_has ls 13 [(0, .ref (G 0)), (1, .ref (G 36)), (2, .ref (G 37)), (3, .ref (G 38)), (4, .int (nI en)), (6, .int (nI en)), (7, .int (nI 1)), (8, .int (nI 0))] → W p l e ({ frames := 8, cells := 0, slots := 0, locals := 177 } : Room) s m args below meth c H locs 0 0 Q (F0 m 722 ls [])) : W p l e ({ frames := 8, cells := 0, slots := 0, locals := 177 } : Room) s m args below meth c H locs 0 0 Q (F0 m 181 ls []) := by
  obtain ⟨hx, hb, hml, hown, hts, hK, hD, hA, hN⟩ := hX
  refine lv_iload hx hb dL_isSlot_181 (lv_at hl 8 rfl) ?_
  refine lv_bipush (v := nI 6) hx hb dL_isSlot_183 (by decide) ?_
  refine lv_icmp_ge (tgt := 719) hx hb dL_isSlot_185 (by decide) (fun _ => ?_) (fun c_1 => absurd (by decide) c_1) 
  refine lv_iconst (v := nI 0) hx hb dL_isSlot_719 (by decide) ?_
  refine lv_istore (lv' := [(8, .int (nI 0)), (0, .ref (G 0)), (1, .ref (G 36)), (2, .ref (G 37)), (3, .ref (G 38)), (4, .int (nI en)), (5, .int (nI t)), (6, .int (nI en)), (7, .int (nI 1))]) hx hb dL_isSlot_720 hl (by decide) rfl (fun ls hl => ?_)
  exact kk H locs ls hP hS (lv_sub hl [1, 2, 3, 4, 5, 7, 8, 0] rfl)
set_option maxHeartbeats 1000000 in
set_option maxRecDepth 100000 in
theorem sg_K {F T : Mem} {k en : Nat} (hX : IX p s m args c D A cI cS G) (hk : k < 6) (hP : va_P D vwCl (WL 40 G (lF cI cS G) (cmb F T)) H) (hS : va_S A s.heap H locs) (hl : lv_has ls 13 [(0, .ref (G 0)), (1, .ref (G 36)), (2, .ref (G 37)), (3, .ref (G 38)), (4, .int (nI en)), (6, .int (nI en)), (7, .int (nI 1)), (8, .int (nI k))])
    (kk : ∀ (H : Heap) (locs : List Loc) (ls : Array Slot), va_P D vwCl (WL 40 G (lF cI cS G) (cmb F (ub T 2 k (T 1 (8 * k))))) H → va_S A s.heap H locs → lv_has ls 13 [(0, .ref (G 0)), (1, .ref (G 36)), (2, .ref (G 37)), (3, .ref (G 38)), (4, .int (nI en)), (6, .int (nI en)), (7, .int (nI 1)), (8, .int (nI (k + 1)))] → W p l e ({ frames := 8, cells := 0, slots := 0, locals := 177 } : Room) s m args below meth c H locs 0 0 Q (F0 m 722 ls [])) : W p l e ({ frames := 8, cells := 0, slots := 0, locals := 177 } : Room) s m args below meth c H locs 0 0 Q (F0 m 722 ls []) := by
  obtain ⟨hx, hb, hml, hown, hts, hK, hD, hA, hN⟩ := hX
  refine lv_iload hx hb dL_isSlot_722 (lv_at hl 7 rfl) ?_
  refine lv_bipush (v := nI 6) hx hb dL_isSlot_724 (by decide) ?_
  refine lv_icmp_ge (tgt := 746) hx hb dL_isSlot_726 (by decide) (fun c_1 => absurd c_1 (nI_ge hk (by omega))) (fun _ => ?_)
  refine lv_aload_n hx hb dL_isSlot_729 rfl (lv_at hl 3 rfl) ?_
  refine lv_iload hx hb dL_isSlot_730 (lv_at hl 7 rfl) ?_
  refine lv_aload_n hx hb dL_isSlot_732 rfl (lv_at hl 2 rfl) ?_
  refine lv_bipush (v := nI 8) hx hb dL_isSlot_733 (by decide) ?_
  refine lv_iload hx hb dL_isSlot_735 (lv_at hl 7 rfl) ?_
  refine x_imulN hx hb dL_isSlot_737 ?_
  refine x_aldL hx hb hK hP 37 1 rfl (by decide) lF_37 (8 * k) (by omega) (by decide) dL_isSlot_738 ?_
  refine x_astL hx hb hK hP hD hS 38 2 rfl (by decide) lF_38 k (by omega) (by decide) dL_isSlot_739 (fun H locs hP hS => ?_)
  refine lv_iinc (v := nI (k + 1)) (lv' := [(8, .int (nI (k + 1))), (0, .ref (G 0)), (1, .ref (G 36)), (2, .ref (G 37)), (3, .ref (G 38)), (4, .int (nI en)), (6, .int (nI en)), (7, .int (nI 1))]) hx hb dL_isSlot_740 hl (k := 7) rfl (nI_add _ _) (by decide) rfl (fun ls hl => ?_)
  refine lv_goto (tgt := 722) hx hb dL_isSlot_743 (by decide) ?_
  exact kk H locs ls hP hS (lv_sub hl [1, 2, 3, 4, 5, 6, 7, 0] rfl)
set_option maxHeartbeats 1000000 in
set_option maxRecDepth 100000 in
theorem sg_I {F T : Mem} {en : Nat} (hX : IX p s m args c D A cI cS G) (hP : va_P D vwCl (WL 40 G (lF cI cS G) (cmb F T)) H) (hS : va_S A s.heap H locs) (hl : lv_has ls 13 [(0, .ref (G 0)), (1, .ref (G 36)), (2, .ref (G 37)), (3, .ref (G 38)), (4, .int (nI en)), (6, .int (nI en)), (7, .int (nI 1)), (8, .int (nI 6))])
    (kk : ∀ (H : Heap) (locs : List Loc) (ls : Array Slot), va_P D vwCl (WL 40 G (lF cI cS G) (cmb F T)) H → va_S A s.heap H locs → lv_has ls 13 [(0, .ref (G 0)), (1, .ref (G 36)), (2, .ref (G 37)), (3, .ref (G 38))] → W p l e ({ frames := 8, cells := 0, slots := 0, locals := 177 } : Room) s m args below meth c H locs 0 0 Q (F0 m 763 ls [.int (nI 1)])) : W p l e ({ frames := 8, cells := 0, slots := 0, locals := 177 } : Room) s m args below meth c H locs 0 0 Q (F0 m 722 ls []) := by
  obtain ⟨hx, hb, hml, hown, hts, hK, hD, hA, hN⟩ := hX
  refine lv_iload hx hb dL_isSlot_722 (lv_at hl 7 rfl) ?_
  refine lv_bipush (v := nI 6) hx hb dL_isSlot_724 (by decide) ?_
  refine lv_icmp_ge (tgt := 746) hx hb dL_isSlot_726 (by decide) (fun _ => ?_) (fun c_1 => absurd (by decide) c_1) 
  refine lv_iload hx hb dL_isSlot_746 (lv_at hl 6 rfl) ?_
  refine lv_if_eq (tgt := 762) hx hb dL_isSlot_748 (by decide) (fun c_2 => absurd c_2 (by decide)) (fun _ => ?_)
  refine lv_iload hx hb dL_isSlot_751 (lv_at hl 5 rfl) ?_
  refine lv_iload hx hb dL_isSlot_753 (lv_at hl 4 rfl) ?_
  refine lv_icmp_ne (tgt := 762) hx hb dL_isSlot_755 (by decide) (fun c_3 => absurd rfl c_3) (fun _ => ?_)
  refine lv_iconst (v := nI 1) hx hb dL_isSlot_758 (by decide) ?_
  refine lv_goto (tgt := 763) hx hb dL_isSlot_759 (by decide) ?_
  exact kk H locs ls hP hS (lv_sub hl [0, 1, 2, 3] rfl)
end ISL
