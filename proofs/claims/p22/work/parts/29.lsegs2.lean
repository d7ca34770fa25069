-- telling, frames, slots
section XB
variable {p : Program} {l : Launch} {e : Env} {R : Room} {s : State} {m : MethodId} {args a9 : Array Value} {below : List Frame} {meth : Method} {c : Code} {H : Heap} {locs : List Loc} {cells slots : Nat} {Q : State → Prop} {pc : Nat} {ls : Array Slot} {rest st0 : List Value} {A : Nat → Prop}
/-- behind a call that has made an exception and caught it -/
theorem x_bad {v : Int32} (hr : va_Run p l e R s m args below meth c H locs cells slots 1 6 (F0 m pc ls st0) rest (pQi v H.size a9) (fun q => H.size ≤ q)) (hS : va_S A s.heap H locs) (hA : ∀ q, s.heap.size ≤ q → A q)
    (kk : ∀ (H1 : Heap) (locs1 : List Loc), H.size ≤ H1.size → (∀ q : Nat, q < H.size → H1[q]? = H[q]?) → va_S A s.heap H1 locs1 → W p l e R s m args below meth c H1 locs1 (cells + 1) (slots + 6) Q (F0 m (pc + 3) ls (.int v :: rest))) : W p l e R s m args below meth c H locs cells slots Q (F0 m pc ls st0) := by
  refine va_calli hr hS (fun q _ h => hA q (Nat.le_trans hS.1 h)) (fun q h => hA q (Nat.le_trans hS.1 h)) (fun r u t H1 locs1 ht hvm hw hB hz hk hS1 => ?_)
  have hw : r = v := hw
  rw [hw]
  exact kk H1 locs1 hz (fun q hq => hk q hq (Nat.not_le.mpr hq)) hS1
end XB
section LSG
variable {p : Program} {l : Launch} {e : Env} {s : State} {m : MethodId} {below : List Frame} {meth : Method} {c : Code} {b L : Nat} {xs : Nat → Int32} {H : Heap} {locs : List Loc} {ls : Array Slot} {Q : State → Prop} {D : va_G} {cI cS : ClassId} {G : Nat → Nat} {cells slots : Nat}
set_option maxHeartbeats 1000000 in
set_option maxRecDepth 100000 in
theorem lg_D1 {S T S1 : Mem} {td : Int32} {tn k y sn ot nn nv : Nat} (hX : LX p l s m c b L xs D cI cS G) (hcl : cells + 1 ≤ 600130) (hsl : slots + 6 ≤ 7301080) (hy28 : y < 268435456) (hnn : S 4 1 = nI nn) (hnv : y / 8 % 1001 = nv) (hn2 : nn < 200) (hf : S 4 0 = nI (kN (S 4 0))) (hf2 : kN (S 4 0) < 200) (hl1 : S 4 1 = nI (kN (S 4 1))) (hl2 : kN (S 4 1) < 200) (ht1 : f_X5_tell S (nI nv) = (nI (nn + 1), S1)) (hP : va_P D vwCl (WL 40 G (lF cI cS G) (cmb S T)) H) (hS : va_S (fun q : Nat => s.heap.size ≤ q) s.heap H locs) (hl : lv_has ls 17 [(0, .ref b), (1, .ref (G 0)), (2, .ref (G 36)), (3, .ref (G 37)), (4, .ref (G 38)), (5, .ref (G 39)), (6, .int (nI 1)), (7, .int td), (8, .int (nI tn)), (9, .int (nI k)), (11, .int (nI y)), (13, .int (nI sn)), (14, .int (nI ot))])
    (kk : ∀ (H : Heap) (locs : List Loc) (ls : Array Slot), va_P D vwCl (WL 40 G (lF cI cS G) (cmb S1 T)) H → va_S (fun q : Nat => s.heap.size ≤ q) s.heap H locs → lv_has ls 17 [(0, .ref b), (1, .ref (G 0)), (2, .ref (G 36)), (3, .ref (G 37)), (4, .ref (G 38)), (5, .ref (G 39)), (6, .int (nI 1)), (7, .int (nI (nn + 1))), (8, .int (nI tn)), (9, .int (nI k))] → W p l e room_1 s m #[Value.ref b] below meth c H locs cells slots Q (F0 m 608 ls []))
    : W p l e room_1 s m #[Value.ref b] below meth c H locs cells slots Q (F0 m 431 ls []) := by
  obtain ⟨hfl, hx, hb, hml, hown, hts, hK, hD, hN, hT, hZ, hX, hbl, hL⟩ := hX
  have hA : ∀ q : Nat, s.heap.size ≤ q → (fun q : Nat => s.heap.size ≤ q) q := fun _ h => h
  have hbA : ¬ (fun q : Nat => s.heap.size ≤ q) b := Nat.not_le.mpr hbl
  refine lv_aload_n hx hb dL_law_431 rfl (lv_at hl 1 rfl) ?_
  refine x_pi (va_runV (As := []) (rest := []) ⟨hx, hb, hml, hown, hts⟩ (c_X5_numbers l D cI cS G S H.size  ) (cwV 0 hts gL_law_X5_numbers rfl rfl rfl (by decide +kernel) ⟨Nat.le_of_ble_eq_true rfl, Nat.le_of_ble_eq_true rfl⟩) ⟨wPc_blind, va_recv hK (L_P hP) (ci := 5) (q0 := 0) rfl (WL_at (by decide) (cF_air _)), wPc_at (L_P hP) hK (L_D hD) hN⟩ rfl rfl hl.1 rfl (lv_room (Nat.le_of_ble_eq_true rfl)) dL_law_432 ⟨by show cells + 0 ≤ 600130; omega, by show slots + 0 ≤ 7301080; omega⟩) hS hA (fun q h => h) (fun H locs hz hk hS => ?_)
  have hP := P_kept hP hk
  refine x_top (y := nI nn) ((f_X5_numbers_d _).trans hnn) ?_
  refine lv_istore (lv' := [(15, .int (nI nn)), (0, .ref b), (1, .ref (G 0)), (2, .ref (G 36)), (3, .ref (G 37)), (4, .ref (G 38)), (5, .ref (G 39)), (6, .int (nI 1)), (7, .int td), (8, .int (nI tn)), (9, .int (nI k)), (11, .int (nI y)), (13, .int (nI sn)), (14, .int (nI ot))]) hx hb dL_law_435 hl (by decide) rfl (fun ls hl => ?_)
  refine lv_aload_n hx hb dL_law_437 rfl (lv_at hl 2 rfl) ?_
  refine lv_iload hx hb dL_law_438 (lv_at hl 11 rfl) ?_
  refine lv_iconst (v := nI 3) hx hb dL_law_440 (by decide) ?_
  refine lv_ishr hx hb dL_law_441 ?_
  refine x_top (y := nI (y / 8)) (pk_shrN (by omega) _ 3 (by decide)) ?_
  refine lv_sipush (v := nI 1001) hx hb dL_law_442 (by decide) ?_
  refine lv_irem hx hb dL_law_445 (by decide) ?_
  refine x_top (y := nI nv) ((pk_rem (by omega) (by decide) (by decide)).trans (congrArg nI hnv)) ?_
  refine x_miL (ht1) (vx_runSW (As := [.ref (G 0), .int (nI nv)]) (rest := []) ⟨hx, hb, hml, hown, hts⟩ (w_L_tells l D cI cS G S H.size (nI nv) (nI_pos (by omega)) (nI_le (by omega) (by omega)) (by rw [hnn]; exact nI_lt hn2 (by omega)) hf hf2 hl1 hl2) (vx_cwSW 2 hts gL_law_L_tells rfl rfl rfl (by decide +kernel) ⟨Nat.le_of_ble_eq_true rfl, Nat.le_of_ble_eq_true rfl⟩) ⟨tPc_blind, tPc_at (L_P hP) hK (L_D hD) hN hT hZ hS⟩ rfl rfl hl.1 rfl (lv_room (Nat.le_of_ble_eq_true rfl)) dL_law_446 ⟨by show cells + 0 ≤ 600130; omega, by show slots + 0 ≤ 7301080; omega⟩) hP hD hS hA (fun H locs hP hS => ?_)
  refine lv_istore (lv' := [(7, .int (nI (nn + 1))), (15, .int (nI nn)), (0, .ref b), (1, .ref (G 0)), (2, .ref (G 36)), (3, .ref (G 37)), (4, .ref (G 38)), (5, .ref (G 39)), (6, .int (nI 1)), (8, .int (nI tn)), (9, .int (nI k)), (11, .int (nI y)), (13, .int (nI sn)), (14, .int (nI ot))]) hx hb dL_law_449 hl (by decide) rfl (fun ls hl => ?_)
  refine lv_iload hx hb dL_law_451 (lv_at hl 0 rfl) ?_
  refine lv_iload hx hb dL_law_453 (lv_at hl 1 rfl) ?_
  refine lv_sipush (v := nI 200) hx hb dL_law_455 (by decide) ?_
  refine lv_icmp_ge (tgt := 468) hx hb dL_law_458 (by decide) (fun c_1 => absurd c_1 (nI_ge hn2 (by omega))) (fun _ => ?_)
  refine lv_iload hx hb dL_law_461 (lv_at hl 1 rfl) ?_
  refine lv_iconst (v := nI 1) hx hb dL_law_463 (by decide) ?_
  refine x_iaddN hx hb dL_law_464 ?_
  refine lv_goto (tgt := 470) hx hb dL_law_465 (by decide) ?_
  refine lv_icmp_ne (tgt := 477) hx hb dL_law_470 (by decide) (fun c_2 => absurd rfl c_2) (fun _ => ?_)
  refine lv_iconst (v := nI 1) hx hb dL_law_473 (by decide) ?_
  refine lv_goto (tgt := 478) hx hb dL_law_474 (by decide) ?_
  refine lv_istore (lv' := [(6, .int (nI 1)), (7, .int (nI (nn + 1))), (15, .int (nI nn)), (0, .ref b), (1, .ref (G 0)), (2, .ref (G 36)), (3, .ref (G 37)), (4, .ref (G 38)), (5, .ref (G 39)), (8, .int (nI tn)), (9, .int (nI k)), (11, .int (nI y)), (13, .int (nI sn)), (14, .int (nI ot))]) hx hb dL_law_478 hl (by decide) rfl (fun ls hl => ?_)
  refine lv_goto (tgt := 608) hx hb dL_law_480 (by decide) ?_
  exact kk H locs ls hP hS (lv_sub hl [3, 4, 5, 6, 7, 8, 0, 1, 9, 10] rfl)
set_option maxHeartbeats 1000000 in
set_option maxRecDepth 100000 in
theorem lg_D2 {S T : Mem} {td : Int32} {tn k y sn ot nn nv : Nat} (hX : LX p l s m c b L xs D cI cS G) (hcl : cells + 1 ≤ 600130) (hsl : slots + 6 ≤ 7301080) (hy28 : y < 268435456) (hnn : S 4 1 = nI nn) (hnv : y / 8 % 1001 = nv) (hn2 : 200 ≤ nn) (hn3 : nn < 1000) (hP : va_P D vwCl (WL 40 G (lF cI cS G) (cmb S T)) H) (hS : va_S (fun q : Nat => s.heap.size ≤ q) s.heap H locs) (hl : lv_has ls 17 [(0, .ref b), (1, .ref (G 0)), (2, .ref (G 36)), (3, .ref (G 37)), (4, .ref (G 38)), (5, .ref (G 39)), (6, .int (nI 1)), (7, .int td), (8, .int (nI tn)), (9, .int (nI k)), (11, .int (nI y)), (13, .int (nI sn)), (14, .int (nI ot))])
    (kk : ∀ (H : Heap) (locs : List Loc) (ls : Array Slot), va_P D vwCl (WL 40 G (lF cI cS G) (cmb S T)) H → va_S (fun q : Nat => s.heap.size ≤ q) s.heap H locs → lv_has ls 17 [(0, .ref b), (1, .ref (G 0)), (2, .ref (G 36)), (3, .ref (G 37)), (4, .ref (G 38)), (5, .ref (G 39)), (6, .int (nI 1)), (7, .int ((-3))), (8, .int (nI tn)), (9, .int (nI k))] → W p l e room_1 s m #[Value.ref b] below meth c H locs (cells + 1) (slots + 6) Q (F0 m 608 ls []))
    : W p l e room_1 s m #[Value.ref b] below meth c H locs cells slots Q (F0 m 431 ls []) := by
  obtain ⟨hfl, hx, hb, hml, hown, hts, hK, hD, hN, hT, hZ, hX, hbl, hL⟩ := hX
  have hA : ∀ q : Nat, s.heap.size ≤ q → (fun q : Nat => s.heap.size ≤ q) q := fun _ h => h
  have hbA : ¬ (fun q : Nat => s.heap.size ≤ q) b := Nat.not_le.mpr hbl
  refine lv_aload_n hx hb dL_law_431 rfl (lv_at hl 1 rfl) ?_
  refine x_pi (va_runV (As := []) (rest := []) ⟨hx, hb, hml, hown, hts⟩ (c_X5_numbers l D cI cS G S H.size  ) (cwV 0 hts gL_law_X5_numbers rfl rfl rfl (by decide +kernel) ⟨Nat.le_of_ble_eq_true rfl, Nat.le_of_ble_eq_true rfl⟩) ⟨wPc_blind, va_recv hK (L_P hP) (ci := 5) (q0 := 0) rfl (WL_at (by decide) (cF_air _)), wPc_at (L_P hP) hK (L_D hD) hN⟩ rfl rfl hl.1 rfl (lv_room (Nat.le_of_ble_eq_true rfl)) dL_law_432 ⟨by show cells + 0 ≤ 600130; omega, by show slots + 0 ≤ 7301080; omega⟩) hS hA (fun q h => h) (fun H locs hz hk hS => ?_)
  have hP := P_kept hP hk
  refine x_top (y := nI nn) ((f_X5_numbers_d _).trans hnn) ?_
  refine lv_istore (lv' := [(15, .int (nI nn)), (0, .ref b), (1, .ref (G 0)), (2, .ref (G 36)), (3, .ref (G 37)), (4, .ref (G 38)), (5, .ref (G 39)), (6, .int (nI 1)), (7, .int td), (8, .int (nI tn)), (9, .int (nI k)), (11, .int (nI y)), (13, .int (nI sn)), (14, .int (nI ot))]) hx hb dL_law_435 hl (by decide) rfl (fun ls hl => ?_)
  refine lv_aload_n hx hb dL_law_437 rfl (lv_at hl 2 rfl) ?_
  refine lv_iload hx hb dL_law_438 (lv_at hl 11 rfl) ?_
  refine lv_iconst (v := nI 3) hx hb dL_law_440 (by decide) ?_
  refine lv_ishr hx hb dL_law_441 ?_
  refine x_top (y := nI (y / 8)) (pk_shrN (by omega) _ 3 (by decide)) ?_
  refine lv_sipush (v := nI 1001) hx hb dL_law_442 (by decide) ?_
  refine lv_irem hx hb dL_law_445 (by decide) ?_
  refine x_top (y := nI nv) ((pk_rem (by omega) (by decide) (by decide)).trans (congrArg nI hnv)) ?_
  refine x_bad (vx_runSW (As := [.ref (G 0), .int (nI nv)]) (rest := []) ⟨hx, hb, hml, hown, hts⟩ (w_L_tells__x l hfl D cI cS G S H.size (nI nv) (nI_pos (by omega)) (nI_le (by omega) (by omega)) (by rw [hnn]; exact nI_nlt hn2 (by omega))) (vx_cwSW 2 hts gL_law_L_tells rfl rfl rfl (by decide +kernel) ⟨Nat.le_of_ble_eq_true rfl, Nat.le_of_ble_eq_true rfl⟩) ⟨tPc_blind, tPc_at (L_P hP) hK (L_D hD) hN hT hZ hS⟩ rfl rfl hl.1 rfl (lv_room (Nat.le_of_ble_eq_true rfl)) dL_law_446 ⟨hcl, hsl⟩) hS hA (fun H locs hz hk hS => ?_)
  have hP := P_kept hP hk
  refine lv_istore (lv' := [(7, .int ((-3))), (15, .int (nI nn)), (0, .ref b), (1, .ref (G 0)), (2, .ref (G 36)), (3, .ref (G 37)), (4, .ref (G 38)), (5, .ref (G 39)), (6, .int (nI 1)), (8, .int (nI tn)), (9, .int (nI k)), (11, .int (nI y)), (13, .int (nI sn)), (14, .int (nI ot))]) hx hb dL_law_449 hl (by decide) rfl (fun ls hl => ?_)
  refine lv_iload hx hb dL_law_451 (lv_at hl 0 rfl) ?_
  refine lv_iload hx hb dL_law_453 (lv_at hl 1 rfl) ?_
  refine lv_sipush (v := nI 200) hx hb dL_law_455 (by decide) ?_
  refine lv_icmp_ge (tgt := 468) hx hb dL_law_458 (by decide) (fun _ => ?_) (fun c_1 => absurd (nI_le hn2 (by omega)) c_1) 
  refine lv_bipush (v := (-3)) hx hb dL_law_468 (by decide) ?_
  refine lv_icmp_ne (tgt := 477) hx hb dL_law_470 (by decide) (fun c_2 => absurd (by decide) c_2) (fun _ => ?_)
  refine lv_iconst (v := nI 1) hx hb dL_law_473 (by decide) ?_
  refine lv_goto (tgt := 478) hx hb dL_law_474 (by decide) ?_
  refine lv_istore (lv' := [(6, .int (nI 1)), (7, .int ((-3))), (15, .int (nI nn)), (0, .ref b), (1, .ref (G 0)), (2, .ref (G 36)), (3, .ref (G 37)), (4, .ref (G 38)), (5, .ref (G 39)), (8, .int (nI tn)), (9, .int (nI k)), (11, .int (nI y)), (13, .int (nI sn)), (14, .int (nI ot))]) hx hb dL_law_478 hl (by decide) rfl (fun ls hl => ?_)
  refine lv_goto (tgt := 608) hx hb dL_law_480 (by decide) ?_
  exact kk H locs ls hP hS (lv_sub hl [3, 4, 5, 6, 7, 8, 0, 1, 9, 10] rfl)
set_option maxHeartbeats 1000000 in
set_option maxRecDepth 100000 in
theorem lg_E1 {S T S1 : Mem} {td : Int32} {tn k y sn ot pv cn mk : Nat} (hX : LX p l s m c b L xs D cI cS G) (hcl : cells + 1 ≤ 600130) (hsl : slots + 6 ≤ 7301080) (hy28 : y < 268435456) (hpv : 1 + y / 256 % 4 = pv) (hsn : sn < 6) (hot : ot < 6) (hne : sn ≠ ot) (hcn : S (7 + 5 * sn) 0 = nI cn) (hc5 : cn < 5) (hmk : (nI 1) <<< ((nI pv) &&& 31) - (nI 1) = nI mk) (hf1 : f_X5_frame S sn ot (nI pv) = (nI (cn + 1), S1)) (hpl : cn = 0 → f_X0_partsOfFirst S1 sn = nI mk) (hP : va_P D vwCl (WL 40 G (lF cI cS G) (cmb S T)) H) (hS : va_S (fun q : Nat => s.heap.size ≤ q) s.heap H locs) (hl : lv_has ls 17 [(0, .ref b), (1, .ref (G 0)), (2, .ref (G 36)), (3, .ref (G 37)), (4, .ref (G 38)), (5, .ref (G 39)), (6, .int (nI 1)), (7, .int td), (8, .int (nI tn)), (9, .int (nI k)), (11, .int (nI y)), (13, .int (nI sn)), (14, .int (nI ot))])
    (kk : ∀ (H : Heap) (locs : List Loc) (ls : Array Slot), va_P D vwCl (WL 40 G (lF cI cS G) (cmb S1 T)) H → va_S (fun q : Nat => s.heap.size ≤ q) s.heap H locs → lv_has ls 17 [(0, .ref b), (1, .ref (G 0)), (2, .ref (G 36)), (3, .ref (G 37)), (4, .ref (G 38)), (5, .ref (G 39)), (6, .int (nI 1)), (7, .int td), (8, .int (nI tn)), (9, .int (nI k))] → W p l e room_1 s m #[Value.ref b] below meth c H locs cells slots Q (F0 m 608 ls []))
    : W p l e room_1 s m #[Value.ref b] below meth c H locs cells slots Q (F0 m 490 ls []) := by
  obtain ⟨hfl, hx, hb, hml, hown, hts, hK, hD, hN, hT, hZ, hX, hbl, hL⟩ := hX
  have hA : ∀ q : Nat, s.heap.size ≤ q → (fun q : Nat => s.heap.size ≤ q) q := fun _ h => h
  have hbA : ¬ (fun q : Nat => s.heap.size ≤ q) b := Nat.not_le.mpr hbl
  refine lv_iconst (v := nI 1) hx hb dL_law_490 (by decide) ?_
  refine lv_iload hx hb dL_law_491 (lv_at hl 10 rfl) ?_
  refine lv_bipush (v := nI 8) hx hb dL_law_493 (by decide) ?_
  refine lv_ishr hx hb dL_law_495 ?_
  refine x_top (y := nI (y / 256)) (pk_shrN (by omega) _ 8 (by decide)) ?_
  refine lv_iconst (v := nI 4) hx hb dL_law_496 (by decide) ?_
  refine lv_irem hx hb dL_law_497 (by decide) ?_
  refine x_top (y := nI (y / 256 % 4)) (pk_rem (by omega) (by decide) (by decide)) ?_
  refine x_iaddN hx hb dL_law_498 ?_
  refine x_top (y := nI pv) (congrArg nI hpv) ?_
  refine lv_istore (lv' := [(15, .int (nI pv)), (0, .ref b), (1, .ref (G 0)), (2, .ref (G 36)), (3, .ref (G 37)), (4, .ref (G 38)), (5, .ref (G 39)), (6, .int (nI 1)), (7, .int td), (8, .int (nI tn)), (9, .int (nI k)), (11, .int (nI y)), (13, .int (nI sn)), (14, .int (nI ot))]) hx hb dL_law_499 hl (by decide) rfl (fun ls hl => ?_)
  refine lv_aload_n hx hb dL_law_501 rfl (lv_at hl 2 rfl) ?_
  refine lv_iload hx hb dL_law_502 (lv_at hl 12 rfl) ?_
  refine x_pi (va_runV (As := [.int (nI sn)]) (rest := []) ⟨hx, hb, hml, hown, hts⟩ (c_X5_frames l D cI cS G S H.size sn (by omega)) (cwV 1 hts gL_law_X5_frames rfl rfl rfl (by decide +kernel) ⟨Nat.le_of_ble_eq_true rfl, Nat.le_of_ble_eq_true rfl⟩) ⟨wPc_blind, va_recv hK (L_P hP) (ci := 5) (q0 := 0) rfl (WL_at (by decide) (cF_air _)), wPc_at (L_P hP) hK (L_D hD) hN⟩ rfl rfl hl.1 rfl (lv_room (Nat.le_of_ble_eq_true rfl)) dL_law_504 ⟨by show cells + 0 ≤ 600130; omega, by show slots + 0 ≤ 7301080; omega⟩) hS hA (fun q h => h) (fun H locs hz hk hS => ?_)
  have hP := P_kept hP hk
  refine x_top (y := nI cn) ((f_X5_frames_d _ _).trans hcn) ?_
  refine lv_istore (lv' := [(16, .int (nI cn)), (15, .int (nI pv)), (0, .ref b), (1, .ref (G 0)), (2, .ref (G 36)), (3, .ref (G 37)), (4, .ref (G 38)), (5, .ref (G 39)), (6, .int (nI 1)), (7, .int td), (8, .int (nI tn)), (9, .int (nI k)), (11, .int (nI y)), (13, .int (nI sn)), (14, .int (nI ot))]) hx hb dL_law_507 hl (by decide) rfl (fun ls hl => ?_)
  refine lv_aload_n hx hb dL_law_509 rfl (lv_at hl 3 rfl) ?_
  refine lv_iload hx hb dL_law_510 (lv_at hl 13 rfl) ?_
  refine lv_iload hx hb dL_law_512 (lv_at hl 14 rfl) ?_
  refine lv_iload hx hb dL_law_514 (lv_at hl 1 rfl) ?_
  refine x_miL (hf1) (vx_runSW (As := [.ref (G 0), .int (nI sn), .int (nI ot), .int (nI pv)]) (rest := []) ⟨hx, hb, hml, hown, hts⟩ (w_L_frames l D cI cS G S H.size sn ot (nI pv) hsn hot (nI_nlt (by omega) (by omega)) (nI_le (by omega) (by omega)) (fun h => hne (nI_inj (by omega) (by omega) h)) (by rw [hcn]; exact nI_lt hc5 (by omega)) (by rw [hcn, kN_nI (by omega)]) (by rw [hcn, kN_nI (by omega)]; exact hc5)) (vx_cwSW 4 hts gL_law_L_frames rfl rfl rfl (by decide +kernel) ⟨Nat.le_of_ble_eq_true rfl, Nat.le_of_ble_eq_true rfl⟩) ⟨tPc_blind, tPc_at (L_P hP) hK (L_D hD) hN hT hZ hS⟩ rfl rfl hl.1 rfl (lv_room (Nat.le_of_ble_eq_true rfl)) dL_law_516 ⟨by show cells + 0 ≤ 600130; omega, by show slots + 0 ≤ 7301080; omega⟩) hP hD hS hA (fun H locs hP hS => ?_)
  refine lv_iload hx hb dL_law_519 (lv_at hl 0 rfl) ?_
  refine lv_iconst (v := nI 5) hx hb dL_law_521 (by decide) ?_
  refine lv_icmp_ge (tgt := 532) hx hb dL_law_522 (by decide) (fun c_1 => absurd c_1 (nI_ge hc5 (by omega))) (fun _ => ?_)
  refine lv_iload hx hb dL_law_525 (lv_at hl 0 rfl) ?_
  refine lv_iconst (v := nI 1) hx hb dL_law_527 (by decide) ?_
  refine x_iaddN hx hb dL_law_528 ?_
  refine lv_goto (tgt := 534) hx hb dL_law_529 (by decide) ?_
  refine lv_icmp_ne (tgt := 561) hx hb dL_law_534 (by decide) (fun c_2 => absurd rfl c_2) (fun _ => ?_)
  refine lv_iload hx hb dL_law_537 (lv_at hl 0 rfl) ?_
  refine lv_if_gt (tgt := 557) hx hb dL_law_539 (by decide) (fun c_3 => ?_) (fun c_3 => ?_)
  · refine lv_iconst (v := nI 1) hx hb dL_law_557 (by decide) ?_
    refine lv_goto (tgt := 562) hx hb dL_law_558 (by decide) ?_
    refine lv_istore (lv' := [(6, .int (nI 1)), (16, .int (nI cn)), (15, .int (nI pv)), (0, .ref b), (1, .ref (G 0)), (2, .ref (G 36)), (3, .ref (G 37)), (4, .ref (G 38)), (5, .ref (G 39)), (7, .int td), (8, .int (nI tn)), (9, .int (nI k)), (11, .int (nI y)), (13, .int (nI sn)), (14, .int (nI ot))]) hx hb dL_law_562 hl (by decide) rfl (fun ls hl => ?_)
    refine lv_goto (tgt := 608) hx hb dL_law_564 (by decide) ?_
    exact kk H locs ls hP hS (lv_sub hl [3, 4, 5, 6, 7, 8, 0, 9, 10, 11] rfl)
  · have hc0 : cn = 0 := by
      rcases Nat.eq_zero_or_pos cn with q | q
      · exact q
      · exact absurd (nI_lt q (by omega)) (by rw [nI0]; exact c_3)
    refine lv_aload_n hx hb dL_law_542 rfl (lv_at hl 3 rfl) ?_
    refine lv_iload hx hb dL_law_543 (lv_at hl 13 rfl) ?_
    refine x_pi (va_runV (As := [.int (nI sn)]) (rest := []) ⟨hx, hb, hml, hown, hts⟩ (c_X5_partsLeft l D cI cS G S1 H.size sn (by omega)) (cwV 1 hts gL_law_X5_partsLeft rfl rfl rfl (by decide +kernel) ⟨Nat.le_of_ble_eq_true rfl, Nat.le_of_ble_eq_true rfl⟩) ⟨wPc_blind, va_recv hK (L_P hP) (ci := 5) (q0 := 0) rfl (WL_at (by decide) (cF_air _)), wPc_at (L_P hP) hK (L_D hD) hN⟩ rfl rfl hl.1 rfl (lv_room (Nat.le_of_ble_eq_true rfl)) dL_law_545 ⟨by show cells + 0 ≤ 600130; omega, by show slots + 0 ≤ 7301080; omega⟩) hS hA (fun q h => h) (fun H locs hz hk hS => ?_)
    have hP := P_kept hP hk
    refine x_top (y := nI mk) ((f_X5_partsLeft_d _ _).trans (hpl hc0)) ?_
    refine lv_iconst (v := nI 1) hx hb dL_law_548 (by decide) ?_
    refine lv_iload hx hb dL_law_549 (lv_at hl 1 rfl) ?_
    refine lv_ishl hx hb dL_law_551 ?_
    refine lv_iconst (v := nI 1) hx hb dL_law_552 (by decide) ?_
    refine lv_isub hx hb dL_law_553 ?_
    refine x_top (y := nI mk) (hmk) ?_
    refine lv_icmp_ne (tgt := 561) hx hb dL_law_554 (by decide) (fun c_4 => absurd rfl c_4) (fun _ => ?_)
    refine lv_iconst (v := nI 1) hx hb dL_law_557 (by decide) ?_
    refine lv_goto (tgt := 562) hx hb dL_law_558 (by decide) ?_
    refine lv_istore (lv' := [(6, .int (nI 1)), (16, .int (nI cn)), (15, .int (nI pv)), (0, .ref b), (1, .ref (G 0)), (2, .ref (G 36)), (3, .ref (G 37)), (4, .ref (G 38)), (5, .ref (G 39)), (7, .int td), (8, .int (nI tn)), (9, .int (nI k)), (11, .int (nI y)), (13, .int (nI sn)), (14, .int (nI ot))]) hx hb dL_law_562 hl (by decide) rfl (fun ls hl => ?_)
    refine lv_goto (tgt := 608) hx hb dL_law_564 (by decide) ?_
    exact kk H locs ls hP hS (lv_sub hl [3, 4, 5, 6, 7, 8, 0, 9, 10, 11] rfl)
set_option maxHeartbeats 1000000 in
set_option maxRecDepth 100000 in
theorem lg_E2 {S T : Mem} {td : Int32} {tn k y sn ot pv cn : Nat} (hX : LX p l s m c b L xs D cI cS G) (hcl : cells + 1 ≤ 600130) (hsl : slots + 6 ≤ 7301080) (hy28 : y < 268435456) (hpv : 1 + y / 256 % 4 = pv) (hsn : sn < 6) (hot : ot < 6) (hne : sn ≠ ot) (hcn : S (7 + 5 * sn) 0 = nI cn) (hc5 : 5 ≤ cn) (hc6 : cn < 100) (hP : va_P D vwCl (WL 40 G (lF cI cS G) (cmb S T)) H) (hS : va_S (fun q : Nat => s.heap.size ≤ q) s.heap H locs) (hl : lv_has ls 17 [(0, .ref b), (1, .ref (G 0)), (2, .ref (G 36)), (3, .ref (G 37)), (4, .ref (G 38)), (5, .ref (G 39)), (6, .int (nI 1)), (7, .int td), (8, .int (nI tn)), (9, .int (nI k)), (11, .int (nI y)), (13, .int (nI sn)), (14, .int (nI ot))])
    (kk : ∀ (H : Heap) (locs : List Loc) (ls : Array Slot), va_P D vwCl (WL 40 G (lF cI cS G) (cmb S T)) H → va_S (fun q : Nat => s.heap.size ≤ q) s.heap H locs → lv_has ls 17 [(0, .ref b), (1, .ref (G 0)), (2, .ref (G 36)), (3, .ref (G 37)), (4, .ref (G 38)), (5, .ref (G 39)), (6, .int (nI 1)), (7, .int td), (8, .int (nI tn)), (9, .int (nI k))] → W p l e room_1 s m #[Value.ref b] below meth c H locs (cells + 1) (slots + 6) Q (F0 m 608 ls []))
    : W p l e room_1 s m #[Value.ref b] below meth c H locs cells slots Q (F0 m 490 ls []) := by
  obtain ⟨hfl, hx, hb, hml, hown, hts, hK, hD, hN, hT, hZ, hX, hbl, hL⟩ := hX
  have hA : ∀ q : Nat, s.heap.size ≤ q → (fun q : Nat => s.heap.size ≤ q) q := fun _ h => h
  have hbA : ¬ (fun q : Nat => s.heap.size ≤ q) b := Nat.not_le.mpr hbl
  refine lv_iconst (v := nI 1) hx hb dL_law_490 (by decide) ?_
  refine lv_iload hx hb dL_law_491 (lv_at hl 10 rfl) ?_
  refine lv_bipush (v := nI 8) hx hb dL_law_493 (by decide) ?_
  refine lv_ishr hx hb dL_law_495 ?_
  refine x_top (y := nI (y / 256)) (pk_shrN (by omega) _ 8 (by decide)) ?_
  refine lv_iconst (v := nI 4) hx hb dL_law_496 (by decide) ?_
  refine lv_irem hx hb dL_law_497 (by decide) ?_
  refine x_top (y := nI (y / 256 % 4)) (pk_rem (by omega) (by decide) (by decide)) ?_
  refine x_iaddN hx hb dL_law_498 ?_
  refine x_top (y := nI pv) (congrArg nI hpv) ?_
  refine lv_istore (lv' := [(15, .int (nI pv)), (0, .ref b), (1, .ref (G 0)), (2, .ref (G 36)), (3, .ref (G 37)), (4, .ref (G 38)), (5, .ref (G 39)), (6, .int (nI 1)), (7, .int td), (8, .int (nI tn)), (9, .int (nI k)), (11, .int (nI y)), (13, .int (nI sn)), (14, .int (nI ot))]) hx hb dL_law_499 hl (by decide) rfl (fun ls hl => ?_)
  refine lv_aload_n hx hb dL_law_501 rfl (lv_at hl 2 rfl) ?_
  refine lv_iload hx hb dL_law_502 (lv_at hl 12 rfl) ?_
  refine x_pi (va_runV (As := [.int (nI sn)]) (rest := []) ⟨hx, hb, hml, hown, hts⟩ (c_X5_frames l D cI cS G S H.size sn (by omega)) (cwV 1 hts gL_law_X5_frames rfl rfl rfl (by decide +kernel) ⟨Nat.le_of_ble_eq_true rfl, Nat.le_of_ble_eq_true rfl⟩) ⟨wPc_blind, va_recv hK (L_P hP) (ci := 5) (q0 := 0) rfl (WL_at (by decide) (cF_air _)), wPc_at (L_P hP) hK (L_D hD) hN⟩ rfl rfl hl.1 rfl (lv_room (Nat.le_of_ble_eq_true rfl)) dL_law_504 ⟨by show cells + 0 ≤ 600130; omega, by show slots + 0 ≤ 7301080; omega⟩) hS hA (fun q h => h) (fun H locs hz hk hS => ?_)
  have hP := P_kept hP hk
  refine x_top (y := nI cn) ((f_X5_frames_d _ _).trans hcn) ?_
  refine lv_istore (lv' := [(16, .int (nI cn)), (15, .int (nI pv)), (0, .ref b), (1, .ref (G 0)), (2, .ref (G 36)), (3, .ref (G 37)), (4, .ref (G 38)), (5, .ref (G 39)), (6, .int (nI 1)), (7, .int td), (8, .int (nI tn)), (9, .int (nI k)), (11, .int (nI y)), (13, .int (nI sn)), (14, .int (nI ot))]) hx hb dL_law_507 hl (by decide) rfl (fun ls hl => ?_)
  refine lv_aload_n hx hb dL_law_509 rfl (lv_at hl 3 rfl) ?_
  refine lv_iload hx hb dL_law_510 (lv_at hl 13 rfl) ?_
  refine lv_iload hx hb dL_law_512 (lv_at hl 14 rfl) ?_
  refine lv_iload hx hb dL_law_514 (lv_at hl 1 rfl) ?_
  refine x_bad (vx_runSW (As := [.ref (G 0), .int (nI sn), .int (nI ot), .int (nI pv)]) (rest := []) ⟨hx, hb, hml, hown, hts⟩ (w_L_frames__x l hfl D cI cS G S H.size sn ot (nI pv) hsn hot (nI_nlt (by omega) (by omega)) (nI_le (by omega) (by omega)) (fun h => hne (nI_inj (by omega) (by omega) h)) (by rw [hcn]; exact nI_nlt hc5 (by omega))) (vx_cwSW 4 hts gL_law_L_frames rfl rfl rfl (by decide +kernel) ⟨Nat.le_of_ble_eq_true rfl, Nat.le_of_ble_eq_true rfl⟩) ⟨tPc_blind, tPc_at (L_P hP) hK (L_D hD) hN hT hZ hS⟩ rfl rfl hl.1 rfl (lv_room (Nat.le_of_ble_eq_true rfl)) dL_law_516 ⟨hcl, hsl⟩) hS hA (fun H locs hz hk hS => ?_)
  have hP := P_kept hP hk
  refine lv_iload hx hb dL_law_519 (lv_at hl 0 rfl) ?_
  refine lv_iconst (v := nI 5) hx hb dL_law_521 (by decide) ?_
  refine lv_icmp_ge (tgt := 532) hx hb dL_law_522 (by decide) (fun _ => ?_) (fun c_1 => absurd (nI_le hc5 (by omega)) c_1) 
  refine lv_bipush (v := (-3)) hx hb dL_law_532 (by decide) ?_
  refine lv_icmp_ne (tgt := 561) hx hb dL_law_534 (by decide) (fun c_2 => absurd (by decide) c_2) (fun _ => ?_)
  refine lv_iload hx hb dL_law_537 (lv_at hl 0 rfl) ?_
  refine lv_if_gt (tgt := 557) hx hb dL_law_539 (by decide) (fun _ => ?_) (fun c_3 => absurd (nI_lt (show 0 < cn by omega) (by omega)) c_3) 
  refine lv_iconst (v := nI 1) hx hb dL_law_557 (by decide) ?_
  refine lv_goto (tgt := 562) hx hb dL_law_558 (by decide) ?_
  refine lv_istore (lv' := [(6, .int (nI 1)), (16, .int (nI cn)), (15, .int (nI pv)), (0, .ref b), (1, .ref (G 0)), (2, .ref (G 36)), (3, .ref (G 37)), (4, .ref (G 38)), (5, .ref (G 39)), (7, .int td), (8, .int (nI tn)), (9, .int (nI k)), (11, .int (nI y)), (13, .int (nI sn)), (14, .int (nI ot))]) hx hb dL_law_562 hl (by decide) rfl (fun ls hl => ?_)
  refine lv_goto (tgt := 608) hx hb dL_law_564 (by decide) ?_
  exact kk H locs ls hP hS (lv_sub hl [3, 4, 5, 6, 7, 8, 0, 9, 10, 11] rfl)
set_option maxHeartbeats 1000000 in
set_option maxRecDepth 100000 in
theorem lg_F1 {S T : Mem} {td : Int32} {tn k kv j t : Nat} (hX : LX p l s m c b L xs D cI cS G) (hcl : cells + 1 ≤ 600130) (hsl : slots + 6 ≤ 7301080) (hj : j < kv) (hk4 : kv < 1000) (hLI : LI t S T) (ht : t + 1 < 100000) (hP : va_P D vwCl (WL 40 G (lF cI cS G) (cmb S T)) H) (hS : va_S (fun q : Nat => s.heap.size ≤ q) s.heap H locs) (hl : lv_has ls 17 [(0, .ref b), (1, .ref (G 0)), (2, .ref (G 36)), (3, .ref (G 37)), (4, .ref (G 38)), (5, .ref (G 39)), (6, .int (nI 1)), (7, .int td), (8, .int (nI tn)), (9, .int (nI k)), (15, .int (nI kv)), (16, .int (nI j))])
    (kk : ∀ (u : Mem) (_ : u 0 = T 0) (_ : u 3 = T 3) (_ : sT (t + 1) (ct3 S 6) u) (H : Heap) (locs : List Loc) (ls : Array Slot), va_P D vwCl (WL 40 G (lF cI cS G) (cmb (ct3 S 6) u)) H → va_S (fun q : Nat => s.heap.size ≤ q) s.heap H locs → lv_has ls 17 [(0, .ref b), (1, .ref (G 0)), (2, .ref (G 36)), (3, .ref (G 37)), (4, .ref (G 38)), (5, .ref (G 39)), (6, .int (nI 1)), (7, .int td), (8, .int (nI tn)), (9, .int (nI k)), (15, .int (nI kv)), (16, .int (nI (j + 1)))] → W p l e room_1 s m #[Value.ref b] below meth c H locs cells slots Q (F0 m 580 ls []))
    : W p l e room_1 s m #[Value.ref b] below meth c H locs cells slots Q (F0 m 580 ls []) := by
  obtain ⟨hfl, hx, hb, hml, hown, hts, hK, hD, hN, hT, hZ, hX, hbl, hL⟩ := hX
  have hA : ∀ q : Nat, s.heap.size ≤ q → (fun q : Nat => s.heap.size ≤ q) q := fun _ h => h
  have hbA : ¬ (fun q : Nat => s.heap.size ≤ q) b := Nat.not_le.mpr hbl
  refine lv_iload hx hb dL_law_580 (lv_at hl 11 rfl) ?_
  refine lv_iload hx hb dL_law_582 (lv_at hl 10 rfl) ?_
  refine lv_icmp_ge (tgt := 608) hx hb dL_law_584 (by decide) (fun c_1 => absurd c_1 (nI_ge hj (by omega))) (fun _ => ?_)
  refine lv_iload hx hb dL_law_587 (lv_at hl 6 rfl) ?_
  refine lv_if_eq (tgt := 608) hx hb dL_law_589 (by decide) (fun c_2 => absurd c_2 (by decide)) (fun _ => ?_)
  refine lv_aload_n hx hb dL_law_592 rfl (lv_at hl 1 rfl) ?_
  refine lv_aload_n hx hb dL_law_593 rfl (lv_at hl 2 rfl) ?_
  refine lv_aload_n hx hb dL_law_594 rfl (lv_at hl 3 rfl) ?_
  refine lv_aload hx hb dL_law_595 (lv_at hl 4 rfl) ?_
  refine x_slot (va_runS (As := [.ref (G 0), .ref (G 36), .ref (G 37), .ref (G 38)]) (rest := []) ⟨hx, hb, hml, hown, hts⟩ (c_L_isSlot l D cI cS G S T H.size t hLI.1 ht hLI.2.1 hLI.2.2.1) (va_cwS 4 hts gL_law_L_isSlot rfl rfl rfl (by decide +kernel) ⟨Nat.le_of_ble_eq_true rfl, Nat.le_of_ble_eq_true rfl⟩) ⟨wPc_blind, wPc_at hP hK hD hN⟩ rfl rfl hl.1 rfl (lv_room (Nat.le_of_ble_eq_true rfl)) dL_law_597 ⟨by show cells + 0 ≤ 600130; omega, by show slots + 0 ≤ 7301080; omega⟩) hD hS hA (fun u H locs u0 u3 u2 hP hS => ?_)
  refine lv_istore (lv' := [(6, .int (nI 1)), (0, .ref b), (1, .ref (G 0)), (2, .ref (G 36)), (3, .ref (G 37)), (4, .ref (G 38)), (5, .ref (G 39)), (7, .int td), (8, .int (nI tn)), (9, .int (nI k)), (15, .int (nI kv)), (16, .int (nI j))]) hx hb dL_law_600 hl (by decide) rfl (fun ls hl => ?_)
  refine lv_iinc (v := nI (j + 1)) (lv' := [(16, .int (nI (j + 1))), (6, .int (nI 1)), (0, .ref b), (1, .ref (G 0)), (2, .ref (G 36)), (3, .ref (G 37)), (4, .ref (G 38)), (5, .ref (G 39)), (7, .int td), (8, .int (nI tn)), (9, .int (nI k)), (15, .int (nI kv))]) hx hb dL_law_602 hl (k := 11) rfl (nI_add _ _) (by decide) rfl (fun ls hl => ?_)
  refine lv_goto (tgt := 580) hx hb dL_law_605 (by decide) ?_
  exact kk u u0 u3 u2 H locs ls hP hS (lv_sub hl [2, 3, 4, 5, 6, 7, 1, 8, 9, 10, 11, 0] rfl)
end LSG
