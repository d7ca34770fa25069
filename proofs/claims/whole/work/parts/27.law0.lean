-- what the law has at its start
theorem u_in0 : ∀ w ∈ u_ws RX0 TX0 3, w ∈ lw_tbl := by decide +kernel
theorem u_in1 : ∀ w ∈ u_ws RX1 TX1 7, w ∈ lw_tbl := by decide +kernel
theorem u_in2 : ∀ w ∈ u_ws RX2 TX2 12, w ∈ lw_tbl := by decide +kernel
theorem u_in3 : ∀ w ∈ u_ws RX3 TX3 1, w ∈ lw_tbl := by decide +kernel
theorem u_in4 : ∀ w ∈ u_ws RX4 TX4 3, w ∈ lw_tbl := by decide +kernel
theorem u_in5 : ∀ w ∈ u_ws RX5 TX5 5, w ∈ lw_tbl := by decide +kernel
theorem u_in6 : ∀ w ∈ u_ws RX6 TX6 23, w ∈ lw_tbl := by decide +kernel
theorem in_misc : ∀ w ∈ ([.instantiable RX0 3, .instantiable RX1 7, .instantiable RX2 12, .instantiable RX3 1, .instantiable RX4 3, .instantiable RX5 5, .instantiable RX6 23, .arrayClass .int, .arrayClass .boolean, .arrayClass .long, .arrayOver (.object RX2), .laysStatic Bundle.tN "UNASSIGNED_STACK" Bundle.steD, .laysStatic Bundle.tN "SUPPRESSED_SENTINEL" Bundle.listD, .initialized Bundle.tN] : List Cond), w ∈ lw_tbl := by decide +kernel
theorem in_nest : ∀ w ∈ nestW, w ∈ lw_tbl := by decide +kernel
theorem in_ex : ∀ w ∈ exAll, w ∈ lw_tbl := by decide +kernel
theorem in_str : ∀ q ∈ exStr, Cond.stringRef RX5 q.1 q.2 ∈ lw_tbl := by decide +kernel
theorem arr_K {s : State} {ty : FieldType} {cA : ClassId} {kA : Class} {comp : ClassId} (h2 : s.vm.classes[cA]? = some kA) (h3 : kA.kind = .array comp ty) : ArrOfT s cA ty := fun n z => ⟨fun k h => (by cases h), kA, h2, comp, h3⟩
theorem law_K {s : State} {b : Nat} (hts : ∀ w ∈ lw_tbl, w.before #[Value.ref b] s = true) : ∃ (D : va_G) (cI cS cZ cJ : ClassId), va_K D vwCl (tY cI cS cZ cJ) s := by
  obtain ⟨c0, i0, k0⟩ := u_known (C := RX0) (T := TX0) (N := 3) (n := 3) hts u_in0 (hts (.instantiable RX0 3) (in_misc _ (by decide +kernel)))
  obtain ⟨c1, i1, k1⟩ := u_known (C := RX1) (T := TX1) (N := 7) (n := 7) hts u_in1 (hts (.instantiable RX1 7) (in_misc _ (by decide +kernel)))
  obtain ⟨c2, i2, k2⟩ := u_known (C := RX2) (T := TX2) (N := 12) (n := 12) hts u_in2 (hts (.instantiable RX2 12) (in_misc _ (by decide +kernel)))
  obtain ⟨c3, i3, k3⟩ := u_known (C := RX3) (T := TX3) (N := 1) (n := 1) hts u_in3 (hts (.instantiable RX3 1) (in_misc _ (by decide +kernel)))
  obtain ⟨c4, i4, k4⟩ := u_known (C := RX4) (T := TX4) (N := 3) (n := 3) hts u_in4 (hts (.instantiable RX4 3) (in_misc _ (by decide +kernel)))
  obtain ⟨c5, i5, k5⟩ := u_known (C := RX5) (T := TX5) (N := 5) (n := 5) hts u_in5 (hts (.instantiable RX5 5) (in_misc _ (by decide +kernel)))
  obtain ⟨c6, i6, k6⟩ := u_known (C := RX6) (T := TX6) (N := 23) (n := 23) hts u_in6 (hts (.instantiable RX6 23) (in_misc _ (by decide +kernel)))
  obtain ⟨cI, kI, mI, fI, gI, hI⟩ := Cond.arrayClass_spec (hts (.arrayClass .int) (in_misc _ (by decide +kernel)))
  obtain ⟨cZ, kZ, mZ, fZ, gZ, hZ⟩ := Cond.arrayClass_spec (hts (.arrayClass .boolean) (in_misc _ (by decide +kernel)))
  obtain ⟨cJ, kJ, mJ, fJ, gJ, hJ⟩ := Cond.arrayClass_spec (hts (.arrayClass .long) (in_misc _ (by decide +kernel)))
  obtain ⟨mS, cS, kS, s1, s2, s3, s4, s5⟩ := Cond.arrayOver_spec (hts (.arrayOver (.object RX2)) (in_misc _ (by decide +kernel)))
  refine ⟨(fun k => match k with | 0 => c0 | 1 => c1 | 2 => c2 | 3 => c3 | 4 => c4 | 5 => c5 | _ => c6, fun k => match k with | 0 => i0 | 1 => i1 | 2 => i2 | 3 => i3 | 4 => i4 | 5 => i5 | _ => i6), cI, cS, cZ, cJ, fun k q hq => ?_, fun k q hq => ?_⟩
  · match k, hq with
    | 0, hq => cases hq; exact k0
    | 1, hq => cases hq; exact k1
    | 2, hq => cases hq; exact k2
    | 3, hq => cases hq; exact k3
    | 4, hq => cases hq; exact k4
    | 5, hq => cases hq; exact k5
    | 6, hq => cases hq; exact k6
    | k + 7, hq => simp [vwCl] at hq
  · match k, hq with
    | 0, hq => cases hq; exact ⟨arr_K gI hI, fI⟩
    | 1, hq => cases hq; exact ⟨arr_K s3 s4, kS, mS, s3, s4, s1, s5⟩
    | 2, hq => cases hq; exact ⟨arr_K gZ hZ, fZ⟩
    | 3, hq => cases hq; exact ⟨arr_K gJ hJ, fJ⟩
    | k + 4, hq => simp [tY] at hq
theorem law_NW {s : State} {b : Nat} (hts : ∀ w ∈ lw_tbl, w.before #[Value.ref b] s = true) : NW s := fun w hw => va_Nw.of (List.all_eq_true.mp (show nestW.all (fun w => w.onTables) = true by decide +kernel) w hw) (hts w (in_nest w hw))
theorem law_AO {s : State} {b : Nat} (hts : ∀ w ∈ lw_tbl, w.before #[Value.ref b] s = true) : va_AO RX2 s := va_AO.of (hts (.arrayOver (.object RX2)) (in_misc _ (by decide +kernel)))
theorem law_TW {s : State} {b : Nat} (hts : ∀ w ∈ lw_tbl, w.before #[Value.ref b] s = true) {cur : Nat} (hcur : s.vm.findClass RX5 = some cur) : TW s := by
  refine ⟨fun w hw => va_Nw.of (List.all_eq_true.mp (show exAll.all (fun w => w.onTables) = true by decide +kernel) w hw) (hts w (in_ex w hw)), fun q hq => ?_⟩
  have h := hts _ (in_str q hq)
  obtain ⟨-, -, -, sa, -, -, -, -, -, hev⟩ := Cond.stringRef_spec hcur h
  exact ⟨sa, vk_R.of h hev⟩
theorem law_NC {s : State} {b : Nat} (hg : (Jvm.Cond.and given_1 narrow_1).before #[Value.ref b] s = true) : NC s := by
  have hs := flat_of_before _ hg
  exact ⟨va_Nc.of (hs _ (by decide +kernel)), va_Nc.of (hs _ (by decide +kernel)), va_Nc.of (hs _ (by decide +kernel))⟩
theorem law_ZQ {s : State} {b : Nat} (hts : ∀ w ∈ lw_tbl, w.before #[Value.ref b] s = true) (hg : (Jvm.Cond.and given_1 narrow_1).before #[Value.ref b] s = true) : ZQ s.heap.size s := by
  have hs := flat_of_before _ hg
  exact ⟨vx_Zqof (hts _ (in_misc _ (by decide +kernel))) (hts _ (in_misc _ (by decide +kernel))) (hs _ (by decide +kernel)) (fun a ha => Nat.not_le.mpr ha), vx_Zqof (hts _ (in_misc _ (by decide +kernel))) (hts _ (in_misc _ (by decide +kernel))) (hs _ (by decide +kernel)) (fun a ha => Nat.not_le.mpr ha)⟩
