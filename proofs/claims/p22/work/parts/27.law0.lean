-- what the law has at its start
theorem u_in0 : ∀ w ∈ u_ws RX0 TX0 3, w ∈ lw_tbl := by decide +kernel
theorem u_in1 : ∀ w ∈ u_ws RX1 TX1 7, w ∈ lw_tbl := by decide +kernel
theorem u_in2 : ∀ w ∈ u_ws RX2 TX2 12, w ∈ lw_tbl := by decide +kernel
theorem u_in3 : ∀ w ∈ u_ws RX3 TX3 1, w ∈ lw_tbl := by decide +kernel
theorem u_in4 : ∀ w ∈ u_ws RX4 TX4 3, w ∈ lw_tbl := by decide +kernel
theorem u_in5 : ∀ w ∈ u_ws RX5 TX5 5, w ∈ lw_tbl := by decide +kernel
theorem in_misc : ∀ w ∈ ([.instantiable RX0 3, .instantiable RX1 7, .instantiable RX2 12, .instantiable RX3 1, .instantiable RX4 3, .instantiable RX5 5, .arrayClass .int, .arrayOver (.object RX2), .laysStatic Bundle.tN "UNASSIGNED_STACK" Bundle.steD, .laysStatic Bundle.tN "SUPPRESSED_SENTINEL" Bundle.listD, .initialized Bundle.tN] : List Cond), w ∈ lw_tbl := by decide +kernel
theorem in_nest : ∀ w ∈ nestW, w ∈ lw_tbl := by decide +kernel
theorem in_ex : ∀ w ∈ exAll, w ∈ lw_tbl := by decide +kernel
theorem in_str : ∀ q ∈ exStr, Cond.stringRef RX5 q.1 q.2 ∈ lw_tbl := by decide +kernel
theorem arr_K {s : State} {ty : FieldType} {cA : ClassId} {kA : Class} {comp : ClassId} (h2 : s.vm.classes[cA]? = some kA) (h3 : kA.kind = .array comp ty) : ArrOfT s cA ty := fun n z => ⟨fun k h => (by cases h), kA, h2, comp, h3⟩
theorem law_K {s : State} {b : Nat} (hts : ∀ w ∈ lw_tbl, w.before #[Value.ref b] s = true) : ∃ (D : va_G) (cI cS : ClassId), va_K D vwCl (tY cI cS) s := by
  obtain ⟨c0, i0, k0⟩ := u_known (C := RX0) (T := TX0) (N := 3) (n := 3) hts u_in0 (hts (.instantiable RX0 3) (in_misc _ (by decide +kernel)))
  obtain ⟨c1, i1, k1⟩ := u_known (C := RX1) (T := TX1) (N := 7) (n := 7) hts u_in1 (hts (.instantiable RX1 7) (in_misc _ (by decide +kernel)))
  obtain ⟨c2, i2, k2⟩ := u_known (C := RX2) (T := TX2) (N := 12) (n := 12) hts u_in2 (hts (.instantiable RX2 12) (in_misc _ (by decide +kernel)))
  obtain ⟨c3, i3, k3⟩ := u_known (C := RX3) (T := TX3) (N := 1) (n := 1) hts u_in3 (hts (.instantiable RX3 1) (in_misc _ (by decide +kernel)))
  obtain ⟨c4, i4, k4⟩ := u_known (C := RX4) (T := TX4) (N := 3) (n := 3) hts u_in4 (hts (.instantiable RX4 3) (in_misc _ (by decide +kernel)))
  obtain ⟨c5, i5, k5⟩ := u_known (C := RX5) (T := TX5) (N := 5) (n := 5) hts u_in5 (hts (.instantiable RX5 5) (in_misc _ (by decide +kernel)))
  obtain ⟨cI, kI, mI, fI, gI, hI⟩ := Cond.arrayClass_spec (hts (.arrayClass .int) (in_misc _ (by decide +kernel)))
  obtain ⟨mS, cS, kS, s1, s2, s3, s4, s5⟩ := Cond.arrayOver_spec (hts (.arrayOver (.object RX2)) (in_misc _ (by decide +kernel)))
  refine ⟨(fun k => match k with | 0 => c0 | 1 => c1 | 2 => c2 | 3 => c3 | 4 => c4 | _ => c5, fun k => match k with | 0 => i0 | 1 => i1 | 2 => i2 | 3 => i3 | 4 => i4 | _ => i5), cI, cS, fun k q hq => ?_, fun k q hq => ?_⟩
  · match k, hq with
    | 0, hq => cases hq; exact k0
    | 1, hq => cases hq; exact k1
    | 2, hq => cases hq; exact k2
    | 3, hq => cases hq; exact k3
    | 4, hq => cases hq; exact k4
    | 5, hq => cases hq; exact k5
    | k + 6, hq => simp [vwCl] at hq
  · match k, hq with
    | 0, hq => cases hq; exact ⟨arr_K gI hI, fI⟩
    | 1, hq => cases hq; exact ⟨arr_K s3 s4, kS, mS, s3, s4, s1, s5⟩
    | k + 2, hq => simp [tY] at hq
theorem law_NW {s : State} {b : Nat} (hts : ∀ w ∈ lw_tbl, w.before #[Value.ref b] s = true) : NW s := fun w hw => va_Nw.of (List.all_eq_true.mp (show nestW.all (fun w => w.onTables) = true by decide +kernel) w hw) (hts w (in_nest w hw))
theorem law_AO {s : State} {b : Nat} (hts : ∀ w ∈ lw_tbl, w.before #[Value.ref b] s = true) : va_AO RX2 s := va_AO.of (hts (.arrayOver (.object RX2)) (in_misc _ (by decide +kernel)))
theorem law_TW {s : State} {b : Nat} (hts : ∀ w ∈ lw_tbl, w.before #[Value.ref b] s = true) {cur : Nat} (hcur : s.vm.findClass RX5 = some cur) : TW s := by
  refine ⟨fun w hw => va_Nw.of (List.all_eq_true.mp (show exAll.all (fun w => w.onTables) = true by decide +kernel) w hw) (hts w (in_ex w hw)), fun q hq => ?_⟩
  have h := hts _ (in_str q hq)
  obtain ⟨-, -, -, sa, -, -, -, -, -, hev⟩ := Cond.stringRef_spec hcur h
  exact ⟨sa, vk_R.of h hev⟩
theorem law_ZQ {s : State} {b : Nat} (hts : ∀ w ∈ lw_tbl, w.before #[Value.ref b] s = true) (hg : (Jvm.Cond.and given_1 narrow_1).before #[Value.ref b] s = true) : ZQ s.heap.size s := by
  have hs := flat_of_before _ hg
  exact ⟨vx_Zqof (hts _ (in_misc _ (by decide +kernel))) (hts _ (in_misc _ (by decide +kernel))) (hs _ (by decide +kernel)) (fun a ha => Nat.not_le.mpr ha), vx_Zqof (hts _ (in_misc _ (by decide +kernel))) (hts _ (in_misc _ (by decide +kernel))) (hs _ (by decide +kernel)) (fun a ha => Nat.not_le.mpr ha)⟩
/-- what holds at the law's loop head, in the slot t -/
def LI (t : Nat) (S T : Mem) : Prop := I0 t S ∧ rT S T ∧ sT t S T ∧ ∀ j, j < 6 → T 3 j = S (6 + 5 * j) 0
-- isStation at a call's end
theorem c_isSt (l : Launch) (D : va_G) (cI cS : ClassId) (G : Nat → Nat) (S : Mem) (sz i t : Nat) (its : Int32) (h : I0 t S) (hi : i < 6) : Met l yL_isStation wsL_isStation ({ frames := 3, cells := 0, slots := 0, locals := 64 } : Room) (wPc 36 (cF cI cS G) D (tY cI cS) G S sz [.ref (G 0), .int (nI i), .int its]) (pQi (nI 1) sz) 0 0 (fun q => sz ≤ q) := by
  obtain ⟨⟨-, hs, ht⟩, -, -, hI⟩ := h
  obtain ⟨⟨c1, c2, c3⟩, hR, hW, hL, d, e, a, ⟨r5, r8, r7, r2⟩, hat, hcase⟩ := hI i hi
  obtain ⟨pp, pp1, pp2, pp3⟩ := pof hR
  have hon : S (8 + 5 * i) 0 = nI 0 ∨ S (8 + 5 * i) 0 = nI 1 := by
    rcases hcase with hc | hc
    · exact Or.inl hc.1
    · exact Or.inr hc.1
  refine c_L_isStation l D cI cS G S sz i its hi (S (6 + 5 * i) 1) (kN (S (6 + 5 * i) 3)) (S (6 + 5 * i) 2) (kN (S (6 + 5 * i) 4)) t (kN (S (7 + 5 * i) 0)) a d (S (8 + 5 * i) 0) (nI pp) rfl c2.1 c2.2 rfl ?_ ?_ c3.1 (by have := c3.2; omega) hs (by omega) ?_ rfl ?_ ?_ hR.1.1 (by have := hR.1.2; omega) pp2 ?_ ?_ ?_ r7 ?_ r5 ?_ hat ?_
  · rcases hW with w | ⟨w, -⟩
    · rw [w]; decide
    · rw [w.1]; exact fun q => absurd (Int32.lt_trans q (show (-1 : Int32) < 0 by decide)) (nI_pos (by have := w.2; omega))
  · rcases hW with w | ⟨w, -⟩
    · rw [w]; decide
    · rw [w.1]; exact nI_nlt (by have := w.2; omega) (by omega)
  · rcases c1 with w | w | w | w
    · exact fun h => absurd w h
    · exact fun _ h => absurd w h
    · exact fun _ _ h => absurd w h
    · exact fun _ _ _ => w
  · rcases hon with w | w <;> rw [w] <;> rfl
  · intro h0
    rcases hcase with ⟨hc, -⟩ | ⟨hc, f, q, p, hTm, -⟩
    · exact absurd (hc.trans nI0) h0
    · refine ⟨?_, hTm.1⟩
      rcases hW with w | ⟨-, -, w⟩
      · exact w
      · exact absurd (hc.symm.trans w) nI1_0
  · intro h0
    rw [← pp2, f_X0_partsOfFirst_d, if_pos (by rw [hR.1.1, h0]; decide)]
    exact nI0
  · intro h0 h1
    have hc : 0 < kN (S (7 + 5 * i) 0) := by
      rcases Nat.eq_zero_or_pos (kN (S (7 + 5 * i) 0)) with q | q
      · rw [q] at h0; exact absurd nI0 h0
      · exact q
    exact (hR.2 0 hc).2.2 ((pp3 hc).trans h1)
  · exact nI_ge pp1 (by omega)
  · rw [f_X5_airtimeBySendings_d]
    rcases hcase with ⟨hc, ha⟩ | ⟨hc, f, q, p, hTm, hf, ha⟩
    · rw [hc, if_pos nI0, r8, nI_add, ha, Nat.add_zero]
    · rw [hc, if_neg nI1_ne, f_X1_slotsUpTo_d, hs, hTm.2.2.2.2.1, r8, pk_sub hf, nI_add, nI_add, ha]
  · rcases hcase with ⟨hc, ha⟩ | ⟨hc, f, q, p, hTm, hf, ha⟩ <;> omega
  · intro h0
    rcases hW with w | ⟨-, w, -⟩
    · exact w
    · exact absurd (nI_lt w (by have := hR.1.2; omega)) (by rw [nI0]; exact h0)
section XS
variable {p : Program} {l : Launch} {e : Env} {R : Room} {s : State} {m : MethodId} {args a9 : Array Value} {below : List Frame} {meth : Method} {c : Code} {H : Heap} {locs : List Loc} {cells slots : Nat} {Q : State → Prop}
variable {pc : Nat} {ls : Array Slot} {rest st0 : List Value} {D : va_G} {A : Nat → Prop} {cI cS : ClassId} {G : Nat → Nat} {S T : Mem}
/-- behind isSlot -/
theorem x_slot {t : Nat} (hr : va_Run p l e R s m args below meth c H locs cells slots 0 0 (F0 m pc ls st0) rest (sQ t S T D cI cS G H.size a9) (fA 40 G H.size)) (hD : ∀ S' : Mem, va_D A (WL 40 G (lF cI cS G) S')) (hS : va_S A s.heap H locs) (hA : ∀ q : Nat, s.heap.size ≤ q → A q)
    (kk : ∀ (u : Mem) (H1 : Heap) (locs1 : List Loc), u 0 = T 0 → u 3 = T 3 → sT (t + 1) (ct3 S 6) u → va_P D vwCl (WL 40 G (lF cI cS G) (cmb (ct3 S 6) u)) H1 → va_S A s.heap H1 locs1 → W p l e R s m args below meth c H1 locs1 cells slots Q (F0 m (pc + 3) ls (.int (nI 1) :: rest))) : W p l e R s m args below meth c H locs cells slots Q (F0 m pc ls st0) := by
  have hF : ∀ q, fA 40 G H.size q → A q := fA_sub (hD S) (fun q h => hA q (Nat.le_trans hS.1 h))
  refine va_calli hr hS (fun q _ h => hF q h) hF (fun r u t1 H1 locs1 ht hvm hw hB hz hk hS1 => ?_)
  obtain ⟨w1, w2, w3, w4⟩ := hw
  rw [w1]
  rw [ht] at hB
  exact kk u H1 locs1 w2 w3 w4 hB hS1
end XS
