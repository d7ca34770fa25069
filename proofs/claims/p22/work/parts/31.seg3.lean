-- how many turns
section LSG
variable {p : Program} {l : Launch} {e : Env} {s : State} {m : MethodId} {below : List Frame} {meth : Method} {c : Code} {b L : Nat} {xs : Nat → Int32} {H : Heap} {locs : List Loc} {ls : Array Slot} {Q : State → Prop} {D : va_G} {cI cS : ClassId} {G : Nat → Nat} {cells slots : Nat}
set_option maxHeartbeats 1000000 in
set_option maxRecDepth 100000 in
theorem lg_T {S T : Mem} (hX : LX p l s m c b L xs D cI cS G) (hcl : cells + 1 ≤ 600130) (hsl : slots + 6 ≤ 7301080) (hP : va_P D vwCl (WL 40 G (lF cI cS G) (cmb S T)) H) (hS : va_S (fun q : Nat => s.heap.size ≤ q) s.heap H locs) (hl : lv_has ls 17 [(0, .ref b), (1, .ref (G 0)), (2, .ref (G 36)), (3, .ref (G 37)), (4, .ref (G 38)), (5, .ref (G 39)), (6, .int (nI 1))])
    (kk : ∀ (tn : Nat) (_ : tn ≤ 420) (H : Heap) (locs : List Loc) (ls : Array Slot), va_P D vwCl (WL 40 G (lF cI cS G) (cmb S T)) H → va_S (fun q : Nat => s.heap.size ≤ q) s.heap H locs → lv_has ls 17 [(0, .ref b), (1, .ref (G 0)), (2, .ref (G 36)), (3, .ref (G 37)), (4, .ref (G 38)), (5, .ref (G 39)), (6, .int (nI 1)), (7, .int (nI 0)), (8, .int (nI tn)), (9, .int (nI 0))] → W p l e room_1 s m #[Value.ref b] below meth c H locs cells slots Q (F0 m 76 ls []))
    : W p l e room_1 s m #[Value.ref b] below meth c H locs cells slots Q (F0 m 38 ls []) := by
  obtain ⟨hfl, hx, hb, hml, hown, hts, hK, hD, hN, hT, hZ, hX, hbl, hL⟩ := hX
  have hA : ∀ q : Nat, s.heap.size ≤ q → (fun q : Nat => s.heap.size ≤ q) q := fun _ h => h
  have hbA : ¬ (fun q : Nat => s.heap.size ≤ q) b := Nat.not_le.mpr hbl
  refine lv_iconst (v := nI 0) hx hb dL_law_38 (by decide) ?_
  refine lv_istore (lv' := [(7, .int (nI 0)), (0, .ref b), (1, .ref (G 0)), (2, .ref (G 36)), (3, .ref (G 37)), (4, .ref (G 38)), (5, .ref (G 39)), (6, .int (nI 1))]) hx hb dL_law_39 hl (by decide) rfl (fun ls hl => ?_)
  refine lv_aload_n hx hb dL_law_41 rfl (lv_at hl 1 rfl) ?_
  refine va_slen hx hb hX hbl hbA hS dL_law_42 ?_
  refine lv_bipush (v := nI 40) hx hb dL_law_43 (by decide) ?_
  refine lv_icmp_ge (tgt := 54) hx hb dL_law_45 (by decide) (fun c_1 => ?_) (fun c_1 => ?_)
  · refine lv_aload_n hx hb dL_law_54 rfl (lv_at hl 1 rfl) ?_
    refine va_slen hx hb hX hbl hbA hS dL_law_55 ?_
    refine lv_bipush (v := nI 80) hx hb dL_law_56 (by decide) ?_
    refine lv_icmp_ge (tgt := 68) hx hb dL_law_58 (by decide) (fun c_2 => ?_) (fun c_2 => ?_)
    · refine lv_sipush (v := nI 420) hx hb dL_law_68 (by decide) ?_
      refine lv_istore (lv' := [(8, .int (nI 420)), (7, .int (nI 0)), (0, .ref b), (1, .ref (G 0)), (2, .ref (G 36)), (3, .ref (G 37)), (4, .ref (G 38)), (5, .ref (G 39)), (6, .int (nI 1))]) hx hb dL_law_71 hl (by decide) rfl (fun ls hl => ?_)
      refine lv_iconst (v := nI 0) hx hb dL_law_73 (by decide) ?_
      refine lv_istore (lv' := [(9, .int (nI 0)), (8, .int (nI 420)), (7, .int (nI 0)), (0, .ref b), (1, .ref (G 0)), (2, .ref (G 36)), (3, .ref (G 37)), (4, .ref (G 38)), (5, .ref (G 39)), (6, .int (nI 1))]) hx hb dL_law_74 hl (by decide) rfl (fun ls hl => ?_)
      exact kk 420 (by omega) H locs ls hP hS (lv_sub hl [3, 4, 5, 6, 7, 8, 9, 2, 1, 0] rfl)
    · have h80 : L < 80 := by
        rcases Nat.lt_or_ge L 80 with q | q
        · exact q
        · exact absurd (nI_le q (by omega)) c_2
      refine lv_iconst (v := nI 5) hx hb dL_law_61 (by decide) ?_
      refine lv_aload_n hx hb dL_law_62 rfl (lv_at hl 1 rfl) ?_
      refine va_slen hx hb hX hbl hbA hS dL_law_63 ?_
      refine x_imulN hx hb dL_law_64 ?_
      refine lv_goto (tgt := 71) hx hb dL_law_65 (by decide) ?_
      refine lv_istore (lv' := [(8, .int (nI (5 * L))), (7, .int (nI 0)), (0, .ref b), (1, .ref (G 0)), (2, .ref (G 36)), (3, .ref (G 37)), (4, .ref (G 38)), (5, .ref (G 39)), (6, .int (nI 1))]) hx hb dL_law_71 hl (by decide) rfl (fun ls hl => ?_)
      refine lv_iconst (v := nI 0) hx hb dL_law_73 (by decide) ?_
      refine lv_istore (lv' := [(9, .int (nI 0)), (8, .int (nI (5 * L))), (7, .int (nI 0)), (0, .ref b), (1, .ref (G 0)), (2, .ref (G 36)), (3, .ref (G 37)), (4, .ref (G 38)), (5, .ref (G 39)), (6, .int (nI 1))]) hx hb dL_law_74 hl (by decide) rfl (fun ls hl => ?_)
      exact kk (5 * L) (by omega) H locs ls hP hS (lv_sub hl [3, 4, 5, 6, 7, 8, 9, 2, 1, 0] rfl)
  · refine lv_sipush (v := nI 220) hx hb dL_law_48 (by decide) ?_
    refine lv_goto (tgt := 71) hx hb dL_law_51 (by decide) ?_
    refine lv_istore (lv' := [(8, .int (nI 220)), (7, .int (nI 0)), (0, .ref b), (1, .ref (G 0)), (2, .ref (G 36)), (3, .ref (G 37)), (4, .ref (G 38)), (5, .ref (G 39)), (6, .int (nI 1))]) hx hb dL_law_71 hl (by decide) rfl (fun ls hl => ?_)
    refine lv_iconst (v := nI 0) hx hb dL_law_73 (by decide) ?_
    refine lv_istore (lv' := [(9, .int (nI 0)), (8, .int (nI 220)), (7, .int (nI 0)), (0, .ref b), (1, .ref (G 0)), (2, .ref (G 36)), (3, .ref (G 37)), (4, .ref (G 38)), (5, .ref (G 39)), (6, .int (nI 1))]) hx hb dL_law_74 hl (by decide) rfl (fun ls hl => ?_)
    exact kk 220 (by omega) H locs ls hP hS (lv_sub hl [3, 4, 5, 6, 7, 8, 9, 2, 1, 0] rfl)
end LSG
theorem va_P_l {D : va_G} {cl : List vw_C} {w1 w2 : va_W} {H : Heap} (h : va_P D cl (w1 ++ w2) H) : va_P D cl w1 H := fun k q hq => h k q (by rw [List.getElem?_append_left (List.getElem?_eq_some_iff.mp hq).1]; exact hq)
theorem va_P_r {D : va_G} {cl : List vw_C} {w1 w2 : va_W} {H : Heap} (h : va_P D cl (w1 ++ w2) H) : va_P D cl w2 H := fun k q hq => h (w1.length + k) q (by rw [List.getElem?_append_right (by omega), Nat.add_sub_cancel_left]; exact hq)
theorem cF_G {cI cS : ClassId} {G G' : Nat → Nat} (hg : ∀ k, k < 36 → G' k = G k) {k : Nat} (hk : k < 36) (h1 : k ≠ 1) (f : Nat → Int32) : cF cI cS G' k f = cF cI cS G k f := by
  rcases (show k = 0 ∨ k = 2 ∨ k = 3 ∨ k = 4 ∨ k = 5 ∨ (∃ i, i < 6 ∧ k = 6 + 5 * i) ∨ (∃ i, i < 6 ∧ k = 7 + 5 * i) ∨ (∃ i, i < 6 ∧ k = 8 + 5 * i) ∨ (∃ i, i < 6 ∧ k = 9 + 5 * i) ∨ (∃ i, i < 6 ∧ k = 10 + 5 * i) from by
    by_cases h6 : k < 6
    · omega
    · have hm := Nat.mod_lt (k - 6) (show 0 < 5 by decide)
      have hd := Nat.div_add_mod (k - 6) 5
      rcases (show (k - 6) % 5 = 0 ∨ (k - 6) % 5 = 1 ∨ (k - 6) % 5 = 2 ∨ (k - 6) % 5 = 3 ∨ (k - 6) % 5 = 4 by omega) with h | h | h | h | h
      · exact Or.inr (Or.inr (Or.inr (Or.inr (Or.inr (Or.inl ⟨(k - 6) / 5, by omega, by omega⟩)))))
      · exact Or.inr (Or.inr (Or.inr (Or.inr (Or.inr (Or.inr (Or.inl ⟨(k - 6) / 5, by omega, by omega⟩))))))
      · exact Or.inr (Or.inr (Or.inr (Or.inr (Or.inr (Or.inr (Or.inr (Or.inl ⟨(k - 6) / 5, by omega, by omega⟩)))))))
      · exact Or.inr (Or.inr (Or.inr (Or.inr (Or.inr (Or.inr (Or.inr (Or.inr (Or.inl ⟨(k - 6) / 5, by omega, by omega⟩))))))))
      · exact Or.inr (Or.inr (Or.inr (Or.inr (Or.inr (Or.inr (Or.inr (Or.inr (Or.inr ⟨(k - 6) / 5, by omega, by omega⟩))))))))) with h | h | h | h | h | ⟨i, hi, h⟩ | ⟨i, hi, h⟩ | ⟨i, hi, h⟩ | ⟨i, hi, h⟩ | ⟨i, hi, h⟩
  · subst h; rw [cF_air, cF_air, hg 1 (by decide), hg 2 (by decide), hg 4 (by decide)]
  · subst h; rw [cF_str, cF_str, hg 3 (by decide)]
  · subst h; rw [cF_all, cF_all]
  · subst h; rw [cF_told, cF_told, hg 5 (by decide)]
  · subst h; rw [cF_ring, cF_ring]
  · subst h; rw [cF_st, cF_st, hg _ (by omega), hg _ (by omega)]
  · subst h; rw [cF_row, cF_row, hg _ (by omega), hg _ (by omega)]
  · subst h; rw [cF_sd, cF_sd]
  · subst h; rw [cF_gl, cF_gl]
  · subst h; rw [cF_pt, cF_pt]
theorem P_G {D : va_G} {cI cS : ClassId} {G G' : Nat → Nat} {S : Mem} {H : Heap} (hg : ∀ k, k < 36 → G' k = G k) (h : va_P D vwCl (WL 36 G (cF cI cS G) S) H) : va_P D vwCl (WL 36 G' (cF cI cS G') S) H := fun k q hq => by
  obtain ⟨h1, rfl⟩ := WL_inv hq
  have h2 := h k _ (WL_get h1)
  rw [hg k h1]
  by_cases e : k = 1
  · subst e
    have h3 : H[G 1]? = some (vp_cell cS (6, .inr (.inr (.inr (.inr (fun i => some (G (6 + 5 * i)))))))) := h2
    show H[G 1]? = some (vp_cell cS (6, .inr (.inr (.inr (.inr (fun i => some (G' (6 + 5 * i))))))))
    rw [h3, vp_cell_q, vp_cell_q, arrV_ext (f := fun j => va_rf (some (G (6 + 5 * j)))) (g := fun j => va_rf (some (G' (6 + 5 * j)))) (fun j hj => by show va_rf (some (G (6 + 5 * j))) = va_rf (some (G' (6 + 5 * j))); rw [hg _ (by omega)])]
  · rw [cF_G hg h1 e]
    exact h2
def T0 : Mem := fun _ _ => 0
def GX (G : Nat → Nat) (q2 q3 q4 q5 : Nat) : Nat → Nat := fun k => if k < 36 then G k else if k = 36 then q2 else if k = 37 then q3 else if k = 38 then q4 else q5
theorem GX_lo {G : Nat → Nat} {q2 q3 q4 q5 k : Nat} (h : k < 36) : GX G q2 q3 q4 q5 k = G k := by unfold GX; rw [if_pos h]
theorem P_40 {D : va_G} {cI cS : ClassId} {G : Nat → Nat} {q2 q3 q4 q5 : Nat} {H : Heap} (h : va_P D vwCl ((((WL 36 G (cF cI cS G) S0 ++ [(q2, .inl (cI, 36, .inl (fun _ => 0)))]) ++ [(q3, .inl (cI, 48, .inl (fun _ => 0)))]) ++ [(q4, .inl (cI, 6, .inl (fun _ => 0)))]) ++ [(q5, .inl (cI, 6, .inl (fun _ => 0)))]) H) : va_P D vwCl (WL 40 (GX G q2 q3 q4 q5) (lF cI cS (GX G q2 q3 q4 q5)) (cmb S0 T0)) H := fun k q hq => by
  obtain ⟨h1, rfl⟩ := WL_inv hq
  by_cases e : k < 36
  · rw [lF_lo e, cmb_lo e]
    exact P_G (G' := GX G q2 q3 q4 q5) (fun k hk => GX_lo hk) (va_P_l (va_P_l (va_P_l (va_P_l h)))) k _ (WL_get e)
  · rcases (show k = 36 ∨ k = 37 ∨ k = 38 ∨ k = 39 by omega) with h2 | h2 | h2 | h2
    · subst h2; exact va_P_r (va_P_l (va_P_l (va_P_l h))) 0 _ rfl
    · subst h2; exact va_P_r (va_P_l (va_P_l h)) 0 _ rfl
    · subst h2; exact va_P_r (va_P_l h) 0 _ rfl
    · subst h2; exact va_P_r h 0 _ rfl
theorem D_40 {A : Nat → Prop} {cI cS : ClassId} {G : Nat → Nat} {q2 q3 q4 q5 : Nat} {e2 e3 e4 e5 : va_E} (h : va_D A ((((WL 36 G (cF cI cS G) S0 ++ [(q2, e2)]) ++ [(q3, e3)]) ++ [(q4, e4)]) ++ [(q5, e5)])) (S' : Mem) : va_D A (WL 40 (GX G q2 q3 q4 q5) (lF cI cS (GX G q2 q3 q4 q5)) S') := by
  refine va_D_a h ?_
  have hr : List.range 40 = List.range 36 ++ [36, 37, 38, 39] := by decide +kernel
  have h1 : (WL 40 (GX G q2 q3 q4 q5) (lF cI cS (GX G q2 q3 q4 q5)) S').map (·.1) = (List.range 40).map (GX G q2 q3 q4 q5) := by
    unfold WL; rw [List.map_map]; rfl
  have h2 : (WL 36 G (cF cI cS G) S0).map (·.1) = (List.range 36).map (GX G q2 q3 q4 q5) := by
    unfold WL; rw [List.map_map]
    exact List.map_congr_left (fun k hk => (GX_lo (List.mem_range.mp hk)).symm)
  rw [h1, hr, List.map_append, List.map_append, List.map_append, List.map_append, List.map_append, h2, List.append_assoc, List.append_assoc, List.append_assoc]
  rfl
theorem I0_0 : I0 0 S0 := by
  refine ⟨⟨⟨by unfold sm; decide, by decide⟩, by decide, by decide⟩, fun a _ => rfl, ⟨by unfold sm; decide, by unfold sm; decide, fun k _ => (show sm 0 1001 by unfold sm; decide)⟩, fun j hj => ?_⟩
  rcases (show j = 0 ∨ j = 1 ∨ j = 2 ∨ j = 3 ∨ j = 4 ∨ j = 5 by omega) with rfl | rfl | rfl | rfl | rfl | rfl
  · exact ⟨⟨Or.inl (by decide), by unfold sm; decide, by unfold sm; decide⟩, ⟨by unfold sm; decide, fun k hk => absurd hk (Nat.not_lt_zero k)⟩, Or.inl (by decide), Or.inl (by decide), 0, 0, 0, ⟨by decide, by decide, by decide, by decide⟩, by decide, Or.inl ⟨by decide, rfl⟩⟩
  · exact ⟨⟨Or.inl (by decide), by unfold sm; decide, by unfold sm; decide⟩, ⟨by unfold sm; decide, fun k hk => absurd hk (Nat.not_lt_zero k)⟩, Or.inl (by decide), Or.inl (by decide), 0, 0, 0, ⟨by decide, by decide, by decide, by decide⟩, by decide, Or.inl ⟨by decide, rfl⟩⟩
  · exact ⟨⟨Or.inl (by decide), by unfold sm; decide, by unfold sm; decide⟩, ⟨by unfold sm; decide, fun k hk => absurd hk (Nat.not_lt_zero k)⟩, Or.inl (by decide), Or.inl (by decide), 0, 0, 0, ⟨by decide, by decide, by decide, by decide⟩, by decide, Or.inl ⟨by decide, rfl⟩⟩
  · exact ⟨⟨Or.inl (by decide), by unfold sm; decide, by unfold sm; decide⟩, ⟨by unfold sm; decide, fun k hk => absurd hk (Nat.not_lt_zero k)⟩, Or.inl (by decide), Or.inl (by decide), 0, 0, 0, ⟨by decide, by decide, by decide, by decide⟩, by decide, Or.inl ⟨by decide, rfl⟩⟩
  · exact ⟨⟨Or.inl (by decide), by unfold sm; decide, by unfold sm; decide⟩, ⟨by unfold sm; decide, fun k hk => absurd hk (Nat.not_lt_zero k)⟩, Or.inl (by decide), Or.inl (by decide), 0, 0, 0, ⟨by decide, by decide, by decide, by decide⟩, by decide, Or.inl ⟨by decide, rfl⟩⟩
  · exact ⟨⟨Or.inl (by decide), by unfold sm; decide, by unfold sm; decide⟩, ⟨by unfold sm; decide, fun k hk => absurd hk (Nat.not_lt_zero k)⟩, Or.inl (by decide), Or.inl (by decide), 0, 0, 0, ⟨by decide, by decide, by decide, by decide⟩, by decide, Or.inl ⟨by decide, rfl⟩⟩
theorem LI_0 : LI 0 S0 T0 := by
  refine ⟨I0_0, fun a b _ _ => rfl, fun j hj => ?_, fun j hj => ?_⟩
  · rcases (show j = 0 ∨ j = 1 ∨ j = 2 ∨ j = 3 ∨ j = 4 ∨ j = 5 by omega) with rfl | rfl | rfl | rfl | rfl | rfl <;> exact Or.inr ⟨by decide, by decide⟩
  · rcases (show j = 0 ∨ j = 1 ∨ j = 2 ∨ j = 3 ∨ j = 4 ∨ j = 5 by omega) with rfl | rfl | rfl | rfl | rfl | rfl <;> decide
