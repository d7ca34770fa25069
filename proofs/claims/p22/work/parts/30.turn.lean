-- the law's turns
theorem its_ct3 {t : Nat} {S : Mem} (h : I0 t S) (ht : t + 1 < 100000) {j : Nat} (hj : j < 6) : ct3 S 6 (6 + 5 * j) 0 = S (6 + 5 * j) 0 := ((slot_ok h ht).2.2.2.2 j hj).2.2
theorem LI_slot {t : Nat} {S T u : Mem} (h : LI t S T) (ht : t + 1 < 100000) (u0 : u 0 = T 0) (u3 : u 3 = T 3) (u2 : sT (t + 1) (ct3 S 6) u) : LI (t + 1) (ct3 S 6) u := by
  obtain ⟨h1, h2, h3, h4⟩ := h
  obtain ⟨-, -, g1, g2, -⟩ := slot_ok h1 ht
  exact ⟨g1, fun a b ha hb => by rw [u0, g2]; exact h2 a b ha hb, u2, fun j hj => by rw [u3, its_ct3 h1 ht hj]; exact h4 j hj⟩
/-- the class's cells but some are as they were -/
theorem LI_of {t : Nat} {S T Z : Mem} (h : LI t S T) (hI : I0 t Z) (h3 : Z 3 = S 3) (h6 : ∀ j, j < 6 → Z (6 + 5 * j) = S (6 + 5 * j)) : LI t Z T :=
  ⟨hI, fun a b ha hb => by rw [h3]; exact h.2.1 a b ha hb, fun j hj => by rw [h6 j hj]; exact h.2.2.1 j hj, fun j hj => by rw [h6 j hj]; exact h.2.2.2 j hj⟩
theorem lw_tab : ∀ k, k < 2 → f_X5_leastWindow (nI k) = nI (3 + (4 * k)) := by decide +kernel
section LOOPS
variable {p : Program} {l : Launch} {e : Env} {s : State} {m : MethodId} {below : List Frame} {meth : Method} {c : Code} {b L : Nat} {xs : Nat → Int32} {Q : State → Prop} {D : va_G} {cI cS : ClassId} {G : Nat → Nat} {cells slots : Nat}
theorem lp_st (hX : LX p l s m c b L xs D cI cS G) (hcl : cells + 1 ≤ 600130) (hsl : slots + 6 ≤ 7301080) {t tn k : Nat} {S T : Mem} {td : Int32} (hI : I0 t S)
    (kk : ∀ (H : Heap) (locs : List Loc) (ls : Array Slot), va_P D vwCl (WL 40 G (lF cI cS G) (cmb S T)) H → va_S (fun q : Nat => s.heap.size ≤ q) s.heap H locs → lv_has ls 17 [(0, .ref b), (1, .ref (G 0)), (2, .ref (G 36)), (3, .ref (G 37)), (4, .ref (G 38)), (5, .ref (G 39)), (6, .int (nI 1)), (7, .int td), (8, .int (nI tn)), (9, .int (nI (k + 1)))] → W p l e room_1 s m #[Value.ref b] below meth c H locs cells slots Q (F0 m 76 ls [])) :
    ∀ (n j : Nat) (H : Heap) (locs : List Loc) (ls : Array Slot), j + n = 6 → va_P D vwCl (WL 40 G (lF cI cS G) (cmb S T)) H → va_S (fun q : Nat => s.heap.size ≤ q) s.heap H locs → lv_has ls 17 [(0, .ref b), (1, .ref (G 0)), (2, .ref (G 36)), (3, .ref (G 37)), (4, .ref (G 38)), (5, .ref (G 39)), (6, .int (nI 1)), (7, .int td), (8, .int (nI tn)), (9, .int (nI k)), (15, .int (nI j))] → W p l e room_1 s m #[Value.ref b] below meth c H locs cells slots Q (F0 m 611 ls [])
  | 0, j, H, locs, ls, hj, hP, hS, hl => by
    have e6 : j = 6 := by omega
    subst e6
    exact lg_S2 hX hcl hsl hP hS hl kk
  | n + 1, j, H, locs, ls, hj, hP, hS, hl => by
    refine lg_S1 hX hcl hsl (show j < 6 by omega) hI hP hS hl (fun H locs ls hP hS hl => ?_)
    exact lp_st hX hcl hsl hI kk n (j + 1) H locs ls (by omega) hP hS hl
theorem lp_sl (hX : LX p l s m c b L xs D cI cS G) (hcl : cells + 1 ≤ 600130) (hsl : slots + 6 ≤ 7301080) {t tn k kv : Nat} {td : Int32} (hk4 : kv ≤ 4) (ht : t + 5 < 100000)
    (kk : ∀ (t1 : Nat) (S1 T1 : Mem) (td1 : Int32) (H : Heap) (locs : List Loc) (ls : Array Slot), t1 ≤ t + 4 → LI t1 S1 T1 → va_P D vwCl (WL 40 G (lF cI cS G) (cmb S1 T1)) H → va_S (fun q : Nat => s.heap.size ≤ q) s.heap H locs → lv_has ls 17 [(0, .ref b), (1, .ref (G 0)), (2, .ref (G 36)), (3, .ref (G 37)), (4, .ref (G 38)), (5, .ref (G 39)), (6, .int (nI 1)), (7, .int td1), (8, .int (nI tn)), (9, .int (nI k))] → W p l e room_1 s m #[Value.ref b] below meth c H locs (cells + 1) (slots + 6) Q (F0 m 608 ls [])) :
    ∀ (n j : Nat) (S T : Mem) (H : Heap) (locs : List Loc) (ls : Array Slot), j + n = kv → LI (t + j) S T → va_P D vwCl (WL 40 G (lF cI cS G) (cmb S T)) H → va_S (fun q : Nat => s.heap.size ≤ q) s.heap H locs → lv_has ls 17 [(0, .ref b), (1, .ref (G 0)), (2, .ref (G 36)), (3, .ref (G 37)), (4, .ref (G 38)), (5, .ref (G 39)), (6, .int (nI 1)), (7, .int td), (8, .int (nI tn)), (9, .int (nI k)), (15, .int (nI kv)), (16, .int (nI j))] → W p l e room_1 s m #[Value.ref b] below meth c H locs cells slots Q (F0 m 580 ls [])
  | 0, j, S, T, H, locs, ls, hj, hLI, hP, hS, hl => by
    have e6 : j = kv := by omega
    subst e6
    refine lg_F2 hX hcl hsl (by omega) hP hS hl (fun H locs ls hP hS hl => ?_)
    exact W.widen (k := cells + 1) (n := slots + 6) (by omega) (by omega) (kk (t + j) S T td H locs ls (by omega) hLI hP hS hl)
  | n + 1, j, S, T, H, locs, ls, hj, hLI, hP, hS, hl => by
    refine lg_F1 hX hcl hsl (show j < kv by omega) (by omega) hLI (show t + j + 1 < 100000 by omega) hP hS hl (fun u u0 u3 u2 H locs ls hP hS hl => ?_)
    exact lp_sl hX hcl hsl hk4 ht kk n (j + 1) (ct3 S 6) u H locs ls (by omega) (LI_slot hLI (show t + j + 1 < 100000 by omega) u0 u3 u2) hP hS hl
theorem dd_A (hX : LX p l s m c b L xs D cI cS G) (hcl : cells + 1 ≤ 600130) (hsl : slots + 6 ≤ 7301080) {t tn k y sn ot : Nat} {S T : Mem} {td : Int32} (hLI : LI t S T) (ht : t + 5 < 100000) (hy28 : y < 268435456) (hsn : sn < 6) (hot : ot < 6) (hne : sn ≠ ot) {H : Heap} {locs : List Loc} {ls : Array Slot} (hP : va_P D vwCl (WL 40 G (lF cI cS G) (cmb S T)) H) (hS : va_S (fun q : Nat => s.heap.size ≤ q) s.heap H locs) (hl : lv_has ls 17 [(0, .ref b), (1, .ref (G 0)), (2, .ref (G 36)), (3, .ref (G 37)), (4, .ref (G 38)), (5, .ref (G 39)), (6, .int (nI 1)), (7, .int td), (8, .int (nI tn)), (9, .int (nI k)), (11, .int (nI y)), (13, .int (nI sn)), (14, .int (nI ot))])
    (kk : ∀ (t1 : Nat) (S1 T1 : Mem) (td1 : Int32) (H : Heap) (locs : List Loc) (ls : Array Slot), t1 ≤ t + 4 → LI t1 S1 T1 → va_P D vwCl (WL 40 G (lF cI cS G) (cmb S1 T1)) H → va_S (fun q : Nat => s.heap.size ≤ q) s.heap H locs → lv_has ls 17 [(0, .ref b), (1, .ref (G 0)), (2, .ref (G 36)), (3, .ref (G 37)), (4, .ref (G 38)), (5, .ref (G 39)), (6, .int (nI 1)), (7, .int td1), (8, .int (nI tn)), (9, .int (nI k))] → W p l e room_1 s m #[Value.ref b] below meth c H locs (cells + 1) (slots + 6) Q (F0 m 608 ls [])) : W p l e room_1 s m #[Value.ref b] below meth c H locs cells slots Q (F0 m 188 ls []) := by
  obtain ⟨h1, h2, h3, h4⟩ := id hLI
  refine lg_A1 hX hcl hsl hy28 hP hS hl (fun v hv H locs ls hP hS hl => ?_)
  obtain ⟨a1, a2⟩ := k_setStrength (v := nI v) h1 hsn hot hne
  obtain ⟨S1, hS1⟩ : ∃ Z, Z = ub (ub S 3 (sn * 6 + ot) (nI v)) 3 (ot * 6 + sn) (nI v) := ⟨_, rfl⟩
  rw [← hS1] at a1 a2
  obtain ⟨b1, b2⟩ := k_setStrength (v := nI v) a2 hot hsn (Ne.symm hne)
  obtain ⟨S2, hS2⟩ : ∃ Z, Z = ub (ub S1 3 (ot * 6 + sn) (nI v)) 3 (sn * 6 + ot) (nI v) := ⟨_, rfl⟩
  rw [← hS2] at b1 b2
  have e1 : S1 3 (ot * 6 + sn) = nI v := by rw [hS1, ub_blk, pk_us]
  rw [e1] at b1
  refine lg_A2 hX hcl hsl hv hsn hot hne a1 b1 (h2 sn ot hsn hot) hP hS hl (fun H locs ls hP hS hl => ?_)
  have z3 : ∀ x, S2 3 x = if x = sn * 6 + ot then nI v else if x = ot * 6 + sn then nI v else S 3 x := fun x => by
    rw [hS2, ub_blk, upd, ub_blk, upd, hS1, ub_blk, upd, ub_blk, upd]
    by_cases q1 : x = sn * 6 + ot
    · simp only [if_pos q1]
    · by_cases q2 : x = ot * 6 + sn
      · simp only [if_neg q1, if_pos q2]
      · simp only [if_neg q1, if_neg q2]
  have zb : ∀ b, b ≠ 3 → S2 b = S b := fun b h => by rw [hS2, ub_ne _ _ _ h, ub_ne _ _ _ h, hS1, ub_ne _ _ _ h, ub_ne _ _ _ h]
  refine W.widen (k := cells + 1) (n := slots + 6) (by omega) (by omega) (kk t S2 _ td H locs ls (by omega) ⟨b2, fun x y hx hy => ?_, fun j hj => ?_, fun j hj => ?_⟩ hP hS hl)
  · rw [z3, ub_blk, upd, ub_blk, upd]
    by_cases q1 : x = sn ∧ y = ot
    · obtain ⟨rfl, rfl⟩ := q1
      rw [if_pos rfl, if_neg (by omega), if_pos (by omega)]
    · by_cases q2 : x = ot ∧ y = sn
      · obtain ⟨rfl, rfl⟩ := q2
        rw [if_pos (by omega), if_neg (by omega), if_pos rfl]
      · rw [if_neg (by omega), if_neg (by omega), if_neg (by omega), if_neg (by omega)]
        exact h2 x y hx hy
  · rw [zb _ (by omega), ub_ne _ _ _ (by decide), ub_ne _ _ _ (by decide)]; exact h3 j hj
  · rw [zb _ (by omega), ub_ne _ _ _ (by decide), ub_ne _ _ _ (by decide)]; exact h4 j hj
theorem dd_B (hX : LX p l s m c b L xs D cI cS G) (hcl : cells + 1 ≤ 600130) (hsl : slots + 6 ≤ 7301080) {t tn k y sn ot : Nat} {S T : Mem} {td : Int32} (hLI : LI t S T) (ht : t + 5 < 100000) (hy28 : y < 268435456) (hsn : sn < 6) (hot : ot < 6) (hne : sn ≠ ot) {H : Heap} {locs : List Loc} {ls : Array Slot} (hP : va_P D vwCl (WL 40 G (lF cI cS G) (cmb S T)) H) (hS : va_S (fun q : Nat => s.heap.size ≤ q) s.heap H locs) (hl : lv_has ls 17 [(0, .ref b), (1, .ref (G 0)), (2, .ref (G 36)), (3, .ref (G 37)), (4, .ref (G 38)), (5, .ref (G 39)), (6, .int (nI 1)), (7, .int td), (8, .int (nI tn)), (9, .int (nI k)), (11, .int (nI y)), (13, .int (nI sn)), (14, .int (nI ot))])
    (kk : ∀ (t1 : Nat) (S1 T1 : Mem) (td1 : Int32) (H : Heap) (locs : List Loc) (ls : Array Slot), t1 ≤ t + 4 → LI t1 S1 T1 → va_P D vwCl (WL 40 G (lF cI cS G) (cmb S1 T1)) H → va_S (fun q : Nat => s.heap.size ≤ q) s.heap H locs → lv_has ls 17 [(0, .ref b), (1, .ref (G 0)), (2, .ref (G 36)), (3, .ref (G 37)), (4, .ref (G 38)), (5, .ref (G 39)), (6, .int (nI 1)), (7, .int td1), (8, .int (nI tn)), (9, .int (nI k))] → W p l e room_1 s m #[Value.ref b] below meth c H locs (cells + 1) (slots + 6) Q (F0 m 608 ls [])) : W p l e room_1 s m #[Value.ref b] below meth c H locs cells slots Q (F0 m 295 ls []) := by
  obtain ⟨rv, hrv⟩ : ∃ rv, 1 + y / 8 % 5 = rv := ⟨_, rfl⟩
  have r6 : rv < 6 := by omega
  have r0 : 0 < rv := by omega
  obtain ⟨a1, a2⟩ := k_setReserve hLI.1 r6 r0
  obtain ⟨b1, b2⟩ := k_setReserve a2 r6 r0
  rw [hLI.1.1.1.1.1] at a1
  have e1 : ub S 0 0 (nI rv) 0 0 = nI rv := by rw [ub_blk, pk_us]
  rw [e1] at b1
  refine lg_B hX hcl hsl hy28 hrv hLI.1.1.1.2 hLI.1.1.1.1.2 a1 b1 hP hS hl (fun H locs ls hP hS hl => ?_)
  exact W.widen (k := cells + 1) (n := slots + 6) (by omega) (by omega) (kk t _ T td H locs ls (by omega) (LI_of hLI b2 (by rw [ub_ne _ _ _ (by decide), ub_ne _ _ _ (by decide)]) (fun j hj => by rw [ub_ne _ _ _ (by omega), ub_ne _ _ _ (by omega)])) hP hS hl)
theorem dd_C (hX : LX p l s m c b L xs D cI cS G) (hcl : cells + 1 ≤ 600130) (hsl : slots + 6 ≤ 7301080) {t tn k y sn ot : Nat} {S T : Mem} {td : Int32} (hLI : LI t S T) (ht : t + 5 < 100000) (hy28 : y < 268435456) (hsn : sn < 6) (hot : ot < 6) (hne : sn ≠ ot) {H : Heap} {locs : List Loc} {ls : Array Slot} (hP : va_P D vwCl (WL 40 G (lF cI cS G) (cmb S T)) H) (hS : va_S (fun q : Nat => s.heap.size ≤ q) s.heap H locs) (hl : lv_has ls 17 [(0, .ref b), (1, .ref (G 0)), (2, .ref (G 36)), (3, .ref (G 37)), (4, .ref (G 38)), (5, .ref (G 39)), (6, .int (nI 1)), (7, .int td), (8, .int (nI tn)), (9, .int (nI k)), (11, .int (nI y)), (13, .int (nI sn)), (14, .int (nI ot))])
    (kk : ∀ (t1 : Nat) (S1 T1 : Mem) (td1 : Int32) (H : Heap) (locs : List Loc) (ls : Array Slot), t1 ≤ t + 4 → LI t1 S1 T1 → va_P D vwCl (WL 40 G (lF cI cS G) (cmb S1 T1)) H → va_S (fun q : Nat => s.heap.size ≤ q) s.heap H locs → lv_has ls 17 [(0, .ref b), (1, .ref (G 0)), (2, .ref (G 36)), (3, .ref (G 37)), (4, .ref (G 38)), (5, .ref (G 39)), (6, .int (nI 1)), (7, .int td1), (8, .int (nI tn)), (9, .int (nI k))] → W p l e room_1 s m #[Value.ref b] below meth c H locs (cells + 1) (slots + 6) Q (F0 m 608 ls [])) : W p l e room_1 s m #[Value.ref b] below meth c H locs cells slots Q (F0 m 356 ls []) := by
  obtain ⟨cn, hcn⟩ : ∃ cn, y / 8 % 6 = cn := ⟨_, rfl⟩
  obtain ⟨kv, hkv⟩ : ∃ kv, y / 4 % 2 = kv := ⟨_, rfl⟩
  have c6 : cn < 6 := by omega
  obtain ⟨h1, h2, h3, h4⟩ := id hLI
  obtain ⟨a1, a2⟩ := k_setClass (y := nI kv) h1 c6
  refine lg_C hX hcl hsl hy28 hcn c6 hkv a1 (h4 cn c6) (by rw [ub_blk, pk_us]; exact lw_tab kv (by omega)) hP hS hl (fun H locs ls hP hS hl => ?_)
  refine W.widen (k := cells + 1) (n := slots + 6) (by omega) (by omega) (kk t _ _ td H locs ls (by omega) ⟨a2, fun x y hx hy => ?_, fun j hj => ?_, fun j hj => ?_⟩ hP hS hl)
  · rw [ub_ne _ _ _ (by decide), ub_ne _ _ _ (by omega), ub_ne _ _ _ (by omega)]; exact h2 x y hx hy
  · rw [ub_ne _ _ _ (by decide)]
    by_cases q : j = cn
    · subst q; rw [ub_blk, pk_un (by decide), ub_blk, pk_un (by decide)]; exact h3 j hj
    · rw [ub_ne _ _ _ (by omega), ub_ne _ _ _ (by omega)]; exact h3 j hj
  · rw [ub_blk]
    by_cases q : j = cn
    · subst q; rw [pk_us, ub_blk, pk_un (by decide), ub_blk, pk_us]
    · rw [pk_un q, ub_ne _ _ _ (by omega), ub_ne _ _ _ (by omega)]; exact h4 j hj
theorem dd_D (hX : LX p l s m c b L xs D cI cS G) (hcl : cells + 1 ≤ 600130) (hsl : slots + 6 ≤ 7301080) {t tn k y sn ot : Nat} {S T : Mem} {td : Int32} (hLI : LI t S T) (ht : t + 5 < 100000) (hy28 : y < 268435456) (hsn : sn < 6) (hot : ot < 6) (hne : sn ≠ ot) {H : Heap} {locs : List Loc} {ls : Array Slot} (hP : va_P D vwCl (WL 40 G (lF cI cS G) (cmb S T)) H) (hS : va_S (fun q : Nat => s.heap.size ≤ q) s.heap H locs) (hl : lv_has ls 17 [(0, .ref b), (1, .ref (G 0)), (2, .ref (G 36)), (3, .ref (G 37)), (4, .ref (G 38)), (5, .ref (G 39)), (6, .int (nI 1)), (7, .int td), (8, .int (nI tn)), (9, .int (nI k)), (11, .int (nI y)), (13, .int (nI sn)), (14, .int (nI ot))])
    (kk : ∀ (t1 : Nat) (S1 T1 : Mem) (td1 : Int32) (H : Heap) (locs : List Loc) (ls : Array Slot), t1 ≤ t + 4 → LI t1 S1 T1 → va_P D vwCl (WL 40 G (lF cI cS G) (cmb S1 T1)) H → va_S (fun q : Nat => s.heap.size ≤ q) s.heap H locs → lv_has ls 17 [(0, .ref b), (1, .ref (G 0)), (2, .ref (G 36)), (3, .ref (G 37)), (4, .ref (G 38)), (5, .ref (G 39)), (6, .int (nI 1)), (7, .int td1), (8, .int (nI tn)), (9, .int (nI k))] → W p l e room_1 s m #[Value.ref b] below meth c H locs (cells + 1) (slots + 6) Q (F0 m 608 ls [])) : W p l e room_1 s m #[Value.ref b] below meth c H locs cells slots Q (F0 m 431 ls []) := by
  obtain ⟨h1, h2, h3, h4⟩ := id hLI
  obtain ⟨⟨f1, f2⟩, ⟨n1, n2⟩, -⟩ := h1.2.2.1
  rcases Nat.lt_or_ge (kN (S 4 1)) 200 with q | q
  · obtain ⟨Z, z1, z2, z3⟩ := k_tell (v := y / 8 % 1001) h1 (Nat.mod_lt _ (by decide)) q
    refine lg_D1 hX hcl hsl hy28 n1 rfl q f1 f2 n1 q z1 hP hS hl (fun H locs ls hP hS hl => ?_)
    exact W.widen (k := cells + 1) (n := slots + 6) (by omega) (by omega) (kk t Z T _ H locs ls (by omega) (LI_of hLI z2 (z3 3 (by decide) (by decide)) (fun j hj => z3 _ (by omega) (by omega))) hP hS hl)
  · refine lg_D2 hX hcl hsl hy28 n1 rfl q (by omega) hP hS hl (fun H locs ls hP hS hl => ?_)
    exact kk t S T _ H locs ls (by omega) hLI hP hS hl
theorem dd_E (hX : LX p l s m c b L xs D cI cS G) (hcl : cells + 1 ≤ 600130) (hsl : slots + 6 ≤ 7301080) {t tn k y sn ot : Nat} {S T : Mem} {td : Int32} (hLI : LI t S T) (ht : t + 5 < 100000) (hy28 : y < 268435456) (hsn : sn < 6) (hot : ot < 6) (hne : sn ≠ ot) {H : Heap} {locs : List Loc} {ls : Array Slot} (hP : va_P D vwCl (WL 40 G (lF cI cS G) (cmb S T)) H) (hS : va_S (fun q : Nat => s.heap.size ≤ q) s.heap H locs) (hl : lv_has ls 17 [(0, .ref b), (1, .ref (G 0)), (2, .ref (G 36)), (3, .ref (G 37)), (4, .ref (G 38)), (5, .ref (G 39)), (6, .int (nI 1)), (7, .int td), (8, .int (nI tn)), (9, .int (nI k)), (11, .int (nI y)), (13, .int (nI sn)), (14, .int (nI ot))])
    (kk : ∀ (t1 : Nat) (S1 T1 : Mem) (td1 : Int32) (H : Heap) (locs : List Loc) (ls : Array Slot), t1 ≤ t + 4 → LI t1 S1 T1 → va_P D vwCl (WL 40 G (lF cI cS G) (cmb S1 T1)) H → va_S (fun q : Nat => s.heap.size ≤ q) s.heap H locs → lv_has ls 17 [(0, .ref b), (1, .ref (G 0)), (2, .ref (G 36)), (3, .ref (G 37)), (4, .ref (G 38)), (5, .ref (G 39)), (6, .int (nI 1)), (7, .int td1), (8, .int (nI tn)), (9, .int (nI k))] → W p l e room_1 s m #[Value.ref b] below meth c H locs (cells + 1) (slots + 6) Q (F0 m 608 ls [])) : W p l e room_1 s m #[Value.ref b] below meth c H locs cells slots Q (F0 m 490 ls []) := by
  obtain ⟨h1, h2, h3, h4⟩ := id hLI
  obtain ⟨pv, hpv⟩ : ∃ pv, 1 + y / 256 % 4 = pv := ⟨_, rfl⟩
  have p5 : pv < 5 := by omega
  have p0 : 0 < pv := by omega
  have c1 := (h1.2.2.2 sn hsn).2.1.1
  rcases Nat.lt_or_ge (kN (S (7 + 5 * sn) 0)) 5 with q | q
  · obtain ⟨Z, z1, z2, z3, z4, z5⟩ := k_frame h1 hsn hot p5 p0 q
    refine lg_E1 hX hcl hsl hy28 hpv hsn hot hne c1.1 q (par_tab pv p5 p0).1 z1 (fun h0 => parts_eq z4 (Nat.succ_pos _) (by omega) (z5 h0)) hP hS hl (fun H locs ls hP hS hl => ?_)
    exact W.widen (k := cells + 1) (n := slots + 6) (by omega) (by omega) (kk t Z T td H locs ls (by omega) (LI_of hLI z2 (z3 3 (by omega) (by omega) (by omega)) (fun j hj => z3 _ (by omega) (by omega) (by omega))) hP hS hl)
  · refine lg_E2 hX hcl hsl hy28 hpv hsn hot hne c1.1 q (by have := c1.2; omega) hP hS hl (fun H locs ls hP hS hl => ?_)
    exact kk t S T td H locs ls (by omega) hLI hP hS hl
theorem dd_F (hX : LX p l s m c b L xs D cI cS G) (hcl : cells + 1 ≤ 600130) (hsl : slots + 6 ≤ 7301080) {t tn k y sn ot : Nat} {S T : Mem} {td : Int32} (hLI : LI t S T) (ht : t + 5 < 100000) (hy28 : y < 268435456) (hsn : sn < 6) (hot : ot < 6) (hne : sn ≠ ot) {H : Heap} {locs : List Loc} {ls : Array Slot} (hP : va_P D vwCl (WL 40 G (lF cI cS G) (cmb S T)) H) (hS : va_S (fun q : Nat => s.heap.size ≤ q) s.heap H locs) (hl : lv_has ls 17 [(0, .ref b), (1, .ref (G 0)), (2, .ref (G 36)), (3, .ref (G 37)), (4, .ref (G 38)), (5, .ref (G 39)), (6, .int (nI 1)), (7, .int td), (8, .int (nI tn)), (9, .int (nI k)), (11, .int (nI y)), (13, .int (nI sn)), (14, .int (nI ot))])
    (kk : ∀ (t1 : Nat) (S1 T1 : Mem) (td1 : Int32) (H : Heap) (locs : List Loc) (ls : Array Slot), t1 ≤ t + 4 → LI t1 S1 T1 → va_P D vwCl (WL 40 G (lF cI cS G) (cmb S1 T1)) H → va_S (fun q : Nat => s.heap.size ≤ q) s.heap H locs → lv_has ls 17 [(0, .ref b), (1, .ref (G 0)), (2, .ref (G 36)), (3, .ref (G 37)), (4, .ref (G 38)), (5, .ref (G 39)), (6, .int (nI 1)), (7, .int td1), (8, .int (nI tn)), (9, .int (nI k))] → W p l e room_1 s m #[Value.ref b] below meth c H locs (cells + 1) (slots + 6) Q (F0 m 608 ls [])) : W p l e room_1 s m #[Value.ref b] below meth c H locs cells slots Q (F0 m 567 ls []) := by
  obtain ⟨kv, hkv⟩ : ∃ kv, 1 + y / 4 % 4 = kv := ⟨_, rfl⟩
  refine lg_F0 hX hcl hsl hy28 hkv hP hS hl (fun H locs ls hP hS hl => ?_)
  exact lp_sl hX hcl hsl (show kv ≤ 4 by omega) ht kk kv 0 S T H locs ls (Nat.zero_add _) hLI hP hS hl
theorem turn_step (hX : LX p l s m c b L xs D cI cS G) (hcl2 : cells + 2 ≤ 600130) (hsl2 : slots + 12 ≤ 7301080) {t tn k : Nat} {S T : Mem} {td : Int32} (hk : k < tn) (htn : tn ≤ 420) (hLI : LI t S T) (ht : t + 5 < 100000) {H : Heap} {locs : List Loc} {ls : Array Slot} (hP : va_P D vwCl (WL 40 G (lF cI cS G) (cmb S T)) H) (hS : va_S (fun q : Nat => s.heap.size ≤ q) s.heap H locs) (hl : lv_has ls 17 [(0, .ref b), (1, .ref (G 0)), (2, .ref (G 36)), (3, .ref (G 37)), (4, .ref (G 38)), (5, .ref (G 39)), (6, .int (nI 1)), (7, .int td), (8, .int (nI tn)), (9, .int (nI k))])
    (kk : ∀ (t1 : Nat) (S1 T1 : Mem) (td1 : Int32) (H : Heap) (locs : List Loc) (ls : Array Slot), t1 ≤ t + 4 → LI t1 S1 T1 → va_P D vwCl (WL 40 G (lF cI cS G) (cmb S1 T1)) H → va_S (fun q : Nat => s.heap.size ≤ q) s.heap H locs → lv_has ls 17 [(0, .ref b), (1, .ref (G 0)), (2, .ref (G 36)), (3, .ref (G 37)), (4, .ref (G 38)), (5, .ref (G 39)), (6, .int (nI 1)), (7, .int td1), (8, .int (nI tn)), (9, .int (nI (k + 1)))] → W p l e room_1 s m #[Value.ref b] below meth c H locs (cells + 1) (slots + 6) Q (F0 m 76 ls [])) : W p l e room_1 s m #[Value.ref b] below meth c H locs cells slots Q (F0 m 76 ls []) := by
  have hcl : cells + 1 ≤ 600130 := by omega
  have hsl : slots + 6 ≤ 7301080 := by omega
  refine lg_x hX hcl hsl hk htn hP hS hl (fun x H locs ls hP hS hl => ?_)
  obtain ⟨y, hy28, hy⟩ := pk_andE (x >>> ((nI 4) &&& 31)) (m := 268435455) 28 (by decide)
  obtain ⟨dd, hdd16, hdd⟩ := pk_andE x (m := nI 15) 4 (by decide)
  have hy28 : y < 268435456 := hy28
  obtain ⟨sn, hsn⟩ : ∃ sn, y % 6 = sn := ⟨_, rfl⟩
  obtain ⟨ot, hot⟩ : ∃ ot, (sn + 1 + y / 8 % 5) % 6 = ot := ⟨_, rfl⟩
  have s6 : sn < 6 := by omega
  have o6 : ot < 6 := by omega
  have hne : sn ≠ ot := by omega
  have fin : ∀ (t1 : Nat) (S1 T1 : Mem) (td1 : Int32) (H : Heap) (locs : List Loc) (ls : Array Slot), t1 ≤ t + 4 → LI t1 S1 T1 → va_P D vwCl (WL 40 G (lF cI cS G) (cmb S1 T1)) H → va_S (fun q : Nat => s.heap.size ≤ q) s.heap H locs → lv_has ls 17 [(0, .ref b), (1, .ref (G 0)), (2, .ref (G 36)), (3, .ref (G 37)), (4, .ref (G 38)), (5, .ref (G 39)), (6, .int (nI 1)), (7, .int td1), (8, .int (nI tn)), (9, .int (nI k))] → W p l e room_1 s m #[Value.ref b] below meth c H locs (cells + 1) (slots + 6) Q (F0 m 608 ls []) := by
    intro t1 S1 T1 td1 H locs ls ht1 hLI1 hP hS hl
    refine lg_S0 (cells := cells + 1) (slots := slots + 6) hX (by omega) (by omega) hP hS hl (fun H locs ls hP hS hl => ?_)
    exact lp_st hX (by omega) (by omega) hLI1.1 (fun H locs ls hP hS hl => kk t1 S1 T1 td1 H locs ls ht1 hLI1 hP hS hl) 6 0 H locs ls rfl hP hS hl
  refine lg_y hX hcl hsl hy hy28 hdd hsn hot htn hk hP hS hl (fun dv H locs ls hP hS hl => ?_)
  have _sub : lv_has ls 17 [(0, .ref b), (1, .ref (G 0)), (2, .ref (G 36)), (3, .ref (G 37)), (4, .ref (G 38)), (5, .ref (G 39)), (6, .int (nI 1)), (7, .int td), (8, .int (nI tn)), (9, .int (nI k)), (11, .int (nI y)), (12, .int (nI dv)), (13, .int (nI sn)), (14, .int (nI ot))] → lv_has ls 17 [(0, .ref b), (1, .ref (G 0)), (2, .ref (G 36)), (3, .ref (G 37)), (4, .ref (G 38)), (5, .ref (G 39)), (6, .int (nI 1)), (7, .int td), (8, .int (nI tn)), (9, .int (nI k)), (11, .int (nI y)), (13, .int (nI sn)), (14, .int (nI ot))] := fun h => lv_sub h [0, 1, 2, 3, 4, 5, 6, 7, 8, 9, 10, 12, 13] rfl
  exact lg_d hX hcl hsl hy28 hP hS hl
    (fun H locs ls hP hS hl => dd_A hX hcl hsl hLI ht hy28 s6 o6 hne hP hS (lv_sub hl [0, 1, 2, 3, 4, 5, 6, 7, 8, 9, 10, 12, 13] rfl) fin)
    (fun H locs ls hP hS hl => dd_B hX hcl hsl hLI ht hy28 s6 o6 hne hP hS (lv_sub hl [0, 1, 2, 3, 4, 5, 6, 7, 8, 9, 10, 12, 13] rfl) fin)
    (fun H locs ls hP hS hl => dd_C hX hcl hsl hLI ht hy28 s6 o6 hne hP hS (lv_sub hl [0, 1, 2, 3, 4, 5, 6, 7, 8, 9, 10, 12, 13] rfl) fin)
    (fun H locs ls hP hS hl => dd_D hX hcl hsl hLI ht hy28 s6 o6 hne hP hS (lv_sub hl [0, 1, 2, 3, 4, 5, 6, 7, 8, 9, 10, 12, 13] rfl) fin)
    (fun H locs ls hP hS hl => dd_E hX hcl hsl hLI ht hy28 s6 o6 hne hP hS (lv_sub hl [0, 1, 2, 3, 4, 5, 6, 7, 8, 9, 10, 12, 13] rfl) fin)
    (fun H locs ls hP hS hl => dd_F hX hcl hsl hLI ht hy28 s6 o6 hne hP hS (lv_sub hl [0, 1, 2, 3, 4, 5, 6, 7, 8, 9, 10, 12, 13] rfl) fin)
end LOOPS
