-- one slot, as the law sees it
def rT (S T : Mem) : Prop := ∀ a b, a < 6 → b < 6 → T 0 (6 * a + b) = S 3 (a * 6 + b)
def sT (t : Nat) (S T : Mem) : Prop := ∀ j, j < 6 → (T 2 j = nI 1 ∧ S (6 + 5 * j) 9 = nI t) ∨ (T 2 j = nI 0 ∧ ¬ S (6 + 5 * j) 9 = nI t)
def hV (S T : Mem) (j : Nat) : Prop := T 1 (8 * j) = S (8 + 5 * j) 0 ∧ T 1 (8 * j + 1) = S (6 + 5 * j) 2 ∧ T 1 (8 * j + 2) = S (7 + 5 * j) 0 ∧ T 1 (8 * j + 3) = S (6 + 5 * j) 7 ∧ T 1 (8 * j + 4) = S (6 + 5 * j) 4 ∧ T 1 (8 * j + 5) = S (6 + 5 * j) 5 ∧ T 1 (8 * j + 6) = f_X0_partsOfFirst S j ∧ T 1 (8 * j + 7) = S (6 + 5 * j) 6
def bzF (T : Mem) (i : Nat) : Nat → Nat → Int32 → Int32
  | 0, _, b => b
  | n + 1, k, b => bzF T i n (k + 1) (bS T i k b)
theorem bzF_1 (T : Mem) (i : Nat) : ∀ n k, bzF T i n k (nI 1) = nI 1
  | 0, _ => rfl
  | n + 1, k => by
    have e : bS T i k (nI 1) = nI 1 := by unfold bS; rw [if_neg nI1_ne]
    show bzF T i n (k + 1) (bS T i k (nI 1)) = nI 1
    rw [e]
    exact bzF_1 T i n (k + 1)
theorem bzF_0 (T : Mem) {i : Nat} (hi : i < 6) : ∀ n k, k + n = 6 → (bzF T i n k (nI 0) = nI 1 ∧ ∃ m, k ≤ m ∧ m < 6 ∧ m ≠ i ∧ ¬ T 0 (6 * i + m) ≤ 0 ∧ T 2 m = nI 1) ∨ (bzF T i n k (nI 0) = nI 0 ∧ ∀ m, k ≤ m → m < 6 → m ≠ i → ¬ T 0 (6 * i + m) ≤ 0 → ¬ T 2 m = nI 1)
  | 0, k, hk => Or.inr ⟨rfl, fun m h1 h2 => by omega⟩
  | n + 1, k, hk => by
    have ih := bzF_0 T hi n (k + 1) (by omega)
    have go : (k ≠ i → ¬ T 0 (6 * i + k) ≤ 0 → ¬ T 2 k = nI 1) → bS T i k (nI 0) = nI 0 → (bzF T i (n + 1) k (nI 0) = nI 1 ∧ ∃ m, k ≤ m ∧ m < 6 ∧ m ≠ i ∧ ¬ T 0 (6 * i + m) ≤ 0 ∧ T 2 m = nI 1) ∨ (bzF T i (n + 1) k (nI 0) = nI 0 ∧ ∀ m, k ≤ m → m < 6 → m ≠ i → ¬ T 0 (6 * i + m) ≤ 0 → ¬ T 2 m = nI 1) := by
      intro h1 h2
      have e : bzF T i (n + 1) k (nI 0) = bzF T i n (k + 1) (nI 0) := by
        show bzF T i n (k + 1) (bS T i k (nI 0)) = _
        rw [h2]
      rw [e]
      rcases ih with ⟨a, m, b1, b2⟩ | ⟨a, b⟩
      · exact Or.inl ⟨a, m, by omega, b2⟩
      · refine Or.inr ⟨a, fun m m1 m2 => ?_⟩
        by_cases q : m = k
        · subst q; exact h1
        · exact b m (by omega) m2
    by_cases e1 : k = i
    · exact go (fun h => absurd e1 h) (by unfold bS; rw [if_pos nI0, if_pos (by rw [e1])])
    · have e1' : ¬ nI k = nI i := fun h => e1 (nI_inj (by omega) (by omega) h)
      by_cases e2 : T 0 (6 * i + k) ≤ 0
      · exact go (fun _ h => absurd e2 h) (by unfold bS; rw [if_pos nI0, if_neg e1', if_pos e2])
      · by_cases e3 : T 2 k = nI 1
        · refine Or.inl ⟨?_, k, Nat.le_refl _, by omega, e1, e2, e3⟩
          have e : bS T i k (nI 0) = nI 1 := by unfold bS; rw [if_pos nI0, if_neg e1', if_neg e2, if_pos e3]
          show bzF T i n (k + 1) (bS T i k (nI 0)) = nI 1
          rw [e]
          exact bzF_1 T i n (k + 1)
        · exact go (fun _ _ => e3) (by unfold bS; rw [if_pos nI0, if_neg e1', if_neg e2, if_neg e3])
theorem busy_val {t i : Nat} {S T : Mem} (ht : t + 1 < 100000) (hi : i < 6) (hr : ∀ m, m < 6 → T 0 (6 * i + m) = S 3 (i * 6 + m)) (hs : sT t S T) (h4 : sm (S (6 + 5 * i) 4) (t + 9)) : (bz t S i ∧ bzF T i 6 0 (if S (6 + 5 * i) 4 ≤ nI t then nI 0 else nI 1) = nI 1) ∨ (¬ bz t S i ∧ bzF T i 6 0 (if S (6 + 5 * i) 4 ≤ nI t then nI 0 else nI 1) = nI 0) := by
  obtain ⟨z1, z2⟩ := h4
  by_cases h : S (6 + 5 * i) 4 ≤ nI t
  · rw [if_pos h]
    have hn : ¬ nI (t + 1) ≤ S (6 + 5 * i) 4 := by
      rw [z1, nI_leI (by omega) (by omega)] at h
      rw [z1, nI_leI (by omega) (by omega)]
      omega
    rcases bzF_0 T hi 6 0 rfl with ⟨a, m, b1, b2, b3, b4, b5⟩ | ⟨a, b⟩
    · refine Or.inl ⟨Or.inr ⟨m, b2, b3, by rw [← hr m b2]; exact b4, ?_⟩, a⟩
      rcases hs m b2 with q | q
      · exact q.2
      · rw [q.1] at b5; exact absurd b5.symm nI1_0
    · refine Or.inr ⟨fun hb => ?_, a⟩
      rcases hb with hb | ⟨m, b2, b3, b4, b5⟩
      · exact hn hb
      · rcases hs m b2 with q | q
        · exact b m (Nat.zero_le _) b2 b3 (by rw [hr m b2]; exact b4) q.1
        · exact q.2 b5
  · rw [if_neg h]
    refine Or.inl ⟨Or.inl ?_, bzF_1 T i 6 0⟩
    rw [z1, nI_leI (by omega) (by omega)] at h
    rw [z1, nI_leI (by omega) (by omega)]
    omega
theorem pof {S : Mem} {i : Nat} (h : kRw S i) : ∃ pp, pp < 16 ∧ f_X0_partsOfFirst S i = nI pp ∧ (0 < kN (S (7 + 5 * i) 0) → S (10 + 5 * i) 0 = nI pp) := by
  rcases Nat.eq_zero_or_pos (kN (S (7 + 5 * i) 0)) with q | q
  · have e : S (7 + 5 * i) 0 = nI 0 := by rw [h.1.1, q]
    exact ⟨0, by decide, by rw [f_X0_partsOfFirst_d, e, if_pos (by decide)], fun h => by omega⟩
  · obtain ⟨-, p1, -⟩ := h.2 0 q
    exact ⟨_, p1.2, by rw [f_X0_partsOfFirst_d, if_neg (by rw [h.1.1]; exact nI_nle q (by have := h.1.2; omega))]; exact p1.1, fun _ => p1.1⟩
section ISL2
variable {p : Program} {l : Launch} {e : Env} {s : State} {m : MethodId} {args : Array Value} {below : List Frame} {meth : Method} {c : Code} {Q : State → Prop} {D : va_G} {A : Nat → Prop} {cI cS : ClassId} {G : Nat → Nat}
set_option maxHeartbeats 1000000 in
theorem lpA (hX : IX p s m args c D A cI cS G) {t : Nat} {S T : Mem} (hon : ∀ j, j < 6 → S (8 + 5 * j) 0 = nI 0 ∨ S (8 + 5 * j) 0 = nI 1)
    (kk : ∀ (T1 : Mem) (H : Heap) (locs : List Loc) (ls : Array Slot), (∀ b, b ≠ 1 → T1 b = T b) → (∀ j, j < 6 → hV S T1 j) → va_P D vwCl (WL 40 G (lF cI cS G) (cmb S T1)) H → va_S A s.heap H locs → lv_has ls 13 [(0, .ref (G 0)), (1, .ref (G 36)), (2, .ref (G 37)), (3, .ref (G 38)), (4, .int (nI 0)), (5, .int (nI t)), (6, .int (nI 6))] → W p l e ({ frames := 8, cells := 0, slots := 0, locals := 177 } : Room) s m args below meth c H locs 0 0 Q (F0 m 12 ls [])) :
    ∀ (n i : Nat) (T1 : Mem) (H : Heap) (locs : List Loc) (ls : Array Slot), i + n = 6 → (∀ b, b ≠ 1 → T1 b = T b) → (∀ j, j < i → hV S T1 j) → va_P D vwCl (WL 40 G (lF cI cS G) (cmb S T1)) H → va_S A s.heap H locs → lv_has ls 13 [(0, .ref (G 0)), (1, .ref (G 36)), (2, .ref (G 37)), (3, .ref (G 38)), (4, .int (nI 0)), (5, .int (nI t)), (6, .int (nI i))] → W p l e ({ frames := 8, cells := 0, slots := 0, locals := 177 } : Room) s m args below meth c H locs 0 0 Q (F0 m 12 ls [])
  | 0, i, T1, H, locs, ls, hi, h1, h2, hP, hS, hl => by
    have e6 : i = 6 := by omega
    subst e6
    exact kk T1 H locs ls h1 h2 hP hS hl
  | n + 1, i, T1, H, locs, ls, hi, h1, h2, hP, hS, hl => by
    have ih := lpA hX hon kk n (i + 1)
    obtain ⟨z, e1, e2⟩ : ∃ z : Nat, S (8 + 5 * i) 0 = nI z ∧ (z = 0 ∨ z = 1) := by
      rcases hon i (by omega) with h | h
      · exact ⟨0, h, Or.inl rfl⟩
      · exact ⟨1, h, Or.inr rfl⟩
    refine sg_B hX (by omega) e1 e2 (by rcases e2 with rfl | rfl <;> rfl) hP hS hl (fun H locs ls hP hS hl => ?_)
    refine ih _ H locs ls (by omega) (fun b hb => ?_) (fun j hj => ?_) hP hS hl
    · simp (disch := omega) only [ub_ne]
      exact h1 b hb
    · unfold hV
      by_cases q : j = i
      · subst q
        simp (disch := omega) only [ub_blk, pk_us, pk_un]
        refine ⟨e1.symm, ?_, ?_, ?_, ?_, ?_, ?_, ?_⟩ <;> first | trivial | rfl
      · simp (disch := omega) only [ub_blk, pk_un]
        exact h2 j (by omega)
theorem lpE0 (hX : IX p s m args c D A cI cS G) {t i e9 en : Nat} {F T : Mem} (hi : i < 6)
    {b1 : Int32} (kk : ∀ (H : Heap) (locs : List Loc) (ls : Array Slot), va_P D vwCl (WL 40 G (lF cI cS G) (cmb F T)) H → va_S A s.heap H locs → lv_has ls 13 [(0, .ref (G 0)), (1, .ref (G 36)), (2, .ref (G 37)), (3, .ref (G 38)), (4, .int (nI e9)), (5, .int (nI t)), (6, .int (nI en)), (7, .int (nI 1)), (8, .int (nI i)), (9, .int (nI 0)), (10, .int b1), (11, .int (nI 6))] → W p l e ({ frames := 8, cells := 0, slots := 0, locals := 177 } : Room) s m args below meth c H locs 0 0 Q (F0 m 242 ls [])) :
    ∀ (n k : Nat) (b : Int32) (H : Heap) (locs : List Loc) (ls : Array Slot), k + n = 6 → bzF T i n k b = b1 → va_P D vwCl (WL 40 G (lF cI cS G) (cmb F T)) H → va_S A s.heap H locs → lv_has ls 13 [(0, .ref (G 0)), (1, .ref (G 36)), (2, .ref (G 37)), (3, .ref (G 38)), (4, .int (nI e9)), (5, .int (nI t)), (6, .int (nI en)), (7, .int (nI 1)), (8, .int (nI i)), (9, .int (nI 0)), (10, .int b), (11, .int (nI k))] → W p l e ({ frames := 8, cells := 0, slots := 0, locals := 177 } : Room) s m args below meth c H locs 0 0 Q (F0 m 242 ls [])
  | 0, k, b, H, locs, ls, hk, hb1, hP, hS, hl => by
    have e6 : k = 6 := by omega
    subst e6
    have hb1 : b = b1 := hb1
    subst hb1
    exact kk H locs ls hP hS hl
  | n + 1, k, b, H, locs, ls, hk, hb1, hP, hS, hl => by
    refine sg_E0 hX hi (show k < 6 by omega) hP hS hl (fun H locs ls hP hS hl => ?_)
    exact lpE0 hX hi kk n (k + 1) _ H locs ls (by omega) hb1 hP hS hl
theorem lpE1 (hX : IX p s m args c D A cI cS G) {t i e9 en : Nat} {F T : Mem} (hi : i < 6)
    {b1 : Int32} (kk : ∀ (H : Heap) (locs : List Loc) (ls : Array Slot), va_P D vwCl (WL 40 G (lF cI cS G) (cmb F T)) H → va_S A s.heap H locs → lv_has ls 13 [(0, .ref (G 0)), (1, .ref (G 36)), (2, .ref (G 37)), (3, .ref (G 38)), (4, .int (nI e9)), (5, .int (nI t)), (6, .int (nI en)), (7, .int (nI 1)), (8, .int (nI i)), (9, .int (nI 1)), (10, .int b1), (11, .int (nI 6))] → W p l e ({ frames := 8, cells := 0, slots := 0, locals := 177 } : Room) s m args below meth c H locs 0 0 Q (F0 m 242 ls [])) :
    ∀ (n k : Nat) (b : Int32) (H : Heap) (locs : List Loc) (ls : Array Slot), k + n = 6 → bzF T i n k b = b1 → va_P D vwCl (WL 40 G (lF cI cS G) (cmb F T)) H → va_S A s.heap H locs → lv_has ls 13 [(0, .ref (G 0)), (1, .ref (G 36)), (2, .ref (G 37)), (3, .ref (G 38)), (4, .int (nI e9)), (5, .int (nI t)), (6, .int (nI en)), (7, .int (nI 1)), (8, .int (nI i)), (9, .int (nI 1)), (10, .int b), (11, .int (nI k))] → W p l e ({ frames := 8, cells := 0, slots := 0, locals := 177 } : Room) s m args below meth c H locs 0 0 Q (F0 m 242 ls [])
  | 0, k, b, H, locs, ls, hk, hb1, hP, hS, hl => by
    have e6 : k = 6 := by omega
    subst e6
    have hb1 : b = b1 := hb1
    subst hb1
    exact kk H locs ls hP hS hl
  | n + 1, k, b, H, locs, ls, hk, hb1, hP, hS, hl => by
    refine sg_E1 hX hi (show k < 6 by omega) hP hS hl (fun H locs ls hP hS hl => ?_)
    exact lpE1 hX hi kk n (k + 1) _ H locs ls (by omega) hb1 hP hS hl
theorem lpC (hX : IX p s m args c D A cI cS G) {en : Nat} {F T : Mem}
    (kk : ∀ (T1 : Mem) (H : Heap) (locs : List Loc) (ls : Array Slot), (∀ b, b ≠ 2 → T1 b = T b) → (∀ j, j < 6 → T1 2 j = T 1 (8 * j)) → va_P D vwCl (WL 40 G (lF cI cS G) (cmb F T1)) H → va_S A s.heap H locs → lv_has ls 13 [(0, .ref (G 0)), (1, .ref (G 36)), (2, .ref (G 37)), (3, .ref (G 38)), (4, .int (nI en)), (6, .int (nI en)), (7, .int (nI 1)), (8, .int (nI 6))] → W p l e ({ frames := 8, cells := 0, slots := 0, locals := 177 } : Room) s m args below meth c H locs 0 0 Q (F0 m 722 ls [])) :
    ∀ (n k : Nat) (T1 : Mem) (H : Heap) (locs : List Loc) (ls : Array Slot), k + n = 6 → (∀ b, b ≠ 2 → T1 b = T b) → (∀ j, j < k → T1 2 j = T 1 (8 * j)) → va_P D vwCl (WL 40 G (lF cI cS G) (cmb F T1)) H → va_S A s.heap H locs → lv_has ls 13 [(0, .ref (G 0)), (1, .ref (G 36)), (2, .ref (G 37)), (3, .ref (G 38)), (4, .int (nI en)), (6, .int (nI en)), (7, .int (nI 1)), (8, .int (nI k))] → W p l e ({ frames := 8, cells := 0, slots := 0, locals := 177 } : Room) s m args below meth c H locs 0 0 Q (F0 m 722 ls [])
  | 0, k, T1, H, locs, ls, hk, h1, h2, hP, hS, hl => by
    have e6 : k = 6 := by omega
    subst e6
    exact kk T1 H locs ls h1 h2 hP hS hl
  | n + 1, k, T1, H, locs, ls, hk, h1, h2, hP, hS, hl => by
    refine sg_K hX (show k < 6 by omega) hP hS hl (fun H locs ls hP hS hl => ?_)
    refine lpC hX kk n (k + 1) _ H locs ls (by omega) (fun b hb => ?_) (fun j hj => ?_) hP hS hl
    · rw [ub_ne _ _ _ hb]; exact h1 b hb
    · rw [ub_blk]
      by_cases q : j = k
      · subst q; rw [pk_us, h1 1 (by decide)]
      · rw [pk_un q]; exact h2 j (by omega)
def sv (t : Nat) (F : Mem) (j : Nat) : Nat := if F (6 + 5 * j) 9 = nI (t + 1) then 1 else 0
set_option maxHeartbeats 2000000 in
theorem st_step (hX : IX p s m args c D A cI cS G) {t i en : Nat} {S F T : Mem} (ht : t + 1 < 100000) (hi : i < 6) (hIA : IA t S i) (hRD : RD t S F i) (hr : ∀ m, m < 6 → T 0 (6 * i + m) = S 3 (i * 6 + m)) (hs : sT t S T) (hh : hV S T i)
    {H : Heap} {locs : List Loc} {ls : Array Slot} (hP : va_P D vwCl (WL 40 G (lF cI cS G) (cmb F T)) H) (hS : va_S A s.heap H locs) (hl : lv_has ls 13 [(0, .ref (G 0)), (1, .ref (G 36)), (2, .ref (G 37)), (3, .ref (G 38)), (4, .int (nI (eS t F i))), (5, .int (nI t)), (6, .int (nI en)), (7, .int (nI 1)), (8, .int (nI i))])
    (kk : ∀ (H : Heap) (locs : List Loc) (ls : Array Slot), va_P D vwCl (WL 40 G (lF cI cS G) (cmb F (ub T 1 (8 * i) (nI (sv t F i))))) H → va_S A s.heap H locs → lv_has ls 13 [(0, .ref (G 0)), (1, .ref (G 36)), (2, .ref (G 37)), (3, .ref (G 38)), (4, .int (nI (eS t F (i + 1)))), (5, .int (nI t)), (6, .int (nI en)), (7, .int (nI 1)), (8, .int (nI (i + 1)))] → W p l e ({ frames := 8, cells := 0, slots := 0, locals := 177 } : Room) s m args below meth c H locs 0 0 Q (F0 m 181 ls [])) : W p l e ({ frames := 8, cells := 0, slots := 0, locals := 177 } : Room) s m args below meth c H locs 0 0 Q (F0 m 181 ls []) := by
  obtain ⟨hC, hR, hWt, hLs, d, e', a, ⟨r5, r8, r7, r2⟩, hat, hcase⟩ := hIA
  obtain ⟨v0, v1, v2, v3, v4, v5, v6, v7⟩ := hh
  obtain ⟨pp, pp1, pp2, pp3⟩ := pof hR
  have hp4 := ppc_le pp pp1
  have ha : a < 200000 := by omega
  have h3 : T 1 (8 * i + 3) = nI a := v3.trans r7
  have h5 : T 1 (8 * i + 5) = nI d := v5.trans r5
  have h6 : T 1 (8 * i + 6) = nI pp := v6.trans pp2
  have hbv := busy_val ht hi hr hs hC.2.2
  rcases hRD.2.1 with ⟨q1, q2, q3, q4, q5, q6, q7⟩ | ⟨s1, s2, ⟨a', s3, s4, s5⟩, s6, s7⟩
  · -- it does not send
    have n9 : ¬ F (6 + 5 * i) 9 = nI (t + 1) := by
      rw [q5]
      rcases hLs with h | ⟨q, hq, h⟩
      · rw [h]; exact neg1_ne (by omega)
      · rw [h]; intro h2; have := nI_inj (by omega) (by omega) h2; omega
    have esv : sv t F i = 0 := by unfold sv; rw [if_neg n9]
    have een : eN t F i = 0 := by unfold eN; rw [if_neg (fun h => n9 h.1)]
    rw [esv] at kk
    have h7 : F (6 + 5 * i) 7 = nI a := q4.trans r7
    have h0 : T 1 (8 * i) = nI 0 := v0.trans q1
    have kk2 : ∀ (H : Heap) (locs : List Loc) (ls : Array Slot) (bx : Int32), va_P D vwCl (WL 40 G (lF cI cS G) (cmb F T)) H → va_S A s.heap H locs → lv_has ls 13 [(0, .ref (G 0)), (1, .ref (G 36)), (2, .ref (G 37)), (3, .ref (G 38)), (4, .int (nI (eS t F i))), (5, .int (nI t)), (6, .int (nI en)), (7, .int (nI 1)), (8, .int (nI i)), (9, .int (nI 0)), (10, .int bx)] → W p l e ({ frames := 8, cells := 0, slots := 0, locals := 177 } : Room) s m args below meth c H locs 0 0 Q (F0 m 506 ls []) := by
      intro H locs ls bx hP hS hl
      refine sg_Gq hX hi pp1 hp4 v2 h5 h6 (q6.trans r5) q7 hP hS (lv_sub hl [0, 1, 2, 3, 4, 5, 6, 7, 8, 9] rfl) (fun H locs ls hP hS hl => ?_)
      exact kk H locs ls hP hS (by show lv_has ls 13 [(0, .ref (G 0)), (1, .ref (G 36)), (2, .ref (G 37)), (3, .ref (G 38)), (4, .int (nI (eS t F i + eN t F i))), (5, .int (nI t)), (6, .int (nI en)), (7, .int (nI 1)), (8, .int (nI (i + 1)))]; rw [een]; exact hl)
    refine sg_D0 hX hi ha h7 h3 v4 hP hS hl (fun H locs ls hP hS hl => ?_)
    refine lpE0 hX hi (b1 := bzF T i 6 0 (if S (6 + 5 * i) 4 ≤ nI t then nI 0 else nI 1)) (fun H locs ls hP hS hl => ?_) 6 0 _ H locs ls rfl rfl hP hS hl
    have busy : bz t S i → S (6 + 5 * i) 2 = -1 → W p l e ({ frames := 8, cells := 0, slots := 0, locals := 177 } : Room) s m args below meth c H locs 0 0 Q (F0 m 242 ls []) := by
      intro hb hw
      rcases hbv with ⟨-, hv⟩ | ⟨hn, -⟩
      · rw [hv] at hl
        exact sg_Fqa1 hX hi ha h7 h0 (v1.trans hw) v2 h3 hP hS hl (fun H locs ls hP hS hl => kk2 H locs ls _ hP hS hl)
      · exact absurd hb hn
    rcases q3 with w | ⟨hb, w⟩ | ⟨hnb, w, w1, w2, w3⟩
    · rcases hbv with ⟨hb, -⟩ | ⟨-, hv⟩
      · exact busy hb w
      · rw [hv] at hl
        exact sg_Fqa0 hX hi ha h7 h0 (v1.trans w) v2 h3 hP hS hl (fun H locs ls hP hS hl => kk2 H locs ls _ hP hS hl)
    · by_cases hw : S (6 + 5 * i) 2 = -1
      · exact busy hb hw
      · rcases hbv with ⟨-, hv⟩ | ⟨hn, -⟩
        · rw [hv] at hl
          exact sg_Fqb hX hi ha h7 h0 v1 v2 h3 w hw hP hS hl (fun H locs ls hP hS hl => kk2 H locs ls _ hP hS hl)
        · exact absurd hb hn
    · rcases hbv with ⟨hb, -⟩ | ⟨-, hv⟩
      · exact absurd hb hnb
      · rw [hv] at hl
        have hfr : ¬ S (7 + 5 * i) 0 = 0 := by
          rcases hWt with h | ⟨-, h, -⟩
          · exact absurd (h.symm.trans w1) (neg1_ne (by omega))
          · intro h2; rw [h2] at h; exact absurd h (by decide)
        exact sg_Fqc hX hi ha h7 h0 (v1.trans w1) v2 h3 w3 w2 hfr hP hS hl (fun H locs ls hP hS hl => kk2 H locs ls _ hP hS hl)
  · -- it sends
    have esv : sv t F i = 1 := by unfold sv; rw [if_pos s2]
    rw [esv] at kk
    have eaa : a' = a := nI_inj (by omega) (by omega) (s4.symm.trans r7)
    rw [eaa] at s5
    obtain ⟨cn, hcn⟩ : ∃ z, z = kN (S (7 + 5 * i) 0) := ⟨_, rfl⟩
    have c1 : S (7 + 5 * i) 0 = nI cn := by rw [hcn]; exact hR.1.1
    have c2 : cn < 6 := by rw [hcn]; exact hR.1.2
    have c3 : 0 < cn := by rw [hcn]; exact s6
    have h2 : T 1 (8 * i + 2) = nI cn := v2.trans c1
    have p10 : S (10 + 5 * i) 0 = nI pp := pp3 s6
    have kk2 : ∀ (H : Heap) (locs : List Loc) (ls : Array Slot) (bx : Int32), va_P D vwCl (WL 40 G (lF cI cS G) (cmb F T)) H → va_S A s.heap H locs → lv_has ls 13 [(0, .ref (G 0)), (1, .ref (G 36)), (2, .ref (G 37)), (3, .ref (G 38)), (4, .int (nI (eS t F i))), (5, .int (nI t)), (6, .int (nI en)), (7, .int (nI 1)), (8, .int (nI i)), (9, .int (nI 1)), (10, .int bx)] → W p l e ({ frames := 8, cells := 0, slots := 0, locals := 177 } : Room) s m args below meth c H locs 0 0 Q (F0 m 506 ls []) := by
      intro H locs ls bx hP hS hl
      have hl := lv_sub hl [0, 1, 2, 3, 4, 5, 6, 7, 8, 9] rfl
      have _f0 : eN t F i = 0 → lv_has ls 13 [(0, .ref (G 0)), (1, .ref (G 36)), (2, .ref (G 37)), (3, .ref (G 38)), (4, .int (nI (eS t F i + 0))), (5, .int (nI t)), (6, .int (nI en)), (7, .int (nI 1)), (8, .int (nI (i + 1)))] → lv_has ls 13 [(0, .ref (G 0)), (1, .ref (G 36)), (2, .ref (G 37)), (3, .ref (G 38)), (4, .int (nI (eS t F (i + 1)))), (5, .int (nI t)), (6, .int (nI en)), (7, .int (nI 1)), (8, .int (nI (i + 1)))] := fun h x => by
        show lv_has ls 13 [(0, .ref (G 0)), (1, .ref (G 36)), (2, .ref (G 37)), (3, .ref (G 38)), (4, .int (nI (eS t F i + eN t F i))), (5, .int (nI t)), (6, .int (nI en)), (7, .int (nI 1)), (8, .int (nI (i + 1)))]
        rw [h]; exact x
      rcases s7 with ⟨o1, o2, o3⟩ | ⟨o1, o2, o3⟩ | ⟨o1, o2, o3, c', o4, o5, o6⟩ | ⟨o1, o2, o3, d', g, p', o4, o5, o6, o7, o8, o9, o10⟩
      · have een : eN t F i = 0 := by unfold eN; rw [if_neg (fun h => nI1_0 (o1.symm.trans h.2))]
        refine sg_G1 hX hi pp1 hp4 v2 h5 h6 (o2.trans r5) o3 o1 hP hS hl (fun H locs ls hP hS hl => ?_)
        exact kk H locs ls hP hS (by show lv_has ls 13 [(0, .ref (G 0)), (1, .ref (G 36)), (2, .ref (G 37)), (3, .ref (G 38)), (4, .int (nI (eS t F i + eN t F i))), (5, .int (nI t)), (6, .int (nI en)), (7, .int (nI 1)), (8, .int (nI (i + 1)))]; rw [een]; exact hl)
      · have een : eN t F i = 1 := by unfold eN; rw [if_pos ⟨s2, o1⟩]
        refine sg_G2 hX hi pp1 hp4 v2 h5 h6 (o2.trans r5) o3 o1 hP hS hl (fun H locs ls hP hS hl => ?_)
        exact kk H locs ls hP hS (by show lv_has ls 13 [(0, .ref (G 0)), (1, .ref (G 36)), (2, .ref (G 37)), (3, .ref (G 38)), (4, .int (nI (eS t F i + eN t F i))), (5, .int (nI t)), (6, .int (nI en)), (7, .int (nI 1)), (8, .int (nI (i + 1)))]; rw [een]; exact hl)
      · have een : eN t F i = 1 := by unfold eN; rw [if_pos ⟨s2, o1⟩]
        refine sg_G3 hX hi pp1 hp4 (v2.trans o5) h5 h6 (o2.trans r5) o6 o1 v7 o3 o4 hP hS hl (fun H locs ls hP hS hl => ?_)
        exact kk H locs ls hP hS (by show lv_has ls 13 [(0, .ref (G 0)), (1, .ref (G 36)), (2, .ref (G 37)), (3, .ref (G 38)), (4, .int (nI (eS t F i + eN t F i))), (5, .int (nI t)), (6, .int (nI en)), (7, .int (nI 1)), (8, .int (nI (i + 1)))]; rw [een]; exact hl)
      · have een : eN t F i = 1 := by unfold eN; rw [if_pos ⟨s2, o1⟩]
        have edd : T 1 (8 * i + 5) = nI d' := v5.trans o4
        have epp : p' = pp := nI_inj (by omega) (by omega) (o6.symm.trans p10)
        rw [epp] at o9 o10
        rcases o10 with o10 | ⟨o10, c', o11, o12, o13⟩
        · refine sg_G4a hX hi pp1 hp4 v2 edd h6 o5 o10 o1 o9 o8 o3 hP hS hl (fun H locs ls hP hS hl => ?_)
          exact kk H locs ls hP hS (by show lv_has ls 13 [(0, .ref (G 0)), (1, .ref (G 36)), (2, .ref (G 37)), (3, .ref (G 38)), (4, .int (nI (eS t F i + eN t F i))), (5, .int (nI t)), (6, .int (nI en)), (7, .int (nI 1)), (8, .int (nI (i + 1)))]; rw [een]; exact hl)
        · rw [o10] at o5 o8
          refine sg_G4b hX hi pp1 hp4 (v2.trans o12) edd h6 o5 o13 o1 v7 o2 (Nat.le_refl _) o8 o3 o11 hP hS hl (fun H locs ls hP hS hl => ?_)
          exact kk H locs ls hP hS (by show lv_has ls 13 [(0, .ref (G 0)), (1, .ref (G 36)), (2, .ref (G 37)), (3, .ref (G 38)), (4, .int (nI (eS t F i + eN t F i))), (5, .int (nI t)), (6, .int (nI en)), (7, .int (nI 1)), (8, .int (nI (i + 1)))]; rw [een]; exact hl)
    refine sg_D1 hX hi ha s5 h3 v4 hP hS hl (fun H locs ls hP hS hl => ?_)
    refine lpE1 hX hi (b1 := bzF T i 6 0 (if S (6 + 5 * i) 4 ≤ nI t then nI 0 else nI 1)) (fun H locs ls hP hS hl => ?_) 6 0 _ H locs ls rfl rfl hP hS hl
    rcases s1 with hon | ⟨hoff, hnb, hw⟩
    · have hw : S (6 + 5 * i) 2 = -1 := by
        rcases hWt with h | ⟨-, -, h⟩
        · exact h
        · exact absurd (hon.symm.trans h) nI1_0
      rcases hbv with ⟨-, hv⟩ | ⟨-, hv⟩
      · rw [hv] at hl
        exact sg_Fsa1 hX hi ha s5 (v0.trans hon) (v1.trans hw) h2 h3 c3 c2 hP hS hl (fun H locs ls hP hS hl => kk2 H locs ls _ hP hS hl)
      · rw [hv] at hl
        exact sg_Fsa0 hX hi ha s5 (v0.trans hon) (v1.trans hw) h2 h3 c3 c2 hP hS hl (fun H locs ls hP hS hl => kk2 H locs ls _ hP hS hl)
    · rcases hbv with ⟨hb, -⟩ | ⟨-, hv⟩
      · exact absurd hb hnb
      · rw [hv] at hl
        rcases hw with hw | hw
        · exact sg_Fsb hX hi ha s5 (v0.trans hoff) (v1.trans hw) h2 h3 c3 c2 hP hS hl (fun H locs ls hP hS hl => kk2 H locs ls _ hP hS hl)
        · exact sg_Fsc hX hi ha s5 (v0.trans hoff) (v1.trans hw) h2 h3 c3 c2 hP hS hl (fun H locs ls hP hS hl => kk2 H locs ls _ hP hS hl)
theorem lpB (hX : IX p s m args c D A cI cS G) {t en : Nat} {S F T : Mem} (ht : t + 1 < 100000) (hI : ∀ j, j < 6 → IA t S j) (hRD : ∀ j, j < 6 → RD t S F j) (hr : rT S T) (hs : sT t S T) (hh : ∀ j, j < 6 → hV S T j)
    (kk : ∀ (T1 : Mem) (H : Heap) (locs : List Loc) (ls : Array Slot), (∀ b, b ≠ 1 → T1 b = T b) → (∀ j, j < 6 → T1 1 (8 * j) = nI (sv t F j)) → va_P D vwCl (WL 40 G (lF cI cS G) (cmb F T1)) H → va_S A s.heap H locs → lv_has ls 13 [(0, .ref (G 0)), (1, .ref (G 36)), (2, .ref (G 37)), (3, .ref (G 38)), (4, .int (nI (eS t F 6))), (5, .int (nI t)), (6, .int (nI en)), (7, .int (nI 1)), (8, .int (nI 6))] → W p l e ({ frames := 8, cells := 0, slots := 0, locals := 177 } : Room) s m args below meth c H locs 0 0 Q (F0 m 181 ls [])) :
    ∀ (n i : Nat) (T1 : Mem) (H : Heap) (locs : List Loc) (ls : Array Slot), i + n = 6 → (∀ b, b ≠ 1 → T1 b = T b) → (∀ j, j < 6 → (j < i → T1 1 (8 * j) = nI (sv t F j)) ∧ (i ≤ j → hV S T1 j)) → va_P D vwCl (WL 40 G (lF cI cS G) (cmb F T1)) H → va_S A s.heap H locs → lv_has ls 13 [(0, .ref (G 0)), (1, .ref (G 36)), (2, .ref (G 37)), (3, .ref (G 38)), (4, .int (nI (eS t F i))), (5, .int (nI t)), (6, .int (nI en)), (7, .int (nI 1)), (8, .int (nI i))] → W p l e ({ frames := 8, cells := 0, slots := 0, locals := 177 } : Room) s m args below meth c H locs 0 0 Q (F0 m 181 ls [])
  | 0, i, T1, H, locs, ls, hi, h1, h2, hP, hS, hl => by
    have e6 : i = 6 := by omega
    subst e6
    exact kk T1 H locs ls h1 (fun j hj => (h2 j hj).1 hj) hP hS hl
  | n + 1, i, T1, H, locs, ls, hi, h1, h2, hP, hS, hl => by
    have hi6 : i < 6 := by omega
    refine st_step hX ht hi6 (hI i hi6) (hRD i hi6) (fun m hm => by rw [h1 0 (by decide)]; exact hr i m hi6 hm) (fun j hj => by rw [h1 2 (by decide)]; exact hs j hj) ((h2 i hi6).2 (Nat.le_refl _)) hP hS hl (fun H locs ls hP hS hl => ?_)
    refine lpB hX ht hI hRD hr hs hh kk n (i + 1) _ H locs ls (by omega) (fun b hb => by rw [ub_ne _ _ _ hb]; exact h1 b hb) (fun j hj => ⟨fun k1 => ?_, fun k1 => ?_⟩) hP hS hl
    · rw [ub_blk]
      by_cases q : j = i
      · subst q; rw [pk_us]
      · rw [pk_un (by omega)]; exact (h2 j hj).1 (by omega)
    · have h9 := (h2 j hj).2 (by omega)
      unfold hV at h9 ⊢
      simp (disch := omega) only [ub_blk, pk_un]
      exact h9
end ISL2
def sQ (t : Nat) (S T : Mem) (D : va_G) (cI cS : ClassId) (G : Nat → Nat) (sz : Nat) : Array Value → State → Outcome → State → Prop := va_Qi (fun (r : Int32) (u : Mem) => r = nI 1 ∧ u 0 = T 0 ∧ u 3 = T 3 ∧ sT (t + 1) (ct3 S 6) u) (fun u tt => va_P D vwCl (WL 40 G (lF cI cS G) (cmb (ct3 S 6) u)) tt.heap) (fA 40 G sz)
set_option maxHeartbeats 1000000 in
set_option maxRecDepth 100000 in
theorem c_L_isSlot (l : Launch) (D : va_G) (cI cS : ClassId) (G : Nat → Nat) (S T : Mem) (sz t : Nat) (h : I0 t S) (ht : t + 1 < 100000) (hrt : rT S T) (hst : sT t S T) : Met l yL_isSlot wsL_isSlot ({ frames := 8, cells := 0, slots := 0, locals := 177 } : Room) (wPc 40 (lF cI cS G) D (tY cI cS) G (cmb S T) sz [.ref (G 0), .ref (G 36), .ref (G 37), .ref (G 38)]) (sQ t S T D cI cS G sz) 0 0 (fA 40 G sz) := by
  refine x_met (cc := cL_isSlot) (maxL := 13) (ret := (some .boolean)) (by decide) rfl (Nat.le_of_ble_eq_true rfl) ?_
  intro p e s m below meth c ls hx hb hr hml hts hown hlocks hsz hP hK hD hN hl hnm
  subst hsz
  have hown : s.vm.findClass RL = some m.cls := hown
  have hl : lv_has ls 13 [(0, .ref (G 0)), (1, .ref (G 36)), (2, .ref (G 37)), (3, .ref (G 38))] := hl
  have hA : ∀ q : Nat, s.heap.size ≤ q → (fA 40 G s.heap.size) q := fun q h => Or.inr h
  have hS : va_S (fA 40 G s.heap.size) s.heap s.heap [] := va_S.rf
  have hX : IX p s m ([.ref (G 0), .ref (G 36), .ref (G 37), .ref (G 38)] : List Value).toArray c D (fA 40 G s.heap.size) cI cS G := ⟨hx, hb, hml, hown, hts, hK, hD, hA, hN⟩
  obtain ⟨hall, hpass⟩ := pass_ok h ht
  obtain ⟨-, -, hI1, -, hRD⟩ := slot_ok h ht
  have hon : ∀ j, j < 6 → S (8 + 5 * j) 0 = nI 0 ∨ S (8 + 5 * j) 0 = nI 1 := fun j hj => by
    obtain ⟨-, -, -, -, d, e, a, -, -, hc⟩ := h.2.2.2 j hj
    rcases hc with hc | hc
    · exact Or.inl hc.1
    · exact Or.inr hc.1
  refine sg_A hX h.1.2.1 hP hS hl (fun H locs ls hP hS hl => ?_)
  refine lpA hX hon (fun T1 H locs ls h1 h2 hP hS hl => ?_) 6 0 T H locs ls rfl (fun _ _ => rfl) (fun j hj => absurd hj (Nat.not_lt_zero j)) hP hS hl
  refine sg_C hX hall hpass hI1.1.2.1 hP hS hl (fun H locs ls hP hS hl => ?_)
  have hr1 : rT S T1 := fun a b ha hb => by rw [h1 0 (by decide)]; exact hrt a b ha hb
  have hs1 : sT t S T1 := fun j hj => by rw [h1 2 (by decide)]; exact hst j hj
  refine lpB hX ht h.2.2.2 hRD hr1 hs1 h2 (fun T2 H locs ls g1 g2 hP hS hl => ?_) 6 0 T1 H locs ls rfl (fun _ _ => rfl) (fun j hj => ⟨fun h => absurd h (Nat.not_lt_zero j), fun _ => h2 j hj⟩) hP hS hl
  refine sg_H hX hP hS hl (fun H locs ls hP hS hl => ?_)
  refine lpC hX (fun T3 H locs ls f1 f2 hP hS hl => ?_) 6 0 T2 H locs ls rfl (fun _ _ => rfl) (fun j hj => absurd hj (Nat.not_lt_zero j)) hP hS hl
  refine sg_I hX hP hS hl (fun H locs ls hP hS hl => ?_)
  refine W.zret hx hb hr rfl (fun tt htt hW => ⟨⟨nI 1, T3, rfl, ⟨rfl, ?_, ?_, fun j hj => ?_⟩, (show va_P D vwCl (WL 40 G (lF cI cS G) (cmb (ct3 S 6) T3)) tt.heap by rw [htt]; exact hP)⟩, hS.F htt⟩) hS.2.2 dL_isSlot_763 hlocks
  · rw [f1 0 (by decide), g1 0 (by decide), h1 0 (by decide)]
  · rw [f1 3 (by decide), g1 3 (by decide), h1 3 (by decide)]
  · rw [f2 j hj, g2 j hj]
    unfold sv
    by_cases q : ct3 S 6 (6 + 5 * j) 9 = nI (t + 1)
    · rw [if_pos q]; exact Or.inl ⟨rfl, q⟩
    · rw [if_neg q]; exact Or.inr ⟨rfl, q⟩
