-- the mark of what was thrown stays while slots pass
theorem nn_thr (M : Mem) : (f_X6_nextNumber M).2 0 0 = M 0 0 := by
  rw [f_X6_nextNumber_d]
  split
  · rfl
  · rw [nn_L1_blk (by decide), ub_blk, pk_un (by decide)]
theorem begins_thr (M : Mem) (i : Nat) : f_X6_begins M i 0 0 = M 0 0 := by
  rw [f_X6_begins_d]
  split <;> split <;> simp (disch := decide) only [ub_ne]
theorem lis2_thr (M : Mem) (i : Nat) : lis2 M i 0 0 = M 0 0 := by
  unfold lis2
  split
  · rfl
  · split
    · split
      · exact begins_thr M i
      · rw [ub_ne _ _ _ (by decide)]
    · rfl
theorem lis_thr (M : Mem) (i : Nat) : f_X6_listens M i 0 0 = M 0 0 := by
  rw [lis_eq]
  split
  · rw [lis2_thr, ub_ne _ _ _ (by decide), nn_thr]
  · exact lis2_thr M i
theorem L1b_thr (M : Mem) (i : Nat) : f_X6_passes_L1_b i M 0 0 = M 0 0 := by
  rw [f_X6_passes_L1_b_d]
  split
  · split
    · rfl
    · exact lis_thr M i
  · rfl
theorem L2b_thr (M : Mem) (i : Nat) : f_X6_passes_L2_b i M 0 0 = M 0 0 := by
  rw [f_X6_passes_L2_b_d]
  split <;> split <;> (try split) <;> simp (disch := decide) only [ub_ne]
theorem fails_thr (M : Mem) (i : Nat) : f_X6_fails M i 0 0 = M 0 0 := by
  rw [f_X6_fails_d]
  split <;> split <;> simp (disch := decide) only [ub_ne, leaves_blk]
theorem ends_thr (M : Mem) (i : Nat) : f_X6_ends M i 0 0 = M 0 0 := by
  rw [f_X6_ends_d]
  split
  · exact fails_thr M i
  · split <;> simp (disch := decide) only [ub_ne, leaves_blk]
theorem silL_thr (s g : Nat) : ∀ (n i : Nat) (M : Mem), f_X6_silences_L1 s n i M g 0 0 = M 0 0
  | 0, i, M => by rw [f_X6_silences_L1_z]
  | n + 1, i, M => by
    rw [f_X6_silences_L1_s]
    split
    · exact silL_thr s g n _ _
    · split
      · exact silL_thr s g n _ _
      · split
        · exact silL_thr s g n _ _
        · split
          · exact silL_thr s g n _ _
          · rw [silL_thr s g n, ub_ne _ _ _ (by decide)]
theorem sil_thr (M : Mem) (i : Nat) : f_X6_silences M i 0 0 = M 0 0 := by
  rw [f_X6_silences_d]; exact silL_thr _ _ _ _ _
theorem L3b_thr (M : Mem) (i : Nat) : f_X6_passes_L3_b i M 0 0 = M 0 0 := by
  rw [f_X6_passes_L3_b_d]
  simp only [ite_self]
  split
  · rfl
  · split
    · split
      · exact sil_thr M i
      · exact fails_thr M i
    · split
      · exact ends_thr M i
      · rfl
theorem mt1_thr (M : Mem) : ∀ i, mt1 M i 0 0 = M 0 0
  | 0 => by rw [mt1_0, ub_blk, pk_un (by decide)]
  | i + 1 => by rw [mt1_s, L1b_thr]; exact mt1_thr M i
theorem mt2_thr (M : Mem) : ∀ i, mt2 M i 0 0 = M 0 0
  | 0 => by rw [mt2_0]; exact mt1_thr M 6
  | i + 1 => by rw [mt2_s, L2b_thr]; exact mt2_thr M i
theorem mt3_thr (M : Mem) : ∀ i, mt3 M i 0 0 = M 0 0
  | 0 => by rw [mt3_0]; exact mt2_thr M 6
  | i + 1 => by rw [mt3_s, L3b_thr]; exact mt3_thr M i
theorem pr_snd {x : Int32 × Mem} {b : Int32} {s : Mem} (h : x = (b, s)) : x.2 = s := by
  subst h
  rfl
theorem slot_thr {t : Nat} {S M : Mem} (h : Rel t S M) (ht : t + 1 < 100000) : (f_X6_passes M).2 0 0 = M 0 0 := by
  obtain ⟨b', -, x2⟩ := ph_acc h ht 6 0 rfl (nI 0)
  rw [pr_snd ((mSlot M).trans x2)]
  exact mt3_thr M 6
theorem mtp_thr {t : Nat} {S M : Mem} (h : Rel t S (ub M 0 0 (nI 0))) : ∀ k, t + k < 100000 → mtp M k 0 0 = nI 0
  | 0, _ => by rw [mtp_0, ub_blk, pk_us]
  | k + 1, hk => by
    rw [mtp_s, slot_thr (ctp_rel h k (by omega)) (by omega)]
    exact mtp_thr h k (by omega)
-- pass
theorem s_pass {t : Nat} {S M : Mem} (h : Rel t S M) (ht : t + 50 < 100000) (x : Int32) : (∀ j, j < 50 → qOK (mtp M j)) ∧ ((∃ k, x = nI k ∧ 1 ≤ k ∧ k ≤ 50 ∧ (∀ j, j < k → pOK (ctp S j)) ∧ okG (t + k) (f_X5_pass S k) (f_X6_pass M x)) ∨ ((¬ x < nI 1 → ¬ x ≤ nI 50) ∧ okB t S 1 (f_X6_pass M x))) := by
  have h0 := rel_thr h (nI 0)
  refine ⟨fun j hj => (slot_step (ctp_rel h0 j (by omega)) (by omega)).2.1, ?_⟩
  rw [f_X6_pass_d]
  by_cases hx : f_X6_isIn x (nI 1) (nI 50) = 0
  · rw [if_pos hx]
    exact Or.inr ⟨isIn_no hx, bad_fine h 1⟩
  · rw [if_neg hx]
    obtain ⟨x1, x2, x3⟩ := isIn_k (n := 50) (by decide) hx
    obtain ⟨k, hk⟩ : ∃ k, k = kN x := ⟨_, rfl⟩
    rw [← hk] at x1 x2 x3 ⊢
    refine Or.inl ⟨k, x1, x3, x2, fun j hj => (slot_step (ctp_rel h0 j (by omega)) (by omega)).1, ?_⟩
    obtain ⟨q', z1, z2⟩ := pass_acc (x := x) (K := k) h0 (by omega) k 0 (by omega) (nI 0)
    have e1 : f_X5_pass S k = (q', ctp S k) := by rw [f_X5_pass_d]; rw [ctp_0] at z1; exact z1
    have e2 : f_X6_pass_L1 x k 0 ((f_X6_isFine M (nI 0)).2) (nI 0) = (q', mtp M k) := by rw [isFine_st]; rw [mtp_0] at z2; exact z2
    rw [e1, e2]
    exact ⟨mtp_thr h0 k (by omega), rfl, ctp_rel h0 k (by omega)⟩
-- what is asked
theorem s_acc {t : Nat} {S M : Mem} (h : Rel t S M) (x : Int32) (b : Nat) (hb : b ≠ 0) (q : Nat → Int32) (hq : ∀ a, a < 6 → q a = M b a) (p : Int32 × Mem) (hp : p = (if f_X6_isStation x = 0 then ((nI 0, (f_X6_isFine M (nI 1)).2)) else ((((f_X6_isFine M (nI 0)).2) b (kN x), (f_X6_isFine M (nI 0)).2)))) : (∃ a, x = nI a ∧ a < 6 ∧ okG t (q a, S) p) ∨ ((¬ x < 0 → nI 6 ≤ x) ∧ okB t S 1 p) := by
  subst hp
  by_cases hx : f_X6_isStation x = 0
  · rw [if_pos hx]
    exact Or.inr ⟨isSt_no hx, bad_fine h 1⟩
  · rw [if_neg hx]
    obtain ⟨x1, x2⟩ := isSt_k hx
    refine Or.inl ⟨_, x1, x2, ?_⟩
    rw [isFine_st]
    exact ⟨by dsimp only; rw [ub_blk, pk_us], by dsimp only; rw [hq _ x2, ub_ne _ _ _ hb], rel_thr h _⟩
theorem s_waitOf {t : Nat} {S M : Mem} (h : Rel t S M) (x : Int32) : (∃ a, x = nI a ∧ a < 6 ∧ okG t (f_X5_waitOf S a, S) (f_X6_waitOf M x)) ∨ ((¬ x < 0 → nI 6 ≤ x) ∧ okB t S 1 (f_X6_waitOf M x)) :=
  s_acc h x 4 (by decide) (f_X5_waitOf S) (fun a ha => by rw [f_X5_waitOf_d]; exact (h.2.2.2 a ha).1.2.2.1.1) _ (f_X6_waitOf_d M x)
theorem s_window {t : Nat} {S M : Mem} (h : Rel t S M) (x : Int32) : (∃ a, x = nI a ∧ a < 6 ∧ okG t (f_X5_window S a, S) (f_X6_window M x)) ∨ ((¬ x < 0 → nI 6 ≤ x) ∧ okB t S 1 (f_X6_window M x)) :=
  s_acc h x 3 (by decide) (f_X5_window S) (fun a ha => by rw [f_X5_window_d]; exact (h.2.2.2 a ha).1.2.1.1) _ (f_X6_window_d M x)
theorem s_failures {t : Nat} {S M : Mem} (h : Rel t S M) (x : Int32) : (∃ a, x = nI a ∧ a < 6 ∧ okG t (f_X5_failures S a, S) (f_X6_failures M x)) ∨ ((¬ x < 0 → nI 6 ≤ x) ∧ okB t S 1 (f_X6_failures M x)) :=
  s_acc h x 5 (by decide) (f_X5_failures S) (fun a ha => by rw [f_X5_failures_d]; exact (h.2.2.2 a ha).1.2.2.2.1.1) _ (f_X6_failures_d M x)
theorem s_silencedTo {t : Nat} {S M : Mem} (h : Rel t S M) (x : Int32) : (∃ a, x = nI a ∧ a < 6 ∧ okG t (f_X5_silencedTo S a, S) (f_X6_silencedTo M x)) ∨ ((¬ x < 0 → nI 6 ≤ x) ∧ okB t S 1 (f_X6_silencedTo M x)) :=
  s_acc h x 6 (by decide) (f_X5_silencedTo S) (fun a ha => by rw [f_X5_silencedTo_d]; exact (h.2.2.2 a ha).1.2.2.2.2.1) _ (f_X6_silencedTo_d M x)
theorem s_frames {t : Nat} {S M : Mem} (h : Rel t S M) (x : Int32) : (∃ a, x = nI a ∧ a < 6 ∧ okG t (f_X5_frames S a, S) (f_X6_frames M x)) ∨ ((¬ x < 0 → nI 6 ≤ x) ∧ okB t S 1 (f_X6_frames M x)) :=
  s_acc h x 9 (by decide) (f_X5_frames S) (fun a ha => by rw [f_X5_frames_d]; exact (h.2.2.2 a ha).2.1.1) _ (f_X6_frames_d M x)
theorem s_delivered {t : Nat} {S M : Mem} (h : Rel t S M) (x : Int32) : (∃ a, x = nI a ∧ a < 6 ∧ okG t (f_X5_delivered S a, S) (f_X6_delivered M x)) ∨ ((¬ x < 0 → nI 6 ≤ x) ∧ okB t S 1 (f_X6_delivered M x)) :=
  s_acc h x 16 (by decide) (f_X5_delivered S) (fun a ha => by rw [f_X5_delivered_d]; exact (h.2.2.2 a ha).1.2.2.2.2.2.1) _ (f_X6_delivered_d M x)
theorem s_dropped {t : Nat} {S M : Mem} (h : Rel t S M) (x : Int32) : (∃ a, x = nI a ∧ a < 6 ∧ okG t (f_X5_dropped S a, S) (f_X6_dropped M x)) ∨ ((¬ x < 0 → nI 6 ≤ x) ∧ okB t S 1 (f_X6_dropped M x)) :=
  s_acc h x 17 (by decide) (f_X5_dropped S) (fun a ha => by rw [f_X5_dropped_d]; exact (h.2.2.2 a ha).1.2.2.2.2.2.2.1) _ (f_X6_dropped_d M x)
theorem s_airtime {t : Nat} {S M : Mem} (h : Rel t S M) (x : Int32) : (∃ a, x = nI a ∧ a < 6 ∧ okG t (f_X5_airtime S a, S) (f_X6_airtime M x)) ∨ ((¬ x < 0 → nI 6 ≤ x) ∧ okB t S 1 (f_X6_airtime M x)) :=
  s_acc h x 18 (by decide) (f_X5_airtime S) (fun a ha => by rw [f_X5_airtime_d]; exact (h.2.2.2 a ha).1.2.2.2.2.2.2.2) _ (f_X6_airtime_d M x)
theorem s_airtimeBySendings {t : Nat} {S M : Mem} (h : Rel t S M) (x : Int32) : (∃ a, x = nI a ∧ a < 6 ∧ okG t (f_X5_airtimeBySendings S a, S) (f_X6_airtimeBySendings M x)) ∨ ((¬ x < 0 → nI 6 ≤ x) ∧ okB t S 1 (f_X6_airtimeBySendings M x)) :=
  s_acc h x 18 (by decide) (f_X5_airtimeBySendings S) (fun a ha => by
    obtain ⟨-, -, h3, h4, -⟩ := h.2.2.2 a ha
    rw [f_X5_airtimeBySendings_d, h3]
    rcases h4 with h4 | ⟨h4, f, q, p, b, a1, a2, a3, a4, a5⟩
    · rw [h4.1, if_pos nI0, h4.2, nI0, Int32.add_zero]
    · rw [h4, if_neg nI1_ne, f_X1_slotsUpTo_d, h.1.2.1, a1.2.2.2.2.1.1, pk_sub (by omega), nI_add, show t - f + 1 = t + 1 - f by omega]
      exact a4.symm) _ (f_X6_airtimeBySendings_d M x)
theorem s_sends {t : Nat} {S M : Mem} (h : Rel t S M) (x : Int32) : (∃ a, x = nI a ∧ a < 6 ∧ (f_X5_sends S a = nI 0 ∨ f_X5_sends S a = nI 1) ∧ okG t (f_X5_sends S a, S) (f_X6_sends M x)) ∨ ((¬ x < 0 → nI 6 ≤ x) ∧ okB t S 1 (f_X6_sends M x)) := by
  rw [f_X6_sends_d]
  by_cases hx : f_X6_isStation x = 0
  · rw [if_pos hx]
    exact Or.inr ⟨isSt_no hx, bad_fine h 1⟩
  · rw [if_neg hx]
    obtain ⟨x1, x2⟩ := isSt_k hx
    obtain ⟨-, -, h3, h4, -⟩ := h.2.2.2 _ x2
    rw [isFine_st, ub_ne _ _ _ (show (10 : Nat) ≠ 0 by decide)]
    have h0 := rel_thr h (nI 0)
    rcases h4 with h4 | ⟨h4, -⟩
    · refine Or.inl ⟨_, x1, x2, Or.inl (by rw [f_X5_sends_d, h3, h4.1]), ?_⟩
      rw [h4.1, if_pos nI0]
      exact ⟨by dsimp only; rw [ub_blk, pk_us], by dsimp only; rw [f_X5_sends_d, h3, h4.1], h0⟩
    · refine Or.inl ⟨_, x1, x2, Or.inr (by rw [f_X5_sends_d, h3, h4]), ?_⟩
      rw [h4, if_neg nI1_ne]
      exact ⟨by dsimp only; rw [ub_blk, pk_us], by dsimp only; rw [f_X5_sends_d, h3, h4], h0⟩
theorem s_partsLeft {t : Nat} {S M : Mem} (h : Rel t S M) (x : Int32) : (∃ a, x = nI a ∧ a < 6 ∧ okG t (f_X5_partsLeft S a, S) (f_X6_partsLeft M x)) ∨ ((¬ x < 0 → nI 6 ≤ x) ∧ okB t S 1 (f_X6_partsLeft M x)) := by
  rw [f_X6_partsLeft_d]
  by_cases hx : f_X6_isStation x = 0
  · rw [if_pos hx]
    exact Or.inr ⟨isSt_no hx, bad_fine h 1⟩
  · rw [if_neg hx]
    obtain ⟨x1, x2⟩ := isSt_k hx
    obtain ⟨r1, r2, r3⟩ := (h.2.2.2 _ x2).2.1
    refine Or.inl ⟨_, x1, x2, ?_⟩
    have h0 := rel_thr h (nI 0)
    rw [isFine_st, ub_ne _ _ _ (show (9 : Nat) ≠ 0 by decide), ub_ne _ _ _ (show (8 : Nat) ≠ 0 by decide), f_X5_partsLeft_d, f_X0_partsOfFirst_d, r1]
    rcases Nat.eq_zero_or_pos (kN (M 9 (kN x))) with e | e
    · have e9 : M 9 (kN x) ≤ 0 := by rw [r2.1, e]; decide
      rw [if_pos e9, if_pos e9]
      exact ⟨by dsimp only; rw [ub_blk, pk_us], rfl, h0⟩
    · have e9 : ¬ M 9 (kN x) ≤ 0 := by rw [r2.1]; exact nI_nle e (by have := r2.2; omega)
      rw [if_neg e9, if_neg e9]
      have := (r3 0 e).2.1
      rw [Nat.add_zero] at this
      exact ⟨by dsimp only; rw [ub_blk, pk_us], this, h0⟩
theorem s_now {t : Nat} {S M : Mem} (h : Rel t S M) : f_X5_now S = (f_X6_now M).1 ∧ Rel t S (f_X6_now M).2 := by
  rw [f_X5_now_d, f_X6_now_d]
  refine ⟨?_, rel_thr h _⟩
  dsimp only
  rw [ub_blk, pk_un (by decide), h.1.2.1, h.1.2.2.1]
theorem s_numbers {t : Nat} {S M : Mem} (h : Rel t S M) : f_X5_numbers S = (f_X6_numbers M).1 ∧ Rel t S (f_X6_numbers M).2 := by
  rw [f_X5_numbers_d, f_X6_numbers_d]
  refine ⟨?_, rel_thr h _⟩
  dsimp only
  rw [ub_blk, pk_un (by decide), h.2.2.1.2.1]
theorem rel_tell {t : Nat} {S M : Mem} (h : Rel t S M) : M 0 3 = nI (kN (M 0 3)) ∧ kN (M 0 3) ≤ 200 := ⟨h.2.2.1.2.2.1.1, Nat.le_of_lt_succ h.2.2.1.2.2.1.2⟩
theorem rel_frame {t : Nat} {S M : Mem} (h : Rel t S M) : ∀ j, j < 6 → M 9 j = nI (kN (M 9 j)) ∧ kN (M 9 j) ≤ 5 := fun j hj => ⟨(h.2.2.2 j hj).2.1.2.1.1, Nat.le_of_lt_succ (h.2.2.2 j hj).2.1.2.1.2⟩
theorem rel_ring {t : Nat} {S M : Mem} (h : Rel t S M) : S 4 0 = nI (kN (S 4 0)) ∧ kN (S 4 0) < 200 := h.2.2.1.1
