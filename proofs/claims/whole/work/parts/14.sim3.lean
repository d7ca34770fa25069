-- booleans of the model
theorem nar_0 : vp_nar .boolean (nI 0) = nI 0 := by decide
theorem nar_1 : vp_nar .boolean (nI 1) = nI 1 := by decide
theorem nI0 : nI 0 = 0 := by decide
theorem nI1_ne : ¬ nI 1 = 0 := by decide
theorem nI1_0 : ¬ nI 1 = nI 0 := by decide
-- a frame leaves
theorem rf_cnt : ∀ c, c < 6 → (if nI c - nI 1 < nI 0 then nI 0 else nI c - nI 1) = nI (c - 1) := by decide +kernel
theorem rf_L1 {c j : Nat} (hc : c < 6) : ∀ (n i : Nat) (S : Mem), i + n = 5 → 1 ≤ i → S (7 + 5 * j) 0 = nI c →
    (∀ b, b ≠ 7 + 5 * j → b ≠ 9 + 5 * j → b ≠ 10 + 5 * j → f_X0_removeFirst_L1 j n i S b = S b) ∧ f_X0_removeFirst_L1 j n i S (7 + 5 * j) 0 = nI (c - 1) ∧
    ∀ k, (i ≤ k + 1 → k + 1 < c → f_X0_removeFirst_L1 j n i S (9 + 5 * j) k = S (9 + 5 * j) (k + 1) ∧ f_X0_removeFirst_L1 j n i S (10 + 5 * j) k = S (10 + 5 * j) (k + 1)) ∧ (k + 1 < i → f_X0_removeFirst_L1 j n i S (9 + 5 * j) k = S (9 + 5 * j) k ∧ f_X0_removeFirst_L1 j n i S (10 + 5 * j) k = S (10 + 5 * j) k)
  | 0, i, S, hi, h1, h => by
    rw [f_X0_removeFirst_L1_z, ite_self, h, rf_cnt c hc]
    refine ⟨fun b h1 h2 h3 => ub_ne _ _ _ h1, by rw [ub_blk, pk_us], fun k => ⟨fun h1 h2 => by omega, fun _ => ⟨?_, ?_⟩⟩⟩
    · rw [ub_ne _ _ _ (by omega)]
    · rw [ub_ne _ _ _ (by omega)]
  | n + 1, i, S, hi, h1, h => by
    rw [f_X0_removeFirst_L1_s]
    by_cases hx : S (7 + 5 * j) 0 ≤ nI i
    · rw [if_pos hx]
      rw [h, nI_leI (by omega) (by omega)] at hx
      rw [h, rf_cnt c hc]
      refine ⟨fun b h1 h2 h3 => ub_ne _ _ _ h1, by rw [ub_blk, pk_us], fun k => ⟨fun h1 h2 => by omega, fun _ => ⟨?_, ?_⟩⟩⟩
      · rw [ub_ne _ _ _ (by omega)]
      · rw [ub_ne _ _ _ (by omega)]
    · rw [if_neg hx]
      rw [ub_ne _ _ _ (show 10 + 5 * j ≠ 9 + 5 * j by omega)]
      obtain ⟨g1, g2, g3⟩ := rf_L1 (j := j) hc n (i + 1) (ub (ub S (9 + 5 * j) (i - 1) (S (9 + 5 * j) i)) (10 + 5 * j) (i - 1) (S (10 + 5 * j) i)) (by omega) (by omega) (by rw [ub_ne _ _ _ (by omega), ub_ne _ _ _ (by omega)]; exact h)
      have r9 : ∀ k, ub (ub S (9 + 5 * j) (i - 1) (S (9 + 5 * j) i)) (10 + 5 * j) (i - 1) (S (10 + 5 * j) i) (9 + 5 * j) k = if k = i - 1 then S (9 + 5 * j) i else S (9 + 5 * j) k := fun k => by
        rw [ub_ne _ _ _ (by omega), ub_blk, upd]
      have r10 : ∀ k, ub (ub S (9 + 5 * j) (i - 1) (S (9 + 5 * j) i)) (10 + 5 * j) (i - 1) (S (10 + 5 * j) i) (10 + 5 * j) k = if k = i - 1 then S (10 + 5 * j) i else S (10 + 5 * j) k := fun k => by
        rw [ub_blk, upd, ub_ne _ _ _ (by omega)]
      refine ⟨fun b h1 h2 h3 => ?_, g2, fun k => ⟨fun k1 k2 => ?_, fun k1 => ?_⟩⟩
      · rw [g1 b h1 h2 h3, ub_ne _ _ _ h3, ub_ne _ _ _ h2]
      · rcases Nat.lt_or_ge i (k + 1) with q | q
        · obtain ⟨x1, x2⟩ := (g3 k).1 q k2
          rw [x1, x2, r9, r10, if_neg (by omega), if_neg (by omega)]
          exact ⟨rfl, rfl⟩
        · have e : k = i - 1 := by omega
          obtain ⟨x1, x2⟩ := (g3 k).2 (by omega)
          rw [x1, x2, r9, r10, if_pos e, if_pos e, show k + 1 = i by omega]
          exact ⟨rfl, rfl⟩
      · obtain ⟨x1, x2⟩ := (g3 k).2 (by omega)
        rw [x1, x2, r9, r10, if_neg (by omega), if_neg (by omega)]
        exact ⟨rfl, rfl⟩
theorem lv_L1 {c s : Nat} (hc : c < 5) : ∀ (n i : Nat) (M : Mem), i + n = 4 → M 9 s = nI c →
    (∀ k, i ≤ k → k < c → f_X6_leaves_L1 s n i M 7 (5 * s + k) = M 7 (5 * s + (k + 1)) ∧ f_X6_leaves_L1 s n i M 8 (5 * s + k) = M 8 (5 * s + (k + 1))) ∧ ∀ x, (x < 5 * s + i ∨ 5 * s + 4 ≤ x) → f_X6_leaves_L1 s n i M 7 x = M 7 x ∧ f_X6_leaves_L1 s n i M 8 x = M 8 x
  | 0, i, M, hi, h => by
    rw [f_X6_leaves_L1_z]
    exact ⟨fun k h1 h2 => by omega, fun x _ => ⟨rfl, rfl⟩⟩
  | n + 1, i, M, hi, h => by
    rw [f_X6_leaves_L1_s]
    by_cases hx : M 9 s ≤ nI i
    · rw [if_pos hx]
      rw [h, nI_leI (by omega) (by omega)] at hx
      exact ⟨fun k h1 h2 => by omega, fun x _ => ⟨rfl, rfl⟩⟩
    · rw [if_neg hx, ub_ne _ _ _ (show (8 : Nat) ≠ 7 by decide)]
      obtain ⟨g1, g2⟩ := lv_L1 (s := s) hc n (i + 1) (ub (ub M 7 (5 * s + i) (M 7 (5 * s + i + 1))) 8 (5 * s + i) (M 8 (5 * s + i + 1))) (by omega) (by rw [ub_ne _ _ _ (by decide), ub_ne _ _ _ (by decide)]; exact h)
      have r7 : ∀ x, ub (ub M 7 (5 * s + i) (M 7 (5 * s + i + 1))) 8 (5 * s + i) (M 8 (5 * s + i + 1)) 7 x = if x = 5 * s + i then M 7 (5 * s + i + 1) else M 7 x := fun x => by
        rw [ub_ne _ _ _ (by decide), ub_blk, upd]
      have r8 : ∀ x, ub (ub M 7 (5 * s + i) (M 7 (5 * s + i + 1))) 8 (5 * s + i) (M 8 (5 * s + i + 1)) 8 x = if x = 5 * s + i then M 8 (5 * s + i + 1) else M 8 x := fun x => by
        rw [ub_blk, upd, ub_ne _ _ _ (by decide)]
      refine ⟨fun k h1 h2 => ?_, fun x hx => ?_⟩
      · rcases Nat.lt_or_ge i k with q | q
        · obtain ⟨x1, x2⟩ := g1 k q h2
          rw [x1, x2, r7, r8, if_neg (by omega), if_neg (by omega)]
          exact ⟨rfl, rfl⟩
        · have e : k = i := by omega
          subst e
          obtain ⟨x1, x2⟩ := g2 (5 * s + k) (by omega)
          rw [x1, x2, r7, r8, if_pos rfl, if_pos rfl]
          exact ⟨rfl, rfl⟩
      · obtain ⟨x1, x2⟩ := g2 x (by omega)
        rw [x1, x2, r7, r8, if_neg (by omega), if_neg (by omega)]
        exact ⟨rfl, rfl⟩
def rRw1 (S M : Mem) (i : Nat) : Prop := S (7 + 5 * i) 0 = M 9 i ∧ sm (M 9 i) 6 ∧ ∀ k, 0 < k → k < kN (M 9 i) → (S (9 + 5 * i) k = M 7 (5 * i + k) ∧ sm (M 7 (5 * i + k)) 6) ∧ (S (10 + 5 * i) k = M 8 (5 * i + k) ∧ sm (M 8 (5 * i + k)) 16 ∧ ¬ M 8 (5 * i + k) = 0)
theorem rRw.w {S M : Mem} {i : Nat} (h : rRw S M i) : rRw1 S M i := ⟨h.1, h.2.1, fun k _ hk => h.2.2 k hk⟩
theorem rRw_rem {S M : Mem} {i : Nat} (h : rRw1 S M i) (hp : 0 < kN (M 9 i)) : rRw (f_X0_removeFirst S i) (f_X6_leaves M i) i ∧ (∀ b, b ≠ 7 + 5 * i → b ≠ 9 + 5 * i → b ≠ 10 + 5 * i → f_X0_removeFirst S i b = S b) ∧ (∀ b, b ≠ 7 → b ≠ 8 → b ≠ 9 → f_X6_leaves M i b = M b) ∧ ∀ j, j ≠ i → f_X6_leaves M i 9 j = M 9 j ∧ ∀ k, k < 5 → f_X6_leaves M i 7 (5 * j + k) = M 7 (5 * j + k) ∧ f_X6_leaves M i 8 (5 * j + k) = M 8 (5 * j + k) := by
  obtain ⟨a1, ⟨a2, a3⟩, a4⟩ := h
  obtain ⟨c, hc⟩ : ∃ z, z = kN (M 9 i) := ⟨_, rfl⟩
  rw [← hc] at a2 a3 a4 hp
  obtain ⟨g1, g2, g3⟩ := rf_L1 (j := i) a3 4 1 S (by omega) (by omega) (a1.trans a2)
  have e9 : ub M 9 i (M 9 i - nI 1) 9 i = nI (c - 1) := by rw [ub_blk, pk_us, a2, pk_sub (by omega)]
  obtain ⟨l1, l2⟩ := lv_L1 (s := i) (show c - 1 < 5 by omega) 4 0 (ub M 9 i (M 9 i - nI 1)) (by omega) e9
  have q9 : f_X6_leaves M i 9 = ub M 9 i (M 9 i - nI 1) 9 := by rw [f_X6_leaves_d]; exact lv_leaves_L1_blk (by decide) (by decide) _ _ _
  have k9 : kN (f_X6_leaves M i 9 i) = c - 1 := by rw [q9, e9]; exact kN_nI (by omega)
  refine ⟨⟨?_, ?_, fun k hk => ?_⟩, fun b h1 h2 h3 => ?_, fun b h1 h2 h3 => leaves_blk M h1 h2 h3, fun j hj => ⟨?_, fun k hk => ?_⟩⟩
  · rw [f_X0_removeFirst_d, q9, e9]; exact g2
  · rw [q9, e9]; exact sm_nI (by omega) (by decide)
  · rw [k9] at hk
    obtain ⟨x1, x2⟩ := (g3 k).1 (by omega) (by omega)
    obtain ⟨y1, y2⟩ := l1 k (by omega) hk
    rw [f_X0_removeFirst_d, f_X6_leaves_d, x1, x2, y1, y2, ub_ne _ _ _ (by decide), ub_ne _ _ _ (by decide)]
    exact a4 (k + 1) (by omega) (by omega)
  · rw [f_X0_removeFirst_d]; exact g1 b h1 h2 h3
  · rw [q9, ub_blk, pk_un hj]
  · obtain ⟨y1, y2⟩ := l2 (5 * j + k) (by omega)
    rw [f_X6_leaves_d, y1, y2, ub_ne _ _ _ (by decide), ub_ne _ _ _ (by decide)]
    exact ⟨rfl, rfl⟩
-- step (2)
def wob2 (X : Mem) (i : Nat) : Mem := if X 0 1 ≤ X (6 + 5 * i) 4 then X else (if f_X5_heardInSlotBefore X i = 0 then (if X (6 + 5 * i) 2 ≤ 0 then f_X2_begin X i (X 0 1) (X 0 0) else ub X (6 + 5 * i) 2 (X (6 + 5 * i) 2 - nI 1)) else X)
def lis2 (Y : Mem) (i : Nat) : Mem := if Y 0 1 ≤ Y 6 i then Y else (if f_X6_isBusy Y i = 0 then (if Y 4 i = 0 then f_X6_begins Y i else ub Y 4 i (Y 4 i - nI 1)) else Y)
theorem wob_eq (S : Mem) (i : Nat) : f_X5_waitOrBegin S i = if S (8 + 5 * i) 0 = 0 then (if S (7 + 5 * i) 0 = 0 then S else (if S (6 + 5 * i) 2 = -1 then wob2 (ub (f_X4_next S).2 (6 + 5 * i) 2 (f_X5_restBy (f_X4_next S).1 ((f_X4_next S).2 (6 + 5 * i) 1 + nI 1))) i else wob2 S i)) else S := rfl
theorem lis_eq (M : Mem) (i : Nat) : f_X6_listens M i = if M 4 i = -1 then lis2 (ub (f_X6_nextNumber M).2 4 i ((f_X6_nextNumber M).1 - (f_X6_nextNumber M).1 / ((f_X6_nextNumber M).2 3 i + nI 1) * ((f_X6_nextNumber M).2 3 i + nI 1))) i else lis2 M i := rfl
/-- what a sending's begin writes -/
theorem begins_spec (M : Mem) {i t p r : Nat} (ht : 1 ≤ t) (hn : M 0 1 = nI t) (hp : M 8 (5 * i) = nI p) (hp16 : p < 16) (hr : M 0 2 = nI r) (hr6 : r < 6) : ∃ q, q = (if ppc p < r then 0 else 1) ∧ f_X6_begins M i 10 i = nI 1 ∧ f_X6_begins M i 12 i = nI q ∧ f_X6_begins M i 13 i = nI t ∧ f_X6_begins M i 14 i = nI (t + q + 2 * ppc p - 1) ∧ f_X6_begins M i 15 i = nI 0 ∧ f_X6_begins M i 4 i = -1 ∧ (∀ b, b ≠ 10 → b ≠ 12 → b ≠ 13 → b ≠ 14 → b ≠ 15 → b ≠ 4 → f_X6_begins M i b = M b) ∧ ∀ b j, j ≠ i → f_X6_begins M i b j = M b j := by
  have hpc := ppc_le p hp16
  have ec : f_X6_count (M 8 (5 * i)) = nI (ppc p) := by rw [hp]; exact ct_eq p hp16
  have hb : ∀ (X : Mem) (q : Nat) (v : Int32), v = nI (t + q + 2 * ppc p - 1) → X = ub (ub (ub (ub (ub (ub M 10 i (nI 1)) 12 i (nI q)) 13 i (nI t)) 14 i v) 15 i (nI 0)) 4 i (-1) → X 10 i = nI 1 ∧ X 12 i = nI q ∧ X 13 i = nI t ∧ X 14 i = nI (t + q + 2 * ppc p - 1) ∧ X 15 i = nI 0 ∧ X 4 i = -1 ∧ (∀ b, b ≠ 10 → b ≠ 12 → b ≠ 13 → b ≠ 14 → b ≠ 15 → b ≠ 4 → X b = M b) ∧ ∀ b j, j ≠ i → X b j = M b j := by
    intro X q v hv hX
    subst hX
    refine ⟨?_, ?_, ?_, ?_, ?_, ?_, fun b h1 h2 h3 h4 h5 h6 => ?_, fun b j hj => ?_⟩
    · simp (disch := decide) only [ub_ne, ub_blk, pk_us]
    · simp (disch := decide) only [ub_ne, ub_blk, pk_us]
    · simp (disch := decide) only [ub_ne, ub_blk, pk_us]
    · simp (disch := decide) only [ub_ne, ub_blk, pk_us]; exact hv
    · simp (disch := decide) only [ub_ne, ub_blk, pk_us]
    · simp (disch := decide) only [ub_ne, ub_blk, pk_us]
    · rw [ub_ne _ _ _ h6, ub_ne _ _ _ h5, ub_ne _ _ _ h4, ub_ne _ _ _ h3, ub_ne _ _ _ h2, ub_ne _ _ _ h1]
    · have key : ∀ (Z : Mem) (b' : Nat) (v : Int32), ub Z b' i v b j = Z b j := fun Z b' v => by
        by_cases e : b = b'
        · subst e; rw [ub_blk, pk_un hj]
        · rw [ub_ne _ _ _ e]
      rw [key, key, key, key, key, key]
  rw [f_X6_begins_d, ec]
  simp (disch := decide) only [ub_ne, ub_blk, pk_us, nar_0, nar_1, hn, hr, if_pos nI0, if_neg nI1_ne]
  by_cases h : ppc p < r
  · refine ⟨0, by rw [if_pos h], ?_⟩
    rw [if_pos (nI_lt h (by omega))]
    exact hb _ 0 _ (by rw [pk_mul, nI_add, pk_sub (by omega)]; rfl) rfl
  · refine ⟨1, by rw [if_neg h], ?_⟩
    rw [if_neg (fun hh => h ((nI_ltI (by omega) (by omega)).mp hh))]
    exact hb _ 1 _ (by rw [pk_mul, nI_add, pk_sub (by omega)]; congr 1; omega) rfl
