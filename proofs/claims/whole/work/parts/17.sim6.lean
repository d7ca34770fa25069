-- step (4): a sending ends
def flF (Y : Mem) (i : Nat) : Mem := if Y 5 i = nI 5 then (ub (ub (ub (f_X6_leaves Y i) 17 i ((f_X6_leaves Y i) 17 i + nI 1)) 3 i (f_X6_least (ub (f_X6_leaves Y i) 17 i ((f_X6_leaves Y i) 17 i + nI 1)) i)) 5 i (nI 0)) else Y
theorem fails_eq {M : Mem} {i w : Nat} (hw : M 3 i = nI w) (h : w < 32) : f_X6_fails M i = flF (ub (ub (ub M 10 i (nI 0)) 5 i (M 5 i + nI 1)) 3 i (nI (min (2 * w + 1) 31))) i := by
  have e5 : ub M 10 i (nI 0) 5 i = M 5 i := by rw [ub_ne _ _ _ (by decide)]
  have e3 : ub (ub M 10 i (nI 0)) 5 i (M 5 i + nI 1) 3 i = nI w := by rw [ub_ne _ _ _ (by decide), ub_ne _ _ _ (by decide)]; exact hw
  have tab := (win_tab w h).2
  rw [f_X6_fails_d, nar_0, e5, e3]
  by_cases hh : nI 2 * nI w + nI 1 ≤ nI 31
  · rw [if_pos hh] at tab ⊢
    rw [← tab]
    rfl
  · rw [if_neg hh] at tab ⊢
    rw [← tab]
    rfl
theorem ub_j {Z : Mem} {b' i b j : Nat} {v : Int32} (hj : j ≠ i) : ub Z b' i v b j = Z b j := by
  by_cases e : b = b'
  · subst e; rw [ub_blk, pk_un hj]
  · rw [ub_ne _ _ _ e]
def EndS (i : Nat) (X X' M M' : Mem) : Prop := (∀ b, b ≠ 6 + 5 * i → b ≠ 7 + 5 * i → b ≠ 9 + 5 * i → b ≠ 10 + 5 * i → X' b = X b) ∧ (∀ a, a ≠ 1 → a ≠ 3 → a ≠ 5 → a ≠ 6 → X' (6 + 5 * i) a = X (6 + 5 * i) a) ∧ (∀ b, b ≠ 3 → b ≠ 5 → b ≠ 7 → b ≠ 8 → b ≠ 9 → b ≠ 10 → b ≠ 16 → b ≠ 17 → M' b = M b) ∧ (∀ b j, j ≠ i → b ≠ 7 → b ≠ 8 → M' b j = M b j) ∧ (∀ j, j ≠ i → ∀ k, k < 5 → M' 7 (5 * j + k) = M 7 (5 * j + k) ∧ M' 8 (5 * j + k) = M 8 (5 * j + k)) ∧ M' 10 i = nI 0 ∧ rRw X' M' i ∧ (X' (6 + 5 * i) 1 = M' 3 i ∧ sm (M' 3 i) 32) ∧ (X' (6 + 5 * i) 3 = M' 5 i ∧ sm (M' 5 i) 5) ∧ X' (6 + 5 * i) 5 = M' 16 i ∧ X' (6 + 5 * i) 6 = M' 17 i
theorem fail_step {i : Nat} {X M : Mem} (hC : rCm X M i) (hR : rRw X M i) (hp : 0 < kN (M 9 i)) : EndS i X (f_X2_countFailure X i) M (f_X6_fails M i) := by
  obtain ⟨c1, c2, c3, c4, c5, c6, c7, c8⟩ := id hC
  obtain ⟨w, hw⟩ : ∃ z, z = kN (M 3 i) := ⟨_, rfl⟩
  obtain ⟨n, hn⟩ : ∃ z, z = kN (M 5 i) := ⟨_, rfl⟩
  have w1 : M 3 i = nI w := by rw [hw]; exact c2.2.1
  have w2 : w < 32 := by rw [hw]; exact c2.2.2
  have n1 : M 5 i = nI n := by rw [hn]; exact c4.2.1
  have n2 : n < 5 := by rw [hn]; exact c4.2.2
  rw [f_X2_countFailure_d, fails_eq w1 w2, c4.1, n1, nI_add]
  simp (disch := decide) only [ub_blk, pk_us, pk_un, c2.1, w1, c7]
  unfold flF
  rw [show ub (ub (ub M 10 i (nI 0)) 5 i (nI (n + 1))) 3 i (nI (min (2 * w + 1) 31)) 5 i = nI (n + 1) by rw [ub_ne _ _ _ (by decide), ub_blk, pk_us]]
  by_cases h5 : n = 4
  · subst h5
    rw [if_pos (by decide), if_pos rfl]
    obtain ⟨Z, hZ⟩ : ∃ Z, Z = ub (ub X (6 + 5 * i) 3 (nI (4 + 1))) (6 + 5 * i) 6 (M 17 i + nI 1) := ⟨_, rfl⟩
    obtain ⟨Y, hY⟩ : ∃ Y, Y = ub (ub (ub M 10 i (nI 0)) 5 i (nI (4 + 1))) 3 i (nI (min (2 * w + 1) 31)) := ⟨_, rfl⟩
    rw [← hZ, ← hY]
    have zb : ∀ b, b ≠ 6 + 5 * i → Z b = X b := fun b h => by rw [hZ, ub_ne _ _ _ h, ub_ne _ _ _ h]
    have za : ∀ a, a ≠ 3 → a ≠ 6 → Z (6 + 5 * i) a = X (6 + 5 * i) a := fun a h1 h2 => by rw [hZ, ub_blk, pk_un h2, ub_blk, pk_un h1]
    have z6 : Z (6 + 5 * i) 6 = M 17 i + nI 1 := by rw [hZ, ub_blk, pk_us]
    have yb : ∀ b, b ≠ 10 → b ≠ 5 → b ≠ 3 → Y b = M b := fun b h1 h2 h3 => by rw [hY, ub_ne _ _ _ h3, ub_ne _ _ _ h2, ub_ne _ _ _ h1]
    have yj : ∀ b j, j ≠ i → Y b j = M b j := fun b j h => by rw [hY, ub_j h, ub_j h, ub_j h]
    have y10 : Y 10 i = nI 0 := by rw [hY, ub_ne _ _ _ (by decide), ub_ne _ _ _ (by decide), ub_blk, pk_us]
    have hRw : rRw Z Y i := by
      unfold rRw
      rw [zb _ (by omega), zb _ (by omega), zb _ (by omega), yb 9 (by decide) (by decide) (by decide), yb 7 (by decide) (by decide) (by decide), yb 8 (by decide) (by decide) (by decide)]
      exact hR
    obtain ⟨q1, q2, q3, q4⟩ := rRw_rem hRw.w (by rw [yb 9 (by decide) (by decide) (by decide)]; exact hp)
    obtain ⟨R, hRR⟩ : ∃ R, R = f_X0_removeFirst Z i := ⟨_, rfl⟩
    obtain ⟨L, hL⟩ : ∃ L, L = f_X6_leaves Y i := ⟨_, rfl⟩
    rw [← hRR, ← hL] at q1
    rw [← hRR] at q2 ⊢
    rw [← hL] at q3 q4 ⊢
    rw [f_X2_startAfresh_d, least_eq, ub_ne _ _ _ (show (2 : Nat) ≠ 17 by decide), q2 _ (by omega) (by omega) (by omega), za 0 (by decide) (by decide), c1, q3 2 (by decide) (by decide) (by decide), yb 2 (by decide) (by decide) (by decide)]
    refine ⟨fun b h1 h2 h3 h4 => ?_, fun a h1 h2 h3 h4 => ?_, fun b h1 h2 h3 h4 h5 h6 h7 h8 => ?_, fun b j hj h1 h2 => ?_, fun j hj k hk => ?_, ?_, ?_, ⟨?_, ?_⟩, ⟨?_, ?_⟩, ?_, ?_⟩
    · rw [ub_ne _ _ _ h1, ub_ne _ _ _ h1, q2 b h2 h3 h4, zb b h1]
    · rw [ub_blk, pk_un h2, ub_blk, pk_un h1, q2 _ (by omega) (by omega) (by omega), za a h2 h4]
    · rw [ub_ne _ _ _ h2, ub_ne _ _ _ h1, ub_ne _ _ _ h8, q3 b h3 h4 h5, yb b h6 h2 h1]
    · rw [ub_j hj, ub_j hj, ub_j hj]
      by_cases e : b = 9
      · subst e; rw [(q4 j hj).1, yj _ _ hj]
      · rw [q3 b h1 h2 e, yj _ _ hj]
    · simp (disch := decide) only [ub_ne]
      rw [((q4 j hj).2 k hk).1, ((q4 j hj).2 k hk).2, yb 7 (by decide) (by decide) (by decide), yb 8 (by decide) (by decide) (by decide)]
      exact ⟨rfl, rfl⟩
    · simp (disch := decide) only [ub_ne]
      rw [q3 10 (by decide) (by decide) (by decide)]
      exact y10
    · unfold rRw
      simp (disch := omega) only [ub_ne]
      exact q1
    · simp (disch := decide) only [ub_ne, ub_blk, pk_us, pk_un]
    · simp (disch := decide) only [ub_ne, ub_blk, pk_us, pk_un]
      exact lw_sm _
    · simp (disch := decide) only [ub_ne, ub_blk, pk_us, pk_un]
    · simp (disch := decide) only [ub_ne, ub_blk, pk_us, pk_un]
      exact sm_nI (by decide) (by decide)
    · simp (disch := decide) only [ub_ne, ub_blk, pk_us, pk_un]
      rw [q2 _ (by omega) (by omega) (by omega), za 5 (by decide) (by decide), q3 16 (by decide) (by decide) (by decide), yb 16 (by decide) (by decide) (by decide)]
      exact c6
    · simp (disch := decide) only [ub_ne, ub_blk, pk_us, pk_un]
      rw [q2 _ (by omega) (by omega) (by omega), z6, q3 17 (by decide) (by decide) (by decide), yb 17 (by decide) (by decide) (by decide)]
  · rw [(win_tab w w2).1, if_neg (by rw [nI_leI (by decide) (by omega)]; omega), if_neg (fun e => h5 (by have := nI_inj (by omega) (by decide) e; omega))]
    refine ⟨fun b h1 h2 h3 h4 => ?_, fun a h1 h2 h3 h4 => ?_, fun b h1 h2 h3 h4 h5 h6 h7 h8 => ?_, fun b j hj h1 h2 => ?_, fun j hj k hk => ?_, ?_, ?_, ⟨?_, ?_⟩, ⟨?_, ?_⟩, ?_, ?_⟩
    · rw [ub_ne _ _ _ h1, ub_ne _ _ _ h1]
    · rw [ub_blk, pk_un h1, ub_blk, pk_un h2]
    · rw [ub_ne _ _ _ h1, ub_ne _ _ _ h2, ub_ne _ _ _ h6]
    · rw [ub_j hj, ub_j hj, ub_j hj]
    · exact ⟨by simp (disch := decide) only [ub_ne], by simp (disch := decide) only [ub_ne]⟩
    · simp (disch := decide) only [ub_ne, ub_blk, pk_us, pk_un]
    · unfold rRw
      simp (disch := omega) only [ub_ne]
      exact hR
    · simp (disch := decide) only [ub_ne, ub_blk, pk_us, pk_un]
    · simp (disch := decide) only [ub_ne, ub_blk, pk_us, pk_un]
      exact sm_nI (by omega) (by decide)
    · simp (disch := decide) only [ub_ne, ub_blk, pk_us, pk_un]
    · simp (disch := decide) only [ub_ne, ub_blk, pk_us, pk_un]
      exact sm_nI (by omega) (by decide)
    · simp (disch := decide) only [ub_ne, ub_blk, pk_us, pk_un]
      exact c6
    · simp (disch := decide) only [ub_ne, ub_blk, pk_us, pk_un]
      exact c7
theorem succ_step {i p b : Nat} {X M : Mem} (hC : rCm X M i) (hR : rRw X M i) (hp : 0 < kN (M 9 i)) (hp8 : M 8 (5 * i) = nI p) (hp16 : p < 16) (hb : M 15 i = nI b) (hb16 : b < 16) (hg : ¬ nI (gdp p b) = 0) : EndS i X (f_X2_countSuccess X i (nI (gdp p b))) M (f_X6_ends M i) := by
  obtain ⟨c1, c2, c3, c4, c5, c6, c7, c8⟩ := id hC
  obtain ⟨r1, r2, r3⟩ := id hR
  have tab := gd_tab p hp16 b hb16
  have ec : ¬ X (7 + 5 * i) 0 ≤ 0 := by rw [r1, r2.1]; exact nI_nle hp (by have := r2.2; omega)
  have ex : X (10 + 5 * i) 0 = nI p := by
    have := (r3 0 hp).2.1
    rw [Nat.add_zero] at this
    exact this.trans hp8
  rw [f_X2_countSuccess_d, f_X6_ends_d, f_X0_takeFromFirst_d, hp8, hb, tab.1, if_neg hg, nar_0, bc_eq _ tab.2.1, ct_eq _ tab.2.1, c6]
  simp (disch := omega) only [ub_ne, ub_blk, pk_us, hp8, hb, if_neg ec, ex, tab.2.2.1, tab.2.2.2.2]
  rw [f_X2_startAfresh_d, f_X0_partsOfFirst_d, least_eq]
  simp (disch := omega) only [ub_ne, ub_blk, pk_us, pk_un, if_neg ec, c1]
  obtain ⟨U, hU⟩ : ∃ U, U = ub (ub (ub (ub X (6 + 5 * i) 5 (M 16 i + nI (ppc (gdp p b)))) (10 + 5 * i) 0 (nI (lfp p b))) (6 + 5 * i) 1 (f_X5_leastWindow (M 2 i))) (6 + 5 * i) 3 (nI 0) := ⟨_, rfl⟩
  obtain ⟨V, hV⟩ : ∃ V, V = ub (ub (ub (ub (ub M 10 i (nI 0)) 16 i (M 16 i + nI (ppc (gdp p b)))) 8 (5 * i) (nI (lfp p b))) 3 i (f_X5_leastWindow (M 2 i))) 5 i (nI 0) := ⟨_, rfl⟩
  rw [← hU, ← hV]
  have ub1 : ∀ b, b ≠ 6 + 5 * i → b ≠ 10 + 5 * i → U b = X b := fun b h1 h2 => by rw [hU, ub_ne _ _ _ h1, ub_ne _ _ _ h1, ub_ne _ _ _ h2, ub_ne _ _ _ h1]
  have ua : ∀ a, a ≠ 1 → a ≠ 3 → a ≠ 5 → U (6 + 5 * i) a = X (6 + 5 * i) a := fun a h1 h2 h3 => by rw [hU, ub_blk, pk_un h2, ub_blk, pk_un h1, ub_ne _ _ _ (by omega), ub_blk, pk_un h3]
  have u1 : U (6 + 5 * i) 1 = f_X5_leastWindow (M 2 i) := by rw [hU]; simp (disch := omega) only [ub_ne, ub_blk, pk_us, pk_un]
  have u3 : U (6 + 5 * i) 3 = nI 0 := by rw [hU]; simp (disch := omega) only [ub_ne, ub_blk, pk_us, pk_un]
  have u5 : U (6 + 5 * i) 5 = M 16 i + nI (ppc (gdp p b)) := by rw [hU]; simp (disch := omega) only [ub_ne, ub_blk, pk_us, pk_un]
  have up0 : U (10 + 5 * i) 0 = nI (lfp p b) := by rw [hU]; simp (disch := omega) only [ub_ne, ub_blk, pk_us, pk_un]
  have up : ∀ k, k ≠ 0 → U (10 + 5 * i) k = X (10 + 5 * i) k := fun k hk => by rw [hU]; simp (disch := omega) only [ub_ne, ub_blk, pk_us, pk_un]
  have vb : ∀ b, b ≠ 3 → b ≠ 5 → b ≠ 8 → b ≠ 10 → b ≠ 16 → V b = M b := fun b h1 h2 h3 h4 h5 => by rw [hV, ub_ne _ _ _ h2, ub_ne _ _ _ h1, ub_ne _ _ _ h3, ub_ne _ _ _ h5, ub_ne _ _ _ h4]
  have v8 : ∀ x, x ≠ 5 * i → V 8 x = M 8 x := fun x h => by rw [hV]; simp (disch := omega) only [ub_ne, ub_blk, pk_us, pk_un]
  have v80 : V 8 (5 * i) = nI (lfp p b) := by rw [hV]; simp (disch := omega) only [ub_ne, ub_blk, pk_us, pk_un]
  have vj : ∀ b j, j ≠ i → b ≠ 8 → V b j = M b j := fun b j h h8 => by rw [hV, ub_j h, ub_j h, ub_ne _ _ _ h8, ub_j h, ub_j h]
  have v10 : V 10 i = nI 0 := by rw [hV]; simp (disch := omega) only [ub_ne, ub_blk, pk_us, pk_un]
  have v3 : V 3 i = f_X5_leastWindow (M 2 i) := by rw [hV]; simp (disch := omega) only [ub_ne, ub_blk, pk_us, pk_un]
  have v5 : V 5 i = nI 0 := by rw [hV]; simp (disch := omega) only [ub_ne, ub_blk, pk_us, pk_un]
  have v16 : V 16 i = M 16 i + nI (ppc (gdp p b)) := by rw [hV]; simp (disch := omega) only [ub_ne, ub_blk, pk_us, pk_un]
  have hRw1 : rRw1 U V i := by
    unfold rRw1
    rw [ub1 _ (by omega) (by omega), ub1 (9 + 5 * i) (by omega) (by omega), vb 9 (by decide) (by decide) (by decide) (by decide) (by decide), vb 7 (by decide) (by decide) (by decide) (by decide) (by decide)]
    refine ⟨r1, r2, fun k h0 hk => ?_⟩
    rw [up k (by omega), v8 _ (by omega)]
    exact r3 k hk
  by_cases hl : nI (lfp p b) = 0
  · rw [if_pos hl, if_pos hl]
    obtain ⟨q1, q2, q3, q4⟩ := rRw_rem hRw1 (by rw [vb 9 (by decide) (by decide) (by decide) (by decide) (by decide)]; exact hp)
    have q6 : f_X0_removeFirst U i (6 + 5 * i) = U (6 + 5 * i) := q2 _ (by omega) (by omega) (by omega)
    refine ⟨fun b h1 h2 h3 h4 => ?_, fun a h1 h2 h3 h4 => ?_, fun b h1 h2 h3 h4 h5 h6 h7 h8 => ?_, fun b j hj h1 h2 => ?_, fun j hj k hk => ?_, ?_, q1, ⟨?_, ?_⟩, ⟨?_, ?_⟩, ?_, ?_⟩
    · rw [q2 b h2 h3 h4, ub1 b h1 h4]
    · rw [q6, ua a h1 h2 h3]
    · rw [q3 b h3 h4 h5, vb b h1 h2 h4 h6 h7]
    · by_cases e : b = 9
      · subst e; rw [(q4 j hj).1, vj _ _ hj h2]
      · rw [q3 b h1 h2 e, vj _ _ hj h2]
    · rw [((q4 j hj).2 k hk).1, ((q4 j hj).2 k hk).2, vb 7 (by decide) (by decide) (by decide) (by decide) (by decide), v8 _ (by omega)]
      exact ⟨rfl, rfl⟩
    · rw [q3 10 (by decide) (by decide) (by decide)]; exact v10
    · rw [q6, u1, q3 3 (by decide) (by decide) (by decide), v3]
    · rw [q3 3 (by decide) (by decide) (by decide), v3]; exact lw_sm _
    · rw [q6, u3, q3 5 (by decide) (by decide) (by decide), v5]
    · rw [q3 5 (by decide) (by decide) (by decide), v5]; exact sm_nI (by decide) (by decide)
    · rw [q6, u5, q3 16 (by decide) (by decide) (by decide), v16]
    · rw [q6, ua 6 (by decide) (by decide) (by decide), q3 17 (by decide) (by decide) (by decide), vb 17 (by decide) (by decide) (by decide) (by decide) (by decide)]; exact c7
  · rw [if_neg hl, if_neg hl]
    refine ⟨fun b h1 h2 h3 h4 => ?_, fun a h1 h2 h3 h4 => ?_, fun b h1 h2 h3 h4 h5 h6 h7 h8 => ?_, fun b j hj h1 h2 => ?_, fun j hj k hk => ?_, ?_, ⟨hRw1.1, hRw1.2.1, fun k hk => ?_⟩, ⟨?_, ?_⟩, ⟨?_, ?_⟩, ?_, ?_⟩
    · rw [ub1 b h1 h4]
    · rw [ua a h1 h2 h3]
    · rw [vb b h1 h2 h4 h6 h7]
    · rw [vj _ _ hj h2]
    · rw [vb 7 (by decide) (by decide) (by decide) (by decide) (by decide), v8 _ (by omega)]
      exact ⟨rfl, rfl⟩
    · exact v10
    · rcases Nat.eq_zero_or_pos k with e | e
      · subst e
        rw [ub1 (9 + 5 * i) (by omega) (by omega), vb 7 (by decide) (by decide) (by decide) (by decide) (by decide), Nat.add_zero, up0, v80]
        have := (r3 0 hp).1
        rw [Nat.add_zero] at this
        exact ⟨this, rfl, sm_nI tab.2.2.2.1 (by decide), hl⟩
      · exact hRw1.2.2 k e hk
    · rw [u1, v3]
    · rw [v3]; exact lw_sm _
    · rw [u3, v5]
    · rw [v5]; exact sm_nI (by decide) (by decide)
    · rw [u5, v16]
    · rw [ua 6 (by decide) (by decide) (by decide), vb 17 (by decide) (by decide) (by decide) (by decide) (by decide)]; exact c7
def St4 (t i : Nat) (S M S' M' : Mem) : Prop := rGl t S' M' ∧ rSt S' M' ∧ rQu S' M' ∧ PA (t + 1) S' M' i ∧ ∀ j, j < 6 → j ≠ i → sameS S S' j ∧ sameM M M' j ∧ sil S S' M M' j
theorem end_fin {t i : Nat} {S M X X' M' : Mem} (hGl : rGl t S M) (hSt : rSt S M) (hQu : rQu S M) (hC : rCm S M i) (hwa : rWa (t + 1) S M i) (hX : X = ub (ub S (8 + 5 * i) 0 (nI 0)) (6 + 5 * i) 8 (M 18 i)) (h : EndS i X X' M M') : St4 t i S M X' M' := by
  obtain ⟨e1, e2, e3, e4, e5, e6, e7, e8, e9, e10, e11⟩ := h
  obtain ⟨c1, c2, c3, c4, c5, c6, c7, c8⟩ := id hC
  have xb : ∀ b, b ≠ 6 + 5 * i → b ≠ 8 + 5 * i → X b = S b := fun b h1 h2 => by rw [hX, ub_ne _ _ _ h1, ub_ne _ _ _ h2]
  have xa : ∀ a, a ≠ 8 → X (6 + 5 * i) a = S (6 + 5 * i) a := fun a h => by rw [hX, ub_blk, pk_un h, ub_ne _ _ _ (by omega)]
  have x8 : X (6 + 5 * i) 8 = M 18 i := by rw [hX, ub_blk, pk_us]
  have xo : X (8 + 5 * i) 0 = nI 0 := by rw [hX, ub_ne _ _ _ (by omega), ub_blk, pk_us]
  have fb : ∀ b, b ≠ 6 + 5 * i → b ≠ 7 + 5 * i → b ≠ 8 + 5 * i → b ≠ 9 + 5 * i → b ≠ 10 + 5 * i → X' b = S b := fun b h1 h2 h3 h4 h5 => by rw [e1 b h1 h2 h4 h5, xb b h1 h3]
  have fa : ∀ a, a ≠ 1 → a ≠ 3 → a ≠ 5 → a ≠ 6 → a ≠ 8 → X' (6 + 5 * i) a = S (6 + 5 * i) a := fun a h1 h2 h3 h4 h5 => by rw [e2 a h1 h2 h3 h4, xa a h5]
  have f8 : X' (6 + 5 * i) 8 = M 18 i := by rw [e2 8 (by decide) (by decide) (by decide) (by decide), x8]
  have gM : ∀ b, b ≠ 3 → b ≠ 5 → b ≠ 7 → b ≠ 8 → b ≠ 9 → b ≠ 10 → b ≠ 16 → b ≠ 17 → M' b = M b := e3
  refine ⟨?_, ?_, ?_, ⟨⟨?_, e8, ⟨?_, ?_⟩, e9, ?_, e10, e11, ?_⟩, e7, ?_, Or.inl ⟨e6, ?_⟩, ?_⟩, fun j hj hji => ⟨⟨fun a _ => by rw [fb _ (by omega) (by omega) (by omega) (by omega) (by omega)], fb _ (by omega) (by omega) (by omega) (by omega) (by omega), fb _ (by omega) (by omega) (by omega) (by omega) (by omega), fb _ (by omega) (by omega) (by omega) (by omega) (by omega), fb _ (by omega) (by omega) (by omega) (by omega) (by omega)⟩, ⟨fun b h1 h2 h3 h4 h5 => e4 b j hji h4 h5, fun k hk => e5 j hji k hk⟩, fun h => ?_⟩⟩
  · unfold rGl; rw [fb 0 (by omega) (by omega) (by omega) (by omega) (by omega), gM 0 (by decide) (by decide) (by decide) (by decide) (by decide) (by decide) (by decide) (by decide)]; exact hGl
  · unfold rSt; rw [fb 3 (by omega) (by omega) (by omega) (by omega) (by omega), gM 1 (by decide) (by decide) (by decide) (by decide) (by decide) (by decide) (by decide) (by decide)]; exact hSt
  · unfold rQu; rw [fb 4 (by omega) (by omega) (by omega) (by omega) (by omega), fb 5 (by omega) (by omega) (by omega) (by omega) (by omega), gM 0 (by decide) (by decide) (by decide) (by decide) (by decide) (by decide) (by decide) (by decide), gM 19 (by decide) (by decide) (by decide) (by decide) (by decide) (by decide) (by decide) (by decide)]; exact hQu
  · rw [fa 0 (by decide) (by decide) (by decide) (by decide) (by decide), gM 2 (by decide) (by decide) (by decide) (by decide) (by decide) (by decide) (by decide) (by decide)]; exact c1
  · rw [fa 2 (by decide) (by decide) (by decide) (by decide) (by decide), gM 4 (by decide) (by decide) (by decide) (by decide) (by decide) (by decide) (by decide) (by decide)]; exact c3.1
  · rw [gM 4 (by decide) (by decide) (by decide) (by decide) (by decide) (by decide) (by decide) (by decide)]; exact c3.2
  · rw [fa 4 (by decide) (by decide) (by decide) (by decide) (by decide), gM 6 (by decide) (by decide) (by decide) (by decide) (by decide) (by decide) (by decide) (by decide)]; exact c5
  · rw [fa 7 (by decide) (by decide) (by decide) (by decide) (by decide), gM 18 (by decide) (by decide) (by decide) (by decide) (by decide) (by decide) (by decide) (by decide)]; exact c8
  · rw [e1 _ (by omega) (by omega) (by omega) (by omega), xo, e6]
  · rw [f8, gM 18 (by decide) (by decide) (by decide) (by decide) (by decide) (by decide) (by decide) (by decide)]
  · unfold rWa; rw [fa 9 (by decide) (by decide) (by decide) (by decide) (by decide), gM 11 (by decide) (by decide) (by decide) (by decide) (by decide) (by decide) (by decide) (by decide)]; exact hwa
  · rw [fb _ (by omega) (by omega) (by omega) (by omega) (by omega), gM 6 (by decide) (by decide) (by decide) (by decide) (by decide) (by decide) (by decide) (by decide)]; exact h
