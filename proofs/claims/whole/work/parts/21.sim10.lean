theorem PA_mod {t i : Nat} {S M S' M' : Mem} (hC : rCm S' M' i) (hR : rRw S' M' i) (e8 : S' (8 + 5 * i) = S (8 + 5 * i)) (s8 : S' (6 + 5 * i) 8 = S (6 + 5 * i) 8) (s9 : S' (6 + 5 * i) 9 = S (6 + 5 * i) 9) (m : ∀ b, b = 10 ∨ b = 11 ∨ b = 12 ∨ b = 13 ∨ b = 14 ∨ b = 15 ∨ b = 18 → M' b i = M b i) (m9 : 0 < kN (M 9 i) → 0 < kN (M' 9 i) ∧ M' 8 (5 * i) = M 8 (5 * i)) (h : PA t S M i) : PA t S' M' i := by
  obtain ⟨h1, h2, h3, h4, h5⟩ := h
  refine ⟨hC, hR, by rw [e8, m 10 (by decide)]; exact h3, ?_, by unfold rWa; rw [s9, m 11 (by decide)]; exact h5⟩
  rcases h4 with h4 | ⟨h4, f, q, p, b, a1, a2, a3, a4, a5⟩
  · exact Or.inl (by unfold rOff; rw [m 10 (by decide), m 18 (by decide), s8]; exact h4)
  · refine Or.inr ⟨by rw [m 10 (by decide)]; exact h4, f, q, p, b, ?_, a2, a3, by unfold rAt; rw [m 18 (by decide), s8]; exact a4, by unfold rBk; rw [e8, m 15 (by decide)]; exact a5⟩
    obtain ⟨t1, t2⟩ := a1
    obtain ⟨n1, n2⟩ := m9 t1
    unfold rTm
    rw [e8, m 13 (by decide), m 12 (by decide), m 14 (by decide), n2]
    exact ⟨n1, t2⟩
-- setClass
theorem s_setClass {t : Nat} {S M : Mem} (h : Rel t S M) (x y : Int32) : (∃ a, x = nI a ∧ a < 6 ∧ ¬ y < 0 ∧ y ≤ nI 1 ∧ okG t (f_X5_setClass S a y) (f_X6_setClass M x y)) ∨ ((¬ x < 0 → nI 6 ≤ x) ∧ okB t S 1 (f_X6_setClass M x y)) ∨ (∃ a, x = nI a ∧ a < 6 ∧ (¬ y < 0 → ¬ y ≤ nI 1) ∧ okB t S 2 (f_X6_setClass M x y)) := by
  rw [f_X6_setClass_d]
  by_cases hx : f_X6_isStation x = 0
  · rw [if_pos hx]
    exact Or.inr (Or.inl ⟨isSt_no hx, bad_fine h 1⟩)
  · rw [if_neg hx]
    obtain ⟨x1, x2⟩ := isSt_k hx
    by_cases hy : f_X6_isIn y (nI 0) (nI 1) = 0
    · rw [if_pos hy]
      exact Or.inr (Or.inr ⟨_, x1, x2, isIn_no hy, bad_fine h 2⟩)
    · rw [if_neg hy]
      refine Or.inl ⟨_, x1, x2, (isIn_yes hy).1, (isIn_yes hy).2, ?_⟩
      obtain ⟨a, ha⟩ : ∃ a, a = kN x := ⟨_, rfl⟩
      rw [← ha] at x2 ⊢
      rw [f_X5_setClass_d, isFine_st, least_eq, ub_blk, pk_us]
      obtain ⟨h1, h2, h3, h4⟩ := rel_thr h (nI 0)
      obtain ⟨c1, c2, c3, c4, c5, c6, c7, c8⟩ := (h4 a x2).1
      refine ⟨?_, c1, ?_, ?_, ?_, fun j hj => ?_⟩
      · dsimp only; simp (disch := decide) only [ub_ne, ub_blk, pk_us]
      · dsimp only; unfold rGl at h1 ⊢; simp (disch := omega) only [ub_ne] at h1 ⊢; exact h1
      · dsimp only; unfold rSt at h2 ⊢; simp (disch := omega) only [ub_ne] at h2 ⊢; exact h2
      · dsimp only; unfold rQu at h3 ⊢; simp (disch := omega) only [ub_ne] at h3 ⊢; exact h3
      · dsimp only
        by_cases e : j = a
        · subst e
          refine PA_mod ?_ ?_ ?_ ?_ ?_ (fun b hb => ?_) (fun hp => ?_) (h4 j hj)
          · unfold rCm
            simp (disch := decide) only [ub_ne, ub_blk, pk_us, pk_un] at c3 c4 c5 c6 c7 c8 ⊢
            exact ⟨trivial, ⟨trivial, lw_sm _⟩, c3, c4, c5, c6, c7, c8⟩
          · have := (h4 j hj).2.1
            unfold rRw at this ⊢
            simp (disch := omega) only [ub_ne] at this ⊢
            exact this
          · rw [ub_ne _ _ _ (by omega), ub_ne _ _ _ (by omega)]
          · simp (disch := decide) only [ub_blk, pk_un]
          · simp (disch := decide) only [ub_blk, pk_un]
          · rw [ub_ne _ _ _ (by omega), ub_ne _ _ _ (by omega)]
          · simp (disch := decide) only [ub_ne] at hp ⊢
            exact ⟨hp, trivial⟩
        · refine PA_fr ⟨fun b _ => ?_, ?_, ?_, ?_, ?_⟩ ⟨fun b _ _ _ _ _ => ?_, fun k hk => ⟨?_, ?_⟩⟩ (fun hh => ?_) (h4 j hj)
          · rw [ub_ne _ _ _ (by omega), ub_ne _ _ _ (by omega)]
          · rw [ub_ne _ _ _ (by omega), ub_ne _ _ _ (by omega)]
          · rw [ub_ne _ _ _ (by omega), ub_ne _ _ _ (by omega)]
          · rw [ub_ne _ _ _ (by omega), ub_ne _ _ _ (by omega)]
          · rw [ub_ne _ _ _ (by omega), ub_ne _ _ _ (by omega)]
          · rw [ub_j e, ub_j e]
          · rw [ub_ne _ _ _ (show 7 ≠ 3 by omega), ub_ne _ _ _ (show 7 ≠ 2 by omega)]
          · rw [ub_ne _ _ _ (show 8 ≠ 3 by omega), ub_ne _ _ _ (show 8 ≠ 2 by omega)]
          · rw [ub_ne _ _ _ (by omega), ub_ne _ _ _ (by omega), ub_ne _ _ _ (show 6 ≠ 3 by omega), ub_ne _ _ _ (show 6 ≠ 2 by omega)]; exact hh
-- frame
theorem mask_tab : ∀ v, v < 5 → 1 ≤ v → ((nI 1) <<< (nI v &&& 31)) - (nI 1) = nI (2 ^ v - 1) ∧ 2 ^ v - 1 < 16 ∧ ¬ nI (2 ^ v - 1) = 0 := by decide +kernel
theorem s_frame {t : Nat} {S M : Mem} (h : Rel t S M) (x y v : Int32) : (∃ a b, x = nI a ∧ a < 6 ∧ y = nI b ∧ b < 6 ∧ ¬ v < nI 1 ∧ v ≤ nI 4 ∧ ¬ nI a = nI b ∧ S (7 + 5 * a) 0 < nI 5 ∧ sm (S (7 + 5 * a) 0) 5 ∧ okG t (f_X5_frame S a b v) (f_X6_frame M x y v)) ∨ ((¬ x < 0 → nI 6 ≤ x) ∧ okB t S 1 (f_X6_frame M x y v)) ∨ (∃ a, x = nI a ∧ a < 6 ∧ (¬ y < 0 → nI 6 ≤ y) ∧ okB t S 1 (f_X6_frame M x y v)) ∨ (∃ a b, x = nI a ∧ a < 6 ∧ y = nI b ∧ b < 6 ∧ (¬ v < nI 1 → v ≤ nI 4 → nI a = nI b) ∧ okB t S 2 (f_X6_frame M x y v)) ∨ (∃ a b, x = nI a ∧ a < 6 ∧ y = nI b ∧ b < 6 ∧ ¬ v < nI 1 ∧ v ≤ nI 4 ∧ ¬ nI a = nI b ∧ ¬ S (7 + 5 * a) 0 < nI 5 ∧ okB t S 3 (f_X6_frame M x y v)) := by
  rw [f_X6_frame_d]
  by_cases hx : f_X6_isStation x = 0
  · rw [if_pos hx]
    exact Or.inr (Or.inl ⟨isSt_no hx, bad_fine h 1⟩)
  · rw [if_neg hx]
    obtain ⟨x1, x2⟩ := isSt_k hx
    by_cases hy : f_X6_isStation y = 0
    · rw [if_pos hy]
      exact Or.inr (Or.inr (Or.inl ⟨_, x1, x2, isSt_no hy, bad_fine h 1⟩))
    · rw [if_neg hy]
      obtain ⟨y1, y2⟩ := isSt_k hy
      by_cases hv : f_X6_isIn v (nI 1) (nI 4) = 0
      · rw [if_pos hv]
        exact Or.inr (Or.inr (Or.inr (Or.inl ⟨_, _, x1, x2, y1, y2, fun h1 h2 => absurd h2 (isIn_no hv h1), bad_fine h 2⟩)))
      · rw [if_neg hv]
        obtain ⟨v1, v2⟩ := isIn_yes hv
        obtain ⟨v3, v4, v5⟩ := isIn_k (n := 4) (by decide) hv
        by_cases he : x = y
        · rw [if_pos he]
          exact Or.inr (Or.inr (Or.inr (Or.inl ⟨_, _, x1, x2, y1, y2, fun _ _ => by rw [← x1, ← y1]; exact he, bad_fine h 2⟩)))
        · rw [if_neg he]
          have hn : ¬ nI (kN x) = nI (kN y) := by rw [← x1, ← y1]; exact he
          obtain ⟨r1, ⟨r2, r3⟩, r4⟩ := (h.2.2.2 _ x2).2.1
          by_cases h5 : M 9 (kN x) = nI 5
          · rw [if_pos h5]
            exact Or.inr (Or.inr (Or.inr (Or.inr ⟨_, _, x1, x2, y1, y2, v1, v2, hn, by rw [r1, h5]; decide, bad_fine h 3⟩)))
          · rw [if_neg h5]
            obtain ⟨a, ha⟩ : ∃ a, a = kN x := ⟨_, rfl⟩
            obtain ⟨b, hb⟩ : ∃ b, b = kN y := ⟨_, rfl⟩
            obtain ⟨w, hw⟩ : ∃ w, w = kN v := ⟨_, rfl⟩
            rw [← ha] at x1 x2 hn r1 r2 r3 r4 h5 ⊢
            rw [← hb] at y1 y2 hn
            rw [← hw] at v3 v4 v5
            obtain ⟨c, hc⟩ : ∃ c, c = kN (M 9 a) := ⟨_, rfl⟩
            rw [← hc] at r2 r3 r4
            have c5 : c < 5 := by
              rcases Nat.lt_or_ge c 5 with q | q
              · exact q
              · have e : c = 5 := by omega
                rw [e] at r2
                exact absurd r2 h5
            have hlt : S (7 + 5 * a) 0 < nI 5 := by rw [r1, r2]; exact nI_lt c5 (by decide)
            have hsm : sm (S (7 + 5 * a) 0) 5 := by rw [r1, r2]; exact sm_nI c5 (by decide)
            refine Or.inl ⟨a, b, x1, x2, y1, y2, v1, v2, hn, hlt, hsm, ?_⟩
            have hk7 : kN (S (7 + 5 * a) 0) = c := by rw [r1, hc]
            obtain ⟨k1, k2, k3⟩ := mask_tab w (by omega) v5
            rw [f_X5_frame_d, f_X0_add_d, isFine_st, hk7, ← hc, v3, k1, y1]
            simp (disch := omega) only [ub_ne, ub_blk, pk_us, pk_un]
            rw [r1, r2, nI_add]
            obtain ⟨h1, h2, h3, h4⟩ := rel_thr h (nI 0)
            refine ⟨?_, ?_, ?_, ?_, ?_, fun j hj => ?_⟩
            · dsimp only; simp (disch := decide) only [ub_ne, ub_blk, pk_us]
            · dsimp only
            · dsimp only; unfold rGl at h1 ⊢; simp (disch := omega) only [ub_ne] at h1 ⊢; exact h1
            · dsimp only; unfold rSt at h2 ⊢; simp (disch := omega) only [ub_ne] at h2 ⊢; exact h2
            · dsimp only; unfold rQu at h3 ⊢; simp (disch := omega) only [ub_ne] at h3 ⊢; exact h3
            · dsimp only
              by_cases e : j = a
              · subst e
                refine PA_mod ?_ ⟨?_, ?_, fun k hk => ?_⟩ ?_ ?_ ?_ (fun b hb => ?_) (fun hp => ⟨?_, ?_⟩) (h4 j hj)
                · have := (h4 j hj).1
                  unfold rCm at this ⊢
                  simp (disch := omega) only [ub_ne] at this ⊢
                  exact this
                · rw [ub_blk, pk_us, ub_blk, pk_us]
                · rw [ub_blk, pk_us]; exact sm_nI (by omega) (by decide)
                · simp (disch := omega) only [ub_ne, ub_blk, pk_us, pk_un] at hk ⊢
                  rw [kN_nI (by omega)] at hk
                  by_cases e : k = c
                  · subst e
                    simp only [pk_us]
                    exact ⟨⟨trivial, sm_nI y2 (by decide)⟩, trivial, sm_nI k2 (by decide), k3⟩
                  · rw [pk_un e, pk_un (by omega), pk_un e, pk_un (by omega)]
                    exact r4 k (by omega)
                · rw [ub_ne _ _ _ (by omega), ub_ne _ _ _ (by omega), ub_ne _ _ _ (by omega)]
                · rw [ub_ne _ _ _ (by omega), ub_ne _ _ _ (by omega), ub_ne _ _ _ (by omega)]
                · rw [ub_ne _ _ _ (by omega), ub_ne _ _ _ (by omega), ub_ne _ _ _ (by omega)]
                · rw [ub_ne _ _ _ (by omega), ub_ne _ _ _ (by omega), ub_ne _ _ _ (by omega)]
                · rw [ub_blk, pk_us, kN_nI (by omega)]; omega
                · rw [ub_ne _ _ _ (show 9 ≠ 0 by decide), ← hc] at hp
                  rw [ub_ne _ _ _ (show 8 ≠ 9 by decide), ub_blk, pk_un (by omega), ub_ne _ _ _ (show 8 ≠ 7 by decide)]
              · refine PA_fr ⟨fun b _ => ?_, ?_, ?_, ?_, ?_⟩ ⟨fun b b2 b3 b4 b5 b6 => ?_, fun k hk => ⟨?_, ?_⟩⟩ (fun hh => ?_) (h4 j hj)
                · rw [ub_ne _ _ _ (by omega), ub_ne _ _ _ (by omega), ub_ne _ _ _ (by omega)]
                · rw [ub_ne _ _ _ (by omega), ub_ne _ _ _ (by omega), ub_ne _ _ _ (by omega)]
                · rw [ub_ne _ _ _ (by omega), ub_ne _ _ _ (by omega), ub_ne _ _ _ (by omega)]
                · rw [ub_ne _ _ _ (by omega), ub_ne _ _ _ (by omega), ub_ne _ _ _ (by omega)]
                · rw [ub_ne _ _ _ (by omega), ub_ne _ _ _ (by omega), ub_ne _ _ _ (by omega)]
                · rw [ub_j e, ub_ne _ _ _ b6, ub_ne _ _ _ b5]
                · rw [ub_ne _ _ _ (show 7 ≠ 9 by omega), ub_ne _ _ _ (show 7 ≠ 8 by omega), ub_blk, pk_un (by omega)]
                · rw [ub_ne _ _ _ (show 8 ≠ 9 by omega), ub_blk, pk_un (by omega), ub_ne _ _ _ (show 8 ≠ 7 by omega)]
                · rw [ub_ne _ _ _ (by omega), ub_ne _ _ _ (by omega), ub_ne _ _ _ (by omega), ub_ne _ _ _ (show 6 ≠ 9 by omega), ub_ne _ _ _ (show 6 ≠ 8 by omega), ub_ne _ _ _ (show 6 ≠ 7 by omega)]; exact hh
