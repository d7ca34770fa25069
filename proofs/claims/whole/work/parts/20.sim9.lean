-- the calls
theorem isIn_yes {x lo hi : Int32} (h : ¬ f_X6_isIn x lo hi = 0) : ¬ x < lo ∧ x ≤ hi := by
  rw [f_X6_isIn_d] at h
  by_cases h1 : x < lo
  · rw [if_pos h1] at h; exact absurd nI0 h
  · rw [if_neg h1] at h
    by_cases h2 : hi < x
    · rw [if_pos h2] at h; exact absurd nI0 h
    · exact ⟨h1, Int32.not_lt.mp h2⟩
theorem isIn_no {x lo hi : Int32} (h : f_X6_isIn x lo hi = 0) : ¬ x < lo → ¬ x ≤ hi := fun h1 h2 => by
  rw [f_X6_isIn_d, if_neg h1, if_neg (Int32.not_lt.mpr h2)] at h
  exact nI1_ne h
theorem lt6 {x : Int32} (h : ¬ x ≤ nI 5) : nI 6 ≤ x := by
  rw [Int32.le_iff_toInt_le] at h ⊢
  rw [nI_toInt (by decide)] at h ⊢
  omega
theorem isSt_no {x : Int32} (h : f_X6_isStation x = 0) : ¬ x < 0 → nI 6 ≤ x := fun h1 => lt6 (isIn_no (lo := nI 0) (hi := nI 5) h h1)
def okG (t : Nat) (q p : Int32 × Mem) : Prop := p.2 0 0 = nI 0 ∧ q.1 = p.1 ∧ Rel t q.2 p.2
def okB (t : Nat) (S : Mem) (k : Nat) (p : Int32 × Mem) : Prop := p.2 0 0 = nI k ∧ Rel t S p.2
theorem sameS_refl (S : Mem) (j : Nat) : sameS S S j := ⟨fun _ _ => rfl, rfl, rfl, rfl, rfl⟩
theorem rel_thr {t : Nat} {S M : Mem} (h : Rel t S M) (v : Int32) : Rel t S (ub M 0 0 v) := by
  obtain ⟨h1, h2, h3, h4⟩ := h
  refine ⟨?_, ?_, ?_, fun j hj => PA_fr (sameS_refl S j) ⟨fun b b2 _ _ _ _ => ?_, fun k hk => ⟨?_, ?_⟩⟩ (fun hh => ?_) (h4 j hj)⟩
  · unfold rGl; simp (disch := decide) only [ub_blk, pk_un]; exact h1
  · unfold rSt; simp (disch := decide) only [ub_ne]; exact h2
  · unfold rQu; simp (disch := decide) only [ub_ne, ub_blk, pk_un]; exact h3
  · rw [ub_ne _ _ _ (by omega)]
  · rw [ub_ne _ _ _ (by omega)]
  · rw [ub_ne _ _ _ (by omega)]
  · rw [ub_ne _ _ _ (by omega)]; exact hh
theorem bad_fine {t : Nat} {S M : Mem} (h : Rel t S M) (k : Nat) : okB t S k (nI 0, (f_X6_isFine M (nI k)).2) := by
  unfold okB
  dsimp only
  rw [isFine_st]
  exact ⟨by rw [ub_blk, pk_us], rel_thr h _⟩
-- setReserve
theorem s_setReserve {t : Nat} {S M : Mem} (h : Rel t S M) (x : Int32) : (¬ x < nI 1 ∧ x ≤ nI 5 ∧ okG t (f_X5_setReserve S x) (f_X6_setReserve M x)) ∨ ((¬ x < nI 1 → ¬ x ≤ nI 5) ∧ okB t S 1 (f_X6_setReserve M x)) := by
  rw [f_X6_setReserve_d]
  by_cases hx : f_X6_isIn x (nI 1) (nI 5) = 0
  · rw [if_pos hx]
    exact Or.inr ⟨isIn_no hx, bad_fine h 1⟩
  · rw [if_neg hx]
    obtain ⟨x1, x2, x3⟩ := isIn_k (n := 5) (by decide) hx
    refine Or.inl ⟨(isIn_yes hx).1, (isIn_yes hx).2, ?_⟩
    rw [f_X5_setReserve_d, isFine_st]
    obtain ⟨⟨g1, g2, g3, g4⟩, h2, h3, h4⟩ := rel_thr h (nI 0)
    refine ⟨?_, g1.1, ⟨⟨?_, ?_⟩, ?_, ?_, g4⟩, ?_, ?_, fun j hj => PA_fr ⟨fun a _ => ?_, ?_, ?_, ?_, ?_⟩ ⟨fun b b2 _ _ _ _ => ?_, fun k hk => ⟨?_, ?_⟩⟩ (fun hh => ?_) (h4 j hj)⟩
    · dsimp only; rw [ub_blk, pk_un (by decide), ub_blk, pk_us]
    · dsimp only; rw [ub_blk, pk_us, ub_blk, pk_us]
    · dsimp only; rw [ub_blk, pk_us]; exact ⟨x1, by omega⟩
    · dsimp only; rw [ub_blk, pk_un (by decide)]; exact g2
    · dsimp only; rw [ub_blk, pk_un (by decide)]; exact g3
    · dsimp only; unfold rSt; rw [ub_ne _ _ _ (by decide), ub_ne _ _ _ (by decide)]; exact h2
    · dsimp only; unfold rQu at h3 ⊢; simp (disch := decide) only [ub_ne, ub_blk, pk_un] at h3 ⊢; exact h3
    · dsimp only; rw [ub_ne _ _ _ (by omega)]
    · dsimp only; rw [ub_ne _ _ _ (by omega)]
    · dsimp only; rw [ub_ne _ _ _ (by omega)]
    · dsimp only; rw [ub_ne _ _ _ (by omega)]
    · dsimp only; rw [ub_ne _ _ _ (by omega)]
    · dsimp only; rw [ub_ne _ _ _ (show b ≠ 0 by omega)]
    · dsimp only; rw [ub_ne _ _ _ (show 7 ≠ 0 by omega)]
    · dsimp only; rw [ub_ne _ _ _ (show 8 ≠ 0 by omega)]
    · dsimp only; rw [ub_ne _ _ _ (by omega), ub_ne _ _ _ (show 6 ≠ 0 by omega)]; exact hh
-- setStrength
theorem rSt_put {S M : Mem} {a b : Nat} {v : Int32} (ha : a < 6) (hb : b < 6) (hab : a ≠ b) (h : rSt S M) : rSt (ub (ub S 3 (a * 6 + b) v) 3 (b * 6 + a) v) (ub (ub M 1 (6 * a + b) v) 1 (6 * b + a) v) := by
  have rS : ∀ k, ub (ub S 3 (a * 6 + b) v) 3 (b * 6 + a) v 3 k = if k = b * 6 + a then v else if k = a * 6 + b then v else S 3 k := fun k => by rw [ub_blk, upd, ub_blk, upd]
  have rM : ∀ k, ub (ub M 1 (6 * a + b) v) 1 (6 * b + a) v 1 k = if k = 6 * b + a then v else if k = 6 * a + b then v else M 1 k := fun k => by rw [ub_blk, upd, ub_blk, upd]
  refine ⟨fun i j hi hj => ?_, fun i hi => ?_⟩
  · rw [rS, rS, rM]
    by_cases h1 : i = a ∧ j = b
    · obtain ⟨e1, e2⟩ := h1
      subst e1; subst e2
      rw [if_neg (by omega), if_pos rfl, if_neg (by omega), if_pos rfl, if_pos rfl]
      exact ⟨rfl, rfl⟩
    · by_cases h2 : i = b ∧ j = a
      · obtain ⟨e1, e2⟩ := h2
        subst e1; subst e2
        rw [if_pos rfl, if_pos rfl, if_neg (by omega), if_pos rfl]
        exact ⟨rfl, rfl⟩
      · rw [if_neg (by omega), if_neg (by omega), if_neg (by omega), if_neg (by omega), if_neg (by omega), if_neg (by omega)]
        exact h.1 i j hi hj
  · rw [rS, if_neg (by omega), if_neg (by omega)]
    exact h.2 i hi
theorem s_setStrength {t : Nat} {S M : Mem} (h : Rel t S M) (x y v : Int32) : (∃ a b, x = nI a ∧ a < 6 ∧ y = nI b ∧ b < 6 ∧ ¬ v < 0 ∧ v ≤ nI 9 ∧ ¬ nI a = nI b ∧ okG t (f_X5_setStrength S a b v) (f_X6_setStrength M x y v)) ∨ ((¬ x < 0 → nI 6 ≤ x) ∧ okB t S 1 (f_X6_setStrength M x y v)) ∨ (∃ a, x = nI a ∧ a < 6 ∧ (¬ y < 0 → nI 6 ≤ y) ∧ okB t S 1 (f_X6_setStrength M x y v)) ∨ (∃ a b, x = nI a ∧ a < 6 ∧ y = nI b ∧ b < 6 ∧ (¬ v < 0 → v ≤ nI 9 → nI a = nI b) ∧ okB t S 2 (f_X6_setStrength M x y v)) := by
  rw [f_X6_setStrength_d]
  by_cases hx : f_X6_isStation x = 0
  · rw [if_pos hx]
    exact Or.inr (Or.inl ⟨isSt_no hx, bad_fine h 1⟩)
  · rw [if_neg hx]
    obtain ⟨x1, x2⟩ := isSt_k hx
    by_cases hy : f_X6_isStation y = 0
    · rw [if_pos hy]
      exact Or.inr (Or.inr (Or.inl ⟨_, x1, x2, isSt_no hy, bad_fine h 1⟩))
    · rw [if_neg hy]
      obtain ⟨y1, y2⟩ := isSt_k hy
      by_cases hv : f_X6_isIn v (nI 0) (nI 9) = 0
      · rw [if_pos hv]
        exact Or.inr (Or.inr (Or.inr ⟨_, _, x1, x2, y1, y2, fun h1 h2 => absurd h2 (isIn_no hv h1), bad_fine h 2⟩))
      · rw [if_neg hv]
        by_cases he : x = y
        · rw [if_pos he]
          exact Or.inr (Or.inr (Or.inr ⟨_, _, x1, x2, y1, y2, fun _ _ => by rw [← x1, ← y1]; exact he, bad_fine h 2⟩))
        · rw [if_neg he]
          have hn : ¬ nI (kN x) = nI (kN y) := by rw [← x1, ← y1]; exact he
          have hab : kN x ≠ kN y := fun e => hn (by rw [e])
          refine Or.inl ⟨_, _, x1, x2, y1, y2, (isIn_yes hv).1, (isIn_yes hv).2, hn, ?_⟩
          rw [f_X5_setStrength_d, f_X3_between_d, f_X3_put_d, isFine_st, f_X6_heard_d]
          obtain ⟨h1, h2, h3, h4⟩ := rel_thr h (nI 0)
          refine ⟨?_, (h2.1 _ _ x2 y2).1, ?_, rSt_put x2 y2 hab h2, ?_, fun j hj => PA_fr ⟨fun a _ => ?_, ?_, ?_, ?_, ?_⟩ ⟨fun b b2 _ _ _ _ => ?_, fun k hk => ⟨?_, ?_⟩⟩ (fun hh => ?_) (h4 j hj)⟩
          · dsimp only; simp (disch := decide) only [ub_ne, ub_blk, pk_us]
          · dsimp only; unfold rGl at h1 ⊢; simp (disch := decide) only [ub_ne] at h1 ⊢; exact h1
          · dsimp only; unfold rQu at h3 ⊢; simp (disch := decide) only [ub_ne] at h3 ⊢; exact h3
          · dsimp only; rw [ub_ne _ _ _ (by omega), ub_ne _ _ _ (by omega)]
          · dsimp only; rw [ub_ne _ _ _ (by omega), ub_ne _ _ _ (by omega)]
          · dsimp only; rw [ub_ne _ _ _ (by omega), ub_ne _ _ _ (by omega)]
          · dsimp only; rw [ub_ne _ _ _ (by omega), ub_ne _ _ _ (by omega)]
          · dsimp only; rw [ub_ne _ _ _ (by omega), ub_ne _ _ _ (by omega)]
          · dsimp only; rw [ub_ne _ _ _ (show b ≠ 1 by omega), ub_ne _ _ _ (show b ≠ 1 by omega)]
          · dsimp only; rw [ub_ne _ _ _ (show 7 ≠ 1 by omega), ub_ne _ _ _ (show 7 ≠ 1 by omega)]
          · dsimp only; rw [ub_ne _ _ _ (show 8 ≠ 1 by omega), ub_ne _ _ _ (show 8 ≠ 1 by omega)]
          · dsimp only; rw [ub_ne _ _ _ (by omega), ub_ne _ _ _ (by omega), ub_ne _ _ _ (show 6 ≠ 1 by omega), ub_ne _ _ _ (show 6 ≠ 1 by omega)]; exact hh
-- tell
theorem s_tell {t : Nat} {S M : Mem} (h : Rel t S M) (x : Int32) : (¬ x < 0 ∧ x ≤ nI 1000 ∧ S 4 1 < nI 200 ∧ sm (S 4 1) 200 ∧ okG t (f_X5_tell S x) (f_X6_tell M x)) ∨ ((¬ x < 0 → ¬ x ≤ nI 1000) ∧ okB t S 1 (f_X6_tell M x)) ∨ (¬ x < 0 ∧ x ≤ nI 1000 ∧ ¬ S 4 1 < nI 200 ∧ okB t S 2 (f_X6_tell M x)) := by
  rw [f_X6_tell_d]
  by_cases hx : f_X6_isIn x (nI 0) (nI 1000) = 0
  · rw [if_pos hx]
    exact Or.inr (Or.inl ⟨isIn_no hx, bad_fine h 1⟩)
  · rw [if_neg hx]
    obtain ⟨x1, x2⟩ := isIn_yes hx
    obtain ⟨⟨a1, a2⟩, b1, ⟨c1, c2⟩, d⟩ := h.2.2.1
    by_cases hc : M 0 3 = nI 200
    · rw [if_pos hc]
      exact Or.inr (Or.inr ⟨x1, x2, by rw [b1, hc]; decide, bad_fine h 2⟩)
    · rw [if_neg hc]
      have c3 : kN (M 0 3) < 200 := num_lt c1 (by omega) hc
      have hlt : S 4 1 < nI 200 := by rw [b1, c1]; exact nI_lt c3 (by decide)
      obtain ⟨j, hj, ej⟩ := nI_of2 (M := nI 1000) (n := 1000) (by decide) (show ¬ x < 0 from x1) x2
      have hxm : sm x 1001 := by rw [ej]; exact sm_nI (by omega) (by decide)
      refine Or.inl ⟨x1, x2, hlt, by rw [b1]; exact ⟨c1, c3⟩, ?_⟩
      rw [f_X5_tell_d, f_X4_add_d, isFine_st]
      obtain ⟨f, hf⟩ : ∃ z, z = kN (S 4 0) := ⟨_, rfl⟩
      obtain ⟨c, hcc⟩ : ∃ z, z = kN (M 0 3) := ⟨_, rfl⟩
      rw [← hf] at a1 a2 d
      rw [← hcc] at c1 c2 c3 d
      have e1 : kN (S 4 1) = c := by rw [b1, ← hcc]
      have e0 : (ub M 0 0 (nI 0)) 0 3 = nI c := by rw [ub_blk, pk_un (by decide)]; exact c1
      have hidx : (if nI (kN (S 4 0) + kN (S 4 1)) < nI 200 then (ub (ub S 5 (kN (S 4 0) + kN (S 4 1)) x) 4 1 ((ub S 5 (kN (S 4 0) + kN (S 4 1)) x) 4 1 + nI 1)) else (ub (ub S 5 (kN (S 4 0) + kN (S 4 1) - 200) x) 4 1 ((ub S 5 (kN (S 4 0) + kN (S 4 1) - 200) x) 4 1 + nI 1))) = ub (ub S 5 ((f + c) % 200) x) 4 1 (nI (c + 1)) := by
        rw [← hf, e1]
        by_cases hh : f + c < 200
        · rw [if_pos (nI_lt hh (by decide)), ub_ne _ _ _ (show 4 ≠ 5 by decide), b1, c1, nI_add, Nat.mod_eq_of_lt hh]
        · rw [if_neg (nI_nlt (by omega) (by omega)), ub_ne _ _ _ (show 4 ≠ 5 by decide), b1, c1, nI_add, Nat.mod_eq_sub_mod (by omega), Nat.mod_eq_of_lt (by omega)]
      rw [hidx, ← hcc, ub_ne _ _ _ (show 0 ≠ 19 by decide), e0, nI_add]
      obtain ⟨h1, h2, h3, h4⟩ := rel_thr h (nI 0)
      refine ⟨?_, ?_, ?_, ?_, ⟨?_, ?_, ?_, fun k hk => ?_⟩, fun j hj => PA_fr ⟨fun a _ => ?_, ?_, ?_, ?_, ?_⟩ ⟨fun b b2 b3 _ _ _ => ?_, fun k hk => ⟨?_, ?_⟩⟩ (fun hh => ?_) (h4 j hj)⟩
      · dsimp only; simp (disch := decide) only [ub_ne, ub_blk, pk_us, pk_un]
      · dsimp only; simp (disch := decide) only [ub_ne, ub_blk, pk_us, pk_un]
      · dsimp only; unfold rGl at h1 ⊢; simp (disch := decide) only [ub_ne, ub_blk, pk_us, pk_un] at h1 ⊢; exact h1
      · dsimp only; unfold rSt at h2 ⊢; simp (disch := decide) only [ub_ne] at h2 ⊢; exact h2
      · dsimp only; simp (disch := decide) only [ub_ne, ub_blk, pk_us, pk_un]; rw [a1]; exact sm_nI a2 (by decide)
      · dsimp only; simp (disch := decide) only [ub_ne, ub_blk, pk_us, pk_un]
      · dsimp only; simp (disch := decide) only [ub_ne, ub_blk, pk_us, pk_un]; exact sm_nI (by omega) (by decide)
      · dsimp only at hk ⊢
        simp (disch := decide) only [ub_ne, ub_blk, pk_us, pk_un] at hk ⊢
        rw [kN_nI (by omega)] at hk
        rw [← hf]
        by_cases e : k = c
        · subst e
          rw [pk_us, pk_us]
          exact ⟨rfl, hxm⟩
        · rw [pk_un e, pk_un (by omega)]
          exact d k (by omega)
      · dsimp only; rw [ub_ne _ _ _ (by omega), ub_ne _ _ _ (by omega)]
      · dsimp only; rw [ub_ne _ _ _ (by omega), ub_ne _ _ _ (by omega)]
      · dsimp only; rw [ub_ne _ _ _ (by omega), ub_ne _ _ _ (by omega)]
      · dsimp only; rw [ub_ne _ _ _ (by omega), ub_ne _ _ _ (by omega)]
      · dsimp only; rw [ub_ne _ _ _ (by omega), ub_ne _ _ _ (by omega)]
      · dsimp only; rw [ub_ne _ _ _ (show b ≠ 0 by omega), ub_ne _ _ _ (show b ≠ 19 by omega)]
      · dsimp only; rw [ub_ne _ _ _ (show 7 ≠ 0 by omega), ub_ne _ _ _ (show 7 ≠ 19 by omega)]
      · dsimp only; rw [ub_ne _ _ _ (show 8 ≠ 0 by omega), ub_ne _ _ _ (show 8 ≠ 19 by omega)]
      · dsimp only; rw [ub_ne _ _ _ (by omega), ub_ne _ _ _ (by omega), ub_ne _ _ _ (show 6 ≠ 0 by omega), ub_ne _ _ _ (show 6 ≠ 19 by omega)]; exact hh
