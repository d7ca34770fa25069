-- step (4): who is silenced, who ends
theorem sil_L {g i N : Nat} {x : Int32} (hx : sm x N) : ∀ (n k : Nat) (S : Mem), k + n = 6 → (∀ j, j < 6 → sm (S (6 + 5 * j) 4) N → sm (f_X5_silenceAround_L1 g i x n k S (6 + 5 * j) 4) N) ∧ ∀ b a, (a ≠ 4 ∨ ∀ j, j < 6 → b ≠ 6 + 5 * j) → f_X5_silenceAround_L1 g i x n k S b a = S b a
  | 0, k, S, _ => by
    rw [f_X5_silenceAround_L1_z]
    exact ⟨fun _ _ h => h, fun _ _ _ => rfl⟩
  | n + 1, k, S, hk => by
    have ih := sil_L (g := g) (i := i) hx n (k + 1) S (by omega)
    rw [f_X5_silenceAround_L1_s]
    by_cases h1 : nI k = nI i
    · rw [if_pos h1]; exact ih
    · rw [if_neg h1]
      by_cases h3 : f_X3_between S g k ≤ 0
      · rw [if_pos h3]; exact ih
      · rw [if_neg h3]
        obtain ⟨v, hv⟩ : ∃ v, v = (if S (6 + 5 * k) 4 < x then x else S (6 + 5 * k) 4) := ⟨_, rfl⟩
        rw [← hv]
        obtain ⟨g1, g2⟩ := sil_L (g := g) (i := i) hx n (k + 1) (ub S (6 + 5 * k) 4 v) (by omega)
        refine ⟨fun j hj h => g1 j hj ?_, fun b a h => ?_⟩
        · by_cases e : j = k
          · subst e
            rw [ub_blk, pk_us, hv]
            split
            · exact hx
            · exact h
          · rw [ub_ne _ _ _ (by omega)]; exact h
        · rw [g2 b a h]
          by_cases e : b = 6 + 5 * k
          · subst e
            rw [ub_blk]
            rcases h with h | h
            · rw [pk_un h]
            · exact absurd rfl (h k (by omega))
          · rw [ub_ne _ _ _ e]
def sameS (S S' : Mem) (j : Nat) : Prop := (∀ a, a ≠ 4 → S' (6 + 5 * j) a = S (6 + 5 * j) a) ∧ S' (7 + 5 * j) = S (7 + 5 * j) ∧ S' (8 + 5 * j) = S (8 + 5 * j) ∧ S' (9 + 5 * j) = S (9 + 5 * j) ∧ S' (10 + 5 * j) = S (10 + 5 * j)
theorem sameS_rf (S : Mem) (j : Nat) : sameS S S j := ⟨fun _ _ => rfl, rfl, rfl, rfl, rfl⟩
theorem RC_fr {t : Nat} {S X Y : Mem} {j : Nat} (h : sameS X Y j) (h4 : sm (X (6 + 5 * j) 4) (t + 10) → sm (Y (6 + 5 * j) 4) (t + 10)) (hC : RC t S X j) : RC t S Y j := by
  obtain ⟨e6, e7, e8, e9, e10⟩ := h
  obtain ⟨c1, c2, c3, c4⟩ := hC
  refine ⟨?_, fun a a1 a2 a3 a4 => ?_, h4 c3, ?_⟩
  · unfold sameR at c1 ⊢; rw [e7, e9, e10]; exact c1
  · rw [e6 a a2]; exact c2 a a1 a2 a3 a4
  · unfold kWt wq kAr kTm at c4 ⊢
    rw [e6 2 (by decide), e6 5 (by decide), e6 7 (by decide), e6 8 (by decide), e6 9 (by decide), e7, e8, e10]
    exact c4
theorem IA_fr {t : Nat} {X Y : Mem} {j : Nat} (h : sameS X Y j) (h4 : sm (X (6 + 5 * j) 4) (t + 9) → sm (Y (6 + 5 * j) 4) (t + 9)) (hI : IA t X j) : IA t Y j := by
  obtain ⟨e6, e7, e8, e9, e10⟩ := h
  obtain ⟨⟨c1, c2, c3⟩, c4⟩ := hI
  refine ⟨⟨by rw [e6 1 (by decide)]; exact c1, by rw [e6 3 (by decide)]; exact c2, h4 c3⟩, ?_⟩
  unfold kRw kWt kLs kAr kTm at c4 ⊢
  rw [e6 2 (by decide), e6 5 (by decide), e6 7 (by decide), e6 8 (by decide), e6 9 (by decide), e7, e8, e9, e10]
  exact c4
theorem RD_fr {t : Nat} {S X Y : Mem} {j : Nat} (h : sameS X Y j) (h4 : sm (X (6 + 5 * j) 4) (t + 10) → sm (Y (6 + 5 * j) 4) (t + 10)) (hD : RD t S X j) : RD t S Y j := by
  obtain ⟨d1, d2, d3⟩ := hD
  refine ⟨IA_fr h h4 d1, ?_, by rw [h.1 0 (by decide)]; exact d3⟩
  obtain ⟨e6, e7, e8, e9, e10⟩ := h
  unfold oQ oS oE wq at d2 ⊢
  rw [e6 2 (by decide), e6 3 (by decide), e6 5 (by decide), e6 6 (by decide), e6 7 (by decide), e6 9 (by decide), e7, e8]
  exact d2
def eN (t : Nat) (X : Mem) (i : Nat) : Nat := if X (6 + 5 * i) 9 = nI (t + 1) ∧ X (8 + 5 * i) 0 = nI 0 then 1 else 0
set_option maxHeartbeats 1000000 in
theorem L3_step {t i : Nat} {S X : Mem} (ht : t + 1 < 100000) (hi : i < 6) (hG : kG (t + 1) S X) (hIA : IA t S i) (hC : RC t S X i) :
    ∃ Z : Mem, f_X5_endsAfterSlot X i = (nI (eN t Z i), Z) ∧ kG (t + 1) S Z ∧ RD t S Z i ∧ ∀ j, j < 6 → j ≠ i → sameS X Z j ∧ (sm (X (6 + 5 * j) 4) (t + 10) → sm (Z (6 + 5 * j) 4) (t + 10)) := by
  obtain ⟨g1, g2, g3, g4⟩ := id hG
  obtain ⟨⟨e7, e9, e10⟩, e6, h4, hcase⟩ := hC
  obtain ⟨iC, iR, iW, iL, id', ie, ia, iA, iat, icase⟩ := id hIA
  have hRX : kRw X i := by unfold kRw; rw [e7, e9, e10]; exact iR
  have hCX : kC (t + 1) X i := ⟨by rw [e6 1 (by decide) (by decide) (by decide) (by decide)]; exact iC.1, by rw [e6 3 (by decide) (by decide) (by decide) (by decide)]; exact iC.2.1, h4⟩
  have fr0 : ∀ j, j < 6 → j ≠ i → sameS X X j ∧ (sm (X (6 + 5 * j) 4) (t + 10) → sm (X (6 + 5 * j) 4) (t + 10)) := fun j _ _ => ⟨sameS_rf X j, fun h => h⟩
  rw [f_X5_endsAfterSlot_d]
  rcases hcase with ⟨hoff, x0, x1, x2, x3, x4⟩ | ⟨hs, x0, x1, x2, d, e, f, q, p, hAr, h7, het, hTm, hf⟩
  · rw [x0, if_pos nI0]
    have a5 : X (6 + 5 * i) 5 = S (6 + 5 * i) 5 := e6 5 (by decide) (by decide) (by decide) (by decide)
    have a8 : X (6 + 5 * i) 8 = S (6 + 5 * i) 8 := e6 8 (by decide) (by decide) (by decide) (by decide)
    have hae : ia = ie := by
      rcases icase with ⟨-, h⟩ | ⟨h, -⟩
      · exact h
      · exact absurd (h.symm.trans hoff) nI1_0
    have z9 : ¬ X (6 + 5 * i) 9 = nI (t + 1) := by
      rw [x4]
      rcases iL with h | ⟨q, hq, h⟩
      · rw [h]; exact neg1_ne (by omega)
      · rw [h]; intro h2; have := nI_inj (by omega) (by omega) h2; omega
    refine ⟨X, by unfold eN; rw [if_neg (fun h => z9 h.1)], hG, ⟨⟨hCX, hRX, x1, ?_, id', ie, ia, ?_, by omega, Or.inl ⟨x0, hae⟩⟩, Or.inl ⟨hoff, x0, x2, x3, x4, a5, by rw [e7]⟩, e6 0 (by decide) (by decide) (by decide) (by decide)⟩, fr0⟩
    · unfold kLs; rw [x4]
      rcases iL with h | ⟨q, hq, h⟩
      · exact Or.inl h
      · exact Or.inr ⟨q, by omega, h⟩
    · unfold kAr; rw [a5, a8, x3]; exact iA
  · obtain ⟨t1, t2, t3, t4, t5, t6, t7, t8, t9⟩ := id hTm
    obtain ⟨r1, r2, r3, r4⟩ := id hAr
    have hpc := ppc_pos p t4 t3
    have hp4 := ppc_le p t4
    have cS : 0 < kN (S (7 + 5 * i) 0) := by rw [← e7]; exact t1
    have hd : S (6 + 5 * i) 5 = nI d := by rw [← e6 5 (by decide) (by decide) (by decide) (by decide)]; exact r1
    rw [x0, if_neg nI1_ne, g2]
    -- it goes on: Z is like X but for who is silenced
    have goes : ∀ Z : Mem, sameS X Z i → sm (Z (6 + 5 * i) 4) (t + 10) → kG (t + 1) S Z → nI 0 = nI (eN t Z i) ∧ kG (t + 1) S Z ∧ RD t S Z i := by
      intro Z hz hz4 hzG
      obtain ⟨f6, f7, f8, f9, f10⟩ := hz
      refine ⟨?_, hzG, ⟨⟨⟨?_, ?_, hz4⟩, ?_, ?_, ?_, d, e, e + (t + 1 - f) + 1, ?_, by omega, Or.inr ⟨?_, f, q, p, ?_, hf, by omega⟩⟩, Or.inr ⟨hs, ?_, ⟨e + (t + 1 - f), het, h7, ?_⟩, cS, Or.inl ⟨?_, ?_, ?_⟩⟩, ?_⟩⟩
      · unfold eN; rw [if_neg (fun h => nI1_0 (x0.symm.trans ((congrFun f8 0).symm.trans h.2)))]
      · rw [f6 1 (by decide)]; exact hCX.1
      · rw [f6 3 (by decide)]; exact hCX.2.1
      · unfold kRw; rw [f7, f9, f10]; exact hRX
      · exact Or.inl (by rw [f6 2 (by decide)]; exact x1)
      · exact Or.inr ⟨t + 1, Nat.le_refl _, by rw [f6 9 (by decide)]; exact x2⟩
      · unfold kAr; rw [f6 5 (by decide), f6 8 (by decide), f6 7 (by decide)]; exact hAr
      · rw [f8]; exact x0
      · unfold kTm; rw [f7, f8, f10]; exact hTm
      · rw [f6 9 (by decide)]; exact x2
      · rw [f6 7 (by decide)]; exact r3
      · rw [f8]; exact x0
      · rw [f6 5 (by decide)]; exact e6 5 (by decide) (by decide) (by decide) (by decide)
      · rw [f7, e7]
      · rw [f6 0 (by decide)]; exact e6 0 (by decide) (by decide) (by decide) (by decide)
    -- it ends
    obtain ⟨Y, hY⟩ : ∃ Y, Y = ub (ub X (8 + 5 * i) 0 (nI 0)) (6 + 5 * i) 8 (((ub X (8 + 5 * i) 0 (nI 0)) (6 + 5 * i) 8) + (f_X1_slotsUpTo (ub X (8 + 5 * i) 0 (nI 0)) i (nI (t + 1)))) := ⟨_, rfl⟩
    have ya : ∀ a, a ≠ 8 → Y (6 + 5 * i) a = X (6 + 5 * i) a := fun a h => by rw [hY, ub_blk, pk_un h, ub_ne _ _ _ (by omega)]
    have yb : ∀ b, b ≠ 6 + 5 * i → b ≠ 8 + 5 * i → Y b = X b := fun b h1 h2 => by rw [hY, ub_ne _ _ _ h1, ub_ne _ _ _ h2]
    have y80 : Y (8 + 5 * i) 0 = nI 0 := by rw [hY, ub_ne _ _ _ (by omega), ub_blk, pk_us]
    have yo : ∀ a, a ≠ 0 → Y (8 + 5 * i) a = X (8 + 5 * i) a := fun a h => by rw [hY, ub_ne _ _ _ (by omega), ub_blk, pk_un h]
    have y8 : Y (6 + 5 * i) 8 = nI (e + (t + 1 - f) + 1) := by
      rw [hY, ub_blk, pk_us, f_X1_slotsUpTo_d, ub_ne _ _ _ (show 6 + 5 * i ≠ 8 + 5 * i by omega), ub_blk, pk_un (by decide), r2, t5, pk_sub hf, nI_add, nI_add, Nat.add_assoc]
    have hRY : kRw Y i := by unfold kRw; rw [yb _ (by omega) (by omega), yb _ (by omega) (by omega), yb _ (by omega) (by omega)]; exact hRX
    have cY : 0 < kN (Y (7 + 5 * i) 0) := by rw [yb _ (by omega) (by omega)]; exact t1
    have ends : (X (8 + 5 * i) 4 = 0 → f + 2 * ppc p ≤ t + 2) → ∃ Z : Mem, f_X2_end X i (nI (t + 1)) = Z ∧ nI 1 = nI (eN t Z i) ∧ kG (t + 1) S Z ∧ RD t S Z i ∧ ∀ j, j < 6 → j ≠ i → sameS X Z j ∧ (sm (X (6 + 5 * j) 4) (t + 10) → sm (Z (6 + 5 * j) 4) (t + 10)) := by
      intro hlong
      have fin : ∀ (Z : Mem) (dd : Nat), ES i Y Z → Z (6 + 5 * i) 5 = nI dd → 2 * dd ≤ e + (t + 1 - f) + 1 → oE S Z i → nI 1 = nI (eN t Z i) ∧ kG (t + 1) S Z ∧ RD t S Z i ∧ ∀ j, j < 6 → j ≠ i → sameS X Z j ∧ (sm (X (6 + 5 * j) 4) (t + 10) → sm (Z (6 + 5 * j) 4) (t + 10)) := by
        intro Z dd hES k1 k2 k3
        obtain ⟨s1, s2, s3, s4, s5⟩ := hES
        have z80 : Z (8 + 5 * i) 0 = nI 0 := by rw [s1 _ (by omega) (by omega) (by omega) (by omega)]; exact y80
        have z0 : Z (6 + 5 * i) 0 = S (6 + 5 * i) 0 := by rw [s2 0 (by decide) (by decide) (by decide) (by decide), ya 0 (by decide)]; exact e6 0 (by decide) (by decide) (by decide) (by decide)
        have z9 : Z (6 + 5 * i) 9 = nI (t + 1) := by rw [s2 9 (by decide) (by decide) (by decide) (by decide), ya 9 (by decide)]; exact x2
        have z2 : Z (6 + 5 * i) 2 = -1 := by rw [s2 2 (by decide) (by decide) (by decide) (by decide), ya 2 (by decide)]; exact x1
        have z4 : Z (6 + 5 * i) 4 = X (6 + 5 * i) 4 := by rw [s2 4 (by decide) (by decide) (by decide) (by decide), ya 4 (by decide)]
        have z7 : Z (6 + 5 * i) 7 = nI (e + (t + 1 - f) + 1) := by rw [s2 7 (by decide) (by decide) (by decide) (by decide), ya 7 (by decide)]; exact r3
        have z8 : Z (6 + 5 * i) 8 = nI (e + (t + 1 - f) + 1) := by rw [s2 8 (by decide) (by decide) (by decide) (by decide)]; exact y8
        have zb : ∀ b, b ≠ 6 + 5 * i → b ≠ 7 + 5 * i → b ≠ 8 + 5 * i → b ≠ 9 + 5 * i → b ≠ 10 + 5 * i → Z b = X b := fun b h1 h2 h3 h4 h5 => by rw [s1 b h1 h2 h4 h5, yb b h1 h3]
        refine ⟨?_, ⟨?_, ?_, ?_, ?_⟩, ⟨⟨⟨s4, s5, by rw [z4]; exact h4⟩, s3, Or.inl z2, Or.inr ⟨t + 1, Nat.le_refl _, z9⟩, dd, e + (t + 1 - f) + 1, e + (t + 1 - f) + 1, ⟨k1, z8, z7, k2⟩, by omega, Or.inl ⟨z80, rfl⟩⟩, Or.inr ⟨hs, z9, ⟨e + (t + 1 - f), het, h7, z7⟩, cS, k3⟩, z0⟩, fun j hj hji => ⟨⟨fun a _ => by rw [zb _ (by omega) (by omega) (by omega) (by omega) (by omega)], zb _ (by omega) (by omega) (by omega) (by omega) (by omega), zb _ (by omega) (by omega) (by omega) (by omega) (by omega), zb _ (by omega) (by omega) (by omega) (by omega) (by omega), zb _ (by omega) (by omega) (by omega) (by omega) (by omega)⟩, fun h => by rw [zb _ (by omega) (by omega) (by omega) (by omega) (by omega)]; exact h⟩⟩
        · unfold eN; rw [if_pos ⟨z9, z80⟩]
        · rw [zb 0 (by omega) (by omega) (by omega) (by omega) (by omega)]; exact g1
        · rw [zb 0 (by omega) (by omega) (by omega) (by omega) (by omega)]; exact g2
        · rw [zb 3 (by omega) (by omega) (by omega) (by omega) (by omega)]; exact g3
        · unfold kQu; rw [zb 4 (by omega) (by omega) (by omega) (by omega) (by omega), zb 5 (by omega) (by omega) (by omega) (by omega) (by omega)]; exact g4
      have s6 : Y (6 + 5 * i) 6 = S (6 + 5 * i) 6 := by rw [ya 6 (by decide)]; exact e6 6 (by decide) (by decide) (by decide) (by decide)
      have s5 : Y (6 + 5 * i) 5 = nI d := by rw [ya 5 (by decide)]; exact r1
      have s7 : Y (7 + 5 * i) = S (7 + 5 * i) := by rw [yb _ (by omega) (by omega)]; exact e7
      have p8 : Y (10 + 5 * i) 0 = nI p := by rw [yb _ (by omega) (by omega)]; exact t8
      have p8S : S (10 + 5 * i) 0 = nI p := by rw [← e10]; exact t8
      have fails : ∃ Z : Mem, f_X2_countFailure Y i = Z ∧ nI 1 = nI (eN t Z i) ∧ kG (t + 1) S Z ∧ RD t S Z i ∧ ∀ j, j < 6 → j ≠ i → sameS X Z j ∧ (sm (X (6 + 5 * j) 4) (t + 10) → sm (Z (6 + 5 * j) 4) (t + 10)) := by
        obtain ⟨z1, z2, z3⟩ := fail_step hRY cY (by rw [ya 1 (by decide)]; exact hCX.1) (by rw [ya 3 (by decide)]; exact hCX.2.1)
        have z80 : f_X2_countFailure Y i (8 + 5 * i) 0 = nI 0 := by rw [z1.1 _ (by omega) (by omega) (by omega) (by omega)]; exact y80
        refine ⟨_, rfl, fin _ d z1 (by rw [z2]; exact s5) (by omega) ?_⟩
        rcases z3 with z3 | ⟨z3, c, c1, c2, c3⟩
        · exact Or.inr (Or.inl ⟨z80, by rw [z2, s5, hd], by rw [z3, s7]⟩)
        · exact Or.inr (Or.inr (Or.inl ⟨z80, by rw [z2, s5, hd], by rw [z3, s6], c, c1, by rw [← s7]; exact c2, c3⟩))
      rw [f_X2_end_d, ← hY, f_X1_arrivedParts_d, yo 4 (by decide)]
      by_cases hb : X (8 + 5 * i) 4 = 0
      · rw [if_pos hb, yo 5 (by decide), t7]
        obtain ⟨j, hj, ej⟩ := and_low t4 (Y (8 + 5 * i) 6 ^^^ (-1))
        rw [ej]
        obtain ⟨b1, b2, b3, b4, b5, b6⟩ := gd_tab p t4 j hj
        by_cases hg : nI (gd p j) = 0
        · rw [if_pos hg]; exact fails
        · rw [if_neg hg]
          have hl := hlong hb
          have g0 : 0 < gd p j := by
            rcases Nat.eq_zero_or_pos (gd p j) with h | h
            · rw [h] at hg; exact absurd nI0 hg
            · exact h
          obtain ⟨z1, z2, z3, z4, z5⟩ := succ_step hRY cY p8 t4 hj
          have z80 : f_X2_countSuccess Y i (nI (gd p j)) (8 + 5 * i) 0 = nI 0 := by rw [z1.1 _ (by omega) (by omega) (by omega) (by omega)]; exact y80
          refine ⟨_, rfl, fin _ (d + ppc (gd p j)) z1 (by rw [z2, s5, nI_add]) (by omega) (Or.inr (Or.inr (Or.inr ⟨z80, by rw [z3, s6], z4, d, ppc (gd p j), p, hd, by rw [z2, s5, nI_add], p8S, t4, ppc_pos _ b2 g0, b3, ?_⟩)))⟩
          rcases z5 with z5 | ⟨z5, c, c1, c2, c3⟩
          · exact Or.inl (by rw [z5, s7])
          · exact Or.inr ⟨z5, c, c1, by rw [← s7]; exact c2, c3⟩
      · rw [if_neg hb, if_pos nI0]; exact fails
    have quiet : ∃ Z : Mem, (nI 0, X) = (nI (eN t Z i), Z) ∧ kG (t + 1) S Z ∧ RD t S Z i ∧ ∀ j, j < 6 → j ≠ i → sameS X Z j ∧ (sm (X (6 + 5 * j) 4) (t + 10) → sm (Z (6 + 5 * j) 4) (t + 10)) := by
      obtain ⟨z1, z2, z3⟩ := goes X (sameS_rf X i) h4 hG
      exact ⟨X, by rw [← z1], z2, z3, fr0⟩
    have over : (X (8 + 5 * i) 4 = 0 → f + 2 * ppc p ≤ t + 2) → ∃ Z : Mem, (nI 1, f_X2_end X i (nI (t + 1))) = (nI (eN t Z i), Z) ∧ kG (t + 1) S Z ∧ RD t S Z i ∧ ∀ j, j < 6 → j ≠ i → sameS X Z j ∧ (sm (X (6 + 5 * j) 4) (t + 10) → sm (Z (6 + 5 * j) 4) (t + 10)) := by
      intro hl
      obtain ⟨Z, z0, z1, z2, z3, z4⟩ := ends hl
      exact ⟨Z, by rw [z0, ← z1], z2, z3, z4⟩
    by_cases hrq : f_X1_isRequest X i (nI (t + 1)) = 0
    · rw [if_pos hrq, if_pos hrq]
      by_cases hl : nI (t + 1) < X (8 + 5 * i) 2
      · rw [if_pos hl]; exact quiet
      · rw [if_neg hl]
        refine over (fun _ => ?_)
        rw [t9, nI_ltI (by omega) (by omega)] at hl
        omega
    · rw [if_neg hrq]
      by_cases hb : X (8 + 5 * i) 4 = 0
      · rw [if_pos hb]
        have hfq : f = t + 1 ∧ q = 1 := by
          rw [f_X1_isRequest_d, t6, t5] at hrq
          rcases (show q = 0 ∨ q = 1 by omega) with e' | e'
          · subst e'; rw [if_pos nI0] at hrq; exact absurd nI0 hrq
          · subst e'
            rw [if_neg nI1_ne] at hrq
            by_cases h : nI (t + 1) = nI f
            · exact ⟨(nI_inj (by omega) (by omega) h).symm, rfl⟩
            · rw [if_neg h] at hrq; exact absurd nI0 hrq
        obtain ⟨s1, s2⟩ := sil_L (g := gof X i) (i := i) (N := t + 10) (x := X (8 + 5 * i) 2) (by rw [t9]; exact sm_nI (by omega) (by omega)) 6 0 X (by omega)
        rw [← f_X5_silenceAround_d] at s1 s2
        have gS : ∀ j, j < 6 → sameS X (f_X5_silenceAround X (gof X i) i (X (8 + 5 * i) 2)) j := fun j hj => ⟨fun a ha => s2 _ a (Or.inl ha), funext fun a => s2 _ a (Or.inr fun _ _ => by omega), funext fun a => s2 _ a (Or.inr fun _ _ => by omega), funext fun a => s2 _ a (Or.inr fun _ _ => by omega), funext fun a => s2 _ a (Or.inr fun _ _ => by omega)⟩
        have b0 : ∀ b, b < 6 → f_X5_silenceAround X (gof X i) i (X (8 + 5 * i) 2) b = X b := fun b hb => funext fun a => s2 b a (Or.inr fun _ _ => by omega)
        obtain ⟨z1, z2, z3⟩ := goes _ (gS i hi) (s1 i hi h4) ⟨by rw [b0 0 (by decide)]; exact g1, by rw [b0 0 (by decide)]; exact g2, by rw [b0 3 (by decide)]; exact g3, by unfold kQu; rw [b0 4 (by decide), b0 5 (by decide)]; exact g4⟩
        exact ⟨_, by rw [← z1], z2, z3, fun j hj _ => ⟨gS j hj, s1 j hj⟩⟩
      · rw [if_neg hb, if_neg hrq]
        exact over (fun h => absurd h hb)
