theorem sameS_trans {S S1 S2 : Mem} {j : Nat} (h : sameS S S1 j) (h2 : sameS S1 S2 j) : sameS S S2 j := ⟨fun a ha => (h2.1 a ha).trans (h.1 a ha), h2.2.1.trans h.2.1, h2.2.2.1.trans h.2.2.1, h2.2.2.2.1.trans h.2.2.2.1, h2.2.2.2.2.trans h.2.2.2.2⟩
theorem sameM_trans {S S1 S2 : Mem} {j : Nat} (h : sameM S S1 j) (h2 : sameM S1 S2 j) : sameM S S2 j := ⟨fun b b1 b2 b3 b4 b5 => (h2.1 b b1 b2 b3 b4 b5).trans (h.1 b b1 b2 b3 b4 b5), fun k hk => ⟨(h2.2 k hk).1.trans (h.2 k hk).1, (h2.2 k hk).2.trans (h.2 k hk).2⟩⟩
/-- step (2) of a station -/
theorem L1_step {t i : Nat} {S M : Mem} (ht : 1 ≤ t) (hi : i < 6) (hGl : rGl t S M) (hr : sm (M 0 2) 6) (hSt : rSt S M) (hQu : rQu S M) (hA : PA t S M i) (hWa : ∀ j, j < 6 → rWa t S M j) : St2 t i S M (f_X5_passOneSlot_L1_b i S) (f_X6_passes_L1_b i M) := by
  have hB := PB_of_PA hA
  have self : St2 t i S M S M := ⟨hGl, hSt, hQu, hB, fun j _ _ => same_refl S M j⟩
  obtain ⟨hC, hR, hon, hcase, hwa⟩ := hA
  rw [f_X5_passOneSlot_L1_b_d, f_X6_passes_L1_b_d, wob_eq, hon]
  rcases hcase with hoff | ⟨h1, -⟩
  · rw [hoff.1, if_pos nI0, if_pos nI0]
    obtain ⟨r1, r2, r3⟩ := id hR
    rw [r1]
    rcases Nat.eq_zero_or_pos (kN (M 9 i)) with e | e
    · have e9 : M 9 i = 0 := by rw [r2.1, e]; exact nI0
      rw [if_pos e9, if_pos (by rw [e9]; decide)]
      exact self
    · have e9 : ¬ M 9 i = 0 := by rw [r2.1]; exact nI_ne0 e (by have := r2.2; omega)
      have e9' : ¬ M 9 i ≤ 0 := by rw [r2.1]; exact nI_nle e (by have := r2.2; omega)
      obtain ⟨c1, c2, c3, c4, c5, c6, c7, c8⟩ := id hC
      rw [if_neg e9, if_neg e9', lis_eq, c3.1]
      by_cases hw : M 4 i = -1
      · rw [if_pos hw, if_pos hw]
        obtain ⟨n1, n2, n3, n4, n5, n6⟩ := rQu_next hQu
        have w1 : (f_X4_next S).2 (6 + 5 * i) 1 = M 3 i := by rw [n4 _ (by omega)]; exact c2.1
        have w2 : (f_X6_nextNumber M).2 3 i = M 3 i := by rw [n5 _ (by decide) (by decide)]
        rw [w1, w2, n2, rest_eq c2.2]
        obtain ⟨v, hv⟩ : ∃ v, v = (f_X6_nextNumber M).1 - (f_X6_nextNumber M).1 / (M 3 i + nI 1) * (M 3 i + nI 1) := ⟨_, rfl⟩
        have hv0 : 0 ≤ v := by rw [hv]; exact rest_pos c2.2 n3
        rw [← hv]
        have fS : ∀ b, b ≠ 4 → b ≠ 6 + 5 * i → ub (f_X4_next S).2 (6 + 5 * i) 2 v b = S b := fun b h1 h2 => by rw [ub_ne _ _ _ h2, n4 b h1]
        have fS6 : ∀ a, a ≠ 2 → ub (f_X4_next S).2 (6 + 5 * i) 2 v (6 + 5 * i) a = S (6 + 5 * i) a := fun a ha => by rw [ub_blk, pk_un ha, n4 _ (by omega)]
        have fM : ∀ b, b ≠ 19 → b ≠ 0 → b ≠ 4 → ub (f_X6_nextNumber M).2 4 i v b = M b := fun b h1 h2 h3 => by rw [ub_ne _ _ _ h3, n5 b h1 h2]
        have fM0 : ∀ a, a ≠ 3 → ub (f_X6_nextNumber M).2 4 i v 0 a = M 0 a := fun a ha => by rw [ub_ne _ _ _ (by decide), n6 a ha]
        have fM4 : ∀ j, j ≠ i → ub (f_X6_nextNumber M).2 4 i v 4 j = M 4 j := fun j hj => by rw [ub_blk, pk_un hj, n5 _ (by decide) (by decide)]
        have fr : ∀ j, j < 6 → j ≠ i → sameS S (ub (f_X4_next S).2 (6 + 5 * i) 2 v) j ∧ sameM M (ub (f_X6_nextNumber M).2 4 i v) j ∧ sil S (ub (f_X4_next S).2 (6 + 5 * i) 2 v) M (ub (f_X6_nextNumber M).2 4 i v) j := fun j hj hji => by
          refine ⟨⟨fun a _ => by rw [fS _ (by omega) (by omega)], fS _ (by omega) (by omega), fS _ (by omega) (by omega), fS _ (by omega) (by omega), fS _ (by omega) (by omega)⟩, ⟨fun b h1 h2 h3 h4 h5 => ?_, fun k hk => ⟨by rw [fM _ (by decide) (by decide) (by decide)], by rw [fM _ (by decide) (by decide) (by decide)]⟩⟩, fun h => ?_⟩
          · by_cases e : b = 4
            · subst e; exact fM4 j hji
            · rw [fM b (by omega) (by omega) e]
          · rw [fS _ (by omega) (by omega), fM _ (by decide) (by decide) (by decide)]; exact h
        have hstep := wob2_step (X := ub (f_X4_next S).2 (6 + 5 * i) 2 v) (Y := ub (f_X6_nextNumber M).2 4 i v) ht hi
          (by unfold rGl; rw [fS 0 (by decide) (by omega), fM0 2 (by decide), fM0 1 (by decide)]; exact hGl)
          (by rw [fM0 2 (by decide)]; exact hr)
          (by unfold rSt; rw [fS 3 (by decide) (by omega), fM 1 (by decide) (by decide) (by decide)]; exact hSt)
          (by unfold rQu; simp (disch := omega) only [ub_ne]; exact n1)
          (by
            unfold rCm
            rw [fS6 0 (by decide), fS6 1 (by decide), fS6 3 (by decide), fS6 4 (by decide), fS6 5 (by decide), fS6 6 (by decide), fS6 7 (by decide), fM 2 (by decide) (by decide) (by decide), fM 3 (by decide) (by decide) (by decide), fM 5 (by decide) (by decide) (by decide), fM 6 (by decide) (by decide) (by decide), fM 16 (by decide) (by decide) (by decide), fM 17 (by decide) (by decide) (by decide), fM 18 (by decide) (by decide) (by decide), ub_blk, pk_us, ub_blk, pk_us]
            exact ⟨c1, c2, ⟨rfl, Or.inr hv0⟩, c4, c5, c6, c7, c8⟩)
          (by rw [ub_blk, pk_us]; exact hv0)
          (by
            unfold rRw
            rw [fS (7 + 5 * i) (by omega) (by omega), fS (9 + 5 * i) (by omega) (by omega), fS (10 + 5 * i) (by omega) (by omega), fM 9 (by decide) (by decide) (by decide), fM 7 (by decide) (by decide) (by decide), fM 8 (by decide) (by decide) (by decide)]
            exact hR)
          (by rw [fM 9 (by decide) (by decide) (by decide)]; exact e)
          (by rw [fS (8 + 5 * i) (by omega) (by omega), fM 10 (by decide) (by decide) (by decide)]; exact hon)
          (by unfold rOff; rw [fS6 8 (by decide), fM 10 (by decide) (by decide) (by decide), fM 18 (by decide) (by decide) (by decide)]; exact hoff)
          (fun j hj => by
            by_cases e : j = i
            · subst e
              unfold rWa; rw [fS6 9 (by decide), fM 11 (by decide) (by decide) (by decide)]; exact hWa j hj
            · exact rWa_fr (fr j hj e).1 (fr j hj e).2.1 (hWa j hj))
        obtain ⟨z1, z2, z3, z4, z5⟩ := hstep
        exact ⟨z1, z2, z3, z4, fun j hj hji => ⟨sameS_trans (fr j hj hji).1 (z5 j hj hji).1, sameM_trans (fr j hj hji).2.1 (z5 j hj hji).2.1, fun h => (z5 j hj hji).2.2 ((fr j hj hji).2.2 h)⟩⟩
      · rw [if_neg hw, if_neg hw]
        exact wob2_step ht hi hGl hr hSt hQu hC (c3.2.resolve_left hw) hR e hon hoff hWa
  · rw [h1, if_neg nI1_ne, if_neg nI1_ne]
    exact self
-- step (3)
theorem neg1_ne {n : Nat} (h : n < 2 ^ 31) : ¬ (-1 : Int32) = nI n := fun e => by
  have h1 : (0 : Int32) ≤ -1 := by rw [e]; exact nI_ge0 h
  exact absurd h1 (by decide)
theorem piece_req {Y : Mem} {i t : Nat} (ht : t < 100000) (h1 : Y 0 1 = nI t) (hf : Y 13 i = nI t) (hq : Y 12 i = nI 1) : f_X6_piece Y i = nI 16 := by
  rw [f_X6_piece_d, hq, if_neg nI1_ne, h1, hf, pk_sub (Nat.le_refl _), Nat.sub_self, if_neg (by decide)]
theorem piece_part {Y : Mem} {i t f q p : Nat} (ht : t < 100000) (h1 : Y 0 1 = nI t) (hf : Y 13 i = nI f) (hq : Y 12 i = nI q) (hq2 : q < 2) (hft : f + q ≤ t) (hp : Y 8 (5 * i) = nI p) (hp16 : p < 16) (hl : t ≤ f + q + 2 * ppc p - 1) (hpc : 0 < ppc p) : f_X6_piece Y i = nI (pbit p ((t - f - q) / 2)) := by
  have h4 := ppc_le p hp16
  have ha : (t - f - q) / 2 < ppc p := by omega
  have tab := (pbit_tab p hp16 ((t - f - q) / 2) (by omega) ha).1
  rw [f_X6_piece_d, h1, hf, hq, pk_sub (by omega)]
  rcases (show q = 0 ∨ q = 1 by omega) with e | e
  · subst e
    rw [if_pos nI0, pk_sub (by omega), if_pos (nI_ge0 (by omega)), pcF_eq, hp, pk_div (by omega) (by decide) (by decide)]
    exact tab
  · subst e
    rw [if_neg nI1_ne, pk_sub (by omega), if_pos (nI_ge0 (by omega)), pcF_eq, hp, pk_div (by omega) (by decide) (by decide)]
    exact tab
theorem part_part {X : Mem} {i t f q p : Nat} (ht : t < 100000) (hf : X (8 + 5 * i) 1 = nI f) (hq : X (8 + 5 * i) 3 = nI q) (hq2 : q < 2) (hft : f + q ≤ t) (hp : X (8 + 5 * i) 5 = nI p) (hp16 : p < 16) (hl : t ≤ f + q + 2 * ppc p - 1) (hpc : 0 < ppc p) : f_X1_partIn X i (nI t) = nI (pbit p ((t - f - q) / 2)) := by
  have h4 := ppc_le p hp16
  have ha : (t - f - q) / 2 < ppc p := by omega
  have tab := (pbit_tab p hp16 ((t - f - q) / 2) (by omega) ha).2.1
  have e1 : f_X1_firstSlotOfParts X i = nI (f + q) := by
    rw [f_X1_firstSlotOfParts_d, hf, hq]
    rcases (show q = 0 ∨ q = 1 by omega) with e | e
    · subst e; rw [if_pos nI0]; rfl
    · subst e; rw [if_neg nI1_ne, nI_add]
  rw [f_X1_partIn_d, ptF_eq, e1, pk_sub (by omega), pk_div (by omega) (by decide) (by decide), hp, show (t - (f + q)) / 2 = (t - f - q) / 2 by omega]
  exact tab
theorem isReq_yes {X : Mem} {i t : Nat} (hf : X (8 + 5 * i) 1 = nI t) (hq : X (8 + 5 * i) 3 = nI 1) : f_X1_isRequest X i (nI t) = nI 1 := by
  rw [f_X1_isRequest_d, hq, if_neg nI1_ne, hf, if_pos rfl]
theorem isReq_no {X : Mem} {i t f q : Nat} (ht : t < 100000) (hft : f ≤ t) (hf : X (8 + 5 * i) 1 = nI f) (hq : X (8 + 5 * i) 3 = nI q) (hq2 : q < 2) (hn : f = t → q = 1 → False) : f_X1_isRequest X i (nI t) = nI 0 := by
  rw [f_X1_isRequest_d, hf, hq]
  rcases (show q = 0 ∨ q = 1 by omega) with e | e
  · subst e; rw [if_pos nI0]
  · subst e
    rw [if_neg nI1_ne, if_neg]
    intro h
    exact hn (nI_inj (by omega) (by omega) h).symm rfl
def St3 (t i : Nat) (S M S' M' : Mem) : Prop := rGl t S' M' ∧ rSt S' M' ∧ rQu S' M' ∧ PC t S' M' i ∧ ∀ j, j < 6 → j ≠ i → sameS S S' j ∧ sameM M M' j ∧ sil S S' M M' j
theorem St3_fr {t i : Nat} {S M S' M' : Mem} (hi : i < 6) (hGl : rGl t S M) (hSt : rSt S M) (hQu : rQu S M) (f1 : ∀ b, b ≠ 6 + 5 * i → b ≠ 8 + 5 * i → S' b = S b) (f2 : ∀ b, b ≠ 11 → b ≠ 15 → b ≠ 18 → M' b = M b) (f3 : ∀ b j, j ≠ i → M' b j = M b j) (h : PC t S' M' i) : St3 t i S M S' M' := by
  refine ⟨?_, ?_, ?_, h, fun j hj hji => ⟨⟨fun a _ => by rw [f1 _ (by omega) (by omega)], f1 _ (by omega) (by omega), f1 _ (by omega) (by omega), f1 _ (by omega) (by omega), f1 _ (by omega) (by omega)⟩, ⟨fun b _ _ _ _ _ => f3 b j hji, fun k hk => ⟨by rw [f2 7 (by decide) (by decide) (by decide)], by rw [f2 8 (by decide) (by decide) (by decide)]⟩⟩, fun h => ?_⟩⟩
  · unfold rGl; rw [f1 0 (by omega) (by omega), f2 0 (by decide) (by decide) (by decide)]; exact hGl
  · unfold rSt; rw [f1 3 (by omega) (by omega), f2 1 (by decide) (by decide) (by decide)]; exact hSt
  · unfold rQu; rw [f1 4 (by omega) (by omega), f1 5 (by omega) (by omega), f2 0 (by decide) (by decide) (by decide), f2 19 (by decide) (by decide) (by decide)]; exact hQu
  · rw [f1 _ (by omega) (by omega), f2 6 (by decide) (by decide) (by decide)]; exact h
theorem L2_step {t i : Nat} {S M : Mem} (ht : 1 ≤ t) (hi : i < 6) (hGl : rGl t S M) (hSt : rSt S M) (hQu : rQu S M) (hB : PB t S M i) (hon6 : ∀ j, j < 6 → S (8 + 5 * j) 0 = M 10 j) : St3 t i S M (f_X5_passOneSlot_L2_b i S) (f_X6_passes_L2_b i M) := by
  obtain ⟨hC, hR, hon, hcase, hwa⟩ := hB
  obtain ⟨g1, g2, g3, g4⟩ := id hGl
  obtain ⟨c1, c2, c3, c4, c5, c6, c7, c8⟩ := id hC
  rw [f_X5_passOneSlot_L2_b_d, f_X6_passes_L2_b_d, f_X5_sendInSlot_d, hon]
  simp (disch := decide) only [ub_ne]
  have hold : ∀ q : Nat, q < t → ¬ nI q = nI (t + 1 - 1) := fun q hq e => by
    have := nI_inj (by omega) (by omega) e
    omega
  rcases hcase with hoff | ⟨h1, f, q, p, b, a1, a2, a3, a4, a5, a6⟩
  · rw [hoff.1, if_pos nI0, if_pos nI0, if_pos nI0, nar_0, nI0, Int32.add_zero, Int32.or_zero]
    refine St3_fr hi hGl hSt hQu (fun _ _ _ => rfl) (fun b h1 h2 h3 => ?_) (fun b j hj => ?_) ⟨?_, ?_, ?_, Or.inl ?_, ⟨Or.inl ⟨?_, ?_⟩, ?_⟩, ?_⟩
    · rw [ub_ne _ _ _ h2, ub_ne _ _ _ h3, ub_ne _ _ _ h1]
    · have key : ∀ (Z : Mem) (b' : Nat) (v : Int32), ub Z b' i v b j = Z b j := fun Z b' v => by
        by_cases e : b = b'
        · subst e; rw [ub_blk, pk_un hj]
        · rw [ub_ne _ _ _ e]
      rw [key, key, key]
    · unfold rCm; simp (disch := decide) only [ub_ne, ub_blk, pk_us]; exact hC
    · unfold rRw; simp (disch := decide) only [ub_ne]; exact hR
    · simp (disch := decide) only [ub_ne]; exact hon
    · unfold rOff; simp (disch := decide) only [ub_ne, ub_blk, pk_us]; exact hoff
    · simp (disch := decide) only [ub_ne, ub_blk, pk_us]; exact nI0.symm
    · intro e
      rcases hwa.2 with h | ⟨q, hq, h⟩
      · exact neg1_ne (by omega) (h.symm.trans e)
      · exact hold q hq (h.symm.trans e)
    · rcases hwa.2 with h | ⟨q, hq, h⟩
      · exact Or.inl h
      · exact Or.inr ⟨q, by omega, h⟩
    · simp (disch := decide) only [ub_ne, ub_blk, pk_us]; rw [hoff.1]; exact nI0.symm
  · obtain ⟨t1, t2, t3, t4, ⟨t5, t5'⟩, ⟨t6, t6'⟩, ⟨t7, t7'⟩, t8, t8'⟩ := id a1
    obtain ⟨b1, b2, b3, b4⟩ := id a5
    have hpc := ppc_pos p t4 t3
    obtain ⟨r1, r2, r3⟩ := id hR
    obtain ⟨⟨k1, k2⟩, k3, k4, k5⟩ := r3 0 t1
    rw [Nat.add_zero] at k1 k2
    have ego : gof S i = kN (M 7 (5 * i)) := by
      unfold gof
      rw [goal_eq (r1.trans r2.1) t1 r2.2, k1]
    rw [h1, if_neg nI1_ne, if_neg nI1_ne, if_neg nI1_ne, nar_1, ub_ne S _ _ (show 0 ≠ 6 + 5 * i by omega), g2, ub_ne _ _ _ (show 0 ≠ 6 + 5 * i by omega), ub_ne S _ _ (show 0 ≠ 6 + 5 * i by omega), g2, ego]
    obtain ⟨S2, hS2⟩ : ∃ z, z = ub (ub S (6 + 5 * i) 7 (S (6 + 5 * i) 7 + nI 1)) (6 + 5 * i) 9 (nI t) := ⟨_, rfl⟩
    obtain ⟨M2, hM2⟩ : ∃ z, z = ub (ub M 11 i (nI 1)) 18 i (M 18 i + nI 1) := ⟨_, rfl⟩
    rw [← hS2, ← hM2]
    have s2b : ∀ b, b ≠ 6 + 5 * i → S2 b = S b := fun b h => by rw [hS2, ub_ne _ _ _ h, ub_ne _ _ _ h]
    have s2a : ∀ a, a ≠ 7 → a ≠ 9 → S2 (6 + 5 * i) a = S (6 + 5 * i) a := fun a h h2 => by rw [hS2, ub_blk, pk_un h2, ub_blk, pk_un h]
    have s27 : S2 (6 + 5 * i) 7 = S (6 + 5 * i) 7 + nI 1 := by rw [hS2, ub_blk, pk_un (by decide), ub_blk, pk_us]
    have s29 : S2 (6 + 5 * i) 9 = nI t := by rw [hS2, ub_blk, pk_us]
    have m2b : ∀ b, b ≠ 11 → b ≠ 18 → M2 b = M b := fun b h h2 => by rw [hM2, ub_ne _ _ _ h2, ub_ne _ _ _ h]
    have m2j : ∀ b j, j ≠ i → M2 b j = M b j := fun b j hj => by
      have key : ∀ (Z : Mem) (b' : Nat) (v : Int32), ub Z b' i v b j = Z b j := fun Z b' v => by
        by_cases e : b = b'
        · subst e; rw [ub_blk, pk_un hj]
        · rw [ub_ne _ _ _ e]
      rw [hM2, key, key]
    have m211 : M2 11 i = nI 1 := by rw [hM2, ub_ne _ _ _ (by decide), ub_blk, pk_us]
    have m218 : M2 18 i = M 18 i + nI 1 := by rw [hM2, ub_blk, pk_us]
    have hbr : f_X5_isBrokenAt S2 (kN (M 7 (5 * i))) i = 0 ↔ f_X6_isBroken M2 i = 0 := broken_eq (by unfold rSt; rw [s2b 3 (by omega), m2b 1 (by decide) (by decide)]; exact hSt) (fun j hj => by rw [s2b _ (by omega), m2b 10 (by decide) (by decide)]; exact hon6 j hj) hi k2.2 (by rw [m2b 7 (by decide) (by decide)])
    have hAt : M 18 i + nI 1 = S (6 + 5 * i) 8 + nI (t - f + 1) := by
      rw [show M 18 i = S (6 + 5 * i) 8 + nI (t - f) from a4, Int32.add_assoc, nI_add]
    -- whatever becomes of the sending's broken parts
    have fin : ∀ (S' : Mem) (v : Int32), (∀ b, b ≠ 8 + 5 * i → S' b = S2 b) → (∀ a, a ≠ 4 → a ≠ 6 → S' (8 + 5 * i) a = S (8 + 5 * i) a) → ((∃ b', b' < 16 ∧ S' (8 + 5 * i) 4 = nI 0 ∧ S' (8 + 5 * i) 6 = nI b' ∧ v = nI b' ∧ (f = t → q = 1 → b' = 0)) ∨ (f = t ∧ q = 1 ∧ S' (8 + 5 * i) 4 = nI 1 ∧ S' (8 + 5 * i) 6 = nI 0 ∧ v = nI 16)) → St3 t i S M S' (ub M2 15 i v) := by
      intro S' v x1 x2 x3
      have y1 : ∀ b, b ≠ 6 + 5 * i → b ≠ 8 + 5 * i → S' b = S b := fun b h h2 => by rw [x1 b h2, s2b b h]
      have y6 : S' (6 + 5 * i) = S2 (6 + 5 * i) := x1 _ (by omega)
      refine St3_fr hi hGl hSt hQu y1 (fun b h h2 h3 => by rw [ub_ne _ _ _ h2, m2b b h h3]) (fun b j hj => ?_) ⟨?_, ?_, ?_, Or.inr ⟨?_, f, q, p, ?_⟩, ⟨Or.inr ⟨?_, ?_⟩, Or.inr ⟨t, by omega, ?_⟩⟩, ?_⟩
      · by_cases e : b = 15
        · subst e; rw [ub_blk, pk_un hj]; exact m2j 15 j hj
        · rw [ub_ne _ _ _ e]; exact m2j b j hj
      · unfold rCm
        rw [y6, s2a 0 (by decide) (by decide), s2a 1 (by decide) (by decide), s2a 2 (by decide) (by decide), s2a 3 (by decide) (by decide), s2a 4 (by decide) (by decide), s2a 5 (by decide) (by decide), s2a 6 (by decide) (by decide), s27]
        simp (disch := decide) only [ub_ne]
        rw [m2b 2 (by decide) (by decide), m2b 3 (by decide) (by decide), m2b 4 (by decide) (by decide), m2b 5 (by decide) (by decide), m2b 6 (by decide) (by decide), m2b 16 (by decide) (by decide), m2b 17 (by decide) (by decide), m218, c8]
        exact ⟨c1, c2, c3, c4, c5, c6, c7, rfl⟩
      · unfold rRw
        simp (disch := decide) only [ub_ne]
        rw [y1 _ (by omega) (by omega), y1 _ (by omega) (by omega), y1 _ (by omega) (by omega), m2b 9 (by decide) (by decide), m2b 7 (by decide) (by decide), m2b 8 (by decide) (by decide)]
        exact hR
      · rw [x2 0 (by decide) (by decide), ub_ne _ _ _ (by decide), m2b 10 (by decide) (by decide)]; exact hon
      · rw [ub_ne _ _ _ (by decide), m2b 10 (by decide) (by decide)]; exact h1
      · have hTm : rTm f q p S' (ub M2 15 i v) i := by
          unfold rTm
          rw [x2 1 (by decide) (by decide), x2 2 (by decide) (by decide), x2 3 (by decide) (by decide), x2 5 (by decide) (by decide)]
          simp (disch := decide) only [ub_ne]
          rw [m2b 9 (by decide) (by decide), m2b 13 (by decide) (by decide), m2b 12 (by decide) (by decide), m2b 8 (by decide) (by decide), m2b 14 (by decide) (by decide)]
          exact a1
        have hA2 : rAt (t - f + 1) S' (ub M2 15 i v) i := by
          unfold rAt
          rw [ub_ne _ _ _ (by decide), m218, y6, s2a 8 (by decide) (by decide)]
          exact hAt
        rcases x3 with ⟨b', z1, z2, z3, z4, z5⟩ | ⟨z1, z2, z3, z4, z5⟩
        · exact ⟨b', hTm, a2, a3, hA2, Or.inl ⟨⟨z1, z2, z3, by rw [ub_blk, pk_us]; exact z4⟩, z5⟩⟩
        · exact ⟨0, hTm, a2, a3, hA2, Or.inr ⟨z1, z2, z3, z4, by rw [ub_blk, pk_us]; exact z5⟩⟩
      · rw [ub_ne _ _ _ (by decide)]; exact m211
      · rw [y6, s29, Nat.add_sub_cancel]
      · rw [y6, s29]
      · rw [ub_ne _ _ _ (by decide), ub_ne _ _ _ (by decide), m211, m2b 10 (by decide) (by decide), h1]
    have e8 : S2 (8 + 5 * i) = S (8 + 5 * i) := s2b _ (by omega)
    by_cases hb : f_X6_isBroken M2 i = 0
    · rw [if_pos hb, if_pos (hbr.mpr hb), b4, nI0, Int32.or_zero]
      exact fin S2 (nI b) (fun _ _ => rfl) (fun a _ _ => by rw [e8]) (Or.inl ⟨b, b1, by rw [e8]; exact b2, by rw [e8]; exact b3, rfl, fun e _ => a6 e⟩)
    · rw [if_neg hb, if_neg (fun h => hb (hbr.mp h)), f_X1_breakIn_d, b4]
      have z0 : S2 0 1 = nI t := by rw [s2b 0 (by omega)]; exact g2
      by_cases hrq : f = t ∧ q = 1
      · obtain ⟨e1, e2⟩ := hrq
        subst e1; subst e2
        have hb0 := a6 rfl
        subst hb0
        rw [isReq_yes (by rw [e8]; exact t5) (by rw [e8]; exact t6), if_neg nI1_ne, piece_req g4 (by rw [m2b 0 (by decide) (by decide)]; exact g3) (by rw [m2b 13 (by decide) (by decide)]; exact t5') (by rw [m2b 12 (by decide) (by decide)]; exact t6')]
        refine fin _ _ (fun b h => ub_ne _ _ _ h) (fun a h _ => by rw [ub_blk, pk_un h, e8]) (Or.inr ⟨rfl, rfl, by rw [ub_blk, pk_us], by rw [ub_blk, pk_un (by decide), e8]; exact b3, by decide⟩)
      · have hn : f = t → q = 1 → False := fun e1 e2 => hrq ⟨e1, e2⟩
        have hfq : f + q ≤ t := by
          rcases (show q = 0 ∨ q = 1 by omega) with e | e
          · omega
          · rcases Nat.lt_or_ge f t with h | h
            · omega
            · exact absurd e (hn (by omega))
        have h4 := ppc_le p t4
        have tab := (pbit_tab p t4 ((t - f - q) / 2) (by omega) (by omega)).2.2
        have otab := or_tab b b1 _ tab
        rw [isReq_no g4 a2 (by rw [e8]; exact t5) (by rw [e8]; exact t6) t2 hn, if_pos nI0, part_part g4 (by rw [e8]; exact t5) (by rw [e8]; exact t6) t2 hfq (by rw [e8]; exact t7) t4 a3 hpc, piece_part g4 (by rw [m2b 0 (by decide) (by decide)]; exact g3) (by rw [m2b 13 (by decide) (by decide)]; exact t5') (by rw [m2b 12 (by decide) (by decide)]; exact t6') t2 hfq (by rw [m2b 8 (by decide) (by decide)]; exact t7') t4 a3 hpc, e8, b3, otab.1]
        exact fin _ _ (fun b h => ub_ne _ _ _ h) (fun a _ h => by rw [ub_blk, pk_un h, e8]) (Or.inl ⟨_, otab.2, by rw [ub_blk, pk_un (by decide), e8]; exact b2, by rw [ub_blk, pk_us], rfl, fun e1 e2 => (hn e1 e2).elim⟩)
