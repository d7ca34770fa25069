theorem parts_eq {S : Mem} {i p c : Nat} (hc : S (7 + 5 * i) 0 = nI c) (hc0 : 0 < c) (hc6 : c < 6) (hp : S (10 + 5 * i) 0 = nI p) : f_X0_partsOfFirst S i = nI p := by
  rw [f_X0_partsOfFirst_d, if_neg (by rw [hc]; exact nI_nle hc0 (by omega))]
  exact hp
theorem goal_eq {S : Mem} {i c : Nat} (hc : S (7 + 5 * i) 0 = nI c) (hc0 : 0 < c) (hc6 : c < 6) : f_X0_goalOfFirst S i = S (9 + 5 * i) 0 := by
  rw [f_X0_goalOfFirst_d, if_neg (by rw [hc]; exact nI_nle hc0 (by omega))]
/-- what a sending's begin writes in the component -/
theorem begin_spec (S : Mem) {i t p r c : Nat} (ht : 1 ≤ t) (hc : S (7 + 5 * i) 0 = nI c) (hc0 : 0 < c) (hc6 : c < 6) (hp : S (10 + 5 * i) 0 = nI p) (hp16 : p < 16) (hr6 : r < 6) : ∃ q, q = (if ppc p < r then 0 else 1) ∧ f_X2_begin S i (nI t) (nI r) (8 + 5 * i) 0 = nI 1 ∧ f_X2_begin S i (nI t) (nI r) (8 + 5 * i) 1 = nI t ∧ f_X2_begin S i (nI t) (nI r) (8 + 5 * i) 2 = nI (t + q + 2 * ppc p - 1) ∧ f_X2_begin S i (nI t) (nI r) (8 + 5 * i) 3 = nI q ∧ f_X2_begin S i (nI t) (nI r) (8 + 5 * i) 4 = nI 0 ∧ f_X2_begin S i (nI t) (nI r) (8 + 5 * i) 5 = nI p ∧ f_X2_begin S i (nI t) (nI r) (8 + 5 * i) 6 = nI 0 ∧ f_X2_begin S i (nI t) (nI r) (6 + 5 * i) 2 = -1 ∧ (∀ a, a ≠ 2 → f_X2_begin S i (nI t) (nI r) (6 + 5 * i) a = S (6 + 5 * i) a) ∧ ∀ b, b ≠ 6 + 5 * i → b ≠ 8 + 5 * i → f_X2_begin S i (nI t) (nI r) b = S b := by
  have hpc := ppc_le p hp16
  have key : ∀ q, q < 2 → ∀ X : Mem, X = f_X1_begin (ub S (6 + 5 * i) 2 (-1)) i (nI t) (nI p) (nI q) → X (8 + 5 * i) 0 = nI 1 ∧ X (8 + 5 * i) 1 = nI t ∧ X (8 + 5 * i) 2 = nI (t + q + 2 * ppc p - 1) ∧ X (8 + 5 * i) 3 = nI q ∧ X (8 + 5 * i) 4 = nI 0 ∧ X (8 + 5 * i) 5 = nI p ∧ X (8 + 5 * i) 6 = nI 0 ∧ X (6 + 5 * i) 2 = -1 ∧ (∀ a, a ≠ 2 → X (6 + 5 * i) a = S (6 + 5 * i) a) ∧ ∀ b, b ≠ 6 + 5 * i → b ≠ 8 + 5 * i → X b = S b := by
    intro q hq X hX
    have e3 : f_X1_firstSlotOfParts (ub (ub (ub (ub (ub (ub (ub S (6 + 5 * i) 2 (-1)) (8 + 5 * i) 0 (nI 1)) (8 + 5 * i) 1 (nI t)) (8 + 5 * i) 3 (nI q)) (8 + 5 * i) 4 (nI 0)) (8 + 5 * i) 5 (nI p)) (8 + 5 * i) 6 (nI 0)) i + nI 2 * f_J6_bitCount_0f7a4 (nI p) - nI 1 = nI (t + q + 2 * ppc p - 1) := by
      rw [f_X1_firstSlotOfParts_d, bc_eq p hp16]
      simp (disch := decide) only [ub_blk, pk_us, pk_un]
      rcases (show q = 0 ∨ q = 1 by omega) with h | h
      · subst h
        rw [if_pos nI0, pk_mul, nI_add, pk_sub (by omega)]
        rfl
      · subst h
        rw [if_neg nI1_ne, pk_mul, nI_add, nI_add, pk_sub (by omega)]
    rw [f_X1_begin_d, e3] at hX
    subst hX
    refine ⟨?_, ?_, ?_, ?_, ?_, ?_, ?_, ?_, fun a ha => ?_, fun b h1 h2 => ?_⟩
    · simp (disch := decide) only [ub_blk, pk_us, pk_un]
    · simp (disch := decide) only [ub_blk, pk_us, pk_un]
    · simp (disch := decide) only [ub_blk, pk_us, pk_un]
    · simp (disch := decide) only [ub_blk, pk_us, pk_un]
    · simp (disch := decide) only [ub_blk, pk_us, pk_un]
    · simp (disch := decide) only [ub_blk, pk_us, pk_un]
    · simp (disch := decide) only [ub_blk, pk_us, pk_un]
    · simp (disch := omega) only [ub_ne, ub_blk, pk_us]
    · simp (disch := omega) only [ub_ne, ub_blk, pk_un]
    · simp (disch := omega) only [ub_ne]
  have ep := parts_eq hc hc0 hc6 hp
  rw [f_X2_begin_d, ep, bc_eq p hp16]
  by_cases h : ppc p < r
  · refine ⟨0, by rw [if_pos h], ?_⟩
    rw [if_pos (nI_lt h (by omega))]
    exact key 0 (by decide) _ rfl
  · refine ⟨1, by rw [if_neg h], ?_⟩
    rw [if_neg (fun hh => h ((nI_ltI (by omega) (by omega)).mp hh))]
    exact key 1 (by decide) _ rfl
theorem rest_eq {x w : Int32} (hw : sm w 32) : f_X5_restBy x (w + nI 1) = x - x / (w + nI 1) * (w + nI 1) := by
  rw [f_X5_restBy_d, if_neg]
  rw [hw.1, nI_add]
  exact nI_nle (by omega) (by have := hw.2; omega)
theorem rest_pos {x w : Int32} (hw : sm w 32) (hx : sm x 1001) : 0 ≤ x - x / (w + nI 1) * (w + nI 1) := by
  have h1 := hw.2
  have h2 := hx.2
  rw [hw.1, hx.1, nI_add, pk_rem (by omega) (by omega) (by omega)]
  exact nI_ge0 (Nat.lt_of_le_of_lt (Nat.mod_le _ _) (by omega))
/-- what step (2) leaves as it is, and what it makes of the station i -/
def St2 (t i : Nat) (S M S' M' : Mem) : Prop := rGl t S' M' ∧ rSt S' M' ∧ rQu S' M' ∧ PB t S' M' i ∧ ∀ j, j < 6 → j ≠ i → sameS S S' j ∧ sameM M M' j ∧ sil S S' M M' j
theorem same_refl (S M : Mem) (j : Nat) : sameS S S j ∧ sameM M M j ∧ sil S S M M j := ⟨⟨fun _ _ => rfl, rfl, rfl, rfl, rfl⟩, ⟨fun _ _ _ _ _ _ => rfl, fun _ _ => ⟨rfl, rfl⟩⟩, fun h => h⟩
theorem PB_of_PA {t : Nat} {S M : Mem} {i : Nat} (h : PA t S M i) : PB t S M i := by
  obtain ⟨h1, h2, h3, h4, h5⟩ := h
  refine ⟨h1, h2, h3, ?_, h5⟩
  rcases h4 with h | ⟨h, f, q, p, b, a1, a2, a3, a4, a5⟩
  · exact Or.inl h
  · exact Or.inr ⟨h, f, q, p, b, a1, by omega, a3, a4, a5, fun e => by omega⟩
/-- the second half of step (2), with a wait -/
theorem wob2_step {t i : Nat} {X Y : Mem} (ht : 1 ≤ t) (hi : i < 6) (hGl : rGl t X Y) (hr : sm (Y 0 2) 6) (hSt : rSt X Y) (hQu : rQu X Y) (hC : rCm X Y i) (hw : 0 ≤ Y 4 i) (hR : rRw X Y i) (hp : 0 < kN (Y 9 i)) (hon : X (8 + 5 * i) 0 = Y 10 i) (hoff : rOff X Y i) (hWa : ∀ j, j < 6 → rWa t X Y j) : St2 t i X Y (wob2 X i) (lis2 Y i) := by
  obtain ⟨g1, g2, g3, g4⟩ := id hGl
  obtain ⟨c1, c2, c3, c4, c5, c6, c7, c8⟩ := id hC
  have self : St2 t i X Y X Y := ⟨hGl, hSt, hQu, ⟨hC, hR, hon, Or.inl hoff, hWa i hi⟩, fun j _ _ => same_refl X Y j⟩
  unfold wob2 lis2
  rw [g2, g3, c5]
  by_cases h1 : nI t ≤ Y 6 i
  · rw [if_pos h1, if_pos h1]; exact self
  · rw [if_neg h1, if_neg h1]
    have hb : f_X5_heardInSlotBefore X i = 0 ↔ f_X6_isBusy Y i = 0 := by
      rw [f_X5_heardInSlotBefore_d, f_X6_isBusy_d]
      exact busy_eq hSt g2 ht hi (fun j hj => (hWa j hj).1) 6 0 (by omega)
    by_cases h2 : f_X6_isBusy Y i = 0
    · rw [if_pos h2, if_pos (hb.mpr h2), c3.1]
      by_cases h3 : Y 4 i = 0
      · rw [if_pos h3, if_pos (by rw [h3]; decide)]
        -- it begins
        obtain ⟨r1, r2, r3⟩ := id hR
        obtain ⟨⟨k1, k2⟩, k3, k4, k5⟩ := r3 0 hp
        rw [Nat.add_zero] at k1 k2 k3 k4 k5
        obtain ⟨p, hpd⟩ : ∃ p, p = kN (Y 8 (5 * i)) := ⟨_, rfl⟩
        have ep : Y 8 (5 * i) = nI p := by rw [hpd]; exact k4.1
        have p16 : p < 16 := by rw [hpd]; exact k4.2
        have p0 : 0 < p := by
          rcases Nat.eq_zero_or_pos p with e | e
          · subst e; exact absurd (ep.trans nI0) k5
          · exact e
        have hpc := ppc_pos p p16 p0
        have hpc4 := ppc_le p p16
        obtain ⟨r, hrd⟩ : ∃ r, r = kN (Y 0 2) := ⟨_, rfl⟩
        have er : Y 0 2 = nI r := by rw [hrd]; exact hr.1
        have r6 : r < 6 := by rw [hrd]; exact hr.2
        have ec : X (7 + 5 * i) 0 = nI (kN (Y 9 i)) := r1.trans r2.1
        rw [g1.1, er]
        obtain ⟨q, hq, s1, s2, s3, s4, s5, s6, s7, s8, s9, s10⟩ := begin_spec X ht ec hp r2.2 (k3.trans ep) p16 r6
        obtain ⟨q', hq', m1, m2, m3, m4, m5, m6, m7, m8⟩ := begins_spec Y ht g3 ep p16 er r6
        have eq : q' = q := by rw [hq, hq']
        subst eq
        have q2 : q' < 2 := by rw [hq']; split <;> decide
        have n0 := m7 0 (by decide) (by decide) (by decide) (by decide) (by decide) (by decide)
        have n1 := m7 1 (by decide) (by decide) (by decide) (by decide) (by decide) (by decide)
        have n19 := m7 19 (by decide) (by decide) (by decide) (by decide) (by decide) (by decide)
        have n2 := m7 2 (by decide) (by decide) (by decide) (by decide) (by decide) (by decide)
        have n3 := m7 3 (by decide) (by decide) (by decide) (by decide) (by decide) (by decide)
        have n5 := m7 5 (by decide) (by decide) (by decide) (by decide) (by decide) (by decide)
        have n6 := m7 6 (by decide) (by decide) (by decide) (by decide) (by decide) (by decide)
        have n7 := m7 7 (by decide) (by decide) (by decide) (by decide) (by decide) (by decide)
        have n8 := m7 8 (by decide) (by decide) (by decide) (by decide) (by decide) (by decide)
        have n9 := m7 9 (by decide) (by decide) (by decide) (by decide) (by decide) (by decide)
        have n11 := m7 11 (by decide) (by decide) (by decide) (by decide) (by decide) (by decide)
        have n16 := m7 16 (by decide) (by decide) (by decide) (by decide) (by decide) (by decide)
        have n17 := m7 17 (by decide) (by decide) (by decide) (by decide) (by decide) (by decide)
        have n18 := m7 18 (by decide) (by decide) (by decide) (by decide) (by decide) (by decide)
        refine ⟨?_, ?_, ?_, ⟨?_, ?_, ?_, Or.inr ⟨m1, t, q', p, 0, ?_, Nat.le_refl _, by omega, ?_, ?_, fun _ => rfl⟩, ?_⟩, fun j hj hji => ⟨⟨fun a _ => ?_, ?_, ?_, ?_, ?_⟩, ⟨fun b _ _ _ _ _ => m8 b j hji, fun k hk => ⟨by rw [n7], by rw [n8]⟩⟩, fun h => ?_⟩⟩
        · unfold rGl; rw [s10 0 (by omega) (by omega), n0]; exact hGl
        · unfold rSt; rw [s10 3 (by omega) (by omega), n1]; exact hSt
        · unfold rQu; rw [s10 4 (by omega) (by omega), s10 5 (by omega) (by omega), n0, n19]; exact hQu
        · unfold rCm
          rw [s9 0 (by decide), s9 1 (by decide), s8, s9 3 (by decide), s9 4 (by decide), s9 5 (by decide), s9 6 (by decide), s9 7 (by decide), n2, n3, m6, n5, n6, n16, n17, n18]
          exact ⟨c1, c2, ⟨rfl, Or.inl rfl⟩, c4, c5, c6, c7, c8⟩
        · unfold rRw
          rw [s10 (7 + 5 * i) (by omega) (by omega), s10 (9 + 5 * i) (by omega) (by omega), s10 (10 + 5 * i) (by omega) (by omega), n9, n7, n8]
          exact hR
        · rw [s1, m1]
        · unfold rTm
          rw [s2, s3, s4, s6, m2, m3, m4, n9, n8]
          exact ⟨hp, q2, p0, p16, ⟨rfl, rfl⟩, ⟨rfl, rfl⟩, ⟨rfl, ep⟩, ⟨rfl, rfl⟩⟩
        · unfold rAt
          rw [s9 8 (by decide), n18, Nat.sub_self, nI0, Int32.add_zero]
          exact hoff.2
        · unfold rBk
          rw [s5, s7, m5]
          exact ⟨by decide, rfl, rfl, rfl⟩
        · unfold rWa
          rw [s9 9 (by decide), n11]
          exact hWa i hi
        · rw [s10 (6 + 5 * j) (by omega) (by omega)]
        · rw [s10 (7 + 5 * j) (by omega) (by omega)]
        · rw [s10 (8 + 5 * j) (by omega) (by omega)]
        · rw [s10 (9 + 5 * j) (by omega) (by omega)]
        · rw [s10 (10 + 5 * j) (by omega) (by omega)]
        · rw [s10 (6 + 5 * j) (by omega) (by omega), n6]; exact h
      · have h4 : ¬ Y 4 i ≤ 0 := fun h => h3 (Int32.le_antisymm h hw)
        rw [if_neg h3, if_neg h4]
        -- its wait becomes 1 less
        have hw1 : Y 4 i - nI 1 = -1 ∨ 0 ≤ Y 4 i - nI 1 := by
          obtain ⟨z, hz, ez⟩ := nI_of (x := Y 4 i) (Int32.not_lt.mpr hw)
          have z0 : 0 < z := by
            rcases Nat.eq_zero_or_pos z with e | e
            · subst e; exact absurd (ez.trans nI0) h3
            · exact e
          right
          rw [ez, pk_sub z0]
          exact nI_ge0 (by omega)
        refine ⟨?_, ?_, ?_, ⟨?_, ?_, ?_, Or.inl ?_, ?_⟩, fun j hj hji => ⟨⟨fun a _ => ?_, ?_, ?_, ?_, ?_⟩, ⟨fun b _ _ _ _ _ => ?_, fun k hk => ⟨?_, ?_⟩⟩, fun h => ?_⟩⟩
        · unfold rGl; simp (disch := omega) only [ub_ne]; exact hGl
        · unfold rSt; simp (disch := omega) only [ub_ne]; exact hSt
        · unfold rQu; simp (disch := omega) only [ub_ne]; exact hQu
        · unfold rCm
          simp (disch := omega) only [ub_ne, ub_blk, pk_un, pk_us]
          exact ⟨c1, c2, ⟨trivial, hw1⟩, c4, c5, c6, c7, c8⟩
        · unfold rRw; simp (disch := omega) only [ub_ne]; exact hR
        · simp (disch := omega) only [ub_ne]; exact hon
        · unfold rOff; simp (disch := omega) only [ub_ne, ub_blk, pk_un]; exact hoff
        · unfold rWa; simp (disch := omega) only [ub_ne, ub_blk, pk_un]; exact hWa i hi
        · rw [ub_ne _ _ _ (by omega)]
        · rw [ub_ne _ _ _ (by omega)]
        · rw [ub_ne _ _ _ (by omega)]
        · rw [ub_ne _ _ _ (by omega)]
        · rw [ub_ne _ _ _ (by omega)]
        · by_cases e : b = 4
          · subst e; rw [ub_blk, pk_un hji]
          · rw [ub_ne _ _ _ e]
        · rw [ub_ne _ _ _ (by decide)]
        · rw [ub_ne _ _ _ (by decide)]
        · rw [ub_ne _ _ _ (by omega), ub_ne _ _ _ (by decide)]; exact h
    · rw [if_neg h2, if_neg (fun h => h2 (hb.mp h))]; exact self
