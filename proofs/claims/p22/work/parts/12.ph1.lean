-- step (2) of a slot
def busyH (t : Nat) (S : Mem) (i : Nat) : Prop := ∃ k, k < 6 ∧ k ≠ i ∧ ¬ S 3 (i * 6 + k) ≤ 0 ∧ S (6 + 5 * k) 9 = nI t
theorem wob2_step {t i w : Nat} {S X : Mem} (ht : t + 1 < 100000) (h0 : X 0 1 = nI (t + 1)) (hr : sm (X 0 0) 6) (h4 : X (6 + 5 * i) 4 = S (6 + 5 * i) 4) (hhe : f_X5_heardInSlotBefore X i = 0 ↔ ¬ busyH t S i) (hw : X (6 + 5 * i) 2 = nI w) (hw32 : w < 32) (hR : kRw X i) (hc0 : 0 < kN (X (7 + 5 * i) 0)) (hoff : X (8 + 5 * i) 0 = nI 0) :
    (∀ b, b ≠ 6 + 5 * i → b ≠ 8 + 5 * i → wob2 X i b = X b) ∧ (∀ a, a ≠ 2 → wob2 X i (6 + 5 * i) a = X (6 + 5 * i) a) ∧
    ((wob2 X i (8 + 5 * i) 0 = nI 0 ∧ kWt (wob2 X i) i ∧ ((bz t S i ∧ wob2 X i (6 + 5 * i) 2 = nI w) ∨ (¬ bz t S i ∧ ∃ w', w = w' + 1 ∧ wob2 X i (6 + 5 * i) 2 = nI w'))) ∨
     (¬ bz t S i ∧ w = 0 ∧ wob2 X i (8 + 5 * i) 0 = nI 1 ∧ wob2 X i (6 + 5 * i) 2 = -1 ∧ ∃ q p, kTm (t + 1) q p (wob2 X i) i)) := by
  have hsm : sm (nI w) 32 := sm_nI hw32 (by decide)
  have self : ∀ Z : Mem, Z = X → bz t S i → (∀ b, b ≠ 6 + 5 * i → b ≠ 8 + 5 * i → Z b = X b) ∧ (∀ a, a ≠ 2 → Z (6 + 5 * i) a = X (6 + 5 * i) a) ∧
    ((Z (8 + 5 * i) 0 = nI 0 ∧ kWt Z i ∧ ((bz t S i ∧ Z (6 + 5 * i) 2 = nI w) ∨ (¬ bz t S i ∧ ∃ w', w = w' + 1 ∧ Z (6 + 5 * i) 2 = nI w'))) ∨
     (¬ bz t S i ∧ w = 0 ∧ Z (8 + 5 * i) 0 = nI 1 ∧ Z (6 + 5 * i) 2 = -1 ∧ ∃ q p, kTm (t + 1) q p Z i)) := by
    rintro Z rfl hb
    exact ⟨fun _ _ _ => rfl, fun _ _ => rfl, Or.inl ⟨hoff, Or.inr ⟨by rw [hw]; exact hsm, hc0, hoff⟩, Or.inl ⟨hb, hw⟩⟩⟩
  by_cases h1 : nI (t + 1) ≤ S (6 + 5 * i) 4
  · exact self _ (by unfold wob2; rw [h0, h4, if_pos h1]) (Or.inl h1)
  · by_cases h2 : f_X5_heardInSlotBefore X i = 0
    · have hb : ¬ bz t S i := fun h => h.elim h1 (hhe.mp h2)
      by_cases h3 : X (6 + 5 * i) 2 ≤ 0
      · have w0 : w = 0 := by
          rcases Nat.eq_zero_or_pos w with q | q
          · exact q
          · exact absurd (by rw [← hw]; exact h3) (nI_nle q (by omega))
        obtain ⟨c1, c2⟩ := hR.1
        obtain ⟨r1, r2⟩ := hr
        obtain ⟨-, ⟨p1, p2⟩, p3⟩ := hR.2 0 hc0
        obtain ⟨c, hc⟩ : ∃ z, z = kN (X (7 + 5 * i) 0) := ⟨_, rfl⟩
        obtain ⟨r, hr⟩ : ∃ z, z = kN (X 0 0) := ⟨_, rfl⟩
        obtain ⟨p, hp⟩ : ∃ z, z = kN (X (10 + 5 * i) 0) := ⟨_, rfl⟩
        rw [← hc] at c1 c2 hc0
        rw [← hr] at r1 r2
        rw [← hp] at p1 p2
        have p0 : 0 < p := by
          rcases Nat.eq_zero_or_pos p with q | q
          · subst q; exact absurd (p1.trans nI0) p3
          · exact q
        obtain ⟨q, hq, b0, b1, b2, b3, b4, b5, b6, b7, b8, b9⟩ := begin_spec X (i := i) (t := t + 1) (p := p) (r := r) (c := c) (by omega) c1 hc0 c2 p1 p2 r2
        have e : wob2 X i = f_X2_begin X i (nI (t + 1)) (nI r) := by unfold wob2; rw [h0, h4, if_neg h1, if_pos h2, if_pos h3, r1]
        rw [e]
        refine ⟨b9, b8, Or.inr ⟨hb, w0, b0, b7, q, p, ?_, ?_, p0, p2, b1, b3, b5, ?_, b2⟩⟩
        · rw [b9 _ (by omega) (by omega), ← hc]; exact hc0
        · rw [hq]; split <;> decide
        · rw [b9 _ (by omega) (by omega)]; exact p1
      · have w0 : 0 < w := by
          rcases Nat.eq_zero_or_pos w with q | q
          · subst q; exact absurd (by rw [hw]; decide) h3
          · exact q
        have e : wob2 X i = ub X (6 + 5 * i) 2 (nI (w - 1)) := by unfold wob2; rw [h0, h4, if_neg h1, if_pos h2, if_neg h3, hw, pk_sub w0]
        have e2 : wob2 X i (6 + 5 * i) 2 = nI (w - 1) := by rw [e, ub_blk, pk_us]
        have e8 : wob2 X i (8 + 5 * i) 0 = nI 0 := by rw [e, ub_ne _ _ _ (by omega)]; exact hoff
        refine ⟨fun b k1 _ => by rw [e, ub_ne _ _ _ k1], fun a ha => by rw [e, ub_blk, pk_un ha], Or.inl ⟨e8, Or.inr ⟨by rw [e2]; exact sm_nI (by omega) (by decide), by rw [e, ub_ne _ _ _ (by omega)]; exact hc0, e8⟩, Or.inr ⟨hb, w - 1, by omega, e2⟩⟩⟩
    · exact self _ (by unfold wob2; rw [h0, h4, if_neg h1, if_neg h2]) (Or.inr (Decidable.not_not.mp (fun h => h2 (hhe.mpr h))))
theorem L1_step {t i : Nat} {S X : Mem} (ht : t + 1 < 100000) (hi : i < 6) (hGl : kGl t S) (hd : S 3 (i * 6 + i) = 0) (hG : kG (t + 1) S X) (hIA : IA t S i) (hT : sameT S X i) (h9 : ∀ k, k < 6 → X (6 + 5 * k) 9 = S (6 + 5 * k) 9) :
    kG (t + 1) S (f_X5_waitOrBegin X i) ∧ RB t S (f_X5_waitOrBegin X i) i ∧ ∀ b, b ≠ 4 → b ≠ 6 + 5 * i → b ≠ 8 + 5 * i → f_X5_waitOrBegin X i b = X b := by
  obtain ⟨e6, e7, e8, e9, e10⟩ := hT
  obtain ⟨g1, g2, g3, g4⟩ := id hG
  obtain ⟨hC, hR, hWt, hLs, d, e, a, hAr, hat, hcase⟩ := hIA
  rw [wob_eq]
  rcases hcase with ⟨hoff, hae⟩ | ⟨hon, f, q, p, hTm, hf, ha⟩
  · rw [e8, hoff, if_pos nI0]
    by_cases hc : S (7 + 5 * i) 0 = 0
    · rw [e7, if_pos hc]
      have hc1 : kN (S (7 + 5 * i) 0) = 0 := by rw [hc]; decide
      have hw1 : S (6 + 5 * i) 2 = -1 := by
        rcases hWt with h | ⟨-, h, -⟩
        · exact h
        · rw [hc1] at h; exact absurd h (Nat.lt_irrefl 0)
      refine ⟨hG, ⟨⟨e7, e9, e10⟩, fun a _ => by rw [e6], Or.inl ⟨hoff, by rw [e8]; exact hoff, Or.inl (by rw [e6]; exact hw1), Or.inl hw1⟩⟩, fun _ _ _ _ => rfl⟩
    · rw [e7, if_neg hc, e6]
      have hcp : 0 < kN (S (7 + 5 * i) 0) := by
        rcases Nat.eq_zero_or_pos (kN (S (7 + 5 * i) 0)) with q | q
        · exact absurd (hR.1.1.trans (by rw [q]; exact nI0)) hc
        · exact q
      have fin : ∀ (X1 : Mem) (w : Nat), (∀ b, b ≠ 4 → b ≠ 6 + 5 * i → X1 b = X b) → (∀ a, a ≠ 2 → X1 (6 + 5 * i) a = X (6 + 5 * i) a) → X1 (6 + 5 * i) 2 = nI w → w < 32 → kQu X1 → (S (6 + 5 * i) 2 = -1 ∨ S (6 + 5 * i) 2 = nI w) → kG (t + 1) S (wob2 X1 i) ∧ RB t S (wob2 X1 i) i ∧ ∀ b, b ≠ 4 → b ≠ 6 + 5 * i → b ≠ 8 + 5 * i → wob2 X1 i b = X b := by
        intro X1 w f1 f2 f3 f4 f5 f6
        have x7 : X1 (7 + 5 * i) = S (7 + 5 * i) := (f1 _ (by omega) (by omega)).trans e7
        have x8 : X1 (8 + 5 * i) = S (8 + 5 * i) := (f1 _ (by omega) (by omega)).trans e8
        have x9 : X1 (9 + 5 * i) = S (9 + 5 * i) := (f1 _ (by omega) (by omega)).trans e9
        have x10 : X1 (10 + 5 * i) = S (10 + 5 * i) := (f1 _ (by omega) (by omega)).trans e10
        have xh : ∀ k, k < 6 → X1 (6 + 5 * k) 9 = S (6 + 5 * k) 9 := fun k hk => by
          by_cases ek : k = i
          · subst ek; rw [f2 9 (by decide)]; exact h9 k hk
          · rw [f1 _ (by omega) (by omega)]; exact h9 k hk
        have hR1 : kRw X1 i := by unfold kRw; rw [x7, x9, x10]; exact hR
        have hx0 : X1 0 1 = nI (t + 1) := by rw [f1 0 (by decide) (by omega)]; exact g2
        have hx3 : X1 3 = S 3 := (f1 3 (by decide) (by omega)).trans g3
        obtain ⟨z1, z2, z3⟩ := wob2_step (t := t) (i := i) (w := w) (S := S) (X := X1) ht hx0 (by rw [f1 0 (by decide) (by omega), g1]; exact hGl.1.1) (by rw [f2 4 (by decide), e6]) (heard_eq (by omega) hi hd hx0 hx3 xh) f3 f4 hR1 (by rw [x7]; exact hcp) (by rw [x8]; exact hoff)
        refine ⟨⟨?_, ?_, ?_, ?_⟩, ⟨⟨?_, ?_, ?_⟩, fun a ha => ?_, ?_⟩, fun b h1 h2 h3 => ?_⟩
        · rw [z1 0 (by omega) (by omega), f1 0 (by decide) (by omega)]; exact g1
        · rw [z1 0 (by omega) (by omega)]; exact hx0
        · rw [z1 3 (by omega) (by omega)]; exact hx3
        · unfold kQu; rw [z1 4 (by omega) (by omega), z1 5 (by omega) (by omega)]; exact f5
        · rw [z1 _ (by omega) (by omega)]; exact x7
        · rw [z1 _ (by omega) (by omega)]; exact x9
        · rw [z1 _ (by omega) (by omega)]; exact x10
        · rw [z2 a ha, f2 a ha, e6]
        · rcases z3 with ⟨o1, o2, o3⟩ | ⟨hnb, w0, o1, o2, q, p, o3⟩
          · refine Or.inl ⟨hoff, o1, o2, ?_⟩
            rcases f6 with h | h
            · exact Or.inl h
            · rcases o3 with ⟨h1, h2⟩ | ⟨h1, w', h2, h3⟩
              · exact Or.inr (Or.inl ⟨h1, h2.trans h.symm⟩)
              · exact Or.inr (Or.inr ⟨h1, w', by rw [h, h2], by omega, h3⟩)
          · subst w0
            refine Or.inr ⟨Or.inr ⟨hoff, hnb, f6⟩, o1, o2, d, e, t + 1, q, p, ?_, by omega, o3, Nat.le_refl _⟩
            unfold kAr at hAr ⊢
            rw [z2 5 (by decide), z2 8 (by decide), z2 7 (by decide), f2 5 (by decide), f2 8 (by decide), f2 7 (by decide), e6, Nat.sub_self, Nat.add_zero]
            rw [hae] at hAr
            exact hAr
        · rw [z1 b h2 h3, f1 b h1 h2]
      by_cases hw : S (6 + 5 * i) 2 = -1
      · rw [if_pos hw]
        obtain ⟨n1, n2, n3⟩ := kQu_next g4
        have hv : sm (f_X5_restBy (f_X4_next X).1 ((f_X4_next X).2 (6 + 5 * i) 1 + nI 1)) 32 := by
          rw [n3 _ (by omega), e6]
          exact rest_sm hC.1 n2
        obtain ⟨v, ev⟩ : ∃ v, v = f_X5_restBy (f_X4_next X).1 ((f_X4_next X).2 (6 + 5 * i) 1 + nI 1) := ⟨_, rfl⟩
        rw [← ev] at hv ⊢
        refine fin _ (kN v) (fun b h1 h2 => by rw [ub_ne _ _ _ h2, n3 b h1]) (fun a ha => by rw [ub_blk, pk_un ha, n3 _ (by omega)]) (by rw [ub_blk, pk_us]; exact hv.1) hv.2 ?_ (Or.inl hw)
        unfold kQu at n1 ⊢
        rw [ub_ne _ _ _ (by omega), ub_ne _ _ _ (by omega)]
        exact n1
      · rw [if_neg hw]
        rcases hWt with h | ⟨h, -, -⟩
        · exact absurd h hw
        · exact fin X (kN (S (6 + 5 * i) 2)) (fun _ _ _ => rfl) (fun _ _ => rfl) (by rw [e6]; exact h.1) h.2 g4 (Or.inr h.1)
  · rw [e8, hon, if_neg nI1_ne]
    refine ⟨hG, ⟨⟨e7, e9, e10⟩, fun a _ => by rw [e6], Or.inr ⟨Or.inl hon, by rw [e8]; exact hon, ?_, d, e, f, q, p, ?_, by omega, ?_, by omega⟩⟩, fun _ _ _ _ => rfl⟩
    · rw [e6]
      rcases hWt with h | ⟨-, -, h⟩
      · exact h
      · exact absurd (hon.symm.trans h) nI1_0
    · unfold kAr at hAr ⊢
      rw [e6, show e + (t + 1 - f) = a by omega]
      exact hAr
    · unfold kTm at hTm ⊢
      rw [e7, e8, e10]
      exact hTm
theorem sameT_trans {S X Y : Mem} {j : Nat} (h : sameT S X j) (h2 : sameT X Y j) : sameT S Y j := ⟨h2.1.trans h.1, h2.2.1.trans h.2.1, h2.2.2.1.trans h.2.2.1, h2.2.2.2.1.trans h.2.2.2.1, h2.2.2.2.2.trans h.2.2.2.2⟩
theorem RB_fr {t : Nat} {S X Y : Mem} {j : Nat} (h : sameT X Y j) (hB : RB t S X j) : RB t S Y j := by
  obtain ⟨e6, e7, e8, e9, e10⟩ := h
  unfold RB sameR kWt wq kAr kTm at hB ⊢
  rw [e6, e7, e8, e9, e10]
  exact hB
/-- what holds at a call's end, of the class alone -/
def I0 (t : Nat) (S : Mem) : Prop := kGl t S ∧ (∀ a, a < 6 → S 3 (a * 6 + a) = 0) ∧ kQu S ∧ ∀ j, j < 6 → IA t S j
theorem ph1 {t : Nat} {S : Mem} (h : I0 t S) (ht : t + 1 < 100000) : ∀ i, i ≤ 6 → kG (t + 1) S (ct1 S i) ∧ ∀ j, j < 6 → (j < i → RB t S (ct1 S i) j) ∧ (i ≤ j → sameT S (ct1 S i) j)
  | 0, _ => by
    rw [ct1_0]
    obtain ⟨⟨g1, g2, g3⟩, h2, h3, h4⟩ := h
    refine ⟨⟨?_, ?_, ?_, ?_⟩, fun j hj => ⟨fun hh => absurd hh (by omega), fun _ => ⟨?_, ?_, ?_, ?_, ?_⟩⟩⟩
    · rw [ub_blk, pk_un (by decide)]
    · rw [ub_blk, pk_us, g2, nI_add]
    · rw [ub_ne _ _ _ (by decide)]
    · unfold kQu; rw [ub_ne _ _ _ (by decide), ub_ne _ _ _ (by decide)]; exact h3
    · rw [ub_ne _ _ _ (by omega)]
    · rw [ub_ne _ _ _ (by omega)]
    · rw [ub_ne _ _ _ (by omega)]
    · rw [ub_ne _ _ _ (by omega)]
    · rw [ub_ne _ _ _ (by omega)]
  | i + 1, hi => by
    obtain ⟨h1, h4⟩ := ph1 h ht i (by omega)
    have h9 : ∀ k, k < 6 → ct1 S i (6 + 5 * k) 9 = S (6 + 5 * k) 9 := fun k hk => by
      rcases Nat.lt_or_ge k i with q | q
      · exact ((h4 k hk).1 q).2.1 9 (by decide)
      · rw [((h4 k hk).2 q).1]
    obtain ⟨z1, z2, z3⟩ := L1_step ht (show i < 6 by omega) h.1 (h.2.1 i (by omega)) h1 (h.2.2.2 i (by omega)) ((h4 i (by omega)).2 (Nat.le_refl _)) h9
    rw [ct1_s, f_X5_passOneSlot_L1_b_d]
    refine ⟨z1, fun j hj => ?_⟩
    have fr : j ≠ i → sameT (ct1 S i) (f_X5_waitOrBegin (ct1 S i) i) j := fun hji => ⟨z3 _ (by omega) (by omega) (by omega), z3 _ (by omega) (by omega) (by omega), z3 _ (by omega) (by omega) (by omega), z3 _ (by omega) (by omega) (by omega), z3 _ (by omega) (by omega) (by omega)⟩
    refine ⟨fun k1 => ?_, fun k1 => sameT_trans ((h4 j hj).2 (by omega)) (fr (by omega))⟩
    by_cases e : j = i
    · subst e; exact z2
    · exact RB_fr (fr e) ((h4 j hj).1 (by omega))
