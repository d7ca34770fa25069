-- step (3) of a slot
theorem L2_step {t i : Nat} {S X : Mem} (hG : kG (t + 1) S X) (hIA : IA t S i) (hB : RB t S X i) :
    kG (t + 1) S (f_X5_sendInSlot X i) ∧ RC t S (f_X5_sendInSlot X i) i ∧ ∀ b, b ≠ 6 + 5 * i → b ≠ 8 + 5 * i → f_X5_sendInSlot X i b = X b := by
  obtain ⟨g1, g2, g3, g4⟩ := id hG
  obtain ⟨⟨e7, e9, e10⟩, e6, hcase⟩ := hB
  have h4 : sm (X (6 + 5 * i) 4) (t + 10) := by rw [e6 4 (by decide)]; exact hIA.1.2.2.le (by omega)
  rw [f_X5_sendInSlot_d]
  rcases hcase with ⟨hoff, x0, x1, x2⟩ | ⟨hs, x0, x1, d, e, f, q, p, hAr, het, hTm, hf⟩
  · rw [x0, if_pos nI0]
    exact ⟨hG, ⟨⟨e7, e9, e10⟩, fun a h1 _ _ _ => e6 a h1, h4, Or.inl ⟨hoff, x0, x1, x2, e6 7 (by decide), e6 9 (by decide)⟩⟩, fun _ _ _ => rfl⟩
  · rw [x0, if_neg nI1_ne, ub_ne X _ _ (show 0 ≠ 6 + 5 * i by omega), g2]
    obtain ⟨X2, hX2⟩ : ∃ z, z = ub (ub X (6 + 5 * i) 7 (X (6 + 5 * i) 7 + nI 1)) (6 + 5 * i) 9 (nI (t + 1)) := ⟨_, rfl⟩
    rw [← hX2]
    have s2b : ∀ b, b ≠ 6 + 5 * i → X2 b = X b := fun b h => by rw [hX2, ub_ne _ _ _ h, ub_ne _ _ _ h]
    have s2a : ∀ a, a ≠ 7 → a ≠ 9 → X2 (6 + 5 * i) a = X (6 + 5 * i) a := fun a h h2 => by rw [hX2, ub_blk, pk_un h2, ub_blk, pk_un h]
    have s27 : X2 (6 + 5 * i) 7 = X (6 + 5 * i) 7 + nI 1 := by rw [hX2, ub_blk, pk_un (by decide), ub_blk, pk_us]
    have s29 : X2 (6 + 5 * i) 9 = nI (t + 1) := by rw [hX2, ub_blk, pk_us]
    have fin : ∀ Z : Mem, (∀ b, b ≠ 8 + 5 * i → Z b = X2 b) → (∀ a, a ≠ 4 → a ≠ 6 → Z (8 + 5 * i) a = X2 (8 + 5 * i) a) → kG (t + 1) S Z ∧ RC t S Z i ∧ ∀ b, b ≠ 6 + 5 * i → b ≠ 8 + 5 * i → Z b = X b := by
      intro Z f1 f2
      have y1 : ∀ b, b ≠ 6 + 5 * i → b ≠ 8 + 5 * i → Z b = X b := fun b h h2 => by rw [f1 b h2, s2b b h]
      have y6 : Z (6 + 5 * i) = X2 (6 + 5 * i) := f1 _ (by omega)
      have y8 : ∀ a, a ≠ 4 → a ≠ 6 → Z (8 + 5 * i) a = X (8 + 5 * i) a := fun a h h2 => by rw [f2 a h h2, s2b _ (by omega)]
      obtain ⟨r1, r2, r3, r4⟩ := hAr
      refine ⟨⟨?_, ?_, ?_, ?_⟩, ⟨⟨?_, ?_, ?_⟩, fun a h1 _ h3 h4 => ?_, ?_, Or.inr ⟨hs, ?_, ?_, ?_, d, e, f, q, p, ⟨?_, ?_, ?_, r4⟩, ?_, het, ?_, hf⟩⟩, y1⟩
      · rw [y1 0 (by omega) (by omega)]; exact g1
      · rw [y1 0 (by omega) (by omega)]; exact g2
      · rw [y1 3 (by omega) (by omega)]; exact g3
      · unfold kQu; rw [y1 4 (by omega) (by omega), y1 5 (by omega) (by omega)]; exact g4
      · rw [y1 _ (by omega) (by omega)]; exact e7
      · rw [y1 _ (by omega) (by omega)]; exact e9
      · rw [y1 _ (by omega) (by omega)]; exact e10
      · rw [y6, s2a a h3 h4]; exact e6 a h1
      · rw [y6, s2a 4 (by decide) (by decide)]; exact h4
      · rw [y8 0 (by decide) (by decide)]; exact x0
      · rw [y6, s2a 2 (by decide) (by decide)]; exact x1
      · rw [y6]; exact s29
      · rw [y6, s2a 5 (by decide) (by decide)]; exact r1
      · rw [y6, s2a 8 (by decide) (by decide)]; exact r2
      · rw [y6, s27, r3, nI_add]
      · rw [← e6 7 (by decide)]; exact r3
      · unfold kTm at hTm ⊢
        rw [y1 (7 + 5 * i) (by omega) (by omega), y1 (10 + 5 * i) (by omega) (by omega), y8 1 (by decide) (by decide), y8 2 (by decide) (by decide), y8 3 (by decide) (by decide), y8 5 (by decide) (by decide)]
        exact hTm
    by_cases hb : f_X5_isBrokenAt X2 (gof X i) i = 0
    · rw [if_pos hb]
      exact fin X2 (fun _ _ => rfl) (fun _ _ _ => rfl)
    · rw [if_neg hb, f_X1_breakIn_d]
      by_cases hq : f_X1_isRequest X2 i (X2 0 1) = 0
      · rw [if_pos hq]
        exact fin _ (fun b h => ub_ne _ _ _ h) (fun a _ h => by rw [ub_blk, pk_un h])
      · rw [if_neg hq]
        exact fin _ (fun b h => ub_ne _ _ _ h) (fun a h _ => by rw [ub_blk, pk_un h])
theorem RC_fr0 {t : Nat} {S X Y : Mem} {j : Nat} (h : sameT X Y j) (hC : RC t S X j) : RC t S Y j := by
  obtain ⟨e6, e7, e8, e9, e10⟩ := h
  unfold RC sameR kWt wq kAr kTm at hC ⊢
  rw [e6, e7, e8, e9, e10]
  exact hC
theorem row_gOK {S : Mem} {i : Nat} (h : kRw S i) (hp : 0 < kN (S (7 + 5 * i) 0)) : gOK S i := by
  obtain ⟨k2, -⟩ := h.2 0 hp
  have e := goal_eq h.1.1 hp h.1.2
  unfold gOK gof
  rw [e]
  exact k2
theorem ph2 {t : Nat} {S : Mem} (h : I0 t S) (ht : t + 1 < 100000) : ∀ i, i ≤ 6 → kG (t + 1) S (ct2 S i) ∧ ∀ j, j < 6 → (j < i → RC t S (ct2 S i) j) ∧ (i ≤ j → RB t S (ct2 S i) j)
  | 0, _ => by
    rw [ct2_0]
    obtain ⟨h1, h4⟩ := ph1 h ht 6 (Nat.le_refl _)
    exact ⟨h1, fun j hj => ⟨fun hh => absurd hh (by omega), fun _ => (h4 j hj).1 hj⟩⟩
  | i + 1, hi => by
    obtain ⟨h1, h4⟩ := ph2 h ht i (by omega)
    obtain ⟨z1, z2, z3⟩ := L2_step h1 (h.2.2.2 i (by omega)) ((h4 i (by omega)).2 (Nat.le_refl _))
    rw [ct2_s, f_X5_passOneSlot_L2_b_d]
    refine ⟨z1, fun j hj => ?_⟩
    have fr : j ≠ i → sameT (ct2 S i) (f_X5_sendInSlot (ct2 S i) i) j := fun hji => ⟨z3 _ (by omega) (by omega), z3 _ (by omega) (by omega), z3 _ (by omega) (by omega), z3 _ (by omega) (by omega), z3 _ (by omega) (by omega)⟩
    refine ⟨fun k1 => ?_, fun k1 => RB_fr (fr (by omega)) ((h4 j hj).2 (by omega))⟩
    by_cases e : j = i
    · subst e; exact z2
    · exact RC_fr0 (fr e) ((h4 j hj).1 (by omega))
theorem RB_gOK {t i : Nat} {S X : Mem} (hIA : IA t S i) (h : RB t S X i) (hn : ¬ X (8 + 5 * i) 0 = 0) : gOK X i := by
  obtain ⟨⟨e7, e9, e10⟩, -, hcase⟩ := h
  rcases hcase with ⟨-, x0, -⟩ | ⟨-, -, -, d, e, f, q, p, -, -, hTm, -⟩
  · exact absurd (x0.trans nI0) hn
  · exact row_gOK (by unfold kRw; rw [e7, e9, e10]; exact hIA.2.1) hTm.1
theorem RC_gOK {t i : Nat} {S X : Mem} (hIA : IA t S i) (h : RC t S X i) (hn : ¬ X (8 + 5 * i) 0 = 0) : gOK X i := by
  obtain ⟨⟨e7, e9, e10⟩, -, -, hcase⟩ := h
  rcases hcase with ⟨-, x0, -⟩ | ⟨-, -, -, -, d, e, f, q, p, -, -, -, hTm, -⟩
  · exact absurd (x0.trans nI0) hn
  · exact row_gOK (by unfold kRw; rw [e7, e9, e10]; exact hIA.2.1) hTm.1
-- step (4): a sending ends
def ES (i : Nat) (Y Z : Mem) : Prop := (∀ b, b ≠ 6 + 5 * i → b ≠ 7 + 5 * i → b ≠ 9 + 5 * i → b ≠ 10 + 5 * i → Z b = Y b) ∧ (∀ a, a ≠ 1 → a ≠ 3 → a ≠ 5 → a ≠ 6 → Z (6 + 5 * i) a = Y (6 + 5 * i) a) ∧ kRw Z i ∧ kW (Z (6 + 5 * i) 1) ∧ sm (Z (6 + 5 * i) 3) 5
theorem fail_step {i : Nat} {Y : Mem} (hR : kRw Y i) (hp : 0 < kN (Y (7 + 5 * i) 0)) (hW : kW (Y (6 + 5 * i) 1)) (h3 : sm (Y (6 + 5 * i) 3) 5) : ES i Y (f_X2_countFailure Y i) ∧ f_X2_countFailure Y i (6 + 5 * i) 5 = Y (6 + 5 * i) 5 ∧ (f_X2_countFailure Y i (7 + 5 * i) 0 = Y (7 + 5 * i) 0 ∨ (f_X2_countFailure Y i (6 + 5 * i) 6 = Y (6 + 5 * i) 6 + nI 1 ∧ ∃ c : Nat, c < 5 ∧ Y (7 + 5 * i) 0 = nI (c + 1) ∧ f_X2_countFailure Y i (7 + 5 * i) 0 = nI c)) := by
  obtain ⟨n, hn⟩ : ∃ z, z = kN (Y (6 + 5 * i) 3) := ⟨_, rfl⟩
  have n1 : Y (6 + 5 * i) 3 = nI n := by rw [hn]; exact h3.1
  have n2 : n < 5 := by rw [hn]; exact h3.2
  have e3 : ub Y (6 + 5 * i) 3 (Y (6 + 5 * i) 3 + nI 1) (6 + 5 * i) 3 = nI (n + 1) := by rw [ub_blk, pk_us, n1, nI_add]
  by_cases h5 : n = 4
  · obtain ⟨Z, hZ⟩ : ∃ Z, Z = ub (ub Y (6 + 5 * i) 3 (Y (6 + 5 * i) 3 + nI 1)) (6 + 5 * i) 6 ((ub Y (6 + 5 * i) 3 (Y (6 + 5 * i) 3 + nI 1)) (6 + 5 * i) 6 + nI 1) := ⟨_, rfl⟩
    have e : f_X2_countFailure Y i = f_X2_startAfresh (f_X0_removeFirst Z i) i := by
      rw [f_X2_countFailure_d, e3, if_pos (by rw [h5]; decide), ← hZ]
    have zb : ∀ b, b ≠ 6 + 5 * i → Z b = Y b := fun b h => by rw [hZ, ub_ne _ _ _ h, ub_ne _ _ _ h]
    have za : ∀ a, a ≠ 3 → a ≠ 6 → Z (6 + 5 * i) a = Y (6 + 5 * i) a := fun a h1 h2 => by rw [hZ, ub_blk, pk_un h2, ub_blk, pk_un h1]
    have z6 : Z (6 + 5 * i) 6 = Y (6 + 5 * i) 6 + nI 1 := by rw [hZ, ub_blk, pk_us, ub_blk, pk_un (by decide)]
    obtain ⟨q1, ⟨c, c1, c2, c3⟩, q2⟩ := kRw_rem (S := Z) (i := i) (by unfold kRw1; rw [zb _ (by omega), zb _ (by omega), zb _ (by omega)]; exact hR.w) (by rw [zb _ (by omega)]; exact hp)
    rw [zb _ (by omega)] at c2
    obtain ⟨R, hR⟩ : ∃ R, R = f_X0_removeFirst Z i := ⟨_, rfl⟩
    rw [← hR] at q1 q2 c3 e
    rw [e, f_X2_startAfresh_d]
    refine ⟨⟨fun b h1 h2 h3 h4 => ?_, fun a h1 h2 h3 h4 => ?_, ?_, ?_, ?_⟩, ?_, Or.inr ⟨?_, c, c1, c2, ?_⟩⟩
    · rw [ub_ne _ _ _ h1, ub_ne _ _ _ h1, q2 b h2 h3 h4, zb b h1]
    · rw [ub_blk, pk_un h2, ub_blk, pk_un h1, q2 _ (by omega) (by omega) (by omega), za a h2 h4]
    · unfold kRw; simp (disch := omega) only [ub_ne]; exact q1
    · rw [ub_blk, pk_un (by decide), ub_blk, pk_us]; exact lw_W _
    · rw [ub_blk, pk_us]; exact sm_nI (by decide) (by decide)
    · rw [ub_blk, pk_un (by decide), ub_blk, pk_un (by decide), q2 _ (by omega) (by omega) (by omega), za 5 (by decide) (by decide)]
    · rw [ub_blk, pk_un (by decide), ub_blk, pk_un (by decide), q2 _ (by omega) (by omega) (by omega), z6]
    · rw [ub_ne _ _ _ (by omega), ub_ne _ _ _ (by omega)]; exact c3
  · rw [f_X2_countFailure_d, e3, if_neg (by rw [nI_leI (by decide) (by omega)]; omega)]
    refine ⟨⟨fun b h1 h2 h3 h4 => ?_, fun a h1 h2 h3 h4 => ?_, ?_, ?_, ?_⟩, ?_, Or.inl ?_⟩
    · rw [ub_ne _ _ _ h1, ub_ne _ _ _ h1]
    · rw [ub_blk, pk_un h1, ub_blk, pk_un h2]
    · unfold kRw; simp (disch := omega) only [ub_ne]; exact hR
    · rw [ub_blk, pk_us, ub_blk, pk_un (by decide)]; exact win_tab2 hW
    · rw [ub_blk, pk_un (by decide), e3]; exact sm_nI (by omega) (by decide)
    · rw [ub_blk, pk_un (by decide), ub_blk, pk_un (by decide)]
    · rw [ub_ne _ _ _ (by omega), ub_ne _ _ _ (by omega)]
theorem succ_step {i p j : Nat} {Y : Mem} (hR : kRw Y i) (hp : 0 < kN (Y (7 + 5 * i) 0)) (hp8 : Y (10 + 5 * i) 0 = nI p) (hp16 : p < 16) (hj : j < 16) : ES i Y (f_X2_countSuccess Y i (nI (gd p j))) ∧ f_X2_countSuccess Y i (nI (gd p j)) (6 + 5 * i) 5 = Y (6 + 5 * i) 5 + nI (ppc (gd p j)) ∧ f_X2_countSuccess Y i (nI (gd p j)) (6 + 5 * i) 6 = Y (6 + 5 * i) 6 ∧ f_X2_countSuccess Y i (nI (gd p j)) (6 + 5 * i) 3 = nI 0 ∧ (f_X2_countSuccess Y i (nI (gd p j)) (7 + 5 * i) 0 = Y (7 + 5 * i) 0 ∨ (ppc (gd p j) = ppc p ∧ ∃ c : Nat, c < 5 ∧ Y (7 + 5 * i) 0 = nI (c + 1) ∧ f_X2_countSuccess Y i (nI (gd p j)) (7 + 5 * i) 0 = nI c)) := by
  obtain ⟨t1, t2, t3, t4, t5, t6⟩ := gd_tab p hp16 j hj
  have ec : ¬ Y (7 + 5 * i) 0 ≤ 0 := by rw [hR.1.1]; exact nI_nle hp (by have := hR.1.2; omega)
  obtain ⟨U, hU⟩ : ∃ U, U = f_X2_startAfresh (f_X0_takeFromFirst (ub Y (6 + 5 * i) 5 ((Y (6 + 5 * i) 5) + (f_J6_bitCount_0f7a4 (nI (gd p j))))) i (nI (gd p j))) i := ⟨_, rfl⟩
  have eU : U = ub (ub (ub (ub Y (6 + 5 * i) 5 (Y (6 + 5 * i) 5 + nI (ppc (gd p j)))) (10 + 5 * i) 0 (nI (lf p j))) (6 + 5 * i) 1 (f_X5_leastWindow (Y (6 + 5 * i) 0))) (6 + 5 * i) 3 (nI 0) := by
    rw [hU, f_X2_startAfresh_d, f_X0_takeFromFirst_d, bc_eq _ t2]
    simp (disch := omega) only [ub_ne, ub_blk, pk_us, pk_un, if_neg ec, hp8, t4]
  have e : f_X2_countSuccess Y i (nI (gd p j)) = if f_X0_partsOfFirst U i = 0 then f_X0_removeFirst U i else U := by rw [f_X2_countSuccess_d, ← hU]
  have ub1 : ∀ b, b ≠ 6 + 5 * i → b ≠ 10 + 5 * i → U b = Y b := fun b h1 h2 => by rw [eU, ub_ne _ _ _ h1, ub_ne _ _ _ h1, ub_ne _ _ _ h2, ub_ne _ _ _ h1]
  have ua : ∀ a, a ≠ 1 → a ≠ 3 → a ≠ 5 → U (6 + 5 * i) a = Y (6 + 5 * i) a := fun a h1 h2 h3 => by rw [eU, ub_blk, pk_un h2, ub_blk, pk_un h1, ub_ne _ _ _ (by omega), ub_blk, pk_un h3]
  have u5 : U (6 + 5 * i) 5 = Y (6 + 5 * i) 5 + nI (ppc (gd p j)) := by rw [eU, ub_blk, pk_un (by decide), ub_blk, pk_un (by decide), ub_ne _ _ _ (by omega), ub_blk, pk_us]
  have u1 : kW (U (6 + 5 * i) 1) := by rw [eU, ub_blk, pk_un (by decide), ub_blk, pk_us]; exact lw_W _
  have u3 : U (6 + 5 * i) 3 = nI 0 := by rw [eU, ub_blk, pk_us]
  have u10 : U (10 + 5 * i) 0 = nI (lf p j) := by rw [eU, ub_ne _ _ _ (by omega), ub_ne _ _ _ (by omega), ub_blk, pk_us]
  have u10' : ∀ k, k ≠ 0 → U (10 + 5 * i) k = Y (10 + 5 * i) k := fun k hk => by rw [eU, ub_ne _ _ _ (by omega), ub_ne _ _ _ (by omega), ub_blk, pk_un hk, ub_ne _ _ _ (by omega)]
  have u7 : U (7 + 5 * i) = Y (7 + 5 * i) := ub1 _ (by omega) (by omega)
  have u9 : U (9 + 5 * i) = Y (9 + 5 * i) := ub1 _ (by omega) (by omega)
  have ep : f_X0_partsOfFirst U i = nI (lf p j) := by rw [f_X0_partsOfFirst_d, u7, if_neg ec, u10]
  rw [ep] at e
  have hR1 : kRw1 U i := by
    unfold kRw1
    rw [u7, u9]
    exact ⟨hR.1, fun k k0 hk => by rw [u10' k (by omega)]; exact hR.2 k hk⟩
  by_cases hl : nI (lf p j) = 0
  · rw [if_pos hl] at e
    have hl0 : lf p j = 0 := nI_inj (by omega) (by decide) (hl.trans nI0.symm)
    obtain ⟨q1, ⟨c, c1, c2, c3⟩, q2⟩ := kRw_rem hR1 (by rw [u7]; exact hp)
    rw [u7] at c2
    rw [e]
    have k6 : f_X0_removeFirst U i (6 + 5 * i) = U (6 + 5 * i) := q2 _ (by omega) (by omega) (by omega)
    exact ⟨⟨fun b h1 h2 h3 h4 => by rw [q2 b h2 h3 h4, ub1 b h1 h4], fun a h1 h2 h3 h4 => by rw [k6, ua a h1 h2 h3], q1, by rw [k6]; exact u1, by rw [k6, u3]; exact sm_nI (by decide) (by decide)⟩, by rw [k6, u5], by rw [k6, ua 6 (by decide) (by decide) (by decide)], by rw [k6, u3], Or.inr ⟨t6 hl0, c, c1, c2, c3⟩⟩
  · rw [if_neg hl] at e
    rw [e]
    refine ⟨⟨fun b h1 h2 h3 h4 => ub1 b h1 h4, fun a h1 h2 h3 h4 => ua a h1 h2 h3, ⟨by rw [u7]; exact hR.1, fun k hk => ?_⟩, u1, by rw [u3]; exact sm_nI (by decide) (by decide)⟩, u5, ua 6 (by decide) (by decide) (by decide), u3, Or.inl (by rw [u7])⟩
    rw [u7] at hk
    rw [u9]
    by_cases k0 : k = 0
    · subst k0
      rw [u10]
      exact ⟨(hR.2 0 hk).1, sm_nI t5 (by decide), hl⟩
    · rw [u10' k k0]
      exact hR.2 k hk
