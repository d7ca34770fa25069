theorem L3_step {t i : Nat} {S M : Mem} (hi : i < 6) (hGl : rGl t S M) (hSt : rSt S M) (hQu : rQu S M) (hP : PC t S M i) (h46 : ∀ j, j < 6 → S (6 + 5 * j) 4 = M 6 j) : ∃ e : Nat, (∀ n b, f_X5_passOneSlot_L3 (n + 1) i S b = f_X5_passOneSlot_L3 n (i + 1) (f_X5_passOneSlot_L3_b i S) (b + nI e)) ∧ (∀ n b, f_X6_passes_L3 (n + 1) i M b = f_X6_passes_L3 n (i + 1) (f_X6_passes_L3_b i M) (b + nI e)) ∧ St4 t i S M (f_X5_passOneSlot_L3_b i S) (f_X6_passes_L3_b i M) := by
  obtain ⟨hC, hR, hon, hcase, hwa, hwas⟩ := hP
  obtain ⟨g1, g2, g3, g4⟩ := id hGl
  have b0 : ∀ b : Int32, b + nI 0 = b := fun b => by rw [nI0, Int32.add_zero]
  have fr0 : ∀ j, j < 6 → j ≠ i → sameS S S j ∧ sameM M M j ∧ sil S S M M j := fun j _ _ => same_refl S M j
  have key : ∀ (e : Nat) (S' M' : Mem), f_X5_endsAfterSlot S i = (nI e, S') → e < 2 → (∀ n b, f_X6_passes_L3 (n + 1) i M b = f_X6_passes_L3 n (i + 1) M' (b + nI e)) → f_X6_passes_L3_b i M = M' → St4 t i S M S' M' → ∃ e : Nat, (∀ n b, f_X5_passOneSlot_L3 (n + 1) i S b = f_X5_passOneSlot_L3 n (i + 1) (f_X5_passOneSlot_L3_b i S) (b + nI e)) ∧ (∀ n b, f_X6_passes_L3 (n + 1) i M b = f_X6_passes_L3 n (i + 1) (f_X6_passes_L3_b i M) (b + nI e)) ∧ St4 t i S M (f_X5_passOneSlot_L3_b i S) (f_X6_passes_L3_b i M) := by
    intro e S' M' x1 x2 x3 x4 x5
    have x0 : f_X5_passOneSlot_L3_b i S = S' := by rw [f_X5_passOneSlot_L3_b_d, ite_self, x1]
    rw [x0, x4]
    refine ⟨e, fun n b => ?_, x3, x5⟩
    rw [f_X5_passOneSlot_L3_s, x1]
    rcases (show e = 0 ∨ e = 1 by omega) with q | q
    · subst q; rw [if_pos nI0, b0]
    · subst q; rw [if_neg nI1_ne]; rfl
  rcases hcase with hoff | ⟨h1, f, q, p, b, a1, a2, a3, a4, a5⟩
  · refine key 0 S M ?_ (by decide) (fun n b => ?_) ?_ ⟨hGl, hSt, hQu, ⟨hC, hR, hon, Or.inl hoff, hwa⟩, fr0⟩
    · rw [f_X5_endsAfterSlot_d, hon, hoff.1, if_pos nI0]
    · rw [f_X6_passes_L3_s, hwas, hoff.1, if_pos nI0, b0]
    · rw [f_X6_passes_L3_b_d, hwas, hoff.1, if_pos nI0]
  · obtain ⟨t1, t2, t3, t4, ⟨t5, t5'⟩, ⟨t6, t6'⟩, ⟨t7, t7'⟩, t8, t8'⟩ := id a1
    have hpc := ppc_pos p t4 t3
    have hp4 := ppc_le p t4
    have hw1 : M 11 i = nI 1 := by rw [hwas, h1]
    obtain ⟨r1, r2, r3⟩ := id hR
    obtain ⟨⟨k1, k2⟩, k3, k4, k5⟩ := r3 0 t1
    rw [Nat.add_zero] at k1 k2
    have ego : gof S i = kN (M 7 (5 * i)) := by
      unfold gof
      rw [goal_eq (r1.trans r2.1) t1 r2.2, k1]
    -- the sending ends now
    obtain ⟨X, hX⟩ : ∃ X, X = ub (ub S (8 + 5 * i) 0 (nI 0)) (6 + 5 * i) 8 (M 18 i) := ⟨_, rfl⟩
    have xa : ∀ a, a ≠ 8 → X (6 + 5 * i) a = S (6 + 5 * i) a := fun a h => by rw [hX, ub_blk, pk_un h, ub_ne _ _ _ (by omega)]
    have xb : ∀ b, b ≠ 6 + 5 * i → b ≠ 8 + 5 * i → X b = S b := fun b h1 h2 => by rw [hX, ub_ne _ _ _ h1, ub_ne _ _ _ h2]
    have xo : ∀ a, a ≠ 0 → X (8 + 5 * i) a = S (8 + 5 * i) a := fun a h => by rw [hX, ub_ne _ _ _ (by omega), ub_blk, pk_un h]
    have hCX : rCm X M i := by
      unfold rCm
      rw [xa 0 (by decide), xa 1 (by decide), xa 2 (by decide), xa 3 (by decide), xa 4 (by decide), xa 5 (by decide), xa 6 (by decide), xa 7 (by decide)]
      exact hC
    have hRX : rRw X M i := by
      unfold rRw
      rw [xb _ (by omega) (by omega), xb _ (by omega) (by omega), xb _ (by omega) (by omega)]
      exact hR
    have eX : ub (ub S (8 + 5 * i) 0 (nI 0)) (6 + 5 * i) 8 ((ub S (8 + 5 * i) 0 (nI 0)) (6 + 5 * i) 8 + f_X1_slotsUpTo (ub S (8 + 5 * i) 0 (nI 0)) i (nI t)) = X := by
      rw [hX, f_X1_slotsUpTo_d, ub_blk, pk_un (by decide), t5, pk_sub a2, nI_add, ub_ne _ _ _ (show 6 + 5 * i ≠ 8 + 5 * i by omega)]
      congr 1
      exact a4.symm
    have eend : f_X2_end S i (nI t) = if f_X1_arrivedParts X i = 0 then f_X2_countFailure X i else f_X2_countSuccess X i (f_X1_arrivedParts X i) := by
      rw [f_X2_end_d, eX]
    have fin : ∀ X' M', EndS i X X' M M' → St4 t i S M X' M' := fun X' M' h => end_fin hGl hSt hQu hC hwa hX h
    by_cases hrq : f = t ∧ q = 1
    · obtain ⟨e1, e2⟩ := hrq
      subst e1; subst e2
      have eR := isReq_yes (i := i) (X := S) t5 t6
      have eP := piece_req (i := i) (Y := M) g4 g3 t5' t6'
      rcases a5 with ⟨⟨b1, b2, b3, b4⟩, b5⟩ | ⟨-, -, b2, b3, b4⟩
      · have hb0 := b5 rfl rfl
        subst hb0
        obtain ⟨s1, s2, s3⟩ := sil_eq (g := kN (M 7 (5 * i))) (i := i) (x := nI (f + 1 + 2 * ppc p - 1)) k2.2 hi 6 0 S M (by omega) hSt t8' h46
        rw [← f_X5_silenceAround_d] at s1 s3
        rw [← f_X6_silences_d] at s1 s2
        have gS : ∀ j, j < 6 → sameS S (f_X5_silenceAround S (kN (M 7 (5 * i))) i (nI (f + 1 + 2 * ppc p - 1))) j := fun j hj => ⟨fun a ha => s3 _ a (Or.inl ha), funext fun a => s3 _ a (Or.inr fun _ _ => by omega), funext fun a => s3 _ a (Or.inr fun _ _ => by omega), funext fun a => s3 _ a (Or.inr fun _ _ => by omega), funext fun a => s3 _ a (Or.inr fun _ _ => by omega)⟩
        have gM : ∀ j, j < 6 → sameM M (f_X6_silences M i) j := fun j hj => ⟨fun b _ _ h _ _ => by rw [s2 b h], fun k hk => ⟨by rw [s2 7 (by decide)], by rw [s2 8 (by decide)]⟩⟩
        have m10 : f_X6_silences M i 10 i = nI 1 := by rw [s2 10 (by decide)]; exact h1
        have hPA : PA (f + 1) S M i := ⟨hC, hR, hon, Or.inr ⟨h1, f, 1, p, 0, a1, by omega, by omega, by rw [show f + 1 - f = f - f + 1 by omega]; exact a4, b1, b2, b3, b4⟩, hwa⟩
        refine key 0 (f_X5_silenceAround S (kN (M 7 (5 * i))) i (nI (f + 1 + 2 * ppc p - 1))) (f_X6_silences M i) ?_ (by decide) (fun n b => ?_) ?_ ⟨?_, ?_, ?_, PA_fr (gS i hi) (gM i hi) (fun _ => s1 i hi) hPA, fun j hj _ => ⟨gS j hj, gM j hj, fun _ => s1 j hj⟩⟩
        · rw [f_X5_endsAfterSlot_d, hon, h1, if_neg nI1_ne, g2, eR, if_neg nI1_ne, b2, if_pos nI0, ego, t8]
        · rw [f_X6_passes_L3_s, hw1, if_neg nI1_ne, eP, if_pos rfl, b4, if_pos (by decide), if_pos rfl, m10, if_neg nI1_ne]
        · rw [f_X6_passes_L3_b_d, hw1, if_neg nI1_ne, eP, if_pos rfl, b4, if_pos (by decide), if_pos rfl, ite_self]
        · unfold rGl
          rw [s3 0 0 (Or.inl (by decide)), s3 0 1 (Or.inl (by decide)), s2 0 (by decide)]
          exact hGl
        · unfold rSt
          rw [show f_X5_silenceAround S (kN (M 7 (5 * i))) i (nI (f + 1 + 2 * ppc p - 1)) 3 = S 3 from funext fun a => s3 _ a (Or.inr fun _ _ => by omega), s2 1 (by decide)]
          exact hSt
        · unfold rQu
          rw [show f_X5_silenceAround S (kN (M 7 (5 * i))) i (nI (f + 1 + 2 * ppc p - 1)) 4 = S 4 from funext fun a => s3 _ a (Or.inr fun _ _ => by omega), show f_X5_silenceAround S (kN (M 7 (5 * i))) i (nI (f + 1 + 2 * ppc p - 1)) 5 = S 5 from funext fun a => s3 _ a (Or.inr fun _ _ => by omega), s2 0 (by decide), s2 19 (by decide)]
          exact hQu
      · have hF := fail_step hCX hRX t1
        have m10 : f_X6_fails M i 10 i = nI 0 := hF.2.2.2.2.2.1
        refine key 1 (f_X2_countFailure X i) (f_X6_fails M i) ?_ (by decide) (fun n b => ?_) ?_ (fin _ _ hF)
        · rw [f_X5_endsAfterSlot_d, hon, h1, if_neg nI1_ne, g2, eR, if_neg nI1_ne, b2, if_neg nI1_ne, if_neg nI1_ne, eend, f_X1_arrivedParts_d, xo 4 (by decide), b2, if_neg nI1_ne, if_pos nI0]
        · rw [f_X6_passes_L3_s, hw1, if_neg nI1_ne, eP, if_pos rfl, b4, if_neg (by decide), m10, if_pos nI0]
        · rw [f_X6_passes_L3_b_d, hw1, if_neg nI1_ne, eP, if_pos rfl, b4, if_neg (by decide), ite_self]
    · have hn : f = t → q = 1 → False := fun e1 e2 => hrq ⟨e1, e2⟩
      have hfq : f + q ≤ t := by
        rcases (show q = 0 ∨ q = 1 by omega) with e | e
        · omega
        · rcases Nat.lt_or_ge f t with h | h
          · omega
          · exact absurd e (hn (by omega))
      have tab := (pbit_tab p t4 ((t - f - q) / 2) (by omega) (by omega)).2.2
      have eR := isReq_no (i := i) (X := S) g4 a2 t5 t6 t2 hn
      have eP := piece_part (i := i) (Y := M) g4 g3 t5' t6' t2 hfq t7' t4 a3 hpc
      have eP16 : ¬ f_X6_piece M i = nI 16 := by
        rw [eP]
        intro e
        have := nI_inj (by omega) (by decide) e
        omega
      rcases a5 with ⟨⟨b1, b2, b3, b4⟩, b5⟩ | ⟨c1, c2, -⟩
      · rcases Nat.lt_or_ge t (f + q + 2 * ppc p - 1) with hl | hl
        · have ne14 : ¬ M 0 1 = M 14 i := by
            rw [g3, t8']
            intro e
            have := nI_inj (by omega) (by omega) e
            omega
          refine key 0 S M ?_ (by decide) (fun n b => ?_) ?_ ⟨hGl, hSt, hQu, ⟨hC, hR, hon, Or.inr ⟨h1, f, q, p, b, a1, by omega, by omega, by rw [show t + 1 - f = t - f + 1 by omega]; exact a4, b1, b2, b3, b4⟩, hwa⟩, fr0⟩
          · rw [f_X5_endsAfterSlot_d, hon, h1, if_neg nI1_ne, g2, eR, if_pos nI0, if_pos nI0, t8, if_pos (nI_lt hl (by omega))]
          · rw [f_X6_passes_L3_s, hw1, if_neg nI1_ne, if_neg eP16, if_neg eP16, if_neg ne14, h1, if_neg nI1_ne]
          · rw [f_X6_passes_L3_b_d, hw1, if_neg nI1_ne, if_neg eP16, if_neg eP16, if_neg ne14, ite_self]
        · have el : t = f + q + 2 * ppc p - 1 := by omega
          have e14 : M 0 1 = M 14 i := by rw [g3, t8', ← el]
          have nlt : ¬ nI t < nI (f + q + 2 * ppc p - 1) := by rw [← el]; exact nI_nlt (Nat.le_refl _) (by omega)
          have gtab := gd_tab p t4 b b1
          have earr : f_X1_arrivedParts X i = nI (gdp p b) := by
            rw [f_X1_arrivedParts_d, xo 4 (by decide), b2, if_pos nI0, xo 5 (by decide), xo 6 (by decide), t7, b3]
            exact gtab.1
          have done : ∀ X', f_X2_end S i (nI t) = X' → EndS i X X' M (f_X6_ends M i) → ∃ e : Nat, (∀ n b, f_X5_passOneSlot_L3 (n + 1) i S b = f_X5_passOneSlot_L3 n (i + 1) (f_X5_passOneSlot_L3_b i S) (b + nI e)) ∧ (∀ n b, f_X6_passes_L3 (n + 1) i M b = f_X6_passes_L3 n (i + 1) (f_X6_passes_L3_b i M) (b + nI e)) ∧ St4 t i S M (f_X5_passOneSlot_L3_b i S) (f_X6_passes_L3_b i M) := by
            intro X' y1 y2
            have m10 : f_X6_ends M i 10 i = nI 0 := y2.2.2.2.2.2.1
            refine key 1 X' (f_X6_ends M i) ?_ (by decide) (fun n b => ?_) ?_ (fin _ _ y2)
            · rw [f_X5_endsAfterSlot_d, hon, h1, if_neg nI1_ne, g2, eR, if_pos nI0, if_pos nI0, t8, if_neg nlt, y1]
            · rw [f_X6_passes_L3_s, hw1, if_neg nI1_ne, if_neg eP16, if_neg eP16, if_pos e14, m10, if_pos nI0]
            · rw [f_X6_passes_L3_b_d, hw1, if_neg nI1_ne, if_neg eP16, if_neg eP16, if_pos e14, ite_self]
          rw [earr] at eend
          by_cases hg : nI (gdp p b) = 0
          · rw [if_pos hg] at eend
            refine done _ eend ?_
            rw [f_X6_ends_d, t7', b4, gtab.1, if_pos hg]
            exact fail_step hCX hRX t1
          · rw [if_neg hg] at eend
            exact done _ eend (succ_step hCX hRX t1 t7' t4 b4 b1 hg)
      · exact (hn c1 c2).elim
