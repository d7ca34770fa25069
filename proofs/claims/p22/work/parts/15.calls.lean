-- one slot
theorem L3_b {i e : Nat} {X Z : Mem} (h : f_X5_endsAfterSlot X i = (nI e, Z)) (he : e < 2) : f_X5_passOneSlot_L3_b i X = Z ∧ ∀ n b, f_X5_passOneSlot_L3 (n + 1) i X b = f_X5_passOneSlot_L3 n (i + 1) Z (b + nI e) := by
  refine ⟨by rw [f_X5_passOneSlot_L3_b_d, ite_self, h], fun n b => ?_⟩
  rw [f_X5_passOneSlot_L3_s, h]
  rcases (show e = 0 ∨ e = 1 by omega) with q | q
  · subst q; rw [if_pos nI0, nI0, Int32.add_zero]
  · subst q; rw [if_neg nI1_ne]; rfl
theorem eN_lt (t : Nat) (X : Mem) (i : Nat) : eN t X i < 2 := by unfold eN; split <;> decide
theorem ph3 {t : Nat} {S : Mem} (h : I0 t S) (ht : t + 1 < 100000) : ∀ i, i ≤ 6 → kG (t + 1) S (ct3 S i) ∧ ∀ j, j < 6 → (j < i → RD t S (ct3 S i) j) ∧ (i ≤ j → RC t S (ct3 S i) j)
  | 0, _ => by
    rw [ct3_0]
    obtain ⟨h1, h4⟩ := ph2 h ht 6 (Nat.le_refl _)
    exact ⟨h1, fun j hj => ⟨fun hh => absurd hh (by omega), fun _ => (h4 j hj).1 hj⟩⟩
  | i + 1, hi => by
    obtain ⟨h1, h4⟩ := ph3 h ht i (by omega)
    obtain ⟨Z, z0, z1, z2, z3⟩ := L3_step ht (show i < 6 by omega) h1 (h.2.2.2 i (by omega)) ((h4 i (by omega)).2 (Nat.le_refl _))
    rw [ct3_s, (L3_b z0 (eN_lt _ _ _)).1]
    refine ⟨z1, fun j hj => ⟨fun k1 => ?_, fun k1 => ?_⟩⟩
    · by_cases e : j = i
      · subst e; exact z2
      · obtain ⟨a, b⟩ := z3 j hj e
        exact RD_fr a b ((h4 j hj).1 (by omega))
    · obtain ⟨a, b⟩ := z3 j hj (by omega)
      exact RC_fr a b ((h4 j hj).2 (by omega))
theorem ct3_step {t i : Nat} {S : Mem} (h : I0 t S) (ht : t + 1 < 100000) (hi : i < 6) : f_X5_endsAfterSlot (ct3 S i) i = (nI (eN t (ct3 S (i + 1)) i), ct3 S (i + 1)) ∧ ∀ j, j < 6 → j ≠ i → sameS (ct3 S i) (ct3 S (i + 1)) j := by
  obtain ⟨h1, h4⟩ := ph3 h ht i (by omega)
  obtain ⟨Z, z0, z1, z2, z3⟩ := L3_step ht hi h1 (h.2.2.2 i hi) ((h4 i hi).2 (Nat.le_refl _))
  have e : ct3 S (i + 1) = Z := by rw [ct3_s, (L3_b z0 (eN_lt _ _ _)).1]
  rw [e]
  exact ⟨z0, fun j hj hji => (z3 j hj hji).1⟩
theorem ct3_keep {t i : Nat} {S : Mem} (h : I0 t S) (ht : t + 1 < 100000) (hi : i < 6) : ∀ m, i + 1 + m ≤ 6 → eN t (ct3 S (i + 1 + m)) i = eN t (ct3 S (i + 1)) i
  | 0, _ => rfl
  | m + 1, hm => by
    have ih := ct3_keep h ht hi m (by omega)
    obtain ⟨f6, -, f8, -, -⟩ := (ct3_step h ht (show i + 1 + m < 6 by omega)).2 i hi (by omega)
    rw [← ih, ← Nat.add_assoc]
    unfold eN
    rw [f6 9 (by decide), f8]
def eS (t : Nat) (X : Mem) : Nat → Nat
  | 0 => 0
  | k + 1 => eS t X k + eN t X k
theorem ph_acc {t : Nat} {S : Mem} (h : I0 t S) (ht : t + 1 < 100000) : ∀ n i, i + n = 6 → f_X5_passOneSlot_L3 n i (ct3 S i) (nI (eS t (ct3 S 6) i)) = (nI (eS t (ct3 S 6) 6), ct3 S 6)
  | 0, i, hi => by
    have e : i = 6 := by omega
    subst e
    rfl
  | n + 1, i, hi => by
    obtain ⟨z0, -⟩ := ct3_step h ht (show i < 6 by omega)
    have e : eN t (ct3 S 6) i = eN t (ct3 S (i + 1)) i := by
      have := ct3_keep h ht (show i < 6 by omega) n (by omega)
      rw [show i + 1 + n = 6 by omega] at this
      exact this
    rw [(L3_b z0 (eN_lt _ _ _)).2, nI_add, ← e]
    exact ph_acc h ht n (i + 1) (by omega)
theorem slot_ok {t : Nat} {S : Mem} (h : I0 t S) (ht : t + 1 < 100000) : pOK S ∧ f_X5_passOneSlot S = (nI (eS t (ct3 S 6) 6), ct3 S 6) ∧ I0 (t + 1) (ct3 S 6) ∧ ct3 S 6 3 = S 3 ∧ ∀ j, j < 6 → RD t S (ct3 S 6) j := by
  obtain ⟨h1, h4⟩ := ph3 h ht 6 (Nat.le_refl _)
  obtain ⟨g1, g2, g3, g4⟩ := h1
  refine ⟨⟨fun i hi => ?_, fun i hi hn => ?_, fun i hi hn => ?_⟩, ?_, ⟨⟨by rw [g1]; exact h.1.1, g2, ht⟩, fun a ha => by rw [g3]; exact h.2.1 a ha, g4, fun j hj => ((h4 j hj).1 hj).1⟩, g3, fun j hj => (h4 j hj).1 hj⟩
  · exact (ph1 h ht i (by omega)).1.2.2.2.1
  · exact RB_gOK (h.2.2.2 i hi) (((ph2 h ht i (by omega)).2 i hi).2 (Nat.le_refl _)) hn
  · exact RC_gOK (h.2.2.2 i hi) (((ph3 h ht i (by omega)).2 i hi).2 (Nat.le_refl _)) hn
  · rw [cSlot]
    exact ph_acc h ht 6 0 rfl
theorem pass_eq {S X : Mem} {b : Int32} (h : f_X5_passOneSlot S = (b, X)) : f_X5_pass S 1 = (nI 0 + b, X) := by
  rw [f_X5_pass_d, f_X5_pass_L1_s, f_X5_pass_L1_z, h]
theorem pass_ok {t : Nat} {S : Mem} (h : I0 t S) (ht : t + 1 < 100000) : (∀ j, j < 1 → pOK (ctp S j)) ∧ f_X5_pass S 1 = (nI (eS t (ct3 S 6) 6), ct3 S 6) := by
  obtain ⟨h1, h2, -⟩ := slot_ok h ht
  refine ⟨fun j hj => ?_, ?_⟩
  · have e : j = 0 := by omega
    subst e
    rw [ctp_0]; exact h1
  · rw [pass_eq h2, nI_add, Nat.zero_add]
-- the other calls
theorem IA_same {t : Nat} {X Y : Mem} {j : Nat} (h : sameT X Y j) (hI : IA t X j) : IA t Y j := by
  obtain ⟨e6, e7, e8, e9, e10⟩ := h
  exact IA_fr ⟨fun a _ => by rw [e6], e7, e8, e9, e10⟩ (fun h => by rw [e6]; exact h) hI
theorem sameT_of {X Y : Mem} {j : Nat} (h : ∀ b, 6 ≤ b → Y b = X b) : sameT X Y j := ⟨h _ (by omega), h _ (by omega), h _ (by omega), h _ (by omega), h _ (by omega)⟩
theorem k_setStrength {t a b : Nat} {v : Int32} {S : Mem} (h : I0 t S) (ha : a < 6) (hb : b < 6) (hab : a ≠ b) : f_X5_setStrength S a b v = (S 3 (a * 6 + b), ub (ub S 3 (a * 6 + b) v) 3 (b * 6 + a) v) ∧ I0 t (ub (ub S 3 (a * 6 + b) v) 3 (b * 6 + a) v) := by
  refine ⟨by rw [f_X5_setStrength_d, f_X3_between_d, f_X3_put_d], ⟨?_, fun c hc => ?_, ?_, fun j hj => IA_same (sameT_of fun b hb => ?_) (h.2.2.2 j hj)⟩⟩
  · unfold kGl; rw [ub_ne _ _ _ (by decide), ub_ne _ _ _ (by decide)]; exact h.1
  · rw [ub_blk, pk_un (by omega), ub_blk, pk_un (by omega)]; exact h.2.1 c hc
  · unfold kQu; simp (disch := decide) only [ub_ne]; exact h.2.2.1
  · rw [ub_ne _ _ _ (by omega), ub_ne _ _ _ (by omega)]
theorem k_setReserve {t r : Nat} {S : Mem} (h : I0 t S) (hr : r < 6) (hr0 : 0 < r) : f_X5_setReserve S (nI r) = (S 0 0, ub S 0 0 (nI r)) ∧ I0 t (ub S 0 0 (nI r)) := by
  refine ⟨by rw [f_X5_setReserve_d], ⟨⟨?_, ?_, h.1.2.2⟩, fun c hc => ?_, ?_, fun j hj => IA_same (sameT_of fun b hb => ?_) (h.2.2.2 j hj)⟩⟩
  · rw [ub_blk, pk_us, kN_nI (by omega)]; exact ⟨sm_nI hr (by decide), hr0⟩
  · rw [ub_blk, pk_un (by decide)]; exact h.1.2.1
  · rw [ub_ne _ _ _ (by decide)]; exact h.2.1 c hc
  · unfold kQu; simp (disch := decide) only [ub_ne]; exact h.2.2.1
  · rw [ub_ne _ _ _ (by omega)]
theorem k_setClass {t i : Nat} {y : Int32} {S : Mem} (h : I0 t S) (hi : i < 6) : f_X5_setClass S i y = (S (6 + 5 * i) 0, ub (ub S (6 + 5 * i) 0 y) (6 + 5 * i) 1 (f_X5_leastWindow y)) ∧ I0 t (ub (ub S (6 + 5 * i) 0 y) (6 + 5 * i) 1 (f_X5_leastWindow y)) := by
  refine ⟨by rw [f_X5_setClass_d], ⟨?_, fun c hc => ?_, ?_, fun j hj => ?_⟩⟩
  · unfold kGl; simp (disch := omega) only [ub_ne]; exact h.1
  · simp (disch := omega) only [ub_ne]; exact h.2.1 c hc
  · unfold kQu; simp (disch := omega) only [ub_ne]; exact h.2.2.1
  · have hI := h.2.2.2 j hj
    by_cases e : j = i
    · subst e
      obtain ⟨⟨c1, c2⟩, c3⟩ := hI
      refine ⟨⟨?_, ?_⟩, ?_⟩
      · rw [ub_blk, pk_us]; exact lw_W _
      · simp (disch := omega) only [ub_blk, pk_un]; exact c2
      · unfold kRw kWt kLs kAr kTm at c3 ⊢
        simp (disch := omega) only [ub_ne, ub_blk, pk_un]
        exact c3
    · exact IA_same ⟨by simp (disch := omega) only [ub_ne], by simp (disch := omega) only [ub_ne], by simp (disch := omega) only [ub_ne], by simp (disch := omega) only [ub_ne], by simp (disch := omega) only [ub_ne]⟩ hI
theorem k_tell {t v : Nat} {S : Mem} (h : I0 t S) (hv : v < 1001) (hn : kN (S 4 1) < 200) : ∃ Z : Mem, f_X5_tell S (nI v) = (nI (kN (S 4 1) + 1), Z) ∧ I0 t Z ∧ ∀ b, b ≠ 4 → b ≠ 5 → Z b = S b := by
  obtain ⟨q1, q2, q3⟩ := h.2.2.1
  have fin : ∀ (k : Nat), ∃ Z : Mem, Z = ub (ub S 5 k (nI v)) 4 1 (((ub S 5 k (nI v)) 4 1) + (nI 1)) ∧ Z 4 1 = nI (kN (S 4 1) + 1) ∧ I0 t Z ∧ ∀ b, b ≠ 4 → b ≠ 5 → Z b = S b := fun k => by
    have e41 : ub S 5 k (nI v) 4 1 + nI 1 = nI (kN (S 4 1) + 1) := by
      rw [ub_ne _ _ _ (by decide)]
      conv => lhs; rw [q2.1]
      rw [nI_add]
    refine ⟨_, rfl, by rw [ub_blk, pk_us, e41], ⟨?_, fun c hc => ?_, ⟨?_, ?_, fun j hj => ?_⟩, fun j hj => IA_same (sameT_of fun b hb => ?_) (h.2.2.2 j hj)⟩, fun b h4 h5 => by rw [ub_ne _ _ _ h4, ub_ne _ _ _ h5]⟩
    · unfold kGl; simp (disch := omega) only [ub_ne]; exact h.1
    · simp (disch := omega) only [ub_ne]; exact h.2.1 c hc
    · rw [ub_blk, pk_un (by decide), ub_ne _ _ _ (by decide)]; exact q1
    · rw [ub_blk, pk_us, e41]; exact sm_nI (by omega) (by decide)
    · rw [ub_ne _ _ _ (by decide), ub_blk]
      by_cases e : j = k
      · subst e; rw [pk_us]; exact sm_nI hv (by decide)
      · rw [pk_un e]; exact q3 j hj
    · rw [ub_ne _ _ _ (by omega), ub_ne _ _ _ (by omega)]
  rw [f_X5_tell_d, f_X4_add_d]
  by_cases hh : nI (kN (S 4 0) + kN (S 4 1)) < nI 200
  · rw [if_pos hh]
    obtain ⟨Z, z0, z1, z2⟩ := fin (kN (S 4 0) + kN (S 4 1))
    rw [← z0]
    exact ⟨Z, by rw [z1], z2⟩
  · rw [if_neg hh]
    obtain ⟨Z, z0, z1, z2⟩ := fin (kN (S 4 0) + kN (S 4 1) - 200)
    rw [← z0]
    exact ⟨Z, by rw [z1], z2⟩
theorem par_tab : ∀ v, v < 5 → 0 < v → (nI 1) <<< (nI v &&& 31) - nI 1 = nI (2 ^ v - 1) ∧ 2 ^ v - 1 < 16 ∧ ¬ nI (2 ^ v - 1) = 0 := by decide +kernel
theorem k_frame {t a g v : Nat} {S : Mem} (h : I0 t S) (ha : a < 6) (hg : g < 6) (hv : v < 5) (hv0 : 0 < v) (hc : kN (S (7 + 5 * a) 0) < 5) : ∃ Z : Mem, f_X5_frame S a g (nI v) = (nI (kN (S (7 + 5 * a) 0) + 1), Z) ∧ I0 t Z ∧ (∀ b, b ≠ 7 + 5 * a → b ≠ 9 + 5 * a → b ≠ 10 + 5 * a → Z b = S b) ∧ Z (7 + 5 * a) 0 = nI (kN (S (7 + 5 * a) 0) + 1) ∧ (kN (S (7 + 5 * a) 0) = 0 → Z (10 + 5 * a) 0 = nI (2 ^ v - 1)) := by
  obtain ⟨p1, p2, p3⟩ := par_tab v hv hv0
  obtain ⟨iC, iR, iW, iL, iX⟩ := h.2.2.2 a ha
  obtain ⟨c, hcc⟩ : ∃ c, c = kN (S (7 + 5 * a) 0) := ⟨_, rfl⟩
  have hc7 : S (7 + 5 * a) 0 = nI c := by rw [hcc]; exact iR.1.1
  obtain ⟨Z, hZ⟩ : ∃ Z, Z = f_X0_add S a (nI g) (nI v) := ⟨_, rfl⟩
  have eZ : Z = ub (ub (ub S (9 + 5 * a) c (nI g)) (10 + 5 * a) c (nI (2 ^ v - 1))) (7 + 5 * a) 0 (nI (c + 1)) := by
    rw [hZ, f_X0_add_d, p1, ← hcc, ub_ne _ _ _ (show 7 + 5 * a ≠ 10 + 5 * a by omega), ub_ne _ _ _ (show 7 + 5 * a ≠ 9 + 5 * a by omega), hc7, nI_add]
  have z7 : Z (7 + 5 * a) 0 = nI (c + 1) := by rw [eZ, ub_blk, pk_us]
  have z9 : ∀ k, Z (9 + 5 * a) k = if k = c then nI g else S (9 + 5 * a) k := fun k => by rw [eZ, ub_ne _ _ _ (by omega), ub_ne _ _ _ (by omega), ub_blk, upd]
  have z10 : ∀ k, Z (10 + 5 * a) k = if k = c then nI (2 ^ v - 1) else S (10 + 5 * a) k := fun k => by rw [eZ, ub_ne _ _ _ (by omega), ub_blk, upd, ub_ne _ _ _ (by omega)]
  have zb : ∀ b, b ≠ 7 + 5 * a → b ≠ 9 + 5 * a → b ≠ 10 + 5 * a → Z b = S b := fun b h1 h2 h3 => by rw [eZ, ub_ne _ _ _ h1, ub_ne _ _ _ h3, ub_ne _ _ _ h2]
  have hRZ : kRw Z a := by
    refine ⟨by rw [z7]; exact sm_nI (by omega) (by decide), fun k hk => ?_⟩
    rw [z7, kN_nI (by omega)] at hk
    rw [z9, z10]
    by_cases e : k = c
    · rw [if_pos e, if_pos e]
      exact ⟨sm_nI hg (by decide), sm_nI p2 (by decide), p3⟩
    · rw [if_neg e, if_neg e]
      exact iR.2 k (by rw [← hcc]; omega)
  rw [f_X5_frame_d, ← hZ, ← hcc]
  refine ⟨Z, by rw [z7], ⟨?_, fun c hc => ?_, ?_, fun j hj => ?_⟩, zb, z7, fun h0 => by rw [z10, if_pos h0.symm]⟩
  · unfold kGl; rw [zb 0 (by omega) (by omega) (by omega)]; exact h.1
  · rw [zb 3 (by omega) (by omega) (by omega)]; exact h.2.1 c hc
  · unfold kQu; rw [zb 4 (by omega) (by omega) (by omega), zb 5 (by omega) (by omega) (by omega)]; exact h.2.2.1
  · by_cases e : j = a
    · subst e
      have z6 := zb (6 + 5 * j) (by omega) (by omega) (by omega)
      have z8 := zb (8 + 5 * j) (by omega) (by omega) (by omega)
      refine ⟨by unfold kC; rw [z6]; exact iC, hRZ, ?_, by unfold kLs; rw [z6]; exact iL, ?_⟩
      · unfold kWt; rw [z6, z7, z8, kN_nI (by omega)]
        rcases iW with w | ⟨w1, w2, w3⟩
        · exact Or.inl w
        · exact Or.inr ⟨w1, by omega, w3⟩
      · obtain ⟨d, e, x, x1, x2, x3⟩ := iX
        refine ⟨d, e, x, by unfold kAr; rw [z6]; exact x1, x2, ?_⟩
        rw [z8]
        rcases x3 with x3 | ⟨x3, f, q, p, x4, x5, x6⟩
        · exact Or.inl x3
        · refine Or.inr ⟨x3, f, q, p, ?_, x5, x6⟩
          obtain ⟨y1, y2⟩ := x4
          unfold kTm
          rw [z7, z8, z10, kN_nI (by omega), if_neg (by rw [hcc]; omega)]
          exact ⟨by omega, y2⟩
    · exact IA_same ⟨zb _ (by omega) (by omega) (by omega), zb _ (by omega) (by omega) (by omega), zb _ (by omega) (by omega) (by omega), zb _ (by omega) (by omega) (by omega), zb _ (by omega) (by omega) (by omega)⟩ (h.2.2.2 j hj)
