-- the three rounds over the stations
def Inv (P Q : Mem → Mem → Nat → Prop) (i : Nat) (S M : Mem) : Prop := ∀ j, j < 6 → (j < i → Q S M j) ∧ (i ≤ j → P S M j)
def Fr (P : Mem → Mem → Nat → Prop) : Prop := ∀ S S' M M' j, sameS S S' j → sameM M M' j → sil S S' M M' j → P S M j → P S' M' j
theorem Inv_s {P Q : Mem → Mem → Nat → Prop} (hP : Fr P) (hQ : Fr Q) {i : Nat} {S M S' M' : Mem} (h : Inv P Q i S M) (hi : Q S' M' i) (fr : ∀ j, j < 6 → j ≠ i → sameS S S' j ∧ sameM M M' j ∧ sil S S' M M' j) : Inv P Q (i + 1) S' M' := by
  intro j hj
  refine ⟨fun h1 => ?_, fun h1 => ?_⟩
  · by_cases e : j = i
    · subst e; exact hi
    · obtain ⟨a, b, c⟩ := fr j hj e
      exact hQ _ _ _ _ _ a b c ((h j hj).1 (by omega))
  · obtain ⟨a, b, c⟩ := fr j hj (by omega)
    exact hP _ _ _ _ _ a b c ((h j hj).2 (by omega))
theorem Inv_6 {P Q R : Mem → Mem → Nat → Prop} {S M : Mem} (h : Inv P Q 6 S M) : Inv Q R 0 S M := fun j hj => ⟨fun h => absurd h (by omega), fun _ => (h j hj).1 hj⟩
def Ph (P Q : Mem → Mem → Nat → Prop) (t i : Nat) (S M : Mem) : Prop := rGl t S M ∧ rSt S M ∧ rQu S M ∧ Inv P Q i S M
theorem fA_ (t : Nat) : Fr (PA t) := fun _ _ _ _ _ a b c h => PA_fr a b c h
theorem fB_ (t : Nat) : Fr (PB t) := fun _ _ _ _ _ a b c h => PB_fr a b c h
theorem fC_ (t : Nat) : Fr (PC t) := fun _ _ _ _ _ a b c h => PC_fr a b c h
theorem ph1 {t : Nat} {S M : Mem} (h : Rel t S M) (ht : t + 1 < 100000) : ∀ i, i ≤ 6 → Ph (PA (t + 1)) (PB (t + 1)) (t + 1) i (ct1 S i) (mt1 M i)
  | 0, _ => by
    rw [ct1_0, mt1_0]
    obtain ⟨⟨g1, g2, g3, g4⟩, h2, h3, h4⟩ := h
    refine ⟨⟨?_, ?_, ?_, ht⟩, ?_, ?_, fun j hj => ⟨fun hh => absurd hh (by omega), fun _ => PA_fr ⟨fun a _ => ?_, ?_, ?_, ?_, ?_⟩ ⟨fun b b1 _ _ _ _ => ?_, fun k hk => ⟨?_, ?_⟩⟩ (fun hh => ?_) (h4 j hj)⟩⟩
    · rw [ub_blk, pk_un (by decide), ub_blk, pk_un (by decide)]; exact g1
    · rw [ub_blk, pk_us, g2, nI_add]
    · rw [ub_blk, pk_us, g3, nI_add]
    · unfold rSt; rw [ub_ne _ _ _ (by decide), ub_ne _ _ _ (by decide)]; exact h2
    · unfold rQu; simp (disch := decide) only [ub_ne, ub_blk, pk_un]; exact h3
    · rw [ub_ne _ _ _ (by omega)]
    · rw [ub_ne _ _ _ (by omega)]
    · rw [ub_ne _ _ _ (by omega)]
    · rw [ub_ne _ _ _ (by omega)]
    · rw [ub_ne _ _ _ (by omega)]
    · rw [ub_ne _ _ _ (by omega)]
    · rw [ub_ne _ _ _ (by omega)]
    · rw [ub_ne _ _ _ (by omega)]
    · rw [ub_ne _ _ _ (by omega), ub_ne _ _ _ (by omega)]; exact hh
  | i + 1, hi => by
    obtain ⟨h1, h2, h3, h4⟩ := ph1 h ht i (by omega)
    have hW : ∀ j, j < 6 → rWa (t + 1) (ct1 S i) (mt1 M i) j := fun j hj => by
      rcases Nat.lt_or_ge j i with q | q
      · exact ((h4 j hj).1 q).2.2.2.2
      · exact ((h4 j hj).2 q).2.2.2.2
    obtain ⟨z1, z2, z3, z4, z5⟩ := L1_step (by omega) (show i < 6 by omega) h1 h1.1.2 h2 h3 ((h4 i (by omega)).2 (Nat.le_refl _)) hW
    rw [ct1_s, mt1_s]
    exact ⟨z1, z2, z3, Inv_s (fA_ _) (fB_ _) h4 z4 z5⟩
theorem ph2 {t : Nat} {S M : Mem} (h : Rel t S M) (ht : t + 1 < 100000) : ∀ i, i ≤ 6 → Ph (PB (t + 1)) (PC (t + 1)) (t + 1) i (ct2 S i) (mt2 M i)
  | 0, _ => by
    rw [ct2_0, mt2_0]
    obtain ⟨h1, h2, h3, h4⟩ := ph1 h ht 6 (Nat.le_refl _)
    exact ⟨h1, h2, h3, Inv_6 h4⟩
  | i + 1, hi => by
    obtain ⟨h1, h2, h3, h4⟩ := ph2 h ht i (by omega)
    have hO : ∀ j, j < 6 → ct2 S i (8 + 5 * j) 0 = mt2 M i 10 j := fun j hj => by
      rcases Nat.lt_or_ge j i with q | q
      · exact ((h4 j hj).1 q).2.2.1
      · exact ((h4 j hj).2 q).2.2.1
    obtain ⟨z1, z2, z3, z4, z5⟩ := L2_step (by omega) (show i < 6 by omega) h1 h2 h3 ((h4 i (by omega)).2 (Nat.le_refl _)) hO
    rw [ct2_s, mt2_s]
    exact ⟨z1, z2, z3, Inv_s (fB_ _) (fC_ _) h4 z4 z5⟩
theorem ph46 {t i : Nat} {S M : Mem} (h4 : Inv (PC t) (PA (t + 1)) i S M) : ∀ j, j < 6 → S (6 + 5 * j) 4 = M 6 j := fun j hj => by
  rcases Nat.lt_or_ge j i with q | q
  · exact ((h4 j hj).1 q).1.2.2.2.2.1
  · exact ((h4 j hj).2 q).1.2.2.2.2.1
theorem ph3 {t : Nat} {S M : Mem} (h : Rel t S M) (ht : t + 1 < 100000) : ∀ i, i ≤ 6 → Ph (PC (t + 1)) (PA (t + 1 + 1)) (t + 1) i (ct3 S i) (mt3 M i)
  | 0, _ => by
    rw [ct3_0, mt3_0]
    obtain ⟨h1, h2, h3, h4⟩ := ph2 h ht 6 (Nat.le_refl _)
    exact ⟨h1, h2, h3, Inv_6 h4⟩
  | i + 1, hi => by
    obtain ⟨h1, h2, h3, h4⟩ := ph3 h ht i (by omega)
    obtain ⟨e, -, -, z1, z2, z3, z4, z5⟩ := L3_step (show i < 6 by omega) h1 h2 h3 ((h4 i (by omega)).2 (Nat.le_refl _)) (ph46 h4)
    rw [ct3_s, mt3_s]
    exact ⟨z1, z2, z3, Inv_s (fC_ _) (fA_ _) h4 z4 z5⟩
theorem ph_acc {t : Nat} {S M : Mem} (h : Rel t S M) (ht : t + 1 < 100000) : ∀ n i, i + n = 6 → ∀ b, ∃ b', f_X5_passOneSlot_L3 n i (ct3 S i) b = (b', ct3 S 6) ∧ f_X6_passes_L3 n i (mt3 M i) b = (b', mt3 M 6)
  | 0, i, hi, b => by
    have e : i = 6 := by omega
    subst e
    exact ⟨b, rfl, rfl⟩
  | n + 1, i, hi, b => by
    obtain ⟨h1, h2, h3, h4⟩ := ph3 h ht i (by omega)
    obtain ⟨e, x1, x2, -⟩ := L3_step (show i < 6 by omega) h1 h2 h3 ((h4 i (by omega)).2 (Nat.le_refl _)) (ph46 h4)
    rw [x1, x2, ← ct3_s, ← mt3_s]
    exact ph_acc h ht n (i + 1) (by omega) _
theorem cL1 (S : Mem) : ∀ n i, i + n = 6 → f_X5_passOneSlot_L1 n i (ct1 S i) = f_X5_passOneSlot_L2 6 0 (ct1 S 6)
  | 0, i, hi => by
    have e : i = 6 := by omega
    subst e
    rfl
  | n + 1, i, hi => by
    rw [f_X5_passOneSlot_L1_s, ← f_X5_passOneSlot_L1_b_d, ← ct1_s]
    exact cL1 S n (i + 1) (by omega)
theorem cL2 (S : Mem) : ∀ n i, i + n = 6 → f_X5_passOneSlot_L2 n i (ct2 S i) = f_X5_passOneSlot_L3 6 0 (ct2 S 6) (nI 0)
  | 0, i, hi => by
    have e : i = 6 := by omega
    subst e
    rfl
  | n + 1, i, hi => by
    rw [f_X5_passOneSlot_L2_s, ← f_X5_passOneSlot_L2_b_d, ← ct2_s]
    exact cL2 S n (i + 1) (by omega)
theorem mL1 (S : Mem) : ∀ n i, i + n = 6 → f_X6_passes_L1 n i (mt1 S i) = f_X6_passes_L2 6 0 (mt1 S 6)
  | 0, i, hi => by
    have e : i = 6 := by omega
    subst e
    rfl
  | n + 1, i, hi => by
    have ih := mL1 S n (i + 1) (by omega)
    rw [mt1_s, f_X6_passes_L1_b_d] at ih
    simp only [apply_ite (f_X6_passes_L1 n (i + 1))] at ih
    rw [f_X6_passes_L1_s]
    exact ih
theorem mL2 (S : Mem) : ∀ n i, i + n = 6 → f_X6_passes_L2 n i (mt2 S i) = f_X6_passes_L3 6 0 (mt2 S 6) (nI 0)
  | 0, i, hi => by
    have e : i = 6 := by omega
    subst e
    rfl
  | n + 1, i, hi => by
    have ih := mL2 S n (i + 1) (by omega)
    rw [mt2_s, f_X6_passes_L2_b_d] at ih
    simp only [apply_ite (f_X6_passes_L2 n (i + 1))] at ih
    rw [f_X6_passes_L2_s]
    exact ih
theorem cSlot (S : Mem) : f_X5_passOneSlot S = f_X5_passOneSlot_L3 6 0 (ct3 S 0) (nI 0) := by
  have h1 := cL1 S 6 0 rfl
  have h2 := cL2 S 6 0 rfl
  rw [ct1_0] at h1
  rw [ct2_0] at h2
  rw [f_X5_passOneSlot_d, h1, h2, ct3_0]
theorem mSlot (S : Mem) : f_X6_passes S = f_X6_passes_L3 6 0 (mt3 S 0) (nI 0) := by
  have h1 := mL1 S 6 0 rfl
  have h2 := mL2 S 6 0 rfl
  rw [mt1_0] at h1
  rw [mt2_0] at h2
  rw [f_X6_passes_d, h1, h2, mt3_0]
theorem row_gOK {S M : Mem} {i : Nat} (h : rRw S M i) (hp : 0 < kN (M 9 i)) : gOK S i := by
  obtain ⟨⟨k1, k2⟩, -⟩ := h.2.2 0 hp
  rw [Nat.add_zero] at k1 k2
  have e := goal_eq (h.1.trans h.2.1.1) hp h.2.1.2
  unfold gOK gof
  rw [e, k1]
  exact k2
theorem row_mGo {S M : Mem} {i : Nat} (h : rRw S M i) (hp : 0 < kN (M 9 i)) : mGo M i ∧ mFr M i := by
  obtain ⟨⟨k1, k2⟩, -⟩ := h.2.2 0 hp
  rw [Nat.add_zero] at k1 k2
  exact ⟨k2, h.2.1.1, Nat.le_of_lt_succ h.2.1.2⟩
theorem pr_fin {x y : Int32 × Mem} {b : Int32} {s m : Mem} (h : x = (b, s)) (h' : y = (b, m)) (P : Mem → Mem → Prop) (hp : P s m) : x.1 = y.1 ∧ P x.2 y.2 := by
  subst h
  subst h'
  exact ⟨rfl, hp⟩
theorem slot_step {t : Nat} {S M : Mem} (h : Rel t S M) (ht : t + 1 < 100000) : pOK S ∧ qOK M ∧ (f_X5_passOneSlot S).1 = (f_X6_passes M).1 ∧ Rel (t + 1) (f_X5_passOneSlot S).2 (f_X6_passes M).2 := by
  refine ⟨⟨fun i hi => ?_, fun i hi hn => ?_, fun i hi hn => ?_⟩, ⟨fun i hi => ⟨?_, ?_⟩, fun i hi hn => ?_, fun i hi hn => ?_⟩, ?_⟩
  · exact (ph1 h ht i (by omega)).2.2.1.1
  · obtain ⟨h1, h2, h3, h4⟩ := ph2 h ht i (by omega)
    obtain ⟨a1, a2, a3, a4, a5⟩ := (h4 i hi).2 (Nat.le_refl _)
    rcases a4 with a4 | ⟨-, f, q, p, b, a4, -⟩
    · exact absurd (by rw [a3, a4.1]; exact nI0) hn
    · exact row_gOK a2 a4.1
  · obtain ⟨h1, h2, h3, h4⟩ := ph3 h ht i (by omega)
    obtain ⟨a1, a2, a3, a4, a5, a6⟩ := (h4 i hi).2 (Nat.le_refl _)
    rcases a4 with a4 | ⟨-, f, q, p, b, a4, -⟩
    · exact absurd (by rw [a3, a4.1]; exact nI0) hn
    · exact row_gOK a2 a4.1
  · have := (ph1 h ht i (by omega)).2.2.1.2.2.1
    exact ⟨this.1, Nat.le_of_lt_succ this.2⟩
  · have := ((ph1 h ht i (by omega)).2.2.2 i hi).2 (Nat.le_refl _)
    exact ⟨this.1.2.1.2.1, Nat.le_of_lt_succ this.1.2.1.2.2⟩
  · obtain ⟨h1, h2, h3, h4⟩ := ph2 h ht i (by omega)
    obtain ⟨a1, a2, a3, a4, a5⟩ := (h4 i hi).2 (Nat.le_refl _)
    rcases a4 with a4 | ⟨-, f, q, p, b, a4, -⟩
    · exact absurd (by rw [a4.1]; exact nI0) hn
    · exact (row_mGo a2 a4.1).1
  · obtain ⟨h1, h2, h3, h4⟩ := ph3 h ht i (by omega)
    obtain ⟨a1, a2, a3, a4, a5, a6⟩ := (h4 i hi).2 (Nat.le_refl _)
    rcases a4 with a4 | ⟨-, f, q, p, b, a4, -⟩
    · exact absurd (by rw [a6, a4.1]; exact nI0) hn
    · exact row_mGo a2 a4.1
  · obtain ⟨b', x1, x2⟩ := ph_acc h ht 6 0 rfl (nI 0)
    obtain ⟨h1, h2, h3, h4⟩ := ph3 h ht 6 (Nat.le_refl _)
    have hR : Rel (t + 1) (ct3 S 6) (mt3 M 6) := ⟨h1, h2, h3, fun j hj => (h4 j hj).1 hj⟩
    have y1 := (cSlot S).trans x1
    have y2 := (mSlot M).trans x2
    exact pr_fin y1 y2 (Rel (t + 1)) hR
-- and many slots
theorem ctp_rel {t : Nat} {S M : Mem} (h : Rel t S (ub M 0 0 (nI 0))) : ∀ k, t + k < 100000 → Rel (t + k) (ctp S k) (mtp M k)
  | 0, _ => by rw [ctp_0, mtp_0]; exact h
  | k + 1, hk => by
    rw [ctp_s, mtp_s]
    exact (slot_step (ctp_rel h k (by omega)) (by omega)).2.2.2
theorem pass_acc {t : Nat} {S M : Mem} {K : Nat} {x : Int32} (h : Rel t S (ub M 0 0 (nI 0))) (ht : t + K < 100000) : ∀ n i, i + n = K → ∀ q, ∃ q', f_X5_pass_L1 K n i (ctp S i) q = (q', ctp S K) ∧ f_X6_pass_L1 x n i (mtp M i) q = (q', mtp M K)
  | 0, i, hi, q => by
    have e : i = K := by omega
    subst e
    exact ⟨q, rfl, rfl⟩
  | n + 1, i, hi, q => by
    obtain ⟨-, -, s3, -⟩ := slot_step (ctp_rel h i (by omega)) (by omega)
    rw [f_X5_pass_L1_s, f_X6_pass_L1_s, ← ctp_s, ← mtp_s, s3]
    exact pass_acc h ht n (i + 1) (by omega) _
