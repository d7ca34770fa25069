-- what holds between the calls
def sm (x : Int32) (N : Nat) : Prop := x = nI (kN x) ∧ kN x < N
theorem sm_nI {n N : Nat} (h : n < N) (hN : N ≤ 2 ^ 30) : sm (nI n) N := by
  unfold sm
  rw [kN_nI (by omega)]
  exact ⟨rfl, h⟩
theorem sm.le {x : Int32} {N N' : Nat} (h : sm x N) (hN : N ≤ N') : sm x N' := ⟨h.1, Nat.lt_of_lt_of_le h.2 hN⟩
def ppc (p : Nat) : Nat := p % 2 + p / 2 % 2 + p / 4 % 2 + p / 8 % 2
theorem bc_eq : ∀ p, p < 16 → f_J6_bitCount_0f7a4 (nI p) = nI (ppc p) := by decide +kernel
theorem ppc_pos : ∀ p, p < 16 → 0 < p → 0 < ppc p := by decide +kernel
theorem ppc_le : ∀ p, p < 16 → ppc p ≤ 4 := by decide +kernel
theorem lw_le (c : Int32) : f_X5_leastWindow c = nI 3 ∨ f_X5_leastWindow c = nI 7 := by
  rw [f_X5_leastWindow_d]
  by_cases h : c = 0
  · rw [if_pos h]; exact Or.inl rfl
  · rw [if_neg h]; exact Or.inr rfl
theorem x4_spec {S : Mem} {fi c : Nat} (h0 : S 4 0 = nI fi) (hf : fi < 200) (h1 : S 4 1 = nI c) (hc : c ≤ 200) (hp : 0 < c) : (f_X4_next S).1 = S 5 fi ∧ (f_X4_next S).2 4 0 = nI ((fi + 1) % 200) ∧ (f_X4_next S).2 4 1 = nI (c - 1) ∧ ∀ b, b ≠ 4 → (f_X4_next S).2 b = S b := by
  have hk : kN (S 4 0) = fi := by rw [h0]; exact kN_nI (by omega)
  rw [f_X4_next_d, if_neg (by rw [h1]; exact nI_nle hp (by omega)), hk]
  by_cases h : nI 200 ≤ S 4 0 + nI 1
  · rw [if_pos h]
    rw [h0, nI_add, nI_leI (by omega) (by omega)] at h
    have e : fi = 199 := by omega
    refine ⟨rfl, ?_, ?_, fun b hb => ?_⟩
    · dsimp only
      rw [ub_blk, pk_un (by decide), ub_blk, pk_us, e]
    · dsimp only
      rw [ub_blk, pk_us, ub_blk, pk_un (by decide), h1, pk_sub (by omega)]
    · dsimp only
      rw [ub_ne _ _ _ hb, ub_ne _ _ _ hb]
  · rw [if_neg h]
    rw [h0, nI_add, nI_leI (by omega) (by omega)] at h
    refine ⟨rfl, ?_, ?_, fun b hb => ?_⟩
    · dsimp only
      rw [ub_blk, pk_un (by decide), ub_blk, pk_us, h0, nI_add, Nat.mod_eq_of_lt (by omega)]
    · dsimp only
      rw [ub_blk, pk_us, ub_blk, pk_un (by decide), h1, pk_sub (by omega)]
    · dsimp only
      rw [ub_ne _ _ _ hb, ub_ne _ _ _ hb]
theorem x4_zero {S : Mem} (h1 : S 4 1 = nI 0) : f_X4_next S = (nI 0, S) := by
  rw [f_X4_next_d, if_pos (by rw [h1]; decide)]
theorem nI0 : nI 0 = 0 := by decide
theorem nI1_ne : ¬ nI 1 = 0 := by decide
theorem nI1_0 : ¬ nI 1 = nI 0 := by decide
theorem rf_cnt : ∀ c, c < 6 → (if nI c - nI 1 < nI 0 then nI 0 else nI c - nI 1) = nI (c - 1) := by decide +kernel
theorem rf_L1 {c j : Nat} (hc : c < 6) : ∀ (n i : Nat) (S : Mem), i + n = 5 → 1 ≤ i → S (7 + 5 * j) 0 = nI c →
    (∀ b, b ≠ 7 + 5 * j → b ≠ 9 + 5 * j → b ≠ 10 + 5 * j → f_X0_removeFirst_L1 j n i S b = S b) ∧ f_X0_removeFirst_L1 j n i S (7 + 5 * j) 0 = nI (c - 1) ∧
    ∀ k, (i ≤ k + 1 → k + 1 < c → f_X0_removeFirst_L1 j n i S (9 + 5 * j) k = S (9 + 5 * j) (k + 1) ∧ f_X0_removeFirst_L1 j n i S (10 + 5 * j) k = S (10 + 5 * j) (k + 1)) ∧ (k + 1 < i → f_X0_removeFirst_L1 j n i S (9 + 5 * j) k = S (9 + 5 * j) k ∧ f_X0_removeFirst_L1 j n i S (10 + 5 * j) k = S (10 + 5 * j) k)
  | 0, i, S, hi, h1, h => by
    rw [f_X0_removeFirst_L1_z, ite_self, h, rf_cnt c hc]
    refine ⟨fun b h1 h2 h3 => ub_ne _ _ _ h1, by rw [ub_blk, pk_us], fun k => ⟨fun h1 h2 => by omega, fun _ => ⟨?_, ?_⟩⟩⟩
    · rw [ub_ne _ _ _ (by omega)]
    · rw [ub_ne _ _ _ (by omega)]
  | n + 1, i, S, hi, h1, h => by
    rw [f_X0_removeFirst_L1_s]
    by_cases hx : S (7 + 5 * j) 0 ≤ nI i
    · rw [if_pos hx]
      rw [h, nI_leI (by omega) (by omega)] at hx
      rw [h, rf_cnt c hc]
      refine ⟨fun b h1 h2 h3 => ub_ne _ _ _ h1, by rw [ub_blk, pk_us], fun k => ⟨fun h1 h2 => by omega, fun _ => ⟨?_, ?_⟩⟩⟩
      · rw [ub_ne _ _ _ (by omega)]
      · rw [ub_ne _ _ _ (by omega)]
    · rw [if_neg hx]
      rw [ub_ne _ _ _ (show 10 + 5 * j ≠ 9 + 5 * j by omega)]
      obtain ⟨g1, g2, g3⟩ := rf_L1 (j := j) hc n (i + 1) (ub (ub S (9 + 5 * j) (i - 1) (S (9 + 5 * j) i)) (10 + 5 * j) (i - 1) (S (10 + 5 * j) i)) (by omega) (by omega) (by rw [ub_ne _ _ _ (by omega), ub_ne _ _ _ (by omega)]; exact h)
      have r9 : ∀ k, ub (ub S (9 + 5 * j) (i - 1) (S (9 + 5 * j) i)) (10 + 5 * j) (i - 1) (S (10 + 5 * j) i) (9 + 5 * j) k = if k = i - 1 then S (9 + 5 * j) i else S (9 + 5 * j) k := fun k => by
        rw [ub_ne _ _ _ (by omega), ub_blk, upd]
      have r10 : ∀ k, ub (ub S (9 + 5 * j) (i - 1) (S (9 + 5 * j) i)) (10 + 5 * j) (i - 1) (S (10 + 5 * j) i) (10 + 5 * j) k = if k = i - 1 then S (10 + 5 * j) i else S (10 + 5 * j) k := fun k => by
        rw [ub_blk, upd, ub_ne _ _ _ (by omega)]
      refine ⟨fun b h1 h2 h3 => ?_, g2, fun k => ⟨fun k1 k2 => ?_, fun k1 => ?_⟩⟩
      · rw [g1 b h1 h2 h3, ub_ne _ _ _ h3, ub_ne _ _ _ h2]
      · rcases Nat.lt_or_ge i (k + 1) with q | q
        · obtain ⟨x1, x2⟩ := (g3 k).1 q k2
          rw [x1, x2, r9, r10, if_neg (by omega), if_neg (by omega)]
          exact ⟨rfl, rfl⟩
        · have e : k = i - 1 := by omega
          obtain ⟨x1, x2⟩ := (g3 k).2 (by omega)
          rw [x1, x2, r9, r10, if_pos e, if_pos e, show k + 1 = i by omega]
          exact ⟨rfl, rfl⟩
      · obtain ⟨x1, x2⟩ := (g3 k).2 (by omega)
        rw [x1, x2, r9, r10, if_neg (by omega), if_neg (by omega)]
        exact ⟨rfl, rfl⟩
theorem parts_eq {S : Mem} {i p c : Nat} (hc : S (7 + 5 * i) 0 = nI c) (hc0 : 0 < c) (hc6 : c < 6) (hp : S (10 + 5 * i) 0 = nI p) : f_X0_partsOfFirst S i = nI p := by
  rw [f_X0_partsOfFirst_d, if_neg (by rw [hc]; exact nI_nle hc0 (by omega))]
  exact hp
theorem goal_eq {S : Mem} {i c : Nat} (hc : S (7 + 5 * i) 0 = nI c) (hc0 : 0 < c) (hc6 : c < 6) : f_X0_goalOfFirst S i = S (9 + 5 * i) 0 := by
  rw [f_X0_goalOfFirst_d, if_neg (by rw [hc]; exact nI_nle hc0 (by omega))]
/-- what a sending's begin writes in the component -/
theorem begin_spec (S : Mem) {i t p r c : Nat} (ht : 1 ≤ t) (hc : S (7 + 5 * i) 0 = nI c) (hc0 : 0 < c) (hc6 : c < 6) (hp : S (10 + 5 * i) 0 = nI p) (hp16 : p < 16) (hr6 : r < 6) : ∃ q, q = (if ppc p < r then 0 else 1) ∧ f_X2_begin S i (nI t) (nI r) (8 + 5 * i) 0 = nI 1 ∧ f_X2_begin S i (nI t) (nI r) (8 + 5 * i) 1 = nI t ∧ f_X2_begin S i (nI t) (nI r) (8 + 5 * i) 2 = nI (t + q + 2 * ppc p - 1) ∧ f_X2_begin S i (nI t) (nI r) (8 + 5 * i) 3 = nI q ∧ f_X2_begin S i (nI t) (nI r) (8 + 5 * i) 4 = nI 0 ∧ f_X2_begin S i (nI t) (nI r) (8 + 5 * i) 5 = nI p ∧ f_X2_begin S i (nI t) (nI r) (8 + 5 * i) 6 = nI 0 ∧ f_X2_begin S i (nI t) (nI r) (6 + 5 * i) 2 = -1 ∧ (∀ a, a ≠ 2 → f_X2_begin S i (nI t) (nI r) (6 + 5 * i) a = S (6 + 5 * i) a) ∧ ∀ b, b ≠ 6 + 5 * i → b ≠ 8 + 5 * i → f_X2_begin S i (nI t) (nI r) b = S b := by
  have hpc := ppc_le p hp16
  have key : ∀ q, q < 2 → ∀ X : Mem, X = f_X1_begin (ub S (6 + 5 * i) 2 (-1)) i (nI t) (nI p) (nI q) → X (8 + 5 * i) 0 = nI 1 ∧ X (8 + 5 * i) 1 = nI t ∧ X (8 + 5 * i) 2 = nI (t + q + 2 * ppc p - 1) ∧ X (8 + 5 * i) 3 = nI q ∧ X (8 + 5 * i) 4 = nI 0 ∧ X (8 + 5 * i) 5 = nI p ∧ X (8 + 5 * i) 6 = nI 0 ∧ X (6 + 5 * i) 2 = -1 ∧ (∀ a, a ≠ 2 → X (6 + 5 * i) a = S (6 + 5 * i) a) ∧ ∀ b, b ≠ 6 + 5 * i → b ≠ 8 + 5 * i → X b = S b := by
    intro q hq X hX
    have e3 : f_X1_firstSlotOfParts (ub (ub (ub (ub (ub (ub (ub S (6 + 5 * i) 2 (-1)) (8 + 5 * i) 0 (nI 1)) (8 + 5 * i) 1 (nI t)) (8 + 5 * i) 3 (nI q)) (8 + 5 * i) 4 (nI 0)) (8 + 5 * i) 5 (nI p)) (8 + 5 * i) 6 (nI 0)) i + nI 2 * f_J6_bitCount_0f7a4 (nI p) - nI 1 = nI (t + q + 2 * ppc p - 1) := by
      rw [f_X1_firstSlotOfParts_d, bc_eq p hp16]
      simp (disch := decide) only [ub_blk, pk_us, pk_un]
      rcases (show q = 0 ∨ q = 1 by omega) with h | h
      · subst h
        rw [if_pos nI0, pk_mul, nI_add, pk_sub (by omega)]
        rfl
      · subst h
        rw [if_neg nI1_ne, pk_mul, nI_add, nI_add, pk_sub (by omega)]
    rw [f_X1_begin_d, e3] at hX
    subst hX
    refine ⟨?_, ?_, ?_, ?_, ?_, ?_, ?_, ?_, fun a ha => ?_, fun b h1 h2 => ?_⟩
    · simp (disch := decide) only [ub_blk, pk_us, pk_un]
    · simp (disch := decide) only [ub_blk, pk_us, pk_un]
    · simp (disch := decide) only [ub_blk, pk_us, pk_un]
    · simp (disch := decide) only [ub_blk, pk_us, pk_un]
    · simp (disch := decide) only [ub_blk, pk_us, pk_un]
    · simp (disch := decide) only [ub_blk, pk_us, pk_un]
    · simp (disch := decide) only [ub_blk, pk_us, pk_un]
    · simp (disch := omega) only [ub_ne, ub_blk, pk_us]
    · simp (disch := omega) only [ub_ne, ub_blk, pk_un]
    · simp (disch := omega) only [ub_ne]
  have ep := parts_eq hc hc0 hc6 hp
  rw [f_X2_begin_d, ep, bc_eq p hp16]
  by_cases h : ppc p < r
  · refine ⟨0, by rw [if_pos h], ?_⟩
    rw [if_pos (nI_lt h (by omega))]
    exact key 0 (by decide) _ rfl
  · refine ⟨1, by rw [if_neg h], ?_⟩
    rw [if_neg (fun hh => h ((nI_ltI (by omega) (by omega)).mp hh))]
    exact key 1 (by decide) _ rfl
theorem neg1_ne {n : Nat} (h : n < 2 ^ 31) : ¬ (-1 : Int32) = nI n := fun e => by
  have h1 : (0 : Int32) ≤ -1 := by rw [e]; exact nI_ge0 h
  exact absurd h1 (by decide)
theorem isReq_yes {X : Mem} {i t : Nat} (hf : X (8 + 5 * i) 1 = nI t) (hq : X (8 + 5 * i) 3 = nI 1) : f_X1_isRequest X i (nI t) = nI 1 := by
  rw [f_X1_isRequest_d, hq, if_neg nI1_ne, hf, if_pos rfl]
theorem isReq_no {X : Mem} {i t f q : Nat} (ht : t < 100000) (hft : f ≤ t) (hf : X (8 + 5 * i) 1 = nI f) (hq : X (8 + 5 * i) 3 = nI q) (hq2 : q < 2) (hn : f = t → q = 1 → False) : f_X1_isRequest X i (nI t) = nI 0 := by
  rw [f_X1_isRequest_d, hf, hq]
  rcases (show q = 0 ∨ q = 1 by omega) with e | e
  · subst e; rw [if_pos nI0]
  · subst e
    rw [if_neg nI1_ne, if_neg]
    intro h
    exact hn (nI_inj (by omega) (by omega) h).symm rfl
def wob2 (X : Mem) (i : Nat) : Mem := if X 0 1 ≤ X (6 + 5 * i) 4 then X else (if f_X5_heardInSlotBefore X i = 0 then (if X (6 + 5 * i) 2 ≤ 0 then f_X2_begin X i (X 0 1) (X 0 0) else ub X (6 + 5 * i) 2 (X (6 + 5 * i) 2 - nI 1)) else X)
theorem wob_eq (S : Mem) (i : Nat) : f_X5_waitOrBegin S i = if S (8 + 5 * i) 0 = 0 then (if S (7 + 5 * i) 0 = 0 then S else (if S (6 + 5 * i) 2 = -1 then wob2 (ub (f_X4_next S).2 (6 + 5 * i) 2 (f_X5_restBy (f_X4_next S).1 ((f_X4_next S).2 (6 + 5 * i) 1 + nI 1))) i else wob2 S i)) else S := rfl
theorem cL1 (S : Mem) : ∀ n i, i + n = 6 → f_X5_passOneSlot_L1 n i (ct1 S i) = f_X5_passOneSlot_L2 6 0 (ct1 S 6)
  | 0, i, hi => by
    have e : i = 6 := by omega
    subst e
    rfl
  | n + 1, i, hi => by
    rw [f_X5_passOneSlot_L1_s, ← f_X5_passOneSlot_L1_b_d, ← ct1_s]
    exact cL1 S n (i + 1) (by omega)
theorem cL2 (S : Mem) : ∀ n i, i + n = 6 → f_X5_passOneSlot_L2 n i (ct2 S i) = f_X5_passOneSlot_L3 6 0 (ct2 S 6) (nI 0)
  | 0, i, hi => by
    have e : i = 6 := by omega
    subst e
    rfl
  | n + 1, i, hi => by
    rw [f_X5_passOneSlot_L2_s, ← f_X5_passOneSlot_L2_b_d, ← ct2_s]
    exact cL2 S n (i + 1) (by omega)
theorem cSlot (S : Mem) : f_X5_passOneSlot S = f_X5_passOneSlot_L3 6 0 (ct3 S 0) (nI 0) := by
  have h1 := cL1 S 6 0 rfl
  have h2 := cL2 S 6 0 rfl
  rw [ct1_0] at h1
  rw [ct2_0] at h2
  rw [f_X5_passOneSlot_d, h1, h2, ct3_0]
def kQu (S : Mem) : Prop := sm (S 4 0) 200 ∧ sm (S 4 1) 201 ∧ ∀ k, k < 200 → sm (S 5 k) 1001
def kGl (t : Nat) (S : Mem) : Prop := (sm (S 0 0) 6 ∧ 0 < kN (S 0 0)) ∧ S 0 1 = nI t ∧ t < 100000
def kW (x : Int32) : Prop := x = nI 3 ∨ x = nI 7 ∨ x = nI 15 ∨ x = nI 31
theorem kW_sm {x : Int32} (h : kW x) : sm x 32 := by
  rcases h with rfl | rfl | rfl | rfl <;> exact sm_nI (by decide) (by decide)
theorem lw_W (c : Int32) : kW (f_X5_leastWindow c) := by
  rcases lw_le c with h | h
  · exact Or.inl h
  · exact Or.inr (Or.inl h)
def kRw (S : Mem) (i : Nat) : Prop := sm (S (7 + 5 * i) 0) 6 ∧ ∀ k, k < kN (S (7 + 5 * i) 0) → sm (S (9 + 5 * i) k) 6 ∧ sm (S (10 + 5 * i) k) 16 ∧ ¬ S (10 + 5 * i) k = 0
def kRw1 (S : Mem) (i : Nat) : Prop := sm (S (7 + 5 * i) 0) 6 ∧ ∀ k, 0 < k → k < kN (S (7 + 5 * i) 0) → sm (S (9 + 5 * i) k) 6 ∧ sm (S (10 + 5 * i) k) 16 ∧ ¬ S (10 + 5 * i) k = 0
theorem kRw.w {S : Mem} {i : Nat} (h : kRw S i) : kRw1 S i := ⟨h.1, fun k _ hk => h.2 k hk⟩
def kTm (f q p : Nat) (S : Mem) (i : Nat) : Prop := 0 < kN (S (7 + 5 * i) 0) ∧ q < 2 ∧ 0 < p ∧ p < 16 ∧ S (8 + 5 * i) 1 = nI f ∧ S (8 + 5 * i) 3 = nI q ∧ S (8 + 5 * i) 5 = nI p ∧ S (10 + 5 * i) 0 = nI p ∧ S (8 + 5 * i) 2 = nI (f + q + 2 * ppc p - 1)
def kC (t : Nat) (S : Mem) (i : Nat) : Prop := kW (S (6 + 5 * i) 1) ∧ sm (S (6 + 5 * i) 3) 5 ∧ sm (S (6 + 5 * i) 4) (t + 9)
def kWt (S : Mem) (i : Nat) : Prop := S (6 + 5 * i) 2 = -1 ∨ (sm (S (6 + 5 * i) 2) 32 ∧ 0 < kN (S (7 + 5 * i) 0) ∧ S (8 + 5 * i) 0 = nI 0)
def kAr (d e a : Nat) (S : Mem) (i : Nat) : Prop := S (6 + 5 * i) 5 = nI d ∧ S (6 + 5 * i) 8 = nI e ∧ S (6 + 5 * i) 7 = nI a ∧ 2 * d ≤ e
def kLs (t : Nat) (S : Mem) (i : Nat) : Prop := S (6 + 5 * i) 9 = -1 ∨ ∃ q : Nat, q ≤ t ∧ S (6 + 5 * i) 9 = nI q
def IA (t : Nat) (S : Mem) (i : Nat) : Prop := kC t S i ∧ kRw S i ∧ kWt S i ∧ kLs t S i ∧ ∃ d e a : Nat, kAr d e a S i ∧ a ≤ t ∧ ((S (8 + 5 * i) 0 = nI 0 ∧ a = e) ∨ (S (8 + 5 * i) 0 = nI 1 ∧ ∃ f q p : Nat, kTm f q p S i ∧ f ≤ t ∧ a = e + (t - f + 1)))
-- one slot, seen from its start S
def bz (t : Nat) (S : Mem) (i : Nat) : Prop := nI (t + 1) ≤ S (6 + 5 * i) 4 ∨ ∃ k, k < 6 ∧ k ≠ i ∧ ¬ S 3 (i * 6 + k) ≤ 0 ∧ S (6 + 5 * k) 9 = nI t
def wq (b : Prop) (S X : Mem) (i : Nat) : Prop := S (6 + 5 * i) 2 = -1 ∨ (b ∧ X (6 + 5 * i) 2 = S (6 + 5 * i) 2) ∨ (¬ b ∧ ∃ w : Nat, S (6 + 5 * i) 2 = nI (w + 1) ∧ w < 31 ∧ X (6 + 5 * i) 2 = nI w)
def wsn (b : Prop) (S : Mem) (i : Nat) : Prop := S (8 + 5 * i) 0 = nI 1 ∨ (S (8 + 5 * i) 0 = nI 0 ∧ ¬ b ∧ (S (6 + 5 * i) 2 = -1 ∨ S (6 + 5 * i) 2 = nI 0))
def kG (n : Nat) (S X : Mem) : Prop := X 0 0 = S 0 0 ∧ X 0 1 = nI n ∧ X 3 = S 3 ∧ kQu X
def sameT (S X : Mem) (i : Nat) : Prop := X (6 + 5 * i) = S (6 + 5 * i) ∧ X (7 + 5 * i) = S (7 + 5 * i) ∧ X (8 + 5 * i) = S (8 + 5 * i) ∧ X (9 + 5 * i) = S (9 + 5 * i) ∧ X (10 + 5 * i) = S (10 + 5 * i)
def sameR (S X : Mem) (i : Nat) : Prop := X (7 + 5 * i) = S (7 + 5 * i) ∧ X (9 + 5 * i) = S (9 + 5 * i) ∧ X (10 + 5 * i) = S (10 + 5 * i)
def RB (t : Nat) (S X : Mem) (i : Nat) : Prop := sameR S X i ∧ (∀ a, a ≠ 2 → X (6 + 5 * i) a = S (6 + 5 * i) a) ∧
  ((S (8 + 5 * i) 0 = nI 0 ∧ X (8 + 5 * i) 0 = nI 0 ∧ kWt X i ∧ wq (bz t S i) S X i) ∨
   (wsn (bz t S i) S i ∧ X (8 + 5 * i) 0 = nI 1 ∧ X (6 + 5 * i) 2 = -1 ∧ ∃ d e f q p : Nat, kAr d e (e + (t + 1 - f)) X i ∧ e + (t + 1 - f) ≤ t ∧ kTm f q p X i ∧ f ≤ t + 1))
def RC (t : Nat) (S X : Mem) (i : Nat) : Prop := sameR S X i ∧ (∀ a, a ≠ 2 → a ≠ 4 → a ≠ 7 → a ≠ 9 → X (6 + 5 * i) a = S (6 + 5 * i) a) ∧ sm (X (6 + 5 * i) 4) (t + 10) ∧
  ((S (8 + 5 * i) 0 = nI 0 ∧ X (8 + 5 * i) 0 = nI 0 ∧ kWt X i ∧ wq (bz t S i) S X i ∧ X (6 + 5 * i) 7 = S (6 + 5 * i) 7 ∧ X (6 + 5 * i) 9 = S (6 + 5 * i) 9) ∨
   (wsn (bz t S i) S i ∧ X (8 + 5 * i) 0 = nI 1 ∧ X (6 + 5 * i) 2 = -1 ∧ X (6 + 5 * i) 9 = nI (t + 1) ∧ ∃ d e f q p : Nat, kAr d e (e + (t + 1 - f) + 1) X i ∧ S (6 + 5 * i) 7 = nI (e + (t + 1 - f)) ∧ e + (t + 1 - f) ≤ t ∧ kTm f q p X i ∧ f ≤ t + 1))
def oE (S X : Mem) (i : Nat) : Prop :=
  (X (8 + 5 * i) 0 = nI 1 ∧ X (6 + 5 * i) 5 = S (6 + 5 * i) 5 ∧ X (7 + 5 * i) 0 = S (7 + 5 * i) 0) ∨
  (X (8 + 5 * i) 0 = nI 0 ∧ X (6 + 5 * i) 5 = S (6 + 5 * i) 5 ∧ X (7 + 5 * i) 0 = S (7 + 5 * i) 0) ∨
  (X (8 + 5 * i) 0 = nI 0 ∧ X (6 + 5 * i) 5 = S (6 + 5 * i) 5 ∧ X (6 + 5 * i) 6 = S (6 + 5 * i) 6 + nI 1 ∧ ∃ c : Nat, c < 5 ∧ S (7 + 5 * i) 0 = nI (c + 1) ∧ X (7 + 5 * i) 0 = nI c) ∨
  (X (8 + 5 * i) 0 = nI 0 ∧ X (6 + 5 * i) 6 = S (6 + 5 * i) 6 ∧ X (6 + 5 * i) 3 = nI 0 ∧ ∃ d g p : Nat, S (6 + 5 * i) 5 = nI d ∧ X (6 + 5 * i) 5 = nI (d + g) ∧ S (10 + 5 * i) 0 = nI p ∧ p < 16 ∧ 0 < g ∧ g ≤ ppc p ∧ (X (7 + 5 * i) 0 = S (7 + 5 * i) 0 ∨ (g = ppc p ∧ ∃ c : Nat, c < 5 ∧ S (7 + 5 * i) 0 = nI (c + 1) ∧ X (7 + 5 * i) 0 = nI c)))
def oQ (t : Nat) (S X : Mem) (i : Nat) : Prop := S (8 + 5 * i) 0 = nI 0 ∧ X (8 + 5 * i) 0 = nI 0 ∧ wq (bz t S i) S X i ∧ X (6 + 5 * i) 7 = S (6 + 5 * i) 7 ∧ X (6 + 5 * i) 9 = S (6 + 5 * i) 9 ∧ X (6 + 5 * i) 5 = S (6 + 5 * i) 5 ∧ X (7 + 5 * i) 0 = S (7 + 5 * i) 0
def oS (t : Nat) (S X : Mem) (i : Nat) : Prop := wsn (bz t S i) S i ∧ X (6 + 5 * i) 9 = nI (t + 1) ∧ (∃ a : Nat, a ≤ t ∧ S (6 + 5 * i) 7 = nI a ∧ X (6 + 5 * i) 7 = nI (a + 1)) ∧ 0 < kN (S (7 + 5 * i) 0) ∧ oE S X i
def RD (t : Nat) (S X : Mem) (i : Nat) : Prop := IA (t + 1) X i ∧ (oQ t S X i ∨ oS t S X i) ∧ X (6 + 5 * i) 0 = S (6 + 5 * i) 0
-- tables
theorem win_tab2 {w : Int32} (h : kW w) : kW (if nI 31 < (nI 2 * w) + nI 1 then nI 31 else (nI 2 * w) + nI 1) := by
  rcases h with rfl | rfl | rfl | rfl <;> (unfold kW; decide +kernel)
def gd (p j : Nat) : Nat := kN (nI p &&& nI j)
def lf (p j : Nat) : Nat := kN (nI p &&& (nI (gd p j) ^^^ (-1)))
theorem gd_tab : ∀ p, p < 16 → ∀ j, j < 16 → nI p &&& nI j = nI (gd p j) ∧ gd p j < 16 ∧ ppc (gd p j) ≤ ppc p ∧ nI p &&& (nI (gd p j) ^^^ (-1)) = nI (lf p j) ∧ lf p j < 16 ∧ (lf p j = 0 → ppc (gd p j) = ppc p) := by decide +kernel
theorem and_low {p : Nat} (hp : p < 16) (x : Int32) : ∃ j : Nat, j < 16 ∧ nI p &&& x = nI (gd p j) := by
  obtain ⟨j, hj, e⟩ := pk_andE x (m := nI 15) 4 (by decide)
  refine ⟨j, hj, ?_⟩
  have h15 : nI p &&& nI 15 = nI p := (show ∀ p, p < 16 → nI p &&& nI 15 = nI p by decide +kernel) p hp
  rw [← (gd_tab p hp j hj).1, ← e, Int32.and_comm x, ← Int32.and_assoc, h15]
-- numbers
theorem kQu_next {S : Mem} (h : kQu S) : kQu (f_X4_next S).2 ∧ sm (f_X4_next S).1 1001 ∧ ∀ b, b ≠ 4 → (f_X4_next S).2 b = S b := by
  obtain ⟨⟨a1, a2⟩, ⟨c1, c2⟩, d⟩ := id h
  obtain ⟨fi, hfi⟩ : ∃ z, z = kN (S 4 0) := ⟨_, rfl⟩
  obtain ⟨c, hc⟩ : ∃ z, z = kN (S 4 1) := ⟨_, rfl⟩
  rw [← hfi] at a1 a2
  rw [← hc] at c1 c2
  rcases Nat.eq_zero_or_pos c with q | q
  · subst q
    rw [x4_zero c1]
    exact ⟨h, sm_nI (by decide) (by decide), fun _ _ => rfl⟩
  · obtain ⟨x1, x2, x3, x4⟩ := x4_spec a1 a2 c1 (by omega) q
    refine ⟨⟨by rw [x2]; exact sm_nI (Nat.mod_lt _ (by decide)) (by decide), by rw [x3]; exact sm_nI (by omega) (by decide), fun k hk => by rw [x4 5 (by decide)]; exact d k hk⟩, by rw [x1]; exact d fi a2, x4⟩
theorem rest_sm {x w : Int32} (hw : kW w) (hx : sm x 1001) : sm (f_X5_restBy x (w + nI 1)) 32 := by
  have h := kW_sm hw
  have h1 := h.2
  have h2 := hx.2
  rw [f_X5_restBy_d, if_neg (by rw [h.1, nI_add]; exact nI_nle (by omega) (by omega)), h.1, hx.1, nI_add, pk_rem (by omega) (by omega) (by omega)]
  exact sm_nI (by have := Nat.mod_lt (kN x) (show 0 < kN w + 1 by omega); omega) (by decide)
-- a frame leaves
theorem kRw_rem {S : Mem} {i : Nat} (h : kRw1 S i) (hp : 0 < kN (S (7 + 5 * i) 0)) : kRw (f_X0_removeFirst S i) i ∧ (∃ c : Nat, c < 5 ∧ S (7 + 5 * i) 0 = nI (c + 1) ∧ f_X0_removeFirst S i (7 + 5 * i) 0 = nI c) ∧ ∀ b, b ≠ 7 + 5 * i → b ≠ 9 + 5 * i → b ≠ 10 + 5 * i → f_X0_removeFirst S i b = S b := by
  obtain ⟨⟨a2, a3⟩, a4⟩ := h
  obtain ⟨c, hc⟩ : ∃ z, z = kN (S (7 + 5 * i) 0) := ⟨_, rfl⟩
  rw [← hc] at a2 a3 a4 hp
  obtain ⟨g1, g2, g3⟩ := rf_L1 (j := i) a3 4 1 S (by omega) (by omega) a2
  rw [f_X0_removeFirst_d]
  refine ⟨⟨by rw [g2]; exact sm_nI (by omega) (by decide), fun k hk => ?_⟩, ⟨c - 1, by omega, by rw [a2, Nat.sub_add_cancel hp], g2⟩, g1⟩
  rw [g2, kN_nI (by omega)] at hk
  obtain ⟨x1, x2⟩ := (g3 k).1 (by omega) (by omega)
  rw [x1, x2]
  exact a4 (k + 1) (by omega) (by omega)
-- who hears somebody
theorem heard_L {t i : Nat} {S X : Mem} (ht : t < 100000) (h0 : X 0 1 = nI (t + 1)) (h3 : X 3 = S 3) (h9 : ∀ k, k < 6 → X (6 + 5 * k) 9 = S (6 + 5 * k) 9) : ∀ n k, k + n = 6 → (f_X5_heardInSlotBefore_L1 X i n k = 0 ↔ ∀ m, k ≤ m → m < 6 → S 3 (i * 6 + m) ≤ 0 ∨ ¬ S (6 + 5 * m) 9 = nI t)
  | 0, k, hk => by
    rw [f_X5_heardInSlotBefore_L1_z]
    exact ⟨fun _ m h1 h2 => by omega, fun _ => nI0⟩
  | n + 1, k, hk => by
    have ih := heard_L (i := i) ht h0 h3 h9 n (k + 1) (by omega)
    have more : ∀ P : Nat → Prop, P k → ((∀ m, k + 1 ≤ m → m < 6 → P m) ↔ ∀ m, k ≤ m → m < 6 → P m) := fun P hP => ⟨fun h m h1 h2 => by
      rcases Nat.lt_or_ge k m with q | q
      · exact h m q h2
      · have : m = k := by omega
        subst this; exact hP, fun h m h1 h2 => h m (by omega) h2⟩
    rw [f_X5_heardInSlotBefore_L1_s, f_X3_between_d, h3, h9 k (by omega), h0, pk_sub (by omega), Nat.add_sub_cancel]
    by_cases h1 : S 3 (i * 6 + k) ≤ 0
    · rw [if_pos h1]
      exact ih.trans (more _ (Or.inl h1))
    · rw [if_neg h1]
      by_cases h2 : S (6 + 5 * k) 9 = nI t
      · rw [if_pos h2]
        exact ⟨fun h => absurd h nI1_ne, fun h => by
          rcases h k (Nat.le_refl _) (by omega) with q | q
          · exact absurd q h1
          · exact absurd h2 q⟩
      · rw [if_neg h2]
        exact ih.trans (more _ (Or.inr h2))
theorem heard_eq {t i : Nat} {S X : Mem} (ht : t < 100000) (hi : i < 6) (hd : S 3 (i * 6 + i) = 0) (h0 : X 0 1 = nI (t + 1)) (h3 : X 3 = S 3) (h9 : ∀ k, k < 6 → X (6 + 5 * k) 9 = S (6 + 5 * k) 9) : f_X5_heardInSlotBefore X i = 0 ↔ ¬ ∃ k, k < 6 ∧ k ≠ i ∧ ¬ S 3 (i * 6 + k) ≤ 0 ∧ S (6 + 5 * k) 9 = nI t := by
  rw [f_X5_heardInSlotBefore_d, heard_L ht h0 h3 h9 6 0 rfl]
  refine ⟨fun h => ?_, fun h m _ hm => ?_⟩
  · rintro ⟨k, k1, k2, k3, k4⟩
    rcases h k (Nat.zero_le _) k1 with q | q
    · exact k3 q
    · exact q k4
  · by_cases e : m = i
    · subst e; rw [hd]; exact Or.inl (by decide)
    · by_cases h1 : S 3 (i * 6 + m) ≤ 0
      · exact Or.inl h1
      · exact Or.inr (fun h2 => h ⟨m, hm, e, h1, h2⟩)
