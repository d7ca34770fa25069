-- the relation between the component and the model
def sm (x : Int32) (N : Nat) : Prop := x = nI (kN x) ∧ kN x < N
theorem sm_nI {n N : Nat} (h : n < N) (hN : N ≤ 2 ^ 30) : sm (nI n) N := by
  unfold sm
  rw [kN_nI (by omega)]
  exact ⟨rfl, h⟩
theorem sm.le {x : Int32} {N N' : Nat} (h : sm x N) (hN : N ≤ N') : sm x N' := ⟨h.1, Nat.lt_of_lt_of_le h.2 hN⟩
def rSt (S M : Mem) : Prop := (∀ a b, a < 6 → b < 6 → S 3 (a * 6 + b) = M 1 (6 * a + b) ∧ S 3 (a * 6 + b) = S 3 (b * 6 + a)) ∧ ∀ a, a < 6 → S 3 (a * 6 + a) = 0
def rQu (S M : Mem) : Prop := sm (S 4 0) 200 ∧ S 4 1 = M 0 3 ∧ sm (M 0 3) 201 ∧ ∀ k, k < kN (M 0 3) → S 5 ((kN (S 4 0) + k) % 200) = M 19 k ∧ sm (M 19 k) 1001
def rGl (t : Nat) (S M : Mem) : Prop := (S 0 0 = M 0 2 ∧ sm (M 0 2) 6) ∧ S 0 1 = nI t ∧ M 0 1 = nI t ∧ t < 100000
def rCm (S M : Mem) (i : Nat) : Prop := S (6 + 5 * i) 0 = M 2 i ∧ (S (6 + 5 * i) 1 = M 3 i ∧ sm (M 3 i) 32) ∧ (S (6 + 5 * i) 2 = M 4 i ∧ (M 4 i = -1 ∨ 0 ≤ M 4 i)) ∧ (S (6 + 5 * i) 3 = M 5 i ∧ sm (M 5 i) 5) ∧ S (6 + 5 * i) 4 = M 6 i ∧ S (6 + 5 * i) 5 = M 16 i ∧ S (6 + 5 * i) 6 = M 17 i ∧ S (6 + 5 * i) 7 = M 18 i
def rRw (S M : Mem) (i : Nat) : Prop := S (7 + 5 * i) 0 = M 9 i ∧ sm (M 9 i) 6 ∧ ∀ k, k < kN (M 9 i) → (S (9 + 5 * i) k = M 7 (5 * i + k) ∧ sm (M 7 (5 * i + k)) 6) ∧ (S (10 + 5 * i) k = M 8 (5 * i + k) ∧ sm (M 8 (5 * i + k)) 16 ∧ ¬ M 8 (5 * i + k) = 0)
def ppc (p : Nat) : Nat := p % 2 + p / 2 % 2 + p / 4 % 2 + p / 8 % 2
def rTm (f q p : Nat) (S M : Mem) (i : Nat) : Prop := 0 < kN (M 9 i) ∧ q < 2 ∧ 0 < p ∧ p < 16 ∧ (S (8 + 5 * i) 1 = nI f ∧ M 13 i = nI f) ∧ (S (8 + 5 * i) 3 = nI q ∧ M 12 i = nI q) ∧ (S (8 + 5 * i) 5 = nI p ∧ M 8 (5 * i) = nI p) ∧ (S (8 + 5 * i) 2 = nI (f + q + 2 * ppc p - 1) ∧ M 14 i = nI (f + q + 2 * ppc p - 1))
def rBk (b : Nat) (S M : Mem) (i : Nat) : Prop := b < 16 ∧ S (8 + 5 * i) 4 = nI 0 ∧ S (8 + 5 * i) 6 = nI b ∧ M 15 i = nI b
def rBr (S M : Mem) (i : Nat) : Prop := S (8 + 5 * i) 4 = nI 1 ∧ S (8 + 5 * i) 6 = nI 0 ∧ M 15 i = nI 16
def rAt (n : Nat) (S M : Mem) (i : Nat) : Prop := M 18 i = S (6 + 5 * i) 8 + nI n
def rOnA (t : Nat) (S M : Mem) (i : Nat) : Prop := ∃ f q p b : Nat, rTm f q p S M i ∧ f < t ∧ t ≤ f + q + 2 * ppc p - 1 ∧ rAt (t - f) S M i ∧ rBk b S M i
def rOnB (t : Nat) (S M : Mem) (i : Nat) : Prop := ∃ f q p b : Nat, rTm f q p S M i ∧ f ≤ t ∧ t ≤ f + q + 2 * ppc p - 1 ∧ rAt (t - f) S M i ∧ rBk b S M i ∧ (f = t → b = 0)
def rOnC (t : Nat) (S M : Mem) (i : Nat) : Prop := ∃ f q p b : Nat, rTm f q p S M i ∧ f ≤ t ∧ t ≤ f + q + 2 * ppc p - 1 ∧ rAt (t - f + 1) S M i ∧ ((rBk b S M i ∧ (f = t → q = 1 → b = 0)) ∨ (f = t ∧ q = 1 ∧ rBr S M i))
def rOff (S M : Mem) (i : Nat) : Prop := M 10 i = nI 0 ∧ M 18 i = S (6 + 5 * i) 8
def rWa (t : Nat) (S M : Mem) (i : Nat) : Prop := ((M 11 i = nI 0 ∧ ¬ S (6 + 5 * i) 9 = nI (t - 1)) ∨ (M 11 i = nI 1 ∧ S (6 + 5 * i) 9 = nI (t - 1))) ∧ (S (6 + 5 * i) 9 = -1 ∨ ∃ q : Nat, q < t ∧ S (6 + 5 * i) 9 = nI q)
def PA (t : Nat) (S M : Mem) (i : Nat) : Prop := rCm S M i ∧ rRw S M i ∧ S (8 + 5 * i) 0 = M 10 i ∧ (rOff S M i ∨ (M 10 i = nI 1 ∧ rOnA t S M i)) ∧ rWa t S M i
def PB (t : Nat) (S M : Mem) (i : Nat) : Prop := rCm S M i ∧ rRw S M i ∧ S (8 + 5 * i) 0 = M 10 i ∧ (rOff S M i ∨ (M 10 i = nI 1 ∧ rOnB t S M i)) ∧ rWa t S M i
def PC (t : Nat) (S M : Mem) (i : Nat) : Prop := rCm S M i ∧ rRw S M i ∧ S (8 + 5 * i) 0 = M 10 i ∧ (rOff S M i ∨ (M 10 i = nI 1 ∧ rOnC t S M i)) ∧ rWa (t + 1) S M i ∧ M 11 i = M 10 i
/-- at a call's end, in the slot t -/
def Rel (t : Nat) (S M : Mem) : Prop := rGl t S M ∧ rSt S M ∧ rQu S M ∧ ∀ j, j < 6 → PA (t + 1) S M j
-- what stays as it was
def sil (S S' M M' : Mem) (j : Nat) : Prop := S (6 + 5 * j) 4 = M 6 j → S' (6 + 5 * j) 4 = M' 6 j
def sameS (S S' : Mem) (j : Nat) : Prop := (∀ a, a ≠ 4 → S' (6 + 5 * j) a = S (6 + 5 * j) a) ∧ S' (7 + 5 * j) = S (7 + 5 * j) ∧ S' (8 + 5 * j) = S (8 + 5 * j) ∧ S' (9 + 5 * j) = S (9 + 5 * j) ∧ S' (10 + 5 * j) = S (10 + 5 * j)
def sameM (M M' : Mem) (j : Nat) : Prop := (∀ b, 2 ≤ b → b ≤ 18 → b ≠ 6 → b ≠ 7 → b ≠ 8 → M' b j = M b j) ∧ ∀ k, k < 5 → M' 7 (5 * j + k) = M 7 (5 * j + k) ∧ M' 8 (5 * j + k) = M 8 (5 * j + k)
theorem rRw_fr {S S' M M' : Mem} {j : Nat} (hS : sameS S S' j) (hM : sameM M M' j) (h : rRw S M j) : rRw S' M' j := by
  obtain ⟨h1, h2, h3⟩ := h
  have e9 := hM.1 9 (by decide) (by decide) (by decide) (by decide) (by decide)
  refine ⟨by rw [hS.2.1, e9]; exact h1, by rw [e9]; exact h2, fun k hk => ?_⟩
  rw [e9] at hk
  have hk5 : k < 5 := by have := h2.2; omega
  rw [hS.2.2.2.1, hS.2.2.2.2, (hM.2 k hk5).1, (hM.2 k hk5).2]
  exact h3 k hk
theorem rCm_fr {S S' M M' : Mem} {j : Nat} (hS : sameS S S' j) (hM : sameM M M' j) (h4 : sil S S' M M' j) (h : rCm S M j) : rCm S' M' j := by
  unfold rCm at h ⊢
  rw [hS.1 0 (by decide), hS.1 1 (by decide), hS.1 2 (by decide), hS.1 3 (by decide), hS.1 5 (by decide), hS.1 6 (by decide), hS.1 7 (by decide), hM.1 2 (by decide) (by decide) (by decide) (by decide) (by decide), hM.1 3 (by decide) (by decide) (by decide) (by decide) (by decide), hM.1 4 (by decide) (by decide) (by decide) (by decide) (by decide), hM.1 5 (by decide) (by decide) (by decide) (by decide) (by decide), hM.1 16 (by decide) (by decide) (by decide) (by decide) (by decide), hM.1 17 (by decide) (by decide) (by decide) (by decide) (by decide), hM.1 18 (by decide) (by decide) (by decide) (by decide) (by decide)]
  exact ⟨h.1, h.2.1, h.2.2.1, h.2.2.2.1, h4 h.2.2.2.2.1, h.2.2.2.2.2⟩
theorem rTm_fr {S S' M M' : Mem} {j f q p : Nat} (hS : sameS S S' j) (hM : sameM M M' j) (h : rTm f q p S M j) : rTm f q p S' M' j := by
  unfold rTm at h ⊢
  have e8 : M' 8 (5 * j) = M 8 (5 * j) := (hM.2 0 (by decide)).2
  rw [hS.2.2.1, hM.1 9 (by decide) (by decide) (by decide) (by decide) (by decide), hM.1 13 (by decide) (by decide) (by decide) (by decide) (by decide), hM.1 12 (by decide) (by decide) (by decide) (by decide) (by decide), hM.1 14 (by decide) (by decide) (by decide) (by decide) (by decide), e8]
  exact h
theorem rBk_fr {S S' M M' : Mem} {j b : Nat} (hS : sameS S S' j) (hM : sameM M M' j) (h : rBk b S M j) : rBk b S' M' j := by
  unfold rBk at h ⊢
  rw [hS.2.2.1, hM.1 15 (by decide) (by decide) (by decide) (by decide) (by decide)]
  exact h
theorem rBr_fr {S S' M M' : Mem} {j : Nat} (hS : sameS S S' j) (hM : sameM M M' j) (h : rBr S M j) : rBr S' M' j := by
  unfold rBr at h ⊢
  rw [hS.2.2.1, hM.1 15 (by decide) (by decide) (by decide) (by decide) (by decide)]
  exact h
theorem rAt_fr {S S' M M' : Mem} {j n : Nat} (hS : sameS S S' j) (hM : sameM M M' j) (h : rAt n S M j) : rAt n S' M' j := by
  unfold rAt at h ⊢
  rw [hS.1 8 (by decide), hM.1 18 (by decide) (by decide) (by decide) (by decide) (by decide)]
  exact h
theorem rOff_fr {S S' M M' : Mem} {j : Nat} (hS : sameS S S' j) (hM : sameM M M' j) (h : rOff S M j) : rOff S' M' j := by
  unfold rOff at h ⊢
  rw [hS.1 8 (by decide), hM.1 18 (by decide) (by decide) (by decide) (by decide) (by decide), hM.1 10 (by decide) (by decide) (by decide) (by decide) (by decide)]
  exact h
theorem rWa_fr {S S' M M' : Mem} {j t : Nat} (hS : sameS S S' j) (hM : sameM M M' j) (h : rWa t S M j) : rWa t S' M' j := by
  unfold rWa at h ⊢
  rw [hS.1 9 (by decide), hM.1 11 (by decide) (by decide) (by decide) (by decide) (by decide)]
  exact h
theorem on_fr {S S' M M' : Mem} {j : Nat} (hS : sameS S S' j) (hM : sameM M M' j) (h : S (8 + 5 * j) 0 = M 10 j) : S' (8 + 5 * j) 0 = M' 10 j := by
  rw [hS.2.2.1, hM.1 10 (by decide) (by decide) (by decide) (by decide) (by decide)]
  exact h
theorem m10_fr {S S' M M' : Mem} {j : Nat} (hM : sameM M M' j) : M' 10 j = M 10 j := hM.1 10 (by decide) (by decide) (by decide) (by decide) (by decide)
theorem PA_fr {S S' M M' : Mem} {j t : Nat} (hS : sameS S S' j) (hM : sameM M M' j) (hs : sil S S' M M' j) (h : PA t S M j) : PA t S' M' j := by
  obtain ⟨h1, h2, h3, h4, h5⟩ := h
  refine ⟨rCm_fr hS hM hs h1, rRw_fr hS hM h2, on_fr hS hM h3, ?_, rWa_fr hS hM h5⟩
  rcases h4 with h | ⟨h, f, q, p, b, a1, a2, a3, a4, a5⟩
  · exact Or.inl (rOff_fr hS hM h)
  · exact Or.inr ⟨(hM.1 10 (by decide) (by decide) (by decide) (by decide) (by decide)).trans h, f, q, p, b, rTm_fr hS hM a1, a2, a3, rAt_fr hS hM a4, rBk_fr hS hM a5⟩
theorem PB_fr {S S' M M' : Mem} {j t : Nat} (hS : sameS S S' j) (hM : sameM M M' j) (hs : sil S S' M M' j) (h : PB t S M j) : PB t S' M' j := by
  obtain ⟨h1, h2, h3, h4, h5⟩ := h
  refine ⟨rCm_fr hS hM hs h1, rRw_fr hS hM h2, on_fr hS hM h3, ?_, rWa_fr hS hM h5⟩
  rcases h4 with h | ⟨h, f, q, p, b, a1, a2, a3, a4, a5, a6⟩
  · exact Or.inl (rOff_fr hS hM h)
  · exact Or.inr ⟨(hM.1 10 (by decide) (by decide) (by decide) (by decide) (by decide)).trans h, f, q, p, b, rTm_fr hS hM a1, a2, a3, rAt_fr hS hM a4, rBk_fr hS hM a5, a6⟩
theorem PC_fr {S S' M M' : Mem} {j t : Nat} (hS : sameS S S' j) (hM : sameM M M' j) (hs : sil S S' M M' j) (h : PC t S M j) : PC t S' M' j := by
  obtain ⟨h1, h2, h3, h4, h5, h6⟩ := h
  have e10 := hM.1 10 (by decide) (by decide) (by decide) (by decide) (by decide)
  have e11 := hM.1 11 (by decide) (by decide) (by decide) (by decide) (by decide)
  refine ⟨rCm_fr hS hM hs h1, rRw_fr hS hM h2, on_fr hS hM h3, ?_, rWa_fr hS hM h5, by rw [e10, e11]; exact h6⟩
  rcases h4 with h | ⟨h, f, q, p, b, a1, a2, a3, a4, a5⟩
  · exact Or.inl (rOff_fr hS hM h)
  · refine Or.inr ⟨e10.trans h, f, q, p, b, rTm_fr hS hM a1, a2, a3, rAt_fr hS hM a4, ?_⟩
    rcases a5 with ⟨a5, a6⟩ | ⟨a5, a6, a7⟩
    · exact Or.inl ⟨rBk_fr hS hM a5, a6⟩
    · exact Or.inr ⟨a5, a6, rBr_fr hS hM a7⟩
-- small tables
theorem bc_eq : ∀ p, p < 16 → f_J6_bitCount_0f7a4 (nI p) = nI (ppc p) := by decide +kernel
theorem ct_eq : ∀ p, p < 16 → f_X6_count (nI p) = nI (ppc p) := by decide +kernel
theorem ppc_pos : ∀ p, p < 16 → 0 < p → 0 < ppc p := by decide +kernel
theorem ppc_le : ∀ p, p < 16 → ppc p ≤ 4 := by decide +kernel
theorem lw_le (c : Int32) : f_X5_leastWindow c = nI 3 ∨ f_X5_leastWindow c = nI 7 := by
  rw [f_X5_leastWindow_d]
  by_cases h : c = 0
  · rw [if_pos h]; exact Or.inl rfl
  · rw [if_neg h]; exact Or.inr rfl
theorem least_eq (M : Mem) (i : Nat) : f_X6_least M i = f_X5_leastWindow (M 2 i) := by
  rw [f_X5_leastWindow_d, f_X6_least_d]
theorem lw_sm (c : Int32) : sm (f_X5_leastWindow c) 32 := by
  rcases lw_le c with h | h <;> rw [h] <;> exact sm_nI (by decide) (by decide)
