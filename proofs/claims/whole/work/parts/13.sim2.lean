-- numbers: both take the same one
theorem x4_spec {S : Mem} {fi c : Nat} (h0 : S 4 0 = nI fi) (hf : fi < 200) (h1 : S 4 1 = nI c) (hc : c ≤ 200) (hp : 0 < c) : (f_X4_next S).1 = S 5 fi ∧ (f_X4_next S).2 4 0 = nI ((fi + 1) % 200) ∧ (f_X4_next S).2 4 1 = nI (c - 1) ∧ ∀ b, b ≠ 4 → (f_X4_next S).2 b = S b := by
  have hk : kN (S 4 0) = fi := by rw [h0]; exact kN_nI (by omega)
  rw [f_X4_next_d, if_neg (by rw [h1]; exact nI_nle hp (by omega)), hk]
  by_cases h : nI 200 ≤ S 4 0 + nI 1
  · rw [if_pos h]
    rw [h0, nI_add, nI_leI (by omega) (by omega)] at h
    have e : fi = 199 := by omega
    refine ⟨rfl, ?_, ?_, fun b hb => ?_⟩
    · dsimp only
      rw [ub_blk, pk_un (by decide), ub_blk, pk_us, e]
    · dsimp only
      rw [ub_blk, pk_us, ub_blk, pk_un (by decide), h1, pk_sub (by omega)]
    · dsimp only
      rw [ub_ne _ _ _ hb, ub_ne _ _ _ hb]
  · rw [if_neg h]
    rw [h0, nI_add, nI_leI (by omega) (by omega)] at h
    refine ⟨rfl, ?_, ?_, fun b hb => ?_⟩
    · dsimp only
      rw [ub_blk, pk_un (by decide), ub_blk, pk_us, h0, nI_add, Nat.mod_eq_of_lt (by omega)]
    · dsimp only
      rw [ub_blk, pk_us, ub_blk, pk_un (by decide), h1, pk_sub (by omega)]
    · dsimp only
      rw [ub_ne _ _ _ hb, ub_ne _ _ _ hb]
theorem x4_zero {S : Mem} (h1 : S 4 1 = nI 0) : f_X4_next S = (nI 0, S) := by
  rw [f_X4_next_d, if_pos (by rw [h1]; decide)]
theorem nn_L1_19 {c : Nat} (hc : c ≤ 199) : ∀ (n i : Nat) (M : Mem) (nx : Int32), i + n = 199 → M 0 3 = nI c → (f_X6_nextNumber_L1 n i M nx).1 = nx ∧ ∀ k, (i ≤ k → k < c → (f_X6_nextNumber_L1 n i M nx).2 19 k = M 19 (k + 1)) ∧ (k < i → (f_X6_nextNumber_L1 n i M nx).2 19 k = M 19 k)
  | 0, i, M, nx, hi, h3 => by
    rw [f_X6_nextNumber_L1_z]
    exact ⟨rfl, fun k => ⟨fun h1 h2 => by omega, fun _ => rfl⟩⟩
  | n + 1, i, M, nx, hi, h3 => by
    rw [f_X6_nextNumber_L1_s]
    by_cases h : M 0 3 ≤ nI i
    · rw [if_pos h]
      rw [h3, nI_leI (by omega) (by omega)] at h
      exact ⟨rfl, fun k => ⟨fun h1 h2 => by omega, fun _ => rfl⟩⟩
    · rw [if_neg h]
      obtain ⟨g1, g2⟩ := nn_L1_19 hc n (i + 1) (ub M 19 i (M 19 (i + 1))) nx (by omega) (by rw [ub_ne _ _ _ (by decide)]; exact h3)
      refine ⟨g1, fun k => ⟨fun h1 h2 => ?_, fun h1 => ?_⟩⟩
      · rcases Nat.lt_or_ge i k with q | q
        · rw [(g2 k).1 q h2, ub_blk, pk_un (by omega)]
        · have e : k = i := by omega
          rw [(g2 k).2 (by omega), ub_blk, e, pk_us]
      · rw [(g2 k).2 (by omega), ub_blk, pk_un (by omega)]
theorem nn_spec {M : Mem} {c : Nat} (h3 : M 0 3 = nI c) (hc : c ≤ 200) (hp : 0 < c) : (f_X6_nextNumber M).1 = M 19 0 ∧ (f_X6_nextNumber M).2 0 3 = nI (c - 1) ∧ (∀ k, k < c - 1 → (f_X6_nextNumber M).2 19 k = M 19 (k + 1)) ∧ (∀ b, b ≠ 19 → b ≠ 0 → (f_X6_nextNumber M).2 b = M b) ∧ ∀ j, j ≠ 3 → (f_X6_nextNumber M).2 0 j = M 0 j := by
  have hne : ¬ M 0 3 = 0 := by rw [h3]; exact nI_ne0 hp (by omega)
  have e1 : ub M 0 3 (M 0 3 - nI 1) 0 3 = nI (c - 1) := by rw [ub_blk, pk_us, h3, pk_sub (by omega)]
  have e0 : f_X6_nextNumber M = f_X6_nextNumber_L1 199 0 (ub M 0 3 (M 0 3 - nI 1)) (M 19 0) := by rw [f_X6_nextNumber_d, if_neg hne]
  obtain ⟨g1, g2⟩ := nn_L1_19 (c := c - 1) (by omega) 199 0 (ub M 0 3 (M 0 3 - nI 1)) (M 19 0) (by omega) e1
  have g0 : (f_X6_nextNumber M).2 0 = ub M 0 3 (M 0 3 - nI 1) 0 := by rw [e0]; exact nn_L1_blk (by decide) _ _ _ _
  refine ⟨by rw [e0]; exact g1, by rw [g0]; exact e1, fun k hk => ?_, fun b h1 h2 => nn_blk M h1 h2, fun j hj => ?_⟩
  · rw [e0, (g2 k).1 (by omega) hk, ub_ne _ _ _ (by decide)]
  · rw [g0, ub_blk, pk_un hj]
theorem nn_zero {M : Mem} (h3 : M 0 3 = nI 0) : f_X6_nextNumber M = (nI 0, M) := by
  rw [f_X6_nextNumber_d, if_pos (by rw [h3]; decide)]
theorem rQu_next {S M : Mem} (h : rQu S M) : rQu (f_X4_next S).2 (f_X6_nextNumber M).2 ∧ (f_X4_next S).1 = (f_X6_nextNumber M).1 ∧ sm (f_X6_nextNumber M).1 1001 ∧ (∀ b, b ≠ 4 → (f_X4_next S).2 b = S b) ∧ (∀ b, b ≠ 19 → b ≠ 0 → (f_X6_nextNumber M).2 b = M b) ∧ ∀ j, j ≠ 3 → (f_X6_nextNumber M).2 0 j = M 0 j := by
  obtain ⟨⟨a1, a2⟩, b1, ⟨c1, c2⟩, d⟩ := id h
  obtain ⟨fi, hfi⟩ : ∃ z, z = kN (S 4 0) := ⟨_, rfl⟩
  obtain ⟨c, hc⟩ : ∃ z, z = kN (M 0 3) := ⟨_, rfl⟩
  rw [← hfi] at a1 a2 d
  rw [← hc] at c1 c2 d
  rcases Nat.eq_zero_or_pos c with q | q
  · subst q
    rw [x4_zero (b1.trans c1), nn_zero c1]
    exact ⟨h, rfl, sm_nI (by decide) (by decide), fun _ _ => rfl, fun _ _ _ => rfl, fun _ _ => rfl⟩
  · obtain ⟨x1, x2, x3, x4⟩ := x4_spec a1 a2 (b1.trans c1) (by omega) q
    obtain ⟨y1, y2, y3, y4, y5⟩ := nn_spec c1 (by omega) q
    have d0 := d 0 q
    rw [Nat.add_zero, Nat.mod_eq_of_lt a2] at d0
    have k1 : kN ((f_X4_next S).2 4 0) = (fi + 1) % 200 := by rw [x2]; exact kN_nI (by omega)
    have k2 : kN ((f_X6_nextNumber M).2 0 3) = c - 1 := by rw [y2]; exact kN_nI (by omega)
    refine ⟨⟨by rw [x2]; exact sm_nI (by omega) (by decide), by rw [x3, y2], by rw [y2]; exact sm_nI (by omega) (by decide), fun k hk => ?_⟩, by rw [x1, y1]; exact d0.1, by rw [y1]; exact d0.2, x4, y4, y5⟩
    rw [k2] at hk
    rw [k1, x4 5 (by decide), y3 k hk]
    have dk := d (k + 1) (by omega)
    rw [show ((fi + 1) % 200 + k) % 200 = (fi + (k + 1)) % 200 by omega]
    exact dk
-- who hears somebody
theorem busy1 (M : Mem) (i : Nat) : ∀ n k, f_X6_isBusy_L1 M i n k (nI 1) = nI 1
  | 0, k => by rw [f_X6_isBusy_L1_z]
  | n + 1, k => by rw [f_X6_isBusy_L1_s, if_neg (by decide), busy1 M i n]
theorem busy_eq {S M : Mem} {t i : Nat} (hst : rSt S M) (hgl : S 0 1 = nI t) (ht : 1 ≤ t) (hi : i < 6) (hw : ∀ j, j < 6 → (M 11 j = nI 0 ∧ ¬ S (6 + 5 * j) 9 = nI (t - 1)) ∨ (M 11 j = nI 1 ∧ S (6 + 5 * j) 9 = nI (t - 1))) : ∀ n k, k + n = 6 → (f_X5_heardInSlotBefore_L1 S i n k = 0 ↔ f_X6_isBusy_L1 M i n k (nI 0) = 0)
  | 0, k, _ => by rw [f_X5_heardInSlotBefore_L1_z, f_X6_isBusy_L1_z]
  | n + 1, k, hk => by
    have ih := busy_eq hst hgl ht hi hw n (k + 1) (by omega)
    rw [f_X5_heardInSlotBefore_L1_s, f_X6_isBusy_L1_s, if_pos (show nI 0 = 0 by decide), f_X3_between_d, f_X6_heard_d]
    by_cases e : k = i
    · subst e
      rw [if_pos (rfl : nI k = nI k), hst.2 k hi, if_pos (by decide)]
      exact ih
    · rw [if_neg (fun h => e (nI_inj (by omega) (by omega) h)), (hst.1 i k hi (by omega)).1]
      by_cases h1 : M 1 (6 * i + k) ≤ 0
      · rw [if_pos h1, if_pos h1]
        exact ih
      · rw [if_neg h1, if_neg h1]
        rcases hw k (by omega) with ⟨h2, h3⟩ | ⟨h2, h3⟩
        · rw [if_pos (show M 11 k = 0 by rw [h2]; decide), if_neg (by rw [hgl, pk_sub ht]; exact h3)]
          exact ih
        · rw [if_neg (show ¬ M 11 k = 0 by rw [h2]; decide), if_pos (by rw [hgl, pk_sub ht]; exact h3), busy1]
-- who is disturbed
theorem broken1 (M : Mem) (i : Nat) : ∀ n k, f_X6_isBroken_L1 M i n k (nI 1) = nI 1
  | 0, k => by rw [f_X6_isBroken_L1_z]
  | n + 1, k => by rw [f_X6_isBroken_L1_s, if_neg (by decide), broken1 M i n]
theorem broken_L1 {S M : Mem} {g i : Nat} (hst : rSt S M) (hon : ∀ j, j < 6 → S (8 + 5 * j) 0 = M 10 j) (hi : i < 6) (hg : g < 6) (hgo : kN (M 7 (5 * i)) = g) : ∀ n k, k + n = 6 → (f_X5_isBrokenAt_L1 S g i n k = 0 ↔ f_X6_isBroken_L1 M i n k (nI 0) = 0)
  | 0, k, _ => by rw [f_X5_isBrokenAt_L1_z, f_X6_isBroken_L1_z]
  | n + 1, k, hk => by
    have ih := broken_L1 hst hon hi hg hgo n (k + 1) (by omega)
    have hk6 : k < 6 := by omega
    have e1 : M 1 (6 * k + g) = S 3 (g * 6 + k) := by rw [← (hst.1 k g hk6 hg).1, (hst.1 k g hk6 hg).2]
    have e2 : M 1 (6 * i + g) = S 3 (g * 6 + i) := by rw [← (hst.1 i g hi hg).1, (hst.1 i g hi hg).2]
    rw [f_X5_isBrokenAt_L1_s, f_X6_isBroken_L1_s, if_pos (show nI 0 = 0 by decide), f_X3_between_d, f_X3_between_d, f_X6_heard_d, f_X6_heard_d, hgo, e1, e2, hon k hk6]
    by_cases h1 : nI k = nI i
    · rw [if_pos h1, if_pos h1]
      exact ih
    · rw [if_neg h1, if_neg h1]
      by_cases h2 : k = g
      · subst h2
        rw [if_pos (rfl : nI k = nI k), hst.2 k hk6, if_pos (by decide)]
        exact ih
      · rw [if_neg (fun h => h2 (nI_inj (by omega) (by omega) h))]
        by_cases h3 : S 3 (g * 6 + k) ≤ 0
        · rw [if_pos h3, if_pos h3]
          by_cases h4 : M 10 k = 0
          · rw [if_pos h4]; exact ih
          · rw [if_neg h4]; exact ih
        · rw [if_neg h3, if_neg h3]
          by_cases h4 : M 10 k = 0
          · rw [if_pos h4, if_pos h4]; exact ih
          · rw [if_neg h4, if_neg h4]
            by_cases h5 : S 3 (g * 6 + k) ≤ S 3 (g * 6 + i) - nI 3
            · rw [if_pos h5, if_pos h5]; exact ih
            · rw [if_neg h5, if_neg h5, broken1]
theorem broken_eq {S M : Mem} {g i : Nat} (hst : rSt S M) (hon : ∀ j, j < 6 → S (8 + 5 * j) 0 = M 10 j) (hi : i < 6) (hg : g < 6) (hgo : kN (M 7 (5 * i)) = g) : f_X5_isBrokenAt S g i = 0 ↔ f_X6_isBroken M i = 0 := by
  have e2 : M 1 (6 * i + g) = S 3 (g * 6 + i) := by rw [← (hst.1 i g hi hg).1, (hst.1 i g hi hg).2]
  rw [f_X5_isBrokenAt_d, f_X6_isBroken_d, f_X3_between_d, f_X6_heard_d, hgo, e2, hon g hg]
  by_cases h1 : M 10 g = 0
  · rw [if_pos h1, if_pos h1]
    by_cases h2 : S 3 (g * 6 + i) = 0
    · rw [if_pos h2, if_pos h2, broken1]
    · rw [if_neg h2, if_neg h2]
      exact broken_L1 hst hon hi hg hgo 6 0 (by omega)
  · rw [if_neg h1, if_neg h1, broken1]
    by_cases h2 : S 3 (g * 6 + i) = 0
    · rw [if_pos h2]
    · rw [if_neg h2]
-- who is silenced
theorem sil_eq {g i : Nat} {x : Int32} (hg : g < 6) (hi : i < 6) : ∀ (n k : Nat) (S M : Mem), k + n = 6 → rSt S M → M 14 i = x → (∀ j, j < 6 → S (6 + 5 * j) 4 = M 6 j) →
    (∀ j, j < 6 → f_X5_silenceAround_L1 g i x n k S (6 + 5 * j) 4 = f_X6_silences_L1 i n k M g 6 j) ∧ (∀ b, b ≠ 6 → f_X6_silences_L1 i n k M g b = M b) ∧ ∀ b a, (a ≠ 4 ∨ ∀ j, j < 6 → b ≠ 6 + 5 * j) → f_X5_silenceAround_L1 g i x n k S b a = S b a
  | 0, k, S, M, _, hst, hx, h4 => by
    rw [f_X5_silenceAround_L1_z, f_X6_silences_L1_z]
    exact ⟨h4, fun _ _ => rfl, fun _ _ _ => rfl⟩
  | n + 1, k, S, M, hk, hst, hx, h4 => by
    have hk6 : k < 6 := by omega
    have ih := sil_eq hg hi n (k + 1) S M (by omega) hst hx h4
    have e1 : M 1 (6 * k + g) = S 3 (g * 6 + k) := by rw [← (hst.1 k g hk6 hg).1, (hst.1 k g hk6 hg).2]
    rw [f_X5_silenceAround_L1_s, f_X6_silences_L1_s, f_X3_between_d, f_X6_heard_d, e1, hx]
    by_cases h1 : nI k = nI i
    · rw [if_pos h1, if_pos h1]
      exact ih
    · rw [if_neg h1, if_neg h1]
      by_cases h2 : k = g
      · subst h2
        rw [if_pos (rfl : nI k = nI k), hst.2 k hk6, if_pos (by decide)]
        exact ih
      · rw [if_neg (fun h => h2 (nI_inj (by omega) (by omega) h))]
        by_cases h3 : S 3 (g * 6 + k) ≤ 0
        · rw [if_pos h3, if_pos h3]
          exact ih
        · rw [if_neg h3, if_neg h3]
          by_cases h5 : x ≤ M 6 k
          · rw [if_pos h5]
            have e4 : (if S (6 + 5 * k) 4 < x then x else S (6 + 5 * k) 4) = S (6 + 5 * k) 4 := if_neg (by rw [h4 k hk6]; exact Int32.not_lt.mpr h5)
            rw [e4]
            have hs : rSt (ub S (6 + 5 * k) 4 (S (6 + 5 * k) 4)) M := by
              unfold rSt at hst ⊢
              rw [ub_ne _ _ _ (by omega)]
              exact hst
            obtain ⟨g1, g2, g3⟩ := sil_eq hg hi n (k + 1) (ub S (6 + 5 * k) 4 (S (6 + 5 * k) 4)) M (by omega) hs hx (fun j hj => by
              by_cases e : j = k
              · subst e; rw [ub_blk, pk_us]; exact h4 j hj
              · rw [ub_ne _ _ _ (by omega)]; exact h4 j hj)
            refine ⟨g1, g2, fun b a h => ?_⟩
            rw [g3 b a h]
            by_cases e : b = 6 + 5 * k
            · subst e
              rw [ub_blk]
              by_cases ea : a = 4
              · subst ea; rw [pk_us]
              · rw [pk_un ea]
            · rw [ub_ne _ _ _ e]
          · rw [if_neg h5]
            have e4 : (if S (6 + 5 * k) 4 < x then x else S (6 + 5 * k) 4) = x := if_pos (by rw [h4 k hk6]; exact Int32.not_le.mp h5)
            rw [e4]
            have hs : rSt (ub S (6 + 5 * k) 4 x) (ub M 6 k x) := by
              unfold rSt at hst ⊢
              rw [ub_ne _ _ _ (by omega), ub_ne _ _ _ (by decide)]
              exact hst
            obtain ⟨g1, g2, g3⟩ := sil_eq (x := x) hg hi n (k + 1) (ub S (6 + 5 * k) 4 x) (ub M 6 k x) (by omega) hs (by rw [ub_ne _ _ _ (by decide)]; exact hx) (fun j hj => by
              by_cases e : j = k
              · subst e; rw [ub_blk, pk_us, ub_blk, pk_us]
              · rw [ub_ne _ _ _ (by omega), ub_blk, pk_un e]; exact h4 j hj)
            refine ⟨g1, fun b hb => by rw [g2 b hb, ub_ne _ _ _ hb], fun b a h => ?_⟩
            rw [g3 b a h]
            by_cases e : b = 6 + 5 * k
            · subst e
              rcases h with h | h
              · rw [ub_blk, pk_un h]
              · exact absurd rfl (h k hk6)
            · rw [ub_ne _ _ _ e]
-- the part that is sent
def pcF (x : Int32) : Nat → Nat → Int32 → Int32 → Int32
  | 0, _, b, _ => b
  | n + 1, i, b, r => if (x >>> ((nI i) &&& 31)) &&& (nI 1) = nI 1 then (if r = 0 then (pcF x n (i + 1) ((nI 1) <<< ((nI i) &&& 31)) (r - (nI 1))) else (pcF x n (i + 1) b (r - (nI 1)))) else (pcF x n (i + 1) b (r - (nI 0)))
theorem pcF_eq (M : Mem) (i : Nat) : ∀ n k b r, f_X6_piece_L1 M i n k b r = pcF (M 8 (5 * i)) n k b r
  | 0, k, b, r => rfl
  | n + 1, k, b, r => by rw [f_X6_piece_L1_s, pcF, pcF_eq M i n, pcF_eq M i n, pcF_eq M i n]
def ptF (a : Int32) : Nat → Nat → Int32 → Int32
  | 0, _, r => r &&& (-r)
  | n + 1, i, r => if a ≤ nI i then (r &&& (-r)) else (ptF a n (i + 1) (r &&& (r - (nI 1))))
theorem ptF_eq (S : Mem) (i : Nat) (t : Int32) : ∀ n k r, f_X1_partIn_L1 S i t n k r = ptF ((t - (f_X1_firstSlotOfParts S i)) / (nI 2)) n k r
  | 0, k, r => by rw [f_X1_partIn_L1_z, ptF]; split <;> rfl
  | n + 1, k, r => by rw [f_X1_partIn_L1_s, ptF, ptF_eq S i t n]
def pbit (p a : Nat) : Nat := kN (pcF (nI p) 4 0 (nI 1) (nI a))
theorem pbit_tab : ∀ p, p < 16 → ∀ a, a < 4 → a < ppc p → pcF (nI p) 4 0 (nI 1) (nI a) = nI (pbit p a) ∧ ptF (nI a) 4 0 (nI p) = nI (pbit p a) ∧ pbit p a < 16 := by decide +kernel
-- parts and what is broken of them
theorem or_tab : ∀ b, b < 16 → ∀ c, c < 16 → nI b ||| nI c = nI (b ||| c) ∧ b ||| c < 16 := by decide +kernel
def gdp (p b : Nat) : Nat := kN (nI p &&& (nI b ^^^ (-1)))
def lfp (p b : Nat) : Nat := kN (nI p &&& nI b)
theorem gd_tab : ∀ p, p < 16 → ∀ b, b < 16 → nI p &&& (nI b ^^^ (-1)) = nI (gdp p b) ∧ gdp p b < 16 ∧ nI p &&& nI b = nI (lfp p b) ∧ lfp p b < 16 ∧ nI p &&& (nI (gdp p b) ^^^ (-1)) = nI (lfp p b) := by decide +kernel
theorem win_tab : ∀ w, w < 32 → (if nI 31 < (nI 2 * nI w) + nI 1 then nI 31 else (nI 2 * nI w) + nI 1) = nI (min (2 * w + 1) 31) ∧ (if (nI 2 * nI w) + nI 1 ≤ nI 31 then (nI 2 * nI w) + nI 1 else nI 31) = nI (min (2 * w + 1) 31) := by decide +kernel
