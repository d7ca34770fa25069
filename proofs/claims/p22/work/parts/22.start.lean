theorem arrV_ext {cA : ClassId} {n : Nat} {f g : Nat → Value} (h : ∀ j, j < n → f j = g j) : arrV cA n f = arrV cA n g := by
  unfold arrV
  congr 1
  refine Array.ext (by simp) (fun i h1 h2 => ?_)
  have h3 : i < n := by simpa using h1
  simp [h i h3]
theorem va_P_q {D : va_G} {ws : va_W} {H : Heap} (h : va_P D vwCl ws H) (k : Nat) {a n : Nat} {cA : ClassId} {f g : Nat → Option Nat} (he : ws[k]? = some (a, .inl (cA, n, .inr (.inr (.inr (.inr f)))))) (hfg : ∀ j, j < n → f j = g j) : va_P D vwCl (ws.set k (a, .inl (cA, n, .inr (.inr (.inr (.inr g)))))) H := by
  intro i q hi
  by_cases e : i = k
  · subst e
    have hl := (List.getElem?_eq_some_iff.mp he).1
    rw [List.getElem?_set_self hl] at hi
    cases hi
    have h0 : H[a]? = some (vp_cell cA (n, .inr (.inr (.inr (.inr f))))) := h i _ he
    show H[a]? = some (vp_cell cA (n, .inr (.inr (.inr (.inr g)))))
    rw [h0, vp_cell_q, vp_cell_q, arrV_ext (fun j hj => by rw [hfg j hj])]
  · rw [List.getElem?_set_ne (Ne.symm e)] at hi
    exact h i q hi
theorem va_D_a {A : Nat → Prop} {ws ws' : va_W} (h : va_D A ws) (he : ws'.map (·.1) = ws.map (·.1)) : va_D A ws' := by
  have key : ∀ (k : Nat) (q : Nat × va_E), ws'[k]? = some q → ∃ q', ws[k]? = some q' ∧ q'.1 = q.1 := by
    intro k q hq
    have h1 : (ws'.map (·.1))[k]? = some q.1 := by rw [List.getElem?_map, hq]; rfl
    rw [he, List.getElem?_map] at h1
    cases hw : ws[k]? with
    | none => rw [hw] at h1; cases h1
    | some q' => rw [hw] at h1; exact ⟨q', rfl, Option.some.inj h1⟩
  refine ⟨fun i j p q hi hj hpq => ?_, fun k q hq => ?_⟩
  · obtain ⟨p', a1, a2⟩ := key i p hi
    obtain ⟨q', b1, b2⟩ := key j q hj
    exact h.1 i j p' q' a1 b1 (by rw [a2, b2]; exact hpq)
  · obtain ⟨q', a1, a2⟩ := key k q hq
    rw [← a2]
    exact h.2 k q' a1
-- the worlds behind the constructors
def S0 : Mem := fun b => if b < 6 then (match b with
    | 0 => fun i => match i with
      | 0 => nI 5
      | _ => nI 0
    | 4 => fun _ => nI 0
    | _ => fun _ => 0)
  else (match (b - 6) % 5 with
    | 0 => fun i => match i with
      | 1 => nI 3
      | 2 => (-1)
      | 9 => (-1)
      | _ => nI 0
    | 1 => fun _ => nI 0
    | 2 => fun _ => nI 0
    | _ => fun _ => 0)
def G5 (h0 : Nat) : (Nat × Nat × Nat × Nat × Nat × Nat × Nat × Nat × Nat × Nat × Nat × Nat × Nat × Nat × Nat × Nat × Nat × Nat × Nat × Nat × Nat × Nat × Nat × Nat × Nat × Nat × Nat × Nat × Nat × Nat × Nat × Nat × Nat × Nat × Nat) → Nat → Nat := fun u => match u with | (p1, p2, p3, p4, p5, p6, p7, p8, p9, p10, p11, p12, p13, p14, p15, p16, p17, p18, p19, p20, p21, p22, p23, p24, p25, p26, p27, p28, p29, p30, p31, p32, p33, p34, p35) => fun k => [h0, p1, p2, p3, p4, p5, p6, p7, p10, p8, p9, p11, p12, p15, p13, p14, p16, p17, p20, p18, p19, p21, p22, p25, p23, p24, p26, p27, p30, p28, p29, p31, p32, p35, p33, p34].getD k 0
theorem G5_0 (h0 : Nat) (u : Nat × Nat × Nat × Nat × Nat × Nat × Nat × Nat × Nat × Nat × Nat × Nat × Nat × Nat × Nat × Nat × Nat × Nat × Nat × Nat × Nat × Nat × Nat × Nat × Nat × Nat × Nat × Nat × Nat × Nat × Nat × Nat × Nat × Nat × Nat) : G5 h0 u 0 = h0 := by
  obtain ⟨p1, p2, p3, p4, p5, p6, p7, p8, p9, p10, p11, p12, p13, p14, p15, p16, p17, p18, p19, p20, p21, p22, p23, p24, p25, p26, p27, p28, p29, p30, p31, p32, p33, p34, p35⟩ := u
  rfl
set_option maxHeartbeats 4000000 in
set_option maxRecDepth 100000 in
theorem iW5_P (D : va_G) (cI cS : ClassId) (h0 : Nat) (u : Nat × Nat × Nat × Nat × Nat × Nat × Nat × Nat × Nat × Nat × Nat × Nat × Nat × Nat × Nat × Nat × Nat × Nat × Nat × Nat × Nat × Nat × Nat × Nat × Nat × Nat × Nat × Nat × Nat × Nat × Nat × Nat × Nat × Nat × Nat) (H : Heap) (h : va_P D vwCl (iW_X5 cI cS h0 u) H) : va_P D vwCl (WL 36 (G5 h0 u) (cF cI cS (G5 h0 u)) S0) H := by
  obtain ⟨p1, p2, p3, p4, p5, p6, p7, p8, p9, p10, p11, p12, p13, p14, p15, p16, p17, p18, p19, p20, p21, p22, p23, p24, p25, p26, p27, p28, p29, p30, p31, p32, p33, p34, p35⟩ := u
  refine (va_P_q h 1 rfl (g := fun i => some ([h0, p1, p2, p3, p4, p5, p6, p7, p10, p8, p9, p11, p12, p15, p13, p14, p16, p17, p20, p18, p19, p21, p22, p25, p23, p24, p26, p27, p30, p28, p29, p31, p32, p35, p33, p34].getD (6 + 5 * i) 0)) (fun j hj => ?_)).sub [0, 1, 2, 3, 4, 5, 6, 7, 10, 8, 9, 11, 12, 15, 13, 14, 16, 17, 20, 18, 19, 21, 22, 25, 23, 24, 26, 27, 30, 28, 29, 31, 32, 35, 33, 34] rfl
  rcases (show j = 0 ∨ j = 1 ∨ j = 2 ∨ j = 3 ∨ j = 4 ∨ j = 5 by omega) with rfl | rfl | rfl | rfl | rfl | rfl <;> rfl
set_option maxHeartbeats 4000000 in
set_option maxRecDepth 100000 in
theorem iW5_D (A : Nat → Prop) (cI cS : ClassId) (h0 : Nat) (u : Nat × Nat × Nat × Nat × Nat × Nat × Nat × Nat × Nat × Nat × Nat × Nat × Nat × Nat × Nat × Nat × Nat × Nat × Nat × Nat × Nat × Nat × Nat × Nat × Nat × Nat × Nat × Nat × Nat × Nat × Nat × Nat × Nat × Nat × Nat) (h : va_D A (iW_X5 cI cS h0 u)) : va_D A (WL 36 (G5 h0 u) (cF cI cS (G5 h0 u)) S0) := by
  obtain ⟨p1, p2, p3, p4, p5, p6, p7, p8, p9, p10, p11, p12, p13, p14, p15, p16, p17, p18, p19, p20, p21, p22, p23, p24, p25, p26, p27, p28, p29, p30, p31, p32, p33, p34, p35⟩ := u
  have h2 := va_D_a h (ws' := (iW_X5 cI cS h0 (p1, p2, p3, p4, p5, p6, p7, p8, p9, p10, p11, p12, p13, p14, p15, p16, p17, p18, p19, p20, p21, p22, p23, p24, p25, p26, p27, p28, p29, p30, p31, p32, p33, p34, p35)).set 1 (p1, .inl (cS, 6, .inr (.inr (.inr (.inr (fun i => some ([h0, p1, p2, p3, p4, p5, p6, p7, p10, p8, p9, p11, p12, p15, p13, p14, p16, p17, p20, p18, p19, p21, p22, p25, p23, p24, p26, p27, p30, p28, p29, p31, p32, p35, p33, p34].getD (6 + 5 * i) 0)))))))) rfl
  exact h2.sub [0, 1, 2, 3, 4, 5, 6, 7, 10, 8, 9, 11, 12, 15, 13, 14, 16, 17, 20, 18, 19, 21, 22, 25, 23, 24, 26, 27, 30, 28, 29, 31, 32, 35, 33, 34] (by decide) rfl
