-- the law's rows
section LCMP
variable {p : Program} {l : Launch} {e : Env} {R : Room} {s : State} {m : MethodId} {args : Array Value} {below : List Frame} {meth : Method} {c : Code} {H : Heap} {locs : List Loc} {cells slots : Nat} {Q : State → Prop}
variable {cc : ByteArray} {pc : Nat} {ls : Array Slot} {rest : List Value}
theorem x_lcmpE (hexec : p.tables.exec = Jvm.exec) (hb : c.code = cc) {x : Int64} (hdg : decode cc pc = .ok (.lcmp, 1))
    (k : W p l e R s m args below meth c H locs cells slots Q (F0 m (pc + 1) ls (.int 0 :: rest))) : W p l e R s m args below meth c H locs cells slots Q (F0 m pc ls (.long x :: .long x :: rest)) := by
  intro T hT X
  obtain ⟨t, a, b⟩ := k T hT X
  refine ⟨t, ?_, b⟩
  have hxx : ¬ x < x := Int64.lt_irrefl
  jvm_step X.here [X.here.top, hexec, hb, hdg, hxx]
  exact a
end LCMP
def LFix (D : va_G) (cI cS cZ cJ : ClassId) (G Gm : Nat → Nat) (o : Nat) (s : State) : Prop :=
  (∀ S' : Mem, va_D (fun q : Nat => s.heap.size ≤ q) (WL 36 G (cF cI cS G) S')) ∧ (∀ M' : Mem, va_D (fun q : Nat => s.heap.size ≤ q) (WL 20 Gm (mF cI cZ Gm) M')) ∧ (∀ k, k < 36 → o ≠ G k) ∧ (∀ k, k < 20 → o ≠ Gm k) ∧ (∀ k, k < 36 → ∀ j, j < 20 → G k ≠ Gm j) ∧ s.heap.size ≤ o ∧ va_K D vwCl (tY cI cS cZ cJ) s ∧ NW s ∧ TW s ∧ ZQ s.heap.size s ∧ NC s
def LSt (D : va_G) (cI cS cZ cJ : ClassId) (G Gm : Nat → Nat) (o : Nat) (s : State) (S M : Mem) (fo : Nat → Int64) (H : Heap) (locs : List Loc) : Prop :=
  va_P D vwCl (WL 36 G (cF cI cS G) S) H ∧ va_P D vwCl (WL 20 Gm (mF cI cZ Gm) M) H ∧ va_P D vwCl (oW cJ o fo) H ∧ va_S (fun q : Nat => s.heap.size ≤ q) s.heap H locs
theorem P_old {D : va_G} {ws : va_W} {H H1 : Heap} (h : va_P D vwCl ws H) (hk : ∀ q : Nat, q < H.size → H1[q]? = H[q]?) : va_P D vwCl ws H1 := h.kept (fun k q hq => hk q.1 (h k q hq).lt)
section LAWC
variable {p : Program} {l : Launch} {e : Env} {R : Room} {s : State} {m : MethodId} {args a9 : Array Value} {below : List Frame} {meth : Method} {c : Code} {H : Heap} {locs : List Loc} {cells slots : Nat} {Q : State → Prop}
variable {pc : Nat} {ls : Array Slot} {rest st0 : List Value} {D : va_G} {cI cS cZ cJ : ClassId} {G Gm : Nat → Nat} {S M : Mem} {o : Nat} {fo : Nat → Int64} {free : Addr → Prop}
theorem l_good {S' : Mem} {x : Int64} (hF : LFix D cI cS cZ cJ G Gm o s) (hL : LSt D cI cS cZ cJ G Gm o s S M fo H locs) (hr : va_Run p l e R s m args below meth c H locs cells slots 0 0 (F0 m pc ls st0) rest (lQ S' x D cI cS cJ G o fo H.size a9) (lA G o H.size))
    (kk : ∀ (H1 : Heap) (locs1 : List Loc), LSt D cI cS cZ cJ G Gm o s S' M (vp_updL fo 0 x) H1 locs1 → W p l e R s m args below meth c H1 locs1 cells slots Q (F0 m (pc + 3) ls (.int (nI 0) :: rest))) : W p l e R s m args below meth c H locs cells slots Q (F0 m pc ls st0) := by
  obtain ⟨hD, hDm, hGo, hmo, hGm, ho, hK, hN, hT, hZ, hC⟩ := hF
  obtain ⟨hP, hM, hO, hS⟩ := hL
  have hA : ∀ q, lA G o H.size q → s.heap.size ≤ q := fun q h => by
    rcases h with h | h
    · exact fA_sub (hD S) (fun q h => Nat.le_trans hS.1 h) q h
    · rw [h]; exact ho
  refine va_calli hr hS (fun q _ h => hA q h) hA (fun r u t H1 locs1 ht hvm hw hB hz hk hS1 => ?_)
  have hw : r = nI 0 := hw
  obtain ⟨hP1, hO1⟩ := hB
  rw [ht] at hP1 hO1
  rw [hw]
  refine kk H1 locs1 ⟨hP1, hM.kept (fun k q hq => ?_), hO1, hS1⟩
  have hlt := (hM k q hq).lt
  obtain ⟨h1, rfl⟩ := WL_inv hq
  refine hk _ hlt (fun h => ?_)
  rcases h with (⟨k2, hk2, h⟩ | h) | h
  · exact hGm k2 hk2 k h1 h.symm
  · exact absurd hlt (Nat.not_lt.mpr h)
  · exact hmo k h1 h.symm
theorem l_bad {v : Int32} (hL : LSt D cI cS cZ cJ G Gm o s S M fo H locs) (hr : va_Run p l e R s m args below meth c H locs cells slots 1 6 (F0 m pc ls st0) rest (pQi v H.size a9) (fun q => H.size ≤ q))
    (kk : ∀ (H1 : Heap) (locs1 : List Loc), LSt D cI cS cZ cJ G Gm o s S M fo H1 locs1 → W p l e R s m args below meth c H1 locs1 (cells + 1) (slots + 6) Q (F0 m (pc + 3) ls (.int v :: rest))) : W p l e R s m args below meth c H locs cells slots Q (F0 m pc ls st0) := by
  obtain ⟨hP, hM, hO, hS⟩ := hL
  refine va_calli hr hS (fun q _ h => Nat.le_trans hS.1 h) (fun q h => Nat.le_trans hS.1 h) (fun r u t H1 locs1 ht hvm hw hB hz hk hS1 => ?_)
  have hw : r = v := hw
  rw [hw]
  have hk2 : ∀ q : Nat, q < H.size → H1[q]? = H[q]? := fun q hq => hk q hq (Nat.not_le.mpr hq)
  exact kk H1 locs1 ⟨P_old hP hk2, P_old hM hk2, P_old hO hk2, hS1⟩
theorem l_pure {v : Int32} (hL : LSt D cI cS cZ cJ G Gm o s S M fo H locs) (hr : va_Run p l e R s m args below meth c H locs cells slots 0 0 (F0 m pc ls st0) rest (pQi v H.size a9) (fun q => H.size ≤ q))
    (kk : ∀ (H1 : Heap) (locs1 : List Loc), LSt D cI cS cZ cJ G Gm o s S M fo H1 locs1 → W p l e R s m args below meth c H1 locs1 cells slots Q (F0 m (pc + 3) ls (.int v :: rest))) : W p l e R s m args below meth c H locs cells slots Q (F0 m pc ls st0) := by
  obtain ⟨hP, hM, hO, hS⟩ := hL
  refine va_calli hr hS (fun q _ h => Nat.le_trans hS.1 h) (fun q h => Nat.le_trans hS.1 h) (fun r u t H1 locs1 ht hvm hw hB hz hk hS1 => ?_)
  have hw : r = v := hw
  rw [hw]
  have hk2 : ∀ q : Nat, q < H.size → H1[q]? = H[q]? := fun q hq => hk q hq (Nat.not_le.mpr hq)
  exact kk H1 locs1 ⟨P_old hP hk2, P_old hM hk2, P_old hO hk2, hS1⟩
theorem l_model {v : Int32 × Mem} (hF : LFix D cI cS cZ cJ G Gm o s) (hL : LSt D cI cS cZ cJ G Gm o s S M fo H locs) (hr : va_Run p l e R s m args below meth c H locs cells slots 0 0 (F0 m pc ls st0) rest (mQi v 20 (mF cI cZ Gm) D Gm H.size a9) (fA 20 Gm H.size))
    (kk : ∀ (H1 : Heap) (locs1 : List Loc), LSt D cI cS cZ cJ G Gm o s S v.2 fo H1 locs1 → W p l e R s m args below meth c H1 locs1 cells slots Q (F0 m (pc + 3) ls (.int v.1 :: rest))) : W p l e R s m args below meth c H locs cells slots Q (F0 m pc ls st0) := by
  obtain ⟨hD, hDm, hGo, hmo, hGm, ho, hK, hN, hT, hZ, hC⟩ := hF
  obtain ⟨hP, hM, hO, hS⟩ := hL
  have hA : ∀ q, fA 20 Gm H.size q → s.heap.size ≤ q := fA_sub (hDm M) (fun q h => Nat.le_trans hS.1 h)
  refine va_calli hr hS (fun q _ h => hA q h) hA (fun r u t H1 locs1 ht hvm hw hB hz hk hS1 => ?_)
  have hw : (r, u) = v := hw
  subst hw
  have hM1 : va_P D vwCl (WL 20 Gm (mF cI cZ Gm) u) t.heap := hB
  rw [ht] at hM1
  refine kk H1 locs1 ⟨hP.kept (fun k q hq => ?_), hM1, hO.kept (fun k q hq => ?_), hS1⟩
  · have hlt := (hP k q hq).lt
    obtain ⟨h1, rfl⟩ := WL_inv hq
    refine hk _ hlt (fun h => ?_)
    rcases h with ⟨k2, hk2, h⟩ | h
    · exact hGm k h1 k2 hk2 h
    · exact absurd hlt (Nat.not_lt.mpr h)
  · have hlt := (hO k q hq).lt
    have hq2 : q = (o, .inl (cJ, 1, .inr (.inl fo))) := List.mem_singleton.mp (List.mem_of_getElem? hq)
    subst hq2
    refine hk _ hlt (fun h => ?_)
    rcases h with ⟨k2, hk2, h⟩ | h
    · exact hmo k2 hk2 h
    · exact absurd hlt (Nat.not_lt.mpr h)
end LAWC
theorem nI_mod {i L : Nat} (hi : i < 2 ^ 20) (hL : L < 2 ^ 20) (h : ¬ Int32.ofNat L - nI 4 < nI i) : i + 4 ≤ L := by
  have h1 : (nI L - nI 4).toInt = (L : Int) - ((4 : Nat) : Int) := pk_sub_toInt (by omega) (by decide)
  have h2 : (nI i).toInt = (i : Int) := nI_toInt (by omega)
  have h3 : ¬ (nI L - nI 4).toInt < (nI i).toInt := fun q => h (Int32.lt_iff_toInt_lt.mpr q)
  rw [h1, h2] at h3
  omega
