-- the memory of a world: block k is what the cell at place k holds
abbrev Mem : Type := Nat → Nat → Int32
def ub (S : Mem) (b i : Nat) (v : Int32) : Mem := fun b' => if b' = b then upd (S b) i v else S b'
theorem ub_blk (S : Mem) (b i : Nat) (v : Int32) : ub S b i v b = upd (S b) i v := by simp [ub]
theorem ub_ne (S : Mem) {b b' : Nat} (i : Nat) (v : Int32) (h : b' ≠ b) : ub S b i v b' = S b' := by simp [ub, h]
def WL (n : Nat) (G : Nat → Nat) (F : Nat → (Nat → Int32) → va_E) (S : Mem) : va_W := (List.range n).map (fun k => (G k, F k (S k)))
theorem WL_get {n : Nat} {G : Nat → Nat} {F : Nat → (Nat → Int32) → va_E} {S : Mem} {k : Nat} (h : k < n) : (WL n G F S)[k]? = some (G k, F k (S k)) := by simp [WL, h]
theorem WL_at {n : Nat} {G : Nat → Nat} {F : Nat → (Nat → Int32) → va_E} {S : Mem} {k : Nat} {e : va_E} (h : k < n) (he : F k (S k) = e) : (WL n G F S)[k]? = some (G k, e) := by rw [WL_get h, he]
theorem WL_inv {n : Nat} {G : Nat → Nat} {F : Nat → (Nat → Int32) → va_E} {S : Mem} {k : Nat} {q : Nat × va_E} (h : (WL n G F S)[k]? = some q) : k < n ∧ q = (G k, F k (S k)) := by
  have hk : k < n := by
    have := (List.getElem?_eq_some_iff.mp h).1
    simpa [WL] using this
  rw [WL_get hk] at h
  exact ⟨hk, (Option.some.inj h).symm⟩
theorem WL_set {n : Nat} {G : Nat → Nat} {F : Nat → (Nat → Int32) → va_E} {S : Mem} {k j : Nat} {x : Int32} {e : va_E} (h : k < n) (he : F k (upd (S k) j x) = e) : (WL n G F S).set k (G k, e) = WL n G F (ub S k j x) := by
  apply List.ext_getElem?
  intro i
  by_cases hi : i = k
  · subst hi
    rw [List.getElem?_set_self (by simpa [WL] using h), WL_get h, ub_blk, he]
  · rw [List.getElem?_set_ne (Ne.symm hi)]
    by_cases hn : i < n
    · rw [WL_get hn, WL_get hn, ub_ne _ _ _ hi]
    · rw [List.getElem?_eq_none (by simp [WL]; omega), List.getElem?_eq_none (by simp [WL]; omega)]
theorem WL_D {A : Nat → Prop} {n : Nat} {G : Nat → Nat} {F : Nat → (Nat → Int32) → va_E} {S S' : Mem} (h : va_D A (WL n G F S)) : va_D A (WL n G F S') := by
  refine ⟨fun i j p q hi hj hpq => ?_, fun k q hk => ?_⟩
  · obtain ⟨h1, rfl⟩ := WL_inv hi
    obtain ⟨h2, rfl⟩ := WL_inv hj
    exact h.1 i j _ _ (WL_get h1) (WL_get h2) hpq
  · obtain ⟨h1, rfl⟩ := WL_inv hk
    exact h.2 k (G k, F k (S k)) (WL_get (S := S) h1)
def fA (n : Nat) (G : Nat → Nat) (sz : Nat) : Nat → Prop := fun q => (∃ k, k < n ∧ q = G k) ∨ sz ≤ q
theorem WL_self {B : Nat → Prop} {n : Nat} {G : Nat → Nat} {F : Nat → (Nat → Int32) → va_E} {S S' : Mem} {sz : Nat} (h : va_D B (WL n G F S)) : va_D (fA n G sz) (WL n G F S') :=
  ⟨(WL_D h).1, fun k q hk => by obtain ⟨h1, rfl⟩ := WL_inv hk; exact Or.inl ⟨k, h1, rfl⟩⟩
theorem fA_sub {A : Nat → Prop} {n : Nat} {G : Nat → Nat} {F : Nat → (Nat → Int32) → va_E} {S : Mem} {sz : Nat} (hD : va_D A (WL n G F S)) (hA : ∀ q, sz ≤ q → A q) : ∀ q, fA n G sz q → A q := fun q h => by
  rcases h with ⟨k, hk, rfl⟩ | h
  · exact hD.2 k _ (WL_get (S := S) hk)
  · exact hA q h
theorem P_kept {D : va_G} {cl : List vw_C} {ws : va_W} {H H1 : Heap} (hP : va_P D cl ws H) (hk : ∀ q : Nat, q < H.size → H1[q]? = H[q]?) : va_P D cl ws H1 := hP.kept (fun k q h => hk q.1 (hP k q h).lt)
-- the words of private members of nest mates
def nestW : List Cond := [.fieldLinkNest "BackofficeAir" 108 "BackofficeAir$Station" "sending" "LBackofficeAir$Sending;" "BackofficeAir", .fieldLinkNest "BackofficeAir" 112 "BackofficeAir$Sending" "on" "Z" "BackofficeAir", .fieldLinkNest "BackofficeAir" 118 "BackofficeAir$Station" "wait" "I" "BackofficeAir", .fieldLinkNest "BackofficeAir" 121 "BackofficeAir$Station" "failures" "I" "BackofficeAir", .fieldLinkNest "BackofficeAir" 124 "BackofficeAir$Station" "silencedTo" "I" "BackofficeAir", .fieldLinkNest "BackofficeAir" 130 "BackofficeAir$Station" "delivered" "I" "BackofficeAir", .fieldLinkNest "BackofficeAir" 133 "BackofficeAir$Station" "dropped" "I" "BackofficeAir", .fieldLinkNest "BackofficeAir" 136 "BackofficeAir$Station" "airtime" "I" "BackofficeAir", .fieldLinkNest "BackofficeAir" 139 "BackofficeAir$Station" "slotsOfEnded" "I" "BackofficeAir", .fieldLinkNest "BackofficeAir" 172 "BackofficeAir$Station" "lastSlotSent" "I" "BackofficeAir", .fieldLinkNest "BackofficeAir" 188 "BackofficeAir$Sending" "requestBroken" "Z" "BackofficeAir", .fieldLinkNest "BackofficeAir" 191 "BackofficeAir$Sending" "lastSlot" "I" "BackofficeAir", .fieldLinkNest "BackofficeAir" 60 "BackofficeAir$Station" "itsClass" "I" "BackofficeAir", .fieldLinkNest "BackofficeAir" 67 "BackofficeAir$Station" "window" "I" "BackofficeAir", .fieldLinkNest "BackofficeAir" 74 "BackofficeAir$Told" "left" "I" "BackofficeAir", .fieldLinkNest "BackofficeAir" 86 "BackofficeAir$Station" "row" "LBackofficeAir$Row;" "BackofficeAir", .fieldLinkNest "BackofficeAir" 92 "BackofficeAir$Row" "count" "I" "BackofficeAir", .fieldLinkNest "BackofficeAir$Station" 70 "BackofficeAir$Sending" "on" "Z" "BackofficeAir", .methodLinkNest "BackofficeAir" 17 ⟨"BackofficeAir$Strengths", "<init>", "()V"⟩ "BackofficeAir", .methodLinkNest "BackofficeAir" 24 ⟨"BackofficeAir$Told", "<init>", "()V"⟩ "BackofficeAir", .methodLinkNest "BackofficeAir" 36 ⟨"BackofficeAir$Station", "<init>", "()V"⟩ "BackofficeAir", .methodLinkNest "BackofficeAir$Station" 102 ⟨"BackofficeAir", "leastWindow", "(I)I"⟩ "BackofficeAir", .methodLinkNest "BackofficeAir$Station" 11 ⟨"BackofficeAir$Row", "<init>", "()V"⟩ "BackofficeAir", .methodLinkNest "BackofficeAir$Station" 20 ⟨"BackofficeAir$Sending", "<init>", "()V"⟩ "BackofficeAir", .methodLinkNest "BackofficeAir$Strengths" 19 ⟨"BackofficeAir", "isStation", "(I)Z"⟩ "BackofficeAir"]
def isNest (w : Cond) : Bool := match w with
  | .fieldLinkNest _ _ _ _ _ _ => true
  | .methodLinkNest _ _ _ _ => true
  | _ => false
theorem nestW_all : nestW.all isNest = true := by decide +kernel
def NW (U : State) : Prop := ∀ w ∈ nestW, va_Nw w U
theorem isNest_same {w : Cond} (h : isNest w = true) {u U : State} (hv : u.vm = U.vm) (hZ : va_Nw w u) : va_Nw w U := by
  unfold isNest at h
  split at h
  · exact va_Nw.same rfl hv hZ
  · exact va_Nw.same rfl hv hZ
  · cases h
theorem isNest_warm {w : Cond} (h : isNest w = true) {s U : State} (hW : s.WarmedH U.vm) (hZ : va_Nw w s) : va_Nw w U := by
  unfold isNest at h
  split at h
  · exact va_Nw.warmF hW hZ
  · exact va_Nw.warmM hW hZ
  · cases h
theorem NW.same {u U : State} (hv : u.vm = U.vm) (h : NW u) : NW U := fun w hw => isNest_same (List.all_eq_true.mp nestW_all w hw) hv (h w hw)
theorem NW.warm {s U : State} (hW : s.WarmedH U.vm) (h : NW s) : NW U := fun w hw => isNest_warm (List.all_eq_true.mp nestW_all w hw) hW (h w hw)
theorem NW.use {w : Cond} {A : Array Value} {U : State} (h : NW U) (hw : w ∈ nestW) (ht : w.onTables = true) : w.before A U = true := va_Nw.use ht (h w hw)
-- contracts
/-- a method's start: its arguments, the world, the tables' words -/
def wPc (n : Nat) (F : Nat → (Nat → Int32) → va_E) (D : va_G) (tys : List (ClassId × FieldType)) (G : Nat → Nat) (S : Mem) (sz : Nat) (av : List Value) : Array Value → State → Prop :=
  va_Pc av (fun U => U.heap.size = sz ∧ va_P D vwCl (WL n G F S) U.heap ∧ va_K D vwCl tys U ∧ va_D (fun _ => True) (WL n G F S) ∧ NW U)
theorem wPc_blind {n : Nat} {F : Nat → (Nat → Int32) → va_E} {D : va_G} {tys : List (ClassId × FieldType)} {G : Nat → Nat} {S : Mem} {sz : Nat} {av : List Value} : FrameBlind (wPc n F D tys G S sz av) := fun a U g mk q => by
  obtain ⟨q0, q1, qP, qK, qD, qN⟩ := q
  exact ⟨q0, q1, qP, va_K.moved (u := U) (U := U.calling g mk a) (Vm.Alike.refl U.vm) qK, qD, NW.same (u := U) (U := U.calling g mk a) rfl qN⟩
theorem wPc_at {n : Nat} {F : Nat → (Nat → Int32) → va_E} {D : va_G} {tys : List (ClassId × FieldType)} {G : Nat → Nat} {S : Mem} {s : State} {H : Heap} {av : List Value} (hP : va_P D vwCl (WL n G F S) H) (hK : va_K D vwCl tys s) {A : Nat → Prop} (hD : ∀ S' : Mem, va_D A (WL n G F S')) (hN : NW s) : ∀ U : State, U.heap = H → s.WarmedH U.vm → wPc n F D tys G S H.size av av.toArray U := fun U hU hW =>
  ⟨rfl, by rw [hU], by rw [hU]; exact hP, va_K.moved hW.alike hK, (hD S).weaken (fun _ _ _ _ => trivial), NW.warm hW hN⟩
/-- a static method's start: its arguments alone -/
def sPc (sz : Nat) (av : List Value) : Array Value → State → Prop := va_Pc av (fun U => U.heap.size = sz ∧ NW U)
theorem sPc_blind {sz : Nat} {av : List Value} : FrameBlind (sPc sz av) := fun a U g mk q => by
  obtain ⟨q0, q1, qN⟩ := q
  exact ⟨q0, q1, NW.same (u := U) (U := U.calling g mk a) rfl qN⟩
theorem sPc_at {s : State} {H : Heap} {av : List Value} (hN : NW s) : ∀ U : State, U.heap = H → s.WarmedH U.vm → sPc H.size av av.toArray U := fun U hU hW => ⟨rfl, by rw [hU], NW.warm hW hN⟩
/-- nothing old is changed, the answer is v -/
def pQi (v : Int32) (sz : Nat) : Array Value → State → Outcome → State → Prop := va_Qi (fun (r : Int32) (_ : Unit) => r = v) (fun _ _ => True) (fun q => sz ≤ q)
def pQr (a : Nat) (sz : Nat) : Array Value → State → Outcome → State → Prop := va_Qr (fun (_ : Unit) => True) (fun _ ra _ => ra = a) (fun q => sz ≤ q)
/-- the world becomes v.2, the answer is v.1 -/
def mQi (v : Int32 × Mem) (n : Nat) (F : Nat → (Nat → Int32) → va_E) (D : va_G) (G : Nat → Nat) (sz : Nat) : Array Value → State → Outcome → State → Prop := va_Qi (fun (r : Int32) (u : Mem) => (r, u) = v) (fun u t => va_P D vwCl (WL n G F u) t.heap) (fA n G sz)
def mQv (v : Mem) (n : Nat) (F : Nat → (Nat → Int32) → va_E) (D : va_G) (G : Nat → Nat) (sz : Nat) : Array Value → State → Outcome → State → Prop := va_Qv (fun (u : Mem) => u = v) (fun u t => va_P D vwCl (WL n G F u) t.heap) (fA n G sz)
section XR
variable {p : Program} {l : Launch} {e : Env} {R : Room} {s : State} {m : MethodId} {args : Array Value} {below : List Frame} {meth : Method} {c : Code} {H : Heap} {locs : List Loc} {cells slots : Nat} {Q : State → Prop}
variable {cc : ByteArray} {pc : Nat} {ls : Array Slot} {rest st0 : List Value} {D : va_G} {A : Nat → Prop} {tys : List (ClassId × FieldType)} {H0 : Heap} {n : Nat} {G : Nat → Nat} {F : Nat → (Nat → Int32) → va_E} {S : Mem} {a9 : Array Value}
/-- another way to say the number on top -/
theorem x_top {x y : Int32} (h : x = y) (k : W p l e R s m args below meth c H locs cells slots Q (F0 m pc ls (.int y :: rest))) : W p l e R s m args below meth c H locs cells slots Q (F0 m pc ls (.int x :: rest)) := h ▸ k
theorem x_get (hexec : p.tables.exec = Jvm.exec) (hb : c.code = cc) {own ref C : String} {T : u_T} {N ci index : Nat} {Ts : List Cond} (hts : ∀ w ∈ Ts, w.before args s = true) (hin : ∀ w ∈ u_ws C T N, w ∈ Ts) (hown : s.vm.findClass own = some m.cls) (hK : va_K D vwCl tys s) (hP : va_P D vwCl (WL n G F S) H) (q0 : Nat) (hq : q0 < n) {fs : List Value} (he : F q0 (S q0) = .inr (ci, fs)) (hc : vwCl[ci]? = some (C, T, N)) (k : Nat) (hk : k < N) (hlink : (Cond.fieldLink own index ref (T k).2.1 (T k).2.2.1).before args s = true) (href : ref = (T k).1) {v : Value} (hv : fs[k]? = some v) (hdg : decode cc pc = .ok (.getfield index, 3))
    (kk : W p l e R s m args below meth c H locs cells slots Q (F0 m (pc + 3) ls (v :: rest))) : W p l e R s m args below meth c H locs cells slots Q (F0 m pc ls (.ref (G q0) :: rest)) :=
  va_get hexec hb hts hin hown hK hP q0 (WL_at hq he) hc k hk hlink (fun x h => by rw [href]; exact h) hv hdg kk
theorem x_getN (hexec : p.tables.exec = Jvm.exec) (hb : c.code = cc) {own ref C host : String} {T : u_T} {N ci index : Nat} {Ts : List Cond} (hts : ∀ w ∈ Ts, w.before args s = true) (hin : ∀ w ∈ u_ws C T N, w ∈ Ts) (hown : s.vm.findClass own = some m.cls) (hK : va_K D vwCl tys s) (hP : va_P D vwCl (WL n G F S) H) (q0 : Nat) (hq : q0 < n) {fs : List Value} (he : F q0 (S q0) = .inr (ci, fs)) (hc : vwCl[ci]? = some (C, T, N)) (k : Nat) (hk : k < N) (hlink : (Cond.fieldLinkNest own index ref (T k).2.1 (T k).2.2.1 host).before args s = true) (href : ref = (T k).1) {v : Value} (hv : fs[k]? = some v) (hdg : decode cc pc = .ok (.getfield index, 3))
    (kk : W p l e R s m args below meth c H locs cells slots Q (F0 m (pc + 3) ls (v :: rest))) : W p l e R s m args below meth c H locs cells slots Q (F0 m pc ls (.ref (G q0) :: rest)) :=
  va_getN hexec hb hts hin hown hK hP q0 (WL_at hq he) hc k hk hlink (fun x h => by rw [href]; exact h) hv hdg kk
theorem x_put (hexec : p.tables.exec = Jvm.exec) (hb : c.code = cc) {own ref C : String} {T : u_T} {N ci index : Nat} {Ts : List Cond} (hts : ∀ w ∈ Ts, w.before args s = true) (hin : ∀ w ∈ u_ws C T N, w ∈ Ts) (ty0 : Nat → FieldType) (hty : ∀ k, k < N → parseFieldDescriptor (T k).2.2.1 = some (ty0 k)) (hnm : ∀ a, a < N → ∀ b, b < N → a ≠ b → (T a).2.1 ≠ (T b).2.1) (hown : s.vm.findClass own = some m.cls) (hK : va_K D vwCl tys s) (hP : va_P D vwCl (WL n G F S) H) (hD : ∀ S' : Mem, va_D A (WL n G F S')) (hS0 : va_S A H0 H locs) (q0 : Nat) (hq : q0 < n) {fs : List Value} (he : F q0 (S q0) = .inr (ci, fs)) (hc : vwCl[ci]? = some (C, T, N)) (k : Nat) (hk : k < N) (hlink : (Cond.fieldLink own index ref (T k).2.1 (T k).2.2.1).before args s = true) (href : ref = (T k).1) (hfin : (T k).2.2.2 = false) {ty : FieldType} {x : Int32} (hd : parseFieldDescriptor (T k).2.2.1 = some ty) (hn : narrow ty (.int x) = .int x) (hfit : fits ty (.int x) = true) (hl : k < fs.length) (j : Nat) (he2 : F q0 (upd (S q0) j x) = .inr (ci, fs.set k (.int x)))
    (hdg : decode cc pc = .ok (.putfield index, 3)) (kk : ∀ (H1 : Heap) (locs1 : List Loc), va_P D vwCl (WL n G F (ub S q0 j x)) H1 → va_S A H0 H1 locs1 → W p l e R s m args below meth c H1 locs1 cells slots Q (F0 m (pc + 3) ls rest)) : W p l e R s m args below meth c H locs cells slots Q (F0 m pc ls (.int x :: .ref (G q0) :: rest)) :=
  va_put hexec hb hts hin ty0 hty hnm hown hK hP (hD S) hS0 q0 (WL_at hq he) hc k hk hlink (fun x h => by rw [href]; exact h) hfin hd hn hfit hl hdg (fun H1 locs1 h1 _ h3 => kk H1 locs1 (by rw [← WL_set hq he2]; exact h1) h3)
theorem x_putN (hexec : p.tables.exec = Jvm.exec) (hb : c.code = cc) {own ref C host : String} {T : u_T} {N ci index : Nat} {Ts : List Cond} (hts : ∀ w ∈ Ts, w.before args s = true) (hin : ∀ w ∈ u_ws C T N, w ∈ Ts) (ty0 : Nat → FieldType) (hty : ∀ k, k < N → parseFieldDescriptor (T k).2.2.1 = some (ty0 k)) (hnm : ∀ a, a < N → ∀ b, b < N → a ≠ b → (T a).2.1 ≠ (T b).2.1) (hown : s.vm.findClass own = some m.cls) (hK : va_K D vwCl tys s) (hP : va_P D vwCl (WL n G F S) H) (hD : ∀ S' : Mem, va_D A (WL n G F S')) (hS0 : va_S A H0 H locs) (q0 : Nat) (hq : q0 < n) {fs : List Value} (he : F q0 (S q0) = .inr (ci, fs)) (hc : vwCl[ci]? = some (C, T, N)) (k : Nat) (hk : k < N) (hlink : (Cond.fieldLinkNest own index ref (T k).2.1 (T k).2.2.1 host).before args s = true) (href : ref = (T k).1) (hfin : (T k).2.2.2 = false) {ty : FieldType} {x : Int32} (hd : parseFieldDescriptor (T k).2.2.1 = some ty) (hn : narrow ty (.int x) = .int x) (hfit : fits ty (.int x) = true) (hl : k < fs.length) (j : Nat) (he2 : F q0 (upd (S q0) j x) = .inr (ci, fs.set k (.int x)))
    (hdg : decode cc pc = .ok (.putfield index, 3)) (kk : ∀ (H1 : Heap) (locs1 : List Loc), va_P D vwCl (WL n G F (ub S q0 j x)) H1 → va_S A H0 H1 locs1 → W p l e R s m args below meth c H1 locs1 cells slots Q (F0 m (pc + 3) ls rest)) : W p l e R s m args below meth c H locs cells slots Q (F0 m pc ls (.int x :: .ref (G q0) :: rest)) :=
  va_putN hexec hb hts hin ty0 hty hnm hown hK hP (hD S) hS0 q0 (WL_at hq he) hc k hk hlink (fun x h => by rw [href]; exact h) hfin hd hn hfit hl hdg (fun H1 locs1 h1 _ h3 => kk H1 locs1 (by rw [← WL_set hq he2]; exact h1) h3)
theorem x_iald (hexec : p.tables.exec = Jvm.exec) (hb : c.code = cc) (hK : va_K D vwCl tys s) (hP : va_P D vwCl (WL n G F S) H) (q0 t0 : Nat) (hq : q0 < n) {cA : ClassId} {z : Nat} (he : F q0 (S q0) = .inl (cA, z, .inl (S q0))) (ht : tys[t0]? = some (cA, .int)) (j : Nat) (hj : j < z) (hz : z ≤ 4096) (hdg : decode cc pc = .ok (.iaload, 1))
    (kk : W p l e R s m args below meth c H locs cells slots Q (F0 m (pc + 1) ls (.int (S q0 j) :: rest))) : W p l e R s m args below meth c H locs cells slots Q (F0 m pc ls (.int (nI j) :: .ref (G q0) :: rest)) :=
  va_iald hexec hb hK hP q0 t0 (WL_at hq he) ht (vp_in_nI hj (by omega)) hdg (by rw [nI_clamp (by omega)]; exact kk)
theorem x_zald (hexec : p.tables.exec = Jvm.exec) (hb : c.code = cc) (hK : va_K D vwCl tys s) (hP : va_P D vwCl (WL n G F S) H) (q0 t0 : Nat) (hq : q0 < n) {cA : ClassId} {z : Nat} (he : F q0 (S q0) = .inl (cA, z, .inl (S q0))) (ht : tys[t0]? = some (cA, .boolean)) (j : Nat) (hj : j < z) (hz : z ≤ 4096) (hdg : decode cc pc = .ok (.baload, 1))
    (kk : W p l e R s m args below meth c H locs cells slots Q (F0 m (pc + 1) ls (.int (S q0 j) :: rest))) : W p l e R s m args below meth c H locs cells slots Q (F0 m pc ls (.int (nI j) :: .ref (G q0) :: rest)) :=
  va_zald hexec hb hK hP q0 t0 (WL_at hq he) ht (vp_in_nI hj (by omega)) hdg (by rw [nI_clamp (by omega)]; exact kk)
theorem x_iast (hexec : p.tables.exec = Jvm.exec) (hb : c.code = cc) (hK : va_K D vwCl tys s) (hP : va_P D vwCl (WL n G F S) H) (hD : ∀ S' : Mem, va_D A (WL n G F S')) (hS : va_S A H0 H locs) (q0 t0 : Nat) (hq : q0 < n) {cA : ClassId} {z : Nat} (he : ∀ f : Nat → Int32, F q0 f = .inl (cA, z, .inl f)) (ht : tys[t0]? = some (cA, .int)) (j : Nat) (hj : j < z) (hz : z ≤ 4096) {x : Int32} (hdg : decode cc pc = .ok (.iastore, 1))
    (kk : ∀ (H1 : Heap) (locs1 : List Loc), va_P D vwCl (WL n G F (ub S q0 j x)) H1 → va_S A H0 H1 locs1 → W p l e R s m args below meth c H1 locs1 cells slots Q (F0 m (pc + 1) ls rest)) : W p l e R s m args below meth c H locs cells slots Q (F0 m pc ls (.int x :: .int (nI j) :: .ref (G q0) :: rest)) :=
  va_iast hexec hb hK hP (hD S) hS q0 t0 (WL_at hq (he _)) ht (vp_in_nI hj (by omega)) hdg (fun H1 locs1 h1 _ h3 => kk H1 locs1 (by rw [← WL_set hq (he _)]; rw [nI_clamp (by omega)] at h1; exact h1) h3)
theorem x_zast (hexec : p.tables.exec = Jvm.exec) (hb : c.code = cc) (hK : va_K D vwCl tys s) (hP : va_P D vwCl (WL n G F S) H) (hD : ∀ S' : Mem, va_D A (WL n G F S')) (hS : va_S A H0 H locs) (q0 t0 : Nat) (hq : q0 < n) {cA : ClassId} {z : Nat} (he : ∀ f : Nat → Int32, F q0 f = .inl (cA, z, .inl f)) (ht : tys[t0]? = some (cA, .boolean)) (j : Nat) (hj : j < z) (hz : z ≤ 4096) {x : Int32} (hdg : decode cc pc = .ok (.bastore, 1))
    (kk : ∀ (H1 : Heap) (locs1 : List Loc), va_P D vwCl (WL n G F (ub S q0 j (vp_nar .boolean x))) H1 → va_S A H0 H1 locs1 → W p l e R s m args below meth c H1 locs1 cells slots Q (F0 m (pc + 1) ls rest)) : W p l e R s m args below meth c H locs cells slots Q (F0 m pc ls (.int x :: .int (nI j) :: .ref (G q0) :: rest)) :=
  va_zast hexec hb hK hP (hD S) hS q0 t0 (WL_at hq (he _)) ht (vp_in_nI hj (by omega)) hdg (fun H1 locs1 h1 _ h3 => kk H1 locs1 (by rw [← WL_set hq (he _)]; rw [nI_clamp (by omega)] at h1; exact h1) h3)
theorem x_alen (hexec : p.tables.exec = Jvm.exec) (hb : c.code = cc) (hK : va_K D vwCl tys s) (hP : va_P D vwCl (WL n G F S) H) (q0 t0 : Nat) (hq : q0 < n) {cA : ClassId} {z : Nat} {x : (Nat → Int32) ⊕ (Nat → Int64) ⊕ (Nat → UInt32) ⊕ (Nat → UInt64) ⊕ (Nat → Option Nat)} (he : F q0 (S q0) = .inl (cA, z, x)) {ty : FieldType} (ht : tys[t0]? = some (cA, ty)) (hdg : decode cc pc = .ok (.arraylength, 1))
    (kk : W p l e R s m args below meth c H locs cells slots Q (F0 m (pc + 1) ls (.int (nI z) :: rest))) : W p l e R s m args below meth c H locs cells slots Q (F0 m pc ls (.ref (G q0) :: rest)) :=
  va_alen hexec hb hK hP q0 t0 (WL_at hq he) ht rfl hdg kk
theorem x_aald (hexec : p.tables.exec = Jvm.exec) (hb : c.code = cc) (hK : va_K D vwCl tys s) (hP : va_P D vwCl (WL n G F S) H) (q0 t0 : Nat) (hq : q0 < n) {cA : ClassId} {C : String} {z : Nat} {f : Nat → Option Nat} (he : F q0 (S q0) = .inl (cA, z, .inr (.inr (.inr (.inr f))))) (ht : tys[t0]? = some (cA, .object C)) (j : Nat) (hj : j < z) (hz : z ≤ 4096) (g : Nat) (hg : f j = some g) (hdg : decode cc pc = .ok (.aaload, 1))
    (kk : W p l e R s m args below meth c H locs cells slots Q (F0 m (pc + 1) ls (.ref g :: rest))) : W p l e R s m args below meth c H locs cells slots Q (F0 m pc ls (.int (nI j) :: .ref (G q0) :: rest)) :=
  va_aldq hexec hb hK hP q0 t0 (WL_at hq he) ht (vp_in_nI hj (by omega)) hdg (by rw [nI_clamp (by omega), hg]; exact kk)
theorem x_iaddN (hexec : p.tables.exec = Jvm.exec) (hb : c.code = cc) {a b : Nat} (hdg : decode cc pc = .ok (.iadd, 1)) (k : W p l e R s m args below meth c H locs cells slots Q (F0 m (pc + 1) ls (.int (nI (a + b)) :: rest))) : W p l e R s m args below meth c H locs cells slots Q (F0 m pc ls (.int (nI b) :: .int (nI a) :: rest)) := lv_iadd hexec hb hdg (by rw [nI_add]; exact k)
theorem x_imulN (hexec : p.tables.exec = Jvm.exec) (hb : c.code = cc) {a b : Nat} (hdg : decode cc pc = .ok (.imul, 1)) (k : W p l e R s m args below meth c H locs cells slots Q (F0 m (pc + 1) ls (.int (nI (a * b)) :: rest))) : W p l e R s m args below meth c H locs cells slots Q (F0 m pc ls (.int (nI b) :: .int (nI a) :: rest)) := lv_imul hexec hb hdg (by rw [pk_mul]; exact k)
theorem x_isubN (hexec : p.tables.exec = Jvm.exec) (hb : c.code = cc) {a b : Nat} (hab : b ≤ a) (hdg : decode cc pc = .ok (.isub, 1)) (k : W p l e R s m args below meth c H locs cells slots Q (F0 m (pc + 1) ls (.int (nI (a - b)) :: rest))) : W p l e R s m args below meth c H locs cells slots Q (F0 m pc ls (.int (nI b) :: .int (nI a) :: rest)) := lv_isub hexec hb hdg (by rw [pk_sub hab]; exact k)
/-- behind a call that changes nothing old -/
theorem x_pi {v : Int32} {free : Addr → Prop} (hr : va_Run p l e R s m args below meth c H locs cells slots 0 0 (F0 m pc ls st0) rest (pQi v H.size a9) free) (hS : va_S A s.heap H locs) (hA : ∀ q, s.heap.size ≤ q → A q) (hf : ∀ q, free q → H.size ≤ q)
    (kk : ∀ (H1 : Heap) (locs1 : List Loc), H.size ≤ H1.size → (∀ q : Nat, q < H.size → H1[q]? = H[q]?) → va_S A s.heap H1 locs1 → W p l e R s m args below meth c H1 locs1 cells slots Q (F0 m (pc + 3) ls (.int v :: rest))) : W p l e R s m args below meth c H locs cells slots Q (F0 m pc ls st0) :=
  va_calli hr hS (fun q h1 h2 => absurd h1 (Nat.not_lt.mpr h2)) (fun q h => hA q (Nat.le_trans hS.1 (hf q h))) (fun r u t H1 locs1 ht hvm hw hB hz hk hS1 => by
    have hw : r = v := hw
    rw [hw]
    exact kk H1 locs1 hz (fun q h => hk q h (Nat.not_le.mpr h)) hS1)
theorem x_pr {v : Nat} {free : Addr → Prop} (hr : va_Run p l e R s m args below meth c H locs cells slots 0 0 (F0 m pc ls st0) rest (pQr v H.size a9) free) (hS : va_S A s.heap H locs) (hA : ∀ q, s.heap.size ≤ q → A q) (hf : ∀ q, free q → H.size ≤ q)
    (kk : ∀ (H1 : Heap) (locs1 : List Loc), H.size ≤ H1.size → (∀ q : Nat, q < H.size → H1[q]? = H[q]?) → va_S A s.heap H1 locs1 → W p l e R s m args below meth c H1 locs1 cells slots Q (F0 m (pc + 3) ls (.ref v :: rest))) : W p l e R s m args below meth c H locs cells slots Q (F0 m pc ls st0) :=
  va_callr hr hS (fun q h1 h2 => absurd h1 (Nat.not_lt.mpr h2)) (fun q h => hA q (Nat.le_trans hS.1 (hf q h))) (fun u ra t H1 locs1 ht hvm hw hB hz hk hS1 => by
    have hB : ra = v := hB
    rw [hB]
    exact kk H1 locs1 hz (fun q h => hk q h (Nat.not_le.mpr h)) hS1)
/-- behind a call that changes the world -/
theorem x_mi {v : Int32 × Mem} (hr : va_Run p l e R s m args below meth c H locs cells slots 0 0 (F0 m pc ls st0) rest (mQi v n F D G H.size a9) (fA n G H.size)) (hS : va_S A s.heap H locs) (hF : ∀ q, fA n G H.size q → A q)
    (kk : ∀ (H1 : Heap) (locs1 : List Loc), H.size ≤ H1.size → (∀ q : Nat, q < H.size → ¬ fA n G H.size q → H1[q]? = H[q]?) → va_P D vwCl (WL n G F v.2) H1 → va_S A s.heap H1 locs1 → W p l e R s m args below meth c H1 locs1 cells slots Q (F0 m (pc + 3) ls (.int v.1 :: rest))) : W p l e R s m args below meth c H locs cells slots Q (F0 m pc ls st0) :=
  va_calli hr hS (fun q _ h => hF q h) hF (fun r u t H1 locs1 ht hvm hw hB hz hk hS1 => by
    have hw : (r, u) = v := hw
    subst hw
    rw [ht] at hB
    exact kk H1 locs1 hz hk hB hS1)
theorem x_mv {v : Mem} (hr : va_Run p l e R s m args below meth c H locs cells slots 0 0 (F0 m pc ls st0) rest (mQv v n F D G H.size a9) (fA n G H.size)) (hS : va_S A s.heap H locs) (hF : ∀ q, fA n G H.size q → A q)
    (kk : ∀ (H1 : Heap) (locs1 : List Loc), H.size ≤ H1.size → (∀ q : Nat, q < H.size → ¬ fA n G H.size q → H1[q]? = H[q]?) → va_P D vwCl (WL n G F v) H1 → va_S A s.heap H1 locs1 → W p l e R s m args below meth c H1 locs1 cells slots Q (F0 m (pc + 3) ls rest)) : W p l e R s m args below meth c H locs cells slots Q (F0 m pc ls st0) :=
  va_callv hr hS (fun q _ h => hF q h) hF (fun u t H1 locs1 ht hvm hw hB hz hk hS1 => by
    have hw : u = v := hw
    subst hw
    rw [ht] at hB
    exact kk H1 locs1 hz hk hB hS1)
/-- a body over a world, unpacked -/
theorem x_met {y : MethodName} {ws ws' : List Cond} {rm : Room} {av : List Value} {sz : Nat} {Qc : Array Value → State → Outcome → State → Prop} {free : Addr → Prop} {maxL : Nat} {ret : Option FieldType} (hy : plainName y.cls = true) (hw : ws = Cond.code y cc maxL ret :: ws') (hlen : (lg_sl av).length ≤ maxL)
    (body : ∀ (p : Program) (e : Env) (s : State) (m : MethodId) (below : List Frame) (meth : Method) (c : Code) (ls : Array Slot), p.tables.exec = Jvm.exec → c.code = cc → meth.sig.returnType = ret → c.maxLocals = maxL → (∀ w ∈ ws, w.before av.toArray s = true) → s.vm.findClass y.cls = some m.cls → meth.locks = false → s.heap.size = sz → va_P D vwCl (WL n G F S) s.heap → va_K D vwCl tys s → (∀ S' : Mem, va_D (fA n G s.heap.size) (WL n G F S')) → NW s → lv_has ls maxL (lv_args 0 av) → meth.name = y.name →
      W p l e rm s m av.toArray below meth c s.heap [] 0 0 (MQ below Qc av.toArray s 0 0 free) (F0 m 0 ls [])) : Met l y ws rm (wPc n F D tys G S sz av) Qc 0 0 free := by
  refine Met.ofW (cc := cc) (maxL := maxL) (ret := ret) hy hw ?_
  intro p e s m args below meth c s₁ B hml hv
  obtain ⟨rfl, hsz, hP, hK, hD0, hN⟩ := hv
  have hl := lv_entry av hlen
  rw [lg_entry_eq]
  exact body p e s m below meth c _ B.exec B.bytes B.returns hml (atoms_spec (ws := ws) B.pre) (findClass_of_methodNamed B.named) B.notSynchronized hsz hP hK (fun S' => WL_self hD0) hN hl (name_of_methodNamed B.named B.method).1
/-- a static body, unpacked -/
theorem x_sta {y : MethodName} {ws ws' : List Cond} {rm : Room} {av : List Value} {sz : Nat} {Qc : Array Value → State → Outcome → State → Prop} {free : Addr → Prop} {maxL : Nat} {ret : Option FieldType} (hy : plainName y.cls = true) (hw : ws = Cond.code y cc maxL ret :: ws') (hlen : (lg_sl av).length ≤ maxL)
    (body : ∀ (p : Program) (e : Env) (s : State) (m : MethodId) (below : List Frame) (meth : Method) (c : Code) (ls : Array Slot), p.tables.exec = Jvm.exec → c.code = cc → meth.sig.returnType = ret → c.maxLocals = maxL → (∀ w ∈ ws, w.before av.toArray s = true) → s.vm.findClass y.cls = some m.cls → meth.locks = false → s.heap.size = sz → NW s → lv_has ls maxL (lv_args 0 av) →
      W p l e rm s m av.toArray below meth c s.heap [] 0 0 (MQ below Qc av.toArray s 0 0 free) (F0 m 0 ls [])) : Met l y ws rm (sPc sz av) Qc 0 0 free := by
  refine Met.ofW (cc := cc) (maxL := maxL) (ret := ret) hy hw ?_
  intro p e s m args below meth c s₁ B hml hv
  obtain ⟨rfl, hsz, hN⟩ := hv
  have hl := lv_entry av hlen
  rw [lg_entry_eq]
  exact body p e s m below meth c _ B.exec B.bytes B.returns hml (atoms_spec (ws := ws) B.pre) (findClass_of_methodNamed B.named) B.notSynchronized hsz hN hl
/-- ends -/
theorem x_ret_p {v w : Int32} (hexec : p.tables.exec = Jvm.exec) (hb : c.code = cc) {ty : FieldType} (hr : meth.sig.returnType = some ty) (hn : narrow ty (.int v) = .int v) (hlocks : meth.locks = false) (hS : va_S (fun q => s.heap.size ≤ q) s.heap H locs) (hdg : decode cc pc = .ok (.ireturn, 1)) (hq : w = v) : W p l e R s m args below meth c H locs cells slots (MQ below (pQi w s.heap.size) args s cells slots (fun q => s.heap.size ≤ q)) (F0 m pc ls [.int v]) :=
  W.zret hexec hb hr hn (fun t ht hW => ⟨⟨v, (), rfl, hq.symm, trivial⟩, hS.F ht⟩) hS.2.2 hdg hlocks
theorem x_ret_m {v : Int32} {w : Int32 × Mem} (hexec : p.tables.exec = Jvm.exec) (hb : c.code = cc) {ty : FieldType} (hr : meth.sig.returnType = some ty) (hn : narrow ty (.int v) = .int v) (hlocks : meth.locks = false) (hP : va_P D vwCl (WL n G F S) H) (hS : va_S (fA n G s.heap.size) s.heap H locs) (hdg : decode cc pc = .ok (.ireturn, 1)) (hq : w = (v, S)) : W p l e R s m args below meth c H locs cells slots (MQ below (mQi w n F D G s.heap.size) args s cells slots (fA n G s.heap.size)) (F0 m pc ls [.int v]) :=
  W.zret hexec hb hr hn (fun t ht hW => ⟨⟨v, S, rfl, hq.symm, (show va_P D vwCl (WL n G F S) t.heap by rw [ht]; exact hP)⟩, hS.F ht⟩) hS.2.2 hdg hlocks
theorem x_ret_v {w : Mem} (hexec : p.tables.exec = Jvm.exec) (hb : c.code = cc) (hr : meth.sig.returnType = none) (hlocks : meth.locks = false) (hP : va_P D vwCl (WL n G F S) H) (hS : va_S (fA n G s.heap.size) s.heap H locs) (hdg : decode cc pc = .ok (.return_, 1)) (hq : w = S) : W p l e R s m args below meth c H locs cells slots (MQ below (mQv w n F D G s.heap.size) args s cells slots (fA n G s.heap.size)) (F0 m pc ls []) :=
  W.vret hexec hb hr (fun t ht hW => ⟨⟨S, rfl, hq.symm, (show va_P D vwCl (WL n G F S) t.heap by rw [ht]; exact hP)⟩, hS.F ht⟩) hS.2.2 hdg hlocks
theorem x_ret_r {v w : Nat} (hexec : p.tables.exec = Jvm.exec) (hb : c.code = cc) {C : String} (hr : meth.sig.returnType = some (.object C)) (hlocks : meth.locks = false) (hS : va_S (fun q => s.heap.size ≤ q) s.heap H locs) (hdg : decode cc pc = .ok (.areturn, 1)) (hq : w = v) : W p l e R s m args below meth c H locs cells slots (MQ below (pQr w s.heap.size) args s cells slots (fun q => s.heap.size ≤ q)) (F0 m pc ls [.ref v]) :=
  W.aret hexec hb hr (Or.inl ⟨C, rfl⟩) (Or.inr ⟨v, rfl⟩) (fun t ht hW => ⟨⟨(), v, rfl, trivial, hq.symm⟩, hS.F ht⟩) hS.2.2 hdg hlocks
end XR
-- the component's world
def cF (cI cS : ClassId) (G : Nat → Nat) (k : Nat) (f : Nat → Int32) : va_E :=
  if k < 6 then (match k with
    | 0 => .inr (5, [.ref (G 1), .ref (G 2), .ref (G 4), .int (f 0), .int (f 1)])
    | 1 => .inl (cS, 6, .inr (.inr (.inr (.inr (fun i => some (G (6 + 5 * i)))))))
    | 2 => .inr (3, [.ref (G 3)])
    | 3 => .inl (cI, 36, .inl f)
    | 4 => .inr (4, [.ref (G 5), .int (f 0), .int (f 1)])
    | _ => .inl (cI, 200, .inl f))
  else (match (k - 6) % 5 with
    | 0 => .inr (2, [.ref (G (k + 1)), .ref (G (k + 2)), .int (f 0), .int (f 1), .int (f 2), .int (f 3), .int (f 4), .int (f 5), .int (f 6), .int (f 7), .int (f 8), .int (f 9)])
    | 1 => .inr (0, [.ref (G (k + 2)), .ref (G (k + 3)), .int (f 0)])
    | 2 => .inr (1, [.int (f 0), .int (f 1), .int (f 2), .int (f 3), .int (f 4), .int (f 5), .int (f 6)])
    | 3 => .inl (cI, 5, .inl f)
    | _ => .inl (cI, 5, .inl f))
section CF
variable {cI cS : ClassId} {G : Nat → Nat}
theorem cF_air (f : Nat → Int32) : cF cI cS G 0 f = .inr (5, [.ref (G 1), .ref (G 2), .ref (G 4), .int (f 0), .int (f 1)]) := rfl
theorem cF_sts (f : Nat → Int32) : cF cI cS G 1 f = .inl (cS, 6, .inr (.inr (.inr (.inr (fun i => some (G (6 + 5 * i))))))) := rfl
theorem cF_str (f : Nat → Int32) : cF cI cS G 2 f = .inr (3, [.ref (G 3)]) := rfl
theorem cF_all (f : Nat → Int32) : cF cI cS G 3 f = .inl (cI, 36, .inl f) := rfl
theorem cF_told (f : Nat → Int32) : cF cI cS G 4 f = .inr (4, [.ref (G 5), .int (f 0), .int (f 1)]) := rfl
theorem cF_ring (f : Nat → Int32) : cF cI cS G 5 f = .inl (cI, 200, .inl f) := rfl
theorem cF_st (i : Nat) (f : Nat → Int32) : cF cI cS G (6 + 5 * i) f = .inr (2, [.ref (G (7 + 5 * i)), .ref (G (8 + 5 * i)), .int (f 0), .int (f 1), .int (f 2), .int (f 3), .int (f 4), .int (f 5), .int (f 6), .int (f 7), .int (f 8), .int (f 9)]) := by
  unfold cF
  rw [if_neg (by omega), show (6 + 5 * i - 6) % 5 = 0 by omega, show 6 + 5 * i + 1 = 7 + 5 * i by omega, show 6 + 5 * i + 2 = 8 + 5 * i by omega]
  rfl
theorem cF_row (i : Nat) (f : Nat → Int32) : cF cI cS G (7 + 5 * i) f = .inr (0, [.ref (G (9 + 5 * i)), .ref (G (10 + 5 * i)), .int (f 0)]) := by
  unfold cF
  rw [if_neg (by omega), show (7 + 5 * i - 6) % 5 = 1 by omega, show 7 + 5 * i + 2 = 9 + 5 * i by omega, show 7 + 5 * i + 3 = 10 + 5 * i by omega]
  rfl
theorem cF_sd (i : Nat) (f : Nat → Int32) : cF cI cS G (8 + 5 * i) f = .inr (1, [.int (f 0), .int (f 1), .int (f 2), .int (f 3), .int (f 4), .int (f 5), .int (f 6)]) := by
  unfold cF
  rw [if_neg (by omega), show (8 + 5 * i - 6) % 5 = 2 by omega]
  rfl
theorem cF_gl (i : Nat) (f : Nat → Int32) : cF cI cS G (9 + 5 * i) f = .inl (cI, 5, .inl f) := by
  unfold cF
  rw [if_neg (by omega), show (9 + 5 * i - 6) % 5 = 3 by omega]
  rfl
theorem cF_pt (i : Nat) (f : Nat → Int32) : cF cI cS G (10 + 5 * i) f = .inl (cI, 5, .inl f) := by
  unfold cF
  rw [if_neg (by omega), show (10 + 5 * i - 6) % 5 = 4 by omega]
  rfl
end CF
/-- the classes of the arrays: ints, stations -/
abbrev tY (cI cS : ClassId) : List (ClassId × FieldType) := [(cI, .int), (cS, .object "BackofficeAir$Station")]
