-- the law's world: the class's cells, and four arrays (strengths, had, sent, its)
def lF (cI cS : ClassId) (G : Nat → Nat) (k : Nat) (f : Nat → Int32) : va_E :=
  if k < 36 then cF cI cS G k f else .inl (cI, (match k with
    | 36 => 36
    | 37 => 48
    | _ => 6), .inl f)
def cmb (S T : Mem) : Mem := fun b => if b < 36 then S b else T (b - 36)
section LF
variable {cI cS : ClassId} {G : Nat → Nat} {S T : Mem}
theorem lF_lo {k : Nat} {f : Nat → Int32} (h : k < 36) : lF cI cS G k f = cF cI cS G k f := by unfold lF; rw [if_pos h]
theorem cmb_lo {b : Nat} (h : b < 36) : cmb S T b = S b := by unfold cmb; rw [if_pos h]
theorem cmb_hi (c : Nat) : cmb S T (36 + c) = T c := by unfold cmb; rw [if_neg (by omega), Nat.add_sub_cancel_left]
theorem lF_36 (f : Nat → Int32) : lF cI cS G 36 f = .inl (cI, 36, .inl f) := rfl
theorem lF_37 (f : Nat → Int32) : lF cI cS G 37 f = .inl (cI, 48, .inl f) := rfl
theorem lF_38 (f : Nat → Int32) : lF cI cS G 38 f = .inl (cI, 6, .inl f) := rfl
theorem lF_39 (f : Nat → Int32) : lF cI cS G 39 f = .inl (cI, 6, .inl f) := rfl
theorem cmb_ub (S T : Mem) (c i : Nat) (v : Int32) : ub (cmb S T) (36 + c) i v = cmb S (ub T c i v) := by
  funext b
  by_cases e : b = 36 + c
  · subst e
    rw [ub_blk, cmb_hi, cmb_hi, ub_blk]
  · rw [ub_ne _ _ _ e]
    unfold cmb
    by_cases h : b < 36
    · rw [if_pos h, if_pos h]
    · rw [if_neg h, if_neg h, ub_ne _ _ _ (by omega)]
theorem L_P {D : va_G} {H : Heap} (h : va_P D vwCl (WL 40 G (lF cI cS G) (cmb S T)) H) : va_P D vwCl (WL 36 G (cF cI cS G) S) H := fun k q hq => by
  obtain ⟨h1, rfl⟩ := WL_inv hq
  have h2 := h k _ (WL_get (by omega))
  rw [lF_lo h1, cmb_lo h1] at h2
  exact h2
theorem L_D {A : Nat → Prop} (h : ∀ S' : Mem, va_D A (WL 40 G (lF cI cS G) S')) (S' : Mem) : va_D A (WL 36 G (cF cI cS G) S') := by
  refine ⟨fun i j p q hi hj hpq => ?_, fun k q hk => ?_⟩
  · obtain ⟨h1, rfl⟩ := WL_inv hi
    obtain ⟨h2, rfl⟩ := WL_inv hj
    exact (h S').1 i j _ _ (WL_get (by omega)) (WL_get (by omega)) hpq
  · obtain ⟨h1, rfl⟩ := WL_inv hk
    exact (h S').2 k (G k, lF cI cS G k (S' k)) (WL_get (by omega))
theorem L_J {D : va_G} {A : Nat → Prop} {S' : Mem} {H H1 : Heap} (hD : ∀ S' : Mem, va_D A (WL 40 G (lF cI cS G) S')) (hP : va_P D vwCl (WL 40 G (lF cI cS G) (cmb S T)) H) (hk : ∀ q : Nat, q < H.size → ¬ fA 36 G H.size q → H1[q]? = H[q]?) (h1 : va_P D vwCl (WL 36 G (cF cI cS G) S') H1) : va_P D vwCl (WL 40 G (lF cI cS G) (cmb S' T)) H1 := fun k q hq => by
  obtain ⟨hk40, rfl⟩ := WL_inv hq
  by_cases h : k < 36
  · have h2 := h1 k _ (WL_get h)
    rw [lF_lo h, cmb_lo h]
    exact h2
  · have e : cmb S' T k = cmb S T k := by unfold cmb; rw [if_neg h, if_neg h]
    rw [e]
    have h0 := hP k _ (WL_get hk40)
    have hlt : G k < H.size := h0.lt
    refine h0.kept (hk (G k) hlt (fun hf => ?_))
    rcases hf with ⟨k2, hk2, e2⟩ | hf
    · have := (hD S).1 k k2 _ _ (WL_get hk40) (WL_get (by omega)) e2
      omega
    · exact absurd hlt (Nat.not_lt.mpr hf)
end LF
section XL
variable {p : Program} {l : Launch} {e : Env} {R : Room} {s : State} {m : MethodId} {args a9 : Array Value} {below : List Frame} {meth : Method} {c : Code} {H : Heap} {locs : List Loc} {cells slots : Nat} {Q : State → Prop}
variable {cc : ByteArray} {pc : Nat} {ls : Array Slot} {rest st0 : List Value} {D : va_G} {A : Nat → Prop} {H0 : Heap} {cI cS : ClassId} {G : Nat → Nat} {S T : Mem}
theorem x_aldL (hexec : p.tables.exec = Jvm.exec) (hb : c.code = cc) (hK : va_K D vwCl (tY cI cS) s) (hP : va_P D vwCl (WL 40 G (lF cI cS G) (cmb S T)) H) (q0 k : Nat) (hq0 : q0 = 36 + k) (hk : k < 4) {z : Nat} (he : ∀ f : Nat → Int32, lF cI cS G q0 f = .inl (cI, z, .inl f)) (j : Nat) (hj : j < z) (hz : z ≤ 4096) (hdg : decode cc pc = .ok (.iaload, 1))
    (kk : W p l e R s m args below meth c H locs cells slots Q (F0 m (pc + 1) ls (.int (T k j) :: rest))) : W p l e R s m args below meth c H locs cells slots Q (F0 m pc ls (.int (nI j) :: .ref (G q0) :: rest)) :=
  x_iald hexec hb hK hP q0 0 (by omega) (he _) rfl j hj hz hdg (by rw [hq0, cmb_hi]; exact kk)
theorem x_astL (hexec : p.tables.exec = Jvm.exec) (hb : c.code = cc) (hK : va_K D vwCl (tY cI cS) s) (hP : va_P D vwCl (WL 40 G (lF cI cS G) (cmb S T)) H) (hD : ∀ S' : Mem, va_D A (WL 40 G (lF cI cS G) S')) (hS : va_S A H0 H locs) (q0 k : Nat) (hq0 : q0 = 36 + k) (hk : k < 4) {z : Nat} (he : ∀ f : Nat → Int32, lF cI cS G q0 f = .inl (cI, z, .inl f)) (j : Nat) (hj : j < z) (hz : z ≤ 4096) {x : Int32} (hdg : decode cc pc = .ok (.iastore, 1))
    (kk : ∀ (H1 : Heap) (locs1 : List Loc), va_P D vwCl (WL 40 G (lF cI cS G) (cmb S (ub T k j x))) H1 → va_S A H0 H1 locs1 → W p l e R s m args below meth c H1 locs1 cells slots Q (F0 m (pc + 1) ls rest)) : W p l e R s m args below meth c H locs cells slots Q (F0 m pc ls (.int x :: .int (nI j) :: .ref (G q0) :: rest)) :=
  x_iast hexec hb hK hP hD hS q0 0 (by omega) he rfl j hj hz hdg (fun H1 locs1 h1 h2 => kk H1 locs1 (by rw [← cmb_ub, ← hq0]; exact h1) h2)
/-- behind a call that changes the class's world -/
theorem x_miL {v : Int32 × Mem} {r : Int32} {S' : Mem} (hv : v = (r, S')) (hr : va_Run p l e R s m args below meth c H locs cells slots 0 0 (F0 m pc ls st0) rest (mQi v 36 (cF cI cS G) D G H.size a9) (fA 36 G H.size)) (hP : va_P D vwCl (WL 40 G (lF cI cS G) (cmb S T)) H) (hD : ∀ S' : Mem, va_D A (WL 40 G (lF cI cS G) S')) (hS : va_S A s.heap H locs) (hA : ∀ q : Nat, s.heap.size ≤ q → A q)
    (kk : ∀ (H1 : Heap) (locs1 : List Loc), va_P D vwCl (WL 40 G (lF cI cS G) (cmb S' T)) H1 → va_S A s.heap H1 locs1 → W p l e R s m args below meth c H1 locs1 cells slots Q (F0 m (pc + 3) ls (.int r :: rest))) : W p l e R s m args below meth c H locs cells slots Q (F0 m pc ls st0) := by
  subst hv
  exact x_mi hr hS (fA_sub (L_D hD S) (fun q h => hA q (Nat.le_trans hS.1 h))) (fun H1 locs1 hz hk h1 h2 => kk H1 locs1 (L_J hD hP hk h1) h2)
theorem x_metT {n : Nat} {F : Nat → (Nat → Int32) → va_E} {tys : List (ClassId × FieldType)} {y : MethodName} {ws ws' : List Cond} {rm : Room} {av : List Value} {sz : Nat} {Qc : Array Value → State → Outcome → State → Prop} {mc ms : Nat} {free : Addr → Prop} {maxL : Nat} {ret : Option FieldType} {hh : List (Nat × Nat × Nat × Nat)} (hy : plainName y.cls = true) (hw : ws = Cond.codeWith y cc maxL ret hh :: ws') (hlen : (lg_sl av).length ≤ maxL)
    (body : ∀ (p : Program) (e : Env) (s : State) (m : MethodId) (below : List Frame) (meth : Method) (c : Code) (ls : Array Slot), p.tables.exec = Jvm.exec → c.code = cc → meth.sig.returnType = ret → c.maxLocals = maxL → (∀ w ∈ ws, w.before av.toArray s = true) → s.vm.findClass y.cls = some m.cls → meth.locks = false → s.heap.size = sz → va_P D vwCl (WL n G F S) s.heap → va_K D vwCl tys s → (∀ S' : Mem, va_D (fA n G s.heap.size) (WL n G F S')) → NW s → TW s → ZQ s.heap.size s → lv_has ls maxL (lv_args 0 av) → c.exceptionTable.toList = tableOf hh →
      W p l e rm s m av.toArray below meth c s.heap [] 0 0 (MQ below Qc av.toArray s mc ms free) (F0 m 0 ls [])) : Met l y ws rm (tPc n F D tys G S sz av) Qc mc ms free := by
  refine va_MetW (cc := cc) (maxL := maxL) (ret := ret) (hh := hh) hy hw ?_
  intro p e s m args below meth c s₁ B hml hv
  obtain ⟨rfl, hsz, hP, hK, hD0, hN, hT, hZ⟩ := hv
  have hl := lv_entry av hlen
  have hts := atoms_spec (ws := ws) B.pre
  rw [lg_entry_eq]
  exact body p e s m below meth c _ B.exec B.bytes B.returns hml hts (findClass_of_methodNamed B.named) B.notSynchronized hsz hP hK (fun S' => WL_self hD0) hN hT (by rw [hsz]; exact hZ) hl (vx_table (x := y) B (hts _ (by rw [hw]; exact List.mem_cons_self)))
end XL
theorem wl_tells : Cond.classLink RL 13 "java/lang/IllegalStateException" ∈ wsL_tells := by decide +kernel
theorem wl_frames : Cond.classLink RL 13 "java/lang/IllegalStateException" ∈ wsL_frames := by decide +kernel
set_option maxHeartbeats 1000000 in
set_option maxRecDepth 100000 in
theorem w_L_tells (l : Launch) (D : va_G) (cI cS : ClassId) (G : Nat → Nat) (S : Mem) (sz : Nat) (x : Int32) (hv1 : ¬ x < 0) (hv2 : x ≤ nI 1000) (hlt : S 4 1 < nI 200) (hf : S 4 0 = nI (kN (S 4 0))) (hf2 : kN (S 4 0) < 200) (hl1 : S 4 1 = nI (kN (S 4 1))) (hl2 : kN (S 4 1) < 200) : Met l yL_tells wsL_tells ({ frames := 3, cells := 0, slots := 0, locals := 63 } : Room) (tPc 36 (cF cI cS G) D (tY cI cS) G S sz [.ref (G 0), .int x]) (mQi (f_X5_tell S x) 36 (cF cI cS G) D G sz) 0 0 (fA 36 G sz) := by
  refine x_metT (cc := cL_tells) (maxL := 3) (ret := some .int) (hh := [(0, 5, 6, 13)]) (by decide) rfl (Nat.le_of_ble_eq_true rfl) ?_
  intro p e s m below meth c ls hx hb hr hml hts hown hlocks hsz hP hK hD hN hT hZ hl htab
  subst hsz
  have hown : s.vm.findClass RL = some m.cls := hown
  have hA : ∀ q : Nat, s.heap.size ≤ q → (fA 36 G s.heap.size) q := fun q h => Or.inr h
  have hl : lv_has ls 3 [(0, .ref (G 0)), (1, .int x)] := hl
  have hS : va_S (fA 36 G s.heap.size) s.heap s.heap [] := va_S.rf
  refine lv_aload_n hx hb dL_tells_0 rfl (lv_at hl 0 rfl) ?_
  refine lv_iload_n hx hb dL_tells_1 rfl (lv_at hl 1 rfl) ?_
  refine x_mi (va_runV (As := [.int x]) (rest := []) ⟨hx, hb, hml, hown, hts⟩ (c_X5_tell l D cI cS G S s.heap.size x hv1 hv2 hlt hf hf2 hl1 hl2) (cwV 1 hts gL_tells_X5_tell rfl rfl rfl (by decide +kernel) ⟨Nat.le_of_ble_eq_true rfl, Nat.le_of_ble_eq_true rfl⟩) ⟨wPc_blind, va_recv hK hP (ci := 5) (q0 := 0) rfl (WL_at (by decide) (cF_air _)), wPc_at hP hK hD hN⟩ rfl rfl hl.1 rfl (lv_room (Nat.le_of_ble_eq_true rfl)) dL_tells_2 ⟨Nat.le_of_ble_eq_true rfl, Nat.le_of_ble_eq_true rfl⟩) hS (fA_sub (hD S) (fun q h => hA q (Nat.le_trans hS.1 h))) (fun H locs hz hk hP hS => ?_)
  exact x_ret_m hx hb hr rfl hlocks hP hS dL_tells_5 rfl
set_option maxHeartbeats 1000000 in
set_option maxRecDepth 100000 in
theorem w_L_tells__x (l : Launch) (hfl : l.stackTraces = false) (D : va_G) (cI cS : ClassId) (G : Nat → Nat) (S : Mem) (sz : Nat) (x : Int32) (h1 : ¬ x < 0) (h2 : x ≤ nI 1000) (hbad : ¬ S 4 1 < nI 200) : Met l yL_tells wsL_tells ({ frames := 7, cells := 1, slots := 6, locals := 111 } : Room) (tPc 36 (cF cI cS G) D (tY cI cS) G S sz [.ref (G 0), .int x]) (pQi (-3) sz) 1 6 (fun q => sz ≤ q) := by
  refine x_metT (cc := cL_tells) (maxL := 3) (ret := some .int) (hh := [(0, 5, 6, 13)]) (by decide) rfl (Nat.le_of_ble_eq_true rfl) ?_
  intro p e s m below meth c ls hx hb hr hml hts hown hlocks hsz hP hK hD hN hT hZ hl htab
  subst hsz
  have hown : s.vm.findClass RL = some m.cls := hown
  have hA : ∀ q : Nat, s.heap.size ≤ q → (fun q => s.heap.size ≤ q) q := fun q h => h
  have hl : lv_has ls 3 [(0, .ref (G 0)), (1, .int x)] := hl
  have hS : va_S (fun q => s.heap.size ≤ q) s.heap s.heap [] := va_S.rf
  refine lv_aload_n hx hb dL_tells_0 rfl (lv_at hl 0 rfl) ?_
  refine lv_iload_n hx hb dL_tells_1 rfl (lv_at hl 1 rfl) ?_
  refine x_thr (vx_runV (As := [.int x]) (rest := []) ⟨hx, hb, hml, hown, hts⟩ (b_X5_tell__2 l hfl D cI cS G S s.heap.size x h1 h2 hbad) (cwV 1 hts gL_tells_X5_tell rfl rfl rfl (by decide +kernel) ⟨Nat.le_of_ble_eq_true rfl, Nat.le_of_ble_eq_true rfl⟩) ⟨tPc_blind, va_recv hK hP (ci := 5) (q0 := 0) rfl (WL_at (by decide) (cF_air _)), tPc_at hP hK hD hN hT hZ hS⟩ rfl rfl hl.1 rfl (lv_room (Nat.le_of_ble_eq_true rfl)) dL_tells_2 ⟨Nat.le_of_ble_eq_true rfl, Nat.le_of_ble_eq_true rfl⟩) hS hA (fun q h => h) (fun ce q9 H locs hz hk hS hce hcv hcl => ?_)
  refine vx_catch (name := "java/lang/IllegalStateException") hown [] ⟨0, 5, 6, 13⟩ [] htab (fun z h => absurd h List.not_mem_nil) (by decide) (by decide) (hts _ wl_tells) (isEx_use rfl (hT.1 (.castable "java/lang/IllegalStateException" "java/lang/IllegalStateException") (by decide +kernel))) hce hcv hcl ?_
  refine lv_astore_n (lv' := [(2, .ref q9), (0, .ref (G 0))]) hx hb dL_tells_6 rfl (lv_sub hl [0] rfl) (by decide) rfl (fun ls hl => ?_)
  refine lv_bipush (v := (-3)) hx hb dL_tells_7 (by decide) ?_
  exact x_ret_p hx hb hr rfl hlocks hS dL_tells_9 rfl
set_option maxHeartbeats 1000000 in
set_option maxRecDepth 100000 in
theorem w_L_frames (l : Launch) (D : va_G) (cI cS : ClassId) (G : Nat → Nat) (S : Mem) (sz : Nat) (a : Nat) (b : Nat) (v : Int32) (ha : a < 6) (hb6 : b < 6) (hv1 : ¬ v < nI 1) (hv2 : v ≤ nI 4) (hne : ¬ nI a = nI b) (hlt : S (7 + 5 * a) 0 < nI 5) (hc : S (7 + 5 * a) 0 = nI (kN (S (7 + 5 * a) 0))) (hc5 : kN (S (7 + 5 * a) 0) < 5) : Met l yL_frames wsL_frames ({ frames := 3, cells := 0, slots := 0, locals := 66 } : Room) (tPc 36 (cF cI cS G) D (tY cI cS) G S sz [.ref (G 0), .int (nI a), .int (nI b), .int v]) (mQi (f_X5_frame S a b v) 36 (cF cI cS G) D G sz) 0 0 (fA 36 G sz) := by
  refine x_metT (cc := cL_frames) (maxL := 5) (ret := some .int) (hh := [(0, 7, 8, 13)]) (by decide) rfl (Nat.le_of_ble_eq_true rfl) ?_
  intro p e s m below meth c ls hx hb hr hml hts hown hlocks hsz hP hK hD hN hT hZ hl htab
  subst hsz
  have hown : s.vm.findClass RL = some m.cls := hown
  have hA : ∀ q : Nat, s.heap.size ≤ q → (fA 36 G s.heap.size) q := fun q h => Or.inr h
  have hl : lv_has ls 5 [(0, .ref (G 0)), (1, .int (nI a)), (2, .int (nI b)), (3, .int v)] := hl
  have hS : va_S (fA 36 G s.heap.size) s.heap s.heap [] := va_S.rf
  refine lv_aload_n hx hb dL_frames_0 rfl (lv_at hl 0 rfl) ?_
  refine lv_iload_n hx hb dL_frames_1 rfl (lv_at hl 1 rfl) ?_
  refine lv_iload_n hx hb dL_frames_2 rfl (lv_at hl 2 rfl) ?_
  refine lv_iload_n hx hb dL_frames_3 rfl (lv_at hl 3 rfl) ?_
  refine x_mi (va_runV (As := [.int (nI a), .int (nI b), .int v]) (rest := []) ⟨hx, hb, hml, hown, hts⟩ (c_X5_frame l D cI cS G S s.heap.size a b v ha hb6 hv1 hv2 hne hlt hc hc5) (cwV 3 hts gL_frames_X5_frame rfl rfl rfl (by decide +kernel) ⟨Nat.le_of_ble_eq_true rfl, Nat.le_of_ble_eq_true rfl⟩) ⟨wPc_blind, va_recv hK hP (ci := 5) (q0 := 0) rfl (WL_at (by decide) (cF_air _)), wPc_at hP hK hD hN⟩ rfl rfl hl.1 rfl (lv_room (Nat.le_of_ble_eq_true rfl)) dL_frames_4 ⟨Nat.le_of_ble_eq_true rfl, Nat.le_of_ble_eq_true rfl⟩) hS (fA_sub (hD S) (fun q h => hA q (Nat.le_trans hS.1 h))) (fun H locs hz hk hP hS => ?_)
  exact x_ret_m hx hb hr rfl hlocks hP hS dL_frames_7 rfl
set_option maxHeartbeats 1000000 in
set_option maxRecDepth 100000 in
theorem w_L_frames__x (l : Launch) (hfl : l.stackTraces = false) (D : va_G) (cI cS : ClassId) (G : Nat → Nat) (S : Mem) (sz : Nat) (a : Nat) (b : Nat) (v : Int32) (ha : a < 6) (hb6 : b < 6) (h1 : ¬ v < nI 1) (h2 : v ≤ nI 4) (hne : ¬ nI a = nI b) (hbad : ¬ S (7 + 5 * a) 0 < nI 5) : Met l yL_frames wsL_frames ({ frames := 7, cells := 1, slots := 6, locals := 114 } : Room) (tPc 36 (cF cI cS G) D (tY cI cS) G S sz [.ref (G 0), .int (nI a), .int (nI b), .int v]) (pQi (-3) sz) 1 6 (fun q => sz ≤ q) := by
  refine x_metT (cc := cL_frames) (maxL := 5) (ret := some .int) (hh := [(0, 7, 8, 13)]) (by decide) rfl (Nat.le_of_ble_eq_true rfl) ?_
  intro p e s m below meth c ls hx hb hr hml hts hown hlocks hsz hP hK hD hN hT hZ hl htab
  subst hsz
  have hown : s.vm.findClass RL = some m.cls := hown
  have hA : ∀ q : Nat, s.heap.size ≤ q → (fun q => s.heap.size ≤ q) q := fun q h => h
  have hl : lv_has ls 5 [(0, .ref (G 0)), (1, .int (nI a)), (2, .int (nI b)), (3, .int v)] := hl
  have hS : va_S (fun q => s.heap.size ≤ q) s.heap s.heap [] := va_S.rf
  refine lv_aload_n hx hb dL_frames_0 rfl (lv_at hl 0 rfl) ?_
  refine lv_iload_n hx hb dL_frames_1 rfl (lv_at hl 1 rfl) ?_
  refine lv_iload_n hx hb dL_frames_2 rfl (lv_at hl 2 rfl) ?_
  refine lv_iload_n hx hb dL_frames_3 rfl (lv_at hl 3 rfl) ?_
  refine x_thr (vx_runV (As := [.int (nI a), .int (nI b), .int v]) (rest := []) ⟨hx, hb, hml, hown, hts⟩ (b_X5_frame__4 l hfl D cI cS G S s.heap.size a b v ha hb6 h1 h2 hne hbad) (cwV 3 hts gL_frames_X5_frame rfl rfl rfl (by decide +kernel) ⟨Nat.le_of_ble_eq_true rfl, Nat.le_of_ble_eq_true rfl⟩) ⟨tPc_blind, va_recv hK hP (ci := 5) (q0 := 0) rfl (WL_at (by decide) (cF_air _)), tPc_at hP hK hD hN hT hZ hS⟩ rfl rfl hl.1 rfl (lv_room (Nat.le_of_ble_eq_true rfl)) dL_frames_4 ⟨Nat.le_of_ble_eq_true rfl, Nat.le_of_ble_eq_true rfl⟩) hS hA (fun q h => h) (fun ce q9 H locs hz hk hS hce hcv hcl => ?_)
  refine vx_catch (name := "java/lang/IllegalStateException") hown [] ⟨0, 7, 8, 13⟩ [] htab (fun z h => absurd h List.not_mem_nil) (by decide) (by decide) (hts _ wl_frames) (isEx_use rfl (hT.1 (.castable "java/lang/IllegalStateException" "java/lang/IllegalStateException") (by decide +kernel))) hce hcv hcl ?_
  refine lv_astore (lv' := [(4, .ref q9), (0, .ref (G 0))]) hx hb dL_frames_8 (lv_sub hl [0] rfl) (by decide) rfl (fun ls hl => ?_)
  refine lv_bipush (v := (-3)) hx hb dL_frames_10 (by decide) ?_
  exact x_ret_p hx hb hr rfl hlocks hS dL_frames_12 rfl
