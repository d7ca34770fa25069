-- the law's own small methods: the world beside the answer's cell
def NC (U : State) : Prop := va_Nc "java/lang/IllegalArgumentException" "java/lang/IndexOutOfBoundsException" U ∧ va_Nc "java/lang/IllegalStateException" "java/lang/IndexOutOfBoundsException" U ∧ va_Nc "java/lang/IllegalStateException" "java/lang/IllegalArgumentException" U
theorem NC.moved {u U : State} (hv : u.vm.Alike U.vm) (h : NC u) : NC U := ⟨va_Nc.moved hv h.1, va_Nc.moved hv h.2.1, va_Nc.moved hv h.2.2⟩
abbrev oW (cJ : ClassId) (o : Nat) (fo : Nat → Int64) : va_W := [(o, .inl (cJ, 1, .inr (.inl fo)))]
def lPc (D : va_G) (cI cS cZ cJ : ClassId) (G : Nat → Nat) (S : Mem) (o : Nat) (fo : Nat → Int64) (sz : Nat) (av : List Value) : Array Value → State → Prop :=
  va_Pc av (fun U => U.heap.size = sz ∧ va_P D vwCl (WL 36 G (cF cI cS G) S) U.heap ∧ va_P D vwCl (oW cJ o fo) U.heap ∧ va_K D vwCl (tY cI cS cZ cJ) U ∧ va_D (fun _ => True) (WL 36 G (cF cI cS G) S) ∧ (∀ k : Nat, k < 36 → o ≠ G k) ∧ NW U ∧ TW U ∧ ZQ sz U ∧ NC U)
theorem lPc_blind {D : va_G} {cI cS cZ cJ : ClassId} {G : Nat → Nat} {S : Mem} {o : Nat} {fo : Nat → Int64} {sz : Nat} {av : List Value} : FrameBlind (lPc D cI cS cZ cJ G S o fo sz av) := fun a U g mk q => by
  obtain ⟨q0, q1, qP, qO, qK, qD, qA, qN, qT, qZ, qC⟩ := q
  exact ⟨q0, q1, qP, qO, va_K.moved (u := U) (U := U.calling g mk a) (Vm.Alike.refl U.vm) qK, qD, qA, NW.same (u := U) (U := U.calling g mk a) rfl qN, TW.same (u := U) (U := U.calling g mk a) rfl qT, ⟨vx_Zq.moved (u := U) (U := U.calling g mk a) (Vm.Alike.refl U.vm) qZ.1, vx_Zq.moved (u := U) (U := U.calling g mk a) (Vm.Alike.refl U.vm) qZ.2⟩, NC.moved (u := U) (U := U.calling g mk a) (Vm.Alike.refl U.vm) qC⟩
theorem lPc_at {D : va_G} {cI cS cZ cJ : ClassId} {G : Nat → Nat} {S : Mem} {o : Nat} {fo : Nat → Int64} {s : State} {H : Heap} {locs : List Loc} {av : List Value} (hP : va_P D vwCl (WL 36 G (cF cI cS G) S) H) (hO : va_P D vwCl (oW cJ o fo) H) (hK : va_K D vwCl (tY cI cS cZ cJ) s) {A : Nat → Prop} (hD : ∀ S' : Mem, va_D A (WL 36 G (cF cI cS G) S')) (hG : ∀ k : Nat, k < 36 → o ≠ G k) (hN : NW s) (hT : TW s) (hZ : ZQ s.heap.size s) (hC : NC s) (hS : va_S (fun q => s.heap.size ≤ q) s.heap H locs) : ∀ U : State, U.heap = H → s.WarmedH U.vm → lPc D cI cS cZ cJ G S o fo H.size av av.toArray U := fun U hU hW =>
  ⟨rfl, by rw [hU], by rw [hU]; exact hP, by rw [hU]; exact hO, va_K.moved hW.alike hK, (hD S).weaken (fun _ _ _ _ => trivial), hG, NW.warm hW hN, TW.warm hW hT, ZQ_at hZ hS hU hW, NC.moved hW.alike hC⟩
/-- the component's world and the answer's cell may change -/
def lA (G : Nat → Nat) (o sz : Nat) : Nat → Prop := fun q => fA 36 G sz q ∨ q = o
def lQ (S' : Mem) (x : Int64) (D : va_G) (cI cS cJ : ClassId) (G : Nat → Nat) (o : Nat) (fo : Nat → Int64) (sz : Nat) : Array Value → State → Outcome → State → Prop :=
  va_Qi (fun (r : Int32) (_ : Unit) => r = nI 0) (fun _ t => va_P D vwCl (WL 36 G (cF cI cS G) S') t.heap ∧ va_P D vwCl (oW cJ o (vp_updL fo 0 x)) t.heap) (lA G o sz)
theorem O_keep {D : va_G} {G : Nat → Nat} {o : Nat} {e : va_E} {H H1 : Heap} (hO : va_P D vwCl [(o, e)] H) (hG : ∀ k : Nat, k < 36 → o ≠ G k) (hk : ∀ q : Nat, q < H.size → ¬ fA 36 G H.size q → H1[q]? = H[q]?) : va_P D vwCl [(o, e)] H1 := by
  have hlt : o < H.size := (hO 0 _ rfl).lt
  refine hO.kept (fun k q h => ?_)
  have hq : q = (o, e) := List.mem_singleton.mp (List.mem_of_getElem? h)
  subst hq
  refine hk o hlt (fun hf => ?_)
  rcases hf with ⟨k, hk, h⟩ | h
  · exact hG k hk h
  · exact absurd hlt (Nat.not_lt.mpr h)
section XL
variable {p : Program} {l : Launch} {e : Env} {R : Room} {s : State} {m : MethodId} {args : Array Value} {below : List Frame} {meth : Method} {c : Code} {H : Heap} {locs : List Loc} {cells slots : Nat} {Q : State → Prop}
variable {cc : ByteArray} {pc : Nat} {ls : Array Slot} {rest st0 : List Value} {D : va_G} {A : Nat → Prop} {cI cS cZ cJ : ClassId} {G : Nat → Nat} {S : Mem} {o : Nat} {fo : Nat → Int64} {H0 : Heap}
theorem x_last (hexec : p.tables.exec = Jvm.exec) (hb : c.code = cc) (hK : va_K D vwCl (tY cI cS cZ cJ) s) (hP : va_P D vwCl (WL 36 G (cF cI cS G) S) H) (hO : va_P D vwCl (oW cJ o fo) H) (hD : ∀ S' : Mem, va_D A (WL 36 G (cF cI cS G) S')) (ho : A o) (hG : ∀ k : Nat, k < 36 → o ≠ G k) (hS : va_S A H0 H locs) {x : Int64} (hdg : decode cc pc = .ok (.lastore, 1))
    (kk : ∀ (H1 : Heap) (locs1 : List Loc), va_P D vwCl (WL 36 G (cF cI cS G) S) H1 → va_P D vwCl (oW cJ o (vp_updL fo 0 x)) H1 → va_S A H0 H1 locs1 → W p l e R s m args below meth c H1 locs1 cells slots Q (F0 m (pc + 1) ls rest)) : W p l e R s m args below meth c H locs cells slots Q (F0 m pc ls (.long x :: .int (nI 0) :: .ref o :: rest)) := by
  have hlen : (WL 36 G (cF cI cS G) S).length = 36 := by simp [WL]
  have hDo : va_D A (oW cJ o fo) := ⟨fun i j p q hi hj _ => by
    have h1 := (List.getElem?_eq_some_iff.mp hi).1
    have h2 := (List.getElem?_eq_some_iff.mp hj).1
    simp only [List.length_singleton] at h1 h2
    omega, fun k q h => by
    have hq := List.mem_singleton.mp (List.mem_of_getElem? h)
    subst hq
    exact ho⟩
  have hDD : va_D A (WL 36 G (cF cI cS G) S ++ oW cJ o fo) := va_D.app (hD S) hDo (fun i j p q hi hj hpq => by
    obtain ⟨h1, rfl⟩ := WL_inv hi
    have hq := List.mem_singleton.mp (List.mem_of_getElem? hj)
    subst hq
    exact hG i h1 hpq.symm)
  have hPP := va_P.app hP hO
  have hset : ∀ e', (WL 36 G (cF cI cS G) S ++ oW cJ o fo).set 36 (o, e') = WL 36 G (cF cI cS G) S ++ [(o, e')] := fun e' => by
    rw [List.set_append_right _ _ (by rw [hlen]; exact Nat.le_refl _), hlen]
    rfl
  refine va_last hexec hb hK hPP hDD hS 36 3 (by rw [List.getElem?_append_right (by rw [hlen]; exact Nat.le_refl _), hlen]; rfl) rfl (i := nI 0) (n := 1) (vp_in_nI (by decide) (by decide)) hdg (fun H1 locs1 h1 h2 h3 => ?_)
  rw [hset] at h1
  refine kk H1 locs1 (fun k q hk => h1 k q ?_) (fun k q hk => h1 (36 + k) q ?_) h3
  · rw [List.getElem?_append_left (by rw [hlen]; exact (WL_inv hk).1)]; exact hk
  · rw [List.getElem?_append_right (by rw [hlen]; omega), hlen, Nat.add_sub_cancel_left]; exact hk
theorem x_metL {y : MethodName} {ws ws' : List Cond} {rm : Room} {av : List Value} {sz : Nat} {Qc : Array Value → State → Outcome → State → Prop} {mc ms : Nat} {free : Addr → Prop} {maxL : Nat} {ret : Option FieldType} {hh : List (Nat × Nat × Nat × Nat)} (hy : plainName y.cls = true) (hw : ws = Cond.codeWith y cc maxL ret hh :: ws') (hlen : (lg_sl av).length ≤ maxL)
    (body : ∀ (p : Program) (e : Env) (s : State) (m : MethodId) (below : List Frame) (meth : Method) (c : Code) (ls : Array Slot), p.tables.exec = Jvm.exec → c.code = cc → meth.sig.returnType = ret → c.maxLocals = maxL → (∀ w ∈ ws, w.before av.toArray s = true) → s.vm.findClass y.cls = some m.cls → meth.locks = false → s.heap.size = sz → va_P D vwCl (WL 36 G (cF cI cS G) S) s.heap → va_P D vwCl (oW cJ o fo) s.heap → va_K D vwCl (tY cI cS cZ cJ) s → (∀ S' : Mem, va_D (fA 36 G s.heap.size) (WL 36 G (cF cI cS G) S')) → (∀ k : Nat, k < 36 → o ≠ G k) → NW s → TW s → ZQ s.heap.size s → NC s → lv_has ls maxL (lv_args 0 av) → c.exceptionTable.toList = tableOf hh →
      W p l e rm s m av.toArray below meth c s.heap [] 0 0 (MQ below Qc av.toArray s mc ms free) (F0 m 0 ls [])) : Met l y ws rm (lPc D cI cS cZ cJ G S o fo sz av) Qc mc ms free := by
  refine va_MetW (cc := cc) (maxL := maxL) (ret := ret) (hh := hh) hy hw ?_
  intro p e s m args below meth c s₁ B hml hv
  obtain ⟨rfl, hsz, hP, hO, hK, hD0, hG, hN, hT, hZ, hC⟩ := hv
  have hl := lv_entry av hlen
  have hts := atoms_spec (ws := ws) B.pre
  rw [lg_entry_eq]
  exact body p e s m below meth c _ B.exec B.bytes B.returns hml hts (findClass_of_methodNamed B.named) B.notSynchronized hsz hP hO hK (fun S' => WL_self hD0) hG hN hT (by rw [hsz]; exact hZ) hC hl (vx_table (x := y) B (hts _ (by rw [hw]; exact List.mem_cons_self)))
theorem x_ret_g {S' : Mem} {x : Int64} (hexec : p.tables.exec = Jvm.exec) (hb : c.code = cc) (hr : meth.sig.returnType = some .int) (hlocks : meth.locks = false) (hP : va_P D vwCl (WL 36 G (cF cI cS G) S') H) (hO : va_P D vwCl (oW cJ o (vp_updL fo 0 x)) H) (hS : va_S (lA G o s.heap.size) s.heap H locs) (hdg : decode cc pc = .ok (.ireturn, 1)) : W p l e R s m args below meth c H locs cells slots (MQ below (lQ S' x D cI cS cJ G o fo s.heap.size) args s cells slots (lA G o s.heap.size)) (F0 m pc ls [.int (nI 0)]) :=
  W.iret hexec hb hr (fun t ht hW => ⟨⟨nI 0, (), rfl, rfl, (show va_P D vwCl (WL 36 G (cF cI cS G) S') t.heap ∧ va_P D vwCl (oW cJ o (vp_updL fo 0 x)) t.heap by rw [ht]; exact ⟨hP, hO⟩)⟩, hS.F ht⟩) hS.2.2 hdg hlocks
end XL
theorem wl_sends_13 : Cond.classLink RL 13 "java/lang/IndexOutOfBoundsException" ∈ wsL_sends := by decide +kernel
theorem wl_waitOf_13 : Cond.classLink RL 13 "java/lang/IndexOutOfBoundsException" ∈ wsL_waitOf := by decide +kernel
theorem wl_window_13 : Cond.classLink RL 13 "java/lang/IndexOutOfBoundsException" ∈ wsL_window := by decide +kernel
theorem wl_failures_13 : Cond.classLink RL 13 "java/lang/IndexOutOfBoundsException" ∈ wsL_failures := by decide +kernel
theorem wl_silencedTo_13 : Cond.classLink RL 13 "java/lang/IndexOutOfBoundsException" ∈ wsL_silencedTo := by decide +kernel
theorem wl_frames_13 : Cond.classLink RL 13 "java/lang/IndexOutOfBoundsException" ∈ wsL_frames := by decide +kernel
theorem wl_partsLeft_13 : Cond.classLink RL 13 "java/lang/IndexOutOfBoundsException" ∈ wsL_partsLeft := by decide +kernel
theorem wl_delivered_13 : Cond.classLink RL 13 "java/lang/IndexOutOfBoundsException" ∈ wsL_delivered := by decide +kernel
theorem wl_dropped_13 : Cond.classLink RL 13 "java/lang/IndexOutOfBoundsException" ∈ wsL_dropped := by decide +kernel
theorem wl_airtime_13 : Cond.classLink RL 13 "java/lang/IndexOutOfBoundsException" ∈ wsL_airtime := by decide +kernel
theorem wl_airtimeBySendings_13 : Cond.classLink RL 13 "java/lang/IndexOutOfBoundsException" ∈ wsL_airtimeBySendings := by decide +kernel
theorem wl_setStrength_13 : Cond.classLink RL 13 "java/lang/IndexOutOfBoundsException" ∈ wsL_setStrength := by decide +kernel
theorem wl_setStrength_15 : Cond.classLink RL 15 "java/lang/IllegalArgumentException" ∈ wsL_setStrength := by decide +kernel
theorem wl_setClass_13 : Cond.classLink RL 13 "java/lang/IndexOutOfBoundsException" ∈ wsL_setClass := by decide +kernel
theorem wl_setClass_15 : Cond.classLink RL 15 "java/lang/IllegalArgumentException" ∈ wsL_setClass := by decide +kernel
theorem wl_setReserve_15 : Cond.classLink RL 15 "java/lang/IllegalArgumentException" ∈ wsL_setReserve := by decide +kernel
theorem wl_tell_15 : Cond.classLink RL 15 "java/lang/IllegalArgumentException" ∈ wsL_tell := by decide +kernel
theorem wl_tell_28 : Cond.classLink RL 28 "java/lang/IllegalStateException" ∈ wsL_tell := by decide +kernel
theorem wl_frame_13 : Cond.classLink RL 13 "java/lang/IndexOutOfBoundsException" ∈ wsL_frame := by decide +kernel
theorem wl_frame_15 : Cond.classLink RL 15 "java/lang/IllegalArgumentException" ∈ wsL_frame := by decide +kernel
theorem wl_frame_28 : Cond.classLink RL 28 "java/lang/IllegalStateException" ∈ wsL_frame := by decide +kernel
theorem wl_pass_15 : Cond.classLink RL 15 "java/lang/IllegalArgumentException" ∈ wsL_pass := by decide +kernel
set_option maxHeartbeats 1000000 in
set_option maxRecDepth 100000 in
theorem w_L_setStrength (l : Launch) (D : va_G) (cI cS cZ cJ : ClassId) (G : Nat → Nat) (S : Mem) (o : Nat) (fo : Nat → Int64) (sz : Nat) (a : Nat) (b : Nat) (v : Int32) (ha : a < 6) (hb6 : b < 6) (hv1 : ¬ v < 0) (hv2 : v ≤ nI 9) (hne : ¬ nI a = nI b) : Met l yL_setStrength wsL_setStrength ({ frames := 5, cells := 0, slots := 0, locals := 110 } : Room) (lPc D cI cS cZ cJ G S o fo sz [.ref (G 0), .int (nI a), .int (nI b), .int v, .ref o]) (lQ ((f_X5_setStrength S a b v).2) ((f_X5_setStrength S a b v).1).toInt64 D cI cS cJ G o fo sz) 0 0 (lA G o sz) := by
  refine x_metL (cc := cL_setStrength) (maxL := 6) (ret := some .int) (hh := [(0, 12, 15, 13), (0, 12, 19, 15)]) (by decide) rfl (Nat.le_of_ble_eq_true rfl) ?_
  intro p e s m below meth c ls hx hb hr hml hts hown hlocks hsz hP hO hK hD hG hN hT hZ hC hl htab
  subst hsz
  have hown : s.vm.findClass RL = some m.cls := hown
  have hD : ∀ S' : Mem, va_D (lA G o s.heap.size) (WL 36 G (cF cI cS G) S') := fun S' => (hD S').weaken (fun _ _ _ h => Or.inl h)
  have hA : ∀ q : Nat, s.heap.size ≤ q → (lA G o s.heap.size) q := fun q h => Or.inl (Or.inr h)
  have hoA : (lA G o s.heap.size) o := Or.inr rfl
  have hl : lv_has ls 6 [(0, .ref (G 0)), (1, .int (nI a)), (2, .int (nI b)), (3, .int v), (4, .ref o)] := hl
  have hS : va_S (lA G o s.heap.size) s.heap s.heap [] := va_S.rf
  refine lv_aload hx hb dL_setStrength_0 (lv_at hl 4 rfl) ?_
  refine lv_iconst (v := nI 0) hx hb dL_setStrength_2 (by decide) ?_
  refine lv_aload_n hx hb dL_setStrength_3 rfl (lv_at hl 0 rfl) ?_
  refine lv_iload_n hx hb dL_setStrength_4 rfl (lv_at hl 1 rfl) ?_
  refine lv_iload_n hx hb dL_setStrength_5 rfl (lv_at hl 2 rfl) ?_
  refine lv_iload_n hx hb dL_setStrength_6 rfl (lv_at hl 3 rfl) ?_
  refine x_mi (va_runV (As := [.int (nI a), .int (nI b), .int v]) (rest := [.int (nI 0), .ref o]) ⟨hx, hb, hml, hown, hts⟩ (c_X5_setStrength l D cI cS cZ cJ G S s.heap.size a b v ha hb6 hv1 hv2 hne) (cwV 3 hts gL_setStrength_X5_setStrength rfl rfl rfl (by decide +kernel) ⟨Nat.le_of_ble_eq_true rfl, Nat.le_of_ble_eq_true rfl⟩) ⟨wPc_blind, va_recv hK hP (ci := 5) (q0 := 0) rfl (WL_at (by decide) (cF_air _)), wPc_at hP hK hD hN⟩ rfl rfl hl.1 rfl (lv_room (Nat.le_of_ble_eq_true rfl)) dL_setStrength_7 ⟨Nat.le_of_ble_eq_true rfl, Nat.le_of_ble_eq_true rfl⟩) hS (fA_sub (hD S) (fun q h => hA q (Nat.le_trans hS.1 h))) (fun H locs hz hk hP hS => ?_)
  have hO := O_keep hO hG hk
  refine lv_i2l hx hb dL_setStrength_10 rfl ?_
  refine x_last hx hb hK hP hO hD hoA hG hS dL_setStrength_11 (fun H locs hP hO hS => ?_)
  refine lv_goto (tgt := 23) hx hb dL_setStrength_12 (by decide) ?_
  refine lv_iconst (v := nI 0) hx hb dL_setStrength_23 (by decide) ?_
  exact x_ret_g hx hb hr hlocks hP hO hS dL_setStrength_24

set_option maxHeartbeats 1000000 in
set_option maxRecDepth 100000 in
theorem w_L_setClass (l : Launch) (D : va_G) (cI cS cZ cJ : ClassId) (G : Nat → Nat) (S : Mem) (o : Nat) (fo : Nat → Int64) (sz : Nat) (s1 : Nat) (y : Int32) (h1 : s1 < 6) (hv1 : ¬ y < 0) (hv2 : y ≤ nI 1) : Met l yL_setClass wsL_setClass ({ frames := 3, cells := 0, slots := 0, locals := 66 } : Room) (lPc D cI cS cZ cJ G S o fo sz [.ref (G 0), .int (nI s1), .int y, .ref o]) (lQ ((f_X5_setClass S s1 y).2) ((f_X5_setClass S s1 y).1).toInt64 D cI cS cJ G o fo sz) 0 0 (lA G o sz) := by
  refine x_metL (cc := cL_setClass) (maxL := 5) (ret := some .int) (hh := [(0, 10, 13, 13), (0, 10, 17, 15)]) (by decide) rfl (Nat.le_of_ble_eq_true rfl) ?_
  intro p e s m below meth c ls hx hb hr hml hts hown hlocks hsz hP hO hK hD hG hN hT hZ hC hl htab
  subst hsz
  have hown : s.vm.findClass RL = some m.cls := hown
  have hD : ∀ S' : Mem, va_D (lA G o s.heap.size) (WL 36 G (cF cI cS G) S') := fun S' => (hD S').weaken (fun _ _ _ h => Or.inl h)
  have hA : ∀ q : Nat, s.heap.size ≤ q → (lA G o s.heap.size) q := fun q h => Or.inl (Or.inr h)
  have hoA : (lA G o s.heap.size) o := Or.inr rfl
  have hl : lv_has ls 5 [(0, .ref (G 0)), (1, .int (nI s1)), (2, .int y), (3, .ref o)] := hl
  have hS : va_S (lA G o s.heap.size) s.heap s.heap [] := va_S.rf
  refine lv_aload_n hx hb dL_setClass_0 rfl (lv_at hl 3 rfl) ?_
  refine lv_iconst (v := nI 0) hx hb dL_setClass_1 (by decide) ?_
  refine lv_aload_n hx hb dL_setClass_2 rfl (lv_at hl 0 rfl) ?_
  refine lv_iload_n hx hb dL_setClass_3 rfl (lv_at hl 1 rfl) ?_
  refine lv_iload_n hx hb dL_setClass_4 rfl (lv_at hl 2 rfl) ?_
  refine x_mi (va_runV (As := [.int (nI s1), .int y]) (rest := [.int (nI 0), .ref o]) ⟨hx, hb, hml, hown, hts⟩ (c_X5_setClass l D cI cS cZ cJ G S s.heap.size s1 y h1 hv1 hv2) (cwV 2 hts gL_setClass_X5_setClass rfl rfl rfl (by decide +kernel) ⟨Nat.le_of_ble_eq_true rfl, Nat.le_of_ble_eq_true rfl⟩) ⟨wPc_blind, va_recv hK hP (ci := 5) (q0 := 0) rfl (WL_at (by decide) (cF_air _)), wPc_at hP hK hD hN⟩ rfl rfl hl.1 rfl (lv_room (Nat.le_of_ble_eq_true rfl)) dL_setClass_5 ⟨Nat.le_of_ble_eq_true rfl, Nat.le_of_ble_eq_true rfl⟩) hS (fA_sub (hD S) (fun q h => hA q (Nat.le_trans hS.1 h))) (fun H locs hz hk hP hS => ?_)
  have hO := O_keep hO hG hk
  refine lv_i2l hx hb dL_setClass_8 rfl ?_
  refine x_last hx hb hK hP hO hD hoA hG hS dL_setClass_9 (fun H locs hP hO hS => ?_)
  refine lv_goto (tgt := 21) hx hb dL_setClass_10 (by decide) ?_
  refine lv_iconst (v := nI 0) hx hb dL_setClass_21 (by decide) ?_
  exact x_ret_g hx hb hr hlocks hP hO hS dL_setClass_22

set_option maxHeartbeats 1000000 in
set_option maxRecDepth 100000 in
theorem w_L_setReserve (l : Launch) (D : va_G) (cI cS cZ cJ : ClassId) (G : Nat → Nat) (S : Mem) (o : Nat) (fo : Nat → Int64) (sz : Nat) (x : Int32) (hv1 : ¬ x < nI 1) (hv2 : x ≤ nI 5) : Met l yL_setReserve wsL_setReserve ({ frames := 2, cells := 0, slots := 0, locals := 42 } : Room) (lPc D cI cS cZ cJ G S o fo sz [.ref (G 0), .int x, .ref o]) (lQ ((f_X5_setReserve S x).2) ((f_X5_setReserve S x).1).toInt64 D cI cS cJ G o fo sz) 0 0 (lA G o sz) := by
  refine x_metL (cc := cL_setReserve) (maxL := 4) (ret := some .int) (hh := [(0, 9, 12, 15)]) (by decide) rfl (Nat.le_of_ble_eq_true rfl) ?_
  intro p e s m below meth c ls hx hb hr hml hts hown hlocks hsz hP hO hK hD hG hN hT hZ hC hl htab
  subst hsz
  have hown : s.vm.findClass RL = some m.cls := hown
  have hD : ∀ S' : Mem, va_D (lA G o s.heap.size) (WL 36 G (cF cI cS G) S') := fun S' => (hD S').weaken (fun _ _ _ h => Or.inl h)
  have hA : ∀ q : Nat, s.heap.size ≤ q → (lA G o s.heap.size) q := fun q h => Or.inl (Or.inr h)
  have hoA : (lA G o s.heap.size) o := Or.inr rfl
  have hl : lv_has ls 4 [(0, .ref (G 0)), (1, .int x), (2, .ref o)] := hl
  have hS : va_S (lA G o s.heap.size) s.heap s.heap [] := va_S.rf
  refine lv_aload_n hx hb dL_setReserve_0 rfl (lv_at hl 2 rfl) ?_
  refine lv_iconst (v := nI 0) hx hb dL_setReserve_1 (by decide) ?_
  refine lv_aload_n hx hb dL_setReserve_2 rfl (lv_at hl 0 rfl) ?_
  refine lv_iload_n hx hb dL_setReserve_3 rfl (lv_at hl 1 rfl) ?_
  refine x_mi (va_runV (As := [.int x]) (rest := [.int (nI 0), .ref o]) ⟨hx, hb, hml, hown, hts⟩ (c_X5_setReserve l D cI cS cZ cJ G S s.heap.size x hv1 hv2) (cwV 1 hts gL_setReserve_X5_setReserve rfl rfl rfl (by decide +kernel) ⟨Nat.le_of_ble_eq_true rfl, Nat.le_of_ble_eq_true rfl⟩) ⟨wPc_blind, va_recv hK hP (ci := 5) (q0 := 0) rfl (WL_at (by decide) (cF_air _)), wPc_at hP hK hD hN⟩ rfl rfl hl.1 rfl (lv_room (Nat.le_of_ble_eq_true rfl)) dL_setReserve_4 ⟨Nat.le_of_ble_eq_true rfl, Nat.le_of_ble_eq_true rfl⟩) hS (fA_sub (hD S) (fun q h => hA q (Nat.le_trans hS.1 h))) (fun H locs hz hk hP hS => ?_)
  have hO := O_keep hO hG hk
  refine lv_i2l hx hb dL_setReserve_7 rfl ?_
  refine x_last hx hb hK hP hO hD hoA hG hS dL_setReserve_8 (fun H locs hP hO hS => ?_)
  refine lv_goto (tgt := 15) hx hb dL_setReserve_9 (by decide) ?_
  refine lv_iconst (v := nI 0) hx hb dL_setReserve_15 (by decide) ?_
  exact x_ret_g hx hb hr hlocks hP hO hS dL_setReserve_16

set_option maxHeartbeats 1000000 in
set_option maxRecDepth 100000 in
theorem w_L_tell (l : Launch) (D : va_G) (cI cS cZ cJ : ClassId) (G : Nat → Nat) (S : Mem) (o : Nat) (fo : Nat → Int64) (sz : Nat) (x : Int32) (hv1 : ¬ x < 0) (hv2 : x ≤ nI 1000) (hlt : S 4 1 < nI 200) (hf : S 4 0 = nI (kN (S 4 0))) (hf2 : kN (S 4 0) < 200) (hl1 : S 4 1 = nI (kN (S 4 1))) (hl2 : kN (S 4 1) < 200) : Met l yL_tell wsL_tell ({ frames := 3, cells := 0, slots := 0, locals := 63 } : Room) (lPc D cI cS cZ cJ G S o fo sz [.ref (G 0), .int x, .ref o]) (lQ ((f_X5_tell S x).2) ((f_X5_tell S x).1).toInt64 D cI cS cJ G o fo sz) 0 0 (lA G o sz) := by
  refine x_metL (cc := cL_tell) (maxL := 4) (ret := some .int) (hh := [(0, 9, 12, 15), (0, 9, 15, 28)]) (by decide) rfl (Nat.le_of_ble_eq_true rfl) ?_
  intro p e s m below meth c ls hx hb hr hml hts hown hlocks hsz hP hO hK hD hG hN hT hZ hC hl htab
  subst hsz
  have hown : s.vm.findClass RL = some m.cls := hown
  have hD : ∀ S' : Mem, va_D (lA G o s.heap.size) (WL 36 G (cF cI cS G) S') := fun S' => (hD S').weaken (fun _ _ _ h => Or.inl h)
  have hA : ∀ q : Nat, s.heap.size ≤ q → (lA G o s.heap.size) q := fun q h => Or.inl (Or.inr h)
  have hoA : (lA G o s.heap.size) o := Or.inr rfl
  have hl : lv_has ls 4 [(0, .ref (G 0)), (1, .int x), (2, .ref o)] := hl
  have hS : va_S (lA G o s.heap.size) s.heap s.heap [] := va_S.rf
  refine lv_aload_n hx hb dL_tell_0 rfl (lv_at hl 2 rfl) ?_
  refine lv_iconst (v := nI 0) hx hb dL_tell_1 (by decide) ?_
  refine lv_aload_n hx hb dL_tell_2 rfl (lv_at hl 0 rfl) ?_
  refine lv_iload_n hx hb dL_tell_3 rfl (lv_at hl 1 rfl) ?_
  refine x_mi (va_runV (As := [.int x]) (rest := [.int (nI 0), .ref o]) ⟨hx, hb, hml, hown, hts⟩ (c_X5_tell l D cI cS cZ cJ G S s.heap.size x hv1 hv2 hlt hf hf2 hl1 hl2) (cwV 1 hts gL_tell_X5_tell rfl rfl rfl (by decide +kernel) ⟨Nat.le_of_ble_eq_true rfl, Nat.le_of_ble_eq_true rfl⟩) ⟨wPc_blind, va_recv hK hP (ci := 5) (q0 := 0) rfl (WL_at (by decide) (cF_air _)), wPc_at hP hK hD hN⟩ rfl rfl hl.1 rfl (lv_room (Nat.le_of_ble_eq_true rfl)) dL_tell_4 ⟨Nat.le_of_ble_eq_true rfl, Nat.le_of_ble_eq_true rfl⟩) hS (fA_sub (hD S) (fun q h => hA q (Nat.le_trans hS.1 h))) (fun H locs hz hk hP hS => ?_)
  have hO := O_keep hO hG hk
  refine lv_i2l hx hb dL_tell_7 rfl ?_
  refine x_last hx hb hK hP hO hD hoA hG hS dL_tell_8 (fun H locs hP hO hS => ?_)
  refine lv_goto (tgt := 18) hx hb dL_tell_9 (by decide) ?_
  refine lv_iconst (v := nI 0) hx hb dL_tell_18 (by decide) ?_
  exact x_ret_g hx hb hr hlocks hP hO hS dL_tell_19

set_option maxHeartbeats 1000000 in
set_option maxRecDepth 100000 in
theorem w_L_frame (l : Launch) (D : va_G) (cI cS cZ cJ : ClassId) (G : Nat → Nat) (S : Mem) (o : Nat) (fo : Nat → Int64) (sz : Nat) (a : Nat) (b : Nat) (v : Int32) (ha : a < 6) (hb6 : b < 6) (hv1 : ¬ v < nI 1) (hv2 : v ≤ nI 4) (hne : ¬ nI a = nI b) (hlt : S (7 + 5 * a) 0 < nI 5) (hc : S (7 + 5 * a) 0 = nI (kN (S (7 + 5 * a) 0))) (hc5 : kN (S (7 + 5 * a) 0) < 5) : Met l yL_frame wsL_frame ({ frames := 3, cells := 0, slots := 0, locals := 66 } : Room) (lPc D cI cS cZ cJ G S o fo sz [.ref (G 0), .int (nI a), .int (nI b), .int v, .ref o]) (lQ ((f_X5_frame S a b v).2) ((f_X5_frame S a b v).1).toInt64 D cI cS cJ G o fo sz) 0 0 (lA G o sz) := by
  refine x_metL (cc := cL_frame) (maxL := 6) (ret := some .int) (hh := [(0, 12, 15, 13), (0, 12, 19, 15), (0, 12, 23, 28)]) (by decide) rfl (Nat.le_of_ble_eq_true rfl) ?_
  intro p e s m below meth c ls hx hb hr hml hts hown hlocks hsz hP hO hK hD hG hN hT hZ hC hl htab
  subst hsz
  have hown : s.vm.findClass RL = some m.cls := hown
  have hD : ∀ S' : Mem, va_D (lA G o s.heap.size) (WL 36 G (cF cI cS G) S') := fun S' => (hD S').weaken (fun _ _ _ h => Or.inl h)
  have hA : ∀ q : Nat, s.heap.size ≤ q → (lA G o s.heap.size) q := fun q h => Or.inl (Or.inr h)
  have hoA : (lA G o s.heap.size) o := Or.inr rfl
  have hl : lv_has ls 6 [(0, .ref (G 0)), (1, .int (nI a)), (2, .int (nI b)), (3, .int v), (4, .ref o)] := hl
  have hS : va_S (lA G o s.heap.size) s.heap s.heap [] := va_S.rf
  refine lv_aload hx hb dL_frame_0 (lv_at hl 4 rfl) ?_
  refine lv_iconst (v := nI 0) hx hb dL_frame_2 (by decide) ?_
  refine lv_aload_n hx hb dL_frame_3 rfl (lv_at hl 0 rfl) ?_
  refine lv_iload_n hx hb dL_frame_4 rfl (lv_at hl 1 rfl) ?_
  refine lv_iload_n hx hb dL_frame_5 rfl (lv_at hl 2 rfl) ?_
  refine lv_iload_n hx hb dL_frame_6 rfl (lv_at hl 3 rfl) ?_
  refine x_mi (va_runV (As := [.int (nI a), .int (nI b), .int v]) (rest := [.int (nI 0), .ref o]) ⟨hx, hb, hml, hown, hts⟩ (c_X5_frame l D cI cS cZ cJ G S s.heap.size a b v ha hb6 hv1 hv2 hne hlt hc hc5) (cwV 3 hts gL_frame_X5_frame rfl rfl rfl (by decide +kernel) ⟨Nat.le_of_ble_eq_true rfl, Nat.le_of_ble_eq_true rfl⟩) ⟨wPc_blind, va_recv hK hP (ci := 5) (q0 := 0) rfl (WL_at (by decide) (cF_air _)), wPc_at hP hK hD hN⟩ rfl rfl hl.1 rfl (lv_room (Nat.le_of_ble_eq_true rfl)) dL_frame_7 ⟨Nat.le_of_ble_eq_true rfl, Nat.le_of_ble_eq_true rfl⟩) hS (fA_sub (hD S) (fun q h => hA q (Nat.le_trans hS.1 h))) (fun H locs hz hk hP hS => ?_)
  have hO := O_keep hO hG hk
  refine lv_i2l hx hb dL_frame_10 rfl ?_
  refine x_last hx hb hK hP hO hD hoA hG hS dL_frame_11 (fun H locs hP hO hS => ?_)
  refine lv_goto (tgt := 27) hx hb dL_frame_12 (by decide) ?_
  refine lv_iconst (v := nI 0) hx hb dL_frame_27 (by decide) ?_
  exact x_ret_g hx hb hr hlocks hP hO hS dL_frame_28

set_option maxHeartbeats 1000000 in
set_option maxRecDepth 100000 in
theorem w_L_pass (l : Launch) (D : va_G) (cI cS cZ cJ : ClassId) (G : Nat → Nat) (S : Mem) (o : Nat) (fo : Nat → Int64) (sz : Nat) (k : Nat) (hk1 : 1 ≤ k) (hk2 : k ≤ 50) (hall : ∀ j, j < k → pOK (ctp S j)) : Met l yL_pass wsL_pass ({ frames := 8, cells := 0, slots := 0, locals := 177 } : Room) (lPc D cI cS cZ cJ G S o fo sz [.ref (G 0), .int (nI k), .ref o]) (lQ ((f_X5_pass S k).2) ((f_X5_pass S k).1).toInt64 D cI cS cJ G o fo sz) 0 0 (lA G o sz) := by
  refine x_metL (cc := cL_pass) (maxL := 4) (ret := some .int) (hh := [(0, 9, 12, 15)]) (by decide) rfl (Nat.le_of_ble_eq_true rfl) ?_
  intro p e s m below meth c ls hx hb hr hml hts hown hlocks hsz hP hO hK hD hG hN hT hZ hC hl htab
  subst hsz
  have hown : s.vm.findClass RL = some m.cls := hown
  have hD : ∀ S' : Mem, va_D (lA G o s.heap.size) (WL 36 G (cF cI cS G) S') := fun S' => (hD S').weaken (fun _ _ _ h => Or.inl h)
  have hA : ∀ q : Nat, s.heap.size ≤ q → (lA G o s.heap.size) q := fun q h => Or.inl (Or.inr h)
  have hoA : (lA G o s.heap.size) o := Or.inr rfl
  have hl : lv_has ls 4 [(0, .ref (G 0)), (1, .int (nI k)), (2, .ref o)] := hl
  have hS : va_S (lA G o s.heap.size) s.heap s.heap [] := va_S.rf
  refine lv_aload_n hx hb dL_pass_0 rfl (lv_at hl 2 rfl) ?_
  refine lv_iconst (v := nI 0) hx hb dL_pass_1 (by decide) ?_
  refine lv_aload_n hx hb dL_pass_2 rfl (lv_at hl 0 rfl) ?_
  refine lv_iload_n hx hb dL_pass_3 rfl (lv_at hl 1 rfl) ?_
  refine x_mi (va_runV (As := [.int (nI k)]) (rest := [.int (nI 0), .ref o]) ⟨hx, hb, hml, hown, hts⟩ (c_X5_pass l D cI cS cZ cJ G S s.heap.size k hk1 hk2 hall) (cwV 1 hts gL_pass_X5_pass rfl rfl rfl (by decide +kernel) ⟨Nat.le_of_ble_eq_true rfl, Nat.le_of_ble_eq_true rfl⟩) ⟨wPc_blind, va_recv hK hP (ci := 5) (q0 := 0) rfl (WL_at (by decide) (cF_air _)), wPc_at hP hK hD hN⟩ rfl rfl hl.1 rfl (lv_room (Nat.le_of_ble_eq_true rfl)) dL_pass_4 ⟨Nat.le_of_ble_eq_true rfl, Nat.le_of_ble_eq_true rfl⟩) hS (fA_sub (hD S) (fun q h => hA q (Nat.le_trans hS.1 h))) (fun H locs hz hk hP hS => ?_)
  have hO := O_keep hO hG hk
  refine lv_i2l hx hb dL_pass_7 rfl ?_
  refine x_last hx hb hK hP hO hD hoA hG hS dL_pass_8 (fun H locs hP hO hS => ?_)
  refine lv_goto (tgt := 15) hx hb dL_pass_9 (by decide) ?_
  refine lv_iconst (v := nI 0) hx hb dL_pass_15 (by decide) ?_
  exact x_ret_g hx hb hr hlocks hP hO hS dL_pass_16

set_option maxHeartbeats 1000000 in
set_option maxRecDepth 100000 in
theorem w_L_sends (l : Launch) (D : va_G) (cI cS cZ cJ : ClassId) (G : Nat → Nat) (S : Mem) (o : Nat) (fo : Nat → Int64) (sz : Nat) (s1 : Nat) (h1 : s1 < 6) (hbo : narrow .boolean (.int (S (8 + 5 * s1) 0)) = .int (S (8 + 5 * s1) 0)) : Met l yL_sends wsL_sends ({ frames := 3, cells := 0, slots := 0, locals := 63 } : Room) (lPc D cI cS cZ cJ G S o fo sz [.ref (G 0), .int (nI s1), .ref o]) (lQ S (if (f_X5_sends S s1) = 0 then 0 else 1) D cI cS cJ G o fo sz) 0 0 (lA G o sz) := by
  refine x_metL (cc := cL_sends) (maxL := 4) (ret := some .int) (hh := [(0, 16, 19, 13)]) (by decide) rfl (Nat.le_of_ble_eq_true rfl) ?_
  intro p e s m below meth c ls hx hb hr hml hts hown hlocks hsz hP hO hK hD hG hN hT hZ hC hl htab
  subst hsz
  have hown : s.vm.findClass RL = some m.cls := hown
  have hD : ∀ S' : Mem, va_D (lA G o s.heap.size) (WL 36 G (cF cI cS G) S') := fun S' => (hD S').weaken (fun _ _ _ h => Or.inl h)
  have hA : ∀ q : Nat, s.heap.size ≤ q → (lA G o s.heap.size) q := fun q h => Or.inl (Or.inr h)
  have hoA : (lA G o s.heap.size) o := Or.inr rfl
  have hl : lv_has ls 4 [(0, .ref (G 0)), (1, .int (nI s1)), (2, .ref o)] := hl
  have hS : va_S (lA G o s.heap.size) s.heap s.heap [] := va_S.rf
  refine lv_aload_n hx hb dL_sends_0 rfl (lv_at hl 2 rfl) ?_
  refine lv_iconst (v := nI 0) hx hb dL_sends_1 (by decide) ?_
  refine lv_aload_n hx hb dL_sends_2 rfl (lv_at hl 0 rfl) ?_
  refine lv_iload_n hx hb dL_sends_3 rfl (lv_at hl 1 rfl) ?_
  refine x_pi (va_runV (As := [.int (nI s1)]) (rest := [.int (nI 0), .ref o]) ⟨hx, hb, hml, hown, hts⟩ (c_X5_sends l D cI cS cZ cJ G S s.heap.size s1 h1 hbo) (cwV 1 hts gL_sends_X5_sends rfl rfl rfl (by decide +kernel) ⟨Nat.le_of_ble_eq_true rfl, Nat.le_of_ble_eq_true rfl⟩) ⟨wPc_blind, va_recv hK hP (ci := 5) (q0 := 0) rfl (WL_at (by decide) (cF_air _)), wPc_at hP hK hD hN⟩ rfl rfl hl.1 rfl (lv_room (Nat.le_of_ble_eq_true rfl)) dL_sends_4 ⟨Nat.le_of_ble_eq_true rfl, Nat.le_of_ble_eq_true rfl⟩) hS hA (fun q h => h) (fun H locs hz hk hS => ?_)
  have hP := P_kept hP hk
  have hO := P_kept hO hk
  refine lv_if_eq (tgt := 14) hx hb dL_sends_7 (by decide) (fun c_1 => ?_) (fun c_1 => ?_)
  · have hif : (if (f_X5_sends S s1) = 0 then (0 : Int64) else 1) = 0 := if_pos c_1
    refine lv_lconst (v := if (f_X5_sends S s1) = 0 then 0 else 1) hx hb dL_sends_14 hif.symm ?_
    refine x_last hx hb hK hP hO hD hoA hG hS dL_sends_15 (fun H locs hP hO hS => ?_)
    refine lv_goto (tgt := 22) hx hb dL_sends_16 (by decide) ?_
    refine lv_iconst (v := nI 0) hx hb dL_sends_22 (by decide) ?_
    exact x_ret_g hx hb hr hlocks hP hO hS dL_sends_23
  · have hif : (if (f_X5_sends S s1) = 0 then (0 : Int64) else 1) = 1 := if_neg c_1
    refine lv_lconst (v := if (f_X5_sends S s1) = 0 then 0 else 1) hx hb dL_sends_10 hif.symm ?_
    refine lv_goto (tgt := 15) hx hb dL_sends_11 (by decide) ?_
    refine x_last hx hb hK hP hO hD hoA hG hS dL_sends_15 (fun H locs hP hO hS => ?_)
    refine lv_goto (tgt := 22) hx hb dL_sends_16 (by decide) ?_
    refine lv_iconst (v := nI 0) hx hb dL_sends_22 (by decide) ?_
    exact x_ret_g hx hb hr hlocks hP hO hS dL_sends_23

set_option maxHeartbeats 1000000 in
set_option maxRecDepth 100000 in
theorem w_L_waitOf (l : Launch) (D : va_G) (cI cS cZ cJ : ClassId) (G : Nat → Nat) (S : Mem) (o : Nat) (fo : Nat → Int64) (sz : Nat) (s1 : Nat) (h1 : s1 < 6) : Met l yL_waitOf wsL_waitOf ({ frames := 3, cells := 0, slots := 0, locals := 63 } : Room) (lPc D cI cS cZ cJ G S o fo sz [.ref (G 0), .int (nI s1), .ref o]) (lQ S ((f_X5_waitOf S s1)).toInt64 D cI cS cJ G o fo sz) 0 0 (lA G o sz) := by
  refine x_metL (cc := cL_waitOf) (maxL := 4) (ret := some .int) (hh := [(0, 9, 12, 13)]) (by decide) rfl (Nat.le_of_ble_eq_true rfl) ?_
  intro p e s m below meth c ls hx hb hr hml hts hown hlocks hsz hP hO hK hD hG hN hT hZ hC hl htab
  subst hsz
  have hown : s.vm.findClass RL = some m.cls := hown
  have hD : ∀ S' : Mem, va_D (lA G o s.heap.size) (WL 36 G (cF cI cS G) S') := fun S' => (hD S').weaken (fun _ _ _ h => Or.inl h)
  have hA : ∀ q : Nat, s.heap.size ≤ q → (lA G o s.heap.size) q := fun q h => Or.inl (Or.inr h)
  have hoA : (lA G o s.heap.size) o := Or.inr rfl
  have hl : lv_has ls 4 [(0, .ref (G 0)), (1, .int (nI s1)), (2, .ref o)] := hl
  have hS : va_S (lA G o s.heap.size) s.heap s.heap [] := va_S.rf
  refine lv_aload_n hx hb dL_waitOf_0 rfl (lv_at hl 2 rfl) ?_
  refine lv_iconst (v := nI 0) hx hb dL_waitOf_1 (by decide) ?_
  refine lv_aload_n hx hb dL_waitOf_2 rfl (lv_at hl 0 rfl) ?_
  refine lv_iload_n hx hb dL_waitOf_3 rfl (lv_at hl 1 rfl) ?_
  refine x_pi (va_runV (As := [.int (nI s1)]) (rest := [.int (nI 0), .ref o]) ⟨hx, hb, hml, hown, hts⟩ (c_X5_waitOf l D cI cS cZ cJ G S s.heap.size s1 h1) (cwV 1 hts gL_waitOf_X5_waitOf rfl rfl rfl (by decide +kernel) ⟨Nat.le_of_ble_eq_true rfl, Nat.le_of_ble_eq_true rfl⟩) ⟨wPc_blind, va_recv hK hP (ci := 5) (q0 := 0) rfl (WL_at (by decide) (cF_air _)), wPc_at hP hK hD hN⟩ rfl rfl hl.1 rfl (lv_room (Nat.le_of_ble_eq_true rfl)) dL_waitOf_4 ⟨Nat.le_of_ble_eq_true rfl, Nat.le_of_ble_eq_true rfl⟩) hS hA (fun q h => h) (fun H locs hz hk hS => ?_)
  have hP := P_kept hP hk
  have hO := P_kept hO hk
  refine lv_i2l hx hb dL_waitOf_7 rfl ?_
  refine x_last hx hb hK hP hO hD hoA hG hS dL_waitOf_8 (fun H locs hP hO hS => ?_)
  refine lv_goto (tgt := 15) hx hb dL_waitOf_9 (by decide) ?_
  refine lv_iconst (v := nI 0) hx hb dL_waitOf_15 (by decide) ?_
  exact x_ret_g hx hb hr hlocks hP hO hS dL_waitOf_16

set_option maxHeartbeats 1000000 in
set_option maxRecDepth 100000 in
theorem w_L_window (l : Launch) (D : va_G) (cI cS cZ cJ : ClassId) (G : Nat → Nat) (S : Mem) (o : Nat) (fo : Nat → Int64) (sz : Nat) (s1 : Nat) (h1 : s1 < 6) : Met l yL_window wsL_window ({ frames := 3, cells := 0, slots := 0, locals := 63 } : Room) (lPc D cI cS cZ cJ G S o fo sz [.ref (G 0), .int (nI s1), .ref o]) (lQ S ((f_X5_window S s1)).toInt64 D cI cS cJ G o fo sz) 0 0 (lA G o sz) := by
  refine x_metL (cc := cL_window) (maxL := 4) (ret := some .int) (hh := [(0, 9, 12, 13)]) (by decide) rfl (Nat.le_of_ble_eq_true rfl) ?_
  intro p e s m below meth c ls hx hb hr hml hts hown hlocks hsz hP hO hK hD hG hN hT hZ hC hl htab
  subst hsz
  have hown : s.vm.findClass RL = some m.cls := hown
  have hD : ∀ S' : Mem, va_D (lA G o s.heap.size) (WL 36 G (cF cI cS G) S') := fun S' => (hD S').weaken (fun _ _ _ h => Or.inl h)
  have hA : ∀ q : Nat, s.heap.size ≤ q → (lA G o s.heap.size) q := fun q h => Or.inl (Or.inr h)
  have hoA : (lA G o s.heap.size) o := Or.inr rfl
  have hl : lv_has ls 4 [(0, .ref (G 0)), (1, .int (nI s1)), (2, .ref o)] := hl
  have hS : va_S (lA G o s.heap.size) s.heap s.heap [] := va_S.rf
  refine lv_aload_n hx hb dL_window_0 rfl (lv_at hl 2 rfl) ?_
  refine lv_iconst (v := nI 0) hx hb dL_window_1 (by decide) ?_
  refine lv_aload_n hx hb dL_window_2 rfl (lv_at hl 0 rfl) ?_
  refine lv_iload_n hx hb dL_window_3 rfl (lv_at hl 1 rfl) ?_
  refine x_pi (va_runV (As := [.int (nI s1)]) (rest := [.int (nI 0), .ref o]) ⟨hx, hb, hml, hown, hts⟩ (c_X5_window l D cI cS cZ cJ G S s.heap.size s1 h1) (cwV 1 hts gL_window_X5_window rfl rfl rfl (by decide +kernel) ⟨Nat.le_of_ble_eq_true rfl, Nat.le_of_ble_eq_true rfl⟩) ⟨wPc_blind, va_recv hK hP (ci := 5) (q0 := 0) rfl (WL_at (by decide) (cF_air _)), wPc_at hP hK hD hN⟩ rfl rfl hl.1 rfl (lv_room (Nat.le_of_ble_eq_true rfl)) dL_window_4 ⟨Nat.le_of_ble_eq_true rfl, Nat.le_of_ble_eq_true rfl⟩) hS hA (fun q h => h) (fun H locs hz hk hS => ?_)
  have hP := P_kept hP hk
  have hO := P_kept hO hk
  refine lv_i2l hx hb dL_window_7 rfl ?_
  refine x_last hx hb hK hP hO hD hoA hG hS dL_window_8 (fun H locs hP hO hS => ?_)
  refine lv_goto (tgt := 15) hx hb dL_window_9 (by decide) ?_
  refine lv_iconst (v := nI 0) hx hb dL_window_15 (by decide) ?_
  exact x_ret_g hx hb hr hlocks hP hO hS dL_window_16

set_option maxHeartbeats 1000000 in
set_option maxRecDepth 100000 in
theorem w_L_failures (l : Launch) (D : va_G) (cI cS cZ cJ : ClassId) (G : Nat → Nat) (S : Mem) (o : Nat) (fo : Nat → Int64) (sz : Nat) (s1 : Nat) (h1 : s1 < 6) : Met l yL_failures wsL_failures ({ frames := 3, cells := 0, slots := 0, locals := 63 } : Room) (lPc D cI cS cZ cJ G S o fo sz [.ref (G 0), .int (nI s1), .ref o]) (lQ S ((f_X5_failures S s1)).toInt64 D cI cS cJ G o fo sz) 0 0 (lA G o sz) := by
  refine x_metL (cc := cL_failures) (maxL := 4) (ret := some .int) (hh := [(0, 9, 12, 13)]) (by decide) rfl (Nat.le_of_ble_eq_true rfl) ?_
  intro p e s m below meth c ls hx hb hr hml hts hown hlocks hsz hP hO hK hD hG hN hT hZ hC hl htab
  subst hsz
  have hown : s.vm.findClass RL = some m.cls := hown
  have hD : ∀ S' : Mem, va_D (lA G o s.heap.size) (WL 36 G (cF cI cS G) S') := fun S' => (hD S').weaken (fun _ _ _ h => Or.inl h)
  have hA : ∀ q : Nat, s.heap.size ≤ q → (lA G o s.heap.size) q := fun q h => Or.inl (Or.inr h)
  have hoA : (lA G o s.heap.size) o := Or.inr rfl
  have hl : lv_has ls 4 [(0, .ref (G 0)), (1, .int (nI s1)), (2, .ref o)] := hl
  have hS : va_S (lA G o s.heap.size) s.heap s.heap [] := va_S.rf
  refine lv_aload_n hx hb dL_failures_0 rfl (lv_at hl 2 rfl) ?_
  refine lv_iconst (v := nI 0) hx hb dL_failures_1 (by decide) ?_
  refine lv_aload_n hx hb dL_failures_2 rfl (lv_at hl 0 rfl) ?_
  refine lv_iload_n hx hb dL_failures_3 rfl (lv_at hl 1 rfl) ?_
  refine x_pi (va_runV (As := [.int (nI s1)]) (rest := [.int (nI 0), .ref o]) ⟨hx, hb, hml, hown, hts⟩ (c_X5_failures l D cI cS cZ cJ G S s.heap.size s1 h1) (cwV 1 hts gL_failures_X5_failures rfl rfl rfl (by decide +kernel) ⟨Nat.le_of_ble_eq_true rfl, Nat.le_of_ble_eq_true rfl⟩) ⟨wPc_blind, va_recv hK hP (ci := 5) (q0 := 0) rfl (WL_at (by decide) (cF_air _)), wPc_at hP hK hD hN⟩ rfl rfl hl.1 rfl (lv_room (Nat.le_of_ble_eq_true rfl)) dL_failures_4 ⟨Nat.le_of_ble_eq_true rfl, Nat.le_of_ble_eq_true rfl⟩) hS hA (fun q h => h) (fun H locs hz hk hS => ?_)
  have hP := P_kept hP hk
  have hO := P_kept hO hk
  refine lv_i2l hx hb dL_failures_7 rfl ?_
  refine x_last hx hb hK hP hO hD hoA hG hS dL_failures_8 (fun H locs hP hO hS => ?_)
  refine lv_goto (tgt := 15) hx hb dL_failures_9 (by decide) ?_
  refine lv_iconst (v := nI 0) hx hb dL_failures_15 (by decide) ?_
  exact x_ret_g hx hb hr hlocks hP hO hS dL_failures_16

set_option maxHeartbeats 1000000 in
set_option maxRecDepth 100000 in
theorem w_L_silencedTo (l : Launch) (D : va_G) (cI cS cZ cJ : ClassId) (G : Nat → Nat) (S : Mem) (o : Nat) (fo : Nat → Int64) (sz : Nat) (s1 : Nat) (h1 : s1 < 6) : Met l yL_silencedTo wsL_silencedTo ({ frames := 3, cells := 0, slots := 0, locals := 63 } : Room) (lPc D cI cS cZ cJ G S o fo sz [.ref (G 0), .int (nI s1), .ref o]) (lQ S ((f_X5_silencedTo S s1)).toInt64 D cI cS cJ G o fo sz) 0 0 (lA G o sz) := by
  refine x_metL (cc := cL_silencedTo) (maxL := 4) (ret := some .int) (hh := [(0, 9, 12, 13)]) (by decide) rfl (Nat.le_of_ble_eq_true rfl) ?_
  intro p e s m below meth c ls hx hb hr hml hts hown hlocks hsz hP hO hK hD hG hN hT hZ hC hl htab
  subst hsz
  have hown : s.vm.findClass RL = some m.cls := hown
  have hD : ∀ S' : Mem, va_D (lA G o s.heap.size) (WL 36 G (cF cI cS G) S') := fun S' => (hD S').weaken (fun _ _ _ h => Or.inl h)
  have hA : ∀ q : Nat, s.heap.size ≤ q → (lA G o s.heap.size) q := fun q h => Or.inl (Or.inr h)
  have hoA : (lA G o s.heap.size) o := Or.inr rfl
  have hl : lv_has ls 4 [(0, .ref (G 0)), (1, .int (nI s1)), (2, .ref o)] := hl
  have hS : va_S (lA G o s.heap.size) s.heap s.heap [] := va_S.rf
  refine lv_aload_n hx hb dL_silencedTo_0 rfl (lv_at hl 2 rfl) ?_
  refine lv_iconst (v := nI 0) hx hb dL_silencedTo_1 (by decide) ?_
  refine lv_aload_n hx hb dL_silencedTo_2 rfl (lv_at hl 0 rfl) ?_
  refine lv_iload_n hx hb dL_silencedTo_3 rfl (lv_at hl 1 rfl) ?_
  refine x_pi (va_runV (As := [.int (nI s1)]) (rest := [.int (nI 0), .ref o]) ⟨hx, hb, hml, hown, hts⟩ (c_X5_silencedTo l D cI cS cZ cJ G S s.heap.size s1 h1) (cwV 1 hts gL_silencedTo_X5_silencedTo rfl rfl rfl (by decide +kernel) ⟨Nat.le_of_ble_eq_true rfl, Nat.le_of_ble_eq_true rfl⟩) ⟨wPc_blind, va_recv hK hP (ci := 5) (q0 := 0) rfl (WL_at (by decide) (cF_air _)), wPc_at hP hK hD hN⟩ rfl rfl hl.1 rfl (lv_room (Nat.le_of_ble_eq_true rfl)) dL_silencedTo_4 ⟨Nat.le_of_ble_eq_true rfl, Nat.le_of_ble_eq_true rfl⟩) hS hA (fun q h => h) (fun H locs hz hk hS => ?_)
  have hP := P_kept hP hk
  have hO := P_kept hO hk
  refine lv_i2l hx hb dL_silencedTo_7 rfl ?_
  refine x_last hx hb hK hP hO hD hoA hG hS dL_silencedTo_8 (fun H locs hP hO hS => ?_)
  refine lv_goto (tgt := 15) hx hb dL_silencedTo_9 (by decide) ?_
  refine lv_iconst (v := nI 0) hx hb dL_silencedTo_15 (by decide) ?_
  exact x_ret_g hx hb hr hlocks hP hO hS dL_silencedTo_16

set_option maxHeartbeats 1000000 in
set_option maxRecDepth 100000 in
theorem w_L_frames (l : Launch) (D : va_G) (cI cS cZ cJ : ClassId) (G : Nat → Nat) (S : Mem) (o : Nat) (fo : Nat → Int64) (sz : Nat) (s1 : Nat) (h1 : s1 < 6) : Met l yL_frames wsL_frames ({ frames := 3, cells := 0, slots := 0, locals := 63 } : Room) (lPc D cI cS cZ cJ G S o fo sz [.ref (G 0), .int (nI s1), .ref o]) (lQ S ((f_X5_frames S s1)).toInt64 D cI cS cJ G o fo sz) 0 0 (lA G o sz) := by
  refine x_metL (cc := cL_frames) (maxL := 4) (ret := some .int) (hh := [(0, 9, 12, 13)]) (by decide) rfl (Nat.le_of_ble_eq_true rfl) ?_
  intro p e s m below meth c ls hx hb hr hml hts hown hlocks hsz hP hO hK hD hG hN hT hZ hC hl htab
  subst hsz
  have hown : s.vm.findClass RL = some m.cls := hown
  have hD : ∀ S' : Mem, va_D (lA G o s.heap.size) (WL 36 G (cF cI cS G) S') := fun S' => (hD S').weaken (fun _ _ _ h => Or.inl h)
  have hA : ∀ q : Nat, s.heap.size ≤ q → (lA G o s.heap.size) q := fun q h => Or.inl (Or.inr h)
  have hoA : (lA G o s.heap.size) o := Or.inr rfl
  have hl : lv_has ls 4 [(0, .ref (G 0)), (1, .int (nI s1)), (2, .ref o)] := hl
  have hS : va_S (lA G o s.heap.size) s.heap s.heap [] := va_S.rf
  refine lv_aload_n hx hb dL_frames_0 rfl (lv_at hl 2 rfl) ?_
  refine lv_iconst (v := nI 0) hx hb dL_frames_1 (by decide) ?_
  refine lv_aload_n hx hb dL_frames_2 rfl (lv_at hl 0 rfl) ?_
  refine lv_iload_n hx hb dL_frames_3 rfl (lv_at hl 1 rfl) ?_
  refine x_pi (va_runV (As := [.int (nI s1)]) (rest := [.int (nI 0), .ref o]) ⟨hx, hb, hml, hown, hts⟩ (c_X5_frames l D cI cS cZ cJ G S s.heap.size s1 h1) (cwV 1 hts gL_frames_X5_frames rfl rfl rfl (by decide +kernel) ⟨Nat.le_of_ble_eq_true rfl, Nat.le_of_ble_eq_true rfl⟩) ⟨wPc_blind, va_recv hK hP (ci := 5) (q0 := 0) rfl (WL_at (by decide) (cF_air _)), wPc_at hP hK hD hN⟩ rfl rfl hl.1 rfl (lv_room (Nat.le_of_ble_eq_true rfl)) dL_frames_4 ⟨Nat.le_of_ble_eq_true rfl, Nat.le_of_ble_eq_true rfl⟩) hS hA (fun q h => h) (fun H locs hz hk hS => ?_)
  have hP := P_kept hP hk
  have hO := P_kept hO hk
  refine lv_i2l hx hb dL_frames_7 rfl ?_
  refine x_last hx hb hK hP hO hD hoA hG hS dL_frames_8 (fun H locs hP hO hS => ?_)
  refine lv_goto (tgt := 15) hx hb dL_frames_9 (by decide) ?_
  refine lv_iconst (v := nI 0) hx hb dL_frames_15 (by decide) ?_
  exact x_ret_g hx hb hr hlocks hP hO hS dL_frames_16

set_option maxHeartbeats 1000000 in
set_option maxRecDepth 100000 in
theorem w_L_partsLeft (l : Launch) (D : va_G) (cI cS cZ cJ : ClassId) (G : Nat → Nat) (S : Mem) (o : Nat) (fo : Nat → Int64) (sz : Nat) (s1 : Nat) (h1 : s1 < 6) : Met l yL_partsLeft wsL_partsLeft ({ frames := 3, cells := 0, slots := 0, locals := 63 } : Room) (lPc D cI cS cZ cJ G S o fo sz [.ref (G 0), .int (nI s1), .ref o]) (lQ S ((f_X5_partsLeft S s1)).toInt64 D cI cS cJ G o fo sz) 0 0 (lA G o sz) := by
  refine x_metL (cc := cL_partsLeft) (maxL := 4) (ret := some .int) (hh := [(0, 9, 12, 13)]) (by decide) rfl (Nat.le_of_ble_eq_true rfl) ?_
  intro p e s m below meth c ls hx hb hr hml hts hown hlocks hsz hP hO hK hD hG hN hT hZ hC hl htab
  subst hsz
  have hown : s.vm.findClass RL = some m.cls := hown
  have hD : ∀ S' : Mem, va_D (lA G o s.heap.size) (WL 36 G (cF cI cS G) S') := fun S' => (hD S').weaken (fun _ _ _ h => Or.inl h)
  have hA : ∀ q : Nat, s.heap.size ≤ q → (lA G o s.heap.size) q := fun q h => Or.inl (Or.inr h)
  have hoA : (lA G o s.heap.size) o := Or.inr rfl
  have hl : lv_has ls 4 [(0, .ref (G 0)), (1, .int (nI s1)), (2, .ref o)] := hl
  have hS : va_S (lA G o s.heap.size) s.heap s.heap [] := va_S.rf
  refine lv_aload_n hx hb dL_partsLeft_0 rfl (lv_at hl 2 rfl) ?_
  refine lv_iconst (v := nI 0) hx hb dL_partsLeft_1 (by decide) ?_
  refine lv_aload_n hx hb dL_partsLeft_2 rfl (lv_at hl 0 rfl) ?_
  refine lv_iload_n hx hb dL_partsLeft_3 rfl (lv_at hl 1 rfl) ?_
  refine x_pi (va_runV (As := [.int (nI s1)]) (rest := [.int (nI 0), .ref o]) ⟨hx, hb, hml, hown, hts⟩ (c_X5_partsLeft l D cI cS cZ cJ G S s.heap.size s1 h1) (cwV 1 hts gL_partsLeft_X5_partsLeft rfl rfl rfl (by decide +kernel) ⟨Nat.le_of_ble_eq_true rfl, Nat.le_of_ble_eq_true rfl⟩) ⟨wPc_blind, va_recv hK hP (ci := 5) (q0 := 0) rfl (WL_at (by decide) (cF_air _)), wPc_at hP hK hD hN⟩ rfl rfl hl.1 rfl (lv_room (Nat.le_of_ble_eq_true rfl)) dL_partsLeft_4 ⟨Nat.le_of_ble_eq_true rfl, Nat.le_of_ble_eq_true rfl⟩) hS hA (fun q h => h) (fun H locs hz hk hS => ?_)
  have hP := P_kept hP hk
  have hO := P_kept hO hk
  refine lv_i2l hx hb dL_partsLeft_7 rfl ?_
  refine x_last hx hb hK hP hO hD hoA hG hS dL_partsLeft_8 (fun H locs hP hO hS => ?_)
  refine lv_goto (tgt := 15) hx hb dL_partsLeft_9 (by decide) ?_
  refine lv_iconst (v := nI 0) hx hb dL_partsLeft_15 (by decide) ?_
  exact x_ret_g hx hb hr hlocks hP hO hS dL_partsLeft_16

set_option maxHeartbeats 1000000 in
set_option maxRecDepth 100000 in
theorem w_L_delivered (l : Launch) (D : va_G) (cI cS cZ cJ : ClassId) (G : Nat → Nat) (S : Mem) (o : Nat) (fo : Nat → Int64) (sz : Nat) (s1 : Nat) (h1 : s1 < 6) : Met l yL_delivered wsL_delivered ({ frames := 3, cells := 0, slots := 0, locals := 63 } : Room) (lPc D cI cS cZ cJ G S o fo sz [.ref (G 0), .int (nI s1), .ref o]) (lQ S ((f_X5_delivered S s1)).toInt64 D cI cS cJ G o fo sz) 0 0 (lA G o sz) := by
  refine x_metL (cc := cL_delivered) (maxL := 4) (ret := some .int) (hh := [(0, 9, 12, 13)]) (by decide) rfl (Nat.le_of_ble_eq_true rfl) ?_
  intro p e s m below meth c ls hx hb hr hml hts hown hlocks hsz hP hO hK hD hG hN hT hZ hC hl htab
  subst hsz
  have hown : s.vm.findClass RL = some m.cls := hown
  have hD : ∀ S' : Mem, va_D (lA G o s.heap.size) (WL 36 G (cF cI cS G) S') := fun S' => (hD S').weaken (fun _ _ _ h => Or.inl h)
  have hA : ∀ q : Nat, s.heap.size ≤ q → (lA G o s.heap.size) q := fun q h => Or.inl (Or.inr h)
  have hoA : (lA G o s.heap.size) o := Or.inr rfl
  have hl : lv_has ls 4 [(0, .ref (G 0)), (1, .int (nI s1)), (2, .ref o)] := hl
  have hS : va_S (lA G o s.heap.size) s.heap s.heap [] := va_S.rf
  refine lv_aload_n hx hb dL_delivered_0 rfl (lv_at hl 2 rfl) ?_
  refine lv_iconst (v := nI 0) hx hb dL_delivered_1 (by decide) ?_
  refine lv_aload_n hx hb dL_delivered_2 rfl (lv_at hl 0 rfl) ?_
  refine lv_iload_n hx hb dL_delivered_3 rfl (lv_at hl 1 rfl) ?_
  refine x_pi (va_runV (As := [.int (nI s1)]) (rest := [.int (nI 0), .ref o]) ⟨hx, hb, hml, hown, hts⟩ (c_X5_delivered l D cI cS cZ cJ G S s.heap.size s1 h1) (cwV 1 hts gL_delivered_X5_delivered rfl rfl rfl (by decide +kernel) ⟨Nat.le_of_ble_eq_true rfl, Nat.le_of_ble_eq_true rfl⟩) ⟨wPc_blind, va_recv hK hP (ci := 5) (q0 := 0) rfl (WL_at (by decide) (cF_air _)), wPc_at hP hK hD hN⟩ rfl rfl hl.1 rfl (lv_room (Nat.le_of_ble_eq_true rfl)) dL_delivered_4 ⟨Nat.le_of_ble_eq_true rfl, Nat.le_of_ble_eq_true rfl⟩) hS hA (fun q h => h) (fun H locs hz hk hS => ?_)
  have hP := P_kept hP hk
  have hO := P_kept hO hk
  refine lv_i2l hx hb dL_delivered_7 rfl ?_
  refine x_last hx hb hK hP hO hD hoA hG hS dL_delivered_8 (fun H locs hP hO hS => ?_)
  refine lv_goto (tgt := 15) hx hb dL_delivered_9 (by decide) ?_
  refine lv_iconst (v := nI 0) hx hb dL_delivered_15 (by decide) ?_
  exact x_ret_g hx hb hr hlocks hP hO hS dL_delivered_16

set_option maxHeartbeats 1000000 in
set_option maxRecDepth 100000 in
theorem w_L_dropped (l : Launch) (D : va_G) (cI cS cZ cJ : ClassId) (G : Nat → Nat) (S : Mem) (o : Nat) (fo : Nat → Int64) (sz : Nat) (s1 : Nat) (h1 : s1 < 6) : Met l yL_dropped wsL_dropped ({ frames := 3, cells := 0, slots := 0, locals := 63 } : Room) (lPc D cI cS cZ cJ G S o fo sz [.ref (G 0), .int (nI s1), .ref o]) (lQ S ((f_X5_dropped S s1)).toInt64 D cI cS cJ G o fo sz) 0 0 (lA G o sz) := by
  refine x_metL (cc := cL_dropped) (maxL := 4) (ret := some .int) (hh := [(0, 9, 12, 13)]) (by decide) rfl (Nat.le_of_ble_eq_true rfl) ?_
  intro p e s m below meth c ls hx hb hr hml hts hown hlocks hsz hP hO hK hD hG hN hT hZ hC hl htab
  subst hsz
  have hown : s.vm.findClass RL = some m.cls := hown
  have hD : ∀ S' : Mem, va_D (lA G o s.heap.size) (WL 36 G (cF cI cS G) S') := fun S' => (hD S').weaken (fun _ _ _ h => Or.inl h)
  have hA : ∀ q : Nat, s.heap.size ≤ q → (lA G o s.heap.size) q := fun q h => Or.inl (Or.inr h)
  have hoA : (lA G o s.heap.size) o := Or.inr rfl
  have hl : lv_has ls 4 [(0, .ref (G 0)), (1, .int (nI s1)), (2, .ref o)] := hl
  have hS : va_S (lA G o s.heap.size) s.heap s.heap [] := va_S.rf
  refine lv_aload_n hx hb dL_dropped_0 rfl (lv_at hl 2 rfl) ?_
  refine lv_iconst (v := nI 0) hx hb dL_dropped_1 (by decide) ?_
  refine lv_aload_n hx hb dL_dropped_2 rfl (lv_at hl 0 rfl) ?_
  refine lv_iload_n hx hb dL_dropped_3 rfl (lv_at hl 1 rfl) ?_
  refine x_pi (va_runV (As := [.int (nI s1)]) (rest := [.int (nI 0), .ref o]) ⟨hx, hb, hml, hown, hts⟩ (c_X5_dropped l D cI cS cZ cJ G S s.heap.size s1 h1) (cwV 1 hts gL_dropped_X5_dropped rfl rfl rfl (by decide +kernel) ⟨Nat.le_of_ble_eq_true rfl, Nat.le_of_ble_eq_true rfl⟩) ⟨wPc_blind, va_recv hK hP (ci := 5) (q0 := 0) rfl (WL_at (by decide) (cF_air _)), wPc_at hP hK hD hN⟩ rfl rfl hl.1 rfl (lv_room (Nat.le_of_ble_eq_true rfl)) dL_dropped_4 ⟨Nat.le_of_ble_eq_true rfl, Nat.le_of_ble_eq_true rfl⟩) hS hA (fun q h => h) (fun H locs hz hk hS => ?_)
  have hP := P_kept hP hk
  have hO := P_kept hO hk
  refine lv_i2l hx hb dL_dropped_7 rfl ?_
  refine x_last hx hb hK hP hO hD hoA hG hS dL_dropped_8 (fun H locs hP hO hS => ?_)
  refine lv_goto (tgt := 15) hx hb dL_dropped_9 (by decide) ?_
  refine lv_iconst (v := nI 0) hx hb dL_dropped_15 (by decide) ?_
  exact x_ret_g hx hb hr hlocks hP hO hS dL_dropped_16

set_option maxHeartbeats 1000000 in
set_option maxRecDepth 100000 in
theorem w_L_airtime (l : Launch) (D : va_G) (cI cS cZ cJ : ClassId) (G : Nat → Nat) (S : Mem) (o : Nat) (fo : Nat → Int64) (sz : Nat) (s1 : Nat) (h1 : s1 < 6) : Met l yL_airtime wsL_airtime ({ frames := 3, cells := 0, slots := 0, locals := 63 } : Room) (lPc D cI cS cZ cJ G S o fo sz [.ref (G 0), .int (nI s1), .ref o]) (lQ S ((f_X5_airtime S s1)).toInt64 D cI cS cJ G o fo sz) 0 0 (lA G o sz) := by
  refine x_metL (cc := cL_airtime) (maxL := 4) (ret := some .int) (hh := [(0, 9, 12, 13)]) (by decide) rfl (Nat.le_of_ble_eq_true rfl) ?_
  intro p e s m below meth c ls hx hb hr hml hts hown hlocks hsz hP hO hK hD hG hN hT hZ hC hl htab
  subst hsz
  have hown : s.vm.findClass RL = some m.cls := hown
  have hD : ∀ S' : Mem, va_D (lA G o s.heap.size) (WL 36 G (cF cI cS G) S') := fun S' => (hD S').weaken (fun _ _ _ h => Or.inl h)
  have hA : ∀ q : Nat, s.heap.size ≤ q → (lA G o s.heap.size) q := fun q h => Or.inl (Or.inr h)
  have hoA : (lA G o s.heap.size) o := Or.inr rfl
  have hl : lv_has ls 4 [(0, .ref (G 0)), (1, .int (nI s1)), (2, .ref o)] := hl
  have hS : va_S (lA G o s.heap.size) s.heap s.heap [] := va_S.rf
  refine lv_aload_n hx hb dL_airtime_0 rfl (lv_at hl 2 rfl) ?_
  refine lv_iconst (v := nI 0) hx hb dL_airtime_1 (by decide) ?_
  refine lv_aload_n hx hb dL_airtime_2 rfl (lv_at hl 0 rfl) ?_
  refine lv_iload_n hx hb dL_airtime_3 rfl (lv_at hl 1 rfl) ?_
  refine x_pi (va_runV (As := [.int (nI s1)]) (rest := [.int (nI 0), .ref o]) ⟨hx, hb, hml, hown, hts⟩ (c_X5_airtime l D cI cS cZ cJ G S s.heap.size s1 h1) (cwV 1 hts gL_airtime_X5_airtime rfl rfl rfl (by decide +kernel) ⟨Nat.le_of_ble_eq_true rfl, Nat.le_of_ble_eq_true rfl⟩) ⟨wPc_blind, va_recv hK hP (ci := 5) (q0 := 0) rfl (WL_at (by decide) (cF_air _)), wPc_at hP hK hD hN⟩ rfl rfl hl.1 rfl (lv_room (Nat.le_of_ble_eq_true rfl)) dL_airtime_4 ⟨Nat.le_of_ble_eq_true rfl, Nat.le_of_ble_eq_true rfl⟩) hS hA (fun q h => h) (fun H locs hz hk hS => ?_)
  have hP := P_kept hP hk
  have hO := P_kept hO hk
  refine lv_i2l hx hb dL_airtime_7 rfl ?_
  refine x_last hx hb hK hP hO hD hoA hG hS dL_airtime_8 (fun H locs hP hO hS => ?_)
  refine lv_goto (tgt := 15) hx hb dL_airtime_9 (by decide) ?_
  refine lv_iconst (v := nI 0) hx hb dL_airtime_15 (by decide) ?_
  exact x_ret_g hx hb hr hlocks hP hO hS dL_airtime_16

set_option maxHeartbeats 1000000 in
set_option maxRecDepth 100000 in
theorem w_L_airtimeBySendings (l : Launch) (D : va_G) (cI cS cZ cJ : ClassId) (G : Nat → Nat) (S : Mem) (o : Nat) (fo : Nat → Int64) (sz : Nat) (s1 : Nat) (h1 : s1 < 6) : Met l yL_airtimeBySendings wsL_airtimeBySendings ({ frames := 3, cells := 0, slots := 0, locals := 64 } : Room) (lPc D cI cS cZ cJ G S o fo sz [.ref (G 0), .int (nI s1), .ref o]) (lQ S ((f_X5_airtimeBySendings S s1)).toInt64 D cI cS cJ G o fo sz) 0 0 (lA G o sz) := by
  refine x_metL (cc := cL_airtimeBySendings) (maxL := 4) (ret := some .int) (hh := [(0, 9, 12, 13)]) (by decide) rfl (Nat.le_of_ble_eq_true rfl) ?_
  intro p e s m below meth c ls hx hb hr hml hts hown hlocks hsz hP hO hK hD hG hN hT hZ hC hl htab
  subst hsz
  have hown : s.vm.findClass RL = some m.cls := hown
  have hD : ∀ S' : Mem, va_D (lA G o s.heap.size) (WL 36 G (cF cI cS G) S') := fun S' => (hD S').weaken (fun _ _ _ h => Or.inl h)
  have hA : ∀ q : Nat, s.heap.size ≤ q → (lA G o s.heap.size) q := fun q h => Or.inl (Or.inr h)
  have hoA : (lA G o s.heap.size) o := Or.inr rfl
  have hl : lv_has ls 4 [(0, .ref (G 0)), (1, .int (nI s1)), (2, .ref o)] := hl
  have hS : va_S (lA G o s.heap.size) s.heap s.heap [] := va_S.rf
  refine lv_aload_n hx hb dL_airtimeBySendings_0 rfl (lv_at hl 2 rfl) ?_
  refine lv_iconst (v := nI 0) hx hb dL_airtimeBySendings_1 (by decide) ?_
  refine lv_aload_n hx hb dL_airtimeBySendings_2 rfl (lv_at hl 0 rfl) ?_
  refine lv_iload_n hx hb dL_airtimeBySendings_3 rfl (lv_at hl 1 rfl) ?_
  refine x_pi (va_runV (As := [.int (nI s1)]) (rest := [.int (nI 0), .ref o]) ⟨hx, hb, hml, hown, hts⟩ (c_X5_airtimeBySendings l D cI cS cZ cJ G S s.heap.size s1 h1) (cwV 1 hts gL_airtimeBySendings_X5_airtimeBySendings rfl rfl rfl (by decide +kernel) ⟨Nat.le_of_ble_eq_true rfl, Nat.le_of_ble_eq_true rfl⟩) ⟨wPc_blind, va_recv hK hP (ci := 5) (q0 := 0) rfl (WL_at (by decide) (cF_air _)), wPc_at hP hK hD hN⟩ rfl rfl hl.1 rfl (lv_room (Nat.le_of_ble_eq_true rfl)) dL_airtimeBySendings_4 ⟨Nat.le_of_ble_eq_true rfl, Nat.le_of_ble_eq_true rfl⟩) hS hA (fun q h => h) (fun H locs hz hk hS => ?_)
  have hP := P_kept hP hk
  have hO := P_kept hO hk
  refine lv_i2l hx hb dL_airtimeBySendings_7 rfl ?_
  refine x_last hx hb hK hP hO hD hoA hG hS dL_airtimeBySendings_8 (fun H locs hP hO hS => ?_)
  refine lv_goto (tgt := 15) hx hb dL_airtimeBySendings_9 (by decide) ?_
  refine lv_iconst (v := nI 0) hx hb dL_airtimeBySendings_15 (by decide) ?_
  exact x_ret_g hx hb hr hlocks hP hO hS dL_airtimeBySendings_16

set_option maxHeartbeats 1000000 in
set_option maxRecDepth 100000 in
theorem w_L_sends__ (l : Launch) (hfl : l.stackTraces = false) (D : va_G) (cI cS cZ cJ : ClassId) (G : Nat → Nat) (S : Mem) (o : Nat) (fo : Nat → Int64) (sz : Nat) (x : Int32) (hbad : ¬ x < 0 → nI 6 ≤ x) : Met l yL_sends wsL_sends ({ frames := 8, cells := 1, slots := 6, locals := 133 } : Room) (lPc D cI cS cZ cJ G S o fo sz [.ref (G 0), .int x, .ref o]) (pQi (nI 1) sz) 1 6 (fun q => sz ≤ q) := by
  refine x_metL (cc := cL_sends) (maxL := 4) (ret := some .int) (hh := [(0, 16, 19, 13)]) (by decide) rfl (Nat.le_of_ble_eq_true rfl) ?_
  intro p e s m below meth c ls hx hb hr hml hts hown hlocks hsz hP hO hK hD hG hN hT hZ hC hl htab
  subst hsz
  have hown : s.vm.findClass RL = some m.cls := hown
  have hA : ∀ q : Nat, s.heap.size ≤ q → (fun q => s.heap.size ≤ q) q := fun q h => h
  have hl : lv_has ls 4 [(0, .ref (G 0)), (1, .int x), (2, .ref o)] := hl
  have hS : va_S (fun q => s.heap.size ≤ q) s.heap s.heap [] := va_S.rf
  refine lv_aload_n hx hb dL_sends_0 rfl (lv_at hl 2 rfl) ?_
  refine lv_iconst (v := nI 0) hx hb dL_sends_1 (by decide) ?_
  refine lv_aload_n hx hb dL_sends_2 rfl (lv_at hl 0 rfl) ?_
  refine lv_iload_n hx hb dL_sends_3 rfl (lv_at hl 1 rfl) ?_
  refine x_thr (vx_runV (As := [.int x]) (rest := [.int (nI 0), .ref o]) ⟨hx, hb, hml, hown, hts⟩ (b_X5_sends l hfl D cI cS cZ cJ G S s.heap.size x hbad) (cwV 1 hts gL_sends_X5_sends rfl rfl rfl (by decide +kernel) ⟨Nat.le_of_ble_eq_true rfl, Nat.le_of_ble_eq_true rfl⟩) ⟨tPc_blind, va_recv hK hP (ci := 5) (q0 := 0) rfl (WL_at (by decide) (cF_air _)), tPc_at hP hK hD hN hT hZ hS⟩ rfl rfl hl.1 rfl (lv_room (Nat.le_of_ble_eq_true rfl)) dL_sends_4 ⟨Nat.le_of_ble_eq_true rfl, Nat.le_of_ble_eq_true rfl⟩) hS hA (fun q h => h) (fun ce q9 H locs hz hk hS hce hcv hcl => ?_)
  refine vx_catch (name := "java/lang/IndexOutOfBoundsException") hown [] ⟨0, 16, 19, 13⟩ [] htab (fun z h => absurd h List.not_mem_nil) (by decide) (by decide) (hts _ wl_sends_13) (isEx_use rfl (hT.1 (.castable "java/lang/IndexOutOfBoundsException" "java/lang/IndexOutOfBoundsException") (by decide +kernel))) hce hcv hcl ?_
  refine lv_astore_n (lv' := [(3, .ref q9), (0, .ref (G 0))]) hx hb dL_sends_19 rfl (lv_sub hl [0] rfl) (by decide) rfl (fun ls hl => ?_)
  refine lv_iconst (v := nI 1) hx hb dL_sends_20 (by decide) ?_
  exact x_ret_p hx hb hr rfl hlocks hS dL_sends_21 rfl

set_option maxHeartbeats 1000000 in
set_option maxRecDepth 100000 in
theorem w_L_waitOf__ (l : Launch) (hfl : l.stackTraces = false) (D : va_G) (cI cS cZ cJ : ClassId) (G : Nat → Nat) (S : Mem) (o : Nat) (fo : Nat → Int64) (sz : Nat) (x : Int32) (hbad : ¬ x < 0 → nI 6 ≤ x) : Met l yL_waitOf wsL_waitOf ({ frames := 8, cells := 1, slots := 6, locals := 133 } : Room) (lPc D cI cS cZ cJ G S o fo sz [.ref (G 0), .int x, .ref o]) (pQi (nI 1) sz) 1 6 (fun q => sz ≤ q) := by
  refine x_metL (cc := cL_waitOf) (maxL := 4) (ret := some .int) (hh := [(0, 9, 12, 13)]) (by decide) rfl (Nat.le_of_ble_eq_true rfl) ?_
  intro p e s m below meth c ls hx hb hr hml hts hown hlocks hsz hP hO hK hD hG hN hT hZ hC hl htab
  subst hsz
  have hown : s.vm.findClass RL = some m.cls := hown
  have hA : ∀ q : Nat, s.heap.size ≤ q → (fun q => s.heap.size ≤ q) q := fun q h => h
  have hl : lv_has ls 4 [(0, .ref (G 0)), (1, .int x), (2, .ref o)] := hl
  have hS : va_S (fun q => s.heap.size ≤ q) s.heap s.heap [] := va_S.rf
  refine lv_aload_n hx hb dL_waitOf_0 rfl (lv_at hl 2 rfl) ?_
  refine lv_iconst (v := nI 0) hx hb dL_waitOf_1 (by decide) ?_
  refine lv_aload_n hx hb dL_waitOf_2 rfl (lv_at hl 0 rfl) ?_
  refine lv_iload_n hx hb dL_waitOf_3 rfl (lv_at hl 1 rfl) ?_
  refine x_thr (vx_runV (As := [.int x]) (rest := [.int (nI 0), .ref o]) ⟨hx, hb, hml, hown, hts⟩ (b_X5_waitOf l hfl D cI cS cZ cJ G S s.heap.size x hbad) (cwV 1 hts gL_waitOf_X5_waitOf rfl rfl rfl (by decide +kernel) ⟨Nat.le_of_ble_eq_true rfl, Nat.le_of_ble_eq_true rfl⟩) ⟨tPc_blind, va_recv hK hP (ci := 5) (q0 := 0) rfl (WL_at (by decide) (cF_air _)), tPc_at hP hK hD hN hT hZ hS⟩ rfl rfl hl.1 rfl (lv_room (Nat.le_of_ble_eq_true rfl)) dL_waitOf_4 ⟨Nat.le_of_ble_eq_true rfl, Nat.le_of_ble_eq_true rfl⟩) hS hA (fun q h => h) (fun ce q9 H locs hz hk hS hce hcv hcl => ?_)
  refine vx_catch (name := "java/lang/IndexOutOfBoundsException") hown [] ⟨0, 9, 12, 13⟩ [] htab (fun z h => absurd h List.not_mem_nil) (by decide) (by decide) (hts _ wl_waitOf_13) (isEx_use rfl (hT.1 (.castable "java/lang/IndexOutOfBoundsException" "java/lang/IndexOutOfBoundsException") (by decide +kernel))) hce hcv hcl ?_
  refine lv_astore_n (lv' := [(3, .ref q9), (0, .ref (G 0))]) hx hb dL_waitOf_12 rfl (lv_sub hl [0] rfl) (by decide) rfl (fun ls hl => ?_)
  refine lv_iconst (v := nI 1) hx hb dL_waitOf_13 (by decide) ?_
  exact x_ret_p hx hb hr rfl hlocks hS dL_waitOf_14 rfl

set_option maxHeartbeats 1000000 in
set_option maxRecDepth 100000 in
theorem w_L_window__ (l : Launch) (hfl : l.stackTraces = false) (D : va_G) (cI cS cZ cJ : ClassId) (G : Nat → Nat) (S : Mem) (o : Nat) (fo : Nat → Int64) (sz : Nat) (x : Int32) (hbad : ¬ x < 0 → nI 6 ≤ x) : Met l yL_window wsL_window ({ frames := 8, cells := 1, slots := 6, locals := 133 } : Room) (lPc D cI cS cZ cJ G S o fo sz [.ref (G 0), .int x, .ref o]) (pQi (nI 1) sz) 1 6 (fun q => sz ≤ q) := by
  refine x_metL (cc := cL_window) (maxL := 4) (ret := some .int) (hh := [(0, 9, 12, 13)]) (by decide) rfl (Nat.le_of_ble_eq_true rfl) ?_
  intro p e s m below meth c ls hx hb hr hml hts hown hlocks hsz hP hO hK hD hG hN hT hZ hC hl htab
  subst hsz
  have hown : s.vm.findClass RL = some m.cls := hown
  have hA : ∀ q : Nat, s.heap.size ≤ q → (fun q => s.heap.size ≤ q) q := fun q h => h
  have hl : lv_has ls 4 [(0, .ref (G 0)), (1, .int x), (2, .ref o)] := hl
  have hS : va_S (fun q => s.heap.size ≤ q) s.heap s.heap [] := va_S.rf
  refine lv_aload_n hx hb dL_window_0 rfl (lv_at hl 2 rfl) ?_
  refine lv_iconst (v := nI 0) hx hb dL_window_1 (by decide) ?_
  refine lv_aload_n hx hb dL_window_2 rfl (lv_at hl 0 rfl) ?_
  refine lv_iload_n hx hb dL_window_3 rfl (lv_at hl 1 rfl) ?_
  refine x_thr (vx_runV (As := [.int x]) (rest := [.int (nI 0), .ref o]) ⟨hx, hb, hml, hown, hts⟩ (b_X5_window l hfl D cI cS cZ cJ G S s.heap.size x hbad) (cwV 1 hts gL_window_X5_window rfl rfl rfl (by decide +kernel) ⟨Nat.le_of_ble_eq_true rfl, Nat.le_of_ble_eq_true rfl⟩) ⟨tPc_blind, va_recv hK hP (ci := 5) (q0 := 0) rfl (WL_at (by decide) (cF_air _)), tPc_at hP hK hD hN hT hZ hS⟩ rfl rfl hl.1 rfl (lv_room (Nat.le_of_ble_eq_true rfl)) dL_window_4 ⟨Nat.le_of_ble_eq_true rfl, Nat.le_of_ble_eq_true rfl⟩) hS hA (fun q h => h) (fun ce q9 H locs hz hk hS hce hcv hcl => ?_)
  refine vx_catch (name := "java/lang/IndexOutOfBoundsException") hown [] ⟨0, 9, 12, 13⟩ [] htab (fun z h => absurd h List.not_mem_nil) (by decide) (by decide) (hts _ wl_window_13) (isEx_use rfl (hT.1 (.castable "java/lang/IndexOutOfBoundsException" "java/lang/IndexOutOfBoundsException") (by decide +kernel))) hce hcv hcl ?_
  refine lv_astore_n (lv' := [(3, .ref q9), (0, .ref (G 0))]) hx hb dL_window_12 rfl (lv_sub hl [0] rfl) (by decide) rfl (fun ls hl => ?_)
  refine lv_iconst (v := nI 1) hx hb dL_window_13 (by decide) ?_
  exact x_ret_p hx hb hr rfl hlocks hS dL_window_14 rfl

set_option maxHeartbeats 1000000 in
set_option maxRecDepth 100000 in
theorem w_L_failures__ (l : Launch) (hfl : l.stackTraces = false) (D : va_G) (cI cS cZ cJ : ClassId) (G : Nat → Nat) (S : Mem) (o : Nat) (fo : Nat → Int64) (sz : Nat) (x : Int32) (hbad : ¬ x < 0 → nI 6 ≤ x) : Met l yL_failures wsL_failures ({ frames := 8, cells := 1, slots := 6, locals := 133 } : Room) (lPc D cI cS cZ cJ G S o fo sz [.ref (G 0), .int x, .ref o]) (pQi (nI 1) sz) 1 6 (fun q => sz ≤ q) := by
  refine x_metL (cc := cL_failures) (maxL := 4) (ret := some .int) (hh := [(0, 9, 12, 13)]) (by decide) rfl (Nat.le_of_ble_eq_true rfl) ?_
  intro p e s m below meth c ls hx hb hr hml hts hown hlocks hsz hP hO hK hD hG hN hT hZ hC hl htab
  subst hsz
  have hown : s.vm.findClass RL = some m.cls := hown
  have hA : ∀ q : Nat, s.heap.size ≤ q → (fun q => s.heap.size ≤ q) q := fun q h => h
  have hl : lv_has ls 4 [(0, .ref (G 0)), (1, .int x), (2, .ref o)] := hl
  have hS : va_S (fun q => s.heap.size ≤ q) s.heap s.heap [] := va_S.rf
  refine lv_aload_n hx hb dL_failures_0 rfl (lv_at hl 2 rfl) ?_
  refine lv_iconst (v := nI 0) hx hb dL_failures_1 (by decide) ?_
  refine lv_aload_n hx hb dL_failures_2 rfl (lv_at hl 0 rfl) ?_
  refine lv_iload_n hx hb dL_failures_3 rfl (lv_at hl 1 rfl) ?_
  refine x_thr (vx_runV (As := [.int x]) (rest := [.int (nI 0), .ref o]) ⟨hx, hb, hml, hown, hts⟩ (b_X5_failures l hfl D cI cS cZ cJ G S s.heap.size x hbad) (cwV 1 hts gL_failures_X5_failures rfl rfl rfl (by decide +kernel) ⟨Nat.le_of_ble_eq_true rfl, Nat.le_of_ble_eq_true rfl⟩) ⟨tPc_blind, va_recv hK hP (ci := 5) (q0 := 0) rfl (WL_at (by decide) (cF_air _)), tPc_at hP hK hD hN hT hZ hS⟩ rfl rfl hl.1 rfl (lv_room (Nat.le_of_ble_eq_true rfl)) dL_failures_4 ⟨Nat.le_of_ble_eq_true rfl, Nat.le_of_ble_eq_true rfl⟩) hS hA (fun q h => h) (fun ce q9 H locs hz hk hS hce hcv hcl => ?_)
  refine vx_catch (name := "java/lang/IndexOutOfBoundsException") hown [] ⟨0, 9, 12, 13⟩ [] htab (fun z h => absurd h List.not_mem_nil) (by decide) (by decide) (hts _ wl_failures_13) (isEx_use rfl (hT.1 (.castable "java/lang/IndexOutOfBoundsException" "java/lang/IndexOutOfBoundsException") (by decide +kernel))) hce hcv hcl ?_
  refine lv_astore_n (lv' := [(3, .ref q9), (0, .ref (G 0))]) hx hb dL_failures_12 rfl (lv_sub hl [0] rfl) (by decide) rfl (fun ls hl => ?_)
  refine lv_iconst (v := nI 1) hx hb dL_failures_13 (by decide) ?_
  exact x_ret_p hx hb hr rfl hlocks hS dL_failures_14 rfl

set_option maxHeartbeats 1000000 in
set_option maxRecDepth 100000 in
theorem w_L_silencedTo__ (l : Launch) (hfl : l.stackTraces = false) (D : va_G) (cI cS cZ cJ : ClassId) (G : Nat → Nat) (S : Mem) (o : Nat) (fo : Nat → Int64) (sz : Nat) (x : Int32) (hbad : ¬ x < 0 → nI 6 ≤ x) : Met l yL_silencedTo wsL_silencedTo ({ frames := 8, cells := 1, slots := 6, locals := 133 } : Room) (lPc D cI cS cZ cJ G S o fo sz [.ref (G 0), .int x, .ref o]) (pQi (nI 1) sz) 1 6 (fun q => sz ≤ q) := by
  refine x_metL (cc := cL_silencedTo) (maxL := 4) (ret := some .int) (hh := [(0, 9, 12, 13)]) (by decide) rfl (Nat.le_of_ble_eq_true rfl) ?_
  intro p e s m below meth c ls hx hb hr hml hts hown hlocks hsz hP hO hK hD hG hN hT hZ hC hl htab
  subst hsz
  have hown : s.vm.findClass RL = some m.cls := hown
  have hA : ∀ q : Nat, s.heap.size ≤ q → (fun q => s.heap.size ≤ q) q := fun q h => h
  have hl : lv_has ls 4 [(0, .ref (G 0)), (1, .int x), (2, .ref o)] := hl
  have hS : va_S (fun q => s.heap.size ≤ q) s.heap s.heap [] := va_S.rf
  refine lv_aload_n hx hb dL_silencedTo_0 rfl (lv_at hl 2 rfl) ?_
  refine lv_iconst (v := nI 0) hx hb dL_silencedTo_1 (by decide) ?_
  refine lv_aload_n hx hb dL_silencedTo_2 rfl (lv_at hl 0 rfl) ?_
  refine lv_iload_n hx hb dL_silencedTo_3 rfl (lv_at hl 1 rfl) ?_
  refine x_thr (vx_runV (As := [.int x]) (rest := [.int (nI 0), .ref o]) ⟨hx, hb, hml, hown, hts⟩ (b_X5_silencedTo l hfl D cI cS cZ cJ G S s.heap.size x hbad) (cwV 1 hts gL_silencedTo_X5_silencedTo rfl rfl rfl (by decide +kernel) ⟨Nat.le_of_ble_eq_true rfl, Nat.le_of_ble_eq_true rfl⟩) ⟨tPc_blind, va_recv hK hP (ci := 5) (q0 := 0) rfl (WL_at (by decide) (cF_air _)), tPc_at hP hK hD hN hT hZ hS⟩ rfl rfl hl.1 rfl (lv_room (Nat.le_of_ble_eq_true rfl)) dL_silencedTo_4 ⟨Nat.le_of_ble_eq_true rfl, Nat.le_of_ble_eq_true rfl⟩) hS hA (fun q h => h) (fun ce q9 H locs hz hk hS hce hcv hcl => ?_)
  refine vx_catch (name := "java/lang/IndexOutOfBoundsException") hown [] ⟨0, 9, 12, 13⟩ [] htab (fun z h => absurd h List.not_mem_nil) (by decide) (by decide) (hts _ wl_silencedTo_13) (isEx_use rfl (hT.1 (.castable "java/lang/IndexOutOfBoundsException" "java/lang/IndexOutOfBoundsException") (by decide +kernel))) hce hcv hcl ?_
  refine lv_astore_n (lv' := [(3, .ref q9), (0, .ref (G 0))]) hx hb dL_silencedTo_12 rfl (lv_sub hl [0] rfl) (by decide) rfl (fun ls hl => ?_)
  refine lv_iconst (v := nI 1) hx hb dL_silencedTo_13 (by decide) ?_
  exact x_ret_p hx hb hr rfl hlocks hS dL_silencedTo_14 rfl

set_option maxHeartbeats 1000000 in
set_option maxRecDepth 100000 in
theorem w_L_frames__ (l : Launch) (hfl : l.stackTraces = false) (D : va_G) (cI cS cZ cJ : ClassId) (G : Nat → Nat) (S : Mem) (o : Nat) (fo : Nat → Int64) (sz : Nat) (x : Int32) (hbad : ¬ x < 0 → nI 6 ≤ x) : Met l yL_frames wsL_frames ({ frames := 8, cells := 1, slots := 6, locals := 133 } : Room) (lPc D cI cS cZ cJ G S o fo sz [.ref (G 0), .int x, .ref o]) (pQi (nI 1) sz) 1 6 (fun q => sz ≤ q) := by
  refine x_metL (cc := cL_frames) (maxL := 4) (ret := some .int) (hh := [(0, 9, 12, 13)]) (by decide) rfl (Nat.le_of_ble_eq_true rfl) ?_
  intro p e s m below meth c ls hx hb hr hml hts hown hlocks hsz hP hO hK hD hG hN hT hZ hC hl htab
  subst hsz
  have hown : s.vm.findClass RL = some m.cls := hown
  have hA : ∀ q : Nat, s.heap.size ≤ q → (fun q => s.heap.size ≤ q) q := fun q h => h
  have hl : lv_has ls 4 [(0, .ref (G 0)), (1, .int x), (2, .ref o)] := hl
  have hS : va_S (fun q => s.heap.size ≤ q) s.heap s.heap [] := va_S.rf
  refine lv_aload_n hx hb dL_frames_0 rfl (lv_at hl 2 rfl) ?_
  refine lv_iconst (v := nI 0) hx hb dL_frames_1 (by decide) ?_
  refine lv_aload_n hx hb dL_frames_2 rfl (lv_at hl 0 rfl) ?_
  refine lv_iload_n hx hb dL_frames_3 rfl (lv_at hl 1 rfl) ?_
  refine x_thr (vx_runV (As := [.int x]) (rest := [.int (nI 0), .ref o]) ⟨hx, hb, hml, hown, hts⟩ (b_X5_frames l hfl D cI cS cZ cJ G S s.heap.size x hbad) (cwV 1 hts gL_frames_X5_frames rfl rfl rfl (by decide +kernel) ⟨Nat.le_of_ble_eq_true rfl, Nat.le_of_ble_eq_true rfl⟩) ⟨tPc_blind, va_recv hK hP (ci := 5) (q0 := 0) rfl (WL_at (by decide) (cF_air _)), tPc_at hP hK hD hN hT hZ hS⟩ rfl rfl hl.1 rfl (lv_room (Nat.le_of_ble_eq_true rfl)) dL_frames_4 ⟨Nat.le_of_ble_eq_true rfl, Nat.le_of_ble_eq_true rfl⟩) hS hA (fun q h => h) (fun ce q9 H locs hz hk hS hce hcv hcl => ?_)
  refine vx_catch (name := "java/lang/IndexOutOfBoundsException") hown [] ⟨0, 9, 12, 13⟩ [] htab (fun z h => absurd h List.not_mem_nil) (by decide) (by decide) (hts _ wl_frames_13) (isEx_use rfl (hT.1 (.castable "java/lang/IndexOutOfBoundsException" "java/lang/IndexOutOfBoundsException") (by decide +kernel))) hce hcv hcl ?_
  refine lv_astore_n (lv' := [(3, .ref q9), (0, .ref (G 0))]) hx hb dL_frames_12 rfl (lv_sub hl [0] rfl) (by decide) rfl (fun ls hl => ?_)
  refine lv_iconst (v := nI 1) hx hb dL_frames_13 (by decide) ?_
  exact x_ret_p hx hb hr rfl hlocks hS dL_frames_14 rfl

set_option maxHeartbeats 1000000 in
set_option maxRecDepth 100000 in
theorem w_L_partsLeft__ (l : Launch) (hfl : l.stackTraces = false) (D : va_G) (cI cS cZ cJ : ClassId) (G : Nat → Nat) (S : Mem) (o : Nat) (fo : Nat → Int64) (sz : Nat) (x : Int32) (hbad : ¬ x < 0 → nI 6 ≤ x) : Met l yL_partsLeft wsL_partsLeft ({ frames := 8, cells := 1, slots := 6, locals := 133 } : Room) (lPc D cI cS cZ cJ G S o fo sz [.ref (G 0), .int x, .ref o]) (pQi (nI 1) sz) 1 6 (fun q => sz ≤ q) := by
  refine x_metL (cc := cL_partsLeft) (maxL := 4) (ret := some .int) (hh := [(0, 9, 12, 13)]) (by decide) rfl (Nat.le_of_ble_eq_true rfl) ?_
  intro p e s m below meth c ls hx hb hr hml hts hown hlocks hsz hP hO hK hD hG hN hT hZ hC hl htab
  subst hsz
  have hown : s.vm.findClass RL = some m.cls := hown
  have hA : ∀ q : Nat, s.heap.size ≤ q → (fun q => s.heap.size ≤ q) q := fun q h => h
  have hl : lv_has ls 4 [(0, .ref (G 0)), (1, .int x), (2, .ref o)] := hl
  have hS : va_S (fun q => s.heap.size ≤ q) s.heap s.heap [] := va_S.rf
  refine lv_aload_n hx hb dL_partsLeft_0 rfl (lv_at hl 2 rfl) ?_
  refine lv_iconst (v := nI 0) hx hb dL_partsLeft_1 (by decide) ?_
  refine lv_aload_n hx hb dL_partsLeft_2 rfl (lv_at hl 0 rfl) ?_
  refine lv_iload_n hx hb dL_partsLeft_3 rfl (lv_at hl 1 rfl) ?_
  refine x_thr (vx_runV (As := [.int x]) (rest := [.int (nI 0), .ref o]) ⟨hx, hb, hml, hown, hts⟩ (b_X5_partsLeft l hfl D cI cS cZ cJ G S s.heap.size x hbad) (cwV 1 hts gL_partsLeft_X5_partsLeft rfl rfl rfl (by decide +kernel) ⟨Nat.le_of_ble_eq_true rfl, Nat.le_of_ble_eq_true rfl⟩) ⟨tPc_blind, va_recv hK hP (ci := 5) (q0 := 0) rfl (WL_at (by decide) (cF_air _)), tPc_at hP hK hD hN hT hZ hS⟩ rfl rfl hl.1 rfl (lv_room (Nat.le_of_ble_eq_true rfl)) dL_partsLeft_4 ⟨Nat.le_of_ble_eq_true rfl, Nat.le_of_ble_eq_true rfl⟩) hS hA (fun q h => h) (fun ce q9 H locs hz hk hS hce hcv hcl => ?_)
  refine vx_catch (name := "java/lang/IndexOutOfBoundsException") hown [] ⟨0, 9, 12, 13⟩ [] htab (fun z h => absurd h List.not_mem_nil) (by decide) (by decide) (hts _ wl_partsLeft_13) (isEx_use rfl (hT.1 (.castable "java/lang/IndexOutOfBoundsException" "java/lang/IndexOutOfBoundsException") (by decide +kernel))) hce hcv hcl ?_
  refine lv_astore_n (lv' := [(3, .ref q9), (0, .ref (G 0))]) hx hb dL_partsLeft_12 rfl (lv_sub hl [0] rfl) (by decide) rfl (fun ls hl => ?_)
  refine lv_iconst (v := nI 1) hx hb dL_partsLeft_13 (by decide) ?_
  exact x_ret_p hx hb hr rfl hlocks hS dL_partsLeft_14 rfl

set_option maxHeartbeats 1000000 in
set_option maxRecDepth 100000 in
theorem w_L_delivered__ (l : Launch) (hfl : l.stackTraces = false) (D : va_G) (cI cS cZ cJ : ClassId) (G : Nat → Nat) (S : Mem) (o : Nat) (fo : Nat → Int64) (sz : Nat) (x : Int32) (hbad : ¬ x < 0 → nI 6 ≤ x) : Met l yL_delivered wsL_delivered ({ frames := 8, cells := 1, slots := 6, locals := 133 } : Room) (lPc D cI cS cZ cJ G S o fo sz [.ref (G 0), .int x, .ref o]) (pQi (nI 1) sz) 1 6 (fun q => sz ≤ q) := by
  refine x_metL (cc := cL_delivered) (maxL := 4) (ret := some .int) (hh := [(0, 9, 12, 13)]) (by decide) rfl (Nat.le_of_ble_eq_true rfl) ?_
  intro p e s m below meth c ls hx hb hr hml hts hown hlocks hsz hP hO hK hD hG hN hT hZ hC hl htab
  subst hsz
  have hown : s.vm.findClass RL = some m.cls := hown
  have hA : ∀ q : Nat, s.heap.size ≤ q → (fun q => s.heap.size ≤ q) q := fun q h => h
  have hl : lv_has ls 4 [(0, .ref (G 0)), (1, .int x), (2, .ref o)] := hl
  have hS : va_S (fun q => s.heap.size ≤ q) s.heap s.heap [] := va_S.rf
  refine lv_aload_n hx hb dL_delivered_0 rfl (lv_at hl 2 rfl) ?_
  refine lv_iconst (v := nI 0) hx hb dL_delivered_1 (by decide) ?_
  refine lv_aload_n hx hb dL_delivered_2 rfl (lv_at hl 0 rfl) ?_
  refine lv_iload_n hx hb dL_delivered_3 rfl (lv_at hl 1 rfl) ?_
  refine x_thr (vx_runV (As := [.int x]) (rest := [.int (nI 0), .ref o]) ⟨hx, hb, hml, hown, hts⟩ (b_X5_delivered l hfl D cI cS cZ cJ G S s.heap.size x hbad) (cwV 1 hts gL_delivered_X5_delivered rfl rfl rfl (by decide +kernel) ⟨Nat.le_of_ble_eq_true rfl, Nat.le_of_ble_eq_true rfl⟩) ⟨tPc_blind, va_recv hK hP (ci := 5) (q0 := 0) rfl (WL_at (by decide) (cF_air _)), tPc_at hP hK hD hN hT hZ hS⟩ rfl rfl hl.1 rfl (lv_room (Nat.le_of_ble_eq_true rfl)) dL_delivered_4 ⟨Nat.le_of_ble_eq_true rfl, Nat.le_of_ble_eq_true rfl⟩) hS hA (fun q h => h) (fun ce q9 H locs hz hk hS hce hcv hcl => ?_)
  refine vx_catch (name := "java/lang/IndexOutOfBoundsException") hown [] ⟨0, 9, 12, 13⟩ [] htab (fun z h => absurd h List.not_mem_nil) (by decide) (by decide) (hts _ wl_delivered_13) (isEx_use rfl (hT.1 (.castable "java/lang/IndexOutOfBoundsException" "java/lang/IndexOutOfBoundsException") (by decide +kernel))) hce hcv hcl ?_
  refine lv_astore_n (lv' := [(3, .ref q9), (0, .ref (G 0))]) hx hb dL_delivered_12 rfl (lv_sub hl [0] rfl) (by decide) rfl (fun ls hl => ?_)
  refine lv_iconst (v := nI 1) hx hb dL_delivered_13 (by decide) ?_
  exact x_ret_p hx hb hr rfl hlocks hS dL_delivered_14 rfl

set_option maxHeartbeats 1000000 in
set_option maxRecDepth 100000 in
theorem w_L_dropped__ (l : Launch) (hfl : l.stackTraces = false) (D : va_G) (cI cS cZ cJ : ClassId) (G : Nat → Nat) (S : Mem) (o : Nat) (fo : Nat → Int64) (sz : Nat) (x : Int32) (hbad : ¬ x < 0 → nI 6 ≤ x) : Met l yL_dropped wsL_dropped ({ frames := 8, cells := 1, slots := 6, locals := 133 } : Room) (lPc D cI cS cZ cJ G S o fo sz [.ref (G 0), .int x, .ref o]) (pQi (nI 1) sz) 1 6 (fun q => sz ≤ q) := by
  refine x_metL (cc := cL_dropped) (maxL := 4) (ret := some .int) (hh := [(0, 9, 12, 13)]) (by decide) rfl (Nat.le_of_ble_eq_true rfl) ?_
  intro p e s m below meth c ls hx hb hr hml hts hown hlocks hsz hP hO hK hD hG hN hT hZ hC hl htab
  subst hsz
  have hown : s.vm.findClass RL = some m.cls := hown
  have hA : ∀ q : Nat, s.heap.size ≤ q → (fun q => s.heap.size ≤ q) q := fun q h => h
  have hl : lv_has ls 4 [(0, .ref (G 0)), (1, .int x), (2, .ref o)] := hl
  have hS : va_S (fun q => s.heap.size ≤ q) s.heap s.heap [] := va_S.rf
  refine lv_aload_n hx hb dL_dropped_0 rfl (lv_at hl 2 rfl) ?_
  refine lv_iconst (v := nI 0) hx hb dL_dropped_1 (by decide) ?_
  refine lv_aload_n hx hb dL_dropped_2 rfl (lv_at hl 0 rfl) ?_
  refine lv_iload_n hx hb dL_dropped_3 rfl (lv_at hl 1 rfl) ?_
  refine x_thr (vx_runV (As := [.int x]) (rest := [.int (nI 0), .ref o]) ⟨hx, hb, hml, hown, hts⟩ (b_X5_dropped l hfl D cI cS cZ cJ G S s.heap.size x hbad) (cwV 1 hts gL_dropped_X5_dropped rfl rfl rfl (by decide +kernel) ⟨Nat.le_of_ble_eq_true rfl, Nat.le_of_ble_eq_true rfl⟩) ⟨tPc_blind, va_recv hK hP (ci := 5) (q0 := 0) rfl (WL_at (by decide) (cF_air _)), tPc_at hP hK hD hN hT hZ hS⟩ rfl rfl hl.1 rfl (lv_room (Nat.le_of_ble_eq_true rfl)) dL_dropped_4 ⟨Nat.le_of_ble_eq_true rfl, Nat.le_of_ble_eq_true rfl⟩) hS hA (fun q h => h) (fun ce q9 H locs hz hk hS hce hcv hcl => ?_)
  refine vx_catch (name := "java/lang/IndexOutOfBoundsException") hown [] ⟨0, 9, 12, 13⟩ [] htab (fun z h => absurd h List.not_mem_nil) (by decide) (by decide) (hts _ wl_dropped_13) (isEx_use rfl (hT.1 (.castable "java/lang/IndexOutOfBoundsException" "java/lang/IndexOutOfBoundsException") (by decide +kernel))) hce hcv hcl ?_
  refine lv_astore_n (lv' := [(3, .ref q9), (0, .ref (G 0))]) hx hb dL_dropped_12 rfl (lv_sub hl [0] rfl) (by decide) rfl (fun ls hl => ?_)
  refine lv_iconst (v := nI 1) hx hb dL_dropped_13 (by decide) ?_
  exact x_ret_p hx hb hr rfl hlocks hS dL_dropped_14 rfl

set_option maxHeartbeats 1000000 in
set_option maxRecDepth 100000 in
theorem w_L_airtime__ (l : Launch) (hfl : l.stackTraces = false) (D : va_G) (cI cS cZ cJ : ClassId) (G : Nat → Nat) (S : Mem) (o : Nat) (fo : Nat → Int64) (sz : Nat) (x : Int32) (hbad : ¬ x < 0 → nI 6 ≤ x) : Met l yL_airtime wsL_airtime ({ frames := 8, cells := 1, slots := 6, locals := 133 } : Room) (lPc D cI cS cZ cJ G S o fo sz [.ref (G 0), .int x, .ref o]) (pQi (nI 1) sz) 1 6 (fun q => sz ≤ q) := by
  refine x_metL (cc := cL_airtime) (maxL := 4) (ret := some .int) (hh := [(0, 9, 12, 13)]) (by decide) rfl (Nat.le_of_ble_eq_true rfl) ?_
  intro p e s m below meth c ls hx hb hr hml hts hown hlocks hsz hP hO hK hD hG hN hT hZ hC hl htab
  subst hsz
  have hown : s.vm.findClass RL = some m.cls := hown
  have hA : ∀ q : Nat, s.heap.size ≤ q → (fun q => s.heap.size ≤ q) q := fun q h => h
  have hl : lv_has ls 4 [(0, .ref (G 0)), (1, .int x), (2, .ref o)] := hl
  have hS : va_S (fun q => s.heap.size ≤ q) s.heap s.heap [] := va_S.rf
  refine lv_aload_n hx hb dL_airtime_0 rfl (lv_at hl 2 rfl) ?_
  refine lv_iconst (v := nI 0) hx hb dL_airtime_1 (by decide) ?_
  refine lv_aload_n hx hb dL_airtime_2 rfl (lv_at hl 0 rfl) ?_
  refine lv_iload_n hx hb dL_airtime_3 rfl (lv_at hl 1 rfl) ?_
  refine x_thr (vx_runV (As := [.int x]) (rest := [.int (nI 0), .ref o]) ⟨hx, hb, hml, hown, hts⟩ (b_X5_airtime l hfl D cI cS cZ cJ G S s.heap.size x hbad) (cwV 1 hts gL_airtime_X5_airtime rfl rfl rfl (by decide +kernel) ⟨Nat.le_of_ble_eq_true rfl, Nat.le_of_ble_eq_true rfl⟩) ⟨tPc_blind, va_recv hK hP (ci := 5) (q0 := 0) rfl (WL_at (by decide) (cF_air _)), tPc_at hP hK hD hN hT hZ hS⟩ rfl rfl hl.1 rfl (lv_room (Nat.le_of_ble_eq_true rfl)) dL_airtime_4 ⟨Nat.le_of_ble_eq_true rfl, Nat.le_of_ble_eq_true rfl⟩) hS hA (fun q h => h) (fun ce q9 H locs hz hk hS hce hcv hcl => ?_)
  refine vx_catch (name := "java/lang/IndexOutOfBoundsException") hown [] ⟨0, 9, 12, 13⟩ [] htab (fun z h => absurd h List.not_mem_nil) (by decide) (by decide) (hts _ wl_airtime_13) (isEx_use rfl (hT.1 (.castable "java/lang/IndexOutOfBoundsException" "java/lang/IndexOutOfBoundsException") (by decide +kernel))) hce hcv hcl ?_
  refine lv_astore_n (lv' := [(3, .ref q9), (0, .ref (G 0))]) hx hb dL_airtime_12 rfl (lv_sub hl [0] rfl) (by decide) rfl (fun ls hl => ?_)
  refine lv_iconst (v := nI 1) hx hb dL_airtime_13 (by decide) ?_
  exact x_ret_p hx hb hr rfl hlocks hS dL_airtime_14 rfl

set_option maxHeartbeats 1000000 in
set_option maxRecDepth 100000 in
theorem w_L_airtimeBySendings__ (l : Launch) (hfl : l.stackTraces = false) (D : va_G) (cI cS cZ cJ : ClassId) (G : Nat → Nat) (S : Mem) (o : Nat) (fo : Nat → Int64) (sz : Nat) (x : Int32) (hbad : ¬ x < 0 → nI 6 ≤ x) : Met l yL_airtimeBySendings wsL_airtimeBySendings ({ frames := 8, cells := 1, slots := 6, locals := 134 } : Room) (lPc D cI cS cZ cJ G S o fo sz [.ref (G 0), .int x, .ref o]) (pQi (nI 1) sz) 1 6 (fun q => sz ≤ q) := by
  refine x_metL (cc := cL_airtimeBySendings) (maxL := 4) (ret := some .int) (hh := [(0, 9, 12, 13)]) (by decide) rfl (Nat.le_of_ble_eq_true rfl) ?_
  intro p e s m below meth c ls hx hb hr hml hts hown hlocks hsz hP hO hK hD hG hN hT hZ hC hl htab
  subst hsz
  have hown : s.vm.findClass RL = some m.cls := hown
  have hA : ∀ q : Nat, s.heap.size ≤ q → (fun q => s.heap.size ≤ q) q := fun q h => h
  have hl : lv_has ls 4 [(0, .ref (G 0)), (1, .int x), (2, .ref o)] := hl
  have hS : va_S (fun q => s.heap.size ≤ q) s.heap s.heap [] := va_S.rf
  refine lv_aload_n hx hb dL_airtimeBySendings_0 rfl (lv_at hl 2 rfl) ?_
  refine lv_iconst (v := nI 0) hx hb dL_airtimeBySendings_1 (by decide) ?_
  refine lv_aload_n hx hb dL_airtimeBySendings_2 rfl (lv_at hl 0 rfl) ?_
  refine lv_iload_n hx hb dL_airtimeBySendings_3 rfl (lv_at hl 1 rfl) ?_
  refine x_thr (vx_runV (As := [.int x]) (rest := [.int (nI 0), .ref o]) ⟨hx, hb, hml, hown, hts⟩ (b_X5_airtimeBySendings l hfl D cI cS cZ cJ G S s.heap.size x hbad) (cwV 1 hts gL_airtimeBySendings_X5_airtimeBySendings rfl rfl rfl (by decide +kernel) ⟨Nat.le_of_ble_eq_true rfl, Nat.le_of_ble_eq_true rfl⟩) ⟨tPc_blind, va_recv hK hP (ci := 5) (q0 := 0) rfl (WL_at (by decide) (cF_air _)), tPc_at hP hK hD hN hT hZ hS⟩ rfl rfl hl.1 rfl (lv_room (Nat.le_of_ble_eq_true rfl)) dL_airtimeBySendings_4 ⟨Nat.le_of_ble_eq_true rfl, Nat.le_of_ble_eq_true rfl⟩) hS hA (fun q h => h) (fun ce q9 H locs hz hk hS hce hcv hcl => ?_)
  refine vx_catch (name := "java/lang/IndexOutOfBoundsException") hown [] ⟨0, 9, 12, 13⟩ [] htab (fun z h => absurd h List.not_mem_nil) (by decide) (by decide) (hts _ wl_airtimeBySendings_13) (isEx_use rfl (hT.1 (.castable "java/lang/IndexOutOfBoundsException" "java/lang/IndexOutOfBoundsException") (by decide +kernel))) hce hcv hcl ?_
  refine lv_astore_n (lv' := [(3, .ref q9), (0, .ref (G 0))]) hx hb dL_airtimeBySendings_12 rfl (lv_sub hl [0] rfl) (by decide) rfl (fun ls hl => ?_)
  refine lv_iconst (v := nI 1) hx hb dL_airtimeBySendings_13 (by decide) ?_
  exact x_ret_p hx hb hr rfl hlocks hS dL_airtimeBySendings_14 rfl

set_option maxHeartbeats 1000000 in
set_option maxRecDepth 100000 in
theorem w_L_setStrength__1 (l : Launch) (hfl : l.stackTraces = false) (D : va_G) (cI cS cZ cJ : ClassId) (G : Nat → Nat) (S : Mem) (o : Nat) (fo : Nat → Int64) (sz : Nat) (x : Int32) (y : Int32) (v : Int32) (hbad : ¬ x < 0 → nI 6 ≤ x) : Met l yL_setStrength wsL_setStrength ({ frames := 8, cells := 1, slots := 6, locals := 136 } : Room) (lPc D cI cS cZ cJ G S o fo sz [.ref (G 0), .int x, .int y, .int v, .ref o]) (pQi (nI 1) sz) 1 6 (fun q => sz ≤ q) := by
  refine x_metL (cc := cL_setStrength) (maxL := 6) (ret := some .int) (hh := [(0, 12, 15, 13), (0, 12, 19, 15)]) (by decide) rfl (Nat.le_of_ble_eq_true rfl) ?_
  intro p e s m below meth c ls hx hb hr hml hts hown hlocks hsz hP hO hK hD hG hN hT hZ hC hl htab
  subst hsz
  have hown : s.vm.findClass RL = some m.cls := hown
  have hA : ∀ q : Nat, s.heap.size ≤ q → (fun q => s.heap.size ≤ q) q := fun q h => h
  have hl : lv_has ls 6 [(0, .ref (G 0)), (1, .int x), (2, .int y), (3, .int v), (4, .ref o)] := hl
  have hS : va_S (fun q => s.heap.size ≤ q) s.heap s.heap [] := va_S.rf
  refine lv_aload hx hb dL_setStrength_0 (lv_at hl 4 rfl) ?_
  refine lv_iconst (v := nI 0) hx hb dL_setStrength_2 (by decide) ?_
  refine lv_aload_n hx hb dL_setStrength_3 rfl (lv_at hl 0 rfl) ?_
  refine lv_iload_n hx hb dL_setStrength_4 rfl (lv_at hl 1 rfl) ?_
  refine lv_iload_n hx hb dL_setStrength_5 rfl (lv_at hl 2 rfl) ?_
  refine lv_iload_n hx hb dL_setStrength_6 rfl (lv_at hl 3 rfl) ?_
  refine x_thr (vx_runV (As := [.int x, .int y, .int v]) (rest := [.int (nI 0), .ref o]) ⟨hx, hb, hml, hown, hts⟩ (b_X5_setStrength__1 l hfl D cI cS cZ cJ G S s.heap.size x y v hbad) (cwV 3 hts gL_setStrength_X5_setStrength rfl rfl rfl (by decide +kernel) ⟨Nat.le_of_ble_eq_true rfl, Nat.le_of_ble_eq_true rfl⟩) ⟨tPc_blind, va_recv hK hP (ci := 5) (q0 := 0) rfl (WL_at (by decide) (cF_air _)), tPc_at hP hK hD hN hT hZ hS⟩ rfl rfl hl.1 rfl (lv_room (Nat.le_of_ble_eq_true rfl)) dL_setStrength_7 ⟨Nat.le_of_ble_eq_true rfl, Nat.le_of_ble_eq_true rfl⟩) hS hA (fun q h => h) (fun ce q9 H locs hz hk hS hce hcv hcl => ?_)
  refine vx_catch (name := "java/lang/IndexOutOfBoundsException") hown [] ⟨0, 12, 15, 13⟩ [⟨0, 12, 19, 15⟩] htab (fun z h => absurd h List.not_mem_nil) (by decide) (by decide) (hts _ wl_setStrength_13) (isEx_use rfl (hT.1 (.castable "java/lang/IndexOutOfBoundsException" "java/lang/IndexOutOfBoundsException") (by decide +kernel))) hce hcv hcl ?_
  refine lv_astore (lv' := [(5, .ref q9), (0, .ref (G 0))]) hx hb dL_setStrength_15 (lv_sub hl [0] rfl) (by decide) rfl (fun ls hl => ?_)
  refine lv_iconst (v := nI 1) hx hb dL_setStrength_17 (by decide) ?_
  exact x_ret_p hx hb hr rfl hlocks hS dL_setStrength_18 rfl

set_option maxHeartbeats 1000000 in
set_option maxRecDepth 100000 in
theorem w_L_setStrength__2 (l : Launch) (hfl : l.stackTraces = false) (D : va_G) (cI cS cZ cJ : ClassId) (G : Nat → Nat) (S : Mem) (o : Nat) (fo : Nat → Int64) (sz : Nat) (a : Nat) (y : Int32) (v : Int32) (ha : a < 6) (hbad : ¬ y < 0 → nI 6 ≤ y) : Met l yL_setStrength wsL_setStrength ({ frames := 8, cells := 1, slots := 6, locals := 136 } : Room) (lPc D cI cS cZ cJ G S o fo sz [.ref (G 0), .int (nI a), .int y, .int v, .ref o]) (pQi (nI 1) sz) 1 6 (fun q => sz ≤ q) := by
  refine x_metL (cc := cL_setStrength) (maxL := 6) (ret := some .int) (hh := [(0, 12, 15, 13), (0, 12, 19, 15)]) (by decide) rfl (Nat.le_of_ble_eq_true rfl) ?_
  intro p e s m below meth c ls hx hb hr hml hts hown hlocks hsz hP hO hK hD hG hN hT hZ hC hl htab
  subst hsz
  have hown : s.vm.findClass RL = some m.cls := hown
  have hA : ∀ q : Nat, s.heap.size ≤ q → (fun q => s.heap.size ≤ q) q := fun q h => h
  have hl : lv_has ls 6 [(0, .ref (G 0)), (1, .int (nI a)), (2, .int y), (3, .int v), (4, .ref o)] := hl
  have hS : va_S (fun q => s.heap.size ≤ q) s.heap s.heap [] := va_S.rf
  refine lv_aload hx hb dL_setStrength_0 (lv_at hl 4 rfl) ?_
  refine lv_iconst (v := nI 0) hx hb dL_setStrength_2 (by decide) ?_
  refine lv_aload_n hx hb dL_setStrength_3 rfl (lv_at hl 0 rfl) ?_
  refine lv_iload_n hx hb dL_setStrength_4 rfl (lv_at hl 1 rfl) ?_
  refine lv_iload_n hx hb dL_setStrength_5 rfl (lv_at hl 2 rfl) ?_
  refine lv_iload_n hx hb dL_setStrength_6 rfl (lv_at hl 3 rfl) ?_
  refine x_thr (vx_runV (As := [.int (nI a), .int y, .int v]) (rest := [.int (nI 0), .ref o]) ⟨hx, hb, hml, hown, hts⟩ (b_X5_setStrength__2 l hfl D cI cS cZ cJ G S s.heap.size a y v ha hbad) (cwV 3 hts gL_setStrength_X5_setStrength rfl rfl rfl (by decide +kernel) ⟨Nat.le_of_ble_eq_true rfl, Nat.le_of_ble_eq_true rfl⟩) ⟨tPc_blind, va_recv hK hP (ci := 5) (q0 := 0) rfl (WL_at (by decide) (cF_air _)), tPc_at hP hK hD hN hT hZ hS⟩ rfl rfl hl.1 rfl (lv_room (Nat.le_of_ble_eq_true rfl)) dL_setStrength_7 ⟨Nat.le_of_ble_eq_true rfl, Nat.le_of_ble_eq_true rfl⟩) hS hA (fun q h => h) (fun ce q9 H locs hz hk hS hce hcv hcl => ?_)
  refine vx_catch (name := "java/lang/IndexOutOfBoundsException") hown [] ⟨0, 12, 15, 13⟩ [⟨0, 12, 19, 15⟩] htab (fun z h => absurd h List.not_mem_nil) (by decide) (by decide) (hts _ wl_setStrength_13) (isEx_use rfl (hT.1 (.castable "java/lang/IndexOutOfBoundsException" "java/lang/IndexOutOfBoundsException") (by decide +kernel))) hce hcv hcl ?_
  refine lv_astore (lv' := [(5, .ref q9), (0, .ref (G 0))]) hx hb dL_setStrength_15 (lv_sub hl [0] rfl) (by decide) rfl (fun ls hl => ?_)
  refine lv_iconst (v := nI 1) hx hb dL_setStrength_17 (by decide) ?_
  exact x_ret_p hx hb hr rfl hlocks hS dL_setStrength_18 rfl

set_option maxHeartbeats 1000000 in
set_option maxRecDepth 100000 in
theorem w_L_setStrength__3 (l : Launch) (hfl : l.stackTraces = false) (D : va_G) (cI cS cZ cJ : ClassId) (G : Nat → Nat) (S : Mem) (o : Nat) (fo : Nat → Int64) (sz : Nat) (a : Nat) (b : Nat) (v : Int32) (ha : a < 6) (hb6 : b < 6) (hbad : ¬ v < 0 → v ≤ nI 9 → nI a = nI b) : Met l yL_setStrength wsL_setStrength ({ frames := 7, cells := 1, slots := 6, locals := 114 } : Room) (lPc D cI cS cZ cJ G S o fo sz [.ref (G 0), .int (nI a), .int (nI b), .int v, .ref o]) (pQi (nI 2) sz) 1 6 (fun q => sz ≤ q) := by
  refine x_metL (cc := cL_setStrength) (maxL := 6) (ret := some .int) (hh := [(0, 12, 15, 13), (0, 12, 19, 15)]) (by decide) rfl (Nat.le_of_ble_eq_true rfl) ?_
  intro p e s m below meth c ls hx hb hr hml hts hown hlocks hsz hP hO hK hD hG hN hT hZ hC hl htab
  subst hsz
  have hown : s.vm.findClass RL = some m.cls := hown
  have hA : ∀ q : Nat, s.heap.size ≤ q → (fun q => s.heap.size ≤ q) q := fun q h => h
  have hl : lv_has ls 6 [(0, .ref (G 0)), (1, .int (nI a)), (2, .int (nI b)), (3, .int v), (4, .ref o)] := hl
  have hS : va_S (fun q => s.heap.size ≤ q) s.heap s.heap [] := va_S.rf
  refine lv_aload hx hb dL_setStrength_0 (lv_at hl 4 rfl) ?_
  refine lv_iconst (v := nI 0) hx hb dL_setStrength_2 (by decide) ?_
  refine lv_aload_n hx hb dL_setStrength_3 rfl (lv_at hl 0 rfl) ?_
  refine lv_iload_n hx hb dL_setStrength_4 rfl (lv_at hl 1 rfl) ?_
  refine lv_iload_n hx hb dL_setStrength_5 rfl (lv_at hl 2 rfl) ?_
  refine lv_iload_n hx hb dL_setStrength_6 rfl (lv_at hl 3 rfl) ?_
  refine x_thr (vx_runV (As := [.int (nI a), .int (nI b), .int v]) (rest := [.int (nI 0), .ref o]) ⟨hx, hb, hml, hown, hts⟩ (b_X5_setStrength__3 l hfl D cI cS cZ cJ G S s.heap.size a b v ha hb6 hbad) (cwV 3 hts gL_setStrength_X5_setStrength rfl rfl rfl (by decide +kernel) ⟨Nat.le_of_ble_eq_true rfl, Nat.le_of_ble_eq_true rfl⟩) ⟨tPc_blind, va_recv hK hP (ci := 5) (q0 := 0) rfl (WL_at (by decide) (cF_air _)), tPc_at hP hK hD hN hT hZ hS⟩ rfl rfl hl.1 rfl (lv_room (Nat.le_of_ble_eq_true rfl)) dL_setStrength_7 ⟨Nat.le_of_ble_eq_true rfl, Nat.le_of_ble_eq_true rfl⟩) hS hA (fun q h => h) (fun ce q9 H locs hz hk hS hce hcv hcl => ?_)
  refine vx_catch (name := "java/lang/IllegalArgumentException") hown [⟨0, 12, 15, 13⟩] ⟨0, 12, 19, 15⟩ [] htab (List.forall_mem_cons.mpr ⟨Or.inr ⟨by decide, _, hts _ wl_setStrength_13, hC.1⟩, (fun z h => absurd h List.not_mem_nil)⟩) (by decide) (by decide) (hts _ wl_setStrength_15) (isEx_use rfl (hT.1 (.castable "java/lang/IllegalArgumentException" "java/lang/IllegalArgumentException") (by decide +kernel))) hce hcv hcl ?_
  refine lv_astore (lv' := [(5, .ref q9), (0, .ref (G 0))]) hx hb dL_setStrength_19 (lv_sub hl [0] rfl) (by decide) rfl (fun ls hl => ?_)
  refine lv_iconst (v := nI 2) hx hb dL_setStrength_21 (by decide) ?_
  exact x_ret_p hx hb hr rfl hlocks hS dL_setStrength_22 rfl

set_option maxHeartbeats 1000000 in
set_option maxRecDepth 100000 in
theorem w_L_setClass__1 (l : Launch) (hfl : l.stackTraces = false) (D : va_G) (cI cS cZ cJ : ClassId) (G : Nat → Nat) (S : Mem) (o : Nat) (fo : Nat → Int64) (sz : Nat) (x : Int32) (y : Int32) (hbad : ¬ x < 0 → nI 6 ≤ x) : Met l yL_setClass wsL_setClass ({ frames := 8, cells := 1, slots := 6, locals := 136 } : Room) (lPc D cI cS cZ cJ G S o fo sz [.ref (G 0), .int x, .int y, .ref o]) (pQi (nI 1) sz) 1 6 (fun q => sz ≤ q) := by
  refine x_metL (cc := cL_setClass) (maxL := 5) (ret := some .int) (hh := [(0, 10, 13, 13), (0, 10, 17, 15)]) (by decide) rfl (Nat.le_of_ble_eq_true rfl) ?_
  intro p e s m below meth c ls hx hb hr hml hts hown hlocks hsz hP hO hK hD hG hN hT hZ hC hl htab
  subst hsz
  have hown : s.vm.findClass RL = some m.cls := hown
  have hA : ∀ q : Nat, s.heap.size ≤ q → (fun q => s.heap.size ≤ q) q := fun q h => h
  have hl : lv_has ls 5 [(0, .ref (G 0)), (1, .int x), (2, .int y), (3, .ref o)] := hl
  have hS : va_S (fun q => s.heap.size ≤ q) s.heap s.heap [] := va_S.rf
  refine lv_aload_n hx hb dL_setClass_0 rfl (lv_at hl 3 rfl) ?_
  refine lv_iconst (v := nI 0) hx hb dL_setClass_1 (by decide) ?_
  refine lv_aload_n hx hb dL_setClass_2 rfl (lv_at hl 0 rfl) ?_
  refine lv_iload_n hx hb dL_setClass_3 rfl (lv_at hl 1 rfl) ?_
  refine lv_iload_n hx hb dL_setClass_4 rfl (lv_at hl 2 rfl) ?_
  refine x_thr (vx_runV (As := [.int x, .int y]) (rest := [.int (nI 0), .ref o]) ⟨hx, hb, hml, hown, hts⟩ (b_X5_setClass__1 l hfl D cI cS cZ cJ G S s.heap.size x y hbad) (cwV 2 hts gL_setClass_X5_setClass rfl rfl rfl (by decide +kernel) ⟨Nat.le_of_ble_eq_true rfl, Nat.le_of_ble_eq_true rfl⟩) ⟨tPc_blind, va_recv hK hP (ci := 5) (q0 := 0) rfl (WL_at (by decide) (cF_air _)), tPc_at hP hK hD hN hT hZ hS⟩ rfl rfl hl.1 rfl (lv_room (Nat.le_of_ble_eq_true rfl)) dL_setClass_5 ⟨Nat.le_of_ble_eq_true rfl, Nat.le_of_ble_eq_true rfl⟩) hS hA (fun q h => h) (fun ce q9 H locs hz hk hS hce hcv hcl => ?_)
  refine vx_catch (name := "java/lang/IndexOutOfBoundsException") hown [] ⟨0, 10, 13, 13⟩ [⟨0, 10, 17, 15⟩] htab (fun z h => absurd h List.not_mem_nil) (by decide) (by decide) (hts _ wl_setClass_13) (isEx_use rfl (hT.1 (.castable "java/lang/IndexOutOfBoundsException" "java/lang/IndexOutOfBoundsException") (by decide +kernel))) hce hcv hcl ?_
  refine lv_astore (lv' := [(4, .ref q9), (0, .ref (G 0))]) hx hb dL_setClass_13 (lv_sub hl [0] rfl) (by decide) rfl (fun ls hl => ?_)
  refine lv_iconst (v := nI 1) hx hb dL_setClass_15 (by decide) ?_
  exact x_ret_p hx hb hr rfl hlocks hS dL_setClass_16 rfl

set_option maxHeartbeats 1000000 in
set_option maxRecDepth 100000 in
theorem w_L_setClass__2 (l : Launch) (hfl : l.stackTraces = false) (D : va_G) (cI cS cZ cJ : ClassId) (G : Nat → Nat) (S : Mem) (o : Nat) (fo : Nat → Int64) (sz : Nat) (a : Nat) (y : Int32) (ha : a < 6) (hbad : ¬ y < 0 → ¬ y ≤ nI 1) : Met l yL_setClass wsL_setClass ({ frames := 7, cells := 1, slots := 6, locals := 114 } : Room) (lPc D cI cS cZ cJ G S o fo sz [.ref (G 0), .int (nI a), .int y, .ref o]) (pQi (nI 2) sz) 1 6 (fun q => sz ≤ q) := by
  refine x_metL (cc := cL_setClass) (maxL := 5) (ret := some .int) (hh := [(0, 10, 13, 13), (0, 10, 17, 15)]) (by decide) rfl (Nat.le_of_ble_eq_true rfl) ?_
  intro p e s m below meth c ls hx hb hr hml hts hown hlocks hsz hP hO hK hD hG hN hT hZ hC hl htab
  subst hsz
  have hown : s.vm.findClass RL = some m.cls := hown
  have hA : ∀ q : Nat, s.heap.size ≤ q → (fun q => s.heap.size ≤ q) q := fun q h => h
  have hl : lv_has ls 5 [(0, .ref (G 0)), (1, .int (nI a)), (2, .int y), (3, .ref o)] := hl
  have hS : va_S (fun q => s.heap.size ≤ q) s.heap s.heap [] := va_S.rf
  refine lv_aload_n hx hb dL_setClass_0 rfl (lv_at hl 3 rfl) ?_
  refine lv_iconst (v := nI 0) hx hb dL_setClass_1 (by decide) ?_
  refine lv_aload_n hx hb dL_setClass_2 rfl (lv_at hl 0 rfl) ?_
  refine lv_iload_n hx hb dL_setClass_3 rfl (lv_at hl 1 rfl) ?_
  refine lv_iload_n hx hb dL_setClass_4 rfl (lv_at hl 2 rfl) ?_
  refine x_thr (vx_runV (As := [.int (nI a), .int y]) (rest := [.int (nI 0), .ref o]) ⟨hx, hb, hml, hown, hts⟩ (b_X5_setClass__2 l hfl D cI cS cZ cJ G S s.heap.size a y ha hbad) (cwV 2 hts gL_setClass_X5_setClass rfl rfl rfl (by decide +kernel) ⟨Nat.le_of_ble_eq_true rfl, Nat.le_of_ble_eq_true rfl⟩) ⟨tPc_blind, va_recv hK hP (ci := 5) (q0 := 0) rfl (WL_at (by decide) (cF_air _)), tPc_at hP hK hD hN hT hZ hS⟩ rfl rfl hl.1 rfl (lv_room (Nat.le_of_ble_eq_true rfl)) dL_setClass_5 ⟨Nat.le_of_ble_eq_true rfl, Nat.le_of_ble_eq_true rfl⟩) hS hA (fun q h => h) (fun ce q9 H locs hz hk hS hce hcv hcl => ?_)
  refine vx_catch (name := "java/lang/IllegalArgumentException") hown [⟨0, 10, 13, 13⟩] ⟨0, 10, 17, 15⟩ [] htab (List.forall_mem_cons.mpr ⟨Or.inr ⟨by decide, _, hts _ wl_setClass_13, hC.1⟩, (fun z h => absurd h List.not_mem_nil)⟩) (by decide) (by decide) (hts _ wl_setClass_15) (isEx_use rfl (hT.1 (.castable "java/lang/IllegalArgumentException" "java/lang/IllegalArgumentException") (by decide +kernel))) hce hcv hcl ?_
  refine lv_astore (lv' := [(4, .ref q9), (0, .ref (G 0))]) hx hb dL_setClass_17 (lv_sub hl [0] rfl) (by decide) rfl (fun ls hl => ?_)
  refine lv_iconst (v := nI 2) hx hb dL_setClass_19 (by decide) ?_
  exact x_ret_p hx hb hr rfl hlocks hS dL_setClass_20 rfl

set_option maxHeartbeats 1000000 in
set_option maxRecDepth 100000 in
theorem w_L_setReserve__1 (l : Launch) (hfl : l.stackTraces = false) (D : va_G) (cI cS cZ cJ : ClassId) (G : Nat → Nat) (S : Mem) (o : Nat) (fo : Nat → Int64) (sz : Nat) (x : Int32) (hbad : ¬ x < nI 1 → ¬ x ≤ nI 5) : Met l yL_setReserve wsL_setReserve ({ frames := 7, cells := 1, slots := 6, locals := 112 } : Room) (lPc D cI cS cZ cJ G S o fo sz [.ref (G 0), .int x, .ref o]) (pQi (nI 1) sz) 1 6 (fun q => sz ≤ q) := by
  refine x_metL (cc := cL_setReserve) (maxL := 4) (ret := some .int) (hh := [(0, 9, 12, 15)]) (by decide) rfl (Nat.le_of_ble_eq_true rfl) ?_
  intro p e s m below meth c ls hx hb hr hml hts hown hlocks hsz hP hO hK hD hG hN hT hZ hC hl htab
  subst hsz
  have hown : s.vm.findClass RL = some m.cls := hown
  have hA : ∀ q : Nat, s.heap.size ≤ q → (fun q => s.heap.size ≤ q) q := fun q h => h
  have hl : lv_has ls 4 [(0, .ref (G 0)), (1, .int x), (2, .ref o)] := hl
  have hS : va_S (fun q => s.heap.size ≤ q) s.heap s.heap [] := va_S.rf
  refine lv_aload_n hx hb dL_setReserve_0 rfl (lv_at hl 2 rfl) ?_
  refine lv_iconst (v := nI 0) hx hb dL_setReserve_1 (by decide) ?_
  refine lv_aload_n hx hb dL_setReserve_2 rfl (lv_at hl 0 rfl) ?_
  refine lv_iload_n hx hb dL_setReserve_3 rfl (lv_at hl 1 rfl) ?_
  refine x_thr (vx_runV (As := [.int x]) (rest := [.int (nI 0), .ref o]) ⟨hx, hb, hml, hown, hts⟩ (b_X5_setReserve__1 l hfl D cI cS cZ cJ G S s.heap.size x hbad) (cwV 1 hts gL_setReserve_X5_setReserve rfl rfl rfl (by decide +kernel) ⟨Nat.le_of_ble_eq_true rfl, Nat.le_of_ble_eq_true rfl⟩) ⟨tPc_blind, va_recv hK hP (ci := 5) (q0 := 0) rfl (WL_at (by decide) (cF_air _)), tPc_at hP hK hD hN hT hZ hS⟩ rfl rfl hl.1 rfl (lv_room (Nat.le_of_ble_eq_true rfl)) dL_setReserve_4 ⟨Nat.le_of_ble_eq_true rfl, Nat.le_of_ble_eq_true rfl⟩) hS hA (fun q h => h) (fun ce q9 H locs hz hk hS hce hcv hcl => ?_)
  refine vx_catch (name := "java/lang/IllegalArgumentException") hown [] ⟨0, 9, 12, 15⟩ [] htab (fun z h => absurd h List.not_mem_nil) (by decide) (by decide) (hts _ wl_setReserve_15) (isEx_use rfl (hT.1 (.castable "java/lang/IllegalArgumentException" "java/lang/IllegalArgumentException") (by decide +kernel))) hce hcv hcl ?_
  refine lv_astore_n (lv' := [(3, .ref q9), (0, .ref (G 0))]) hx hb dL_setReserve_12 rfl (lv_sub hl [0] rfl) (by decide) rfl (fun ls hl => ?_)
  refine lv_iconst (v := nI 1) hx hb dL_setReserve_13 (by decide) ?_
  exact x_ret_p hx hb hr rfl hlocks hS dL_setReserve_14 rfl

set_option maxHeartbeats 1000000 in
set_option maxRecDepth 100000 in
theorem w_L_tell__1 (l : Launch) (hfl : l.stackTraces = false) (D : va_G) (cI cS cZ cJ : ClassId) (G : Nat → Nat) (S : Mem) (o : Nat) (fo : Nat → Int64) (sz : Nat) (x : Int32) (hbad : ¬ x < 0 → ¬ x ≤ nI 1000) : Met l yL_tell wsL_tell ({ frames := 7, cells := 1, slots := 6, locals := 111 } : Room) (lPc D cI cS cZ cJ G S o fo sz [.ref (G 0), .int x, .ref o]) (pQi (nI 1) sz) 1 6 (fun q => sz ≤ q) := by
  refine x_metL (cc := cL_tell) (maxL := 4) (ret := some .int) (hh := [(0, 9, 12, 15), (0, 9, 15, 28)]) (by decide) rfl (Nat.le_of_ble_eq_true rfl) ?_
  intro p e s m below meth c ls hx hb hr hml hts hown hlocks hsz hP hO hK hD hG hN hT hZ hC hl htab
  subst hsz
  have hown : s.vm.findClass RL = some m.cls := hown
  have hA : ∀ q : Nat, s.heap.size ≤ q → (fun q => s.heap.size ≤ q) q := fun q h => h
  have hl : lv_has ls 4 [(0, .ref (G 0)), (1, .int x), (2, .ref o)] := hl
  have hS : va_S (fun q => s.heap.size ≤ q) s.heap s.heap [] := va_S.rf
  refine lv_aload_n hx hb dL_tell_0 rfl (lv_at hl 2 rfl) ?_
  refine lv_iconst (v := nI 0) hx hb dL_tell_1 (by decide) ?_
  refine lv_aload_n hx hb dL_tell_2 rfl (lv_at hl 0 rfl) ?_
  refine lv_iload_n hx hb dL_tell_3 rfl (lv_at hl 1 rfl) ?_
  refine x_thr (vx_runV (As := [.int x]) (rest := [.int (nI 0), .ref o]) ⟨hx, hb, hml, hown, hts⟩ (b_X5_tell__1 l hfl D cI cS cZ cJ G S s.heap.size x hbad) (cwV 1 hts gL_tell_X5_tell rfl rfl rfl (by decide +kernel) ⟨Nat.le_of_ble_eq_true rfl, Nat.le_of_ble_eq_true rfl⟩) ⟨tPc_blind, va_recv hK hP (ci := 5) (q0 := 0) rfl (WL_at (by decide) (cF_air _)), tPc_at hP hK hD hN hT hZ hS⟩ rfl rfl hl.1 rfl (lv_room (Nat.le_of_ble_eq_true rfl)) dL_tell_4 ⟨Nat.le_of_ble_eq_true rfl, Nat.le_of_ble_eq_true rfl⟩) hS hA (fun q h => h) (fun ce q9 H locs hz hk hS hce hcv hcl => ?_)
  refine vx_catch (name := "java/lang/IllegalArgumentException") hown [] ⟨0, 9, 12, 15⟩ [⟨0, 9, 15, 28⟩] htab (fun z h => absurd h List.not_mem_nil) (by decide) (by decide) (hts _ wl_tell_15) (isEx_use rfl (hT.1 (.castable "java/lang/IllegalArgumentException" "java/lang/IllegalArgumentException") (by decide +kernel))) hce hcv hcl ?_
  refine lv_astore_n (lv' := [(3, .ref q9), (0, .ref (G 0))]) hx hb dL_tell_12 rfl (lv_sub hl [0] rfl) (by decide) rfl (fun ls hl => ?_)
  refine lv_iconst (v := nI 1) hx hb dL_tell_13 (by decide) ?_
  exact x_ret_p hx hb hr rfl hlocks hS dL_tell_14 rfl

set_option maxHeartbeats 1000000 in
set_option maxRecDepth 100000 in
theorem w_L_tell__2 (l : Launch) (hfl : l.stackTraces = false) (D : va_G) (cI cS cZ cJ : ClassId) (G : Nat → Nat) (S : Mem) (o : Nat) (fo : Nat → Int64) (sz : Nat) (x : Int32) (h1 : ¬ x < 0) (h2 : x ≤ nI 1000) (hbad : ¬ S 4 1 < nI 200) : Met l yL_tell wsL_tell ({ frames := 7, cells := 1, slots := 6, locals := 111 } : Room) (lPc D cI cS cZ cJ G S o fo sz [.ref (G 0), .int x, .ref o]) (pQi (nI 2) sz) 1 6 (fun q => sz ≤ q) := by
  refine x_metL (cc := cL_tell) (maxL := 4) (ret := some .int) (hh := [(0, 9, 12, 15), (0, 9, 15, 28)]) (by decide) rfl (Nat.le_of_ble_eq_true rfl) ?_
  intro p e s m below meth c ls hx hb hr hml hts hown hlocks hsz hP hO hK hD hG hN hT hZ hC hl htab
  subst hsz
  have hown : s.vm.findClass RL = some m.cls := hown
  have hA : ∀ q : Nat, s.heap.size ≤ q → (fun q => s.heap.size ≤ q) q := fun q h => h
  have hl : lv_has ls 4 [(0, .ref (G 0)), (1, .int x), (2, .ref o)] := hl
  have hS : va_S (fun q => s.heap.size ≤ q) s.heap s.heap [] := va_S.rf
  refine lv_aload_n hx hb dL_tell_0 rfl (lv_at hl 2 rfl) ?_
  refine lv_iconst (v := nI 0) hx hb dL_tell_1 (by decide) ?_
  refine lv_aload_n hx hb dL_tell_2 rfl (lv_at hl 0 rfl) ?_
  refine lv_iload_n hx hb dL_tell_3 rfl (lv_at hl 1 rfl) ?_
  refine x_thr (vx_runV (As := [.int x]) (rest := [.int (nI 0), .ref o]) ⟨hx, hb, hml, hown, hts⟩ (b_X5_tell__2 l hfl D cI cS cZ cJ G S s.heap.size x h1 h2 hbad) (cwV 1 hts gL_tell_X5_tell rfl rfl rfl (by decide +kernel) ⟨Nat.le_of_ble_eq_true rfl, Nat.le_of_ble_eq_true rfl⟩) ⟨tPc_blind, va_recv hK hP (ci := 5) (q0 := 0) rfl (WL_at (by decide) (cF_air _)), tPc_at hP hK hD hN hT hZ hS⟩ rfl rfl hl.1 rfl (lv_room (Nat.le_of_ble_eq_true rfl)) dL_tell_4 ⟨Nat.le_of_ble_eq_true rfl, Nat.le_of_ble_eq_true rfl⟩) hS hA (fun q h => h) (fun ce q9 H locs hz hk hS hce hcv hcl => ?_)
  refine vx_catch (name := "java/lang/IllegalStateException") hown [⟨0, 9, 12, 15⟩] ⟨0, 9, 15, 28⟩ [] htab (List.forall_mem_cons.mpr ⟨Or.inr ⟨by decide, _, hts _ wl_tell_15, hC.2.2⟩, (fun z h => absurd h List.not_mem_nil)⟩) (by decide) (by decide) (hts _ wl_tell_28) (isEx_use rfl (hT.1 (.castable "java/lang/IllegalStateException" "java/lang/IllegalStateException") (by decide +kernel))) hce hcv hcl ?_
  refine lv_astore_n (lv' := [(3, .ref q9), (0, .ref (G 0))]) hx hb dL_tell_15 rfl (lv_sub hl [0] rfl) (by decide) rfl (fun ls hl => ?_)
  refine lv_iconst (v := nI 2) hx hb dL_tell_16 (by decide) ?_
  exact x_ret_p hx hb hr rfl hlocks hS dL_tell_17 rfl

set_option maxHeartbeats 1000000 in
set_option maxRecDepth 100000 in
theorem w_L_frame__1 (l : Launch) (hfl : l.stackTraces = false) (D : va_G) (cI cS cZ cJ : ClassId) (G : Nat → Nat) (S : Mem) (o : Nat) (fo : Nat → Int64) (sz : Nat) (x : Int32) (y : Int32) (v : Int32) (hbad : ¬ x < 0 → nI 6 ≤ x) : Met l yL_frame wsL_frame ({ frames := 8, cells := 1, slots := 6, locals := 136 } : Room) (lPc D cI cS cZ cJ G S o fo sz [.ref (G 0), .int x, .int y, .int v, .ref o]) (pQi (nI 1) sz) 1 6 (fun q => sz ≤ q) := by
  refine x_metL (cc := cL_frame) (maxL := 6) (ret := some .int) (hh := [(0, 12, 15, 13), (0, 12, 19, 15), (0, 12, 23, 28)]) (by decide) rfl (Nat.le_of_ble_eq_true rfl) ?_
  intro p e s m below meth c ls hx hb hr hml hts hown hlocks hsz hP hO hK hD hG hN hT hZ hC hl htab
  subst hsz
  have hown : s.vm.findClass RL = some m.cls := hown
  have hA : ∀ q : Nat, s.heap.size ≤ q → (fun q => s.heap.size ≤ q) q := fun q h => h
  have hl : lv_has ls 6 [(0, .ref (G 0)), (1, .int x), (2, .int y), (3, .int v), (4, .ref o)] := hl
  have hS : va_S (fun q => s.heap.size ≤ q) s.heap s.heap [] := va_S.rf
  refine lv_aload hx hb dL_frame_0 (lv_at hl 4 rfl) ?_
  refine lv_iconst (v := nI 0) hx hb dL_frame_2 (by decide) ?_
  refine lv_aload_n hx hb dL_frame_3 rfl (lv_at hl 0 rfl) ?_
  refine lv_iload_n hx hb dL_frame_4 rfl (lv_at hl 1 rfl) ?_
  refine lv_iload_n hx hb dL_frame_5 rfl (lv_at hl 2 rfl) ?_
  refine lv_iload_n hx hb dL_frame_6 rfl (lv_at hl 3 rfl) ?_
  refine x_thr (vx_runV (As := [.int x, .int y, .int v]) (rest := [.int (nI 0), .ref o]) ⟨hx, hb, hml, hown, hts⟩ (b_X5_frame__1 l hfl D cI cS cZ cJ G S s.heap.size x y v hbad) (cwV 3 hts gL_frame_X5_frame rfl rfl rfl (by decide +kernel) ⟨Nat.le_of_ble_eq_true rfl, Nat.le_of_ble_eq_true rfl⟩) ⟨tPc_blind, va_recv hK hP (ci := 5) (q0 := 0) rfl (WL_at (by decide) (cF_air _)), tPc_at hP hK hD hN hT hZ hS⟩ rfl rfl hl.1 rfl (lv_room (Nat.le_of_ble_eq_true rfl)) dL_frame_7 ⟨Nat.le_of_ble_eq_true rfl, Nat.le_of_ble_eq_true rfl⟩) hS hA (fun q h => h) (fun ce q9 H locs hz hk hS hce hcv hcl => ?_)
  refine vx_catch (name := "java/lang/IndexOutOfBoundsException") hown [] ⟨0, 12, 15, 13⟩ [⟨0, 12, 19, 15⟩, ⟨0, 12, 23, 28⟩] htab (fun z h => absurd h List.not_mem_nil) (by decide) (by decide) (hts _ wl_frame_13) (isEx_use rfl (hT.1 (.castable "java/lang/IndexOutOfBoundsException" "java/lang/IndexOutOfBoundsException") (by decide +kernel))) hce hcv hcl ?_
  refine lv_astore (lv' := [(5, .ref q9), (0, .ref (G 0))]) hx hb dL_frame_15 (lv_sub hl [0] rfl) (by decide) rfl (fun ls hl => ?_)
  refine lv_iconst (v := nI 1) hx hb dL_frame_17 (by decide) ?_
  exact x_ret_p hx hb hr rfl hlocks hS dL_frame_18 rfl

set_option maxHeartbeats 1000000 in
set_option maxRecDepth 100000 in
theorem w_L_frame__2 (l : Launch) (hfl : l.stackTraces = false) (D : va_G) (cI cS cZ cJ : ClassId) (G : Nat → Nat) (S : Mem) (o : Nat) (fo : Nat → Int64) (sz : Nat) (a : Nat) (y : Int32) (v : Int32) (ha : a < 6) (hbad : ¬ y < 0 → nI 6 ≤ y) : Met l yL_frame wsL_frame ({ frames := 8, cells := 1, slots := 6, locals := 136 } : Room) (lPc D cI cS cZ cJ G S o fo sz [.ref (G 0), .int (nI a), .int y, .int v, .ref o]) (pQi (nI 1) sz) 1 6 (fun q => sz ≤ q) := by
  refine x_metL (cc := cL_frame) (maxL := 6) (ret := some .int) (hh := [(0, 12, 15, 13), (0, 12, 19, 15), (0, 12, 23, 28)]) (by decide) rfl (Nat.le_of_ble_eq_true rfl) ?_
  intro p e s m below meth c ls hx hb hr hml hts hown hlocks hsz hP hO hK hD hG hN hT hZ hC hl htab
  subst hsz
  have hown : s.vm.findClass RL = some m.cls := hown
  have hA : ∀ q : Nat, s.heap.size ≤ q → (fun q => s.heap.size ≤ q) q := fun q h => h
  have hl : lv_has ls 6 [(0, .ref (G 0)), (1, .int (nI a)), (2, .int y), (3, .int v), (4, .ref o)] := hl
  have hS : va_S (fun q => s.heap.size ≤ q) s.heap s.heap [] := va_S.rf
  refine lv_aload hx hb dL_frame_0 (lv_at hl 4 rfl) ?_
  refine lv_iconst (v := nI 0) hx hb dL_frame_2 (by decide) ?_
  refine lv_aload_n hx hb dL_frame_3 rfl (lv_at hl 0 rfl) ?_
  refine lv_iload_n hx hb dL_frame_4 rfl (lv_at hl 1 rfl) ?_
  refine lv_iload_n hx hb dL_frame_5 rfl (lv_at hl 2 rfl) ?_
  refine lv_iload_n hx hb dL_frame_6 rfl (lv_at hl 3 rfl) ?_
  refine x_thr (vx_runV (As := [.int (nI a), .int y, .int v]) (rest := [.int (nI 0), .ref o]) ⟨hx, hb, hml, hown, hts⟩ (b_X5_frame__2 l hfl D cI cS cZ cJ G S s.heap.size a y v ha hbad) (cwV 3 hts gL_frame_X5_frame rfl rfl rfl (by decide +kernel) ⟨Nat.le_of_ble_eq_true rfl, Nat.le_of_ble_eq_true rfl⟩) ⟨tPc_blind, va_recv hK hP (ci := 5) (q0 := 0) rfl (WL_at (by decide) (cF_air _)), tPc_at hP hK hD hN hT hZ hS⟩ rfl rfl hl.1 rfl (lv_room (Nat.le_of_ble_eq_true rfl)) dL_frame_7 ⟨Nat.le_of_ble_eq_true rfl, Nat.le_of_ble_eq_true rfl⟩) hS hA (fun q h => h) (fun ce q9 H locs hz hk hS hce hcv hcl => ?_)
  refine vx_catch (name := "java/lang/IndexOutOfBoundsException") hown [] ⟨0, 12, 15, 13⟩ [⟨0, 12, 19, 15⟩, ⟨0, 12, 23, 28⟩] htab (fun z h => absurd h List.not_mem_nil) (by decide) (by decide) (hts _ wl_frame_13) (isEx_use rfl (hT.1 (.castable "java/lang/IndexOutOfBoundsException" "java/lang/IndexOutOfBoundsException") (by decide +kernel))) hce hcv hcl ?_
  refine lv_astore (lv' := [(5, .ref q9), (0, .ref (G 0))]) hx hb dL_frame_15 (lv_sub hl [0] rfl) (by decide) rfl (fun ls hl => ?_)
  refine lv_iconst (v := nI 1) hx hb dL_frame_17 (by decide) ?_
  exact x_ret_p hx hb hr rfl hlocks hS dL_frame_18 rfl

set_option maxHeartbeats 1000000 in
set_option maxRecDepth 100000 in
theorem w_L_frame__3 (l : Launch) (hfl : l.stackTraces = false) (D : va_G) (cI cS cZ cJ : ClassId) (G : Nat → Nat) (S : Mem) (o : Nat) (fo : Nat → Int64) (sz : Nat) (a : Nat) (b : Nat) (v : Int32) (ha : a < 6) (hb6 : b < 6) (hbad : ¬ v < nI 1 → v ≤ nI 4 → nI a = nI b) : Met l yL_frame wsL_frame ({ frames := 7, cells := 1, slots := 6, locals := 114 } : Room) (lPc D cI cS cZ cJ G S o fo sz [.ref (G 0), .int (nI a), .int (nI b), .int v, .ref o]) (pQi (nI 2) sz) 1 6 (fun q => sz ≤ q) := by
  refine x_metL (cc := cL_frame) (maxL := 6) (ret := some .int) (hh := [(0, 12, 15, 13), (0, 12, 19, 15), (0, 12, 23, 28)]) (by decide) rfl (Nat.le_of_ble_eq_true rfl) ?_
  intro p e s m below meth c ls hx hb hr hml hts hown hlocks hsz hP hO hK hD hG hN hT hZ hC hl htab
  subst hsz
  have hown : s.vm.findClass RL = some m.cls := hown
  have hA : ∀ q : Nat, s.heap.size ≤ q → (fun q => s.heap.size ≤ q) q := fun q h => h
  have hl : lv_has ls 6 [(0, .ref (G 0)), (1, .int (nI a)), (2, .int (nI b)), (3, .int v), (4, .ref o)] := hl
  have hS : va_S (fun q => s.heap.size ≤ q) s.heap s.heap [] := va_S.rf
  refine lv_aload hx hb dL_frame_0 (lv_at hl 4 rfl) ?_
  refine lv_iconst (v := nI 0) hx hb dL_frame_2 (by decide) ?_
  refine lv_aload_n hx hb dL_frame_3 rfl (lv_at hl 0 rfl) ?_
  refine lv_iload_n hx hb dL_frame_4 rfl (lv_at hl 1 rfl) ?_
  refine lv_iload_n hx hb dL_frame_5 rfl (lv_at hl 2 rfl) ?_
  refine lv_iload_n hx hb dL_frame_6 rfl (lv_at hl 3 rfl) ?_
  refine x_thr (vx_runV (As := [.int (nI a), .int (nI b), .int v]) (rest := [.int (nI 0), .ref o]) ⟨hx, hb, hml, hown, hts⟩ (b_X5_frame__3 l hfl D cI cS cZ cJ G S s.heap.size a b v ha hb6 hbad) (cwV 3 hts gL_frame_X5_frame rfl rfl rfl (by decide +kernel) ⟨Nat.le_of_ble_eq_true rfl, Nat.le_of_ble_eq_true rfl⟩) ⟨tPc_blind, va_recv hK hP (ci := 5) (q0 := 0) rfl (WL_at (by decide) (cF_air _)), tPc_at hP hK hD hN hT hZ hS⟩ rfl rfl hl.1 rfl (lv_room (Nat.le_of_ble_eq_true rfl)) dL_frame_7 ⟨Nat.le_of_ble_eq_true rfl, Nat.le_of_ble_eq_true rfl⟩) hS hA (fun q h => h) (fun ce q9 H locs hz hk hS hce hcv hcl => ?_)
  refine vx_catch (name := "java/lang/IllegalArgumentException") hown [⟨0, 12, 15, 13⟩] ⟨0, 12, 19, 15⟩ [⟨0, 12, 23, 28⟩] htab (List.forall_mem_cons.mpr ⟨Or.inr ⟨by decide, _, hts _ wl_frame_13, hC.1⟩, (fun z h => absurd h List.not_mem_nil)⟩) (by decide) (by decide) (hts _ wl_frame_15) (isEx_use rfl (hT.1 (.castable "java/lang/IllegalArgumentException" "java/lang/IllegalArgumentException") (by decide +kernel))) hce hcv hcl ?_
  refine lv_astore (lv' := [(5, .ref q9), (0, .ref (G 0))]) hx hb dL_frame_19 (lv_sub hl [0] rfl) (by decide) rfl (fun ls hl => ?_)
  refine lv_iconst (v := nI 2) hx hb dL_frame_21 (by decide) ?_
  exact x_ret_p hx hb hr rfl hlocks hS dL_frame_22 rfl

set_option maxHeartbeats 1000000 in
set_option maxRecDepth 100000 in
theorem w_L_frame__4 (l : Launch) (hfl : l.stackTraces = false) (D : va_G) (cI cS cZ cJ : ClassId) (G : Nat → Nat) (S : Mem) (o : Nat) (fo : Nat → Int64) (sz : Nat) (a : Nat) (b : Nat) (v : Int32) (ha : a < 6) (hb6 : b < 6) (h1 : ¬ v < nI 1) (h2 : v ≤ nI 4) (hne : ¬ nI a = nI b) (hbad : ¬ S (7 + 5 * a) 0 < nI 5) : Met l yL_frame wsL_frame ({ frames := 7, cells := 1, slots := 6, locals := 114 } : Room) (lPc D cI cS cZ cJ G S o fo sz [.ref (G 0), .int (nI a), .int (nI b), .int v, .ref o]) (pQi (nI 3) sz) 1 6 (fun q => sz ≤ q) := by
  refine x_metL (cc := cL_frame) (maxL := 6) (ret := some .int) (hh := [(0, 12, 15, 13), (0, 12, 19, 15), (0, 12, 23, 28)]) (by decide) rfl (Nat.le_of_ble_eq_true rfl) ?_
  intro p e s m below meth c ls hx hb hr hml hts hown hlocks hsz hP hO hK hD hG hN hT hZ hC hl htab
  subst hsz
  have hown : s.vm.findClass RL = some m.cls := hown
  have hA : ∀ q : Nat, s.heap.size ≤ q → (fun q => s.heap.size ≤ q) q := fun q h => h
  have hl : lv_has ls 6 [(0, .ref (G 0)), (1, .int (nI a)), (2, .int (nI b)), (3, .int v), (4, .ref o)] := hl
  have hS : va_S (fun q => s.heap.size ≤ q) s.heap s.heap [] := va_S.rf
  refine lv_aload hx hb dL_frame_0 (lv_at hl 4 rfl) ?_
  refine lv_iconst (v := nI 0) hx hb dL_frame_2 (by decide) ?_
  refine lv_aload_n hx hb dL_frame_3 rfl (lv_at hl 0 rfl) ?_
  refine lv_iload_n hx hb dL_frame_4 rfl (lv_at hl 1 rfl) ?_
  refine lv_iload_n hx hb dL_frame_5 rfl (lv_at hl 2 rfl) ?_
  refine lv_iload_n hx hb dL_frame_6 rfl (lv_at hl 3 rfl) ?_
  refine x_thr (vx_runV (As := [.int (nI a), .int (nI b), .int v]) (rest := [.int (nI 0), .ref o]) ⟨hx, hb, hml, hown, hts⟩ (b_X5_frame__4 l hfl D cI cS cZ cJ G S s.heap.size a b v ha hb6 h1 h2 hne hbad) (cwV 3 hts gL_frame_X5_frame rfl rfl rfl (by decide +kernel) ⟨Nat.le_of_ble_eq_true rfl, Nat.le_of_ble_eq_true rfl⟩) ⟨tPc_blind, va_recv hK hP (ci := 5) (q0 := 0) rfl (WL_at (by decide) (cF_air _)), tPc_at hP hK hD hN hT hZ hS⟩ rfl rfl hl.1 rfl (lv_room (Nat.le_of_ble_eq_true rfl)) dL_frame_7 ⟨Nat.le_of_ble_eq_true rfl, Nat.le_of_ble_eq_true rfl⟩) hS hA (fun q h => h) (fun ce q9 H locs hz hk hS hce hcv hcl => ?_)
  refine vx_catch (name := "java/lang/IllegalStateException") hown [⟨0, 12, 15, 13⟩, ⟨0, 12, 19, 15⟩] ⟨0, 12, 23, 28⟩ [] htab (List.forall_mem_cons.mpr ⟨Or.inr ⟨by decide, _, hts _ wl_frame_13, hC.2.1⟩, (List.forall_mem_cons.mpr ⟨Or.inr ⟨by decide, _, hts _ wl_frame_15, hC.2.2⟩, (fun z h => absurd h List.not_mem_nil)⟩)⟩) (by decide) (by decide) (hts _ wl_frame_28) (isEx_use rfl (hT.1 (.castable "java/lang/IllegalStateException" "java/lang/IllegalStateException") (by decide +kernel))) hce hcv hcl ?_
  refine lv_astore (lv' := [(5, .ref q9), (0, .ref (G 0))]) hx hb dL_frame_23 (lv_sub hl [0] rfl) (by decide) rfl (fun ls hl => ?_)
  refine lv_iconst (v := nI 3) hx hb dL_frame_25 (by decide) ?_
  exact x_ret_p hx hb hr rfl hlocks hS dL_frame_26 rfl

set_option maxHeartbeats 1000000 in
set_option maxRecDepth 100000 in
theorem w_L_pass__1 (l : Launch) (hfl : l.stackTraces = false) (D : va_G) (cI cS cZ cJ : ClassId) (G : Nat → Nat) (S : Mem) (o : Nat) (fo : Nat → Int64) (sz : Nat) (x : Int32) (hbad : ¬ x < nI 1 → ¬ x ≤ nI 50) : Met l yL_pass wsL_pass ({ frames := 7, cells := 1, slots := 6, locals := 113 } : Room) (lPc D cI cS cZ cJ G S o fo sz [.ref (G 0), .int x, .ref o]) (pQi (nI 1) sz) 1 6 (fun q => sz ≤ q) := by
  refine x_metL (cc := cL_pass) (maxL := 4) (ret := some .int) (hh := [(0, 9, 12, 15)]) (by decide) rfl (Nat.le_of_ble_eq_true rfl) ?_
  intro p e s m below meth c ls hx hb hr hml hts hown hlocks hsz hP hO hK hD hG hN hT hZ hC hl htab
  subst hsz
  have hown : s.vm.findClass RL = some m.cls := hown
  have hA : ∀ q : Nat, s.heap.size ≤ q → (fun q => s.heap.size ≤ q) q := fun q h => h
  have hl : lv_has ls 4 [(0, .ref (G 0)), (1, .int x), (2, .ref o)] := hl
  have hS : va_S (fun q => s.heap.size ≤ q) s.heap s.heap [] := va_S.rf
  refine lv_aload_n hx hb dL_pass_0 rfl (lv_at hl 2 rfl) ?_
  refine lv_iconst (v := nI 0) hx hb dL_pass_1 (by decide) ?_
  refine lv_aload_n hx hb dL_pass_2 rfl (lv_at hl 0 rfl) ?_
  refine lv_iload_n hx hb dL_pass_3 rfl (lv_at hl 1 rfl) ?_
  refine x_thr (vx_runV (As := [.int x]) (rest := [.int (nI 0), .ref o]) ⟨hx, hb, hml, hown, hts⟩ (b_X5_pass__1 l hfl D cI cS cZ cJ G S s.heap.size x hbad) (cwV 1 hts gL_pass_X5_pass rfl rfl rfl (by decide +kernel) ⟨Nat.le_of_ble_eq_true rfl, Nat.le_of_ble_eq_true rfl⟩) ⟨tPc_blind, va_recv hK hP (ci := 5) (q0 := 0) rfl (WL_at (by decide) (cF_air _)), tPc_at hP hK hD hN hT hZ hS⟩ rfl rfl hl.1 rfl (lv_room (Nat.le_of_ble_eq_true rfl)) dL_pass_4 ⟨Nat.le_of_ble_eq_true rfl, Nat.le_of_ble_eq_true rfl⟩) hS hA (fun q h => h) (fun ce q9 H locs hz hk hS hce hcv hcl => ?_)
  refine vx_catch (name := "java/lang/IllegalArgumentException") hown [] ⟨0, 9, 12, 15⟩ [] htab (fun z h => absurd h List.not_mem_nil) (by decide) (by decide) (hts _ wl_pass_15) (isEx_use rfl (hT.1 (.castable "java/lang/IllegalArgumentException" "java/lang/IllegalArgumentException") (by decide +kernel))) hce hcv hcl ?_
  refine lv_astore_n (lv' := [(3, .ref q9), (0, .ref (G 0))]) hx hb dL_pass_12 rfl (lv_sub hl [0] rfl) (by decide) rfl (fun ls hl => ?_)
  refine lv_iconst (v := nI 1) hx hb dL_pass_13 (by decide) ?_
  exact x_ret_p hx hb hr rfl hlocks hS dL_pass_14 rfl

