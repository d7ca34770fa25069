-- what a method that throws needs beside the world
def exNm : List String := ["java/lang/IndexOutOfBoundsException", "java/lang/IllegalArgumentException", "java/lang/IllegalStateException"]
def nms : List String := ["java/lang/RuntimeException", "java/lang/Exception"]
def exStr : List (Nat × String) := [(102, "slots is out of range"), (147, "no such station"), (43, "strength is out of range"), (48, "a station has no strength to itself"), (58, "no such class"), (70, "parts is out of range"), (72, "number is out of range"), (79, "200 numbers are left"), (90, "the goal is another station"), (97, "the station has 5 frames")]
def dcl (C : String) : Cond := .declares ⟨C, "<init>", "(Ljava/lang/String;)V"⟩
def exW (X : String) : List Cond := [dcl "java/lang/RuntimeException", dcl "java/lang/Exception", dcl "java/lang/Throwable", .castable X X]
def exAll : List Cond := exNm.flatMap exW
def isEx (w : Cond) : Bool := match w with
  | .declares _ => true
  | .castable _ _ => true
  | _ => false
theorem exAll_ok : exAll.all isEx = true := by decide +kernel
theorem isEx_same {w : Cond} (h : isEx w = true) {u U : State} (hv : u.vm = U.vm) (hZ : va_Nw w u) : va_Nw w U := by
  unfold isEx at h
  split at h
  · exact va_Nw.same rfl hv hZ
  · exact va_Nw.same rfl hv hZ
  · cases h
theorem isEx_warm {w : Cond} (h : isEx w = true) {s U : State} (hW : s.WarmedH U.vm) (hZ : va_Nw w s) : va_Nw w U := by
  unfold isEx at h
  split at h
  · exact va_Nw.warmD hW hZ
  · exact va_Nw.warmC hW hZ
  · cases h
theorem isEx_use {w : Cond} (h : isEx w = true) {A : Array Value} {U : State} (hZ : va_Nw w U) : w.before A U = true := by
  unfold isEx at h
  split at h
  · exact va_Nw.use rfl hZ
  · exact va_Nw.use rfl hZ
  · cases h
def TW (U : State) : Prop := (∀ w ∈ exAll, va_Nw w U) ∧ ∀ q ∈ exStr, ∃ sa : Nat, vk_R RX5 q.1 q.2 sa U
def ZQ (sz : Nat) (U : State) : Prop := vx_Zq Bundle.tN "UNASSIGNED_STACK" Bundle.steD (fun q => sz ≤ q) U U.heap ∧ vx_Zq Bundle.tN "SUPPRESSED_SENTINEL" Bundle.listD (fun q => sz ≤ q) U U.heap
theorem TW.same {u U : State} (hv : u.vm = U.vm) (h : TW u) : TW U := ⟨fun w hw => isEx_same (List.all_eq_true.mp exAll_ok w hw) hv (h.1 w hw), fun q hq => by obtain ⟨sa, hs⟩ := h.2 q hq; exact ⟨sa, vk_R.same hv.symm hs⟩⟩
theorem TW.warm {s U : State} (hW : s.WarmedH U.vm) (h : TW s) : TW U := ⟨fun w hw => isEx_warm (List.all_eq_true.mp exAll_ok w hw) hW (h.1 w hw), fun q hq => by obtain ⟨sa, hs⟩ := h.2 q hq; exact ⟨sa, vk_R.warm hW hs⟩⟩
theorem ZQ_at {s : State} {H : Heap} {locs : List Loc} (hZ : ZQ s.heap.size s) (hS : va_S (fun q => s.heap.size ≤ q) s.heap H locs) {U : State} (hU : U.heap = H) (hW : s.WarmedH U.vm) : ZQ H.size U := by
  have key : ∀ {C n d : String}, vx_Zq C n d (fun q => s.heap.size ≤ q) s s.heap → vx_Zq C n d (fun q => H.size ≤ q) U U.heap := by
    intro C n d h
    rw [hU]
    exact vx_Zq.narrow (vx_Zq.moved hW.alike (vx_Zq.kept h hS.2.1)) (fun q hq => Nat.le_trans hS.1 hq)
  exact ⟨key hZ.1, key hZ.2⟩
def tPc (n : Nat) (F : Nat → (Nat → Int32) → va_E) (D : va_G) (tys : List (ClassId × FieldType)) (G : Nat → Nat) (S : Mem) (sz : Nat) (av : List Value) : Array Value → State → Prop :=
  va_Pc av (fun U => U.heap.size = sz ∧ va_P D vwCl (WL n G F S) U.heap ∧ va_K D vwCl tys U ∧ va_D (fun _ => True) (WL n G F S) ∧ NW U ∧ TW U ∧ ZQ sz U)
theorem tPc_blind {n : Nat} {F : Nat → (Nat → Int32) → va_E} {D : va_G} {tys : List (ClassId × FieldType)} {G : Nat → Nat} {S : Mem} {sz : Nat} {av : List Value} : FrameBlind (tPc n F D tys G S sz av) := fun a U g mk q => by
  obtain ⟨q0, q1, qP, qK, qD, qN, qT, qZ⟩ := q
  exact ⟨q0, q1, qP, va_K.moved (u := U) (U := U.calling g mk a) (Vm.Alike.refl U.vm) qK, qD, NW.same (u := U) (U := U.calling g mk a) rfl qN, TW.same (u := U) (U := U.calling g mk a) rfl qT, ⟨vx_Zq.moved (u := U) (U := U.calling g mk a) (Vm.Alike.refl U.vm) qZ.1, vx_Zq.moved (u := U) (U := U.calling g mk a) (Vm.Alike.refl U.vm) qZ.2⟩⟩
theorem tPc_at {n : Nat} {F : Nat → (Nat → Int32) → va_E} {D : va_G} {tys : List (ClassId × FieldType)} {G : Nat → Nat} {S : Mem} {s : State} {H : Heap} {locs : List Loc} {av : List Value} (hP : va_P D vwCl (WL n G F S) H) (hK : va_K D vwCl tys s) {A : Nat → Prop} (hD : ∀ S' : Mem, va_D A (WL n G F S')) (hN : NW s) (hT : TW s) (hZ : ZQ s.heap.size s) (hS : va_S (fun q => s.heap.size ≤ q) s.heap H locs) : ∀ U : State, U.heap = H → s.WarmedH U.vm → tPc n F D tys G S H.size av av.toArray U := fun U hU hW =>
  ⟨rfl, by rw [hU], by rw [hU]; exact hP, va_K.moved hW.alike hK, (hD S).weaken (fun _ _ _ _ => trivial), NW.warm hW hN, TW.warm hW hT, ZQ_at hZ hS hU hW⟩
/-- it throws E0, nothing old is changed -/
def xX (E0 : String) (sz : Nat) : String → State → State → Prop := vx_X (fun (_ : Unit) => True) (fun E _ _ => E = E0) (fun q => sz ≤ q)
section XT
variable {p : Program} {l : Launch} {e : Env} {R : Room} {s : State} {m : MethodId} {args : Array Value} {below : List Frame} {meth : Method} {c : Code} {H : Heap} {locs : List Loc} {cells slots : Nat} {Q : State → Prop}
variable {cc : ByteArray} {pc : Nat} {ls : Array Slot} {rest st0 : List Value} {D : va_G} {A : Nat → Prop} {tys : List (ClassId × FieldType)} {n : Nat} {G : Nat → Nat} {F : Nat → (Nat → Int32) → va_E} {S : Mem}
theorem x_thr {E0 : String} {mc ms : Nat} {free : Addr → Prop} (hr : vx_Run p l e R s m args below meth c H locs cells slots mc ms (F0 m pc ls st0) rest (fun _ _ _ => False) (xX E0 H.size) free) (hS : va_S A s.heap H locs) (hA : ∀ q, s.heap.size ≤ q → A q) (hf : ∀ q, free q → H.size ≤ q)
    (kx : ∀ (ce : Cell) (q9 : Addr) (H1 : Heap) (locs1 : List Loc), H.size ≤ H1.size → (∀ q : Nat, q < H.size → H1[q]? = H[q]?) → va_S A s.heap H1 locs1 → H1[q9]? = some ce → ce.vm = .none → s.vm.findClass E0 = some ce.cls → vx_W p l e R s m args below meth c H1 locs1 (cells + mc) (slots + ms) Q (F0 m pc ls rest) q9) : W p l e R s m args below meth c H locs cells slots Q (F0 m pc ls st0) := by
  intro T hT X
  rcases hr T hT X with ⟨v, st₀, t, T', L, h0, X', hL, e1, e2, hF, st⟩ | ⟨q, st₀, t, T', L, E, ce, h0, X', hL, e1, e2, ⟨u, hp, hb, hF⟩, hce, hcv, hcl, st⟩
  · exact hF.elim
  · have hb : E = E0 := hb
    subst hb
    obtain ⟨k1, k2, k3⟩ := vx_keep (A1 := fun q => H.size ≤ q) h0 e1 hS (fun q h1 h2 => absurd h1 (Nat.not_lt.mpr h2)) (fun q h => hA q (Nat.le_trans hS.1 (hf q h))) hL hF
    obtain ⟨t2, a1, b1⟩ := kx ce q T'.heap (locs ++ L) k1 (fun q h => k2 q h (Nat.not_le.mpr h)) k3 (by rw [e1]; exact hce) hcv hcl T' rfl X'
    exact ⟨t2, st.trans a1, b1⟩
theorem x_metX {y : MethodName} {ws ws' : List Cond} {rm : Room} {av : List Value} {sz : Nat} {Qc : Array Value → State → Outcome → State → Prop} {XC : String → State → State → Prop} {mc ms : Nat} {free : Addr → Prop} {maxL : Nat} {ret : Option FieldType} (hy : plainName y.cls = true) (hw : ws = Cond.code y cc maxL ret :: ws') (hlen : (lg_sl av).length ≤ maxL)
    (body : ∀ (p : Program) (e : Env) (s : State) (m : MethodId) (below : List Frame) (meth : Method) (c : Code) (ls : Array Slot), p.tables.exec = Jvm.exec → c.code = cc → meth.sig.returnType = ret → c.maxLocals = maxL → (∀ w ∈ ws, w.before av.toArray s = true) → s.vm.findClass y.cls = some m.cls → meth.locks = false → s.heap.size = sz → va_P D vwCl (WL n G F S) s.heap → va_K D vwCl tys s → (∀ S' : Mem, va_D (fA n G s.heap.size) (WL n G F S')) → NW s → TW s → ZQ s.heap.size s → lv_has ls maxL (lv_args 0 av) → (∀ x ∈ c.exceptionTable.toList, False) →
      W p l e rm s m av.toArray below meth c s.heap [] 0 0 (vx_MQ below Qc XC av.toArray s mc ms free) (F0 m 0 ls [])) : vx_Met l y ws rm (tPc n F D tys G S sz av) Qc XC mc ms free := by
  refine vx_ofW (cc := cc) (maxL := maxL) (ret := ret) hy hw ?_
  intro p e s m args below meth c s₁ B hml ht hv
  obtain ⟨rfl, hsz, hP, hK, hD0, hN, hT, hZ⟩ := hv
  have hl := lv_entry av hlen
  rw [lg_entry_eq]
  exact body p e s m below meth c _ B.exec B.bytes B.returns hml (atoms_spec (ws := ws) B.pre) (findClass_of_methodNamed B.named) B.notSynchronized hsz hP hK (fun S' => WL_self hD0) hN hT (by rw [hsz]; exact hZ) hl ht
theorem x_throw (hexec : p.tables.exec = Jvm.exec) (hb : c.code = cc) (hfl : l.stackTraces = false) {cls text : String} {ik is ic : Nat} {Qc : Array Value → State → Outcome → State → Prop} (hown : s.vm.findClass RX5 = some m.cls) (hcls : Bundle.fit cls = true) (hk : (Cond.classLink RX5 ik cls).before args s = true) (hini : (Cond.initialized cls).before args s = true)
    (hstr : (is, text) ∈ exStr) (hX : cls ∈ exNm) (h1 : ∀ w ∈ (vx_atS RX5 ic cls nms).filter goodWord, w.before args s = true) (h2 : (vx_atS RX5 ic cls nms).filter (fun w => !goodWord w) = exW cls) (h3 : ∀ w ∈ vx_atS RX5 ic cls nms, vx_ot w = true) (h4 : vx_ot (.classLink RX5 ik cls) = true ∧ vx_ot (.initialized cls) = true)
    (hT : TW s) (hZ : ZQ s.heap.size s) (hS : va_S (fun q => s.heap.size ≤ q) s.heap H locs) (hsize : ls.size = c.maxLocals) (htb : ∀ x ∈ c.exceptionTable.toList, False)
    (d0 : decode cc pc = .ok (.new ik, 3)) (d3 : decode cc (pc + 3) = .ok (.dup, 1)) (d4 : decode cc (pc + 4) = .ok (.ldc is, 2)) (d6 : decode cc (pc + 6) = .ok (.invokespecial ic, 3)) (d9 : decode cc (pc + 9) = .ok (.athrow, 1)) (hlocks : meth.locks = false)
    (hRf : 5 < R.frames) (hRl : (rest.map fun v => v.category).sum + 82 ≤ R.locals) (hRc : 1 ≤ R.cells) (hRs : 6 ≤ R.slots) :
    W p l e R s m args below meth c H locs 0 0 (vx_MQ below Qc (xX cls s.heap.size) args s 1 6 (fun q => s.heap.size ≤ q)) (F0 m pc ls rest) := by
  obtain ⟨sa, hsa⟩ := hT.2 _ hstr
  exact vx_throwS (names := nms) hexec hb hfl hown hcls (by decide) hk hini hsa (vx_hat h1 (B := exW cls) (fun w h => by rw [h2] at h; exact h) (fun w h => have hm : w ∈ exAll := List.mem_flatMap.mpr ⟨cls, hX, h⟩; isEx_use (List.all_eq_true.mp exAll_ok w hm) (hT.1 w hm))) (List.forall_mem_cons.mpr ⟨h4.1, List.forall_mem_cons.mpr ⟨h4.2, h3⟩⟩) hZ.1 hZ.2 hS hsize d0 d3 d4 d6 d9 (fun x h => (htb x h).elim) hRf hRl hRc hRs hlocks
    (fun t _ hz hk => ⟨(), trivial, rfl, Nat.le_trans hS.1 hz, fun q h1 h2 => (hk q (Nat.lt_of_lt_of_le h1 hS.1)).trans (hS.2.1 q h1 h2)⟩) hS.2.2 (Nat.le_refl _) (Nat.le_refl _)
end XT
theorem ng_149 : (vx_atS RX5 149 "java/lang/IndexOutOfBoundsException" nms).filter (fun w => !goodWord w) = exW "java/lang/IndexOutOfBoundsException" := by decide +kernel
theorem ng_45 : (vx_atS RX5 45 "java/lang/IllegalArgumentException" nms).filter (fun w => !goodWord w) = exW "java/lang/IllegalArgumentException" := by decide +kernel
theorem ng_81 : (vx_atS RX5 81 "java/lang/IllegalStateException" nms).filter (fun w => !goodWord w) = exW "java/lang/IllegalStateException" := by decide +kernel
theorem gw_149 : ∀ w ∈ vx_atS RX5 149 "java/lang/IndexOutOfBoundsException" nms, vx_ot w = true := by decide +kernel
theorem gw_45 : ∀ w ∈ vx_atS RX5 45 "java/lang/IllegalArgumentException" nms, vx_ot w = true := by decide +kernel
theorem gw_81 : ∀ w ∈ vx_atS RX5 81 "java/lang/IllegalStateException" nms, vx_ot w = true := by decide +kernel

theorem lt_X5_stationAt_145 : Cond.classLink RX5 145 "java/lang/IndexOutOfBoundsException" ∈ wsX5_stationAt := by decide +kernel
theorem lu_X5_stationAt_145 : Cond.initialized "java/lang/IndexOutOfBoundsException" ∈ wsX5_stationAt := by decide +kernel
set_option maxHeartbeats 1000000 in
set_option maxRecDepth 100000 in
theorem b_X5_stationAt (l : Launch) (hfl : l.stackTraces = false) (D : va_G) (cI cS : ClassId) (G : Nat → Nat) (S : Mem) (sz : Nat) (x : Int32) (hbad : ¬ x < 0 → nI 6 ≤ x) : vx_Met l yX5_stationAt wsX5_stationAt ({ frames := 6, cells := 1, slots := 6, locals := 90 } : Room) (tPc 36 (cF cI cS G) D (tY cI cS) G S sz [.ref (G 0), .int x]) (fun _ _ _ _ => False) (xX "java/lang/IndexOutOfBoundsException" sz) 1 6 (fun q => sz ≤ q) := by
  refine x_metX (cc := cX5_stationAt) (maxL := 3) (ret := (some (.object "BackofficeAir$Station"))) (by decide) rfl (Nat.le_of_ble_eq_true rfl) ?_
  intro p e s m below meth c ls hx hb hr hml hts hown hlocks hsz hP hK hD hN hT hZ hl htb
  subst hsz
  have hown : s.vm.findClass RX5 = some m.cls := hown
  have hl : lv_has ls 3 [(0, .ref (G 0)), (1, .int x)] := hl
  have hA : ∀ q : Nat, s.heap.size ≤ q → (fun q => s.heap.size ≤ q) q := fun q h => h
  have hS : va_S (fun q => s.heap.size ≤ q) s.heap s.heap [] := va_S.rf
  refine lv_iload_n hx hb dX5_stationAt_0 rfl (lv_at hl 1 rfl) ?_
  refine lv_if_lt (tgt := 22) hx hb dX5_stationAt_1 (by decide) (fun c_1 => ?_) (fun c_1 => ?_)
  · refine lv_null hx hb dX5_stationAt_22 ?_
    refine lv_astore_nN (lv' := [(2, .null), (0, .ref (G 0)), (1, .int x)]) hx hb dX5_stationAt_23 rfl hl (by decide) rfl (fun ls hl => ?_)
    refine lv_aload_nN hx hb dX5_stationAt_24 rfl (lv_at hl 0 rfl) ?_
    refine lv_ifnonnullN hx hb dX5_stationAt_25 ?_
    exact x_throw (ik := 145) (is := 147) (ic := 149) (text := "no such station") hx hb hfl hown (by decide) (hts _ lt_X5_stationAt_145) (hts _ lu_X5_stationAt_145) (by decide) (by decide) (fun w h => hts w (List.mem_cons_of_mem _ (List.mem_append_right _ h))) ng_149 gw_149 (by decide +kernel) hT hZ hS (hl.1.trans hml.symm) htb dX5_stationAt_28 dX5_stationAt_31 dX5_stationAt_32 dX5_stationAt_34 dX5_stationAt_37 hlocks (Nat.le_of_ble_eq_true rfl) (Nat.le_of_ble_eq_true rfl) (Nat.le_of_ble_eq_true rfl) (Nat.le_of_ble_eq_true rfl)
  · refine lv_iload_n hx hb dX5_stationAt_4 rfl (lv_at hl 1 rfl) ?_
    refine lv_aload_n hx hb dX5_stationAt_5 rfl (lv_at hl 0 rfl) ?_
    refine x_get hx hb hts mm_X5_stationAt_X5 hown hK hP (0) (by decide) (cF_air _) rfl 0 (by decide) (hts _ lk_X5_stationAt_11) rfl rfl dX5_stationAt_6 ?_
    refine x_alen hx hb hK hP 1 1 (by decide) (cF_sts _) rfl dX5_stationAt_9 ?_
    refine lv_icmp_ge (tgt := 22) hx hb dX5_stationAt_10 (by decide) (fun _ => ?_) (fun c_2 => absurd (hbad c_1) c_2) 
    refine lv_null hx hb dX5_stationAt_22 ?_
    refine lv_astore_nN (lv' := [(2, .null), (0, .ref (G 0)), (1, .int x)]) hx hb dX5_stationAt_23 rfl hl (by decide) rfl (fun ls hl => ?_)
    refine lv_aload_nN hx hb dX5_stationAt_24 rfl (lv_at hl 0 rfl) ?_
    refine lv_ifnonnullN hx hb dX5_stationAt_25 ?_
    exact x_throw (ik := 145) (is := 147) (ic := 149) (text := "no such station") hx hb hfl hown (by decide) (hts _ lt_X5_stationAt_145) (hts _ lu_X5_stationAt_145) (by decide) (by decide) (fun w h => hts w (List.mem_cons_of_mem _ (List.mem_append_right _ h))) ng_149 gw_149 (by decide +kernel) hT hZ hS (hl.1.trans hml.symm) htb dX5_stationAt_28 dX5_stationAt_31 dX5_stationAt_32 dX5_stationAt_34 dX5_stationAt_37 hlocks (Nat.le_of_ble_eq_true rfl) (Nat.le_of_ble_eq_true rfl) (Nat.le_of_ble_eq_true rfl) (Nat.le_of_ble_eq_true rfl)

set_option maxHeartbeats 1000000 in
set_option maxRecDepth 100000 in
theorem b_X5_sends (l : Launch) (hfl : l.stackTraces = false) (D : va_G) (cI cS : ClassId) (G : Nat → Nat) (S : Mem) (sz : Nat) (x : Int32) (hbad : ¬ x < 0 → nI 6 ≤ x) : vx_Met l yX5_sends wsX5_sends ({ frames := 7, cells := 1, slots := 6, locals := 112 } : Room) (tPc 36 (cF cI cS G) D (tY cI cS) G S sz [.ref (G 0), .int x]) (fun _ _ _ _ => False) (xX "java/lang/IndexOutOfBoundsException" sz) 1 6 (fun q => sz ≤ q) := by
  refine x_metX (cc := cX5_sends) (maxL := 2) (ret := (some .boolean)) (by decide) rfl (Nat.le_of_ble_eq_true rfl) ?_
  intro p e s m below meth c ls hx hb hr hml hts hown hlocks hsz hP hK hD hN hT hZ hl htb
  subst hsz
  have hown : s.vm.findClass RX5 = some m.cls := hown
  have hl : lv_has ls 2 [(0, .ref (G 0)), (1, .int x)] := hl
  have hA : ∀ q : Nat, s.heap.size ≤ q → (fun q => s.heap.size ≤ q) q := fun q h => h
  have hS : va_S (fun q => s.heap.size ≤ q) s.heap s.heap [] := va_S.rf
  refine lv_aload_n hx hb dX5_sends_0 rfl (lv_at hl 0 rfl) ?_
  refine lv_iload_n hx hb dX5_sends_1 rfl (lv_at hl 1 rfl) ?_
  refine x_thr (vx_runV (As := [.int x]) (rest := []) ⟨hx, hb, hml, hown, hts⟩ (b_X5_stationAt l hfl D cI cS G S s.heap.size x hbad) (cwV 1 hts gX5_sends_X5_stationAt rfl rfl rfl (by decide +kernel) ⟨Nat.le_of_ble_eq_true rfl, Nat.le_of_ble_eq_true rfl⟩) ⟨tPc_blind, va_recv hK hP (ci := 5) (q0 := 0) rfl (WL_at (by decide) (cF_air _)), tPc_at hP hK hD hN hT hZ hS⟩ rfl rfl hl.1 rfl (lv_room (Nat.le_of_ble_eq_true rfl)) dX5_sends_2 ⟨Nat.le_of_ble_eq_true rfl, Nat.le_of_ble_eq_true rfl⟩) hS hA (fun q h => h) (fun ce q9 H locs hz hk hS hce hcv hcl => ?_)
  exact vx_out (fun x h => (htb x h).elim) hlocks hce hcv hcl (fun t ht _ => ⟨(), trivial, rfl, hS.F ht⟩) hS.2.2 (Nat.le_of_ble_eq_true rfl) (Nat.le_of_ble_eq_true rfl)

set_option maxHeartbeats 1000000 in
set_option maxRecDepth 100000 in
theorem b_X5_waitOf (l : Launch) (hfl : l.stackTraces = false) (D : va_G) (cI cS : ClassId) (G : Nat → Nat) (S : Mem) (sz : Nat) (x : Int32) (hbad : ¬ x < 0 → nI 6 ≤ x) : vx_Met l yX5_waitOf wsX5_waitOf ({ frames := 7, cells := 1, slots := 6, locals := 112 } : Room) (tPc 36 (cF cI cS G) D (tY cI cS) G S sz [.ref (G 0), .int x]) (fun _ _ _ _ => False) (xX "java/lang/IndexOutOfBoundsException" sz) 1 6 (fun q => sz ≤ q) := by
  refine x_metX (cc := cX5_waitOf) (maxL := 2) (ret := (some .int)) (by decide) rfl (Nat.le_of_ble_eq_true rfl) ?_
  intro p e s m below meth c ls hx hb hr hml hts hown hlocks hsz hP hK hD hN hT hZ hl htb
  subst hsz
  have hown : s.vm.findClass RX5 = some m.cls := hown
  have hl : lv_has ls 2 [(0, .ref (G 0)), (1, .int x)] := hl
  have hA : ∀ q : Nat, s.heap.size ≤ q → (fun q => s.heap.size ≤ q) q := fun q h => h
  have hS : va_S (fun q => s.heap.size ≤ q) s.heap s.heap [] := va_S.rf
  refine lv_aload_n hx hb dX5_waitOf_0 rfl (lv_at hl 0 rfl) ?_
  refine lv_iload_n hx hb dX5_waitOf_1 rfl (lv_at hl 1 rfl) ?_
  refine x_thr (vx_runV (As := [.int x]) (rest := []) ⟨hx, hb, hml, hown, hts⟩ (b_X5_stationAt l hfl D cI cS G S s.heap.size x hbad) (cwV 1 hts gX5_waitOf_X5_stationAt rfl rfl rfl (by decide +kernel) ⟨Nat.le_of_ble_eq_true rfl, Nat.le_of_ble_eq_true rfl⟩) ⟨tPc_blind, va_recv hK hP (ci := 5) (q0 := 0) rfl (WL_at (by decide) (cF_air _)), tPc_at hP hK hD hN hT hZ hS⟩ rfl rfl hl.1 rfl (lv_room (Nat.le_of_ble_eq_true rfl)) dX5_waitOf_2 ⟨Nat.le_of_ble_eq_true rfl, Nat.le_of_ble_eq_true rfl⟩) hS hA (fun q h => h) (fun ce q9 H locs hz hk hS hce hcv hcl => ?_)
  exact vx_out (fun x h => (htb x h).elim) hlocks hce hcv hcl (fun t ht _ => ⟨(), trivial, rfl, hS.F ht⟩) hS.2.2 (Nat.le_of_ble_eq_true rfl) (Nat.le_of_ble_eq_true rfl)

set_option maxHeartbeats 1000000 in
set_option maxRecDepth 100000 in
theorem b_X5_window (l : Launch) (hfl : l.stackTraces = false) (D : va_G) (cI cS : ClassId) (G : Nat → Nat) (S : Mem) (sz : Nat) (x : Int32) (hbad : ¬ x < 0 → nI 6 ≤ x) : vx_Met l yX5_window wsX5_window ({ frames := 7, cells := 1, slots := 6, locals := 112 } : Room) (tPc 36 (cF cI cS G) D (tY cI cS) G S sz [.ref (G 0), .int x]) (fun _ _ _ _ => False) (xX "java/lang/IndexOutOfBoundsException" sz) 1 6 (fun q => sz ≤ q) := by
  refine x_metX (cc := cX5_window) (maxL := 2) (ret := (some .int)) (by decide) rfl (Nat.le_of_ble_eq_true rfl) ?_
  intro p e s m below meth c ls hx hb hr hml hts hown hlocks hsz hP hK hD hN hT hZ hl htb
  subst hsz
  have hown : s.vm.findClass RX5 = some m.cls := hown
  have hl : lv_has ls 2 [(0, .ref (G 0)), (1, .int x)] := hl
  have hA : ∀ q : Nat, s.heap.size ≤ q → (fun q => s.heap.size ≤ q) q := fun q h => h
  have hS : va_S (fun q => s.heap.size ≤ q) s.heap s.heap [] := va_S.rf
  refine lv_aload_n hx hb dX5_window_0 rfl (lv_at hl 0 rfl) ?_
  refine lv_iload_n hx hb dX5_window_1 rfl (lv_at hl 1 rfl) ?_
  refine x_thr (vx_runV (As := [.int x]) (rest := []) ⟨hx, hb, hml, hown, hts⟩ (b_X5_stationAt l hfl D cI cS G S s.heap.size x hbad) (cwV 1 hts gX5_window_X5_stationAt rfl rfl rfl (by decide +kernel) ⟨Nat.le_of_ble_eq_true rfl, Nat.le_of_ble_eq_true rfl⟩) ⟨tPc_blind, va_recv hK hP (ci := 5) (q0 := 0) rfl (WL_at (by decide) (cF_air _)), tPc_at hP hK hD hN hT hZ hS⟩ rfl rfl hl.1 rfl (lv_room (Nat.le_of_ble_eq_true rfl)) dX5_window_2 ⟨Nat.le_of_ble_eq_true rfl, Nat.le_of_ble_eq_true rfl⟩) hS hA (fun q h => h) (fun ce q9 H locs hz hk hS hce hcv hcl => ?_)
  exact vx_out (fun x h => (htb x h).elim) hlocks hce hcv hcl (fun t ht _ => ⟨(), trivial, rfl, hS.F ht⟩) hS.2.2 (Nat.le_of_ble_eq_true rfl) (Nat.le_of_ble_eq_true rfl)

set_option maxHeartbeats 1000000 in
set_option maxRecDepth 100000 in
theorem b_X5_failures (l : Launch) (hfl : l.stackTraces = false) (D : va_G) (cI cS : ClassId) (G : Nat → Nat) (S : Mem) (sz : Nat) (x : Int32) (hbad : ¬ x < 0 → nI 6 ≤ x) : vx_Met l yX5_failures wsX5_failures ({ frames := 7, cells := 1, slots := 6, locals := 112 } : Room) (tPc 36 (cF cI cS G) D (tY cI cS) G S sz [.ref (G 0), .int x]) (fun _ _ _ _ => False) (xX "java/lang/IndexOutOfBoundsException" sz) 1 6 (fun q => sz ≤ q) := by
  refine x_metX (cc := cX5_failures) (maxL := 2) (ret := (some .int)) (by decide) rfl (Nat.le_of_ble_eq_true rfl) ?_
  intro p e s m below meth c ls hx hb hr hml hts hown hlocks hsz hP hK hD hN hT hZ hl htb
  subst hsz
  have hown : s.vm.findClass RX5 = some m.cls := hown
  have hl : lv_has ls 2 [(0, .ref (G 0)), (1, .int x)] := hl
  have hA : ∀ q : Nat, s.heap.size ≤ q → (fun q => s.heap.size ≤ q) q := fun q h => h
  have hS : va_S (fun q => s.heap.size ≤ q) s.heap s.heap [] := va_S.rf
  refine lv_aload_n hx hb dX5_failures_0 rfl (lv_at hl 0 rfl) ?_
  refine lv_iload_n hx hb dX5_failures_1 rfl (lv_at hl 1 rfl) ?_
  refine x_thr (vx_runV (As := [.int x]) (rest := []) ⟨hx, hb, hml, hown, hts⟩ (b_X5_stationAt l hfl D cI cS G S s.heap.size x hbad) (cwV 1 hts gX5_failures_X5_stationAt rfl rfl rfl (by decide +kernel) ⟨Nat.le_of_ble_eq_true rfl, Nat.le_of_ble_eq_true rfl⟩) ⟨tPc_blind, va_recv hK hP (ci := 5) (q0 := 0) rfl (WL_at (by decide) (cF_air _)), tPc_at hP hK hD hN hT hZ hS⟩ rfl rfl hl.1 rfl (lv_room (Nat.le_of_ble_eq_true rfl)) dX5_failures_2 ⟨Nat.le_of_ble_eq_true rfl, Nat.le_of_ble_eq_true rfl⟩) hS hA (fun q h => h) (fun ce q9 H locs hz hk hS hce hcv hcl => ?_)
  exact vx_out (fun x h => (htb x h).elim) hlocks hce hcv hcl (fun t ht _ => ⟨(), trivial, rfl, hS.F ht⟩) hS.2.2 (Nat.le_of_ble_eq_true rfl) (Nat.le_of_ble_eq_true rfl)

set_option maxHeartbeats 1000000 in
set_option maxRecDepth 100000 in
theorem b_X5_silencedTo (l : Launch) (hfl : l.stackTraces = false) (D : va_G) (cI cS : ClassId) (G : Nat → Nat) (S : Mem) (sz : Nat) (x : Int32) (hbad : ¬ x < 0 → nI 6 ≤ x) : vx_Met l yX5_silencedTo wsX5_silencedTo ({ frames := 7, cells := 1, slots := 6, locals := 112 } : Room) (tPc 36 (cF cI cS G) D (tY cI cS) G S sz [.ref (G 0), .int x]) (fun _ _ _ _ => False) (xX "java/lang/IndexOutOfBoundsException" sz) 1 6 (fun q => sz ≤ q) := by
  refine x_metX (cc := cX5_silencedTo) (maxL := 2) (ret := (some .int)) (by decide) rfl (Nat.le_of_ble_eq_true rfl) ?_
  intro p e s m below meth c ls hx hb hr hml hts hown hlocks hsz hP hK hD hN hT hZ hl htb
  subst hsz
  have hown : s.vm.findClass RX5 = some m.cls := hown
  have hl : lv_has ls 2 [(0, .ref (G 0)), (1, .int x)] := hl
  have hA : ∀ q : Nat, s.heap.size ≤ q → (fun q => s.heap.size ≤ q) q := fun q h => h
  have hS : va_S (fun q => s.heap.size ≤ q) s.heap s.heap [] := va_S.rf
  refine lv_aload_n hx hb dX5_silencedTo_0 rfl (lv_at hl 0 rfl) ?_
  refine lv_iload_n hx hb dX5_silencedTo_1 rfl (lv_at hl 1 rfl) ?_
  refine x_thr (vx_runV (As := [.int x]) (rest := []) ⟨hx, hb, hml, hown, hts⟩ (b_X5_stationAt l hfl D cI cS G S s.heap.size x hbad) (cwV 1 hts gX5_silencedTo_X5_stationAt rfl rfl rfl (by decide +kernel) ⟨Nat.le_of_ble_eq_true rfl, Nat.le_of_ble_eq_true rfl⟩) ⟨tPc_blind, va_recv hK hP (ci := 5) (q0 := 0) rfl (WL_at (by decide) (cF_air _)), tPc_at hP hK hD hN hT hZ hS⟩ rfl rfl hl.1 rfl (lv_room (Nat.le_of_ble_eq_true rfl)) dX5_silencedTo_2 ⟨Nat.le_of_ble_eq_true rfl, Nat.le_of_ble_eq_true rfl⟩) hS hA (fun q h => h) (fun ce q9 H locs hz hk hS hce hcv hcl => ?_)
  exact vx_out (fun x h => (htb x h).elim) hlocks hce hcv hcl (fun t ht _ => ⟨(), trivial, rfl, hS.F ht⟩) hS.2.2 (Nat.le_of_ble_eq_true rfl) (Nat.le_of_ble_eq_true rfl)

set_option maxHeartbeats 1000000 in
set_option maxRecDepth 100000 in
theorem b_X5_frames (l : Launch) (hfl : l.stackTraces = false) (D : va_G) (cI cS : ClassId) (G : Nat → Nat) (S : Mem) (sz : Nat) (x : Int32) (hbad : ¬ x < 0 → nI 6 ≤ x) : vx_Met l yX5_frames wsX5_frames ({ frames := 7, cells := 1, slots := 6, locals := 112 } : Room) (tPc 36 (cF cI cS G) D (tY cI cS) G S sz [.ref (G 0), .int x]) (fun _ _ _ _ => False) (xX "java/lang/IndexOutOfBoundsException" sz) 1 6 (fun q => sz ≤ q) := by
  refine x_metX (cc := cX5_frames) (maxL := 2) (ret := (some .int)) (by decide) rfl (Nat.le_of_ble_eq_true rfl) ?_
  intro p e s m below meth c ls hx hb hr hml hts hown hlocks hsz hP hK hD hN hT hZ hl htb
  subst hsz
  have hown : s.vm.findClass RX5 = some m.cls := hown
  have hl : lv_has ls 2 [(0, .ref (G 0)), (1, .int x)] := hl
  have hA : ∀ q : Nat, s.heap.size ≤ q → (fun q => s.heap.size ≤ q) q := fun q h => h
  have hS : va_S (fun q => s.heap.size ≤ q) s.heap s.heap [] := va_S.rf
  refine lv_aload_n hx hb dX5_frames_0 rfl (lv_at hl 0 rfl) ?_
  refine lv_iload_n hx hb dX5_frames_1 rfl (lv_at hl 1 rfl) ?_
  refine x_thr (vx_runV (As := [.int x]) (rest := []) ⟨hx, hb, hml, hown, hts⟩ (b_X5_stationAt l hfl D cI cS G S s.heap.size x hbad) (cwV 1 hts gX5_frames_X5_stationAt rfl rfl rfl (by decide +kernel) ⟨Nat.le_of_ble_eq_true rfl, Nat.le_of_ble_eq_true rfl⟩) ⟨tPc_blind, va_recv hK hP (ci := 5) (q0 := 0) rfl (WL_at (by decide) (cF_air _)), tPc_at hP hK hD hN hT hZ hS⟩ rfl rfl hl.1 rfl (lv_room (Nat.le_of_ble_eq_true rfl)) dX5_frames_2 ⟨Nat.le_of_ble_eq_true rfl, Nat.le_of_ble_eq_true rfl⟩) hS hA (fun q h => h) (fun ce q9 H locs hz hk hS hce hcv hcl => ?_)
  exact vx_out (fun x h => (htb x h).elim) hlocks hce hcv hcl (fun t ht _ => ⟨(), trivial, rfl, hS.F ht⟩) hS.2.2 (Nat.le_of_ble_eq_true rfl) (Nat.le_of_ble_eq_true rfl)

set_option maxHeartbeats 1000000 in
set_option maxRecDepth 100000 in
theorem b_X5_partsLeft (l : Launch) (hfl : l.stackTraces = false) (D : va_G) (cI cS : ClassId) (G : Nat → Nat) (S : Mem) (sz : Nat) (x : Int32) (hbad : ¬ x < 0 → nI 6 ≤ x) : vx_Met l yX5_partsLeft wsX5_partsLeft ({ frames := 7, cells := 1, slots := 6, locals := 112 } : Room) (tPc 36 (cF cI cS G) D (tY cI cS) G S sz [.ref (G 0), .int x]) (fun _ _ _ _ => False) (xX "java/lang/IndexOutOfBoundsException" sz) 1 6 (fun q => sz ≤ q) := by
  refine x_metX (cc := cX5_partsLeft) (maxL := 2) (ret := (some .int)) (by decide) rfl (Nat.le_of_ble_eq_true rfl) ?_
  intro p e s m below meth c ls hx hb hr hml hts hown hlocks hsz hP hK hD hN hT hZ hl htb
  subst hsz
  have hown : s.vm.findClass RX5 = some m.cls := hown
  have hl : lv_has ls 2 [(0, .ref (G 0)), (1, .int x)] := hl
  have hA : ∀ q : Nat, s.heap.size ≤ q → (fun q => s.heap.size ≤ q) q := fun q h => h
  have hS : va_S (fun q => s.heap.size ≤ q) s.heap s.heap [] := va_S.rf
  refine lv_aload_n hx hb dX5_partsLeft_0 rfl (lv_at hl 0 rfl) ?_
  refine lv_iload_n hx hb dX5_partsLeft_1 rfl (lv_at hl 1 rfl) ?_
  refine x_thr (vx_runV (As := [.int x]) (rest := []) ⟨hx, hb, hml, hown, hts⟩ (b_X5_stationAt l hfl D cI cS G S s.heap.size x hbad) (cwV 1 hts gX5_partsLeft_X5_stationAt rfl rfl rfl (by decide +kernel) ⟨Nat.le_of_ble_eq_true rfl, Nat.le_of_ble_eq_true rfl⟩) ⟨tPc_blind, va_recv hK hP (ci := 5) (q0 := 0) rfl (WL_at (by decide) (cF_air _)), tPc_at hP hK hD hN hT hZ hS⟩ rfl rfl hl.1 rfl (lv_room (Nat.le_of_ble_eq_true rfl)) dX5_partsLeft_2 ⟨Nat.le_of_ble_eq_true rfl, Nat.le_of_ble_eq_true rfl⟩) hS hA (fun q h => h) (fun ce q9 H locs hz hk hS hce hcv hcl => ?_)
  exact vx_out (fun x h => (htb x h).elim) hlocks hce hcv hcl (fun t ht _ => ⟨(), trivial, rfl, hS.F ht⟩) hS.2.2 (Nat.le_of_ble_eq_true rfl) (Nat.le_of_ble_eq_true rfl)

set_option maxHeartbeats 1000000 in
set_option maxRecDepth 100000 in
theorem b_X5_delivered (l : Launch) (hfl : l.stackTraces = false) (D : va_G) (cI cS : ClassId) (G : Nat → Nat) (S : Mem) (sz : Nat) (x : Int32) (hbad : ¬ x < 0 → nI 6 ≤ x) : vx_Met l yX5_delivered wsX5_delivered ({ frames := 7, cells := 1, slots := 6, locals := 112 } : Room) (tPc 36 (cF cI cS G) D (tY cI cS) G S sz [.ref (G 0), .int x]) (fun _ _ _ _ => False) (xX "java/lang/IndexOutOfBoundsException" sz) 1 6 (fun q => sz ≤ q) := by
  refine x_metX (cc := cX5_delivered) (maxL := 2) (ret := (some .int)) (by decide) rfl (Nat.le_of_ble_eq_true rfl) ?_
  intro p e s m below meth c ls hx hb hr hml hts hown hlocks hsz hP hK hD hN hT hZ hl htb
  subst hsz
  have hown : s.vm.findClass RX5 = some m.cls := hown
  have hl : lv_has ls 2 [(0, .ref (G 0)), (1, .int x)] := hl
  have hA : ∀ q : Nat, s.heap.size ≤ q → (fun q => s.heap.size ≤ q) q := fun q h => h
  have hS : va_S (fun q => s.heap.size ≤ q) s.heap s.heap [] := va_S.rf
  refine lv_aload_n hx hb dX5_delivered_0 rfl (lv_at hl 0 rfl) ?_
  refine lv_iload_n hx hb dX5_delivered_1 rfl (lv_at hl 1 rfl) ?_
  refine x_thr (vx_runV (As := [.int x]) (rest := []) ⟨hx, hb, hml, hown, hts⟩ (b_X5_stationAt l hfl D cI cS G S s.heap.size x hbad) (cwV 1 hts gX5_delivered_X5_stationAt rfl rfl rfl (by decide +kernel) ⟨Nat.le_of_ble_eq_true rfl, Nat.le_of_ble_eq_true rfl⟩) ⟨tPc_blind, va_recv hK hP (ci := 5) (q0 := 0) rfl (WL_at (by decide) (cF_air _)), tPc_at hP hK hD hN hT hZ hS⟩ rfl rfl hl.1 rfl (lv_room (Nat.le_of_ble_eq_true rfl)) dX5_delivered_2 ⟨Nat.le_of_ble_eq_true rfl, Nat.le_of_ble_eq_true rfl⟩) hS hA (fun q h => h) (fun ce q9 H locs hz hk hS hce hcv hcl => ?_)
  exact vx_out (fun x h => (htb x h).elim) hlocks hce hcv hcl (fun t ht _ => ⟨(), trivial, rfl, hS.F ht⟩) hS.2.2 (Nat.le_of_ble_eq_true rfl) (Nat.le_of_ble_eq_true rfl)

set_option maxHeartbeats 1000000 in
set_option maxRecDepth 100000 in
theorem b_X5_dropped (l : Launch) (hfl : l.stackTraces = false) (D : va_G) (cI cS : ClassId) (G : Nat → Nat) (S : Mem) (sz : Nat) (x : Int32) (hbad : ¬ x < 0 → nI 6 ≤ x) : vx_Met l yX5_dropped wsX5_dropped ({ frames := 7, cells := 1, slots := 6, locals := 112 } : Room) (tPc 36 (cF cI cS G) D (tY cI cS) G S sz [.ref (G 0), .int x]) (fun _ _ _ _ => False) (xX "java/lang/IndexOutOfBoundsException" sz) 1 6 (fun q => sz ≤ q) := by
  refine x_metX (cc := cX5_dropped) (maxL := 2) (ret := (some .int)) (by decide) rfl (Nat.le_of_ble_eq_true rfl) ?_
  intro p e s m below meth c ls hx hb hr hml hts hown hlocks hsz hP hK hD hN hT hZ hl htb
  subst hsz
  have hown : s.vm.findClass RX5 = some m.cls := hown
  have hl : lv_has ls 2 [(0, .ref (G 0)), (1, .int x)] := hl
  have hA : ∀ q : Nat, s.heap.size ≤ q → (fun q => s.heap.size ≤ q) q := fun q h => h
  have hS : va_S (fun q => s.heap.size ≤ q) s.heap s.heap [] := va_S.rf
  refine lv_aload_n hx hb dX5_dropped_0 rfl (lv_at hl 0 rfl) ?_
  refine lv_iload_n hx hb dX5_dropped_1 rfl (lv_at hl 1 rfl) ?_
  refine x_thr (vx_runV (As := [.int x]) (rest := []) ⟨hx, hb, hml, hown, hts⟩ (b_X5_stationAt l hfl D cI cS G S s.heap.size x hbad) (cwV 1 hts gX5_dropped_X5_stationAt rfl rfl rfl (by decide +kernel) ⟨Nat.le_of_ble_eq_true rfl, Nat.le_of_ble_eq_true rfl⟩) ⟨tPc_blind, va_recv hK hP (ci := 5) (q0 := 0) rfl (WL_at (by decide) (cF_air _)), tPc_at hP hK hD hN hT hZ hS⟩ rfl rfl hl.1 rfl (lv_room (Nat.le_of_ble_eq_true rfl)) dX5_dropped_2 ⟨Nat.le_of_ble_eq_true rfl, Nat.le_of_ble_eq_true rfl⟩) hS hA (fun q h => h) (fun ce q9 H locs hz hk hS hce hcv hcl => ?_)
  exact vx_out (fun x h => (htb x h).elim) hlocks hce hcv hcl (fun t ht _ => ⟨(), trivial, rfl, hS.F ht⟩) hS.2.2 (Nat.le_of_ble_eq_true rfl) (Nat.le_of_ble_eq_true rfl)

set_option maxHeartbeats 1000000 in
set_option maxRecDepth 100000 in
theorem b_X5_airtime (l : Launch) (hfl : l.stackTraces = false) (D : va_G) (cI cS : ClassId) (G : Nat → Nat) (S : Mem) (sz : Nat) (x : Int32) (hbad : ¬ x < 0 → nI 6 ≤ x) : vx_Met l yX5_airtime wsX5_airtime ({ frames := 7, cells := 1, slots := 6, locals := 112 } : Room) (tPc 36 (cF cI cS G) D (tY cI cS) G S sz [.ref (G 0), .int x]) (fun _ _ _ _ => False) (xX "java/lang/IndexOutOfBoundsException" sz) 1 6 (fun q => sz ≤ q) := by
  refine x_metX (cc := cX5_airtime) (maxL := 2) (ret := (some .int)) (by decide) rfl (Nat.le_of_ble_eq_true rfl) ?_
  intro p e s m below meth c ls hx hb hr hml hts hown hlocks hsz hP hK hD hN hT hZ hl htb
  subst hsz
  have hown : s.vm.findClass RX5 = some m.cls := hown
  have hl : lv_has ls 2 [(0, .ref (G 0)), (1, .int x)] := hl
  have hA : ∀ q : Nat, s.heap.size ≤ q → (fun q => s.heap.size ≤ q) q := fun q h => h
  have hS : va_S (fun q => s.heap.size ≤ q) s.heap s.heap [] := va_S.rf
  refine lv_aload_n hx hb dX5_airtime_0 rfl (lv_at hl 0 rfl) ?_
  refine lv_iload_n hx hb dX5_airtime_1 rfl (lv_at hl 1 rfl) ?_
  refine x_thr (vx_runV (As := [.int x]) (rest := []) ⟨hx, hb, hml, hown, hts⟩ (b_X5_stationAt l hfl D cI cS G S s.heap.size x hbad) (cwV 1 hts gX5_airtime_X5_stationAt rfl rfl rfl (by decide +kernel) ⟨Nat.le_of_ble_eq_true rfl, Nat.le_of_ble_eq_true rfl⟩) ⟨tPc_blind, va_recv hK hP (ci := 5) (q0 := 0) rfl (WL_at (by decide) (cF_air _)), tPc_at hP hK hD hN hT hZ hS⟩ rfl rfl hl.1 rfl (lv_room (Nat.le_of_ble_eq_true rfl)) dX5_airtime_2 ⟨Nat.le_of_ble_eq_true rfl, Nat.le_of_ble_eq_true rfl⟩) hS hA (fun q h => h) (fun ce q9 H locs hz hk hS hce hcv hcl => ?_)
  exact vx_out (fun x h => (htb x h).elim) hlocks hce hcv hcl (fun t ht _ => ⟨(), trivial, rfl, hS.F ht⟩) hS.2.2 (Nat.le_of_ble_eq_true rfl) (Nat.le_of_ble_eq_true rfl)

set_option maxHeartbeats 1000000 in
set_option maxRecDepth 100000 in
theorem b_X5_airtimeBySendings (l : Launch) (hfl : l.stackTraces = false) (D : va_G) (cI cS : ClassId) (G : Nat → Nat) (S : Mem) (sz : Nat) (x : Int32) (hbad : ¬ x < 0 → nI 6 ≤ x) : vx_Met l yX5_airtimeBySendings wsX5_airtimeBySendings ({ frames := 7, cells := 1, slots := 6, locals := 112 } : Room) (tPc 36 (cF cI cS G) D (tY cI cS) G S sz [.ref (G 0), .int x]) (fun _ _ _ _ => False) (xX "java/lang/IndexOutOfBoundsException" sz) 1 6 (fun q => sz ≤ q) := by
  refine x_metX (cc := cX5_airtimeBySendings) (maxL := 3) (ret := (some .int)) (by decide) rfl (Nat.le_of_ble_eq_true rfl) ?_
  intro p e s m below meth c ls hx hb hr hml hts hown hlocks hsz hP hK hD hN hT hZ hl htb
  subst hsz
  have hown : s.vm.findClass RX5 = some m.cls := hown
  have hl : lv_has ls 3 [(0, .ref (G 0)), (1, .int x)] := hl
  have hA : ∀ q : Nat, s.heap.size ≤ q → (fun q => s.heap.size ≤ q) q := fun q h => h
  have hS : va_S (fun q => s.heap.size ≤ q) s.heap s.heap [] := va_S.rf
  refine lv_aload_n hx hb dX5_airtimeBySendings_0 rfl (lv_at hl 0 rfl) ?_
  refine lv_iload_n hx hb dX5_airtimeBySendings_1 rfl (lv_at hl 1 rfl) ?_
  refine x_thr (vx_runV (As := [.int x]) (rest := []) ⟨hx, hb, hml, hown, hts⟩ (b_X5_stationAt l hfl D cI cS G S s.heap.size x hbad) (cwV 1 hts gX5_airtimeBySendings_X5_stationAt rfl rfl rfl (by decide +kernel) ⟨Nat.le_of_ble_eq_true rfl, Nat.le_of_ble_eq_true rfl⟩) ⟨tPc_blind, va_recv hK hP (ci := 5) (q0 := 0) rfl (WL_at (by decide) (cF_air _)), tPc_at hP hK hD hN hT hZ hS⟩ rfl rfl hl.1 rfl (lv_room (Nat.le_of_ble_eq_true rfl)) dX5_airtimeBySendings_2 ⟨Nat.le_of_ble_eq_true rfl, Nat.le_of_ble_eq_true rfl⟩) hS hA (fun q h => h) (fun ce q9 H locs hz hk hS hce hcv hcl => ?_)
  exact vx_out (fun x h => (htb x h).elim) hlocks hce hcv hcl (fun t ht _ => ⟨(), trivial, rfl, hS.F ht⟩) hS.2.2 (Nat.le_of_ble_eq_true rfl) (Nat.le_of_ble_eq_true rfl)

set_option maxHeartbeats 1000000 in
set_option maxRecDepth 100000 in
theorem b_X5_setStrength__1 (l : Launch) (hfl : l.stackTraces = false) (D : va_G) (cI cS : ClassId) (G : Nat → Nat) (S : Mem) (sz : Nat) (x : Int32) (y : Int32) (v : Int32) (hbad : ¬ x < 0 → nI 6 ≤ x) : vx_Met l yX5_setStrength wsX5_setStrength ({ frames := 7, cells := 1, slots := 6, locals := 112 } : Room) (tPc 36 (cF cI cS G) D (tY cI cS) G S sz [.ref (G 0), .int x, .int y, .int v]) (fun _ _ _ _ => False) (xX "java/lang/IndexOutOfBoundsException" sz) 1 6 (fun q => sz ≤ q) := by
  refine x_metX (cc := cX5_setStrength) (maxL := 5) (ret := (some .int)) (by decide) rfl (Nat.le_of_ble_eq_true rfl) ?_
  intro p e s m below meth c ls hx hb hr hml hts hown hlocks hsz hP hK hD hN hT hZ hl htb
  subst hsz
  have hown : s.vm.findClass RX5 = some m.cls := hown
  have hl : lv_has ls 5 [(0, .ref (G 0)), (1, .int x), (2, .int y), (3, .int v)] := hl
  have hA : ∀ q : Nat, s.heap.size ≤ q → (fun q => s.heap.size ≤ q) q := fun q h => h
  have hS : va_S (fun q => s.heap.size ≤ q) s.heap s.heap [] := va_S.rf
  refine lv_aload_n hx hb dX5_setStrength_0 rfl (lv_at hl 0 rfl) ?_
  refine lv_iload_n hx hb dX5_setStrength_1 rfl (lv_at hl 1 rfl) ?_
  refine x_thr (vx_runV (As := [.int x]) (rest := []) ⟨hx, hb, hml, hown, hts⟩ (b_X5_stationAt l hfl D cI cS G S s.heap.size x hbad) (cwV 1 hts gX5_setStrength_X5_stationAt rfl rfl rfl (by decide +kernel) ⟨Nat.le_of_ble_eq_true rfl, Nat.le_of_ble_eq_true rfl⟩) ⟨tPc_blind, va_recv hK hP (ci := 5) (q0 := 0) rfl (WL_at (by decide) (cF_air _)), tPc_at hP hK hD hN hT hZ hS⟩ rfl rfl hl.1 rfl (lv_room (Nat.le_of_ble_eq_true rfl)) dX5_setStrength_2 ⟨Nat.le_of_ble_eq_true rfl, Nat.le_of_ble_eq_true rfl⟩) hS hA (fun q h => h) (fun ce q9 H locs hz hk hS hce hcv hcl => ?_)
  exact vx_out (fun x h => (htb x h).elim) hlocks hce hcv hcl (fun t ht _ => ⟨(), trivial, rfl, hS.F ht⟩) hS.2.2 (Nat.le_of_ble_eq_true rfl) (Nat.le_of_ble_eq_true rfl)

set_option maxHeartbeats 1000000 in
set_option maxRecDepth 100000 in
theorem b_X5_setStrength__2 (l : Launch) (hfl : l.stackTraces = false) (D : va_G) (cI cS : ClassId) (G : Nat → Nat) (S : Mem) (sz : Nat) (a : Nat) (y : Int32) (v : Int32) (ha : a < 6) (hbad : ¬ y < 0 → nI 6 ≤ y) : vx_Met l yX5_setStrength wsX5_setStrength ({ frames := 7, cells := 1, slots := 6, locals := 112 } : Room) (tPc 36 (cF cI cS G) D (tY cI cS) G S sz [.ref (G 0), .int (nI a), .int y, .int v]) (fun _ _ _ _ => False) (xX "java/lang/IndexOutOfBoundsException" sz) 1 6 (fun q => sz ≤ q) := by
  refine x_metX (cc := cX5_setStrength) (maxL := 5) (ret := (some .int)) (by decide) rfl (Nat.le_of_ble_eq_true rfl) ?_
  intro p e s m below meth c ls hx hb hr hml hts hown hlocks hsz hP hK hD hN hT hZ hl htb
  subst hsz
  have hown : s.vm.findClass RX5 = some m.cls := hown
  have hl : lv_has ls 5 [(0, .ref (G 0)), (1, .int (nI a)), (2, .int y), (3, .int v)] := hl
  have hA : ∀ q : Nat, s.heap.size ≤ q → (fun q => s.heap.size ≤ q) q := fun q h => h
  have hS : va_S (fun q => s.heap.size ≤ q) s.heap s.heap [] := va_S.rf
  refine lv_aload_n hx hb dX5_setStrength_0 rfl (lv_at hl 0 rfl) ?_
  refine lv_iload_n hx hb dX5_setStrength_1 rfl (lv_at hl 1 rfl) ?_
  refine x_pr (va_runV (As := [.int (nI a)]) (rest := []) ⟨hx, hb, hml, hown, hts⟩ (c_X5_stationAt l D cI cS G S s.heap.size a (by omega)) (cwV 1 hts gX5_setStrength_X5_stationAt rfl rfl rfl (by decide +kernel) ⟨Nat.le_of_ble_eq_true rfl, Nat.le_of_ble_eq_true rfl⟩) ⟨wPc_blind, va_recv hK hP (ci := 5) (q0 := 0) rfl (WL_at (by decide) (cF_air _)), wPc_at hP hK hD hN⟩ rfl rfl hl.1 rfl (lv_room (Nat.le_of_ble_eq_true rfl)) dX5_setStrength_2 ⟨Nat.le_of_ble_eq_true rfl, Nat.le_of_ble_eq_true rfl⟩) hS hA (fun q h => h) (fun H locs hz hk hS => ?_)
  have hP := P_kept hP hk
  refine lv_pop hx hb dX5_setStrength_5 rfl ?_
  refine lv_aload_n hx hb dX5_setStrength_6 rfl (lv_at hl 0 rfl) ?_
  refine lv_iload_n hx hb dX5_setStrength_7 rfl (lv_at hl 2 rfl) ?_
  refine x_thr (vx_runV (As := [.int y]) (rest := []) ⟨hx, hb, hml, hown, hts⟩ (b_X5_stationAt l hfl D cI cS G S H.size y hbad) (cwV 1 hts gX5_setStrength_X5_stationAt rfl rfl rfl (by decide +kernel) ⟨Nat.le_of_ble_eq_true rfl, Nat.le_of_ble_eq_true rfl⟩) ⟨tPc_blind, va_recv hK hP (ci := 5) (q0 := 0) rfl (WL_at (by decide) (cF_air _)), tPc_at hP hK hD hN hT hZ hS⟩ rfl rfl hl.1 rfl (lv_room (Nat.le_of_ble_eq_true rfl)) dX5_setStrength_8 ⟨Nat.le_of_ble_eq_true rfl, Nat.le_of_ble_eq_true rfl⟩) hS hA (fun q h => h) (fun ce q9 H locs hz hk hS hce hcv hcl => ?_)
  exact vx_out (fun x h => (htb x h).elim) hlocks hce hcv hcl (fun t ht _ => ⟨(), trivial, rfl, hS.F ht⟩) hS.2.2 (Nat.le_of_ble_eq_true rfl) (Nat.le_of_ble_eq_true rfl)

theorem lt_X5_setStrength_41 : Cond.classLink RX5 41 "java/lang/IllegalArgumentException" ∈ wsX5_setStrength := by decide +kernel
theorem lu_X5_setStrength_41 : Cond.initialized "java/lang/IllegalArgumentException" ∈ wsX5_setStrength := by decide +kernel
set_option maxHeartbeats 1000000 in
set_option maxRecDepth 100000 in
theorem b_X5_setStrength__3 (l : Launch) (hfl : l.stackTraces = false) (D : va_G) (cI cS : ClassId) (G : Nat → Nat) (S : Mem) (sz : Nat) (a : Nat) (b : Nat) (v : Int32) (ha : a < 6) (hb6 : b < 6) (hbad : ¬ v < 0 → v ≤ nI 9 → nI a = nI b) : vx_Met l yX5_setStrength wsX5_setStrength ({ frames := 6, cells := 1, slots := 6, locals := 90 } : Room) (tPc 36 (cF cI cS G) D (tY cI cS) G S sz [.ref (G 0), .int (nI a), .int (nI b), .int v]) (fun _ _ _ _ => False) (xX "java/lang/IllegalArgumentException" sz) 1 6 (fun q => sz ≤ q) := by
  refine x_metX (cc := cX5_setStrength) (maxL := 5) (ret := (some .int)) (by decide) rfl (Nat.le_of_ble_eq_true rfl) ?_
  intro p e s m below meth c ls hx hb hr hml hts hown hlocks hsz hP hK hD hN hT hZ hl htb
  subst hsz
  have hown : s.vm.findClass RX5 = some m.cls := hown
  have hl : lv_has ls 5 [(0, .ref (G 0)), (1, .int (nI a)), (2, .int (nI b)), (3, .int v)] := hl
  have hA : ∀ q : Nat, s.heap.size ≤ q → (fun q => s.heap.size ≤ q) q := fun q h => h
  have hS : va_S (fun q => s.heap.size ≤ q) s.heap s.heap [] := va_S.rf
  refine lv_aload_n hx hb dX5_setStrength_0 rfl (lv_at hl 0 rfl) ?_
  refine lv_iload_n hx hb dX5_setStrength_1 rfl (lv_at hl 1 rfl) ?_
  refine x_pr (va_runV (As := [.int (nI a)]) (rest := []) ⟨hx, hb, hml, hown, hts⟩ (c_X5_stationAt l D cI cS G S s.heap.size a (by omega)) (cwV 1 hts gX5_setStrength_X5_stationAt rfl rfl rfl (by decide +kernel) ⟨Nat.le_of_ble_eq_true rfl, Nat.le_of_ble_eq_true rfl⟩) ⟨wPc_blind, va_recv hK hP (ci := 5) (q0 := 0) rfl (WL_at (by decide) (cF_air _)), wPc_at hP hK hD hN⟩ rfl rfl hl.1 rfl (lv_room (Nat.le_of_ble_eq_true rfl)) dX5_setStrength_2 ⟨Nat.le_of_ble_eq_true rfl, Nat.le_of_ble_eq_true rfl⟩) hS hA (fun q h => h) (fun H locs hz hk hS => ?_)
  have hP := P_kept hP hk
  refine lv_pop hx hb dX5_setStrength_5 rfl ?_
  refine lv_aload_n hx hb dX5_setStrength_6 rfl (lv_at hl 0 rfl) ?_
  refine lv_iload_n hx hb dX5_setStrength_7 rfl (lv_at hl 2 rfl) ?_
  refine x_pr (va_runV (As := [.int (nI b)]) (rest := []) ⟨hx, hb, hml, hown, hts⟩ (c_X5_stationAt l D cI cS G S H.size b (by omega)) (cwV 1 hts gX5_setStrength_X5_stationAt rfl rfl rfl (by decide +kernel) ⟨Nat.le_of_ble_eq_true rfl, Nat.le_of_ble_eq_true rfl⟩) ⟨wPc_blind, va_recv hK hP (ci := 5) (q0 := 0) rfl (WL_at (by decide) (cF_air _)), wPc_at hP hK hD hN⟩ rfl rfl hl.1 rfl (lv_room (Nat.le_of_ble_eq_true rfl)) dX5_setStrength_8 ⟨Nat.le_of_ble_eq_true rfl, Nat.le_of_ble_eq_true rfl⟩) hS hA (fun q h => h) (fun H locs hz hk hS => ?_)
  have hP := P_kept hP hk
  refine lv_pop hx hb dX5_setStrength_11 rfl ?_
  refine lv_iload_n hx hb dX5_setStrength_12 rfl (lv_at hl 3 rfl) ?_
  refine lv_if_lt (tgt := 22) hx hb dX5_setStrength_13 (by decide) (fun c_1 => ?_) (fun c_1 => ?_)
  · exact x_throw (ik := 41) (is := 43) (ic := 45) (text := "strength is out of range") hx hb hfl hown (by decide) (hts _ lt_X5_setStrength_41) (hts _ lu_X5_setStrength_41) (by decide) (by decide) (fun w h => hts w (List.mem_cons_of_mem _ (List.mem_append_left _ (List.mem_append_right _ h)))) ng_45 gw_45 (by decide +kernel) hT hZ hS (hl.1.trans hml.symm) htb dX5_setStrength_22 dX5_setStrength_25 dX5_setStrength_26 dX5_setStrength_28 dX5_setStrength_31 hlocks (Nat.le_of_ble_eq_true rfl) (Nat.le_of_ble_eq_true rfl) (Nat.le_of_ble_eq_true rfl) (Nat.le_of_ble_eq_true rfl)
  · refine lv_iload_n hx hb dX5_setStrength_16 rfl (lv_at hl 3 rfl) ?_
    refine lv_bipush (v := nI 9) hx hb dX5_setStrength_17 (by decide) ?_
    refine lv_icmp_le (tgt := 32) hx hb dX5_setStrength_19 (by decide) (fun c_2 => ?_) (fun c_2 => ?_)
    · refine lv_iload_n hx hb dX5_setStrength_32 rfl (lv_at hl 1 rfl) ?_
      refine lv_iload_n hx hb dX5_setStrength_33 rfl (lv_at hl 2 rfl) ?_
      refine lv_icmp_ne (tgt := 47) hx hb dX5_setStrength_34 (by decide) (fun c_3 => absurd (hbad c_1 c_2) c_3) (fun _ => ?_)
      exact x_throw (ik := 41) (is := 48) (ic := 45) (text := "a station has no strength to itself") hx hb hfl hown (by decide) (hts _ lt_X5_setStrength_41) (hts _ lu_X5_setStrength_41) (by decide) (by decide) (fun w h => hts w (List.mem_cons_of_mem _ (List.mem_append_left _ (List.mem_append_right _ h)))) ng_45 gw_45 (by decide +kernel) hT hZ hS (hl.1.trans hml.symm) htb dX5_setStrength_37 dX5_setStrength_40 dX5_setStrength_41 dX5_setStrength_43 dX5_setStrength_46 hlocks (Nat.le_of_ble_eq_true rfl) (Nat.le_of_ble_eq_true rfl) (Nat.le_of_ble_eq_true rfl) (Nat.le_of_ble_eq_true rfl)
    · exact x_throw (ik := 41) (is := 43) (ic := 45) (text := "strength is out of range") hx hb hfl hown (by decide) (hts _ lt_X5_setStrength_41) (hts _ lu_X5_setStrength_41) (by decide) (by decide) (fun w h => hts w (List.mem_cons_of_mem _ (List.mem_append_left _ (List.mem_append_right _ h)))) ng_45 gw_45 (by decide +kernel) hT hZ hS (hl.1.trans hml.symm) htb dX5_setStrength_22 dX5_setStrength_25 dX5_setStrength_26 dX5_setStrength_28 dX5_setStrength_31 hlocks (Nat.le_of_ble_eq_true rfl) (Nat.le_of_ble_eq_true rfl) (Nat.le_of_ble_eq_true rfl) (Nat.le_of_ble_eq_true rfl)

set_option maxHeartbeats 1000000 in
set_option maxRecDepth 100000 in
theorem b_X5_setClass__1 (l : Launch) (hfl : l.stackTraces = false) (D : va_G) (cI cS : ClassId) (G : Nat → Nat) (S : Mem) (sz : Nat) (x : Int32) (y : Int32) (hbad : ¬ x < 0 → nI 6 ≤ x) : vx_Met l yX5_setClass wsX5_setClass ({ frames := 7, cells := 1, slots := 6, locals := 112 } : Room) (tPc 36 (cF cI cS G) D (tY cI cS) G S sz [.ref (G 0), .int x, .int y]) (fun _ _ _ _ => False) (xX "java/lang/IndexOutOfBoundsException" sz) 1 6 (fun q => sz ≤ q) := by
  refine x_metX (cc := cX5_setClass) (maxL := 5) (ret := (some .int)) (by decide) rfl (Nat.le_of_ble_eq_true rfl) ?_
  intro p e s m below meth c ls hx hb hr hml hts hown hlocks hsz hP hK hD hN hT hZ hl htb
  subst hsz
  have hown : s.vm.findClass RX5 = some m.cls := hown
  have hl : lv_has ls 5 [(0, .ref (G 0)), (1, .int x), (2, .int y)] := hl
  have hA : ∀ q : Nat, s.heap.size ≤ q → (fun q => s.heap.size ≤ q) q := fun q h => h
  have hS : va_S (fun q => s.heap.size ≤ q) s.heap s.heap [] := va_S.rf
  refine lv_aload_n hx hb dX5_setClass_0 rfl (lv_at hl 0 rfl) ?_
  refine lv_iload_n hx hb dX5_setClass_1 rfl (lv_at hl 1 rfl) ?_
  refine x_thr (vx_runV (As := [.int x]) (rest := []) ⟨hx, hb, hml, hown, hts⟩ (b_X5_stationAt l hfl D cI cS G S s.heap.size x hbad) (cwV 1 hts gX5_setClass_X5_stationAt rfl rfl rfl (by decide +kernel) ⟨Nat.le_of_ble_eq_true rfl, Nat.le_of_ble_eq_true rfl⟩) ⟨tPc_blind, va_recv hK hP (ci := 5) (q0 := 0) rfl (WL_at (by decide) (cF_air _)), tPc_at hP hK hD hN hT hZ hS⟩ rfl rfl hl.1 rfl (lv_room (Nat.le_of_ble_eq_true rfl)) dX5_setClass_2 ⟨Nat.le_of_ble_eq_true rfl, Nat.le_of_ble_eq_true rfl⟩) hS hA (fun q h => h) (fun ce q9 H locs hz hk hS hce hcv hcl => ?_)
  exact vx_out (fun x h => (htb x h).elim) hlocks hce hcv hcl (fun t ht _ => ⟨(), trivial, rfl, hS.F ht⟩) hS.2.2 (Nat.le_of_ble_eq_true rfl) (Nat.le_of_ble_eq_true rfl)

theorem lt_X5_setClass_41 : Cond.classLink RX5 41 "java/lang/IllegalArgumentException" ∈ wsX5_setClass := by decide +kernel
theorem lu_X5_setClass_41 : Cond.initialized "java/lang/IllegalArgumentException" ∈ wsX5_setClass := by decide +kernel
set_option maxHeartbeats 1000000 in
set_option maxRecDepth 100000 in
theorem b_X5_setClass__2 (l : Launch) (hfl : l.stackTraces = false) (D : va_G) (cI cS : ClassId) (G : Nat → Nat) (S : Mem) (sz : Nat) (a : Nat) (y : Int32) (ha : a < 6) (hbad : ¬ y < 0 → ¬ y ≤ nI 1) : vx_Met l yX5_setClass wsX5_setClass ({ frames := 6, cells := 1, slots := 6, locals := 90 } : Room) (tPc 36 (cF cI cS G) D (tY cI cS) G S sz [.ref (G 0), .int (nI a), .int y]) (fun _ _ _ _ => False) (xX "java/lang/IllegalArgumentException" sz) 1 6 (fun q => sz ≤ q) := by
  refine x_metX (cc := cX5_setClass) (maxL := 5) (ret := (some .int)) (by decide) rfl (Nat.le_of_ble_eq_true rfl) ?_
  intro p e s m below meth c ls hx hb hr hml hts hown hlocks hsz hP hK hD hN hT hZ hl htb
  subst hsz
  have hown : s.vm.findClass RX5 = some m.cls := hown
  have hl : lv_has ls 5 [(0, .ref (G 0)), (1, .int (nI a)), (2, .int y)] := hl
  have hA : ∀ q : Nat, s.heap.size ≤ q → (fun q => s.heap.size ≤ q) q := fun q h => h
  have hS : va_S (fun q => s.heap.size ≤ q) s.heap s.heap [] := va_S.rf
  refine lv_aload_n hx hb dX5_setClass_0 rfl (lv_at hl 0 rfl) ?_
  refine lv_iload_n hx hb dX5_setClass_1 rfl (lv_at hl 1 rfl) ?_
  refine x_pr (va_runV (As := [.int (nI a)]) (rest := []) ⟨hx, hb, hml, hown, hts⟩ (c_X5_stationAt l D cI cS G S s.heap.size a (by omega)) (cwV 1 hts gX5_setClass_X5_stationAt rfl rfl rfl (by decide +kernel) ⟨Nat.le_of_ble_eq_true rfl, Nat.le_of_ble_eq_true rfl⟩) ⟨wPc_blind, va_recv hK hP (ci := 5) (q0 := 0) rfl (WL_at (by decide) (cF_air _)), wPc_at hP hK hD hN⟩ rfl rfl hl.1 rfl (lv_room (Nat.le_of_ble_eq_true rfl)) dX5_setClass_2 ⟨Nat.le_of_ble_eq_true rfl, Nat.le_of_ble_eq_true rfl⟩) hS hA (fun q h => h) (fun H locs hz hk hS => ?_)
  have hP := P_kept hP hk
  refine lv_astore_n (lv' := [(3, .ref (G (6 + 5 * a))), (0, .ref (G 0)), (1, .int (nI a)), (2, .int y)]) hx hb dX5_setClass_5 rfl hl (by decide) rfl (fun ls hl => ?_)
  refine lv_iload_n hx hb dX5_setClass_6 rfl (lv_at hl 3 rfl) ?_
  refine lv_if_lt (tgt := 15) hx hb dX5_setClass_7 (by decide) (fun c_1 => ?_) (fun c_1 => ?_)
  · exact x_throw (ik := 41) (is := 58) (ic := 45) (text := "no such class") hx hb hfl hown (by decide) (hts _ lt_X5_setClass_41) (hts _ lu_X5_setClass_41) (by decide) (by decide) (fun w h => hts w (List.mem_cons_of_mem _ (List.mem_append_left _ (List.mem_append_right _ h)))) ng_45 gw_45 (by decide +kernel) hT hZ hS (hl.1.trans hml.symm) htb dX5_setClass_15 dX5_setClass_18 dX5_setClass_19 dX5_setClass_21 dX5_setClass_24 hlocks (Nat.le_of_ble_eq_true rfl) (Nat.le_of_ble_eq_true rfl) (Nat.le_of_ble_eq_true rfl) (Nat.le_of_ble_eq_true rfl)
  · refine lv_iload_n hx hb dX5_setClass_10 rfl (lv_at hl 3 rfl) ?_
    refine lv_iconst (v := nI 1) hx hb dX5_setClass_11 (by decide) ?_
    refine lv_icmp_le (tgt := 25) hx hb dX5_setClass_12 (by decide) (fun c_2 => absurd c_2 (hbad c_1)) (fun _ => ?_)
    exact x_throw (ik := 41) (is := 58) (ic := 45) (text := "no such class") hx hb hfl hown (by decide) (hts _ lt_X5_setClass_41) (hts _ lu_X5_setClass_41) (by decide) (by decide) (fun w h => hts w (List.mem_cons_of_mem _ (List.mem_append_left _ (List.mem_append_right _ h)))) ng_45 gw_45 (by decide +kernel) hT hZ hS (hl.1.trans hml.symm) htb dX5_setClass_15 dX5_setClass_18 dX5_setClass_19 dX5_setClass_21 dX5_setClass_24 hlocks (Nat.le_of_ble_eq_true rfl) (Nat.le_of_ble_eq_true rfl) (Nat.le_of_ble_eq_true rfl) (Nat.le_of_ble_eq_true rfl)

theorem lt_X5_setReserve_41 : Cond.classLink RX5 41 "java/lang/IllegalArgumentException" ∈ wsX5_setReserve := by decide +kernel
theorem lu_X5_setReserve_41 : Cond.initialized "java/lang/IllegalArgumentException" ∈ wsX5_setReserve := by decide +kernel
set_option maxHeartbeats 1000000 in
set_option maxRecDepth 100000 in
theorem b_X5_setReserve__1 (l : Launch) (hfl : l.stackTraces = false) (D : va_G) (cI cS : ClassId) (G : Nat → Nat) (S : Mem) (sz : Nat) (x : Int32) (hbad : ¬ x < nI 1 → ¬ x ≤ nI 5) : vx_Met l yX5_setReserve wsX5_setReserve ({ frames := 6, cells := 1, slots := 6, locals := 90 } : Room) (tPc 36 (cF cI cS G) D (tY cI cS) G S sz [.ref (G 0), .int x]) (fun _ _ _ _ => False) (xX "java/lang/IllegalArgumentException" sz) 1 6 (fun q => sz ≤ q) := by
  refine x_metX (cc := cX5_setReserve) (maxL := 3) (ret := (some .int)) (by decide) rfl (Nat.le_of_ble_eq_true rfl) ?_
  intro p e s m below meth c ls hx hb hr hml hts hown hlocks hsz hP hK hD hN hT hZ hl htb
  subst hsz
  have hown : s.vm.findClass RX5 = some m.cls := hown
  have hl : lv_has ls 3 [(0, .ref (G 0)), (1, .int x)] := hl
  have hA : ∀ q : Nat, s.heap.size ≤ q → (fun q => s.heap.size ≤ q) q := fun q h => h
  have hS : va_S (fun q => s.heap.size ≤ q) s.heap s.heap [] := va_S.rf
  refine lv_iload_n hx hb dX5_setReserve_0 rfl (lv_at hl 1 rfl) ?_
  refine lv_iconst (v := nI 1) hx hb dX5_setReserve_1 (by decide) ?_
  refine lv_icmp_lt (tgt := 10) hx hb dX5_setReserve_2 (by decide) (fun c_1 => ?_) (fun c_1 => ?_)
  · exact x_throw (ik := 41) (is := 70) (ic := 45) (text := "parts is out of range") hx hb hfl hown (by decide) (hts _ lt_X5_setReserve_41) (hts _ lu_X5_setReserve_41) (by decide) (by decide) (fun w h => hts w (List.mem_cons_of_mem _ (List.mem_append_right _ h))) ng_45 gw_45 (by decide +kernel) hT hZ hS (hl.1.trans hml.symm) htb dX5_setReserve_10 dX5_setReserve_13 dX5_setReserve_14 dX5_setReserve_16 dX5_setReserve_19 hlocks (Nat.le_of_ble_eq_true rfl) (Nat.le_of_ble_eq_true rfl) (Nat.le_of_ble_eq_true rfl) (Nat.le_of_ble_eq_true rfl)
  · refine lv_iload_n hx hb dX5_setReserve_5 rfl (lv_at hl 1 rfl) ?_
    refine lv_iconst (v := nI 5) hx hb dX5_setReserve_6 (by decide) ?_
    refine lv_icmp_le (tgt := 20) hx hb dX5_setReserve_7 (by decide) (fun c_2 => absurd c_2 (hbad c_1)) (fun _ => ?_)
    exact x_throw (ik := 41) (is := 70) (ic := 45) (text := "parts is out of range") hx hb hfl hown (by decide) (hts _ lt_X5_setReserve_41) (hts _ lu_X5_setReserve_41) (by decide) (by decide) (fun w h => hts w (List.mem_cons_of_mem _ (List.mem_append_right _ h))) ng_45 gw_45 (by decide +kernel) hT hZ hS (hl.1.trans hml.symm) htb dX5_setReserve_10 dX5_setReserve_13 dX5_setReserve_14 dX5_setReserve_16 dX5_setReserve_19 hlocks (Nat.le_of_ble_eq_true rfl) (Nat.le_of_ble_eq_true rfl) (Nat.le_of_ble_eq_true rfl) (Nat.le_of_ble_eq_true rfl)

theorem lt_X5_tell_41 : Cond.classLink RX5 41 "java/lang/IllegalArgumentException" ∈ wsX5_tell := by decide +kernel
theorem lu_X5_tell_41 : Cond.initialized "java/lang/IllegalArgumentException" ∈ wsX5_tell := by decide +kernel
set_option maxHeartbeats 1000000 in
set_option maxRecDepth 100000 in
theorem b_X5_tell__1 (l : Launch) (hfl : l.stackTraces = false) (D : va_G) (cI cS : ClassId) (G : Nat → Nat) (S : Mem) (sz : Nat) (x : Int32) (hbad : ¬ x < 0 → ¬ x ≤ nI 1000) : vx_Met l yX5_tell wsX5_tell ({ frames := 6, cells := 1, slots := 6, locals := 90 } : Room) (tPc 36 (cF cI cS G) D (tY cI cS) G S sz [.ref (G 0), .int x]) (fun _ _ _ _ => False) (xX "java/lang/IllegalArgumentException" sz) 1 6 (fun q => sz ≤ q) := by
  refine x_metX (cc := cX5_tell) (maxL := 2) (ret := (some .int)) (by decide) rfl (Nat.le_of_ble_eq_true rfl) ?_
  intro p e s m below meth c ls hx hb hr hml hts hown hlocks hsz hP hK hD hN hT hZ hl htb
  subst hsz
  have hown : s.vm.findClass RX5 = some m.cls := hown
  have hl : lv_has ls 2 [(0, .ref (G 0)), (1, .int x)] := hl
  have hA : ∀ q : Nat, s.heap.size ≤ q → (fun q => s.heap.size ≤ q) q := fun q h => h
  have hS : va_S (fun q => s.heap.size ≤ q) s.heap s.heap [] := va_S.rf
  refine lv_iload_n hx hb dX5_tell_0 rfl (lv_at hl 1 rfl) ?_
  refine lv_if_lt (tgt := 11) hx hb dX5_tell_1 (by decide) (fun c_1 => ?_) (fun c_1 => ?_)
  · exact x_throw (ik := 41) (is := 72) (ic := 45) (text := "number is out of range") hx hb hfl hown (by decide) (hts _ lt_X5_tell_41) (hts _ lu_X5_tell_41) (by decide) (by decide) (fun w h => hts w (List.mem_cons_of_mem _ (List.mem_append_left _ (List.mem_append_right _ h)))) ng_45 gw_45 (by decide +kernel) hT hZ hS (hl.1.trans hml.symm) htb dX5_tell_11 dX5_tell_14 dX5_tell_15 dX5_tell_17 dX5_tell_20 hlocks (Nat.le_of_ble_eq_true rfl) (Nat.le_of_ble_eq_true rfl) (Nat.le_of_ble_eq_true rfl) (Nat.le_of_ble_eq_true rfl)
  · refine lv_iload_n hx hb dX5_tell_4 rfl (lv_at hl 1 rfl) ?_
    refine lv_sipush (v := nI 1000) hx hb dX5_tell_5 (by decide) ?_
    refine lv_icmp_le (tgt := 21) hx hb dX5_tell_8 (by decide) (fun c_2 => absurd c_2 (hbad c_1)) (fun _ => ?_)
    exact x_throw (ik := 41) (is := 72) (ic := 45) (text := "number is out of range") hx hb hfl hown (by decide) (hts _ lt_X5_tell_41) (hts _ lu_X5_tell_41) (by decide) (by decide) (fun w h => hts w (List.mem_cons_of_mem _ (List.mem_append_left _ (List.mem_append_right _ h)))) ng_45 gw_45 (by decide +kernel) hT hZ hS (hl.1.trans hml.symm) htb dX5_tell_11 dX5_tell_14 dX5_tell_15 dX5_tell_17 dX5_tell_20 hlocks (Nat.le_of_ble_eq_true rfl) (Nat.le_of_ble_eq_true rfl) (Nat.le_of_ble_eq_true rfl) (Nat.le_of_ble_eq_true rfl)

theorem lt_X5_tell_77 : Cond.classLink RX5 77 "java/lang/IllegalStateException" ∈ wsX5_tell := by decide +kernel
theorem lu_X5_tell_77 : Cond.initialized "java/lang/IllegalStateException" ∈ wsX5_tell := by decide +kernel
set_option maxHeartbeats 1000000 in
set_option maxRecDepth 100000 in
theorem b_X5_tell__2 (l : Launch) (hfl : l.stackTraces = false) (D : va_G) (cI cS : ClassId) (G : Nat → Nat) (S : Mem) (sz : Nat) (x : Int32) (h1 : ¬ x < 0) (h2 : x ≤ nI 1000) (hbad : ¬ S 4 1 < nI 200) : vx_Met l yX5_tell wsX5_tell ({ frames := 6, cells := 1, slots := 6, locals := 90 } : Room) (tPc 36 (cF cI cS G) D (tY cI cS) G S sz [.ref (G 0), .int x]) (fun _ _ _ _ => False) (xX "java/lang/IllegalStateException" sz) 1 6 (fun q => sz ≤ q) := by
  refine x_metX (cc := cX5_tell) (maxL := 2) (ret := (some .int)) (by decide) rfl (Nat.le_of_ble_eq_true rfl) ?_
  intro p e s m below meth c ls hx hb hr hml hts hown hlocks hsz hP hK hD hN hT hZ hl htb
  subst hsz
  have hown : s.vm.findClass RX5 = some m.cls := hown
  have hl : lv_has ls 2 [(0, .ref (G 0)), (1, .int x)] := hl
  have hA : ∀ q : Nat, s.heap.size ≤ q → (fun q => s.heap.size ≤ q) q := fun q h => h
  have hS : va_S (fun q => s.heap.size ≤ q) s.heap s.heap [] := va_S.rf
  refine lv_iload_n hx hb dX5_tell_0 rfl (lv_at hl 1 rfl) ?_
  refine lv_if_lt (tgt := 11) hx hb dX5_tell_1 (by decide) (fun c_1 => absurd c_1 h1) (fun _ => ?_)
  refine lv_iload_n hx hb dX5_tell_4 rfl (lv_at hl 1 rfl) ?_
  refine lv_sipush (v := nI 1000) hx hb dX5_tell_5 (by decide) ?_
  refine lv_icmp_le (tgt := 21) hx hb dX5_tell_8 (by decide) (fun _ => ?_) (fun c_2 => absurd h2 c_2) 
  refine lv_aload_n hx hb dX5_tell_21 rfl (lv_at hl 0 rfl) ?_
  refine x_get hx hb hts mm_X5_tell_X5 hown hK hP (0) (by decide) (cF_air _) rfl 2 (by decide) (hts _ lk_X5_tell_25) rfl rfl dX5_tell_22 ?_
  refine x_getN hx hb hts mm_X5_tell_X4 hown hK hP (4) (by decide) (cF_told _) rfl 2 (by decide) (hN.use nk_X5_74 rfl) rfl rfl dX5_tell_25 ?_
  refine lv_sipush (v := nI 200) hx hb dX5_tell_28 (by decide) ?_
  refine lv_icmp_lt (tgt := 44) hx hb dX5_tell_31 (by decide) (fun c_3 => absurd c_3 hbad) (fun _ => ?_)
  exact x_throw (ik := 77) (is := 79) (ic := 81) (text := "200 numbers are left") hx hb hfl hown (by decide) (hts _ lt_X5_tell_77) (hts _ lu_X5_tell_77) (by decide) (by decide) (fun w h => hts w (List.mem_cons_of_mem _ (List.mem_append_right _ h))) ng_81 gw_81 (by decide +kernel) hT hZ hS (hl.1.trans hml.symm) htb dX5_tell_34 dX5_tell_37 dX5_tell_38 dX5_tell_40 dX5_tell_43 hlocks (Nat.le_of_ble_eq_true rfl) (Nat.le_of_ble_eq_true rfl) (Nat.le_of_ble_eq_true rfl) (Nat.le_of_ble_eq_true rfl)

set_option maxHeartbeats 1000000 in
set_option maxRecDepth 100000 in
theorem b_X5_frame__1 (l : Launch) (hfl : l.stackTraces = false) (D : va_G) (cI cS : ClassId) (G : Nat → Nat) (S : Mem) (sz : Nat) (x : Int32) (y : Int32) (v : Int32) (hbad : ¬ x < 0 → nI 6 ≤ x) : vx_Met l yX5_frame wsX5_frame ({ frames := 7, cells := 1, slots := 6, locals := 112 } : Room) (tPc 36 (cF cI cS G) D (tY cI cS) G S sz [.ref (G 0), .int x, .int y, .int v]) (fun _ _ _ _ => False) (xX "java/lang/IndexOutOfBoundsException" sz) 1 6 (fun q => sz ≤ q) := by
  refine x_metX (cc := cX5_frame) (maxL := 5) (ret := (some .int)) (by decide) rfl (Nat.le_of_ble_eq_true rfl) ?_
  intro p e s m below meth c ls hx hb hr hml hts hown hlocks hsz hP hK hD hN hT hZ hl htb
  subst hsz
  have hown : s.vm.findClass RX5 = some m.cls := hown
  have hl : lv_has ls 5 [(0, .ref (G 0)), (1, .int x), (2, .int y), (3, .int v)] := hl
  have hA : ∀ q : Nat, s.heap.size ≤ q → (fun q => s.heap.size ≤ q) q := fun q h => h
  have hS : va_S (fun q => s.heap.size ≤ q) s.heap s.heap [] := va_S.rf
  refine lv_aload_n hx hb dX5_frame_0 rfl (lv_at hl 0 rfl) ?_
  refine lv_iload_n hx hb dX5_frame_1 rfl (lv_at hl 1 rfl) ?_
  refine x_thr (vx_runV (As := [.int x]) (rest := []) ⟨hx, hb, hml, hown, hts⟩ (b_X5_stationAt l hfl D cI cS G S s.heap.size x hbad) (cwV 1 hts gX5_frame_X5_stationAt rfl rfl rfl (by decide +kernel) ⟨Nat.le_of_ble_eq_true rfl, Nat.le_of_ble_eq_true rfl⟩) ⟨tPc_blind, va_recv hK hP (ci := 5) (q0 := 0) rfl (WL_at (by decide) (cF_air _)), tPc_at hP hK hD hN hT hZ hS⟩ rfl rfl hl.1 rfl (lv_room (Nat.le_of_ble_eq_true rfl)) dX5_frame_2 ⟨Nat.le_of_ble_eq_true rfl, Nat.le_of_ble_eq_true rfl⟩) hS hA (fun q h => h) (fun ce q9 H locs hz hk hS hce hcv hcl => ?_)
  exact vx_out (fun x h => (htb x h).elim) hlocks hce hcv hcl (fun t ht _ => ⟨(), trivial, rfl, hS.F ht⟩) hS.2.2 (Nat.le_of_ble_eq_true rfl) (Nat.le_of_ble_eq_true rfl)

set_option maxHeartbeats 1000000 in
set_option maxRecDepth 100000 in
theorem b_X5_frame__2 (l : Launch) (hfl : l.stackTraces = false) (D : va_G) (cI cS : ClassId) (G : Nat → Nat) (S : Mem) (sz : Nat) (a : Nat) (y : Int32) (v : Int32) (ha : a < 6) (hbad : ¬ y < 0 → nI 6 ≤ y) : vx_Met l yX5_frame wsX5_frame ({ frames := 7, cells := 1, slots := 6, locals := 112 } : Room) (tPc 36 (cF cI cS G) D (tY cI cS) G S sz [.ref (G 0), .int (nI a), .int y, .int v]) (fun _ _ _ _ => False) (xX "java/lang/IndexOutOfBoundsException" sz) 1 6 (fun q => sz ≤ q) := by
  refine x_metX (cc := cX5_frame) (maxL := 5) (ret := (some .int)) (by decide) rfl (Nat.le_of_ble_eq_true rfl) ?_
  intro p e s m below meth c ls hx hb hr hml hts hown hlocks hsz hP hK hD hN hT hZ hl htb
  subst hsz
  have hown : s.vm.findClass RX5 = some m.cls := hown
  have hl : lv_has ls 5 [(0, .ref (G 0)), (1, .int (nI a)), (2, .int y), (3, .int v)] := hl
  have hA : ∀ q : Nat, s.heap.size ≤ q → (fun q => s.heap.size ≤ q) q := fun q h => h
  have hS : va_S (fun q => s.heap.size ≤ q) s.heap s.heap [] := va_S.rf
  refine lv_aload_n hx hb dX5_frame_0 rfl (lv_at hl 0 rfl) ?_
  refine lv_iload_n hx hb dX5_frame_1 rfl (lv_at hl 1 rfl) ?_
  refine x_pr (va_runV (As := [.int (nI a)]) (rest := []) ⟨hx, hb, hml, hown, hts⟩ (c_X5_stationAt l D cI cS G S s.heap.size a (by omega)) (cwV 1 hts gX5_frame_X5_stationAt rfl rfl rfl (by decide +kernel) ⟨Nat.le_of_ble_eq_true rfl, Nat.le_of_ble_eq_true rfl⟩) ⟨wPc_blind, va_recv hK hP (ci := 5) (q0 := 0) rfl (WL_at (by decide) (cF_air _)), wPc_at hP hK hD hN⟩ rfl rfl hl.1 rfl (lv_room (Nat.le_of_ble_eq_true rfl)) dX5_frame_2 ⟨Nat.le_of_ble_eq_true rfl, Nat.le_of_ble_eq_true rfl⟩) hS hA (fun q h => h) (fun H locs hz hk hS => ?_)
  have hP := P_kept hP hk
  refine x_getN hx hb hts mm_X5_frame_X2 hown hK hP (6 + 5 * a) (by omega) (cF_st _ _) rfl 0 (by decide) (hN.use nk_X5_86 rfl) rfl rfl dX5_frame_5 ?_
  refine lv_astore (lv' := [(4, .ref (G (7 + 5 * a))), (0, .ref (G 0)), (1, .int (nI a)), (2, .int y), (3, .int v)]) hx hb dX5_frame_8 hl (by decide) rfl (fun ls hl => ?_)
  refine lv_aload_n hx hb dX5_frame_10 rfl (lv_at hl 1 rfl) ?_
  refine lv_iload_n hx hb dX5_frame_11 rfl (lv_at hl 3 rfl) ?_
  refine x_thr (vx_runV (As := [.int y]) (rest := []) ⟨hx, hb, hml, hown, hts⟩ (b_X5_stationAt l hfl D cI cS G S H.size y hbad) (cwV 1 hts gX5_frame_X5_stationAt rfl rfl rfl (by decide +kernel) ⟨Nat.le_of_ble_eq_true rfl, Nat.le_of_ble_eq_true rfl⟩) ⟨tPc_blind, va_recv hK hP (ci := 5) (q0 := 0) rfl (WL_at (by decide) (cF_air _)), tPc_at hP hK hD hN hT hZ hS⟩ rfl rfl hl.1 rfl (lv_room (Nat.le_of_ble_eq_true rfl)) dX5_frame_12 ⟨Nat.le_of_ble_eq_true rfl, Nat.le_of_ble_eq_true rfl⟩) hS hA (fun q h => h) (fun ce q9 H locs hz hk hS hce hcv hcl => ?_)
  exact vx_out (fun x h => (htb x h).elim) hlocks hce hcv hcl (fun t ht _ => ⟨(), trivial, rfl, hS.F ht⟩) hS.2.2 (Nat.le_of_ble_eq_true rfl) (Nat.le_of_ble_eq_true rfl)

theorem lt_X5_frame_41 : Cond.classLink RX5 41 "java/lang/IllegalArgumentException" ∈ wsX5_frame := by decide +kernel
theorem lu_X5_frame_41 : Cond.initialized "java/lang/IllegalArgumentException" ∈ wsX5_frame := by decide +kernel
set_option maxHeartbeats 1000000 in
set_option maxRecDepth 100000 in
theorem b_X5_frame__3 (l : Launch) (hfl : l.stackTraces = false) (D : va_G) (cI cS : ClassId) (G : Nat → Nat) (S : Mem) (sz : Nat) (a : Nat) (b : Nat) (v : Int32) (ha : a < 6) (hb6 : b < 6) (hbad : ¬ v < nI 1 → v ≤ nI 4 → nI a = nI b) : vx_Met l yX5_frame wsX5_frame ({ frames := 6, cells := 1, slots := 6, locals := 90 } : Room) (tPc 36 (cF cI cS G) D (tY cI cS) G S sz [.ref (G 0), .int (nI a), .int (nI b), .int v]) (fun _ _ _ _ => False) (xX "java/lang/IllegalArgumentException" sz) 1 6 (fun q => sz ≤ q) := by
  refine x_metX (cc := cX5_frame) (maxL := 5) (ret := (some .int)) (by decide) rfl (Nat.le_of_ble_eq_true rfl) ?_
  intro p e s m below meth c ls hx hb hr hml hts hown hlocks hsz hP hK hD hN hT hZ hl htb
  subst hsz
  have hown : s.vm.findClass RX5 = some m.cls := hown
  have hl : lv_has ls 5 [(0, .ref (G 0)), (1, .int (nI a)), (2, .int (nI b)), (3, .int v)] := hl
  have hA : ∀ q : Nat, s.heap.size ≤ q → (fun q => s.heap.size ≤ q) q := fun q h => h
  have hS : va_S (fun q => s.heap.size ≤ q) s.heap s.heap [] := va_S.rf
  refine lv_aload_n hx hb dX5_frame_0 rfl (lv_at hl 0 rfl) ?_
  refine lv_iload_n hx hb dX5_frame_1 rfl (lv_at hl 1 rfl) ?_
  refine x_pr (va_runV (As := [.int (nI a)]) (rest := []) ⟨hx, hb, hml, hown, hts⟩ (c_X5_stationAt l D cI cS G S s.heap.size a (by omega)) (cwV 1 hts gX5_frame_X5_stationAt rfl rfl rfl (by decide +kernel) ⟨Nat.le_of_ble_eq_true rfl, Nat.le_of_ble_eq_true rfl⟩) ⟨wPc_blind, va_recv hK hP (ci := 5) (q0 := 0) rfl (WL_at (by decide) (cF_air _)), wPc_at hP hK hD hN⟩ rfl rfl hl.1 rfl (lv_room (Nat.le_of_ble_eq_true rfl)) dX5_frame_2 ⟨Nat.le_of_ble_eq_true rfl, Nat.le_of_ble_eq_true rfl⟩) hS hA (fun q h => h) (fun H locs hz hk hS => ?_)
  have hP := P_kept hP hk
  refine x_getN hx hb hts mm_X5_frame_X2 hown hK hP (6 + 5 * a) (by omega) (cF_st _ _) rfl 0 (by decide) (hN.use nk_X5_86 rfl) rfl rfl dX5_frame_5 ?_
  refine lv_astore (lv' := [(4, .ref (G (7 + 5 * a))), (0, .ref (G 0)), (1, .int (nI a)), (2, .int (nI b)), (3, .int v)]) hx hb dX5_frame_8 hl (by decide) rfl (fun ls hl => ?_)
  refine lv_aload_n hx hb dX5_frame_10 rfl (lv_at hl 1 rfl) ?_
  refine lv_iload_n hx hb dX5_frame_11 rfl (lv_at hl 3 rfl) ?_
  refine x_pr (va_runV (As := [.int (nI b)]) (rest := []) ⟨hx, hb, hml, hown, hts⟩ (c_X5_stationAt l D cI cS G S H.size b (by omega)) (cwV 1 hts gX5_frame_X5_stationAt rfl rfl rfl (by decide +kernel) ⟨Nat.le_of_ble_eq_true rfl, Nat.le_of_ble_eq_true rfl⟩) ⟨wPc_blind, va_recv hK hP (ci := 5) (q0 := 0) rfl (WL_at (by decide) (cF_air _)), wPc_at hP hK hD hN⟩ rfl rfl hl.1 rfl (lv_room (Nat.le_of_ble_eq_true rfl)) dX5_frame_12 ⟨Nat.le_of_ble_eq_true rfl, Nat.le_of_ble_eq_true rfl⟩) hS hA (fun q h => h) (fun H locs hz hk hS => ?_)
  have hP := P_kept hP hk
  refine lv_pop hx hb dX5_frame_15 rfl ?_
  refine lv_iload_n hx hb dX5_frame_16 rfl (lv_at hl 4 rfl) ?_
  refine lv_iconst (v := nI 1) hx hb dX5_frame_17 (by decide) ?_
  refine lv_icmp_lt (tgt := 26) hx hb dX5_frame_18 (by decide) (fun c_1 => ?_) (fun c_1 => ?_)
  · exact x_throw (ik := 41) (is := 70) (ic := 45) (text := "parts is out of range") hx hb hfl hown (by decide) (hts _ lt_X5_frame_41) (hts _ lu_X5_frame_41) (by decide) (by decide) (fun w h => hts w (List.mem_cons_of_mem _ (List.mem_append_left _ (List.mem_append_left _ (List.mem_append_right _ h))))) ng_45 gw_45 (by decide +kernel) hT hZ hS (hl.1.trans hml.symm) htb dX5_frame_26 dX5_frame_29 dX5_frame_30 dX5_frame_32 dX5_frame_35 hlocks (Nat.le_of_ble_eq_true rfl) (Nat.le_of_ble_eq_true rfl) (Nat.le_of_ble_eq_true rfl) (Nat.le_of_ble_eq_true rfl)
  · refine lv_iload_n hx hb dX5_frame_21 rfl (lv_at hl 4 rfl) ?_
    refine lv_iconst (v := nI 4) hx hb dX5_frame_22 (by decide) ?_
    refine lv_icmp_le (tgt := 36) hx hb dX5_frame_23 (by decide) (fun c_2 => ?_) (fun c_2 => ?_)
    · refine lv_iload_n hx hb dX5_frame_36 rfl (lv_at hl 2 rfl) ?_
      refine lv_iload_n hx hb dX5_frame_37 rfl (lv_at hl 3 rfl) ?_
      refine lv_icmp_ne (tgt := 51) hx hb dX5_frame_38 (by decide) (fun c_3 => absurd (hbad c_1 c_2) c_3) (fun _ => ?_)
      exact x_throw (ik := 41) (is := 90) (ic := 45) (text := "the goal is another station") hx hb hfl hown (by decide) (hts _ lt_X5_frame_41) (hts _ lu_X5_frame_41) (by decide) (by decide) (fun w h => hts w (List.mem_cons_of_mem _ (List.mem_append_left _ (List.mem_append_left _ (List.mem_append_right _ h))))) ng_45 gw_45 (by decide +kernel) hT hZ hS (hl.1.trans hml.symm) htb dX5_frame_41 dX5_frame_44 dX5_frame_45 dX5_frame_47 dX5_frame_50 hlocks (Nat.le_of_ble_eq_true rfl) (Nat.le_of_ble_eq_true rfl) (Nat.le_of_ble_eq_true rfl) (Nat.le_of_ble_eq_true rfl)
    · exact x_throw (ik := 41) (is := 70) (ic := 45) (text := "parts is out of range") hx hb hfl hown (by decide) (hts _ lt_X5_frame_41) (hts _ lu_X5_frame_41) (by decide) (by decide) (fun w h => hts w (List.mem_cons_of_mem _ (List.mem_append_left _ (List.mem_append_left _ (List.mem_append_right _ h))))) ng_45 gw_45 (by decide +kernel) hT hZ hS (hl.1.trans hml.symm) htb dX5_frame_26 dX5_frame_29 dX5_frame_30 dX5_frame_32 dX5_frame_35 hlocks (Nat.le_of_ble_eq_true rfl) (Nat.le_of_ble_eq_true rfl) (Nat.le_of_ble_eq_true rfl) (Nat.le_of_ble_eq_true rfl)

theorem lt_X5_frame_77 : Cond.classLink RX5 77 "java/lang/IllegalStateException" ∈ wsX5_frame := by decide +kernel
theorem lu_X5_frame_77 : Cond.initialized "java/lang/IllegalStateException" ∈ wsX5_frame := by decide +kernel
set_option maxHeartbeats 1000000 in
set_option maxRecDepth 100000 in
theorem b_X5_frame__4 (l : Launch) (hfl : l.stackTraces = false) (D : va_G) (cI cS : ClassId) (G : Nat → Nat) (S : Mem) (sz : Nat) (a : Nat) (b : Nat) (v : Int32) (ha : a < 6) (hb6 : b < 6) (h1 : ¬ v < nI 1) (h2 : v ≤ nI 4) (hne : ¬ nI a = nI b) (hbad : ¬ S (7 + 5 * a) 0 < nI 5) : vx_Met l yX5_frame wsX5_frame ({ frames := 6, cells := 1, slots := 6, locals := 90 } : Room) (tPc 36 (cF cI cS G) D (tY cI cS) G S sz [.ref (G 0), .int (nI a), .int (nI b), .int v]) (fun _ _ _ _ => False) (xX "java/lang/IllegalStateException" sz) 1 6 (fun q => sz ≤ q) := by
  refine x_metX (cc := cX5_frame) (maxL := 5) (ret := (some .int)) (by decide) rfl (Nat.le_of_ble_eq_true rfl) ?_
  intro p e s m below meth c ls hx hb hr hml hts hown hlocks hsz hP hK hD hN hT hZ hl htb
  subst hsz
  have hown : s.vm.findClass RX5 = some m.cls := hown
  have hl : lv_has ls 5 [(0, .ref (G 0)), (1, .int (nI a)), (2, .int (nI b)), (3, .int v)] := hl
  have hA : ∀ q : Nat, s.heap.size ≤ q → (fun q => s.heap.size ≤ q) q := fun q h => h
  have hS : va_S (fun q => s.heap.size ≤ q) s.heap s.heap [] := va_S.rf
  refine lv_aload_n hx hb dX5_frame_0 rfl (lv_at hl 0 rfl) ?_
  refine lv_iload_n hx hb dX5_frame_1 rfl (lv_at hl 1 rfl) ?_
  refine x_pr (va_runV (As := [.int (nI a)]) (rest := []) ⟨hx, hb, hml, hown, hts⟩ (c_X5_stationAt l D cI cS G S s.heap.size a (by omega)) (cwV 1 hts gX5_frame_X5_stationAt rfl rfl rfl (by decide +kernel) ⟨Nat.le_of_ble_eq_true rfl, Nat.le_of_ble_eq_true rfl⟩) ⟨wPc_blind, va_recv hK hP (ci := 5) (q0 := 0) rfl (WL_at (by decide) (cF_air _)), wPc_at hP hK hD hN⟩ rfl rfl hl.1 rfl (lv_room (Nat.le_of_ble_eq_true rfl)) dX5_frame_2 ⟨Nat.le_of_ble_eq_true rfl, Nat.le_of_ble_eq_true rfl⟩) hS hA (fun q h => h) (fun H locs hz hk hS => ?_)
  have hP := P_kept hP hk
  refine x_getN hx hb hts mm_X5_frame_X2 hown hK hP (6 + 5 * a) (by omega) (cF_st _ _) rfl 0 (by decide) (hN.use nk_X5_86 rfl) rfl rfl dX5_frame_5 ?_
  refine lv_astore (lv' := [(4, .ref (G (7 + 5 * a))), (0, .ref (G 0)), (1, .int (nI a)), (2, .int (nI b)), (3, .int v)]) hx hb dX5_frame_8 hl (by decide) rfl (fun ls hl => ?_)
  refine lv_aload_n hx hb dX5_frame_10 rfl (lv_at hl 1 rfl) ?_
  refine lv_iload_n hx hb dX5_frame_11 rfl (lv_at hl 3 rfl) ?_
  refine x_pr (va_runV (As := [.int (nI b)]) (rest := []) ⟨hx, hb, hml, hown, hts⟩ (c_X5_stationAt l D cI cS G S H.size b (by omega)) (cwV 1 hts gX5_frame_X5_stationAt rfl rfl rfl (by decide +kernel) ⟨Nat.le_of_ble_eq_true rfl, Nat.le_of_ble_eq_true rfl⟩) ⟨wPc_blind, va_recv hK hP (ci := 5) (q0 := 0) rfl (WL_at (by decide) (cF_air _)), wPc_at hP hK hD hN⟩ rfl rfl hl.1 rfl (lv_room (Nat.le_of_ble_eq_true rfl)) dX5_frame_12 ⟨Nat.le_of_ble_eq_true rfl, Nat.le_of_ble_eq_true rfl⟩) hS hA (fun q h => h) (fun H locs hz hk hS => ?_)
  have hP := P_kept hP hk
  refine lv_pop hx hb dX5_frame_15 rfl ?_
  refine lv_iload_n hx hb dX5_frame_16 rfl (lv_at hl 4 rfl) ?_
  refine lv_iconst (v := nI 1) hx hb dX5_frame_17 (by decide) ?_
  refine lv_icmp_lt (tgt := 26) hx hb dX5_frame_18 (by decide) (fun c_1 => absurd c_1 h1) (fun _ => ?_)
  refine lv_iload_n hx hb dX5_frame_21 rfl (lv_at hl 4 rfl) ?_
  refine lv_iconst (v := nI 4) hx hb dX5_frame_22 (by decide) ?_
  refine lv_icmp_le (tgt := 36) hx hb dX5_frame_23 (by decide) (fun _ => ?_) (fun c_2 => absurd h2 c_2) 
  refine lv_iload_n hx hb dX5_frame_36 rfl (lv_at hl 2 rfl) ?_
  refine lv_iload_n hx hb dX5_frame_37 rfl (lv_at hl 3 rfl) ?_
  refine lv_icmp_ne (tgt := 51) hx hb dX5_frame_38 (by decide) (fun _ => ?_) (fun c_3 => absurd c_3 hne)
  refine lv_aload hx hb dX5_frame_51 (lv_at hl 0 rfl) ?_
  refine x_getN hx hb hts mm_X5_frame_X0 hown hK hP (7 + 5 * a) (by omega) (cF_row _ _) rfl 2 (by decide) (hN.use nk_X5_92 rfl) rfl rfl dX5_frame_53 ?_
  refine lv_iconst (v := nI 5) hx hb dX5_frame_56 (by decide) ?_
  refine lv_icmp_lt (tgt := 70) hx hb dX5_frame_57 (by decide) (fun c_4 => absurd c_4 hbad) (fun _ => ?_)
  exact x_throw (ik := 77) (is := 97) (ic := 81) (text := "the station has 5 frames") hx hb hfl hown (by decide) (hts _ lt_X5_frame_77) (hts _ lu_X5_frame_77) (by decide) (by decide) (fun w h => hts w (List.mem_cons_of_mem _ (List.mem_append_left _ (List.mem_append_right _ h)))) ng_81 gw_81 (by decide +kernel) hT hZ hS (hl.1.trans hml.symm) htb dX5_frame_60 dX5_frame_63 dX5_frame_64 dX5_frame_66 dX5_frame_69 hlocks (Nat.le_of_ble_eq_true rfl) (Nat.le_of_ble_eq_true rfl) (Nat.le_of_ble_eq_true rfl) (Nat.le_of_ble_eq_true rfl)

theorem lt_X5_pass_41 : Cond.classLink RX5 41 "java/lang/IllegalArgumentException" ∈ wsX5_pass := by decide +kernel
theorem lu_X5_pass_41 : Cond.initialized "java/lang/IllegalArgumentException" ∈ wsX5_pass := by decide +kernel
set_option maxHeartbeats 1000000 in
set_option maxRecDepth 100000 in
theorem b_X5_pass__1 (l : Launch) (hfl : l.stackTraces = false) (D : va_G) (cI cS : ClassId) (G : Nat → Nat) (S : Mem) (sz : Nat) (x : Int32) (hbad : ¬ x < nI 1 → ¬ x ≤ nI 50) : vx_Met l yX5_pass wsX5_pass ({ frames := 6, cells := 1, slots := 6, locals := 90 } : Room) (tPc 36 (cF cI cS G) D (tY cI cS) G S sz [.ref (G 0), .int x]) (fun _ _ _ _ => False) (xX "java/lang/IllegalArgumentException" sz) 1 6 (fun q => sz ≤ q) := by
  refine x_metX (cc := cX5_pass) (maxL := 4) (ret := (some .int)) (by decide) rfl (Nat.le_of_ble_eq_true rfl) ?_
  intro p e s m below meth c ls hx hb hr hml hts hown hlocks hsz hP hK hD hN hT hZ hl htb
  subst hsz
  have hown : s.vm.findClass RX5 = some m.cls := hown
  have hl : lv_has ls 4 [(0, .ref (G 0)), (1, .int x)] := hl
  have hA : ∀ q : Nat, s.heap.size ≤ q → (fun q => s.heap.size ≤ q) q := fun q h => h
  have hS : va_S (fun q => s.heap.size ≤ q) s.heap s.heap [] := va_S.rf
  refine lv_iload_n hx hb dX5_pass_0 rfl (lv_at hl 1 rfl) ?_
  refine lv_iconst (v := nI 1) hx hb dX5_pass_1 (by decide) ?_
  refine lv_icmp_lt (tgt := 11) hx hb dX5_pass_2 (by decide) (fun c_1 => ?_) (fun c_1 => ?_)
  · exact x_throw (ik := 41) (is := 102) (ic := 45) (text := "slots is out of range") hx hb hfl hown (by decide) (hts _ lt_X5_pass_41) (hts _ lu_X5_pass_41) (by decide) (by decide) (fun w h => hts w (List.mem_cons_of_mem _ (List.mem_append_left _ (List.mem_append_right _ h)))) ng_45 gw_45 (by decide +kernel) hT hZ hS (hl.1.trans hml.symm) htb dX5_pass_11 dX5_pass_14 dX5_pass_15 dX5_pass_17 dX5_pass_20 hlocks (Nat.le_of_ble_eq_true rfl) (Nat.le_of_ble_eq_true rfl) (Nat.le_of_ble_eq_true rfl) (Nat.le_of_ble_eq_true rfl)
  · refine lv_iload_n hx hb dX5_pass_5 rfl (lv_at hl 1 rfl) ?_
    refine lv_bipush (v := nI 50) hx hb dX5_pass_6 (by decide) ?_
    refine lv_icmp_le (tgt := 21) hx hb dX5_pass_8 (by decide) (fun c_2 => absurd c_2 (hbad c_1)) (fun _ => ?_)
    exact x_throw (ik := 41) (is := 102) (ic := 45) (text := "slots is out of range") hx hb hfl hown (by decide) (hts _ lt_X5_pass_41) (hts _ lu_X5_pass_41) (by decide) (by decide) (fun w h => hts w (List.mem_cons_of_mem _ (List.mem_append_left _ (List.mem_append_right _ h)))) ng_45 gw_45 (by decide +kernel) hT hZ hS (hl.1.trans hml.symm) htb dX5_pass_11 dX5_pass_14 dX5_pass_15 dX5_pass_17 dX5_pass_20 hlocks (Nat.le_of_ble_eq_true rfl) (Nat.le_of_ble_eq_true rfl) (Nat.le_of_ble_eq_true rfl) (Nat.le_of_ble_eq_true rfl)

