/-! THE CLAIM OUT OF ONE WALK OF THE LAW'S BODY. Your part is whole_start (and what it stands on); all else here is the same for every law, but numbers. -/
def R_law : String := "BackofficeAirLaw"
def lw_P (b : Addr) (xs : List Int32) (args : Array Value) (s : State) : Prop := args = #[.ref b] ∧ s.IntsAt b xs ∧ xs.length ≤ 260 ∧ (Jvm.Cond.and given_1 narrow_1).before args s = true
def lw_Q (_ : Array Value) (s : State) (o : Outcome) (t : State) : Prop := o = .returned (some (.int 1)) ∧ Framed s o t [] 600130 7301080
def lw_Z (below : List Frame) (a : Array Value) (s : State) : State → Prop := fun t => ∃ o, t.status = .running ∧ Ended t below o ∧ lw_Q a s o t
/-- the law's own end, with 1 on the stack, nothing written that was there before, its room as the claim has it -/
theorem lw_ret {p : Program} {l : Launch} {e : Env} {s : State} {m : MethodId} {below : List Frame} {meth : Method} {c : Code} {b : Nat} (hx : p.tables.exec = Jvm.exec) (hb : c.code = code) (hr : meth.sig.returnType = ret) (hlocks : meth.locks = false) {pc : Nat} {H : Heap} {ls : Array Slot} (hdg : decode code pc = .ok (.ireturn, 1)) : W p l e room_1 s m #[Value.ref b] below meth c H [] 600130 7301080 (lw_Z below #[Value.ref b] s) (F0 m pc ls [.int 1]) := by
  intro T hT X
  obtain ⟨fs, hret, hrun, hended, hW, hframe⟩ := X.leave (v := some (.int 1)) (hlocks := hlocks) (fun h => by rw [hr] at h; cases h)
  have hmeth' : T.vm.method? m = some meth := X.method'
  refine ⟨T.setFrames fs, ?_, .returned (some (.int 1)), hrun, hended, rfl, ⟨_, rfl⟩, hW, hframe⟩
  jvm_step X.here [X.here.top, hx, hb, hdg, hmeth', hr, ret, narrow_b1]
  (try refine ⟨rfl, ?_⟩); (try refine ⟨rfl, ?_⟩)
  first | (intro acts; rw [hret _ acts rfl rfl rfl]) | rw [hret _ _ rfl rfl rfl]
  exact Steps.refl _
/-- what holds at the law's entry: the machine, the code, the tables' words (any of lw_tbl by 'hts w (by decide +kernel)'), the script of L ints xs at the cell b, what the Statement gives of the start (any of its parts by flat_of_before) -/
def lw_At (p : Program) (s : State) (m : MethodId) (meth : Method) (c : Code) (b L : Nat) (xs : Nat → Int32) : Prop :=
  p.tables.exec = Jvm.exec ∧ c.code = code ∧ meth.sig.returnType = ret ∧ c.maxLocals = 17 ∧ s.vm.findClass R_law = some m.cls ∧ (∀ w ∈ lw_tbl, w.before #[Value.ref b] s = true) ∧ va_X b L xs s s.heap ∧ b < s.heap.size ∧ meth.locks = false ∧ (Jvm.Cond.and given_1 narrow_1).before #[Value.ref b] s = true
set_option maxHeartbeats 2000000 in
set_option maxRecDepth 100000 in
theorem law_loop {p : Program} {l : Launch} {e : Env} {s : State} {m : MethodId} {below : List Frame} {meth : Method} {c : Code} {b L : Nat} {xs : Nat → Int32} {D : va_G} {cI cS : ClassId} {G : Nat → Nat} {tn : Nat} (hX : LX p l s m c b L xs D cI cS G) (hr : meth.sig.returnType = ret) (hlocks : meth.locks = false) (htn : tn ≤ 420) :
    ∀ (n k t : Nat) (S T : Mem) (td : Int32) (H : Heap) (locs : List Loc) (ls : Array Slot) (cells slots : Nat), k + n = tn → t ≤ 4 * k → cells ≤ 100 + k → slots ≤ 2000 + 6 * k → LI t S T → va_P D vwCl (WL 40 G (lF cI cS G) (cmb S T)) H → va_S (fun q : Nat => s.heap.size ≤ q) s.heap H locs → lv_has ls 17 [(0, .ref b), (1, .ref (G 0)), (2, .ref (G 36)), (3, .ref (G 37)), (4, .ref (G 38)), (5, .ref (G 39)), (6, .int (nI 1)), (7, .int td), (8, .int (nI tn)), (9, .int (nI k))] → W p l e room_1 s m #[Value.ref b] below meth c H locs cells slots (lw_Z below #[Value.ref b] s) (F0 m 76 ls [])
  | 0, k, t, S, T, td, H, locs, ls, cells, slots, hk, ht, hc, hs, hLI, hP, hS, hl => by
    have ek : k = tn := by omega
    subst ek
    obtain ⟨-, hx, hb, -⟩ := hX
    refine lv_iload hx hb dL_law_76 (lv_at hl 9 rfl) ?_
    refine lv_iload hx hb dL_law_78 (lv_at hl 8 rfl) ?_
    refine lv_icmp_ge (tgt := 648) hx hb dL_law_80 (by decide) (fun _ => ?_) (fun h => absurd (Int32.le_refl _) h)
    refine lv_iload hx hb dL_law_648 (lv_at hl 6 rfl) ?_
    refine x_top (y := 1) (by decide) ?_
    refine va_forget (fun q hq => hS.2.2 q hq) ?_
    refine W.widen (k := 600130) (n := 7301080) (by omega) (by omega) ?_
    exact lw_ret hx hb hr hlocks dL_law_650
  | n + 1, k, t, S, T, td, H, locs, ls, cells, slots, hk, ht, hc, hs, hLI, hP, hS, hl => by
    refine turn_step hX (by omega) (by omega) (show k < tn by omega) htn hLI (by omega) hP hS hl (fun t1 S1 T1 td1 H locs ls ht1 hLI1 hP hS hl => ?_)
    exact law_loop hX hr hlocks htn n (k + 1) t1 S1 T1 td1 H locs ls (cells + 1) (slots + 6) (by omega) (by omega) (by omega) (by omega) hLI1 hP hS hl
set_option maxHeartbeats 4000000 in
set_option maxRecDepth 100000 in
theorem whole_start {p : Program} {e : Env} {s : State} {m : MethodId} {below : List Frame} {meth : Method} {c : Code} (l : Launch) (hflags : l.flags = flags0) {b L : Nat} {xs : Nat → Int32} (hL : L ≤ 260) (C0 : lw_At p s m meth c b L xs) : W p l e room_1 s m #[Value.ref b] below meth c s.heap [] 0 0 (lw_Z below #[Value.ref b] s) (entryFrame m ([Value.ref b] : List Value).toArray 17) := by
  obtain ⟨hx, hb, hr, hml, hown, hts0, hX, hbl, hlocks, hgv⟩ := id C0
  have hb : c.code = cL_law := hb
  have hown : s.vm.findClass RL = some m.cls := hown
  have hfl : l.stackTraces = false := by
    first
      | (unfold Launch.stackTraces; rw [hflags]; rfl)
      | (simp [Launch.stackTraces, hflags, flags0])
  have hts : ∀ w ∈ wsL_law, w.before #[Value.ref b] s = true := fun w hw => hts0 w (wsL_law_in w hw)
  have hA : ∀ q : Nat, s.heap.size ≤ q → (fun q : Nat => s.heap.size ≤ q) q := fun _ h => h
  obtain ⟨D, cI, cS, hK⟩ := law_K hts0
  have hN : NW s := law_NW hts0
  have hO : va_AO RX2 s := law_AO hts0
  have hT : TW s := law_TW hts0 (hK.1 5 _ rfl).2.1
  have hZ : ZQ s.heap.size s := law_ZQ hts0 hgv
  have hS : va_S (fun q : Nat => s.heap.size ≤ q) s.heap s.heap [] := va_S.rf
  have hP : va_P D vwCl [] s.heap := fun k q h => by simp at h
  have hD : va_D (fun q : Nat => s.heap.size ≤ q) [] := ⟨fun i j p q h => by simp at h, fun k q h => by simp at h⟩
  have hl := lv_entry ([.ref b]) (n := 17) (Nat.le_of_ble_eq_true rfl)
  rw [lg_entry_eq]
  generalize (lg_sl ([.ref b]) ++ List.replicate (17 - (lg_sl ([.ref b])).length) Slot.unset).toArray = ls at hl ⊢
  have hl : lv_has ls 17 [(0, .ref b)] := hl
  refine va_new (ci := 5) (fs := [.null, .null, .null, .int 0, .int 0]) (C := RX5) (T := TX5) (N := 5) hx hb hts0 u_in5 tyX5 tyX5_ok hown (hts0 (.classLink RL 8 RX5) (by decide +kernel)) (hts0 (.instantiable RX5 5) (by decide +kernel)) (hts0 (.initialized RX5) (by decide +kernel)) hK hP hD hS hA rfl dvX5 (Nat.le_of_ble_eq_true rfl) (Nat.le_of_ble_eq_true rfl) dL_law_0 (fun q0 H hP hD hS => ?_)
  have hP : va_P D vwCl [(q0, .inr (5, [.null, .null, .null, .int 0, .int 0]))] H := hP
  have hD : va_D (fun q : Nat => s.heap.size ≤ q) [(q0, .inr (5, [.null, .null, .null, .int 0, .int 0]))] := hD
  refine W.widen (k := 1) (n := 5) (by omega) (by omega) ?_
  refine lv_dup hx hb dL_law_3 rfl ?_
  have hFc := va_free (wc := [(q0, .inr (5, [.null, .null, .null, .int 0, .int 0]))]) hD hS hA [0] rfl
  refine va_callv (va_runI (As := []) (rest := [.ref q0]) ⟨hx, hb, hml, hown, hts⟩ (i_X5 l D cI cS q0 H.size) (cwI 0 hts gL_law_X5_init rfl rfl rfl (hts0 (.initialized RX5) (by decide +kernel)) (hts0 (.methodLink RL 65 yX5_init) (by decide +kernel)) (hts0 (.instanceMethod yX5_init) (by decide +kernel)) rfl (by decide +kernel) ⟨Nat.le_of_ble_eq_true rfl, Nat.le_of_ble_eq_true rfl⟩) ⟨iPc_blind, iPc_at hP hK hD hN hO⟩ rfl rfl hl.1 rfl (lv_room (Nat.le_of_ble_eq_true rfl)) dL_law_4 ⟨Nat.le_of_ble_eq_true rfl, Nat.le_of_ble_eq_true rfl⟩) hS (fun q _ h => hFc q h) hFc (fun u t H1 locs ht hvm _ hB hz1 hk1 hS => ?_)
  obtain ⟨hP1, hD1⟩ := hB
  rw [ht] at hP1
  obtain ⟨hP, hD⟩ := va_join (wr := []) (w1 := WL 36 (G5 q0 u) (cF cI cS (G5 q0 u)) S0) hP hD [0] [] rfl rfl (by decide) (by decide) hk1 hFc (iW5_P D cI cS q0 u H1 hP1) (iW5_D _ cI cS q0 u hD1)
  obtain ⟨G0, hG⟩ : ∃ G, G = G5 q0 u := ⟨_, rfl⟩
  have e0 : G0 0 = q0 := by rw [hG]; exact G5_0 q0 u
  rw [← hG] at hP hD
  have hP : va_P D vwCl (WL 36 G0 (cF cI cS G0) S0) H1 := hP
  have hD : va_D (fun q : Nat => s.heap.size ≤ q) (WL 36 G0 (cF cI cS G0) S0) := hD
  refine W.widen (k := 36) (n := 443) (by omega) (by omega) ?_
  refine lv_astore_n (lv' := [(1, .ref q0), (0, .ref b)]) hx hb dL_law_7 rfl hl (by decide) rfl (fun ls hl => ?_)
  refine lv_bipush (v := nI 36) hx hb dL_law_8 (by decide) ?_
  refine va_newa (atype := .int) (a0 := (36, .inl (fun _ => 0))) (ty := .int) (N' := 36) hx hb (hts0 (.arrayClass .int) (by decide +kernel)) rfl hK hP hD hS hA (fun _ => rfl) (nI_pos (by decide)) (nI_clamp (by decide)) (Nat.le_of_ble_eq_true rfl) (Nat.le_of_ble_eq_true rfl) (Nat.le_of_ble_eq_true rfl) dL_law_10 (fun q2 cA H hK1 hP hD hS => ?_)
  have e1 := tY_int hK1
  rw [e1] at hP hD
  refine W.widen (k := 37) (n := 479) (by omega) (by omega) ?_
  refine lv_astore_n (lv' := [(2, .ref q2), (1, .ref q0), (0, .ref b)]) hx hb dL_law_12 rfl hl (by decide) rfl (fun ls hl => ?_)
  refine lv_bipush (v := nI 48) hx hb dL_law_13 (by decide) ?_
  refine va_newa (atype := .int) (a0 := (48, .inl (fun _ => 0))) (ty := .int) (N' := 48) hx hb (hts0 (.arrayClass .int) (by decide +kernel)) rfl hK hP hD hS hA (fun _ => rfl) (nI_pos (by decide)) (nI_clamp (by decide)) (Nat.le_of_ble_eq_true rfl) (Nat.le_of_ble_eq_true rfl) (Nat.le_of_ble_eq_true rfl) dL_law_15 (fun q3 cA H hK1 hP hD hS => ?_)
  have e1 := tY_int hK1
  rw [e1] at hP hD
  refine W.widen (k := 38) (n := 527) (by omega) (by omega) ?_
  refine lv_astore_n (lv' := [(3, .ref q3), (2, .ref q2), (1, .ref q0), (0, .ref b)]) hx hb dL_law_17 rfl hl (by decide) rfl (fun ls hl => ?_)
  refine lv_bipush (v := nI 6) hx hb dL_law_18 (by decide) ?_
  refine va_newa (atype := .int) (a0 := (6, .inl (fun _ => 0))) (ty := .int) (N' := 6) hx hb (hts0 (.arrayClass .int) (by decide +kernel)) rfl hK hP hD hS hA (fun _ => rfl) (nI_pos (by decide)) (nI_clamp (by decide)) (Nat.le_of_ble_eq_true rfl) (Nat.le_of_ble_eq_true rfl) (Nat.le_of_ble_eq_true rfl) dL_law_20 (fun q4 cA H hK1 hP hD hS => ?_)
  have e1 := tY_int hK1
  rw [e1] at hP hD
  refine W.widen (k := 39) (n := 533) (by omega) (by omega) ?_
  refine lv_astore (lv' := [(4, .ref q4), (3, .ref q3), (2, .ref q2), (1, .ref q0), (0, .ref b)]) hx hb dL_law_22 hl (by decide) rfl (fun ls hl => ?_)
  refine lv_bipush (v := nI 6) hx hb dL_law_24 (by decide) ?_
  refine va_newa (atype := .int) (a0 := (6, .inl (fun _ => 0))) (ty := .int) (N' := 6) hx hb (hts0 (.arrayClass .int) (by decide +kernel)) rfl hK hP hD hS hA (fun _ => rfl) (nI_pos (by decide)) (nI_clamp (by decide)) (Nat.le_of_ble_eq_true rfl) (Nat.le_of_ble_eq_true rfl) (Nat.le_of_ble_eq_true rfl) dL_law_26 (fun q5 cA H hK1 hP hD hS => ?_)
  have e1 := tY_int hK1
  rw [e1] at hP hD
  refine W.widen (k := 40) (n := 539) (by omega) (by omega) ?_
  refine lv_astore (lv' := [(5, .ref q5), (4, .ref q4), (3, .ref q3), (2, .ref q2), (1, .ref q0), (0, .ref b)]) hx hb dL_law_28 hl (by decide) rfl (fun ls hl => ?_)
  have hP := P_40 hP
  have hD := D_40 hD
  obtain ⟨G, hGX⟩ : ∃ G, G = GX G0 q2 q3 q4 q5 := ⟨_, rfl⟩
  rw [← hGX] at hP hD
  have g0 : G 0 = q0 := by rw [hGX, GX_lo (by decide), e0]
  have g36 : G 36 = q2 := by rw [hGX]; rfl
  have g37 : G 37 = q3 := by rw [hGX]; rfl
  have g38 : G 38 = q4 := by rw [hGX]; rfl
  have g39 : G 39 = q5 := by rw [hGX]; rfl
  have hl : lv_has ls 17 [(5, .ref (G 39)), (4, .ref (G 38)), (3, .ref (G 37)), (2, .ref (G 36)), (1, .ref (G 0)), (0, .ref b)] := by
    rw [g0, g36, g37, g38, g39]
    exact hl
  refine lv_aload_n hx hb dL_law_30 rfl (lv_at hl 4 rfl) ?_
  refine lv_iconst (v := nI 0) hx hb dL_law_31 (by decide) ?_
  refine lv_iconst (v := nI 0) hx hb dL_law_32 (by decide) ?_
  refine x_pi (va_runS (As := [.ref (G 0), .int (nI 0), .int (nI 0)]) (rest := []) ⟨hx, hb, hml, hown, hts⟩ (c_isSt l D cI cS G S0 H.size 0 0 (nI 0) I0_0 (by decide)) (va_cwS 3 hts gL_law_L_isStation rfl rfl rfl (by decide +kernel) ⟨Nat.le_of_ble_eq_true rfl, Nat.le_of_ble_eq_true rfl⟩) ⟨wPc_blind, wPc_at (L_P hP) hK (L_D hD) hN⟩ rfl rfl hl.1 rfl (lv_room (Nat.le_of_ble_eq_true rfl)) dL_law_33 ⟨Nat.le_of_ble_eq_true rfl, Nat.le_of_ble_eq_true rfl⟩) hS hA (fun q h => h) (fun H locs hz hk hS => ?_)
  have hP := P_kept hP hk
  refine lv_istore (lv' := [(6, .int (nI 1)), (5, .ref (G 39)), (4, .ref (G 38)), (3, .ref (G 37)), (2, .ref (G 36)), (1, .ref (G 0)), (0, .ref b)]) hx hb dL_law_36 hl (by decide) rfl (fun ls hl => ?_)
  have hLX : LX p l s m c b L xs D cI cS G := ⟨hfl, hx, hb, hml, hown, hts, hK, hD, hN, hT, hZ, hX, hbl, hL⟩
  refine lg_T hLX (cells := 40) (slots := 539) (by decide) (by decide) hP hS (lv_sub hl [6, 5, 4, 3, 2, 1, 0] rfl) (fun tn htn H locs ls hP hS hl => ?_)
  exact law_loop hLX hr hlocks htn tn 0 0 S0 T0 (nI 0) H locs ls 40 539 (Nat.zero_add _) (by omega) (by omega) (by omega) LI_0 hP hS hl
