theorem va_P_l {D : va_G} {cl : List vw_C} {w1 w2 : va_W} {H : Heap} (h : va_P D cl (w1 ++ w2) H) : va_P D cl w1 H := fun k q hq => h k q (by rw [List.getElem?_append_left (List.getElem?_eq_some_iff.mp hq).1]; exact hq)
theorem va_P_r {D : va_G} {cl : List vw_C} {w1 w2 : va_W} {H : Heap} (h : va_P D cl (w1 ++ w2) H) : va_P D cl w2 H := fun k q hq => h (w1.length + k) q (by rw [List.getElem?_append_right (by omega), Nat.add_sub_cancel_left]; exact hq)
theorem va_D_l {A : Nat → Prop} {w1 w2 : va_W} (h : va_D A (w1 ++ w2)) : va_D A w1 := ⟨fun i j p q hi hj e => h.1 i j p q (by rw [List.getElem?_append_left (List.getElem?_eq_some_iff.mp hi).1]; exact hi) (by rw [List.getElem?_append_left (List.getElem?_eq_some_iff.mp hj).1]; exact hj) e, fun k q hq => h.2 k q (by rw [List.getElem?_append_left (List.getElem?_eq_some_iff.mp hq).1]; exact hq)⟩
theorem va_D_r {A : Nat → Prop} {w1 w2 : va_W} (h : va_D A (w1 ++ w2)) : va_D A w2 := ⟨fun i j p q hi hj e => by
    have := h.1 (w1.length + i) (w1.length + j) p q (by rw [List.getElem?_append_right (by omega), Nat.add_sub_cancel_left]; exact hi) (by rw [List.getElem?_append_right (by omega), Nat.add_sub_cancel_left]; exact hj) e
    omega, fun k q hq => h.2 (w1.length + k) q (by rw [List.getElem?_append_right (by omega), Nat.add_sub_cancel_left]; exact hq)⟩
theorem va_D_x {A : Nat → Prop} {w1 w2 : va_W} (h : va_D A (w1 ++ w2)) {i j : Nat} {p q : Nat × va_E} (hi : w1[i]? = some p) (hj : w2[j]? = some q) : p.1 ≠ q.1 := fun e => by
  have hl := (List.getElem?_eq_some_iff.mp hi).1
  have := h.1 i (w1.length + j) p q (by rw [List.getElem?_append_left hl]; exact hi) (by rw [List.getElem?_append_right (by omega), Nat.add_sub_cancel_left]; exact hj) e
  omega
theorem WL_any {A : Nat → Prop} {n : Nat} {G : Nat → Nat} {F : Nat → (Nat → Int32) → va_E} {S : Mem} (h : va_D A (WL n G F S)) (S' : Mem) : va_D A (WL n G F S') := va_D_a h (by simp [WL])
set_option maxHeartbeats 4000000 in
set_option maxRecDepth 100000 in
theorem whole_start {p : Program} {e : Env} {s : State} {m : MethodId} {below : List Frame} {meth : Method} {c : Code} (l : Launch) (hflags : l.flags = flags0) {b L : Nat} {xs : Nat → Int32} (hL : L ≤ 2048) (C0 : lw_At p s m meth c b L xs) : W p l e room_1 s m #[Value.ref b] below meth c s.heap [] 0 0 (lw_Z below #[Value.ref b] s) (entryFrame m ([Value.ref b] : List Value).toArray 7) := by
  obtain ⟨hx, hb, hr, hml, hown, hts0, hX, hbl, hlocks, hgv⟩ := id C0
  have hb : c.code = cL_law := hb
  have hown : s.vm.findClass RL = some m.cls := hown
  have hfl : l.stackTraces = false := by
    first
      | (unfold Launch.stackTraces; rw [hflags]; rfl)
      | (simp [Launch.stackTraces, hflags, flags0])
  have hts : ∀ w ∈ wsL_law, w.before #[Value.ref b] s = true := fun w hw => hts0 w (wsL_law_in w hw)
  have hA : ∀ q : Nat, s.heap.size ≤ q → (fun q : Nat => s.heap.size ≤ q) q := fun _ h => h
  obtain ⟨D, cI, cS, cZ, cJ, hK⟩ := law_K hts0
  have hN : NW s := law_NW hts0
  have hO : va_AO RX2 s := law_AO hts0
  have hT : TW s := law_TW hts0 (hK.1 5 _ rfl).2.1
  have hZ : ZQ s.heap.size s := law_ZQ hts0 hgv
  have hC : NC s := law_NC hgv
  have hS : va_S (fun q : Nat => s.heap.size ≤ q) s.heap s.heap [] := va_S.rf
  have hP : va_P D vwCl [] s.heap := fun k q h => by simp at h
  have hD : va_D (fun q : Nat => s.heap.size ≤ q) [] := ⟨fun i j p q h => by simp at h, fun k q h => by simp at h⟩
  have hl := lv_entry ([.ref b]) (n := 7) (Nat.le_of_ble_eq_true rfl)
  rw [lg_entry_eq]
  generalize (lg_sl ([.ref b]) ++ List.replicate (7 - (lg_sl ([.ref b])).length) Slot.unset).toArray = ls at hl ⊢
  have hl : lv_has ls 7 [(0, .ref b)] := hl
  refine va_new (ci := 5) (fs := [.null, .null, .null, .int 0, .int 0]) (C := RX5) (T := TX5) (N := 5) hx hb hts0 u_in5 tyX5 tyX5_ok hown (hts0 (.classLink RL 8 RX5) (by decide +kernel)) (hts0 (.instantiable RX5 5) (by decide +kernel)) (hts0 (.initialized RX5) (by decide +kernel)) hK hP hD hS hA rfl dvX5 (Nat.le_of_ble_eq_true rfl) (Nat.le_of_ble_eq_true rfl) dL_law_0 (fun q0 H hP hD hS => ?_)
  have hP : va_P D vwCl [(q0, .inr (5, [.null, .null, .null, .int 0, .int 0]))] H := hP
  have hD : va_D (fun q : Nat => s.heap.size ≤ q) [(q0, .inr (5, [.null, .null, .null, .int 0, .int 0]))] := hD
  refine W.widen (k := 1) (n := 5) (by omega) (by omega) ?_
  refine lv_dup hx hb dL_law_3 rfl ?_
  have hFc := va_free (wc := [(q0, .inr (5, [.null, .null, .null, .int 0, .int 0]))]) hD hS hA [0] rfl
  refine va_callv (va_runI (As := []) (rest := [.ref q0]) ⟨hx, hb, hml, hown, hts⟩ (i_X5 l D cI cS cZ cJ q0 H.size) (cwI 0 hts gL_law_X5_init rfl rfl rfl (hts0 (.initialized RX5) (by decide +kernel)) (hts0 (.methodLink RL 70 yX5_init) (by decide +kernel)) (hts0 (.instanceMethod yX5_init) (by decide +kernel)) rfl (by decide +kernel) ⟨Nat.le_of_ble_eq_true rfl, Nat.le_of_ble_eq_true rfl⟩) ⟨iPc_blind, iPc_at hP hK hD hN hO⟩ rfl rfl hl.1 rfl (lv_room (Nat.le_of_ble_eq_true rfl)) dL_law_4 ⟨Nat.le_of_ble_eq_true rfl, Nat.le_of_ble_eq_true rfl⟩) hS (fun q _ h => hFc q h) hFc (fun u t H1 locs ht hvm _ hB hz1 hk1 hS => ?_)
  obtain ⟨hP1, hD1⟩ := hB
  rw [ht] at hP1
  obtain ⟨hP, hD⟩ := va_join (wr := []) (w1 := WL 36 (G5 q0 u) (cF cI cS (G5 q0 u)) S0) hP hD [0] [] rfl rfl (by decide) (by decide) hk1 hFc (iW5_P D cI cS cZ q0 u H1 hP1) (iW5_D _ cI cS cZ q0 u hD1)
  obtain ⟨G, hG⟩ : ∃ G, G = G5 q0 u := ⟨_, rfl⟩
  have e0 : G 0 = q0 := by rw [hG]; exact G5_0 q0 u
  rw [← hG] at hP hD
  have hP : va_P D vwCl (WL 36 G (cF cI cS G) S0) H1 := hP
  have hD : va_D (fun q : Nat => s.heap.size ≤ q) (WL 36 G (cF cI cS G) S0) := hD
  refine W.widen (k := 36) (n := 443) (by omega) (by omega) ?_
  refine lv_astore_n (lv' := [(1, .ref q0), (0, .ref b)]) hx hb dL_law_7 rfl hl (by decide) rfl (fun ls hl => ?_)
  refine va_new (ci := 6) (fs := [.int 0, .int 0, .int 0, .null, .null, .null, .null, .null, .null, .null, .null, .null, .null, .null, .null, .null, .null, .null, .null, .null, .null, .null, .int 0]) (C := RX6) (T := TX6) (N := 23) hx hb hts0 u_in6 tyX6 tyX6_ok hown (hts0 (.classLink RL 71 RX6) (by decide +kernel)) (hts0 (.instantiable RX6 23) (by decide +kernel)) (hts0 (.initialized RX6) (by decide +kernel)) hK hP hD hS hA rfl dvX6 (Nat.le_of_ble_eq_true rfl) (Nat.le_of_ble_eq_true rfl) dL_law_8 (fun q1 H hP hD hS => ?_)
  refine W.widen (k := 37) (n := 466) (by omega) (by omega) ?_
  refine lv_dup hx hb dL_law_11 rfl ?_
  have hPc : va_P D vwCl [(q1, .inr (6, [.int 0, .int 0, .int 0, .null, .null, .null, .null, .null, .null, .null, .null, .null, .null, .null, .null, .null, .null, .null, .null, .null, .null, .null, .int 0]))] H := va_P_r hP
  have hDc : va_D (fun q : Nat => s.heap.size ≤ q) [(q1, .inr (6, [.int 0, .int 0, .int 0, .null, .null, .null, .null, .null, .null, .null, .null, .null, .null, .null, .null, .null, .null, .null, .null, .null, .null, .null, .int 0]))] := va_D_r hD
  have hFc := va_free (wc := [(q1, .inr (6, [.int 0, .int 0, .int 0, .null, .null, .null, .null, .null, .null, .null, .null, .null, .null, .null, .null, .null, .null, .null, .null, .null, .null, .null, .int 0]))]) hDc hS hA [0] rfl
  refine va_callv (va_runI (As := []) (rest := [.ref q1]) ⟨hx, hb, hml, hown, hts⟩ (i_X6 l D cI cS cZ cJ q1 H.size) (cwI 0 hts gL_law_X6_init rfl rfl rfl (hts0 (.initialized RX6) (by decide +kernel)) (hts0 (.methodLink RL 73 yX6_init) (by decide +kernel)) (hts0 (.instanceMethod yX6_init) (by decide +kernel)) rfl (by decide +kernel) ⟨Nat.le_of_ble_eq_true rfl, Nat.le_of_ble_eq_true rfl⟩) ⟨iPc_blind, iPc_at hPc hK hDc hN hO⟩ rfl rfl hl.1 rfl (lv_room (Nat.le_of_ble_eq_true rfl)) dL_law_12 ⟨Nat.le_of_ble_eq_true rfl, Nat.le_of_ble_eq_true rfl⟩) hS (fun q _ h => hFc q h) hFc (fun u6 t H1 locs ht hvm _ hB hz1 hk1 hS => ?_)
  obtain ⟨hP1, hD1⟩ := hB
  rw [ht] at hP1
  have hlen : (WL 36 G (cF cI cS G) S0).length = 36 := by simp [WL]
  have hP6 := iW6_P D cI cS cZ q1 u6 H1 hP1
  have hD6 := iW6_D _ cI cS cZ q1 u6 hD1
  obtain ⟨Gm, hGm⟩ : ∃ Gm, Gm = G6 q1 u6 := ⟨_, rfl⟩
  have e1 : Gm 0 = q1 := by rw [hGm]; exact G6_0 q1 u6
  rw [← hGm] at hP6 hD6
  obtain ⟨hP, hD⟩ := va_join (wc := [(q1, .inr (6, [.int 0, .int 0, .int 0, .null, .null, .null, .null, .null, .null, .null, .null, .null, .null, .null, .null, .null, .null, .null, .null, .null, .null, .null, .int 0]))]) (wr := WL 36 G (cF cI cS G) S0) (w1 := WL 20 Gm (mF cI cZ Gm) M0) hP hD [36] (List.range 36) rfl rfl (by decide) (by decide) hk1 hFc hP6 hD6
  refine W.widen (k := 56) (n := 852) (by omega) (by omega) ?_
  refine lv_astore_n (lv' := [(2, .ref q1), (1, .ref q0), (0, .ref b)]) hx hb dL_law_15 rfl hl (by decide) rfl (fun ls hl => ?_)
  refine lv_iconst (v := nI 1) hx hb dL_law_16 (by decide) ?_
  refine va_newa (atype := .long) (a0 := (1, .inr (.inl (fun _ => 0)))) (ty := .long) (N' := 1) hx hb (hts0 (.arrayClass .long) (by decide +kernel)) rfl hK hP hD hS hA (fun _ => rfl) (nI_pos (by decide)) (nI_clamp (by decide)) (Nat.le_of_ble_eq_true rfl) (Nat.le_of_ble_eq_true rfl) (Nat.le_of_ble_eq_true rfl) dL_law_17 (fun o cA H hK1 hP hD hS => ?_)
  have e2 := tY_long hK1
  rw [e2] at hP hD
  refine W.widen (k := 100) (n := 2000) (by omega) (by omega) ?_
  refine lv_astore_n (lv' := [(3, .ref o), (2, .ref q1), (1, .ref q0), (0, .ref b)]) hx hb dL_law_19 rfl hl (by decide) rfl (fun ls hl => ?_)
  refine lv_iconst (v := nI 0) hx hb dL_law_20 (by decide) ?_
  refine lv_istore (lv' := [(4, .int (nI 0)), (3, .ref o), (2, .ref q1), (1, .ref q0), (0, .ref b)]) hx hb dL_law_21 hl (by decide) rfl (fun ls hl => ?_)
  have hLS : LSt D cI cS cZ cJ G Gm o s S0 M0 (fun _ => 0) H locs := ⟨va_P_l (va_P_l hP), va_P_r (va_P_l hP), va_P_r hP, hS⟩
  have hF : LFix D cI cS cZ cJ G Gm o s := by
    refine ⟨WL_any (va_D_l (va_D_l hD)), WL_any (va_D_r (va_D_l hD)), fun k hk h => ?_, fun k hk h => ?_, fun k hk j hj => ?_, (va_D_r hD).2 0 _ rfl, hK, hN, hT, hZ, hC⟩
    · exact va_D_x hD (i := k) (j := 0) (by rw [List.getElem?_append_left (by rw [hlen]; exact hk)]; exact WL_get hk) rfl h.symm
    · exact va_D_x hD (i := 36 + k) (j := 0) (by rw [List.getElem?_append_right (by omega), hlen, Nat.add_sub_cancel_left]; exact WL_get hk) rfl h.symm
    · exact va_D_x (va_D_l hD) (WL_get hk) (WL_get hj)
  have hl : lv_has ls 7 (LV b o 0 G Gm) := by
    show lv_has ls 7 [(4, .int (nI 0)), (3, .ref o), (2, .ref (Gm 0)), (1, .ref (G 0)), (0, .ref b)]
    rw [e0, e1]
    exact hl
  exact law_loop hfl hx hb hr hlocks hml hown hts hX hbl hL hF 513 0 0 S0 M0 (fun _ => 0) H locs ls 100 2000 (by omega) (by omega) (by omega) (by omega) (by omega) rel_0 hLS hl
