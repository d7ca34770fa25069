def f_L_bits (x : Int32) : Int32 := (((x &&& (nI 1)) + ((x >>> ((nI 1) &&& 31)) &&& (nI 1))) + ((x >>> ((nI 2) &&& 31)) &&& (nI 1))) + ((x >>> ((nI 3) &&& 31)) &&& (nI 1))
theorem bits_tab : ∀ p, p < 16 → f_L_bits (nI p) = nI (ppc p) := by decide +kernel
set_option maxHeartbeats 1000000 in
set_option maxRecDepth 100000 in
theorem c_L_bits (l : Launch) (sz : Nat) (x : Int32) : Met l yL_bits wsL_bits ({ frames := 1, cells := 0, slots := 0, locals := 20 } : Room) (sPc sz [.int x]) (pQi (f_L_bits x) sz) 0 0 (fun q => sz ≤ q) := by
  refine x_sta (cc := cL_bits) (maxL := 1) (ret := (some .int)) (by decide) rfl (Nat.le_of_ble_eq_true rfl) ?_
  intro p e s m below meth c ls hx hb hr hml hts hown hlocks hsz hN hl
  subst hsz
  have hl : lv_has ls 1 [(0, .int x)] := hl
  have hS : va_S (fun q => s.heap.size ≤ q) s.heap s.heap [] := va_S.rf
  refine lv_iload_n hx hb dL_bits_0 rfl (lv_at hl 0 rfl) ?_
  refine lv_iconst (v := nI 1) hx hb dL_bits_1 (by decide) ?_
  refine lv_iand hx hb dL_bits_2 ?_
  refine lv_iload_n hx hb dL_bits_3 rfl (lv_at hl 0 rfl) ?_
  refine lv_iconst (v := nI 1) hx hb dL_bits_4 (by decide) ?_
  refine lv_ishr hx hb dL_bits_5 ?_
  refine lv_iconst (v := nI 1) hx hb dL_bits_6 (by decide) ?_
  refine lv_iand hx hb dL_bits_7 ?_
  refine lv_iadd hx hb dL_bits_8 ?_
  refine lv_iload_n hx hb dL_bits_9 rfl (lv_at hl 0 rfl) ?_
  refine lv_iconst (v := nI 2) hx hb dL_bits_10 (by decide) ?_
  refine lv_ishr hx hb dL_bits_11 ?_
  refine lv_iconst (v := nI 1) hx hb dL_bits_12 (by decide) ?_
  refine lv_iand hx hb dL_bits_13 ?_
  refine lv_iadd hx hb dL_bits_14 ?_
  refine lv_iload_n hx hb dL_bits_15 rfl (lv_at hl 0 rfl) ?_
  refine lv_iconst (v := nI 3) hx hb dL_bits_16 (by decide) ?_
  refine lv_ishr hx hb dL_bits_17 ?_
  refine lv_iconst (v := nI 1) hx hb dL_bits_18 (by decide) ?_
  refine lv_iand hx hb dL_bits_19 ?_
  refine lv_iadd hx hb dL_bits_20 ?_
  exact x_ret_p hx hb hr rfl hlocks hS dL_bits_21 rfl
set_option maxHeartbeats 4000000 in
set_option maxRecDepth 100000 in
theorem c_L_isStation (l : Launch) (D : va_G) (cI cS : ClassId) (G : Nat → Nat) (S : Mem) (sz : Nat) (i : Nat) (its : Int32) (hi : i < 6) (w : Int32) (fa : Nat) (wt : Int32) (z t cn a d : Nat) (on pl : Int32) (hw : S (6 + 5 * i) 1 = w) (hfa : S (6 + 5 * i) 3 = nI fa) (hfa5 : fa < 5) (hwt : S (6 + 5 * i) 2 = wt) (hwt1 : ¬ wt < (-1)) (hwt2 : ¬ nI 31 < wt) (hsl : S (6 + 5 * i) 4 = nI z) (hsl8 : z ≤ t + 8) (ht : S 0 1 = nI t) (ht5 : t < 200000) (hw4 : ¬ w = nI 3 → ¬ w = nI 7 → ¬ w = nI 15 → w = nI 31) (hon : S (8 + 5 * i) 0 = on) (hnar : narrow .boolean (.int on) = .int on) (hon1 : ¬ on = 0 → wt = (-1) ∧ 0 < cn) (hc : S (7 + 5 * i) 0 = nI cn) (hc5 : cn ≤ 5) (hpl : f_X0_partsOfFirst S i = pl) (hp0 : nI cn = 0 → pl = 0) (hp1 : ¬ nI cn = 0 → ¬ pl = 0) (hpl16 : ¬ nI 16 ≤ pl) (ha : S (6 + 5 * i) 7 = nI a) (hab : f_X5_airtimeBySendings S i = nI a) (hd : S (6 + 5 * i) 5 = nI d) (hda : 2 * d ≤ a) (hat : a ≤ t) (hlast : ¬ 0 < nI cn → wt = (-1)) : Met l yL_isStation wsL_isStation ({ frames := 3, cells := 0, slots := 0, locals := 64 } : Room) (wPc 36 (cF cI cS G) D (tY cI cS) G S sz [.ref (G 0), .int (nI i), .int its]) (pQi (nI 1) sz) 0 0 (fun q => sz ≤ q) := by
  refine x_met (cc := cL_isStation) (maxL := 8) (ret := (some .boolean)) (by decide) rfl (Nat.le_of_ble_eq_true rfl) ?_
  intro p e s m below meth c ls hx hb hr hml hts hown hlocks hsz hP hK hD hN hl hnm
  subst hsz
  have hown : s.vm.findClass RL = some m.cls := hown
  have hl : lv_has ls 8 [(0, .ref (G 0)), (1, .int (nI i)), (2, .int its)] := hl
  have hA : ∀ q : Nat, s.heap.size ≤ q → (fun q => s.heap.size ≤ q) q := fun q h => h
  have hS : va_S (fun q => s.heap.size ≤ q) s.heap s.heap [] := va_S.rf
  have J215 : ∀ (H : Heap) (locs : List Loc) (ls : Array Slot), va_P D vwCl (WL 36 G (cF cI cS G) S) H → va_S (fun q => s.heap.size ≤ q) s.heap H locs → lv_has ls 8 [(0, .ref (G 0)), (1, .int (nI i)), (4, .int w), (5, .int (nI fa)), (6, .int wt)] → W p l e ({ frames := 3, cells := 0, slots := 0, locals := 64 } : Room) s m ([.ref (G 0), .int (nI i), .int its] : List Value).toArray below meth c H locs 0 0 (MQ below (pQi (nI 1) s.heap.size) ([.ref (G 0), .int (nI i), .int its] : List Value).toArray s 0 0 (fun q => s.heap.size ≤ q)) (F0 m 215 ls []) := by
    intro H locs ls hP hS hl
    refine lv_aload_n hx hb dL_isStation_215 rfl (lv_at hl 0 rfl) ?_
    refine lv_iload_n hx hb dL_isStation_216 rfl (lv_at hl 1 rfl) ?_
    refine x_pi (va_runV (As := [.int (nI i)]) (rest := []) ⟨hx, hb, hml, hown, hts⟩ (c_X5_partsLeft l D cI cS G S H.size i (by omega)) (cwV 1 hts gL_isStation_X5_partsLeft rfl rfl rfl (by decide +kernel) ⟨Nat.le_of_ble_eq_true rfl, Nat.le_of_ble_eq_true rfl⟩) ⟨wPc_blind, va_recv hK hP (ci := 5) (q0 := 0) rfl (WL_at (by decide) (cF_air _)), wPc_at hP hK hD hN⟩ rfl rfl hl.1 rfl (lv_room (Nat.le_of_ble_eq_true rfl)) dL_isStation_217 ⟨Nat.le_of_ble_eq_true rfl, Nat.le_of_ble_eq_true rfl⟩) hS hA (fun q h => h) (fun H locs hz hk hS => ?_)
    have hP := P_kept hP hk
    refine x_top (y := pl) ((f_X5_partsLeft_d _ _).trans hpl) ?_
    refine lv_bipush (v := nI 16) hx hb dL_isStation_220 (by decide) ?_
    refine lv_icmp_ge (tgt := 229) hx hb dL_isStation_222 (by decide) (fun c_8001 => absurd c_8001 hpl16) (fun _ => ?_)
    refine lv_iconst (v := nI 1) hx hb dL_isStation_225 (by decide) ?_
    refine lv_goto (tgt := 230) hx hb dL_isStation_226 (by decide) ?_
    refine lv_istore (lv' := [(7, .int (nI 1)), (0, .ref (G 0)), (1, .int (nI i)), (4, .int w), (5, .int (nI fa)), (6, .int wt)]) hx hb dL_isStation_230 hl (by decide) rfl (fun ls hl => ?_)
    refine lv_iload hx hb dL_isStation_232 (lv_at hl 0 rfl) ?_
    refine lv_if_eq (tgt := 300) hx hb dL_isStation_234 (by decide) (fun c_8002 => absurd c_8002 (by decide)) (fun _ => ?_)
    refine lv_aload_n hx hb dL_isStation_237 rfl (lv_at hl 1 rfl) ?_
    refine lv_iload_n hx hb dL_isStation_238 rfl (lv_at hl 2 rfl) ?_
    refine x_pi (va_runV (As := [.int (nI i)]) (rest := []) ⟨hx, hb, hml, hown, hts⟩ (c_X5_airtime l D cI cS G S H.size i (by omega)) (cwV 1 hts gL_isStation_X5_airtime rfl rfl rfl (by decide +kernel) ⟨Nat.le_of_ble_eq_true rfl, Nat.le_of_ble_eq_true rfl⟩) ⟨wPc_blind, va_recv hK hP (ci := 5) (q0 := 0) rfl (WL_at (by decide) (cF_air _)), wPc_at hP hK hD hN⟩ rfl rfl hl.1 rfl (lv_room (Nat.le_of_ble_eq_true rfl)) dL_isStation_239 ⟨Nat.le_of_ble_eq_true rfl, Nat.le_of_ble_eq_true rfl⟩) hS hA (fun q h => h) (fun H locs hz hk hS => ?_)
    have hP := P_kept hP hk
    refine x_top (y := nI a) ((f_X5_airtime_d _ _).trans ha) ?_
    refine lv_aload_n hx hb dL_isStation_242 rfl (lv_at hl 1 rfl) ?_
    refine lv_iload_n hx hb dL_isStation_243 rfl (lv_at hl 2 rfl) ?_
    refine x_pi (va_runV (As := [.int (nI i)]) (rest := [.int (nI a)]) ⟨hx, hb, hml, hown, hts⟩ (c_X5_airtimeBySendings l D cI cS G S H.size i (by omega)) (cwV 1 hts gL_isStation_X5_airtimeBySendings rfl rfl rfl (by decide +kernel) ⟨Nat.le_of_ble_eq_true rfl, Nat.le_of_ble_eq_true rfl⟩) ⟨wPc_blind, va_recv hK hP (ci := 5) (q0 := 0) rfl (WL_at (by decide) (cF_air _)), wPc_at hP hK hD hN⟩ rfl rfl hl.1 rfl (lv_room (Nat.le_of_ble_eq_true rfl)) dL_isStation_244 ⟨Nat.le_of_ble_eq_true rfl, Nat.le_of_ble_eq_true rfl⟩) hS hA (fun q h => h) (fun H locs hz hk hS => ?_)
    have hP := P_kept hP hk
    refine x_top (y := nI a) (hab) ?_
    refine lv_icmp_ne (tgt := 300) hx hb dL_isStation_247 (by decide) (fun c_8003 => absurd rfl c_8003) (fun _ => ?_)
    refine lv_aload_n hx hb dL_isStation_250 rfl (lv_at hl 1 rfl) ?_
    refine lv_iload_n hx hb dL_isStation_251 rfl (lv_at hl 2 rfl) ?_
    refine x_pi (va_runV (As := [.int (nI i)]) (rest := []) ⟨hx, hb, hml, hown, hts⟩ (c_X5_airtime l D cI cS G S H.size i (by omega)) (cwV 1 hts gL_isStation_X5_airtime rfl rfl rfl (by decide +kernel) ⟨Nat.le_of_ble_eq_true rfl, Nat.le_of_ble_eq_true rfl⟩) ⟨wPc_blind, va_recv hK hP (ci := 5) (q0 := 0) rfl (WL_at (by decide) (cF_air _)), wPc_at hP hK hD hN⟩ rfl rfl hl.1 rfl (lv_room (Nat.le_of_ble_eq_true rfl)) dL_isStation_252 ⟨Nat.le_of_ble_eq_true rfl, Nat.le_of_ble_eq_true rfl⟩) hS hA (fun q h => h) (fun H locs hz hk hS => ?_)
    have hP := P_kept hP hk
    refine x_top (y := nI a) ((f_X5_airtime_d _ _).trans ha) ?_
    refine lv_iconst (v := nI 2) hx hb dL_isStation_255 (by decide) ?_
    refine lv_aload_n hx hb dL_isStation_256 rfl (lv_at hl 1 rfl) ?_
    refine lv_iload_n hx hb dL_isStation_257 rfl (lv_at hl 2 rfl) ?_
    refine x_pi (va_runV (As := [.int (nI i)]) (rest := [.int (nI 2), .int (nI a)]) ⟨hx, hb, hml, hown, hts⟩ (c_X5_delivered l D cI cS G S H.size i (by omega)) (cwV 1 hts gL_isStation_X5_delivered rfl rfl rfl (by decide +kernel) ⟨Nat.le_of_ble_eq_true rfl, Nat.le_of_ble_eq_true rfl⟩) ⟨wPc_blind, va_recv hK hP (ci := 5) (q0 := 0) rfl (WL_at (by decide) (cF_air _)), wPc_at hP hK hD hN⟩ rfl rfl hl.1 rfl (lv_room (Nat.le_of_ble_eq_true rfl)) dL_isStation_258 ⟨Nat.le_of_ble_eq_true rfl, Nat.le_of_ble_eq_true rfl⟩) hS hA (fun q h => h) (fun H locs hz hk hS => ?_)
    have hP := P_kept hP hk
    refine x_top (y := nI d) ((f_X5_delivered_d _ _).trans hd) ?_
    refine x_imulN hx hb dL_isStation_261 ?_
    refine lv_icmp_lt (tgt := 300) hx hb dL_isStation_262 (by decide) (fun c_8004 => absurd c_8004 (nI_nlt hda (by omega))) (fun _ => ?_)
    refine lv_aload_n hx hb dL_isStation_265 rfl (lv_at hl 1 rfl) ?_
    refine lv_iload_n hx hb dL_isStation_266 rfl (lv_at hl 2 rfl) ?_
    refine x_pi (va_runV (As := [.int (nI i)]) (rest := []) ⟨hx, hb, hml, hown, hts⟩ (c_X5_airtime l D cI cS G S H.size i (by omega)) (cwV 1 hts gL_isStation_X5_airtime rfl rfl rfl (by decide +kernel) ⟨Nat.le_of_ble_eq_true rfl, Nat.le_of_ble_eq_true rfl⟩) ⟨wPc_blind, va_recv hK hP (ci := 5) (q0 := 0) rfl (WL_at (by decide) (cF_air _)), wPc_at hP hK hD hN⟩ rfl rfl hl.1 rfl (lv_room (Nat.le_of_ble_eq_true rfl)) dL_isStation_267 ⟨Nat.le_of_ble_eq_true rfl, Nat.le_of_ble_eq_true rfl⟩) hS hA (fun q h => h) (fun H locs hz hk hS => ?_)
    have hP := P_kept hP hk
    refine x_top (y := nI a) ((f_X5_airtime_d _ _).trans ha) ?_
    refine lv_aload_n hx hb dL_isStation_270 rfl (lv_at hl 1 rfl) ?_
    refine x_pi (va_runV (As := []) (rest := [.int (nI a)]) ⟨hx, hb, hml, hown, hts⟩ (c_X5_now l D cI cS G S H.size  ) (cwV 0 hts gL_isStation_X5_now rfl rfl rfl (by decide +kernel) ⟨Nat.le_of_ble_eq_true rfl, Nat.le_of_ble_eq_true rfl⟩) ⟨wPc_blind, va_recv hK hP (ci := 5) (q0 := 0) rfl (WL_at (by decide) (cF_air _)), wPc_at hP hK hD hN⟩ rfl rfl hl.1 rfl (lv_room (Nat.le_of_ble_eq_true rfl)) dL_isStation_271 ⟨Nat.le_of_ble_eq_true rfl, Nat.le_of_ble_eq_true rfl⟩) hS hA (fun q h => h) (fun H locs hz hk hS => ?_)
    have hP := P_kept hP hk
    refine x_top (y := nI t) ((f_X5_now_d _).trans ht) ?_
    refine lv_icmp_gt (tgt := 300) hx hb dL_isStation_274 (by decide) (fun c_8005 => absurd c_8005 (nI_nlt hat (by omega))) (fun _ => ?_)
    refine lv_iload hx hb dL_isStation_277 (lv_at hl 4 rfl) ?_
    refine lv_if_gt (tgt := 296) hx hb dL_isStation_279 (by decide) (fun c_8006 => ?_) (fun c_8006 => ?_)
    · refine lv_iconst (v := nI 1) hx hb dL_isStation_296 (by decide) ?_
      refine lv_goto (tgt := 301) hx hb dL_isStation_297 (by decide) ?_
      exact x_ret_p hx hb hr rfl hlocks hS dL_isStation_301 rfl
    · have h279 := c_8006
      refine lv_aload_n hx hb dL_isStation_282 rfl (lv_at hl 1 rfl) ?_
      refine lv_iload_n hx hb dL_isStation_283 rfl (lv_at hl 2 rfl) ?_
      refine x_pi (va_runV (As := [.int (nI i)]) (rest := []) ⟨hx, hb, hml, hown, hts⟩ (c_X5_frames l D cI cS G S H.size i (by omega)) (cwV 1 hts gL_isStation_X5_frames rfl rfl rfl (by decide +kernel) ⟨Nat.le_of_ble_eq_true rfl, Nat.le_of_ble_eq_true rfl⟩) ⟨wPc_blind, va_recv hK hP (ci := 5) (q0 := 0) rfl (WL_at (by decide) (cF_air _)), wPc_at hP hK hD hN⟩ rfl rfl hl.1 rfl (lv_room (Nat.le_of_ble_eq_true rfl)) dL_isStation_284 ⟨Nat.le_of_ble_eq_true rfl, Nat.le_of_ble_eq_true rfl⟩) hS hA (fun q h => h) (fun H locs hz hk hS => ?_)
      have hP := P_kept hP hk
      refine x_top (y := nI cn) ((f_X5_frames_d _ _).trans hc) ?_
      refine lv_if_gt (tgt := 296) hx hb dL_isStation_287 (by decide) (fun c_8007 => ?_) (fun c_8007 => ?_)
      · refine lv_iconst (v := nI 1) hx hb dL_isStation_296 (by decide) ?_
        refine lv_goto (tgt := 301) hx hb dL_isStation_297 (by decide) ?_
        exact x_ret_p hx hb hr rfl hlocks hS dL_isStation_301 rfl
      · have h287 := c_8007
        refine lv_iload hx hb dL_isStation_290 (lv_at hl 5 rfl) ?_
        refine lv_iconst (v := (-1)) hx hb dL_isStation_292 (by decide) ?_
        refine lv_icmp_ne (tgt := 300) hx hb dL_isStation_293 (by decide) (fun c_8008 => absurd (hlast h287) c_8008) (fun _ => ?_)
        refine lv_iconst (v := nI 1) hx hb dL_isStation_296 (by decide) ?_
        refine lv_goto (tgt := 301) hx hb dL_isStation_297 (by decide) ?_
        exact x_ret_p hx hb hr rfl hlocks hS dL_isStation_301 rfl
  have J157 : ∀ (H : Heap) (locs : List Loc) (ls : Array Slot), va_P D vwCl (WL 36 G (cF cI cS G) S) H → va_S (fun q => s.heap.size ≤ q) s.heap H locs → lv_has ls 8 [(0, .ref (G 0)), (1, .int (nI i)), (4, .int w), (5, .int (nI fa)), (6, .int wt)] → W p l e ({ frames := 3, cells := 0, slots := 0, locals := 64 } : Room) s m ([.ref (G 0), .int (nI i), .int its] : List Value).toArray below meth c H locs 0 0 (MQ below (pQi (nI 1) s.heap.size) ([.ref (G 0), .int (nI i), .int its] : List Value).toArray s 0 0 (fun q => s.heap.size ≤ q)) (F0 m 157 ls []) := by
    intro H locs ls hP hS hl
    refine lv_iconst (v := nI 1) hx hb dL_isStation_157 (by decide) ?_
    refine lv_goto (tgt := 162) hx hb dL_isStation_158 (by decide) ?_
    refine lv_istore (lv' := [(7, .int (nI 1)), (0, .ref (G 0)), (1, .int (nI i)), (4, .int w), (5, .int (nI fa)), (6, .int wt)]) hx hb dL_isStation_162 hl (by decide) rfl (fun ls hl => ?_)
    refine lv_iload hx hb dL_isStation_164 (lv_at hl 0 rfl) ?_
    refine lv_if_eq (tgt := 229) hx hb dL_isStation_166 (by decide) (fun c_3001 => absurd c_3001 (by decide)) (fun _ => ?_)
    refine lv_aload_n hx hb dL_isStation_169 rfl (lv_at hl 1 rfl) ?_
    refine lv_iload_n hx hb dL_isStation_170 rfl (lv_at hl 2 rfl) ?_
    refine x_pi (va_runV (As := [.int (nI i)]) (rest := []) ⟨hx, hb, hml, hown, hts⟩ (c_X5_frames l D cI cS G S H.size i (by omega)) (cwV 1 hts gL_isStation_X5_frames rfl rfl rfl (by decide +kernel) ⟨Nat.le_of_ble_eq_true rfl, Nat.le_of_ble_eq_true rfl⟩) ⟨wPc_blind, va_recv hK hP (ci := 5) (q0 := 0) rfl (WL_at (by decide) (cF_air _)), wPc_at hP hK hD hN⟩ rfl rfl hl.1 rfl (lv_room (Nat.le_of_ble_eq_true rfl)) dL_isStation_171 ⟨Nat.le_of_ble_eq_true rfl, Nat.le_of_ble_eq_true rfl⟩) hS hA (fun q h => h) (fun H locs hz hk hS => ?_)
    have hP := P_kept hP hk
    refine x_top (y := nI cn) ((f_X5_frames_d _ _).trans hc) ?_
    refine lv_if_lt (tgt := 229) hx hb dL_isStation_174 (by decide) (fun c_3002 => absurd c_3002 (nI_pos (by omega))) (fun _ => ?_)
    refine lv_aload_n hx hb dL_isStation_177 rfl (lv_at hl 1 rfl) ?_
    refine lv_iload_n hx hb dL_isStation_178 rfl (lv_at hl 2 rfl) ?_
    refine x_pi (va_runV (As := [.int (nI i)]) (rest := []) ⟨hx, hb, hml, hown, hts⟩ (c_X5_frames l D cI cS G S H.size i (by omega)) (cwV 1 hts gL_isStation_X5_frames rfl rfl rfl (by decide +kernel) ⟨Nat.le_of_ble_eq_true rfl, Nat.le_of_ble_eq_true rfl⟩) ⟨wPc_blind, va_recv hK hP (ci := 5) (q0 := 0) rfl (WL_at (by decide) (cF_air _)), wPc_at hP hK hD hN⟩ rfl rfl hl.1 rfl (lv_room (Nat.le_of_ble_eq_true rfl)) dL_isStation_179 ⟨Nat.le_of_ble_eq_true rfl, Nat.le_of_ble_eq_true rfl⟩) hS hA (fun q h => h) (fun H locs hz hk hS => ?_)
    have hP := P_kept hP hk
    refine x_top (y := nI cn) ((f_X5_frames_d _ _).trans hc) ?_
    refine lv_iconst (v := nI 5) hx hb dL_isStation_182 (by decide) ?_
    refine lv_icmp_gt (tgt := 229) hx hb dL_isStation_183 (by decide) (fun c_3003 => absurd c_3003 (nI_nlt (by omega) (by omega))) (fun _ => ?_)
    refine lv_aload_n hx hb dL_isStation_186 rfl (lv_at hl 1 rfl) ?_
    refine lv_iload_n hx hb dL_isStation_187 rfl (lv_at hl 2 rfl) ?_
    refine x_pi (va_runV (As := [.int (nI i)]) (rest := []) ⟨hx, hb, hml, hown, hts⟩ (c_X5_frames l D cI cS G S H.size i (by omega)) (cwV 1 hts gL_isStation_X5_frames rfl rfl rfl (by decide +kernel) ⟨Nat.le_of_ble_eq_true rfl, Nat.le_of_ble_eq_true rfl⟩) ⟨wPc_blind, va_recv hK hP (ci := 5) (q0 := 0) rfl (WL_at (by decide) (cF_air _)), wPc_at hP hK hD hN⟩ rfl rfl hl.1 rfl (lv_room (Nat.le_of_ble_eq_true rfl)) dL_isStation_188 ⟨Nat.le_of_ble_eq_true rfl, Nat.le_of_ble_eq_true rfl⟩) hS hA (fun q h => h) (fun H locs hz hk hS => ?_)
    have hP := P_kept hP hk
    refine x_top (y := nI cn) ((f_X5_frames_d _ _).trans hc) ?_
    refine lv_if_ne (tgt := 198) hx hb dL_isStation_191 (by decide) (fun c_3004 => ?_) (fun c_3004 => ?_)
    · have h191 := c_3004
      refine lv_iconst (v := nI 0) hx hb dL_isStation_198 (by decide) ?_
      refine lv_aload_n hx hb dL_isStation_199 rfl (lv_at hl 1 rfl) ?_
      refine lv_iload_n hx hb dL_isStation_200 rfl (lv_at hl 2 rfl) ?_
      refine x_pi (va_runV (As := [.int (nI i)]) (rest := [.int (nI 0)]) ⟨hx, hb, hml, hown, hts⟩ (c_X5_partsLeft l D cI cS G S H.size i (by omega)) (cwV 1 hts gL_isStation_X5_partsLeft rfl rfl rfl (by decide +kernel) ⟨Nat.le_of_ble_eq_true rfl, Nat.le_of_ble_eq_true rfl⟩) ⟨wPc_blind, va_recv hK hP (ci := 5) (q0 := 0) rfl (WL_at (by decide) (cF_air _)), wPc_at hP hK hD hN⟩ rfl rfl hl.1 rfl (lv_room (Nat.le_of_ble_eq_true rfl)) dL_isStation_201 ⟨Nat.le_of_ble_eq_true rfl, Nat.le_of_ble_eq_true rfl⟩) hS hA (fun q h => h) (fun H locs hz hk hS => ?_)
      have hP := P_kept hP hk
      refine x_top (y := pl) ((f_X5_partsLeft_d _ _).trans hpl) ?_
      refine lv_if_ne (tgt := 211) hx hb dL_isStation_204 (by decide) (fun _ => ?_) (fun c_3005 => absurd c_3005 (hp1 h191))
      refine lv_iconst (v := nI 0) hx hb dL_isStation_211 (by decide) ?_
      refine lv_icmp_ne (tgt := 229) hx hb dL_isStation_212 (by decide) (fun c_3006 => absurd (by decide) c_3006) (fun _ => ?_)
      exact J215 H locs ls hP hS (lv_sub hl [1, 2, 3, 4, 5] rfl)
    · have h191 := c_3004
      refine lv_iconst (v := nI 1) hx hb dL_isStation_194 (by decide) ?_
      refine lv_goto (tgt := 199) hx hb dL_isStation_195 (by decide) ?_
      refine lv_aload_n hx hb dL_isStation_199 rfl (lv_at hl 1 rfl) ?_
      refine lv_iload_n hx hb dL_isStation_200 rfl (lv_at hl 2 rfl) ?_
      refine x_pi (va_runV (As := [.int (nI i)]) (rest := [.int (nI 1)]) ⟨hx, hb, hml, hown, hts⟩ (c_X5_partsLeft l D cI cS G S H.size i (by omega)) (cwV 1 hts gL_isStation_X5_partsLeft rfl rfl rfl (by decide +kernel) ⟨Nat.le_of_ble_eq_true rfl, Nat.le_of_ble_eq_true rfl⟩) ⟨wPc_blind, va_recv hK hP (ci := 5) (q0 := 0) rfl (WL_at (by decide) (cF_air _)), wPc_at hP hK hD hN⟩ rfl rfl hl.1 rfl (lv_room (Nat.le_of_ble_eq_true rfl)) dL_isStation_201 ⟨Nat.le_of_ble_eq_true rfl, Nat.le_of_ble_eq_true rfl⟩) hS hA (fun q h => h) (fun H locs hz hk hS => ?_)
      have hP := P_kept hP hk
      refine x_top (y := pl) ((f_X5_partsLeft_d _ _).trans hpl) ?_
      refine lv_if_ne (tgt := 211) hx hb dL_isStation_204 (by decide) (fun c_3007 => absurd (hp0 h191) c_3007) (fun _ => ?_)
      refine lv_iconst (v := nI 1) hx hb dL_isStation_207 (by decide) ?_
      refine lv_goto (tgt := 212) hx hb dL_isStation_208 (by decide) ?_
      refine lv_icmp_ne (tgt := 229) hx hb dL_isStation_212 (by decide) (fun c_3008 => absurd (by decide) c_3008) (fun _ => ?_)
      exact J215 H locs ls hP hS (lv_sub hl [1, 2, 3, 4, 5] rfl)
  have J135 : ∀ (H : Heap) (locs : List Loc) (ls : Array Slot), va_P D vwCl (WL 36 G (cF cI cS G) S) H → va_S (fun q => s.heap.size ≤ q) s.heap H locs → lv_has ls 8 [(0, .ref (G 0)), (1, .int (nI i)), (4, .int w), (5, .int (nI fa)), (6, .int wt)] → W p l e ({ frames := 3, cells := 0, slots := 0, locals := 64 } : Room) s m ([.ref (G 0), .int (nI i), .int its] : List Value).toArray below meth c H locs 0 0 (MQ below (pQi (nI 1) s.heap.size) ([.ref (G 0), .int (nI i), .int its] : List Value).toArray s 0 0 (fun q => s.heap.size ≤ q)) (F0 m 135 ls []) := by
    intro H locs ls hP hS hl
    refine lv_aload_n hx hb dL_isStation_135 rfl (lv_at hl 0 rfl) ?_
    refine lv_iload_n hx hb dL_isStation_136 rfl (lv_at hl 1 rfl) ?_
    refine x_pi (va_runV (As := [.int (nI i)]) (rest := []) ⟨hx, hb, hml, hown, hts⟩ (c_X5_sends l D cI cS G S H.size i hi (by rw [hon]; exact hnar)) (cwV 1 hts gL_isStation_X5_sends rfl rfl rfl (by decide +kernel) ⟨Nat.le_of_ble_eq_true rfl, Nat.le_of_ble_eq_true rfl⟩) ⟨wPc_blind, va_recv hK hP (ci := 5) (q0 := 0) rfl (WL_at (by decide) (cF_air _)), wPc_at hP hK hD hN⟩ rfl rfl hl.1 rfl (lv_room (Nat.le_of_ble_eq_true rfl)) dL_isStation_137 ⟨Nat.le_of_ble_eq_true rfl, Nat.le_of_ble_eq_true rfl⟩) hS hA (fun q h => h) (fun H locs hz hk hS => ?_)
    have hP := P_kept hP hk
    refine x_top (y := on) ((f_X5_sends_d _ _).trans hon) ?_
    refine lv_if_eq (tgt := 157) hx hb dL_isStation_140 (by decide) (fun c_4001 => ?_) (fun c_4001 => ?_)
    · exact J157 H locs ls hP hS (lv_sub hl [0, 1, 2, 3, 4] rfl)
    · have h140 := c_4001
      refine lv_iload hx hb dL_isStation_143 (lv_at hl 4 rfl) ?_
      refine lv_iconst (v := (-1)) hx hb dL_isStation_145 (by decide) ?_
      refine lv_icmp_ne (tgt := 161) hx hb dL_isStation_146 (by decide) (fun c_4002 => absurd (hon1 h140).1 c_4002) (fun _ => ?_)
      refine lv_aload_n hx hb dL_isStation_149 rfl (lv_at hl 0 rfl) ?_
      refine lv_iload_n hx hb dL_isStation_150 rfl (lv_at hl 1 rfl) ?_
      refine x_pi (va_runV (As := [.int (nI i)]) (rest := []) ⟨hx, hb, hml, hown, hts⟩ (c_X5_frames l D cI cS G S H.size i (by omega)) (cwV 1 hts gL_isStation_X5_frames rfl rfl rfl (by decide +kernel) ⟨Nat.le_of_ble_eq_true rfl, Nat.le_of_ble_eq_true rfl⟩) ⟨wPc_blind, va_recv hK hP (ci := 5) (q0 := 0) rfl (WL_at (by decide) (cF_air _)), wPc_at hP hK hD hN⟩ rfl rfl hl.1 rfl (lv_room (Nat.le_of_ble_eq_true rfl)) dL_isStation_151 ⟨Nat.le_of_ble_eq_true rfl, Nat.le_of_ble_eq_true rfl⟩) hS hA (fun q h => h) (fun H locs hz hk hS => ?_)
      have hP := P_kept hP hk
      refine x_top (y := nI cn) ((f_X5_frames_d _ _).trans hc) ?_
      refine lv_if_le (tgt := 161) hx hb dL_isStation_154 (by decide) (fun c_4003 => absurd c_4003 (nI_nle (hon1 h140).2 (by omega))) (fun _ => ?_)
      exact J157 H locs ls hP hS (lv_sub hl [0, 1, 2, 3, 4] rfl)
  have J118 : ∀ (H : Heap) (locs : List Loc) (ls : Array Slot), va_P D vwCl (WL 36 G (cF cI cS G) S) H → va_S (fun q => s.heap.size ≤ q) s.heap H locs → lv_has ls 8 [(0, .ref (G 0)), (1, .int (nI i)), (4, .int w), (5, .int (nI fa)), (6, .int wt), (3, .int ((if its = 0 then nI 3 else nI 7)))] → W p l e ({ frames := 3, cells := 0, slots := 0, locals := 64 } : Room) s m ([.ref (G 0), .int (nI i), .int its] : List Value).toArray below meth c H locs 0 0 (MQ below (pQi (nI 1) s.heap.size) ([.ref (G 0), .int (nI i), .int its] : List Value).toArray s 0 0 (fun q => s.heap.size ≤ q)) (F0 m 118 ls []) := by
    intro H locs ls hP hS hl
    refine lv_iload hx hb dL_isStation_118 (lv_at hl 2 rfl) ?_
    refine lv_iload_n hx hb dL_isStation_120 rfl (lv_at hl 5 rfl) ?_
    refine lv_iload hx hb dL_isStation_121 (lv_at hl 2 rfl) ?_
    refine lv_icmp_ge (tgt := 130) hx hb dL_isStation_123 (by decide) (fun c_5001 => ?_) (fun c_5001 => ?_)
    · have h132 : ¬ w < w := Int32.lt_irrefl
      refine lv_iload hx hb dL_isStation_130 (lv_at hl 2 rfl) ?_
      refine lv_icmp_lt (tgt := 161) hx hb dL_isStation_132 (by decide) (fun c_5002 => absurd c_5002 h132) (fun _ => ?_)
      exact J135 H locs ls hP hS (lv_sub hl [0, 1, 2, 3, 4] rfl)
    · have h123 := c_5001
      have h132 : ¬ w < (if its = 0 then nI 3 else nI 7) := fun h => h123 (Int32.le_of_lt h)
      refine lv_iload_n hx hb dL_isStation_126 rfl (lv_at hl 5 rfl) ?_
      refine lv_goto (tgt := 132) hx hb dL_isStation_127 (by decide) ?_
      refine lv_icmp_lt (tgt := 161) hx hb dL_isStation_132 (by decide) (fun c_5003 => absurd c_5003 h132) (fun _ => ?_)
      exact J135 H locs ls hP hS (lv_sub hl [0, 1, 2, 3, 4] rfl)
  have J10 : ∀ (H : Heap) (locs : List Loc) (ls : Array Slot), va_P D vwCl (WL 36 G (cF cI cS G) S) H → va_S (fun q => s.heap.size ≤ q) s.heap H locs → lv_has ls 8 [(0, .ref (G 0)), (1, .int (nI i)), (2, .int its)] → W p l e ({ frames := 3, cells := 0, slots := 0, locals := 64 } : Room) s m ([.ref (G 0), .int (nI i), .int its] : List Value).toArray below meth c H locs 0 0 (MQ below (pQi (nI 1) s.heap.size) ([.ref (G 0), .int (nI i), .int its] : List Value).toArray s 0 0 (fun q => s.heap.size ≤ q)) (F0 m 10 ls [.int ((if its = 0 then nI 3 else nI 7))]) := by
    intro H locs ls hP hS hl
    refine lv_istore_n (lv' := [(3, .int ((if its = 0 then nI 3 else nI 7))), (0, .ref (G 0)), (1, .int (nI i)), (2, .int its)]) hx hb dL_isStation_10 rfl hl (by decide) rfl (fun ls hl => ?_)
    refine lv_aload_n hx hb dL_isStation_11 rfl (lv_at hl 1 rfl) ?_
    refine lv_iload_n hx hb dL_isStation_12 rfl (lv_at hl 2 rfl) ?_
    refine x_pi (va_runV (As := [.int (nI i)]) (rest := []) ⟨hx, hb, hml, hown, hts⟩ (c_X5_window l D cI cS G S H.size i (by omega)) (cwV 1 hts gL_isStation_X5_window rfl rfl rfl (by decide +kernel) ⟨Nat.le_of_ble_eq_true rfl, Nat.le_of_ble_eq_true rfl⟩) ⟨wPc_blind, va_recv hK hP (ci := 5) (q0 := 0) rfl (WL_at (by decide) (cF_air _)), wPc_at hP hK hD hN⟩ rfl rfl hl.1 rfl (lv_room (Nat.le_of_ble_eq_true rfl)) dL_isStation_13 ⟨Nat.le_of_ble_eq_true rfl, Nat.le_of_ble_eq_true rfl⟩) hS hA (fun q h => h) (fun H locs hz hk hS => ?_)
    have hP := P_kept hP hk
    refine x_top (y := w) ((f_X5_window_d _ _).trans hw) ?_
    refine lv_istore (lv' := [(4, .int w), (3, .int ((if its = 0 then nI 3 else nI 7))), (0, .ref (G 0)), (1, .int (nI i)), (2, .int its)]) hx hb dL_isStation_16 hl (by decide) rfl (fun ls hl => ?_)
    refine lv_aload_n hx hb dL_isStation_18 rfl (lv_at hl 2 rfl) ?_
    refine lv_iload_n hx hb dL_isStation_19 rfl (lv_at hl 3 rfl) ?_
    refine x_pi (va_runV (As := [.int (nI i)]) (rest := []) ⟨hx, hb, hml, hown, hts⟩ (c_X5_failures l D cI cS G S H.size i (by omega)) (cwV 1 hts gL_isStation_X5_failures rfl rfl rfl (by decide +kernel) ⟨Nat.le_of_ble_eq_true rfl, Nat.le_of_ble_eq_true rfl⟩) ⟨wPc_blind, va_recv hK hP (ci := 5) (q0 := 0) rfl (WL_at (by decide) (cF_air _)), wPc_at hP hK hD hN⟩ rfl rfl hl.1 rfl (lv_room (Nat.le_of_ble_eq_true rfl)) dL_isStation_20 ⟨Nat.le_of_ble_eq_true rfl, Nat.le_of_ble_eq_true rfl⟩) hS hA (fun q h => h) (fun H locs hz hk hS => ?_)
    have hP := P_kept hP hk
    refine x_top (y := nI fa) ((f_X5_failures_d _ _).trans hfa) ?_
    refine lv_istore (lv' := [(5, .int (nI fa)), (4, .int w), (3, .int ((if its = 0 then nI 3 else nI 7))), (0, .ref (G 0)), (1, .int (nI i)), (2, .int its)]) hx hb dL_isStation_23 hl (by decide) rfl (fun ls hl => ?_)
    refine lv_aload_n hx hb dL_isStation_25 rfl (lv_at hl 3 rfl) ?_
    refine lv_iload_n hx hb dL_isStation_26 rfl (lv_at hl 4 rfl) ?_
    refine x_pi (va_runV (As := [.int (nI i)]) (rest := []) ⟨hx, hb, hml, hown, hts⟩ (c_X5_waitOf l D cI cS G S H.size i (by omega)) (cwV 1 hts gL_isStation_X5_waitOf rfl rfl rfl (by decide +kernel) ⟨Nat.le_of_ble_eq_true rfl, Nat.le_of_ble_eq_true rfl⟩) ⟨wPc_blind, va_recv hK hP (ci := 5) (q0 := 0) rfl (WL_at (by decide) (cF_air _)), wPc_at hP hK hD hN⟩ rfl rfl hl.1 rfl (lv_room (Nat.le_of_ble_eq_true rfl)) dL_isStation_27 ⟨Nat.le_of_ble_eq_true rfl, Nat.le_of_ble_eq_true rfl⟩) hS hA (fun q h => h) (fun H locs hz hk hS => ?_)
    have hP := P_kept hP hk
    refine x_top (y := wt) ((f_X5_waitOf_d _ _).trans hwt) ?_
    refine lv_istore (lv' := [(6, .int wt), (5, .int (nI fa)), (4, .int w), (3, .int ((if its = 0 then nI 3 else nI 7))), (0, .ref (G 0)), (1, .int (nI i)), (2, .int its)]) hx hb dL_isStation_30 hl (by decide) rfl (fun ls hl => ?_)
    refine lv_iload hx hb dL_isStation_32 (lv_at hl 1 rfl) ?_
    refine lv_if_lt (tgt := 83) hx hb dL_isStation_34 (by decide) (fun c_6001 => absurd c_6001 (nI_pos (by omega))) (fun _ => ?_)
    refine lv_iload hx hb dL_isStation_37 (lv_at hl 1 rfl) ?_
    refine lv_iconst (v := nI 5) hx hb dL_isStation_39 (by decide) ?_
    refine lv_icmp_ge (tgt := 83) hx hb dL_isStation_40 (by decide) (fun c_6002 => absurd c_6002 (nI_ge hfa5 (by omega))) (fun _ => ?_)
    refine lv_iload hx hb dL_isStation_43 (lv_at hl 0 rfl) ?_
    refine lv_iconst (v := (-1)) hx hb dL_isStation_45 (by decide) ?_
    refine lv_icmp_lt (tgt := 83) hx hb dL_isStation_46 (by decide) (fun c_6003 => absurd c_6003 hwt1) (fun _ => ?_)
    refine lv_iload hx hb dL_isStation_49 (lv_at hl 0 rfl) ?_
    refine lv_bipush (v := nI 31) hx hb dL_isStation_51 (by decide) ?_
    refine lv_icmp_gt (tgt := 83) hx hb dL_isStation_53 (by decide) (fun c_6004 => absurd c_6004 hwt2) (fun _ => ?_)
    refine lv_aload_n hx hb dL_isStation_56 rfl (lv_at hl 4 rfl) ?_
    refine lv_iload_n hx hb dL_isStation_57 rfl (lv_at hl 5 rfl) ?_
    refine x_pi (va_runV (As := [.int (nI i)]) (rest := []) ⟨hx, hb, hml, hown, hts⟩ (c_X5_silencedTo l D cI cS G S H.size i (by omega)) (cwV 1 hts gL_isStation_X5_silencedTo rfl rfl rfl (by decide +kernel) ⟨Nat.le_of_ble_eq_true rfl, Nat.le_of_ble_eq_true rfl⟩) ⟨wPc_blind, va_recv hK hP (ci := 5) (q0 := 0) rfl (WL_at (by decide) (cF_air _)), wPc_at hP hK hD hN⟩ rfl rfl hl.1 rfl (lv_room (Nat.le_of_ble_eq_true rfl)) dL_isStation_58 ⟨Nat.le_of_ble_eq_true rfl, Nat.le_of_ble_eq_true rfl⟩) hS hA (fun q h => h) (fun H locs hz hk hS => ?_)
    have hP := P_kept hP hk
    refine x_top (y := nI z) ((f_X5_silencedTo_d _ _).trans hsl) ?_
    refine lv_if_lt (tgt := 83) hx hb dL_isStation_61 (by decide) (fun c_6005 => absurd c_6005 (nI_pos (by omega))) (fun _ => ?_)
    refine lv_aload_n hx hb dL_isStation_64 rfl (lv_at hl 4 rfl) ?_
    refine lv_iload_n hx hb dL_isStation_65 rfl (lv_at hl 5 rfl) ?_
    refine x_pi (va_runV (As := [.int (nI i)]) (rest := []) ⟨hx, hb, hml, hown, hts⟩ (c_X5_silencedTo l D cI cS G S H.size i (by omega)) (cwV 1 hts gL_isStation_X5_silencedTo rfl rfl rfl (by decide +kernel) ⟨Nat.le_of_ble_eq_true rfl, Nat.le_of_ble_eq_true rfl⟩) ⟨wPc_blind, va_recv hK hP (ci := 5) (q0 := 0) rfl (WL_at (by decide) (cF_air _)), wPc_at hP hK hD hN⟩ rfl rfl hl.1 rfl (lv_room (Nat.le_of_ble_eq_true rfl)) dL_isStation_66 ⟨Nat.le_of_ble_eq_true rfl, Nat.le_of_ble_eq_true rfl⟩) hS hA (fun q h => h) (fun H locs hz hk hS => ?_)
    have hP := P_kept hP hk
    refine x_top (y := nI z) ((f_X5_silencedTo_d _ _).trans hsl) ?_
    refine lv_aload_n hx hb dL_isStation_69 rfl (lv_at hl 4 rfl) ?_
    refine x_pi (va_runV (As := []) (rest := [.int (nI z)]) ⟨hx, hb, hml, hown, hts⟩ (c_X5_now l D cI cS G S H.size  ) (cwV 0 hts gL_isStation_X5_now rfl rfl rfl (by decide +kernel) ⟨Nat.le_of_ble_eq_true rfl, Nat.le_of_ble_eq_true rfl⟩) ⟨wPc_blind, va_recv hK hP (ci := 5) (q0 := 0) rfl (WL_at (by decide) (cF_air _)), wPc_at hP hK hD hN⟩ rfl rfl hl.1 rfl (lv_room (Nat.le_of_ble_eq_true rfl)) dL_isStation_70 ⟨Nat.le_of_ble_eq_true rfl, Nat.le_of_ble_eq_true rfl⟩) hS hA (fun q h => h) (fun H locs hz hk hS => ?_)
    have hP := P_kept hP hk
    refine x_top (y := nI t) ((f_X5_now_d _).trans ht) ?_
    refine lv_bipush (v := nI 8) hx hb dL_isStation_73 (by decide) ?_
    refine x_iaddN hx hb dL_isStation_75 ?_
    refine lv_icmp_gt (tgt := 83) hx hb dL_isStation_76 (by decide) (fun c_6006 => absurd c_6006 (nI_nlt hsl8 (by omega))) (fun _ => ?_)
    refine lv_iconst (v := nI 1) hx hb dL_isStation_79 (by decide) ?_
    refine lv_goto (tgt := 84) hx hb dL_isStation_80 (by decide) ?_
    refine lv_istore (lv' := [(7, .int (nI 1)), (6, .int wt), (5, .int (nI fa)), (4, .int w), (3, .int ((if its = 0 then nI 3 else nI 7))), (0, .ref (G 0)), (1, .int (nI i)), (2, .int its)]) hx hb dL_isStation_84 hl (by decide) rfl (fun ls hl => ?_)
    refine lv_iload hx hb dL_isStation_86 (lv_at hl 0 rfl) ?_
    refine lv_if_eq (tgt := 161) hx hb dL_isStation_88 (by decide) (fun c_6007 => absurd c_6007 (by decide)) (fun _ => ?_)
    refine lv_iload hx hb dL_isStation_91 (lv_at hl 3 rfl) ?_
    refine lv_iconst (v := nI 3) hx hb dL_isStation_93 (by decide) ?_
    refine lv_icmp_eq (tgt := 118) hx hb dL_isStation_94 (by decide) (fun c_6008 => ?_) (fun c_6008 => ?_)
    · exact J118 H locs ls hP hS (lv_sub hl [5, 6, 3, 2, 1, 4] rfl)
    · have h94 := c_6008
      refine lv_iload hx hb dL_isStation_97 (lv_at hl 3 rfl) ?_
      refine lv_bipush (v := nI 7) hx hb dL_isStation_99 (by decide) ?_
      refine lv_icmp_eq (tgt := 118) hx hb dL_isStation_101 (by decide) (fun c_6009 => ?_) (fun c_6009 => ?_)
      · exact J118 H locs ls hP hS (lv_sub hl [5, 6, 3, 2, 1, 4] rfl)
      · have h101 := c_6009
        refine lv_iload hx hb dL_isStation_104 (lv_at hl 3 rfl) ?_
        refine lv_bipush (v := nI 15) hx hb dL_isStation_106 (by decide) ?_
        refine lv_icmp_eq (tgt := 118) hx hb dL_isStation_108 (by decide) (fun c_6010 => ?_) (fun c_6010 => ?_)
        · exact J118 H locs ls hP hS (lv_sub hl [5, 6, 3, 2, 1, 4] rfl)
        · have h108 := c_6010
          refine lv_iload hx hb dL_isStation_111 (lv_at hl 3 rfl) ?_
          refine lv_bipush (v := nI 31) hx hb dL_isStation_113 (by decide) ?_
          refine lv_icmp_ne (tgt := 161) hx hb dL_isStation_115 (by decide) (fun c_6011 => absurd (hw4 h94 h101 h108) c_6011) (fun _ => ?_)
          exact J118 H locs ls hP hS (lv_sub hl [5, 6, 3, 2, 1, 4] rfl)
  refine lv_iload_n hx hb dL_isStation_0 rfl (lv_at hl 2 rfl) ?_
  refine lv_if_ne (tgt := 8) hx hb dL_isStation_1 (by decide) (fun c_7001 => ?_) (fun c_7001 => ?_)
  · have h1 := c_7001
    refine lv_bipush (v := nI 7) hx hb dL_isStation_8 (by decide) ?_
    refine x_top (y := (if its = 0 then nI 3 else nI 7)) ((if_neg h1).symm) ?_
    exact J10 _ _ ls hP hS (lv_sub hl [0, 1, 2] rfl)
  · have h1 := c_7001
    refine lv_iconst (v := nI 3) hx hb dL_isStation_4 (by decide) ?_
    refine x_top (y := (if its = 0 then nI 3 else nI 7)) ((if_pos h1).symm) ?_
    refine lv_goto (tgt := 10) hx hb dL_isStation_5 (by decide) ?_
    exact J10 _ _ ls hP hS (lv_sub hl [0, 1, 2] rfl)
