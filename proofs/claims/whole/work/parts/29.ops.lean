section OPS
variable {p : Program} {l : Launch} {e : Env} {s : State} {m : MethodId} {below : List Frame} {meth : Method} {c : Code} {b L : Nat} {xs : Nat → Int32} {D : va_G} {cI cS cZ cJ : ClassId} {G Gm : Nat → Nat} {o i t : Nat} {S M : Mem} {fo : Nat → Int64} {H : Heap} {locs : List Loc} {ls : Array Slot} {cells slots : Nat} {Q : State → Prop}
abbrev LV (b o i : Nat) (G Gm : Nat → Nat) : List (Nat × Value) := [(4, .int (nI i)), (3, .ref o), (2, .ref (Gm 0)), (1, .ref (G 0)), (0, .ref b)]
def LKK (p : Program) (l : Launch) (e : Env) (s : State) (m : MethodId) (below : List Frame) (meth : Method) (c : Code) (b : Nat) (D : va_G) (cI cS cZ cJ : ClassId) (G Gm : Nat → Nat) (o i t cells slots : Nat) (Q : State → Prop) : Prop :=
  ∀ (t1 : Nat) (S1 M1 : Mem) (fo1 : Nat → Int64) (H1 : Heap) (locs1 : List Loc) (ls1 : Array Slot), t1 ≤ t + 50 → Rel t1 S1 M1 → LSt D cI cS cZ cJ G Gm o s S1 M1 fo1 H1 locs1 → lv_has ls1 7 (LV b o i G Gm) → W p l e room_1 s m #[Value.ref b] below meth c H1 locs1 (cells + 1) (slots + 6) Q (F0 m 1173 ls1 [])
set_option maxHeartbeats 4000000 in
set_option maxRecDepth 100000 in
theorem op_setStrength (hfl : l.stackTraces = false) (hx : p.tables.exec = Jvm.exec) (hb : c.code = cL_law) (hml : c.maxLocals = 7) (hown : s.vm.findClass RL = some m.cls) (hts : ∀ w ∈ wsL_law, w.before #[Value.ref b] s = true) (hX : va_X b L xs s s.heap) (hbl : b < s.heap.size) (hL20 : L ≤ 2048) (hF : LFix D cI cS cZ cJ G Gm o s) (hi : i + 4 ≤ L) (ht : t + 50 < 100000) (hR : Rel t S M) (hLS : LSt D cI cS cZ cJ G Gm o s S M fo H locs) (hl : lv_has ls 7 (LV b o i G Gm)) (hc : cells + 1 ≤ 637605) (hs : slots + 6 ≤ 7183290) (kk : LKK p l e s m below meth c b D cI cS cZ cJ G Gm o i t cells slots Q) : W p l e room_1 s m #[Value.ref b] below meth c H locs cells slots Q (F0 m 128 ls []) := by
  obtain ⟨hD, hDm, hGo, hmo, hGm, ho, hK, hN, hT, hZ, hC⟩ := id hF
  have hbA : ¬ (fun q : Nat => s.heap.size ≤ q) b := Nat.not_le.mpr hbl
  obtain ⟨hP, hM, hO, hS⟩ := id hLS
  refine lv_aload_n hx hb dL_law_128 rfl (lv_at hl 3 rfl) ?_
  refine lv_aload_n hx hb dL_law_129 rfl (lv_at hl 4 rfl) ?_
  refine lv_iload hx hb dL_law_130 (lv_at hl 0 rfl) ?_
  refine lv_iconst (v := nI 1) hx hb dL_law_132 (by decide) ?_
  refine x_iaddN hx hb dL_law_133 ?_
  refine va_sld hx hb hX hbl hbA hS (vp_in_nI (by omega) (by omega)) dL_law_134 ?_
  refine lv_aload_n hx hb dL_law_135 rfl (lv_at hl 4 rfl) ?_
  refine lv_iload hx hb dL_law_136 (lv_at hl 0 rfl) ?_
  refine lv_iconst (v := nI 2) hx hb dL_law_138 (by decide) ?_
  refine x_iaddN hx hb dL_law_139 ?_
  refine va_sld hx hb hX hbl hbA hS (vp_in_nI (by omega) (by omega)) dL_law_140 ?_
  refine lv_aload_n hx hb dL_law_141 rfl (lv_at hl 4 rfl) ?_
  refine lv_iload hx hb dL_law_142 (lv_at hl 0 rfl) ?_
  refine lv_iconst (v := nI 3) hx hb dL_law_144 (by decide) ?_
  refine x_iaddN hx hb dL_law_145 ?_
  refine va_sld hx hb hX hbl hbA hS (vp_in_nI (by omega) (by omega)) dL_law_146 ?_
  refine lv_aload_n hx hb dL_law_147 rfl (lv_at hl 1 rfl) ?_
  have tail : ∀ (k : Nat) (x : Int64) (S1 : Mem) (fo1 : Nat → Int64) (t1 : Nat) (H1 : Heap) (locs1 : List Loc), LSt D cI cS cZ cJ G Gm o s S1 M fo1 H1 locs1 → t1 ≤ t + 50 → (f_X6_setStrength M (xs (nI (i + 1)).toNatClampNeg) (xs (nI (i + 2)).toNatClampNeg) (xs (nI (i + 3)).toNatClampNeg)).2 0 0 = nI k → Rel t1 S1 (f_X6_setStrength M (xs (nI (i + 1)).toNatClampNeg) (xs (nI (i + 2)).toNatClampNeg) (xs (nI (i + 3)).toNatClampNeg)).2 → k < 4 → (k = 0 → fo1 (nI 0).toNatClampNeg = x ∧ (f_X6_setStrength M (xs (nI (i + 1)).toNatClampNeg) (xs (nI (i + 2)).toNatClampNeg) (xs (nI (i + 3)).toNatClampNeg)).1.toInt64 = x) → W p l e room_1 s m #[Value.ref b] below meth c H1 locs1 (cells + 1) (slots + 6) Q (F0 m 151 ls [.int (nI k)]) := by
    clear hLS hP hM hO hS
    intro k x S1 fo1 t1 H1 locs1 hLS ht1 hthr hR1 hk4 hk0
    obtain ⟨hP, hM, hO, hS⟩ := id hLS
    refine lv_istore (lv' := (5, .int (nI k)) :: LV b o i G Gm) hx hb dL_law_151 hl (by decide) rfl (fun ls hl => ?_)
    refine lv_aload_n hx hb dL_law_153 rfl (lv_at hl 3 rfl) ?_
    refine lv_aload_n hx hb dL_law_154 rfl (lv_at hl 5 rfl) ?_
    refine lv_iload hx hb dL_law_155 (lv_at hl 1 rfl) ?_
    refine lv_iconst (v := nI 1) hx hb dL_law_157 (by decide) ?_
    refine x_iaddN hx hb dL_law_158 ?_
    refine va_sld hx hb hX hbl hbA hS (vp_in_nI (by omega) (by omega)) dL_law_159 ?_
    refine lv_aload_n hx hb dL_law_160 rfl (lv_at hl 5 rfl) ?_
    refine lv_iload hx hb dL_law_161 (lv_at hl 1 rfl) ?_
    refine lv_iconst (v := nI 2) hx hb dL_law_163 (by decide) ?_
    refine x_iaddN hx hb dL_law_164 ?_
    refine va_sld hx hb hX hbl hbA hS (vp_in_nI (by omega) (by omega)) dL_law_165 ?_
    refine lv_aload_n hx hb dL_law_166 rfl (lv_at hl 5 rfl) ?_
    refine lv_iload hx hb dL_law_167 (lv_at hl 1 rfl) ?_
    refine lv_iconst (v := nI 3) hx hb dL_law_169 (by decide) ?_
    refine x_iaddN hx hb dL_law_170 ?_
    refine va_sld hx hb hX hbl hbA hS (vp_in_nI (by omega) (by omega)) dL_law_171 ?_
    refine l_model hF hLS (va_runV (As := [.int (xs (nI (i + 1)).toNatClampNeg), .int (xs (nI (i + 2)).toNatClampNeg), .int (xs (nI (i + 3)).toNatClampNeg)]) (rest := []) ⟨hx, hb, hml, hown, hts⟩ (c_X6_setStrength l D cI cS cZ cJ Gm M H1.size (xs (nI (i + 1)).toNatClampNeg) (xs (nI (i + 2)).toNatClampNeg) (xs (nI (i + 3)).toNatClampNeg)) (cwV 3 hts gL_law_X6_setStrength rfl rfl rfl (by decide +kernel) ⟨Nat.le_of_ble_eq_true rfl, Nat.le_of_ble_eq_true rfl⟩) ⟨wPc_blind, va_recv hK hM (ci := 6) (q0 := 0) rfl (WL_at (by decide) rfl), wPc_at hM hK hDm hN⟩ rfl rfl hl.1 rfl (lv_room (Nat.le_of_ble_eq_true rfl)) dL_law_172 ⟨hc, hs⟩) (fun H2 locs2 hLS2 => ?_)
    obtain ⟨hP2, hM2, hO2, hS2⟩ := id hLS2
    refine lv_istore (lv' := (6, .int (f_X6_setStrength M (xs (nI (i + 1)).toNatClampNeg) (xs (nI (i + 2)).toNatClampNeg) (xs (nI (i + 3)).toNatClampNeg)).1) :: (5, .int (nI k)) :: LV b o i G Gm) hx hb dL_law_175 hl (by decide) rfl (fun ls hl => ?_)
    refine lv_aload_n hx hb dL_law_177 rfl (lv_at hl 4 rfl) ?_
    refine l_pure hLS2 (va_runV (As := []) (rest := []) ⟨hx, hb, hml, hown, hts⟩ (c_X6_thrown l D cI cS cZ cJ Gm (f_X6_setStrength M (xs (nI (i + 1)).toNatClampNeg) (xs (nI (i + 2)).toNatClampNeg) (xs (nI (i + 3)).toNatClampNeg)).2 H2.size) (cwV 0 hts gL_law_X6_thrown rfl rfl rfl (by decide +kernel) ⟨Nat.le_of_ble_eq_true rfl, Nat.le_of_ble_eq_true rfl⟩) ⟨wPc_blind, va_recv hK hM2 (ci := 6) (q0 := 0) rfl (WL_at (by decide) rfl), wPc_at hM2 hK hDm hN⟩ rfl rfl hl.1 rfl (lv_room (Nat.le_of_ble_eq_true rfl)) dL_law_178 ⟨hc, hs⟩) (fun H3 locs3 hLS3 => ?_)
    obtain ⟨hP3, hM3, hO3, hS3⟩ := id hLS3
    refine lv_iload hx hb dL_law_181 (lv_at hl 1 rfl) ?_
    refine lv_icmp_eq (tgt := 188) hx hb dL_law_183 (by decide) (fun _ => ?_) (fun h => absurd ((f_X6_thrown_d _).trans hthr) h)
    refine lv_iload hx hb dL_law_188 (lv_at hl 1 rfl) ?_
    refine lv_if_ne (tgt := 205) hx hb dL_law_190 (by decide) (fun _ => ?_) (fun hk => ?_)
    · refine lv_goto (tgt := 1173) hx hb dL_law_205 (by decide) ?_
      exact kk t1 S1 _ fo1 H3 locs3 ls ht1 hR1 hLS3 (lv_sub hl [2, 3, 4, 5, 6] rfl)
    · obtain ⟨f1, f2⟩ := hk0 (nI_inj (by omega) (by decide) hk)
      refine lv_aload_n hx hb dL_law_193 rfl (lv_at hl 3 rfl) ?_
      refine lv_iconst (v := nI 0) hx hb dL_law_194 (by decide) ?_
      refine va_lald hx hb hK hO3 0 3 rfl rfl (vp_in_nI (by decide) (by decide)) dL_law_195 ?_
      rw [f1]
      refine lv_iload hx hb dL_law_196 (lv_at hl 0 rfl) ?_
      refine lv_i2l (v := x) hx hb dL_law_198 f2 ?_
      refine x_lcmpE hx hb dL_law_199 ?_
      refine lv_if_eq (tgt := 205) hx hb dL_law_200 (by decide) (fun _ => ?_) (fun h => absurd rfl h)
      refine lv_goto (tgt := 1173) hx hb dL_law_205 (by decide) ?_
      exact kk t1 S1 _ fo1 H3 locs3 ls ht1 hR1 hLS3 (lv_sub hl [2, 3, 4, 5, 6] rfl)
  rcases s_setStrength hR (xs (nI (i + 1)).toNatClampNeg) (xs (nI (i + 2)).toNatClampNeg) (xs (nI (i + 3)).toNatClampNeg) with ⟨a, b2, e1, e2, e3, e4, e5, e6, e7, z1, z2, z3⟩ | ⟨e1, z⟩ | ⟨a, e1, e2, e3, z⟩ | ⟨a, b2, e1, e2, e3, e4, e5, z⟩
  · rw [e1]
    rw [e3]
    refine l_good hF hLS (vx_runSW (As := [.ref (G 0), .int (nI a), .int (nI b2), .int (xs (nI (i + 3)).toNatClampNeg), .ref o]) (rest := []) ⟨hx, hb, hml, hown, hts⟩ (w_L_setStrength l D cI cS cZ cJ G S o fo H.size a b2 (xs (nI (i + 3)).toNatClampNeg) e2 e4 e5 e6 e7) (vx_cwSW 5 hts gL_law_L_setStrength rfl rfl rfl (by decide +kernel) ⟨Nat.le_of_ble_eq_true rfl, Nat.le_of_ble_eq_true rfl⟩) ⟨lPc_blind, lPc_at hP hO hK hD hGo hN hT hZ hC hS⟩ rfl rfl hl.1 rfl (lv_room (Nat.le_of_ble_eq_true rfl)) dL_law_148 ⟨by show cells + 0 ≤ 637605; omega, by show slots + 0 ≤ 7183290; omega⟩) (fun H1 locs1 hLS1 => ?_)
    refine W.widen (k := cells + 1) (n := slots + 6) (by omega) (by omega) ?_
    exact tail 0 (f_X5_setStrength S a b2 (xs (nI (i + 3)).toNatClampNeg)).1.toInt64 (f_X5_setStrength S a b2 (xs (nI (i + 3)).toNatClampNeg)).2 (vp_updL fo 0 (f_X5_setStrength S a b2 (xs (nI (i + 3)).toNatClampNeg)).1.toInt64) t H1 locs1 hLS1 (by omega) z1 z3 (by decide) (fun _ => ⟨by rw [show (nI 0).toNatClampNeg = 0 by decide, pk_uLs], by rw [z2]⟩)
  · refine l_bad hLS (vx_runSW (As := [.ref (G 0), .int (xs (nI (i + 1)).toNatClampNeg), .int (xs (nI (i + 2)).toNatClampNeg), .int (xs (nI (i + 3)).toNatClampNeg), .ref o]) (rest := []) ⟨hx, hb, hml, hown, hts⟩ (w_L_setStrength__1 l hfl D cI cS cZ cJ G S o fo H.size (xs (nI (i + 1)).toNatClampNeg) (xs (nI (i + 2)).toNatClampNeg) (xs (nI (i + 3)).toNatClampNeg) e1) (vx_cwSW 5 hts gL_law_L_setStrength rfl rfl rfl (by decide +kernel) ⟨Nat.le_of_ble_eq_true rfl, Nat.le_of_ble_eq_true rfl⟩) ⟨lPc_blind, lPc_at hP hO hK hD hGo hN hT hZ hC hS⟩ rfl rfl hl.1 rfl (lv_room (Nat.le_of_ble_eq_true rfl)) dL_law_148 ⟨hc, hs⟩) (fun H1 locs1 hLS1 => ?_)
    exact tail 1 0 S fo t H1 locs1 hLS1 (by omega) z.1 z.2 (by omega) (fun h => absurd h (by decide))
  · rw [e1]
    refine l_bad hLS (vx_runSW (As := [.ref (G 0), .int (nI a), .int (xs (nI (i + 2)).toNatClampNeg), .int (xs (nI (i + 3)).toNatClampNeg), .ref o]) (rest := []) ⟨hx, hb, hml, hown, hts⟩ (w_L_setStrength__2 l hfl D cI cS cZ cJ G S o fo H.size a (xs (nI (i + 2)).toNatClampNeg) (xs (nI (i + 3)).toNatClampNeg) e2 e3) (vx_cwSW 5 hts gL_law_L_setStrength rfl rfl rfl (by decide +kernel) ⟨Nat.le_of_ble_eq_true rfl, Nat.le_of_ble_eq_true rfl⟩) ⟨lPc_blind, lPc_at hP hO hK hD hGo hN hT hZ hC hS⟩ rfl rfl hl.1 rfl (lv_room (Nat.le_of_ble_eq_true rfl)) dL_law_148 ⟨hc, hs⟩) (fun H1 locs1 hLS1 => ?_)
    exact tail 1 0 S fo t H1 locs1 hLS1 (by omega) z.1 z.2 (by omega) (fun h => absurd h (by decide))
  · rw [e1]
    rw [e3]
    refine l_bad hLS (vx_runSW (As := [.ref (G 0), .int (nI a), .int (nI b2), .int (xs (nI (i + 3)).toNatClampNeg), .ref o]) (rest := []) ⟨hx, hb, hml, hown, hts⟩ (w_L_setStrength__3 l hfl D cI cS cZ cJ G S o fo H.size a b2 (xs (nI (i + 3)).toNatClampNeg) e2 e4 e5) (vx_cwSW 5 hts gL_law_L_setStrength rfl rfl rfl (by decide +kernel) ⟨Nat.le_of_ble_eq_true rfl, Nat.le_of_ble_eq_true rfl⟩) ⟨lPc_blind, lPc_at hP hO hK hD hGo hN hT hZ hC hS⟩ rfl rfl hl.1 rfl (lv_room (Nat.le_of_ble_eq_true rfl)) dL_law_148 ⟨hc, hs⟩) (fun H1 locs1 hLS1 => ?_)
    exact tail 2 0 S fo t H1 locs1 hLS1 (by omega) z.1 z.2 (by omega) (fun h => absurd h (by decide))
set_option maxHeartbeats 4000000 in
set_option maxRecDepth 100000 in
theorem op_setClass (hfl : l.stackTraces = false) (hx : p.tables.exec = Jvm.exec) (hb : c.code = cL_law) (hml : c.maxLocals = 7) (hown : s.vm.findClass RL = some m.cls) (hts : ∀ w ∈ wsL_law, w.before #[Value.ref b] s = true) (hX : va_X b L xs s s.heap) (hbl : b < s.heap.size) (hL20 : L ≤ 2048) (hF : LFix D cI cS cZ cJ G Gm o s) (hi : i + 4 ≤ L) (ht : t + 50 < 100000) (hR : Rel t S M) (hLS : LSt D cI cS cZ cJ G Gm o s S M fo H locs) (hl : lv_has ls 7 (LV b o i G Gm)) (hc : cells + 1 ≤ 637605) (hs : slots + 6 ≤ 7183290) (kk : LKK p l e s m below meth c b D cI cS cZ cJ G Gm o i t cells slots Q) : W p l e room_1 s m #[Value.ref b] below meth c H locs cells slots Q (F0 m 208 ls []) := by
  obtain ⟨hD, hDm, hGo, hmo, hGm, ho, hK, hN, hT, hZ, hC⟩ := id hF
  have hbA : ¬ (fun q : Nat => s.heap.size ≤ q) b := Nat.not_le.mpr hbl
  obtain ⟨hP, hM, hO, hS⟩ := id hLS
  refine lv_aload_n hx hb dL_law_208 rfl (lv_at hl 3 rfl) ?_
  refine lv_aload_n hx hb dL_law_209 rfl (lv_at hl 4 rfl) ?_
  refine lv_iload hx hb dL_law_210 (lv_at hl 0 rfl) ?_
  refine lv_iconst (v := nI 1) hx hb dL_law_212 (by decide) ?_
  refine x_iaddN hx hb dL_law_213 ?_
  refine va_sld hx hb hX hbl hbA hS (vp_in_nI (by omega) (by omega)) dL_law_214 ?_
  refine lv_aload_n hx hb dL_law_215 rfl (lv_at hl 4 rfl) ?_
  refine lv_iload hx hb dL_law_216 (lv_at hl 0 rfl) ?_
  refine lv_iconst (v := nI 2) hx hb dL_law_218 (by decide) ?_
  refine x_iaddN hx hb dL_law_219 ?_
  refine va_sld hx hb hX hbl hbA hS (vp_in_nI (by omega) (by omega)) dL_law_220 ?_
  refine lv_aload_n hx hb dL_law_221 rfl (lv_at hl 1 rfl) ?_
  have tail : ∀ (k : Nat) (x : Int64) (S1 : Mem) (fo1 : Nat → Int64) (t1 : Nat) (H1 : Heap) (locs1 : List Loc), LSt D cI cS cZ cJ G Gm o s S1 M fo1 H1 locs1 → t1 ≤ t + 50 → (f_X6_setClass M (xs (nI (i + 1)).toNatClampNeg) (xs (nI (i + 2)).toNatClampNeg)).2 0 0 = nI k → Rel t1 S1 (f_X6_setClass M (xs (nI (i + 1)).toNatClampNeg) (xs (nI (i + 2)).toNatClampNeg)).2 → k < 4 → (k = 0 → fo1 (nI 0).toNatClampNeg = x ∧ (f_X6_setClass M (xs (nI (i + 1)).toNatClampNeg) (xs (nI (i + 2)).toNatClampNeg)).1.toInt64 = x) → W p l e room_1 s m #[Value.ref b] below meth c H1 locs1 (cells + 1) (slots + 6) Q (F0 m 225 ls [.int (nI k)]) := by
    clear hLS hP hM hO hS
    intro k x S1 fo1 t1 H1 locs1 hLS ht1 hthr hR1 hk4 hk0
    obtain ⟨hP, hM, hO, hS⟩ := id hLS
    refine lv_istore (lv' := (5, .int (nI k)) :: LV b o i G Gm) hx hb dL_law_225 hl (by decide) rfl (fun ls hl => ?_)
    refine lv_aload_n hx hb dL_law_227 rfl (lv_at hl 3 rfl) ?_
    refine lv_aload_n hx hb dL_law_228 rfl (lv_at hl 5 rfl) ?_
    refine lv_iload hx hb dL_law_229 (lv_at hl 1 rfl) ?_
    refine lv_iconst (v := nI 1) hx hb dL_law_231 (by decide) ?_
    refine x_iaddN hx hb dL_law_232 ?_
    refine va_sld hx hb hX hbl hbA hS (vp_in_nI (by omega) (by omega)) dL_law_233 ?_
    refine lv_aload_n hx hb dL_law_234 rfl (lv_at hl 5 rfl) ?_
    refine lv_iload hx hb dL_law_235 (lv_at hl 1 rfl) ?_
    refine lv_iconst (v := nI 2) hx hb dL_law_237 (by decide) ?_
    refine x_iaddN hx hb dL_law_238 ?_
    refine va_sld hx hb hX hbl hbA hS (vp_in_nI (by omega) (by omega)) dL_law_239 ?_
    refine l_model hF hLS (va_runV (As := [.int (xs (nI (i + 1)).toNatClampNeg), .int (xs (nI (i + 2)).toNatClampNeg)]) (rest := []) ⟨hx, hb, hml, hown, hts⟩ (c_X6_setClass l D cI cS cZ cJ Gm M H1.size (xs (nI (i + 1)).toNatClampNeg) (xs (nI (i + 2)).toNatClampNeg)) (cwV 2 hts gL_law_X6_setClass rfl rfl rfl (by decide +kernel) ⟨Nat.le_of_ble_eq_true rfl, Nat.le_of_ble_eq_true rfl⟩) ⟨wPc_blind, va_recv hK hM (ci := 6) (q0 := 0) rfl (WL_at (by decide) rfl), wPc_at hM hK hDm hN⟩ rfl rfl hl.1 rfl (lv_room (Nat.le_of_ble_eq_true rfl)) dL_law_240 ⟨hc, hs⟩) (fun H2 locs2 hLS2 => ?_)
    obtain ⟨hP2, hM2, hO2, hS2⟩ := id hLS2
    refine lv_istore (lv' := (6, .int (f_X6_setClass M (xs (nI (i + 1)).toNatClampNeg) (xs (nI (i + 2)).toNatClampNeg)).1) :: (5, .int (nI k)) :: LV b o i G Gm) hx hb dL_law_243 hl (by decide) rfl (fun ls hl => ?_)
    refine lv_aload_n hx hb dL_law_245 rfl (lv_at hl 4 rfl) ?_
    refine l_pure hLS2 (va_runV (As := []) (rest := []) ⟨hx, hb, hml, hown, hts⟩ (c_X6_thrown l D cI cS cZ cJ Gm (f_X6_setClass M (xs (nI (i + 1)).toNatClampNeg) (xs (nI (i + 2)).toNatClampNeg)).2 H2.size) (cwV 0 hts gL_law_X6_thrown rfl rfl rfl (by decide +kernel) ⟨Nat.le_of_ble_eq_true rfl, Nat.le_of_ble_eq_true rfl⟩) ⟨wPc_blind, va_recv hK hM2 (ci := 6) (q0 := 0) rfl (WL_at (by decide) rfl), wPc_at hM2 hK hDm hN⟩ rfl rfl hl.1 rfl (lv_room (Nat.le_of_ble_eq_true rfl)) dL_law_246 ⟨hc, hs⟩) (fun H3 locs3 hLS3 => ?_)
    obtain ⟨hP3, hM3, hO3, hS3⟩ := id hLS3
    refine lv_iload hx hb dL_law_249 (lv_at hl 1 rfl) ?_
    refine lv_icmp_eq (tgt := 256) hx hb dL_law_251 (by decide) (fun _ => ?_) (fun h => absurd ((f_X6_thrown_d _).trans hthr) h)
    refine lv_iload hx hb dL_law_256 (lv_at hl 1 rfl) ?_
    refine lv_if_ne (tgt := 273) hx hb dL_law_258 (by decide) (fun _ => ?_) (fun hk => ?_)
    · refine lv_goto (tgt := 1173) hx hb dL_law_273 (by decide) ?_
      exact kk t1 S1 _ fo1 H3 locs3 ls ht1 hR1 hLS3 (lv_sub hl [2, 3, 4, 5, 6] rfl)
    · obtain ⟨f1, f2⟩ := hk0 (nI_inj (by omega) (by decide) hk)
      refine lv_aload_n hx hb dL_law_261 rfl (lv_at hl 3 rfl) ?_
      refine lv_iconst (v := nI 0) hx hb dL_law_262 (by decide) ?_
      refine va_lald hx hb hK hO3 0 3 rfl rfl (vp_in_nI (by decide) (by decide)) dL_law_263 ?_
      rw [f1]
      refine lv_iload hx hb dL_law_264 (lv_at hl 0 rfl) ?_
      refine lv_i2l (v := x) hx hb dL_law_266 f2 ?_
      refine x_lcmpE hx hb dL_law_267 ?_
      refine lv_if_eq (tgt := 273) hx hb dL_law_268 (by decide) (fun _ => ?_) (fun h => absurd rfl h)
      refine lv_goto (tgt := 1173) hx hb dL_law_273 (by decide) ?_
      exact kk t1 S1 _ fo1 H3 locs3 ls ht1 hR1 hLS3 (lv_sub hl [2, 3, 4, 5, 6] rfl)
  rcases s_setClass hR (xs (nI (i + 1)).toNatClampNeg) (xs (nI (i + 2)).toNatClampNeg) with ⟨a, e1, e2, e3, e4, z1, z2, z3⟩ | ⟨e1, z⟩ | ⟨a, e1, e2, e3, z⟩
  · rw [e1]
    refine l_good hF hLS (vx_runSW (As := [.ref (G 0), .int (nI a), .int (xs (nI (i + 2)).toNatClampNeg), .ref o]) (rest := []) ⟨hx, hb, hml, hown, hts⟩ (w_L_setClass l D cI cS cZ cJ G S o fo H.size a (xs (nI (i + 2)).toNatClampNeg) e2 e3 e4) (vx_cwSW 4 hts gL_law_L_setClass rfl rfl rfl (by decide +kernel) ⟨Nat.le_of_ble_eq_true rfl, Nat.le_of_ble_eq_true rfl⟩) ⟨lPc_blind, lPc_at hP hO hK hD hGo hN hT hZ hC hS⟩ rfl rfl hl.1 rfl (lv_room (Nat.le_of_ble_eq_true rfl)) dL_law_222 ⟨by show cells + 0 ≤ 637605; omega, by show slots + 0 ≤ 7183290; omega⟩) (fun H1 locs1 hLS1 => ?_)
    refine W.widen (k := cells + 1) (n := slots + 6) (by omega) (by omega) ?_
    exact tail 0 (f_X5_setClass S a (xs (nI (i + 2)).toNatClampNeg)).1.toInt64 (f_X5_setClass S a (xs (nI (i + 2)).toNatClampNeg)).2 (vp_updL fo 0 (f_X5_setClass S a (xs (nI (i + 2)).toNatClampNeg)).1.toInt64) t H1 locs1 hLS1 (by omega) z1 z3 (by decide) (fun _ => ⟨by rw [show (nI 0).toNatClampNeg = 0 by decide, pk_uLs], by rw [z2]⟩)
  · refine l_bad hLS (vx_runSW (As := [.ref (G 0), .int (xs (nI (i + 1)).toNatClampNeg), .int (xs (nI (i + 2)).toNatClampNeg), .ref o]) (rest := []) ⟨hx, hb, hml, hown, hts⟩ (w_L_setClass__1 l hfl D cI cS cZ cJ G S o fo H.size (xs (nI (i + 1)).toNatClampNeg) (xs (nI (i + 2)).toNatClampNeg) e1) (vx_cwSW 4 hts gL_law_L_setClass rfl rfl rfl (by decide +kernel) ⟨Nat.le_of_ble_eq_true rfl, Nat.le_of_ble_eq_true rfl⟩) ⟨lPc_blind, lPc_at hP hO hK hD hGo hN hT hZ hC hS⟩ rfl rfl hl.1 rfl (lv_room (Nat.le_of_ble_eq_true rfl)) dL_law_222 ⟨hc, hs⟩) (fun H1 locs1 hLS1 => ?_)
    exact tail 1 0 S fo t H1 locs1 hLS1 (by omega) z.1 z.2 (by omega) (fun h => absurd h (by decide))
  · rw [e1]
    refine l_bad hLS (vx_runSW (As := [.ref (G 0), .int (nI a), .int (xs (nI (i + 2)).toNatClampNeg), .ref o]) (rest := []) ⟨hx, hb, hml, hown, hts⟩ (w_L_setClass__2 l hfl D cI cS cZ cJ G S o fo H.size a (xs (nI (i + 2)).toNatClampNeg) e2 e3) (vx_cwSW 4 hts gL_law_L_setClass rfl rfl rfl (by decide +kernel) ⟨Nat.le_of_ble_eq_true rfl, Nat.le_of_ble_eq_true rfl⟩) ⟨lPc_blind, lPc_at hP hO hK hD hGo hN hT hZ hC hS⟩ rfl rfl hl.1 rfl (lv_room (Nat.le_of_ble_eq_true rfl)) dL_law_222 ⟨hc, hs⟩) (fun H1 locs1 hLS1 => ?_)
    exact tail 2 0 S fo t H1 locs1 hLS1 (by omega) z.1 z.2 (by omega) (fun h => absurd h (by decide))
set_option maxHeartbeats 4000000 in
set_option maxRecDepth 100000 in
theorem op_setReserve (hfl : l.stackTraces = false) (hx : p.tables.exec = Jvm.exec) (hb : c.code = cL_law) (hml : c.maxLocals = 7) (hown : s.vm.findClass RL = some m.cls) (hts : ∀ w ∈ wsL_law, w.before #[Value.ref b] s = true) (hX : va_X b L xs s s.heap) (hbl : b < s.heap.size) (hL20 : L ≤ 2048) (hF : LFix D cI cS cZ cJ G Gm o s) (hi : i + 4 ≤ L) (ht : t + 50 < 100000) (hR : Rel t S M) (hLS : LSt D cI cS cZ cJ G Gm o s S M fo H locs) (hl : lv_has ls 7 (LV b o i G Gm)) (hc : cells + 1 ≤ 637605) (hs : slots + 6 ≤ 7183290) (kk : LKK p l e s m below meth c b D cI cS cZ cJ G Gm o i t cells slots Q) : W p l e room_1 s m #[Value.ref b] below meth c H locs cells slots Q (F0 m 276 ls []) := by
  obtain ⟨hD, hDm, hGo, hmo, hGm, ho, hK, hN, hT, hZ, hC⟩ := id hF
  have hbA : ¬ (fun q : Nat => s.heap.size ≤ q) b := Nat.not_le.mpr hbl
  obtain ⟨hP, hM, hO, hS⟩ := id hLS
  refine lv_aload_n hx hb dL_law_276 rfl (lv_at hl 3 rfl) ?_
  refine lv_aload_n hx hb dL_law_277 rfl (lv_at hl 4 rfl) ?_
  refine lv_iload hx hb dL_law_278 (lv_at hl 0 rfl) ?_
  refine lv_iconst (v := nI 1) hx hb dL_law_280 (by decide) ?_
  refine x_iaddN hx hb dL_law_281 ?_
  refine va_sld hx hb hX hbl hbA hS (vp_in_nI (by omega) (by omega)) dL_law_282 ?_
  refine lv_aload_n hx hb dL_law_283 rfl (lv_at hl 1 rfl) ?_
  have tail : ∀ (k : Nat) (x : Int64) (S1 : Mem) (fo1 : Nat → Int64) (t1 : Nat) (H1 : Heap) (locs1 : List Loc), LSt D cI cS cZ cJ G Gm o s S1 M fo1 H1 locs1 → t1 ≤ t + 50 → (f_X6_setReserve M (xs (nI (i + 1)).toNatClampNeg)).2 0 0 = nI k → Rel t1 S1 (f_X6_setReserve M (xs (nI (i + 1)).toNatClampNeg)).2 → k < 4 → (k = 0 → fo1 (nI 0).toNatClampNeg = x ∧ (f_X6_setReserve M (xs (nI (i + 1)).toNatClampNeg)).1.toInt64 = x) → W p l e room_1 s m #[Value.ref b] below meth c H1 locs1 (cells + 1) (slots + 6) Q (F0 m 287 ls [.int (nI k)]) := by
    clear hLS hP hM hO hS
    intro k x S1 fo1 t1 H1 locs1 hLS ht1 hthr hR1 hk4 hk0
    obtain ⟨hP, hM, hO, hS⟩ := id hLS
    refine lv_istore (lv' := (5, .int (nI k)) :: LV b o i G Gm) hx hb dL_law_287 hl (by decide) rfl (fun ls hl => ?_)
    refine lv_aload_n hx hb dL_law_289 rfl (lv_at hl 3 rfl) ?_
    refine lv_aload_n hx hb dL_law_290 rfl (lv_at hl 5 rfl) ?_
    refine lv_iload hx hb dL_law_291 (lv_at hl 1 rfl) ?_
    refine lv_iconst (v := nI 1) hx hb dL_law_293 (by decide) ?_
    refine x_iaddN hx hb dL_law_294 ?_
    refine va_sld hx hb hX hbl hbA hS (vp_in_nI (by omega) (by omega)) dL_law_295 ?_
    refine l_model hF hLS (va_runV (As := [.int (xs (nI (i + 1)).toNatClampNeg)]) (rest := []) ⟨hx, hb, hml, hown, hts⟩ (c_X6_setReserve l D cI cS cZ cJ Gm M H1.size (xs (nI (i + 1)).toNatClampNeg)) (cwV 1 hts gL_law_X6_setReserve rfl rfl rfl (by decide +kernel) ⟨Nat.le_of_ble_eq_true rfl, Nat.le_of_ble_eq_true rfl⟩) ⟨wPc_blind, va_recv hK hM (ci := 6) (q0 := 0) rfl (WL_at (by decide) rfl), wPc_at hM hK hDm hN⟩ rfl rfl hl.1 rfl (lv_room (Nat.le_of_ble_eq_true rfl)) dL_law_296 ⟨hc, hs⟩) (fun H2 locs2 hLS2 => ?_)
    obtain ⟨hP2, hM2, hO2, hS2⟩ := id hLS2
    refine lv_istore (lv' := (6, .int (f_X6_setReserve M (xs (nI (i + 1)).toNatClampNeg)).1) :: (5, .int (nI k)) :: LV b o i G Gm) hx hb dL_law_299 hl (by decide) rfl (fun ls hl => ?_)
    refine lv_aload_n hx hb dL_law_301 rfl (lv_at hl 4 rfl) ?_
    refine l_pure hLS2 (va_runV (As := []) (rest := []) ⟨hx, hb, hml, hown, hts⟩ (c_X6_thrown l D cI cS cZ cJ Gm (f_X6_setReserve M (xs (nI (i + 1)).toNatClampNeg)).2 H2.size) (cwV 0 hts gL_law_X6_thrown rfl rfl rfl (by decide +kernel) ⟨Nat.le_of_ble_eq_true rfl, Nat.le_of_ble_eq_true rfl⟩) ⟨wPc_blind, va_recv hK hM2 (ci := 6) (q0 := 0) rfl (WL_at (by decide) rfl), wPc_at hM2 hK hDm hN⟩ rfl rfl hl.1 rfl (lv_room (Nat.le_of_ble_eq_true rfl)) dL_law_302 ⟨hc, hs⟩) (fun H3 locs3 hLS3 => ?_)
    obtain ⟨hP3, hM3, hO3, hS3⟩ := id hLS3
    refine lv_iload hx hb dL_law_305 (lv_at hl 1 rfl) ?_
    refine lv_icmp_eq (tgt := 312) hx hb dL_law_307 (by decide) (fun _ => ?_) (fun h => absurd ((f_X6_thrown_d _).trans hthr) h)
    refine lv_iload hx hb dL_law_312 (lv_at hl 1 rfl) ?_
    refine lv_if_ne (tgt := 329) hx hb dL_law_314 (by decide) (fun _ => ?_) (fun hk => ?_)
    · refine lv_goto (tgt := 1173) hx hb dL_law_329 (by decide) ?_
      exact kk t1 S1 _ fo1 H3 locs3 ls ht1 hR1 hLS3 (lv_sub hl [2, 3, 4, 5, 6] rfl)
    · obtain ⟨f1, f2⟩ := hk0 (nI_inj (by omega) (by decide) hk)
      refine lv_aload_n hx hb dL_law_317 rfl (lv_at hl 3 rfl) ?_
      refine lv_iconst (v := nI 0) hx hb dL_law_318 (by decide) ?_
      refine va_lald hx hb hK hO3 0 3 rfl rfl (vp_in_nI (by decide) (by decide)) dL_law_319 ?_
      rw [f1]
      refine lv_iload hx hb dL_law_320 (lv_at hl 0 rfl) ?_
      refine lv_i2l (v := x) hx hb dL_law_322 f2 ?_
      refine x_lcmpE hx hb dL_law_323 ?_
      refine lv_if_eq (tgt := 329) hx hb dL_law_324 (by decide) (fun _ => ?_) (fun h => absurd rfl h)
      refine lv_goto (tgt := 1173) hx hb dL_law_329 (by decide) ?_
      exact kk t1 S1 _ fo1 H3 locs3 ls ht1 hR1 hLS3 (lv_sub hl [2, 3, 4, 5, 6] rfl)
  rcases s_setReserve hR (xs (nI (i + 1)).toNatClampNeg) with ⟨e3, e4, z1, z2, z3⟩ | ⟨e1, z⟩
  · refine l_good hF hLS (vx_runSW (As := [.ref (G 0), .int (xs (nI (i + 1)).toNatClampNeg), .ref o]) (rest := []) ⟨hx, hb, hml, hown, hts⟩ (w_L_setReserve l D cI cS cZ cJ G S o fo H.size (xs (nI (i + 1)).toNatClampNeg) e3 e4) (vx_cwSW 3 hts gL_law_L_setReserve rfl rfl rfl (by decide +kernel) ⟨Nat.le_of_ble_eq_true rfl, Nat.le_of_ble_eq_true rfl⟩) ⟨lPc_blind, lPc_at hP hO hK hD hGo hN hT hZ hC hS⟩ rfl rfl hl.1 rfl (lv_room (Nat.le_of_ble_eq_true rfl)) dL_law_284 ⟨by show cells + 0 ≤ 637605; omega, by show slots + 0 ≤ 7183290; omega⟩) (fun H1 locs1 hLS1 => ?_)
    refine W.widen (k := cells + 1) (n := slots + 6) (by omega) (by omega) ?_
    exact tail 0 (f_X5_setReserve S (xs (nI (i + 1)).toNatClampNeg)).1.toInt64 (f_X5_setReserve S (xs (nI (i + 1)).toNatClampNeg)).2 (vp_updL fo 0 (f_X5_setReserve S (xs (nI (i + 1)).toNatClampNeg)).1.toInt64) t H1 locs1 hLS1 (by omega) z1 z3 (by decide) (fun _ => ⟨by rw [show (nI 0).toNatClampNeg = 0 by decide, pk_uLs], by rw [z2]⟩)
  · refine l_bad hLS (vx_runSW (As := [.ref (G 0), .int (xs (nI (i + 1)).toNatClampNeg), .ref o]) (rest := []) ⟨hx, hb, hml, hown, hts⟩ (w_L_setReserve__1 l hfl D cI cS cZ cJ G S o fo H.size (xs (nI (i + 1)).toNatClampNeg) e1) (vx_cwSW 3 hts gL_law_L_setReserve rfl rfl rfl (by decide +kernel) ⟨Nat.le_of_ble_eq_true rfl, Nat.le_of_ble_eq_true rfl⟩) ⟨lPc_blind, lPc_at hP hO hK hD hGo hN hT hZ hC hS⟩ rfl rfl hl.1 rfl (lv_room (Nat.le_of_ble_eq_true rfl)) dL_law_284 ⟨hc, hs⟩) (fun H1 locs1 hLS1 => ?_)
    exact tail 1 0 S fo t H1 locs1 hLS1 (by omega) z.1 z.2 (by omega) (fun h => absurd h (by decide))
set_option maxHeartbeats 4000000 in
set_option maxRecDepth 100000 in
theorem op_tell (hfl : l.stackTraces = false) (hx : p.tables.exec = Jvm.exec) (hb : c.code = cL_law) (hml : c.maxLocals = 7) (hown : s.vm.findClass RL = some m.cls) (hts : ∀ w ∈ wsL_law, w.before #[Value.ref b] s = true) (hX : va_X b L xs s s.heap) (hbl : b < s.heap.size) (hL20 : L ≤ 2048) (hF : LFix D cI cS cZ cJ G Gm o s) (hi : i + 4 ≤ L) (ht : t + 50 < 100000) (hR : Rel t S M) (hLS : LSt D cI cS cZ cJ G Gm o s S M fo H locs) (hl : lv_has ls 7 (LV b o i G Gm)) (hc : cells + 1 ≤ 637605) (hs : slots + 6 ≤ 7183290) (kk : LKK p l e s m below meth c b D cI cS cZ cJ G Gm o i t cells slots Q) : W p l e room_1 s m #[Value.ref b] below meth c H locs cells slots Q (F0 m 332 ls []) := by
  obtain ⟨hD, hDm, hGo, hmo, hGm, ho, hK, hN, hT, hZ, hC⟩ := id hF
  have hbA : ¬ (fun q : Nat => s.heap.size ≤ q) b := Nat.not_le.mpr hbl
  obtain ⟨hP, hM, hO, hS⟩ := id hLS
  refine lv_aload_n hx hb dL_law_332 rfl (lv_at hl 3 rfl) ?_
  refine lv_aload_n hx hb dL_law_333 rfl (lv_at hl 4 rfl) ?_
  refine lv_iload hx hb dL_law_334 (lv_at hl 0 rfl) ?_
  refine lv_iconst (v := nI 1) hx hb dL_law_336 (by decide) ?_
  refine x_iaddN hx hb dL_law_337 ?_
  refine va_sld hx hb hX hbl hbA hS (vp_in_nI (by omega) (by omega)) dL_law_338 ?_
  refine lv_aload_n hx hb dL_law_339 rfl (lv_at hl 1 rfl) ?_
  have tail : ∀ (k : Nat) (x : Int64) (S1 : Mem) (fo1 : Nat → Int64) (t1 : Nat) (H1 : Heap) (locs1 : List Loc), LSt D cI cS cZ cJ G Gm o s S1 M fo1 H1 locs1 → t1 ≤ t + 50 → (f_X6_tell M (xs (nI (i + 1)).toNatClampNeg)).2 0 0 = nI k → Rel t1 S1 (f_X6_tell M (xs (nI (i + 1)).toNatClampNeg)).2 → k < 4 → (k = 0 → fo1 (nI 0).toNatClampNeg = x ∧ (f_X6_tell M (xs (nI (i + 1)).toNatClampNeg)).1.toInt64 = x) → W p l e room_1 s m #[Value.ref b] below meth c H1 locs1 (cells + 1) (slots + 6) Q (F0 m 343 ls [.int (nI k)]) := by
    clear hLS hP hM hO hS
    intro k x S1 fo1 t1 H1 locs1 hLS ht1 hthr hR1 hk4 hk0
    obtain ⟨hP, hM, hO, hS⟩ := id hLS
    refine lv_istore (lv' := (5, .int (nI k)) :: LV b o i G Gm) hx hb dL_law_343 hl (by decide) rfl (fun ls hl => ?_)
    refine lv_aload_n hx hb dL_law_345 rfl (lv_at hl 3 rfl) ?_
    refine lv_aload_n hx hb dL_law_346 rfl (lv_at hl 5 rfl) ?_
    refine lv_iload hx hb dL_law_347 (lv_at hl 1 rfl) ?_
    refine lv_iconst (v := nI 1) hx hb dL_law_349 (by decide) ?_
    refine x_iaddN hx hb dL_law_350 ?_
    refine va_sld hx hb hX hbl hbA hS (vp_in_nI (by omega) (by omega)) dL_law_351 ?_
    refine l_model hF hLS (va_runV (As := [.int (xs (nI (i + 1)).toNatClampNeg)]) (rest := []) ⟨hx, hb, hml, hown, hts⟩ (c_X6_tell l D cI cS cZ cJ Gm M H1.size (xs (nI (i + 1)).toNatClampNeg) (rel_tell hR).1 (rel_tell hR).2) (cwV 1 hts gL_law_X6_tell rfl rfl rfl (by decide +kernel) ⟨Nat.le_of_ble_eq_true rfl, Nat.le_of_ble_eq_true rfl⟩) ⟨wPc_blind, va_recv hK hM (ci := 6) (q0 := 0) rfl (WL_at (by decide) rfl), wPc_at hM hK hDm hN⟩ rfl rfl hl.1 rfl (lv_room (Nat.le_of_ble_eq_true rfl)) dL_law_352 ⟨hc, hs⟩) (fun H2 locs2 hLS2 => ?_)
    obtain ⟨hP2, hM2, hO2, hS2⟩ := id hLS2
    refine lv_istore (lv' := (6, .int (f_X6_tell M (xs (nI (i + 1)).toNatClampNeg)).1) :: (5, .int (nI k)) :: LV b o i G Gm) hx hb dL_law_355 hl (by decide) rfl (fun ls hl => ?_)
    refine lv_aload_n hx hb dL_law_357 rfl (lv_at hl 4 rfl) ?_
    refine l_pure hLS2 (va_runV (As := []) (rest := []) ⟨hx, hb, hml, hown, hts⟩ (c_X6_thrown l D cI cS cZ cJ Gm (f_X6_tell M (xs (nI (i + 1)).toNatClampNeg)).2 H2.size) (cwV 0 hts gL_law_X6_thrown rfl rfl rfl (by decide +kernel) ⟨Nat.le_of_ble_eq_true rfl, Nat.le_of_ble_eq_true rfl⟩) ⟨wPc_blind, va_recv hK hM2 (ci := 6) (q0 := 0) rfl (WL_at (by decide) rfl), wPc_at hM2 hK hDm hN⟩ rfl rfl hl.1 rfl (lv_room (Nat.le_of_ble_eq_true rfl)) dL_law_358 ⟨hc, hs⟩) (fun H3 locs3 hLS3 => ?_)
    obtain ⟨hP3, hM3, hO3, hS3⟩ := id hLS3
    refine lv_iload hx hb dL_law_361 (lv_at hl 1 rfl) ?_
    refine lv_icmp_eq (tgt := 368) hx hb dL_law_363 (by decide) (fun _ => ?_) (fun h => absurd ((f_X6_thrown_d _).trans hthr) h)
    refine lv_iload hx hb dL_law_368 (lv_at hl 1 rfl) ?_
    refine lv_if_ne (tgt := 385) hx hb dL_law_370 (by decide) (fun _ => ?_) (fun hk => ?_)
    · refine lv_goto (tgt := 1173) hx hb dL_law_385 (by decide) ?_
      exact kk t1 S1 _ fo1 H3 locs3 ls ht1 hR1 hLS3 (lv_sub hl [2, 3, 4, 5, 6] rfl)
    · obtain ⟨f1, f2⟩ := hk0 (nI_inj (by omega) (by decide) hk)
      refine lv_aload_n hx hb dL_law_373 rfl (lv_at hl 3 rfl) ?_
      refine lv_iconst (v := nI 0) hx hb dL_law_374 (by decide) ?_
      refine va_lald hx hb hK hO3 0 3 rfl rfl (vp_in_nI (by decide) (by decide)) dL_law_375 ?_
      rw [f1]
      refine lv_iload hx hb dL_law_376 (lv_at hl 0 rfl) ?_
      refine lv_i2l (v := x) hx hb dL_law_378 f2 ?_
      refine x_lcmpE hx hb dL_law_379 ?_
      refine lv_if_eq (tgt := 385) hx hb dL_law_380 (by decide) (fun _ => ?_) (fun h => absurd rfl h)
      refine lv_goto (tgt := 1173) hx hb dL_law_385 (by decide) ?_
      exact kk t1 S1 _ fo1 H3 locs3 ls ht1 hR1 hLS3 (lv_sub hl [2, 3, 4, 5, 6] rfl)
  rcases s_tell hR (xs (nI (i + 1)).toNatClampNeg) with ⟨e3, e4, e5, e6, z1, z2, z3⟩ | ⟨e1, z⟩ | ⟨e1, e2, e3, z⟩
  · refine l_good hF hLS (vx_runSW (As := [.ref (G 0), .int (xs (nI (i + 1)).toNatClampNeg), .ref o]) (rest := []) ⟨hx, hb, hml, hown, hts⟩ (w_L_tell l D cI cS cZ cJ G S o fo H.size (xs (nI (i + 1)).toNatClampNeg) e3 e4 e5 (rel_ring hR).1 (rel_ring hR).2 e6.1 e6.2) (vx_cwSW 3 hts gL_law_L_tell rfl rfl rfl (by decide +kernel) ⟨Nat.le_of_ble_eq_true rfl, Nat.le_of_ble_eq_true rfl⟩) ⟨lPc_blind, lPc_at hP hO hK hD hGo hN hT hZ hC hS⟩ rfl rfl hl.1 rfl (lv_room (Nat.le_of_ble_eq_true rfl)) dL_law_340 ⟨by show cells + 0 ≤ 637605; omega, by show slots + 0 ≤ 7183290; omega⟩) (fun H1 locs1 hLS1 => ?_)
    refine W.widen (k := cells + 1) (n := slots + 6) (by omega) (by omega) ?_
    exact tail 0 (f_X5_tell S (xs (nI (i + 1)).toNatClampNeg)).1.toInt64 (f_X5_tell S (xs (nI (i + 1)).toNatClampNeg)).2 (vp_updL fo 0 (f_X5_tell S (xs (nI (i + 1)).toNatClampNeg)).1.toInt64) t H1 locs1 hLS1 (by omega) z1 z3 (by decide) (fun _ => ⟨by rw [show (nI 0).toNatClampNeg = 0 by decide, pk_uLs], by rw [z2]⟩)
  · refine l_bad hLS (vx_runSW (As := [.ref (G 0), .int (xs (nI (i + 1)).toNatClampNeg), .ref o]) (rest := []) ⟨hx, hb, hml, hown, hts⟩ (w_L_tell__1 l hfl D cI cS cZ cJ G S o fo H.size (xs (nI (i + 1)).toNatClampNeg) e1) (vx_cwSW 3 hts gL_law_L_tell rfl rfl rfl (by decide +kernel) ⟨Nat.le_of_ble_eq_true rfl, Nat.le_of_ble_eq_true rfl⟩) ⟨lPc_blind, lPc_at hP hO hK hD hGo hN hT hZ hC hS⟩ rfl rfl hl.1 rfl (lv_room (Nat.le_of_ble_eq_true rfl)) dL_law_340 ⟨hc, hs⟩) (fun H1 locs1 hLS1 => ?_)
    exact tail 1 0 S fo t H1 locs1 hLS1 (by omega) z.1 z.2 (by omega) (fun h => absurd h (by decide))
  · refine l_bad hLS (vx_runSW (As := [.ref (G 0), .int (xs (nI (i + 1)).toNatClampNeg), .ref o]) (rest := []) ⟨hx, hb, hml, hown, hts⟩ (w_L_tell__2 l hfl D cI cS cZ cJ G S o fo H.size (xs (nI (i + 1)).toNatClampNeg) e1 e2 e3) (vx_cwSW 3 hts gL_law_L_tell rfl rfl rfl (by decide +kernel) ⟨Nat.le_of_ble_eq_true rfl, Nat.le_of_ble_eq_true rfl⟩) ⟨lPc_blind, lPc_at hP hO hK hD hGo hN hT hZ hC hS⟩ rfl rfl hl.1 rfl (lv_room (Nat.le_of_ble_eq_true rfl)) dL_law_340 ⟨hc, hs⟩) (fun H1 locs1 hLS1 => ?_)
    exact tail 2 0 S fo t H1 locs1 hLS1 (by omega) z.1 z.2 (by omega) (fun h => absurd h (by decide))
set_option maxHeartbeats 4000000 in
set_option maxRecDepth 100000 in
theorem op_frame (hfl : l.stackTraces = false) (hx : p.tables.exec = Jvm.exec) (hb : c.code = cL_law) (hml : c.maxLocals = 7) (hown : s.vm.findClass RL = some m.cls) (hts : ∀ w ∈ wsL_law, w.before #[Value.ref b] s = true) (hX : va_X b L xs s s.heap) (hbl : b < s.heap.size) (hL20 : L ≤ 2048) (hF : LFix D cI cS cZ cJ G Gm o s) (hi : i + 4 ≤ L) (ht : t + 50 < 100000) (hR : Rel t S M) (hLS : LSt D cI cS cZ cJ G Gm o s S M fo H locs) (hl : lv_has ls 7 (LV b o i G Gm)) (hc : cells + 1 ≤ 637605) (hs : slots + 6 ≤ 7183290) (kk : LKK p l e s m below meth c b D cI cS cZ cJ G Gm o i t cells slots Q) : W p l e room_1 s m #[Value.ref b] below meth c H locs cells slots Q (F0 m 388 ls []) := by
  obtain ⟨hD, hDm, hGo, hmo, hGm, ho, hK, hN, hT, hZ, hC⟩ := id hF
  have hbA : ¬ (fun q : Nat => s.heap.size ≤ q) b := Nat.not_le.mpr hbl
  obtain ⟨hP, hM, hO, hS⟩ := id hLS
  refine lv_aload_n hx hb dL_law_388 rfl (lv_at hl 3 rfl) ?_
  refine lv_aload_n hx hb dL_law_389 rfl (lv_at hl 4 rfl) ?_
  refine lv_iload hx hb dL_law_390 (lv_at hl 0 rfl) ?_
  refine lv_iconst (v := nI 1) hx hb dL_law_392 (by decide) ?_
  refine x_iaddN hx hb dL_law_393 ?_
  refine va_sld hx hb hX hbl hbA hS (vp_in_nI (by omega) (by omega)) dL_law_394 ?_
  refine lv_aload_n hx hb dL_law_395 rfl (lv_at hl 4 rfl) ?_
  refine lv_iload hx hb dL_law_396 (lv_at hl 0 rfl) ?_
  refine lv_iconst (v := nI 2) hx hb dL_law_398 (by decide) ?_
  refine x_iaddN hx hb dL_law_399 ?_
  refine va_sld hx hb hX hbl hbA hS (vp_in_nI (by omega) (by omega)) dL_law_400 ?_
  refine lv_aload_n hx hb dL_law_401 rfl (lv_at hl 4 rfl) ?_
  refine lv_iload hx hb dL_law_402 (lv_at hl 0 rfl) ?_
  refine lv_iconst (v := nI 3) hx hb dL_law_404 (by decide) ?_
  refine x_iaddN hx hb dL_law_405 ?_
  refine va_sld hx hb hX hbl hbA hS (vp_in_nI (by omega) (by omega)) dL_law_406 ?_
  refine lv_aload_n hx hb dL_law_407 rfl (lv_at hl 1 rfl) ?_
  have tail : ∀ (k : Nat) (x : Int64) (S1 : Mem) (fo1 : Nat → Int64) (t1 : Nat) (H1 : Heap) (locs1 : List Loc), LSt D cI cS cZ cJ G Gm o s S1 M fo1 H1 locs1 → t1 ≤ t + 50 → (f_X6_frame M (xs (nI (i + 1)).toNatClampNeg) (xs (nI (i + 2)).toNatClampNeg) (xs (nI (i + 3)).toNatClampNeg)).2 0 0 = nI k → Rel t1 S1 (f_X6_frame M (xs (nI (i + 1)).toNatClampNeg) (xs (nI (i + 2)).toNatClampNeg) (xs (nI (i + 3)).toNatClampNeg)).2 → k < 4 → (k = 0 → fo1 (nI 0).toNatClampNeg = x ∧ (f_X6_frame M (xs (nI (i + 1)).toNatClampNeg) (xs (nI (i + 2)).toNatClampNeg) (xs (nI (i + 3)).toNatClampNeg)).1.toInt64 = x) → W p l e room_1 s m #[Value.ref b] below meth c H1 locs1 (cells + 1) (slots + 6) Q (F0 m 411 ls [.int (nI k)]) := by
    clear hLS hP hM hO hS
    intro k x S1 fo1 t1 H1 locs1 hLS ht1 hthr hR1 hk4 hk0
    obtain ⟨hP, hM, hO, hS⟩ := id hLS
    refine lv_istore (lv' := (5, .int (nI k)) :: LV b o i G Gm) hx hb dL_law_411 hl (by decide) rfl (fun ls hl => ?_)
    refine lv_aload_n hx hb dL_law_413 rfl (lv_at hl 3 rfl) ?_
    refine lv_aload_n hx hb dL_law_414 rfl (lv_at hl 5 rfl) ?_
    refine lv_iload hx hb dL_law_415 (lv_at hl 1 rfl) ?_
    refine lv_iconst (v := nI 1) hx hb dL_law_417 (by decide) ?_
    refine x_iaddN hx hb dL_law_418 ?_
    refine va_sld hx hb hX hbl hbA hS (vp_in_nI (by omega) (by omega)) dL_law_419 ?_
    refine lv_aload_n hx hb dL_law_420 rfl (lv_at hl 5 rfl) ?_
    refine lv_iload hx hb dL_law_421 (lv_at hl 1 rfl) ?_
    refine lv_iconst (v := nI 2) hx hb dL_law_423 (by decide) ?_
    refine x_iaddN hx hb dL_law_424 ?_
    refine va_sld hx hb hX hbl hbA hS (vp_in_nI (by omega) (by omega)) dL_law_425 ?_
    refine lv_aload_n hx hb dL_law_426 rfl (lv_at hl 5 rfl) ?_
    refine lv_iload hx hb dL_law_427 (lv_at hl 1 rfl) ?_
    refine lv_iconst (v := nI 3) hx hb dL_law_429 (by decide) ?_
    refine x_iaddN hx hb dL_law_430 ?_
    refine va_sld hx hb hX hbl hbA hS (vp_in_nI (by omega) (by omega)) dL_law_431 ?_
    refine l_model hF hLS (va_runV (As := [.int (xs (nI (i + 1)).toNatClampNeg), .int (xs (nI (i + 2)).toNatClampNeg), .int (xs (nI (i + 3)).toNatClampNeg)]) (rest := []) ⟨hx, hb, hml, hown, hts⟩ (c_X6_frame l D cI cS cZ cJ Gm M H1.size (xs (nI (i + 1)).toNatClampNeg) (xs (nI (i + 2)).toNatClampNeg) (xs (nI (i + 3)).toNatClampNeg) (rel_frame hR)) (cwV 3 hts gL_law_X6_frame rfl rfl rfl (by decide +kernel) ⟨Nat.le_of_ble_eq_true rfl, Nat.le_of_ble_eq_true rfl⟩) ⟨wPc_blind, va_recv hK hM (ci := 6) (q0 := 0) rfl (WL_at (by decide) rfl), wPc_at hM hK hDm hN⟩ rfl rfl hl.1 rfl (lv_room (Nat.le_of_ble_eq_true rfl)) dL_law_432 ⟨hc, hs⟩) (fun H2 locs2 hLS2 => ?_)
    obtain ⟨hP2, hM2, hO2, hS2⟩ := id hLS2
    refine lv_istore (lv' := (6, .int (f_X6_frame M (xs (nI (i + 1)).toNatClampNeg) (xs (nI (i + 2)).toNatClampNeg) (xs (nI (i + 3)).toNatClampNeg)).1) :: (5, .int (nI k)) :: LV b o i G Gm) hx hb dL_law_435 hl (by decide) rfl (fun ls hl => ?_)
    refine lv_aload_n hx hb dL_law_437 rfl (lv_at hl 4 rfl) ?_
    refine l_pure hLS2 (va_runV (As := []) (rest := []) ⟨hx, hb, hml, hown, hts⟩ (c_X6_thrown l D cI cS cZ cJ Gm (f_X6_frame M (xs (nI (i + 1)).toNatClampNeg) (xs (nI (i + 2)).toNatClampNeg) (xs (nI (i + 3)).toNatClampNeg)).2 H2.size) (cwV 0 hts gL_law_X6_thrown rfl rfl rfl (by decide +kernel) ⟨Nat.le_of_ble_eq_true rfl, Nat.le_of_ble_eq_true rfl⟩) ⟨wPc_blind, va_recv hK hM2 (ci := 6) (q0 := 0) rfl (WL_at (by decide) rfl), wPc_at hM2 hK hDm hN⟩ rfl rfl hl.1 rfl (lv_room (Nat.le_of_ble_eq_true rfl)) dL_law_438 ⟨hc, hs⟩) (fun H3 locs3 hLS3 => ?_)
    obtain ⟨hP3, hM3, hO3, hS3⟩ := id hLS3
    refine lv_iload hx hb dL_law_441 (lv_at hl 1 rfl) ?_
    refine lv_icmp_eq (tgt := 448) hx hb dL_law_443 (by decide) (fun _ => ?_) (fun h => absurd ((f_X6_thrown_d _).trans hthr) h)
    refine lv_iload hx hb dL_law_448 (lv_at hl 1 rfl) ?_
    refine lv_if_ne (tgt := 465) hx hb dL_law_450 (by decide) (fun _ => ?_) (fun hk => ?_)
    · refine lv_goto (tgt := 1173) hx hb dL_law_465 (by decide) ?_
      exact kk t1 S1 _ fo1 H3 locs3 ls ht1 hR1 hLS3 (lv_sub hl [2, 3, 4, 5, 6] rfl)
    · obtain ⟨f1, f2⟩ := hk0 (nI_inj (by omega) (by decide) hk)
      refine lv_aload_n hx hb dL_law_453 rfl (lv_at hl 3 rfl) ?_
      refine lv_iconst (v := nI 0) hx hb dL_law_454 (by decide) ?_
      refine va_lald hx hb hK hO3 0 3 rfl rfl (vp_in_nI (by decide) (by decide)) dL_law_455 ?_
      rw [f1]
      refine lv_iload hx hb dL_law_456 (lv_at hl 0 rfl) ?_
      refine lv_i2l (v := x) hx hb dL_law_458 f2 ?_
      refine x_lcmpE hx hb dL_law_459 ?_
      refine lv_if_eq (tgt := 465) hx hb dL_law_460 (by decide) (fun _ => ?_) (fun h => absurd rfl h)
      refine lv_goto (tgt := 1173) hx hb dL_law_465 (by decide) ?_
      exact kk t1 S1 _ fo1 H3 locs3 ls ht1 hR1 hLS3 (lv_sub hl [2, 3, 4, 5, 6] rfl)
  rcases s_frame hR (xs (nI (i + 1)).toNatClampNeg) (xs (nI (i + 2)).toNatClampNeg) (xs (nI (i + 3)).toNatClampNeg) with ⟨a, b2, e1, e2, e3, e4, e5, e6, e7, e8, e9, z1, z2, z3⟩ | ⟨e1, z⟩ | ⟨a, e1, e2, e3, z⟩ | ⟨a, b2, e1, e2, e3, e4, e5, z⟩ | ⟨a, b2, e1, e2, e3, e4, e5, e6, e7, e8, z⟩
  · rw [e1]
    rw [e3]
    refine l_good hF hLS (vx_runSW (As := [.ref (G 0), .int (nI a), .int (nI b2), .int (xs (nI (i + 3)).toNatClampNeg), .ref o]) (rest := []) ⟨hx, hb, hml, hown, hts⟩ (w_L_frame l D cI cS cZ cJ G S o fo H.size a b2 (xs (nI (i + 3)).toNatClampNeg) e2 e4 e5 e6 e7 e8 e9.1 e9.2) (vx_cwSW 5 hts gL_law_L_frame rfl rfl rfl (by decide +kernel) ⟨Nat.le_of_ble_eq_true rfl, Nat.le_of_ble_eq_true rfl⟩) ⟨lPc_blind, lPc_at hP hO hK hD hGo hN hT hZ hC hS⟩ rfl rfl hl.1 rfl (lv_room (Nat.le_of_ble_eq_true rfl)) dL_law_408 ⟨by show cells + 0 ≤ 637605; omega, by show slots + 0 ≤ 7183290; omega⟩) (fun H1 locs1 hLS1 => ?_)
    refine W.widen (k := cells + 1) (n := slots + 6) (by omega) (by omega) ?_
    exact tail 0 (f_X5_frame S a b2 (xs (nI (i + 3)).toNatClampNeg)).1.toInt64 (f_X5_frame S a b2 (xs (nI (i + 3)).toNatClampNeg)).2 (vp_updL fo 0 (f_X5_frame S a b2 (xs (nI (i + 3)).toNatClampNeg)).1.toInt64) t H1 locs1 hLS1 (by omega) z1 z3 (by decide) (fun _ => ⟨by rw [show (nI 0).toNatClampNeg = 0 by decide, pk_uLs], by rw [z2]⟩)
  · refine l_bad hLS (vx_runSW (As := [.ref (G 0), .int (xs (nI (i + 1)).toNatClampNeg), .int (xs (nI (i + 2)).toNatClampNeg), .int (xs (nI (i + 3)).toNatClampNeg), .ref o]) (rest := []) ⟨hx, hb, hml, hown, hts⟩ (w_L_frame__1 l hfl D cI cS cZ cJ G S o fo H.size (xs (nI (i + 1)).toNatClampNeg) (xs (nI (i + 2)).toNatClampNeg) (xs (nI (i + 3)).toNatClampNeg) e1) (vx_cwSW 5 hts gL_law_L_frame rfl rfl rfl (by decide +kernel) ⟨Nat.le_of_ble_eq_true rfl, Nat.le_of_ble_eq_true rfl⟩) ⟨lPc_blind, lPc_at hP hO hK hD hGo hN hT hZ hC hS⟩ rfl rfl hl.1 rfl (lv_room (Nat.le_of_ble_eq_true rfl)) dL_law_408 ⟨hc, hs⟩) (fun H1 locs1 hLS1 => ?_)
    exact tail 1 0 S fo t H1 locs1 hLS1 (by omega) z.1 z.2 (by omega) (fun h => absurd h (by decide))
  · rw [e1]
    refine l_bad hLS (vx_runSW (As := [.ref (G 0), .int (nI a), .int (xs (nI (i + 2)).toNatClampNeg), .int (xs (nI (i + 3)).toNatClampNeg), .ref o]) (rest := []) ⟨hx, hb, hml, hown, hts⟩ (w_L_frame__2 l hfl D cI cS cZ cJ G S o fo H.size a (xs (nI (i + 2)).toNatClampNeg) (xs (nI (i + 3)).toNatClampNeg) e2 e3) (vx_cwSW 5 hts gL_law_L_frame rfl rfl rfl (by decide +kernel) ⟨Nat.le_of_ble_eq_true rfl, Nat.le_of_ble_eq_true rfl⟩) ⟨lPc_blind, lPc_at hP hO hK hD hGo hN hT hZ hC hS⟩ rfl rfl hl.1 rfl (lv_room (Nat.le_of_ble_eq_true rfl)) dL_law_408 ⟨hc, hs⟩) (fun H1 locs1 hLS1 => ?_)
    exact tail 1 0 S fo t H1 locs1 hLS1 (by omega) z.1 z.2 (by omega) (fun h => absurd h (by decide))
  · rw [e1]
    rw [e3]
    refine l_bad hLS (vx_runSW (As := [.ref (G 0), .int (nI a), .int (nI b2), .int (xs (nI (i + 3)).toNatClampNeg), .ref o]) (rest := []) ⟨hx, hb, hml, hown, hts⟩ (w_L_frame__3 l hfl D cI cS cZ cJ G S o fo H.size a b2 (xs (nI (i + 3)).toNatClampNeg) e2 e4 e5) (vx_cwSW 5 hts gL_law_L_frame rfl rfl rfl (by decide +kernel) ⟨Nat.le_of_ble_eq_true rfl, Nat.le_of_ble_eq_true rfl⟩) ⟨lPc_blind, lPc_at hP hO hK hD hGo hN hT hZ hC hS⟩ rfl rfl hl.1 rfl (lv_room (Nat.le_of_ble_eq_true rfl)) dL_law_408 ⟨hc, hs⟩) (fun H1 locs1 hLS1 => ?_)
    exact tail 2 0 S fo t H1 locs1 hLS1 (by omega) z.1 z.2 (by omega) (fun h => absurd h (by decide))
  · rw [e1]
    rw [e3]
    refine l_bad hLS (vx_runSW (As := [.ref (G 0), .int (nI a), .int (nI b2), .int (xs (nI (i + 3)).toNatClampNeg), .ref o]) (rest := []) ⟨hx, hb, hml, hown, hts⟩ (w_L_frame__4 l hfl D cI cS cZ cJ G S o fo H.size a b2 (xs (nI (i + 3)).toNatClampNeg) e2 e4 e5 e6 e7 e8) (vx_cwSW 5 hts gL_law_L_frame rfl rfl rfl (by decide +kernel) ⟨Nat.le_of_ble_eq_true rfl, Nat.le_of_ble_eq_true rfl⟩) ⟨lPc_blind, lPc_at hP hO hK hD hGo hN hT hZ hC hS⟩ rfl rfl hl.1 rfl (lv_room (Nat.le_of_ble_eq_true rfl)) dL_law_408 ⟨hc, hs⟩) (fun H1 locs1 hLS1 => ?_)
    exact tail 3 0 S fo t H1 locs1 hLS1 (by omega) z.1 z.2 (by omega) (fun h => absurd h (by decide))
set_option maxHeartbeats 4000000 in
set_option maxRecDepth 100000 in
theorem op_pass (hfl : l.stackTraces = false) (hx : p.tables.exec = Jvm.exec) (hb : c.code = cL_law) (hml : c.maxLocals = 7) (hown : s.vm.findClass RL = some m.cls) (hts : ∀ w ∈ wsL_law, w.before #[Value.ref b] s = true) (hX : va_X b L xs s s.heap) (hbl : b < s.heap.size) (hL20 : L ≤ 2048) (hF : LFix D cI cS cZ cJ G Gm o s) (hi : i + 4 ≤ L) (ht : t + 50 < 100000) (hR : Rel t S M) (hLS : LSt D cI cS cZ cJ G Gm o s S M fo H locs) (hl : lv_has ls 7 (LV b o i G Gm)) (hc : cells + 1 ≤ 637605) (hs : slots + 6 ≤ 7183290) (kk : LKK p l e s m below meth c b D cI cS cZ cJ G Gm o i t cells slots Q) : W p l e room_1 s m #[Value.ref b] below meth c H locs cells slots Q (F0 m 468 ls []) := by
  obtain ⟨hD, hDm, hGo, hmo, hGm, ho, hK, hN, hT, hZ, hC⟩ := id hF
  have hbA : ¬ (fun q : Nat => s.heap.size ≤ q) b := Nat.not_le.mpr hbl
  obtain ⟨hP, hM, hO, hS⟩ := id hLS
  refine lv_aload_n hx hb dL_law_468 rfl (lv_at hl 3 rfl) ?_
  refine lv_aload_n hx hb dL_law_469 rfl (lv_at hl 4 rfl) ?_
  refine lv_iload hx hb dL_law_470 (lv_at hl 0 rfl) ?_
  refine lv_iconst (v := nI 1) hx hb dL_law_472 (by decide) ?_
  refine x_iaddN hx hb dL_law_473 ?_
  refine va_sld hx hb hX hbl hbA hS (vp_in_nI (by omega) (by omega)) dL_law_474 ?_
  refine lv_aload_n hx hb dL_law_475 rfl (lv_at hl 1 rfl) ?_
  have tail : ∀ (k : Nat) (x : Int64) (S1 : Mem) (fo1 : Nat → Int64) (t1 : Nat) (H1 : Heap) (locs1 : List Loc), LSt D cI cS cZ cJ G Gm o s S1 M fo1 H1 locs1 → t1 ≤ t + 50 → (f_X6_pass M (xs (nI (i + 1)).toNatClampNeg)).2 0 0 = nI k → Rel t1 S1 (f_X6_pass M (xs (nI (i + 1)).toNatClampNeg)).2 → k < 4 → (k = 0 → fo1 (nI 0).toNatClampNeg = x ∧ (f_X6_pass M (xs (nI (i + 1)).toNatClampNeg)).1.toInt64 = x) → W p l e room_1 s m #[Value.ref b] below meth c H1 locs1 (cells + 1) (slots + 6) Q (F0 m 479 ls [.int (nI k)]) := by
    clear hLS hP hM hO hS
    intro k x S1 fo1 t1 H1 locs1 hLS ht1 hthr hR1 hk4 hk0
    obtain ⟨hP, hM, hO, hS⟩ := id hLS
    have hq := (s_pass hR ht (xs (nI (i + 1)).toNatClampNeg)).1
    refine lv_istore (lv' := (5, .int (nI k)) :: LV b o i G Gm) hx hb dL_law_479 hl (by decide) rfl (fun ls hl => ?_)
    refine lv_aload_n hx hb dL_law_481 rfl (lv_at hl 3 rfl) ?_
    refine lv_aload_n hx hb dL_law_482 rfl (lv_at hl 5 rfl) ?_
    refine lv_iload hx hb dL_law_483 (lv_at hl 1 rfl) ?_
    refine lv_iconst (v := nI 1) hx hb dL_law_485 (by decide) ?_
    refine x_iaddN hx hb dL_law_486 ?_
    refine va_sld hx hb hX hbl hbA hS (vp_in_nI (by omega) (by omega)) dL_law_487 ?_
    refine l_model hF hLS (va_runV (As := [.int (xs (nI (i + 1)).toNatClampNeg)]) (rest := []) ⟨hx, hb, hml, hown, hts⟩ (c_X6_pass l D cI cS cZ cJ Gm M H1.size (xs (nI (i + 1)).toNatClampNeg) hq) (cwV 1 hts gL_law_X6_pass rfl rfl rfl (by decide +kernel) ⟨Nat.le_of_ble_eq_true rfl, Nat.le_of_ble_eq_true rfl⟩) ⟨wPc_blind, va_recv hK hM (ci := 6) (q0 := 0) rfl (WL_at (by decide) rfl), wPc_at hM hK hDm hN⟩ rfl rfl hl.1 rfl (lv_room (Nat.le_of_ble_eq_true rfl)) dL_law_488 ⟨hc, hs⟩) (fun H2 locs2 hLS2 => ?_)
    obtain ⟨hP2, hM2, hO2, hS2⟩ := id hLS2
    refine lv_istore (lv' := (6, .int (f_X6_pass M (xs (nI (i + 1)).toNatClampNeg)).1) :: (5, .int (nI k)) :: LV b o i G Gm) hx hb dL_law_491 hl (by decide) rfl (fun ls hl => ?_)
    refine lv_aload_n hx hb dL_law_493 rfl (lv_at hl 4 rfl) ?_
    refine l_pure hLS2 (va_runV (As := []) (rest := []) ⟨hx, hb, hml, hown, hts⟩ (c_X6_thrown l D cI cS cZ cJ Gm (f_X6_pass M (xs (nI (i + 1)).toNatClampNeg)).2 H2.size) (cwV 0 hts gL_law_X6_thrown rfl rfl rfl (by decide +kernel) ⟨Nat.le_of_ble_eq_true rfl, Nat.le_of_ble_eq_true rfl⟩) ⟨wPc_blind, va_recv hK hM2 (ci := 6) (q0 := 0) rfl (WL_at (by decide) rfl), wPc_at hM2 hK hDm hN⟩ rfl rfl hl.1 rfl (lv_room (Nat.le_of_ble_eq_true rfl)) dL_law_494 ⟨hc, hs⟩) (fun H3 locs3 hLS3 => ?_)
    obtain ⟨hP3, hM3, hO3, hS3⟩ := id hLS3
    refine lv_iload hx hb dL_law_497 (lv_at hl 1 rfl) ?_
    refine lv_icmp_eq (tgt := 504) hx hb dL_law_499 (by decide) (fun _ => ?_) (fun h => absurd ((f_X6_thrown_d _).trans hthr) h)
    refine lv_iload hx hb dL_law_504 (lv_at hl 1 rfl) ?_
    refine lv_if_ne (tgt := 521) hx hb dL_law_506 (by decide) (fun _ => ?_) (fun hk => ?_)
    · refine lv_goto (tgt := 1173) hx hb dL_law_521 (by decide) ?_
      exact kk t1 S1 _ fo1 H3 locs3 ls ht1 hR1 hLS3 (lv_sub hl [2, 3, 4, 5, 6] rfl)
    · obtain ⟨f1, f2⟩ := hk0 (nI_inj (by omega) (by decide) hk)
      refine lv_aload_n hx hb dL_law_509 rfl (lv_at hl 3 rfl) ?_
      refine lv_iconst (v := nI 0) hx hb dL_law_510 (by decide) ?_
      refine va_lald hx hb hK hO3 0 3 rfl rfl (vp_in_nI (by decide) (by decide)) dL_law_511 ?_
      rw [f1]
      refine lv_iload hx hb dL_law_512 (lv_at hl 0 rfl) ?_
      refine lv_i2l (v := x) hx hb dL_law_514 f2 ?_
      refine x_lcmpE hx hb dL_law_515 ?_
      refine lv_if_eq (tgt := 521) hx hb dL_law_516 (by decide) (fun _ => ?_) (fun h => absurd rfl h)
      refine lv_goto (tgt := 1173) hx hb dL_law_521 (by decide) ?_
      exact kk t1 S1 _ fo1 H3 locs3 ls ht1 hR1 hLS3 (lv_sub hl [2, 3, 4, 5, 6] rfl)
  rcases (s_pass hR ht (xs (nI (i + 1)).toNatClampNeg)).2 with ⟨k, e1, e2, e3, e4, z1, z2, z3⟩ | ⟨e1, z⟩
  · rw [e1]
    refine l_good hF hLS (vx_runSW (As := [.ref (G 0), .int (nI k), .ref o]) (rest := []) ⟨hx, hb, hml, hown, hts⟩ (w_L_pass l D cI cS cZ cJ G S o fo H.size k e2 e3 e4) (vx_cwSW 3 hts gL_law_L_pass rfl rfl rfl (by decide +kernel) ⟨Nat.le_of_ble_eq_true rfl, Nat.le_of_ble_eq_true rfl⟩) ⟨lPc_blind, lPc_at hP hO hK hD hGo hN hT hZ hC hS⟩ rfl rfl hl.1 rfl (lv_room (Nat.le_of_ble_eq_true rfl)) dL_law_476 ⟨by show cells + 0 ≤ 637605; omega, by show slots + 0 ≤ 7183290; omega⟩) (fun H1 locs1 hLS1 => ?_)
    refine W.widen (k := cells + 1) (n := slots + 6) (by omega) (by omega) ?_
    exact tail 0 (f_X5_pass S k).1.toInt64 (f_X5_pass S k).2 (vp_updL fo 0 (f_X5_pass S k).1.toInt64) (t + k) H1 locs1 hLS1 (by omega) z1 z3 (by decide) (fun _ => ⟨by rw [show (nI 0).toNatClampNeg = 0 by decide, pk_uLs], by rw [z2]⟩)
  · refine l_bad hLS (vx_runSW (As := [.ref (G 0), .int (xs (nI (i + 1)).toNatClampNeg), .ref o]) (rest := []) ⟨hx, hb, hml, hown, hts⟩ (w_L_pass__1 l hfl D cI cS cZ cJ G S o fo H.size (xs (nI (i + 1)).toNatClampNeg) e1) (vx_cwSW 3 hts gL_law_L_pass rfl rfl rfl (by decide +kernel) ⟨Nat.le_of_ble_eq_true rfl, Nat.le_of_ble_eq_true rfl⟩) ⟨lPc_blind, lPc_at hP hO hK hD hGo hN hT hZ hC hS⟩ rfl rfl hl.1 rfl (lv_room (Nat.le_of_ble_eq_true rfl)) dL_law_476 ⟨hc, hs⟩) (fun H1 locs1 hLS1 => ?_)
    exact tail 1 0 S fo t H1 locs1 hLS1 (by omega) z.1 z.2 (by omega) (fun h => absurd h (by decide))
set_option maxHeartbeats 2000000 in
set_option maxRecDepth 100000 in
theorem op_now (hfl : l.stackTraces = false) (hx : p.tables.exec = Jvm.exec) (hb : c.code = cL_law) (hml : c.maxLocals = 7) (hown : s.vm.findClass RL = some m.cls) (hts : ∀ w ∈ wsL_law, w.before #[Value.ref b] s = true) (hX : va_X b L xs s s.heap) (hbl : b < s.heap.size) (hL20 : L ≤ 2048) (hF : LFix D cI cS cZ cJ G Gm o s) (hi : i + 4 ≤ L) (ht : t + 50 < 100000) (hR : Rel t S M) (hLS : LSt D cI cS cZ cJ G Gm o s S M fo H locs) (hl : lv_has ls 7 (LV b o i G Gm)) (hc : cells + 1 ≤ 637605) (hs : slots + 6 ≤ 7183290) (kk : LKK p l e s m below meth c b D cI cS cZ cJ G Gm o i t cells slots Q) : W p l e room_1 s m #[Value.ref b] below meth c H locs cells slots Q (F0 m 524 ls []) := by
  obtain ⟨hD, hDm, hGo, hmo, hGm, ho, hK, hN, hT, hZ, hC⟩ := id hF
  have hbA : ¬ (fun q : Nat => s.heap.size ≤ q) b := Nat.not_le.mpr hbl
  obtain ⟨hP, hM, hO, hS⟩ := id hLS
  refine lv_aload_n hx hb dL_law_524 rfl (lv_at hl 3 rfl) ?_
  refine l_pure hLS (va_runV (As := []) (rest := []) ⟨hx, hb, hml, hown, hts⟩ (c_X5_now l D cI cS cZ cJ G S H.size) (cwV 0 hts gL_law_X5_now rfl rfl rfl (by decide +kernel) ⟨Nat.le_of_ble_eq_true rfl, Nat.le_of_ble_eq_true rfl⟩) ⟨wPc_blind, va_recv hK hP (ci := 5) (q0 := 0) rfl (WL_at (by decide) (cF_air _)), wPc_at hP hK hD hN⟩ rfl rfl hl.1 rfl (lv_room (Nat.le_of_ble_eq_true rfl)) dL_law_525 ⟨by show cells + 0 ≤ 637605; omega, by show slots + 0 ≤ 7183290; omega⟩) (fun H1 locs1 hLS1 => ?_)
  obtain ⟨hP1, hM1, hO1, hS1⟩ := id hLS1
  refine lv_aload_n hx hb dL_law_528 rfl (lv_at hl 2 rfl) ?_
  refine l_model hF hLS1 (va_runV (As := []) (rest := [.int (f_X5_now S)]) ⟨hx, hb, hml, hown, hts⟩ (c_X6_now l D cI cS cZ cJ Gm M H1.size) (cwV 0 hts gL_law_X6_now rfl rfl rfl (by decide +kernel) ⟨Nat.le_of_ble_eq_true rfl, Nat.le_of_ble_eq_true rfl⟩) ⟨wPc_blind, va_recv hK hM1 (ci := 6) (q0 := 0) rfl (WL_at (by decide) rfl), wPc_at hM1 hK hDm hN⟩ rfl rfl hl.1 rfl (lv_room (Nat.le_of_ble_eq_true rfl)) dL_law_529 ⟨by show cells + 0 ≤ 637605; omega, by show slots + 0 ≤ 7183290; omega⟩) (fun H2 locs2 hLS2 => ?_)
  obtain ⟨e1, e2⟩ := s_now hR
  refine lv_icmp_eq (tgt := 1173) hx hb dL_law_532 (by decide) (fun _ => ?_) (fun h => absurd e1 h)
  refine W.widen (k := cells + 1) (n := slots + 6) (by omega) (by omega) ?_
  exact kk t S _ fo H2 locs2 ls (by omega) e2 hLS2 hl
set_option maxHeartbeats 4000000 in
set_option maxRecDepth 100000 in
theorem op_sends (hfl : l.stackTraces = false) (hx : p.tables.exec = Jvm.exec) (hb : c.code = cL_law) (hml : c.maxLocals = 7) (hown : s.vm.findClass RL = some m.cls) (hts : ∀ w ∈ wsL_law, w.before #[Value.ref b] s = true) (hX : va_X b L xs s s.heap) (hbl : b < s.heap.size) (hL20 : L ≤ 2048) (hF : LFix D cI cS cZ cJ G Gm o s) (hi : i + 4 ≤ L) (ht : t + 50 < 100000) (hR : Rel t S M) (hLS : LSt D cI cS cZ cJ G Gm o s S M fo H locs) (hl : lv_has ls 7 (LV b o i G Gm)) (hc : cells + 1 ≤ 637605) (hs : slots + 6 ≤ 7183290) (kk : LKK p l e s m below meth c b D cI cS cZ cJ G Gm o i t cells slots Q) : W p l e room_1 s m #[Value.ref b] below meth c H locs cells slots Q (F0 m 537 ls []) := by
  obtain ⟨hD, hDm, hGo, hmo, hGm, ho, hK, hN, hT, hZ, hC⟩ := id hF
  have hbA : ¬ (fun q : Nat => s.heap.size ≤ q) b := Nat.not_le.mpr hbl
  obtain ⟨hP, hM, hO, hS⟩ := id hLS
  refine lv_aload_n hx hb dL_law_537 rfl (lv_at hl 3 rfl) ?_
  refine lv_aload_n hx hb dL_law_538 rfl (lv_at hl 4 rfl) ?_
  refine lv_iload hx hb dL_law_539 (lv_at hl 0 rfl) ?_
  refine lv_iconst (v := nI 1) hx hb dL_law_541 (by decide) ?_
  refine x_iaddN hx hb dL_law_542 ?_
  refine va_sld hx hb hX hbl hbA hS (vp_in_nI (by omega) (by omega)) dL_law_543 ?_
  refine lv_aload_n hx hb dL_law_544 rfl (lv_at hl 1 rfl) ?_
  have tail : ∀ (k : Nat) (x : Int64) (S1 : Mem) (fo1 : Nat → Int64) (t1 : Nat) (H1 : Heap) (locs1 : List Loc), LSt D cI cS cZ cJ G Gm o s S1 M fo1 H1 locs1 → t1 ≤ t + 50 → (f_X6_sends M (xs (nI (i + 1)).toNatClampNeg)).2 0 0 = nI k → Rel t1 S1 (f_X6_sends M (xs (nI (i + 1)).toNatClampNeg)).2 → k < 4 → (k = 0 → fo1 (nI 0).toNatClampNeg = x ∧ (if (f_X6_sends M (xs (nI (i + 1)).toNatClampNeg)).1 = 0 then (0 : Int64) else 1) = x) → W p l e room_1 s m #[Value.ref b] below meth c H1 locs1 (cells + 1) (slots + 6) Q (F0 m 548 ls [.int (nI k)]) := by
    clear hLS hP hM hO hS
    intro k x S1 fo1 t1 H1 locs1 hLS ht1 hthr hR1 hk4 hk0
    obtain ⟨hP, hM, hO, hS⟩ := id hLS
    refine lv_istore (lv' := (5, .int (nI k)) :: LV b o i G Gm) hx hb dL_law_548 hl (by decide) rfl (fun ls hl => ?_)
    refine lv_aload_n hx hb dL_law_550 rfl (lv_at hl 3 rfl) ?_
    refine lv_aload_n hx hb dL_law_551 rfl (lv_at hl 5 rfl) ?_
    refine lv_iload hx hb dL_law_552 (lv_at hl 1 rfl) ?_
    refine lv_iconst (v := nI 1) hx hb dL_law_554 (by decide) ?_
    refine x_iaddN hx hb dL_law_555 ?_
    refine va_sld hx hb hX hbl hbA hS (vp_in_nI (by omega) (by omega)) dL_law_556 ?_
    refine l_model hF hLS (va_runV (As := [.int (xs (nI (i + 1)).toNatClampNeg)]) (rest := []) ⟨hx, hb, hml, hown, hts⟩ (c_X6_sends l D cI cS cZ cJ Gm M H1.size (xs (nI (i + 1)).toNatClampNeg)) (cwV 1 hts gL_law_X6_sends rfl rfl rfl (by decide +kernel) ⟨Nat.le_of_ble_eq_true rfl, Nat.le_of_ble_eq_true rfl⟩) ⟨wPc_blind, va_recv hK hM (ci := 6) (q0 := 0) rfl (WL_at (by decide) rfl), wPc_at hM hK hDm hN⟩ rfl rfl hl.1 rfl (lv_room (Nat.le_of_ble_eq_true rfl)) dL_law_557 ⟨hc, hs⟩) (fun H2 locs2 hLS2 => ?_)
    obtain ⟨hP2, hM2, hO2, hS2⟩ := id hLS2
    refine lv_istore (lv' := (6, .int (f_X6_sends M (xs (nI (i + 1)).toNatClampNeg)).1) :: (5, .int (nI k)) :: LV b o i G Gm) hx hb dL_law_560 hl (by decide) rfl (fun ls hl => ?_)
    refine lv_aload_n hx hb dL_law_562 rfl (lv_at hl 4 rfl) ?_
    refine l_pure hLS2 (va_runV (As := []) (rest := []) ⟨hx, hb, hml, hown, hts⟩ (c_X6_thrown l D cI cS cZ cJ Gm (f_X6_sends M (xs (nI (i + 1)).toNatClampNeg)).2 H2.size) (cwV 0 hts gL_law_X6_thrown rfl rfl rfl (by decide +kernel) ⟨Nat.le_of_ble_eq_true rfl, Nat.le_of_ble_eq_true rfl⟩) ⟨wPc_blind, va_recv hK hM2 (ci := 6) (q0 := 0) rfl (WL_at (by decide) rfl), wPc_at hM2 hK hDm hN⟩ rfl rfl hl.1 rfl (lv_room (Nat.le_of_ble_eq_true rfl)) dL_law_563 ⟨hc, hs⟩) (fun H3 locs3 hLS3 => ?_)
    obtain ⟨hP3, hM3, hO3, hS3⟩ := id hLS3
    refine lv_iload hx hb dL_law_566 (lv_at hl 1 rfl) ?_
    refine lv_icmp_eq (tgt := 573) hx hb dL_law_568 (by decide) (fun _ => ?_) (fun h => absurd ((f_X6_thrown_d _).trans hthr) h)
    refine lv_iload hx hb dL_law_573 (lv_at hl 1 rfl) ?_
    refine lv_if_ne (tgt := 597) hx hb dL_law_575 (by decide) (fun _ => ?_) (fun hk => ?_)
    · refine lv_goto (tgt := 1173) hx hb dL_law_597 (by decide) ?_
      exact kk t1 S1 _ fo1 H3 locs3 ls ht1 hR1 hLS3 (lv_sub hl [2, 3, 4, 5, 6] rfl)
    · obtain ⟨f1, f2⟩ := hk0 (nI_inj (by omega) (by decide) hk)
      refine lv_aload_n hx hb dL_law_578 rfl (lv_at hl 3 rfl) ?_
      refine lv_iconst (v := nI 0) hx hb dL_law_579 (by decide) ?_
      refine va_lald hx hb hK hO3 0 3 rfl rfl (vp_in_nI (by decide) (by decide)) dL_law_580 ?_
      rw [f1]
      refine lv_iload hx hb dL_law_581 (lv_at hl 0 rfl) ?_
      refine lv_if_eq (tgt := 590) hx hb dL_law_583 (by decide) (fun hz => ?_) (fun hz => ?_)
      · rw [if_pos hz] at f2
        refine lv_lconst (v := x) hx hb dL_law_590 (by rw [← f2]; rfl) ?_
        refine x_lcmpE hx hb dL_law_591 ?_
        refine lv_if_eq (tgt := 597) hx hb dL_law_592 (by decide) (fun _ => ?_) (fun h => absurd rfl h)
        refine lv_goto (tgt := 1173) hx hb dL_law_597 (by decide) ?_
        exact kk t1 S1 _ fo1 H3 locs3 ls ht1 hR1 hLS3 (lv_sub hl [2, 3, 4, 5, 6] rfl)
      · rw [if_neg hz] at f2
        refine lv_lconst (v := x) hx hb dL_law_586 (by rw [← f2]; rfl) ?_
        refine lv_goto (tgt := 591) hx hb dL_law_587 (by decide) ?_
        refine x_lcmpE hx hb dL_law_591 ?_
        refine lv_if_eq (tgt := 597) hx hb dL_law_592 (by decide) (fun _ => ?_) (fun h => absurd rfl h)
        refine lv_goto (tgt := 1173) hx hb dL_law_597 (by decide) ?_
        exact kk t1 S1 _ fo1 H3 locs3 ls ht1 hR1 hLS3 (lv_sub hl [2, 3, 4, 5, 6] rfl)
  rcases s_sends hR (xs (nI (i + 1)).toNatClampNeg) with ⟨a, e1, e2, e3, z1, z2, z3⟩ | ⟨e1, z⟩
  · rw [e1]
    refine l_good hF hLS (vx_runSW (As := [.ref (G 0), .int (nI a), .ref o]) (rest := []) ⟨hx, hb, hml, hown, hts⟩ (w_L_sends l D cI cS cZ cJ G S o fo H.size a e2 (by have e4 := e3; rw [f_X5_sends_d] at e4; rcases e4 with h | h <;> rw [h] <;> decide)) (vx_cwSW 3 hts gL_law_L_sends rfl rfl rfl (by decide +kernel) ⟨Nat.le_of_ble_eq_true rfl, Nat.le_of_ble_eq_true rfl⟩) ⟨lPc_blind, lPc_at hP hO hK hD hGo hN hT hZ hC hS⟩ rfl rfl hl.1 rfl (lv_room (Nat.le_of_ble_eq_true rfl)) dL_law_545 ⟨by show cells + 0 ≤ 637605; omega, by show slots + 0 ≤ 7183290; omega⟩) (fun H1 locs1 hLS1 => ?_)
    refine W.widen (k := cells + 1) (n := slots + 6) (by omega) (by omega) ?_
    exact tail 0 (if (f_X5_sends S a) = 0 then 0 else 1) S (vp_updL fo 0 (if (f_X5_sends S a) = 0 then 0 else 1)) t H1 locs1 hLS1 (by omega) z1 z3 (by decide) (fun _ => ⟨by rw [show (nI 0).toNatClampNeg = 0 by decide, pk_uLs], by rw [← z2]⟩)
  · refine l_bad hLS (vx_runSW (As := [.ref (G 0), .int (xs (nI (i + 1)).toNatClampNeg), .ref o]) (rest := []) ⟨hx, hb, hml, hown, hts⟩ (w_L_sends__ l hfl D cI cS cZ cJ G S o fo H.size (xs (nI (i + 1)).toNatClampNeg) e1) (vx_cwSW 3 hts gL_law_L_sends rfl rfl rfl (by decide +kernel) ⟨Nat.le_of_ble_eq_true rfl, Nat.le_of_ble_eq_true rfl⟩) ⟨lPc_blind, lPc_at hP hO hK hD hGo hN hT hZ hC hS⟩ rfl rfl hl.1 rfl (lv_room (Nat.le_of_ble_eq_true rfl)) dL_law_545 ⟨hc, hs⟩) (fun H1 locs1 hLS1 => ?_)
    exact tail 1 0 S fo t H1 locs1 hLS1 (by omega) z.1 z.2 (by omega) (fun h => absurd h (by decide))
set_option maxHeartbeats 4000000 in
set_option maxRecDepth 100000 in
theorem op_waitOf (hfl : l.stackTraces = false) (hx : p.tables.exec = Jvm.exec) (hb : c.code = cL_law) (hml : c.maxLocals = 7) (hown : s.vm.findClass RL = some m.cls) (hts : ∀ w ∈ wsL_law, w.before #[Value.ref b] s = true) (hX : va_X b L xs s s.heap) (hbl : b < s.heap.size) (hL20 : L ≤ 2048) (hF : LFix D cI cS cZ cJ G Gm o s) (hi : i + 4 ≤ L) (ht : t + 50 < 100000) (hR : Rel t S M) (hLS : LSt D cI cS cZ cJ G Gm o s S M fo H locs) (hl : lv_has ls 7 (LV b o i G Gm)) (hc : cells + 1 ≤ 637605) (hs : slots + 6 ≤ 7183290) (kk : LKK p l e s m below meth c b D cI cS cZ cJ G Gm o i t cells slots Q) : W p l e room_1 s m #[Value.ref b] below meth c H locs cells slots Q (F0 m 600 ls []) := by
  obtain ⟨hD, hDm, hGo, hmo, hGm, ho, hK, hN, hT, hZ, hC⟩ := id hF
  have hbA : ¬ (fun q : Nat => s.heap.size ≤ q) b := Nat.not_le.mpr hbl
  obtain ⟨hP, hM, hO, hS⟩ := id hLS
  refine lv_aload_n hx hb dL_law_600 rfl (lv_at hl 3 rfl) ?_
  refine lv_aload_n hx hb dL_law_601 rfl (lv_at hl 4 rfl) ?_
  refine lv_iload hx hb dL_law_602 (lv_at hl 0 rfl) ?_
  refine lv_iconst (v := nI 1) hx hb dL_law_604 (by decide) ?_
  refine x_iaddN hx hb dL_law_605 ?_
  refine va_sld hx hb hX hbl hbA hS (vp_in_nI (by omega) (by omega)) dL_law_606 ?_
  refine lv_aload_n hx hb dL_law_607 rfl (lv_at hl 1 rfl) ?_
  have tail : ∀ (k : Nat) (x : Int64) (S1 : Mem) (fo1 : Nat → Int64) (t1 : Nat) (H1 : Heap) (locs1 : List Loc), LSt D cI cS cZ cJ G Gm o s S1 M fo1 H1 locs1 → t1 ≤ t + 50 → (f_X6_waitOf M (xs (nI (i + 1)).toNatClampNeg)).2 0 0 = nI k → Rel t1 S1 (f_X6_waitOf M (xs (nI (i + 1)).toNatClampNeg)).2 → k < 4 → (k = 0 → fo1 (nI 0).toNatClampNeg = x ∧ (f_X6_waitOf M (xs (nI (i + 1)).toNatClampNeg)).1.toInt64 = x) → W p l e room_1 s m #[Value.ref b] below meth c H1 locs1 (cells + 1) (slots + 6) Q (F0 m 611 ls [.int (nI k)]) := by
    clear hLS hP hM hO hS
    intro k x S1 fo1 t1 H1 locs1 hLS ht1 hthr hR1 hk4 hk0
    obtain ⟨hP, hM, hO, hS⟩ := id hLS
    refine lv_istore (lv' := (5, .int (nI k)) :: LV b o i G Gm) hx hb dL_law_611 hl (by decide) rfl (fun ls hl => ?_)
    refine lv_aload_n hx hb dL_law_613 rfl (lv_at hl 3 rfl) ?_
    refine lv_aload_n hx hb dL_law_614 rfl (lv_at hl 5 rfl) ?_
    refine lv_iload hx hb dL_law_615 (lv_at hl 1 rfl) ?_
    refine lv_iconst (v := nI 1) hx hb dL_law_617 (by decide) ?_
    refine x_iaddN hx hb dL_law_618 ?_
    refine va_sld hx hb hX hbl hbA hS (vp_in_nI (by omega) (by omega)) dL_law_619 ?_
    refine l_model hF hLS (va_runV (As := [.int (xs (nI (i + 1)).toNatClampNeg)]) (rest := []) ⟨hx, hb, hml, hown, hts⟩ (c_X6_waitOf l D cI cS cZ cJ Gm M H1.size (xs (nI (i + 1)).toNatClampNeg)) (cwV 1 hts gL_law_X6_waitOf rfl rfl rfl (by decide +kernel) ⟨Nat.le_of_ble_eq_true rfl, Nat.le_of_ble_eq_true rfl⟩) ⟨wPc_blind, va_recv hK hM (ci := 6) (q0 := 0) rfl (WL_at (by decide) rfl), wPc_at hM hK hDm hN⟩ rfl rfl hl.1 rfl (lv_room (Nat.le_of_ble_eq_true rfl)) dL_law_620 ⟨hc, hs⟩) (fun H2 locs2 hLS2 => ?_)
    obtain ⟨hP2, hM2, hO2, hS2⟩ := id hLS2
    refine lv_istore (lv' := (6, .int (f_X6_waitOf M (xs (nI (i + 1)).toNatClampNeg)).1) :: (5, .int (nI k)) :: LV b o i G Gm) hx hb dL_law_623 hl (by decide) rfl (fun ls hl => ?_)
    refine lv_aload_n hx hb dL_law_625 rfl (lv_at hl 4 rfl) ?_
    refine l_pure hLS2 (va_runV (As := []) (rest := []) ⟨hx, hb, hml, hown, hts⟩ (c_X6_thrown l D cI cS cZ cJ Gm (f_X6_waitOf M (xs (nI (i + 1)).toNatClampNeg)).2 H2.size) (cwV 0 hts gL_law_X6_thrown rfl rfl rfl (by decide +kernel) ⟨Nat.le_of_ble_eq_true rfl, Nat.le_of_ble_eq_true rfl⟩) ⟨wPc_blind, va_recv hK hM2 (ci := 6) (q0 := 0) rfl (WL_at (by decide) rfl), wPc_at hM2 hK hDm hN⟩ rfl rfl hl.1 rfl (lv_room (Nat.le_of_ble_eq_true rfl)) dL_law_626 ⟨hc, hs⟩) (fun H3 locs3 hLS3 => ?_)
    obtain ⟨hP3, hM3, hO3, hS3⟩ := id hLS3
    refine lv_iload hx hb dL_law_629 (lv_at hl 1 rfl) ?_
    refine lv_icmp_eq (tgt := 636) hx hb dL_law_631 (by decide) (fun _ => ?_) (fun h => absurd ((f_X6_thrown_d _).trans hthr) h)
    refine lv_iload hx hb dL_law_636 (lv_at hl 1 rfl) ?_
    refine lv_if_ne (tgt := 653) hx hb dL_law_638 (by decide) (fun _ => ?_) (fun hk => ?_)
    · refine lv_goto (tgt := 1173) hx hb dL_law_653 (by decide) ?_
      exact kk t1 S1 _ fo1 H3 locs3 ls ht1 hR1 hLS3 (lv_sub hl [2, 3, 4, 5, 6] rfl)
    · obtain ⟨f1, f2⟩ := hk0 (nI_inj (by omega) (by decide) hk)
      refine lv_aload_n hx hb dL_law_641 rfl (lv_at hl 3 rfl) ?_
      refine lv_iconst (v := nI 0) hx hb dL_law_642 (by decide) ?_
      refine va_lald hx hb hK hO3 0 3 rfl rfl (vp_in_nI (by decide) (by decide)) dL_law_643 ?_
      rw [f1]
      refine lv_iload hx hb dL_law_644 (lv_at hl 0 rfl) ?_
      refine lv_i2l (v := x) hx hb dL_law_646 f2 ?_
      refine x_lcmpE hx hb dL_law_647 ?_
      refine lv_if_eq (tgt := 653) hx hb dL_law_648 (by decide) (fun _ => ?_) (fun h => absurd rfl h)
      refine lv_goto (tgt := 1173) hx hb dL_law_653 (by decide) ?_
      exact kk t1 S1 _ fo1 H3 locs3 ls ht1 hR1 hLS3 (lv_sub hl [2, 3, 4, 5, 6] rfl)
  rcases s_waitOf hR (xs (nI (i + 1)).toNatClampNeg) with ⟨a, e1, e2, z1, z2, z3⟩ | ⟨e1, z⟩
  · rw [e1]
    refine l_good hF hLS (vx_runSW (As := [.ref (G 0), .int (nI a), .ref o]) (rest := []) ⟨hx, hb, hml, hown, hts⟩ (w_L_waitOf l D cI cS cZ cJ G S o fo H.size a e2) (vx_cwSW 3 hts gL_law_L_waitOf rfl rfl rfl (by decide +kernel) ⟨Nat.le_of_ble_eq_true rfl, Nat.le_of_ble_eq_true rfl⟩) ⟨lPc_blind, lPc_at hP hO hK hD hGo hN hT hZ hC hS⟩ rfl rfl hl.1 rfl (lv_room (Nat.le_of_ble_eq_true rfl)) dL_law_608 ⟨by show cells + 0 ≤ 637605; omega, by show slots + 0 ≤ 7183290; omega⟩) (fun H1 locs1 hLS1 => ?_)
    refine W.widen (k := cells + 1) (n := slots + 6) (by omega) (by omega) ?_
    exact tail 0 (f_X5_waitOf S a).toInt64 S (vp_updL fo 0 (f_X5_waitOf S a).toInt64) t H1 locs1 hLS1 (by omega) z1 z3 (by decide) (fun _ => ⟨by rw [show (nI 0).toNatClampNeg = 0 by decide, pk_uLs], by rw [← z2]⟩)
  · refine l_bad hLS (vx_runSW (As := [.ref (G 0), .int (xs (nI (i + 1)).toNatClampNeg), .ref o]) (rest := []) ⟨hx, hb, hml, hown, hts⟩ (w_L_waitOf__ l hfl D cI cS cZ cJ G S o fo H.size (xs (nI (i + 1)).toNatClampNeg) e1) (vx_cwSW 3 hts gL_law_L_waitOf rfl rfl rfl (by decide +kernel) ⟨Nat.le_of_ble_eq_true rfl, Nat.le_of_ble_eq_true rfl⟩) ⟨lPc_blind, lPc_at hP hO hK hD hGo hN hT hZ hC hS⟩ rfl rfl hl.1 rfl (lv_room (Nat.le_of_ble_eq_true rfl)) dL_law_608 ⟨hc, hs⟩) (fun H1 locs1 hLS1 => ?_)
    exact tail 1 0 S fo t H1 locs1 hLS1 (by omega) z.1 z.2 (by omega) (fun h => absurd h (by decide))
set_option maxHeartbeats 4000000 in
set_option maxRecDepth 100000 in
theorem op_window (hfl : l.stackTraces = false) (hx : p.tables.exec = Jvm.exec) (hb : c.code = cL_law) (hml : c.maxLocals = 7) (hown : s.vm.findClass RL = some m.cls) (hts : ∀ w ∈ wsL_law, w.before #[Value.ref b] s = true) (hX : va_X b L xs s s.heap) (hbl : b < s.heap.size) (hL20 : L ≤ 2048) (hF : LFix D cI cS cZ cJ G Gm o s) (hi : i + 4 ≤ L) (ht : t + 50 < 100000) (hR : Rel t S M) (hLS : LSt D cI cS cZ cJ G Gm o s S M fo H locs) (hl : lv_has ls 7 (LV b o i G Gm)) (hc : cells + 1 ≤ 637605) (hs : slots + 6 ≤ 7183290) (kk : LKK p l e s m below meth c b D cI cS cZ cJ G Gm o i t cells slots Q) : W p l e room_1 s m #[Value.ref b] below meth c H locs cells slots Q (F0 m 656 ls []) := by
  obtain ⟨hD, hDm, hGo, hmo, hGm, ho, hK, hN, hT, hZ, hC⟩ := id hF
  have hbA : ¬ (fun q : Nat => s.heap.size ≤ q) b := Nat.not_le.mpr hbl
  obtain ⟨hP, hM, hO, hS⟩ := id hLS
  refine lv_aload_n hx hb dL_law_656 rfl (lv_at hl 3 rfl) ?_
  refine lv_aload_n hx hb dL_law_657 rfl (lv_at hl 4 rfl) ?_
  refine lv_iload hx hb dL_law_658 (lv_at hl 0 rfl) ?_
  refine lv_iconst (v := nI 1) hx hb dL_law_660 (by decide) ?_
  refine x_iaddN hx hb dL_law_661 ?_
  refine va_sld hx hb hX hbl hbA hS (vp_in_nI (by omega) (by omega)) dL_law_662 ?_
  refine lv_aload_n hx hb dL_law_663 rfl (lv_at hl 1 rfl) ?_
  have tail : ∀ (k : Nat) (x : Int64) (S1 : Mem) (fo1 : Nat → Int64) (t1 : Nat) (H1 : Heap) (locs1 : List Loc), LSt D cI cS cZ cJ G Gm o s S1 M fo1 H1 locs1 → t1 ≤ t + 50 → (f_X6_window M (xs (nI (i + 1)).toNatClampNeg)).2 0 0 = nI k → Rel t1 S1 (f_X6_window M (xs (nI (i + 1)).toNatClampNeg)).2 → k < 4 → (k = 0 → fo1 (nI 0).toNatClampNeg = x ∧ (f_X6_window M (xs (nI (i + 1)).toNatClampNeg)).1.toInt64 = x) → W p l e room_1 s m #[Value.ref b] below meth c H1 locs1 (cells + 1) (slots + 6) Q (F0 m 667 ls [.int (nI k)]) := by
    clear hLS hP hM hO hS
    intro k x S1 fo1 t1 H1 locs1 hLS ht1 hthr hR1 hk4 hk0
    obtain ⟨hP, hM, hO, hS⟩ := id hLS
    refine lv_istore (lv' := (5, .int (nI k)) :: LV b o i G Gm) hx hb dL_law_667 hl (by decide) rfl (fun ls hl => ?_)
    refine lv_aload_n hx hb dL_law_669 rfl (lv_at hl 3 rfl) ?_
    refine lv_aload_n hx hb dL_law_670 rfl (lv_at hl 5 rfl) ?_
    refine lv_iload hx hb dL_law_671 (lv_at hl 1 rfl) ?_
    refine lv_iconst (v := nI 1) hx hb dL_law_673 (by decide) ?_
    refine x_iaddN hx hb dL_law_674 ?_
    refine va_sld hx hb hX hbl hbA hS (vp_in_nI (by omega) (by omega)) dL_law_675 ?_
    refine l_model hF hLS (va_runV (As := [.int (xs (nI (i + 1)).toNatClampNeg)]) (rest := []) ⟨hx, hb, hml, hown, hts⟩ (c_X6_window l D cI cS cZ cJ Gm M H1.size (xs (nI (i + 1)).toNatClampNeg)) (cwV 1 hts gL_law_X6_window rfl rfl rfl (by decide +kernel) ⟨Nat.le_of_ble_eq_true rfl, Nat.le_of_ble_eq_true rfl⟩) ⟨wPc_blind, va_recv hK hM (ci := 6) (q0 := 0) rfl (WL_at (by decide) rfl), wPc_at hM hK hDm hN⟩ rfl rfl hl.1 rfl (lv_room (Nat.le_of_ble_eq_true rfl)) dL_law_676 ⟨hc, hs⟩) (fun H2 locs2 hLS2 => ?_)
    obtain ⟨hP2, hM2, hO2, hS2⟩ := id hLS2
    refine lv_istore (lv' := (6, .int (f_X6_window M (xs (nI (i + 1)).toNatClampNeg)).1) :: (5, .int (nI k)) :: LV b o i G Gm) hx hb dL_law_679 hl (by decide) rfl (fun ls hl => ?_)
    refine lv_aload_n hx hb dL_law_681 rfl (lv_at hl 4 rfl) ?_
    refine l_pure hLS2 (va_runV (As := []) (rest := []) ⟨hx, hb, hml, hown, hts⟩ (c_X6_thrown l D cI cS cZ cJ Gm (f_X6_window M (xs (nI (i + 1)).toNatClampNeg)).2 H2.size) (cwV 0 hts gL_law_X6_thrown rfl rfl rfl (by decide +kernel) ⟨Nat.le_of_ble_eq_true rfl, Nat.le_of_ble_eq_true rfl⟩) ⟨wPc_blind, va_recv hK hM2 (ci := 6) (q0 := 0) rfl (WL_at (by decide) rfl), wPc_at hM2 hK hDm hN⟩ rfl rfl hl.1 rfl (lv_room (Nat.le_of_ble_eq_true rfl)) dL_law_682 ⟨hc, hs⟩) (fun H3 locs3 hLS3 => ?_)
    obtain ⟨hP3, hM3, hO3, hS3⟩ := id hLS3
    refine lv_iload hx hb dL_law_685 (lv_at hl 1 rfl) ?_
    refine lv_icmp_eq (tgt := 692) hx hb dL_law_687 (by decide) (fun _ => ?_) (fun h => absurd ((f_X6_thrown_d _).trans hthr) h)
    refine lv_iload hx hb dL_law_692 (lv_at hl 1 rfl) ?_
    refine lv_if_ne (tgt := 709) hx hb dL_law_694 (by decide) (fun _ => ?_) (fun hk => ?_)
    · refine lv_goto (tgt := 1173) hx hb dL_law_709 (by decide) ?_
      exact kk t1 S1 _ fo1 H3 locs3 ls ht1 hR1 hLS3 (lv_sub hl [2, 3, 4, 5, 6] rfl)
    · obtain ⟨f1, f2⟩ := hk0 (nI_inj (by omega) (by decide) hk)
      refine lv_aload_n hx hb dL_law_697 rfl (lv_at hl 3 rfl) ?_
      refine lv_iconst (v := nI 0) hx hb dL_law_698 (by decide) ?_
      refine va_lald hx hb hK hO3 0 3 rfl rfl (vp_in_nI (by decide) (by decide)) dL_law_699 ?_
      rw [f1]
      refine lv_iload hx hb dL_law_700 (lv_at hl 0 rfl) ?_
      refine lv_i2l (v := x) hx hb dL_law_702 f2 ?_
      refine x_lcmpE hx hb dL_law_703 ?_
      refine lv_if_eq (tgt := 709) hx hb dL_law_704 (by decide) (fun _ => ?_) (fun h => absurd rfl h)
      refine lv_goto (tgt := 1173) hx hb dL_law_709 (by decide) ?_
      exact kk t1 S1 _ fo1 H3 locs3 ls ht1 hR1 hLS3 (lv_sub hl [2, 3, 4, 5, 6] rfl)
  rcases s_window hR (xs (nI (i + 1)).toNatClampNeg) with ⟨a, e1, e2, z1, z2, z3⟩ | ⟨e1, z⟩
  · rw [e1]
    refine l_good hF hLS (vx_runSW (As := [.ref (G 0), .int (nI a), .ref o]) (rest := []) ⟨hx, hb, hml, hown, hts⟩ (w_L_window l D cI cS cZ cJ G S o fo H.size a e2) (vx_cwSW 3 hts gL_law_L_window rfl rfl rfl (by decide +kernel) ⟨Nat.le_of_ble_eq_true rfl, Nat.le_of_ble_eq_true rfl⟩) ⟨lPc_blind, lPc_at hP hO hK hD hGo hN hT hZ hC hS⟩ rfl rfl hl.1 rfl (lv_room (Nat.le_of_ble_eq_true rfl)) dL_law_664 ⟨by show cells + 0 ≤ 637605; omega, by show slots + 0 ≤ 7183290; omega⟩) (fun H1 locs1 hLS1 => ?_)
    refine W.widen (k := cells + 1) (n := slots + 6) (by omega) (by omega) ?_
    exact tail 0 (f_X5_window S a).toInt64 S (vp_updL fo 0 (f_X5_window S a).toInt64) t H1 locs1 hLS1 (by omega) z1 z3 (by decide) (fun _ => ⟨by rw [show (nI 0).toNatClampNeg = 0 by decide, pk_uLs], by rw [← z2]⟩)
  · refine l_bad hLS (vx_runSW (As := [.ref (G 0), .int (xs (nI (i + 1)).toNatClampNeg), .ref o]) (rest := []) ⟨hx, hb, hml, hown, hts⟩ (w_L_window__ l hfl D cI cS cZ cJ G S o fo H.size (xs (nI (i + 1)).toNatClampNeg) e1) (vx_cwSW 3 hts gL_law_L_window rfl rfl rfl (by decide +kernel) ⟨Nat.le_of_ble_eq_true rfl, Nat.le_of_ble_eq_true rfl⟩) ⟨lPc_blind, lPc_at hP hO hK hD hGo hN hT hZ hC hS⟩ rfl rfl hl.1 rfl (lv_room (Nat.le_of_ble_eq_true rfl)) dL_law_664 ⟨hc, hs⟩) (fun H1 locs1 hLS1 => ?_)
    exact tail 1 0 S fo t H1 locs1 hLS1 (by omega) z.1 z.2 (by omega) (fun h => absurd h (by decide))
set_option maxHeartbeats 4000000 in
set_option maxRecDepth 100000 in
theorem op_failures (hfl : l.stackTraces = false) (hx : p.tables.exec = Jvm.exec) (hb : c.code = cL_law) (hml : c.maxLocals = 7) (hown : s.vm.findClass RL = some m.cls) (hts : ∀ w ∈ wsL_law, w.before #[Value.ref b] s = true) (hX : va_X b L xs s s.heap) (hbl : b < s.heap.size) (hL20 : L ≤ 2048) (hF : LFix D cI cS cZ cJ G Gm o s) (hi : i + 4 ≤ L) (ht : t + 50 < 100000) (hR : Rel t S M) (hLS : LSt D cI cS cZ cJ G Gm o s S M fo H locs) (hl : lv_has ls 7 (LV b o i G Gm)) (hc : cells + 1 ≤ 637605) (hs : slots + 6 ≤ 7183290) (kk : LKK p l e s m below meth c b D cI cS cZ cJ G Gm o i t cells slots Q) : W p l e room_1 s m #[Value.ref b] below meth c H locs cells slots Q (F0 m 712 ls []) := by
  obtain ⟨hD, hDm, hGo, hmo, hGm, ho, hK, hN, hT, hZ, hC⟩ := id hF
  have hbA : ¬ (fun q : Nat => s.heap.size ≤ q) b := Nat.not_le.mpr hbl
  obtain ⟨hP, hM, hO, hS⟩ := id hLS
  refine lv_aload_n hx hb dL_law_712 rfl (lv_at hl 3 rfl) ?_
  refine lv_aload_n hx hb dL_law_713 rfl (lv_at hl 4 rfl) ?_
  refine lv_iload hx hb dL_law_714 (lv_at hl 0 rfl) ?_
  refine lv_iconst (v := nI 1) hx hb dL_law_716 (by decide) ?_
  refine x_iaddN hx hb dL_law_717 ?_
  refine va_sld hx hb hX hbl hbA hS (vp_in_nI (by omega) (by omega)) dL_law_718 ?_
  refine lv_aload_n hx hb dL_law_719 rfl (lv_at hl 1 rfl) ?_
  have tail : ∀ (k : Nat) (x : Int64) (S1 : Mem) (fo1 : Nat → Int64) (t1 : Nat) (H1 : Heap) (locs1 : List Loc), LSt D cI cS cZ cJ G Gm o s S1 M fo1 H1 locs1 → t1 ≤ t + 50 → (f_X6_failures M (xs (nI (i + 1)).toNatClampNeg)).2 0 0 = nI k → Rel t1 S1 (f_X6_failures M (xs (nI (i + 1)).toNatClampNeg)).2 → k < 4 → (k = 0 → fo1 (nI 0).toNatClampNeg = x ∧ (f_X6_failures M (xs (nI (i + 1)).toNatClampNeg)).1.toInt64 = x) → W p l e room_1 s m #[Value.ref b] below meth c H1 locs1 (cells + 1) (slots + 6) Q (F0 m 723 ls [.int (nI k)]) := by
    clear hLS hP hM hO hS
    intro k x S1 fo1 t1 H1 locs1 hLS ht1 hthr hR1 hk4 hk0
    obtain ⟨hP, hM, hO, hS⟩ := id hLS
    refine lv_istore (lv' := (5, .int (nI k)) :: LV b o i G Gm) hx hb dL_law_723 hl (by decide) rfl (fun ls hl => ?_)
    refine lv_aload_n hx hb dL_law_725 rfl (lv_at hl 3 rfl) ?_
    refine lv_aload_n hx hb dL_law_726 rfl (lv_at hl 5 rfl) ?_
    refine lv_iload hx hb dL_law_727 (lv_at hl 1 rfl) ?_
    refine lv_iconst (v := nI 1) hx hb dL_law_729 (by decide) ?_
    refine x_iaddN hx hb dL_law_730 ?_
    refine va_sld hx hb hX hbl hbA hS (vp_in_nI (by omega) (by omega)) dL_law_731 ?_
    refine l_model hF hLS (va_runV (As := [.int (xs (nI (i + 1)).toNatClampNeg)]) (rest := []) ⟨hx, hb, hml, hown, hts⟩ (c_X6_failures l D cI cS cZ cJ Gm M H1.size (xs (nI (i + 1)).toNatClampNeg)) (cwV 1 hts gL_law_X6_failures rfl rfl rfl (by decide +kernel) ⟨Nat.le_of_ble_eq_true rfl, Nat.le_of_ble_eq_true rfl⟩) ⟨wPc_blind, va_recv hK hM (ci := 6) (q0 := 0) rfl (WL_at (by decide) rfl), wPc_at hM hK hDm hN⟩ rfl rfl hl.1 rfl (lv_room (Nat.le_of_ble_eq_true rfl)) dL_law_732 ⟨hc, hs⟩) (fun H2 locs2 hLS2 => ?_)
    obtain ⟨hP2, hM2, hO2, hS2⟩ := id hLS2
    refine lv_istore (lv' := (6, .int (f_X6_failures M (xs (nI (i + 1)).toNatClampNeg)).1) :: (5, .int (nI k)) :: LV b o i G Gm) hx hb dL_law_735 hl (by decide) rfl (fun ls hl => ?_)
    refine lv_aload_n hx hb dL_law_737 rfl (lv_at hl 4 rfl) ?_
    refine l_pure hLS2 (va_runV (As := []) (rest := []) ⟨hx, hb, hml, hown, hts⟩ (c_X6_thrown l D cI cS cZ cJ Gm (f_X6_failures M (xs (nI (i + 1)).toNatClampNeg)).2 H2.size) (cwV 0 hts gL_law_X6_thrown rfl rfl rfl (by decide +kernel) ⟨Nat.le_of_ble_eq_true rfl, Nat.le_of_ble_eq_true rfl⟩) ⟨wPc_blind, va_recv hK hM2 (ci := 6) (q0 := 0) rfl (WL_at (by decide) rfl), wPc_at hM2 hK hDm hN⟩ rfl rfl hl.1 rfl (lv_room (Nat.le_of_ble_eq_true rfl)) dL_law_738 ⟨hc, hs⟩) (fun H3 locs3 hLS3 => ?_)
    obtain ⟨hP3, hM3, hO3, hS3⟩ := id hLS3
    refine lv_iload hx hb dL_law_741 (lv_at hl 1 rfl) ?_
    refine lv_icmp_eq (tgt := 748) hx hb dL_law_743 (by decide) (fun _ => ?_) (fun h => absurd ((f_X6_thrown_d _).trans hthr) h)
    refine lv_iload hx hb dL_law_748 (lv_at hl 1 rfl) ?_
    refine lv_if_ne (tgt := 765) hx hb dL_law_750 (by decide) (fun _ => ?_) (fun hk => ?_)
    · refine lv_goto (tgt := 1173) hx hb dL_law_765 (by decide) ?_
      exact kk t1 S1 _ fo1 H3 locs3 ls ht1 hR1 hLS3 (lv_sub hl [2, 3, 4, 5, 6] rfl)
    · obtain ⟨f1, f2⟩ := hk0 (nI_inj (by omega) (by decide) hk)
      refine lv_aload_n hx hb dL_law_753 rfl (lv_at hl 3 rfl) ?_
      refine lv_iconst (v := nI 0) hx hb dL_law_754 (by decide) ?_
      refine va_lald hx hb hK hO3 0 3 rfl rfl (vp_in_nI (by decide) (by decide)) dL_law_755 ?_
      rw [f1]
      refine lv_iload hx hb dL_law_756 (lv_at hl 0 rfl) ?_
      refine lv_i2l (v := x) hx hb dL_law_758 f2 ?_
      refine x_lcmpE hx hb dL_law_759 ?_
      refine lv_if_eq (tgt := 765) hx hb dL_law_760 (by decide) (fun _ => ?_) (fun h => absurd rfl h)
      refine lv_goto (tgt := 1173) hx hb dL_law_765 (by decide) ?_
      exact kk t1 S1 _ fo1 H3 locs3 ls ht1 hR1 hLS3 (lv_sub hl [2, 3, 4, 5, 6] rfl)
  rcases s_failures hR (xs (nI (i + 1)).toNatClampNeg) with ⟨a, e1, e2, z1, z2, z3⟩ | ⟨e1, z⟩
  · rw [e1]
    refine l_good hF hLS (vx_runSW (As := [.ref (G 0), .int (nI a), .ref o]) (rest := []) ⟨hx, hb, hml, hown, hts⟩ (w_L_failures l D cI cS cZ cJ G S o fo H.size a e2) (vx_cwSW 3 hts gL_law_L_failures rfl rfl rfl (by decide +kernel) ⟨Nat.le_of_ble_eq_true rfl, Nat.le_of_ble_eq_true rfl⟩) ⟨lPc_blind, lPc_at hP hO hK hD hGo hN hT hZ hC hS⟩ rfl rfl hl.1 rfl (lv_room (Nat.le_of_ble_eq_true rfl)) dL_law_720 ⟨by show cells + 0 ≤ 637605; omega, by show slots + 0 ≤ 7183290; omega⟩) (fun H1 locs1 hLS1 => ?_)
    refine W.widen (k := cells + 1) (n := slots + 6) (by omega) (by omega) ?_
    exact tail 0 (f_X5_failures S a).toInt64 S (vp_updL fo 0 (f_X5_failures S a).toInt64) t H1 locs1 hLS1 (by omega) z1 z3 (by decide) (fun _ => ⟨by rw [show (nI 0).toNatClampNeg = 0 by decide, pk_uLs], by rw [← z2]⟩)
  · refine l_bad hLS (vx_runSW (As := [.ref (G 0), .int (xs (nI (i + 1)).toNatClampNeg), .ref o]) (rest := []) ⟨hx, hb, hml, hown, hts⟩ (w_L_failures__ l hfl D cI cS cZ cJ G S o fo H.size (xs (nI (i + 1)).toNatClampNeg) e1) (vx_cwSW 3 hts gL_law_L_failures rfl rfl rfl (by decide +kernel) ⟨Nat.le_of_ble_eq_true rfl, Nat.le_of_ble_eq_true rfl⟩) ⟨lPc_blind, lPc_at hP hO hK hD hGo hN hT hZ hC hS⟩ rfl rfl hl.1 rfl (lv_room (Nat.le_of_ble_eq_true rfl)) dL_law_720 ⟨hc, hs⟩) (fun H1 locs1 hLS1 => ?_)
    exact tail 1 0 S fo t H1 locs1 hLS1 (by omega) z.1 z.2 (by omega) (fun h => absurd h (by decide))
set_option maxHeartbeats 4000000 in
set_option maxRecDepth 100000 in
theorem op_silencedTo (hfl : l.stackTraces = false) (hx : p.tables.exec = Jvm.exec) (hb : c.code = cL_law) (hml : c.maxLocals = 7) (hown : s.vm.findClass RL = some m.cls) (hts : ∀ w ∈ wsL_law, w.before #[Value.ref b] s = true) (hX : va_X b L xs s s.heap) (hbl : b < s.heap.size) (hL20 : L ≤ 2048) (hF : LFix D cI cS cZ cJ G Gm o s) (hi : i + 4 ≤ L) (ht : t + 50 < 100000) (hR : Rel t S M) (hLS : LSt D cI cS cZ cJ G Gm o s S M fo H locs) (hl : lv_has ls 7 (LV b o i G Gm)) (hc : cells + 1 ≤ 637605) (hs : slots + 6 ≤ 7183290) (kk : LKK p l e s m below meth c b D cI cS cZ cJ G Gm o i t cells slots Q) : W p l e room_1 s m #[Value.ref b] below meth c H locs cells slots Q (F0 m 768 ls []) := by
  obtain ⟨hD, hDm, hGo, hmo, hGm, ho, hK, hN, hT, hZ, hC⟩ := id hF
  have hbA : ¬ (fun q : Nat => s.heap.size ≤ q) b := Nat.not_le.mpr hbl
  obtain ⟨hP, hM, hO, hS⟩ := id hLS
  refine lv_aload_n hx hb dL_law_768 rfl (lv_at hl 3 rfl) ?_
  refine lv_aload_n hx hb dL_law_769 rfl (lv_at hl 4 rfl) ?_
  refine lv_iload hx hb dL_law_770 (lv_at hl 0 rfl) ?_
  refine lv_iconst (v := nI 1) hx hb dL_law_772 (by decide) ?_
  refine x_iaddN hx hb dL_law_773 ?_
  refine va_sld hx hb hX hbl hbA hS (vp_in_nI (by omega) (by omega)) dL_law_774 ?_
  refine lv_aload_n hx hb dL_law_775 rfl (lv_at hl 1 rfl) ?_
  have tail : ∀ (k : Nat) (x : Int64) (S1 : Mem) (fo1 : Nat → Int64) (t1 : Nat) (H1 : Heap) (locs1 : List Loc), LSt D cI cS cZ cJ G Gm o s S1 M fo1 H1 locs1 → t1 ≤ t + 50 → (f_X6_silencedTo M (xs (nI (i + 1)).toNatClampNeg)).2 0 0 = nI k → Rel t1 S1 (f_X6_silencedTo M (xs (nI (i + 1)).toNatClampNeg)).2 → k < 4 → (k = 0 → fo1 (nI 0).toNatClampNeg = x ∧ (f_X6_silencedTo M (xs (nI (i + 1)).toNatClampNeg)).1.toInt64 = x) → W p l e room_1 s m #[Value.ref b] below meth c H1 locs1 (cells + 1) (slots + 6) Q (F0 m 779 ls [.int (nI k)]) := by
    clear hLS hP hM hO hS
    intro k x S1 fo1 t1 H1 locs1 hLS ht1 hthr hR1 hk4 hk0
    obtain ⟨hP, hM, hO, hS⟩ := id hLS
    refine lv_istore (lv' := (5, .int (nI k)) :: LV b o i G Gm) hx hb dL_law_779 hl (by decide) rfl (fun ls hl => ?_)
    refine lv_aload_n hx hb dL_law_781 rfl (lv_at hl 3 rfl) ?_
    refine lv_aload_n hx hb dL_law_782 rfl (lv_at hl 5 rfl) ?_
    refine lv_iload hx hb dL_law_783 (lv_at hl 1 rfl) ?_
    refine lv_iconst (v := nI 1) hx hb dL_law_785 (by decide) ?_
    refine x_iaddN hx hb dL_law_786 ?_
    refine va_sld hx hb hX hbl hbA hS (vp_in_nI (by omega) (by omega)) dL_law_787 ?_
    refine l_model hF hLS (va_runV (As := [.int (xs (nI (i + 1)).toNatClampNeg)]) (rest := []) ⟨hx, hb, hml, hown, hts⟩ (c_X6_silencedTo l D cI cS cZ cJ Gm M H1.size (xs (nI (i + 1)).toNatClampNeg)) (cwV 1 hts gL_law_X6_silencedTo rfl rfl rfl (by decide +kernel) ⟨Nat.le_of_ble_eq_true rfl, Nat.le_of_ble_eq_true rfl⟩) ⟨wPc_blind, va_recv hK hM (ci := 6) (q0 := 0) rfl (WL_at (by decide) rfl), wPc_at hM hK hDm hN⟩ rfl rfl hl.1 rfl (lv_room (Nat.le_of_ble_eq_true rfl)) dL_law_788 ⟨hc, hs⟩) (fun H2 locs2 hLS2 => ?_)
    obtain ⟨hP2, hM2, hO2, hS2⟩ := id hLS2
    refine lv_istore (lv' := (6, .int (f_X6_silencedTo M (xs (nI (i + 1)).toNatClampNeg)).1) :: (5, .int (nI k)) :: LV b o i G Gm) hx hb dL_law_791 hl (by decide) rfl (fun ls hl => ?_)
    refine lv_aload_n hx hb dL_law_793 rfl (lv_at hl 4 rfl) ?_
    refine l_pure hLS2 (va_runV (As := []) (rest := []) ⟨hx, hb, hml, hown, hts⟩ (c_X6_thrown l D cI cS cZ cJ Gm (f_X6_silencedTo M (xs (nI (i + 1)).toNatClampNeg)).2 H2.size) (cwV 0 hts gL_law_X6_thrown rfl rfl rfl (by decide +kernel) ⟨Nat.le_of_ble_eq_true rfl, Nat.le_of_ble_eq_true rfl⟩) ⟨wPc_blind, va_recv hK hM2 (ci := 6) (q0 := 0) rfl (WL_at (by decide) rfl), wPc_at hM2 hK hDm hN⟩ rfl rfl hl.1 rfl (lv_room (Nat.le_of_ble_eq_true rfl)) dL_law_794 ⟨hc, hs⟩) (fun H3 locs3 hLS3 => ?_)
    obtain ⟨hP3, hM3, hO3, hS3⟩ := id hLS3
    refine lv_iload hx hb dL_law_797 (lv_at hl 1 rfl) ?_
    refine lv_icmp_eq (tgt := 804) hx hb dL_law_799 (by decide) (fun _ => ?_) (fun h => absurd ((f_X6_thrown_d _).trans hthr) h)
    refine lv_iload hx hb dL_law_804 (lv_at hl 1 rfl) ?_
    refine lv_if_ne (tgt := 821) hx hb dL_law_806 (by decide) (fun _ => ?_) (fun hk => ?_)
    · refine lv_goto (tgt := 1173) hx hb dL_law_821 (by decide) ?_
      exact kk t1 S1 _ fo1 H3 locs3 ls ht1 hR1 hLS3 (lv_sub hl [2, 3, 4, 5, 6] rfl)
    · obtain ⟨f1, f2⟩ := hk0 (nI_inj (by omega) (by decide) hk)
      refine lv_aload_n hx hb dL_law_809 rfl (lv_at hl 3 rfl) ?_
      refine lv_iconst (v := nI 0) hx hb dL_law_810 (by decide) ?_
      refine va_lald hx hb hK hO3 0 3 rfl rfl (vp_in_nI (by decide) (by decide)) dL_law_811 ?_
      rw [f1]
      refine lv_iload hx hb dL_law_812 (lv_at hl 0 rfl) ?_
      refine lv_i2l (v := x) hx hb dL_law_814 f2 ?_
      refine x_lcmpE hx hb dL_law_815 ?_
      refine lv_if_eq (tgt := 821) hx hb dL_law_816 (by decide) (fun _ => ?_) (fun h => absurd rfl h)
      refine lv_goto (tgt := 1173) hx hb dL_law_821 (by decide) ?_
      exact kk t1 S1 _ fo1 H3 locs3 ls ht1 hR1 hLS3 (lv_sub hl [2, 3, 4, 5, 6] rfl)
  rcases s_silencedTo hR (xs (nI (i + 1)).toNatClampNeg) with ⟨a, e1, e2, z1, z2, z3⟩ | ⟨e1, z⟩
  · rw [e1]
    refine l_good hF hLS (vx_runSW (As := [.ref (G 0), .int (nI a), .ref o]) (rest := []) ⟨hx, hb, hml, hown, hts⟩ (w_L_silencedTo l D cI cS cZ cJ G S o fo H.size a e2) (vx_cwSW 3 hts gL_law_L_silencedTo rfl rfl rfl (by decide +kernel) ⟨Nat.le_of_ble_eq_true rfl, Nat.le_of_ble_eq_true rfl⟩) ⟨lPc_blind, lPc_at hP hO hK hD hGo hN hT hZ hC hS⟩ rfl rfl hl.1 rfl (lv_room (Nat.le_of_ble_eq_true rfl)) dL_law_776 ⟨by show cells + 0 ≤ 637605; omega, by show slots + 0 ≤ 7183290; omega⟩) (fun H1 locs1 hLS1 => ?_)
    refine W.widen (k := cells + 1) (n := slots + 6) (by omega) (by omega) ?_
    exact tail 0 (f_X5_silencedTo S a).toInt64 S (vp_updL fo 0 (f_X5_silencedTo S a).toInt64) t H1 locs1 hLS1 (by omega) z1 z3 (by decide) (fun _ => ⟨by rw [show (nI 0).toNatClampNeg = 0 by decide, pk_uLs], by rw [← z2]⟩)
  · refine l_bad hLS (vx_runSW (As := [.ref (G 0), .int (xs (nI (i + 1)).toNatClampNeg), .ref o]) (rest := []) ⟨hx, hb, hml, hown, hts⟩ (w_L_silencedTo__ l hfl D cI cS cZ cJ G S o fo H.size (xs (nI (i + 1)).toNatClampNeg) e1) (vx_cwSW 3 hts gL_law_L_silencedTo rfl rfl rfl (by decide +kernel) ⟨Nat.le_of_ble_eq_true rfl, Nat.le_of_ble_eq_true rfl⟩) ⟨lPc_blind, lPc_at hP hO hK hD hGo hN hT hZ hC hS⟩ rfl rfl hl.1 rfl (lv_room (Nat.le_of_ble_eq_true rfl)) dL_law_776 ⟨hc, hs⟩) (fun H1 locs1 hLS1 => ?_)
    exact tail 1 0 S fo t H1 locs1 hLS1 (by omega) z.1 z.2 (by omega) (fun h => absurd h (by decide))
set_option maxHeartbeats 4000000 in
set_option maxRecDepth 100000 in
theorem op_frames (hfl : l.stackTraces = false) (hx : p.tables.exec = Jvm.exec) (hb : c.code = cL_law) (hml : c.maxLocals = 7) (hown : s.vm.findClass RL = some m.cls) (hts : ∀ w ∈ wsL_law, w.before #[Value.ref b] s = true) (hX : va_X b L xs s s.heap) (hbl : b < s.heap.size) (hL20 : L ≤ 2048) (hF : LFix D cI cS cZ cJ G Gm o s) (hi : i + 4 ≤ L) (ht : t + 50 < 100000) (hR : Rel t S M) (hLS : LSt D cI cS cZ cJ G Gm o s S M fo H locs) (hl : lv_has ls 7 (LV b o i G Gm)) (hc : cells + 1 ≤ 637605) (hs : slots + 6 ≤ 7183290) (kk : LKK p l e s m below meth c b D cI cS cZ cJ G Gm o i t cells slots Q) : W p l e room_1 s m #[Value.ref b] below meth c H locs cells slots Q (F0 m 824 ls []) := by
  obtain ⟨hD, hDm, hGo, hmo, hGm, ho, hK, hN, hT, hZ, hC⟩ := id hF
  have hbA : ¬ (fun q : Nat => s.heap.size ≤ q) b := Nat.not_le.mpr hbl
  obtain ⟨hP, hM, hO, hS⟩ := id hLS
  refine lv_aload_n hx hb dL_law_824 rfl (lv_at hl 3 rfl) ?_
  refine lv_aload_n hx hb dL_law_825 rfl (lv_at hl 4 rfl) ?_
  refine lv_iload hx hb dL_law_826 (lv_at hl 0 rfl) ?_
  refine lv_iconst (v := nI 1) hx hb dL_law_828 (by decide) ?_
  refine x_iaddN hx hb dL_law_829 ?_
  refine va_sld hx hb hX hbl hbA hS (vp_in_nI (by omega) (by omega)) dL_law_830 ?_
  refine lv_aload_n hx hb dL_law_831 rfl (lv_at hl 1 rfl) ?_
  have tail : ∀ (k : Nat) (x : Int64) (S1 : Mem) (fo1 : Nat → Int64) (t1 : Nat) (H1 : Heap) (locs1 : List Loc), LSt D cI cS cZ cJ G Gm o s S1 M fo1 H1 locs1 → t1 ≤ t + 50 → (f_X6_frames M (xs (nI (i + 1)).toNatClampNeg)).2 0 0 = nI k → Rel t1 S1 (f_X6_frames M (xs (nI (i + 1)).toNatClampNeg)).2 → k < 4 → (k = 0 → fo1 (nI 0).toNatClampNeg = x ∧ (f_X6_frames M (xs (nI (i + 1)).toNatClampNeg)).1.toInt64 = x) → W p l e room_1 s m #[Value.ref b] below meth c H1 locs1 (cells + 1) (slots + 6) Q (F0 m 835 ls [.int (nI k)]) := by
    clear hLS hP hM hO hS
    intro k x S1 fo1 t1 H1 locs1 hLS ht1 hthr hR1 hk4 hk0
    obtain ⟨hP, hM, hO, hS⟩ := id hLS
    refine lv_istore (lv' := (5, .int (nI k)) :: LV b o i G Gm) hx hb dL_law_835 hl (by decide) rfl (fun ls hl => ?_)
    refine lv_aload_n hx hb dL_law_837 rfl (lv_at hl 3 rfl) ?_
    refine lv_aload_n hx hb dL_law_838 rfl (lv_at hl 5 rfl) ?_
    refine lv_iload hx hb dL_law_839 (lv_at hl 1 rfl) ?_
    refine lv_iconst (v := nI 1) hx hb dL_law_841 (by decide) ?_
    refine x_iaddN hx hb dL_law_842 ?_
    refine va_sld hx hb hX hbl hbA hS (vp_in_nI (by omega) (by omega)) dL_law_843 ?_
    refine l_model hF hLS (va_runV (As := [.int (xs (nI (i + 1)).toNatClampNeg)]) (rest := []) ⟨hx, hb, hml, hown, hts⟩ (c_X6_frames l D cI cS cZ cJ Gm M H1.size (xs (nI (i + 1)).toNatClampNeg)) (cwV 1 hts gL_law_X6_frames rfl rfl rfl (by decide +kernel) ⟨Nat.le_of_ble_eq_true rfl, Nat.le_of_ble_eq_true rfl⟩) ⟨wPc_blind, va_recv hK hM (ci := 6) (q0 := 0) rfl (WL_at (by decide) rfl), wPc_at hM hK hDm hN⟩ rfl rfl hl.1 rfl (lv_room (Nat.le_of_ble_eq_true rfl)) dL_law_844 ⟨hc, hs⟩) (fun H2 locs2 hLS2 => ?_)
    obtain ⟨hP2, hM2, hO2, hS2⟩ := id hLS2
    refine lv_istore (lv' := (6, .int (f_X6_frames M (xs (nI (i + 1)).toNatClampNeg)).1) :: (5, .int (nI k)) :: LV b o i G Gm) hx hb dL_law_847 hl (by decide) rfl (fun ls hl => ?_)
    refine lv_aload_n hx hb dL_law_849 rfl (lv_at hl 4 rfl) ?_
    refine l_pure hLS2 (va_runV (As := []) (rest := []) ⟨hx, hb, hml, hown, hts⟩ (c_X6_thrown l D cI cS cZ cJ Gm (f_X6_frames M (xs (nI (i + 1)).toNatClampNeg)).2 H2.size) (cwV 0 hts gL_law_X6_thrown rfl rfl rfl (by decide +kernel) ⟨Nat.le_of_ble_eq_true rfl, Nat.le_of_ble_eq_true rfl⟩) ⟨wPc_blind, va_recv hK hM2 (ci := 6) (q0 := 0) rfl (WL_at (by decide) rfl), wPc_at hM2 hK hDm hN⟩ rfl rfl hl.1 rfl (lv_room (Nat.le_of_ble_eq_true rfl)) dL_law_850 ⟨hc, hs⟩) (fun H3 locs3 hLS3 => ?_)
    obtain ⟨hP3, hM3, hO3, hS3⟩ := id hLS3
    refine lv_iload hx hb dL_law_853 (lv_at hl 1 rfl) ?_
    refine lv_icmp_eq (tgt := 860) hx hb dL_law_855 (by decide) (fun _ => ?_) (fun h => absurd ((f_X6_thrown_d _).trans hthr) h)
    refine lv_iload hx hb dL_law_860 (lv_at hl 1 rfl) ?_
    refine lv_if_ne (tgt := 877) hx hb dL_law_862 (by decide) (fun _ => ?_) (fun hk => ?_)
    · refine lv_goto (tgt := 1173) hx hb dL_law_877 (by decide) ?_
      exact kk t1 S1 _ fo1 H3 locs3 ls ht1 hR1 hLS3 (lv_sub hl [2, 3, 4, 5, 6] rfl)
    · obtain ⟨f1, f2⟩ := hk0 (nI_inj (by omega) (by decide) hk)
      refine lv_aload_n hx hb dL_law_865 rfl (lv_at hl 3 rfl) ?_
      refine lv_iconst (v := nI 0) hx hb dL_law_866 (by decide) ?_
      refine va_lald hx hb hK hO3 0 3 rfl rfl (vp_in_nI (by decide) (by decide)) dL_law_867 ?_
      rw [f1]
      refine lv_iload hx hb dL_law_868 (lv_at hl 0 rfl) ?_
      refine lv_i2l (v := x) hx hb dL_law_870 f2 ?_
      refine x_lcmpE hx hb dL_law_871 ?_
      refine lv_if_eq (tgt := 877) hx hb dL_law_872 (by decide) (fun _ => ?_) (fun h => absurd rfl h)
      refine lv_goto (tgt := 1173) hx hb dL_law_877 (by decide) ?_
      exact kk t1 S1 _ fo1 H3 locs3 ls ht1 hR1 hLS3 (lv_sub hl [2, 3, 4, 5, 6] rfl)
  rcases s_frames hR (xs (nI (i + 1)).toNatClampNeg) with ⟨a, e1, e2, z1, z2, z3⟩ | ⟨e1, z⟩
  · rw [e1]
    refine l_good hF hLS (vx_runSW (As := [.ref (G 0), .int (nI a), .ref o]) (rest := []) ⟨hx, hb, hml, hown, hts⟩ (w_L_frames l D cI cS cZ cJ G S o fo H.size a e2) (vx_cwSW 3 hts gL_law_L_frames rfl rfl rfl (by decide +kernel) ⟨Nat.le_of_ble_eq_true rfl, Nat.le_of_ble_eq_true rfl⟩) ⟨lPc_blind, lPc_at hP hO hK hD hGo hN hT hZ hC hS⟩ rfl rfl hl.1 rfl (lv_room (Nat.le_of_ble_eq_true rfl)) dL_law_832 ⟨by show cells + 0 ≤ 637605; omega, by show slots + 0 ≤ 7183290; omega⟩) (fun H1 locs1 hLS1 => ?_)
    refine W.widen (k := cells + 1) (n := slots + 6) (by omega) (by omega) ?_
    exact tail 0 (f_X5_frames S a).toInt64 S (vp_updL fo 0 (f_X5_frames S a).toInt64) t H1 locs1 hLS1 (by omega) z1 z3 (by decide) (fun _ => ⟨by rw [show (nI 0).toNatClampNeg = 0 by decide, pk_uLs], by rw [← z2]⟩)
  · refine l_bad hLS (vx_runSW (As := [.ref (G 0), .int (xs (nI (i + 1)).toNatClampNeg), .ref o]) (rest := []) ⟨hx, hb, hml, hown, hts⟩ (w_L_frames__ l hfl D cI cS cZ cJ G S o fo H.size (xs (nI (i + 1)).toNatClampNeg) e1) (vx_cwSW 3 hts gL_law_L_frames rfl rfl rfl (by decide +kernel) ⟨Nat.le_of_ble_eq_true rfl, Nat.le_of_ble_eq_true rfl⟩) ⟨lPc_blind, lPc_at hP hO hK hD hGo hN hT hZ hC hS⟩ rfl rfl hl.1 rfl (lv_room (Nat.le_of_ble_eq_true rfl)) dL_law_832 ⟨hc, hs⟩) (fun H1 locs1 hLS1 => ?_)
    exact tail 1 0 S fo t H1 locs1 hLS1 (by omega) z.1 z.2 (by omega) (fun h => absurd h (by decide))
set_option maxHeartbeats 4000000 in
set_option maxRecDepth 100000 in
theorem op_partsLeft (hfl : l.stackTraces = false) (hx : p.tables.exec = Jvm.exec) (hb : c.code = cL_law) (hml : c.maxLocals = 7) (hown : s.vm.findClass RL = some m.cls) (hts : ∀ w ∈ wsL_law, w.before #[Value.ref b] s = true) (hX : va_X b L xs s s.heap) (hbl : b < s.heap.size) (hL20 : L ≤ 2048) (hF : LFix D cI cS cZ cJ G Gm o s) (hi : i + 4 ≤ L) (ht : t + 50 < 100000) (hR : Rel t S M) (hLS : LSt D cI cS cZ cJ G Gm o s S M fo H locs) (hl : lv_has ls 7 (LV b o i G Gm)) (hc : cells + 1 ≤ 637605) (hs : slots + 6 ≤ 7183290) (kk : LKK p l e s m below meth c b D cI cS cZ cJ G Gm o i t cells slots Q) : W p l e room_1 s m #[Value.ref b] below meth c H locs cells slots Q (F0 m 880 ls []) := by
  obtain ⟨hD, hDm, hGo, hmo, hGm, ho, hK, hN, hT, hZ, hC⟩ := id hF
  have hbA : ¬ (fun q : Nat => s.heap.size ≤ q) b := Nat.not_le.mpr hbl
  obtain ⟨hP, hM, hO, hS⟩ := id hLS
  refine lv_aload_n hx hb dL_law_880 rfl (lv_at hl 3 rfl) ?_
  refine lv_aload_n hx hb dL_law_881 rfl (lv_at hl 4 rfl) ?_
  refine lv_iload hx hb dL_law_882 (lv_at hl 0 rfl) ?_
  refine lv_iconst (v := nI 1) hx hb dL_law_884 (by decide) ?_
  refine x_iaddN hx hb dL_law_885 ?_
  refine va_sld hx hb hX hbl hbA hS (vp_in_nI (by omega) (by omega)) dL_law_886 ?_
  refine lv_aload_n hx hb dL_law_887 rfl (lv_at hl 1 rfl) ?_
  have tail : ∀ (k : Nat) (x : Int64) (S1 : Mem) (fo1 : Nat → Int64) (t1 : Nat) (H1 : Heap) (locs1 : List Loc), LSt D cI cS cZ cJ G Gm o s S1 M fo1 H1 locs1 → t1 ≤ t + 50 → (f_X6_partsLeft M (xs (nI (i + 1)).toNatClampNeg)).2 0 0 = nI k → Rel t1 S1 (f_X6_partsLeft M (xs (nI (i + 1)).toNatClampNeg)).2 → k < 4 → (k = 0 → fo1 (nI 0).toNatClampNeg = x ∧ (f_X6_partsLeft M (xs (nI (i + 1)).toNatClampNeg)).1.toInt64 = x) → W p l e room_1 s m #[Value.ref b] below meth c H1 locs1 (cells + 1) (slots + 6) Q (F0 m 891 ls [.int (nI k)]) := by
    clear hLS hP hM hO hS
    intro k x S1 fo1 t1 H1 locs1 hLS ht1 hthr hR1 hk4 hk0
    obtain ⟨hP, hM, hO, hS⟩ := id hLS
    refine lv_istore (lv' := (5, .int (nI k)) :: LV b o i G Gm) hx hb dL_law_891 hl (by decide) rfl (fun ls hl => ?_)
    refine lv_aload_n hx hb dL_law_893 rfl (lv_at hl 3 rfl) ?_
    refine lv_aload_n hx hb dL_law_894 rfl (lv_at hl 5 rfl) ?_
    refine lv_iload hx hb dL_law_895 (lv_at hl 1 rfl) ?_
    refine lv_iconst (v := nI 1) hx hb dL_law_897 (by decide) ?_
    refine x_iaddN hx hb dL_law_898 ?_
    refine va_sld hx hb hX hbl hbA hS (vp_in_nI (by omega) (by omega)) dL_law_899 ?_
    refine l_model hF hLS (va_runV (As := [.int (xs (nI (i + 1)).toNatClampNeg)]) (rest := []) ⟨hx, hb, hml, hown, hts⟩ (c_X6_partsLeft l D cI cS cZ cJ Gm M H1.size (xs (nI (i + 1)).toNatClampNeg)) (cwV 1 hts gL_law_X6_partsLeft rfl rfl rfl (by decide +kernel) ⟨Nat.le_of_ble_eq_true rfl, Nat.le_of_ble_eq_true rfl⟩) ⟨wPc_blind, va_recv hK hM (ci := 6) (q0 := 0) rfl (WL_at (by decide) rfl), wPc_at hM hK hDm hN⟩ rfl rfl hl.1 rfl (lv_room (Nat.le_of_ble_eq_true rfl)) dL_law_900 ⟨hc, hs⟩) (fun H2 locs2 hLS2 => ?_)
    obtain ⟨hP2, hM2, hO2, hS2⟩ := id hLS2
    refine lv_istore (lv' := (6, .int (f_X6_partsLeft M (xs (nI (i + 1)).toNatClampNeg)).1) :: (5, .int (nI k)) :: LV b o i G Gm) hx hb dL_law_903 hl (by decide) rfl (fun ls hl => ?_)
    refine lv_aload_n hx hb dL_law_905 rfl (lv_at hl 4 rfl) ?_
    refine l_pure hLS2 (va_runV (As := []) (rest := []) ⟨hx, hb, hml, hown, hts⟩ (c_X6_thrown l D cI cS cZ cJ Gm (f_X6_partsLeft M (xs (nI (i + 1)).toNatClampNeg)).2 H2.size) (cwV 0 hts gL_law_X6_thrown rfl rfl rfl (by decide +kernel) ⟨Nat.le_of_ble_eq_true rfl, Nat.le_of_ble_eq_true rfl⟩) ⟨wPc_blind, va_recv hK hM2 (ci := 6) (q0 := 0) rfl (WL_at (by decide) rfl), wPc_at hM2 hK hDm hN⟩ rfl rfl hl.1 rfl (lv_room (Nat.le_of_ble_eq_true rfl)) dL_law_906 ⟨hc, hs⟩) (fun H3 locs3 hLS3 => ?_)
    obtain ⟨hP3, hM3, hO3, hS3⟩ := id hLS3
    refine lv_iload hx hb dL_law_909 (lv_at hl 1 rfl) ?_
    refine lv_icmp_eq (tgt := 916) hx hb dL_law_911 (by decide) (fun _ => ?_) (fun h => absurd ((f_X6_thrown_d _).trans hthr) h)
    refine lv_iload hx hb dL_law_916 (lv_at hl 1 rfl) ?_
    refine lv_if_ne (tgt := 933) hx hb dL_law_918 (by decide) (fun _ => ?_) (fun hk => ?_)
    · refine lv_goto (tgt := 1173) hx hb dL_law_933 (by decide) ?_
      exact kk t1 S1 _ fo1 H3 locs3 ls ht1 hR1 hLS3 (lv_sub hl [2, 3, 4, 5, 6] rfl)
    · obtain ⟨f1, f2⟩ := hk0 (nI_inj (by omega) (by decide) hk)
      refine lv_aload_n hx hb dL_law_921 rfl (lv_at hl 3 rfl) ?_
      refine lv_iconst (v := nI 0) hx hb dL_law_922 (by decide) ?_
      refine va_lald hx hb hK hO3 0 3 rfl rfl (vp_in_nI (by decide) (by decide)) dL_law_923 ?_
      rw [f1]
      refine lv_iload hx hb dL_law_924 (lv_at hl 0 rfl) ?_
      refine lv_i2l (v := x) hx hb dL_law_926 f2 ?_
      refine x_lcmpE hx hb dL_law_927 ?_
      refine lv_if_eq (tgt := 933) hx hb dL_law_928 (by decide) (fun _ => ?_) (fun h => absurd rfl h)
      refine lv_goto (tgt := 1173) hx hb dL_law_933 (by decide) ?_
      exact kk t1 S1 _ fo1 H3 locs3 ls ht1 hR1 hLS3 (lv_sub hl [2, 3, 4, 5, 6] rfl)
  rcases s_partsLeft hR (xs (nI (i + 1)).toNatClampNeg) with ⟨a, e1, e2, z1, z2, z3⟩ | ⟨e1, z⟩
  · rw [e1]
    refine l_good hF hLS (vx_runSW (As := [.ref (G 0), .int (nI a), .ref o]) (rest := []) ⟨hx, hb, hml, hown, hts⟩ (w_L_partsLeft l D cI cS cZ cJ G S o fo H.size a e2) (vx_cwSW 3 hts gL_law_L_partsLeft rfl rfl rfl (by decide +kernel) ⟨Nat.le_of_ble_eq_true rfl, Nat.le_of_ble_eq_true rfl⟩) ⟨lPc_blind, lPc_at hP hO hK hD hGo hN hT hZ hC hS⟩ rfl rfl hl.1 rfl (lv_room (Nat.le_of_ble_eq_true rfl)) dL_law_888 ⟨by show cells + 0 ≤ 637605; omega, by show slots + 0 ≤ 7183290; omega⟩) (fun H1 locs1 hLS1 => ?_)
    refine W.widen (k := cells + 1) (n := slots + 6) (by omega) (by omega) ?_
    exact tail 0 (f_X5_partsLeft S a).toInt64 S (vp_updL fo 0 (f_X5_partsLeft S a).toInt64) t H1 locs1 hLS1 (by omega) z1 z3 (by decide) (fun _ => ⟨by rw [show (nI 0).toNatClampNeg = 0 by decide, pk_uLs], by rw [← z2]⟩)
  · refine l_bad hLS (vx_runSW (As := [.ref (G 0), .int (xs (nI (i + 1)).toNatClampNeg), .ref o]) (rest := []) ⟨hx, hb, hml, hown, hts⟩ (w_L_partsLeft__ l hfl D cI cS cZ cJ G S o fo H.size (xs (nI (i + 1)).toNatClampNeg) e1) (vx_cwSW 3 hts gL_law_L_partsLeft rfl rfl rfl (by decide +kernel) ⟨Nat.le_of_ble_eq_true rfl, Nat.le_of_ble_eq_true rfl⟩) ⟨lPc_blind, lPc_at hP hO hK hD hGo hN hT hZ hC hS⟩ rfl rfl hl.1 rfl (lv_room (Nat.le_of_ble_eq_true rfl)) dL_law_888 ⟨hc, hs⟩) (fun H1 locs1 hLS1 => ?_)
    exact tail 1 0 S fo t H1 locs1 hLS1 (by omega) z.1 z.2 (by omega) (fun h => absurd h (by decide))
set_option maxHeartbeats 4000000 in
set_option maxRecDepth 100000 in
theorem op_delivered (hfl : l.stackTraces = false) (hx : p.tables.exec = Jvm.exec) (hb : c.code = cL_law) (hml : c.maxLocals = 7) (hown : s.vm.findClass RL = some m.cls) (hts : ∀ w ∈ wsL_law, w.before #[Value.ref b] s = true) (hX : va_X b L xs s s.heap) (hbl : b < s.heap.size) (hL20 : L ≤ 2048) (hF : LFix D cI cS cZ cJ G Gm o s) (hi : i + 4 ≤ L) (ht : t + 50 < 100000) (hR : Rel t S M) (hLS : LSt D cI cS cZ cJ G Gm o s S M fo H locs) (hl : lv_has ls 7 (LV b o i G Gm)) (hc : cells + 1 ≤ 637605) (hs : slots + 6 ≤ 7183290) (kk : LKK p l e s m below meth c b D cI cS cZ cJ G Gm o i t cells slots Q) : W p l e room_1 s m #[Value.ref b] below meth c H locs cells slots Q (F0 m 936 ls []) := by
  obtain ⟨hD, hDm, hGo, hmo, hGm, ho, hK, hN, hT, hZ, hC⟩ := id hF
  have hbA : ¬ (fun q : Nat => s.heap.size ≤ q) b := Nat.not_le.mpr hbl
  obtain ⟨hP, hM, hO, hS⟩ := id hLS
  refine lv_aload_n hx hb dL_law_936 rfl (lv_at hl 3 rfl) ?_
  refine lv_aload_n hx hb dL_law_937 rfl (lv_at hl 4 rfl) ?_
  refine lv_iload hx hb dL_law_938 (lv_at hl 0 rfl) ?_
  refine lv_iconst (v := nI 1) hx hb dL_law_940 (by decide) ?_
  refine x_iaddN hx hb dL_law_941 ?_
  refine va_sld hx hb hX hbl hbA hS (vp_in_nI (by omega) (by omega)) dL_law_942 ?_
  refine lv_aload_n hx hb dL_law_943 rfl (lv_at hl 1 rfl) ?_
  have tail : ∀ (k : Nat) (x : Int64) (S1 : Mem) (fo1 : Nat → Int64) (t1 : Nat) (H1 : Heap) (locs1 : List Loc), LSt D cI cS cZ cJ G Gm o s S1 M fo1 H1 locs1 → t1 ≤ t + 50 → (f_X6_delivered M (xs (nI (i + 1)).toNatClampNeg)).2 0 0 = nI k → Rel t1 S1 (f_X6_delivered M (xs (nI (i + 1)).toNatClampNeg)).2 → k < 4 → (k = 0 → fo1 (nI 0).toNatClampNeg = x ∧ (f_X6_delivered M (xs (nI (i + 1)).toNatClampNeg)).1.toInt64 = x) → W p l e room_1 s m #[Value.ref b] below meth c H1 locs1 (cells + 1) (slots + 6) Q (F0 m 947 ls [.int (nI k)]) := by
    clear hLS hP hM hO hS
    intro k x S1 fo1 t1 H1 locs1 hLS ht1 hthr hR1 hk4 hk0
    obtain ⟨hP, hM, hO, hS⟩ := id hLS
    refine lv_istore (lv' := (5, .int (nI k)) :: LV b o i G Gm) hx hb dL_law_947 hl (by decide) rfl (fun ls hl => ?_)
    refine lv_aload_n hx hb dL_law_949 rfl (lv_at hl 3 rfl) ?_
    refine lv_aload_n hx hb dL_law_950 rfl (lv_at hl 5 rfl) ?_
    refine lv_iload hx hb dL_law_951 (lv_at hl 1 rfl) ?_
    refine lv_iconst (v := nI 1) hx hb dL_law_953 (by decide) ?_
    refine x_iaddN hx hb dL_law_954 ?_
    refine va_sld hx hb hX hbl hbA hS (vp_in_nI (by omega) (by omega)) dL_law_955 ?_
    refine l_model hF hLS (va_runV (As := [.int (xs (nI (i + 1)).toNatClampNeg)]) (rest := []) ⟨hx, hb, hml, hown, hts⟩ (c_X6_delivered l D cI cS cZ cJ Gm M H1.size (xs (nI (i + 1)).toNatClampNeg)) (cwV 1 hts gL_law_X6_delivered rfl rfl rfl (by decide +kernel) ⟨Nat.le_of_ble_eq_true rfl, Nat.le_of_ble_eq_true rfl⟩) ⟨wPc_blind, va_recv hK hM (ci := 6) (q0 := 0) rfl (WL_at (by decide) rfl), wPc_at hM hK hDm hN⟩ rfl rfl hl.1 rfl (lv_room (Nat.le_of_ble_eq_true rfl)) dL_law_956 ⟨hc, hs⟩) (fun H2 locs2 hLS2 => ?_)
    obtain ⟨hP2, hM2, hO2, hS2⟩ := id hLS2
    refine lv_istore (lv' := (6, .int (f_X6_delivered M (xs (nI (i + 1)).toNatClampNeg)).1) :: (5, .int (nI k)) :: LV b o i G Gm) hx hb dL_law_959 hl (by decide) rfl (fun ls hl => ?_)
    refine lv_aload_n hx hb dL_law_961 rfl (lv_at hl 4 rfl) ?_
    refine l_pure hLS2 (va_runV (As := []) (rest := []) ⟨hx, hb, hml, hown, hts⟩ (c_X6_thrown l D cI cS cZ cJ Gm (f_X6_delivered M (xs (nI (i + 1)).toNatClampNeg)).2 H2.size) (cwV 0 hts gL_law_X6_thrown rfl rfl rfl (by decide +kernel) ⟨Nat.le_of_ble_eq_true rfl, Nat.le_of_ble_eq_true rfl⟩) ⟨wPc_blind, va_recv hK hM2 (ci := 6) (q0 := 0) rfl (WL_at (by decide) rfl), wPc_at hM2 hK hDm hN⟩ rfl rfl hl.1 rfl (lv_room (Nat.le_of_ble_eq_true rfl)) dL_law_962 ⟨hc, hs⟩) (fun H3 locs3 hLS3 => ?_)
    obtain ⟨hP3, hM3, hO3, hS3⟩ := id hLS3
    refine lv_iload hx hb dL_law_965 (lv_at hl 1 rfl) ?_
    refine lv_icmp_eq (tgt := 972) hx hb dL_law_967 (by decide) (fun _ => ?_) (fun h => absurd ((f_X6_thrown_d _).trans hthr) h)
    refine lv_iload hx hb dL_law_972 (lv_at hl 1 rfl) ?_
    refine lv_if_ne (tgt := 989) hx hb dL_law_974 (by decide) (fun _ => ?_) (fun hk => ?_)
    · refine lv_goto (tgt := 1173) hx hb dL_law_989 (by decide) ?_
      exact kk t1 S1 _ fo1 H3 locs3 ls ht1 hR1 hLS3 (lv_sub hl [2, 3, 4, 5, 6] rfl)
    · obtain ⟨f1, f2⟩ := hk0 (nI_inj (by omega) (by decide) hk)
      refine lv_aload_n hx hb dL_law_977 rfl (lv_at hl 3 rfl) ?_
      refine lv_iconst (v := nI 0) hx hb dL_law_978 (by decide) ?_
      refine va_lald hx hb hK hO3 0 3 rfl rfl (vp_in_nI (by decide) (by decide)) dL_law_979 ?_
      rw [f1]
      refine lv_iload hx hb dL_law_980 (lv_at hl 0 rfl) ?_
      refine lv_i2l (v := x) hx hb dL_law_982 f2 ?_
      refine x_lcmpE hx hb dL_law_983 ?_
      refine lv_if_eq (tgt := 989) hx hb dL_law_984 (by decide) (fun _ => ?_) (fun h => absurd rfl h)
      refine lv_goto (tgt := 1173) hx hb dL_law_989 (by decide) ?_
      exact kk t1 S1 _ fo1 H3 locs3 ls ht1 hR1 hLS3 (lv_sub hl [2, 3, 4, 5, 6] rfl)
  rcases s_delivered hR (xs (nI (i + 1)).toNatClampNeg) with ⟨a, e1, e2, z1, z2, z3⟩ | ⟨e1, z⟩
  · rw [e1]
    refine l_good hF hLS (vx_runSW (As := [.ref (G 0), .int (nI a), .ref o]) (rest := []) ⟨hx, hb, hml, hown, hts⟩ (w_L_delivered l D cI cS cZ cJ G S o fo H.size a e2) (vx_cwSW 3 hts gL_law_L_delivered rfl rfl rfl (by decide +kernel) ⟨Nat.le_of_ble_eq_true rfl, Nat.le_of_ble_eq_true rfl⟩) ⟨lPc_blind, lPc_at hP hO hK hD hGo hN hT hZ hC hS⟩ rfl rfl hl.1 rfl (lv_room (Nat.le_of_ble_eq_true rfl)) dL_law_944 ⟨by show cells + 0 ≤ 637605; omega, by show slots + 0 ≤ 7183290; omega⟩) (fun H1 locs1 hLS1 => ?_)
    refine W.widen (k := cells + 1) (n := slots + 6) (by omega) (by omega) ?_
    exact tail 0 (f_X5_delivered S a).toInt64 S (vp_updL fo 0 (f_X5_delivered S a).toInt64) t H1 locs1 hLS1 (by omega) z1 z3 (by decide) (fun _ => ⟨by rw [show (nI 0).toNatClampNeg = 0 by decide, pk_uLs], by rw [← z2]⟩)
  · refine l_bad hLS (vx_runSW (As := [.ref (G 0), .int (xs (nI (i + 1)).toNatClampNeg), .ref o]) (rest := []) ⟨hx, hb, hml, hown, hts⟩ (w_L_delivered__ l hfl D cI cS cZ cJ G S o fo H.size (xs (nI (i + 1)).toNatClampNeg) e1) (vx_cwSW 3 hts gL_law_L_delivered rfl rfl rfl (by decide +kernel) ⟨Nat.le_of_ble_eq_true rfl, Nat.le_of_ble_eq_true rfl⟩) ⟨lPc_blind, lPc_at hP hO hK hD hGo hN hT hZ hC hS⟩ rfl rfl hl.1 rfl (lv_room (Nat.le_of_ble_eq_true rfl)) dL_law_944 ⟨hc, hs⟩) (fun H1 locs1 hLS1 => ?_)
    exact tail 1 0 S fo t H1 locs1 hLS1 (by omega) z.1 z.2 (by omega) (fun h => absurd h (by decide))
set_option maxHeartbeats 4000000 in
set_option maxRecDepth 100000 in
theorem op_dropped (hfl : l.stackTraces = false) (hx : p.tables.exec = Jvm.exec) (hb : c.code = cL_law) (hml : c.maxLocals = 7) (hown : s.vm.findClass RL = some m.cls) (hts : ∀ w ∈ wsL_law, w.before #[Value.ref b] s = true) (hX : va_X b L xs s s.heap) (hbl : b < s.heap.size) (hL20 : L ≤ 2048) (hF : LFix D cI cS cZ cJ G Gm o s) (hi : i + 4 ≤ L) (ht : t + 50 < 100000) (hR : Rel t S M) (hLS : LSt D cI cS cZ cJ G Gm o s S M fo H locs) (hl : lv_has ls 7 (LV b o i G Gm)) (hc : cells + 1 ≤ 637605) (hs : slots + 6 ≤ 7183290) (kk : LKK p l e s m below meth c b D cI cS cZ cJ G Gm o i t cells slots Q) : W p l e room_1 s m #[Value.ref b] below meth c H locs cells slots Q (F0 m 992 ls []) := by
  obtain ⟨hD, hDm, hGo, hmo, hGm, ho, hK, hN, hT, hZ, hC⟩ := id hF
  have hbA : ¬ (fun q : Nat => s.heap.size ≤ q) b := Nat.not_le.mpr hbl
  obtain ⟨hP, hM, hO, hS⟩ := id hLS
  refine lv_aload_n hx hb dL_law_992 rfl (lv_at hl 3 rfl) ?_
  refine lv_aload_n hx hb dL_law_993 rfl (lv_at hl 4 rfl) ?_
  refine lv_iload hx hb dL_law_994 (lv_at hl 0 rfl) ?_
  refine lv_iconst (v := nI 1) hx hb dL_law_996 (by decide) ?_
  refine x_iaddN hx hb dL_law_997 ?_
  refine va_sld hx hb hX hbl hbA hS (vp_in_nI (by omega) (by omega)) dL_law_998 ?_
  refine lv_aload_n hx hb dL_law_999 rfl (lv_at hl 1 rfl) ?_
  have tail : ∀ (k : Nat) (x : Int64) (S1 : Mem) (fo1 : Nat → Int64) (t1 : Nat) (H1 : Heap) (locs1 : List Loc), LSt D cI cS cZ cJ G Gm o s S1 M fo1 H1 locs1 → t1 ≤ t + 50 → (f_X6_dropped M (xs (nI (i + 1)).toNatClampNeg)).2 0 0 = nI k → Rel t1 S1 (f_X6_dropped M (xs (nI (i + 1)).toNatClampNeg)).2 → k < 4 → (k = 0 → fo1 (nI 0).toNatClampNeg = x ∧ (f_X6_dropped M (xs (nI (i + 1)).toNatClampNeg)).1.toInt64 = x) → W p l e room_1 s m #[Value.ref b] below meth c H1 locs1 (cells + 1) (slots + 6) Q (F0 m 1003 ls [.int (nI k)]) := by
    clear hLS hP hM hO hS
    intro k x S1 fo1 t1 H1 locs1 hLS ht1 hthr hR1 hk4 hk0
    obtain ⟨hP, hM, hO, hS⟩ := id hLS
    refine lv_istore (lv' := (5, .int (nI k)) :: LV b o i G Gm) hx hb dL_law_1003 hl (by decide) rfl (fun ls hl => ?_)
    refine lv_aload_n hx hb dL_law_1005 rfl (lv_at hl 3 rfl) ?_
    refine lv_aload_n hx hb dL_law_1006 rfl (lv_at hl 5 rfl) ?_
    refine lv_iload hx hb dL_law_1007 (lv_at hl 1 rfl) ?_
    refine lv_iconst (v := nI 1) hx hb dL_law_1009 (by decide) ?_
    refine x_iaddN hx hb dL_law_1010 ?_
    refine va_sld hx hb hX hbl hbA hS (vp_in_nI (by omega) (by omega)) dL_law_1011 ?_
    refine l_model hF hLS (va_runV (As := [.int (xs (nI (i + 1)).toNatClampNeg)]) (rest := []) ⟨hx, hb, hml, hown, hts⟩ (c_X6_dropped l D cI cS cZ cJ Gm M H1.size (xs (nI (i + 1)).toNatClampNeg)) (cwV 1 hts gL_law_X6_dropped rfl rfl rfl (by decide +kernel) ⟨Nat.le_of_ble_eq_true rfl, Nat.le_of_ble_eq_true rfl⟩) ⟨wPc_blind, va_recv hK hM (ci := 6) (q0 := 0) rfl (WL_at (by decide) rfl), wPc_at hM hK hDm hN⟩ rfl rfl hl.1 rfl (lv_room (Nat.le_of_ble_eq_true rfl)) dL_law_1012 ⟨hc, hs⟩) (fun H2 locs2 hLS2 => ?_)
    obtain ⟨hP2, hM2, hO2, hS2⟩ := id hLS2
    refine lv_istore (lv' := (6, .int (f_X6_dropped M (xs (nI (i + 1)).toNatClampNeg)).1) :: (5, .int (nI k)) :: LV b o i G Gm) hx hb dL_law_1015 hl (by decide) rfl (fun ls hl => ?_)
    refine lv_aload_n hx hb dL_law_1017 rfl (lv_at hl 4 rfl) ?_
    refine l_pure hLS2 (va_runV (As := []) (rest := []) ⟨hx, hb, hml, hown, hts⟩ (c_X6_thrown l D cI cS cZ cJ Gm (f_X6_dropped M (xs (nI (i + 1)).toNatClampNeg)).2 H2.size) (cwV 0 hts gL_law_X6_thrown rfl rfl rfl (by decide +kernel) ⟨Nat.le_of_ble_eq_true rfl, Nat.le_of_ble_eq_true rfl⟩) ⟨wPc_blind, va_recv hK hM2 (ci := 6) (q0 := 0) rfl (WL_at (by decide) rfl), wPc_at hM2 hK hDm hN⟩ rfl rfl hl.1 rfl (lv_room (Nat.le_of_ble_eq_true rfl)) dL_law_1018 ⟨hc, hs⟩) (fun H3 locs3 hLS3 => ?_)
    obtain ⟨hP3, hM3, hO3, hS3⟩ := id hLS3
    refine lv_iload hx hb dL_law_1021 (lv_at hl 1 rfl) ?_
    refine lv_icmp_eq (tgt := 1028) hx hb dL_law_1023 (by decide) (fun _ => ?_) (fun h => absurd ((f_X6_thrown_d _).trans hthr) h)
    refine lv_iload hx hb dL_law_1028 (lv_at hl 1 rfl) ?_
    refine lv_if_ne (tgt := 1045) hx hb dL_law_1030 (by decide) (fun _ => ?_) (fun hk => ?_)
    · refine lv_goto (tgt := 1173) hx hb dL_law_1045 (by decide) ?_
      exact kk t1 S1 _ fo1 H3 locs3 ls ht1 hR1 hLS3 (lv_sub hl [2, 3, 4, 5, 6] rfl)
    · obtain ⟨f1, f2⟩ := hk0 (nI_inj (by omega) (by decide) hk)
      refine lv_aload_n hx hb dL_law_1033 rfl (lv_at hl 3 rfl) ?_
      refine lv_iconst (v := nI 0) hx hb dL_law_1034 (by decide) ?_
      refine va_lald hx hb hK hO3 0 3 rfl rfl (vp_in_nI (by decide) (by decide)) dL_law_1035 ?_
      rw [f1]
      refine lv_iload hx hb dL_law_1036 (lv_at hl 0 rfl) ?_
      refine lv_i2l (v := x) hx hb dL_law_1038 f2 ?_
      refine x_lcmpE hx hb dL_law_1039 ?_
      refine lv_if_eq (tgt := 1045) hx hb dL_law_1040 (by decide) (fun _ => ?_) (fun h => absurd rfl h)
      refine lv_goto (tgt := 1173) hx hb dL_law_1045 (by decide) ?_
      exact kk t1 S1 _ fo1 H3 locs3 ls ht1 hR1 hLS3 (lv_sub hl [2, 3, 4, 5, 6] rfl)
  rcases s_dropped hR (xs (nI (i + 1)).toNatClampNeg) with ⟨a, e1, e2, z1, z2, z3⟩ | ⟨e1, z⟩
  · rw [e1]
    refine l_good hF hLS (vx_runSW (As := [.ref (G 0), .int (nI a), .ref o]) (rest := []) ⟨hx, hb, hml, hown, hts⟩ (w_L_dropped l D cI cS cZ cJ G S o fo H.size a e2) (vx_cwSW 3 hts gL_law_L_dropped rfl rfl rfl (by decide +kernel) ⟨Nat.le_of_ble_eq_true rfl, Nat.le_of_ble_eq_true rfl⟩) ⟨lPc_blind, lPc_at hP hO hK hD hGo hN hT hZ hC hS⟩ rfl rfl hl.1 rfl (lv_room (Nat.le_of_ble_eq_true rfl)) dL_law_1000 ⟨by show cells + 0 ≤ 637605; omega, by show slots + 0 ≤ 7183290; omega⟩) (fun H1 locs1 hLS1 => ?_)
    refine W.widen (k := cells + 1) (n := slots + 6) (by omega) (by omega) ?_
    exact tail 0 (f_X5_dropped S a).toInt64 S (vp_updL fo 0 (f_X5_dropped S a).toInt64) t H1 locs1 hLS1 (by omega) z1 z3 (by decide) (fun _ => ⟨by rw [show (nI 0).toNatClampNeg = 0 by decide, pk_uLs], by rw [← z2]⟩)
  · refine l_bad hLS (vx_runSW (As := [.ref (G 0), .int (xs (nI (i + 1)).toNatClampNeg), .ref o]) (rest := []) ⟨hx, hb, hml, hown, hts⟩ (w_L_dropped__ l hfl D cI cS cZ cJ G S o fo H.size (xs (nI (i + 1)).toNatClampNeg) e1) (vx_cwSW 3 hts gL_law_L_dropped rfl rfl rfl (by decide +kernel) ⟨Nat.le_of_ble_eq_true rfl, Nat.le_of_ble_eq_true rfl⟩) ⟨lPc_blind, lPc_at hP hO hK hD hGo hN hT hZ hC hS⟩ rfl rfl hl.1 rfl (lv_room (Nat.le_of_ble_eq_true rfl)) dL_law_1000 ⟨hc, hs⟩) (fun H1 locs1 hLS1 => ?_)
    exact tail 1 0 S fo t H1 locs1 hLS1 (by omega) z.1 z.2 (by omega) (fun h => absurd h (by decide))
set_option maxHeartbeats 4000000 in
set_option maxRecDepth 100000 in
theorem op_airtime (hfl : l.stackTraces = false) (hx : p.tables.exec = Jvm.exec) (hb : c.code = cL_law) (hml : c.maxLocals = 7) (hown : s.vm.findClass RL = some m.cls) (hts : ∀ w ∈ wsL_law, w.before #[Value.ref b] s = true) (hX : va_X b L xs s s.heap) (hbl : b < s.heap.size) (hL20 : L ≤ 2048) (hF : LFix D cI cS cZ cJ G Gm o s) (hi : i + 4 ≤ L) (ht : t + 50 < 100000) (hR : Rel t S M) (hLS : LSt D cI cS cZ cJ G Gm o s S M fo H locs) (hl : lv_has ls 7 (LV b o i G Gm)) (hc : cells + 1 ≤ 637605) (hs : slots + 6 ≤ 7183290) (kk : LKK p l e s m below meth c b D cI cS cZ cJ G Gm o i t cells slots Q) : W p l e room_1 s m #[Value.ref b] below meth c H locs cells slots Q (F0 m 1048 ls []) := by
  obtain ⟨hD, hDm, hGo, hmo, hGm, ho, hK, hN, hT, hZ, hC⟩ := id hF
  have hbA : ¬ (fun q : Nat => s.heap.size ≤ q) b := Nat.not_le.mpr hbl
  obtain ⟨hP, hM, hO, hS⟩ := id hLS
  refine lv_aload_n hx hb dL_law_1048 rfl (lv_at hl 3 rfl) ?_
  refine lv_aload_n hx hb dL_law_1049 rfl (lv_at hl 4 rfl) ?_
  refine lv_iload hx hb dL_law_1050 (lv_at hl 0 rfl) ?_
  refine lv_iconst (v := nI 1) hx hb dL_law_1052 (by decide) ?_
  refine x_iaddN hx hb dL_law_1053 ?_
  refine va_sld hx hb hX hbl hbA hS (vp_in_nI (by omega) (by omega)) dL_law_1054 ?_
  refine lv_aload_n hx hb dL_law_1055 rfl (lv_at hl 1 rfl) ?_
  have tail : ∀ (k : Nat) (x : Int64) (S1 : Mem) (fo1 : Nat → Int64) (t1 : Nat) (H1 : Heap) (locs1 : List Loc), LSt D cI cS cZ cJ G Gm o s S1 M fo1 H1 locs1 → t1 ≤ t + 50 → (f_X6_airtime M (xs (nI (i + 1)).toNatClampNeg)).2 0 0 = nI k → Rel t1 S1 (f_X6_airtime M (xs (nI (i + 1)).toNatClampNeg)).2 → k < 4 → (k = 0 → fo1 (nI 0).toNatClampNeg = x ∧ (f_X6_airtime M (xs (nI (i + 1)).toNatClampNeg)).1.toInt64 = x) → W p l e room_1 s m #[Value.ref b] below meth c H1 locs1 (cells + 1) (slots + 6) Q (F0 m 1059 ls [.int (nI k)]) := by
    clear hLS hP hM hO hS
    intro k x S1 fo1 t1 H1 locs1 hLS ht1 hthr hR1 hk4 hk0
    obtain ⟨hP, hM, hO, hS⟩ := id hLS
    refine lv_istore (lv' := (5, .int (nI k)) :: LV b o i G Gm) hx hb dL_law_1059 hl (by decide) rfl (fun ls hl => ?_)
    refine lv_aload_n hx hb dL_law_1061 rfl (lv_at hl 3 rfl) ?_
    refine lv_aload_n hx hb dL_law_1062 rfl (lv_at hl 5 rfl) ?_
    refine lv_iload hx hb dL_law_1063 (lv_at hl 1 rfl) ?_
    refine lv_iconst (v := nI 1) hx hb dL_law_1065 (by decide) ?_
    refine x_iaddN hx hb dL_law_1066 ?_
    refine va_sld hx hb hX hbl hbA hS (vp_in_nI (by omega) (by omega)) dL_law_1067 ?_
    refine l_model hF hLS (va_runV (As := [.int (xs (nI (i + 1)).toNatClampNeg)]) (rest := []) ⟨hx, hb, hml, hown, hts⟩ (c_X6_airtime l D cI cS cZ cJ Gm M H1.size (xs (nI (i + 1)).toNatClampNeg)) (cwV 1 hts gL_law_X6_airtime rfl rfl rfl (by decide +kernel) ⟨Nat.le_of_ble_eq_true rfl, Nat.le_of_ble_eq_true rfl⟩) ⟨wPc_blind, va_recv hK hM (ci := 6) (q0 := 0) rfl (WL_at (by decide) rfl), wPc_at hM hK hDm hN⟩ rfl rfl hl.1 rfl (lv_room (Nat.le_of_ble_eq_true rfl)) dL_law_1068 ⟨hc, hs⟩) (fun H2 locs2 hLS2 => ?_)
    obtain ⟨hP2, hM2, hO2, hS2⟩ := id hLS2
    refine lv_istore (lv' := (6, .int (f_X6_airtime M (xs (nI (i + 1)).toNatClampNeg)).1) :: (5, .int (nI k)) :: LV b o i G Gm) hx hb dL_law_1071 hl (by decide) rfl (fun ls hl => ?_)
    refine lv_aload_n hx hb dL_law_1073 rfl (lv_at hl 4 rfl) ?_
    refine l_pure hLS2 (va_runV (As := []) (rest := []) ⟨hx, hb, hml, hown, hts⟩ (c_X6_thrown l D cI cS cZ cJ Gm (f_X6_airtime M (xs (nI (i + 1)).toNatClampNeg)).2 H2.size) (cwV 0 hts gL_law_X6_thrown rfl rfl rfl (by decide +kernel) ⟨Nat.le_of_ble_eq_true rfl, Nat.le_of_ble_eq_true rfl⟩) ⟨wPc_blind, va_recv hK hM2 (ci := 6) (q0 := 0) rfl (WL_at (by decide) rfl), wPc_at hM2 hK hDm hN⟩ rfl rfl hl.1 rfl (lv_room (Nat.le_of_ble_eq_true rfl)) dL_law_1074 ⟨hc, hs⟩) (fun H3 locs3 hLS3 => ?_)
    obtain ⟨hP3, hM3, hO3, hS3⟩ := id hLS3
    refine lv_iload hx hb dL_law_1077 (lv_at hl 1 rfl) ?_
    refine lv_icmp_eq (tgt := 1084) hx hb dL_law_1079 (by decide) (fun _ => ?_) (fun h => absurd ((f_X6_thrown_d _).trans hthr) h)
    refine lv_iload hx hb dL_law_1084 (lv_at hl 1 rfl) ?_
    refine lv_if_ne (tgt := 1101) hx hb dL_law_1086 (by decide) (fun _ => ?_) (fun hk => ?_)
    · refine lv_goto (tgt := 1173) hx hb dL_law_1101 (by decide) ?_
      exact kk t1 S1 _ fo1 H3 locs3 ls ht1 hR1 hLS3 (lv_sub hl [2, 3, 4, 5, 6] rfl)
    · obtain ⟨f1, f2⟩ := hk0 (nI_inj (by omega) (by decide) hk)
      refine lv_aload_n hx hb dL_law_1089 rfl (lv_at hl 3 rfl) ?_
      refine lv_iconst (v := nI 0) hx hb dL_law_1090 (by decide) ?_
      refine va_lald hx hb hK hO3 0 3 rfl rfl (vp_in_nI (by decide) (by decide)) dL_law_1091 ?_
      rw [f1]
      refine lv_iload hx hb dL_law_1092 (lv_at hl 0 rfl) ?_
      refine lv_i2l (v := x) hx hb dL_law_1094 f2 ?_
      refine x_lcmpE hx hb dL_law_1095 ?_
      refine lv_if_eq (tgt := 1101) hx hb dL_law_1096 (by decide) (fun _ => ?_) (fun h => absurd rfl h)
      refine lv_goto (tgt := 1173) hx hb dL_law_1101 (by decide) ?_
      exact kk t1 S1 _ fo1 H3 locs3 ls ht1 hR1 hLS3 (lv_sub hl [2, 3, 4, 5, 6] rfl)
  rcases s_airtime hR (xs (nI (i + 1)).toNatClampNeg) with ⟨a, e1, e2, z1, z2, z3⟩ | ⟨e1, z⟩
  · rw [e1]
    refine l_good hF hLS (vx_runSW (As := [.ref (G 0), .int (nI a), .ref o]) (rest := []) ⟨hx, hb, hml, hown, hts⟩ (w_L_airtime l D cI cS cZ cJ G S o fo H.size a e2) (vx_cwSW 3 hts gL_law_L_airtime rfl rfl rfl (by decide +kernel) ⟨Nat.le_of_ble_eq_true rfl, Nat.le_of_ble_eq_true rfl⟩) ⟨lPc_blind, lPc_at hP hO hK hD hGo hN hT hZ hC hS⟩ rfl rfl hl.1 rfl (lv_room (Nat.le_of_ble_eq_true rfl)) dL_law_1056 ⟨by show cells + 0 ≤ 637605; omega, by show slots + 0 ≤ 7183290; omega⟩) (fun H1 locs1 hLS1 => ?_)
    refine W.widen (k := cells + 1) (n := slots + 6) (by omega) (by omega) ?_
    exact tail 0 (f_X5_airtime S a).toInt64 S (vp_updL fo 0 (f_X5_airtime S a).toInt64) t H1 locs1 hLS1 (by omega) z1 z3 (by decide) (fun _ => ⟨by rw [show (nI 0).toNatClampNeg = 0 by decide, pk_uLs], by rw [← z2]⟩)
  · refine l_bad hLS (vx_runSW (As := [.ref (G 0), .int (xs (nI (i + 1)).toNatClampNeg), .ref o]) (rest := []) ⟨hx, hb, hml, hown, hts⟩ (w_L_airtime__ l hfl D cI cS cZ cJ G S o fo H.size (xs (nI (i + 1)).toNatClampNeg) e1) (vx_cwSW 3 hts gL_law_L_airtime rfl rfl rfl (by decide +kernel) ⟨Nat.le_of_ble_eq_true rfl, Nat.le_of_ble_eq_true rfl⟩) ⟨lPc_blind, lPc_at hP hO hK hD hGo hN hT hZ hC hS⟩ rfl rfl hl.1 rfl (lv_room (Nat.le_of_ble_eq_true rfl)) dL_law_1056 ⟨hc, hs⟩) (fun H1 locs1 hLS1 => ?_)
    exact tail 1 0 S fo t H1 locs1 hLS1 (by omega) z.1 z.2 (by omega) (fun h => absurd h (by decide))
set_option maxHeartbeats 4000000 in
set_option maxRecDepth 100000 in
theorem op_airtimeBySendings (hfl : l.stackTraces = false) (hx : p.tables.exec = Jvm.exec) (hb : c.code = cL_law) (hml : c.maxLocals = 7) (hown : s.vm.findClass RL = some m.cls) (hts : ∀ w ∈ wsL_law, w.before #[Value.ref b] s = true) (hX : va_X b L xs s s.heap) (hbl : b < s.heap.size) (hL20 : L ≤ 2048) (hF : LFix D cI cS cZ cJ G Gm o s) (hi : i + 4 ≤ L) (ht : t + 50 < 100000) (hR : Rel t S M) (hLS : LSt D cI cS cZ cJ G Gm o s S M fo H locs) (hl : lv_has ls 7 (LV b o i G Gm)) (hc : cells + 1 ≤ 637605) (hs : slots + 6 ≤ 7183290) (kk : LKK p l e s m below meth c b D cI cS cZ cJ G Gm o i t cells slots Q) : W p l e room_1 s m #[Value.ref b] below meth c H locs cells slots Q (F0 m 1104 ls []) := by
  obtain ⟨hD, hDm, hGo, hmo, hGm, ho, hK, hN, hT, hZ, hC⟩ := id hF
  have hbA : ¬ (fun q : Nat => s.heap.size ≤ q) b := Nat.not_le.mpr hbl
  obtain ⟨hP, hM, hO, hS⟩ := id hLS
  refine lv_aload_n hx hb dL_law_1104 rfl (lv_at hl 3 rfl) ?_
  refine lv_aload_n hx hb dL_law_1105 rfl (lv_at hl 4 rfl) ?_
  refine lv_iload hx hb dL_law_1106 (lv_at hl 0 rfl) ?_
  refine lv_iconst (v := nI 1) hx hb dL_law_1108 (by decide) ?_
  refine x_iaddN hx hb dL_law_1109 ?_
  refine va_sld hx hb hX hbl hbA hS (vp_in_nI (by omega) (by omega)) dL_law_1110 ?_
  refine lv_aload_n hx hb dL_law_1111 rfl (lv_at hl 1 rfl) ?_
  have tail : ∀ (k : Nat) (x : Int64) (S1 : Mem) (fo1 : Nat → Int64) (t1 : Nat) (H1 : Heap) (locs1 : List Loc), LSt D cI cS cZ cJ G Gm o s S1 M fo1 H1 locs1 → t1 ≤ t + 50 → (f_X6_airtimeBySendings M (xs (nI (i + 1)).toNatClampNeg)).2 0 0 = nI k → Rel t1 S1 (f_X6_airtimeBySendings M (xs (nI (i + 1)).toNatClampNeg)).2 → k < 4 → (k = 0 → fo1 (nI 0).toNatClampNeg = x ∧ (f_X6_airtimeBySendings M (xs (nI (i + 1)).toNatClampNeg)).1.toInt64 = x) → W p l e room_1 s m #[Value.ref b] below meth c H1 locs1 (cells + 1) (slots + 6) Q (F0 m 1115 ls [.int (nI k)]) := by
    clear hLS hP hM hO hS
    intro k x S1 fo1 t1 H1 locs1 hLS ht1 hthr hR1 hk4 hk0
    obtain ⟨hP, hM, hO, hS⟩ := id hLS
    refine lv_istore (lv' := (5, .int (nI k)) :: LV b o i G Gm) hx hb dL_law_1115 hl (by decide) rfl (fun ls hl => ?_)
    refine lv_aload_n hx hb dL_law_1117 rfl (lv_at hl 3 rfl) ?_
    refine lv_aload_n hx hb dL_law_1118 rfl (lv_at hl 5 rfl) ?_
    refine lv_iload hx hb dL_law_1119 (lv_at hl 1 rfl) ?_
    refine lv_iconst (v := nI 1) hx hb dL_law_1121 (by decide) ?_
    refine x_iaddN hx hb dL_law_1122 ?_
    refine va_sld hx hb hX hbl hbA hS (vp_in_nI (by omega) (by omega)) dL_law_1123 ?_
    refine l_model hF hLS (va_runV (As := [.int (xs (nI (i + 1)).toNatClampNeg)]) (rest := []) ⟨hx, hb, hml, hown, hts⟩ (c_X6_airtimeBySendings l D cI cS cZ cJ Gm M H1.size (xs (nI (i + 1)).toNatClampNeg)) (cwV 1 hts gL_law_X6_airtimeBySendings rfl rfl rfl (by decide +kernel) ⟨Nat.le_of_ble_eq_true rfl, Nat.le_of_ble_eq_true rfl⟩) ⟨wPc_blind, va_recv hK hM (ci := 6) (q0 := 0) rfl (WL_at (by decide) rfl), wPc_at hM hK hDm hN⟩ rfl rfl hl.1 rfl (lv_room (Nat.le_of_ble_eq_true rfl)) dL_law_1124 ⟨hc, hs⟩) (fun H2 locs2 hLS2 => ?_)
    obtain ⟨hP2, hM2, hO2, hS2⟩ := id hLS2
    refine lv_istore (lv' := (6, .int (f_X6_airtimeBySendings M (xs (nI (i + 1)).toNatClampNeg)).1) :: (5, .int (nI k)) :: LV b o i G Gm) hx hb dL_law_1127 hl (by decide) rfl (fun ls hl => ?_)
    refine lv_aload_n hx hb dL_law_1129 rfl (lv_at hl 4 rfl) ?_
    refine l_pure hLS2 (va_runV (As := []) (rest := []) ⟨hx, hb, hml, hown, hts⟩ (c_X6_thrown l D cI cS cZ cJ Gm (f_X6_airtimeBySendings M (xs (nI (i + 1)).toNatClampNeg)).2 H2.size) (cwV 0 hts gL_law_X6_thrown rfl rfl rfl (by decide +kernel) ⟨Nat.le_of_ble_eq_true rfl, Nat.le_of_ble_eq_true rfl⟩) ⟨wPc_blind, va_recv hK hM2 (ci := 6) (q0 := 0) rfl (WL_at (by decide) rfl), wPc_at hM2 hK hDm hN⟩ rfl rfl hl.1 rfl (lv_room (Nat.le_of_ble_eq_true rfl)) dL_law_1130 ⟨hc, hs⟩) (fun H3 locs3 hLS3 => ?_)
    obtain ⟨hP3, hM3, hO3, hS3⟩ := id hLS3
    refine lv_iload hx hb dL_law_1133 (lv_at hl 1 rfl) ?_
    refine lv_icmp_eq (tgt := 1140) hx hb dL_law_1135 (by decide) (fun _ => ?_) (fun h => absurd ((f_X6_thrown_d _).trans hthr) h)
    refine lv_iload hx hb dL_law_1140 (lv_at hl 1 rfl) ?_
    refine lv_if_ne (tgt := 1157) hx hb dL_law_1142 (by decide) (fun _ => ?_) (fun hk => ?_)
    · refine lv_goto (tgt := 1173) hx hb dL_law_1157 (by decide) ?_
      exact kk t1 S1 _ fo1 H3 locs3 ls ht1 hR1 hLS3 (lv_sub hl [2, 3, 4, 5, 6] rfl)
    · obtain ⟨f1, f2⟩ := hk0 (nI_inj (by omega) (by decide) hk)
      refine lv_aload_n hx hb dL_law_1145 rfl (lv_at hl 3 rfl) ?_
      refine lv_iconst (v := nI 0) hx hb dL_law_1146 (by decide) ?_
      refine va_lald hx hb hK hO3 0 3 rfl rfl (vp_in_nI (by decide) (by decide)) dL_law_1147 ?_
      rw [f1]
      refine lv_iload hx hb dL_law_1148 (lv_at hl 0 rfl) ?_
      refine lv_i2l (v := x) hx hb dL_law_1150 f2 ?_
      refine x_lcmpE hx hb dL_law_1151 ?_
      refine lv_if_eq (tgt := 1157) hx hb dL_law_1152 (by decide) (fun _ => ?_) (fun h => absurd rfl h)
      refine lv_goto (tgt := 1173) hx hb dL_law_1157 (by decide) ?_
      exact kk t1 S1 _ fo1 H3 locs3 ls ht1 hR1 hLS3 (lv_sub hl [2, 3, 4, 5, 6] rfl)
  rcases s_airtimeBySendings hR (xs (nI (i + 1)).toNatClampNeg) with ⟨a, e1, e2, z1, z2, z3⟩ | ⟨e1, z⟩
  · rw [e1]
    refine l_good hF hLS (vx_runSW (As := [.ref (G 0), .int (nI a), .ref o]) (rest := []) ⟨hx, hb, hml, hown, hts⟩ (w_L_airtimeBySendings l D cI cS cZ cJ G S o fo H.size a e2) (vx_cwSW 3 hts gL_law_L_airtimeBySendings rfl rfl rfl (by decide +kernel) ⟨Nat.le_of_ble_eq_true rfl, Nat.le_of_ble_eq_true rfl⟩) ⟨lPc_blind, lPc_at hP hO hK hD hGo hN hT hZ hC hS⟩ rfl rfl hl.1 rfl (lv_room (Nat.le_of_ble_eq_true rfl)) dL_law_1112 ⟨by show cells + 0 ≤ 637605; omega, by show slots + 0 ≤ 7183290; omega⟩) (fun H1 locs1 hLS1 => ?_)
    refine W.widen (k := cells + 1) (n := slots + 6) (by omega) (by omega) ?_
    exact tail 0 (f_X5_airtimeBySendings S a).toInt64 S (vp_updL fo 0 (f_X5_airtimeBySendings S a).toInt64) t H1 locs1 hLS1 (by omega) z1 z3 (by decide) (fun _ => ⟨by rw [show (nI 0).toNatClampNeg = 0 by decide, pk_uLs], by rw [← z2]⟩)
  · refine l_bad hLS (vx_runSW (As := [.ref (G 0), .int (xs (nI (i + 1)).toNatClampNeg), .ref o]) (rest := []) ⟨hx, hb, hml, hown, hts⟩ (w_L_airtimeBySendings__ l hfl D cI cS cZ cJ G S o fo H.size (xs (nI (i + 1)).toNatClampNeg) e1) (vx_cwSW 3 hts gL_law_L_airtimeBySendings rfl rfl rfl (by decide +kernel) ⟨Nat.le_of_ble_eq_true rfl, Nat.le_of_ble_eq_true rfl⟩) ⟨lPc_blind, lPc_at hP hO hK hD hGo hN hT hZ hC hS⟩ rfl rfl hl.1 rfl (lv_room (Nat.le_of_ble_eq_true rfl)) dL_law_1112 ⟨hc, hs⟩) (fun H1 locs1 hLS1 => ?_)
    exact tail 1 0 S fo t H1 locs1 hLS1 (by omega) z.1 z.2 (by omega) (fun h => absurd h (by decide))
set_option maxHeartbeats 2000000 in
set_option maxRecDepth 100000 in
theorem op_numbers (hfl : l.stackTraces = false) (hx : p.tables.exec = Jvm.exec) (hb : c.code = cL_law) (hml : c.maxLocals = 7) (hown : s.vm.findClass RL = some m.cls) (hts : ∀ w ∈ wsL_law, w.before #[Value.ref b] s = true) (hX : va_X b L xs s s.heap) (hbl : b < s.heap.size) (hL20 : L ≤ 2048) (hF : LFix D cI cS cZ cJ G Gm o s) (hi : i + 4 ≤ L) (ht : t + 50 < 100000) (hR : Rel t S M) (hLS : LSt D cI cS cZ cJ G Gm o s S M fo H locs) (hl : lv_has ls 7 (LV b o i G Gm)) (hc : cells + 1 ≤ 637605) (hs : slots + 6 ≤ 7183290) (kk : LKK p l e s m below meth c b D cI cS cZ cJ G Gm o i t cells slots Q) : W p l e room_1 s m #[Value.ref b] below meth c H locs cells slots Q (F0 m 1160 ls []) := by
  obtain ⟨hD, hDm, hGo, hmo, hGm, ho, hK, hN, hT, hZ, hC⟩ := id hF
  have hbA : ¬ (fun q : Nat => s.heap.size ≤ q) b := Nat.not_le.mpr hbl
  obtain ⟨hP, hM, hO, hS⟩ := id hLS
  refine lv_aload_n hx hb dL_law_1160 rfl (lv_at hl 3 rfl) ?_
  refine l_pure hLS (va_runV (As := []) (rest := []) ⟨hx, hb, hml, hown, hts⟩ (c_X5_numbers l D cI cS cZ cJ G S H.size) (cwV 0 hts gL_law_X5_numbers rfl rfl rfl (by decide +kernel) ⟨Nat.le_of_ble_eq_true rfl, Nat.le_of_ble_eq_true rfl⟩) ⟨wPc_blind, va_recv hK hP (ci := 5) (q0 := 0) rfl (WL_at (by decide) (cF_air _)), wPc_at hP hK hD hN⟩ rfl rfl hl.1 rfl (lv_room (Nat.le_of_ble_eq_true rfl)) dL_law_1161 ⟨by show cells + 0 ≤ 637605; omega, by show slots + 0 ≤ 7183290; omega⟩) (fun H1 locs1 hLS1 => ?_)
  obtain ⟨hP1, hM1, hO1, hS1⟩ := id hLS1
  refine lv_aload_n hx hb dL_law_1164 rfl (lv_at hl 2 rfl) ?_
  refine l_model hF hLS1 (va_runV (As := []) (rest := [.int (f_X5_numbers S)]) ⟨hx, hb, hml, hown, hts⟩ (c_X6_numbers l D cI cS cZ cJ Gm M H1.size) (cwV 0 hts gL_law_X6_numbers rfl rfl rfl (by decide +kernel) ⟨Nat.le_of_ble_eq_true rfl, Nat.le_of_ble_eq_true rfl⟩) ⟨wPc_blind, va_recv hK hM1 (ci := 6) (q0 := 0) rfl (WL_at (by decide) rfl), wPc_at hM1 hK hDm hN⟩ rfl rfl hl.1 rfl (lv_room (Nat.le_of_ble_eq_true rfl)) dL_law_1165 ⟨by show cells + 0 ≤ 637605; omega, by show slots + 0 ≤ 7183290; omega⟩) (fun H2 locs2 hLS2 => ?_)
  obtain ⟨e1, e2⟩ := s_numbers hR
  refine lv_icmp_eq (tgt := 1173) hx hb dL_law_1168 (by decide) (fun _ => ?_) (fun h => absurd e1 h)
  refine W.widen (k := cells + 1) (n := slots + 6) (by omega) (by omega) ?_
  exact kk t S _ fo H2 locs2 ls (by omega) e2 hLS2 hl
end OPS
