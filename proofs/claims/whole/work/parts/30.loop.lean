/-! THE CLAIM OUT OF ONE WALK OF THE LAW'S BODY. Your part is whole_start (and what it stands on); all else here is the same for every law, but numbers. -/
def R_law : String := "BackofficeAirLaw"
def lw_P (b : Addr) (xs : List Int32) (args : Array Value) (s : State) : Prop := args = #[.ref b] ∧ s.IntsAt b xs ∧ xs.length ≤ 2048 ∧ (Jvm.Cond.and given_1 narrow_1).before args s = true
def lw_Q (_ : Array Value) (s : State) (o : Outcome) (t : State) : Prop := o = .returned (some (.int 1)) ∧ Framed s o t [] 637605 7183290
def lw_Z (below : List Frame) (a : Array Value) (s : State) : State → Prop := fun t => ∃ o, t.status = .running ∧ Ended t below o ∧ lw_Q a s o t
/-- the law's own end, with 1 on the stack, nothing written that was there before, its room as the claim has it -/
theorem lw_ret {p : Program} {l : Launch} {e : Env} {s : State} {m : MethodId} {below : List Frame} {meth : Method} {c : Code} {b : Nat} (hx : p.tables.exec = Jvm.exec) (hb : c.code = code) (hr : meth.sig.returnType = ret) (hlocks : meth.locks = false) {pc : Nat} {H : Heap} {ls : Array Slot} (hdg : decode code pc = .ok (.ireturn, 1)) : W p l e room_1 s m #[Value.ref b] below meth c H [] 637605 7183290 (lw_Z below #[Value.ref b] s) (F0 m pc ls [.int 1]) := by
  intro T hT X
  obtain ⟨fs, hret, hrun, hended, hW, hframe⟩ := X.leave (v := some (.int 1)) (hlocks := hlocks) (fun h => by rw [hr] at h; cases h)
  have hmeth' : T.vm.method? m = some meth := X.method'
  refine ⟨T.setFrames fs, ?_, .returned (some (.int 1)), hrun, hended, rfl, ⟨_, rfl⟩, hW, hframe⟩
  jvm_step X.here [X.here.top, hx, hb, hdg, hmeth', hr, ret, narrow_b1]
  (try refine ⟨rfl, ?_⟩); (try refine ⟨rfl, ?_⟩)
  first | (intro acts; rw [hret _ acts rfl rfl rfl]) | rw [hret _ _ rfl rfl rfl]
  exact Steps.refl _
/-- what holds at the law's entry: the machine, the code, the tables' words (any of lw_tbl by 'hts w (by decide +kernel)'), the script of L ints xs at the cell b, what the Statement gives of the start (any of its parts by flat_of_before) -/
def lw_At (p : Program) (s : State) (m : MethodId) (meth : Method) (c : Code) (b L : Nat) (xs : Nat → Int32) : Prop :=
  p.tables.exec = Jvm.exec ∧ c.code = code ∧ meth.sig.returnType = ret ∧ c.maxLocals = 7 ∧ s.vm.findClass R_law = some m.cls ∧ (∀ w ∈ lw_tbl, w.before #[Value.ref b] s = true) ∧ va_X b L xs s s.heap ∧ b < s.heap.size ∧ meth.locks = false ∧ (Jvm.Cond.and given_1 narrow_1).before #[Value.ref b] s = true
set_option maxHeartbeats 2000000 in
set_option maxRecDepth 100000 in
theorem law_loop {p : Program} {l : Launch} {e : Env} {s : State} {m : MethodId} {below : List Frame} {meth : Method} {c : Code} {b L : Nat} {xs : Nat → Int32} {D : va_G} {cI cS cZ cJ : ClassId} {G Gm : Nat → Nat} {o : Nat} (hfl : l.stackTraces = false) (hx : p.tables.exec = Jvm.exec) (hb : c.code = cL_law) (hr : meth.sig.returnType = ret) (hlocks : meth.locks = false) (hml : c.maxLocals = 7) (hown : s.vm.findClass RL = some m.cls) (hts : ∀ w ∈ wsL_law, w.before #[Value.ref b] s = true) (hX : va_X b L xs s s.heap) (hbl : b < s.heap.size) (hL20 : L ≤ 2048) (hF : LFix D cI cS cZ cJ G Gm o s) :
    ∀ (n i t : Nat) (S M : Mem) (fo : Nat → Int64) (H : Heap) (locs : List Loc) (ls : Array Slot) (cells slots : Nat), L ≤ i + 4 * n → i ≤ 2048 → t ≤ 13 * i → cells ≤ 100 + i → slots ≤ 2000 + 6 * i → Rel t S M → LSt D cI cS cZ cJ G Gm o s S M fo H locs → lv_has ls 7 (LV b o i G Gm) → W p l e room_1 s m #[Value.ref b] below meth c H locs cells slots (lw_Z below #[Value.ref b] s) (F0 m 23 ls []) := by
  have hbA : ¬ (fun q : Nat => s.heap.size ≤ q) b := Nat.not_le.mpr hbl
  intro n
  induction n with
  | zero =>
    intro i t S M fo H locs ls cells slots hn hi2 ht hc hs hR hLS hl
    have hS := hLS.2.2.2
    refine lv_iload hx hb dL_law_23 (lv_at hl 0 rfl) ?_
    refine lv_aload_n hx hb dL_law_25 rfl (lv_at hl 4 rfl) ?_
    refine va_slen hx hb hX hbl hbA hS dL_law_26 ?_
    refine lv_iconst (v := nI 4) hx hb dL_law_27 (by decide) ?_
    refine lv_isub hx hb dL_law_28 ?_
    refine lv_icmp_gt (tgt := 1179) hx hb dL_law_29 (by decide) (fun _ => ?_) (fun hgt => ?_)
    · refine lv_iconst (v := 1) hx hb dL_law_1179 (by decide) ?_
      refine va_forget (fun q hq => hS.2.2 q hq) ?_
      refine W.widen (k := 637605) (n := 7183290) (by omega) (by omega) ?_
      exact lw_ret hx hb hr hlocks dL_law_1180
    · exact absurd (nI_mod (by omega) (by omega) hgt) (by omega)
  | succ n ih =>
    intro i t S M fo H locs ls cells slots hn hi2 ht hc hs hR hLS hl
    have hS := hLS.2.2.2
    refine lv_iload hx hb dL_law_23 (lv_at hl 0 rfl) ?_
    refine lv_aload_n hx hb dL_law_25 rfl (lv_at hl 4 rfl) ?_
    refine va_slen hx hb hX hbl hbA hS dL_law_26 ?_
    refine lv_iconst (v := nI 4) hx hb dL_law_27 (by decide) ?_
    refine lv_isub hx hb dL_law_28 ?_
    refine lv_icmp_gt (tgt := 1179) hx hb dL_law_29 (by decide) (fun _ => ?_) (fun hgt => ?_)
    · refine lv_iconst (v := 1) hx hb dL_law_1179 (by decide) ?_
      refine va_forget (fun q hq => hS.2.2 q hq) ?_
      refine W.widen (k := 637605) (n := 7183290) (by omega) (by omega) ?_
      exact lw_ret hx hb hr hlocks dL_law_1180
    · have hi4 : i + 4 ≤ L := nI_mod (by omega) (by omega) hgt
      have kk : LKK p l e s m below meth c b D cI cS cZ cJ G Gm o i t cells slots (lw_Z below #[Value.ref b] s) := fun t1 S1 M1 fo1 H1 locs1 ls1 ht1 hR1 hLS1 hl1 => by
        refine lv_iinc (v := nI (i + 4)) (lv' := LV b o (i + 4) G Gm) hx hb dL_law_1173 hl1 (k := 0) rfl (nI_add _ _) (by decide) rfl (fun ls hl => ?_)
        refine lv_goto (tgt := 23) hx hb dL_law_1176 (by decide) ?_
        exact ih (i + 4) t1 S1 M1 fo1 H1 locs1 ls (cells + 1) (slots + 6) (by omega) (by omega) (by omega) (by omega) (by omega) hR1 hLS1 hl
      have hc1 : cells + 1 ≤ 637605 := by omega
      have hs1 : slots + 6 ≤ 7183290 := by omega
      have ht5 : t + 50 < 100000 := by omega
      refine lv_aload_n hx hb dL_law_32 rfl (lv_at hl 4 rfl) ?_
      refine lv_iload hx hb dL_law_33 (lv_at hl 0 rfl) ?_
      refine va_sld hx hb hX hbl hbA hS (vp_in_nI (by omega) (by omega)) dL_law_35 ?_
      refine lv_bipush (v := nI 31) hx hb dL_law_36 (by decide) ?_
      refine lv_iand hx hb dL_law_38 ?_
      obtain ⟨j, hj, ej⟩ := pk_andE (xs (nI i).toNatClampNeg) (m := nI 31) 5 (by decide)
      rw [ej]
      rcases (show j = 0 ∨ j = 1 ∨ j = 2 ∨ j = 3 ∨ j = 4 ∨ j = 5 ∨ j = 6 ∨ j = 7 ∨ j = 8 ∨ j = 9 ∨ j = 10 ∨ j = 11 ∨ j = 12 ∨ j = 13 ∨ j = 14 ∨ j = 15 ∨ j = 16 ∨ j = 17 ∨ j = 18 ∨ 19 ≤ j by omega) with rfl | rfl | rfl | rfl | rfl | rfl | rfl | rfl | rfl | rfl | rfl | rfl | rfl | rfl | rfl | rfl | rfl | rfl | rfl | h19
      · refine lv_tableIn (tgt := 128) hx hb dL_law_39 (by decide) (by decide) (by rfl) (by decide) ?_
        exact op_setStrength hfl hx hb hml hown hts hX hbl hL20 hF hi4 ht5 hR hLS hl hc1 hs1 kk
      · refine lv_tableIn (tgt := 208) hx hb dL_law_39 (by decide) (by decide) (by rfl) (by decide) ?_
        exact op_setClass hfl hx hb hml hown hts hX hbl hL20 hF hi4 ht5 hR hLS hl hc1 hs1 kk
      · refine lv_tableIn (tgt := 276) hx hb dL_law_39 (by decide) (by decide) (by rfl) (by decide) ?_
        exact op_setReserve hfl hx hb hml hown hts hX hbl hL20 hF hi4 ht5 hR hLS hl hc1 hs1 kk
      · refine lv_tableIn (tgt := 332) hx hb dL_law_39 (by decide) (by decide) (by rfl) (by decide) ?_
        exact op_tell hfl hx hb hml hown hts hX hbl hL20 hF hi4 ht5 hR hLS hl hc1 hs1 kk
      · refine lv_tableIn (tgt := 388) hx hb dL_law_39 (by decide) (by decide) (by rfl) (by decide) ?_
        exact op_frame hfl hx hb hml hown hts hX hbl hL20 hF hi4 ht5 hR hLS hl hc1 hs1 kk
      · refine lv_tableIn (tgt := 468) hx hb dL_law_39 (by decide) (by decide) (by rfl) (by decide) ?_
        exact op_pass hfl hx hb hml hown hts hX hbl hL20 hF hi4 ht5 hR hLS hl hc1 hs1 kk
      · refine lv_tableIn (tgt := 524) hx hb dL_law_39 (by decide) (by decide) (by rfl) (by decide) ?_
        exact op_now hfl hx hb hml hown hts hX hbl hL20 hF hi4 ht5 hR hLS hl hc1 hs1 kk
      · refine lv_tableIn (tgt := 537) hx hb dL_law_39 (by decide) (by decide) (by rfl) (by decide) ?_
        exact op_sends hfl hx hb hml hown hts hX hbl hL20 hF hi4 ht5 hR hLS hl hc1 hs1 kk
      · refine lv_tableIn (tgt := 600) hx hb dL_law_39 (by decide) (by decide) (by rfl) (by decide) ?_
        exact op_waitOf hfl hx hb hml hown hts hX hbl hL20 hF hi4 ht5 hR hLS hl hc1 hs1 kk
      · refine lv_tableIn (tgt := 656) hx hb dL_law_39 (by decide) (by decide) (by rfl) (by decide) ?_
        exact op_window hfl hx hb hml hown hts hX hbl hL20 hF hi4 ht5 hR hLS hl hc1 hs1 kk
      · refine lv_tableIn (tgt := 712) hx hb dL_law_39 (by decide) (by decide) (by rfl) (by decide) ?_
        exact op_failures hfl hx hb hml hown hts hX hbl hL20 hF hi4 ht5 hR hLS hl hc1 hs1 kk
      · refine lv_tableIn (tgt := 768) hx hb dL_law_39 (by decide) (by decide) (by rfl) (by decide) ?_
        exact op_silencedTo hfl hx hb hml hown hts hX hbl hL20 hF hi4 ht5 hR hLS hl hc1 hs1 kk
      · refine lv_tableIn (tgt := 824) hx hb dL_law_39 (by decide) (by decide) (by rfl) (by decide) ?_
        exact op_frames hfl hx hb hml hown hts hX hbl hL20 hF hi4 ht5 hR hLS hl hc1 hs1 kk
      · refine lv_tableIn (tgt := 880) hx hb dL_law_39 (by decide) (by decide) (by rfl) (by decide) ?_
        exact op_partsLeft hfl hx hb hml hown hts hX hbl hL20 hF hi4 ht5 hR hLS hl hc1 hs1 kk
      · refine lv_tableIn (tgt := 936) hx hb dL_law_39 (by decide) (by decide) (by rfl) (by decide) ?_
        exact op_delivered hfl hx hb hml hown hts hX hbl hL20 hF hi4 ht5 hR hLS hl hc1 hs1 kk
      · refine lv_tableIn (tgt := 992) hx hb dL_law_39 (by decide) (by decide) (by rfl) (by decide) ?_
        exact op_dropped hfl hx hb hml hown hts hX hbl hL20 hF hi4 ht5 hR hLS hl hc1 hs1 kk
      · refine lv_tableIn (tgt := 1048) hx hb dL_law_39 (by decide) (by decide) (by rfl) (by decide) ?_
        exact op_airtime hfl hx hb hml hown hts hX hbl hL20 hF hi4 ht5 hR hLS hl hc1 hs1 kk
      · refine lv_tableIn (tgt := 1104) hx hb dL_law_39 (by decide) (by decide) (by rfl) (by decide) ?_
        exact op_airtimeBySendings hfl hx hb hml hown hts hX hbl hL20 hF hi4 ht5 hR hLS hl hc1 hs1 kk
      · refine lv_tableIn (tgt := 1160) hx hb dL_law_39 (by decide) (by decide) (by rfl) (by decide) ?_
        exact op_numbers hfl hx hb hml hown hts hX hbl hL20 hF hi4 ht5 hR hLS hl hc1 hs1 kk
      · refine lv_tableOut (tgt := 1173) hx hb dL_law_39 (Or.inr (by rw [nI_toInt (by omega)]; omega)) (by decide) ?_
        refine W.widen (k := cells + 1) (n := slots + 6) (by omega) (by omega) ?_
        exact kk t S M fo H locs ls (by omega) hR hLS hl
