-- the pieces of the law
section LSG
variable {p : Program} {l : Launch} {e : Env} {s : State} {m : MethodId} {below : List Frame} {meth : Method} {c : Code} {b L : Nat} {xs : Nat → Int32} {H : Heap} {locs : List Loc} {ls : Array Slot} {Q : State → Prop} {D : va_G} {cI cS : ClassId} {G : Nat → Nat} {cells slots : Nat}
def LX (p : Program) (l : Launch) (s : State) (m : MethodId) (c : Code) (b L : Nat) (xs : Nat → Int32) (D : va_G) (cI cS : ClassId) (G : Nat → Nat) : Prop := l.stackTraces = false ∧ p.tables.exec = Jvm.exec ∧ c.code = cL_law ∧ c.maxLocals = 17 ∧ s.vm.findClass RL = some m.cls ∧ (∀ w ∈ wsL_law, w.before #[Value.ref b] s = true) ∧ va_K D vwCl (tY cI cS) s ∧ (∀ S' : Mem, va_D (fun q : Nat => s.heap.size ≤ q) (WL 40 G (lF cI cS G) S')) ∧ NW s ∧ TW s ∧ ZQ s.heap.size s ∧ va_X b L xs s s.heap ∧ b < s.heap.size ∧ L ≤ 260
theorem lc_L_law_70 : Cond.constant RL 70 (1950001) ∈ wsL_law := List.mem_of_getElem? (i := 4) (by rfl)
theorem lc_L_law_71 : Cond.constant RL 71 (65011) ∈ wsL_law := List.mem_of_getElem? (i := 5) (by rfl)
set_option maxHeartbeats 1000000 in
set_option maxRecDepth 100000 in
theorem lg_x {S T : Mem} {td : Int32} {tn k : Nat} (hX : LX p l s m c b L xs D cI cS G) (hcl : cells + 1 ≤ 600130) (hsl : slots + 6 ≤ 7301080) (hk : k < tn) (htn : tn ≤ 420) (hP : va_P D vwCl (WL 40 G (lF cI cS G) (cmb S T)) H) (hS : va_S (fun q : Nat => s.heap.size ≤ q) s.heap H locs) (hl : lv_has ls 17 [(0, .ref b), (1, .ref (G 0)), (2, .ref (G 36)), (3, .ref (G 37)), (4, .ref (G 38)), (5, .ref (G 39)), (6, .int (nI 1)), (7, .int td), (8, .int (nI tn)), (9, .int (nI k))])
    (kk : ∀ (x : Int32) (H : Heap) (locs : List Loc) (ls : Array Slot), va_P D vwCl (WL 40 G (lF cI cS G) (cmb S T)) H → va_S (fun q : Nat => s.heap.size ≤ q) s.heap H locs → lv_has ls 17 [(0, .ref b), (1, .ref (G 0)), (2, .ref (G 36)), (3, .ref (G 37)), (4, .ref (G 38)), (5, .ref (G 39)), (6, .int (nI 1)), (7, .int td), (8, .int (nI tn)), (9, .int (nI k)), (10, .int x)] → W p l e room_1 s m #[Value.ref b] below meth c H locs cells slots Q (F0 m 121 ls []))
    : W p l e room_1 s m #[Value.ref b] below meth c H locs cells slots Q (F0 m 76 ls []) := by
  obtain ⟨hfl, hx, hb, hml, hown, hts, hK, hD, hN, hT, hZ, hX, hbl, hL⟩ := hX
  have hA : ∀ q : Nat, s.heap.size ≤ q → (fun q : Nat => s.heap.size ≤ q) q := fun _ h => h
  have hbA : ¬ (fun q : Nat => s.heap.size ≤ q) b := Nat.not_le.mpr hbl
  refine lv_iload hx hb dL_law_76 (lv_at hl 9 rfl) ?_
  refine lv_iload hx hb dL_law_78 (lv_at hl 8 rfl) ?_
  refine lv_icmp_ge (tgt := 648) hx hb dL_law_80 (by decide) (fun c_1 => absurd c_1 (nI_ge hk (by omega))) (fun _ => ?_)
  refine lv_iload hx hb dL_law_83 (lv_at hl 6 rfl) ?_
  refine lv_if_eq (tgt := 648) hx hb dL_law_85 (by decide) (fun c_2 => absurd c_2 (by decide)) (fun _ => ?_)
  refine lv_iload hx hb dL_law_88 (lv_at hl 9 rfl) ?_
  refine lv_aload_n hx hb dL_law_90 rfl (lv_at hl 0 rfl) ?_
  refine va_slen hx hb hX hbl hbA hS dL_law_91 ?_
  refine lv_icmp_ge (tgt := 102) hx hb dL_law_92 (by decide) (fun c_3 => ?_) (fun c_3 => ?_)
  · refine lv_ldc (v := 1950001) hx hb hown (hts _ (lc_L_law_70)) dL_law_102 ?_
    refine lv_iload hx hb dL_law_104 (lv_at hl 9 rfl) ?_
    refine lv_imul hx hb dL_law_106 ?_
    refine lv_iload hx hb dL_law_107 (lv_at hl 9 rfl) ?_
    refine lv_imul hx hb dL_law_109 ?_
    refine lv_ldc (v := 65011) hx hb hown (hts _ (lc_L_law_71)) dL_law_110 ?_
    refine lv_iload hx hb dL_law_112 (lv_at hl 9 rfl) ?_
    refine lv_imul hx hb dL_law_114 ?_
    refine lv_iadd hx hb dL_law_115 ?_
    refine lv_bipush (v := nI 102) hx hb dL_law_116 (by decide) ?_
    refine lv_iadd hx hb dL_law_118 ?_
    refine lv_istore (lv' := [(10, .int ((((1950001 * (nI k)) * (nI k)) + (65011 * (nI k))) + (nI 102))), (0, .ref b), (1, .ref (G 0)), (2, .ref (G 36)), (3, .ref (G 37)), (4, .ref (G 38)), (5, .ref (G 39)), (6, .int (nI 1)), (7, .int td), (8, .int (nI tn)), (9, .int (nI k))]) hx hb dL_law_119 hl (by decide) rfl (fun ls hl => ?_)
    exact kk ((((1950001 * (nI k)) * (nI k)) + (65011 * (nI k))) + (nI 102)) H locs ls hP hS (lv_sub hl [1, 2, 3, 4, 5, 6, 7, 8, 9, 10, 0] rfl)
  · have h92 := c_3
    have hkL : k < L := by
      rcases Nat.lt_or_ge k L with q | q
      · exact q
      · exact absurd (nI_le q (by omega)) h92
    refine lv_aload_n hx hb dL_law_95 rfl (lv_at hl 0 rfl) ?_
    refine lv_iload hx hb dL_law_96 (lv_at hl 9 rfl) ?_
    refine va_sld hx hb hX hbl hbA hS (vp_in_nI hkL (by omega)) dL_law_98 ?_
    refine lv_goto (tgt := 119) hx hb dL_law_99 (by decide) ?_
    refine lv_istore (lv' := [(10, .int (xs (nI k).toNatClampNeg)), (0, .ref b), (1, .ref (G 0)), (2, .ref (G 36)), (3, .ref (G 37)), (4, .ref (G 38)), (5, .ref (G 39)), (6, .int (nI 1)), (7, .int td), (8, .int (nI tn)), (9, .int (nI k))]) hx hb dL_law_119 hl (by decide) rfl (fun ls hl => ?_)
    exact kk (xs (nI k).toNatClampNeg) H locs ls hP hS (lv_sub hl [1, 2, 3, 4, 5, 6, 7, 8, 9, 10, 0] rfl)
theorem lc_L_law_72 : Cond.constant RL 72 (268435455) ∈ wsL_law := List.mem_of_getElem? (i := 6) (by rfl)
set_option maxHeartbeats 1000000 in
set_option maxRecDepth 100000 in
theorem lg_y {S T : Mem} {td x : Int32} {tn k y dd sn ot : Nat} (hX : LX p l s m c b L xs D cI cS G) (hcl : cells + 1 ≤ 600130) (hsl : slots + 6 ≤ 7301080) (hy : (x >>> ((nI 4) &&& 31)) &&& 268435455 = nI y) (hy28 : y < 268435456) (hdd : x &&& (nI 15) = nI dd) (hsn : y % 6 = sn) (hot : (sn + 1 + y / 8 % 5) % 6 = ot) (htn : tn ≤ 420) (hk : k < tn) (hP : va_P D vwCl (WL 40 G (lF cI cS G) (cmb S T)) H) (hS : va_S (fun q : Nat => s.heap.size ≤ q) s.heap H locs) (hl : lv_has ls 17 [(0, .ref b), (1, .ref (G 0)), (2, .ref (G 36)), (3, .ref (G 37)), (4, .ref (G 38)), (5, .ref (G 39)), (6, .int (nI 1)), (7, .int td), (8, .int (nI tn)), (9, .int (nI k)), (10, .int x)])
    (kk : ∀ (dv : Nat) (H : Heap) (locs : List Loc) (ls : Array Slot), va_P D vwCl (WL 40 G (lF cI cS G) (cmb S T)) H → va_S (fun q : Nat => s.heap.size ≤ q) s.heap H locs → lv_has ls 17 [(0, .ref b), (1, .ref (G 0)), (2, .ref (G 36)), (3, .ref (G 37)), (4, .ref (G 38)), (5, .ref (G 39)), (6, .int (nI 1)), (7, .int td), (8, .int (nI tn)), (9, .int (nI k)), (11, .int (nI y)), (12, .int (nI dv)), (13, .int (nI sn)), (14, .int (nI ot))] → W p l e room_1 s m #[Value.ref b] below meth c H locs cells slots Q (F0 m 170 ls []))
    : W p l e room_1 s m #[Value.ref b] below meth c H locs cells slots Q (F0 m 121 ls []) := by
  obtain ⟨hfl, hx, hb, hml, hown, hts, hK, hD, hN, hT, hZ, hX, hbl, hL⟩ := hX
  have hA : ∀ q : Nat, s.heap.size ≤ q → (fun q : Nat => s.heap.size ≤ q) q := fun _ h => h
  have hbA : ¬ (fun q : Nat => s.heap.size ≤ q) b := Nat.not_le.mpr hbl
  refine lv_iload hx hb dL_law_121 (lv_at hl 10 rfl) ?_
  refine lv_iconst (v := nI 4) hx hb dL_law_123 (by decide) ?_
  refine lv_ishr hx hb dL_law_124 ?_
  refine lv_ldc (v := 268435455) hx hb hown (hts _ (lc_L_law_72)) dL_law_125 ?_
  refine lv_iand hx hb dL_law_127 ?_
  refine x_top (y := nI y) (hy) ?_
  refine lv_istore (lv' := [(11, .int (nI y)), (0, .ref b), (1, .ref (G 0)), (2, .ref (G 36)), (3, .ref (G 37)), (4, .ref (G 38)), (5, .ref (G 39)), (6, .int (nI 1)), (7, .int td), (8, .int (nI tn)), (9, .int (nI k)), (10, .int x)]) hx hb dL_law_128 hl (by decide) rfl (fun ls hl => ?_)
  refine lv_iload hx hb dL_law_130 (lv_at hl 10 rfl) ?_
  refine lv_iconst (v := nI 5) hx hb dL_law_132 (by decide) ?_
  refine lv_icmp_ge (tgt := 140) hx hb dL_law_133 (by decide) (fun c_1 => ?_) (fun c_1 => ?_)
  · refine lv_iload hx hb dL_law_140 (lv_at hl 11 rfl) ?_
    refine lv_bipush (v := nI 15) hx hb dL_law_142 (by decide) ?_
    refine lv_iand hx hb dL_law_144 ?_
    refine x_top (y := nI dd) (hdd) ?_
    refine lv_istore (lv' := [(12, .int (nI dd)), (11, .int (nI y)), (0, .ref b), (1, .ref (G 0)), (2, .ref (G 36)), (3, .ref (G 37)), (4, .ref (G 38)), (5, .ref (G 39)), (6, .int (nI 1)), (7, .int td), (8, .int (nI tn)), (9, .int (nI k)), (10, .int x)]) hx hb dL_law_145 hl (by decide) rfl (fun ls hl => ?_)
    refine lv_iload hx hb dL_law_147 (lv_at hl 1 rfl) ?_
    refine lv_bipush (v := nI 6) hx hb dL_law_149 (by decide) ?_
    refine lv_irem hx hb dL_law_151 (by decide) ?_
    refine x_top (y := nI sn) ((pk_rem (by omega) (by decide) (by decide)).trans (congrArg nI hsn)) ?_
    refine lv_istore (lv' := [(13, .int (nI sn)), (12, .int (nI dd)), (11, .int (nI y)), (0, .ref b), (1, .ref (G 0)), (2, .ref (G 36)), (3, .ref (G 37)), (4, .ref (G 38)), (5, .ref (G 39)), (6, .int (nI 1)), (7, .int td), (8, .int (nI tn)), (9, .int (nI k)), (10, .int x)]) hx hb dL_law_152 hl (by decide) rfl (fun ls hl => ?_)
    refine lv_iload hx hb dL_law_154 (lv_at hl 0 rfl) ?_
    refine lv_iconst (v := nI 1) hx hb dL_law_156 (by decide) ?_
    refine x_iaddN hx hb dL_law_157 ?_
    refine lv_iload hx hb dL_law_158 (lv_at hl 2 rfl) ?_
    refine lv_iconst (v := nI 3) hx hb dL_law_160 (by decide) ?_
    refine lv_ishr hx hb dL_law_161 ?_
    refine x_top (y := nI (y / 8)) (pk_shrN (by omega) _ 3 (by decide)) ?_
    refine lv_iconst (v := nI 5) hx hb dL_law_162 (by decide) ?_
    refine lv_irem hx hb dL_law_163 (by decide) ?_
    refine x_top (y := nI (y / 8 % 5)) (pk_rem (by omega) (by decide) (by decide)) ?_
    refine x_iaddN hx hb dL_law_164 ?_
    refine lv_bipush (v := nI 6) hx hb dL_law_165 (by decide) ?_
    refine lv_irem hx hb dL_law_167 (by decide) ?_
    refine x_top (y := nI ot) ((pk_rem (by omega) (by decide) (by decide)).trans (congrArg nI hot)) ?_
    refine lv_istore (lv' := [(14, .int (nI ot)), (13, .int (nI sn)), (12, .int (nI dd)), (11, .int (nI y)), (0, .ref b), (1, .ref (G 0)), (2, .ref (G 36)), (3, .ref (G 37)), (4, .ref (G 38)), (5, .ref (G 39)), (6, .int (nI 1)), (7, .int td), (8, .int (nI tn)), (9, .int (nI k)), (10, .int x)]) hx hb dL_law_168 hl (by decide) rfl (fun ls hl => ?_)
    exact kk dd H locs ls hP hS (lv_sub hl [4, 5, 6, 7, 8, 9, 10, 11, 12, 13, 3, 2, 1, 0] rfl)
  · refine lv_iconst (v := nI 0) hx hb dL_law_136 (by decide) ?_
    refine lv_goto (tgt := 145) hx hb dL_law_137 (by decide) ?_
    refine lv_istore (lv' := [(12, .int (nI 0)), (11, .int (nI y)), (0, .ref b), (1, .ref (G 0)), (2, .ref (G 36)), (3, .ref (G 37)), (4, .ref (G 38)), (5, .ref (G 39)), (6, .int (nI 1)), (7, .int td), (8, .int (nI tn)), (9, .int (nI k)), (10, .int x)]) hx hb dL_law_145 hl (by decide) rfl (fun ls hl => ?_)
    refine lv_iload hx hb dL_law_147 (lv_at hl 1 rfl) ?_
    refine lv_bipush (v := nI 6) hx hb dL_law_149 (by decide) ?_
    refine lv_irem hx hb dL_law_151 (by decide) ?_
    refine x_top (y := nI sn) ((pk_rem (by omega) (by decide) (by decide)).trans (congrArg nI hsn)) ?_
    refine lv_istore (lv' := [(13, .int (nI sn)), (12, .int (nI 0)), (11, .int (nI y)), (0, .ref b), (1, .ref (G 0)), (2, .ref (G 36)), (3, .ref (G 37)), (4, .ref (G 38)), (5, .ref (G 39)), (6, .int (nI 1)), (7, .int td), (8, .int (nI tn)), (9, .int (nI k)), (10, .int x)]) hx hb dL_law_152 hl (by decide) rfl (fun ls hl => ?_)
    refine lv_iload hx hb dL_law_154 (lv_at hl 0 rfl) ?_
    refine lv_iconst (v := nI 1) hx hb dL_law_156 (by decide) ?_
    refine x_iaddN hx hb dL_law_157 ?_
    refine lv_iload hx hb dL_law_158 (lv_at hl 2 rfl) ?_
    refine lv_iconst (v := nI 3) hx hb dL_law_160 (by decide) ?_
    refine lv_ishr hx hb dL_law_161 ?_
    refine x_top (y := nI (y / 8)) (pk_shrN (by omega) _ 3 (by decide)) ?_
    refine lv_iconst (v := nI 5) hx hb dL_law_162 (by decide) ?_
    refine lv_irem hx hb dL_law_163 (by decide) ?_
    refine x_top (y := nI (y / 8 % 5)) (pk_rem (by omega) (by decide) (by decide)) ?_
    refine x_iaddN hx hb dL_law_164 ?_
    refine lv_bipush (v := nI 6) hx hb dL_law_165 (by decide) ?_
    refine lv_irem hx hb dL_law_167 (by decide) ?_
    refine x_top (y := nI ot) ((pk_rem (by omega) (by decide) (by decide)).trans (congrArg nI hot)) ?_
    refine lv_istore (lv' := [(14, .int (nI ot)), (13, .int (nI sn)), (12, .int (nI 0)), (11, .int (nI y)), (0, .ref b), (1, .ref (G 0)), (2, .ref (G 36)), (3, .ref (G 37)), (4, .ref (G 38)), (5, .ref (G 39)), (6, .int (nI 1)), (7, .int td), (8, .int (nI tn)), (9, .int (nI k)), (10, .int x)]) hx hb dL_law_168 hl (by decide) rfl (fun ls hl => ?_)
    exact kk 0 H locs ls hP hS (lv_sub hl [4, 5, 6, 7, 8, 9, 10, 11, 12, 13, 3, 2, 1, 0] rfl)
set_option maxHeartbeats 1000000 in
set_option maxRecDepth 100000 in
theorem lg_d {S T : Mem} {td : Int32} {tn k y dv sn ot : Nat} (hX : LX p l s m c b L xs D cI cS G) (hcl : cells + 1 ≤ 600130) (hsl : slots + 6 ≤ 7301080) (hy28 : y < 268435456) (hP : va_P D vwCl (WL 40 G (lF cI cS G) (cmb S T)) H) (hS : va_S (fun q : Nat => s.heap.size ≤ q) s.heap H locs) (hl : lv_has ls 17 [(0, .ref b), (1, .ref (G 0)), (2, .ref (G 36)), (3, .ref (G 37)), (4, .ref (G 38)), (5, .ref (G 39)), (6, .int (nI 1)), (7, .int td), (8, .int (nI tn)), (9, .int (nI k)), (11, .int (nI y)), (12, .int (nI dv)), (13, .int (nI sn)), (14, .int (nI ot))])
    (kA : ∀ (H : Heap) (locs : List Loc) (ls : Array Slot), va_P D vwCl (WL 40 G (lF cI cS G) (cmb S T)) H → va_S (fun q : Nat => s.heap.size ≤ q) s.heap H locs → lv_has ls 17 [(0, .ref b), (1, .ref (G 0)), (2, .ref (G 36)), (3, .ref (G 37)), (4, .ref (G 38)), (5, .ref (G 39)), (6, .int (nI 1)), (7, .int td), (8, .int (nI tn)), (9, .int (nI k)), (11, .int (nI y)), (12, .int (nI dv)), (13, .int (nI sn)), (14, .int (nI ot))] → W p l e room_1 s m #[Value.ref b] below meth c H locs cells slots Q (F0 m 188 ls []))
    (kB : ∀ (H : Heap) (locs : List Loc) (ls : Array Slot), va_P D vwCl (WL 40 G (lF cI cS G) (cmb S T)) H → va_S (fun q : Nat => s.heap.size ≤ q) s.heap H locs → lv_has ls 17 [(0, .ref b), (1, .ref (G 0)), (2, .ref (G 36)), (3, .ref (G 37)), (4, .ref (G 38)), (5, .ref (G 39)), (6, .int (nI 1)), (7, .int td), (8, .int (nI tn)), (9, .int (nI k)), (11, .int (nI y)), (12, .int (nI dv)), (13, .int (nI sn)), (14, .int (nI ot))] → W p l e room_1 s m #[Value.ref b] below meth c H locs cells slots Q (F0 m 295 ls []))
    (kC : ∀ (H : Heap) (locs : List Loc) (ls : Array Slot), va_P D vwCl (WL 40 G (lF cI cS G) (cmb S T)) H → va_S (fun q : Nat => s.heap.size ≤ q) s.heap H locs → lv_has ls 17 [(0, .ref b), (1, .ref (G 0)), (2, .ref (G 36)), (3, .ref (G 37)), (4, .ref (G 38)), (5, .ref (G 39)), (6, .int (nI 1)), (7, .int td), (8, .int (nI tn)), (9, .int (nI k)), (11, .int (nI y)), (12, .int (nI dv)), (13, .int (nI sn)), (14, .int (nI ot))] → W p l e room_1 s m #[Value.ref b] below meth c H locs cells slots Q (F0 m 356 ls []))
    (kD : ∀ (H : Heap) (locs : List Loc) (ls : Array Slot), va_P D vwCl (WL 40 G (lF cI cS G) (cmb S T)) H → va_S (fun q : Nat => s.heap.size ≤ q) s.heap H locs → lv_has ls 17 [(0, .ref b), (1, .ref (G 0)), (2, .ref (G 36)), (3, .ref (G 37)), (4, .ref (G 38)), (5, .ref (G 39)), (6, .int (nI 1)), (7, .int td), (8, .int (nI tn)), (9, .int (nI k)), (11, .int (nI y)), (12, .int (nI dv)), (13, .int (nI sn)), (14, .int (nI ot))] → W p l e room_1 s m #[Value.ref b] below meth c H locs cells slots Q (F0 m 431 ls []))
    (kE : ∀ (H : Heap) (locs : List Loc) (ls : Array Slot), va_P D vwCl (WL 40 G (lF cI cS G) (cmb S T)) H → va_S (fun q : Nat => s.heap.size ≤ q) s.heap H locs → lv_has ls 17 [(0, .ref b), (1, .ref (G 0)), (2, .ref (G 36)), (3, .ref (G 37)), (4, .ref (G 38)), (5, .ref (G 39)), (6, .int (nI 1)), (7, .int td), (8, .int (nI tn)), (9, .int (nI k)), (11, .int (nI y)), (12, .int (nI dv)), (13, .int (nI sn)), (14, .int (nI ot))] → W p l e room_1 s m #[Value.ref b] below meth c H locs cells slots Q (F0 m 490 ls []))
    (kF : ∀ (H : Heap) (locs : List Loc) (ls : Array Slot), va_P D vwCl (WL 40 G (lF cI cS G) (cmb S T)) H → va_S (fun q : Nat => s.heap.size ≤ q) s.heap H locs → lv_has ls 17 [(0, .ref b), (1, .ref (G 0)), (2, .ref (G 36)), (3, .ref (G 37)), (4, .ref (G 38)), (5, .ref (G 39)), (6, .int (nI 1)), (7, .int td), (8, .int (nI tn)), (9, .int (nI k)), (11, .int (nI y)), (12, .int (nI dv)), (13, .int (nI sn)), (14, .int (nI ot))] → W p l e room_1 s m #[Value.ref b] below meth c H locs cells slots Q (F0 m 567 ls []))
    : W p l e room_1 s m #[Value.ref b] below meth c H locs cells slots Q (F0 m 170 ls []) := by
  obtain ⟨hfl, hx, hb, hml, hown, hts, hK, hD, hN, hT, hZ, hX, hbl, hL⟩ := hX
  have hA : ∀ q : Nat, s.heap.size ≤ q → (fun q : Nat => s.heap.size ≤ q) q := fun _ h => h
  have hbA : ¬ (fun q : Nat => s.heap.size ≤ q) b := Nat.not_le.mpr hbl
  refine lv_iload hx hb dL_law_170 (lv_at hl 11 rfl) ?_
  refine lv_if_eq (tgt := 188) hx hb dL_law_172 (by decide) (fun c_1 => ?_) (fun c_1 => ?_)
  · exact kA H locs ls hP hS (lv_sub hl [0, 1, 2, 3, 4, 5, 6, 7, 8, 9, 10, 11, 12, 13] rfl)
  · refine lv_iload hx hb dL_law_175 (lv_at hl 11 rfl) ?_
    refine lv_iconst (v := nI 1) hx hb dL_law_177 (by decide) ?_
    refine lv_icmp_ne (tgt := 289) hx hb dL_law_178 (by decide) (fun c_2 => ?_) (fun c_2 => ?_)
    · refine lv_iload hx hb dL_law_289 (lv_at hl 11 rfl) ?_
      refine lv_iconst (v := nI 1) hx hb dL_law_291 (by decide) ?_
      refine lv_icmp_ne (tgt := 343) hx hb dL_law_292 (by decide) (fun c_3 => ?_) (fun c_3 => ?_)
      · refine lv_iload hx hb dL_law_343 (lv_at hl 11 rfl) ?_
        refine lv_iconst (v := nI 2) hx hb dL_law_345 (by decide) ?_
        refine lv_icmp_ne (tgt := 425) hx hb dL_law_346 (by decide) (fun c_4 => ?_) (fun c_4 => ?_)
        · refine lv_iload hx hb dL_law_425 (lv_at hl 11 rfl) ?_
          refine lv_iconst (v := nI 5) hx hb dL_law_427 (by decide) ?_
          refine lv_icmp_ge (tgt := 483) hx hb dL_law_428 (by decide) (fun c_5 => ?_) (fun c_5 => ?_)
          · refine lv_iload hx hb dL_law_483 (lv_at hl 11 rfl) ?_
            refine lv_bipush (v := nI 8) hx hb dL_law_485 (by decide) ?_
            refine lv_icmp_ge (tgt := 567) hx hb dL_law_487 (by decide) (fun c_6 => ?_) (fun c_6 => ?_)
            · exact kF H locs ls hP hS (lv_sub hl [0, 1, 2, 3, 4, 5, 6, 7, 8, 9, 10, 11, 12, 13] rfl)
            · exact kE H locs ls hP hS (lv_sub hl [0, 1, 2, 3, 4, 5, 6, 7, 8, 9, 10, 11, 12, 13] rfl)
          · exact kD H locs ls hP hS (lv_sub hl [0, 1, 2, 3, 4, 5, 6, 7, 8, 9, 10, 11, 12, 13] rfl)
        · refine lv_iload hx hb dL_law_349 (lv_at hl 10 rfl) ?_
          refine lv_iconst (v := nI 3) hx hb dL_law_351 (by decide) ?_
          refine lv_iand hx hb dL_law_352 ?_
          refine x_top (y := nI (y % 4)) (pk_andN (by omega) 2 (by decide)) ?_
          refine lv_if_ne (tgt := 425) hx hb dL_law_353 (by decide) (fun c_7 => ?_) (fun c_7 => ?_)
          · refine lv_iload hx hb dL_law_425 (lv_at hl 11 rfl) ?_
            refine lv_iconst (v := nI 5) hx hb dL_law_427 (by decide) ?_
            refine lv_icmp_ge (tgt := 483) hx hb dL_law_428 (by decide) (fun c_8 => ?_) (fun c_8 => ?_)
            · refine lv_iload hx hb dL_law_483 (lv_at hl 11 rfl) ?_
              refine lv_bipush (v := nI 8) hx hb dL_law_485 (by decide) ?_
              refine lv_icmp_ge (tgt := 567) hx hb dL_law_487 (by decide) (fun c_9 => ?_) (fun c_9 => ?_)
              · exact kF H locs ls hP hS (lv_sub hl [0, 1, 2, 3, 4, 5, 6, 7, 8, 9, 10, 11, 12, 13] rfl)
              · exact kE H locs ls hP hS (lv_sub hl [0, 1, 2, 3, 4, 5, 6, 7, 8, 9, 10, 11, 12, 13] rfl)
            · exact kD H locs ls hP hS (lv_sub hl [0, 1, 2, 3, 4, 5, 6, 7, 8, 9, 10, 11, 12, 13] rfl)
          · exact kC H locs ls hP hS (lv_sub hl [0, 1, 2, 3, 4, 5, 6, 7, 8, 9, 10, 11, 12, 13] rfl)
      · exact kB H locs ls hP hS (lv_sub hl [0, 1, 2, 3, 4, 5, 6, 7, 8, 9, 10, 11, 12, 13] rfl)
    · refine lv_iload hx hb dL_law_181 (lv_at hl 10 rfl) ?_
      refine lv_iconst (v := nI 1) hx hb dL_law_183 (by decide) ?_
      refine lv_iand hx hb dL_law_184 ?_
      refine x_top (y := nI (y % 2)) (pk_andN (by omega) 1 (by decide)) ?_
      refine lv_if_ne (tgt := 289) hx hb dL_law_185 (by decide) (fun c_10 => ?_) (fun c_10 => ?_)
      · refine lv_iload hx hb dL_law_289 (lv_at hl 11 rfl) ?_
        refine lv_iconst (v := nI 1) hx hb dL_law_291 (by decide) ?_
        refine lv_icmp_ne (tgt := 343) hx hb dL_law_292 (by decide) (fun c_11 => ?_) (fun c_11 => ?_)
        · refine lv_iload hx hb dL_law_343 (lv_at hl 11 rfl) ?_
          refine lv_iconst (v := nI 2) hx hb dL_law_345 (by decide) ?_
          refine lv_icmp_ne (tgt := 425) hx hb dL_law_346 (by decide) (fun c_12 => ?_) (fun c_12 => ?_)
          · refine lv_iload hx hb dL_law_425 (lv_at hl 11 rfl) ?_
            refine lv_iconst (v := nI 5) hx hb dL_law_427 (by decide) ?_
            refine lv_icmp_ge (tgt := 483) hx hb dL_law_428 (by decide) (fun c_13 => ?_) (fun c_13 => ?_)
            · refine lv_iload hx hb dL_law_483 (lv_at hl 11 rfl) ?_
              refine lv_bipush (v := nI 8) hx hb dL_law_485 (by decide) ?_
              refine lv_icmp_ge (tgt := 567) hx hb dL_law_487 (by decide) (fun c_14 => ?_) (fun c_14 => ?_)
              · exact kF H locs ls hP hS (lv_sub hl [0, 1, 2, 3, 4, 5, 6, 7, 8, 9, 10, 11, 12, 13] rfl)
              · exact kE H locs ls hP hS (lv_sub hl [0, 1, 2, 3, 4, 5, 6, 7, 8, 9, 10, 11, 12, 13] rfl)
            · exact kD H locs ls hP hS (lv_sub hl [0, 1, 2, 3, 4, 5, 6, 7, 8, 9, 10, 11, 12, 13] rfl)
          · refine lv_iload hx hb dL_law_349 (lv_at hl 10 rfl) ?_
            refine lv_iconst (v := nI 3) hx hb dL_law_351 (by decide) ?_
            refine lv_iand hx hb dL_law_352 ?_
            refine x_top (y := nI (y % 4)) (pk_andN (by omega) 2 (by decide)) ?_
            refine lv_if_ne (tgt := 425) hx hb dL_law_353 (by decide) (fun c_15 => ?_) (fun c_15 => ?_)
            · refine lv_iload hx hb dL_law_425 (lv_at hl 11 rfl) ?_
              refine lv_iconst (v := nI 5) hx hb dL_law_427 (by decide) ?_
              refine lv_icmp_ge (tgt := 483) hx hb dL_law_428 (by decide) (fun c_16 => ?_) (fun c_16 => ?_)
              · refine lv_iload hx hb dL_law_483 (lv_at hl 11 rfl) ?_
                refine lv_bipush (v := nI 8) hx hb dL_law_485 (by decide) ?_
                refine lv_icmp_ge (tgt := 567) hx hb dL_law_487 (by decide) (fun c_17 => ?_) (fun c_17 => ?_)
                · exact kF H locs ls hP hS (lv_sub hl [0, 1, 2, 3, 4, 5, 6, 7, 8, 9, 10, 11, 12, 13] rfl)
                · exact kE H locs ls hP hS (lv_sub hl [0, 1, 2, 3, 4, 5, 6, 7, 8, 9, 10, 11, 12, 13] rfl)
              · exact kD H locs ls hP hS (lv_sub hl [0, 1, 2, 3, 4, 5, 6, 7, 8, 9, 10, 11, 12, 13] rfl)
            · exact kC H locs ls hP hS (lv_sub hl [0, 1, 2, 3, 4, 5, 6, 7, 8, 9, 10, 11, 12, 13] rfl)
        · exact kB H locs ls hP hS (lv_sub hl [0, 1, 2, 3, 4, 5, 6, 7, 8, 9, 10, 11, 12, 13] rfl)
      · exact kA H locs ls hP hS (lv_sub hl [0, 1, 2, 3, 4, 5, 6, 7, 8, 9, 10, 11, 12, 13] rfl)
set_option maxHeartbeats 1000000 in
set_option maxRecDepth 100000 in
theorem lg_A1 {S T : Mem} {td : Int32} {tn k y sn ot : Nat} (hX : LX p l s m c b L xs D cI cS G) (hcl : cells + 1 ≤ 600130) (hsl : slots + 6 ≤ 7301080) (hy28 : y < 268435456) (hP : va_P D vwCl (WL 40 G (lF cI cS G) (cmb S T)) H) (hS : va_S (fun q : Nat => s.heap.size ≤ q) s.heap H locs) (hl : lv_has ls 17 [(0, .ref b), (1, .ref (G 0)), (2, .ref (G 36)), (3, .ref (G 37)), (4, .ref (G 38)), (5, .ref (G 39)), (6, .int (nI 1)), (7, .int td), (8, .int (nI tn)), (9, .int (nI k)), (11, .int (nI y)), (13, .int (nI sn)), (14, .int (nI ot))])
    (kk : ∀ (v : Nat) (_ : v ≤ 9) (H : Heap) (locs : List Loc) (ls : Array Slot), va_P D vwCl (WL 40 G (lF cI cS G) (cmb S T)) H → va_S (fun q : Nat => s.heap.size ≤ q) s.heap H locs → lv_has ls 17 [(0, .ref b), (1, .ref (G 0)), (2, .ref (G 36)), (3, .ref (G 37)), (4, .ref (G 38)), (5, .ref (G 39)), (6, .int (nI 1)), (7, .int td), (8, .int (nI tn)), (9, .int (nI k)), (11, .int (nI y)), (13, .int (nI sn)), (14, .int (nI ot)), (15, .int (nI v))] → W p l e room_1 s m #[Value.ref b] below meth c H locs cells slots Q (F0 m 217 ls []))
    : W p l e room_1 s m #[Value.ref b] below meth c H locs cells slots Q (F0 m 188 ls []) := by
  obtain ⟨hfl, hx, hb, hml, hown, hts, hK, hD, hN, hT, hZ, hX, hbl, hL⟩ := hX
  have hA : ∀ q : Nat, s.heap.size ≤ q → (fun q : Nat => s.heap.size ≤ q) q := fun _ h => h
  have hbA : ¬ (fun q : Nat => s.heap.size ≤ q) b := Nat.not_le.mpr hbl
  refine lv_iload hx hb dL_law_188 (lv_at hl 9 rfl) ?_
  refine lv_iconst (v := nI 5) hx hb dL_law_190 (by decide) ?_
  refine lv_icmp_ge (tgt := 207) hx hb dL_law_191 (by decide) (fun c_1 => ?_) (fun c_1 => ?_)
  · refine lv_iload hx hb dL_law_207 (lv_at hl 10 rfl) ?_
    refine lv_bipush (v := nI 6) hx hb dL_law_209 (by decide) ?_
    refine lv_ishr hx hb dL_law_211 ?_
    refine x_top (y := nI (y / 64)) (pk_shrN (by omega) _ 6 (by decide)) ?_
    refine lv_bipush (v := nI 10) hx hb dL_law_212 (by decide) ?_
    refine lv_irem hx hb dL_law_214 (by decide) ?_
    refine x_top (y := nI (y / 64 % 10)) (pk_rem (by omega) (by decide) (by decide)) ?_
    refine lv_istore (lv' := [(15, .int (nI (y / 64 % 10))), (0, .ref b), (1, .ref (G 0)), (2, .ref (G 36)), (3, .ref (G 37)), (4, .ref (G 38)), (5, .ref (G 39)), (6, .int (nI 1)), (7, .int td), (8, .int (nI tn)), (9, .int (nI k)), (11, .int (nI y)), (13, .int (nI sn)), (14, .int (nI ot))]) hx hb dL_law_215 hl (by decide) rfl (fun ls hl => ?_)
    exact kk (y / 64 % 10) (by omega) H locs ls hP hS (lv_sub hl [1, 2, 3, 4, 5, 6, 7, 8, 9, 10, 11, 12, 13, 0] rfl)
  · refine lv_iconst (v := nI 4) hx hb dL_law_194 (by decide) ?_
    refine lv_iload hx hb dL_law_195 (lv_at hl 10 rfl) ?_
    refine lv_bipush (v := nI 6) hx hb dL_law_197 (by decide) ?_
    refine lv_ishr hx hb dL_law_199 ?_
    refine x_top (y := nI (y / 64)) (pk_shrN (by omega) _ 6 (by decide)) ?_
    refine lv_bipush (v := nI 6) hx hb dL_law_200 (by decide) ?_
    refine lv_irem hx hb dL_law_202 (by decide) ?_
    refine x_top (y := nI (y / 64 % 6)) (pk_rem (by omega) (by decide) (by decide)) ?_
    refine x_iaddN hx hb dL_law_203 ?_
    refine lv_goto (tgt := 215) hx hb dL_law_204 (by decide) ?_
    refine lv_istore (lv' := [(15, .int (nI (4 + (y / 64 % 6)))), (0, .ref b), (1, .ref (G 0)), (2, .ref (G 36)), (3, .ref (G 37)), (4, .ref (G 38)), (5, .ref (G 39)), (6, .int (nI 1)), (7, .int td), (8, .int (nI tn)), (9, .int (nI k)), (11, .int (nI y)), (13, .int (nI sn)), (14, .int (nI ot))]) hx hb dL_law_215 hl (by decide) rfl (fun ls hl => ?_)
    exact kk (4 + (y / 64 % 6)) (by omega) H locs ls hP hS (lv_sub hl [1, 2, 3, 4, 5, 6, 7, 8, 9, 10, 11, 12, 13, 0] rfl)
set_option maxHeartbeats 1000000 in
set_option maxRecDepth 100000 in
theorem lg_A2 {S T S1 S2 : Mem} {td r1 : Int32} {tn k y sn ot v : Nat} (hX : LX p l s m c b L xs D cI cS G) (hcl : cells + 1 ≤ 600130) (hsl : slots + 6 ≤ 7301080) (hv : v ≤ 9) (hsn : sn < 6) (hot : ot < 6) (hne : sn ≠ ot) (hs1 : f_X5_setStrength S sn ot (nI v) = (r1, S1)) (hs2 : f_X5_setStrength S1 ot sn (nI v) = (nI v, S2)) (h1 : T 0 (6 * sn + ot) = r1) (hP : va_P D vwCl (WL 40 G (lF cI cS G) (cmb S T)) H) (hS : va_S (fun q : Nat => s.heap.size ≤ q) s.heap H locs) (hl : lv_has ls 17 [(0, .ref b), (1, .ref (G 0)), (2, .ref (G 36)), (3, .ref (G 37)), (4, .ref (G 38)), (5, .ref (G 39)), (6, .int (nI 1)), (7, .int td), (8, .int (nI tn)), (9, .int (nI k)), (11, .int (nI y)), (13, .int (nI sn)), (14, .int (nI ot)), (15, .int (nI v))])
    (kk : ∀ (H : Heap) (locs : List Loc) (ls : Array Slot), va_P D vwCl (WL 40 G (lF cI cS G) (cmb S2 (ub (ub T 0 ((6 * sn) + ot) (nI v)) 0 ((6 * ot) + sn) (nI v)))) H → va_S (fun q : Nat => s.heap.size ≤ q) s.heap H locs → lv_has ls 17 [(0, .ref b), (1, .ref (G 0)), (2, .ref (G 36)), (3, .ref (G 37)), (4, .ref (G 38)), (5, .ref (G 39)), (6, .int (nI 1)), (7, .int td), (8, .int (nI tn)), (9, .int (nI k))] → W p l e room_1 s m #[Value.ref b] below meth c H locs cells slots Q (F0 m 608 ls []))
    : W p l e room_1 s m #[Value.ref b] below meth c H locs cells slots Q (F0 m 217 ls []) := by
  obtain ⟨hfl, hx, hb, hml, hown, hts, hK, hD, hN, hT, hZ, hX, hbl, hL⟩ := hX
  have hA : ∀ q : Nat, s.heap.size ≤ q → (fun q : Nat => s.heap.size ≤ q) q := fun _ h => h
  have hbA : ¬ (fun q : Nat => s.heap.size ≤ q) b := Nat.not_le.mpr hbl
  refine lv_aload_n hx hb dL_law_217 rfl (lv_at hl 1 rfl) ?_
  refine lv_iload hx hb dL_law_218 (lv_at hl 11 rfl) ?_
  refine lv_iload hx hb dL_law_220 (lv_at hl 12 rfl) ?_
  refine lv_iload hx hb dL_law_222 (lv_at hl 13 rfl) ?_
  refine x_miL (hs1) (va_runV (As := [.int (nI sn), .int (nI ot), .int (nI v)]) (rest := []) ⟨hx, hb, hml, hown, hts⟩ (c_X5_setStrength l D cI cS G S H.size sn ot (nI v) hsn hot (nI_pos (by omega)) (nI_le hv (by omega)) (fun h => hne (nI_inj (by omega) (by omega) h))) (cwV 3 hts gL_law_X5_setStrength rfl rfl rfl (by decide +kernel) ⟨Nat.le_of_ble_eq_true rfl, Nat.le_of_ble_eq_true rfl⟩) ⟨wPc_blind, va_recv hK (L_P hP) (ci := 5) (q0 := 0) rfl (WL_at (by decide) (cF_air _)), wPc_at (L_P hP) hK (L_D hD) hN⟩ rfl rfl hl.1 rfl (lv_room (Nat.le_of_ble_eq_true rfl)) dL_law_224 ⟨by show cells + 0 ≤ 600130; omega, by show slots + 0 ≤ 7301080; omega⟩) hP hD hS hA (fun H locs hP hS => ?_)
  refine lv_aload_n hx hb dL_law_227 rfl (lv_at hl 2 rfl) ?_
  refine lv_bipush (v := nI 6) hx hb dL_law_228 (by decide) ?_
  refine lv_iload hx hb dL_law_230 (lv_at hl 11 rfl) ?_
  refine x_imulN hx hb dL_law_232 ?_
  refine lv_iload hx hb dL_law_233 (lv_at hl 12 rfl) ?_
  refine x_iaddN hx hb dL_law_235 ?_
  refine x_aldL hx hb hK hP 36 0 rfl (by decide) lF_36 ((6 * sn) + ot) (by omega) (by decide) dL_law_236 ?_
  refine x_top (y := r1) (h1) ?_
  refine lv_icmp_ne (tgt := 259) hx hb dL_law_237 (by decide) (fun c_1 => absurd rfl c_1) (fun _ => ?_)
  refine lv_aload_n hx hb dL_law_240 rfl (lv_at hl 1 rfl) ?_
  refine lv_iload hx hb dL_law_241 (lv_at hl 12 rfl) ?_
  refine lv_iload hx hb dL_law_243 (lv_at hl 11 rfl) ?_
  refine lv_iload hx hb dL_law_245 (lv_at hl 13 rfl) ?_
  refine x_miL (hs2) (va_runV (As := [.int (nI ot), .int (nI sn), .int (nI v)]) (rest := []) ⟨hx, hb, hml, hown, hts⟩ (c_X5_setStrength l D cI cS G S1 H.size ot sn (nI v) hot hsn (nI_pos (by omega)) (nI_le hv (by omega)) (fun h => hne (nI_inj (by omega) (by omega) h.symm))) (cwV 3 hts gL_law_X5_setStrength rfl rfl rfl (by decide +kernel) ⟨Nat.le_of_ble_eq_true rfl, Nat.le_of_ble_eq_true rfl⟩) ⟨wPc_blind, va_recv hK (L_P hP) (ci := 5) (q0 := 0) rfl (WL_at (by decide) (cF_air _)), wPc_at (L_P hP) hK (L_D hD) hN⟩ rfl rfl hl.1 rfl (lv_room (Nat.le_of_ble_eq_true rfl)) dL_law_247 ⟨by show cells + 0 ≤ 600130; omega, by show slots + 0 ≤ 7301080; omega⟩) hP hD hS hA (fun H locs hP hS => ?_)
  refine lv_iload hx hb dL_law_250 (lv_at hl 13 rfl) ?_
  refine lv_icmp_ne (tgt := 259) hx hb dL_law_252 (by decide) (fun c_2 => absurd rfl c_2) (fun _ => ?_)
  refine lv_iconst (v := nI 1) hx hb dL_law_255 (by decide) ?_
  refine lv_goto (tgt := 260) hx hb dL_law_256 (by decide) ?_
  refine lv_istore (lv' := [(6, .int (nI 1)), (0, .ref b), (1, .ref (G 0)), (2, .ref (G 36)), (3, .ref (G 37)), (4, .ref (G 38)), (5, .ref (G 39)), (7, .int td), (8, .int (nI tn)), (9, .int (nI k)), (11, .int (nI y)), (13, .int (nI sn)), (14, .int (nI ot)), (15, .int (nI v))]) hx hb dL_law_260 hl (by decide) rfl (fun ls hl => ?_)
  refine lv_aload_n hx hb dL_law_262 rfl (lv_at hl 3 rfl) ?_
  refine lv_bipush (v := nI 6) hx hb dL_law_263 (by decide) ?_
  refine lv_iload hx hb dL_law_265 (lv_at hl 11 rfl) ?_
  refine x_imulN hx hb dL_law_267 ?_
  refine lv_iload hx hb dL_law_268 (lv_at hl 12 rfl) ?_
  refine x_iaddN hx hb dL_law_270 ?_
  refine lv_iload hx hb dL_law_271 (lv_at hl 13 rfl) ?_
  refine x_astL hx hb hK hP hD hS 36 0 rfl (by decide) lF_36 ((6 * sn) + ot) (by omega) (by decide) dL_law_273 (fun H locs hP hS => ?_)
  refine lv_aload_n hx hb dL_law_274 rfl (lv_at hl 3 rfl) ?_
  refine lv_bipush (v := nI 6) hx hb dL_law_275 (by decide) ?_
  refine lv_iload hx hb dL_law_277 (lv_at hl 12 rfl) ?_
  refine x_imulN hx hb dL_law_279 ?_
  refine lv_iload hx hb dL_law_280 (lv_at hl 11 rfl) ?_
  refine x_iaddN hx hb dL_law_282 ?_
  refine lv_iload hx hb dL_law_283 (lv_at hl 13 rfl) ?_
  refine x_astL hx hb hK hP hD hS 36 0 rfl (by decide) lF_36 ((6 * ot) + sn) (by omega) (by decide) dL_law_285 (fun H locs hP hS => ?_)
  refine lv_goto (tgt := 608) hx hb dL_law_286 (by decide) ?_
  exact kk H locs ls hP hS (lv_sub hl [1, 2, 3, 4, 5, 6, 0, 7, 8, 9] rfl)
set_option maxHeartbeats 1000000 in
set_option maxRecDepth 100000 in
theorem lg_B {S T S1 S2 : Mem} {td : Int32} {tn k y sn ot rv r0 : Nat} (hX : LX p l s m c b L xs D cI cS G) (hcl : cells + 1 ≤ 600130) (hsl : slots + 6 ≤ 7301080) (hy28 : y < 268435456) (hrv : 1 + y / 8 % 5 = rv) (hr0 : 0 < r0) (hr6 : r0 < 6) (hb1 : f_X5_setReserve S (nI rv) = (nI r0, S1)) (hb2 : f_X5_setReserve S1 (nI rv) = (nI rv, S2)) (hP : va_P D vwCl (WL 40 G (lF cI cS G) (cmb S T)) H) (hS : va_S (fun q : Nat => s.heap.size ≤ q) s.heap H locs) (hl : lv_has ls 17 [(0, .ref b), (1, .ref (G 0)), (2, .ref (G 36)), (3, .ref (G 37)), (4, .ref (G 38)), (5, .ref (G 39)), (6, .int (nI 1)), (7, .int td), (8, .int (nI tn)), (9, .int (nI k)), (11, .int (nI y)), (13, .int (nI sn)), (14, .int (nI ot))])
    (kk : ∀ (H : Heap) (locs : List Loc) (ls : Array Slot), va_P D vwCl (WL 40 G (lF cI cS G) (cmb S2 T)) H → va_S (fun q : Nat => s.heap.size ≤ q) s.heap H locs → lv_has ls 17 [(0, .ref b), (1, .ref (G 0)), (2, .ref (G 36)), (3, .ref (G 37)), (4, .ref (G 38)), (5, .ref (G 39)), (6, .int (nI 1)), (7, .int td), (8, .int (nI tn)), (9, .int (nI k))] → W p l e room_1 s m #[Value.ref b] below meth c H locs cells slots Q (F0 m 608 ls []))
    : W p l e room_1 s m #[Value.ref b] below meth c H locs cells slots Q (F0 m 295 ls []) := by
  obtain ⟨hfl, hx, hb, hml, hown, hts, hK, hD, hN, hT, hZ, hX, hbl, hL⟩ := hX
  have hA : ∀ q : Nat, s.heap.size ≤ q → (fun q : Nat => s.heap.size ≤ q) q := fun _ h => h
  have hbA : ¬ (fun q : Nat => s.heap.size ≤ q) b := Nat.not_le.mpr hbl
  refine lv_aload_n hx hb dL_law_295 rfl (lv_at hl 1 rfl) ?_
  refine lv_iconst (v := nI 1) hx hb dL_law_296 (by decide) ?_
  refine lv_iload hx hb dL_law_297 (lv_at hl 10 rfl) ?_
  refine lv_iconst (v := nI 3) hx hb dL_law_299 (by decide) ?_
  refine lv_ishr hx hb dL_law_300 ?_
  refine x_top (y := nI (y / 8)) (pk_shrN (by omega) _ 3 (by decide)) ?_
  refine lv_iconst (v := nI 5) hx hb dL_law_301 (by decide) ?_
  refine lv_irem hx hb dL_law_302 (by decide) ?_
  refine x_top (y := nI (y / 8 % 5)) (pk_rem (by omega) (by decide) (by decide)) ?_
  refine x_iaddN hx hb dL_law_303 ?_
  refine x_top (y := nI rv) (congrArg nI hrv) ?_
  refine x_miL (hb1) (va_runV (As := [.int (nI rv)]) (rest := []) ⟨hx, hb, hml, hown, hts⟩ (c_X5_setReserve l D cI cS G S H.size (nI rv) (nI_nlt (by omega) (by omega)) (nI_le (by omega) (by omega))) (cwV 1 hts gL_law_X5_setReserve rfl rfl rfl (by decide +kernel) ⟨Nat.le_of_ble_eq_true rfl, Nat.le_of_ble_eq_true rfl⟩) ⟨wPc_blind, va_recv hK (L_P hP) (ci := 5) (q0 := 0) rfl (WL_at (by decide) (cF_air _)), wPc_at (L_P hP) hK (L_D hD) hN⟩ rfl rfl hl.1 rfl (lv_room (Nat.le_of_ble_eq_true rfl)) dL_law_304 ⟨by show cells + 0 ≤ 600130; omega, by show slots + 0 ≤ 7301080; omega⟩) hP hD hS hA (fun H locs hP hS => ?_)
  refine lv_if_le (tgt := 337) hx hb dL_law_307 (by decide) (fun c_1 => absurd c_1 (nI_nle hr0 (by omega))) (fun _ => ?_)
  refine lv_aload_n hx hb dL_law_310 rfl (lv_at hl 1 rfl) ?_
  refine lv_iconst (v := nI 1) hx hb dL_law_311 (by decide) ?_
  refine lv_iload hx hb dL_law_312 (lv_at hl 10 rfl) ?_
  refine lv_iconst (v := nI 3) hx hb dL_law_314 (by decide) ?_
  refine lv_ishr hx hb dL_law_315 ?_
  refine x_top (y := nI (y / 8)) (pk_shrN (by omega) _ 3 (by decide)) ?_
  refine lv_iconst (v := nI 5) hx hb dL_law_316 (by decide) ?_
  refine lv_irem hx hb dL_law_317 (by decide) ?_
  refine x_top (y := nI (y / 8 % 5)) (pk_rem (by omega) (by decide) (by decide)) ?_
  refine x_iaddN hx hb dL_law_318 ?_
  refine x_top (y := nI rv) (congrArg nI hrv) ?_
  refine x_miL (hb2) (va_runV (As := [.int (nI rv)]) (rest := []) ⟨hx, hb, hml, hown, hts⟩ (c_X5_setReserve l D cI cS G S1 H.size (nI rv) (nI_nlt (by omega) (by omega)) (nI_le (by omega) (by omega))) (cwV 1 hts gL_law_X5_setReserve rfl rfl rfl (by decide +kernel) ⟨Nat.le_of_ble_eq_true rfl, Nat.le_of_ble_eq_true rfl⟩) ⟨wPc_blind, va_recv hK (L_P hP) (ci := 5) (q0 := 0) rfl (WL_at (by decide) (cF_air _)), wPc_at (L_P hP) hK (L_D hD) hN⟩ rfl rfl hl.1 rfl (lv_room (Nat.le_of_ble_eq_true rfl)) dL_law_319 ⟨by show cells + 0 ≤ 600130; omega, by show slots + 0 ≤ 7301080; omega⟩) hP hD hS hA (fun H locs hP hS => ?_)
  refine lv_iconst (v := nI 1) hx hb dL_law_322 (by decide) ?_
  refine lv_iload hx hb dL_law_323 (lv_at hl 10 rfl) ?_
  refine lv_iconst (v := nI 3) hx hb dL_law_325 (by decide) ?_
  refine lv_ishr hx hb dL_law_326 ?_
  refine x_top (y := nI (y / 8)) (pk_shrN (by omega) _ 3 (by decide)) ?_
  refine lv_iconst (v := nI 5) hx hb dL_law_327 (by decide) ?_
  refine lv_irem hx hb dL_law_328 (by decide) ?_
  refine x_top (y := nI (y / 8 % 5)) (pk_rem (by omega) (by decide) (by decide)) ?_
  refine x_iaddN hx hb dL_law_329 ?_
  refine x_top (y := nI rv) (congrArg nI hrv) ?_
  refine lv_icmp_ne (tgt := 337) hx hb dL_law_330 (by decide) (fun c_2 => absurd rfl c_2) (fun _ => ?_)
  refine lv_iconst (v := nI 1) hx hb dL_law_333 (by decide) ?_
  refine lv_goto (tgt := 338) hx hb dL_law_334 (by decide) ?_
  refine lv_istore (lv' := [(6, .int (nI 1)), (0, .ref b), (1, .ref (G 0)), (2, .ref (G 36)), (3, .ref (G 37)), (4, .ref (G 38)), (5, .ref (G 39)), (7, .int td), (8, .int (nI tn)), (9, .int (nI k)), (11, .int (nI y)), (13, .int (nI sn)), (14, .int (nI ot))]) hx hb dL_law_338 hl (by decide) rfl (fun ls hl => ?_)
  refine lv_goto (tgt := 608) hx hb dL_law_340 (by decide) ?_
  exact kk H locs ls hP hS (lv_sub hl [1, 2, 3, 4, 5, 6, 0, 7, 8, 9] rfl)
set_option maxHeartbeats 1000000 in
set_option maxRecDepth 100000 in
theorem lg_C {S T S1 : Mem} {td r1 : Int32} {tn k y sn ot cn kv : Nat} (hX : LX p l s m c b L xs D cI cS G) (hcl : cells + 1 ≤ 600130) (hsl : slots + 6 ≤ 7301080) (hy28 : y < 268435456) (hcn : y / 8 % 6 = cn) (hc6 : cn < 6) (hkv : y / 4 % 2 = kv) (hc1 : f_X5_setClass S cn (nI kv) = (r1, S1)) (h3 : T 3 cn = r1) (hw : S1 (6 + 5 * cn) 1 = nI (3 + (4 * kv))) (hP : va_P D vwCl (WL 40 G (lF cI cS G) (cmb S T)) H) (hS : va_S (fun q : Nat => s.heap.size ≤ q) s.heap H locs) (hl : lv_has ls 17 [(0, .ref b), (1, .ref (G 0)), (2, .ref (G 36)), (3, .ref (G 37)), (4, .ref (G 38)), (5, .ref (G 39)), (6, .int (nI 1)), (7, .int td), (8, .int (nI tn)), (9, .int (nI k)), (11, .int (nI y)), (13, .int (nI sn)), (14, .int (nI ot))])
    (kk : ∀ (H : Heap) (locs : List Loc) (ls : Array Slot), va_P D vwCl (WL 40 G (lF cI cS G) (cmb S1 (ub T 3 cn (nI kv)))) H → va_S (fun q : Nat => s.heap.size ≤ q) s.heap H locs → lv_has ls 17 [(0, .ref b), (1, .ref (G 0)), (2, .ref (G 36)), (3, .ref (G 37)), (4, .ref (G 38)), (5, .ref (G 39)), (6, .int (nI 1)), (7, .int td), (8, .int (nI tn)), (9, .int (nI k))] → W p l e room_1 s m #[Value.ref b] below meth c H locs cells slots Q (F0 m 608 ls []))
    : W p l e room_1 s m #[Value.ref b] below meth c H locs cells slots Q (F0 m 356 ls []) := by
  obtain ⟨hfl, hx, hb, hml, hown, hts, hK, hD, hN, hT, hZ, hX, hbl, hL⟩ := hX
  have hA : ∀ q : Nat, s.heap.size ≤ q → (fun q : Nat => s.heap.size ≤ q) q := fun _ h => h
  have hbA : ¬ (fun q : Nat => s.heap.size ≤ q) b := Nat.not_le.mpr hbl
  refine lv_iload hx hb dL_law_356 (lv_at hl 10 rfl) ?_
  refine lv_iconst (v := nI 3) hx hb dL_law_358 (by decide) ?_
  refine lv_ishr hx hb dL_law_359 ?_
  refine x_top (y := nI (y / 8)) (pk_shrN (by omega) _ 3 (by decide)) ?_
  refine lv_bipush (v := nI 6) hx hb dL_law_360 (by decide) ?_
  refine lv_irem hx hb dL_law_362 (by decide) ?_
  refine x_top (y := nI cn) ((pk_rem (by omega) (by decide) (by decide)).trans (congrArg nI hcn)) ?_
  refine lv_istore (lv' := [(13, .int (nI cn)), (0, .ref b), (1, .ref (G 0)), (2, .ref (G 36)), (3, .ref (G 37)), (4, .ref (G 38)), (5, .ref (G 39)), (6, .int (nI 1)), (7, .int td), (8, .int (nI tn)), (9, .int (nI k)), (11, .int (nI y)), (14, .int (nI ot))]) hx hb dL_law_363 hl (by decide) rfl (fun ls hl => ?_)
  refine lv_aload_n hx hb dL_law_365 rfl (lv_at hl 2 rfl) ?_
  refine lv_iload hx hb dL_law_366 (lv_at hl 0 rfl) ?_
  refine lv_iload hx hb dL_law_368 (lv_at hl 11 rfl) ?_
  refine lv_iconst (v := nI 2) hx hb dL_law_370 (by decide) ?_
  refine lv_ishr hx hb dL_law_371 ?_
  refine x_top (y := nI (y / 4)) (pk_shrN (by omega) _ 2 (by decide)) ?_
  refine lv_iconst (v := nI 1) hx hb dL_law_372 (by decide) ?_
  refine lv_iand hx hb dL_law_373 ?_
  refine x_top (y := nI kv) ((pk_andN (by omega) 1 (by decide)).trans (congrArg nI hkv)) ?_
  refine x_miL (hc1) (va_runV (As := [.int (nI cn), .int (nI kv)]) (rest := []) ⟨hx, hb, hml, hown, hts⟩ (c_X5_setClass l D cI cS G S H.size cn (nI kv) hc6 (nI_pos (by omega)) (nI_le (by omega) (by omega))) (cwV 2 hts gL_law_X5_setClass rfl rfl rfl (by decide +kernel) ⟨Nat.le_of_ble_eq_true rfl, Nat.le_of_ble_eq_true rfl⟩) ⟨wPc_blind, va_recv hK (L_P hP) (ci := 5) (q0 := 0) rfl (WL_at (by decide) (cF_air _)), wPc_at (L_P hP) hK (L_D hD) hN⟩ rfl rfl hl.1 rfl (lv_room (Nat.le_of_ble_eq_true rfl)) dL_law_374 ⟨by show cells + 0 ≤ 600130; omega, by show slots + 0 ≤ 7301080; omega⟩) hP hD hS hA (fun H locs hP hS => ?_)
  refine lv_aload hx hb dL_law_377 (lv_at hl 6 rfl) ?_
  refine lv_iload hx hb dL_law_379 (lv_at hl 0 rfl) ?_
  refine x_aldL hx hb hK hP 39 3 rfl (by decide) lF_39 cn (by omega) (by decide) dL_law_381 ?_
  refine x_top (y := r1) (h3) ?_
  refine lv_icmp_ne (tgt := 408) hx hb dL_law_382 (by decide) (fun c_1 => absurd rfl c_1) (fun _ => ?_)
  refine lv_aload_n hx hb dL_law_385 rfl (lv_at hl 2 rfl) ?_
  refine lv_iload hx hb dL_law_386 (lv_at hl 0 rfl) ?_
  refine x_pi (va_runV (As := [.int (nI cn)]) (rest := []) ⟨hx, hb, hml, hown, hts⟩ (c_X5_window l D cI cS G S1 H.size cn (by omega)) (cwV 1 hts gL_law_X5_window rfl rfl rfl (by decide +kernel) ⟨Nat.le_of_ble_eq_true rfl, Nat.le_of_ble_eq_true rfl⟩) ⟨wPc_blind, va_recv hK (L_P hP) (ci := 5) (q0 := 0) rfl (WL_at (by decide) (cF_air _)), wPc_at (L_P hP) hK (L_D hD) hN⟩ rfl rfl hl.1 rfl (lv_room (Nat.le_of_ble_eq_true rfl)) dL_law_388 ⟨by show cells + 0 ≤ 600130; omega, by show slots + 0 ≤ 7301080; omega⟩) hS hA (fun q h => h) (fun H locs hz hk hS => ?_)
  have hP := P_kept hP hk
  refine x_top (y := nI (3 + (4 * kv))) ((f_X5_window_d _ _).trans hw) ?_
  refine lv_iconst (v := nI 3) hx hb dL_law_391 (by decide) ?_
  refine lv_iconst (v := nI 4) hx hb dL_law_392 (by decide) ?_
  refine lv_iload hx hb dL_law_393 (lv_at hl 11 rfl) ?_
  refine lv_iconst (v := nI 2) hx hb dL_law_395 (by decide) ?_
  refine lv_ishr hx hb dL_law_396 ?_
  refine x_top (y := nI (y / 4)) (pk_shrN (by omega) _ 2 (by decide)) ?_
  refine lv_iconst (v := nI 1) hx hb dL_law_397 (by decide) ?_
  refine lv_iand hx hb dL_law_398 ?_
  refine x_top (y := nI kv) ((pk_andN (by omega) 1 (by decide)).trans (congrArg nI hkv)) ?_
  refine x_imulN hx hb dL_law_399 ?_
  refine x_iaddN hx hb dL_law_400 ?_
  refine lv_icmp_ne (tgt := 408) hx hb dL_law_401 (by decide) (fun c_2 => absurd rfl c_2) (fun _ => ?_)
  refine lv_iconst (v := nI 1) hx hb dL_law_404 (by decide) ?_
  refine lv_goto (tgt := 409) hx hb dL_law_405 (by decide) ?_
  refine lv_istore (lv' := [(6, .int (nI 1)), (13, .int (nI cn)), (0, .ref b), (1, .ref (G 0)), (2, .ref (G 36)), (3, .ref (G 37)), (4, .ref (G 38)), (5, .ref (G 39)), (7, .int td), (8, .int (nI tn)), (9, .int (nI k)), (11, .int (nI y)), (14, .int (nI ot))]) hx hb dL_law_409 hl (by decide) rfl (fun ls hl => ?_)
  refine lv_aload hx hb dL_law_411 (lv_at hl 7 rfl) ?_
  refine lv_iload hx hb dL_law_413 (lv_at hl 1 rfl) ?_
  refine lv_iload hx hb dL_law_415 (lv_at hl 11 rfl) ?_
  refine lv_iconst (v := nI 2) hx hb dL_law_417 (by decide) ?_
  refine lv_ishr hx hb dL_law_418 ?_
  refine x_top (y := nI (y / 4)) (pk_shrN (by omega) _ 2 (by decide)) ?_
  refine lv_iconst (v := nI 1) hx hb dL_law_419 (by decide) ?_
  refine lv_iand hx hb dL_law_420 ?_
  refine x_top (y := nI kv) ((pk_andN (by omega) 1 (by decide)).trans (congrArg nI hkv)) ?_
  refine x_astL hx hb hK hP hD hS 39 3 rfl (by decide) lF_39 cn (by omega) (by decide) dL_law_421 (fun H locs hP hS => ?_)
  refine lv_goto (tgt := 608) hx hb dL_law_422 (by decide) ?_
  exact kk H locs ls hP hS (lv_sub hl [2, 3, 4, 5, 6, 7, 0, 8, 9, 10] rfl)
set_option maxHeartbeats 1000000 in
set_option maxRecDepth 100000 in
theorem lg_S0 {S T : Mem} {td : Int32} {tn k : Nat} (hX : LX p l s m c b L xs D cI cS G) (hcl : cells + 1 ≤ 600130) (hsl : slots + 6 ≤ 7301080) (hP : va_P D vwCl (WL 40 G (lF cI cS G) (cmb S T)) H) (hS : va_S (fun q : Nat => s.heap.size ≤ q) s.heap H locs) (hl : lv_has ls 17 [(0, .ref b), (1, .ref (G 0)), (2, .ref (G 36)), (3, .ref (G 37)), (4, .ref (G 38)), (5, .ref (G 39)), (6, .int (nI 1)), (7, .int td), (8, .int (nI tn)), (9, .int (nI k))])
    (kk : ∀ (H : Heap) (locs : List Loc) (ls : Array Slot), va_P D vwCl (WL 40 G (lF cI cS G) (cmb S T)) H → va_S (fun q : Nat => s.heap.size ≤ q) s.heap H locs → lv_has ls 17 [(0, .ref b), (1, .ref (G 0)), (2, .ref (G 36)), (3, .ref (G 37)), (4, .ref (G 38)), (5, .ref (G 39)), (6, .int (nI 1)), (7, .int td), (8, .int (nI tn)), (9, .int (nI k)), (15, .int (nI 0))] → W p l e room_1 s m #[Value.ref b] below meth c H locs cells slots Q (F0 m 611 ls []))
    : W p l e room_1 s m #[Value.ref b] below meth c H locs cells slots Q (F0 m 608 ls []) := by
  obtain ⟨hfl, hx, hb, hml, hown, hts, hK, hD, hN, hT, hZ, hX, hbl, hL⟩ := hX
  have hA : ∀ q : Nat, s.heap.size ≤ q → (fun q : Nat => s.heap.size ≤ q) q := fun _ h => h
  have hbA : ¬ (fun q : Nat => s.heap.size ≤ q) b := Nat.not_le.mpr hbl
  refine lv_iconst (v := nI 0) hx hb dL_law_608 (by decide) ?_
  refine lv_istore (lv' := [(15, .int (nI 0)), (0, .ref b), (1, .ref (G 0)), (2, .ref (G 36)), (3, .ref (G 37)), (4, .ref (G 38)), (5, .ref (G 39)), (6, .int (nI 1)), (7, .int td), (8, .int (nI tn)), (9, .int (nI k))]) hx hb dL_law_609 hl (by decide) rfl (fun ls hl => ?_)
  exact kk H locs ls hP hS (lv_sub hl [1, 2, 3, 4, 5, 6, 7, 8, 9, 10, 0] rfl)
set_option maxHeartbeats 1000000 in
set_option maxRecDepth 100000 in
theorem lg_S1 {S T : Mem} {td : Int32} {tn k j t : Nat} (hX : LX p l s m c b L xs D cI cS G) (hcl : cells + 1 ≤ 600130) (hsl : slots + 6 ≤ 7301080) (hj : j < 6) (hI : I0 t S) (hP : va_P D vwCl (WL 40 G (lF cI cS G) (cmb S T)) H) (hS : va_S (fun q : Nat => s.heap.size ≤ q) s.heap H locs) (hl : lv_has ls 17 [(0, .ref b), (1, .ref (G 0)), (2, .ref (G 36)), (3, .ref (G 37)), (4, .ref (G 38)), (5, .ref (G 39)), (6, .int (nI 1)), (7, .int td), (8, .int (nI tn)), (9, .int (nI k)), (15, .int (nI j))])
    (kk : ∀ (H : Heap) (locs : List Loc) (ls : Array Slot), va_P D vwCl (WL 40 G (lF cI cS G) (cmb S T)) H → va_S (fun q : Nat => s.heap.size ≤ q) s.heap H locs → lv_has ls 17 [(0, .ref b), (1, .ref (G 0)), (2, .ref (G 36)), (3, .ref (G 37)), (4, .ref (G 38)), (5, .ref (G 39)), (6, .int (nI 1)), (7, .int td), (8, .int (nI tn)), (9, .int (nI k)), (15, .int (nI (j + 1)))] → W p l e room_1 s m #[Value.ref b] below meth c H locs cells slots Q (F0 m 611 ls []))
    : W p l e room_1 s m #[Value.ref b] below meth c H locs cells slots Q (F0 m 611 ls []) := by
  obtain ⟨hfl, hx, hb, hml, hown, hts, hK, hD, hN, hT, hZ, hX, hbl, hL⟩ := hX
  have hA : ∀ q : Nat, s.heap.size ≤ q → (fun q : Nat => s.heap.size ≤ q) q := fun _ h => h
  have hbA : ¬ (fun q : Nat => s.heap.size ≤ q) b := Nat.not_le.mpr hbl
  refine lv_iload hx hb dL_law_611 (lv_at hl 10 rfl) ?_
  refine lv_bipush (v := nI 6) hx hb dL_law_613 (by decide) ?_
  refine lv_icmp_ge (tgt := 642) hx hb dL_law_615 (by decide) (fun c_1 => absurd c_1 (nI_ge hj (by omega))) (fun _ => ?_)
  refine lv_iload hx hb dL_law_618 (lv_at hl 6 rfl) ?_
  refine lv_if_eq (tgt := 642) hx hb dL_law_620 (by decide) (fun c_2 => absurd c_2 (by decide)) (fun _ => ?_)
  refine lv_aload_n hx hb dL_law_623 rfl (lv_at hl 1 rfl) ?_
  refine lv_iload hx hb dL_law_624 (lv_at hl 10 rfl) ?_
  refine lv_aload hx hb dL_law_626 (lv_at hl 5 rfl) ?_
  refine lv_iload hx hb dL_law_628 (lv_at hl 10 rfl) ?_
  refine x_aldL hx hb hK hP 39 3 rfl (by decide) lF_39 j (by omega) (by decide) dL_law_630 ?_
  refine x_pi (va_runS (As := [.ref (G 0), .int (nI j), .int (T 3 j)]) (rest := []) ⟨hx, hb, hml, hown, hts⟩ (c_isSt l D cI cS G S H.size j _ (T 3 j) hI hj) (va_cwS 3 hts gL_law_L_isStation rfl rfl rfl (by decide +kernel) ⟨Nat.le_of_ble_eq_true rfl, Nat.le_of_ble_eq_true rfl⟩) ⟨wPc_blind, wPc_at (L_P hP) hK (L_D hD) hN⟩ rfl rfl hl.1 rfl (lv_room (Nat.le_of_ble_eq_true rfl)) dL_law_631 ⟨by show cells + 0 ≤ 600130; omega, by show slots + 0 ≤ 7301080; omega⟩) hS hA (fun q h => h) (fun H locs hz hk hS => ?_)
  have hP := P_kept hP hk
  refine lv_istore (lv' := [(6, .int (nI 1)), (0, .ref b), (1, .ref (G 0)), (2, .ref (G 36)), (3, .ref (G 37)), (4, .ref (G 38)), (5, .ref (G 39)), (7, .int td), (8, .int (nI tn)), (9, .int (nI k)), (15, .int (nI j))]) hx hb dL_law_634 hl (by decide) rfl (fun ls hl => ?_)
  refine lv_iinc (v := nI (j + 1)) (lv' := [(15, .int (nI (j + 1))), (6, .int (nI 1)), (0, .ref b), (1, .ref (G 0)), (2, .ref (G 36)), (3, .ref (G 37)), (4, .ref (G 38)), (5, .ref (G 39)), (7, .int td), (8, .int (nI tn)), (9, .int (nI k))]) hx hb dL_law_636 hl (k := 10) rfl (nI_add _ _) (by decide) rfl (fun ls hl => ?_)
  refine lv_goto (tgt := 611) hx hb dL_law_639 (by decide) ?_
  exact kk H locs ls hP hS (lv_sub hl [2, 3, 4, 5, 6, 7, 1, 8, 9, 10, 0] rfl)
set_option maxHeartbeats 1000000 in
set_option maxRecDepth 100000 in
theorem lg_S2 {S T : Mem} {td : Int32} {tn k : Nat} (hX : LX p l s m c b L xs D cI cS G) (hcl : cells + 1 ≤ 600130) (hsl : slots + 6 ≤ 7301080) (hP : va_P D vwCl (WL 40 G (lF cI cS G) (cmb S T)) H) (hS : va_S (fun q : Nat => s.heap.size ≤ q) s.heap H locs) (hl : lv_has ls 17 [(0, .ref b), (1, .ref (G 0)), (2, .ref (G 36)), (3, .ref (G 37)), (4, .ref (G 38)), (5, .ref (G 39)), (6, .int (nI 1)), (7, .int td), (8, .int (nI tn)), (9, .int (nI k)), (15, .int (nI 6))])
    (kk : ∀ (H : Heap) (locs : List Loc) (ls : Array Slot), va_P D vwCl (WL 40 G (lF cI cS G) (cmb S T)) H → va_S (fun q : Nat => s.heap.size ≤ q) s.heap H locs → lv_has ls 17 [(0, .ref b), (1, .ref (G 0)), (2, .ref (G 36)), (3, .ref (G 37)), (4, .ref (G 38)), (5, .ref (G 39)), (6, .int (nI 1)), (7, .int td), (8, .int (nI tn)), (9, .int (nI (k + 1)))] → W p l e room_1 s m #[Value.ref b] below meth c H locs cells slots Q (F0 m 76 ls []))
    : W p l e room_1 s m #[Value.ref b] below meth c H locs cells slots Q (F0 m 611 ls []) := by
  obtain ⟨hfl, hx, hb, hml, hown, hts, hK, hD, hN, hT, hZ, hX, hbl, hL⟩ := hX
  have hA : ∀ q : Nat, s.heap.size ≤ q → (fun q : Nat => s.heap.size ≤ q) q := fun _ h => h
  have hbA : ¬ (fun q : Nat => s.heap.size ≤ q) b := Nat.not_le.mpr hbl
  refine lv_iload hx hb dL_law_611 (lv_at hl 10 rfl) ?_
  refine lv_bipush (v := nI 6) hx hb dL_law_613 (by decide) ?_
  refine lv_icmp_ge (tgt := 642) hx hb dL_law_615 (by decide) (fun _ => ?_) (fun c_1 => absurd (by decide) c_1) 
  refine lv_iinc (v := nI (k + 1)) (lv' := [(9, .int (nI (k + 1))), (0, .ref b), (1, .ref (G 0)), (2, .ref (G 36)), (3, .ref (G 37)), (4, .ref (G 38)), (5, .ref (G 39)), (6, .int (nI 1)), (7, .int td), (8, .int (nI tn)), (15, .int (nI 6))]) hx hb dL_law_642 hl (k := 9) rfl (nI_add _ _) (by decide) rfl (fun ls hl => ?_)
  refine lv_goto (tgt := 76) hx hb dL_law_645 (by decide) ?_
  exact kk H locs ls hP hS (lv_sub hl [1, 2, 3, 4, 5, 6, 7, 8, 9, 0] rfl)
set_option maxHeartbeats 1000000 in
set_option maxRecDepth 100000 in
theorem lg_F0 {S T : Mem} {td : Int32} {tn k y sn ot kv : Nat} (hX : LX p l s m c b L xs D cI cS G) (hcl : cells + 1 ≤ 600130) (hsl : slots + 6 ≤ 7301080) (hy28 : y < 268435456) (hkv : 1 + y / 4 % 4 = kv) (hP : va_P D vwCl (WL 40 G (lF cI cS G) (cmb S T)) H) (hS : va_S (fun q : Nat => s.heap.size ≤ q) s.heap H locs) (hl : lv_has ls 17 [(0, .ref b), (1, .ref (G 0)), (2, .ref (G 36)), (3, .ref (G 37)), (4, .ref (G 38)), (5, .ref (G 39)), (6, .int (nI 1)), (7, .int td), (8, .int (nI tn)), (9, .int (nI k)), (11, .int (nI y)), (13, .int (nI sn)), (14, .int (nI ot))])
    (kk : ∀ (H : Heap) (locs : List Loc) (ls : Array Slot), va_P D vwCl (WL 40 G (lF cI cS G) (cmb S T)) H → va_S (fun q : Nat => s.heap.size ≤ q) s.heap H locs → lv_has ls 17 [(0, .ref b), (1, .ref (G 0)), (2, .ref (G 36)), (3, .ref (G 37)), (4, .ref (G 38)), (5, .ref (G 39)), (6, .int (nI 1)), (7, .int td), (8, .int (nI tn)), (9, .int (nI k)), (15, .int (nI kv)), (16, .int (nI 0))] → W p l e room_1 s m #[Value.ref b] below meth c H locs cells slots Q (F0 m 580 ls []))
    : W p l e room_1 s m #[Value.ref b] below meth c H locs cells slots Q (F0 m 567 ls []) := by
  obtain ⟨hfl, hx, hb, hml, hown, hts, hK, hD, hN, hT, hZ, hX, hbl, hL⟩ := hX
  have hA : ∀ q : Nat, s.heap.size ≤ q → (fun q : Nat => s.heap.size ≤ q) q := fun _ h => h
  have hbA : ¬ (fun q : Nat => s.heap.size ≤ q) b := Nat.not_le.mpr hbl
  refine lv_iconst (v := nI 1) hx hb dL_law_567 (by decide) ?_
  refine lv_iload hx hb dL_law_568 (lv_at hl 10 rfl) ?_
  refine lv_iconst (v := nI 2) hx hb dL_law_570 (by decide) ?_
  refine lv_ishr hx hb dL_law_571 ?_
  refine x_top (y := nI (y / 4)) (pk_shrN (by omega) _ 2 (by decide)) ?_
  refine lv_iconst (v := nI 4) hx hb dL_law_572 (by decide) ?_
  refine lv_irem hx hb dL_law_573 (by decide) ?_
  refine x_top (y := nI (y / 4 % 4)) (pk_rem (by omega) (by decide) (by decide)) ?_
  refine x_iaddN hx hb dL_law_574 ?_
  refine x_top (y := nI kv) (congrArg nI hkv) ?_
  refine lv_istore (lv' := [(15, .int (nI kv)), (0, .ref b), (1, .ref (G 0)), (2, .ref (G 36)), (3, .ref (G 37)), (4, .ref (G 38)), (5, .ref (G 39)), (6, .int (nI 1)), (7, .int td), (8, .int (nI tn)), (9, .int (nI k)), (11, .int (nI y)), (13, .int (nI sn)), (14, .int (nI ot))]) hx hb dL_law_575 hl (by decide) rfl (fun ls hl => ?_)
  refine lv_iconst (v := nI 0) hx hb dL_law_577 (by decide) ?_
  refine lv_istore (lv' := [(16, .int (nI 0)), (15, .int (nI kv)), (0, .ref b), (1, .ref (G 0)), (2, .ref (G 36)), (3, .ref (G 37)), (4, .ref (G 38)), (5, .ref (G 39)), (6, .int (nI 1)), (7, .int td), (8, .int (nI tn)), (9, .int (nI k)), (11, .int (nI y)), (13, .int (nI sn)), (14, .int (nI ot))]) hx hb dL_law_578 hl (by decide) rfl (fun ls hl => ?_)
  exact kk H locs ls hP hS (lv_sub hl [2, 3, 4, 5, 6, 7, 8, 9, 10, 11, 1, 0] rfl)
set_option maxHeartbeats 1000000 in
set_option maxRecDepth 100000 in
theorem lg_F2 {S T : Mem} {td : Int32} {tn k kv : Nat} (hX : LX p l s m c b L xs D cI cS G) (hcl : cells + 1 ≤ 600130) (hsl : slots + 6 ≤ 7301080) (hk4 : kv < 1000) (hP : va_P D vwCl (WL 40 G (lF cI cS G) (cmb S T)) H) (hS : va_S (fun q : Nat => s.heap.size ≤ q) s.heap H locs) (hl : lv_has ls 17 [(0, .ref b), (1, .ref (G 0)), (2, .ref (G 36)), (3, .ref (G 37)), (4, .ref (G 38)), (5, .ref (G 39)), (6, .int (nI 1)), (7, .int td), (8, .int (nI tn)), (9, .int (nI k)), (15, .int (nI kv)), (16, .int (nI kv))])
    (kk : ∀ (H : Heap) (locs : List Loc) (ls : Array Slot), va_P D vwCl (WL 40 G (lF cI cS G) (cmb S T)) H → va_S (fun q : Nat => s.heap.size ≤ q) s.heap H locs → lv_has ls 17 [(0, .ref b), (1, .ref (G 0)), (2, .ref (G 36)), (3, .ref (G 37)), (4, .ref (G 38)), (5, .ref (G 39)), (6, .int (nI 1)), (7, .int td), (8, .int (nI tn)), (9, .int (nI k))] → W p l e room_1 s m #[Value.ref b] below meth c H locs cells slots Q (F0 m 608 ls []))
    : W p l e room_1 s m #[Value.ref b] below meth c H locs cells slots Q (F0 m 580 ls []) := by
  obtain ⟨hfl, hx, hb, hml, hown, hts, hK, hD, hN, hT, hZ, hX, hbl, hL⟩ := hX
  have hA : ∀ q : Nat, s.heap.size ≤ q → (fun q : Nat => s.heap.size ≤ q) q := fun _ h => h
  have hbA : ¬ (fun q : Nat => s.heap.size ≤ q) b := Nat.not_le.mpr hbl
  refine lv_iload hx hb dL_law_580 (lv_at hl 11 rfl) ?_
  refine lv_iload hx hb dL_law_582 (lv_at hl 10 rfl) ?_
  refine lv_icmp_ge (tgt := 608) hx hb dL_law_584 (by decide) (fun _ => ?_) (fun c_1 => absurd (Int32.le_refl _) c_1) 
  exact kk H locs ls hP hS (lv_sub hl [0, 1, 2, 3, 4, 5, 6, 7, 8, 9] rfl)
end LSG
