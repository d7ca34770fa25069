section
-- ===== PART A: goes FIRST, ahead of the names: the tables' words, and 'selects' of the private methods out of them =====
/-- a private method of a class that the tables say can be made, by its rows of tables_1 -/
def lw_okq (q : MethodName × Nat) : Prop := (q.1.cls ≠ "java/lang/invoke/MethodHandle" ∧ q.1.cls ≠ "java/lang/invoke/VarHandle") ∧ Cond.instantiable q.1.cls q.2 ∈ tables_1 ∧ Cond.privateMethod q.1 ∈ tables_1 ∧ Cond.instanceMethod q.1 ∈ tables_1
theorem lw_p0 : lw_okq (⟨"BackofficeAir", "stationAt", "(I)LBackofficeAir$Station;"⟩, 5) := ⟨⟨by decide +kernel, by decide +kernel⟩, List.mem_of_getElem? (i := 16) (by decide +kernel), List.mem_of_getElem? (i := 177) (by decide +kernel), List.mem_of_getElem? (i := 178) (by decide +kernel)⟩
theorem lw_p1 : lw_okq (⟨"java/lang/Throwable", "fillInStackTrace", "(I)Ljava/lang/Throwable;"⟩, 6) := ⟨⟨by decide +kernel, by decide +kernel⟩, List.mem_of_getElem? (i := 219) (by decide +kernel), List.mem_of_getElem? (i := 217) (by decide +kernel), List.mem_of_getElem? (i := 218) (by decide +kernel)⟩
theorem lw_p2 : lw_okq (⟨"BackofficeAir", "passOneSlot", "()I"⟩, 5) := ⟨⟨by decide +kernel, by decide +kernel⟩, List.mem_of_getElem? (i := 16) (by decide +kernel), List.mem_of_getElem? (i := 406) (by decide +kernel), List.mem_of_getElem? (i := 407) (by decide +kernel)⟩
theorem lw_p3 : lw_okq (⟨"BackofficeAir", "waitOrBegin", "(I)V"⟩, 5) := ⟨⟨by decide +kernel, by decide +kernel⟩, List.mem_of_getElem? (i := 16) (by decide +kernel), List.mem_of_getElem? (i := 410) (by decide +kernel), List.mem_of_getElem? (i := 411) (by decide +kernel)⟩
theorem lw_p4 : lw_okq (⟨"BackofficeAir", "heardInSlotBefore", "(I)Z"⟩, 5) := ⟨⟨by decide +kernel, by decide +kernel⟩, List.mem_of_getElem? (i := 16) (by decide +kernel), List.mem_of_getElem? (i := 421) (by decide +kernel), List.mem_of_getElem? (i := 422) (by decide +kernel)⟩
theorem lw_p5 : lw_okq (⟨"BackofficeAir$Sending", "firstSlotOfParts", "()I"⟩, 7) := ⟨⟨by decide +kernel, by decide +kernel⟩, List.mem_of_getElem? (i := 76) (by decide +kernel), List.mem_of_getElem? (i := 440) (by decide +kernel), List.mem_of_getElem? (i := 441) (by decide +kernel)⟩
theorem lw_p6 : lw_okq (⟨"BackofficeAir", "sendInSlot", "(I)V"⟩, 5) := ⟨⟨by decide +kernel, by decide +kernel⟩, List.mem_of_getElem? (i := 16) (by decide +kernel), List.mem_of_getElem? (i := 445) (by decide +kernel), List.mem_of_getElem? (i := 446) (by decide +kernel)⟩
theorem lw_p7 : lw_okq (⟨"BackofficeAir", "isBrokenAt", "(II)Z"⟩, 5) := ⟨⟨by decide +kernel, by decide +kernel⟩, List.mem_of_getElem? (i := 16) (by decide +kernel), List.mem_of_getElem? (i := 453) (by decide +kernel), List.mem_of_getElem? (i := 454) (by decide +kernel)⟩
theorem lw_p8 : lw_okq (⟨"BackofficeAir$Sending", "partIn", "(I)I"⟩, 7) := ⟨⟨by decide +kernel, by decide +kernel⟩, List.mem_of_getElem? (i := 76) (by decide +kernel), List.mem_of_getElem? (i := 465) (by decide +kernel), List.mem_of_getElem? (i := 466) (by decide +kernel)⟩
theorem lw_p9 : lw_okq (⟨"BackofficeAir", "endsAfterSlot", "(I)Z"⟩, 5) := ⟨⟨by decide +kernel, by decide +kernel⟩, List.mem_of_getElem? (i := 16) (by decide +kernel), List.mem_of_getElem? (i := 469) (by decide +kernel), List.mem_of_getElem? (i := 470) (by decide +kernel)⟩
theorem lw_p10 : lw_okq (⟨"BackofficeAir", "silenceAround", "(III)V"⟩, 5) := ⟨⟨by decide +kernel, by decide +kernel⟩, List.mem_of_getElem? (i := 16) (by decide +kernel), List.mem_of_getElem? (i := 474) (by decide +kernel), List.mem_of_getElem? (i := 475) (by decide +kernel)⟩
theorem lw_p11 : lw_okq (⟨"BackofficeAir$Station", "countFailure", "()V"⟩, 12) := ⟨⟨by decide +kernel, by decide +kernel⟩, List.mem_of_getElem? (i := 53) (by decide +kernel), List.mem_of_getElem? (i := 490) (by decide +kernel), List.mem_of_getElem? (i := 491) (by decide +kernel)⟩
theorem lw_p12 : lw_okq (⟨"BackofficeAir$Station", "startAfresh", "()V"⟩, 12) := ⟨⟨by decide +kernel, by decide +kernel⟩, List.mem_of_getElem? (i := 53) (by decide +kernel), List.mem_of_getElem? (i := 502) (by decide +kernel), List.mem_of_getElem? (i := 503) (by decide +kernel)⟩
theorem lw_p13 : lw_okq (⟨"BackofficeAir$Station", "countSuccess", "(I)V"⟩, 12) := ⟨⟨by decide +kernel, by decide +kernel⟩, List.mem_of_getElem? (i := 53) (by decide +kernel), List.mem_of_getElem? (i := 507) (by decide +kernel), List.mem_of_getElem? (i := 508) (by decide +kernel)⟩
def lw_privs_1 : List (MethodName × Nat) := [(⟨"BackofficeAir", "stationAt", "(I)LBackofficeAir$Station;"⟩, 5), (⟨"java/lang/Throwable", "fillInStackTrace", "(I)Ljava/lang/Throwable;"⟩, 6), (⟨"BackofficeAir", "passOneSlot", "()I"⟩, 5), (⟨"BackofficeAir", "waitOrBegin", "(I)V"⟩, 5), (⟨"BackofficeAir", "heardInSlotBefore", "(I)Z"⟩, 5), (⟨"BackofficeAir$Sending", "firstSlotOfParts", "()I"⟩, 7), (⟨"BackofficeAir", "sendInSlot", "(I)V"⟩, 5), (⟨"BackofficeAir", "isBrokenAt", "(II)Z"⟩, 5), (⟨"BackofficeAir$Sending", "partIn", "(I)I"⟩, 7), (⟨"BackofficeAir", "endsAfterSlot", "(I)Z"⟩, 5), (⟨"BackofficeAir", "silenceAround", "(III)V"⟩, 5), (⟨"BackofficeAir$Station", "countFailure", "()V"⟩, 12), (⟨"BackofficeAir$Station", "startAfresh", "()V"⟩, 12), (⟨"BackofficeAir$Station", "countSuccess", "(I)V"⟩, 12)]
theorem lw_r1 : ∀ q ∈ lw_privs_1, lw_okq q := List.forall_mem_cons.mpr ⟨lw_p0, List.forall_mem_cons.mpr ⟨lw_p1, List.forall_mem_cons.mpr ⟨lw_p2, List.forall_mem_cons.mpr ⟨lw_p3, List.forall_mem_cons.mpr ⟨lw_p4, List.forall_mem_cons.mpr ⟨lw_p5, List.forall_mem_cons.mpr ⟨lw_p6, List.forall_mem_cons.mpr ⟨lw_p7, List.forall_mem_cons.mpr ⟨lw_p8, List.forall_mem_cons.mpr ⟨lw_p9, List.forall_mem_cons.mpr ⟨lw_p10, List.forall_mem_cons.mpr ⟨lw_p11, List.forall_mem_cons.mpr ⟨lw_p12, List.forall_mem_cons.mpr ⟨lw_p13, fun _ h => absurd h List.not_mem_nil⟩⟩⟩⟩⟩⟩⟩⟩⟩⟩⟩⟩⟩⟩
def lw_privs : List (MethodName × Nat) := lw_privs_1
def lw_tbl : List Cond := k2_sels lw_privs ++ tables_1
theorem lw_privs_ok : ∀ q ∈ lw_privs, lw_okq q := lw_r1
/-! ===== BEGIN words of one list among another's, by their places ===== -/
theorem goodIn_r {big : List Cond} (ws : List Cond) (ps : List Nat) (hp : ws = ps.filterMap (fun i => big[i]?)) (h : ws.all goodWord = true) : GoodIn big ws := by
  intro w hw
  have h1 := List.all_eq_true.mp h w hw
  rw [hp] at hw
  obtain ⟨i, -, hi⟩ := List.mem_filterMap.mp hw
  have hm : w ∈ big := by first | exact List.mem_of_getElem? hi | exact List.getElem?_mem hi
  exact ⟨hm, good_of_word h1⟩
theorem goodIn_app {big a b : List Cond} (ha : GoodIn big a) (hb : GoodIn big b) : GoodIn big (a ++ b) := fun w h => (List.mem_append.mp h).elim (ha w) (hb w)
theorem goodIn_ca {big a b : List Cond} {c : Cond} (ha : GoodIn big (c :: a)) (hb : GoodIn big b) : GoodIn big (c :: (a ++ b)) := fun w h => (List.mem_cons.mp h).elim (fun e => ha w (List.mem_cons.mpr (Or.inl e))) (fun h => (List.mem_append.mp h).elim (fun h => ha w (List.mem_cons.mpr (Or.inr h))) (hb w))
theorem goodIn_sub {big ws : List Cond} (hm : ∀ w ∈ ws, w ∈ big) (h : ws.all goodWord = true) : GoodIn big ws := fun w hw => ⟨hm w hw, good_of_word (List.all_eq_true.mp h w hw)⟩
/-! ===== END ===== -/

/-! ===== BEGIN exceptions that leave a method, and their catching by the caller (launches without stack traces) ===== -/
section VXA
/-! The laws vx_back, vx_callV, vx_callS, vx_callSW, vx_throw0, vx_throwS follow proofs of the library, with one case more: JvmDerived/Free/Laws.lean (Back.of_free), Shelf42/LK1.lean (callV, callS), Shelf/KitTraced.lean (throwNew0V, throwNewS). -/
/-- where a method has thrown q: the class by its name, the cell, what was written, the world -/
def vx_T (XC : String → State → State → Prop) (st : State) (q : Addr) (t : State) (mc ms : Nat) (free : Addr → Prop) : Prop :=
  ∃ (E : String) (ce : Cell) (L : List Loc), XC E st t ∧ t.heap[q]? = some ce ∧ ce.vm = .none ∧ st.vm.findClass E = some ce.cls ∧ st.WarmedH t.vm ∧ st.sameButNew ({ t with vm := st.vm } : State) L mc ms ∧ ∀ z ∈ L, free z.base
def vx_Q (Qc : Array Value → State → Outcome → State → Prop) (XC : String → State → State → Prop) (mc ms : Nat) (free : Addr → Prop) : Array Value → State → Outcome → State → Prop := fun a st o t =>
  (Qc a st o t ∧ ∃ L, FrameEnd st o t L mc ms ∧ ∀ q ∈ L, free q.base) ∨ ∃ q, o = .threw q ∧ vx_T XC st q t mc ms free
/-- a callee that returns or throws -/
def vx_Met (l : Launch) (y : MethodName) (ws : List Cond) (rm : Room) (Pc : Array Value → State → Prop) (Qc : Array Value → State → Outcome → State → Prop) (XC : String → State → State → Prop) (mc ms : Nat) (free : Addr → Prop) : Prop :=
  MetFree l y (headSpec ws rm) Pc (fun _ _ _ _ _ => True) (vx_Q Qc XC mc ms free)
def vx_Post (XC : String → State → State → Prop) (mc ms : Nat) (free : Addr → Prop) : Pt → Array Value → Addr → Pt → Prop := fun A a q B =>
  ∃ (g : JFrame) (mk : MethodId) (t : State) (L : List Loc) (E : String) (ce : Cell), B.U.heap = t.heap ∧ B.U.vm = t.vm ∧ XC E (A.U.calling g mk a) t ∧ t.heap[q]? = some ce ∧ ce.vm = .none ∧ A.U.vm.findClass E = some ce.cls ∧ B.locs = A.locs ++ L ∧ (∀ z ∈ L, free z.base) ∧ B.cells = A.cells + mc ∧ B.slots = A.slots + ms
def vx_Back (l : Launch) (R : Room) (p : Program) (e : Env) (below : List Frame) (s : State) (sargs : Array Value) (y : MethodName) (len W9 : Nat)
    (Pre : Pt → Array Value → Prop) (Post : Pt → Array Value → Option Value → Pt → Prop) (PostX : Pt → Array Value → Addr → Pt → Prop) : Prop :=
  ∀ (m : MethodId) (meth : Method) (c : Code) (A : Pt) (g : JFrame) (ig : Instr) (mk : MethodId) (a : Array Value),
    Stand p l e R s m sargs below meth c A.U A.locs A.cells A.slots → g.method = m → g.locals.size = c.maxLocals → decode c.code g.pc = .ok (ig, len) →
    2 * g.monitorRoom + (g.stack.map fun v => v.category).sum ≤ W9 → A.U.methodNamed? y = some mk → Pre A a →
    (∃ (v : Option Value) (B : Pt), Stand p l e R s m sargs below meth c B.U B.locs B.cells B.slots ∧ Post A a v B ∧
      Steps p.tables e below (doInvoke e (A.U.setTop g) [] mk a).1 (B.U.setTop { g with pc := g.pc + len, stack := v.toList ++ g.stack })) ∨
    (∃ (q : Addr) (B : Pt), Stand p l e R s m sargs below meth c B.U B.locs B.cells B.slots ∧ PostX A a q B ∧
      Steps p.tables e below (doInvoke e (A.U.setTop g) [] mk a).1 ((B.U.setTop g).pushFrame (.throwing q)))
section Payer
variable {l : Launch} {R : Room} {p : Program} {e : Env} {below : List Frame} {s : State} {sargs : Array Value} {y : MethodName} {len W9 : Nat}
theorem vx_back {ws : List Cond} {rm : Room} {Pc : Array Value → State → Prop} {Qc : Array Value → State → Outcome → State → Prop} {XC : String → State → State → Prop} {mc ms : Nat} {free : Addr → Prop} {bytes : ByteArray} {maxL : Nat} {ret : Option FieldType}
    (hM : vx_Met l y ws rm Pc Qc XC mc ms free) (hblind : FrameBlind Pc) (hrc : rm.cells = mc) (hrs : rm.slots = ms)
    (hframes : rm.frames + 1 ≤ R.frames) (hlocals : W9 + (maxL + 11) + rm.locals ≤ R.locals)
    (hws : ∀ w ∈ ws, ∀ a' U, s.WarmedH U.vm → w.before a' U = true) (hcode : Cond.code y bytes maxL ret ∈ ws) (hinit : ∀ a' U, s.WarmedH U.vm → (Cond.initialized y.cls).before a' U = true) :
    vx_Back l R p e below s sargs y len W9 (PreOf R mc ms Pc) (PostOf Qc mc ms free) (vx_Post XC mc ms free) := by
  intro m meth c A g ig mk a X hg hsize hdg hW hn hp
  have h1 : (headSpec ws rm).pre.before a A.U = true := atoms_intro fun w hw => hws w hw _ _ X.warmed
  have h2 : (Cond.code y bytes maxL ret).before a A.U = true := hws _ hcode _ _ X.warmed
  have h3 : (Cond.initialized y.cls).before a A.U = true := hinit _ _ X.warmed
  have h4 : A.cells + (headSpec ws rm).room.cells ≤ R.cells := by rw [show (headSpec ws rm).room.cells = mc from hrc]; exact hp.1
  have h5 : A.slots + (headSpec ws rm).room.slots ≤ R.slots := by rw [show (headSpec ws rm).room.slots = ms from hrs]; exact hp.2.1
  have hPc : Pc a (A.U.calling g mk a) := hblind _ _ _ _ hp.2.2
  obtain ⟨U, Ls, c0, s0⟩ := A
  dsimp only [Pt.U, Pt.locs, Pt.cells, Pt.slots] at h1 h2 h3 h4 h5 X hn hPc ⊢
  obtain ⟨methY, cY, hmY, hcY, -, hlY, -, -, -, -⟩ := Cond.code_spec hn h2
  obtain ⟨kY, hkY, -⟩ := className_of_methodNamed hn
  have hinitY : kY.init = .initialized := Cond.initialized_spec (findClass_of_methodNamed hn) hkY h3
  have h : At U g.method c below := by rw [hg]; exact X.here
  have hlocals9 : W9 + (maxL + 11) + (headSpec ws rm).room.locals ≤ R.locals := hlocals
  have happ : (headSpec ws rm).appliesLoose y e.platform (U.calling g mk a) = true :=
    Spec.appliesLoose_calling (g := g) h hdg hn hkY hinitY
      (X.room_calling (g := g) (R' := (headSpec ws rm).room) hsize hmY hcY hframes (by rw [hlY]; omega) h4 h5) h1
  obtain ⟨mid, hmid⟩ := h.above
  have hfr : (U.setTop g).frames = (.java g :: mid) ++ below := by rw [State.frames_setTop' g h.top, hmid]; rfl
  obtain ⟨o, s₂, hsteps, -, hend, hq⟩ := Steps.callFree hM p X.admits X.cas X.clock (acts := []) hfr happ hPc trivial
  have hq' : vx_Q Qc XC mc ms free a (U.calling g mk a) o s₂ := hq
  rw [State.frames_setTop' g h.top] at hend
  obtain ⟨g₀, hg0⟩ := Option.isSome_iff_exists.mp h.top
  obtain ⟨r, hr⟩ := State.topJava?_eq_some.mp hg0
  have hr' : (({ U with heap := s₂.heap, slotsUsed := s₂.slotsUsed } : State).setVm s₂.vm).frames = .java g₀ :: r := hr
  rcases hq' with ⟨hqc, L, hfe, hL⟩ | ⟨q, rfl, E, ce, L, hx, hce, hcv, hcl, hW₂, hsm, hL⟩
  · obtain ⟨⟨v, rfl⟩, hW₂, e2, q2, q3, q4, q5, q6⟩ := id hfe
    have e3 : s₂ = ({ (U.calling g mk a).setFrames s₂.frames with heap := s₂.heap, slotsUsed := s₂.slotsUsed } : State).setVm s₂.vm := by
      have : s₂ = ({ s₂ with vm := (U.calling g mk a).vm } : State).setVm s₂.vm := rfl
      rw [e2] at this
      exact this
    obtain ⟨c₂, i₂, len₂, hc₂, hd₂, hf₂⟩ := hend
    have hW' : U.WarmedH s₂.vm := hW₂
    have hcc : c₂ = c := by
      have h1 : s₂.code? g.method = U.code? g.method := by
        rw [State.code?_eq, State.code?_eq, hW'.alike.method?]
      exact Option.some.inj (hc₂.symm.trans (h1.trans h.code))
    subst hcc
    have hlen : len₂ = len := by rw [hdg] at hd₂; cases hd₂; rfl
    subst hlen
    have hs₂ : s₂ = (({ U with heap := s₂.heap, slotsUsed := s₂.slotsUsed } : State).setVm s₂.vm).setTop { g with pc := g.pc + len₂, stack := v.toList ++ g.stack } := by
      refine e3.trans ?_
      rw [hf₂, State.calling_eq h.top, State.setFrames_setFrames, State.setTop_of_frames _ hr', hr]
      rfl
    have hsame : U.sameButNew ({ U with heap := s₂.heap, slotsUsed := s₂.slotsUsed } : State) L mc ms := by
      refine ⟨?_, q2, q3, q4, q5, q6⟩
      obtain ⟨t, ht, -⟩ := State.frames_cons hr
      show ({ U with heap := s₂.heap, slotsUsed := s₂.slotsUsed } : State) = { U.setFrames U.frames with heap := s₂.heap, slotsUsed := s₂.slotsUsed }
      rw [State.setFrames_self ht]
    subst hg
    refine Or.inl ⟨v, ⟨(({ U with heap := s₂.heap, slotsUsed := s₂.slotsUsed } : State).setVm s₂.vm), Ls ++ L, c0 + mc, s0 + ms⟩,
      ⟨X.admits, X.cas, X.clock, X.frames, X.room, X.hears, X.method, X.code, (X.here.setHeapUsed s₂.heap s₂.slotsUsed).setVm hW'.alike, X.tail, State.WarmedH.trans X.warmed hW', X.limits, X.bytes, X.same.trans (hsame.setVm s.vm)⟩,
      ⟨g, mk, s₂, L, rfl, rfl, hqc, rfl, hL, rfl, rfl⟩, ?_⟩
    show Steps p.tables e below _ ((({ U with heap := s₂.heap, slotsUsed := s₂.slotsUsed } : State).setVm s₂.vm).setTop { g with pc := g.pc + len₂, stack := v.toList ++ g.stack })
    rw [← hs₂]
    exact hsteps
  · obtain ⟨e2, q2, q3, q4, q5, q6⟩ := id hsm
    have e3 : s₂ = ({ (U.calling g mk a).setFrames s₂.frames with heap := s₂.heap, slotsUsed := s₂.slotsUsed } : State).setVm s₂.vm := by
      have : s₂ = ({ s₂ with vm := (U.calling g mk a).vm } : State).setVm s₂.vm := rfl
      rw [e2] at this
      exact this
    have hf₂ : s₂.frames = .throwing q :: .java g :: U.frames.tail := hend
    have hW' : U.WarmedH s₂.vm := hW₂
    have hs₂ : s₂ = ((({ U with heap := s₂.heap, slotsUsed := s₂.slotsUsed } : State).setVm s₂.vm).setTop g).pushFrame (.throwing q) := by
      refine e3.trans ?_
      rw [hf₂, State.calling_eq h.top, State.setFrames_setFrames, State.pushFrame, State.frames_setTop _ hr', State.setTop_of_frames _ hr', State.setFrames_setFrames, hr]
      rfl
    have hsame : U.sameButNew ({ U with heap := s₂.heap, slotsUsed := s₂.slotsUsed } : State) L mc ms := by
      refine ⟨?_, q2, q3, q4, q5, q6⟩
      obtain ⟨t, ht, -⟩ := State.frames_cons hr
      show ({ U with heap := s₂.heap, slotsUsed := s₂.slotsUsed } : State) = { U.setFrames U.frames with heap := s₂.heap, slotsUsed := s₂.slotsUsed }
      rw [State.setFrames_self ht]
    subst hg
    refine Or.inr ⟨q, ⟨(({ U with heap := s₂.heap, slotsUsed := s₂.slotsUsed } : State).setVm s₂.vm), Ls ++ L, c0 + mc, s0 + ms⟩,
      ⟨X.admits, X.cas, X.clock, X.frames, X.room, X.hears, X.method, X.code, (X.here.setHeapUsed s₂.heap s₂.slotsUsed).setVm hW'.alike, X.tail, State.WarmedH.trans X.warmed hW', X.limits, X.bytes, X.same.trans (hsame.setVm s.vm)⟩,
      ⟨g, mk, s₂, L, E, ce, rfl, rfl, hx, hce, hcv, hcl, rfl, hL, rfl, rfl⟩, ?_⟩
    show Steps p.tables e below _ (((({ U with heap := s₂.heap, slotsUsed := s₂.slotsUsed } : State).setVm s₂.vm).setTop g).pushFrame (.throwing q))
    rw [← hs₂]
    exact hsteps
end Payer
section Calls
variable {p : Program} {l : Launch} {e : Env} {R : Room} {s : State} {m : MethodId} {args : Array Value} {below : List Frame} {meth : Method} {c : Code} {T : State} {locs : List Loc} {cells slots : Nat}
theorem vx_callV (X : Stand p l e R s m args below meth c T locs cells slots) (hexec : p.tables.exec = Jvm.exec) {own C : String} {index : Nat} {y : MethodName} {bytes : ByteArray} {maxL : Nat} {ret : Option FieldType}
    (hown : s.vm.findClass own = some m.cls) (hlink : (Cond.methodLink own index y).before args s = true) (hinst : (Cond.instanceMethod y).before args s = true) (hsel : (Cond.selects C y y).before args s = true)
    (hcode : (Cond.code y bytes maxL ret).before args s = true) (hy : y.cls ≠ "java/lang/invoke/MethodHandle" ∧ y.cls ≠ "java/lang/invoke/VarHandle")
    {W9 : Nat} {Pre : Pt → Array Value → Prop} {Post : Pt → Array Value → Option Value → Pt → Prop} {PostX : Pt → Array Value → Addr → Pt → Prop} (hK : vx_Back l R p e below s args y 3 W9 Pre Post PostX)
    {b : Addr} {cellB : Cell} (hcell : T.heap[b]? = some cellB) (hobj : cellB.vm.isStatics = false) (hcls : s.vm.findClass C = some cellB.cls)
    {g : JFrame} (hg : g.method = m) (hsize : g.locals.size = c.maxLocals) {argsL rest : List Value} (hlen : ∀ sig, parseMethodDescriptor y.desc = some sig → argsL.length = sig.parameters.length)
    (hstack : g.stack = argsL.reverse ++ .ref b :: rest) (hW : 2 * g.monitorRoom + (rest.map fun v => v.category).sum ≤ W9) (hdg : decode c.code g.pc = .ok (.invokevirtual index, 3))
    (hpre : ∀ vm₁, s.WarmedH vm₁ → Pre ⟨T.setVm vm₁, locs, cells, slots⟩ (Value.ref b :: argsL).toArray) :
    (∃ (v : Option Value) (vm₁ : Vm) (B : Pt), s.WarmedH vm₁ ∧ Stand p l e R s m args below meth c B.U B.locs B.cells B.slots ∧ Post ⟨T.setVm vm₁, locs, cells, slots⟩ (Value.ref b :: argsL).toArray v B ∧
      ∀ target, Steps p.tables e below (B.U.setTop { g with pc := g.pc + 3, stack := v.toList ++ rest }) target → Steps p.tables e below (T.setTop g) target) ∨
    (∃ (q : Addr) (vm₁ : Vm) (B : Pt), s.WarmedH vm₁ ∧ Stand p l e R s m args below meth c B.U B.locs B.cells B.slots ∧ PostX ⟨T.setVm vm₁, locs, cells, slots⟩ (Value.ref b :: argsL).toArray q B ∧
      Steps p.tables e below (T.setTop g) ((B.U.setTop { g with stack := rest }).pushFrame (.throwing q))) := by
  obtain ⟨mk, methM, hnamed, hmethM, hstM, habM⟩ := Cond.instanceMethod_spec hinst
  obtain ⟨methM', cM, hmethM', -, -, -, -, -, -, hsigM⟩ := Cond.code_spec hnamed hcode
  cases hmethM.symm.trans hmethM'
  obtain ⟨c2, r2, m2, q1, q2, q3, q4, kP, hkP, hkPi⟩ := Cond.selects_spec hsel
  cases hcls.symm.trans q1
  cases (State.methodFound?_of_named hnamed hy).symm.trans q2
  cases hnamed.symm.trans q3
  have hselP : selectMethod e.platform s.vm cellB.cls mk = .method mk := by rw [Launch.admits_selectMethod X.admits]; exact q4
  obtain ⟨vm₁, X₁, hstep₁⟩ := X.invokevirtual hexec hown hlink hnamed hmethM hstM hkP hkPi hy (a := b) (cell := cellB) hcell
    (fun z h => by rw [h] at hobj; cases hobj) hselP hmethM habM hkP hkPi (g := g) hg (argsL := argsL) (rest := rest) (hlen _ hsigM) hstack hdg
  rcases hK m meth c ⟨T.setVm vm₁, locs, cells, slots⟩ { g with stack := rest } (.invokevirtual index) mk (Value.ref b :: argsL).toArray X₁ hg hsize hdg hW (X₁.named hnamed) (hpre vm₁ X₁.warmed) with ⟨v, B, X', hpost, hsteps⟩ | ⟨q, B, X', hpost, hsteps⟩
  · exact Or.inl ⟨v, vm₁, B, X₁.warmed, X', hpost, fun target h => hstep₁ _ fun acts => by rw [doInvoke_state]; exact hsteps.trans h⟩
  · exact Or.inr ⟨q, vm₁, B, X₁.warmed, X', hpost, hstep₁ _ fun acts => by rw [doInvoke_state]; exact hsteps⟩
theorem vx_callS (X : Stand p l e R s m args below meth c T locs cells slots) (hexec : p.tables.exec = Jvm.exec) {own : String} {index : Nat} {y : MethodName} {bytes : ByteArray} {maxL : Nat} {ret : Option FieldType}
    (hown : s.vm.findClass own = some m.cls) (hlink : (Cond.methodLink own index y).before args s = true) (hstat : (Cond.static y).before args s = true) (hinit : (Cond.initialized y.cls).before args s = true)
    (hcode : (Cond.code y bytes maxL ret).before args s = true) (hy : y.cls ≠ "java/lang/invoke/MethodHandle" ∧ y.cls ≠ "java/lang/invoke/VarHandle")
    {W9 : Nat} {Pre : Pt → Array Value → Prop} {Post : Pt → Array Value → Option Value → Pt → Prop} {PostX : Pt → Array Value → Addr → Pt → Prop} (hK : vx_Back l R p e below s args y 3 W9 Pre Post PostX)
    {g : JFrame} (hg : g.method = m) (hsize : g.locals.size = c.maxLocals) {argsL rest : List Value} (hlen : ∀ sig, parseMethodDescriptor y.desc = some sig → argsL.length = sig.parameters.length)
    (hstack : g.stack = argsL.reverse ++ rest) (hW : 2 * g.monitorRoom + (rest.map fun v => v.category).sum ≤ W9) (hdg : decode c.code g.pc = .ok (.invokestatic index, 3))
    (hpre : ∀ vm₁, s.WarmedH vm₁ → Pre ⟨T.setVm vm₁, locs, cells, slots⟩ argsL.toArray) :
    (∃ (v : Option Value) (vm₁ : Vm) (B : Pt), s.WarmedH vm₁ ∧ Stand p l e R s m args below meth c B.U B.locs B.cells B.slots ∧ Post ⟨T.setVm vm₁, locs, cells, slots⟩ argsL.toArray v B ∧
      ∀ target, Steps p.tables e below (B.U.setTop { g with pc := g.pc + 3, stack := v.toList ++ rest }) target → Steps p.tables e below (T.setTop g) target) ∨
    (∃ (q : Addr) (vm₁ : Vm) (B : Pt), s.WarmedH vm₁ ∧ Stand p l e R s m args below meth c B.U B.locs B.cells B.slots ∧ PostX ⟨T.setVm vm₁, locs, cells, slots⟩ argsL.toArray q B ∧
      Steps p.tables e below (T.setTop g) ((B.U.setTop { g with stack := rest }).pushFrame (.throwing q))) := by
  obtain ⟨mk, hnamed⟩ := Cond.code_named hcode
  obtain ⟨methM, cM, hmethM, -, -, -, -, -, -, hsigM⟩ := Cond.code_spec hnamed hcode
  have hstatic : methM.isStatic = true := Cond.static_spec hnamed hmethM hstat
  obtain ⟨kP, hkP, -⟩ := className_of_methodNamed hnamed
  have hinitP : kP.init = .initialized := Cond.initialized_spec (findClass_of_methodNamed hnamed) hkP hinit
  obtain ⟨vm₁, X₁, hstep₁⟩ := X.invokestatic hexec hown hlink hnamed hmethM hstatic hkP hinitP hy (g := g) hg (argsL := argsL) (rest := rest) (hlen _ hsigM) hstack hdg
  rcases hK m meth c ⟨T.setVm vm₁, locs, cells, slots⟩ { g with stack := rest } (.invokestatic index) mk argsL.toArray X₁ hg hsize hdg hW (X₁.named hnamed) (hpre vm₁ X₁.warmed) with ⟨v, B, X', hpost, hsteps⟩ | ⟨q, B, X', hpost, hsteps⟩
  · exact Or.inl ⟨v, vm₁, B, X₁.warmed, X', hpost, fun target h => hstep₁ _ fun acts => by rw [doInvoke_state]; exact hsteps.trans h⟩
  · exact Or.inr ⟨q, vm₁, B, X₁.warmed, X', hpost, hstep₁ _ fun acts => by rw [doInvoke_state]; exact hsteps⟩
end Calls
theorem vx_cls {s : State} {T : State} {vm₁ : Vm} {E : String} {k : ClassId} (hW : s.WarmedH vm₁) (h : (T.setVm vm₁).vm.findClass E = some k) : s.vm.findClass E = some k := by
  have h1 : vm₁.findClass E = some k := h
  rw [hW.alike.findClass] at h1
  exact h1
/-- the method's frame g, with q thrown over it -/
def vx_W (p : Program) (l : Launch) (e : Env) (R : Room) (s : State) (m : MethodId) (args : Array Value) (below : List Frame) (meth : Method) (c : Code) (H : Heap) (locs : List Loc) (cells slots : Nat) (Q : State → Prop) (g : JFrame) (q : Addr) : Prop :=
  ∀ T : State, T.heap = H → Stand p l e R s m args below meth c T locs cells slots → ∃ t, Steps p.tables e below ((T.setTop g).pushFrame (.throwing q)) t ∧ Q t
def vx_Run (p : Program) (l : Launch) (e : Env) (R : Room) (s : State) (m : MethodId) (args : Array Value) (below : List Frame) (meth : Method) (c : Code) (H : Heap) (locs : List Loc) (cells slots mc ms : Nat) (g : JFrame) (rest : List Value) (Qa : State → Outcome → State → Prop) (XC : String → State → State → Prop) (free : Addr → Prop) : Prop :=
  ∀ T : State, T.heap = H → Stand p l e R s m args below meth c T locs cells slots →
    (∃ (v : Option Value) (st₀ t T' : State) (L : List Loc), st₀.heap = H ∧ Stand p l e R s m args below meth c T' (locs ++ L) (cells + mc) (slots + ms) ∧ (∀ q ∈ L, free q.base) ∧ T'.heap = t.heap ∧ T'.vm = t.vm ∧ Qa st₀ (.returned v) t ∧
      Goes p e below T g T' { g with pc := g.pc + 3, stack := v.toList ++ rest }) ∨
    (∃ (q : Addr) (st₀ t T' : State) (L : List Loc) (E : String) (ce : Cell), st₀.heap = H ∧ Stand p l e R s m args below meth c T' (locs ++ L) (cells + mc) (slots + ms) ∧ (∀ z ∈ L, free z.base) ∧ T'.heap = t.heap ∧ T'.vm = t.vm ∧ XC E st₀ t ∧ t.heap[q]? = some ce ∧ ce.vm = .none ∧ s.vm.findClass E = some ce.cls ∧
      Steps p.tables e below (T.setTop g) ((T'.setTop { g with stack := rest }).pushFrame (.throwing q)))
def vx_X {S : Type} (px : S → Prop) (B : String → S → State → Prop) (A : Nat → Prop) : String → State → State → Prop := fun E st t => ∃ u : S, px u ∧ B E u t ∧ va_F A st t
section Runs
variable {p : Program} {l : Launch} {e : Env} {R : Room} {s : State} {m : MethodId} {args : Array Value} {below : List Frame} {meth : Method} {c : Code} {H : Heap} {locs : List Loc} {cells slots : Nat}
variable {y : MethodName} {bytes cc : ByteArray} {maxL nL mc ms n index : Nat} {ret : Option FieldType} {ws : List Cond} {rm : Room} {Pc : Array Value → State → Prop} {Qc : Array Value → State → Outcome → State → Prop} {XC : String → State → State → Prop} {free : Addr → Prop} {Ts : List Cond} {own C : String} {b : Addr} {As rest : List Value} {g : JFrame}
theorem vx_callBack (cb : CallB R s args own index y bytes maxL ret ws rm mc ms n) (hM : vx_Met l y ws rm Pc Qc XC mc ms free) (hbl : FrameBlind Pc) : vx_Back l R p e below s args y 3 8 (PreOf R mc ms Pc) (PostOf Qc mc ms free) (vx_Post XC mc ms free) := by
  obtain ⟨hrc, hrs, hfr, hlo, hws, hcw, -, hini, -⟩ := cb
  exact vx_back (bytes := bytes) (maxL := maxL) (ret := ret) hM hbl hrc hrs hfr hlo hws hcw (fun a' U hW => word_at hW (Or.inl (by first | rfl | simp [Cond.onTables, Cond.keeps, Cond.steady])) hini)
theorem vx_runV (S : CallFix p m c cc nL s args Ts own) (hM : vx_Met l y ws rm Pc Qc XC mc ms free) (cw : CallW R s args own C index y bytes maxL ret ws rm mc ms n) (hp : PreV s H C b Pc As)
    (hg : g.method = m) (hn : As.length = n) (hsize : g.locals.size = nL) (hstack : g.stack = As.reverse ++ .ref b :: rest) (hW : 2 * g.monitorRoom + (rest.map fun v => v.category).sum ≤ 8) (hdg : decode cc g.pc = .ok (.invokevirtual index, 3)) (hf : cells + mc ≤ R.cells ∧ slots + ms ≤ R.slots) :
    vx_Run p l e R s m args below meth c H locs cells slots mc ms g rest (Qc (Value.ref b :: As).toArray) XC free := by
  have hK : vx_Back l R p e below s args y 3 8 (PreOf R mc ms Pc) (PostOf Qc mc ms free) (vx_Post XC mc ms free) := vx_callBack cw.1 hM hp.1
  obtain ⟨⟨-, -, -, -, -, -, hcode, -, hy, hlen, hl⟩, hin, hse⟩ := cw
  obtain ⟨hx, hb, hml, ho, -⟩ := S
  obtain ⟨-, ⟨cellB, hcB, hoB, hclB⟩, hPc⟩ := hp
  intro T hT X
  rcases vx_callV X hx (C := C) (bytes := bytes) (maxL := maxL) (ret := ret) ho hl hin hse hcode hy hK (by rw [hT]; exact hcB) hoB hclB hg (hsize.trans hml.symm) (argsL := As) (rest := rest) (fun sig h => hn.trans (hlen sig h)) hstack hW (by rw [hb]; exact hdg)
    (fun vm₁ hW₁ => ⟨hf.1, hf.2, hPc (T.setVm vm₁) hT hW₁⟩) with ⟨v, vm₁, ⟨U', l2, c2, s2⟩, hW₁, X', ⟨g', mk, t, L, e1, e2, hq, h1, hL, h2, h3⟩, st⟩ | ⟨q, vm₁, ⟨U', l2, c2, s2⟩, hW₁, X', ⟨g', mk, t, L, E, ce, e1, e2, hq, hce, hcv, hcl, h1, hL, h2, h3⟩, st⟩
  · dsimp only [Pt.U, Pt.locs, Pt.cells, Pt.slots] at X' e1 e2 h1 h2 h3 st
    subst h1; subst h2; subst h3
    exact Or.inl ⟨v, (T.setVm vm₁).calling g' mk (Value.ref b :: As).toArray, t, U', L, hT, X', hL, e1, e2, hq, st⟩
  · dsimp only [Pt.U, Pt.locs, Pt.cells, Pt.slots] at X' e1 e2 h1 h2 h3 st hcl
    subst h1; subst h2; subst h3
    exact Or.inr ⟨q, (T.setVm vm₁).calling g' mk (Value.ref b :: As).toArray, t, U', L, E, ce, hT, X', hL, e1, e2, hq, hce, hcv, vx_cls hW₁ hcl, st⟩
theorem vx_runS (S : CallFix p m c cc nL s args Ts own) (hM : vx_Met l y ws rm Pc Qc XC mc ms free) (cw : CallB R s args own index y bytes maxL ret ws rm mc ms n ∧ (Cond.static y).before args s = true) (hp : PreS s H Pc As)
    (hg : g.method = m) (hn : As.length = n) (hsize : g.locals.size = nL) (hstack : g.stack = As.reverse ++ rest) (hW : 2 * g.monitorRoom + (rest.map fun v => v.category).sum ≤ 8) (hdg : decode cc g.pc = .ok (.invokestatic index, 3)) (hf : cells + mc ≤ R.cells ∧ slots + ms ≤ R.slots) :
    vx_Run p l e R s m args below meth c H locs cells slots mc ms g rest (Qc As.toArray) XC free := by
  have hK : vx_Back l R p e below s args y 3 8 (PreOf R mc ms Pc) (PostOf Qc mc ms free) (vx_Post XC mc ms free) := vx_callBack cw.1 hM hp.1
  obtain ⟨⟨-, -, -, -, -, -, hcode, hini, hy, hlen, hl⟩, hstt⟩ := cw
  obtain ⟨hx, hb, hml, ho, -⟩ := S
  intro T hT X
  rcases vx_callS X hx (bytes := bytes) (maxL := maxL) (ret := ret) ho hl hstt hini hcode hy hK hg (hsize.trans hml.symm) (argsL := As) (rest := rest) (fun sig h => hn.trans (hlen sig h)) hstack hW (by rw [hb]; exact hdg)
    (fun vm₁ hW₁ => ⟨hf.1, hf.2, hp.2 (T.setVm vm₁) hT hW₁⟩) with ⟨v, vm₁, ⟨U', l2, c2, s2⟩, hW₁, X', ⟨g', mk, t, L, e1, e2, hq, h1, hL, h2, h3⟩, st⟩ | ⟨q, vm₁, ⟨U', l2, c2, s2⟩, hW₁, X', ⟨g', mk, t, L, E, ce, e1, e2, hq, hce, hcv, hcl, h1, hL, h2, h3⟩, st⟩
  · dsimp only [Pt.U, Pt.locs, Pt.cells, Pt.slots] at X' e1 e2 h1 h2 h3 st
    subst h1; subst h2; subst h3
    exact Or.inl ⟨v, (T.setVm vm₁).calling g' mk As.toArray, t, U', L, hT, X', hL, e1, e2, hq, st⟩
  · dsimp only [Pt.U, Pt.locs, Pt.cells, Pt.slots] at X' e1 e2 h1 h2 h3 st hcl
    subst h1; subst h2; subst h3
    exact Or.inr ⟨q, (T.setVm vm₁).calling g' mk As.toArray, t, U', L, E, ce, hT, X', hL, e1, e2, hq, hce, hcv, vx_cls hW₁ hcl, st⟩
end Runs
section Rows
variable {p : Program} {l : Launch} {e : Env} {R : Room} {s : State} {m : MethodId} {args : Array Value} {below : List Frame} {meth : Method} {c : Code} {H : Heap} {locs : List Loc} {cells slots : Nat} {Q : State → Prop}
variable {mc ms : Nat} {free : Addr → Prop} {A0 A1 : Nat → Prop} {H0 : Heap} {a : Array Value} {pc : Nat} {ls : Array Slot} {st0 rest : List Value}
theorem vx_keep {st₀ t T' : State} {L : List Loc} (h0 : st₀.heap = H) (e1 : T'.heap = t.heap) (hS : va_S A0 H0 H locs) (hA : ∀ q, q < H.size → A1 q → A0 q) (hf : ∀ q, free q → A0 q) (hL : ∀ q ∈ L, free q.base) (hF : va_F A1 st₀ t) :
    H.size ≤ T'.heap.size ∧ (∀ q : Nat, q < H.size → ¬ A1 q → T'.heap[q]? = H[q]?) ∧ va_S A0 H0 T'.heap (locs ++ L) := by
  obtain ⟨hz, hk⟩ := hF
  rw [h0] at hz hk
  exact ⟨by rw [e1]; exact hz, fun q h1 h2 => by rw [e1]; exact hk q h1 h2,
    ⟨Nat.le_trans hS.1 (by rw [e1]; exact hz), fun q h1 h2 => by rw [e1, hk q (Nat.lt_of_lt_of_le h1 hS.1) (fun z => h2 (hA q (Nat.lt_of_lt_of_le h1 hS.1) z))]; exact hS.2.1 q h1 h2, fun q hq => by
      rcases List.mem_append.mp hq with h | h
      · exact hS.2.2 q h
      · exact hf _ (hL q h)⟩⟩
theorem vx_calli {S SX : Type} {post : Int32 → S → Prop} {px : SX → Prop} {B : S → State → Prop} {BX : String → SX → State → Prop} {AX : Nat → Prop} (hr : vx_Run p l e R s m args below meth c H locs cells slots mc ms (F0 m pc ls st0) rest (va_Qi post B A1 a) (vx_X px BX AX) free) (hS : va_S A0 H0 H locs) (hA : ∀ q, q < H.size → A1 q → A0 q) (hf : ∀ q, free q → A0 q) (hAX : ∀ q, q < H.size → AX q → A0 q)
    (kx : ∀ (E : String) (ce : Cell) (q9 : Addr) (u : SX) (t : State) (H1 : Heap) (locs1 : List Loc), t.heap = H1 → s.vm.Alike t.vm → px u → BX E u t → H.size ≤ H1.size → (∀ q : Nat, q < H.size → ¬ AX q → H1[q]? = H[q]?) → va_S A0 H0 H1 locs1 → H1[q9]? = some ce → ce.vm = .none → s.vm.findClass E = some ce.cls → vx_W p l e R s m args below meth c H1 locs1 (cells + mc) (slots + ms) Q (F0 m pc ls rest) q9)
    (kk : ∀ (r : Int32) (u : S) (t : State) (H1 : Heap) (locs1 : List Loc), t.heap = H1 → s.vm.Alike t.vm → post r u → B u t → H.size ≤ H1.size → (∀ q : Nat, q < H.size → ¬ A1 q → H1[q]? = H[q]?) → va_S A0 H0 H1 locs1 → W p l e R s m args below meth c H1 locs1 (cells + mc) (slots + ms) Q (F0 m (pc + 3) ls (.int r :: rest))) : W p l e R s m args below meth c H locs cells slots Q (F0 m pc ls st0) := by
  intro T hT X
  rcases hr T hT X with ⟨v, st₀, t, T', L, h0, X', hL, e1, e2, ⟨⟨r, u, hv, hp, hb⟩, hF⟩, st⟩ | ⟨q, st₀, t, T', L, E, ce, h0, X', hL, e1, e2, ⟨u, hp, hb, hF⟩, hce, hcv, hcl, st⟩
  · cases hv
    obtain ⟨k1, k2, k3⟩ := vx_keep h0 e1 hS hA hf hL hF
    obtain ⟨t2, a1, b1⟩ := kk r u t T'.heap (locs ++ L) e1.symm (by rw [← e2]; exact X'.warmed.alike) hp hb k1 k2 k3 T' rfl X'
    exact ⟨t2, st t2 a1, b1⟩
  · obtain ⟨k1, k2, k3⟩ := vx_keep h0 e1 hS hAX hf hL hF
    obtain ⟨t2, a1, b1⟩ := kx E ce q u t T'.heap (locs ++ L) e1.symm (by rw [← e2]; exact X'.warmed.alike) hp hb k1 k2 k3 (by rw [e1]; exact hce) hcv hcl T' rfl X'
    exact ⟨t2, st.trans a1, b1⟩
theorem vx_calll {S SX : Type} {post : Int64 → S → Prop} {px : SX → Prop} {B : S → State → Prop} {BX : String → SX → State → Prop} {AX : Nat → Prop} (hr : vx_Run p l e R s m args below meth c H locs cells slots mc ms (F0 m pc ls st0) rest (va_Ql post B A1 a) (vx_X px BX AX) free) (hS : va_S A0 H0 H locs) (hA : ∀ q, q < H.size → A1 q → A0 q) (hf : ∀ q, free q → A0 q) (hAX : ∀ q, q < H.size → AX q → A0 q)
    (kx : ∀ (E : String) (ce : Cell) (q9 : Addr) (u : SX) (t : State) (H1 : Heap) (locs1 : List Loc), t.heap = H1 → s.vm.Alike t.vm → px u → BX E u t → H.size ≤ H1.size → (∀ q : Nat, q < H.size → ¬ AX q → H1[q]? = H[q]?) → va_S A0 H0 H1 locs1 → H1[q9]? = some ce → ce.vm = .none → s.vm.findClass E = some ce.cls → vx_W p l e R s m args below meth c H1 locs1 (cells + mc) (slots + ms) Q (F0 m pc ls rest) q9)
    (kk : ∀ (r : Int64) (u : S) (t : State) (H1 : Heap) (locs1 : List Loc), t.heap = H1 → s.vm.Alike t.vm → post r u → B u t → H.size ≤ H1.size → (∀ q : Nat, q < H.size → ¬ A1 q → H1[q]? = H[q]?) → va_S A0 H0 H1 locs1 → W p l e R s m args below meth c H1 locs1 (cells + mc) (slots + ms) Q (F0 m (pc + 3) ls (.long r :: rest))) : W p l e R s m args below meth c H locs cells slots Q (F0 m pc ls st0) := by
  intro T hT X
  rcases hr T hT X with ⟨v, st₀, t, T', L, h0, X', hL, e1, e2, ⟨⟨r, u, hv, hp, hb⟩, hF⟩, st⟩ | ⟨q, st₀, t, T', L, E, ce, h0, X', hL, e1, e2, ⟨u, hp, hb, hF⟩, hce, hcv, hcl, st⟩
  · cases hv
    obtain ⟨k1, k2, k3⟩ := vx_keep h0 e1 hS hA hf hL hF
    obtain ⟨t2, a1, b1⟩ := kk r u t T'.heap (locs ++ L) e1.symm (by rw [← e2]; exact X'.warmed.alike) hp hb k1 k2 k3 T' rfl X'
    exact ⟨t2, st t2 a1, b1⟩
  · obtain ⟨k1, k2, k3⟩ := vx_keep h0 e1 hS hAX hf hL hF
    obtain ⟨t2, a1, b1⟩ := kx E ce q u t T'.heap (locs ++ L) e1.symm (by rw [← e2]; exact X'.warmed.alike) hp hb k1 k2 k3 (by rw [e1]; exact hce) hcv hcl T' rfl X'
    exact ⟨t2, st.trans a1, b1⟩
theorem vx_callf {S SX : Type} {post : UInt32 → S → Prop} {px : SX → Prop} {B : S → State → Prop} {BX : String → SX → State → Prop} {AX : Nat → Prop} (hr : vx_Run p l e R s m args below meth c H locs cells slots mc ms (F0 m pc ls st0) rest (va_Qf post B A1 a) (vx_X px BX AX) free) (hS : va_S A0 H0 H locs) (hA : ∀ q, q < H.size → A1 q → A0 q) (hf : ∀ q, free q → A0 q) (hAX : ∀ q, q < H.size → AX q → A0 q)
    (kx : ∀ (E : String) (ce : Cell) (q9 : Addr) (u : SX) (t : State) (H1 : Heap) (locs1 : List Loc), t.heap = H1 → s.vm.Alike t.vm → px u → BX E u t → H.size ≤ H1.size → (∀ q : Nat, q < H.size → ¬ AX q → H1[q]? = H[q]?) → va_S A0 H0 H1 locs1 → H1[q9]? = some ce → ce.vm = .none → s.vm.findClass E = some ce.cls → vx_W p l e R s m args below meth c H1 locs1 (cells + mc) (slots + ms) Q (F0 m pc ls rest) q9)
    (kk : ∀ (r : UInt32) (u : S) (t : State) (H1 : Heap) (locs1 : List Loc), t.heap = H1 → s.vm.Alike t.vm → post r u → B u t → H.size ≤ H1.size → (∀ q : Nat, q < H.size → ¬ A1 q → H1[q]? = H[q]?) → va_S A0 H0 H1 locs1 → W p l e R s m args below meth c H1 locs1 (cells + mc) (slots + ms) Q (F0 m (pc + 3) ls (.float r :: rest))) : W p l e R s m args below meth c H locs cells slots Q (F0 m pc ls st0) := by
  intro T hT X
  rcases hr T hT X with ⟨v, st₀, t, T', L, h0, X', hL, e1, e2, ⟨⟨r, u, hv, hp, hb⟩, hF⟩, st⟩ | ⟨q, st₀, t, T', L, E, ce, h0, X', hL, e1, e2, ⟨u, hp, hb, hF⟩, hce, hcv, hcl, st⟩
  · cases hv
    obtain ⟨k1, k2, k3⟩ := vx_keep h0 e1 hS hA hf hL hF
    obtain ⟨t2, a1, b1⟩ := kk r u t T'.heap (locs ++ L) e1.symm (by rw [← e2]; exact X'.warmed.alike) hp hb k1 k2 k3 T' rfl X'
    exact ⟨t2, st t2 a1, b1⟩
  · obtain ⟨k1, k2, k3⟩ := vx_keep h0 e1 hS hAX hf hL hF
    obtain ⟨t2, a1, b1⟩ := kx E ce q u t T'.heap (locs ++ L) e1.symm (by rw [← e2]; exact X'.warmed.alike) hp hb k1 k2 k3 (by rw [e1]; exact hce) hcv hcl T' rfl X'
    exact ⟨t2, st.trans a1, b1⟩
theorem vx_calld {S SX : Type} {post : UInt64 → S → Prop} {px : SX → Prop} {B : S → State → Prop} {BX : String → SX → State → Prop} {AX : Nat → Prop} (hr : vx_Run p l e R s m args below meth c H locs cells slots mc ms (F0 m pc ls st0) rest (va_Qd post B A1 a) (vx_X px BX AX) free) (hS : va_S A0 H0 H locs) (hA : ∀ q, q < H.size → A1 q → A0 q) (hf : ∀ q, free q → A0 q) (hAX : ∀ q, q < H.size → AX q → A0 q)
    (kx : ∀ (E : String) (ce : Cell) (q9 : Addr) (u : SX) (t : State) (H1 : Heap) (locs1 : List Loc), t.heap = H1 → s.vm.Alike t.vm → px u → BX E u t → H.size ≤ H1.size → (∀ q : Nat, q < H.size → ¬ AX q → H1[q]? = H[q]?) → va_S A0 H0 H1 locs1 → H1[q9]? = some ce → ce.vm = .none → s.vm.findClass E = some ce.cls → vx_W p l e R s m args below meth c H1 locs1 (cells + mc) (slots + ms) Q (F0 m pc ls rest) q9)
    (kk : ∀ (r : UInt64) (u : S) (t : State) (H1 : Heap) (locs1 : List Loc), t.heap = H1 → s.vm.Alike t.vm → post r u → B u t → H.size ≤ H1.size → (∀ q : Nat, q < H.size → ¬ A1 q → H1[q]? = H[q]?) → va_S A0 H0 H1 locs1 → W p l e R s m args below meth c H1 locs1 (cells + mc) (slots + ms) Q (F0 m (pc + 3) ls (.double r :: rest))) : W p l e R s m args below meth c H locs cells slots Q (F0 m pc ls st0) := by
  intro T hT X
  rcases hr T hT X with ⟨v, st₀, t, T', L, h0, X', hL, e1, e2, ⟨⟨r, u, hv, hp, hb⟩, hF⟩, st⟩ | ⟨q, st₀, t, T', L, E, ce, h0, X', hL, e1, e2, ⟨u, hp, hb, hF⟩, hce, hcv, hcl, st⟩
  · cases hv
    obtain ⟨k1, k2, k3⟩ := vx_keep h0 e1 hS hA hf hL hF
    obtain ⟨t2, a1, b1⟩ := kk r u t T'.heap (locs ++ L) e1.symm (by rw [← e2]; exact X'.warmed.alike) hp hb k1 k2 k3 T' rfl X'
    exact ⟨t2, st t2 a1, b1⟩
  · obtain ⟨k1, k2, k3⟩ := vx_keep h0 e1 hS hAX hf hL hF
    obtain ⟨t2, a1, b1⟩ := kx E ce q u t T'.heap (locs ++ L) e1.symm (by rw [← e2]; exact X'.warmed.alike) hp hb k1 k2 k3 (by rw [e1]; exact hce) hcv hcl T' rfl X'
    exact ⟨t2, st.trans a1, b1⟩
theorem vx_callv {S SX : Type} {post : S → Prop} {px : SX → Prop} {B : S → State → Prop} {BX : String → SX → State → Prop} {AX : Nat → Prop} (hr : vx_Run p l e R s m args below meth c H locs cells slots mc ms (F0 m pc ls st0) rest (va_Qv post B A1 a) (vx_X px BX AX) free) (hS : va_S A0 H0 H locs) (hA : ∀ q, q < H.size → A1 q → A0 q) (hf : ∀ q, free q → A0 q) (hAX : ∀ q, q < H.size → AX q → A0 q)
    (kx : ∀ (E : String) (ce : Cell) (q9 : Addr) (u : SX) (t : State) (H1 : Heap) (locs1 : List Loc), t.heap = H1 → s.vm.Alike t.vm → px u → BX E u t → H.size ≤ H1.size → (∀ q : Nat, q < H.size → ¬ AX q → H1[q]? = H[q]?) → va_S A0 H0 H1 locs1 → H1[q9]? = some ce → ce.vm = .none → s.vm.findClass E = some ce.cls → vx_W p l e R s m args below meth c H1 locs1 (cells + mc) (slots + ms) Q (F0 m pc ls rest) q9)
    (kk : ∀ (u : S) (t : State) (H1 : Heap) (locs1 : List Loc), t.heap = H1 → s.vm.Alike t.vm → post u → B u t → H.size ≤ H1.size → (∀ q : Nat, q < H.size → ¬ A1 q → H1[q]? = H[q]?) → va_S A0 H0 H1 locs1 → W p l e R s m args below meth c H1 locs1 (cells + mc) (slots + ms) Q (F0 m (pc + 3) ls (rest))) : W p l e R s m args below meth c H locs cells slots Q (F0 m pc ls st0) := by
  intro T hT X
  rcases hr T hT X with ⟨v, st₀, t, T', L, h0, X', hL, e1, e2, ⟨⟨u, hv, hp, hb⟩, hF⟩, st⟩ | ⟨q, st₀, t, T', L, E, ce, h0, X', hL, e1, e2, ⟨u, hp, hb, hF⟩, hce, hcv, hcl, st⟩
  · cases hv
    obtain ⟨k1, k2, k3⟩ := vx_keep h0 e1 hS hA hf hL hF
    obtain ⟨t2, a1, b1⟩ := kk u t T'.heap (locs ++ L) e1.symm (by rw [← e2]; exact X'.warmed.alike) hp hb k1 k2 k3 T' rfl X'
    exact ⟨t2, st t2 a1, b1⟩
  · obtain ⟨k1, k2, k3⟩ := vx_keep h0 e1 hS hAX hf hL hF
    obtain ⟨t2, a1, b1⟩ := kx E ce q u t T'.heap (locs ++ L) e1.symm (by rw [← e2]; exact X'.warmed.alike) hp hb k1 k2 k3 (by rw [e1]; exact hce) hcv hcl T' rfl X'
    exact ⟨t2, st.trans a1, b1⟩
/-- caught by the row x of this method's table; the rows ahead don't take it -/
theorem vx_catch {own name : String} {E : String} {ce : Cell} {q : Addr} (hown : s.vm.findClass own = some m.cls) (pre : List ExceptionTableEntry) (x : ExceptionTableEntry) (suf : List ExceptionTableEntry) (hsplit : c.exceptionTable.toList = pre ++ x :: suf)
    (hpass : ∀ z ∈ pre, covers z pc = false ∨ (z.catchType ≠ 0 ∧ ∃ nm : String, (Cond.classLink own z.catchType nm).before args s = true ∧ va_Nc E nm s)) (hx : covers x pc = true) (h0 : x.catchType ≠ 0)
    (hlink : (Cond.classLink own x.catchType name).before args s = true) (hcast : (Cond.castable E name).before args s = true) (hcell : H[q]? = some ce) (hv : ce.vm = .none) (hcl : s.vm.findClass E = some ce.cls)
    (kk : W p l e R s m args below meth c H locs cells slots Q (F0 m x.handlerPc ls [.ref q])) : vx_W p l e R s m args below meth c H locs cells slots Q (F0 m pc ls rest) q := by
  intro T hT X
  have hpl : e.platform.magicAccessors = ({} : Platform).magicAccessors := by rw [X.admits.platform]
  obtain ⟨c3, c4, hc3, hc4, hasg⟩ := Cond.castable_spec hcast
  cases Option.some.inj (hc3.symm.trans hcl)
  obtain ⟨c5, hc5, hcl5⟩ := Cond.classLink_spec hown hlink e.platform hpl
  cases Option.some.inj (hc4.symm.trans hc5)
  obtain ⟨vm', X', st⟩ := X.thenCaughtThrough q (g := F0 m pc ls rest) rfl (Steps.refl _) (by rw [hT]; exact hcell) (by rw [hv]; rfl) (by obtain ⟨k9, h9, -⟩ := Vm.findClass_spec hcl; exact ⟨k9, h9⟩) pre x suf hsplit
    (fun z hz => by
      rcases hpass z hz with h | ⟨hz0, nm, hl1, hn1⟩
      · exact Or.inl h
      · obtain ⟨c6, hc6, hcl6⟩ := Cond.classLink_spec hown hl1 e.platform hpl
        obtain ⟨a8, b8, h1, h2, h3⟩ := hn1
        cases Option.some.inj (h1.symm.trans hcl)
        cases Option.some.inj (h2.symm.trans hc6)
        exact Or.inr ⟨hz0, _, hcl6, h3⟩) hx (Or.inr ⟨h0, c4, hcl5, hasg⟩)
  obtain ⟨t, a1, b1⟩ := kk (T.setVm vm') hT X'
  exact ⟨t, st.trans a1, b1⟩
end Rows
section Ends
variable {p : Program} {l : Launch} {e : Env} {R : Room} {s : State} {m : MethodId} {args : Array Value} {below : List Frame} {meth : Method} {c : Code} {H : Heap} {locs : List Loc} {cells slots : Nat} {Q : State → Prop}
variable {mc ms : Nat} {free : Addr → Prop} {A0 A1 : Nat → Prop} {H0 : Heap} {a : Array Value} {ls : Array Slot} {st0 rest : List Value}
variable {Qc : Array Value → State → Outcome → State → Prop} {XC : String → State → State → Prop}
/-- what a body that may throw owes at its end -/
def vx_MQ (below : List Frame) (Qc : Array Value → State → Outcome → State → Prop) (XC : String → State → State → Prop) (a : Array Value) (s : State) (mc ms : Nat) (free : Addr → Prop) : State → Prop := fun t =>
  ∃ o, t.status = .running ∧ Ended t below o ∧ vx_Q Qc XC mc ms free a s o t
theorem vx_ret {g : JFrame} {mc ms : Nat} (k : W p l e R s m args below meth c H locs cells slots (MQ below Qc args s mc ms free) g) : W p l e R s m args below meth c H locs cells slots (vx_MQ below Qc XC args s mc ms free) g := by
  intro T hT X
  obtain ⟨t, a1, o, b1, b2, b3, b4⟩ := k T hT X
  exact ⟨t, a1, o, b1, b2, Or.inl ⟨b3, b4⟩⟩
/-- not caught here: it goes on to the caller -/
theorem vx_widen {g : JFrame} {q : Addr} {k n : Nat} (h1 : cells ≤ k) (h2 : slots ≤ n) (kk : vx_W p l e R s m args below meth c H locs k n Q g q) : vx_W p l e R s m args below meth c H locs cells slots Q g q := fun T hT X => kk T hT (stand_widen X h1 h2)
theorem vx_out {pc : Nat} {E : String} {ce : Cell} {q : Addr} {mc ms : Nat} (hout : ∀ x ∈ c.exceptionTable.toList, covers x pc = false) (hlocks : meth.locks = false) (hcell : H[q]? = some ce) (hv : ce.vm = .none) (hcl : s.vm.findClass E = some ce.cls)
    (hx : ∀ t : State, t.heap = H → s.vm.Alike t.vm → XC E s t) (hf : ∀ z ∈ locs, free z.base) (hc : cells ≤ mc) (hs : slots ≤ ms) :
    vx_W p l e R s m args below meth c H locs cells slots (vx_MQ below Qc XC args s mc ms free) (F0 m pc ls rest) q := by
  intro T hT X
  obtain ⟨st1, hrun, hend, hW, hsm⟩ := X.leaveThrown q (g := F0 m pc ls rest) rfl rfl rfl hout hlocks
  have hcell9 : (T.setFrames (.throwing q :: below)).heap[q]? = some ce := by
    show T.heap[q]? = some ce
    rw [hT]; exact hcell
  exact ⟨_, st1, .threw q, hrun, hend, Or.inr ⟨q, rfl, E, ce, locs, hx _ hT hW.alike, hcell9, hv, hcl, hW, hsm.mono hc hs, hf⟩⟩
theorem vx_frame {U : State} {k n : Nat} (h : s.sameButNew ({ U with vm := s.vm } : State) locs k n) : s.heap.size ≤ U.heap.size ∧ ∀ q : Nat, q < s.heap.size → (∀ z ∈ locs, z.base ≠ q) → U.heap[q]? = s.heap[q]? := by
  obtain ⟨-, h2, -, -, -, h6⟩ := h
  refine ⟨h2, fun q hq hz => ?_⟩
  obtain ⟨c9, e1, e2, e3, e4⟩ := h6 q _ (Array.getElem?_eq_getElem hq)
  have hs : c9.slots = (s.heap[q]).slots := Array.ext_getElem? fun i => e4 i fun hm => hz _ hm rfl
  have h9 : c9 = s.heap[q] := by
    rw [hs] at e2
    exact e2
  have e5 : U.heap[q]? = some c9 := e1
  rw [e5, h9, Array.getElem?_eq_getElem hq]
/-- the words of a throw but the four that speak of the heap -/
def vx_no (w : Cond) : Bool := decide (w ≠ .isRef (.static Bundle.tN "UNASSIGNED_STACK" Bundle.steD)) && decide (w ≠ .isRef (.static Bundle.tN "SUPPRESSED_SENTINEL" Bundle.listD)) && decide (w ≠ .laysStatic Bundle.tN "UNASSIGNED_STACK" Bundle.steD) && decide (w ≠ .laysStatic Bundle.tN "SUPPRESSED_SENTINEL" Bundle.listD)
def vx_at0 (own : String) (ic : Nat) (X : String) (names : List String) : List Cond := (Bundle.ownAtoms0 own ic X names).filter vx_no
def vx_atS (own : String) (ic : Nat) (X : String) (names : List String) : List Cond := (Bundle.ownAtoms own ic X names).filter vx_no
/-- a word that the tables alone decide, or a good one -/
def vx_ot (w : Cond) : Bool := w.onTables || goodWord w
theorem vx_ot_at {args a' : Array Value} {s U : State} {w : Cond} (hW : s.WarmedH U.vm) (hvm : s.vm = U.vm) (hg : vx_ot w = true) (h : w.before args s = true) : w.before a' U = true := by
  simp only [vx_ot, Bool.or_eq_true] at hg
  rcases hg with hg | hg
  · exact va_tabs hg hvm h
  · exact word_at hW (good_of_word hg) h
/-- a list's words: the good ones out of the method's own list, the others by premises of their own -/
theorem vx_hat {args : Array Value} {s : State} {L B : List Cond} (h1 : ∀ w ∈ L.filter goodWord, w.before args s = true) (h2 : ∀ w ∈ L.filter (fun w => !goodWord w), w ∈ B) (h3 : ∀ w ∈ B, w.before args s = true) : ∀ w ∈ L, w.before args s = true := by
  intro w hw
  by_cases g : goodWord w = true
  · exact h1 w (List.mem_filter.mpr ⟨hw, g⟩)
  · refine h3 w (h2 w (List.mem_filter.mpr ⟨hw, ?_⟩))
    show (!goodWord w) = true
    cases hgw : goodWord w
    · rfl
    · exact absurd hgw g
theorem vx_c {args : Array Value} {s : State} {w : Cond} {B : List Cond} (h : w.before args s = true) (t : ∀ w ∈ B, w.before args s = true) : ∀ w' ∈ w :: B, w'.before args s = true := fun w' h' => (List.mem_cons.mp h').elim (fun e => by rw [e]; exact h) (t w')
theorem vx_n {args : Array Value} {s : State} : ∀ w ∈ ([] : List Cond), w.before args s = true := fun _ h => nomatch h
theorem vx_own {args : Array Value} {s : State} {L : List Cond} (h1 : ∀ w ∈ L.filter vx_no, w.before args s = true)
    (hU : (Cond.isRef (.static Bundle.tN "UNASSIGNED_STACK" Bundle.steD)).before args s = true) (hN : (Cond.isRef (.static Bundle.tN "SUPPRESSED_SENTINEL" Bundle.listD)).before args s = true)
    (lU : (Cond.laysStatic Bundle.tN "UNASSIGNED_STACK" Bundle.steD).before args s = true) (lN : (Cond.laysStatic Bundle.tN "SUPPRESSED_SENTINEL" Bundle.listD).before args s = true) : ∀ w ∈ L, w.before args s = true := by
  intro w hw
  by_cases e1 : w = .isRef (.static Bundle.tN "UNASSIGNED_STACK" Bundle.steD)
  · rw [e1]; exact hU
  · by_cases e2 : w = .isRef (.static Bundle.tN "SUPPRESSED_SENTINEL" Bundle.listD)
    · rw [e2]; exact hN
    · by_cases e3 : w = .laysStatic Bundle.tN "UNASSIGNED_STACK" Bundle.steD
      · rw [e3]; exact lU
      · by_cases e4 : w = .laysStatic Bundle.tN "SUPPRESSED_SENTINEL" Bundle.listD
        · rw [e4]; exact lN
        · exact h1 w (List.mem_filter.mpr ⟨hw, by unfold vx_no; rw [decide_eq_true e1, decide_eq_true e2, decide_eq_true e3, decide_eq_true e4]; rfl⟩)
/-- where a static field lies, its class's statics cell in H -/
def vx_L (C n d : String) (A : Nat → Prop) (U : State) (H : Heap) : Prop := ∃ (c : ClassId) (k : Class) (i : Nat) (f : Field) (a : Nat) (cell : Cell), U.vm.findClass C = some c ∧ U.fieldFound? C n d = some (c, k, i, f) ∧ f.isStatic = true ∧ k.statics = some a ∧ H[a]? = some cell ∧ cell.vm.isStatics = true ∧ cell.cls = c ∧ f.slot < cell.slots.size ∧ k.staticTypes[f.slot]? = some f.type ∧ ¬ A a
theorem vx_L.moved {C n d : String} {A : Nat → Prop} {u U : State} {H : Heap} (hvm : u.vm.Alike U.vm) (h : vx_L C n d A u H) : vx_L C n d A U H := by
  obtain ⟨c, k, i, f, a, cell, h1, h2, h3, h4, h5, h6, h7, h8, h9, h10⟩ := h
  obtain ⟨k', hi', he⟩ := State.fieldFound?_setVm hvm h2
  exact ⟨c, k', i, f, a, cell, by rw [hvm.findClass]; exact h1, hi', h3, by rw [he]; exact h4, h5, h6, h7, h8, by rw [he]; exact h9, h10⟩
theorem vx_L.kept {C n d : String} {A : Nat → Prop} {U : State} {H H1 : Heap} (h : vx_L C n d A U H) (hq : ∀ a : Nat, a < H.size → ¬ A a → H1[a]? = H[a]?) : vx_L C n d A U H1 := by
  obtain ⟨c, k, i, f, a, cell, h1, h2, h3, h4, h5, h6, h7, h8, h9, h10⟩ := h
  exact ⟨c, k, i, f, a, cell, h1, h2, h3, h4, by rw [hq a (Array.getElem?_eq_some_iff.mp h5).1 h10]; exact h5, h6, h7, h8, h9, h10⟩
theorem vx_L.narrow {C n d : String} {A B : Nat → Prop} {U : State} {H : Heap} (h : vx_L C n d A U H) (hAB : ∀ q, B q → A q) : vx_L C n d B U H := by
  obtain ⟨c, k, i, f, a, cell, h1, h2, h3, h4, h5, h6, h7, h8, h9, h10⟩ := h
  exact ⟨c, k, i, f, a, cell, h1, h2, h3, h4, h5, h6, h7, h8, h9, fun z => h10 (hAB _ z)⟩
theorem vx_L.word {C n d : String} {A : Nat → Prop} {s : State} {args : Array Value} (h : vx_L C n d A s s.heap) : (Cond.laysStatic C n d).before args s = true := by
  obtain ⟨c, k, i, f, a, cell, h1, h2, h3, h4, h5, h6, h7, h8, h9, -⟩ := h
  show (Cond.laysStatic C n d).holds args s none s [] = true
  exact Cond.laysStatic_of h1 h2 h3 h4 h5 h6 h7 h8 h9
/-- .. and what it holds: null or some reference -/
def vx_Zq (C n d : String) (A : Nat → Prop) (U : State) (H : Heap) : Prop := va_Zq C n d A U H ∧ vx_L C n d A U H
theorem vx_Zq.moved {C n d : String} {A : Nat → Prop} {u U : State} {H : Heap} (hvm : u.vm.Alike U.vm) (h : vx_Zq C n d A u H) : vx_Zq C n d A U H := ⟨va_Zq.moved hvm h.1, vx_L.moved hvm h.2⟩
theorem vx_Zq.kept {C n d : String} {A : Nat → Prop} {U : State} {H H1 : Heap} (h : vx_Zq C n d A U H) (hq : ∀ a : Nat, a < H.size → ¬ A a → H1[a]? = H[a]?) : vx_Zq C n d A U H1 := ⟨va_Zq.kept h.1 hq, vx_L.kept h.2 hq⟩
theorem vx_Zq.narrow {C n d : String} {A B : Nat → Prop} {U : State} {H : Heap} (h : vx_Zq C n d A U H) (hAB : ∀ q, B q → A q) : vx_Zq C n d B U H := ⟨va_Zq.narrow h.1 hAB, vx_L.narrow h.2 hAB⟩
theorem vx_Zqof {args : Array Value} {s : State} {C n d : String} {A : Nat → Prop} (hl : (Cond.laysStatic C n d).before args s = true) (hini : (Cond.initialized C).before args s = true) (h : (Cond.isRef (.static C n d)).before args s = true) (hA : ∀ a : Nat, a < s.heap.size → ¬ A a) : vx_Zq C n d A s s.heap := by
  refine ⟨va_Zqof hl hini h hA, ?_⟩
  obtain ⟨c, k, i, f, a, cell, h1, h2, h3, h4, h5, h6, h7, h8, h9⟩ := Cond.laysStatic_spec hl
  exact ⟨c, k, i, f, a, cell, h1, h2, h3, h4, h5, h6, h7, h8, h9, hA a (Array.getElem?_eq_some_iff.mp h5).1⟩
theorem vx_isRef {C n d : String} {v : Value} {A : Nat → Prop} {s : State} {args : Array Value} (h : va_Z C n d v A s s.heap) (hv : v.isRef = true) : (Cond.isRef (.static C n d)).before args s = true := by
  obtain ⟨cf, kf, fi, f, a, cell, h1, h2, h3, h4, h5, h6, h7, -⟩ := h
  have he : (Term.static C n d).eval args s none [] s = some v := by
    simp [Term.eval, State.fieldNamed?, h1, h2, h4, h5, h6, h7]
  simp only [Cond.before, Cond.holds, Cond.value, he]
  cases v <;> simp_all [Value.isRef]
theorem vx_isRefq {C n d : String} {A : Nat → Prop} {s : State} {args : Array Value} (h : va_Zq C n d A s s.heap) : (Cond.isRef (.static C n d)).before args s = true := by
  rcases h with h | ⟨t, h⟩
  · exact vx_isRef h rfl
  · exact vx_isRef h rfl
/-- the same frame, seen from here: as if the method were called anew in this heap -/
theorem vx_rebase {T : State} (X : Stand p l e R s m args below meth c T locs cells slots) {R' : Room} (hf : R'.frames ≤ R.frames) (hl : R'.locals ≤ R.locals) (hc : cells + R'.cells ≤ R.cells) (hs : slots + R'.slots ≤ R.slots) :
    Stand p l e R' ((T.setVm s.vm).setFrames (.invoking m args :: below)) m args below meth c T [] 0 0 := by
  have htop : (T.setVm s.vm).topJava?.isSome := X.here.top
  have hF : ((T.setVm s.vm).setFrames (.invoking m args :: below)).frames = .invoking m args :: below := State.frames_setFrames _ (State.cur_lt_of_top htop)
  obtain ⟨g₀, hg0⟩ := Option.isSome_iff_exists.mp htop
  obtain ⟨r, hr⟩ := State.topJava?_eq_some.mp hg0
  have hl9 : e.platform.stackLimits (T.setVm s.vm).me = e.platform.stackLimits s.me := X.limits
  have hb9 : (T.setVm s.vm).me.stackBytes = s.me.stackBytes := X.bytes
  refine ⟨X.admits, X.cas, X.clock, hF, ?_, X.hears, X.method, X.code, X.here, X.tail, X.warmed, ?_, ?_, ?_⟩
  · have h := X.room
    have hU : ((T.setVm s.vm).setFrames (.invoking m args :: below)).localsInUse = s.localsInUse := by
      rw [State.localsInUse_invoking hF (meth := meth) (c := c) X.method X.code, State.localsInUse_invoking X.frames X.method X.code]
    simp only [State.hasRoom, Bool.and_eq_true, decide_eq_true_eq] at h ⊢
    obtain ⟨⟨⟨⟨h1, h2, h3, h4, h5, h6⟩, h7⟩, h8⟩, h9⟩ := h
    rw [X.frames, List.length_cons] at h2 h3
    have q1 := X.heapSize
    have q2 := X.used
    simp only [hF, hU, List.length_cons, State.stackLimits_setFrames, State.stackBytes_setFrames, hl9, hb9]
    refine ⟨⟨⟨⟨by omega, by omega, by omega, by omega, by omega, h6⟩, ?_⟩, ?_⟩, X.book⟩
    · show T.heap.size + R'.cells ≤ e.platform.maxCells
      omega
    · show T.slotsUsed + R'.slots ≤ e.platform.maxSlots
      omega
  · rw [State.stackLimits_setFrames]; rfl
  · rw [State.stackBytes_setFrames]; rfl
  · refine ⟨?_, Nat.le_refl _, Nat.le_refl _, ?_, ?_, fun a c9 h9 => ⟨c9, h9, rfl, rfl, fun _ _ => rfl⟩⟩
    · obtain ⟨t, ht, -⟩ := State.frames_cons hr
      show T.setVm s.vm = { ((T.setVm s.vm).setFrames (.invoking m args :: below)).setFrames (T.setVm s.vm).frames with heap := T.heap, slotsUsed := T.slotsUsed }
      rw [State.setFrames_setFrames, State.setFrames_self ht]
      rfl
    · show T.slotsUsed = T.slotsUsed + ((T.heap.toList.drop T.heap.size).map (·.slots.size)).sum
      rw [List.drop_eq_nil_of_le (Nat.le_of_eq Array.length_toList)]
      rfl
    · show ((T.heap.toList.drop T.heap.size).map (·.slots.size)).sum ≤ 0
      rw [List.drop_eq_nil_of_le (Nat.le_of_eq Array.length_toList)]
      exact Nat.le_refl _
/-- 'throw new E()': new; dup; invokespecial; athrow -/
theorem vx_throw0 {cc : ByteArray} {pc : Nat} (hexec : p.tables.exec = Jvm.exec) (hb : c.code = cc) (hl : l.stackTraces = false) {own cls : String} {names : List String} {ik ic mc ms : Nat} {A : Nat → Prop}
    (hown : s.vm.findClass own = some m.cls) (hcls : Bundle.fit cls = true) (hnames : ∀ n ∈ names, Bundle.fit n = true)
    (hk : (Cond.classLink own ik cls).before args s = true) (hini : (Cond.initialized cls).before args s = true) (hat : ∀ w ∈ vx_at0 own ic cls names, w.before args s = true)
    (hgood : ∀ w ∈ Cond.classLink own ik cls :: Cond.initialized cls :: vx_at0 own ic cls names, vx_ot w = true)
    (hU : vx_Zq Bundle.tN "UNASSIGNED_STACK" Bundle.steD A s s.heap) (hN : vx_Zq Bundle.tN "SUPPRESSED_SENTINEL" Bundle.listD A s s.heap) (hS : va_S A s.heap H locs) (hsize : ls.size = c.maxLocals)
    (d0 : decode cc pc = .ok (.new ik, 3)) (d3 : decode cc (pc + 3) = .ok (.dup, 1)) (d4 : decode cc (pc + 4) = .ok (.invokespecial ic, 3)) (d7 : decode cc (pc + 7) = .ok (.athrow, 1))
    (hout : ∀ x ∈ c.exceptionTable.toList, covers x (pc + 7) = false)
    (hRframes : names.length + 3 < R.frames) (hRlocals : (rest.map fun v => v.category).sum + (13 * (names.length + 1) + 42) ≤ R.locals) (hRcells : cells + 1 ≤ R.cells) (hRslots : slots + 6 ≤ R.slots) (hlocks : meth.locks = false)
    (hx : ∀ t : State, s.vm.Alike t.vm → H.size ≤ t.heap.size → (∀ q : Nat, q < H.size → t.heap[q]? = H[q]?) → XC cls s t)
    (hf : ∀ z ∈ locs, free z.base) (hc : cells + 1 ≤ mc) (hs : slots + 6 ≤ ms) :
    W p l e R s m args below meth c H locs cells slots (vx_MQ below Qc XC args s mc ms free) (F0 m pc ls rest) := by
  intro T hT X
  have htr : e.platform.stackTraces = false := (show e.platform.stackTraces = l.stackTraces by rw [X.admits.platform]).trans hl
  have Y := vx_rebase X (R' := { frames := R.frames, locals := R.locals, cells := 1, slots := 6 }) (Nat.le_refl _) (Nat.le_refl _) hRcells hRslots
  obtain ⟨s', hA⟩ : ∃ z, z = (T.setVm s.vm).setFrames (.invoking m args :: below) := ⟨_, rfl⟩
  rw [← hA] at Y
  have hvm : s'.vm = s.vm := by rw [hA]; rfl
  have hhp : s'.heap = H := by rw [hA]; exact hT
  have hW0 : s.WarmedH s'.vm := by rw [hvm]; exact State.WarmedH.refl s
  have hat' : ∀ w ∈ vx_at0 own ic cls names, w.before args s' = true := fun w hw => vx_ot_at hW0 hvm.symm (hgood w (List.mem_cons_of_mem _ (List.mem_cons_of_mem _ hw))) (hat w hw)
  have hk' : (Cond.classLink own ik cls).before args s' = true := vx_ot_at hW0 hvm.symm (hgood _ List.mem_cons_self) hk
  have hini' : (Cond.initialized cls).before args s' = true := vx_ot_at hW0 hvm.symm (hgood _ (List.mem_cons_of_mem _ List.mem_cons_self)) hini
  have hU' : vx_Zq Bundle.tN "UNASSIGNED_STACK" Bundle.steD A s' s'.heap := by rw [hhp]; exact vx_Zq.moved hW0.alike (hU.kept hS.2.1)
  have hN' : vx_Zq Bundle.tN "SUPPRESSED_SENTINEL" Bundle.listD A s' s'.heap := by rw [hhp]; exact vx_Zq.moved hW0.alike (hN.kept hS.2.1)
  have h : ∀ w ∈ Bundle.ownAtoms0 own ic cls names, w.before args s' = true := vx_own hat' (vx_isRefq hU'.1) (vx_isRefq hN'.1) hU'.2.word hN'.2.word
  have hown' : s'.vm.findClass own = some m.cls := by rw [hvm]; exact hown
  have hins : (Cond.instantiable cls 6).before args s' = true := h _ (by simp [Bundle.ownAtoms0])
  obtain ⟨vm₁, cX, kX, hfX, hkX, -, -, X₁, st1⟩ := Y.newCold hexec (own := own) (C := cls) (index := ik) (n := 6) hown' hk' hins hini'
    (g := F0 m pc ls rest) rfl (by rw [hb]; exact d0) (Nat.le_refl _) (Nat.le_refl _)
  generalize hT1 : (T.setVm vm₁).pushCell { cls := cX, slots := kX.instanceTypes.map defaultValue, vm := .none } = T1 at X₁ st1
  have hcat : (Value.ref T.heap.size).category = 1 := rfl
  have hcellA : T1.heap[T.heap.size]? = some (freshCell cX kX) := by rw [← hT1]; exact State.heap_pushCell_size _ _
  have d3' : decode c.code (pc + 3) = .ok (.dup, 1) := by rw [hb]; exact d3
  obtain ⟨U, hsteps, hrun, hend, hW, hsame, ce, hce, hO⟩ := X₁.ctorThrow0 hexec htr (own := own) (cls := cls) (names := names) (ic := ic) hown' hcls hnames h (fun x hx => nomatch hx) hfX hkX hcellA (by rw [hhp, hT]; exact Nat.le_refl _)
    (g := { method := m, pc := pc + 4, locals := ls, stack := .ref T.heap.size :: .ref T.heap.size :: rest, locked := none }) rfl hsize rfl rfl (rest := rest) rfl
    (by rw [hb]; exact d4) (by rw [hb]; exact d7) hout hRframes (by simp only [List.map_cons, List.sum_cons, hcat]; omega) hlocks
  obtain ⟨f1, f2⟩ := vx_frame hsame
  rw [hhp] at f1 f2
  have hWs : s.WarmedH U.vm := State.WarmedH.trans hW0 hW
  have hcl : s.vm.findClass cls = some ce.cls := by
    have h9 := hO.cls
    rw [hvm] at h9
    exact h9
  have hall : s.sameButNew ({ U with vm := s.vm } : State) locs mc ms := by
    subst hA
    obtain ⟨e1, e2⟩ := hsame
    rw [State.setFrames_setFrames] at e1
    have h2 : (T.setVm s.vm).sameButNew ({ U with vm := s.vm } : State) [] (0 + 1) (0 + 6) := ⟨e1, e2⟩
    have h3 := X.same.trans h2
    rw [List.append_nil] at h3
    exact h3.mono hc hs
  refine ⟨U, ?_, .threw T.heap.size, hrun, hend, Or.inr ⟨T.heap.size, rfl, cls, ce, locs, hx U hWs.alike f1 (fun q hq => f2 q hq (fun z hz => nomatch hz)), hce, hO.vm, hcl, hWs, hall, hf⟩⟩
  refine st1 _ ?_
  show Steps p.tables e below (T1.setTop { method := m, pc := pc + 3, locals := ls, stack := .ref T.heap.size :: rest, locked := none }) _
  jvm_step X₁.here [X₁.here.top, hexec, d3', Value.category]
  exact hsteps
/-- 'throw new E("text")': new; dup; ldc; invokespecial; athrow -/
theorem vx_throwS {cc : ByteArray} {pc : Nat} (hexec : p.tables.exec = Jvm.exec) (hb : c.code = cc) (hl : l.stackTraces = false) {own cls text : String} {names : List String} {ik is ic mc ms sa : Nat} {A : Nat → Prop}
    (hown : s.vm.findClass own = some m.cls) (hcls : Bundle.fit cls = true) (hnames : ∀ n ∈ names, Bundle.fit n = true)
    (hk : (Cond.classLink own ik cls).before args s = true) (hini : (Cond.initialized cls).before args s = true) (hstr : vk_R own is text sa s) (hat : ∀ w ∈ vx_atS own ic cls names, w.before args s = true)
    (hgood : ∀ w ∈ Cond.classLink own ik cls :: Cond.initialized cls :: vx_atS own ic cls names, vx_ot w = true)
    (hU : vx_Zq Bundle.tN "UNASSIGNED_STACK" Bundle.steD A s s.heap) (hN : vx_Zq Bundle.tN "SUPPRESSED_SENTINEL" Bundle.listD A s s.heap) (hS : va_S A s.heap H locs) (hsize : ls.size = c.maxLocals)
    (d0 : decode cc pc = .ok (.new ik, 3)) (d3 : decode cc (pc + 3) = .ok (.dup, 1)) (d4 : decode cc (pc + 4) = .ok (.ldc is, 2)) (d6 : decode cc (pc + 6) = .ok (.invokespecial ic, 3)) (d9 : decode cc (pc + 9) = .ok (.athrow, 1))
    (hout : ∀ x ∈ c.exceptionTable.toList, covers x (pc + 9) = false)
    (hRframes : names.length + 3 < R.frames) (hRlocals : (rest.map fun v => v.category).sum + (13 * (names.length + 1) + 43) ≤ R.locals) (hRcells : cells + 1 ≤ R.cells) (hRslots : slots + 6 ≤ R.slots) (hlocks : meth.locks = false)
    (hx : ∀ t : State, s.vm.Alike t.vm → H.size ≤ t.heap.size → (∀ q : Nat, q < H.size → t.heap[q]? = H[q]?) → XC cls s t)
    (hf : ∀ z ∈ locs, free z.base) (hc : cells + 1 ≤ mc) (hs : slots + 6 ≤ ms) :
    W p l e R s m args below meth c H locs cells slots (vx_MQ below Qc XC args s mc ms free) (F0 m pc ls rest) := by
  intro T hT X
  have htr : e.platform.stackTraces = false := (show e.platform.stackTraces = l.stackTraces by rw [X.admits.platform]).trans hl
  have Y := vx_rebase X (R' := { frames := R.frames, locals := R.locals, cells := 1, slots := 6 }) (Nat.le_refl _) (Nat.le_refl _) hRcells hRslots
  obtain ⟨s', hA⟩ : ∃ z, z = (T.setVm s.vm).setFrames (.invoking m args :: below) := ⟨_, rfl⟩
  rw [← hA] at Y
  have hvm : s'.vm = s.vm := by rw [hA]; rfl
  have hhp : s'.heap = H := by rw [hA]; exact hT
  have hW0 : s.WarmedH s'.vm := by rw [hvm]; exact State.WarmedH.refl s
  have hat' : ∀ w ∈ vx_atS own ic cls names, w.before args s' = true := fun w hw => vx_ot_at hW0 hvm.symm (hgood w (List.mem_cons_of_mem _ (List.mem_cons_of_mem _ hw))) (hat w hw)
  have hk' : (Cond.classLink own ik cls).before args s' = true := vx_ot_at hW0 hvm.symm (hgood _ List.mem_cons_self) hk
  have hini' : (Cond.initialized cls).before args s' = true := vx_ot_at hW0 hvm.symm (hgood _ (List.mem_cons_of_mem _ List.mem_cons_self)) hini
  have hU' : vx_Zq Bundle.tN "UNASSIGNED_STACK" Bundle.steD A s' s'.heap := by rw [hhp]; exact vx_Zq.moved hW0.alike (hU.kept hS.2.1)
  have hN' : vx_Zq Bundle.tN "SUPPRESSED_SENTINEL" Bundle.listD A s' s'.heap := by rw [hhp]; exact vx_Zq.moved hW0.alike (hN.kept hS.2.1)
  have h : ∀ w ∈ Bundle.ownAtoms own ic cls names, w.before args s' = true := vx_own hat' (vx_isRefq hU'.1) (vx_isRefq hN'.1) hU'.2.word hN'.2.word
  have hown' : s'.vm.findClass own = some m.cls := by rw [hvm]; exact hown
  have hins : (Cond.instantiable cls 6).before args s' = true := h _ (by simp [Bundle.ownAtoms])
  obtain ⟨vm₁, cX, kX, hfX, hkX, -, -, X₁, st1⟩ := Y.newCold hexec (own := own) (C := cls) (index := ik) (n := 6) hown' hk' hins hini'
    (g := F0 m pc ls rest) rfl (by rw [hb]; exact d0) (Nat.le_refl _) (Nat.le_refl _)
  generalize hT1 : (T.setVm vm₁).pushCell { cls := cX, slots := kX.instanceTypes.map defaultValue, vm := .none } = T1 at X₁ st1
  have hcat : (Value.ref T.heap.size).category = 1 := rfl
  have hcellA : T1.heap[T.heap.size]? = some (freshCell cX kX) := by rw [← hT1]; exact State.heap_pushCell_size _ _
  have d3' : decode c.code (pc + 3) = .ok (.dup, 1) := by rw [hb]; exact d3
  have d4' : decode c.code (pc + 4) = .ok (.ldc is, 2) := by rw [hb]; exact d4
  have hstr' : vk_R own is text sa s' := vk_R.warm hW0 hstr
  obtain ⟨U, hsteps, hrun, hend, hW, hsame, ce, hce, hO⟩ := X₁.ctorThrowS hexec htr (own := own) (cls := cls) (names := names) (ic := ic) hown' hcls hnames h (fun x hx => nomatch hx) hfX hkX hcellA (by rw [hhp, hT]; exact Nat.le_refl _) (msg := .ref sa) rfl
    (g := { method := m, pc := pc + 6, locals := ls, stack := .ref sa :: .ref T.heap.size :: .ref T.heap.size :: rest, locked := none }) rfl hsize rfl rfl (rest := rest) rfl
    (by rw [hb]; exact d6) (by rw [hb]; exact d9) hout hRframes (by simp only [List.map_cons, List.sum_cons, hcat]; omega) hlocks
  obtain ⟨f1, f2⟩ := vx_frame hsame
  rw [hhp] at f1 f2
  have hWs : s.WarmedH U.vm := State.WarmedH.trans hW0 hW
  have hcl : s.vm.findClass cls = some ce.cls := by
    have h9 := hO.cls
    rw [hvm] at h9
    exact h9
  have hall : s.sameButNew ({ U with vm := s.vm } : State) locs mc ms := by
    subst hA
    obtain ⟨e1, e2⟩ := hsame
    rw [State.setFrames_setFrames] at e1
    have h2 : (T.setVm s.vm).sameButNew ({ U with vm := s.vm } : State) [] (0 + 1) (0 + 6) := ⟨e1, e2⟩
    have h3 := X.same.trans h2
    rw [List.append_nil] at h3
    exact h3.mono hc hs
  refine ⟨U, ?_, .threw T.heap.size, hrun, hend, Or.inr ⟨T.heap.size, rfl, cls, ce, locs, hx U hWs.alike f1 (fun q hq => f2 q hq (fun z hz => nomatch hz)), hce, hO.vm, hcl, hWs, hall, hf⟩⟩
  refine st1 _ ?_
  show Steps p.tables e below (T1.setTop { method := m, pc := pc + 3, locals := ls, stack := .ref T.heap.size :: rest, locked := none }) _
  jvm_step X₁.here [X₁.here.top, hexec, d3', Value.category]
  exact X₁.ldcString hexec (own := own) (text := text) (index := is) (a := sa) hown' hstr'.1 hstr'.2
    (g := { method := m, pc := pc + 4, locals := ls, stack := .ref T.heap.size :: .ref T.heap.size :: rest, locked := none }) rfl d4' _ hsteps
/-- 'throw new E("text")', the text by a wide index -/
theorem vx_throwSW {cc : ByteArray} {pc : Nat} (hexec : p.tables.exec = Jvm.exec) (hb : c.code = cc) (hl : l.stackTraces = false) {own cls text : String} {names : List String} {ik is ic mc ms sa : Nat} {A : Nat → Prop}
    (hown : s.vm.findClass own = some m.cls) (hcls : Bundle.fit cls = true) (hnames : ∀ n ∈ names, Bundle.fit n = true)
    (hk : (Cond.classLink own ik cls).before args s = true) (hini : (Cond.initialized cls).before args s = true) (hstr : vk_R own is text sa s) (hat : ∀ w ∈ vx_atS own ic cls names, w.before args s = true)
    (hgood : ∀ w ∈ Cond.classLink own ik cls :: Cond.initialized cls :: vx_atS own ic cls names, vx_ot w = true)
    (hU : vx_Zq Bundle.tN "UNASSIGNED_STACK" Bundle.steD A s s.heap) (hN : vx_Zq Bundle.tN "SUPPRESSED_SENTINEL" Bundle.listD A s s.heap) (hS : va_S A s.heap H locs) (hsize : ls.size = c.maxLocals)
    (d0 : decode cc pc = .ok (.new ik, 3)) (d3 : decode cc (pc + 3) = .ok (.dup, 1)) (d4 : decode cc (pc + 4) = .ok (.ldc_w is, 3)) (d7 : decode cc (pc + 7) = .ok (.invokespecial ic, 3)) (d10 : decode cc (pc + 10) = .ok (.athrow, 1))
    (hout : ∀ x ∈ c.exceptionTable.toList, covers x (pc + 10) = false)
    (hRframes : names.length + 3 < R.frames) (hRlocals : (rest.map fun v => v.category).sum + (13 * (names.length + 1) + 43) ≤ R.locals) (hRcells : cells + 1 ≤ R.cells) (hRslots : slots + 6 ≤ R.slots) (hlocks : meth.locks = false)
    (hx : ∀ t : State, s.vm.Alike t.vm → H.size ≤ t.heap.size → (∀ q : Nat, q < H.size → t.heap[q]? = H[q]?) → XC cls s t)
    (hf : ∀ z ∈ locs, free z.base) (hc : cells + 1 ≤ mc) (hs : slots + 6 ≤ ms) :
    W p l e R s m args below meth c H locs cells slots (vx_MQ below Qc XC args s mc ms free) (F0 m pc ls rest) := by
  intro T hT X
  have htr : e.platform.stackTraces = false := (show e.platform.stackTraces = l.stackTraces by rw [X.admits.platform]).trans hl
  have Y := vx_rebase X (R' := { frames := R.frames, locals := R.locals, cells := 1, slots := 6 }) (Nat.le_refl _) (Nat.le_refl _) hRcells hRslots
  obtain ⟨s', hA⟩ : ∃ z, z = (T.setVm s.vm).setFrames (.invoking m args :: below) := ⟨_, rfl⟩
  rw [← hA] at Y
  have hvm : s'.vm = s.vm := by rw [hA]; rfl
  have hhp : s'.heap = H := by rw [hA]; exact hT
  have hW0 : s.WarmedH s'.vm := by rw [hvm]; exact State.WarmedH.refl s
  have hat' : ∀ w ∈ vx_atS own ic cls names, w.before args s' = true := fun w hw => vx_ot_at hW0 hvm.symm (hgood w (List.mem_cons_of_mem _ (List.mem_cons_of_mem _ hw))) (hat w hw)
  have hk' : (Cond.classLink own ik cls).before args s' = true := vx_ot_at hW0 hvm.symm (hgood _ List.mem_cons_self) hk
  have hini' : (Cond.initialized cls).before args s' = true := vx_ot_at hW0 hvm.symm (hgood _ (List.mem_cons_of_mem _ List.mem_cons_self)) hini
  have hU' : vx_Zq Bundle.tN "UNASSIGNED_STACK" Bundle.steD A s' s'.heap := by rw [hhp]; exact vx_Zq.moved hW0.alike (hU.kept hS.2.1)
  have hN' : vx_Zq Bundle.tN "SUPPRESSED_SENTINEL" Bundle.listD A s' s'.heap := by rw [hhp]; exact vx_Zq.moved hW0.alike (hN.kept hS.2.1)
  have h : ∀ w ∈ Bundle.ownAtoms own ic cls names, w.before args s' = true := vx_own hat' (vx_isRefq hU'.1) (vx_isRefq hN'.1) hU'.2.word hN'.2.word
  have hown' : s'.vm.findClass own = some m.cls := by rw [hvm]; exact hown
  have hins : (Cond.instantiable cls 6).before args s' = true := h _ (by simp [Bundle.ownAtoms])
  obtain ⟨vm₁, cX, kX, hfX, hkX, -, -, X₁, st1⟩ := Y.newCold hexec (own := own) (C := cls) (index := ik) (n := 6) hown' hk' hins hini'
    (g := F0 m pc ls rest) rfl (by rw [hb]; exact d0) (Nat.le_refl _) (Nat.le_refl _)
  generalize hT1 : (T.setVm vm₁).pushCell { cls := cX, slots := kX.instanceTypes.map defaultValue, vm := .none } = T1 at X₁ st1
  have hcat : (Value.ref T.heap.size).category = 1 := rfl
  have hcellA : T1.heap[T.heap.size]? = some (freshCell cX kX) := by rw [← hT1]; exact State.heap_pushCell_size _ _
  have d3' : decode c.code (pc + 3) = .ok (.dup, 1) := by rw [hb]; exact d3
  have d4' : decode c.code (pc + 4) = .ok (.ldc_w is, 3) := by rw [hb]; exact d4
  have hstr' : vk_R own is text sa s' := vk_R.warm hW0 hstr
  obtain ⟨U, hsteps, hrun, hend, hW, hsame, ce, hce, hO⟩ := X₁.ctorThrowS hexec htr (own := own) (cls := cls) (names := names) (ic := ic) hown' hcls hnames h (fun x hx => nomatch hx) hfX hkX hcellA (by rw [hhp, hT]; exact Nat.le_refl _) (msg := .ref sa) rfl
    (g := { method := m, pc := pc + 7, locals := ls, stack := .ref sa :: .ref T.heap.size :: .ref T.heap.size :: rest, locked := none }) rfl hsize rfl rfl (rest := rest) rfl
    (by rw [hb]; exact d7) (by rw [hb]; exact d10) hout hRframes (by simp only [List.map_cons, List.sum_cons, hcat]; omega) hlocks
  obtain ⟨f1, f2⟩ := vx_frame hsame
  rw [hhp] at f1 f2
  have hWs : s.WarmedH U.vm := State.WarmedH.trans hW0 hW
  have hcl : s.vm.findClass cls = some ce.cls := by
    have h9 := hO.cls
    rw [hvm] at h9
    exact h9
  have hall : s.sameButNew ({ U with vm := s.vm } : State) locs mc ms := by
    subst hA
    obtain ⟨e1, e2⟩ := hsame
    rw [State.setFrames_setFrames] at e1
    have h2 : (T.setVm s.vm).sameButNew ({ U with vm := s.vm } : State) [] (0 + 1) (0 + 6) := ⟨e1, e2⟩
    have h3 := X.same.trans h2
    rw [List.append_nil] at h3
    exact h3.mono hc hs
  refine ⟨U, ?_, .threw T.heap.size, hrun, hend, Or.inr ⟨T.heap.size, rfl, cls, ce, locs, hx U hWs.alike f1 (fun q hq => f2 q hq (fun z hz => nomatch hz)), hce, hO.vm, hcl, hWs, hall, hf⟩⟩
  refine st1 _ ?_
  show Steps p.tables e below (T1.setTop { method := m, pc := pc + 3, locals := ls, stack := .ref T.heap.size :: rest, locked := none }) _
  jvm_step X₁.here [X₁.here.top, hexec, d3', Value.category]
  exact X₁.ldcStringW hexec (own := own) (text := text) (index := is) (a := sa) hown' hstr'.1 hstr'.2
    (g := { method := m, pc := pc + 4, locals := ls, stack := .ref T.heap.size :: .ref T.heap.size :: rest, locked := none }) rfl d4' _ hsteps
end Ends
section Bodies
variable {l : Launch}
theorem vx_ofW {y : MethodName} {ws ws' : List Cond} {rm : Room} {Pc : Array Value → State → Prop} {Qc : Array Value → State → Outcome → State → Prop} {XC : String → State → State → Prop} {mc ms : Nat} {free : Addr → Prop} {cc : ByteArray} {maxL : Nat} {ret : Option FieldType}
    (hy : plainName y.cls = true) (hw : ws = Cond.code y cc maxL ret :: ws')
    (body : ∀ p e s m args below meth c s₁, BodyLoose p l y (headSpec ws rm) cc maxL ret e s m args below meth c s₁ → c.maxLocals = maxL → (∀ x ∈ c.exceptionTable.toList, False) → Pc args s →
      W p l e (headSpec ws rm).room s m args below meth c s.heap [] 0 0 (vx_MQ below Qc XC args s mc ms free) (entryFrame m args maxL)) : vx_Met l y ws rm Pc Qc XC mc ms free := by
  refine MetFree.of_bodyS (code := cc) (maxLocals := maxL) (ret := ret) hy ?_ ?_
  · intro args s m h hn
    obtain ⟨meth, c, h1, h2, h3, h4, h5, h6, -, -⟩ := Cond.code_spec hn (atoms_spec (ws := ws) h _ (by rw [hw]; exact List.mem_cons_self))
    exact ⟨meth, c, h1, h2, h3, h4, h5, h6⟩
  · intro p e s m args below meth c s₁ B hml hP _
    have hh0 : s₁.heap = s.heap := by rw [B.state]; rfl
    have ht : ∀ x ∈ c.exceptionTable.toList, False := by
      obtain ⟨meth9, c9, h1, h2, -, -, -, -, h7, -⟩ := Cond.code_spec B.named (atoms_spec (ws := ws) B.pre _ (by rw [hw]; exact List.mem_cons_self))
      cases Option.some.inj (h1.symm.trans B.method)
      cases Option.some.inj (h2.symm.trans (Stand.of_body B).code)
      intro x hx
      rw [Array.isEmpty_iff.mp h7] at hx
      cases hx
    obtain ⟨t, a1, o, b1, b2, b3⟩ := body p e s m args below meth c s₁ B hml ht hP s₁ hh0 (Stand.of_body B)
    exact ⟨t, o, a1, b1, b2, b3⟩
/-- the table of a body with handlers -/
theorem vx_table {p : Program} {x y : MethodName} {S : Spec} {cc bytes : ByteArray} {maxL maxL' : Nat} {ret ret' : Option FieldType} {e : Env} {s s₁ : State} {m : MethodId} {args : Array Value} {below : List Frame} {meth : Method} {c : Code} {hh : List (Nat × Nat × Nat × Nat)}
    (B : BodyLoose p l y S cc maxL ret e s m args below meth c s₁) (h : (Cond.codeWith y bytes maxL' ret' hh).before args s = true) : c.exceptionTable.toList = tableOf hh := by
  obtain ⟨m9, meth9, c9, hn9, h1, h2, -, -, h6, -⟩ := Cond.codeWith_spec h
  cases Option.some.inj (hn9.symm.trans B.named)
  cases Option.some.inj (h1.symm.trans B.method)
  cases Option.some.inj (h2.symm.trans (Stand.of_body B).code)
  rw [← h6, table_eq]
end Bodies
end VXA
/-! ===== END ===== -/
/-! ===== BEGIN a static call of a method with an exception table ===== -/
section VXS
variable {p : Program} {l : Launch} {e : Env} {R : Room} {s : State} {m : MethodId} {args : Array Value} {below : List Frame} {meth : Method} {c : Code} {T : State} {H : Heap} {locs : List Loc} {cells slots : Nat}
abbrev vx_CSW (R : Room) (s : State) (args : Array Value) (own : String) (index : Nat) (y : MethodName) (bytes : ByteArray) (maxL : Nat) (ret : Option FieldType) (hh : List (Nat × Nat × Nat × Nat)) (ws : List Cond) (rm : Room) (mc ms n : Nat) : Prop :=
  (rm.cells = mc ∧ rm.slots = ms ∧ rm.frames + 1 ≤ R.frames ∧ 8 + (maxL + 11) + rm.locals ≤ R.locals ∧ (∀ w ∈ ws, ∀ (a' : Array Value) (U : State), s.WarmedH U.vm → w.before a' U = true) ∧ Cond.codeWith y bytes maxL ret hh ∈ ws) ∧
  (Cond.codeWith y bytes maxL ret hh).before args s = true ∧ (Cond.initialized y.cls).before args s = true ∧ (y.cls ≠ "java/lang/invoke/MethodHandle" ∧ y.cls ≠ "java/lang/invoke/VarHandle") ∧
  (∀ sig, parseMethodDescriptor y.desc = some sig → n = sig.parameters.length) ∧ (Cond.methodLink own index y).before args s = true ∧ (Cond.static y).before args s = true
theorem vx_cwSW {own : String} {index maxL mc ms : Nat} {y : MethodName} {bytes : ByteArray} {ret : Option FieldType} {hh : List (Nat × Nat × Nat × Nat)} {Ts ws ws' : List Cond} {rm : Room} (n : Nat) (ht : ∀ w ∈ Ts, w.before args s = true) (hT : GoodIn Ts (va_wsS own index y ws)) (hw : ws = Cond.codeWith y bytes maxL ret hh :: ws') (hrc : rm.cells = mc) (hrs : rm.slots = ms)
    (hd : y.cls ≠ "java/lang/invoke/MethodHandle" ∧ y.cls ≠ "java/lang/invoke/VarHandle" ∧ (parseMethodDescriptor y.desc).map (fun d => d.parameters.length) = some n) (hR : rm.frames + 1 ≤ R.frames ∧ 8 + (maxL + 11) + rm.locals ≤ R.locals) :
    vx_CSW R s args own index y bytes maxL ret hh ws rm mc ms n := by
  have ok : ∀ w ∈ va_wsS own index y ws, w.before args s = true := fun w h => ht w (hT w h).1
  have hG : GoodIn Ts ws := fun w h => hT w (by unfold va_wsS; exact List.mem_append_right _ h)
  have hc : Cond.codeWith y bytes maxL ret hh ∈ ws := by rw [hw]; exact List.mem_cons_self
  refine ⟨⟨hrc, hrs, hR.1, hR.2, pay_in ht hG, hc⟩, ht _ (hG _ hc).1, ok _ (by simp [va_wsS]), ⟨hd.1, hd.2.1⟩, fun sig h => ?_, ok _ (by simp [va_wsS]), ok _ (by simp [va_wsS])⟩
  have h2 := hd.2.2
  rw [h] at h2
  exact (Option.some.inj h2).symm
theorem vx_callSW (X : Stand p l e R s m args below meth c T locs cells slots) (hexec : p.tables.exec = Jvm.exec) {own : String} {index : Nat} {y : MethodName} {bytes : ByteArray} {maxL : Nat} {ret : Option FieldType} {hh : List (Nat × Nat × Nat × Nat)}
    (hown : s.vm.findClass own = some m.cls) (hlink : (Cond.methodLink own index y).before args s = true) (hstat : (Cond.static y).before args s = true) (hinit : (Cond.initialized y.cls).before args s = true)
    (hcode : (Cond.codeWith y bytes maxL ret hh).before args s = true) (hy : y.cls ≠ "java/lang/invoke/MethodHandle" ∧ y.cls ≠ "java/lang/invoke/VarHandle")
    {W9 : Nat} {Pre : Pt → Array Value → Prop} {Post : Pt → Array Value → Option Value → Pt → Prop} (hK : Back l R p e below s args y 3 W9 Pre Post)
    {g : JFrame} (hg : g.method = m) (hsize : g.locals.size = c.maxLocals) {argsL rest : List Value} (hlen : ∀ sig, parseMethodDescriptor y.desc = some sig → argsL.length = sig.parameters.length)
    (hstack : g.stack = argsL.reverse ++ rest) (hW : 2 * g.monitorRoom + (rest.map fun v => v.category).sum ≤ W9) (hdg : decode c.code g.pc = .ok (.invokestatic index, 3))
    (hpre : ∀ vm₁, s.WarmedH vm₁ → Pre ⟨T.setVm vm₁, locs, cells, slots⟩ argsL.toArray) :
    ∃ (v : Option Value) (vm₁ : Vm) (B : Pt), s.WarmedH vm₁ ∧ Stand p l e R s m args below meth c B.U B.locs B.cells B.slots ∧ Post ⟨T.setVm vm₁, locs, cells, slots⟩ argsL.toArray v B ∧
      ∀ target, Steps p.tables e below (B.U.setTop { g with pc := g.pc + 3, stack := v.toList ++ rest }) target → Steps p.tables e below (T.setTop g) target := by
  obtain ⟨mk, methM, cM, hnamed, hmethM, -, -, -, -, -, -, hsigM⟩ := Cond.codeWith_spec hcode
  have hstatic : methM.isStatic = true := Cond.static_spec hnamed hmethM hstat
  obtain ⟨kP, hkP, -⟩ := className_of_methodNamed hnamed
  have hinitP : kP.init = .initialized := Cond.initialized_spec (findClass_of_methodNamed hnamed) hkP hinit
  obtain ⟨vm₁, X₁, hstep₁⟩ := X.invokestatic hexec hown hlink hnamed hmethM hstatic hkP hinitP hy (g := g) hg (argsL := argsL) (rest := rest) (hlen _ hsigM) hstack hdg
  obtain ⟨v, B, X', hpost, hsteps⟩ := hK m meth c ⟨T.setVm vm₁, locs, cells, slots⟩ { g with stack := rest } (.invokestatic index) mk argsL.toArray X₁ hg hsize hdg hW (X₁.named hnamed) (hpre vm₁ X₁.warmed)
  exact ⟨v, vm₁, B, X₁.warmed, X', hpost, fun target h => hstep₁ _ fun acts => by rw [doInvoke_state]; exact hsteps.trans h⟩
theorem vx_runSW {y : MethodName} {bytes cc : ByteArray} {maxL nL mc ms n index : Nat} {ret : Option FieldType} {hh : List (Nat × Nat × Nat × Nat)} {ws : List Cond} {rm : Room} {Pc : Array Value → State → Prop} {Qc : Array Value → State → Outcome → State → Prop} {free : Addr → Prop} {Ts : List Cond} {own : String} {As rest : List Value} {g : JFrame}
    (S : CallFix p m c cc nL s args Ts own) (hM : Met l y ws rm Pc Qc mc ms free) (cw : vx_CSW R s args own index y bytes maxL ret hh ws rm mc ms n) (hp : PreS s H Pc As)
    (hg : g.method = m) (hn : As.length = n) (hsize : g.locals.size = nL) (hstack : g.stack = As.reverse ++ rest) (hW : 2 * g.monitorRoom + (rest.map fun v => v.category).sum ≤ 8) (hdg : decode cc g.pc = .ok (.invokestatic index, 3)) (hf : cells + mc ≤ R.cells ∧ slots + ms ≤ R.slots) :
    va_Run p l e R s m args below meth c H locs cells slots mc ms g rest (Qc As.toArray) (free) := by
  obtain ⟨⟨hrc, hrs, hfr, hlo, hws, hcw⟩, hcode, hini, hy, hlen, hl, hstt⟩ := cw
  have hK : Back l R p e below s args y 3 8 (PreOf R mc ms Pc) (PostOf Qc mc ms free) := va_backW (hh := hh) (bytes := bytes) (maxL := maxL) (ret := ret) hM hp.1 hrc hrs hfr hlo hws hcw (fun a' U hW => word_at hW (Or.inl (by first | rfl | simp [Cond.onTables, Cond.keeps, Cond.steady])) hini)
  obtain ⟨hx, hb, hml, ho, -⟩ := S
  intro T hT X
  obtain ⟨v, vm₁, ⟨U', l2, c2, s2⟩, hW₁, X', ⟨g', mk, t, L, e1, e2, hq, h1, hL, h2, h3⟩, st⟩ := vx_callSW X hx (hh := hh) (bytes := bytes) (maxL := maxL) (ret := ret) ho hl hstt hini hcode hy hK hg (hsize.trans hml.symm) (argsL := As) (rest := rest) (fun sig h => hn.trans (hlen sig h)) hstack hW (by rw [hb]; exact hdg)
    (fun vm₁ hW₁ => ⟨hf.1, hf.2, hp.2 (T.setVm vm₁) hT hW₁⟩)
  dsimp only [Pt.U, Pt.locs, Pt.cells, Pt.slots] at X' e1 e2 h1 h2 h3 st
  subst h1; subst h2; subst h3
  exact ⟨v, (T.setVm vm₁).calling g' mk As.toArray, t, U', L, hT, X', hL, e1, e2, hq, st⟩
/-- not caught here, past rows that name other classes: it goes on to the caller -/
theorem vx_outP {p : Program} {l : Launch} {e : Env} {R : Room} {s : State} {m : MethodId} {args : Array Value} {below : List Frame} {meth : Method} {c : Code} {H : Heap} {locs : List Loc} {cells slots : Nat} {free : Addr → Prop} {ls : Array Slot} {rest : List Value} {Qc : Array Value → State → Outcome → State → Prop} {XC : String → State → State → Prop}
    {pc : Nat} {own E : String} {ce : Cell} {q : Addr} {mc ms : Nat} (hown : s.vm.findClass own = some m.cls) (hlocks : meth.locks = false)
    (hpass : ∀ z ∈ c.exceptionTable.toList, covers z pc = false ∨ (z.catchType ≠ 0 ∧ ∃ nm : String, (Cond.classLink own z.catchType nm).before args s = true ∧ va_Nc E nm s)) (hcell : H[q]? = some ce) (hv : ce.vm = .none) (hcl : s.vm.findClass E = some ce.cls)
    (hx : ∀ t : State, t.heap = H → s.vm.Alike t.vm → XC E s t) (hf : ∀ z ∈ locs, free z.base) (hc : cells ≤ mc) (hs : slots ≤ ms) :
    vx_W p l e R s m args below meth c H locs cells slots (vx_MQ below Qc XC args s mc ms free) (F0 m pc ls rest) q := by
  intro T hT X
  have hpl : e.platform.magicAccessors = ({} : Platform).magicAccessors := by rw [X.admits.platform]
  obtain ⟨vm', hW', X', st⟩ := X.outThrough hlocks q (g := F0 m pc ls rest) rfl rfl rfl (cell := ce) (by rw [hT]; exact hcell) (by rw [hv]; rfl)
    (by obtain ⟨k9, h9, -⟩ := Vm.findClass_spec hcl; exact ⟨k9, h9⟩) (fun z hz => by
      rcases hpass z hz with h | ⟨hz0, nm, hl1, hn1⟩
      · exact Or.inl h
      · obtain ⟨c6, hc6, hcl6⟩ := Cond.classLink_spec hown hl1 e.platform hpl
        obtain ⟨a8, b8, h1, h2, h3⟩ := hn1
        cases Option.some.inj (h1.symm.trans hcl)
        cases Option.some.inj (h2.symm.trans hc6)
        exact Or.inr ⟨hz0, _, hcl6, h3⟩)
  obtain ⟨g₀, hfr⟩ := X'.frames_eq
  have hcell9 : ((T.setVm vm').setFrames (.throwing q :: below)).heap[q]? = some ce := by
    show T.heap[q]? = some ce
    rw [hT]; exact hcell
  have hend : Ended ((T.setVm vm').setFrames (.throwing q :: below)) below (.threw q) := State.frames_setFrames _ (State.cur_lt_of_frames hfr)
  refine ⟨(T.setVm vm').setFrames (.throwing q :: below), ?_, .threw q, X'.here.running, hend, Or.inr ⟨q, rfl, E, ce, locs, hx _ hT (X'.ends _).1.alike, hcell9, hv, hcl, (X'.ends _).1, (X'.ends _).2.mono hc hs, hf⟩⟩
  rw [X.pushThrowing_eq]
  exact st
/-- a thing of a world lies in the heap -/
theorem vx_lt {D : va_G} {cl : List vw_C} {ws : va_W} {H1 : Heap} (h : va_P D cl ws H1) {k : Nat} {q : Nat × va_E} (hk : ws[k]? = some q) : q.1 < H1.size := (h k q hk).lt
end VXS
/-! ===== END ===== -/
/-! ===== BEGIN methods with a table of their own: called by a name, returning or throwing ===== -/
section VXH
/-! vx_backW, vx_callVX, vx_callSX, vx_callVW, vx_runVW, vx_runVX, vx_runSX, vx_ofWH follow the same proofs as their sisters above (Free/Laws.lean, Shelf42/LK1.lean); vx_outP calls Shelf42/NT130.lean (outThrough). -/
section
variable {l : Launch} {R : Room} {p : Program} {e : Env} {below : List Frame} {s : State} {sargs : Array Value} {y : MethodName} {len W9 : Nat}
theorem vx_backW {ws : List Cond} {rm : Room} {Pc : Array Value → State → Prop} {Qc : Array Value → State → Outcome → State → Prop} {XC : String → State → State → Prop} {mc ms : Nat} {free : Addr → Prop} {bytes : ByteArray} {maxL : Nat} {ret : Option FieldType} {hh : List (Nat × Nat × Nat × Nat)}
    (hM : vx_Met l y ws rm Pc Qc XC mc ms free) (hblind : FrameBlind Pc) (hrc : rm.cells = mc) (hrs : rm.slots = ms)
    (hframes : rm.frames + 1 ≤ R.frames) (hlocals : W9 + (maxL + 11) + rm.locals ≤ R.locals)
    (hws : ∀ w ∈ ws, ∀ a' U, s.WarmedH U.vm → w.before a' U = true) (hcode : Cond.codeWith y bytes maxL ret hh ∈ ws) (hinit : ∀ a' U, s.WarmedH U.vm → (Cond.initialized y.cls).before a' U = true) :
    vx_Back l R p e below s sargs y len W9 (PreOf R mc ms Pc) (PostOf Qc mc ms free) (vx_Post XC mc ms free) := by
  intro m meth c A g ig mk a X hg hsize hdg hW hn hp
  have h1 : (headSpec ws rm).pre.before a A.U = true := atoms_intro fun w hw => hws w hw _ _ X.warmed
  have h2 : (Cond.codeWith y bytes maxL ret hh).before a A.U = true := hws _ hcode _ _ X.warmed
  have h3 : (Cond.initialized y.cls).before a A.U = true := hinit _ _ X.warmed
  have h4 : A.cells + (headSpec ws rm).room.cells ≤ R.cells := by rw [show (headSpec ws rm).room.cells = mc from hrc]; exact hp.1
  have h5 : A.slots + (headSpec ws rm).room.slots ≤ R.slots := by rw [show (headSpec ws rm).room.slots = ms from hrs]; exact hp.2.1
  have hPc : Pc a (A.U.calling g mk a) := hblind _ _ _ _ hp.2.2
  obtain ⟨U, Ls, c0, s0⟩ := A
  dsimp only [Pt.U, Pt.locs, Pt.cells, Pt.slots] at h1 h2 h3 h4 h5 X hn hPc ⊢
  obtain ⟨m9, methY, cY, hn9, hmY, hcY, -, hlY, -⟩ := Cond.codeWith_spec h2
  cases Option.some.inj (hn9.symm.trans hn)
  obtain ⟨kY, hkY, -⟩ := className_of_methodNamed hn
  have hinitY : kY.init = .initialized := Cond.initialized_spec (findClass_of_methodNamed hn) hkY h3
  have h : At U g.method c below := by rw [hg]; exact X.here
  have hlocals9 : W9 + (maxL + 11) + (headSpec ws rm).room.locals ≤ R.locals := hlocals
  have happ : (headSpec ws rm).appliesLoose y e.platform (U.calling g mk a) = true :=
    Spec.appliesLoose_calling (g := g) h hdg hn hkY hinitY
      (X.room_calling (g := g) (R' := (headSpec ws rm).room) hsize hmY hcY hframes (by rw [hlY]; omega) h4 h5) h1
  obtain ⟨mid, hmid⟩ := h.above
  have hfr : (U.setTop g).frames = (.java g :: mid) ++ below := by rw [State.frames_setTop' g h.top, hmid]; rfl
  obtain ⟨o, s₂, hsteps, -, hend, hq⟩ := Steps.callFree hM p X.admits X.cas X.clock (acts := []) hfr happ hPc trivial
  have hq' : vx_Q Qc XC mc ms free a (U.calling g mk a) o s₂ := hq
  rw [State.frames_setTop' g h.top] at hend
  obtain ⟨g₀, hg0⟩ := Option.isSome_iff_exists.mp h.top
  obtain ⟨r, hr⟩ := State.topJava?_eq_some.mp hg0
  have hr' : (({ U with heap := s₂.heap, slotsUsed := s₂.slotsUsed } : State).setVm s₂.vm).frames = .java g₀ :: r := hr
  rcases hq' with ⟨hqc, L, hfe, hL⟩ | ⟨q, rfl, E, ce, L, hx, hce, hcv, hcl, hW₂, hsm, hL⟩
  · obtain ⟨⟨v, rfl⟩, hW₂, e2, q2, q3, q4, q5, q6⟩ := id hfe
    have e3 : s₂ = ({ (U.calling g mk a).setFrames s₂.frames with heap := s₂.heap, slotsUsed := s₂.slotsUsed } : State).setVm s₂.vm := by
      have : s₂ = ({ s₂ with vm := (U.calling g mk a).vm } : State).setVm s₂.vm := rfl
      rw [e2] at this
      exact this
    obtain ⟨c₂, i₂, len₂, hc₂, hd₂, hf₂⟩ := hend
    have hW' : U.WarmedH s₂.vm := hW₂
    have hcc : c₂ = c := by
      have h1 : s₂.code? g.method = U.code? g.method := by
        rw [State.code?_eq, State.code?_eq, hW'.alike.method?]
      exact Option.some.inj (hc₂.symm.trans (h1.trans h.code))
    subst hcc
    have hlen : len₂ = len := by rw [hdg] at hd₂; cases hd₂; rfl
    subst hlen
    have hs₂ : s₂ = (({ U with heap := s₂.heap, slotsUsed := s₂.slotsUsed } : State).setVm s₂.vm).setTop { g with pc := g.pc + len₂, stack := v.toList ++ g.stack } := by
      refine e3.trans ?_
      rw [hf₂, State.calling_eq h.top, State.setFrames_setFrames, State.setTop_of_frames _ hr', hr]
      rfl
    have hsame : U.sameButNew ({ U with heap := s₂.heap, slotsUsed := s₂.slotsUsed } : State) L mc ms := by
      refine ⟨?_, q2, q3, q4, q5, q6⟩
      obtain ⟨t, ht, -⟩ := State.frames_cons hr
      show ({ U with heap := s₂.heap, slotsUsed := s₂.slotsUsed } : State) = { U.setFrames U.frames with heap := s₂.heap, slotsUsed := s₂.slotsUsed }
      rw [State.setFrames_self ht]
    subst hg
    refine Or.inl ⟨v, ⟨(({ U with heap := s₂.heap, slotsUsed := s₂.slotsUsed } : State).setVm s₂.vm), Ls ++ L, c0 + mc, s0 + ms⟩,
      ⟨X.admits, X.cas, X.clock, X.frames, X.room, X.hears, X.method, X.code, (X.here.setHeapUsed s₂.heap s₂.slotsUsed).setVm hW'.alike, X.tail, State.WarmedH.trans X.warmed hW', X.limits, X.bytes, X.same.trans (hsame.setVm s.vm)⟩,
      ⟨g, mk, s₂, L, rfl, rfl, hqc, rfl, hL, rfl, rfl⟩, ?_⟩
    show Steps p.tables e below _ ((({ U with heap := s₂.heap, slotsUsed := s₂.slotsUsed } : State).setVm s₂.vm).setTop { g with pc := g.pc + len₂, stack := v.toList ++ g.stack })
    rw [← hs₂]
    exact hsteps
  · obtain ⟨e2, q2, q3, q4, q5, q6⟩ := id hsm
    have e3 : s₂ = ({ (U.calling g mk a).setFrames s₂.frames with heap := s₂.heap, slotsUsed := s₂.slotsUsed } : State).setVm s₂.vm := by
      have : s₂ = ({ s₂ with vm := (U.calling g mk a).vm } : State).setVm s₂.vm := rfl
      rw [e2] at this
      exact this
    have hf₂ : s₂.frames = .throwing q :: .java g :: U.frames.tail := hend
    have hW' : U.WarmedH s₂.vm := hW₂
    have hs₂ : s₂ = ((({ U with heap := s₂.heap, slotsUsed := s₂.slotsUsed } : State).setVm s₂.vm).setTop g).pushFrame (.throwing q) := by
      refine e3.trans ?_
      rw [hf₂, State.calling_eq h.top, State.setFrames_setFrames, State.pushFrame, State.frames_setTop _ hr', State.setTop_of_frames _ hr', State.setFrames_setFrames, hr]
      rfl
    have hsame : U.sameButNew ({ U with heap := s₂.heap, slotsUsed := s₂.slotsUsed } : State) L mc ms := by
      refine ⟨?_, q2, q3, q4, q5, q6⟩
      obtain ⟨t, ht, -⟩ := State.frames_cons hr
      show ({ U with heap := s₂.heap, slotsUsed := s₂.slotsUsed } : State) = { U.setFrames U.frames with heap := s₂.heap, slotsUsed := s₂.slotsUsed }
      rw [State.setFrames_self ht]
    subst hg
    refine Or.inr ⟨q, ⟨(({ U with heap := s₂.heap, slotsUsed := s₂.slotsUsed } : State).setVm s₂.vm), Ls ++ L, c0 + mc, s0 + ms⟩,
      ⟨X.admits, X.cas, X.clock, X.frames, X.room, X.hears, X.method, X.code, (X.here.setHeapUsed s₂.heap s₂.slotsUsed).setVm hW'.alike, X.tail, State.WarmedH.trans X.warmed hW', X.limits, X.bytes, X.same.trans (hsame.setVm s.vm)⟩,
      ⟨g, mk, s₂, L, E, ce, rfl, rfl, hx, hce, hcv, hcl, rfl, hL, rfl, rfl⟩, ?_⟩
    show Steps p.tables e below _ (((({ U with heap := s₂.heap, slotsUsed := s₂.slotsUsed } : State).setVm s₂.vm).setTop g).pushFrame (.throwing q))
    rw [← hs₂]
    exact hsteps
end
variable {p : Program} {l : Launch} {e : Env} {R : Room} {s : State} {m : MethodId} {args : Array Value} {below : List Frame} {meth : Method} {c : Code} {T : State} {H : Heap} {locs : List Loc} {cells slots : Nat}
theorem vx_callVX (X : Stand p l e R s m args below meth c T locs cells slots) (hexec : p.tables.exec = Jvm.exec) {own C : String} {index : Nat} {y : MethodName} {bytes : ByteArray} {maxL : Nat} {ret : Option FieldType} {hh : List (Nat × Nat × Nat × Nat)}
    (hown : s.vm.findClass own = some m.cls) (hlink : (Cond.methodLink own index y).before args s = true) (hinst : (Cond.instanceMethod y).before args s = true) (hsel : (Cond.selects C y y).before args s = true)
    (hcode : (Cond.codeWith y bytes maxL ret hh).before args s = true) (hy : y.cls ≠ "java/lang/invoke/MethodHandle" ∧ y.cls ≠ "java/lang/invoke/VarHandle")
    {W9 : Nat} {Pre : Pt → Array Value → Prop} {Post : Pt → Array Value → Option Value → Pt → Prop} {PostX : Pt → Array Value → Addr → Pt → Prop} (hK : vx_Back l R p e below s args y 3 W9 Pre Post PostX)
    {b : Addr} {cellB : Cell} (hcell : T.heap[b]? = some cellB) (hobj : cellB.vm.isStatics = false) (hcls : s.vm.findClass C = some cellB.cls)
    {g : JFrame} (hg : g.method = m) (hsize : g.locals.size = c.maxLocals) {argsL rest : List Value} (hlen : ∀ sig, parseMethodDescriptor y.desc = some sig → argsL.length = sig.parameters.length)
    (hstack : g.stack = argsL.reverse ++ .ref b :: rest) (hW : 2 * g.monitorRoom + (rest.map fun v => v.category).sum ≤ W9) (hdg : decode c.code g.pc = .ok (.invokevirtual index, 3))
    (hpre : ∀ vm₁, s.WarmedH vm₁ → Pre ⟨T.setVm vm₁, locs, cells, slots⟩ (Value.ref b :: argsL).toArray) :
    (∃ (v : Option Value) (vm₁ : Vm) (B : Pt), s.WarmedH vm₁ ∧ Stand p l e R s m args below meth c B.U B.locs B.cells B.slots ∧ Post ⟨T.setVm vm₁, locs, cells, slots⟩ (Value.ref b :: argsL).toArray v B ∧
      ∀ target, Steps p.tables e below (B.U.setTop { g with pc := g.pc + 3, stack := v.toList ++ rest }) target → Steps p.tables e below (T.setTop g) target) ∨
    (∃ (q : Addr) (vm₁ : Vm) (B : Pt), s.WarmedH vm₁ ∧ Stand p l e R s m args below meth c B.U B.locs B.cells B.slots ∧ PostX ⟨T.setVm vm₁, locs, cells, slots⟩ (Value.ref b :: argsL).toArray q B ∧
      Steps p.tables e below (T.setTop g) ((B.U.setTop { g with stack := rest }).pushFrame (.throwing q))) := by
  obtain ⟨mk, methM, hnamed, hmethM, hstM, habM⟩ := Cond.instanceMethod_spec hinst
  obtain ⟨m8, methM', cM, hn8, hmethM', -, -, -, -, -, -, hsigM⟩ := Cond.codeWith_spec hcode
  cases Option.some.inj (hn8.symm.trans hnamed)
  cases hmethM.symm.trans hmethM'
  obtain ⟨c2, r2, m2, q1, q2, q3, q4, kP, hkP, hkPi⟩ := Cond.selects_spec hsel
  cases hcls.symm.trans q1
  cases (State.methodFound?_of_named hnamed hy).symm.trans q2
  cases hnamed.symm.trans q3
  have hselP : selectMethod e.platform s.vm cellB.cls mk = .method mk := by rw [Launch.admits_selectMethod X.admits]; exact q4
  obtain ⟨vm₁, X₁, hstep₁⟩ := X.invokevirtual hexec hown hlink hnamed hmethM hstM hkP hkPi hy (a := b) (cell := cellB) hcell
    (fun z h => by rw [h] at hobj; cases hobj) hselP hmethM habM hkP hkPi (g := g) hg (argsL := argsL) (rest := rest) (hlen _ hsigM) hstack hdg
  rcases hK m meth c ⟨T.setVm vm₁, locs, cells, slots⟩ { g with stack := rest } (.invokevirtual index) mk (Value.ref b :: argsL).toArray X₁ hg hsize hdg hW (X₁.named hnamed) (hpre vm₁ X₁.warmed) with ⟨v, B, X', hpost, hsteps⟩ | ⟨q, B, X', hpost, hsteps⟩
  · exact Or.inl ⟨v, vm₁, B, X₁.warmed, X', hpost, fun target h => hstep₁ _ fun acts => by rw [doInvoke_state]; exact hsteps.trans h⟩
  · exact Or.inr ⟨q, vm₁, B, X₁.warmed, X', hpost, hstep₁ _ fun acts => by rw [doInvoke_state]; exact hsteps⟩
theorem vx_callSX (X : Stand p l e R s m args below meth c T locs cells slots) (hexec : p.tables.exec = Jvm.exec) {own : String} {index : Nat} {y : MethodName} {bytes : ByteArray} {maxL : Nat} {ret : Option FieldType} {hh : List (Nat × Nat × Nat × Nat)}
    (hown : s.vm.findClass own = some m.cls) (hlink : (Cond.methodLink own index y).before args s = true) (hstat : (Cond.static y).before args s = true) (hinit : (Cond.initialized y.cls).before args s = true)
    (hcode : (Cond.codeWith y bytes maxL ret hh).before args s = true) (hy : y.cls ≠ "java/lang/invoke/MethodHandle" ∧ y.cls ≠ "java/lang/invoke/VarHandle")
    {W9 : Nat} {Pre : Pt → Array Value → Prop} {Post : Pt → Array Value → Option Value → Pt → Prop} {PostX : Pt → Array Value → Addr → Pt → Prop} (hK : vx_Back l R p e below s args y 3 W9 Pre Post PostX)
    {g : JFrame} (hg : g.method = m) (hsize : g.locals.size = c.maxLocals) {argsL rest : List Value} (hlen : ∀ sig, parseMethodDescriptor y.desc = some sig → argsL.length = sig.parameters.length)
    (hstack : g.stack = argsL.reverse ++ rest) (hW : 2 * g.monitorRoom + (rest.map fun v => v.category).sum ≤ W9) (hdg : decode c.code g.pc = .ok (.invokestatic index, 3))
    (hpre : ∀ vm₁, s.WarmedH vm₁ → Pre ⟨T.setVm vm₁, locs, cells, slots⟩ argsL.toArray) :
    (∃ (v : Option Value) (vm₁ : Vm) (B : Pt), s.WarmedH vm₁ ∧ Stand p l e R s m args below meth c B.U B.locs B.cells B.slots ∧ Post ⟨T.setVm vm₁, locs, cells, slots⟩ argsL.toArray v B ∧
      ∀ target, Steps p.tables e below (B.U.setTop { g with pc := g.pc + 3, stack := v.toList ++ rest }) target → Steps p.tables e below (T.setTop g) target) ∨
    (∃ (q : Addr) (vm₁ : Vm) (B : Pt), s.WarmedH vm₁ ∧ Stand p l e R s m args below meth c B.U B.locs B.cells B.slots ∧ PostX ⟨T.setVm vm₁, locs, cells, slots⟩ argsL.toArray q B ∧
      Steps p.tables e below (T.setTop g) ((B.U.setTop { g with stack := rest }).pushFrame (.throwing q))) := by
  obtain ⟨mk, methM, cM, hnamed, hmethM, -, -, -, -, -, -, hsigM⟩ := Cond.codeWith_spec hcode
  have hstatic : methM.isStatic = true := Cond.static_spec hnamed hmethM hstat
  obtain ⟨kP, hkP, -⟩ := className_of_methodNamed hnamed
  have hinitP : kP.init = .initialized := Cond.initialized_spec (findClass_of_methodNamed hnamed) hkP hinit
  obtain ⟨vm₁, X₁, hstep₁⟩ := X.invokestatic hexec hown hlink hnamed hmethM hstatic hkP hinitP hy (g := g) hg (argsL := argsL) (rest := rest) (hlen _ hsigM) hstack hdg
  rcases hK m meth c ⟨T.setVm vm₁, locs, cells, slots⟩ { g with stack := rest } (.invokestatic index) mk argsL.toArray X₁ hg hsize hdg hW (X₁.named hnamed) (hpre vm₁ X₁.warmed) with ⟨v, B, X', hpost, hsteps⟩ | ⟨q, B, X', hpost, hsteps⟩
  · exact Or.inl ⟨v, vm₁, B, X₁.warmed, X', hpost, fun target h => hstep₁ _ fun acts => by rw [doInvoke_state]; exact hsteps.trans h⟩
  · exact Or.inr ⟨q, vm₁, B, X₁.warmed, X', hpost, hstep₁ _ fun acts => by rw [doInvoke_state]; exact hsteps⟩
theorem vx_callVW (X : Stand p l e R s m args below meth c T locs cells slots) (hexec : p.tables.exec = Jvm.exec) {own C : String} {index : Nat} {y : MethodName} {bytes : ByteArray} {maxL : Nat} {ret : Option FieldType} {hh : List (Nat × Nat × Nat × Nat)}
    (hown : s.vm.findClass own = some m.cls) (hlink : (Cond.methodLink own index y).before args s = true) (hinst : (Cond.instanceMethod y).before args s = true) (hsel : (Cond.selects C y y).before args s = true)
    (hcode : (Cond.codeWith y bytes maxL ret hh).before args s = true) (hy : y.cls ≠ "java/lang/invoke/MethodHandle" ∧ y.cls ≠ "java/lang/invoke/VarHandle")
    {W9 : Nat} {Pre : Pt → Array Value → Prop} {Post : Pt → Array Value → Option Value → Pt → Prop} (hK : Back l R p e below s args y 3 W9 Pre Post)
    {b : Addr} {cellB : Cell} (hcell : T.heap[b]? = some cellB) (hobj : cellB.vm.isStatics = false) (hcls : s.vm.findClass C = some cellB.cls)
    {g : JFrame} (hg : g.method = m) (hsize : g.locals.size = c.maxLocals) {argsL rest : List Value} (hlen : ∀ sig, parseMethodDescriptor y.desc = some sig → argsL.length = sig.parameters.length)
    (hstack : g.stack = argsL.reverse ++ .ref b :: rest) (hW : 2 * g.monitorRoom + (rest.map fun v => v.category).sum ≤ W9) (hdg : decode c.code g.pc = .ok (.invokevirtual index, 3))
    (hpre : ∀ vm₁, s.WarmedH vm₁ → Pre ⟨T.setVm vm₁, locs, cells, slots⟩ (Value.ref b :: argsL).toArray) :
    ∃ (v : Option Value) (vm₁ : Vm) (B : Pt), s.WarmedH vm₁ ∧ Stand p l e R s m args below meth c B.U B.locs B.cells B.slots ∧ Post ⟨T.setVm vm₁, locs, cells, slots⟩ (Value.ref b :: argsL).toArray v B ∧
      ∀ target, Steps p.tables e below (B.U.setTop { g with pc := g.pc + 3, stack := v.toList ++ rest }) target → Steps p.tables e below (T.setTop g) target := by
  obtain ⟨mk, methM, hnamed, hmethM, hstM, habM⟩ := Cond.instanceMethod_spec hinst
  obtain ⟨m8, methM', cM, hn8, hmethM', -, -, -, -, -, -, hsigM⟩ := Cond.codeWith_spec hcode
  cases Option.some.inj (hn8.symm.trans hnamed)
  cases hmethM.symm.trans hmethM'
  obtain ⟨c2, r2, m2, q1, q2, q3, q4, kP, hkP, hkPi⟩ := Cond.selects_spec hsel
  cases hcls.symm.trans q1
  cases (State.methodFound?_of_named hnamed hy).symm.trans q2
  cases hnamed.symm.trans q3
  have hselP : selectMethod e.platform s.vm cellB.cls mk = .method mk := by rw [Launch.admits_selectMethod X.admits]; exact q4
  obtain ⟨vm₁, X₁, hstep₁⟩ := X.invokevirtual hexec hown hlink hnamed hmethM hstM hkP hkPi hy (a := b) (cell := cellB) hcell
    (fun z h => by rw [h] at hobj; cases hobj) hselP hmethM habM hkP hkPi (g := g) hg (argsL := argsL) (rest := rest) (hlen _ hsigM) hstack hdg
  obtain ⟨v, B, X', hpost, hsteps⟩ := hK m meth c ⟨T.setVm vm₁, locs, cells, slots⟩ { g with stack := rest } (.invokevirtual index) mk (Value.ref b :: argsL).toArray X₁ hg hsize hdg hW (X₁.named hnamed) (hpre vm₁ X₁.warmed)
  exact ⟨v, vm₁, B, X₁.warmed, X', hpost, fun target h => hstep₁ _ fun acts => by rw [doInvoke_state]; exact hsteps.trans h⟩
abbrev vx_CVW (R : Room) (s : State) (args : Array Value) (own C : String) (index : Nat) (y : MethodName) (bytes : ByteArray) (maxL : Nat) (ret : Option FieldType) (hh : List (Nat × Nat × Nat × Nat)) (ws : List Cond) (rm : Room) (mc ms n : Nat) : Prop :=
  (rm.cells = mc ∧ rm.slots = ms ∧ rm.frames + 1 ≤ R.frames ∧ 8 + (maxL + 11) + rm.locals ≤ R.locals ∧ (∀ w ∈ ws, ∀ (a' : Array Value) (U : State), s.WarmedH U.vm → w.before a' U = true) ∧ Cond.codeWith y bytes maxL ret hh ∈ ws) ∧
  (Cond.codeWith y bytes maxL ret hh).before args s = true ∧ (Cond.initialized y.cls).before args s = true ∧ (y.cls ≠ "java/lang/invoke/MethodHandle" ∧ y.cls ≠ "java/lang/invoke/VarHandle") ∧
  (∀ sig, parseMethodDescriptor y.desc = some sig → n = sig.parameters.length) ∧ (Cond.methodLink own index y).before args s = true ∧ (Cond.instanceMethod y).before args s = true ∧ (Cond.selects C y y).before args s = true
theorem vx_cwVW {own C : String} {index maxL mc ms : Nat} {y : MethodName} {bytes : ByteArray} {ret : Option FieldType} {hh : List (Nat × Nat × Nat × Nat)} {Ts ws ws' : List Cond} {rm : Room} (n : Nat) (ht : ∀ w ∈ Ts, w.before args s = true) (hT : GoodIn Ts (wsV own index C y ws)) (hw : ws = Cond.codeWith y bytes maxL ret hh :: ws') (hrc : rm.cells = mc) (hrs : rm.slots = ms)
    (hd : y.cls = C ∧ y.cls ≠ "java/lang/invoke/MethodHandle" ∧ y.cls ≠ "java/lang/invoke/VarHandle" ∧ (parseMethodDescriptor y.desc).map (fun d => d.parameters.length) = some n) (hR : rm.frames + 1 ≤ R.frames ∧ 8 + (maxL + 11) + rm.locals ≤ R.locals) :
    vx_CVW R s args own C index y bytes maxL ret hh ws rm mc ms n := by
  obtain ⟨hC, hd⟩ := hd
  subst hC
  have ok : ∀ w ∈ wsV own index y.cls y ws, w.before args s = true := fun w h => ht w (hT w h).1
  have hG : GoodIn Ts ws := fun w h => hT w (by unfold wsV; exact List.mem_append_right _ h)
  have hc : Cond.codeWith y bytes maxL ret hh ∈ ws := by rw [hw]; exact List.mem_cons_self
  refine ⟨⟨hrc, hrs, hR.1, hR.2, pay_in ht hG, hc⟩, ht _ (hG _ hc).1, ok _ (by simp [wsV]), ⟨hd.1, hd.2.1⟩, fun sig h => ?_, ok _ (by simp [wsV]), ok _ (by simp [wsV]), ok _ (by simp [wsV])⟩
  have h2 := hd.2.2
  rw [h] at h2
  exact (Option.some.inj h2).symm
theorem vx_runVW {y : MethodName} {bytes cc : ByteArray} {maxL nL mc ms n index : Nat} {ret : Option FieldType} {hh : List (Nat × Nat × Nat × Nat)} {ws : List Cond} {rm : Room} {Pc : Array Value → State → Prop} {Qc : Array Value → State → Outcome → State → Prop} {free : Addr → Prop} {Ts : List Cond} {own C : String} {b : Addr} {As rest : List Value} {g : JFrame}
    (S : CallFix p m c cc nL s args Ts own) (hM : Met l y ws rm Pc Qc mc ms free) (cw : vx_CVW R s args own C index y bytes maxL ret hh ws rm mc ms n) (hp : PreV s H C b Pc As)
    (hg : g.method = m) (hn : As.length = n) (hsize : g.locals.size = nL) (hstack : g.stack = As.reverse ++ .ref b :: rest) (hW : 2 * g.monitorRoom + (rest.map fun v => v.category).sum ≤ 8) (hdg : decode cc g.pc = .ok (.invokevirtual index, 3)) (hf : cells + mc ≤ R.cells ∧ slots + ms ≤ R.slots) :
    va_Run p l e R s m args below meth c H locs cells slots mc ms g rest (Qc (Value.ref b :: As).toArray) free := by
  obtain ⟨⟨hrc, hrs, hfr, hlo, hws, hcw⟩, hcode, hini, hy, hlen, hl, hin, hse⟩ := cw
  have hK : Back l R p e below s args y 3 8 (PreOf R mc ms Pc) (PostOf Qc mc ms free) := va_backW (hh := hh) (bytes := bytes) (maxL := maxL) (ret := ret) hM hp.1 hrc hrs hfr hlo hws hcw (fun a' U hW => word_at hW (Or.inl (by first | rfl | simp [Cond.onTables, Cond.keeps, Cond.steady])) hini)
  obtain ⟨hx, hb, hml, ho, -⟩ := S
  obtain ⟨-, ⟨cellB, hcB, hoB, hclB⟩, hPc⟩ := hp
  intro T hT X
  obtain ⟨v, vm₁, ⟨U', l2, c2, s2⟩, hW₁, X', ⟨g', mk, t, L, e1, e2, hq, h1, hL, h2, h3⟩, st⟩ := vx_callVW X hx (C := C) (hh := hh) (bytes := bytes) (maxL := maxL) (ret := ret) ho hl hin hse hcode hy hK (by rw [hT]; exact hcB) hoB hclB hg (hsize.trans hml.symm) (argsL := As) (rest := rest) (fun sig h => hn.trans (hlen sig h)) hstack hW (by rw [hb]; exact hdg)
    (fun vm₁ hW₁ => ⟨hf.1, hf.2, hPc (T.setVm vm₁) hT hW₁⟩)
  dsimp only [Pt.U, Pt.locs, Pt.cells, Pt.slots] at X' e1 e2 h1 h2 h3 st
  subst h1; subst h2; subst h3
  exact ⟨v, (T.setVm vm₁).calling g' mk (Value.ref b :: As).toArray, t, U', L, hT, X', hL, e1, e2, hq, st⟩
section
variable {y : MethodName} {bytes cc : ByteArray} {maxL nL mc ms n index : Nat} {ret : Option FieldType} {ws : List Cond} {rm : Room} {Pc : Array Value → State → Prop} {Qc : Array Value → State → Outcome → State → Prop} {XC : String → State → State → Prop} {free : Addr → Prop} {Ts : List Cond} {own C : String} {b : Addr} {As rest : List Value} {g : JFrame}
theorem vx_runVX {hh : List (Nat × Nat × Nat × Nat)} (S : CallFix p m c cc nL s args Ts own) (hM : vx_Met l y ws rm Pc Qc XC mc ms free) (cw : vx_CVW R s args own C index y bytes maxL ret hh ws rm mc ms n) (hp : PreV s H C b Pc As)
    (hg : g.method = m) (hn : As.length = n) (hsize : g.locals.size = nL) (hstack : g.stack = As.reverse ++ .ref b :: rest) (hW : 2 * g.monitorRoom + (rest.map fun v => v.category).sum ≤ 8) (hdg : decode cc g.pc = .ok (.invokevirtual index, 3)) (hf : cells + mc ≤ R.cells ∧ slots + ms ≤ R.slots) :
    vx_Run p l e R s m args below meth c H locs cells slots mc ms g rest (Qc (Value.ref b :: As).toArray) XC free := by
  obtain ⟨⟨hrc, hrs, hfr, hlo, hws, hcw⟩, hcode, hini, hy, hlen, hl, hin, hse⟩ := cw
  have hK : vx_Back l R p e below s args y 3 8 (PreOf R mc ms Pc) (PostOf Qc mc ms free) (vx_Post XC mc ms free) := vx_backW (hh := hh) (bytes := bytes) (maxL := maxL) (ret := ret) hM hp.1 hrc hrs hfr hlo hws hcw (fun a' U hW => word_at hW (Or.inl (by first | rfl | simp [Cond.onTables, Cond.keeps, Cond.steady])) hini)
  obtain ⟨hx, hb, hml, ho, -⟩ := S
  obtain ⟨-, ⟨cellB, hcB, hoB, hclB⟩, hPc⟩ := hp
  intro T hT X
  rcases vx_callVX X hx (C := C) (hh := hh) (bytes := bytes) (maxL := maxL) (ret := ret) ho hl hin hse hcode hy hK (by rw [hT]; exact hcB) hoB hclB hg (hsize.trans hml.symm) (argsL := As) (rest := rest) (fun sig h => hn.trans (hlen sig h)) hstack hW (by rw [hb]; exact hdg)
    (fun vm₁ hW₁ => ⟨hf.1, hf.2, hPc (T.setVm vm₁) hT hW₁⟩) with ⟨v, vm₁, ⟨U', l2, c2, s2⟩, hW₁, X', ⟨g', mk, t, L, e1, e2, hq, h1, hL, h2, h3⟩, st⟩ | ⟨q, vm₁, ⟨U', l2, c2, s2⟩, hW₁, X', ⟨g', mk, t, L, E, ce, e1, e2, hq, hce, hcv, hcl, h1, hL, h2, h3⟩, st⟩
  · dsimp only [Pt.U, Pt.locs, Pt.cells, Pt.slots] at X' e1 e2 h1 h2 h3 st
    subst h1; subst h2; subst h3
    exact Or.inl ⟨v, (T.setVm vm₁).calling g' mk (Value.ref b :: As).toArray, t, U', L, hT, X', hL, e1, e2, hq, st⟩
  · dsimp only [Pt.U, Pt.locs, Pt.cells, Pt.slots] at X' e1 e2 h1 h2 h3 st hcl
    subst h1; subst h2; subst h3
    exact Or.inr ⟨q, (T.setVm vm₁).calling g' mk (Value.ref b :: As).toArray, t, U', L, E, ce, hT, X', hL, e1, e2, hq, hce, hcv, vx_cls hW₁ hcl, st⟩
theorem vx_runSX {hh : List (Nat × Nat × Nat × Nat)} (S : CallFix p m c cc nL s args Ts own) (hM : vx_Met l y ws rm Pc Qc XC mc ms free) (cw : vx_CSW R s args own index y bytes maxL ret hh ws rm mc ms n) (hp : PreS s H Pc As)
    (hg : g.method = m) (hn : As.length = n) (hsize : g.locals.size = nL) (hstack : g.stack = As.reverse ++ rest) (hW : 2 * g.monitorRoom + (rest.map fun v => v.category).sum ≤ 8) (hdg : decode cc g.pc = .ok (.invokestatic index, 3)) (hf : cells + mc ≤ R.cells ∧ slots + ms ≤ R.slots) :
    vx_Run p l e R s m args below meth c H locs cells slots mc ms g rest (Qc As.toArray) XC free := by
  obtain ⟨⟨hrc, hrs, hfr, hlo, hws, hcw⟩, hcode, hini, hy, hlen, hl, hstt⟩ := cw
  have hK : vx_Back l R p e below s args y 3 8 (PreOf R mc ms Pc) (PostOf Qc mc ms free) (vx_Post XC mc ms free) := vx_backW (hh := hh) (bytes := bytes) (maxL := maxL) (ret := ret) hM hp.1 hrc hrs hfr hlo hws hcw (fun a' U hW => word_at hW (Or.inl (by first | rfl | simp [Cond.onTables, Cond.keeps, Cond.steady])) hini)
  obtain ⟨hx, hb, hml, ho, -⟩ := S
  intro T hT X
  rcases vx_callSX X hx (hh := hh) (bytes := bytes) (maxL := maxL) (ret := ret) ho hl hstt hini hcode hy hK hg (hsize.trans hml.symm) (argsL := As) (rest := rest) (fun sig h => hn.trans (hlen sig h)) hstack hW (by rw [hb]; exact hdg)
    (fun vm₁ hW₁ => ⟨hf.1, hf.2, hp.2 (T.setVm vm₁) hT hW₁⟩) with ⟨v, vm₁, ⟨U', l2, c2, s2⟩, hW₁, X', ⟨g', mk, t, L, e1, e2, hq, h1, hL, h2, h3⟩, st⟩ | ⟨q, vm₁, ⟨U', l2, c2, s2⟩, hW₁, X', ⟨g', mk, t, L, E, ce, e1, e2, hq, hce, hcv, hcl, h1, hL, h2, h3⟩, st⟩
  · dsimp only [Pt.U, Pt.locs, Pt.cells, Pt.slots] at X' e1 e2 h1 h2 h3 st
    subst h1; subst h2; subst h3
    exact Or.inl ⟨v, (T.setVm vm₁).calling g' mk As.toArray, t, U', L, hT, X', hL, e1, e2, hq, st⟩
  · dsimp only [Pt.U, Pt.locs, Pt.cells, Pt.slots] at X' e1 e2 h1 h2 h3 st hcl
    subst h1; subst h2; subst h3
    exact Or.inr ⟨q, (T.setVm vm₁).calling g' mk As.toArray, t, U', L, E, ce, hT, X', hL, e1, e2, hq, hce, hcv, vx_cls hW₁ hcl, st⟩
end
end VXH
theorem vx_ofWH {l : Launch} {y : MethodName} {ws ws' : List Cond} {rm : Room} {Pc : Array Value → State → Prop} {Qc : Array Value → State → Outcome → State → Prop} {XC : String → State → State → Prop} {mc ms : Nat} {free : Addr → Prop} {cc : ByteArray} {maxL : Nat} {ret : Option FieldType} {hh : List (Nat × Nat × Nat × Nat)}
    (hy : plainName y.cls = true) (hw : ws = Cond.codeWith y cc maxL ret hh :: ws')
    (body : ∀ p e s m args below meth c s₁, BodyLoose p l y (headSpec ws rm) cc maxL ret e s m args below meth c s₁ → c.maxLocals = maxL → Pc args s →
      W p l e (headSpec ws rm).room s m args below meth c s.heap [] 0 0 (vx_MQ below Qc XC args s mc ms free) (entryFrame m args maxL)) : vx_Met l y ws rm Pc Qc XC mc ms free := by
  refine MetFree.of_bodyS (code := cc) (maxLocals := maxL) (ret := ret) hy ?_ ?_
  · intro args s m h hn
    obtain ⟨m9, meth, c, hn9, h1, h2, h3, h4, -, h5, h6, -⟩ := Cond.codeWith_spec (atoms_spec (ws := ws) h _ (by rw [hw]; exact List.mem_cons_self))
    cases hn.symm.trans hn9
    exact ⟨meth, c, h1, h2, h3, h4, h5, h6⟩
  · intro p e s m args below meth c s₁ B hml hP _
    have hh0 : s₁.heap = s.heap := by rw [B.state]; rfl
    obtain ⟨t, a1, o, b1, b2, b3⟩ := body p e s m args below meth c s₁ B hml hP s₁ hh0 (Stand.of_body B)
    exact ⟨t, o, a1, b1, b2, b3⟩
/-! ===== END ===== -/

/-! ===== BEGIN printed: names, fields, word lists, decode rows ===== -/
def RX0 : String := "BackofficeAir$Row"
def TX0 : u_T := fun k => match k with
  | 0 => ("BackofficeAir$Row", "goals", "[I", true)
  | 1 => ("BackofficeAir$Row", "parts", "[I", true)
  | _ => ("BackofficeAir$Row", "count", "I", false)
def tyX0 : Nat → FieldType := fun k => match k with
  | 0 => .array .int
  | 1 => .array .int
  | _ => .int
abbrev wsX00 : List Cond := u_ws RX0 TX0 3
theorem nmX0 : ∀ a, a < 3 → ∀ b, b < 3 → a ≠ b → (TX0 a).2.1 ≠ (TX0 b).2.1 := by decide +kernel
theorem tyX0_ok : ∀ k, k < 3 → parseFieldDescriptor (TX0 k).2.2.1 = some (tyX0 k) := by decide +kernel
abbrev cX0_init : ByteArray := prog_2_method_1_code
def yX0_init : MethodName := ⟨RX0, "<init>", "()V"⟩
abbrev cX0_add : ByteArray := prog_2_method_2_code
def yX0_add : MethodName := ⟨RX0, "add", "(II)V"⟩
abbrev cX0_goalOfFirst : ByteArray := prog_2_method_3_code
def yX0_goalOfFirst : MethodName := ⟨RX0, "goalOfFirst", "()I"⟩
abbrev cX0_partsOfFirst : ByteArray := prog_2_method_4_code
def yX0_partsOfFirst : MethodName := ⟨RX0, "partsOfFirst", "()I"⟩
abbrev cX0_takeFromFirst : ByteArray := prog_2_method_5_code
def yX0_takeFromFirst : MethodName := ⟨RX0, "takeFromFirst", "(I)V"⟩
abbrev cX0_removeFirst : ByteArray := prog_2_method_6_code
def yX0_removeFirst : MethodName := ⟨RX0, "removeFirst", "()V"⟩
def RX1 : String := "BackofficeAir$Sending"
def TX1 : u_T := fun k => match k with
  | 0 => ("BackofficeAir$Sending", "on", "Z", false)
  | 1 => ("BackofficeAir$Sending", "firstSlot", "I", false)
  | 2 => ("BackofficeAir$Sending", "lastSlot", "I", false)
  | 3 => ("BackofficeAir$Sending", "hasRequest", "Z", false)
  | 4 => ("BackofficeAir$Sending", "requestBroken", "Z", false)
  | 5 => ("BackofficeAir$Sending", "parts", "I", false)
  | _ => ("BackofficeAir$Sending", "brokenParts", "I", false)
def tyX1 : Nat → FieldType := fun k => match k with
  | 0 => .boolean
  | 1 => .int
  | 2 => .int
  | 3 => .boolean
  | 4 => .boolean
  | 5 => .int
  | _ => .int
abbrev wsX10 : List Cond := u_ws RX1 TX1 7
theorem nmX1 : ∀ a, a < 7 → ∀ b, b < 7 → a ≠ b → (TX1 a).2.1 ≠ (TX1 b).2.1 := by decide +kernel
theorem tyX1_ok : ∀ k, k < 7 → parseFieldDescriptor (TX1 k).2.2.1 = some (tyX1 k) := by decide +kernel
abbrev cX1_init : ByteArray := prog_3_method_1_code
def yX1_init : MethodName := ⟨RX1, "<init>", "()V"⟩
abbrev cX1_begin : ByteArray := prog_3_method_2_code
def yX1_begin : MethodName := ⟨RX1, "begin", "(IIZ)V"⟩
abbrev cX1_slotsUpTo : ByteArray := prog_3_method_3_code
def yX1_slotsUpTo : MethodName := ⟨RX1, "slotsUpTo", "(I)I"⟩
abbrev cX1_isRequest : ByteArray := prog_3_method_4_code
def yX1_isRequest : MethodName := ⟨RX1, "isRequest", "(I)Z"⟩
abbrev cX1_breakIn : ByteArray := prog_3_method_5_code
def yX1_breakIn : MethodName := ⟨RX1, "breakIn", "(I)V"⟩
abbrev cX1_arrivedParts : ByteArray := prog_3_method_6_code
def yX1_arrivedParts : MethodName := ⟨RX1, "arrivedParts", "()I"⟩
abbrev cX1_firstSlotOfParts : ByteArray := prog_3_method_7_code
def yX1_firstSlotOfParts : MethodName := ⟨RX1, "firstSlotOfParts", "()I"⟩
abbrev cX1_partIn : ByteArray := prog_3_method_8_code
def yX1_partIn : MethodName := ⟨RX1, "partIn", "(I)I"⟩
def RX2 : String := "BackofficeAir$Station"
def TX2 : u_T := fun k => match k with
  | 0 => ("BackofficeAir$Station", "row", "LBackofficeAir$Row;", true)
  | 1 => ("BackofficeAir$Station", "sending", "LBackofficeAir$Sending;", true)
  | 2 => ("BackofficeAir$Station", "itsClass", "I", false)
  | 3 => ("BackofficeAir$Station", "window", "I", false)
  | 4 => ("BackofficeAir$Station", "wait", "I", false)
  | 5 => ("BackofficeAir$Station", "failures", "I", false)
  | 6 => ("BackofficeAir$Station", "silencedTo", "I", false)
  | 7 => ("BackofficeAir$Station", "delivered", "I", false)
  | 8 => ("BackofficeAir$Station", "dropped", "I", false)
  | 9 => ("BackofficeAir$Station", "airtime", "I", false)
  | 10 => ("BackofficeAir$Station", "slotsOfEnded", "I", false)
  | _ => ("BackofficeAir$Station", "lastSlotSent", "I", false)
def tyX2 : Nat → FieldType := fun k => match k with
  | 0 => .object "BackofficeAir$Row"
  | 1 => .object "BackofficeAir$Sending"
  | 2 => .int
  | 3 => .int
  | 4 => .int
  | 5 => .int
  | 6 => .int
  | 7 => .int
  | 8 => .int
  | 9 => .int
  | 10 => .int
  | _ => .int
abbrev wsX20 : List Cond := u_ws RX2 TX2 12
theorem nmX2 : ∀ a, a < 12 → ∀ b, b < 12 → a ≠ b → (TX2 a).2.1 ≠ (TX2 b).2.1 := by decide +kernel
theorem tyX2_ok : ∀ k, k < 12 → parseFieldDescriptor (TX2 k).2.2.1 = some (tyX2 k) := by decide +kernel
abbrev cX2_init : ByteArray := prog_4_method_1_code
def yX2_init : MethodName := ⟨RX2, "<init>", "()V"⟩
abbrev cX2_begin : ByteArray := prog_4_method_2_code
def yX2_begin : MethodName := ⟨RX2, "begin", "(II)V"⟩
abbrev cX2_end : ByteArray := prog_4_method_3_code
def yX2_end : MethodName := ⟨RX2, "end", "(I)V"⟩
abbrev cX2_countSuccess : ByteArray := prog_4_method_4_code
def yX2_countSuccess : MethodName := ⟨RX2, "countSuccess", "(I)V"⟩
abbrev cX2_countFailure : ByteArray := prog_4_method_5_code
def yX2_countFailure : MethodName := ⟨RX2, "countFailure", "()V"⟩
abbrev cX2_startAfresh : ByteArray := prog_4_method_6_code
def yX2_startAfresh : MethodName := ⟨RX2, "startAfresh", "()V"⟩
def RX3 : String := "BackofficeAir$Strengths"
def TX3 : u_T := fun k => match k with
  | _ => ("BackofficeAir$Strengths", "all", "[I", true)
def tyX3 : Nat → FieldType := fun k => match k with
  | _ => .array .int
abbrev wsX30 : List Cond := u_ws RX3 TX3 1
theorem nmX3 : ∀ a, a < 1 → ∀ b, b < 1 → a ≠ b → (TX3 a).2.1 ≠ (TX3 b).2.1 := by decide +kernel
theorem tyX3_ok : ∀ k, k < 1 → parseFieldDescriptor (TX3 k).2.2.1 = some (tyX3 k) := by decide +kernel
abbrev cX3_init : ByteArray := prog_5_method_1_code
def yX3_init : MethodName := ⟨RX3, "<init>", "()V"⟩
abbrev cX3_between : ByteArray := prog_5_method_2_code
def yX3_between : MethodName := ⟨RX3, "between", "(II)I"⟩
abbrev cX3_put : ByteArray := prog_5_method_3_code
def yX3_put : MethodName := ⟨RX3, "put", "(III)V"⟩
abbrev cX3_placeOf : ByteArray := prog_5_method_4_code
def yX3_placeOf : MethodName := ⟨RX3, "placeOf", "(II)I"⟩
def RX4 : String := "BackofficeAir$Told"
def TX4 : u_T := fun k => match k with
  | 0 => ("BackofficeAir$Told", "ring", "[I", true)
  | 1 => ("BackofficeAir$Told", "first", "I", false)
  | _ => ("BackofficeAir$Told", "left", "I", false)
def tyX4 : Nat → FieldType := fun k => match k with
  | 0 => .array .int
  | 1 => .int
  | _ => .int
abbrev wsX40 : List Cond := u_ws RX4 TX4 3
theorem nmX4 : ∀ a, a < 3 → ∀ b, b < 3 → a ≠ b → (TX4 a).2.1 ≠ (TX4 b).2.1 := by decide +kernel
theorem tyX4_ok : ∀ k, k < 3 → parseFieldDescriptor (TX4 k).2.2.1 = some (tyX4 k) := by decide +kernel
abbrev cX4_init : ByteArray := prog_6_method_1_code
def yX4_init : MethodName := ⟨RX4, "<init>", "()V"⟩
abbrev cX4_add : ByteArray := prog_6_method_2_code
def yX4_add : MethodName := ⟨RX4, "add", "(I)V"⟩
abbrev cX4_next : ByteArray := prog_6_method_3_code
def yX4_next : MethodName := ⟨RX4, "next", "()I"⟩
def RX5 : String := "BackofficeAir"
def TX5 : u_T := fun k => match k with
  | 0 => ("BackofficeAir", "stations", "[LBackofficeAir$Station;", true)
  | 1 => ("BackofficeAir", "strengths", "LBackofficeAir$Strengths;", true)
  | 2 => ("BackofficeAir", "told", "LBackofficeAir$Told;", true)
  | 3 => ("BackofficeAir", "reserve", "I", false)
  | _ => ("BackofficeAir", "slot", "I", false)
def tyX5 : Nat → FieldType := fun k => match k with
  | 0 => .array (.object "BackofficeAir$Station")
  | 1 => .object "BackofficeAir$Strengths"
  | 2 => .object "BackofficeAir$Told"
  | 3 => .int
  | _ => .int
abbrev wsX50 : List Cond := u_ws RX5 TX5 5
theorem nmX5 : ∀ a, a < 5 → ∀ b, b < 5 → a ≠ b → (TX5 a).2.1 ≠ (TX5 b).2.1 := by decide +kernel
theorem tyX5_ok : ∀ k, k < 5 → parseFieldDescriptor (TX5 k).2.2.1 = some (tyX5 k) := by decide +kernel
abbrev cX5_init : ByteArray := prog_1_method_1_code
def yX5_init : MethodName := ⟨RX5, "<init>", "()V"⟩
abbrev cX5_setStrength : ByteArray := prog_1_method_2_code
def yX5_setStrength : MethodName := ⟨RX5, "setStrength", "(III)I"⟩
abbrev cX5_setClass : ByteArray := prog_1_method_3_code
def yX5_setClass : MethodName := ⟨RX5, "setClass", "(II)I"⟩
abbrev cX5_setReserve : ByteArray := prog_1_method_4_code
def yX5_setReserve : MethodName := ⟨RX5, "setReserve", "(I)I"⟩
abbrev cX5_tell : ByteArray := prog_1_method_5_code
def yX5_tell : MethodName := ⟨RX5, "tell", "(I)I"⟩
abbrev cX5_frame : ByteArray := prog_1_method_6_code
def yX5_frame : MethodName := ⟨RX5, "frame", "(III)I"⟩
abbrev cX5_pass : ByteArray := prog_1_method_7_code
def yX5_pass : MethodName := ⟨RX5, "pass", "(I)I"⟩
abbrev cX5_now : ByteArray := prog_1_method_8_code
def yX5_now : MethodName := ⟨RX5, "now", "()I"⟩
abbrev cX5_sends : ByteArray := prog_1_method_9_code
def yX5_sends : MethodName := ⟨RX5, "sends", "(I)Z"⟩
abbrev cX5_waitOf : ByteArray := prog_1_method_10_code
def yX5_waitOf : MethodName := ⟨RX5, "waitOf", "(I)I"⟩
abbrev cX5_window : ByteArray := prog_1_method_11_code
def yX5_window : MethodName := ⟨RX5, "window", "(I)I"⟩
abbrev cX5_failures : ByteArray := prog_1_method_12_code
def yX5_failures : MethodName := ⟨RX5, "failures", "(I)I"⟩
abbrev cX5_silencedTo : ByteArray := prog_1_method_13_code
def yX5_silencedTo : MethodName := ⟨RX5, "silencedTo", "(I)I"⟩
abbrev cX5_frames : ByteArray := prog_1_method_14_code
def yX5_frames : MethodName := ⟨RX5, "frames", "(I)I"⟩
abbrev cX5_partsLeft : ByteArray := prog_1_method_15_code
def yX5_partsLeft : MethodName := ⟨RX5, "partsLeft", "(I)I"⟩
abbrev cX5_delivered : ByteArray := prog_1_method_16_code
def yX5_delivered : MethodName := ⟨RX5, "delivered", "(I)I"⟩
abbrev cX5_dropped : ByteArray := prog_1_method_17_code
def yX5_dropped : MethodName := ⟨RX5, "dropped", "(I)I"⟩
abbrev cX5_airtime : ByteArray := prog_1_method_18_code
def yX5_airtime : MethodName := ⟨RX5, "airtime", "(I)I"⟩
abbrev cX5_airtimeBySendings : ByteArray := prog_1_method_19_code
def yX5_airtimeBySendings : MethodName := ⟨RX5, "airtimeBySendings", "(I)I"⟩
abbrev cX5_numbers : ByteArray := prog_1_method_20_code
def yX5_numbers : MethodName := ⟨RX5, "numbers", "()I"⟩
abbrev cX5_isStation : ByteArray := prog_1_method_21_code
def yX5_isStation : MethodName := ⟨RX5, "isStation", "(I)Z"⟩
abbrev cX5_leastWindow : ByteArray := prog_1_method_22_code
def yX5_leastWindow : MethodName := ⟨RX5, "leastWindow", "(I)I"⟩
abbrev cX5_stationAt : ByteArray := prog_1_method_23_code
def yX5_stationAt : MethodName := ⟨RX5, "stationAt", "(I)LBackofficeAir$Station;"⟩
abbrev cX5_passOneSlot : ByteArray := prog_1_method_24_code
def yX5_passOneSlot : MethodName := ⟨RX5, "passOneSlot", "()I"⟩
abbrev cX5_waitOrBegin : ByteArray := prog_1_method_25_code
def yX5_waitOrBegin : MethodName := ⟨RX5, "waitOrBegin", "(I)V"⟩
abbrev cX5_restBy : ByteArray := prog_1_method_26_code
def yX5_restBy : MethodName := ⟨RX5, "restBy", "(II)I"⟩
abbrev cX5_heardInSlotBefore : ByteArray := prog_1_method_27_code
def yX5_heardInSlotBefore : MethodName := ⟨RX5, "heardInSlotBefore", "(I)Z"⟩
abbrev cX5_sendInSlot : ByteArray := prog_1_method_28_code
def yX5_sendInSlot : MethodName := ⟨RX5, "sendInSlot", "(I)V"⟩
abbrev cX5_isBrokenAt : ByteArray := prog_1_method_29_code
def yX5_isBrokenAt : MethodName := ⟨RX5, "isBrokenAt", "(II)Z"⟩
abbrev cX5_endsAfterSlot : ByteArray := prog_1_method_30_code
def yX5_endsAfterSlot : MethodName := ⟨RX5, "endsAfterSlot", "(I)Z"⟩
abbrev cX5_silenceAround : ByteArray := prog_1_method_31_code
def yX5_silenceAround : MethodName := ⟨RX5, "silenceAround", "(III)V"⟩
def RX6 : String := "BackofficeAirModel"
def TX6 : u_T := fun k => match k with
  | _ => ("", "", "", false)
def tyX6 : Nat → FieldType := fun k => match k with
  | _ => .int
abbrev wsX60 : List Cond := u_ws RX6 TX6 0
theorem nmX6 : ∀ a, a < 0 → ∀ b, b < 0 → a ≠ b → (TX6 a).2.1 ≠ (TX6 b).2.1 := by decide +kernel
theorem tyX6_ok : ∀ k, k < 0 → parseFieldDescriptor (TX6 k).2.2.1 = some (tyX6 k) := by decide +kernel
def RJ6 : String := "java/lang/Integer"
def TJ6 : u_T := fun k => match k with
  | _ => ("", "", "", false)
def tyJ6 : Nat → FieldType := fun k => match k with
  | _ => .int
abbrev wsJ60 : List Cond := u_ws RJ6 TJ6 0
theorem nmJ6 : ∀ a, a < 0 → ∀ b, b < 0 → a ≠ b → (TJ6 a).2.1 ≠ (TJ6 b).2.1 := by decide +kernel
theorem tyJ6_ok : ∀ k, k < 0 → parseFieldDescriptor (TJ6 k).2.2.1 = some (tyJ6 k) := by decide +kernel
abbrev cJ6_bitCount_0f7a4 : ByteArray := prog_13_method_49_code
def yJ6_bitCount_0f7a4 : MethodName := ⟨RJ6, "bitCount", "(I)I"⟩
def RJ9 : String := "java/lang/Math"
def TJ9 : u_T := fun k => match k with
  | _ => ("", "", "", false)
def tyJ9 : Nat → FieldType := fun k => match k with
  | _ => .int
abbrev wsJ90 : List Cond := u_ws RJ9 TJ9 0
theorem nmJ9 : ∀ a, a < 0 → ∀ b, b < 0 → a ≠ b → (TJ9 a).2.1 ≠ (TJ9 b).2.1 := by decide +kernel
theorem tyJ9_ok : ∀ k, k < 0 → parseFieldDescriptor (TJ9 k).2.2.1 = some (tyJ9 k) := by decide +kernel
abbrev cJ9_max_7cf53 : ByteArray := prog_14_method_65_code
def yJ9_max_7cf53 : MethodName := ⟨RJ9, "max", "(II)I"⟩
abbrev cJ9_min_7cf53 : ByteArray := prog_14_method_69_code
def yJ9_min_7cf53 : MethodName := ⟨RJ9, "min", "(II)I"⟩
def RJ0 : String := "java/lang/String"
def TJ0 : u_T := fun k => match k with
  | _ => ("", "", "", false)
def tyJ0 : Nat → FieldType := fun k => match k with
  | _ => .int
abbrev wsJ00 : List Cond := u_ws RJ0 TJ0 0
theorem nmJ0 : ∀ a, a < 0 → ∀ b, b < 0 → a ≠ b → (TJ0 a).2.1 ≠ (TJ0 b).2.1 := by decide +kernel
theorem tyJ0_ok : ∀ k, k < 0 → parseFieldDescriptor (TJ0 k).2.2.1 = some (tyJ0 k) := by decide +kernel
def RL : String := "BackofficeAirLaw"
abbrev cL_tells : ByteArray := method_2_code
def yL_tells : MethodName := ⟨RL, "tells", "(LBackofficeAir;I)I"⟩
abbrev cL_frames : ByteArray := method_3_code
def yL_frames : MethodName := ⟨RL, "frames", "(LBackofficeAir;III)I"⟩
abbrev cL_bits : ByteArray := method_4_code
def yL_bits : MethodName := ⟨RL, "bits", "(I)I"⟩
abbrev cL_isStation : ByteArray := method_5_code
def yL_isStation : MethodName := ⟨RL, "isStation", "(LBackofficeAir;II)Z"⟩
abbrev cL_isSlot : ByteArray := method_6_code
def yL_isSlot : MethodName := ⟨RL, "isSlot", "(LBackofficeAir;[I[I[I)Z"⟩
abbrev cL_law : ByteArray := code
def yL_law : MethodName := ⟨RL, "law", "([I)Z"⟩
def wsX0_init : List Cond := .code yX0_init cX0_init 1 none :: ([.methodLink RX0 3 objectInit, .instanceMethod objectInit, .code objectInit ⟨#[0xb1]⟩ 1 none, .arrayClass .int, .fieldLink RX0 9 "BackofficeAir$Row" "goals" "[I", .fieldLink RX0 15 "BackofficeAir$Row" "parts" "[I", .fieldLink RX0 18 "BackofficeAir$Row" "count" "I"] ++ wsX00)
def wsX0_add : List Cond := .code yX0_add cX0_add 3 none :: ([.fieldLink RX0 18 "BackofficeAir$Row" "count" "I", .fieldLink RX0 9 "BackofficeAir$Row" "goals" "[I", .fieldLink RX0 15 "BackofficeAir$Row" "parts" "[I"] ++ wsX00)
def wsX0_goalOfFirst : List Cond := .code yX0_goalOfFirst cX0_goalOfFirst 1 (some .int) :: ([.fieldLink RX0 18 "BackofficeAir$Row" "count" "I", .fieldLink RX0 9 "BackofficeAir$Row" "goals" "[I"] ++ wsX00)
def wsX0_partsOfFirst : List Cond := .code yX0_partsOfFirst cX0_partsOfFirst 1 (some .int) :: ([.fieldLink RX0 18 "BackofficeAir$Row" "count" "I", .fieldLink RX0 15 "BackofficeAir$Row" "parts" "[I"] ++ wsX00)
def wsX0_takeFromFirst : List Cond := .code yX0_takeFromFirst cX0_takeFromFirst 2 none :: ([.fieldLink RX0 18 "BackofficeAir$Row" "count" "I", .fieldLink RX0 15 "BackofficeAir$Row" "parts" "[I"] ++ wsX00)
def wsX0_removeFirst : List Cond := .code yX0_removeFirst cX0_removeFirst 2 none :: ([.fieldLink RX0 18 "BackofficeAir$Row" "count" "I", .fieldLink RX0 9 "BackofficeAir$Row" "goals" "[I", .fieldLink RX0 15 "BackofficeAir$Row" "parts" "[I", .methodLink RX0 22 Lib.Math.max.name, .static Lib.Math.max.name, .initialized "java/lang/Math", .code Lib.Math.max.name Lib.Math.max.code 2 (some .int)] ++ wsX00)
def wsX1_init : List Cond := .code yX1_init cX1_init 1 none :: ([.methodLink RX1 3 objectInit, .instanceMethod objectInit, .code objectInit ⟨#[0xb1]⟩ 1 none, .fieldLink RX1 9 "BackofficeAir$Sending" "on" "Z", .fieldLink RX1 15 "BackofficeAir$Sending" "firstSlot" "I", .fieldLink RX1 19 "BackofficeAir$Sending" "lastSlot" "I", .fieldLink RX1 22 "BackofficeAir$Sending" "hasRequest" "Z", .fieldLink RX1 25 "BackofficeAir$Sending" "requestBroken" "Z", .fieldLink RX1 28 "BackofficeAir$Sending" "parts" "I", .fieldLink RX1 31 "BackofficeAir$Sending" "brokenParts" "I"] ++ wsX10)
def wsX1_firstSlotOfParts : List Cond := .code yX1_firstSlotOfParts cX1_firstSlotOfParts 1 (some .int) :: ([.fieldLink RX1 22 "BackofficeAir$Sending" "hasRequest" "Z", .fieldLink RX1 15 "BackofficeAir$Sending" "firstSlot" "I"] ++ wsX10)
def wsJ6_bitCount_0f7a4 : List Cond := .code yJ6_bitCount_0f7a4 cJ6_bitCount_0f7a4 1 (some .int) :: ([.constant RJ6 265 (1431655765), .constant RJ6 266 (858993459), .constant RJ6 267 (252645135)])
def wsX1_begin : List Cond := .code yX1_begin cX1_begin 4 none :: ([.fieldLink RX1 9 "BackofficeAir$Sending" "on" "Z", .fieldLink RX1 15 "BackofficeAir$Sending" "firstSlot" "I", .fieldLink RX1 22 "BackofficeAir$Sending" "hasRequest" "Z", .fieldLink RX1 25 "BackofficeAir$Sending" "requestBroken" "Z", .fieldLink RX1 28 "BackofficeAir$Sending" "parts" "I", .fieldLink RX1 31 "BackofficeAir$Sending" "brokenParts" "I", .fieldLink RX1 19 "BackofficeAir$Sending" "lastSlot" "I", .methodLink RX1 34 yX1_firstSlotOfParts, .instanceMethod yX1_firstSlotOfParts, .selects RX1 yX1_firstSlotOfParts yX1_firstSlotOfParts, .initialized RX1, .code yX1_firstSlotOfParts cX1_firstSlotOfParts 1 (some .int), .methodLink RX1 38 yJ6_bitCount_0f7a4, .static yJ6_bitCount_0f7a4, .initialized RJ6, .code yJ6_bitCount_0f7a4 cJ6_bitCount_0f7a4 1 (some .int), .constant RJ6 265 (1431655765), .constant RJ6 266 (858993459), .constant RJ6 267 (252645135)] ++ wsX10)
def wsX1_slotsUpTo : List Cond := .code yX1_slotsUpTo cX1_slotsUpTo 2 (some .int) :: ([.fieldLink RX1 15 "BackofficeAir$Sending" "firstSlot" "I"] ++ wsX10)
def wsX1_isRequest : List Cond := .code yX1_isRequest cX1_isRequest 2 (some .boolean) :: ([.fieldLink RX1 22 "BackofficeAir$Sending" "hasRequest" "Z", .fieldLink RX1 15 "BackofficeAir$Sending" "firstSlot" "I"] ++ wsX10)
def wsX1_partIn : List Cond := .code yX1_partIn cX1_partIn 5 (some .int) :: ([.fieldLink RX1 28 "BackofficeAir$Sending" "parts" "I", .methodLink RX1 34 yX1_firstSlotOfParts, .instanceMethod yX1_firstSlotOfParts, .selects RX1 yX1_firstSlotOfParts yX1_firstSlotOfParts, .initialized RX1, .code yX1_firstSlotOfParts cX1_firstSlotOfParts 1 (some .int), .fieldLink RX1 22 "BackofficeAir$Sending" "hasRequest" "Z", .fieldLink RX1 15 "BackofficeAir$Sending" "firstSlot" "I"] ++ wsX10)
def wsX1_breakIn : List Cond := .code yX1_breakIn cX1_breakIn 2 none :: ([.fieldLink RX1 25 "BackofficeAir$Sending" "requestBroken" "Z", .fieldLink RX1 31 "BackofficeAir$Sending" "brokenParts" "I", .methodLink RX1 44 yX1_isRequest, .instanceMethod yX1_isRequest, .selects RX1 yX1_isRequest yX1_isRequest, .initialized RX1, .code yX1_isRequest cX1_isRequest 2 (some .boolean), .fieldLink RX1 22 "BackofficeAir$Sending" "hasRequest" "Z", .fieldLink RX1 15 "BackofficeAir$Sending" "firstSlot" "I", .methodLink RX1 48 yX1_partIn, .instanceMethod yX1_partIn, .selects RX1 yX1_partIn yX1_partIn, .code yX1_partIn cX1_partIn 5 (some .int), .fieldLink RX1 28 "BackofficeAir$Sending" "parts" "I", .methodLink RX1 34 yX1_firstSlotOfParts, .instanceMethod yX1_firstSlotOfParts, .selects RX1 yX1_firstSlotOfParts yX1_firstSlotOfParts, .code yX1_firstSlotOfParts cX1_firstSlotOfParts 1 (some .int)] ++ wsX10)
def wsX1_arrivedParts : List Cond := .code yX1_arrivedParts cX1_arrivedParts 1 (some .int) :: ([.fieldLink RX1 25 "BackofficeAir$Sending" "requestBroken" "Z", .fieldLink RX1 28 "BackofficeAir$Sending" "parts" "I", .fieldLink RX1 31 "BackofficeAir$Sending" "brokenParts" "I"] ++ wsX10)
def wsX2_init_r1 : List Cond := [Cond.methodLink RX2 3 objectInit, Cond.instanceMethod objectInit, Cond.code objectInit ⟨#[0xb1]⟩ 1 none, Cond.classLink RX2 9 RX0, Cond.instantiable RX0 3, Cond.initialized RX0, Cond.fieldLink RX2 12 "BackofficeAir$Station" "row" "LBackofficeAir$Row;", Cond.classLink RX2 18 RX1, Cond.instantiable RX1 7, Cond.initialized RX1, Cond.fieldLink RX2 21 "BackofficeAir$Station" "sending" "LBackofficeAir$Sending;", Cond.fieldLink RX2 25 "BackofficeAir$Station" "itsClass" "I", Cond.fieldLink RX2 29 "BackofficeAir$Station" "window" "I", Cond.fieldLink RX2 32 "BackofficeAir$Station" "wait" "I", Cond.fieldLink RX2 35 "BackofficeAir$Station" "failures" "I", Cond.fieldLink RX2 38 "BackofficeAir$Station" "silencedTo" "I", Cond.fieldLink RX2 41 "BackofficeAir$Station" "delivered" "I", Cond.fieldLink RX2 44 "BackofficeAir$Station" "dropped" "I", Cond.fieldLink RX2 47 "BackofficeAir$Station" "airtime" "I", Cond.fieldLink RX2 50 "BackofficeAir$Station" "slotsOfEnded" "I", Cond.fieldLink RX2 53 "BackofficeAir$Station" "lastSlotSent" "I", Cond.instanceMethod yX0_init, Cond.code yX0_init cX0_init 1 none, Cond.methodLink RX0 3 objectInit]
def wsX2_init_r2 : List Cond := [Cond.arrayClass .int, Cond.fieldLink RX0 9 "BackofficeAir$Row" "goals" "[I", Cond.fieldLink RX0 15 "BackofficeAir$Row" "parts" "[I", Cond.fieldLink RX0 18 "BackofficeAir$Row" "count" "I", Cond.instanceMethod yX1_init, Cond.code yX1_init cX1_init 1 none, Cond.methodLink RX1 3 objectInit, Cond.fieldLink RX1 9 "BackofficeAir$Sending" "on" "Z", Cond.fieldLink RX1 15 "BackofficeAir$Sending" "firstSlot" "I", Cond.fieldLink RX1 19 "BackofficeAir$Sending" "lastSlot" "I", Cond.fieldLink RX1 22 "BackofficeAir$Sending" "hasRequest" "Z", Cond.fieldLink RX1 25 "BackofficeAir$Sending" "requestBroken" "Z", Cond.fieldLink RX1 28 "BackofficeAir$Sending" "parts" "I", Cond.fieldLink RX1 31 "BackofficeAir$Sending" "brokenParts" "I"]
def wsX2_init : List Cond := .code yX2_init cX2_init 1 none :: ((wsX2_init_r1 ++ wsX2_init_r2) ++ wsX00 ++ wsX20 ++ wsX10)
def wsX2_begin_r1 : List Cond := [Cond.fieldLink RX2 12 "BackofficeAir$Station" "row" "LBackofficeAir$Row;", Cond.fieldLink RX2 32 "BackofficeAir$Station" "wait" "I", Cond.fieldLink RX2 21 "BackofficeAir$Station" "sending" "LBackofficeAir$Sending;", Cond.methodLink RX2 56 yX0_partsOfFirst, Cond.instanceMethod yX0_partsOfFirst, Cond.selects RX0 yX0_partsOfFirst yX0_partsOfFirst, Cond.initialized RX0, Cond.code yX0_partsOfFirst cX0_partsOfFirst 1 (some .int), Cond.fieldLink RX0 18 "BackofficeAir$Row" "count" "I", Cond.fieldLink RX0 15 "BackofficeAir$Row" "parts" "[I", Cond.methodLink RX2 60 yJ6_bitCount_0f7a4, Cond.static yJ6_bitCount_0f7a4, Cond.initialized RJ6, Cond.code yJ6_bitCount_0f7a4 cJ6_bitCount_0f7a4 1 (some .int), Cond.constant RJ6 265 (1431655765), Cond.constant RJ6 266 (858993459), Cond.constant RJ6 267 (252645135), Cond.methodLink RX2 66 yX1_begin, Cond.instanceMethod yX1_begin, Cond.selects RX1 yX1_begin yX1_begin, Cond.initialized RX1, Cond.code yX1_begin cX1_begin 4 none, Cond.fieldLink RX1 9 "BackofficeAir$Sending" "on" "Z", Cond.fieldLink RX1 15 "BackofficeAir$Sending" "firstSlot" "I"]
def wsX2_begin_r2 : List Cond := [Cond.fieldLink RX1 22 "BackofficeAir$Sending" "hasRequest" "Z", Cond.fieldLink RX1 25 "BackofficeAir$Sending" "requestBroken" "Z", Cond.fieldLink RX1 28 "BackofficeAir$Sending" "parts" "I", Cond.fieldLink RX1 31 "BackofficeAir$Sending" "brokenParts" "I", Cond.fieldLink RX1 19 "BackofficeAir$Sending" "lastSlot" "I", Cond.methodLink RX1 34 yX1_firstSlotOfParts, Cond.instanceMethod yX1_firstSlotOfParts, Cond.selects RX1 yX1_firstSlotOfParts yX1_firstSlotOfParts, Cond.code yX1_firstSlotOfParts cX1_firstSlotOfParts 1 (some .int), Cond.methodLink RX1 38 yJ6_bitCount_0f7a4]
def wsX2_begin : List Cond := .code yX2_begin cX2_begin 4 none :: ((wsX2_begin_r1 ++ wsX2_begin_r2) ++ wsX20 ++ wsX00 ++ wsX10)
def wsX5_leastWindow : List Cond := .code yX5_leastWindow cX5_leastWindow 1 (some .int) :: ([])
def wsX2_startAfresh : List Cond := .code yX2_startAfresh cX2_startAfresh 1 none :: ([.fieldLink RX2 25 "BackofficeAir$Station" "itsClass" "I", .fieldLink RX2 29 "BackofficeAir$Station" "window" "I", .fieldLink RX2 35 "BackofficeAir$Station" "failures" "I", .static yX5_leastWindow, .initialized RX5, .code yX5_leastWindow cX5_leastWindow 1 (some .int)] ++ wsX20)
def wsX2_countFailure_r1 : List Cond := [Cond.fieldLink RX2 35 "BackofficeAir$Station" "failures" "I", Cond.fieldLink RX2 29 "BackofficeAir$Station" "window" "I", Cond.methodLink RX2 96 Lib.Math.min.name, Cond.static Lib.Math.min.name, Cond.initialized "java/lang/Math", Cond.code Lib.Math.min.name Lib.Math.min.code 2 (some .int), Cond.fieldLink RX2 44 "BackofficeAir$Station" "dropped" "I", Cond.fieldLink RX2 12 "BackofficeAir$Station" "row" "LBackofficeAir$Row;", Cond.methodLink RX2 93 yX0_removeFirst, Cond.instanceMethod yX0_removeFirst, Cond.selects RX0 yX0_removeFirst yX0_removeFirst, Cond.initialized RX0, Cond.code yX0_removeFirst cX0_removeFirst 2 none, Cond.fieldLink RX0 18 "BackofficeAir$Row" "count" "I", Cond.fieldLink RX0 9 "BackofficeAir$Row" "goals" "[I", Cond.fieldLink RX0 15 "BackofficeAir$Row" "parts" "[I", Cond.methodLink RX0 22 Lib.Math.max.name, Cond.static Lib.Math.max.name, Cond.code Lib.Math.max.name Lib.Math.max.code 2 (some .int), Cond.methodLink RX2 90 yX2_startAfresh, Cond.instanceMethod yX2_startAfresh, Cond.selects RX2 yX2_startAfresh yX2_startAfresh, Cond.initialized RX2, Cond.code yX2_startAfresh cX2_startAfresh 1 none]
def wsX2_countFailure_r2 : List Cond := [Cond.fieldLink RX2 25 "BackofficeAir$Station" "itsClass" "I", Cond.static yX5_leastWindow, Cond.initialized RX5, Cond.code yX5_leastWindow cX5_leastWindow 1 (some .int)]
def wsX2_countFailure : List Cond := .code yX2_countFailure cX2_countFailure 1 none :: ((wsX2_countFailure_r1 ++ wsX2_countFailure_r2) ++ wsX20 ++ wsX00)
def wsX2_countSuccess_r1 : List Cond := [Cond.fieldLink RX2 41 "BackofficeAir$Station" "delivered" "I", Cond.fieldLink RX2 12 "BackofficeAir$Station" "row" "LBackofficeAir$Row;", Cond.methodLink RX2 60 yJ6_bitCount_0f7a4, Cond.static yJ6_bitCount_0f7a4, Cond.initialized RJ6, Cond.code yJ6_bitCount_0f7a4 cJ6_bitCount_0f7a4 1 (some .int), Cond.constant RJ6 265 (1431655765), Cond.constant RJ6 266 (858993459), Cond.constant RJ6 267 (252645135), Cond.methodLink RX2 87 yX0_takeFromFirst, Cond.instanceMethod yX0_takeFromFirst, Cond.selects RX0 yX0_takeFromFirst yX0_takeFromFirst, Cond.initialized RX0, Cond.code yX0_takeFromFirst cX0_takeFromFirst 2 none, Cond.fieldLink RX0 18 "BackofficeAir$Row" "count" "I", Cond.fieldLink RX0 15 "BackofficeAir$Row" "parts" "[I", Cond.methodLink RX2 90 yX2_startAfresh, Cond.instanceMethod yX2_startAfresh, Cond.selects RX2 yX2_startAfresh yX2_startAfresh, Cond.initialized RX2, Cond.code yX2_startAfresh cX2_startAfresh 1 none, Cond.fieldLink RX2 25 "BackofficeAir$Station" "itsClass" "I", Cond.fieldLink RX2 29 "BackofficeAir$Station" "window" "I", Cond.fieldLink RX2 35 "BackofficeAir$Station" "failures" "I"]
def wsX2_countSuccess_r2 : List Cond := [Cond.static yX5_leastWindow, Cond.initialized RX5, Cond.code yX5_leastWindow cX5_leastWindow 1 (some .int), Cond.methodLink RX2 56 yX0_partsOfFirst, Cond.instanceMethod yX0_partsOfFirst, Cond.selects RX0 yX0_partsOfFirst yX0_partsOfFirst, Cond.code yX0_partsOfFirst cX0_partsOfFirst 1 (some .int), Cond.methodLink RX2 93 yX0_removeFirst, Cond.instanceMethod yX0_removeFirst, Cond.selects RX0 yX0_removeFirst yX0_removeFirst, Cond.code yX0_removeFirst cX0_removeFirst 2 none, Cond.fieldLink RX0 9 "BackofficeAir$Row" "goals" "[I", Cond.methodLink RX0 22 Lib.Math.max.name, Cond.static Lib.Math.max.name, Cond.initialized "java/lang/Math", Cond.code Lib.Math.max.name Lib.Math.max.code 2 (some .int)]
def wsX2_countSuccess : List Cond := .code yX2_countSuccess cX2_countSuccess 2 none :: ((wsX2_countSuccess_r1 ++ wsX2_countSuccess_r2) ++ wsX20 ++ wsX00)
def wsX2_end_r1 : List Cond := [Cond.fieldLink RX2 21 "BackofficeAir$Station" "sending" "LBackofficeAir$Sending;", Cond.fieldLink RX2 50 "BackofficeAir$Station" "slotsOfEnded" "I", Cond.methodLink RX2 74 yX1_slotsUpTo, Cond.instanceMethod yX1_slotsUpTo, Cond.selects RX1 yX1_slotsUpTo yX1_slotsUpTo, Cond.initialized RX1, Cond.code yX1_slotsUpTo cX1_slotsUpTo 2 (some .int), Cond.fieldLink RX1 15 "BackofficeAir$Sending" "firstSlot" "I", Cond.methodLink RX2 77 yX1_arrivedParts, Cond.instanceMethod yX1_arrivedParts, Cond.selects RX1 yX1_arrivedParts yX1_arrivedParts, Cond.code yX1_arrivedParts cX1_arrivedParts 1 (some .int), Cond.fieldLink RX1 25 "BackofficeAir$Sending" "requestBroken" "Z", Cond.fieldLink RX1 28 "BackofficeAir$Sending" "parts" "I", Cond.fieldLink RX1 31 "BackofficeAir$Sending" "brokenParts" "I", Cond.methodLink RX2 80 yX2_countFailure, Cond.instanceMethod yX2_countFailure, Cond.selects RX2 yX2_countFailure yX2_countFailure, Cond.initialized RX2, Cond.code yX2_countFailure cX2_countFailure 1 none, Cond.fieldLink RX2 35 "BackofficeAir$Station" "failures" "I", Cond.fieldLink RX2 29 "BackofficeAir$Station" "window" "I", Cond.methodLink RX2 96 Lib.Math.min.name, Cond.static Lib.Math.min.name]
def wsX2_end_r2 : List Cond := [Cond.initialized "java/lang/Math", Cond.code Lib.Math.min.name Lib.Math.min.code 2 (some .int), Cond.fieldLink RX2 44 "BackofficeAir$Station" "dropped" "I", Cond.fieldLink RX2 12 "BackofficeAir$Station" "row" "LBackofficeAir$Row;", Cond.methodLink RX2 93 yX0_removeFirst, Cond.instanceMethod yX0_removeFirst, Cond.selects RX0 yX0_removeFirst yX0_removeFirst, Cond.initialized RX0, Cond.code yX0_removeFirst cX0_removeFirst 2 none, Cond.fieldLink RX0 18 "BackofficeAir$Row" "count" "I", Cond.fieldLink RX0 9 "BackofficeAir$Row" "goals" "[I", Cond.fieldLink RX0 15 "BackofficeAir$Row" "parts" "[I", Cond.methodLink RX0 22 Lib.Math.max.name, Cond.static Lib.Math.max.name, Cond.code Lib.Math.max.name Lib.Math.max.code 2 (some .int), Cond.methodLink RX2 90 yX2_startAfresh, Cond.instanceMethod yX2_startAfresh, Cond.selects RX2 yX2_startAfresh yX2_startAfresh, Cond.code yX2_startAfresh cX2_startAfresh 1 none, Cond.fieldLink RX2 25 "BackofficeAir$Station" "itsClass" "I", Cond.static yX5_leastWindow, Cond.initialized RX5, Cond.code yX5_leastWindow cX5_leastWindow 1 (some .int), Cond.methodLink RX2 83 yX2_countSuccess]
def wsX2_end_r3 : List Cond := [Cond.instanceMethod yX2_countSuccess, Cond.selects RX2 yX2_countSuccess yX2_countSuccess, Cond.code yX2_countSuccess cX2_countSuccess 2 none, Cond.fieldLink RX2 41 "BackofficeAir$Station" "delivered" "I", Cond.methodLink RX2 60 yJ6_bitCount_0f7a4, Cond.static yJ6_bitCount_0f7a4, Cond.initialized RJ6, Cond.code yJ6_bitCount_0f7a4 cJ6_bitCount_0f7a4 1 (some .int), Cond.constant RJ6 265 (1431655765), Cond.constant RJ6 266 (858993459), Cond.constant RJ6 267 (252645135), Cond.methodLink RX2 87 yX0_takeFromFirst, Cond.instanceMethod yX0_takeFromFirst, Cond.selects RX0 yX0_takeFromFirst yX0_takeFromFirst, Cond.code yX0_takeFromFirst cX0_takeFromFirst 2 none, Cond.methodLink RX2 56 yX0_partsOfFirst, Cond.instanceMethod yX0_partsOfFirst, Cond.selects RX0 yX0_partsOfFirst yX0_partsOfFirst, Cond.code yX0_partsOfFirst cX0_partsOfFirst 1 (some .int)]
def wsX2_end : List Cond := .code yX2_end cX2_end 3 none :: ((wsX2_end_r1 ++ (wsX2_end_r2 ++ wsX2_end_r3)) ++ wsX20 ++ wsX10 ++ wsX00)
def wsX3_init : List Cond := .code yX3_init cX3_init 1 none :: ([.methodLink RX3 3 objectInit, .instanceMethod objectInit, .code objectInit ⟨#[0xb1]⟩ 1 none, .arrayClass .int, .fieldLink RX3 9 "BackofficeAir$Strengths" "all" "[I"] ++ wsX30)
def wsX5_isStation : List Cond := .code yX5_isStation cX5_isStation 1 (some .boolean) :: ([])
def wsX3_placeOf : List Cond := .code yX3_placeOf cX3_placeOf 2 (some .int) :: ([.static yX5_isStation, .initialized RX5, .code yX5_isStation cX5_isStation 1 (some .boolean)])
def wsX3_between : List Cond := .code yX3_between cX3_between 4 (some .int) :: ([.fieldLink RX3 9 "BackofficeAir$Strengths" "all" "[I", .methodLink RX3 15 yX3_placeOf, .static yX3_placeOf, .initialized RX3, .code yX3_placeOf cX3_placeOf 2 (some .int), .static yX5_isStation, .initialized RX5, .code yX5_isStation cX5_isStation 1 (some .boolean)] ++ wsX30)
def wsX3_put : List Cond := .code yX3_put cX3_put 6 none :: ([.fieldLink RX3 9 "BackofficeAir$Strengths" "all" "[I", .methodLink RX3 15 yX3_placeOf, .static yX3_placeOf, .initialized RX3, .code yX3_placeOf cX3_placeOf 2 (some .int), .static yX5_isStation, .initialized RX5, .code yX5_isStation cX5_isStation 1 (some .boolean)] ++ wsX30)
def wsX4_init : List Cond := .code yX4_init cX4_init 1 none :: ([.methodLink RX4 3 objectInit, .instanceMethod objectInit, .code objectInit ⟨#[0xb1]⟩ 1 none, .arrayClass .int, .fieldLink RX4 9 "BackofficeAir$Told" "ring" "[I", .fieldLink RX4 15 "BackofficeAir$Told" "first" "I", .fieldLink RX4 19 "BackofficeAir$Told" "left" "I"] ++ wsX40)
def wsX4_add : List Cond := .code yX4_add cX4_add 3 none :: ([.fieldLink RX4 15 "BackofficeAir$Told" "first" "I", .fieldLink RX4 19 "BackofficeAir$Told" "left" "I", .fieldLink RX4 9 "BackofficeAir$Told" "ring" "[I"] ++ wsX40)
def wsX4_next : List Cond := .code yX4_next cX4_next 2 (some .int) :: ([.fieldLink RX4 19 "BackofficeAir$Told" "left" "I", .fieldLink RX4 15 "BackofficeAir$Told" "first" "I", .fieldLink RX4 9 "BackofficeAir$Told" "ring" "[I"] ++ wsX40)
def wsX5_init_r1 : List Cond := [Cond.methodLink RX5 1 objectInit, Cond.instanceMethod objectInit, Cond.code objectInit ⟨#[0xb1]⟩ 1 none, Cond.classLink RX5 9 RX2, Cond.fieldLink RX5 11 "BackofficeAir" "stations" "[LBackofficeAir$Station;", Cond.classLink RX5 15 RX3, Cond.instantiable RX3 1, Cond.initialized RX3, Cond.fieldLink RX5 18 "BackofficeAir" "strengths" "LBackofficeAir$Strengths;", Cond.classLink RX5 22 RX4, Cond.instantiable RX4 3, Cond.initialized RX4, Cond.fieldLink RX5 25 "BackofficeAir" "told" "LBackofficeAir$Told;", Cond.fieldLink RX5 29 "BackofficeAir" "reserve" "I", Cond.fieldLink RX5 33 "BackofficeAir" "slot" "I", Cond.instantiable RX2 12, Cond.initialized RX2, Cond.instanceMethod yX3_init, Cond.code yX3_init cX3_init 1 none, Cond.methodLink RX3 3 objectInit, Cond.arrayClass .int, Cond.fieldLink RX3 9 "BackofficeAir$Strengths" "all" "[I", Cond.instanceMethod yX4_init, Cond.code yX4_init cX4_init 1 none]
def wsX5_init_r2 : List Cond := [Cond.methodLink RX4 3 objectInit, Cond.fieldLink RX4 9 "BackofficeAir$Told" "ring" "[I", Cond.fieldLink RX4 15 "BackofficeAir$Told" "first" "I", Cond.fieldLink RX4 19 "BackofficeAir$Told" "left" "I", Cond.instanceMethod yX2_init, Cond.code yX2_init cX2_init 1 none, Cond.methodLink RX2 3 objectInit, Cond.classLink RX2 9 RX0, Cond.instantiable RX0 3, Cond.initialized RX0, Cond.fieldLink RX2 12 "BackofficeAir$Station" "row" "LBackofficeAir$Row;", Cond.classLink RX2 18 RX1, Cond.instantiable RX1 7, Cond.initialized RX1, Cond.fieldLink RX2 21 "BackofficeAir$Station" "sending" "LBackofficeAir$Sending;", Cond.fieldLink RX2 25 "BackofficeAir$Station" "itsClass" "I", Cond.fieldLink RX2 29 "BackofficeAir$Station" "window" "I", Cond.fieldLink RX2 32 "BackofficeAir$Station" "wait" "I", Cond.fieldLink RX2 35 "BackofficeAir$Station" "failures" "I", Cond.fieldLink RX2 38 "BackofficeAir$Station" "silencedTo" "I", Cond.fieldLink RX2 41 "BackofficeAir$Station" "delivered" "I", Cond.fieldLink RX2 44 "BackofficeAir$Station" "dropped" "I", Cond.fieldLink RX2 47 "BackofficeAir$Station" "airtime" "I", Cond.fieldLink RX2 50 "BackofficeAir$Station" "slotsOfEnded" "I"]
def wsX5_init_r3 : List Cond := [Cond.fieldLink RX2 53 "BackofficeAir$Station" "lastSlotSent" "I", Cond.instanceMethod yX0_init, Cond.code yX0_init cX0_init 1 none, Cond.methodLink RX0 3 objectInit, Cond.fieldLink RX0 9 "BackofficeAir$Row" "goals" "[I", Cond.fieldLink RX0 15 "BackofficeAir$Row" "parts" "[I", Cond.fieldLink RX0 18 "BackofficeAir$Row" "count" "I", Cond.instanceMethod yX1_init, Cond.code yX1_init cX1_init 1 none, Cond.methodLink RX1 3 objectInit, Cond.fieldLink RX1 9 "BackofficeAir$Sending" "on" "Z", Cond.fieldLink RX1 15 "BackofficeAir$Sending" "firstSlot" "I", Cond.fieldLink RX1 19 "BackofficeAir$Sending" "lastSlot" "I", Cond.fieldLink RX1 22 "BackofficeAir$Sending" "hasRequest" "Z", Cond.fieldLink RX1 25 "BackofficeAir$Sending" "requestBroken" "Z", Cond.fieldLink RX1 28 "BackofficeAir$Sending" "parts" "I", Cond.fieldLink RX1 31 "BackofficeAir$Sending" "brokenParts" "I"]
def wsX5_init : List Cond := .code yX5_init cX5_init 2 none :: ((wsX5_init_r1 ++ (wsX5_init_r2 ++ wsX5_init_r3)) ++ wsX50 ++ wsX30 ++ wsX40 ++ wsX20 ++ wsX00 ++ wsX10)
def wsX5_stationAt : List Cond := .code yX5_stationAt cX5_stationAt 3 (some (.object "BackofficeAir$Station")) :: ([.classLink RX5 145 "java/lang/IndexOutOfBoundsException", .initialized "java/lang/IndexOutOfBoundsException", .fieldLink RX5 11 "BackofficeAir" "stations" "[LBackofficeAir$Station;"] ++ wsX50 ++ (vx_atS RX5 149 "java/lang/IndexOutOfBoundsException" ["java/lang/RuntimeException", "java/lang/Exception"]).filter goodWord)
def wsX5_setStrength_r1 : List Cond := [Cond.classLink RX5 41 "java/lang/IllegalArgumentException", Cond.initialized "java/lang/IllegalArgumentException", Cond.fieldLink RX5 18 "BackofficeAir" "strengths" "LBackofficeAir$Strengths;", Cond.methodLink RX5 37 yX5_stationAt, Cond.instanceMethod yX5_stationAt, Cond.selects RX5 yX5_stationAt yX5_stationAt, Cond.initialized RX5, Cond.code yX5_stationAt cX5_stationAt 3 (some (.object "BackofficeAir$Station")), Cond.classLink RX5 145 "java/lang/IndexOutOfBoundsException", Cond.initialized "java/lang/IndexOutOfBoundsException", Cond.fieldLink RX5 11 "BackofficeAir" "stations" "[LBackofficeAir$Station;", Cond.methodLink RX5 50 yX3_between, Cond.instanceMethod yX3_between, Cond.selects RX3 yX3_between yX3_between, Cond.initialized RX3, Cond.code yX3_between cX3_between 4 (some .int), Cond.fieldLink RX3 9 "BackofficeAir$Strengths" "all" "[I", Cond.methodLink RX3 15 yX3_placeOf, Cond.static yX3_placeOf, Cond.code yX3_placeOf cX3_placeOf 2 (some .int), Cond.static yX5_isStation, Cond.code yX5_isStation cX5_isStation 1 (some .boolean), Cond.methodLink RX5 54 yX3_put, Cond.instanceMethod yX3_put]
def wsX5_setStrength_r2 : List Cond := [Cond.selects RX3 yX3_put yX3_put, Cond.code yX3_put cX3_put 6 none]
def wsX5_setStrength : List Cond := .code yX5_setStrength cX5_setStrength 5 (some .int) :: ((wsX5_setStrength_r1 ++ wsX5_setStrength_r2) ++ wsX50 ++ wsX30 ++ (vx_atS RX5 45 "java/lang/IllegalArgumentException" ["java/lang/RuntimeException", "java/lang/Exception"]).filter goodWord ++ (vx_atS RX5 149 "java/lang/IndexOutOfBoundsException" ["java/lang/RuntimeException", "java/lang/Exception"]).filter goodWord)
def wsX5_setClass : List Cond := .code yX5_setClass cX5_setClass 5 (some .int) :: ([.classLink RX5 41 "java/lang/IllegalArgumentException", .initialized "java/lang/IllegalArgumentException", .methodLink RX5 37 yX5_stationAt, .instanceMethod yX5_stationAt, .selects RX5 yX5_stationAt yX5_stationAt, .initialized RX5, .code yX5_stationAt cX5_stationAt 3 (some (.object "BackofficeAir$Station")), .classLink RX5 145 "java/lang/IndexOutOfBoundsException", .initialized "java/lang/IndexOutOfBoundsException", .fieldLink RX5 11 "BackofficeAir" "stations" "[LBackofficeAir$Station;", .methodLink RX5 63 yX5_leastWindow, .static yX5_leastWindow, .code yX5_leastWindow cX5_leastWindow 1 (some .int)] ++ wsX20 ++ wsX50 ++ (vx_atS RX5 45 "java/lang/IllegalArgumentException" ["java/lang/RuntimeException", "java/lang/Exception"]).filter goodWord ++ (vx_atS RX5 149 "java/lang/IndexOutOfBoundsException" ["java/lang/RuntimeException", "java/lang/Exception"]).filter goodWord)
def wsX5_setReserve : List Cond := .code yX5_setReserve cX5_setReserve 3 (some .int) :: ([.classLink RX5 41 "java/lang/IllegalArgumentException", .initialized "java/lang/IllegalArgumentException", .fieldLink RX5 29 "BackofficeAir" "reserve" "I"] ++ wsX50 ++ (vx_atS RX5 45 "java/lang/IllegalArgumentException" ["java/lang/RuntimeException", "java/lang/Exception"]).filter goodWord)
def wsX5_tell : List Cond := .code yX5_tell cX5_tell 2 (some .int) :: ([.classLink RX5 41 "java/lang/IllegalArgumentException", .initialized "java/lang/IllegalArgumentException", .classLink RX5 77 "java/lang/IllegalStateException", .initialized "java/lang/IllegalStateException", .fieldLink RX5 25 "BackofficeAir" "told" "LBackofficeAir$Told;", .methodLink RX5 82 yX4_add, .instanceMethod yX4_add, .selects RX4 yX4_add yX4_add, .initialized RX4, .code yX4_add cX4_add 3 none, .fieldLink RX4 15 "BackofficeAir$Told" "first" "I", .fieldLink RX4 19 "BackofficeAir$Told" "left" "I", .fieldLink RX4 9 "BackofficeAir$Told" "ring" "[I"] ++ wsX50 ++ wsX40 ++ (vx_atS RX5 45 "java/lang/IllegalArgumentException" ["java/lang/RuntimeException", "java/lang/Exception"]).filter goodWord ++ (vx_atS RX5 81 "java/lang/IllegalStateException" ["java/lang/RuntimeException", "java/lang/Exception"]).filter goodWord)
def wsX5_frame : List Cond := .code yX5_frame cX5_frame 5 (some .int) :: ([.classLink RX5 41 "java/lang/IllegalArgumentException", .initialized "java/lang/IllegalArgumentException", .classLink RX5 77 "java/lang/IllegalStateException", .initialized "java/lang/IllegalStateException", .methodLink RX5 37 yX5_stationAt, .instanceMethod yX5_stationAt, .selects RX5 yX5_stationAt yX5_stationAt, .initialized RX5, .code yX5_stationAt cX5_stationAt 3 (some (.object "BackofficeAir$Station")), .classLink RX5 145 "java/lang/IndexOutOfBoundsException", .initialized "java/lang/IndexOutOfBoundsException", .fieldLink RX5 11 "BackofficeAir" "stations" "[LBackofficeAir$Station;", .methodLink RX5 99 yX0_add, .instanceMethod yX0_add, .selects RX0 yX0_add yX0_add, .initialized RX0, .code yX0_add cX0_add 3 none, .fieldLink RX0 18 "BackofficeAir$Row" "count" "I", .fieldLink RX0 9 "BackofficeAir$Row" "goals" "[I", .fieldLink RX0 15 "BackofficeAir$Row" "parts" "[I"] ++ wsX20 ++ wsX00 ++ wsX50 ++ (vx_atS RX5 45 "java/lang/IllegalArgumentException" ["java/lang/RuntimeException", "java/lang/Exception"]).filter goodWord ++ (vx_atS RX5 81 "java/lang/IllegalStateException" ["java/lang/RuntimeException", "java/lang/Exception"]).filter goodWord ++ (vx_atS RX5 149 "java/lang/IndexOutOfBoundsException" ["java/lang/RuntimeException", "java/lang/Exception"]).filter goodWord)
def wsX5_restBy : List Cond := .code yX5_restBy cX5_restBy 2 (some .int) :: ([])
def wsX5_heardInSlotBefore : List Cond := .code yX5_heardInSlotBefore cX5_heardInSlotBefore 3 (some .boolean) :: ([.fieldLink RX5 18 "BackofficeAir" "strengths" "LBackofficeAir$Strengths;", .fieldLink RX5 33 "BackofficeAir" "slot" "I", .methodLink RX5 50 yX3_between, .instanceMethod yX3_between, .selects RX3 yX3_between yX3_between, .initialized RX3, .code yX3_between cX3_between 4 (some .int), .fieldLink RX3 9 "BackofficeAir$Strengths" "all" "[I", .methodLink RX3 15 yX3_placeOf, .static yX3_placeOf, .code yX3_placeOf cX3_placeOf 2 (some .int), .static yX5_isStation, .initialized RX5, .code yX5_isStation cX5_isStation 1 (some .boolean), .methodLink RX5 37 yX5_stationAt, .instanceMethod yX5_stationAt, .selects RX5 yX5_stationAt yX5_stationAt, .code yX5_stationAt cX5_stationAt 3 (some (.object "BackofficeAir$Station")), .classLink RX5 145 "java/lang/IndexOutOfBoundsException", .initialized "java/lang/IndexOutOfBoundsException", .fieldLink RX5 11 "BackofficeAir" "stations" "[LBackofficeAir$Station;"] ++ wsX50 ++ wsX20 ++ wsX30 ++ (vx_atS RX5 149 "java/lang/IndexOutOfBoundsException" ["java/lang/RuntimeException", "java/lang/Exception"]).filter goodWord)
def wsX5_waitOrBegin_r1 : List Cond := [Cond.fieldLink RX5 25 "BackofficeAir" "told" "LBackofficeAir$Told;", Cond.fieldLink RX5 33 "BackofficeAir" "slot" "I", Cond.fieldLink RX5 29 "BackofficeAir" "reserve" "I", Cond.methodLink RX5 37 yX5_stationAt, Cond.instanceMethod yX5_stationAt, Cond.selects RX5 yX5_stationAt yX5_stationAt, Cond.initialized RX5, Cond.code yX5_stationAt cX5_stationAt 3 (some (.object "BackofficeAir$Station")), Cond.classLink RX5 145 "java/lang/IndexOutOfBoundsException", Cond.initialized "java/lang/IndexOutOfBoundsException", Cond.fieldLink RX5 11 "BackofficeAir" "stations" "[LBackofficeAir$Station;", Cond.methodLink RX5 160 yX4_next, Cond.instanceMethod yX4_next, Cond.selects RX4 yX4_next yX4_next, Cond.initialized RX4, Cond.code yX4_next cX4_next 2 (some .int), Cond.fieldLink RX4 19 "BackofficeAir$Told" "left" "I", Cond.fieldLink RX4 15 "BackofficeAir$Told" "first" "I", Cond.fieldLink RX4 9 "BackofficeAir$Told" "ring" "[I", Cond.methodLink RX5 163 yX5_restBy, Cond.static yX5_restBy, Cond.code yX5_restBy cX5_restBy 2 (some .int), Cond.methodLink RX5 166 yX5_heardInSlotBefore, Cond.instanceMethod yX5_heardInSlotBefore]
def wsX5_waitOrBegin_r2 : List Cond := [Cond.selects RX5 yX5_heardInSlotBefore yX5_heardInSlotBefore, Cond.code yX5_heardInSlotBefore cX5_heardInSlotBefore 3 (some .boolean), Cond.fieldLink RX5 18 "BackofficeAir" "strengths" "LBackofficeAir$Strengths;", Cond.methodLink RX5 50 yX3_between, Cond.instanceMethod yX3_between, Cond.selects RX3 yX3_between yX3_between, Cond.initialized RX3, Cond.code yX3_between cX3_between 4 (some .int), Cond.fieldLink RX3 9 "BackofficeAir$Strengths" "all" "[I", Cond.methodLink RX3 15 yX3_placeOf, Cond.static yX3_placeOf, Cond.code yX3_placeOf cX3_placeOf 2 (some .int), Cond.static yX5_isStation, Cond.code yX5_isStation cX5_isStation 1 (some .boolean), Cond.methodLink RX5 169 yX2_begin, Cond.instanceMethod yX2_begin, Cond.selects RX2 yX2_begin yX2_begin, Cond.initialized RX2, Cond.code yX2_begin cX2_begin 4 none, Cond.fieldLink RX2 12 "BackofficeAir$Station" "row" "LBackofficeAir$Row;", Cond.fieldLink RX2 32 "BackofficeAir$Station" "wait" "I", Cond.fieldLink RX2 21 "BackofficeAir$Station" "sending" "LBackofficeAir$Sending;", Cond.methodLink RX2 56 yX0_partsOfFirst, Cond.instanceMethod yX0_partsOfFirst]
def wsX5_waitOrBegin_r3 : List Cond := [Cond.selects RX0 yX0_partsOfFirst yX0_partsOfFirst, Cond.initialized RX0, Cond.code yX0_partsOfFirst cX0_partsOfFirst 1 (some .int), Cond.fieldLink RX0 18 "BackofficeAir$Row" "count" "I", Cond.fieldLink RX0 15 "BackofficeAir$Row" "parts" "[I", Cond.methodLink RX2 60 yJ6_bitCount_0f7a4, Cond.static yJ6_bitCount_0f7a4, Cond.initialized RJ6, Cond.code yJ6_bitCount_0f7a4 cJ6_bitCount_0f7a4 1 (some .int), Cond.constant RJ6 265 (1431655765), Cond.constant RJ6 266 (858993459), Cond.constant RJ6 267 (252645135), Cond.methodLink RX2 66 yX1_begin, Cond.instanceMethod yX1_begin, Cond.selects RX1 yX1_begin yX1_begin, Cond.initialized RX1, Cond.code yX1_begin cX1_begin 4 none, Cond.fieldLink RX1 9 "BackofficeAir$Sending" "on" "Z", Cond.fieldLink RX1 15 "BackofficeAir$Sending" "firstSlot" "I", Cond.fieldLink RX1 22 "BackofficeAir$Sending" "hasRequest" "Z", Cond.fieldLink RX1 25 "BackofficeAir$Sending" "requestBroken" "Z", Cond.fieldLink RX1 28 "BackofficeAir$Sending" "parts" "I", Cond.fieldLink RX1 31 "BackofficeAir$Sending" "brokenParts" "I", Cond.fieldLink RX1 19 "BackofficeAir$Sending" "lastSlot" "I"]
def wsX5_waitOrBegin_r4 : List Cond := [Cond.methodLink RX1 34 yX1_firstSlotOfParts, Cond.instanceMethod yX1_firstSlotOfParts, Cond.selects RX1 yX1_firstSlotOfParts yX1_firstSlotOfParts, Cond.code yX1_firstSlotOfParts cX1_firstSlotOfParts 1 (some .int), Cond.methodLink RX1 38 yJ6_bitCount_0f7a4]
def wsX5_waitOrBegin : List Cond := .code yX5_waitOrBegin cX5_waitOrBegin 3 none :: ((wsX5_waitOrBegin_r1 ++ (wsX5_waitOrBegin_r2 ++ (wsX5_waitOrBegin_r3 ++ wsX5_waitOrBegin_r4))) ++ wsX20 ++ wsX10 ++ wsX00 ++ wsX50 ++ wsX40 ++ wsX30 ++ (vx_atS RX5 149 "java/lang/IndexOutOfBoundsException" ["java/lang/RuntimeException", "java/lang/Exception"]).filter goodWord)
def wsX5_isBrokenAt : List Cond := .code yX5_isBrokenAt cX5_isBrokenAt 7 (some .boolean) :: ([.fieldLink RX5 18 "BackofficeAir" "strengths" "LBackofficeAir$Strengths;", .methodLink RX5 50 yX3_between, .instanceMethod yX3_between, .selects RX3 yX3_between yX3_between, .initialized RX3, .code yX3_between cX3_between 4 (some .int), .fieldLink RX3 9 "BackofficeAir$Strengths" "all" "[I", .methodLink RX3 15 yX3_placeOf, .static yX3_placeOf, .code yX3_placeOf cX3_placeOf 2 (some .int), .static yX5_isStation, .initialized RX5, .code yX5_isStation cX5_isStation 1 (some .boolean), .methodLink RX5 37 yX5_stationAt, .instanceMethod yX5_stationAt, .selects RX5 yX5_stationAt yX5_stationAt, .code yX5_stationAt cX5_stationAt 3 (some (.object "BackofficeAir$Station")), .classLink RX5 145 "java/lang/IndexOutOfBoundsException", .initialized "java/lang/IndexOutOfBoundsException", .fieldLink RX5 11 "BackofficeAir" "stations" "[LBackofficeAir$Station;"] ++ wsX50 ++ wsX20 ++ wsX10 ++ wsX30 ++ (vx_atS RX5 149 "java/lang/IndexOutOfBoundsException" ["java/lang/RuntimeException", "java/lang/Exception"]).filter goodWord)
def wsX5_sendInSlot_r1 : List Cond := [Cond.fieldLink RX5 33 "BackofficeAir" "slot" "I", Cond.methodLink RX5 37 yX5_stationAt, Cond.instanceMethod yX5_stationAt, Cond.selects RX5 yX5_stationAt yX5_stationAt, Cond.initialized RX5, Cond.code yX5_stationAt cX5_stationAt 3 (some (.object "BackofficeAir$Station")), Cond.classLink RX5 145 "java/lang/IndexOutOfBoundsException", Cond.initialized "java/lang/IndexOutOfBoundsException", Cond.fieldLink RX5 11 "BackofficeAir" "stations" "[LBackofficeAir$Station;", Cond.methodLink RX5 175 yX0_goalOfFirst, Cond.instanceMethod yX0_goalOfFirst, Cond.selects RX0 yX0_goalOfFirst yX0_goalOfFirst, Cond.initialized RX0, Cond.code yX0_goalOfFirst cX0_goalOfFirst 1 (some .int), Cond.fieldLink RX0 18 "BackofficeAir$Row" "count" "I", Cond.fieldLink RX0 9 "BackofficeAir$Row" "goals" "[I", Cond.methodLink RX5 178 yX5_isBrokenAt, Cond.instanceMethod yX5_isBrokenAt, Cond.selects RX5 yX5_isBrokenAt yX5_isBrokenAt, Cond.code yX5_isBrokenAt cX5_isBrokenAt 7 (some .boolean), Cond.fieldLink RX5 18 "BackofficeAir" "strengths" "LBackofficeAir$Strengths;", Cond.methodLink RX5 50 yX3_between, Cond.instanceMethod yX3_between, Cond.selects RX3 yX3_between yX3_between]
def wsX5_sendInSlot_r2 : List Cond := [Cond.initialized RX3, Cond.code yX3_between cX3_between 4 (some .int), Cond.fieldLink RX3 9 "BackofficeAir$Strengths" "all" "[I", Cond.methodLink RX3 15 yX3_placeOf, Cond.static yX3_placeOf, Cond.code yX3_placeOf cX3_placeOf 2 (some .int), Cond.static yX5_isStation, Cond.code yX5_isStation cX5_isStation 1 (some .boolean), Cond.methodLink RX5 182 yX1_breakIn, Cond.instanceMethod yX1_breakIn, Cond.selects RX1 yX1_breakIn yX1_breakIn, Cond.initialized RX1, Cond.code yX1_breakIn cX1_breakIn 2 none, Cond.fieldLink RX1 25 "BackofficeAir$Sending" "requestBroken" "Z", Cond.fieldLink RX1 31 "BackofficeAir$Sending" "brokenParts" "I", Cond.methodLink RX1 44 yX1_isRequest, Cond.instanceMethod yX1_isRequest, Cond.selects RX1 yX1_isRequest yX1_isRequest, Cond.code yX1_isRequest cX1_isRequest 2 (some .boolean), Cond.fieldLink RX1 22 "BackofficeAir$Sending" "hasRequest" "Z", Cond.fieldLink RX1 15 "BackofficeAir$Sending" "firstSlot" "I", Cond.methodLink RX1 48 yX1_partIn, Cond.instanceMethod yX1_partIn, Cond.selects RX1 yX1_partIn yX1_partIn]
def wsX5_sendInSlot_r3 : List Cond := [Cond.code yX1_partIn cX1_partIn 5 (some .int), Cond.fieldLink RX1 28 "BackofficeAir$Sending" "parts" "I", Cond.methodLink RX1 34 yX1_firstSlotOfParts, Cond.instanceMethod yX1_firstSlotOfParts, Cond.selects RX1 yX1_firstSlotOfParts yX1_firstSlotOfParts, Cond.code yX1_firstSlotOfParts cX1_firstSlotOfParts 1 (some .int)]
def wsX5_sendInSlot : List Cond := .code yX5_sendInSlot cX5_sendInSlot 3 none :: ((wsX5_sendInSlot_r1 ++ (wsX5_sendInSlot_r2 ++ wsX5_sendInSlot_r3)) ++ wsX20 ++ wsX10 ++ wsX50 ++ wsX00 ++ wsX30 ++ (vx_atS RX5 149 "java/lang/IndexOutOfBoundsException" ["java/lang/RuntimeException", "java/lang/Exception"]).filter goodWord)
def wsX5_silenceAround : List Cond := .code yX5_silenceAround cX5_silenceAround 6 none :: ([.fieldLink RX5 18 "BackofficeAir" "strengths" "LBackofficeAir$Strengths;", .methodLink RX5 200 Lib.Math.max.name, .static Lib.Math.max.name, .initialized "java/lang/Math", .code Lib.Math.max.name Lib.Math.max.code 2 (some .int), .methodLink RX5 50 yX3_between, .instanceMethod yX3_between, .selects RX3 yX3_between yX3_between, .initialized RX3, .code yX3_between cX3_between 4 (some .int), .fieldLink RX3 9 "BackofficeAir$Strengths" "all" "[I", .methodLink RX3 15 yX3_placeOf, .static yX3_placeOf, .code yX3_placeOf cX3_placeOf 2 (some .int), .static yX5_isStation, .initialized RX5, .code yX5_isStation cX5_isStation 1 (some .boolean), .methodLink RX5 37 yX5_stationAt, .instanceMethod yX5_stationAt, .selects RX5 yX5_stationAt yX5_stationAt, .code yX5_stationAt cX5_stationAt 3 (some (.object "BackofficeAir$Station")), .classLink RX5 145 "java/lang/IndexOutOfBoundsException", .initialized "java/lang/IndexOutOfBoundsException", .fieldLink RX5 11 "BackofficeAir" "stations" "[LBackofficeAir$Station;"] ++ wsX50 ++ wsX20 ++ wsX30 ++ (vx_atS RX5 149 "java/lang/IndexOutOfBoundsException" ["java/lang/RuntimeException", "java/lang/Exception"]).filter goodWord)
def wsX5_endsAfterSlot_r1 : List Cond := [Cond.fieldLink RX5 33 "BackofficeAir" "slot" "I", Cond.methodLink RX5 37 yX5_stationAt, Cond.instanceMethod yX5_stationAt, Cond.selects RX5 yX5_stationAt yX5_stationAt, Cond.initialized RX5, Cond.code yX5_stationAt cX5_stationAt 3 (some (.object "BackofficeAir$Station")), Cond.classLink RX5 145 "java/lang/IndexOutOfBoundsException", Cond.initialized "java/lang/IndexOutOfBoundsException", Cond.fieldLink RX5 11 "BackofficeAir" "stations" "[LBackofficeAir$Station;", Cond.methodLink RX5 185 yX1_isRequest, Cond.instanceMethod yX1_isRequest, Cond.selects RX1 yX1_isRequest yX1_isRequest, Cond.initialized RX1, Cond.code yX1_isRequest cX1_isRequest 2 (some .boolean), Cond.fieldLink RX1 22 "BackofficeAir$Sending" "hasRequest" "Z", Cond.fieldLink RX1 15 "BackofficeAir$Sending" "firstSlot" "I", Cond.methodLink RX5 175 yX0_goalOfFirst, Cond.instanceMethod yX0_goalOfFirst, Cond.selects RX0 yX0_goalOfFirst yX0_goalOfFirst, Cond.initialized RX0, Cond.code yX0_goalOfFirst cX0_goalOfFirst 1 (some .int), Cond.fieldLink RX0 18 "BackofficeAir$Row" "count" "I", Cond.fieldLink RX0 9 "BackofficeAir$Row" "goals" "[I", Cond.methodLink RX5 194 yX5_silenceAround]
def wsX5_endsAfterSlot_r2 : List Cond := [Cond.instanceMethod yX5_silenceAround, Cond.selects RX5 yX5_silenceAround yX5_silenceAround, Cond.code yX5_silenceAround cX5_silenceAround 6 none, Cond.fieldLink RX5 18 "BackofficeAir" "strengths" "LBackofficeAir$Strengths;", Cond.methodLink RX5 200 Lib.Math.max.name, Cond.static Lib.Math.max.name, Cond.initialized "java/lang/Math", Cond.code Lib.Math.max.name Lib.Math.max.code 2 (some .int), Cond.methodLink RX5 50 yX3_between, Cond.instanceMethod yX3_between, Cond.selects RX3 yX3_between yX3_between, Cond.initialized RX3, Cond.code yX3_between cX3_between 4 (some .int), Cond.fieldLink RX3 9 "BackofficeAir$Strengths" "all" "[I", Cond.methodLink RX3 15 yX3_placeOf, Cond.static yX3_placeOf, Cond.code yX3_placeOf cX3_placeOf 2 (some .int), Cond.static yX5_isStation, Cond.code yX5_isStation cX5_isStation 1 (some .boolean), Cond.methodLink RX5 197 yX2_end, Cond.instanceMethod yX2_end, Cond.selects RX2 yX2_end yX2_end, Cond.initialized RX2, Cond.code yX2_end cX2_end 3 none]
def wsX5_endsAfterSlot_r3 : List Cond := [Cond.fieldLink RX2 21 "BackofficeAir$Station" "sending" "LBackofficeAir$Sending;", Cond.fieldLink RX2 50 "BackofficeAir$Station" "slotsOfEnded" "I", Cond.methodLink RX2 74 yX1_slotsUpTo, Cond.instanceMethod yX1_slotsUpTo, Cond.selects RX1 yX1_slotsUpTo yX1_slotsUpTo, Cond.code yX1_slotsUpTo cX1_slotsUpTo 2 (some .int), Cond.methodLink RX2 77 yX1_arrivedParts, Cond.instanceMethod yX1_arrivedParts, Cond.selects RX1 yX1_arrivedParts yX1_arrivedParts, Cond.code yX1_arrivedParts cX1_arrivedParts 1 (some .int), Cond.fieldLink RX1 25 "BackofficeAir$Sending" "requestBroken" "Z", Cond.fieldLink RX1 28 "BackofficeAir$Sending" "parts" "I", Cond.fieldLink RX1 31 "BackofficeAir$Sending" "brokenParts" "I", Cond.methodLink RX2 80 yX2_countFailure, Cond.instanceMethod yX2_countFailure, Cond.selects RX2 yX2_countFailure yX2_countFailure, Cond.code yX2_countFailure cX2_countFailure 1 none, Cond.fieldLink RX2 35 "BackofficeAir$Station" "failures" "I", Cond.fieldLink RX2 29 "BackofficeAir$Station" "window" "I", Cond.methodLink RX2 96 Lib.Math.min.name, Cond.static Lib.Math.min.name, Cond.code Lib.Math.min.name Lib.Math.min.code 2 (some .int), Cond.fieldLink RX2 44 "BackofficeAir$Station" "dropped" "I", Cond.fieldLink RX2 12 "BackofficeAir$Station" "row" "LBackofficeAir$Row;"]
def wsX5_endsAfterSlot_r4 : List Cond := [Cond.methodLink RX2 93 yX0_removeFirst, Cond.instanceMethod yX0_removeFirst, Cond.selects RX0 yX0_removeFirst yX0_removeFirst, Cond.code yX0_removeFirst cX0_removeFirst 2 none, Cond.fieldLink RX0 15 "BackofficeAir$Row" "parts" "[I", Cond.methodLink RX0 22 Lib.Math.max.name, Cond.methodLink RX2 90 yX2_startAfresh, Cond.instanceMethod yX2_startAfresh, Cond.selects RX2 yX2_startAfresh yX2_startAfresh, Cond.code yX2_startAfresh cX2_startAfresh 1 none, Cond.fieldLink RX2 25 "BackofficeAir$Station" "itsClass" "I", Cond.static yX5_leastWindow, Cond.code yX5_leastWindow cX5_leastWindow 1 (some .int), Cond.methodLink RX2 83 yX2_countSuccess, Cond.instanceMethod yX2_countSuccess, Cond.selects RX2 yX2_countSuccess yX2_countSuccess, Cond.code yX2_countSuccess cX2_countSuccess 2 none, Cond.fieldLink RX2 41 "BackofficeAir$Station" "delivered" "I", Cond.methodLink RX2 60 yJ6_bitCount_0f7a4, Cond.static yJ6_bitCount_0f7a4, Cond.initialized RJ6, Cond.code yJ6_bitCount_0f7a4 cJ6_bitCount_0f7a4 1 (some .int), Cond.constant RJ6 265 (1431655765), Cond.constant RJ6 266 (858993459)]
def wsX5_endsAfterSlot_r5 : List Cond := [Cond.constant RJ6 267 (252645135), Cond.methodLink RX2 87 yX0_takeFromFirst, Cond.instanceMethod yX0_takeFromFirst, Cond.selects RX0 yX0_takeFromFirst yX0_takeFromFirst, Cond.code yX0_takeFromFirst cX0_takeFromFirst 2 none, Cond.methodLink RX2 56 yX0_partsOfFirst, Cond.instanceMethod yX0_partsOfFirst, Cond.selects RX0 yX0_partsOfFirst yX0_partsOfFirst, Cond.code yX0_partsOfFirst cX0_partsOfFirst 1 (some .int)]
def wsX5_endsAfterSlot : List Cond := .code yX5_endsAfterSlot cX5_endsAfterSlot 3 (some .boolean) :: ((wsX5_endsAfterSlot_r1 ++ (wsX5_endsAfterSlot_r2 ++ (wsX5_endsAfterSlot_r3 ++ (wsX5_endsAfterSlot_r4 ++ wsX5_endsAfterSlot_r5)))) ++ wsX20 ++ wsX10 ++ wsX50 ++ wsX00 ++ wsX30 ++ (vx_atS RX5 149 "java/lang/IndexOutOfBoundsException" ["java/lang/RuntimeException", "java/lang/Exception"]).filter goodWord)
def wsX5_passOneSlot_r1 : List Cond := [Cond.fieldLink RX5 33 "BackofficeAir" "slot" "I", Cond.methodLink RX5 150 yX5_waitOrBegin, Cond.instanceMethod yX5_waitOrBegin, Cond.selects RX5 yX5_waitOrBegin yX5_waitOrBegin, Cond.initialized RX5, Cond.code yX5_waitOrBegin cX5_waitOrBegin 3 none, Cond.fieldLink RX5 25 "BackofficeAir" "told" "LBackofficeAir$Told;", Cond.fieldLink RX5 29 "BackofficeAir" "reserve" "I", Cond.methodLink RX5 37 yX5_stationAt, Cond.instanceMethod yX5_stationAt, Cond.selects RX5 yX5_stationAt yX5_stationAt, Cond.code yX5_stationAt cX5_stationAt 3 (some (.object "BackofficeAir$Station")), Cond.classLink RX5 145 "java/lang/IndexOutOfBoundsException", Cond.initialized "java/lang/IndexOutOfBoundsException", Cond.fieldLink RX5 11 "BackofficeAir" "stations" "[LBackofficeAir$Station;", Cond.methodLink RX5 160 yX4_next, Cond.instanceMethod yX4_next, Cond.selects RX4 yX4_next yX4_next, Cond.initialized RX4, Cond.code yX4_next cX4_next 2 (some .int), Cond.fieldLink RX4 19 "BackofficeAir$Told" "left" "I", Cond.fieldLink RX4 15 "BackofficeAir$Told" "first" "I", Cond.fieldLink RX4 9 "BackofficeAir$Told" "ring" "[I", Cond.methodLink RX5 163 yX5_restBy]
def wsX5_passOneSlot_r2 : List Cond := [Cond.static yX5_restBy, Cond.code yX5_restBy cX5_restBy 2 (some .int), Cond.methodLink RX5 166 yX5_heardInSlotBefore, Cond.instanceMethod yX5_heardInSlotBefore, Cond.selects RX5 yX5_heardInSlotBefore yX5_heardInSlotBefore, Cond.code yX5_heardInSlotBefore cX5_heardInSlotBefore 3 (some .boolean), Cond.fieldLink RX5 18 "BackofficeAir" "strengths" "LBackofficeAir$Strengths;", Cond.methodLink RX5 50 yX3_between, Cond.instanceMethod yX3_between, Cond.selects RX3 yX3_between yX3_between, Cond.initialized RX3, Cond.code yX3_between cX3_between 4 (some .int), Cond.fieldLink RX3 9 "BackofficeAir$Strengths" "all" "[I", Cond.methodLink RX3 15 yX3_placeOf, Cond.static yX3_placeOf, Cond.code yX3_placeOf cX3_placeOf 2 (some .int), Cond.static yX5_isStation, Cond.code yX5_isStation cX5_isStation 1 (some .boolean), Cond.methodLink RX5 169 yX2_begin, Cond.instanceMethod yX2_begin, Cond.selects RX2 yX2_begin yX2_begin, Cond.initialized RX2, Cond.code yX2_begin cX2_begin 4 none, Cond.fieldLink RX2 12 "BackofficeAir$Station" "row" "LBackofficeAir$Row;"]
def wsX5_passOneSlot_r3 : List Cond := [Cond.fieldLink RX2 32 "BackofficeAir$Station" "wait" "I", Cond.fieldLink RX2 21 "BackofficeAir$Station" "sending" "LBackofficeAir$Sending;", Cond.methodLink RX2 56 yX0_partsOfFirst, Cond.instanceMethod yX0_partsOfFirst, Cond.selects RX0 yX0_partsOfFirst yX0_partsOfFirst, Cond.initialized RX0, Cond.code yX0_partsOfFirst cX0_partsOfFirst 1 (some .int), Cond.fieldLink RX0 18 "BackofficeAir$Row" "count" "I", Cond.fieldLink RX0 15 "BackofficeAir$Row" "parts" "[I", Cond.methodLink RX2 60 yJ6_bitCount_0f7a4, Cond.static yJ6_bitCount_0f7a4, Cond.initialized RJ6, Cond.code yJ6_bitCount_0f7a4 cJ6_bitCount_0f7a4 1 (some .int), Cond.constant RJ6 265 (1431655765), Cond.constant RJ6 266 (858993459), Cond.constant RJ6 267 (252645135), Cond.methodLink RX2 66 yX1_begin, Cond.instanceMethod yX1_begin, Cond.selects RX1 yX1_begin yX1_begin, Cond.initialized RX1, Cond.code yX1_begin cX1_begin 4 none, Cond.fieldLink RX1 9 "BackofficeAir$Sending" "on" "Z", Cond.fieldLink RX1 15 "BackofficeAir$Sending" "firstSlot" "I", Cond.fieldLink RX1 22 "BackofficeAir$Sending" "hasRequest" "Z"]
def wsX5_passOneSlot_r4 : List Cond := [Cond.fieldLink RX1 25 "BackofficeAir$Sending" "requestBroken" "Z", Cond.fieldLink RX1 28 "BackofficeAir$Sending" "parts" "I", Cond.fieldLink RX1 31 "BackofficeAir$Sending" "brokenParts" "I", Cond.fieldLink RX1 19 "BackofficeAir$Sending" "lastSlot" "I", Cond.methodLink RX1 34 yX1_firstSlotOfParts, Cond.instanceMethod yX1_firstSlotOfParts, Cond.selects RX1 yX1_firstSlotOfParts yX1_firstSlotOfParts, Cond.code yX1_firstSlotOfParts cX1_firstSlotOfParts 1 (some .int), Cond.methodLink RX1 38 yJ6_bitCount_0f7a4, Cond.methodLink RX5 153 yX5_sendInSlot, Cond.instanceMethod yX5_sendInSlot, Cond.selects RX5 yX5_sendInSlot yX5_sendInSlot, Cond.code yX5_sendInSlot cX5_sendInSlot 3 none, Cond.methodLink RX5 175 yX0_goalOfFirst, Cond.instanceMethod yX0_goalOfFirst, Cond.selects RX0 yX0_goalOfFirst yX0_goalOfFirst, Cond.code yX0_goalOfFirst cX0_goalOfFirst 1 (some .int), Cond.fieldLink RX0 9 "BackofficeAir$Row" "goals" "[I", Cond.methodLink RX5 178 yX5_isBrokenAt, Cond.instanceMethod yX5_isBrokenAt, Cond.selects RX5 yX5_isBrokenAt yX5_isBrokenAt, Cond.code yX5_isBrokenAt cX5_isBrokenAt 7 (some .boolean), Cond.methodLink RX5 182 yX1_breakIn, Cond.instanceMethod yX1_breakIn]
def wsX5_passOneSlot_r5 : List Cond := [Cond.selects RX1 yX1_breakIn yX1_breakIn, Cond.code yX1_breakIn cX1_breakIn 2 none, Cond.methodLink RX1 44 yX1_isRequest, Cond.instanceMethod yX1_isRequest, Cond.selects RX1 yX1_isRequest yX1_isRequest, Cond.code yX1_isRequest cX1_isRequest 2 (some .boolean), Cond.methodLink RX1 48 yX1_partIn, Cond.instanceMethod yX1_partIn, Cond.selects RX1 yX1_partIn yX1_partIn, Cond.code yX1_partIn cX1_partIn 5 (some .int), Cond.methodLink RX5 156 yX5_endsAfterSlot, Cond.instanceMethod yX5_endsAfterSlot, Cond.selects RX5 yX5_endsAfterSlot yX5_endsAfterSlot, Cond.code yX5_endsAfterSlot cX5_endsAfterSlot 3 (some .boolean), Cond.methodLink RX5 185 yX1_isRequest, Cond.methodLink RX5 194 yX5_silenceAround, Cond.instanceMethod yX5_silenceAround, Cond.selects RX5 yX5_silenceAround yX5_silenceAround, Cond.code yX5_silenceAround cX5_silenceAround 6 none, Cond.methodLink RX5 200 Lib.Math.max.name, Cond.static Lib.Math.max.name, Cond.initialized "java/lang/Math", Cond.code Lib.Math.max.name Lib.Math.max.code 2 (some .int), Cond.methodLink RX5 197 yX2_end]
def wsX5_passOneSlot_r6 : List Cond := [Cond.instanceMethod yX2_end, Cond.selects RX2 yX2_end yX2_end, Cond.code yX2_end cX2_end 3 none, Cond.fieldLink RX2 50 "BackofficeAir$Station" "slotsOfEnded" "I", Cond.methodLink RX2 74 yX1_slotsUpTo, Cond.instanceMethod yX1_slotsUpTo, Cond.selects RX1 yX1_slotsUpTo yX1_slotsUpTo, Cond.code yX1_slotsUpTo cX1_slotsUpTo 2 (some .int), Cond.methodLink RX2 77 yX1_arrivedParts, Cond.instanceMethod yX1_arrivedParts, Cond.selects RX1 yX1_arrivedParts yX1_arrivedParts, Cond.code yX1_arrivedParts cX1_arrivedParts 1 (some .int), Cond.methodLink RX2 80 yX2_countFailure, Cond.instanceMethod yX2_countFailure, Cond.selects RX2 yX2_countFailure yX2_countFailure, Cond.code yX2_countFailure cX2_countFailure 1 none, Cond.fieldLink RX2 35 "BackofficeAir$Station" "failures" "I", Cond.fieldLink RX2 29 "BackofficeAir$Station" "window" "I", Cond.methodLink RX2 96 Lib.Math.min.name, Cond.static Lib.Math.min.name, Cond.code Lib.Math.min.name Lib.Math.min.code 2 (some .int), Cond.fieldLink RX2 44 "BackofficeAir$Station" "dropped" "I", Cond.methodLink RX2 93 yX0_removeFirst, Cond.instanceMethod yX0_removeFirst]
def wsX5_passOneSlot_r7 : List Cond := [Cond.selects RX0 yX0_removeFirst yX0_removeFirst, Cond.code yX0_removeFirst cX0_removeFirst 2 none, Cond.methodLink RX0 22 Lib.Math.max.name, Cond.methodLink RX2 90 yX2_startAfresh, Cond.instanceMethod yX2_startAfresh, Cond.selects RX2 yX2_startAfresh yX2_startAfresh, Cond.code yX2_startAfresh cX2_startAfresh 1 none, Cond.fieldLink RX2 25 "BackofficeAir$Station" "itsClass" "I", Cond.static yX5_leastWindow, Cond.code yX5_leastWindow cX5_leastWindow 1 (some .int), Cond.methodLink RX2 83 yX2_countSuccess, Cond.instanceMethod yX2_countSuccess, Cond.selects RX2 yX2_countSuccess yX2_countSuccess, Cond.code yX2_countSuccess cX2_countSuccess 2 none, Cond.fieldLink RX2 41 "BackofficeAir$Station" "delivered" "I", Cond.methodLink RX2 87 yX0_takeFromFirst, Cond.instanceMethod yX0_takeFromFirst, Cond.selects RX0 yX0_takeFromFirst yX0_takeFromFirst, Cond.code yX0_takeFromFirst cX0_takeFromFirst 2 none]
def wsX5_passOneSlot : List Cond := .code yX5_passOneSlot cX5_passOneSlot 3 (some .int) :: ((wsX5_passOneSlot_r1 ++ (wsX5_passOneSlot_r2 ++ (wsX5_passOneSlot_r3 ++ (wsX5_passOneSlot_r4 ++ (wsX5_passOneSlot_r5 ++ (wsX5_passOneSlot_r6 ++ wsX5_passOneSlot_r7)))))) ++ wsX50 ++ wsX20 ++ wsX10 ++ wsX00 ++ wsX40 ++ wsX30 ++ (vx_atS RX5 149 "java/lang/IndexOutOfBoundsException" ["java/lang/RuntimeException", "java/lang/Exception"]).filter goodWord)
def wsX5_pass_r1 : List Cond := [Cond.classLink RX5 41 "java/lang/IllegalArgumentException", Cond.initialized "java/lang/IllegalArgumentException", Cond.methodLink RX5 104 yX5_passOneSlot, Cond.instanceMethod yX5_passOneSlot, Cond.selects RX5 yX5_passOneSlot yX5_passOneSlot, Cond.initialized RX5, Cond.code yX5_passOneSlot cX5_passOneSlot 3 (some .int), Cond.fieldLink RX5 33 "BackofficeAir" "slot" "I", Cond.methodLink RX5 150 yX5_waitOrBegin, Cond.instanceMethod yX5_waitOrBegin, Cond.selects RX5 yX5_waitOrBegin yX5_waitOrBegin, Cond.code yX5_waitOrBegin cX5_waitOrBegin 3 none, Cond.fieldLink RX5 25 "BackofficeAir" "told" "LBackofficeAir$Told;", Cond.fieldLink RX5 29 "BackofficeAir" "reserve" "I", Cond.methodLink RX5 37 yX5_stationAt, Cond.instanceMethod yX5_stationAt, Cond.selects RX5 yX5_stationAt yX5_stationAt, Cond.code yX5_stationAt cX5_stationAt 3 (some (.object "BackofficeAir$Station")), Cond.classLink RX5 145 "java/lang/IndexOutOfBoundsException", Cond.initialized "java/lang/IndexOutOfBoundsException", Cond.fieldLink RX5 11 "BackofficeAir" "stations" "[LBackofficeAir$Station;", Cond.methodLink RX5 160 yX4_next, Cond.instanceMethod yX4_next, Cond.selects RX4 yX4_next yX4_next]
def wsX5_pass_r2 : List Cond := [Cond.initialized RX4, Cond.code yX4_next cX4_next 2 (some .int), Cond.fieldLink RX4 19 "BackofficeAir$Told" "left" "I", Cond.fieldLink RX4 15 "BackofficeAir$Told" "first" "I", Cond.fieldLink RX4 9 "BackofficeAir$Told" "ring" "[I", Cond.methodLink RX5 163 yX5_restBy, Cond.static yX5_restBy, Cond.code yX5_restBy cX5_restBy 2 (some .int), Cond.methodLink RX5 166 yX5_heardInSlotBefore, Cond.instanceMethod yX5_heardInSlotBefore, Cond.selects RX5 yX5_heardInSlotBefore yX5_heardInSlotBefore, Cond.code yX5_heardInSlotBefore cX5_heardInSlotBefore 3 (some .boolean), Cond.fieldLink RX5 18 "BackofficeAir" "strengths" "LBackofficeAir$Strengths;", Cond.methodLink RX5 50 yX3_between, Cond.instanceMethod yX3_between, Cond.selects RX3 yX3_between yX3_between, Cond.initialized RX3, Cond.code yX3_between cX3_between 4 (some .int), Cond.fieldLink RX3 9 "BackofficeAir$Strengths" "all" "[I", Cond.methodLink RX3 15 yX3_placeOf, Cond.static yX3_placeOf, Cond.code yX3_placeOf cX3_placeOf 2 (some .int), Cond.static yX5_isStation, Cond.code yX5_isStation cX5_isStation 1 (some .boolean)]
def wsX5_pass_r3 : List Cond := [Cond.methodLink RX5 169 yX2_begin, Cond.instanceMethod yX2_begin, Cond.selects RX2 yX2_begin yX2_begin, Cond.initialized RX2, Cond.code yX2_begin cX2_begin 4 none, Cond.fieldLink RX2 12 "BackofficeAir$Station" "row" "LBackofficeAir$Row;", Cond.fieldLink RX2 32 "BackofficeAir$Station" "wait" "I", Cond.fieldLink RX2 21 "BackofficeAir$Station" "sending" "LBackofficeAir$Sending;", Cond.methodLink RX2 56 yX0_partsOfFirst, Cond.instanceMethod yX0_partsOfFirst, Cond.selects RX0 yX0_partsOfFirst yX0_partsOfFirst, Cond.initialized RX0, Cond.code yX0_partsOfFirst cX0_partsOfFirst 1 (some .int), Cond.fieldLink RX0 18 "BackofficeAir$Row" "count" "I", Cond.fieldLink RX0 15 "BackofficeAir$Row" "parts" "[I", Cond.methodLink RX2 60 yJ6_bitCount_0f7a4, Cond.static yJ6_bitCount_0f7a4, Cond.initialized RJ6, Cond.code yJ6_bitCount_0f7a4 cJ6_bitCount_0f7a4 1 (some .int), Cond.constant RJ6 265 (1431655765), Cond.constant RJ6 266 (858993459), Cond.constant RJ6 267 (252645135), Cond.methodLink RX2 66 yX1_begin, Cond.instanceMethod yX1_begin]
def wsX5_pass_r4 : List Cond := [Cond.selects RX1 yX1_begin yX1_begin, Cond.initialized RX1, Cond.code yX1_begin cX1_begin 4 none, Cond.fieldLink RX1 9 "BackofficeAir$Sending" "on" "Z", Cond.fieldLink RX1 15 "BackofficeAir$Sending" "firstSlot" "I", Cond.fieldLink RX1 22 "BackofficeAir$Sending" "hasRequest" "Z", Cond.fieldLink RX1 25 "BackofficeAir$Sending" "requestBroken" "Z", Cond.fieldLink RX1 28 "BackofficeAir$Sending" "parts" "I", Cond.fieldLink RX1 31 "BackofficeAir$Sending" "brokenParts" "I", Cond.fieldLink RX1 19 "BackofficeAir$Sending" "lastSlot" "I", Cond.methodLink RX1 34 yX1_firstSlotOfParts, Cond.instanceMethod yX1_firstSlotOfParts, Cond.selects RX1 yX1_firstSlotOfParts yX1_firstSlotOfParts, Cond.code yX1_firstSlotOfParts cX1_firstSlotOfParts 1 (some .int), Cond.methodLink RX1 38 yJ6_bitCount_0f7a4, Cond.methodLink RX5 153 yX5_sendInSlot, Cond.instanceMethod yX5_sendInSlot, Cond.selects RX5 yX5_sendInSlot yX5_sendInSlot, Cond.code yX5_sendInSlot cX5_sendInSlot 3 none, Cond.methodLink RX5 175 yX0_goalOfFirst, Cond.instanceMethod yX0_goalOfFirst, Cond.selects RX0 yX0_goalOfFirst yX0_goalOfFirst, Cond.code yX0_goalOfFirst cX0_goalOfFirst 1 (some .int), Cond.fieldLink RX0 9 "BackofficeAir$Row" "goals" "[I"]
def wsX5_pass_r5 : List Cond := [Cond.methodLink RX5 178 yX5_isBrokenAt, Cond.instanceMethod yX5_isBrokenAt, Cond.selects RX5 yX5_isBrokenAt yX5_isBrokenAt, Cond.code yX5_isBrokenAt cX5_isBrokenAt 7 (some .boolean), Cond.methodLink RX5 182 yX1_breakIn, Cond.instanceMethod yX1_breakIn, Cond.selects RX1 yX1_breakIn yX1_breakIn, Cond.code yX1_breakIn cX1_breakIn 2 none, Cond.methodLink RX1 44 yX1_isRequest, Cond.instanceMethod yX1_isRequest, Cond.selects RX1 yX1_isRequest yX1_isRequest, Cond.code yX1_isRequest cX1_isRequest 2 (some .boolean), Cond.methodLink RX1 48 yX1_partIn, Cond.instanceMethod yX1_partIn, Cond.selects RX1 yX1_partIn yX1_partIn, Cond.code yX1_partIn cX1_partIn 5 (some .int), Cond.methodLink RX5 156 yX5_endsAfterSlot, Cond.instanceMethod yX5_endsAfterSlot, Cond.selects RX5 yX5_endsAfterSlot yX5_endsAfterSlot, Cond.code yX5_endsAfterSlot cX5_endsAfterSlot 3 (some .boolean), Cond.methodLink RX5 185 yX1_isRequest, Cond.methodLink RX5 194 yX5_silenceAround, Cond.instanceMethod yX5_silenceAround, Cond.selects RX5 yX5_silenceAround yX5_silenceAround]
def wsX5_pass_r6 : List Cond := [Cond.code yX5_silenceAround cX5_silenceAround 6 none, Cond.methodLink RX5 200 Lib.Math.max.name, Cond.static Lib.Math.max.name, Cond.initialized "java/lang/Math", Cond.code Lib.Math.max.name Lib.Math.max.code 2 (some .int), Cond.methodLink RX5 197 yX2_end, Cond.instanceMethod yX2_end, Cond.selects RX2 yX2_end yX2_end, Cond.code yX2_end cX2_end 3 none, Cond.fieldLink RX2 50 "BackofficeAir$Station" "slotsOfEnded" "I", Cond.methodLink RX2 74 yX1_slotsUpTo, Cond.instanceMethod yX1_slotsUpTo, Cond.selects RX1 yX1_slotsUpTo yX1_slotsUpTo, Cond.code yX1_slotsUpTo cX1_slotsUpTo 2 (some .int), Cond.methodLink RX2 77 yX1_arrivedParts, Cond.instanceMethod yX1_arrivedParts, Cond.selects RX1 yX1_arrivedParts yX1_arrivedParts, Cond.code yX1_arrivedParts cX1_arrivedParts 1 (some .int), Cond.methodLink RX2 80 yX2_countFailure, Cond.instanceMethod yX2_countFailure, Cond.selects RX2 yX2_countFailure yX2_countFailure, Cond.code yX2_countFailure cX2_countFailure 1 none, Cond.fieldLink RX2 35 "BackofficeAir$Station" "failures" "I", Cond.fieldLink RX2 29 "BackofficeAir$Station" "window" "I"]
def wsX5_pass_r7 : List Cond := [Cond.methodLink RX2 96 Lib.Math.min.name, Cond.static Lib.Math.min.name, Cond.code Lib.Math.min.name Lib.Math.min.code 2 (some .int), Cond.fieldLink RX2 44 "BackofficeAir$Station" "dropped" "I", Cond.methodLink RX2 93 yX0_removeFirst, Cond.instanceMethod yX0_removeFirst, Cond.selects RX0 yX0_removeFirst yX0_removeFirst, Cond.code yX0_removeFirst cX0_removeFirst 2 none, Cond.methodLink RX0 22 Lib.Math.max.name, Cond.methodLink RX2 90 yX2_startAfresh, Cond.instanceMethod yX2_startAfresh, Cond.selects RX2 yX2_startAfresh yX2_startAfresh, Cond.code yX2_startAfresh cX2_startAfresh 1 none, Cond.fieldLink RX2 25 "BackofficeAir$Station" "itsClass" "I", Cond.static yX5_leastWindow, Cond.code yX5_leastWindow cX5_leastWindow 1 (some .int), Cond.methodLink RX2 83 yX2_countSuccess, Cond.instanceMethod yX2_countSuccess, Cond.selects RX2 yX2_countSuccess yX2_countSuccess, Cond.code yX2_countSuccess cX2_countSuccess 2 none, Cond.fieldLink RX2 41 "BackofficeAir$Station" "delivered" "I", Cond.methodLink RX2 87 yX0_takeFromFirst, Cond.instanceMethod yX0_takeFromFirst, Cond.selects RX0 yX0_takeFromFirst yX0_takeFromFirst]
def wsX5_pass_r8 : List Cond := [Cond.code yX0_takeFromFirst cX0_takeFromFirst 2 none]
def wsX5_pass : List Cond := .code yX5_pass cX5_pass 4 (some .int) :: ((wsX5_pass_r1 ++ (wsX5_pass_r2 ++ (wsX5_pass_r3 ++ (wsX5_pass_r4 ++ (wsX5_pass_r5 ++ (wsX5_pass_r6 ++ (wsX5_pass_r7 ++ wsX5_pass_r8))))))) ++ wsX50 ++ wsX20 ++ wsX10 ++ wsX00 ++ wsX40 ++ wsX30 ++ (vx_atS RX5 45 "java/lang/IllegalArgumentException" ["java/lang/RuntimeException", "java/lang/Exception"]).filter goodWord ++ (vx_atS RX5 149 "java/lang/IndexOutOfBoundsException" ["java/lang/RuntimeException", "java/lang/Exception"]).filter goodWord)
def wsX5_now : List Cond := .code yX5_now cX5_now 1 (some .int) :: ([.fieldLink RX5 33 "BackofficeAir" "slot" "I"] ++ wsX50)
def wsX5_sends : List Cond := .code yX5_sends cX5_sends 2 (some .boolean) :: ([.methodLink RX5 37 yX5_stationAt, .instanceMethod yX5_stationAt, .selects RX5 yX5_stationAt yX5_stationAt, .initialized RX5, .code yX5_stationAt cX5_stationAt 3 (some (.object "BackofficeAir$Station")), .classLink RX5 145 "java/lang/IndexOutOfBoundsException", .initialized "java/lang/IndexOutOfBoundsException", .fieldLink RX5 11 "BackofficeAir" "stations" "[LBackofficeAir$Station;"] ++ wsX20 ++ wsX10 ++ wsX50 ++ (vx_atS RX5 149 "java/lang/IndexOutOfBoundsException" ["java/lang/RuntimeException", "java/lang/Exception"]).filter goodWord)
def wsX5_waitOf : List Cond := .code yX5_waitOf cX5_waitOf 2 (some .int) :: ([.methodLink RX5 37 yX5_stationAt, .instanceMethod yX5_stationAt, .selects RX5 yX5_stationAt yX5_stationAt, .initialized RX5, .code yX5_stationAt cX5_stationAt 3 (some (.object "BackofficeAir$Station")), .classLink RX5 145 "java/lang/IndexOutOfBoundsException", .initialized "java/lang/IndexOutOfBoundsException", .fieldLink RX5 11 "BackofficeAir" "stations" "[LBackofficeAir$Station;"] ++ wsX20 ++ wsX50 ++ (vx_atS RX5 149 "java/lang/IndexOutOfBoundsException" ["java/lang/RuntimeException", "java/lang/Exception"]).filter goodWord)
def wsX5_window : List Cond := .code yX5_window cX5_window 2 (some .int) :: ([.methodLink RX5 37 yX5_stationAt, .instanceMethod yX5_stationAt, .selects RX5 yX5_stationAt yX5_stationAt, .initialized RX5, .code yX5_stationAt cX5_stationAt 3 (some (.object "BackofficeAir$Station")), .classLink RX5 145 "java/lang/IndexOutOfBoundsException", .initialized "java/lang/IndexOutOfBoundsException", .fieldLink RX5 11 "BackofficeAir" "stations" "[LBackofficeAir$Station;"] ++ wsX20 ++ wsX50 ++ (vx_atS RX5 149 "java/lang/IndexOutOfBoundsException" ["java/lang/RuntimeException", "java/lang/Exception"]).filter goodWord)
def wsX5_failures : List Cond := .code yX5_failures cX5_failures 2 (some .int) :: ([.methodLink RX5 37 yX5_stationAt, .instanceMethod yX5_stationAt, .selects RX5 yX5_stationAt yX5_stationAt, .initialized RX5, .code yX5_stationAt cX5_stationAt 3 (some (.object "BackofficeAir$Station")), .classLink RX5 145 "java/lang/IndexOutOfBoundsException", .initialized "java/lang/IndexOutOfBoundsException", .fieldLink RX5 11 "BackofficeAir" "stations" "[LBackofficeAir$Station;"] ++ wsX20 ++ wsX50 ++ (vx_atS RX5 149 "java/lang/IndexOutOfBoundsException" ["java/lang/RuntimeException", "java/lang/Exception"]).filter goodWord)
def wsX5_silencedTo : List Cond := .code yX5_silencedTo cX5_silencedTo 2 (some .int) :: ([.methodLink RX5 37 yX5_stationAt, .instanceMethod yX5_stationAt, .selects RX5 yX5_stationAt yX5_stationAt, .initialized RX5, .code yX5_stationAt cX5_stationAt 3 (some (.object "BackofficeAir$Station")), .classLink RX5 145 "java/lang/IndexOutOfBoundsException", .initialized "java/lang/IndexOutOfBoundsException", .fieldLink RX5 11 "BackofficeAir" "stations" "[LBackofficeAir$Station;"] ++ wsX20 ++ wsX50 ++ (vx_atS RX5 149 "java/lang/IndexOutOfBoundsException" ["java/lang/RuntimeException", "java/lang/Exception"]).filter goodWord)
def wsX5_frames : List Cond := .code yX5_frames cX5_frames 2 (some .int) :: ([.methodLink RX5 37 yX5_stationAt, .instanceMethod yX5_stationAt, .selects RX5 yX5_stationAt yX5_stationAt, .initialized RX5, .code yX5_stationAt cX5_stationAt 3 (some (.object "BackofficeAir$Station")), .classLink RX5 145 "java/lang/IndexOutOfBoundsException", .initialized "java/lang/IndexOutOfBoundsException", .fieldLink RX5 11 "BackofficeAir" "stations" "[LBackofficeAir$Station;"] ++ wsX20 ++ wsX00 ++ wsX50 ++ (vx_atS RX5 149 "java/lang/IndexOutOfBoundsException" ["java/lang/RuntimeException", "java/lang/Exception"]).filter goodWord)
def wsX5_partsLeft : List Cond := .code yX5_partsLeft cX5_partsLeft 2 (some .int) :: ([.methodLink RX5 37 yX5_stationAt, .instanceMethod yX5_stationAt, .selects RX5 yX5_stationAt yX5_stationAt, .initialized RX5, .code yX5_stationAt cX5_stationAt 3 (some (.object "BackofficeAir$Station")), .classLink RX5 145 "java/lang/IndexOutOfBoundsException", .initialized "java/lang/IndexOutOfBoundsException", .fieldLink RX5 11 "BackofficeAir" "stations" "[LBackofficeAir$Station;", .methodLink RX5 127 yX0_partsOfFirst, .instanceMethod yX0_partsOfFirst, .selects RX0 yX0_partsOfFirst yX0_partsOfFirst, .initialized RX0, .code yX0_partsOfFirst cX0_partsOfFirst 1 (some .int), .fieldLink RX0 18 "BackofficeAir$Row" "count" "I", .fieldLink RX0 15 "BackofficeAir$Row" "parts" "[I"] ++ wsX20 ++ wsX50 ++ wsX00 ++ (vx_atS RX5 149 "java/lang/IndexOutOfBoundsException" ["java/lang/RuntimeException", "java/lang/Exception"]).filter goodWord)
def wsX5_delivered : List Cond := .code yX5_delivered cX5_delivered 2 (some .int) :: ([.methodLink RX5 37 yX5_stationAt, .instanceMethod yX5_stationAt, .selects RX5 yX5_stationAt yX5_stationAt, .initialized RX5, .code yX5_stationAt cX5_stationAt 3 (some (.object "BackofficeAir$Station")), .classLink RX5 145 "java/lang/IndexOutOfBoundsException", .initialized "java/lang/IndexOutOfBoundsException", .fieldLink RX5 11 "BackofficeAir" "stations" "[LBackofficeAir$Station;"] ++ wsX20 ++ wsX50 ++ (vx_atS RX5 149 "java/lang/IndexOutOfBoundsException" ["java/lang/RuntimeException", "java/lang/Exception"]).filter goodWord)
def wsX5_dropped : List Cond := .code yX5_dropped cX5_dropped 2 (some .int) :: ([.methodLink RX5 37 yX5_stationAt, .instanceMethod yX5_stationAt, .selects RX5 yX5_stationAt yX5_stationAt, .initialized RX5, .code yX5_stationAt cX5_stationAt 3 (some (.object "BackofficeAir$Station")), .classLink RX5 145 "java/lang/IndexOutOfBoundsException", .initialized "java/lang/IndexOutOfBoundsException", .fieldLink RX5 11 "BackofficeAir" "stations" "[LBackofficeAir$Station;"] ++ wsX20 ++ wsX50 ++ (vx_atS RX5 149 "java/lang/IndexOutOfBoundsException" ["java/lang/RuntimeException", "java/lang/Exception"]).filter goodWord)
def wsX5_airtime : List Cond := .code yX5_airtime cX5_airtime 2 (some .int) :: ([.methodLink RX5 37 yX5_stationAt, .instanceMethod yX5_stationAt, .selects RX5 yX5_stationAt yX5_stationAt, .initialized RX5, .code yX5_stationAt cX5_stationAt 3 (some (.object "BackofficeAir$Station")), .classLink RX5 145 "java/lang/IndexOutOfBoundsException", .initialized "java/lang/IndexOutOfBoundsException", .fieldLink RX5 11 "BackofficeAir" "stations" "[LBackofficeAir$Station;"] ++ wsX20 ++ wsX50 ++ (vx_atS RX5 149 "java/lang/IndexOutOfBoundsException" ["java/lang/RuntimeException", "java/lang/Exception"]).filter goodWord)
def wsX5_airtimeBySendings : List Cond := .code yX5_airtimeBySendings cX5_airtimeBySendings 3 (some .int) :: ([.fieldLink RX5 33 "BackofficeAir" "slot" "I", .methodLink RX5 37 yX5_stationAt, .instanceMethod yX5_stationAt, .selects RX5 yX5_stationAt yX5_stationAt, .initialized RX5, .code yX5_stationAt cX5_stationAt 3 (some (.object "BackofficeAir$Station")), .classLink RX5 145 "java/lang/IndexOutOfBoundsException", .initialized "java/lang/IndexOutOfBoundsException", .fieldLink RX5 11 "BackofficeAir" "stations" "[LBackofficeAir$Station;", .methodLink RX5 142 yX1_slotsUpTo, .instanceMethod yX1_slotsUpTo, .selects RX1 yX1_slotsUpTo yX1_slotsUpTo, .initialized RX1, .code yX1_slotsUpTo cX1_slotsUpTo 2 (some .int), .fieldLink RX1 15 "BackofficeAir$Sending" "firstSlot" "I"] ++ wsX20 ++ wsX10 ++ wsX50 ++ (vx_atS RX5 149 "java/lang/IndexOutOfBoundsException" ["java/lang/RuntimeException", "java/lang/Exception"]).filter goodWord)
def wsX5_numbers : List Cond := .code yX5_numbers cX5_numbers 1 (some .int) :: ([.fieldLink RX5 25 "BackofficeAir" "told" "LBackofficeAir$Told;"] ++ wsX50 ++ wsX40)
def wsJ9_max_7cf53 : List Cond := .code yJ9_max_7cf53 cJ9_max_7cf53 2 (some .int) :: ([])
def wsJ9_min_7cf53 : List Cond := .code yJ9_min_7cf53 cJ9_min_7cf53 2 (some .int) :: ([])
def wsL_tells : List Cond := .codeWith yL_tells cL_tells 3 (some .int) [(0, 5, 6, 13)] :: ([.classLink RL 13 "java/lang/IllegalStateException", .methodLink RL 7 yX5_tell, .instanceMethod yX5_tell, .selects RX5 yX5_tell yX5_tell, .initialized RX5, .code yX5_tell cX5_tell 2 (some .int), .classLink RX5 41 "java/lang/IllegalArgumentException", .initialized "java/lang/IllegalArgumentException", .classLink RX5 77 "java/lang/IllegalStateException", .initialized "java/lang/IllegalStateException", .fieldLink RX5 25 "BackofficeAir" "told" "LBackofficeAir$Told;", .methodLink RX5 82 yX4_add, .instanceMethod yX4_add, .selects RX4 yX4_add yX4_add, .initialized RX4, .code yX4_add cX4_add 3 none, .fieldLink RX4 15 "BackofficeAir$Told" "first" "I", .fieldLink RX4 19 "BackofficeAir$Told" "left" "I", .fieldLink RX4 9 "BackofficeAir$Told" "ring" "[I"] ++ wsX50 ++ wsX40 ++ (vx_atS RX5 45 "java/lang/IllegalArgumentException" ["java/lang/RuntimeException", "java/lang/Exception"]).filter goodWord ++ (vx_atS RX5 81 "java/lang/IllegalStateException" ["java/lang/RuntimeException", "java/lang/Exception"]).filter goodWord)
def wsL_frames_r1 : List Cond := [Cond.classLink RL 13 "java/lang/IllegalStateException", Cond.methodLink RL 15 yX5_frame, Cond.instanceMethod yX5_frame, Cond.selects RX5 yX5_frame yX5_frame, Cond.initialized RX5, Cond.code yX5_frame cX5_frame 5 (some .int), Cond.classLink RX5 41 "java/lang/IllegalArgumentException", Cond.initialized "java/lang/IllegalArgumentException", Cond.classLink RX5 77 "java/lang/IllegalStateException", Cond.initialized "java/lang/IllegalStateException", Cond.methodLink RX5 37 yX5_stationAt, Cond.instanceMethod yX5_stationAt, Cond.selects RX5 yX5_stationAt yX5_stationAt, Cond.code yX5_stationAt cX5_stationAt 3 (some (.object "BackofficeAir$Station")), Cond.classLink RX5 145 "java/lang/IndexOutOfBoundsException", Cond.initialized "java/lang/IndexOutOfBoundsException", Cond.fieldLink RX5 11 "BackofficeAir" "stations" "[LBackofficeAir$Station;", Cond.methodLink RX5 99 yX0_add, Cond.instanceMethod yX0_add, Cond.selects RX0 yX0_add yX0_add, Cond.initialized RX0, Cond.code yX0_add cX0_add 3 none, Cond.fieldLink RX0 18 "BackofficeAir$Row" "count" "I", Cond.fieldLink RX0 9 "BackofficeAir$Row" "goals" "[I"]
def wsL_frames_r2 : List Cond := [Cond.fieldLink RX0 15 "BackofficeAir$Row" "parts" "[I"]
def wsL_frames : List Cond := .codeWith yL_frames cL_frames 5 (some .int) [(0, 7, 8, 13)] :: ((wsL_frames_r1 ++ wsL_frames_r2) ++ wsX20 ++ wsX00 ++ wsX50 ++ (vx_atS RX5 45 "java/lang/IllegalArgumentException" ["java/lang/RuntimeException", "java/lang/Exception"]).filter goodWord ++ (vx_atS RX5 81 "java/lang/IllegalStateException" ["java/lang/RuntimeException", "java/lang/Exception"]).filter goodWord ++ (vx_atS RX5 149 "java/lang/IndexOutOfBoundsException" ["java/lang/RuntimeException", "java/lang/Exception"]).filter goodWord)
def wsL_bits : List Cond := .code yL_bits cL_bits 1 (some .int) :: ([])
def wsL_isStation_r1 : List Cond := [Cond.methodLink RL 19 yX5_window, Cond.instanceMethod yX5_window, Cond.selects RX5 yX5_window yX5_window, Cond.initialized RX5, Cond.code yX5_window cX5_window 2 (some .int), Cond.methodLink RX5 37 yX5_stationAt, Cond.instanceMethod yX5_stationAt, Cond.selects RX5 yX5_stationAt yX5_stationAt, Cond.code yX5_stationAt cX5_stationAt 3 (some (.object "BackofficeAir$Station")), Cond.classLink RX5 145 "java/lang/IndexOutOfBoundsException", Cond.initialized "java/lang/IndexOutOfBoundsException", Cond.fieldLink RX5 11 "BackofficeAir" "stations" "[LBackofficeAir$Station;", Cond.methodLink RL 22 yX5_failures, Cond.instanceMethod yX5_failures, Cond.selects RX5 yX5_failures yX5_failures, Cond.code yX5_failures cX5_failures 2 (some .int), Cond.methodLink RL 25 yX5_waitOf, Cond.instanceMethod yX5_waitOf, Cond.selects RX5 yX5_waitOf yX5_waitOf, Cond.code yX5_waitOf cX5_waitOf 2 (some .int), Cond.methodLink RL 28 yX5_silencedTo, Cond.instanceMethod yX5_silencedTo, Cond.selects RX5 yX5_silencedTo yX5_silencedTo, Cond.code yX5_silencedTo cX5_silencedTo 2 (some .int)]
def wsL_isStation_r2 : List Cond := [Cond.methodLink RL 31 yX5_now, Cond.instanceMethod yX5_now, Cond.selects RX5 yX5_now yX5_now, Cond.code yX5_now cX5_now 1 (some .int), Cond.fieldLink RX5 33 "BackofficeAir" "slot" "I", Cond.methodLink RL 35 yX5_sends, Cond.instanceMethod yX5_sends, Cond.selects RX5 yX5_sends yX5_sends, Cond.code yX5_sends cX5_sends 2 (some .boolean), Cond.methodLink RL 39 yX5_frames, Cond.instanceMethod yX5_frames, Cond.selects RX5 yX5_frames yX5_frames, Cond.code yX5_frames cX5_frames 2 (some .int), Cond.methodLink RL 42 yX5_partsLeft, Cond.instanceMethod yX5_partsLeft, Cond.selects RX5 yX5_partsLeft yX5_partsLeft, Cond.code yX5_partsLeft cX5_partsLeft 2 (some .int), Cond.methodLink RX5 127 yX0_partsOfFirst, Cond.instanceMethod yX0_partsOfFirst, Cond.selects RX0 yX0_partsOfFirst yX0_partsOfFirst, Cond.initialized RX0, Cond.code yX0_partsOfFirst cX0_partsOfFirst 1 (some .int), Cond.fieldLink RX0 18 "BackofficeAir$Row" "count" "I", Cond.fieldLink RX0 15 "BackofficeAir$Row" "parts" "[I"]
def wsL_isStation_r3 : List Cond := [Cond.methodLink RL 45 yX5_airtime, Cond.instanceMethod yX5_airtime, Cond.selects RX5 yX5_airtime yX5_airtime, Cond.code yX5_airtime cX5_airtime 2 (some .int), Cond.methodLink RL 48 yX5_airtimeBySendings, Cond.instanceMethod yX5_airtimeBySendings, Cond.selects RX5 yX5_airtimeBySendings yX5_airtimeBySendings, Cond.code yX5_airtimeBySendings cX5_airtimeBySendings 3 (some .int), Cond.methodLink RX5 142 yX1_slotsUpTo, Cond.instanceMethod yX1_slotsUpTo, Cond.selects RX1 yX1_slotsUpTo yX1_slotsUpTo, Cond.initialized RX1, Cond.code yX1_slotsUpTo cX1_slotsUpTo 2 (some .int), Cond.fieldLink RX1 15 "BackofficeAir$Sending" "firstSlot" "I", Cond.methodLink RL 51 yX5_delivered, Cond.instanceMethod yX5_delivered, Cond.selects RX5 yX5_delivered yX5_delivered, Cond.code yX5_delivered cX5_delivered 2 (some .int)]
def wsL_isStation : List Cond := .code yL_isStation cL_isStation 8 (some .boolean) :: ((wsL_isStation_r1 ++ (wsL_isStation_r2 ++ wsL_isStation_r3)) ++ wsX20 ++ wsX50 ++ wsX10 ++ wsX00 ++ (vx_atS RX5 149 "java/lang/IndexOutOfBoundsException" ["java/lang/RuntimeException", "java/lang/Exception"]).filter goodWord)
def wsL_isSlot_r1 : List Cond := [Cond.methodLink RL 31 yX5_now, Cond.instanceMethod yX5_now, Cond.selects RX5 yX5_now yX5_now, Cond.initialized RX5, Cond.code yX5_now cX5_now 1 (some .int), Cond.fieldLink RX5 33 "BackofficeAir" "slot" "I", Cond.methodLink RL 35 yX5_sends, Cond.instanceMethod yX5_sends, Cond.selects RX5 yX5_sends yX5_sends, Cond.code yX5_sends cX5_sends 2 (some .boolean), Cond.methodLink RX5 37 yX5_stationAt, Cond.instanceMethod yX5_stationAt, Cond.selects RX5 yX5_stationAt yX5_stationAt, Cond.code yX5_stationAt cX5_stationAt 3 (some (.object "BackofficeAir$Station")), Cond.classLink RX5 145 "java/lang/IndexOutOfBoundsException", Cond.initialized "java/lang/IndexOutOfBoundsException", Cond.fieldLink RX5 11 "BackofficeAir" "stations" "[LBackofficeAir$Station;", Cond.methodLink RL 25 yX5_waitOf, Cond.instanceMethod yX5_waitOf, Cond.selects RX5 yX5_waitOf yX5_waitOf, Cond.code yX5_waitOf cX5_waitOf 2 (some .int), Cond.methodLink RL 39 yX5_frames, Cond.instanceMethod yX5_frames, Cond.selects RX5 yX5_frames yX5_frames]
def wsL_isSlot_r2 : List Cond := [Cond.code yX5_frames cX5_frames 2 (some .int), Cond.methodLink RL 45 yX5_airtime, Cond.instanceMethod yX5_airtime, Cond.selects RX5 yX5_airtime yX5_airtime, Cond.code yX5_airtime cX5_airtime 2 (some .int), Cond.methodLink RL 28 yX5_silencedTo, Cond.instanceMethod yX5_silencedTo, Cond.selects RX5 yX5_silencedTo yX5_silencedTo, Cond.code yX5_silencedTo cX5_silencedTo 2 (some .int), Cond.methodLink RL 51 yX5_delivered, Cond.instanceMethod yX5_delivered, Cond.selects RX5 yX5_delivered yX5_delivered, Cond.code yX5_delivered cX5_delivered 2 (some .int), Cond.methodLink RL 42 yX5_partsLeft, Cond.instanceMethod yX5_partsLeft, Cond.selects RX5 yX5_partsLeft yX5_partsLeft, Cond.code yX5_partsLeft cX5_partsLeft 2 (some .int), Cond.methodLink RX5 127 yX0_partsOfFirst, Cond.instanceMethod yX0_partsOfFirst, Cond.selects RX0 yX0_partsOfFirst yX0_partsOfFirst, Cond.initialized RX0, Cond.code yX0_partsOfFirst cX0_partsOfFirst 1 (some .int), Cond.fieldLink RX0 18 "BackofficeAir$Row" "count" "I", Cond.fieldLink RX0 15 "BackofficeAir$Row" "parts" "[I"]
def wsL_isSlot_r3 : List Cond := [Cond.methodLink RL 54 yX5_dropped, Cond.instanceMethod yX5_dropped, Cond.selects RX5 yX5_dropped yX5_dropped, Cond.code yX5_dropped cX5_dropped 2 (some .int), Cond.methodLink RL 57 yX5_pass, Cond.instanceMethod yX5_pass, Cond.selects RX5 yX5_pass yX5_pass, Cond.code yX5_pass cX5_pass 4 (some .int), Cond.classLink RX5 41 "java/lang/IllegalArgumentException", Cond.initialized "java/lang/IllegalArgumentException", Cond.methodLink RX5 104 yX5_passOneSlot, Cond.instanceMethod yX5_passOneSlot, Cond.selects RX5 yX5_passOneSlot yX5_passOneSlot, Cond.code yX5_passOneSlot cX5_passOneSlot 3 (some .int), Cond.methodLink RX5 150 yX5_waitOrBegin, Cond.instanceMethod yX5_waitOrBegin, Cond.selects RX5 yX5_waitOrBegin yX5_waitOrBegin, Cond.code yX5_waitOrBegin cX5_waitOrBegin 3 none, Cond.fieldLink RX5 25 "BackofficeAir" "told" "LBackofficeAir$Told;", Cond.fieldLink RX5 29 "BackofficeAir" "reserve" "I", Cond.methodLink RX5 160 yX4_next, Cond.instanceMethod yX4_next, Cond.selects RX4 yX4_next yX4_next, Cond.initialized RX4]
def wsL_isSlot_r4 : List Cond := [Cond.code yX4_next cX4_next 2 (some .int), Cond.fieldLink RX4 19 "BackofficeAir$Told" "left" "I", Cond.fieldLink RX4 15 "BackofficeAir$Told" "first" "I", Cond.fieldLink RX4 9 "BackofficeAir$Told" "ring" "[I", Cond.methodLink RX5 163 yX5_restBy, Cond.static yX5_restBy, Cond.code yX5_restBy cX5_restBy 2 (some .int), Cond.methodLink RX5 166 yX5_heardInSlotBefore, Cond.instanceMethod yX5_heardInSlotBefore, Cond.selects RX5 yX5_heardInSlotBefore yX5_heardInSlotBefore, Cond.code yX5_heardInSlotBefore cX5_heardInSlotBefore 3 (some .boolean), Cond.fieldLink RX5 18 "BackofficeAir" "strengths" "LBackofficeAir$Strengths;", Cond.methodLink RX5 50 yX3_between, Cond.instanceMethod yX3_between, Cond.selects RX3 yX3_between yX3_between, Cond.initialized RX3, Cond.code yX3_between cX3_between 4 (some .int), Cond.fieldLink RX3 9 "BackofficeAir$Strengths" "all" "[I", Cond.methodLink RX3 15 yX3_placeOf, Cond.static yX3_placeOf, Cond.code yX3_placeOf cX3_placeOf 2 (some .int), Cond.static yX5_isStation, Cond.code yX5_isStation cX5_isStation 1 (some .boolean), Cond.methodLink RX5 169 yX2_begin]
def wsL_isSlot_r5 : List Cond := [Cond.instanceMethod yX2_begin, Cond.selects RX2 yX2_begin yX2_begin, Cond.initialized RX2, Cond.code yX2_begin cX2_begin 4 none, Cond.fieldLink RX2 12 "BackofficeAir$Station" "row" "LBackofficeAir$Row;", Cond.fieldLink RX2 32 "BackofficeAir$Station" "wait" "I", Cond.fieldLink RX2 21 "BackofficeAir$Station" "sending" "LBackofficeAir$Sending;", Cond.methodLink RX2 56 yX0_partsOfFirst, Cond.methodLink RX2 60 yJ6_bitCount_0f7a4, Cond.static yJ6_bitCount_0f7a4, Cond.initialized RJ6, Cond.code yJ6_bitCount_0f7a4 cJ6_bitCount_0f7a4 1 (some .int), Cond.constant RJ6 265 (1431655765), Cond.constant RJ6 266 (858993459), Cond.constant RJ6 267 (252645135), Cond.methodLink RX2 66 yX1_begin, Cond.instanceMethod yX1_begin, Cond.selects RX1 yX1_begin yX1_begin, Cond.initialized RX1, Cond.code yX1_begin cX1_begin 4 none, Cond.fieldLink RX1 9 "BackofficeAir$Sending" "on" "Z", Cond.fieldLink RX1 15 "BackofficeAir$Sending" "firstSlot" "I", Cond.fieldLink RX1 22 "BackofficeAir$Sending" "hasRequest" "Z", Cond.fieldLink RX1 25 "BackofficeAir$Sending" "requestBroken" "Z"]
def wsL_isSlot_r6 : List Cond := [Cond.fieldLink RX1 28 "BackofficeAir$Sending" "parts" "I", Cond.fieldLink RX1 31 "BackofficeAir$Sending" "brokenParts" "I", Cond.fieldLink RX1 19 "BackofficeAir$Sending" "lastSlot" "I", Cond.methodLink RX1 34 yX1_firstSlotOfParts, Cond.instanceMethod yX1_firstSlotOfParts, Cond.selects RX1 yX1_firstSlotOfParts yX1_firstSlotOfParts, Cond.code yX1_firstSlotOfParts cX1_firstSlotOfParts 1 (some .int), Cond.methodLink RX1 38 yJ6_bitCount_0f7a4, Cond.methodLink RX5 153 yX5_sendInSlot, Cond.instanceMethod yX5_sendInSlot, Cond.selects RX5 yX5_sendInSlot yX5_sendInSlot, Cond.code yX5_sendInSlot cX5_sendInSlot 3 none, Cond.methodLink RX5 175 yX0_goalOfFirst, Cond.instanceMethod yX0_goalOfFirst, Cond.selects RX0 yX0_goalOfFirst yX0_goalOfFirst, Cond.code yX0_goalOfFirst cX0_goalOfFirst 1 (some .int), Cond.fieldLink RX0 9 "BackofficeAir$Row" "goals" "[I", Cond.methodLink RX5 178 yX5_isBrokenAt, Cond.instanceMethod yX5_isBrokenAt, Cond.selects RX5 yX5_isBrokenAt yX5_isBrokenAt, Cond.code yX5_isBrokenAt cX5_isBrokenAt 7 (some .boolean), Cond.methodLink RX5 182 yX1_breakIn, Cond.instanceMethod yX1_breakIn, Cond.selects RX1 yX1_breakIn yX1_breakIn]
def wsL_isSlot_r7 : List Cond := [Cond.code yX1_breakIn cX1_breakIn 2 none, Cond.methodLink RX1 44 yX1_isRequest, Cond.instanceMethod yX1_isRequest, Cond.selects RX1 yX1_isRequest yX1_isRequest, Cond.code yX1_isRequest cX1_isRequest 2 (some .boolean), Cond.methodLink RX1 48 yX1_partIn, Cond.instanceMethod yX1_partIn, Cond.selects RX1 yX1_partIn yX1_partIn, Cond.code yX1_partIn cX1_partIn 5 (some .int), Cond.methodLink RX5 156 yX5_endsAfterSlot, Cond.instanceMethod yX5_endsAfterSlot, Cond.selects RX5 yX5_endsAfterSlot yX5_endsAfterSlot, Cond.code yX5_endsAfterSlot cX5_endsAfterSlot 3 (some .boolean), Cond.methodLink RX5 185 yX1_isRequest, Cond.methodLink RX5 194 yX5_silenceAround, Cond.instanceMethod yX5_silenceAround, Cond.selects RX5 yX5_silenceAround yX5_silenceAround, Cond.code yX5_silenceAround cX5_silenceAround 6 none, Cond.methodLink RX5 200 Lib.Math.max.name, Cond.static Lib.Math.max.name, Cond.initialized "java/lang/Math", Cond.code Lib.Math.max.name Lib.Math.max.code 2 (some .int), Cond.methodLink RX5 197 yX2_end, Cond.instanceMethod yX2_end]
def wsL_isSlot_r8 : List Cond := [Cond.selects RX2 yX2_end yX2_end, Cond.code yX2_end cX2_end 3 none, Cond.fieldLink RX2 50 "BackofficeAir$Station" "slotsOfEnded" "I", Cond.methodLink RX2 74 yX1_slotsUpTo, Cond.instanceMethod yX1_slotsUpTo, Cond.selects RX1 yX1_slotsUpTo yX1_slotsUpTo, Cond.code yX1_slotsUpTo cX1_slotsUpTo 2 (some .int), Cond.methodLink RX2 77 yX1_arrivedParts, Cond.instanceMethod yX1_arrivedParts, Cond.selects RX1 yX1_arrivedParts yX1_arrivedParts, Cond.code yX1_arrivedParts cX1_arrivedParts 1 (some .int), Cond.methodLink RX2 80 yX2_countFailure, Cond.instanceMethod yX2_countFailure, Cond.selects RX2 yX2_countFailure yX2_countFailure, Cond.code yX2_countFailure cX2_countFailure 1 none, Cond.fieldLink RX2 35 "BackofficeAir$Station" "failures" "I", Cond.fieldLink RX2 29 "BackofficeAir$Station" "window" "I", Cond.methodLink RX2 96 Lib.Math.min.name, Cond.static Lib.Math.min.name, Cond.code Lib.Math.min.name Lib.Math.min.code 2 (some .int), Cond.fieldLink RX2 44 "BackofficeAir$Station" "dropped" "I", Cond.methodLink RX2 93 yX0_removeFirst, Cond.instanceMethod yX0_removeFirst, Cond.selects RX0 yX0_removeFirst yX0_removeFirst]
def wsL_isSlot_r9 : List Cond := [Cond.code yX0_removeFirst cX0_removeFirst 2 none, Cond.methodLink RX0 22 Lib.Math.max.name, Cond.methodLink RX2 90 yX2_startAfresh, Cond.instanceMethod yX2_startAfresh, Cond.selects RX2 yX2_startAfresh yX2_startAfresh, Cond.code yX2_startAfresh cX2_startAfresh 1 none, Cond.fieldLink RX2 25 "BackofficeAir$Station" "itsClass" "I", Cond.static yX5_leastWindow, Cond.code yX5_leastWindow cX5_leastWindow 1 (some .int), Cond.methodLink RX2 83 yX2_countSuccess, Cond.instanceMethod yX2_countSuccess, Cond.selects RX2 yX2_countSuccess yX2_countSuccess, Cond.code yX2_countSuccess cX2_countSuccess 2 none, Cond.fieldLink RX2 41 "BackofficeAir$Station" "delivered" "I", Cond.methodLink RX2 87 yX0_takeFromFirst, Cond.instanceMethod yX0_takeFromFirst, Cond.selects RX0 yX0_takeFromFirst yX0_takeFromFirst, Cond.code yX0_takeFromFirst cX0_takeFromFirst 2 none, Cond.methodLink RL 60 yL_bits, Cond.static yL_bits, Cond.initialized RL, Cond.code yL_bits cL_bits 1 (some .int), Cond.methodLink RL 22 yX5_failures, Cond.instanceMethod yX5_failures]
def wsL_isSlot_r10 : List Cond := [Cond.selects RX5 yX5_failures yX5_failures, Cond.code yX5_failures cX5_failures 2 (some .int)]
def wsL_isSlot : List Cond := .code yL_isSlot cL_isSlot 13 (some .boolean) :: ((wsL_isSlot_r1 ++ (wsL_isSlot_r2 ++ (wsL_isSlot_r3 ++ (wsL_isSlot_r4 ++ (wsL_isSlot_r5 ++ (wsL_isSlot_r6 ++ (wsL_isSlot_r7 ++ (wsL_isSlot_r8 ++ (wsL_isSlot_r9 ++ wsL_isSlot_r10))))))))) ++ wsX50 ++ wsX20 ++ wsX10 ++ wsX00 ++ wsX40 ++ wsX30 ++ (vx_atS RX5 149 "java/lang/IndexOutOfBoundsException" ["java/lang/RuntimeException", "java/lang/Exception"]).filter goodWord ++ (vx_atS RX5 45 "java/lang/IllegalArgumentException" ["java/lang/RuntimeException", "java/lang/Exception"]).filter goodWord)
theorem dX0_init_0 : decode cX0_init 0 = .ok (.aload_n 0, 1) := by decide +kernel
theorem dX0_init_1 : decode cX0_init 1 = .ok (.invokespecial 3, 3) := by decide +kernel
theorem dX0_init_4 : decode cX0_init 4 = .ok (.aload_n 0, 1) := by decide +kernel
theorem dX0_init_5 : decode cX0_init 5 = .ok (.iconst 5, 1) := by decide +kernel
theorem dX0_init_6 : decode cX0_init 6 = .ok (.newarray .int, 2) := by decide +kernel
theorem dX0_init_8 : decode cX0_init 8 = .ok (.putfield 9, 3) := by decide +kernel
theorem dX0_init_11 : decode cX0_init 11 = .ok (.aload_n 0, 1) := by decide +kernel
theorem dX0_init_12 : decode cX0_init 12 = .ok (.iconst 5, 1) := by decide +kernel
theorem dX0_init_13 : decode cX0_init 13 = .ok (.newarray .int, 2) := by decide +kernel
theorem dX0_init_15 : decode cX0_init 15 = .ok (.putfield 15, 3) := by decide +kernel
theorem dX0_init_18 : decode cX0_init 18 = .ok (.aload_n 0, 1) := by decide +kernel
theorem dX0_init_19 : decode cX0_init 19 = .ok (.iconst 0, 1) := by decide +kernel
theorem dX0_init_20 : decode cX0_init 20 = .ok (.putfield 18, 3) := by decide +kernel
theorem dX0_init_23 : decode cX0_init 23 = .ok (.return_, 1) := by decide +kernel
theorem dX0_add_0 : decode cX0_add 0 = .ok (.aload_n 0, 1) := by decide +kernel
theorem dX0_add_1 : decode cX0_add 1 = .ok (.getfield 18, 3) := by decide +kernel
theorem dX0_add_4 : decode cX0_add 4 = .ok (.ifCond .lt 61, 3) := by decide +kernel
theorem dX0_add_7 : decode cX0_add 7 = .ok (.aload_n 0, 1) := by decide +kernel
theorem dX0_add_8 : decode cX0_add 8 = .ok (.getfield 18, 3) := by decide +kernel
theorem dX0_add_11 : decode cX0_add 11 = .ok (.aload_n 0, 1) := by decide +kernel
theorem dX0_add_12 : decode cX0_add 12 = .ok (.getfield 9, 3) := by decide +kernel
theorem dX0_add_15 : decode cX0_add 15 = .ok (.arraylength, 1) := by decide +kernel
theorem dX0_add_16 : decode cX0_add 16 = .ok (.if_icmp .ge 49, 3) := by decide +kernel
theorem dX0_add_19 : decode cX0_add 19 = .ok (.aload_n 0, 1) := by decide +kernel
theorem dX0_add_20 : decode cX0_add 20 = .ok (.getfield 18, 3) := by decide +kernel
theorem dX0_add_23 : decode cX0_add 23 = .ok (.aload_n 0, 1) := by decide +kernel
theorem dX0_add_24 : decode cX0_add 24 = .ok (.getfield 15, 3) := by decide +kernel
theorem dX0_add_27 : decode cX0_add 27 = .ok (.arraylength, 1) := by decide +kernel
theorem dX0_add_28 : decode cX0_add 28 = .ok (.if_icmp .ge 37, 3) := by decide +kernel
theorem dX0_add_31 : decode cX0_add 31 = .ok (.aload_n 0, 1) := by decide +kernel
theorem dX0_add_32 : decode cX0_add 32 = .ok (.getfield 9, 3) := by decide +kernel
theorem dX0_add_35 : decode cX0_add 35 = .ok (.aload_n 0, 1) := by decide +kernel
theorem dX0_add_36 : decode cX0_add 36 = .ok (.getfield 18, 3) := by decide +kernel
theorem dX0_add_39 : decode cX0_add 39 = .ok (.iload_n 1, 1) := by decide +kernel
theorem dX0_add_40 : decode cX0_add 40 = .ok (.iastore, 1) := by decide +kernel
theorem dX0_add_41 : decode cX0_add 41 = .ok (.aload_n 0, 1) := by decide +kernel
theorem dX0_add_42 : decode cX0_add 42 = .ok (.getfield 15, 3) := by decide +kernel
theorem dX0_add_45 : decode cX0_add 45 = .ok (.aload_n 0, 1) := by decide +kernel
theorem dX0_add_46 : decode cX0_add 46 = .ok (.getfield 18, 3) := by decide +kernel
theorem dX0_add_49 : decode cX0_add 49 = .ok (.iconst 1, 1) := by decide +kernel
theorem dX0_add_50 : decode cX0_add 50 = .ok (.iload_n 2, 1) := by decide +kernel
theorem dX0_add_51 : decode cX0_add 51 = .ok (.ishl, 1) := by decide +kernel
theorem dX0_add_52 : decode cX0_add 52 = .ok (.iconst 1, 1) := by decide +kernel
theorem dX0_add_53 : decode cX0_add 53 = .ok (.isub, 1) := by decide +kernel
theorem dX0_add_54 : decode cX0_add 54 = .ok (.iastore, 1) := by decide +kernel
theorem dX0_add_55 : decode cX0_add 55 = .ok (.aload_n 0, 1) := by decide +kernel
theorem dX0_add_56 : decode cX0_add 56 = .ok (.dup, 1) := by decide +kernel
theorem dX0_add_57 : decode cX0_add 57 = .ok (.getfield 18, 3) := by decide +kernel
theorem dX0_add_60 : decode cX0_add 60 = .ok (.iconst 1, 1) := by decide +kernel
theorem dX0_add_61 : decode cX0_add 61 = .ok (.iadd, 1) := by decide +kernel
theorem dX0_add_62 : decode cX0_add 62 = .ok (.putfield 18, 3) := by decide +kernel
theorem dX0_add_65 : decode cX0_add 65 = .ok (.return_, 1) := by decide +kernel
theorem dX0_goalOfFirst_0 : decode cX0_goalOfFirst 0 = .ok (.aload_n 0, 1) := by decide +kernel
theorem dX0_goalOfFirst_1 : decode cX0_goalOfFirst 1 = .ok (.getfield 18, 3) := by decide +kernel
theorem dX0_goalOfFirst_4 : decode cX0_goalOfFirst 4 = .ok (.ifCond .le 20, 3) := by decide +kernel
theorem dX0_goalOfFirst_7 : decode cX0_goalOfFirst 7 = .ok (.aload_n 0, 1) := by decide +kernel
theorem dX0_goalOfFirst_8 : decode cX0_goalOfFirst 8 = .ok (.getfield 9, 3) := by decide +kernel
theorem dX0_goalOfFirst_11 : decode cX0_goalOfFirst 11 = .ok (.arraylength, 1) := by decide +kernel
theorem dX0_goalOfFirst_12 : decode cX0_goalOfFirst 12 = .ok (.ifCond .le 12, 3) := by decide +kernel
theorem dX0_goalOfFirst_15 : decode cX0_goalOfFirst 15 = .ok (.aload_n 0, 1) := by decide +kernel
theorem dX0_goalOfFirst_16 : decode cX0_goalOfFirst 16 = .ok (.getfield 9, 3) := by decide +kernel
theorem dX0_goalOfFirst_19 : decode cX0_goalOfFirst 19 = .ok (.iconst 0, 1) := by decide +kernel
theorem dX0_goalOfFirst_20 : decode cX0_goalOfFirst 20 = .ok (.iaload, 1) := by decide +kernel
theorem dX0_goalOfFirst_21 : decode cX0_goalOfFirst 21 = .ok (.goto 4, 3) := by decide +kernel
theorem dX0_goalOfFirst_24 : decode cX0_goalOfFirst 24 = .ok (.iconst (-1), 1) := by decide +kernel
theorem dX0_goalOfFirst_25 : decode cX0_goalOfFirst 25 = .ok (.ireturn, 1) := by decide +kernel
theorem dX0_partsOfFirst_0 : decode cX0_partsOfFirst 0 = .ok (.aload_n 0, 1) := by decide +kernel
theorem dX0_partsOfFirst_1 : decode cX0_partsOfFirst 1 = .ok (.getfield 18, 3) := by decide +kernel
theorem dX0_partsOfFirst_4 : decode cX0_partsOfFirst 4 = .ok (.ifCond .le 20, 3) := by decide +kernel
theorem dX0_partsOfFirst_7 : decode cX0_partsOfFirst 7 = .ok (.aload_n 0, 1) := by decide +kernel
theorem dX0_partsOfFirst_8 : decode cX0_partsOfFirst 8 = .ok (.getfield 15, 3) := by decide +kernel
theorem dX0_partsOfFirst_11 : decode cX0_partsOfFirst 11 = .ok (.arraylength, 1) := by decide +kernel
theorem dX0_partsOfFirst_12 : decode cX0_partsOfFirst 12 = .ok (.ifCond .le 12, 3) := by decide +kernel
theorem dX0_partsOfFirst_15 : decode cX0_partsOfFirst 15 = .ok (.aload_n 0, 1) := by decide +kernel
theorem dX0_partsOfFirst_16 : decode cX0_partsOfFirst 16 = .ok (.getfield 15, 3) := by decide +kernel
theorem dX0_partsOfFirst_19 : decode cX0_partsOfFirst 19 = .ok (.iconst 0, 1) := by decide +kernel
theorem dX0_partsOfFirst_20 : decode cX0_partsOfFirst 20 = .ok (.iaload, 1) := by decide +kernel
theorem dX0_partsOfFirst_21 : decode cX0_partsOfFirst 21 = .ok (.goto 4, 3) := by decide +kernel
theorem dX0_partsOfFirst_24 : decode cX0_partsOfFirst 24 = .ok (.iconst 0, 1) := by decide +kernel
theorem dX0_partsOfFirst_25 : decode cX0_partsOfFirst 25 = .ok (.ireturn, 1) := by decide +kernel
theorem dX0_takeFromFirst_0 : decode cX0_takeFromFirst 0 = .ok (.aload_n 0, 1) := by decide +kernel
theorem dX0_takeFromFirst_1 : decode cX0_takeFromFirst 1 = .ok (.getfield 18, 3) := by decide +kernel
theorem dX0_takeFromFirst_4 : decode cX0_takeFromFirst 4 = .ok (.ifCond .le 23, 3) := by decide +kernel
theorem dX0_takeFromFirst_7 : decode cX0_takeFromFirst 7 = .ok (.aload_n 0, 1) := by decide +kernel
theorem dX0_takeFromFirst_8 : decode cX0_takeFromFirst 8 = .ok (.getfield 15, 3) := by decide +kernel
theorem dX0_takeFromFirst_11 : decode cX0_takeFromFirst 11 = .ok (.arraylength, 1) := by decide +kernel
theorem dX0_takeFromFirst_12 : decode cX0_takeFromFirst 12 = .ok (.ifCond .le 15, 3) := by decide +kernel
theorem dX0_takeFromFirst_15 : decode cX0_takeFromFirst 15 = .ok (.aload_n 0, 1) := by decide +kernel
theorem dX0_takeFromFirst_16 : decode cX0_takeFromFirst 16 = .ok (.getfield 15, 3) := by decide +kernel
theorem dX0_takeFromFirst_19 : decode cX0_takeFromFirst 19 = .ok (.iconst 0, 1) := by decide +kernel
theorem dX0_takeFromFirst_20 : decode cX0_takeFromFirst 20 = .ok (.dup2, 1) := by decide +kernel
theorem dX0_takeFromFirst_21 : decode cX0_takeFromFirst 21 = .ok (.iaload, 1) := by decide +kernel
theorem dX0_takeFromFirst_22 : decode cX0_takeFromFirst 22 = .ok (.iload_n 1, 1) := by decide +kernel
theorem dX0_takeFromFirst_23 : decode cX0_takeFromFirst 23 = .ok (.iconst (-1), 1) := by decide +kernel
theorem dX0_takeFromFirst_24 : decode cX0_takeFromFirst 24 = .ok (.ixor, 1) := by decide +kernel
theorem dX0_takeFromFirst_25 : decode cX0_takeFromFirst 25 = .ok (.iand, 1) := by decide +kernel
theorem dX0_takeFromFirst_26 : decode cX0_takeFromFirst 26 = .ok (.iastore, 1) := by decide +kernel
theorem dX0_takeFromFirst_27 : decode cX0_takeFromFirst 27 = .ok (.return_, 1) := by decide +kernel
theorem dX0_removeFirst_0 : decode cX0_removeFirst 0 = .ok (.iconst 1, 1) := by decide +kernel
theorem dX0_removeFirst_1 : decode cX0_removeFirst 1 = .ok (.istore_n 1, 1) := by decide +kernel
theorem dX0_removeFirst_2 : decode cX0_removeFirst 2 = .ok (.iload_n 1, 1) := by decide +kernel
theorem dX0_removeFirst_3 : decode cX0_removeFirst 3 = .ok (.aload_n 0, 1) := by decide +kernel
theorem dX0_removeFirst_4 : decode cX0_removeFirst 4 = .ok (.getfield 18, 3) := by decide +kernel
theorem dX0_removeFirst_7 : decode cX0_removeFirst 7 = .ok (.if_icmp .ge 55, 3) := by decide +kernel
theorem dX0_removeFirst_10 : decode cX0_removeFirst 10 = .ok (.iload_n 1, 1) := by decide +kernel
theorem dX0_removeFirst_11 : decode cX0_removeFirst 11 = .ok (.aload_n 0, 1) := by decide +kernel
theorem dX0_removeFirst_12 : decode cX0_removeFirst 12 = .ok (.getfield 9, 3) := by decide +kernel
theorem dX0_removeFirst_15 : decode cX0_removeFirst 15 = .ok (.arraylength, 1) := by decide +kernel
theorem dX0_removeFirst_16 : decode cX0_removeFirst 16 = .ok (.if_icmp .ge 46, 3) := by decide +kernel
theorem dX0_removeFirst_19 : decode cX0_removeFirst 19 = .ok (.iload_n 1, 1) := by decide +kernel
theorem dX0_removeFirst_20 : decode cX0_removeFirst 20 = .ok (.aload_n 0, 1) := by decide +kernel
theorem dX0_removeFirst_21 : decode cX0_removeFirst 21 = .ok (.getfield 15, 3) := by decide +kernel
theorem dX0_removeFirst_24 : decode cX0_removeFirst 24 = .ok (.arraylength, 1) := by decide +kernel
theorem dX0_removeFirst_25 : decode cX0_removeFirst 25 = .ok (.if_icmp .ge 37, 3) := by decide +kernel
theorem dX0_removeFirst_28 : decode cX0_removeFirst 28 = .ok (.aload_n 0, 1) := by decide +kernel
theorem dX0_removeFirst_29 : decode cX0_removeFirst 29 = .ok (.getfield 9, 3) := by decide +kernel
theorem dX0_removeFirst_32 : decode cX0_removeFirst 32 = .ok (.iload_n 1, 1) := by decide +kernel
theorem dX0_removeFirst_33 : decode cX0_removeFirst 33 = .ok (.iconst 1, 1) := by decide +kernel
theorem dX0_removeFirst_34 : decode cX0_removeFirst 34 = .ok (.isub, 1) := by decide +kernel
theorem dX0_removeFirst_35 : decode cX0_removeFirst 35 = .ok (.aload_n 0, 1) := by decide +kernel
theorem dX0_removeFirst_36 : decode cX0_removeFirst 36 = .ok (.getfield 9, 3) := by decide +kernel
theorem dX0_removeFirst_39 : decode cX0_removeFirst 39 = .ok (.iload_n 1, 1) := by decide +kernel
theorem dX0_removeFirst_40 : decode cX0_removeFirst 40 = .ok (.iaload, 1) := by decide +kernel
theorem dX0_removeFirst_41 : decode cX0_removeFirst 41 = .ok (.iastore, 1) := by decide +kernel
theorem dX0_removeFirst_42 : decode cX0_removeFirst 42 = .ok (.aload_n 0, 1) := by decide +kernel
theorem dX0_removeFirst_43 : decode cX0_removeFirst 43 = .ok (.getfield 15, 3) := by decide +kernel
theorem dX0_removeFirst_46 : decode cX0_removeFirst 46 = .ok (.iload_n 1, 1) := by decide +kernel
theorem dX0_removeFirst_47 : decode cX0_removeFirst 47 = .ok (.iconst 1, 1) := by decide +kernel
theorem dX0_removeFirst_48 : decode cX0_removeFirst 48 = .ok (.isub, 1) := by decide +kernel
theorem dX0_removeFirst_49 : decode cX0_removeFirst 49 = .ok (.aload_n 0, 1) := by decide +kernel
theorem dX0_removeFirst_50 : decode cX0_removeFirst 50 = .ok (.getfield 15, 3) := by decide +kernel
theorem dX0_removeFirst_53 : decode cX0_removeFirst 53 = .ok (.iload_n 1, 1) := by decide +kernel
theorem dX0_removeFirst_54 : decode cX0_removeFirst 54 = .ok (.iaload, 1) := by decide +kernel
theorem dX0_removeFirst_55 : decode cX0_removeFirst 55 = .ok (.iastore, 1) := by decide +kernel
theorem dX0_removeFirst_56 : decode cX0_removeFirst 56 = .ok (.iinc 1 1, 3) := by decide +kernel
theorem dX0_removeFirst_59 : decode cX0_removeFirst 59 = .ok (.goto (-57), 3) := by decide +kernel
theorem dX0_removeFirst_62 : decode cX0_removeFirst 62 = .ok (.aload_n 0, 1) := by decide +kernel
theorem dX0_removeFirst_63 : decode cX0_removeFirst 63 = .ok (.aload_n 0, 1) := by decide +kernel
theorem dX0_removeFirst_64 : decode cX0_removeFirst 64 = .ok (.getfield 18, 3) := by decide +kernel
theorem dX0_removeFirst_67 : decode cX0_removeFirst 67 = .ok (.iconst 1, 1) := by decide +kernel
theorem dX0_removeFirst_68 : decode cX0_removeFirst 68 = .ok (.isub, 1) := by decide +kernel
theorem dX0_removeFirst_69 : decode cX0_removeFirst 69 = .ok (.iconst 0, 1) := by decide +kernel
theorem dX0_removeFirst_70 : decode cX0_removeFirst 70 = .ok (.invokestatic 22, 3) := by decide +kernel
theorem dX0_removeFirst_73 : decode cX0_removeFirst 73 = .ok (.putfield 18, 3) := by decide +kernel
theorem dX0_removeFirst_76 : decode cX0_removeFirst 76 = .ok (.return_, 1) := by decide +kernel
theorem dX1_init_0 : decode cX1_init 0 = .ok (.aload_n 0, 1) := by decide +kernel
theorem dX1_init_1 : decode cX1_init 1 = .ok (.invokespecial 3, 3) := by decide +kernel
theorem dX1_init_4 : decode cX1_init 4 = .ok (.aload_n 0, 1) := by decide +kernel
theorem dX1_init_5 : decode cX1_init 5 = .ok (.iconst 0, 1) := by decide +kernel
theorem dX1_init_6 : decode cX1_init 6 = .ok (.putfield 9, 3) := by decide +kernel
theorem dX1_init_9 : decode cX1_init 9 = .ok (.aload_n 0, 1) := by decide +kernel
theorem dX1_init_10 : decode cX1_init 10 = .ok (.iconst 0, 1) := by decide +kernel
theorem dX1_init_11 : decode cX1_init 11 = .ok (.putfield 15, 3) := by decide +kernel
theorem dX1_init_14 : decode cX1_init 14 = .ok (.aload_n 0, 1) := by decide +kernel
theorem dX1_init_15 : decode cX1_init 15 = .ok (.iconst 0, 1) := by decide +kernel
theorem dX1_init_16 : decode cX1_init 16 = .ok (.putfield 19, 3) := by decide +kernel
theorem dX1_init_19 : decode cX1_init 19 = .ok (.aload_n 0, 1) := by decide +kernel
theorem dX1_init_20 : decode cX1_init 20 = .ok (.iconst 0, 1) := by decide +kernel
theorem dX1_init_21 : decode cX1_init 21 = .ok (.putfield 22, 3) := by decide +kernel
theorem dX1_init_24 : decode cX1_init 24 = .ok (.aload_n 0, 1) := by decide +kernel
theorem dX1_init_25 : decode cX1_init 25 = .ok (.iconst 0, 1) := by decide +kernel
theorem dX1_init_26 : decode cX1_init 26 = .ok (.putfield 25, 3) := by decide +kernel
theorem dX1_init_29 : decode cX1_init 29 = .ok (.aload_n 0, 1) := by decide +kernel
theorem dX1_init_30 : decode cX1_init 30 = .ok (.iconst 0, 1) := by decide +kernel
theorem dX1_init_31 : decode cX1_init 31 = .ok (.putfield 28, 3) := by decide +kernel
theorem dX1_init_34 : decode cX1_init 34 = .ok (.aload_n 0, 1) := by decide +kernel
theorem dX1_init_35 : decode cX1_init 35 = .ok (.iconst 0, 1) := by decide +kernel
theorem dX1_init_36 : decode cX1_init 36 = .ok (.putfield 31, 3) := by decide +kernel
theorem dX1_init_39 : decode cX1_init 39 = .ok (.return_, 1) := by decide +kernel
set_option maxRecDepth 20000 in
theorem ggX1_begin_X1_firstSlotOfParts : GoodIn wsX1_begin wsX1_firstSlotOfParts := goodIn_r _ [12, 3, 2, 20, 21, 22, 23, 24, 25, 26] (by decide +kernel) (by decide +kernel)
set_option maxRecDepth 20000 in
theorem gX1_begin_X1_firstSlotOfParts : GoodIn wsX1_begin (wsV RX1 34 RX1 yX1_firstSlotOfParts wsX1_firstSlotOfParts) := goodIn_app (goodIn_of _ (by decide +kernel)) ggX1_begin_X1_firstSlotOfParts
set_option maxRecDepth 20000 in
theorem ggX1_begin_J6_bitCount_0f7a4 : GoodIn wsX1_begin wsJ6_bitCount_0f7a4 := goodIn_r _ [16, 17, 18, 19] (by decide +kernel) (by decide +kernel)
set_option maxRecDepth 20000 in
theorem gX1_begin_J6_bitCount_0f7a4 : GoodIn wsX1_begin (va_wsS RX1 38 yJ6_bitCount_0f7a4 wsJ6_bitCount_0f7a4) := goodIn_app (goodIn_of _ (by decide +kernel)) ggX1_begin_J6_bitCount_0f7a4
theorem dX1_begin_0 : decode cX1_begin 0 = .ok (.aload_n 0, 1) := by decide +kernel
theorem dX1_begin_1 : decode cX1_begin 1 = .ok (.iconst 1, 1) := by decide +kernel
theorem dX1_begin_2 : decode cX1_begin 2 = .ok (.putfield 9, 3) := by decide +kernel
theorem dX1_begin_5 : decode cX1_begin 5 = .ok (.aload_n 0, 1) := by decide +kernel
theorem dX1_begin_6 : decode cX1_begin 6 = .ok (.iload_n 1, 1) := by decide +kernel
theorem dX1_begin_7 : decode cX1_begin 7 = .ok (.putfield 15, 3) := by decide +kernel
theorem dX1_begin_10 : decode cX1_begin 10 = .ok (.aload_n 0, 1) := by decide +kernel
theorem dX1_begin_11 : decode cX1_begin 11 = .ok (.iload_n 3, 1) := by decide +kernel
theorem dX1_begin_12 : decode cX1_begin 12 = .ok (.putfield 22, 3) := by decide +kernel
theorem dX1_begin_15 : decode cX1_begin 15 = .ok (.aload_n 0, 1) := by decide +kernel
theorem dX1_begin_16 : decode cX1_begin 16 = .ok (.iconst 0, 1) := by decide +kernel
theorem dX1_begin_17 : decode cX1_begin 17 = .ok (.putfield 25, 3) := by decide +kernel
theorem dX1_begin_20 : decode cX1_begin 20 = .ok (.aload_n 0, 1) := by decide +kernel
theorem dX1_begin_21 : decode cX1_begin 21 = .ok (.iload_n 2, 1) := by decide +kernel
theorem dX1_begin_22 : decode cX1_begin 22 = .ok (.putfield 28, 3) := by decide +kernel
theorem dX1_begin_25 : decode cX1_begin 25 = .ok (.aload_n 0, 1) := by decide +kernel
theorem dX1_begin_26 : decode cX1_begin 26 = .ok (.iconst 0, 1) := by decide +kernel
theorem dX1_begin_27 : decode cX1_begin 27 = .ok (.putfield 31, 3) := by decide +kernel
theorem dX1_begin_30 : decode cX1_begin 30 = .ok (.aload_n 0, 1) := by decide +kernel
theorem dX1_begin_31 : decode cX1_begin 31 = .ok (.aload_n 0, 1) := by decide +kernel
theorem dX1_begin_32 : decode cX1_begin 32 = .ok (.invokevirtual 34, 3) := by decide +kernel
theorem dX1_begin_35 : decode cX1_begin 35 = .ok (.iconst 2, 1) := by decide +kernel
theorem dX1_begin_36 : decode cX1_begin 36 = .ok (.iload_n 2, 1) := by decide +kernel
theorem dX1_begin_37 : decode cX1_begin 37 = .ok (.invokestatic 38, 3) := by decide +kernel
theorem dX1_begin_40 : decode cX1_begin 40 = .ok (.imul, 1) := by decide +kernel
theorem dX1_begin_41 : decode cX1_begin 41 = .ok (.iadd, 1) := by decide +kernel
theorem dX1_begin_42 : decode cX1_begin 42 = .ok (.iconst 1, 1) := by decide +kernel
theorem dX1_begin_43 : decode cX1_begin 43 = .ok (.isub, 1) := by decide +kernel
theorem dX1_begin_44 : decode cX1_begin 44 = .ok (.putfield 19, 3) := by decide +kernel
theorem dX1_begin_47 : decode cX1_begin 47 = .ok (.return_, 1) := by decide +kernel
theorem dX1_slotsUpTo_0 : decode cX1_slotsUpTo 0 = .ok (.iload_n 1, 1) := by decide +kernel
theorem dX1_slotsUpTo_1 : decode cX1_slotsUpTo 1 = .ok (.aload_n 0, 1) := by decide +kernel
theorem dX1_slotsUpTo_2 : decode cX1_slotsUpTo 2 = .ok (.getfield 15, 3) := by decide +kernel
theorem dX1_slotsUpTo_5 : decode cX1_slotsUpTo 5 = .ok (.isub, 1) := by decide +kernel
theorem dX1_slotsUpTo_6 : decode cX1_slotsUpTo 6 = .ok (.iconst 1, 1) := by decide +kernel
theorem dX1_slotsUpTo_7 : decode cX1_slotsUpTo 7 = .ok (.iadd, 1) := by decide +kernel
theorem dX1_slotsUpTo_8 : decode cX1_slotsUpTo 8 = .ok (.ireturn, 1) := by decide +kernel
theorem dX1_isRequest_0 : decode cX1_isRequest 0 = .ok (.aload_n 0, 1) := by decide +kernel
theorem dX1_isRequest_1 : decode cX1_isRequest 1 = .ok (.getfield 22, 3) := by decide +kernel
theorem dX1_isRequest_4 : decode cX1_isRequest 4 = .ok (.ifCond .eq 15, 3) := by decide +kernel
theorem dX1_isRequest_7 : decode cX1_isRequest 7 = .ok (.iload_n 1, 1) := by decide +kernel
theorem dX1_isRequest_8 : decode cX1_isRequest 8 = .ok (.aload_n 0, 1) := by decide +kernel
theorem dX1_isRequest_9 : decode cX1_isRequest 9 = .ok (.getfield 15, 3) := by decide +kernel
theorem dX1_isRequest_12 : decode cX1_isRequest 12 = .ok (.if_icmp .ne 7, 3) := by decide +kernel
theorem dX1_isRequest_15 : decode cX1_isRequest 15 = .ok (.iconst 1, 1) := by decide +kernel
theorem dX1_isRequest_16 : decode cX1_isRequest 16 = .ok (.goto 4, 3) := by decide +kernel
theorem dX1_isRequest_19 : decode cX1_isRequest 19 = .ok (.iconst 0, 1) := by decide +kernel
theorem dX1_isRequest_20 : decode cX1_isRequest 20 = .ok (.ireturn, 1) := by decide +kernel
set_option maxRecDepth 20000 in
theorem ggX1_breakIn_X1_isRequest : GoodIn wsX1_breakIn wsX1_isRequest := goodIn_r _ [7, 8, 9, 19, 20, 21, 22, 23, 24, 25] (by decide +kernel) (by decide +kernel)
set_option maxRecDepth 20000 in
theorem gX1_breakIn_X1_isRequest : GoodIn wsX1_breakIn (wsV RX1 44 RX1 yX1_isRequest wsX1_isRequest) := goodIn_app (goodIn_of _ (by decide +kernel)) ggX1_breakIn_X1_isRequest
set_option maxRecDepth 20000 in
theorem ggX1_breakIn_X1_partIn : GoodIn wsX1_breakIn wsX1_partIn := goodIn_r _ [13, 14, 15, 16, 17, 6, 18, 8, 9, 19, 20, 21, 22, 23, 24, 25] (by decide +kernel) (by decide +kernel)
set_option maxRecDepth 20000 in
theorem gX1_breakIn_X1_partIn : GoodIn wsX1_breakIn (wsV RX1 48 RX1 yX1_partIn wsX1_partIn) := goodIn_app (goodIn_of _ (by decide +kernel)) ggX1_breakIn_X1_partIn
theorem dX1_breakIn_0 : decode cX1_breakIn 0 = .ok (.aload_n 0, 1) := by decide +kernel
theorem dX1_breakIn_1 : decode cX1_breakIn 1 = .ok (.iload_n 1, 1) := by decide +kernel
theorem dX1_breakIn_2 : decode cX1_breakIn 2 = .ok (.invokevirtual 44, 3) := by decide +kernel
theorem dX1_breakIn_5 : decode cX1_breakIn 5 = .ok (.ifCond .eq 11, 3) := by decide +kernel
theorem dX1_breakIn_8 : decode cX1_breakIn 8 = .ok (.aload_n 0, 1) := by decide +kernel
theorem dX1_breakIn_9 : decode cX1_breakIn 9 = .ok (.iconst 1, 1) := by decide +kernel
theorem dX1_breakIn_10 : decode cX1_breakIn 10 = .ok (.putfield 25, 3) := by decide +kernel
theorem dX1_breakIn_13 : decode cX1_breakIn 13 = .ok (.goto 17, 3) := by decide +kernel
theorem dX1_breakIn_16 : decode cX1_breakIn 16 = .ok (.aload_n 0, 1) := by decide +kernel
theorem dX1_breakIn_17 : decode cX1_breakIn 17 = .ok (.dup, 1) := by decide +kernel
theorem dX1_breakIn_18 : decode cX1_breakIn 18 = .ok (.getfield 31, 3) := by decide +kernel
theorem dX1_breakIn_21 : decode cX1_breakIn 21 = .ok (.aload_n 0, 1) := by decide +kernel
theorem dX1_breakIn_22 : decode cX1_breakIn 22 = .ok (.iload_n 1, 1) := by decide +kernel
theorem dX1_breakIn_23 : decode cX1_breakIn 23 = .ok (.invokevirtual 48, 3) := by decide +kernel
theorem dX1_breakIn_26 : decode cX1_breakIn 26 = .ok (.ior, 1) := by decide +kernel
theorem dX1_breakIn_27 : decode cX1_breakIn 27 = .ok (.putfield 31, 3) := by decide +kernel
theorem dX1_breakIn_30 : decode cX1_breakIn 30 = .ok (.return_, 1) := by decide +kernel
theorem dX1_arrivedParts_0 : decode cX1_arrivedParts 0 = .ok (.aload_n 0, 1) := by decide +kernel
theorem dX1_arrivedParts_1 : decode cX1_arrivedParts 1 = .ok (.getfield 25, 3) := by decide +kernel
theorem dX1_arrivedParts_4 : decode cX1_arrivedParts 4 = .ok (.ifCond .eq 7, 3) := by decide +kernel
theorem dX1_arrivedParts_7 : decode cX1_arrivedParts 7 = .ok (.iconst 0, 1) := by decide +kernel
theorem dX1_arrivedParts_8 : decode cX1_arrivedParts 8 = .ok (.goto 14, 3) := by decide +kernel
theorem dX1_arrivedParts_11 : decode cX1_arrivedParts 11 = .ok (.aload_n 0, 1) := by decide +kernel
theorem dX1_arrivedParts_12 : decode cX1_arrivedParts 12 = .ok (.getfield 28, 3) := by decide +kernel
theorem dX1_arrivedParts_15 : decode cX1_arrivedParts 15 = .ok (.aload_n 0, 1) := by decide +kernel
theorem dX1_arrivedParts_16 : decode cX1_arrivedParts 16 = .ok (.getfield 31, 3) := by decide +kernel
theorem dX1_arrivedParts_19 : decode cX1_arrivedParts 19 = .ok (.iconst (-1), 1) := by decide +kernel
theorem dX1_arrivedParts_20 : decode cX1_arrivedParts 20 = .ok (.ixor, 1) := by decide +kernel
theorem dX1_arrivedParts_21 : decode cX1_arrivedParts 21 = .ok (.iand, 1) := by decide +kernel
theorem dX1_arrivedParts_22 : decode cX1_arrivedParts 22 = .ok (.ireturn, 1) := by decide +kernel
theorem dX1_firstSlotOfParts_0 : decode cX1_firstSlotOfParts 0 = .ok (.aload_n 0, 1) := by decide +kernel
theorem dX1_firstSlotOfParts_1 : decode cX1_firstSlotOfParts 1 = .ok (.getfield 22, 3) := by decide +kernel
theorem dX1_firstSlotOfParts_4 : decode cX1_firstSlotOfParts 4 = .ok (.ifCond .eq 12, 3) := by decide +kernel
theorem dX1_firstSlotOfParts_7 : decode cX1_firstSlotOfParts 7 = .ok (.aload_n 0, 1) := by decide +kernel
theorem dX1_firstSlotOfParts_8 : decode cX1_firstSlotOfParts 8 = .ok (.getfield 15, 3) := by decide +kernel
theorem dX1_firstSlotOfParts_11 : decode cX1_firstSlotOfParts 11 = .ok (.iconst 1, 1) := by decide +kernel
theorem dX1_firstSlotOfParts_12 : decode cX1_firstSlotOfParts 12 = .ok (.iadd, 1) := by decide +kernel
theorem dX1_firstSlotOfParts_13 : decode cX1_firstSlotOfParts 13 = .ok (.goto 7, 3) := by decide +kernel
theorem dX1_firstSlotOfParts_16 : decode cX1_firstSlotOfParts 16 = .ok (.aload_n 0, 1) := by decide +kernel
theorem dX1_firstSlotOfParts_17 : decode cX1_firstSlotOfParts 17 = .ok (.getfield 15, 3) := by decide +kernel
theorem dX1_firstSlotOfParts_20 : decode cX1_firstSlotOfParts 20 = .ok (.ireturn, 1) := by decide +kernel
set_option maxRecDepth 20000 in
theorem ggX1_partIn_X1_firstSlotOfParts : GoodIn wsX1_partIn wsX1_firstSlotOfParts := goodIn_r _ [6, 7, 8, 9, 10, 11, 12, 13, 14, 15] (by decide +kernel) (by decide +kernel)
set_option maxRecDepth 20000 in
theorem gX1_partIn_X1_firstSlotOfParts : GoodIn wsX1_partIn (wsV RX1 34 RX1 yX1_firstSlotOfParts wsX1_firstSlotOfParts) := goodIn_app (goodIn_of _ (by decide +kernel)) ggX1_partIn_X1_firstSlotOfParts
theorem dX1_partIn_0 : decode cX1_partIn 0 = .ok (.iload_n 1, 1) := by decide +kernel
theorem dX1_partIn_1 : decode cX1_partIn 1 = .ok (.aload_n 0, 1) := by decide +kernel
theorem dX1_partIn_2 : decode cX1_partIn 2 = .ok (.invokevirtual 34, 3) := by decide +kernel
theorem dX1_partIn_5 : decode cX1_partIn 5 = .ok (.isub, 1) := by decide +kernel
theorem dX1_partIn_6 : decode cX1_partIn 6 = .ok (.iconst 2, 1) := by decide +kernel
theorem dX1_partIn_7 : decode cX1_partIn 7 = .ok (.idiv, 1) := by decide +kernel
theorem dX1_partIn_8 : decode cX1_partIn 8 = .ok (.istore_n 2, 1) := by decide +kernel
theorem dX1_partIn_9 : decode cX1_partIn 9 = .ok (.aload_n 0, 1) := by decide +kernel
theorem dX1_partIn_10 : decode cX1_partIn 10 = .ok (.getfield 28, 3) := by decide +kernel
theorem dX1_partIn_13 : decode cX1_partIn 13 = .ok (.istore_n 3, 1) := by decide +kernel
theorem dX1_partIn_14 : decode cX1_partIn 14 = .ok (.iconst 0, 1) := by decide +kernel
theorem dX1_partIn_15 : decode cX1_partIn 15 = .ok (.istore 4, 2) := by decide +kernel
theorem dX1_partIn_17 : decode cX1_partIn 17 = .ok (.iload 4, 2) := by decide +kernel
theorem dX1_partIn_19 : decode cX1_partIn 19 = .ok (.iload_n 2, 1) := by decide +kernel
theorem dX1_partIn_20 : decode cX1_partIn 20 = .ok (.if_icmp .ge 21, 3) := by decide +kernel
theorem dX1_partIn_23 : decode cX1_partIn 23 = .ok (.iload 4, 2) := by decide +kernel
theorem dX1_partIn_25 : decode cX1_partIn 25 = .ok (.iconst 4, 1) := by decide +kernel
theorem dX1_partIn_26 : decode cX1_partIn 26 = .ok (.if_icmp .ge 15, 3) := by decide +kernel
theorem dX1_partIn_29 : decode cX1_partIn 29 = .ok (.iload_n 3, 1) := by decide +kernel
theorem dX1_partIn_30 : decode cX1_partIn 30 = .ok (.iload_n 3, 1) := by decide +kernel
theorem dX1_partIn_31 : decode cX1_partIn 31 = .ok (.iconst 1, 1) := by decide +kernel
theorem dX1_partIn_32 : decode cX1_partIn 32 = .ok (.isub, 1) := by decide +kernel
theorem dX1_partIn_33 : decode cX1_partIn 33 = .ok (.iand, 1) := by decide +kernel
theorem dX1_partIn_34 : decode cX1_partIn 34 = .ok (.istore_n 3, 1) := by decide +kernel
theorem dX1_partIn_35 : decode cX1_partIn 35 = .ok (.iinc 4 1, 3) := by decide +kernel
theorem dX1_partIn_38 : decode cX1_partIn 38 = .ok (.goto (-21), 3) := by decide +kernel
theorem dX1_partIn_41 : decode cX1_partIn 41 = .ok (.iload_n 3, 1) := by decide +kernel
theorem dX1_partIn_42 : decode cX1_partIn 42 = .ok (.iload_n 3, 1) := by decide +kernel
theorem dX1_partIn_43 : decode cX1_partIn 43 = .ok (.ineg, 1) := by decide +kernel
theorem dX1_partIn_44 : decode cX1_partIn 44 = .ok (.iand, 1) := by decide +kernel
theorem dX1_partIn_45 : decode cX1_partIn 45 = .ok (.ireturn, 1) := by decide +kernel
set_option maxRecDepth 20000 in
theorem ggX2_init_X0_init : GoodIn wsX2_init wsX0_init := goodIn_r _ [23, 24, 2, 3, 25, 26, 27, 28, 39, 40, 41] (by decide +kernel) (by decide +kernel)
set_option maxRecDepth 20000 in
theorem gX2_init_X0_init_n11 : GoodIn wsX2_init (wsX0_init) := ggX2_init_X0_init
set_option maxRecDepth 20000 in
theorem ggX2_init_X1_init : GoodIn wsX2_init wsX1_init := goodIn_r _ [30, 31, 2, 3, 32, 33, 34, 35, 36, 37, 38, 54, 55, 56, 57, 58, 59, 60] (by decide +kernel) (by decide +kernel)
set_option maxRecDepth 20000 in
theorem gX2_init_X1_init_n20 : GoodIn wsX2_init (wsX1_init) := ggX2_init_X1_init
theorem dX2_init_0 : decode cX2_init 0 = .ok (.aload_n 0, 1) := by decide +kernel
theorem dX2_init_1 : decode cX2_init 1 = .ok (.invokespecial 3, 3) := by decide +kernel
theorem dX2_init_4 : decode cX2_init 4 = .ok (.aload_n 0, 1) := by decide +kernel
theorem dX2_init_5 : decode cX2_init 5 = .ok (.new 9, 3) := by decide +kernel
theorem dX2_init_8 : decode cX2_init 8 = .ok (.dup, 1) := by decide +kernel
theorem dX2_init_9 : decode cX2_init 9 = .ok (.invokespecial 11, 3) := by decide +kernel
theorem dX2_init_12 : decode cX2_init 12 = .ok (.putfield 12, 3) := by decide +kernel
theorem dX2_init_15 : decode cX2_init 15 = .ok (.aload_n 0, 1) := by decide +kernel
theorem dX2_init_16 : decode cX2_init 16 = .ok (.new 18, 3) := by decide +kernel
theorem dX2_init_19 : decode cX2_init 19 = .ok (.dup, 1) := by decide +kernel
theorem dX2_init_20 : decode cX2_init 20 = .ok (.invokespecial 20, 3) := by decide +kernel
theorem dX2_init_23 : decode cX2_init 23 = .ok (.putfield 21, 3) := by decide +kernel
theorem dX2_init_26 : decode cX2_init 26 = .ok (.aload_n 0, 1) := by decide +kernel
theorem dX2_init_27 : decode cX2_init 27 = .ok (.iconst 0, 1) := by decide +kernel
theorem dX2_init_28 : decode cX2_init 28 = .ok (.putfield 25, 3) := by decide +kernel
theorem dX2_init_31 : decode cX2_init 31 = .ok (.aload_n 0, 1) := by decide +kernel
theorem dX2_init_32 : decode cX2_init 32 = .ok (.iconst 3, 1) := by decide +kernel
theorem dX2_init_33 : decode cX2_init 33 = .ok (.putfield 29, 3) := by decide +kernel
theorem dX2_init_36 : decode cX2_init 36 = .ok (.aload_n 0, 1) := by decide +kernel
theorem dX2_init_37 : decode cX2_init 37 = .ok (.iconst (-1), 1) := by decide +kernel
theorem dX2_init_38 : decode cX2_init 38 = .ok (.putfield 32, 3) := by decide +kernel
theorem dX2_init_41 : decode cX2_init 41 = .ok (.aload_n 0, 1) := by decide +kernel
theorem dX2_init_42 : decode cX2_init 42 = .ok (.iconst 0, 1) := by decide +kernel
theorem dX2_init_43 : decode cX2_init 43 = .ok (.putfield 35, 3) := by decide +kernel
theorem dX2_init_46 : decode cX2_init 46 = .ok (.aload_n 0, 1) := by decide +kernel
theorem dX2_init_47 : decode cX2_init 47 = .ok (.iconst 0, 1) := by decide +kernel
theorem dX2_init_48 : decode cX2_init 48 = .ok (.putfield 38, 3) := by decide +kernel
theorem dX2_init_51 : decode cX2_init 51 = .ok (.aload_n 0, 1) := by decide +kernel
theorem dX2_init_52 : decode cX2_init 52 = .ok (.iconst 0, 1) := by decide +kernel
theorem dX2_init_53 : decode cX2_init 53 = .ok (.putfield 41, 3) := by decide +kernel
theorem dX2_init_56 : decode cX2_init 56 = .ok (.aload_n 0, 1) := by decide +kernel
theorem dX2_init_57 : decode cX2_init 57 = .ok (.iconst 0, 1) := by decide +kernel
theorem dX2_init_58 : decode cX2_init 58 = .ok (.putfield 44, 3) := by decide +kernel
theorem dX2_init_61 : decode cX2_init 61 = .ok (.aload_n 0, 1) := by decide +kernel
theorem dX2_init_62 : decode cX2_init 62 = .ok (.iconst 0, 1) := by decide +kernel
theorem dX2_init_63 : decode cX2_init 63 = .ok (.putfield 47, 3) := by decide +kernel
theorem dX2_init_66 : decode cX2_init 66 = .ok (.aload_n 0, 1) := by decide +kernel
theorem dX2_init_67 : decode cX2_init 67 = .ok (.iconst 0, 1) := by decide +kernel
theorem dX2_init_68 : decode cX2_init 68 = .ok (.putfield 50, 3) := by decide +kernel
theorem dX2_init_71 : decode cX2_init 71 = .ok (.aload_n 0, 1) := by decide +kernel
theorem dX2_init_72 : decode cX2_init 72 = .ok (.iconst (-1), 1) := by decide +kernel
theorem dX2_init_73 : decode cX2_init 73 = .ok (.putfield 53, 3) := by decide +kernel
theorem dX2_init_76 : decode cX2_init 76 = .ok (.return_, 1) := by decide +kernel
set_option maxRecDepth 20000 in
theorem ggX2_begin_X0_partsOfFirst : GoodIn wsX2_begin wsX0_partsOfFirst := goodIn_r _ [8, 9, 10, 47, 48, 49] (by decide +kernel) (by decide +kernel)
set_option maxRecDepth 20000 in
theorem gX2_begin_X0_partsOfFirst : GoodIn wsX2_begin (wsV RX2 56 RX0 yX0_partsOfFirst wsX0_partsOfFirst) := goodIn_app (goodIn_of _ (by decide +kernel)) ggX2_begin_X0_partsOfFirst
set_option maxRecDepth 20000 in
theorem ggX2_begin_J6_bitCount_0f7a4 : GoodIn wsX2_begin wsJ6_bitCount_0f7a4 := goodIn_r _ [14, 15, 16, 17] (by decide +kernel) (by decide +kernel)
set_option maxRecDepth 20000 in
theorem gX2_begin_J6_bitCount_0f7a4 : GoodIn wsX2_begin (va_wsS RX2 60 yJ6_bitCount_0f7a4 wsJ6_bitCount_0f7a4) := goodIn_app (goodIn_of _ (by decide +kernel)) ggX2_begin_J6_bitCount_0f7a4
set_option maxRecDepth 20000 in
theorem ggX2_begin_X1_begin : GoodIn wsX2_begin wsX1_begin := goodIn_r _ [22, 23, 24, 25, 26, 27, 28, 29, 30, 31, 32, 21, 33, 34, 12, 13, 14, 15, 16, 17, 50, 51, 52, 53, 54, 55, 56] (by decide +kernel) (by decide +kernel)
set_option maxRecDepth 20000 in
theorem gX2_begin_X1_begin : GoodIn wsX2_begin (wsV RX2 66 RX1 yX1_begin wsX1_begin) := goodIn_app (goodIn_of _ (by decide +kernel)) ggX2_begin_X1_begin
theorem dX2_begin_0 : decode cX2_begin 0 = .ok (.aload_n 0, 1) := by decide +kernel
theorem dX2_begin_1 : decode cX2_begin 1 = .ok (.getfield 12, 3) := by decide +kernel
theorem dX2_begin_4 : decode cX2_begin 4 = .ok (.invokevirtual 56, 3) := by decide +kernel
theorem dX2_begin_7 : decode cX2_begin 7 = .ok (.istore_n 3, 1) := by decide +kernel
theorem dX2_begin_8 : decode cX2_begin 8 = .ok (.aload_n 0, 1) := by decide +kernel
theorem dX2_begin_9 : decode cX2_begin 9 = .ok (.iconst (-1), 1) := by decide +kernel
theorem dX2_begin_10 : decode cX2_begin 10 = .ok (.putfield 32, 3) := by decide +kernel
theorem dX2_begin_13 : decode cX2_begin 13 = .ok (.aload_n 0, 1) := by decide +kernel
theorem dX2_begin_14 : decode cX2_begin 14 = .ok (.getfield 21, 3) := by decide +kernel
theorem dX2_begin_17 : decode cX2_begin 17 = .ok (.iload_n 1, 1) := by decide +kernel
theorem dX2_begin_18 : decode cX2_begin 18 = .ok (.iload_n 3, 1) := by decide +kernel
theorem dX2_begin_19 : decode cX2_begin 19 = .ok (.iload_n 3, 1) := by decide +kernel
theorem dX2_begin_20 : decode cX2_begin 20 = .ok (.invokestatic 60, 3) := by decide +kernel
theorem dX2_begin_23 : decode cX2_begin 23 = .ok (.iload_n 2, 1) := by decide +kernel
theorem dX2_begin_24 : decode cX2_begin 24 = .ok (.if_icmp .lt 7, 3) := by decide +kernel
theorem dX2_begin_27 : decode cX2_begin 27 = .ok (.iconst 1, 1) := by decide +kernel
theorem dX2_begin_28 : decode cX2_begin 28 = .ok (.goto 4, 3) := by decide +kernel
theorem dX2_begin_31 : decode cX2_begin 31 = .ok (.iconst 0, 1) := by decide +kernel
theorem dX2_begin_32 : decode cX2_begin 32 = .ok (.invokevirtual 66, 3) := by decide +kernel
theorem dX2_begin_35 : decode cX2_begin 35 = .ok (.return_, 1) := by decide +kernel
set_option maxRecDepth 20000 in
theorem ggX2_end_X1_slotsUpTo : GoodIn wsX2_end wsX1_slotsUpTo := goodIn_r _ [7, 8, 80, 81, 82, 83, 84, 85, 86] (by decide +kernel) (by decide +kernel)
set_option maxRecDepth 20000 in
theorem gX2_end_X1_slotsUpTo : GoodIn wsX2_end (wsV RX2 74 RX1 yX1_slotsUpTo wsX1_slotsUpTo) := goodIn_app (goodIn_of _ (by decide +kernel)) ggX2_end_X1_slotsUpTo
set_option maxRecDepth 20000 in
theorem ggX2_end_X1_arrivedParts : GoodIn wsX2_end wsX1_arrivedParts := goodIn_r _ [12, 13, 14, 15, 80, 81, 82, 83, 84, 85, 86] (by decide +kernel) (by decide +kernel)
set_option maxRecDepth 20000 in
theorem gX2_end_X1_arrivedParts : GoodIn wsX2_end (wsV RX2 77 RX1 yX1_arrivedParts wsX1_arrivedParts) := goodIn_app (goodIn_of _ (by decide +kernel)) ggX2_end_X1_arrivedParts
set_option maxRecDepth 20000 in
theorem ggX2_end_X2_countFailure : GoodIn wsX2_end wsX2_countFailure := goodIn_r _ [20, 21, 22, 23, 24, 25, 26, 27, 28, 29, 30, 31, 32, 33, 34, 35, 36, 37, 38, 39, 40, 41, 42, 19, 43, 44, 45, 46, 47, 68, 69, 70, 71, 72, 73, 74, 75, 76, 77, 78, 79, 87, 88, 89] (by decide +kernel) (by decide +kernel)
set_option maxRecDepth 20000 in
theorem gX2_end_X2_countFailure : GoodIn wsX2_end (wsV RX2 80 RX2 yX2_countFailure wsX2_countFailure) := goodIn_app (goodIn_of _ (by decide +kernel)) ggX2_end_X2_countFailure
set_option maxRecDepth 20000 in
theorem ggX2_end_X2_countSuccess : GoodIn wsX2_end wsX2_countSuccess := goodIn_r _ [51, 52, 28, 53, 54, 55, 56, 57, 58, 59, 60, 61, 62, 32, 63, 34, 36, 40, 41, 42, 19, 43, 44, 22, 21, 45, 46, 47, 64, 65, 66, 67, 29, 30, 31, 33, 35, 37, 38, 25, 39, 68, 69, 70, 71, 72, 73, 74, 75, 76, 77, 78, 79, 87, 88, 89] (by decide +kernel) (by decide +kernel)
set_option maxRecDepth 20000 in
theorem gX2_end_X2_countSuccess : GoodIn wsX2_end (wsV RX2 83 RX2 yX2_countSuccess wsX2_countSuccess) := goodIn_app (goodIn_of _ (by decide +kernel)) ggX2_end_X2_countSuccess
theorem dX2_end_0 : decode cX2_end 0 = .ok (.aload_n 0, 1) := by decide +kernel
theorem dX2_end_1 : decode cX2_end 1 = .ok (.getfield 21, 3) := by decide +kernel
theorem dX2_end_4 : decode cX2_end 4 = .ok (.iconst 0, 1) := by decide +kernel
theorem dX2_end_5 : decode cX2_end 5 = .ok (.putfield 70, 3) := by decide +kernel
theorem dX2_end_8 : decode cX2_end 8 = .ok (.aload_n 0, 1) := by decide +kernel
theorem dX2_end_9 : decode cX2_end 9 = .ok (.dup, 1) := by decide +kernel
theorem dX2_end_10 : decode cX2_end 10 = .ok (.getfield 50, 3) := by decide +kernel
theorem dX2_end_13 : decode cX2_end 13 = .ok (.aload_n 0, 1) := by decide +kernel
theorem dX2_end_14 : decode cX2_end 14 = .ok (.getfield 21, 3) := by decide +kernel
theorem dX2_end_17 : decode cX2_end 17 = .ok (.iload_n 1, 1) := by decide +kernel
theorem dX2_end_18 : decode cX2_end 18 = .ok (.invokevirtual 74, 3) := by decide +kernel
theorem dX2_end_21 : decode cX2_end 21 = .ok (.iadd, 1) := by decide +kernel
theorem dX2_end_22 : decode cX2_end 22 = .ok (.putfield 50, 3) := by decide +kernel
theorem dX2_end_25 : decode cX2_end 25 = .ok (.aload_n 0, 1) := by decide +kernel
theorem dX2_end_26 : decode cX2_end 26 = .ok (.getfield 21, 3) := by decide +kernel
theorem dX2_end_29 : decode cX2_end 29 = .ok (.invokevirtual 77, 3) := by decide +kernel
theorem dX2_end_32 : decode cX2_end 32 = .ok (.istore_n 2, 1) := by decide +kernel
theorem dX2_end_33 : decode cX2_end 33 = .ok (.iload_n 2, 1) := by decide +kernel
theorem dX2_end_34 : decode cX2_end 34 = .ok (.ifCond .ne 10, 3) := by decide +kernel
theorem dX2_end_37 : decode cX2_end 37 = .ok (.aload_n 0, 1) := by decide +kernel
theorem dX2_end_38 : decode cX2_end 38 = .ok (.invokevirtual 80, 3) := by decide +kernel
theorem dX2_end_41 : decode cX2_end 41 = .ok (.goto 8, 3) := by decide +kernel
theorem dX2_end_44 : decode cX2_end 44 = .ok (.aload_n 0, 1) := by decide +kernel
theorem dX2_end_45 : decode cX2_end 45 = .ok (.iload_n 2, 1) := by decide +kernel
theorem dX2_end_46 : decode cX2_end 46 = .ok (.invokevirtual 83, 3) := by decide +kernel
theorem dX2_end_49 : decode cX2_end 49 = .ok (.return_, 1) := by decide +kernel
set_option maxRecDepth 20000 in
theorem ggX2_countSuccess_J6_bitCount_0f7a4 : GoodIn wsX2_countSuccess wsJ6_bitCount_0f7a4 := goodIn_r _ [6, 7, 8, 9] (by decide +kernel) (by decide +kernel)
set_option maxRecDepth 20000 in
theorem gX2_countSuccess_J6_bitCount_0f7a4 : GoodIn wsX2_countSuccess (va_wsS RX2 60 yJ6_bitCount_0f7a4 wsJ6_bitCount_0f7a4) := goodIn_app (goodIn_of _ (by decide +kernel)) ggX2_countSuccess_J6_bitCount_0f7a4
set_option maxRecDepth 20000 in
theorem ggX2_countSuccess_X0_takeFromFirst : GoodIn wsX2_countSuccess wsX0_takeFromFirst := goodIn_r _ [14, 15, 16, 53, 54, 55] (by decide +kernel) (by decide +kernel)
set_option maxRecDepth 20000 in
theorem gX2_countSuccess_X0_takeFromFirst : GoodIn wsX2_countSuccess (wsV RX2 87 RX0 yX0_takeFromFirst wsX0_takeFromFirst) := goodIn_app (goodIn_of _ (by decide +kernel)) ggX2_countSuccess_X0_takeFromFirst
set_option maxRecDepth 20000 in
theorem ggX2_countSuccess_X2_startAfresh : GoodIn wsX2_countSuccess wsX2_startAfresh := goodIn_r _ [21, 22, 23, 24, 25, 26, 27, 41, 42, 43, 44, 45, 46, 47, 48, 49, 50, 51, 52] (by decide +kernel) (by decide +kernel)
set_option maxRecDepth 20000 in
theorem gX2_countSuccess_X2_startAfresh : GoodIn wsX2_countSuccess (wsV RX2 90 RX2 yX2_startAfresh wsX2_startAfresh) := goodIn_app (goodIn_of _ (by decide +kernel)) ggX2_countSuccess_X2_startAfresh
set_option maxRecDepth 20000 in
theorem ggX2_countSuccess_X0_partsOfFirst : GoodIn wsX2_countSuccess wsX0_partsOfFirst := goodIn_r _ [31, 15, 16, 53, 54, 55] (by decide +kernel) (by decide +kernel)
set_option maxRecDepth 20000 in
theorem gX2_countSuccess_X0_partsOfFirst : GoodIn wsX2_countSuccess (wsV RX2 56 RX0 yX0_partsOfFirst wsX0_partsOfFirst) := goodIn_app (goodIn_of _ (by decide +kernel)) ggX2_countSuccess_X0_partsOfFirst
set_option maxRecDepth 20000 in
theorem ggX2_countSuccess_X0_removeFirst : GoodIn wsX2_countSuccess wsX0_removeFirst := goodIn_r _ [35, 15, 36, 16, 37, 38, 39, 40, 53, 54, 55] (by decide +kernel) (by decide +kernel)
set_option maxRecDepth 20000 in
theorem gX2_countSuccess_X0_removeFirst : GoodIn wsX2_countSuccess (wsV RX2 93 RX0 yX0_removeFirst wsX0_removeFirst) := goodIn_app (goodIn_of _ (by decide +kernel)) ggX2_countSuccess_X0_removeFirst
theorem dX2_countSuccess_0 : decode cX2_countSuccess 0 = .ok (.aload_n 0, 1) := by decide +kernel
theorem dX2_countSuccess_1 : decode cX2_countSuccess 1 = .ok (.dup, 1) := by decide +kernel
theorem dX2_countSuccess_2 : decode cX2_countSuccess 2 = .ok (.getfield 41, 3) := by decide +kernel
theorem dX2_countSuccess_5 : decode cX2_countSuccess 5 = .ok (.iload_n 1, 1) := by decide +kernel
theorem dX2_countSuccess_6 : decode cX2_countSuccess 6 = .ok (.invokestatic 60, 3) := by decide +kernel
theorem dX2_countSuccess_9 : decode cX2_countSuccess 9 = .ok (.iadd, 1) := by decide +kernel
theorem dX2_countSuccess_10 : decode cX2_countSuccess 10 = .ok (.putfield 41, 3) := by decide +kernel
theorem dX2_countSuccess_13 : decode cX2_countSuccess 13 = .ok (.aload_n 0, 1) := by decide +kernel
theorem dX2_countSuccess_14 : decode cX2_countSuccess 14 = .ok (.getfield 12, 3) := by decide +kernel
theorem dX2_countSuccess_17 : decode cX2_countSuccess 17 = .ok (.iload_n 1, 1) := by decide +kernel
theorem dX2_countSuccess_18 : decode cX2_countSuccess 18 = .ok (.invokevirtual 87, 3) := by decide +kernel
theorem dX2_countSuccess_21 : decode cX2_countSuccess 21 = .ok (.aload_n 0, 1) := by decide +kernel
theorem dX2_countSuccess_22 : decode cX2_countSuccess 22 = .ok (.invokevirtual 90, 3) := by decide +kernel
theorem dX2_countSuccess_25 : decode cX2_countSuccess 25 = .ok (.aload_n 0, 1) := by decide +kernel
theorem dX2_countSuccess_26 : decode cX2_countSuccess 26 = .ok (.getfield 12, 3) := by decide +kernel
theorem dX2_countSuccess_29 : decode cX2_countSuccess 29 = .ok (.invokevirtual 56, 3) := by decide +kernel
theorem dX2_countSuccess_32 : decode cX2_countSuccess 32 = .ok (.ifCond .ne 10, 3) := by decide +kernel
theorem dX2_countSuccess_35 : decode cX2_countSuccess 35 = .ok (.aload_n 0, 1) := by decide +kernel
theorem dX2_countSuccess_36 : decode cX2_countSuccess 36 = .ok (.getfield 12, 3) := by decide +kernel
theorem dX2_countSuccess_39 : decode cX2_countSuccess 39 = .ok (.invokevirtual 93, 3) := by decide +kernel
theorem dX2_countSuccess_42 : decode cX2_countSuccess 42 = .ok (.return_, 1) := by decide +kernel
set_option maxRecDepth 20000 in
theorem ggX2_countFailure_X0_removeFirst : GoodIn wsX2_countFailure wsX0_removeFirst := goodIn_r _ [13, 14, 15, 16, 17, 18, 5, 19, 41, 42, 43] (by decide +kernel) (by decide +kernel)
set_option maxRecDepth 20000 in
theorem gX2_countFailure_X0_removeFirst : GoodIn wsX2_countFailure (wsV RX2 93 RX0 yX0_removeFirst wsX0_removeFirst) := goodIn_app (goodIn_of _ (by decide +kernel)) ggX2_countFailure_X0_removeFirst
set_option maxRecDepth 20000 in
theorem ggX2_countFailure_X2_startAfresh : GoodIn wsX2_countFailure wsX2_startAfresh := goodIn_r _ [24, 25, 2, 1, 26, 27, 28, 29, 30, 31, 32, 33, 34, 35, 36, 37, 38, 39, 40] (by decide +kernel) (by decide +kernel)
set_option maxRecDepth 20000 in
theorem gX2_countFailure_X2_startAfresh : GoodIn wsX2_countFailure (wsV RX2 90 RX2 yX2_startAfresh wsX2_startAfresh) := goodIn_app (goodIn_of _ (by decide +kernel)) ggX2_countFailure_X2_startAfresh
theorem dX2_countFailure_0 : decode cX2_countFailure 0 = .ok (.aload_n 0, 1) := by decide +kernel
theorem dX2_countFailure_1 : decode cX2_countFailure 1 = .ok (.dup, 1) := by decide +kernel
theorem dX2_countFailure_2 : decode cX2_countFailure 2 = .ok (.getfield 35, 3) := by decide +kernel
theorem dX2_countFailure_5 : decode cX2_countFailure 5 = .ok (.iconst 1, 1) := by decide +kernel
theorem dX2_countFailure_6 : decode cX2_countFailure 6 = .ok (.iadd, 1) := by decide +kernel
theorem dX2_countFailure_7 : decode cX2_countFailure 7 = .ok (.putfield 35, 3) := by decide +kernel
theorem dX2_countFailure_10 : decode cX2_countFailure 10 = .ok (.aload_n 0, 1) := by decide +kernel
theorem dX2_countFailure_11 : decode cX2_countFailure 11 = .ok (.getfield 35, 3) := by decide +kernel
theorem dX2_countFailure_14 : decode cX2_countFailure 14 = .ok (.iconst 5, 1) := by decide +kernel
theorem dX2_countFailure_15 : decode cX2_countFailure 15 = .ok (.if_icmp .ge 21, 3) := by decide +kernel
theorem dX2_countFailure_18 : decode cX2_countFailure 18 = .ok (.aload_n 0, 1) := by decide +kernel
theorem dX2_countFailure_19 : decode cX2_countFailure 19 = .ok (.iconst 2, 1) := by decide +kernel
theorem dX2_countFailure_20 : decode cX2_countFailure 20 = .ok (.aload_n 0, 1) := by decide +kernel
theorem dX2_countFailure_21 : decode cX2_countFailure 21 = .ok (.getfield 29, 3) := by decide +kernel
theorem dX2_countFailure_24 : decode cX2_countFailure 24 = .ok (.imul, 1) := by decide +kernel
theorem dX2_countFailure_25 : decode cX2_countFailure 25 = .ok (.iconst 1, 1) := by decide +kernel
theorem dX2_countFailure_26 : decode cX2_countFailure 26 = .ok (.iadd, 1) := by decide +kernel
theorem dX2_countFailure_27 : decode cX2_countFailure 27 = .ok (.bipush 31, 2) := by decide +kernel
theorem dX2_countFailure_29 : decode cX2_countFailure 29 = .ok (.invokestatic 96, 3) := by decide +kernel
theorem dX2_countFailure_32 : decode cX2_countFailure 32 = .ok (.putfield 29, 3) := by decide +kernel
theorem dX2_countFailure_35 : decode cX2_countFailure 35 = .ok (.return_, 1) := by decide +kernel
theorem dX2_countFailure_36 : decode cX2_countFailure 36 = .ok (.aload_n 0, 1) := by decide +kernel
theorem dX2_countFailure_37 : decode cX2_countFailure 37 = .ok (.dup, 1) := by decide +kernel
theorem dX2_countFailure_38 : decode cX2_countFailure 38 = .ok (.getfield 44, 3) := by decide +kernel
theorem dX2_countFailure_41 : decode cX2_countFailure 41 = .ok (.iconst 1, 1) := by decide +kernel
theorem dX2_countFailure_42 : decode cX2_countFailure 42 = .ok (.iadd, 1) := by decide +kernel
theorem dX2_countFailure_43 : decode cX2_countFailure 43 = .ok (.putfield 44, 3) := by decide +kernel
theorem dX2_countFailure_46 : decode cX2_countFailure 46 = .ok (.aload_n 0, 1) := by decide +kernel
theorem dX2_countFailure_47 : decode cX2_countFailure 47 = .ok (.getfield 12, 3) := by decide +kernel
theorem dX2_countFailure_50 : decode cX2_countFailure 50 = .ok (.invokevirtual 93, 3) := by decide +kernel
theorem dX2_countFailure_53 : decode cX2_countFailure 53 = .ok (.aload_n 0, 1) := by decide +kernel
theorem dX2_countFailure_54 : decode cX2_countFailure 54 = .ok (.invokevirtual 90, 3) := by decide +kernel
theorem dX2_countFailure_57 : decode cX2_countFailure 57 = .ok (.return_, 1) := by decide +kernel
set_option maxRecDepth 20000 in
theorem ggX2_startAfresh_X5_leastWindow : GoodIn wsX2_startAfresh wsX5_leastWindow := goodIn_r _ [6] (by decide +kernel) (by decide +kernel)
set_option maxRecDepth 20000 in
theorem gX2_startAfresh_X5_leastWindow_n102 : GoodIn wsX2_startAfresh (wsX5_leastWindow) := ggX2_startAfresh_X5_leastWindow
theorem dX2_startAfresh_0 : decode cX2_startAfresh 0 = .ok (.aload_n 0, 1) := by decide +kernel
theorem dX2_startAfresh_1 : decode cX2_startAfresh 1 = .ok (.aload_n 0, 1) := by decide +kernel
theorem dX2_startAfresh_2 : decode cX2_startAfresh 2 = .ok (.getfield 25, 3) := by decide +kernel
theorem dX2_startAfresh_5 : decode cX2_startAfresh 5 = .ok (.invokestatic 102, 3) := by decide +kernel
theorem dX2_startAfresh_8 : decode cX2_startAfresh 8 = .ok (.putfield 29, 3) := by decide +kernel
theorem dX2_startAfresh_11 : decode cX2_startAfresh 11 = .ok (.aload_n 0, 1) := by decide +kernel
theorem dX2_startAfresh_12 : decode cX2_startAfresh 12 = .ok (.iconst 0, 1) := by decide +kernel
theorem dX2_startAfresh_13 : decode cX2_startAfresh 13 = .ok (.putfield 35, 3) := by decide +kernel
theorem dX2_startAfresh_16 : decode cX2_startAfresh 16 = .ok (.return_, 1) := by decide +kernel
theorem dX3_init_0 : decode cX3_init 0 = .ok (.aload_n 0, 1) := by decide +kernel
theorem dX3_init_1 : decode cX3_init 1 = .ok (.invokespecial 3, 3) := by decide +kernel
theorem dX3_init_4 : decode cX3_init 4 = .ok (.aload_n 0, 1) := by decide +kernel
theorem dX3_init_5 : decode cX3_init 5 = .ok (.bipush 36, 2) := by decide +kernel
theorem dX3_init_7 : decode cX3_init 7 = .ok (.newarray .int, 2) := by decide +kernel
theorem dX3_init_9 : decode cX3_init 9 = .ok (.putfield 9, 3) := by decide +kernel
theorem dX3_init_12 : decode cX3_init 12 = .ok (.return_, 1) := by decide +kernel
set_option maxRecDepth 20000 in
theorem ggX3_between_X3_placeOf : GoodIn wsX3_between wsX3_placeOf := goodIn_r _ [5, 6, 7, 8] (by decide +kernel) (by decide +kernel)
set_option maxRecDepth 20000 in
theorem gX3_between_X3_placeOf : GoodIn wsX3_between (va_wsS RX3 15 yX3_placeOf wsX3_placeOf) := goodIn_app (goodIn_of _ (by decide +kernel)) ggX3_between_X3_placeOf
theorem dX3_between_0 : decode cX3_between 0 = .ok (.iload_n 1, 1) := by decide +kernel
theorem dX3_between_1 : decode cX3_between 1 = .ok (.iload_n 2, 1) := by decide +kernel
theorem dX3_between_2 : decode cX3_between 2 = .ok (.invokestatic 15, 3) := by decide +kernel
theorem dX3_between_5 : decode cX3_between 5 = .ok (.istore_n 3, 1) := by decide +kernel
theorem dX3_between_6 : decode cX3_between 6 = .ok (.iload_n 3, 1) := by decide +kernel
theorem dX3_between_7 : decode cX3_between 7 = .ok (.ifCond .lt 21, 3) := by decide +kernel
theorem dX3_between_10 : decode cX3_between 10 = .ok (.iload_n 3, 1) := by decide +kernel
theorem dX3_between_11 : decode cX3_between 11 = .ok (.aload_n 0, 1) := by decide +kernel
theorem dX3_between_12 : decode cX3_between 12 = .ok (.getfield 9, 3) := by decide +kernel
theorem dX3_between_15 : decode cX3_between 15 = .ok (.arraylength, 1) := by decide +kernel
theorem dX3_between_16 : decode cX3_between 16 = .ok (.if_icmp .ge 12, 3) := by decide +kernel
theorem dX3_between_19 : decode cX3_between 19 = .ok (.aload_n 0, 1) := by decide +kernel
theorem dX3_between_20 : decode cX3_between 20 = .ok (.getfield 9, 3) := by decide +kernel
theorem dX3_between_23 : decode cX3_between 23 = .ok (.iload_n 3, 1) := by decide +kernel
theorem dX3_between_24 : decode cX3_between 24 = .ok (.iaload, 1) := by decide +kernel
theorem dX3_between_25 : decode cX3_between 25 = .ok (.goto 4, 3) := by decide +kernel
theorem dX3_between_28 : decode cX3_between 28 = .ok (.iconst 0, 1) := by decide +kernel
theorem dX3_between_29 : decode cX3_between 29 = .ok (.ireturn, 1) := by decide +kernel
set_option maxRecDepth 20000 in
theorem ggX3_put_X3_placeOf : GoodIn wsX3_put wsX3_placeOf := goodIn_r _ [5, 6, 7, 8] (by decide +kernel) (by decide +kernel)
set_option maxRecDepth 20000 in
theorem gX3_put_X3_placeOf : GoodIn wsX3_put (va_wsS RX3 15 yX3_placeOf wsX3_placeOf) := goodIn_app (goodIn_of _ (by decide +kernel)) ggX3_put_X3_placeOf
theorem dX3_put_0 : decode cX3_put 0 = .ok (.iload_n 1, 1) := by decide +kernel
theorem dX3_put_1 : decode cX3_put 1 = .ok (.iload_n 2, 1) := by decide +kernel
theorem dX3_put_2 : decode cX3_put 2 = .ok (.invokestatic 15, 3) := by decide +kernel
theorem dX3_put_5 : decode cX3_put 5 = .ok (.istore 4, 2) := by decide +kernel
theorem dX3_put_7 : decode cX3_put 7 = .ok (.iload_n 2, 1) := by decide +kernel
theorem dX3_put_8 : decode cX3_put 8 = .ok (.iload_n 1, 1) := by decide +kernel
theorem dX3_put_9 : decode cX3_put 9 = .ok (.invokestatic 15, 3) := by decide +kernel
theorem dX3_put_12 : decode cX3_put 12 = .ok (.istore 5, 2) := by decide +kernel
theorem dX3_put_14 : decode cX3_put 14 = .ok (.iload 4, 2) := by decide +kernel
theorem dX3_put_16 : decode cX3_put 16 = .ok (.ifCond .lt 44, 3) := by decide +kernel
theorem dX3_put_19 : decode cX3_put 19 = .ok (.iload 4, 2) := by decide +kernel
theorem dX3_put_21 : decode cX3_put 21 = .ok (.aload_n 0, 1) := by decide +kernel
theorem dX3_put_22 : decode cX3_put 22 = .ok (.getfield 9, 3) := by decide +kernel
theorem dX3_put_25 : decode cX3_put 25 = .ok (.arraylength, 1) := by decide +kernel
theorem dX3_put_26 : decode cX3_put 26 = .ok (.if_icmp .ge 34, 3) := by decide +kernel
theorem dX3_put_29 : decode cX3_put 29 = .ok (.iload 5, 2) := by decide +kernel
theorem dX3_put_31 : decode cX3_put 31 = .ok (.ifCond .lt 29, 3) := by decide +kernel
theorem dX3_put_34 : decode cX3_put 34 = .ok (.iload 5, 2) := by decide +kernel
theorem dX3_put_36 : decode cX3_put 36 = .ok (.aload_n 0, 1) := by decide +kernel
theorem dX3_put_37 : decode cX3_put 37 = .ok (.getfield 9, 3) := by decide +kernel
theorem dX3_put_40 : decode cX3_put 40 = .ok (.arraylength, 1) := by decide +kernel
theorem dX3_put_41 : decode cX3_put 41 = .ok (.if_icmp .ge 19, 3) := by decide +kernel
theorem dX3_put_44 : decode cX3_put 44 = .ok (.aload_n 0, 1) := by decide +kernel
theorem dX3_put_45 : decode cX3_put 45 = .ok (.getfield 9, 3) := by decide +kernel
theorem dX3_put_48 : decode cX3_put 48 = .ok (.iload 4, 2) := by decide +kernel
theorem dX3_put_50 : decode cX3_put 50 = .ok (.iload_n 3, 1) := by decide +kernel
theorem dX3_put_51 : decode cX3_put 51 = .ok (.iastore, 1) := by decide +kernel
theorem dX3_put_52 : decode cX3_put 52 = .ok (.aload_n 0, 1) := by decide +kernel
theorem dX3_put_53 : decode cX3_put 53 = .ok (.getfield 9, 3) := by decide +kernel
theorem dX3_put_56 : decode cX3_put 56 = .ok (.iload 5, 2) := by decide +kernel
theorem dX3_put_58 : decode cX3_put 58 = .ok (.iload_n 3, 1) := by decide +kernel
theorem dX3_put_59 : decode cX3_put 59 = .ok (.iastore, 1) := by decide +kernel
theorem dX3_put_60 : decode cX3_put 60 = .ok (.return_, 1) := by decide +kernel
set_option maxRecDepth 20000 in
theorem ggX3_placeOf_X5_isStation : GoodIn wsX3_placeOf wsX5_isStation := goodIn_r _ [3] (by decide +kernel) (by decide +kernel)
set_option maxRecDepth 20000 in
theorem gX3_placeOf_X5_isStation_n19 : GoodIn wsX3_placeOf (wsX5_isStation) := ggX3_placeOf_X5_isStation
theorem dX3_placeOf_0 : decode cX3_placeOf 0 = .ok (.iload_n 0, 1) := by decide +kernel
theorem dX3_placeOf_1 : decode cX3_placeOf 1 = .ok (.invokestatic 19, 3) := by decide +kernel
theorem dX3_placeOf_4 : decode cX3_placeOf 4 = .ok (.ifCond .eq 19, 3) := by decide +kernel
theorem dX3_placeOf_7 : decode cX3_placeOf 7 = .ok (.iload_n 1, 1) := by decide +kernel
theorem dX3_placeOf_8 : decode cX3_placeOf 8 = .ok (.invokestatic 19, 3) := by decide +kernel
theorem dX3_placeOf_11 : decode cX3_placeOf 11 = .ok (.ifCond .eq 12, 3) := by decide +kernel
theorem dX3_placeOf_14 : decode cX3_placeOf 14 = .ok (.iload_n 0, 1) := by decide +kernel
theorem dX3_placeOf_15 : decode cX3_placeOf 15 = .ok (.bipush 6, 2) := by decide +kernel
theorem dX3_placeOf_17 : decode cX3_placeOf 17 = .ok (.imul, 1) := by decide +kernel
theorem dX3_placeOf_18 : decode cX3_placeOf 18 = .ok (.iload_n 1, 1) := by decide +kernel
theorem dX3_placeOf_19 : decode cX3_placeOf 19 = .ok (.iadd, 1) := by decide +kernel
theorem dX3_placeOf_20 : decode cX3_placeOf 20 = .ok (.goto 4, 3) := by decide +kernel
theorem dX3_placeOf_23 : decode cX3_placeOf 23 = .ok (.iconst (-1), 1) := by decide +kernel
theorem dX3_placeOf_24 : decode cX3_placeOf 24 = .ok (.ireturn, 1) := by decide +kernel
theorem dX4_init_0 : decode cX4_init 0 = .ok (.aload_n 0, 1) := by decide +kernel
theorem dX4_init_1 : decode cX4_init 1 = .ok (.invokespecial 3, 3) := by decide +kernel
theorem dX4_init_4 : decode cX4_init 4 = .ok (.aload_n 0, 1) := by decide +kernel
theorem dX4_init_5 : decode cX4_init 5 = .ok (.sipush 200, 3) := by decide +kernel
theorem dX4_init_8 : decode cX4_init 8 = .ok (.newarray .int, 2) := by decide +kernel
theorem dX4_init_10 : decode cX4_init 10 = .ok (.putfield 9, 3) := by decide +kernel
theorem dX4_init_13 : decode cX4_init 13 = .ok (.aload_n 0, 1) := by decide +kernel
theorem dX4_init_14 : decode cX4_init 14 = .ok (.iconst 0, 1) := by decide +kernel
theorem dX4_init_15 : decode cX4_init 15 = .ok (.putfield 15, 3) := by decide +kernel
theorem dX4_init_18 : decode cX4_init 18 = .ok (.aload_n 0, 1) := by decide +kernel
theorem dX4_init_19 : decode cX4_init 19 = .ok (.iconst 0, 1) := by decide +kernel
theorem dX4_init_20 : decode cX4_init 20 = .ok (.putfield 19, 3) := by decide +kernel
theorem dX4_init_23 : decode cX4_init 23 = .ok (.return_, 1) := by decide +kernel
theorem dX4_add_0 : decode cX4_add 0 = .ok (.aload_n 0, 1) := by decide +kernel
theorem dX4_add_1 : decode cX4_add 1 = .ok (.getfield 15, 3) := by decide +kernel
theorem dX4_add_4 : decode cX4_add 4 = .ok (.aload_n 0, 1) := by decide +kernel
theorem dX4_add_5 : decode cX4_add 5 = .ok (.getfield 19, 3) := by decide +kernel
theorem dX4_add_8 : decode cX4_add 8 = .ok (.iadd, 1) := by decide +kernel
theorem dX4_add_9 : decode cX4_add 9 = .ok (.istore_n 2, 1) := by decide +kernel
theorem dX4_add_10 : decode cX4_add 10 = .ok (.iload_n 2, 1) := by decide +kernel
theorem dX4_add_11 : decode cX4_add 11 = .ok (.aload_n 0, 1) := by decide +kernel
theorem dX4_add_12 : decode cX4_add 12 = .ok (.getfield 9, 3) := by decide +kernel
theorem dX4_add_15 : decode cX4_add 15 = .ok (.arraylength, 1) := by decide +kernel
theorem dX4_add_16 : decode cX4_add 16 = .ok (.if_icmp .lt 11, 3) := by decide +kernel
theorem dX4_add_19 : decode cX4_add 19 = .ok (.iload_n 2, 1) := by decide +kernel
theorem dX4_add_20 : decode cX4_add 20 = .ok (.aload_n 0, 1) := by decide +kernel
theorem dX4_add_21 : decode cX4_add 21 = .ok (.getfield 9, 3) := by decide +kernel
theorem dX4_add_24 : decode cX4_add 24 = .ok (.arraylength, 1) := by decide +kernel
theorem dX4_add_25 : decode cX4_add 25 = .ok (.isub, 1) := by decide +kernel
theorem dX4_add_26 : decode cX4_add 26 = .ok (.istore_n 2, 1) := by decide +kernel
theorem dX4_add_27 : decode cX4_add 27 = .ok (.aload_n 0, 1) := by decide +kernel
theorem dX4_add_28 : decode cX4_add 28 = .ok (.getfield 19, 3) := by decide +kernel
theorem dX4_add_31 : decode cX4_add 31 = .ok (.aload_n 0, 1) := by decide +kernel
theorem dX4_add_32 : decode cX4_add 32 = .ok (.getfield 9, 3) := by decide +kernel
theorem dX4_add_35 : decode cX4_add 35 = .ok (.arraylength, 1) := by decide +kernel
theorem dX4_add_36 : decode cX4_add 36 = .ok (.if_icmp .ge 33, 3) := by decide +kernel
theorem dX4_add_39 : decode cX4_add 39 = .ok (.iload_n 2, 1) := by decide +kernel
theorem dX4_add_40 : decode cX4_add 40 = .ok (.ifCond .lt 29, 3) := by decide +kernel
theorem dX4_add_43 : decode cX4_add 43 = .ok (.iload_n 2, 1) := by decide +kernel
theorem dX4_add_44 : decode cX4_add 44 = .ok (.aload_n 0, 1) := by decide +kernel
theorem dX4_add_45 : decode cX4_add 45 = .ok (.getfield 9, 3) := by decide +kernel
theorem dX4_add_48 : decode cX4_add 48 = .ok (.arraylength, 1) := by decide +kernel
theorem dX4_add_49 : decode cX4_add 49 = .ok (.if_icmp .ge 20, 3) := by decide +kernel
theorem dX4_add_52 : decode cX4_add 52 = .ok (.aload_n 0, 1) := by decide +kernel
theorem dX4_add_53 : decode cX4_add 53 = .ok (.getfield 9, 3) := by decide +kernel
theorem dX4_add_56 : decode cX4_add 56 = .ok (.iload_n 2, 1) := by decide +kernel
theorem dX4_add_57 : decode cX4_add 57 = .ok (.iload_n 1, 1) := by decide +kernel
theorem dX4_add_58 : decode cX4_add 58 = .ok (.iastore, 1) := by decide +kernel
theorem dX4_add_59 : decode cX4_add 59 = .ok (.aload_n 0, 1) := by decide +kernel
theorem dX4_add_60 : decode cX4_add 60 = .ok (.dup, 1) := by decide +kernel
theorem dX4_add_61 : decode cX4_add 61 = .ok (.getfield 19, 3) := by decide +kernel
theorem dX4_add_64 : decode cX4_add 64 = .ok (.iconst 1, 1) := by decide +kernel
theorem dX4_add_65 : decode cX4_add 65 = .ok (.iadd, 1) := by decide +kernel
theorem dX4_add_66 : decode cX4_add 66 = .ok (.putfield 19, 3) := by decide +kernel
theorem dX4_add_69 : decode cX4_add 69 = .ok (.return_, 1) := by decide +kernel
theorem dX4_next_0 : decode cX4_next 0 = .ok (.aload_n 0, 1) := by decide +kernel
theorem dX4_next_1 : decode cX4_next 1 = .ok (.getfield 19, 3) := by decide +kernel
theorem dX4_next_4 : decode cX4_next 4 = .ok (.ifCond .le 22, 3) := by decide +kernel
theorem dX4_next_7 : decode cX4_next 7 = .ok (.aload_n 0, 1) := by decide +kernel
theorem dX4_next_8 : decode cX4_next 8 = .ok (.getfield 15, 3) := by decide +kernel
theorem dX4_next_11 : decode cX4_next 11 = .ok (.ifCond .lt 15, 3) := by decide +kernel
theorem dX4_next_14 : decode cX4_next 14 = .ok (.aload_n 0, 1) := by decide +kernel
theorem dX4_next_15 : decode cX4_next 15 = .ok (.getfield 15, 3) := by decide +kernel
theorem dX4_next_18 : decode cX4_next 18 = .ok (.aload_n 0, 1) := by decide +kernel
theorem dX4_next_19 : decode cX4_next 19 = .ok (.getfield 9, 3) := by decide +kernel
theorem dX4_next_22 : decode cX4_next 22 = .ok (.arraylength, 1) := by decide +kernel
theorem dX4_next_23 : decode cX4_next 23 = .ok (.if_icmp .lt 5, 3) := by decide +kernel
theorem dX4_next_26 : decode cX4_next 26 = .ok (.iconst 0, 1) := by decide +kernel
theorem dX4_next_27 : decode cX4_next 27 = .ok (.ireturn, 1) := by decide +kernel
theorem dX4_next_28 : decode cX4_next 28 = .ok (.aload_n 0, 1) := by decide +kernel
theorem dX4_next_29 : decode cX4_next 29 = .ok (.getfield 9, 3) := by decide +kernel
theorem dX4_next_32 : decode cX4_next 32 = .ok (.aload_n 0, 1) := by decide +kernel
theorem dX4_next_33 : decode cX4_next 33 = .ok (.getfield 15, 3) := by decide +kernel
theorem dX4_next_36 : decode cX4_next 36 = .ok (.iaload, 1) := by decide +kernel
theorem dX4_next_37 : decode cX4_next 37 = .ok (.istore_n 1, 1) := by decide +kernel
theorem dX4_next_38 : decode cX4_next 38 = .ok (.aload_n 0, 1) := by decide +kernel
theorem dX4_next_39 : decode cX4_next 39 = .ok (.aload_n 0, 1) := by decide +kernel
theorem dX4_next_40 : decode cX4_next 40 = .ok (.getfield 15, 3) := by decide +kernel
theorem dX4_next_43 : decode cX4_next 43 = .ok (.iconst 1, 1) := by decide +kernel
theorem dX4_next_44 : decode cX4_next 44 = .ok (.iadd, 1) := by decide +kernel
theorem dX4_next_45 : decode cX4_next 45 = .ok (.aload_n 0, 1) := by decide +kernel
theorem dX4_next_46 : decode cX4_next 46 = .ok (.getfield 9, 3) := by decide +kernel
theorem dX4_next_49 : decode cX4_next 49 = .ok (.arraylength, 1) := by decide +kernel
theorem dX4_next_50 : decode cX4_next 50 = .ok (.if_icmp .ge 12, 3) := by decide +kernel
theorem dX4_next_53 : decode cX4_next 53 = .ok (.aload_n 0, 1) := by decide +kernel
theorem dX4_next_54 : decode cX4_next 54 = .ok (.getfield 15, 3) := by decide +kernel
theorem dX4_next_57 : decode cX4_next 57 = .ok (.iconst 1, 1) := by decide +kernel
theorem dX4_next_58 : decode cX4_next 58 = .ok (.iadd, 1) := by decide +kernel
theorem dX4_next_59 : decode cX4_next 59 = .ok (.goto 4, 3) := by decide +kernel
theorem dX4_next_62 : decode cX4_next 62 = .ok (.iconst 0, 1) := by decide +kernel
theorem dX4_next_63 : decode cX4_next 63 = .ok (.putfield 15, 3) := by decide +kernel
theorem dX4_next_66 : decode cX4_next 66 = .ok (.aload_n 0, 1) := by decide +kernel
theorem dX4_next_67 : decode cX4_next 67 = .ok (.dup, 1) := by decide +kernel
theorem dX4_next_68 : decode cX4_next 68 = .ok (.getfield 19, 3) := by decide +kernel
theorem dX4_next_71 : decode cX4_next 71 = .ok (.iconst 1, 1) := by decide +kernel
theorem dX4_next_72 : decode cX4_next 72 = .ok (.isub, 1) := by decide +kernel
theorem dX4_next_73 : decode cX4_next 73 = .ok (.putfield 19, 3) := by decide +kernel
theorem dX4_next_76 : decode cX4_next 76 = .ok (.iload_n 1, 1) := by decide +kernel
theorem dX4_next_77 : decode cX4_next 77 = .ok (.ireturn, 1) := by decide +kernel
set_option maxRecDepth 20000 in
theorem ggX5_init_X3_init : GoodIn wsX5_init wsX3_init := goodIn_r _ [19, 20, 2, 3, 21, 22, 71] (by decide +kernel) (by decide +kernel)
set_option maxRecDepth 20000 in
theorem gX5_init_X3_init_n17 : GoodIn wsX5_init (wsX3_init) := ggX5_init_X3_init
set_option maxRecDepth 20000 in
theorem ggX5_init_X4_init : GoodIn wsX5_init wsX4_init := goodIn_r _ [24, 25, 2, 3, 21, 26, 27, 28, 72, 73, 74] (by decide +kernel) (by decide +kernel)
set_option maxRecDepth 20000 in
theorem gX5_init_X4_init_n24 : GoodIn wsX5_init (wsX4_init) := ggX5_init_X4_init
set_option maxRecDepth 20000 in
theorem ggX5_init_X2_init : GoodIn wsX5_init wsX2_init := goodIn_r _ [30, 31, 2, 3, 32, 33, 34, 35, 36, 37, 38, 39, 40, 41, 42, 43, 44, 45, 46, 47, 48, 49, 50, 51, 52, 21, 53, 54, 55, 56, 57, 58, 59, 60, 61, 62, 63, 64, 65, 87, 88, 89, 75, 76, 77, 78, 79, 80, 81, 82, 83, 84, 85, 86, 90, 91, 92, 93, 94, 95, 96] (by decide +kernel) (by decide +kernel)
set_option maxRecDepth 20000 in
theorem gX5_init_X2_init_n36 : GoodIn wsX5_init (wsX2_init) := ggX5_init_X2_init
theorem dX5_init_0 : decode cX5_init 0 = .ok (.aload_n 0, 1) := by decide +kernel
theorem dX5_init_1 : decode cX5_init 1 = .ok (.invokespecial 1, 3) := by decide +kernel
theorem dX5_init_4 : decode cX5_init 4 = .ok (.aload_n 0, 1) := by decide +kernel
theorem dX5_init_5 : decode cX5_init 5 = .ok (.bipush 6, 2) := by decide +kernel
theorem dX5_init_7 : decode cX5_init 7 = .ok (.anewarray 9, 3) := by decide +kernel
theorem dX5_init_10 : decode cX5_init 10 = .ok (.putfield 11, 3) := by decide +kernel
theorem dX5_init_13 : decode cX5_init 13 = .ok (.aload_n 0, 1) := by decide +kernel
theorem dX5_init_14 : decode cX5_init 14 = .ok (.new 15, 3) := by decide +kernel
theorem dX5_init_17 : decode cX5_init 17 = .ok (.dup, 1) := by decide +kernel
theorem dX5_init_18 : decode cX5_init 18 = .ok (.invokespecial 17, 3) := by decide +kernel
theorem dX5_init_21 : decode cX5_init 21 = .ok (.putfield 18, 3) := by decide +kernel
theorem dX5_init_24 : decode cX5_init 24 = .ok (.aload_n 0, 1) := by decide +kernel
theorem dX5_init_25 : decode cX5_init 25 = .ok (.new 22, 3) := by decide +kernel
theorem dX5_init_28 : decode cX5_init 28 = .ok (.dup, 1) := by decide +kernel
theorem dX5_init_29 : decode cX5_init 29 = .ok (.invokespecial 24, 3) := by decide +kernel
theorem dX5_init_32 : decode cX5_init 32 = .ok (.putfield 25, 3) := by decide +kernel
theorem dX5_init_35 : decode cX5_init 35 = .ok (.aload_n 0, 1) := by decide +kernel
theorem dX5_init_36 : decode cX5_init 36 = .ok (.iconst 5, 1) := by decide +kernel
theorem dX5_init_37 : decode cX5_init 37 = .ok (.putfield 29, 3) := by decide +kernel
theorem dX5_init_40 : decode cX5_init 40 = .ok (.aload_n 0, 1) := by decide +kernel
theorem dX5_init_41 : decode cX5_init 41 = .ok (.iconst 0, 1) := by decide +kernel
theorem dX5_init_42 : decode cX5_init 42 = .ok (.putfield 33, 3) := by decide +kernel
theorem dX5_init_45 : decode cX5_init 45 = .ok (.iconst 0, 1) := by decide +kernel
theorem dX5_init_46 : decode cX5_init 46 = .ok (.istore_n 1, 1) := by decide +kernel
theorem dX5_init_47 : decode cX5_init 47 = .ok (.iload_n 1, 1) := by decide +kernel
theorem dX5_init_48 : decode cX5_init 48 = .ok (.aload_n 0, 1) := by decide +kernel
theorem dX5_init_49 : decode cX5_init 49 = .ok (.getfield 11, 3) := by decide +kernel
theorem dX5_init_52 : decode cX5_init 52 = .ok (.arraylength, 1) := by decide +kernel
theorem dX5_init_53 : decode cX5_init 53 = .ok (.if_icmp .ge 22, 3) := by decide +kernel
theorem dX5_init_56 : decode cX5_init 56 = .ok (.aload_n 0, 1) := by decide +kernel
theorem dX5_init_57 : decode cX5_init 57 = .ok (.getfield 11, 3) := by decide +kernel
theorem dX5_init_60 : decode cX5_init 60 = .ok (.iload_n 1, 1) := by decide +kernel
theorem dX5_init_61 : decode cX5_init 61 = .ok (.new 9, 3) := by decide +kernel
theorem dX5_init_64 : decode cX5_init 64 = .ok (.dup, 1) := by decide +kernel
theorem dX5_init_65 : decode cX5_init 65 = .ok (.invokespecial 36, 3) := by decide +kernel
theorem dX5_init_68 : decode cX5_init 68 = .ok (.aastore, 1) := by decide +kernel
theorem dX5_init_69 : decode cX5_init 69 = .ok (.iinc 1 1, 3) := by decide +kernel
theorem dX5_init_72 : decode cX5_init 72 = .ok (.goto (-25), 3) := by decide +kernel
theorem dX5_init_75 : decode cX5_init 75 = .ok (.return_, 1) := by decide +kernel
set_option maxRecDepth 20000 in
theorem ggX5_setStrength_X5_stationAt : GoodIn wsX5_setStrength wsX5_stationAt := goodIn_ca (goodIn_r _ [8, 9, 10, 11, 27, 28, 29, 30, 31] (by decide +kernel) (by decide +kernel)) (goodIn_sub (fun _ h => List.mem_cons_of_mem _ (List.mem_append_right _ h)) (by decide +kernel))
set_option maxRecDepth 20000 in
theorem gX5_setStrength_X5_stationAt : GoodIn wsX5_setStrength (wsV RX5 37 RX5 yX5_stationAt wsX5_stationAt) := goodIn_app (goodIn_of _ (by decide +kernel)) ggX5_setStrength_X5_stationAt
set_option maxRecDepth 20000 in
theorem ggX5_setStrength_X3_between : GoodIn wsX5_setStrength wsX3_between := goodIn_r _ [16, 17, 18, 19, 15, 20, 21, 7, 22, 32] (by decide +kernel) (by decide +kernel)
set_option maxRecDepth 20000 in
theorem gX5_setStrength_X3_between : GoodIn wsX5_setStrength (wsV RX5 50 RX3 yX3_between wsX3_between) := goodIn_app (goodIn_of _ (by decide +kernel)) ggX5_setStrength_X3_between
set_option maxRecDepth 20000 in
theorem ggX5_setStrength_X3_put : GoodIn wsX5_setStrength wsX3_put := goodIn_r _ [26, 17, 18, 19, 15, 20, 21, 7, 22, 32] (by decide +kernel) (by decide +kernel)
set_option maxRecDepth 20000 in
theorem gX5_setStrength_X3_put : GoodIn wsX5_setStrength (wsV RX5 54 RX3 yX3_put wsX3_put) := goodIn_app (goodIn_of _ (by decide +kernel)) ggX5_setStrength_X3_put
theorem dX5_setStrength_0 : decode cX5_setStrength 0 = .ok (.aload_n 0, 1) := by decide +kernel
theorem dX5_setStrength_1 : decode cX5_setStrength 1 = .ok (.iload_n 1, 1) := by decide +kernel
theorem dX5_setStrength_2 : decode cX5_setStrength 2 = .ok (.invokevirtual 37, 3) := by decide +kernel
theorem dX5_setStrength_5 : decode cX5_setStrength 5 = .ok (.pop, 1) := by decide +kernel
theorem dX5_setStrength_6 : decode cX5_setStrength 6 = .ok (.aload_n 0, 1) := by decide +kernel
theorem dX5_setStrength_7 : decode cX5_setStrength 7 = .ok (.iload_n 2, 1) := by decide +kernel
theorem dX5_setStrength_8 : decode cX5_setStrength 8 = .ok (.invokevirtual 37, 3) := by decide +kernel
theorem dX5_setStrength_11 : decode cX5_setStrength 11 = .ok (.pop, 1) := by decide +kernel
theorem dX5_setStrength_12 : decode cX5_setStrength 12 = .ok (.iload_n 3, 1) := by decide +kernel
theorem dX5_setStrength_13 : decode cX5_setStrength 13 = .ok (.ifCond .lt 9, 3) := by decide +kernel
theorem dX5_setStrength_16 : decode cX5_setStrength 16 = .ok (.iload_n 3, 1) := by decide +kernel
theorem dX5_setStrength_17 : decode cX5_setStrength 17 = .ok (.bipush 9, 2) := by decide +kernel
theorem dX5_setStrength_19 : decode cX5_setStrength 19 = .ok (.if_icmp .le 13, 3) := by decide +kernel
theorem dX5_setStrength_22 : decode cX5_setStrength 22 = .ok (.new 41, 3) := by decide +kernel
theorem dX5_setStrength_25 : decode cX5_setStrength 25 = .ok (.dup, 1) := by decide +kernel
theorem dX5_setStrength_26 : decode cX5_setStrength 26 = .ok (.ldc 43, 2) := by decide +kernel
theorem dX5_setStrength_28 : decode cX5_setStrength 28 = .ok (.invokespecial 45, 3) := by decide +kernel
theorem dX5_setStrength_31 : decode cX5_setStrength 31 = .ok (.athrow, 1) := by decide +kernel
theorem dX5_setStrength_32 : decode cX5_setStrength 32 = .ok (.iload_n 1, 1) := by decide +kernel
theorem dX5_setStrength_33 : decode cX5_setStrength 33 = .ok (.iload_n 2, 1) := by decide +kernel
theorem dX5_setStrength_34 : decode cX5_setStrength 34 = .ok (.if_icmp .ne 13, 3) := by decide +kernel
theorem dX5_setStrength_37 : decode cX5_setStrength 37 = .ok (.new 41, 3) := by decide +kernel
theorem dX5_setStrength_40 : decode cX5_setStrength 40 = .ok (.dup, 1) := by decide +kernel
theorem dX5_setStrength_41 : decode cX5_setStrength 41 = .ok (.ldc 48, 2) := by decide +kernel
theorem dX5_setStrength_43 : decode cX5_setStrength 43 = .ok (.invokespecial 45, 3) := by decide +kernel
theorem dX5_setStrength_46 : decode cX5_setStrength 46 = .ok (.athrow, 1) := by decide +kernel
theorem dX5_setStrength_47 : decode cX5_setStrength 47 = .ok (.aload_n 0, 1) := by decide +kernel
theorem dX5_setStrength_48 : decode cX5_setStrength 48 = .ok (.getfield 18, 3) := by decide +kernel
theorem dX5_setStrength_51 : decode cX5_setStrength 51 = .ok (.iload_n 1, 1) := by decide +kernel
theorem dX5_setStrength_52 : decode cX5_setStrength 52 = .ok (.iload_n 2, 1) := by decide +kernel
theorem dX5_setStrength_53 : decode cX5_setStrength 53 = .ok (.invokevirtual 50, 3) := by decide +kernel
theorem dX5_setStrength_56 : decode cX5_setStrength 56 = .ok (.istore 4, 2) := by decide +kernel
theorem dX5_setStrength_58 : decode cX5_setStrength 58 = .ok (.aload_n 0, 1) := by decide +kernel
theorem dX5_setStrength_59 : decode cX5_setStrength 59 = .ok (.getfield 18, 3) := by decide +kernel
theorem dX5_setStrength_62 : decode cX5_setStrength 62 = .ok (.iload_n 1, 1) := by decide +kernel
theorem dX5_setStrength_63 : decode cX5_setStrength 63 = .ok (.iload_n 2, 1) := by decide +kernel
theorem dX5_setStrength_64 : decode cX5_setStrength 64 = .ok (.iload_n 3, 1) := by decide +kernel
theorem dX5_setStrength_65 : decode cX5_setStrength 65 = .ok (.invokevirtual 54, 3) := by decide +kernel
theorem dX5_setStrength_68 : decode cX5_setStrength 68 = .ok (.iload 4, 2) := by decide +kernel
theorem dX5_setStrength_70 : decode cX5_setStrength 70 = .ok (.ireturn, 1) := by decide +kernel
set_option maxRecDepth 20000 in
theorem ggX5_setClass_X5_stationAt : GoodIn wsX5_setClass wsX5_stationAt := goodIn_ca (goodIn_r _ [7, 8, 9, 10, 26, 27, 28, 29, 30] (by decide +kernel) (by decide +kernel)) (goodIn_sub (fun _ h => List.mem_cons_of_mem _ (List.mem_append_right _ h)) (by decide +kernel))
set_option maxRecDepth 20000 in
theorem gX5_setClass_X5_stationAt : GoodIn wsX5_setClass (wsV RX5 37 RX5 yX5_stationAt wsX5_stationAt) := goodIn_app (goodIn_of _ (by decide +kernel)) ggX5_setClass_X5_stationAt
set_option maxRecDepth 20000 in
theorem ggX5_setClass_X5_leastWindow : GoodIn wsX5_setClass wsX5_leastWindow := goodIn_r _ [13] (by decide +kernel) (by decide +kernel)
set_option maxRecDepth 20000 in
theorem gX5_setClass_X5_leastWindow : GoodIn wsX5_setClass (va_wsS RX5 63 yX5_leastWindow wsX5_leastWindow) := goodIn_app (goodIn_of _ (by decide +kernel)) ggX5_setClass_X5_leastWindow
theorem dX5_setClass_0 : decode cX5_setClass 0 = .ok (.aload_n 0, 1) := by decide +kernel
theorem dX5_setClass_1 : decode cX5_setClass 1 = .ok (.iload_n 1, 1) := by decide +kernel
theorem dX5_setClass_2 : decode cX5_setClass 2 = .ok (.invokevirtual 37, 3) := by decide +kernel
theorem dX5_setClass_5 : decode cX5_setClass 5 = .ok (.astore_n 3, 1) := by decide +kernel
theorem dX5_setClass_6 : decode cX5_setClass 6 = .ok (.iload_n 2, 1) := by decide +kernel
theorem dX5_setClass_7 : decode cX5_setClass 7 = .ok (.ifCond .lt 8, 3) := by decide +kernel
theorem dX5_setClass_10 : decode cX5_setClass 10 = .ok (.iload_n 2, 1) := by decide +kernel
theorem dX5_setClass_11 : decode cX5_setClass 11 = .ok (.iconst 1, 1) := by decide +kernel
theorem dX5_setClass_12 : decode cX5_setClass 12 = .ok (.if_icmp .le 13, 3) := by decide +kernel
theorem dX5_setClass_15 : decode cX5_setClass 15 = .ok (.new 41, 3) := by decide +kernel
theorem dX5_setClass_18 : decode cX5_setClass 18 = .ok (.dup, 1) := by decide +kernel
theorem dX5_setClass_19 : decode cX5_setClass 19 = .ok (.ldc 58, 2) := by decide +kernel
theorem dX5_setClass_21 : decode cX5_setClass 21 = .ok (.invokespecial 45, 3) := by decide +kernel
theorem dX5_setClass_24 : decode cX5_setClass 24 = .ok (.athrow, 1) := by decide +kernel
theorem dX5_setClass_25 : decode cX5_setClass 25 = .ok (.aload_n 3, 1) := by decide +kernel
theorem dX5_setClass_26 : decode cX5_setClass 26 = .ok (.getfield 60, 3) := by decide +kernel
theorem dX5_setClass_29 : decode cX5_setClass 29 = .ok (.istore 4, 2) := by decide +kernel
theorem dX5_setClass_31 : decode cX5_setClass 31 = .ok (.aload_n 3, 1) := by decide +kernel
theorem dX5_setClass_32 : decode cX5_setClass 32 = .ok (.iload_n 2, 1) := by decide +kernel
theorem dX5_setClass_33 : decode cX5_setClass 33 = .ok (.putfield 60, 3) := by decide +kernel
theorem dX5_setClass_36 : decode cX5_setClass 36 = .ok (.aload_n 3, 1) := by decide +kernel
theorem dX5_setClass_37 : decode cX5_setClass 37 = .ok (.iload_n 2, 1) := by decide +kernel
theorem dX5_setClass_38 : decode cX5_setClass 38 = .ok (.invokestatic 63, 3) := by decide +kernel
theorem dX5_setClass_41 : decode cX5_setClass 41 = .ok (.putfield 67, 3) := by decide +kernel
theorem dX5_setClass_44 : decode cX5_setClass 44 = .ok (.iload 4, 2) := by decide +kernel
theorem dX5_setClass_46 : decode cX5_setClass 46 = .ok (.ireturn, 1) := by decide +kernel
theorem dX5_setReserve_0 : decode cX5_setReserve 0 = .ok (.iload_n 1, 1) := by decide +kernel
theorem dX5_setReserve_1 : decode cX5_setReserve 1 = .ok (.iconst 1, 1) := by decide +kernel
theorem dX5_setReserve_2 : decode cX5_setReserve 2 = .ok (.if_icmp .lt 8, 3) := by decide +kernel
theorem dX5_setReserve_5 : decode cX5_setReserve 5 = .ok (.iload_n 1, 1) := by decide +kernel
theorem dX5_setReserve_6 : decode cX5_setReserve 6 = .ok (.iconst 5, 1) := by decide +kernel
theorem dX5_setReserve_7 : decode cX5_setReserve 7 = .ok (.if_icmp .le 13, 3) := by decide +kernel
theorem dX5_setReserve_10 : decode cX5_setReserve 10 = .ok (.new 41, 3) := by decide +kernel
theorem dX5_setReserve_13 : decode cX5_setReserve 13 = .ok (.dup, 1) := by decide +kernel
theorem dX5_setReserve_14 : decode cX5_setReserve 14 = .ok (.ldc 70, 2) := by decide +kernel
theorem dX5_setReserve_16 : decode cX5_setReserve 16 = .ok (.invokespecial 45, 3) := by decide +kernel
theorem dX5_setReserve_19 : decode cX5_setReserve 19 = .ok (.athrow, 1) := by decide +kernel
theorem dX5_setReserve_20 : decode cX5_setReserve 20 = .ok (.aload_n 0, 1) := by decide +kernel
theorem dX5_setReserve_21 : decode cX5_setReserve 21 = .ok (.getfield 29, 3) := by decide +kernel
theorem dX5_setReserve_24 : decode cX5_setReserve 24 = .ok (.istore_n 2, 1) := by decide +kernel
theorem dX5_setReserve_25 : decode cX5_setReserve 25 = .ok (.aload_n 0, 1) := by decide +kernel
theorem dX5_setReserve_26 : decode cX5_setReserve 26 = .ok (.iload_n 1, 1) := by decide +kernel
theorem dX5_setReserve_27 : decode cX5_setReserve 27 = .ok (.putfield 29, 3) := by decide +kernel
theorem dX5_setReserve_30 : decode cX5_setReserve 30 = .ok (.iload_n 2, 1) := by decide +kernel
theorem dX5_setReserve_31 : decode cX5_setReserve 31 = .ok (.ireturn, 1) := by decide +kernel
set_option maxRecDepth 20000 in
theorem ggX5_tell_X4_add : GoodIn wsX5_tell wsX4_add := goodIn_r _ [10, 11, 12, 13, 19, 20, 21] (by decide +kernel) (by decide +kernel)
set_option maxRecDepth 20000 in
theorem gX5_tell_X4_add : GoodIn wsX5_tell (wsV RX5 82 RX4 yX4_add wsX4_add) := goodIn_app (goodIn_of _ (by decide +kernel)) ggX5_tell_X4_add
theorem dX5_tell_0 : decode cX5_tell 0 = .ok (.iload_n 1, 1) := by decide +kernel
theorem dX5_tell_1 : decode cX5_tell 1 = .ok (.ifCond .lt 10, 3) := by decide +kernel
theorem dX5_tell_4 : decode cX5_tell 4 = .ok (.iload_n 1, 1) := by decide +kernel
theorem dX5_tell_5 : decode cX5_tell 5 = .ok (.sipush 1000, 3) := by decide +kernel
theorem dX5_tell_8 : decode cX5_tell 8 = .ok (.if_icmp .le 13, 3) := by decide +kernel
theorem dX5_tell_11 : decode cX5_tell 11 = .ok (.new 41, 3) := by decide +kernel
theorem dX5_tell_14 : decode cX5_tell 14 = .ok (.dup, 1) := by decide +kernel
theorem dX5_tell_15 : decode cX5_tell 15 = .ok (.ldc 72, 2) := by decide +kernel
theorem dX5_tell_17 : decode cX5_tell 17 = .ok (.invokespecial 45, 3) := by decide +kernel
theorem dX5_tell_20 : decode cX5_tell 20 = .ok (.athrow, 1) := by decide +kernel
theorem dX5_tell_21 : decode cX5_tell 21 = .ok (.aload_n 0, 1) := by decide +kernel
theorem dX5_tell_22 : decode cX5_tell 22 = .ok (.getfield 25, 3) := by decide +kernel
theorem dX5_tell_25 : decode cX5_tell 25 = .ok (.getfield 74, 3) := by decide +kernel
theorem dX5_tell_28 : decode cX5_tell 28 = .ok (.sipush 200, 3) := by decide +kernel
theorem dX5_tell_31 : decode cX5_tell 31 = .ok (.if_icmp .lt 13, 3) := by decide +kernel
theorem dX5_tell_34 : decode cX5_tell 34 = .ok (.new 77, 3) := by decide +kernel
theorem dX5_tell_37 : decode cX5_tell 37 = .ok (.dup, 1) := by decide +kernel
theorem dX5_tell_38 : decode cX5_tell 38 = .ok (.ldc 79, 2) := by decide +kernel
theorem dX5_tell_40 : decode cX5_tell 40 = .ok (.invokespecial 81, 3) := by decide +kernel
theorem dX5_tell_43 : decode cX5_tell 43 = .ok (.athrow, 1) := by decide +kernel
theorem dX5_tell_44 : decode cX5_tell 44 = .ok (.aload_n 0, 1) := by decide +kernel
theorem dX5_tell_45 : decode cX5_tell 45 = .ok (.getfield 25, 3) := by decide +kernel
theorem dX5_tell_48 : decode cX5_tell 48 = .ok (.iload_n 1, 1) := by decide +kernel
theorem dX5_tell_49 : decode cX5_tell 49 = .ok (.invokevirtual 82, 3) := by decide +kernel
theorem dX5_tell_52 : decode cX5_tell 52 = .ok (.aload_n 0, 1) := by decide +kernel
theorem dX5_tell_53 : decode cX5_tell 53 = .ok (.getfield 25, 3) := by decide +kernel
theorem dX5_tell_56 : decode cX5_tell 56 = .ok (.getfield 74, 3) := by decide +kernel
theorem dX5_tell_59 : decode cX5_tell 59 = .ok (.ireturn, 1) := by decide +kernel
set_option maxRecDepth 20000 in
theorem ggX5_frame_X5_stationAt : GoodIn wsX5_frame wsX5_stationAt := goodIn_ca (goodIn_r _ [9, 10, 11, 12, 36, 37, 38, 39, 40] (by decide +kernel) (by decide +kernel)) (goodIn_sub (fun _ h => List.mem_cons_of_mem _ (List.mem_append_right _ h)) (by decide +kernel))
set_option maxRecDepth 20000 in
theorem gX5_frame_X5_stationAt : GoodIn wsX5_frame (wsV RX5 37 RX5 yX5_stationAt wsX5_stationAt) := goodIn_app (goodIn_of _ (by decide +kernel)) ggX5_frame_X5_stationAt
set_option maxRecDepth 20000 in
theorem ggX5_frame_X0_add : GoodIn wsX5_frame wsX0_add := goodIn_r _ [17, 18, 19, 20, 33, 34, 35] (by decide +kernel) (by decide +kernel)
set_option maxRecDepth 20000 in
theorem gX5_frame_X0_add : GoodIn wsX5_frame (wsV RX5 99 RX0 yX0_add wsX0_add) := goodIn_app (goodIn_of _ (by decide +kernel)) ggX5_frame_X0_add
theorem dX5_frame_0 : decode cX5_frame 0 = .ok (.aload_n 0, 1) := by decide +kernel
theorem dX5_frame_1 : decode cX5_frame 1 = .ok (.iload_n 1, 1) := by decide +kernel
theorem dX5_frame_2 : decode cX5_frame 2 = .ok (.invokevirtual 37, 3) := by decide +kernel
theorem dX5_frame_5 : decode cX5_frame 5 = .ok (.getfield 86, 3) := by decide +kernel
theorem dX5_frame_8 : decode cX5_frame 8 = .ok (.astore 4, 2) := by decide +kernel
theorem dX5_frame_10 : decode cX5_frame 10 = .ok (.aload_n 0, 1) := by decide +kernel
theorem dX5_frame_11 : decode cX5_frame 11 = .ok (.iload_n 2, 1) := by decide +kernel
theorem dX5_frame_12 : decode cX5_frame 12 = .ok (.invokevirtual 37, 3) := by decide +kernel
theorem dX5_frame_15 : decode cX5_frame 15 = .ok (.pop, 1) := by decide +kernel
theorem dX5_frame_16 : decode cX5_frame 16 = .ok (.iload_n 3, 1) := by decide +kernel
theorem dX5_frame_17 : decode cX5_frame 17 = .ok (.iconst 1, 1) := by decide +kernel
theorem dX5_frame_18 : decode cX5_frame 18 = .ok (.if_icmp .lt 8, 3) := by decide +kernel
theorem dX5_frame_21 : decode cX5_frame 21 = .ok (.iload_n 3, 1) := by decide +kernel
theorem dX5_frame_22 : decode cX5_frame 22 = .ok (.iconst 4, 1) := by decide +kernel
theorem dX5_frame_23 : decode cX5_frame 23 = .ok (.if_icmp .le 13, 3) := by decide +kernel
theorem dX5_frame_26 : decode cX5_frame 26 = .ok (.new 41, 3) := by decide +kernel
theorem dX5_frame_29 : decode cX5_frame 29 = .ok (.dup, 1) := by decide +kernel
theorem dX5_frame_30 : decode cX5_frame 30 = .ok (.ldc 70, 2) := by decide +kernel
theorem dX5_frame_32 : decode cX5_frame 32 = .ok (.invokespecial 45, 3) := by decide +kernel
theorem dX5_frame_35 : decode cX5_frame 35 = .ok (.athrow, 1) := by decide +kernel
theorem dX5_frame_36 : decode cX5_frame 36 = .ok (.iload_n 1, 1) := by decide +kernel
theorem dX5_frame_37 : decode cX5_frame 37 = .ok (.iload_n 2, 1) := by decide +kernel
theorem dX5_frame_38 : decode cX5_frame 38 = .ok (.if_icmp .ne 13, 3) := by decide +kernel
theorem dX5_frame_41 : decode cX5_frame 41 = .ok (.new 41, 3) := by decide +kernel
theorem dX5_frame_44 : decode cX5_frame 44 = .ok (.dup, 1) := by decide +kernel
theorem dX5_frame_45 : decode cX5_frame 45 = .ok (.ldc 90, 2) := by decide +kernel
theorem dX5_frame_47 : decode cX5_frame 47 = .ok (.invokespecial 45, 3) := by decide +kernel
theorem dX5_frame_50 : decode cX5_frame 50 = .ok (.athrow, 1) := by decide +kernel
theorem dX5_frame_51 : decode cX5_frame 51 = .ok (.aload 4, 2) := by decide +kernel
theorem dX5_frame_53 : decode cX5_frame 53 = .ok (.getfield 92, 3) := by decide +kernel
theorem dX5_frame_56 : decode cX5_frame 56 = .ok (.iconst 5, 1) := by decide +kernel
theorem dX5_frame_57 : decode cX5_frame 57 = .ok (.if_icmp .lt 13, 3) := by decide +kernel
theorem dX5_frame_60 : decode cX5_frame 60 = .ok (.new 77, 3) := by decide +kernel
theorem dX5_frame_63 : decode cX5_frame 63 = .ok (.dup, 1) := by decide +kernel
theorem dX5_frame_64 : decode cX5_frame 64 = .ok (.ldc 97, 2) := by decide +kernel
theorem dX5_frame_66 : decode cX5_frame 66 = .ok (.invokespecial 81, 3) := by decide +kernel
theorem dX5_frame_69 : decode cX5_frame 69 = .ok (.athrow, 1) := by decide +kernel
theorem dX5_frame_70 : decode cX5_frame 70 = .ok (.aload 4, 2) := by decide +kernel
theorem dX5_frame_72 : decode cX5_frame 72 = .ok (.iload_n 2, 1) := by decide +kernel
theorem dX5_frame_73 : decode cX5_frame 73 = .ok (.iload_n 3, 1) := by decide +kernel
theorem dX5_frame_74 : decode cX5_frame 74 = .ok (.invokevirtual 99, 3) := by decide +kernel
theorem dX5_frame_77 : decode cX5_frame 77 = .ok (.aload 4, 2) := by decide +kernel
theorem dX5_frame_79 : decode cX5_frame 79 = .ok (.getfield 92, 3) := by decide +kernel
theorem dX5_frame_82 : decode cX5_frame 82 = .ok (.ireturn, 1) := by decide +kernel
set_option maxRecDepth 20000 in
theorem ggX5_pass_X5_passOneSlot : GoodIn wsX5_pass wsX5_passOneSlot := goodIn_ca (goodIn_r _ [7, 8, 9, 10, 11, 6, 12, 13, 14, 15, 16, 17, 18, 19, 20, 21, 22, 23, 24, 25, 26, 27, 28, 29, 30, 31, 32, 33, 34, 35, 36, 37, 38, 39, 40, 41, 42, 43, 44, 45, 46, 47, 48, 49, 50, 51, 52, 53, 54, 55, 56, 57, 58, 59, 60, 61, 62, 63, 64, 65, 66, 67, 68, 69, 70, 71, 72, 73, 74, 75, 76, 77, 78, 79, 80, 81, 82, 83, 84, 85, 86, 87, 88, 89, 90, 91, 92, 93, 94, 95, 96, 97, 98, 99, 100, 101, 102, 103, 104, 105, 106, 107, 108, 109, 110, 111, 112, 113, 114, 115, 116, 117, 118, 119, 120, 121, 122, 123, 124, 125, 126, 127, 128, 129, 130, 131, 132, 133, 134, 135, 136, 137, 138, 139, 140, 141, 142, 143, 144, 145, 146, 147, 148, 149, 150, 151, 152, 153, 154, 155, 156, 157, 158, 159, 160, 161, 162, 163, 164, 165, 166, 167, 168, 169, 170, 171, 172, 173, 174, 175, 176, 177, 178, 179, 180, 181, 182, 183, 184, 185, 186, 187, 188, 189, 190, 191, 192, 193, 194, 195, 196, 197, 198, 199, 200] (by decide +kernel) (by decide +kernel)) (goodIn_sub (fun _ h => List.mem_cons_of_mem _ (List.mem_append_right _ h)) (by decide +kernel))
set_option maxRecDepth 20000 in
theorem gX5_pass_X5_passOneSlot : GoodIn wsX5_pass (wsV RX5 104 RX5 yX5_passOneSlot wsX5_passOneSlot) := goodIn_app (goodIn_of _ (by decide +kernel)) ggX5_pass_X5_passOneSlot
theorem dX5_pass_0 : decode cX5_pass 0 = .ok (.iload_n 1, 1) := by decide +kernel
theorem dX5_pass_1 : decode cX5_pass 1 = .ok (.iconst 1, 1) := by decide +kernel
theorem dX5_pass_2 : decode cX5_pass 2 = .ok (.if_icmp .lt 9, 3) := by decide +kernel
theorem dX5_pass_5 : decode cX5_pass 5 = .ok (.iload_n 1, 1) := by decide +kernel
theorem dX5_pass_6 : decode cX5_pass 6 = .ok (.bipush 50, 2) := by decide +kernel
theorem dX5_pass_8 : decode cX5_pass 8 = .ok (.if_icmp .le 13, 3) := by decide +kernel
theorem dX5_pass_11 : decode cX5_pass 11 = .ok (.new 41, 3) := by decide +kernel
theorem dX5_pass_14 : decode cX5_pass 14 = .ok (.dup, 1) := by decide +kernel
theorem dX5_pass_15 : decode cX5_pass 15 = .ok (.ldc 102, 2) := by decide +kernel
theorem dX5_pass_17 : decode cX5_pass 17 = .ok (.invokespecial 45, 3) := by decide +kernel
theorem dX5_pass_20 : decode cX5_pass 20 = .ok (.athrow, 1) := by decide +kernel
theorem dX5_pass_21 : decode cX5_pass 21 = .ok (.iconst 0, 1) := by decide +kernel
theorem dX5_pass_22 : decode cX5_pass 22 = .ok (.istore_n 2, 1) := by decide +kernel
theorem dX5_pass_23 : decode cX5_pass 23 = .ok (.iconst 0, 1) := by decide +kernel
theorem dX5_pass_24 : decode cX5_pass 24 = .ok (.istore_n 3, 1) := by decide +kernel
theorem dX5_pass_25 : decode cX5_pass 25 = .ok (.iload_n 3, 1) := by decide +kernel
theorem dX5_pass_26 : decode cX5_pass 26 = .ok (.iload_n 1, 1) := by decide +kernel
theorem dX5_pass_27 : decode cX5_pass 27 = .ok (.if_icmp .ge 16, 3) := by decide +kernel
theorem dX5_pass_30 : decode cX5_pass 30 = .ok (.iload_n 2, 1) := by decide +kernel
theorem dX5_pass_31 : decode cX5_pass 31 = .ok (.aload_n 0, 1) := by decide +kernel
theorem dX5_pass_32 : decode cX5_pass 32 = .ok (.invokevirtual 104, 3) := by decide +kernel
theorem dX5_pass_35 : decode cX5_pass 35 = .ok (.iadd, 1) := by decide +kernel
theorem dX5_pass_36 : decode cX5_pass 36 = .ok (.istore_n 2, 1) := by decide +kernel
theorem dX5_pass_37 : decode cX5_pass 37 = .ok (.iinc 3 1, 3) := by decide +kernel
theorem dX5_pass_40 : decode cX5_pass 40 = .ok (.goto (-15), 3) := by decide +kernel
theorem dX5_pass_43 : decode cX5_pass 43 = .ok (.iload_n 2, 1) := by decide +kernel
theorem dX5_pass_44 : decode cX5_pass 44 = .ok (.ireturn, 1) := by decide +kernel
theorem dX5_now_0 : decode cX5_now 0 = .ok (.aload_n 0, 1) := by decide +kernel
theorem dX5_now_1 : decode cX5_now 1 = .ok (.getfield 33, 3) := by decide +kernel
theorem dX5_now_4 : decode cX5_now 4 = .ok (.ireturn, 1) := by decide +kernel
set_option maxRecDepth 20000 in
theorem ggX5_sends_X5_stationAt : GoodIn wsX5_sends wsX5_stationAt := goodIn_ca (goodIn_r _ [5, 6, 7, 8, 28, 29, 30, 31, 32] (by decide +kernel) (by decide +kernel)) (goodIn_sub (fun _ h => List.mem_cons_of_mem _ (List.mem_append_right _ h)) (by decide +kernel))
set_option maxRecDepth 20000 in
theorem gX5_sends_X5_stationAt : GoodIn wsX5_sends (wsV RX5 37 RX5 yX5_stationAt wsX5_stationAt) := goodIn_app (goodIn_of _ (by decide +kernel)) ggX5_sends_X5_stationAt
theorem dX5_sends_0 : decode cX5_sends 0 = .ok (.aload_n 0, 1) := by decide +kernel
theorem dX5_sends_1 : decode cX5_sends 1 = .ok (.iload_n 1, 1) := by decide +kernel
theorem dX5_sends_2 : decode cX5_sends 2 = .ok (.invokevirtual 37, 3) := by decide +kernel
theorem dX5_sends_5 : decode cX5_sends 5 = .ok (.getfield 108, 3) := by decide +kernel
theorem dX5_sends_8 : decode cX5_sends 8 = .ok (.getfield 112, 3) := by decide +kernel
theorem dX5_sends_11 : decode cX5_sends 11 = .ok (.ireturn, 1) := by decide +kernel
set_option maxRecDepth 20000 in
theorem ggX5_waitOf_X5_stationAt : GoodIn wsX5_waitOf wsX5_stationAt := goodIn_ca (goodIn_r _ [5, 6, 7, 8, 21, 22, 23, 24, 25] (by decide +kernel) (by decide +kernel)) (goodIn_sub (fun _ h => List.mem_cons_of_mem _ (List.mem_append_right _ h)) (by decide +kernel))
set_option maxRecDepth 20000 in
theorem gX5_waitOf_X5_stationAt : GoodIn wsX5_waitOf (wsV RX5 37 RX5 yX5_stationAt wsX5_stationAt) := goodIn_app (goodIn_of _ (by decide +kernel)) ggX5_waitOf_X5_stationAt
theorem dX5_waitOf_0 : decode cX5_waitOf 0 = .ok (.aload_n 0, 1) := by decide +kernel
theorem dX5_waitOf_1 : decode cX5_waitOf 1 = .ok (.iload_n 1, 1) := by decide +kernel
theorem dX5_waitOf_2 : decode cX5_waitOf 2 = .ok (.invokevirtual 37, 3) := by decide +kernel
theorem dX5_waitOf_5 : decode cX5_waitOf 5 = .ok (.getfield 118, 3) := by decide +kernel
theorem dX5_waitOf_8 : decode cX5_waitOf 8 = .ok (.ireturn, 1) := by decide +kernel
set_option maxRecDepth 20000 in
theorem ggX5_window_X5_stationAt : GoodIn wsX5_window wsX5_stationAt := goodIn_ca (goodIn_r _ [5, 6, 7, 8, 21, 22, 23, 24, 25] (by decide +kernel) (by decide +kernel)) (goodIn_sub (fun _ h => List.mem_cons_of_mem _ (List.mem_append_right _ h)) (by decide +kernel))
set_option maxRecDepth 20000 in
theorem gX5_window_X5_stationAt : GoodIn wsX5_window (wsV RX5 37 RX5 yX5_stationAt wsX5_stationAt) := goodIn_app (goodIn_of _ (by decide +kernel)) ggX5_window_X5_stationAt
theorem dX5_window_0 : decode cX5_window 0 = .ok (.aload_n 0, 1) := by decide +kernel
theorem dX5_window_1 : decode cX5_window 1 = .ok (.iload_n 1, 1) := by decide +kernel
theorem dX5_window_2 : decode cX5_window 2 = .ok (.invokevirtual 37, 3) := by decide +kernel
theorem dX5_window_5 : decode cX5_window 5 = .ok (.getfield 67, 3) := by decide +kernel
theorem dX5_window_8 : decode cX5_window 8 = .ok (.ireturn, 1) := by decide +kernel
set_option maxRecDepth 20000 in
theorem ggX5_failures_X5_stationAt : GoodIn wsX5_failures wsX5_stationAt := goodIn_ca (goodIn_r _ [5, 6, 7, 8, 21, 22, 23, 24, 25] (by decide +kernel) (by decide +kernel)) (goodIn_sub (fun _ h => List.mem_cons_of_mem _ (List.mem_append_right _ h)) (by decide +kernel))
set_option maxRecDepth 20000 in
theorem gX5_failures_X5_stationAt : GoodIn wsX5_failures (wsV RX5 37 RX5 yX5_stationAt wsX5_stationAt) := goodIn_app (goodIn_of _ (by decide +kernel)) ggX5_failures_X5_stationAt
theorem dX5_failures_0 : decode cX5_failures 0 = .ok (.aload_n 0, 1) := by decide +kernel
theorem dX5_failures_1 : decode cX5_failures 1 = .ok (.iload_n 1, 1) := by decide +kernel
theorem dX5_failures_2 : decode cX5_failures 2 = .ok (.invokevirtual 37, 3) := by decide +kernel
theorem dX5_failures_5 : decode cX5_failures 5 = .ok (.getfield 121, 3) := by decide +kernel
theorem dX5_failures_8 : decode cX5_failures 8 = .ok (.ireturn, 1) := by decide +kernel
set_option maxRecDepth 20000 in
theorem ggX5_silencedTo_X5_stationAt : GoodIn wsX5_silencedTo wsX5_stationAt := goodIn_ca (goodIn_r _ [5, 6, 7, 8, 21, 22, 23, 24, 25] (by decide +kernel) (by decide +kernel)) (goodIn_sub (fun _ h => List.mem_cons_of_mem _ (List.mem_append_right _ h)) (by decide +kernel))
set_option maxRecDepth 20000 in
theorem gX5_silencedTo_X5_stationAt : GoodIn wsX5_silencedTo (wsV RX5 37 RX5 yX5_stationAt wsX5_stationAt) := goodIn_app (goodIn_of _ (by decide +kernel)) ggX5_silencedTo_X5_stationAt
theorem dX5_silencedTo_0 : decode cX5_silencedTo 0 = .ok (.aload_n 0, 1) := by decide +kernel
theorem dX5_silencedTo_1 : decode cX5_silencedTo 1 = .ok (.iload_n 1, 1) := by decide +kernel
theorem dX5_silencedTo_2 : decode cX5_silencedTo 2 = .ok (.invokevirtual 37, 3) := by decide +kernel
theorem dX5_silencedTo_5 : decode cX5_silencedTo 5 = .ok (.getfield 124, 3) := by decide +kernel
theorem dX5_silencedTo_8 : decode cX5_silencedTo 8 = .ok (.ireturn, 1) := by decide +kernel
set_option maxRecDepth 20000 in
theorem ggX5_frames_X5_stationAt : GoodIn wsX5_frames wsX5_stationAt := goodIn_ca (goodIn_r _ [5, 6, 7, 8, 24, 25, 26, 27, 28] (by decide +kernel) (by decide +kernel)) (goodIn_sub (fun _ h => List.mem_cons_of_mem _ (List.mem_append_right _ h)) (by decide +kernel))
set_option maxRecDepth 20000 in
theorem gX5_frames_X5_stationAt : GoodIn wsX5_frames (wsV RX5 37 RX5 yX5_stationAt wsX5_stationAt) := goodIn_app (goodIn_of _ (by decide +kernel)) ggX5_frames_X5_stationAt
theorem dX5_frames_0 : decode cX5_frames 0 = .ok (.aload_n 0, 1) := by decide +kernel
theorem dX5_frames_1 : decode cX5_frames 1 = .ok (.iload_n 1, 1) := by decide +kernel
theorem dX5_frames_2 : decode cX5_frames 2 = .ok (.invokevirtual 37, 3) := by decide +kernel
theorem dX5_frames_5 : decode cX5_frames 5 = .ok (.getfield 86, 3) := by decide +kernel
theorem dX5_frames_8 : decode cX5_frames 8 = .ok (.getfield 92, 3) := by decide +kernel
theorem dX5_frames_11 : decode cX5_frames 11 = .ok (.ireturn, 1) := by decide +kernel
set_option maxRecDepth 20000 in
theorem ggX5_partsLeft_X5_stationAt : GoodIn wsX5_partsLeft wsX5_stationAt := goodIn_ca (goodIn_r _ [5, 6, 7, 8, 28, 29, 30, 31, 32] (by decide +kernel) (by decide +kernel)) (goodIn_sub (fun _ h => List.mem_cons_of_mem _ (List.mem_append_right _ h)) (by decide +kernel))
set_option maxRecDepth 20000 in
theorem gX5_partsLeft_X5_stationAt : GoodIn wsX5_partsLeft (wsV RX5 37 RX5 yX5_stationAt wsX5_stationAt) := goodIn_app (goodIn_of _ (by decide +kernel)) ggX5_partsLeft_X5_stationAt
set_option maxRecDepth 20000 in
theorem ggX5_partsLeft_X0_partsOfFirst : GoodIn wsX5_partsLeft wsX0_partsOfFirst := goodIn_r _ [13, 14, 15, 33, 34, 35] (by decide +kernel) (by decide +kernel)
set_option maxRecDepth 20000 in
theorem gX5_partsLeft_X0_partsOfFirst : GoodIn wsX5_partsLeft (wsV RX5 127 RX0 yX0_partsOfFirst wsX0_partsOfFirst) := goodIn_app (goodIn_of _ (by decide +kernel)) ggX5_partsLeft_X0_partsOfFirst
theorem dX5_partsLeft_0 : decode cX5_partsLeft 0 = .ok (.aload_n 0, 1) := by decide +kernel
theorem dX5_partsLeft_1 : decode cX5_partsLeft 1 = .ok (.iload_n 1, 1) := by decide +kernel
theorem dX5_partsLeft_2 : decode cX5_partsLeft 2 = .ok (.invokevirtual 37, 3) := by decide +kernel
theorem dX5_partsLeft_5 : decode cX5_partsLeft 5 = .ok (.getfield 86, 3) := by decide +kernel
theorem dX5_partsLeft_8 : decode cX5_partsLeft 8 = .ok (.invokevirtual 127, 3) := by decide +kernel
theorem dX5_partsLeft_11 : decode cX5_partsLeft 11 = .ok (.ireturn, 1) := by decide +kernel
set_option maxRecDepth 20000 in
theorem ggX5_delivered_X5_stationAt : GoodIn wsX5_delivered wsX5_stationAt := goodIn_ca (goodIn_r _ [5, 6, 7, 8, 21, 22, 23, 24, 25] (by decide +kernel) (by decide +kernel)) (goodIn_sub (fun _ h => List.mem_cons_of_mem _ (List.mem_append_right _ h)) (by decide +kernel))
set_option maxRecDepth 20000 in
theorem gX5_delivered_X5_stationAt : GoodIn wsX5_delivered (wsV RX5 37 RX5 yX5_stationAt wsX5_stationAt) := goodIn_app (goodIn_of _ (by decide +kernel)) ggX5_delivered_X5_stationAt
theorem dX5_delivered_0 : decode cX5_delivered 0 = .ok (.aload_n 0, 1) := by decide +kernel
theorem dX5_delivered_1 : decode cX5_delivered 1 = .ok (.iload_n 1, 1) := by decide +kernel
theorem dX5_delivered_2 : decode cX5_delivered 2 = .ok (.invokevirtual 37, 3) := by decide +kernel
theorem dX5_delivered_5 : decode cX5_delivered 5 = .ok (.getfield 130, 3) := by decide +kernel
theorem dX5_delivered_8 : decode cX5_delivered 8 = .ok (.ireturn, 1) := by decide +kernel
set_option maxRecDepth 20000 in
theorem ggX5_dropped_X5_stationAt : GoodIn wsX5_dropped wsX5_stationAt := goodIn_ca (goodIn_r _ [5, 6, 7, 8, 21, 22, 23, 24, 25] (by decide +kernel) (by decide +kernel)) (goodIn_sub (fun _ h => List.mem_cons_of_mem _ (List.mem_append_right _ h)) (by decide +kernel))
set_option maxRecDepth 20000 in
theorem gX5_dropped_X5_stationAt : GoodIn wsX5_dropped (wsV RX5 37 RX5 yX5_stationAt wsX5_stationAt) := goodIn_app (goodIn_of _ (by decide +kernel)) ggX5_dropped_X5_stationAt
theorem dX5_dropped_0 : decode cX5_dropped 0 = .ok (.aload_n 0, 1) := by decide +kernel
theorem dX5_dropped_1 : decode cX5_dropped 1 = .ok (.iload_n 1, 1) := by decide +kernel
theorem dX5_dropped_2 : decode cX5_dropped 2 = .ok (.invokevirtual 37, 3) := by decide +kernel
theorem dX5_dropped_5 : decode cX5_dropped 5 = .ok (.getfield 133, 3) := by decide +kernel
theorem dX5_dropped_8 : decode cX5_dropped 8 = .ok (.ireturn, 1) := by decide +kernel
set_option maxRecDepth 20000 in
theorem ggX5_airtime_X5_stationAt : GoodIn wsX5_airtime wsX5_stationAt := goodIn_ca (goodIn_r _ [5, 6, 7, 8, 21, 22, 23, 24, 25] (by decide +kernel) (by decide +kernel)) (goodIn_sub (fun _ h => List.mem_cons_of_mem _ (List.mem_append_right _ h)) (by decide +kernel))
set_option maxRecDepth 20000 in
theorem gX5_airtime_X5_stationAt : GoodIn wsX5_airtime (wsV RX5 37 RX5 yX5_stationAt wsX5_stationAt) := goodIn_app (goodIn_of _ (by decide +kernel)) ggX5_airtime_X5_stationAt
theorem dX5_airtime_0 : decode cX5_airtime 0 = .ok (.aload_n 0, 1) := by decide +kernel
theorem dX5_airtime_1 : decode cX5_airtime 1 = .ok (.iload_n 1, 1) := by decide +kernel
theorem dX5_airtime_2 : decode cX5_airtime 2 = .ok (.invokevirtual 37, 3) := by decide +kernel
theorem dX5_airtime_5 : decode cX5_airtime 5 = .ok (.getfield 136, 3) := by decide +kernel
theorem dX5_airtime_8 : decode cX5_airtime 8 = .ok (.ireturn, 1) := by decide +kernel
set_option maxRecDepth 20000 in
theorem ggX5_airtimeBySendings_X5_stationAt : GoodIn wsX5_airtimeBySendings wsX5_stationAt := goodIn_ca (goodIn_r _ [6, 7, 8, 9, 35, 36, 37, 38, 39] (by decide +kernel) (by decide +kernel)) (goodIn_sub (fun _ h => List.mem_cons_of_mem _ (List.mem_append_right _ h)) (by decide +kernel))
set_option maxRecDepth 20000 in
theorem gX5_airtimeBySendings_X5_stationAt : GoodIn wsX5_airtimeBySendings (wsV RX5 37 RX5 yX5_stationAt wsX5_stationAt) := goodIn_app (goodIn_of _ (by decide +kernel)) ggX5_airtimeBySendings_X5_stationAt
set_option maxRecDepth 20000 in
theorem ggX5_airtimeBySendings_X1_slotsUpTo : GoodIn wsX5_airtimeBySendings wsX1_slotsUpTo := goodIn_r _ [14, 15, 28, 29, 30, 31, 32, 33, 34] (by decide +kernel) (by decide +kernel)
set_option maxRecDepth 20000 in
theorem gX5_airtimeBySendings_X1_slotsUpTo : GoodIn wsX5_airtimeBySendings (wsV RX5 142 RX1 yX1_slotsUpTo wsX1_slotsUpTo) := goodIn_app (goodIn_of _ (by decide +kernel)) ggX5_airtimeBySendings_X1_slotsUpTo
theorem dX5_airtimeBySendings_0 : decode cX5_airtimeBySendings 0 = .ok (.aload_n 0, 1) := by decide +kernel
theorem dX5_airtimeBySendings_1 : decode cX5_airtimeBySendings 1 = .ok (.iload_n 1, 1) := by decide +kernel
theorem dX5_airtimeBySendings_2 : decode cX5_airtimeBySendings 2 = .ok (.invokevirtual 37, 3) := by decide +kernel
theorem dX5_airtimeBySendings_5 : decode cX5_airtimeBySendings 5 = .ok (.astore_n 2, 1) := by decide +kernel
theorem dX5_airtimeBySendings_6 : decode cX5_airtimeBySendings 6 = .ok (.aload_n 2, 1) := by decide +kernel
theorem dX5_airtimeBySendings_7 : decode cX5_airtimeBySendings 7 = .ok (.getfield 139, 3) := by decide +kernel
theorem dX5_airtimeBySendings_10 : decode cX5_airtimeBySendings 10 = .ok (.aload_n 2, 1) := by decide +kernel
theorem dX5_airtimeBySendings_11 : decode cX5_airtimeBySendings 11 = .ok (.getfield 108, 3) := by decide +kernel
theorem dX5_airtimeBySendings_14 : decode cX5_airtimeBySendings 14 = .ok (.getfield 112, 3) := by decide +kernel
theorem dX5_airtimeBySendings_17 : decode cX5_airtimeBySendings 17 = .ok (.ifCond .eq 17, 3) := by decide +kernel
theorem dX5_airtimeBySendings_20 : decode cX5_airtimeBySendings 20 = .ok (.aload_n 2, 1) := by decide +kernel
theorem dX5_airtimeBySendings_21 : decode cX5_airtimeBySendings 21 = .ok (.getfield 108, 3) := by decide +kernel
theorem dX5_airtimeBySendings_24 : decode cX5_airtimeBySendings 24 = .ok (.aload_n 0, 1) := by decide +kernel
theorem dX5_airtimeBySendings_25 : decode cX5_airtimeBySendings 25 = .ok (.getfield 33, 3) := by decide +kernel
theorem dX5_airtimeBySendings_28 : decode cX5_airtimeBySendings 28 = .ok (.invokevirtual 142, 3) := by decide +kernel
theorem dX5_airtimeBySendings_31 : decode cX5_airtimeBySendings 31 = .ok (.goto 4, 3) := by decide +kernel
theorem dX5_airtimeBySendings_34 : decode cX5_airtimeBySendings 34 = .ok (.iconst 0, 1) := by decide +kernel
theorem dX5_airtimeBySendings_35 : decode cX5_airtimeBySendings 35 = .ok (.iadd, 1) := by decide +kernel
theorem dX5_airtimeBySendings_36 : decode cX5_airtimeBySendings 36 = .ok (.ireturn, 1) := by decide +kernel
theorem dX5_numbers_0 : decode cX5_numbers 0 = .ok (.aload_n 0, 1) := by decide +kernel
theorem dX5_numbers_1 : decode cX5_numbers 1 = .ok (.getfield 25, 3) := by decide +kernel
theorem dX5_numbers_4 : decode cX5_numbers 4 = .ok (.getfield 74, 3) := by decide +kernel
theorem dX5_numbers_7 : decode cX5_numbers 7 = .ok (.ireturn, 1) := by decide +kernel
theorem dX5_isStation_0 : decode cX5_isStation 0 = .ok (.iload_n 0, 1) := by decide +kernel
theorem dX5_isStation_1 : decode cX5_isStation 1 = .ok (.ifCond .lt 13, 3) := by decide +kernel
theorem dX5_isStation_4 : decode cX5_isStation 4 = .ok (.iload_n 0, 1) := by decide +kernel
theorem dX5_isStation_5 : decode cX5_isStation 5 = .ok (.bipush 6, 2) := by decide +kernel
theorem dX5_isStation_7 : decode cX5_isStation 7 = .ok (.if_icmp .ge 7, 3) := by decide +kernel
theorem dX5_isStation_10 : decode cX5_isStation 10 = .ok (.iconst 1, 1) := by decide +kernel
theorem dX5_isStation_11 : decode cX5_isStation 11 = .ok (.goto 4, 3) := by decide +kernel
theorem dX5_isStation_14 : decode cX5_isStation 14 = .ok (.iconst 0, 1) := by decide +kernel
theorem dX5_isStation_15 : decode cX5_isStation 15 = .ok (.ireturn, 1) := by decide +kernel
theorem dX5_leastWindow_0 : decode cX5_leastWindow 0 = .ok (.iload_n 0, 1) := by decide +kernel
theorem dX5_leastWindow_1 : decode cX5_leastWindow 1 = .ok (.ifCond .ne 7, 3) := by decide +kernel
theorem dX5_leastWindow_4 : decode cX5_leastWindow 4 = .ok (.iconst 3, 1) := by decide +kernel
theorem dX5_leastWindow_5 : decode cX5_leastWindow 5 = .ok (.goto 5, 3) := by decide +kernel
theorem dX5_leastWindow_8 : decode cX5_leastWindow 8 = .ok (.bipush 7, 2) := by decide +kernel
theorem dX5_leastWindow_10 : decode cX5_leastWindow 10 = .ok (.ireturn, 1) := by decide +kernel
theorem dX5_stationAt_0 : decode cX5_stationAt 0 = .ok (.iload_n 1, 1) := by decide +kernel
theorem dX5_stationAt_1 : decode cX5_stationAt 1 = .ok (.ifCond .lt 21, 3) := by decide +kernel
theorem dX5_stationAt_4 : decode cX5_stationAt 4 = .ok (.iload_n 1, 1) := by decide +kernel
theorem dX5_stationAt_5 : decode cX5_stationAt 5 = .ok (.aload_n 0, 1) := by decide +kernel
theorem dX5_stationAt_6 : decode cX5_stationAt 6 = .ok (.getfield 11, 3) := by decide +kernel
theorem dX5_stationAt_9 : decode cX5_stationAt 9 = .ok (.arraylength, 1) := by decide +kernel
theorem dX5_stationAt_10 : decode cX5_stationAt 10 = .ok (.if_icmp .ge 12, 3) := by decide +kernel
theorem dX5_stationAt_13 : decode cX5_stationAt 13 = .ok (.aload_n 0, 1) := by decide +kernel
theorem dX5_stationAt_14 : decode cX5_stationAt 14 = .ok (.getfield 11, 3) := by decide +kernel
theorem dX5_stationAt_17 : decode cX5_stationAt 17 = .ok (.iload_n 1, 1) := by decide +kernel
theorem dX5_stationAt_18 : decode cX5_stationAt 18 = .ok (.aaload, 1) := by decide +kernel
theorem dX5_stationAt_19 : decode cX5_stationAt 19 = .ok (.goto 4, 3) := by decide +kernel
theorem dX5_stationAt_22 : decode cX5_stationAt 22 = .ok (.aconst_null, 1) := by decide +kernel
theorem dX5_stationAt_23 : decode cX5_stationAt 23 = .ok (.astore_n 2, 1) := by decide +kernel
theorem dX5_stationAt_24 : decode cX5_stationAt 24 = .ok (.aload_n 2, 1) := by decide +kernel
theorem dX5_stationAt_25 : decode cX5_stationAt 25 = .ok (.ifnonnull 13, 3) := by decide +kernel
theorem dX5_stationAt_28 : decode cX5_stationAt 28 = .ok (.new 145, 3) := by decide +kernel
theorem dX5_stationAt_31 : decode cX5_stationAt 31 = .ok (.dup, 1) := by decide +kernel
theorem dX5_stationAt_32 : decode cX5_stationAt 32 = .ok (.ldc 147, 2) := by decide +kernel
theorem dX5_stationAt_34 : decode cX5_stationAt 34 = .ok (.invokespecial 149, 3) := by decide +kernel
theorem dX5_stationAt_37 : decode cX5_stationAt 37 = .ok (.athrow, 1) := by decide +kernel
theorem dX5_stationAt_38 : decode cX5_stationAt 38 = .ok (.aload_n 2, 1) := by decide +kernel
theorem dX5_stationAt_39 : decode cX5_stationAt 39 = .ok (.areturn, 1) := by decide +kernel
set_option maxRecDepth 20000 in
theorem ggX5_passOneSlot_X5_waitOrBegin : GoodIn wsX5_passOneSlot wsX5_waitOrBegin := goodIn_ca (goodIn_r _ [6, 7, 1, 8, 9, 10, 11, 5, 12, 13, 14, 15, 16, 17, 18, 19, 20, 21, 22, 23, 24, 25, 26, 27, 28, 29, 30, 31, 32, 33, 34, 35, 36, 37, 38, 39, 40, 41, 42, 43, 44, 45, 46, 47, 48, 49, 50, 51, 52, 53, 54, 55, 56, 57, 58, 59, 60, 61, 62, 63, 64, 65, 66, 67, 68, 69, 70, 71, 72, 73, 74, 75, 76, 77, 78, 79, 80, 81, 169, 170, 171, 172, 173, 174, 175, 176, 177, 178, 179, 180, 181, 182, 183, 184, 185, 186, 187, 188, 189, 190, 164, 165, 166, 167, 168, 191, 192, 193, 194] (by decide +kernel) (by decide +kernel)) (goodIn_sub (fun _ h => List.mem_cons_of_mem _ (List.mem_append_right _ h)) (by decide +kernel))
set_option maxRecDepth 20000 in
theorem gX5_passOneSlot_X5_waitOrBegin : GoodIn wsX5_passOneSlot (wsV RX5 150 RX5 yX5_waitOrBegin wsX5_waitOrBegin) := goodIn_app (goodIn_of _ (by decide +kernel)) ggX5_passOneSlot_X5_waitOrBegin
set_option maxRecDepth 20000 in
theorem ggX5_passOneSlot_X5_sendInSlot : GoodIn wsX5_passOneSlot wsX5_sendInSlot := goodIn_ca (goodIn_r _ [85, 1, 9, 10, 11, 5, 12, 13, 14, 15, 86, 87, 88, 54, 89, 56, 90, 91, 92, 93, 94, 31, 32, 33, 34, 35, 36, 37, 38, 39, 40, 41, 42, 95, 96, 97, 68, 98, 73, 75, 99, 100, 101, 102, 72, 71, 103, 104, 105, 106, 74, 77, 78, 79, 80, 169, 170, 171, 172, 173, 174, 175, 176, 177, 178, 179, 180, 181, 182, 183, 184, 185, 186, 187, 164, 165, 166, 167, 168, 188, 189, 190, 194] (by decide +kernel) (by decide +kernel)) (goodIn_sub (fun _ h => List.mem_cons_of_mem _ (List.mem_append_right _ h)) (by decide +kernel))
set_option maxRecDepth 20000 in
theorem gX5_passOneSlot_X5_sendInSlot : GoodIn wsX5_passOneSlot (wsV RX5 153 RX5 yX5_sendInSlot wsX5_sendInSlot) := goodIn_app (goodIn_of _ (by decide +kernel)) ggX5_passOneSlot_X5_sendInSlot
set_option maxRecDepth 20000 in
theorem ggX5_passOneSlot_X5_endsAfterSlot : GoodIn wsX5_passOneSlot wsX5_endsAfterSlot := goodIn_ca (goodIn_r _ [110, 1, 9, 10, 11, 5, 12, 13, 14, 15, 111, 100, 101, 68, 102, 72, 71, 86, 87, 88, 54, 89, 56, 90, 112, 113, 114, 115, 31, 116, 117, 118, 119, 32, 33, 34, 35, 36, 37, 38, 39, 40, 41, 42, 120, 121, 122, 46, 123, 50, 124, 125, 126, 127, 128, 129, 130, 131, 132, 73, 74, 75, 133, 134, 135, 136, 137, 138, 139, 140, 141, 142, 48, 143, 144, 145, 146, 57, 147, 148, 149, 150, 151, 152, 153, 154, 155, 156, 157, 158, 159, 58, 59, 60, 61, 62, 63, 64, 160, 161, 162, 163, 51, 52, 53, 55, 169, 170, 171, 172, 173, 174, 175, 176, 177, 178, 179, 180, 181, 182, 183, 184, 185, 186, 187, 164, 165, 166, 167, 168, 188, 189, 190, 194] (by decide +kernel) (by decide +kernel)) (goodIn_sub (fun _ h => List.mem_cons_of_mem _ (List.mem_append_right _ h)) (by decide +kernel))
set_option maxRecDepth 20000 in
theorem gX5_passOneSlot_X5_endsAfterSlot : GoodIn wsX5_passOneSlot (wsV RX5 156 RX5 yX5_endsAfterSlot wsX5_endsAfterSlot) := goodIn_app (goodIn_of _ (by decide +kernel)) ggX5_passOneSlot_X5_endsAfterSlot
theorem dX5_passOneSlot_0 : decode cX5_passOneSlot 0 = .ok (.aload_n 0, 1) := by decide +kernel
theorem dX5_passOneSlot_1 : decode cX5_passOneSlot 1 = .ok (.dup, 1) := by decide +kernel
theorem dX5_passOneSlot_2 : decode cX5_passOneSlot 2 = .ok (.getfield 33, 3) := by decide +kernel
theorem dX5_passOneSlot_5 : decode cX5_passOneSlot 5 = .ok (.iconst 1, 1) := by decide +kernel
theorem dX5_passOneSlot_6 : decode cX5_passOneSlot 6 = .ok (.iadd, 1) := by decide +kernel
theorem dX5_passOneSlot_7 : decode cX5_passOneSlot 7 = .ok (.putfield 33, 3) := by decide +kernel
theorem dX5_passOneSlot_10 : decode cX5_passOneSlot 10 = .ok (.iconst 0, 1) := by decide +kernel
theorem dX5_passOneSlot_11 : decode cX5_passOneSlot 11 = .ok (.istore_n 1, 1) := by decide +kernel
theorem dX5_passOneSlot_12 : decode cX5_passOneSlot 12 = .ok (.iload_n 1, 1) := by decide +kernel
theorem dX5_passOneSlot_13 : decode cX5_passOneSlot 13 = .ok (.bipush 6, 2) := by decide +kernel
theorem dX5_passOneSlot_15 : decode cX5_passOneSlot 15 = .ok (.if_icmp .ge 14, 3) := by decide +kernel
theorem dX5_passOneSlot_18 : decode cX5_passOneSlot 18 = .ok (.aload_n 0, 1) := by decide +kernel
theorem dX5_passOneSlot_19 : decode cX5_passOneSlot 19 = .ok (.iload_n 1, 1) := by decide +kernel
theorem dX5_passOneSlot_20 : decode cX5_passOneSlot 20 = .ok (.invokevirtual 150, 3) := by decide +kernel
theorem dX5_passOneSlot_23 : decode cX5_passOneSlot 23 = .ok (.iinc 1 1, 3) := by decide +kernel
theorem dX5_passOneSlot_26 : decode cX5_passOneSlot 26 = .ok (.goto (-14), 3) := by decide +kernel
theorem dX5_passOneSlot_29 : decode cX5_passOneSlot 29 = .ok (.iconst 0, 1) := by decide +kernel
theorem dX5_passOneSlot_30 : decode cX5_passOneSlot 30 = .ok (.istore_n 1, 1) := by decide +kernel
theorem dX5_passOneSlot_31 : decode cX5_passOneSlot 31 = .ok (.iload_n 1, 1) := by decide +kernel
theorem dX5_passOneSlot_32 : decode cX5_passOneSlot 32 = .ok (.bipush 6, 2) := by decide +kernel
theorem dX5_passOneSlot_34 : decode cX5_passOneSlot 34 = .ok (.if_icmp .ge 14, 3) := by decide +kernel
theorem dX5_passOneSlot_37 : decode cX5_passOneSlot 37 = .ok (.aload_n 0, 1) := by decide +kernel
theorem dX5_passOneSlot_38 : decode cX5_passOneSlot 38 = .ok (.iload_n 1, 1) := by decide +kernel
theorem dX5_passOneSlot_39 : decode cX5_passOneSlot 39 = .ok (.invokevirtual 153, 3) := by decide +kernel
theorem dX5_passOneSlot_42 : decode cX5_passOneSlot 42 = .ok (.iinc 1 1, 3) := by decide +kernel
theorem dX5_passOneSlot_45 : decode cX5_passOneSlot 45 = .ok (.goto (-14), 3) := by decide +kernel
theorem dX5_passOneSlot_48 : decode cX5_passOneSlot 48 = .ok (.iconst 0, 1) := by decide +kernel
theorem dX5_passOneSlot_49 : decode cX5_passOneSlot 49 = .ok (.istore_n 1, 1) := by decide +kernel
theorem dX5_passOneSlot_50 : decode cX5_passOneSlot 50 = .ok (.iconst 0, 1) := by decide +kernel
theorem dX5_passOneSlot_51 : decode cX5_passOneSlot 51 = .ok (.istore_n 2, 1) := by decide +kernel
theorem dX5_passOneSlot_52 : decode cX5_passOneSlot 52 = .ok (.iload_n 2, 1) := by decide +kernel
theorem dX5_passOneSlot_53 : decode cX5_passOneSlot 53 = .ok (.bipush 6, 2) := by decide +kernel
theorem dX5_passOneSlot_55 : decode cX5_passOneSlot 55 = .ok (.if_icmp .ge 20, 3) := by decide +kernel
theorem dX5_passOneSlot_58 : decode cX5_passOneSlot 58 = .ok (.aload_n 0, 1) := by decide +kernel
theorem dX5_passOneSlot_59 : decode cX5_passOneSlot 59 = .ok (.iload_n 2, 1) := by decide +kernel
theorem dX5_passOneSlot_60 : decode cX5_passOneSlot 60 = .ok (.invokevirtual 156, 3) := by decide +kernel
theorem dX5_passOneSlot_63 : decode cX5_passOneSlot 63 = .ok (.ifCond .eq 6, 3) := by decide +kernel
theorem dX5_passOneSlot_66 : decode cX5_passOneSlot 66 = .ok (.iinc 1 1, 3) := by decide +kernel
theorem dX5_passOneSlot_69 : decode cX5_passOneSlot 69 = .ok (.iinc 2 1, 3) := by decide +kernel
theorem dX5_passOneSlot_72 : decode cX5_passOneSlot 72 = .ok (.goto (-20), 3) := by decide +kernel
theorem dX5_passOneSlot_75 : decode cX5_passOneSlot 75 = .ok (.iload_n 1, 1) := by decide +kernel
theorem dX5_passOneSlot_76 : decode cX5_passOneSlot 76 = .ok (.ireturn, 1) := by decide +kernel
set_option maxRecDepth 20000 in
theorem ggX5_waitOrBegin_X5_stationAt : GoodIn wsX5_waitOrBegin wsX5_stationAt := goodIn_ca (goodIn_r _ [8, 9, 10, 11, 100, 101, 102, 103, 104] (by decide +kernel) (by decide +kernel)) (goodIn_sub (fun _ h => List.mem_cons_of_mem _ (List.mem_append_right _ h)) (by decide +kernel))
set_option maxRecDepth 20000 in
theorem gX5_waitOrBegin_X5_stationAt : GoodIn wsX5_waitOrBegin (wsV RX5 37 RX5 yX5_stationAt wsX5_stationAt) := goodIn_app (goodIn_of _ (by decide +kernel)) ggX5_waitOrBegin_X5_stationAt
set_option maxRecDepth 20000 in
theorem ggX5_waitOrBegin_X4_next : GoodIn wsX5_waitOrBegin wsX4_next := goodIn_r _ [16, 17, 18, 19, 105, 106, 107] (by decide +kernel) (by decide +kernel)
set_option maxRecDepth 20000 in
theorem gX5_waitOrBegin_X4_next : GoodIn wsX5_waitOrBegin (wsV RX5 160 RX4 yX4_next wsX4_next) := goodIn_app (goodIn_of _ (by decide +kernel)) ggX5_waitOrBegin_X4_next
set_option maxRecDepth 20000 in
theorem ggX5_waitOrBegin_X5_restBy : GoodIn wsX5_waitOrBegin wsX5_restBy := goodIn_r _ [22] (by decide +kernel) (by decide +kernel)
set_option maxRecDepth 20000 in
theorem gX5_waitOrBegin_X5_restBy : GoodIn wsX5_waitOrBegin (va_wsS RX5 163 yX5_restBy wsX5_restBy) := goodIn_app (goodIn_of _ (by decide +kernel)) ggX5_waitOrBegin_X5_restBy
set_option maxRecDepth 20000 in
theorem ggX5_waitOrBegin_X5_heardInSlotBefore : GoodIn wsX5_waitOrBegin wsX5_heardInSlotBefore := goodIn_ca (goodIn_r _ [26, 27, 2, 28, 29, 30, 31, 32, 33, 34, 35, 36, 37, 7, 38, 4, 5, 6, 8, 9, 10, 11, 100, 101, 102, 103, 104, 78, 79, 80, 81, 82, 83, 84, 85, 86, 87, 88, 89, 108] (by decide +kernel) (by decide +kernel)) (goodIn_sub (fun _ h => List.mem_cons_of_mem _ (List.mem_append_right _ h)) (by decide +kernel))
set_option maxRecDepth 20000 in
theorem gX5_waitOrBegin_X5_heardInSlotBefore : GoodIn wsX5_waitOrBegin (wsV RX5 166 RX5 yX5_heardInSlotBefore wsX5_heardInSlotBefore) := goodIn_app (goodIn_of _ (by decide +kernel)) ggX5_waitOrBegin_X5_heardInSlotBefore
set_option maxRecDepth 20000 in
theorem ggX5_waitOrBegin_X2_begin : GoodIn wsX5_waitOrBegin wsX2_begin := goodIn_r _ [43, 44, 45, 46, 47, 48, 49, 50, 51, 52, 53, 54, 55, 56, 57, 58, 59, 60, 61, 62, 63, 64, 65, 66, 67, 68, 69, 70, 71, 72, 73, 74, 75, 76, 77, 78, 79, 80, 81, 82, 83, 84, 85, 86, 87, 88, 89, 97, 98, 99, 90, 91, 92, 93, 94, 95, 96] (by decide +kernel) (by decide +kernel)
set_option maxRecDepth 20000 in
theorem gX5_waitOrBegin_X2_begin : GoodIn wsX5_waitOrBegin (wsV RX5 169 RX2 yX2_begin wsX2_begin) := goodIn_app (goodIn_of _ (by decide +kernel)) ggX5_waitOrBegin_X2_begin
theorem dX5_waitOrBegin_0 : decode cX5_waitOrBegin 0 = .ok (.aload_n 0, 1) := by decide +kernel
theorem dX5_waitOrBegin_1 : decode cX5_waitOrBegin 1 = .ok (.iload_n 1, 1) := by decide +kernel
theorem dX5_waitOrBegin_2 : decode cX5_waitOrBegin 2 = .ok (.invokevirtual 37, 3) := by decide +kernel
theorem dX5_waitOrBegin_5 : decode cX5_waitOrBegin 5 = .ok (.astore_n 2, 1) := by decide +kernel
theorem dX5_waitOrBegin_6 : decode cX5_waitOrBegin 6 = .ok (.aload_n 2, 1) := by decide +kernel
theorem dX5_waitOrBegin_7 : decode cX5_waitOrBegin 7 = .ok (.getfield 108, 3) := by decide +kernel
theorem dX5_waitOrBegin_10 : decode cX5_waitOrBegin 10 = .ok (.getfield 112, 3) := by decide +kernel
theorem dX5_waitOrBegin_13 : decode cX5_waitOrBegin 13 = .ok (.ifCond .ne 13, 3) := by decide +kernel
theorem dX5_waitOrBegin_16 : decode cX5_waitOrBegin 16 = .ok (.aload_n 2, 1) := by decide +kernel
theorem dX5_waitOrBegin_17 : decode cX5_waitOrBegin 17 = .ok (.getfield 86, 3) := by decide +kernel
theorem dX5_waitOrBegin_20 : decode cX5_waitOrBegin 20 = .ok (.getfield 92, 3) := by decide +kernel
theorem dX5_waitOrBegin_23 : decode cX5_waitOrBegin 23 = .ok (.ifCond .ne 4, 3) := by decide +kernel
theorem dX5_waitOrBegin_26 : decode cX5_waitOrBegin 26 = .ok (.return_, 1) := by decide +kernel
theorem dX5_waitOrBegin_27 : decode cX5_waitOrBegin 27 = .ok (.aload_n 2, 1) := by decide +kernel
theorem dX5_waitOrBegin_28 : decode cX5_waitOrBegin 28 = .ok (.getfield 118, 3) := by decide +kernel
theorem dX5_waitOrBegin_31 : decode cX5_waitOrBegin 31 = .ok (.iconst (-1), 1) := by decide +kernel
theorem dX5_waitOrBegin_32 : decode cX5_waitOrBegin 32 = .ok (.if_icmp .ne 23, 3) := by decide +kernel
theorem dX5_waitOrBegin_35 : decode cX5_waitOrBegin 35 = .ok (.aload_n 2, 1) := by decide +kernel
theorem dX5_waitOrBegin_36 : decode cX5_waitOrBegin 36 = .ok (.aload_n 0, 1) := by decide +kernel
theorem dX5_waitOrBegin_37 : decode cX5_waitOrBegin 37 = .ok (.getfield 25, 3) := by decide +kernel
theorem dX5_waitOrBegin_40 : decode cX5_waitOrBegin 40 = .ok (.invokevirtual 160, 3) := by decide +kernel
theorem dX5_waitOrBegin_43 : decode cX5_waitOrBegin 43 = .ok (.aload_n 2, 1) := by decide +kernel
theorem dX5_waitOrBegin_44 : decode cX5_waitOrBegin 44 = .ok (.getfield 67, 3) := by decide +kernel
theorem dX5_waitOrBegin_47 : decode cX5_waitOrBegin 47 = .ok (.iconst 1, 1) := by decide +kernel
theorem dX5_waitOrBegin_48 : decode cX5_waitOrBegin 48 = .ok (.iadd, 1) := by decide +kernel
theorem dX5_waitOrBegin_49 : decode cX5_waitOrBegin 49 = .ok (.invokestatic 163, 3) := by decide +kernel
theorem dX5_waitOrBegin_52 : decode cX5_waitOrBegin 52 = .ok (.putfield 118, 3) := by decide +kernel
theorem dX5_waitOrBegin_55 : decode cX5_waitOrBegin 55 = .ok (.aload_n 0, 1) := by decide +kernel
theorem dX5_waitOrBegin_56 : decode cX5_waitOrBegin 56 = .ok (.getfield 33, 3) := by decide +kernel
theorem dX5_waitOrBegin_59 : decode cX5_waitOrBegin 59 = .ok (.aload_n 2, 1) := by decide +kernel
theorem dX5_waitOrBegin_60 : decode cX5_waitOrBegin 60 = .ok (.getfield 124, 3) := by decide +kernel
theorem dX5_waitOrBegin_63 : decode cX5_waitOrBegin 63 = .ok (.if_icmp .le 11, 3) := by decide +kernel
theorem dX5_waitOrBegin_66 : decode cX5_waitOrBegin 66 = .ok (.aload_n 0, 1) := by decide +kernel
theorem dX5_waitOrBegin_67 : decode cX5_waitOrBegin 67 = .ok (.iload_n 1, 1) := by decide +kernel
theorem dX5_waitOrBegin_68 : decode cX5_waitOrBegin 68 = .ok (.invokevirtual 166, 3) := by decide +kernel
theorem dX5_waitOrBegin_71 : decode cX5_waitOrBegin 71 = .ok (.ifCond .eq 4, 3) := by decide +kernel
theorem dX5_waitOrBegin_74 : decode cX5_waitOrBegin 74 = .ok (.return_, 1) := by decide +kernel
theorem dX5_waitOrBegin_75 : decode cX5_waitOrBegin 75 = .ok (.aload_n 2, 1) := by decide +kernel
theorem dX5_waitOrBegin_76 : decode cX5_waitOrBegin 76 = .ok (.getfield 118, 3) := by decide +kernel
theorem dX5_waitOrBegin_79 : decode cX5_waitOrBegin 79 = .ok (.ifCond .le 16, 3) := by decide +kernel
theorem dX5_waitOrBegin_82 : decode cX5_waitOrBegin 82 = .ok (.aload_n 2, 1) := by decide +kernel
theorem dX5_waitOrBegin_83 : decode cX5_waitOrBegin 83 = .ok (.dup, 1) := by decide +kernel
theorem dX5_waitOrBegin_84 : decode cX5_waitOrBegin 84 = .ok (.getfield 118, 3) := by decide +kernel
theorem dX5_waitOrBegin_87 : decode cX5_waitOrBegin 87 = .ok (.iconst 1, 1) := by decide +kernel
theorem dX5_waitOrBegin_88 : decode cX5_waitOrBegin 88 = .ok (.isub, 1) := by decide +kernel
theorem dX5_waitOrBegin_89 : decode cX5_waitOrBegin 89 = .ok (.putfield 118, 3) := by decide +kernel
theorem dX5_waitOrBegin_92 : decode cX5_waitOrBegin 92 = .ok (.goto 15, 3) := by decide +kernel
theorem dX5_waitOrBegin_95 : decode cX5_waitOrBegin 95 = .ok (.aload_n 2, 1) := by decide +kernel
theorem dX5_waitOrBegin_96 : decode cX5_waitOrBegin 96 = .ok (.aload_n 0, 1) := by decide +kernel
theorem dX5_waitOrBegin_97 : decode cX5_waitOrBegin 97 = .ok (.getfield 33, 3) := by decide +kernel
theorem dX5_waitOrBegin_100 : decode cX5_waitOrBegin 100 = .ok (.aload_n 0, 1) := by decide +kernel
theorem dX5_waitOrBegin_101 : decode cX5_waitOrBegin 101 = .ok (.getfield 29, 3) := by decide +kernel
theorem dX5_waitOrBegin_104 : decode cX5_waitOrBegin 104 = .ok (.invokevirtual 169, 3) := by decide +kernel
theorem dX5_waitOrBegin_107 : decode cX5_waitOrBegin 107 = .ok (.return_, 1) := by decide +kernel
theorem dX5_restBy_0 : decode cX5_restBy 0 = .ok (.iload_n 1, 1) := by decide +kernel
theorem dX5_restBy_1 : decode cX5_restBy 1 = .ok (.ifCond .le 9, 3) := by decide +kernel
theorem dX5_restBy_4 : decode cX5_restBy 4 = .ok (.iload_n 0, 1) := by decide +kernel
theorem dX5_restBy_5 : decode cX5_restBy 5 = .ok (.iload_n 1, 1) := by decide +kernel
theorem dX5_restBy_6 : decode cX5_restBy 6 = .ok (.irem, 1) := by decide +kernel
theorem dX5_restBy_7 : decode cX5_restBy 7 = .ok (.goto 4, 3) := by decide +kernel
theorem dX5_restBy_10 : decode cX5_restBy 10 = .ok (.iconst 0, 1) := by decide +kernel
theorem dX5_restBy_11 : decode cX5_restBy 11 = .ok (.ireturn, 1) := by decide +kernel
set_option maxRecDepth 20000 in
theorem ggX5_heardInSlotBefore_X3_between : GoodIn wsX5_heardInSlotBefore wsX3_between := goodIn_r _ [7, 8, 9, 10, 6, 11, 12, 13, 14, 39] (by decide +kernel) (by decide +kernel)
set_option maxRecDepth 20000 in
theorem gX5_heardInSlotBefore_X3_between : GoodIn wsX5_heardInSlotBefore (wsV RX5 50 RX3 yX3_between wsX3_between) := goodIn_app (goodIn_of _ (by decide +kernel)) ggX5_heardInSlotBefore_X3_between
set_option maxRecDepth 20000 in
theorem ggX5_heardInSlotBefore_X5_stationAt : GoodIn wsX5_heardInSlotBefore wsX5_stationAt := goodIn_ca (goodIn_r _ [18, 19, 20, 21, 22, 23, 24, 25, 26] (by decide +kernel) (by decide +kernel)) (goodIn_sub (fun _ h => List.mem_cons_of_mem _ (List.mem_append_right _ h)) (by decide +kernel))
set_option maxRecDepth 20000 in
theorem gX5_heardInSlotBefore_X5_stationAt : GoodIn wsX5_heardInSlotBefore (wsV RX5 37 RX5 yX5_stationAt wsX5_stationAt) := goodIn_app (goodIn_of _ (by decide +kernel)) ggX5_heardInSlotBefore_X5_stationAt
theorem dX5_heardInSlotBefore_0 : decode cX5_heardInSlotBefore 0 = .ok (.iconst 0, 1) := by decide +kernel
theorem dX5_heardInSlotBefore_1 : decode cX5_heardInSlotBefore 1 = .ok (.istore_n 2, 1) := by decide +kernel
theorem dX5_heardInSlotBefore_2 : decode cX5_heardInSlotBefore 2 = .ok (.iload_n 2, 1) := by decide +kernel
theorem dX5_heardInSlotBefore_3 : decode cX5_heardInSlotBefore 3 = .ok (.bipush 6, 2) := by decide +kernel
theorem dX5_heardInSlotBefore_5 : decode cX5_heardInSlotBefore 5 = .ok (.if_icmp .ge 40, 3) := by decide +kernel
theorem dX5_heardInSlotBefore_8 : decode cX5_heardInSlotBefore 8 = .ok (.aload_n 0, 1) := by decide +kernel
theorem dX5_heardInSlotBefore_9 : decode cX5_heardInSlotBefore 9 = .ok (.getfield 18, 3) := by decide +kernel
theorem dX5_heardInSlotBefore_12 : decode cX5_heardInSlotBefore 12 = .ok (.iload_n 1, 1) := by decide +kernel
theorem dX5_heardInSlotBefore_13 : decode cX5_heardInSlotBefore 13 = .ok (.iload_n 2, 1) := by decide +kernel
theorem dX5_heardInSlotBefore_14 : decode cX5_heardInSlotBefore 14 = .ok (.invokevirtual 50, 3) := by decide +kernel
theorem dX5_heardInSlotBefore_17 : decode cX5_heardInSlotBefore 17 = .ok (.ifCond .le 22, 3) := by decide +kernel
theorem dX5_heardInSlotBefore_20 : decode cX5_heardInSlotBefore 20 = .ok (.aload_n 0, 1) := by decide +kernel
theorem dX5_heardInSlotBefore_21 : decode cX5_heardInSlotBefore 21 = .ok (.iload_n 2, 1) := by decide +kernel
theorem dX5_heardInSlotBefore_22 : decode cX5_heardInSlotBefore 22 = .ok (.invokevirtual 37, 3) := by decide +kernel
theorem dX5_heardInSlotBefore_25 : decode cX5_heardInSlotBefore 25 = .ok (.getfield 172, 3) := by decide +kernel
theorem dX5_heardInSlotBefore_28 : decode cX5_heardInSlotBefore 28 = .ok (.aload_n 0, 1) := by decide +kernel
theorem dX5_heardInSlotBefore_29 : decode cX5_heardInSlotBefore 29 = .ok (.getfield 33, 3) := by decide +kernel
theorem dX5_heardInSlotBefore_32 : decode cX5_heardInSlotBefore 32 = .ok (.iconst 1, 1) := by decide +kernel
theorem dX5_heardInSlotBefore_33 : decode cX5_heardInSlotBefore 33 = .ok (.isub, 1) := by decide +kernel
theorem dX5_heardInSlotBefore_34 : decode cX5_heardInSlotBefore 34 = .ok (.if_icmp .ne 5, 3) := by decide +kernel
theorem dX5_heardInSlotBefore_37 : decode cX5_heardInSlotBefore 37 = .ok (.iconst 1, 1) := by decide +kernel
theorem dX5_heardInSlotBefore_38 : decode cX5_heardInSlotBefore 38 = .ok (.ireturn, 1) := by decide +kernel
theorem dX5_heardInSlotBefore_39 : decode cX5_heardInSlotBefore 39 = .ok (.iinc 2 1, 3) := by decide +kernel
theorem dX5_heardInSlotBefore_42 : decode cX5_heardInSlotBefore 42 = .ok (.goto (-40), 3) := by decide +kernel
theorem dX5_heardInSlotBefore_45 : decode cX5_heardInSlotBefore 45 = .ok (.iconst 0, 1) := by decide +kernel
theorem dX5_heardInSlotBefore_46 : decode cX5_heardInSlotBefore 46 = .ok (.ireturn, 1) := by decide +kernel
set_option maxRecDepth 20000 in
theorem ggX5_sendInSlot_X5_stationAt : GoodIn wsX5_sendInSlot wsX5_stationAt := goodIn_ca (goodIn_r _ [6, 7, 8, 9, 74, 75, 76, 77, 78] (by decide +kernel) (by decide +kernel)) (goodIn_sub (fun _ h => List.mem_cons_of_mem _ (List.mem_append_right _ h)) (by decide +kernel))
set_option maxRecDepth 20000 in
theorem gX5_sendInSlot_X5_stationAt : GoodIn wsX5_sendInSlot (wsV RX5 37 RX5 yX5_stationAt wsX5_stationAt) := goodIn_app (goodIn_of _ (by decide +kernel)) ggX5_sendInSlot_X5_stationAt
set_option maxRecDepth 20000 in
theorem ggX5_sendInSlot_X0_goalOfFirst : GoodIn wsX5_sendInSlot wsX0_goalOfFirst := goodIn_r _ [14, 15, 16, 79, 80, 81] (by decide +kernel) (by decide +kernel)
set_option maxRecDepth 20000 in
theorem gX5_sendInSlot_X0_goalOfFirst : GoodIn wsX5_sendInSlot (wsV RX5 175 RX0 yX0_goalOfFirst wsX0_goalOfFirst) := goodIn_app (goodIn_of _ (by decide +kernel)) ggX5_sendInSlot_X0_goalOfFirst
set_option maxRecDepth 20000 in
theorem ggX5_sendInSlot_X5_isBrokenAt : GoodIn wsX5_sendInSlot wsX5_isBrokenAt := goodIn_ca (goodIn_r _ [20, 21, 22, 23, 24, 25, 26, 27, 28, 29, 30, 31, 5, 32, 2, 3, 4, 6, 7, 8, 9, 74, 75, 76, 77, 78, 55, 56, 57, 58, 59, 60, 61, 62, 63, 64, 65, 66, 67, 68, 69, 70, 71, 72, 73, 82] (by decide +kernel) (by decide +kernel)) (goodIn_sub (fun _ h => List.mem_cons_of_mem _ (List.mem_append_right _ h)) (by decide +kernel))
set_option maxRecDepth 20000 in
theorem gX5_sendInSlot_X5_isBrokenAt : GoodIn wsX5_sendInSlot (wsV RX5 178 RX5 yX5_isBrokenAt wsX5_isBrokenAt) := goodIn_app (goodIn_of _ (by decide +kernel)) ggX5_sendInSlot_X5_isBrokenAt
set_option maxRecDepth 20000 in
theorem ggX5_sendInSlot_X1_breakIn : GoodIn wsX5_sendInSlot wsX1_breakIn := goodIn_r _ [37, 38, 39, 40, 41, 42, 36, 43, 44, 45, 46, 47, 48, 49, 50, 51, 52, 53, 54, 67, 68, 69, 70, 71, 72, 73] (by decide +kernel) (by decide +kernel)
set_option maxRecDepth 20000 in
theorem gX5_sendInSlot_X1_breakIn : GoodIn wsX5_sendInSlot (wsV RX5 182 RX1 yX1_breakIn wsX1_breakIn) := goodIn_app (goodIn_of _ (by decide +kernel)) ggX5_sendInSlot_X1_breakIn
theorem dX5_sendInSlot_0 : decode cX5_sendInSlot 0 = .ok (.aload_n 0, 1) := by decide +kernel
theorem dX5_sendInSlot_1 : decode cX5_sendInSlot 1 = .ok (.iload_n 1, 1) := by decide +kernel
theorem dX5_sendInSlot_2 : decode cX5_sendInSlot 2 = .ok (.invokevirtual 37, 3) := by decide +kernel
theorem dX5_sendInSlot_5 : decode cX5_sendInSlot 5 = .ok (.astore_n 2, 1) := by decide +kernel
theorem dX5_sendInSlot_6 : decode cX5_sendInSlot 6 = .ok (.aload_n 2, 1) := by decide +kernel
theorem dX5_sendInSlot_7 : decode cX5_sendInSlot 7 = .ok (.getfield 108, 3) := by decide +kernel
theorem dX5_sendInSlot_10 : decode cX5_sendInSlot 10 = .ok (.getfield 112, 3) := by decide +kernel
theorem dX5_sendInSlot_13 : decode cX5_sendInSlot 13 = .ok (.ifCond .ne 4, 3) := by decide +kernel
theorem dX5_sendInSlot_16 : decode cX5_sendInSlot 16 = .ok (.return_, 1) := by decide +kernel
theorem dX5_sendInSlot_17 : decode cX5_sendInSlot 17 = .ok (.aload_n 2, 1) := by decide +kernel
theorem dX5_sendInSlot_18 : decode cX5_sendInSlot 18 = .ok (.dup, 1) := by decide +kernel
theorem dX5_sendInSlot_19 : decode cX5_sendInSlot 19 = .ok (.getfield 136, 3) := by decide +kernel
theorem dX5_sendInSlot_22 : decode cX5_sendInSlot 22 = .ok (.iconst 1, 1) := by decide +kernel
theorem dX5_sendInSlot_23 : decode cX5_sendInSlot 23 = .ok (.iadd, 1) := by decide +kernel
theorem dX5_sendInSlot_24 : decode cX5_sendInSlot 24 = .ok (.putfield 136, 3) := by decide +kernel
theorem dX5_sendInSlot_27 : decode cX5_sendInSlot 27 = .ok (.aload_n 2, 1) := by decide +kernel
theorem dX5_sendInSlot_28 : decode cX5_sendInSlot 28 = .ok (.aload_n 0, 1) := by decide +kernel
theorem dX5_sendInSlot_29 : decode cX5_sendInSlot 29 = .ok (.getfield 33, 3) := by decide +kernel
theorem dX5_sendInSlot_32 : decode cX5_sendInSlot 32 = .ok (.putfield 172, 3) := by decide +kernel
theorem dX5_sendInSlot_35 : decode cX5_sendInSlot 35 = .ok (.aload_n 0, 1) := by decide +kernel
theorem dX5_sendInSlot_36 : decode cX5_sendInSlot 36 = .ok (.aload_n 2, 1) := by decide +kernel
theorem dX5_sendInSlot_37 : decode cX5_sendInSlot 37 = .ok (.getfield 86, 3) := by decide +kernel
theorem dX5_sendInSlot_40 : decode cX5_sendInSlot 40 = .ok (.invokevirtual 175, 3) := by decide +kernel
theorem dX5_sendInSlot_43 : decode cX5_sendInSlot 43 = .ok (.iload_n 1, 1) := by decide +kernel
theorem dX5_sendInSlot_44 : decode cX5_sendInSlot 44 = .ok (.invokevirtual 178, 3) := by decide +kernel
theorem dX5_sendInSlot_47 : decode cX5_sendInSlot 47 = .ok (.ifCond .eq 14, 3) := by decide +kernel
theorem dX5_sendInSlot_50 : decode cX5_sendInSlot 50 = .ok (.aload_n 2, 1) := by decide +kernel
theorem dX5_sendInSlot_51 : decode cX5_sendInSlot 51 = .ok (.getfield 108, 3) := by decide +kernel
theorem dX5_sendInSlot_54 : decode cX5_sendInSlot 54 = .ok (.aload_n 0, 1) := by decide +kernel
theorem dX5_sendInSlot_55 : decode cX5_sendInSlot 55 = .ok (.getfield 33, 3) := by decide +kernel
theorem dX5_sendInSlot_58 : decode cX5_sendInSlot 58 = .ok (.invokevirtual 182, 3) := by decide +kernel
theorem dX5_sendInSlot_61 : decode cX5_sendInSlot 61 = .ok (.return_, 1) := by decide +kernel
set_option maxRecDepth 20000 in
theorem ggX5_isBrokenAt_X3_between : GoodIn wsX5_isBrokenAt wsX3_between := goodIn_r _ [6, 7, 8, 9, 5, 10, 11, 12, 13, 45] (by decide +kernel) (by decide +kernel)
set_option maxRecDepth 20000 in
theorem gX5_isBrokenAt_X3_between : GoodIn wsX5_isBrokenAt (wsV RX5 50 RX3 yX3_between wsX3_between) := goodIn_app (goodIn_of _ (by decide +kernel)) ggX5_isBrokenAt_X3_between
set_option maxRecDepth 20000 in
theorem ggX5_isBrokenAt_X5_stationAt : GoodIn wsX5_isBrokenAt wsX5_stationAt := goodIn_ca (goodIn_r _ [17, 18, 19, 20, 21, 22, 23, 24, 25] (by decide +kernel) (by decide +kernel)) (goodIn_sub (fun _ h => List.mem_cons_of_mem _ (List.mem_append_right _ h)) (by decide +kernel))
set_option maxRecDepth 20000 in
theorem gX5_isBrokenAt_X5_stationAt : GoodIn wsX5_isBrokenAt (wsV RX5 37 RX5 yX5_stationAt wsX5_stationAt) := goodIn_app (goodIn_of _ (by decide +kernel)) ggX5_isBrokenAt_X5_stationAt
theorem dX5_isBrokenAt_0 : decode cX5_isBrokenAt 0 = .ok (.aload_n 0, 1) := by decide +kernel
theorem dX5_isBrokenAt_1 : decode cX5_isBrokenAt 1 = .ok (.getfield 18, 3) := by decide +kernel
theorem dX5_isBrokenAt_4 : decode cX5_isBrokenAt 4 = .ok (.iload_n 1, 1) := by decide +kernel
theorem dX5_isBrokenAt_5 : decode cX5_isBrokenAt 5 = .ok (.iload_n 2, 1) := by decide +kernel
theorem dX5_isBrokenAt_6 : decode cX5_isBrokenAt 6 = .ok (.invokevirtual 50, 3) := by decide +kernel
theorem dX5_isBrokenAt_9 : decode cX5_isBrokenAt 9 = .ok (.istore_n 3, 1) := by decide +kernel
theorem dX5_isBrokenAt_10 : decode cX5_isBrokenAt 10 = .ok (.iload_n 3, 1) := by decide +kernel
theorem dX5_isBrokenAt_11 : decode cX5_isBrokenAt 11 = .ok (.ifCond .eq 17, 3) := by decide +kernel
theorem dX5_isBrokenAt_14 : decode cX5_isBrokenAt 14 = .ok (.aload_n 0, 1) := by decide +kernel
theorem dX5_isBrokenAt_15 : decode cX5_isBrokenAt 15 = .ok (.iload_n 1, 1) := by decide +kernel
theorem dX5_isBrokenAt_16 : decode cX5_isBrokenAt 16 = .ok (.invokevirtual 37, 3) := by decide +kernel
theorem dX5_isBrokenAt_19 : decode cX5_isBrokenAt 19 = .ok (.getfield 108, 3) := by decide +kernel
theorem dX5_isBrokenAt_22 : decode cX5_isBrokenAt 22 = .ok (.getfield 112, 3) := by decide +kernel
theorem dX5_isBrokenAt_25 : decode cX5_isBrokenAt 25 = .ok (.ifCond .eq 5, 3) := by decide +kernel
theorem dX5_isBrokenAt_28 : decode cX5_isBrokenAt 28 = .ok (.iconst 1, 1) := by decide +kernel
theorem dX5_isBrokenAt_29 : decode cX5_isBrokenAt 29 = .ok (.ireturn, 1) := by decide +kernel
theorem dX5_isBrokenAt_30 : decode cX5_isBrokenAt 30 = .ok (.iconst 0, 1) := by decide +kernel
theorem dX5_isBrokenAt_31 : decode cX5_isBrokenAt 31 = .ok (.istore 4, 2) := by decide +kernel
theorem dX5_isBrokenAt_33 : decode cX5_isBrokenAt 33 = .ok (.iload 4, 2) := by decide +kernel
theorem dX5_isBrokenAt_35 : decode cX5_isBrokenAt 35 = .ok (.bipush 6, 2) := by decide +kernel
theorem dX5_isBrokenAt_37 : decode cX5_isBrokenAt 37 = .ok (.if_icmp .ge 69, 3) := by decide +kernel
theorem dX5_isBrokenAt_40 : decode cX5_isBrokenAt 40 = .ok (.aload_n 0, 1) := by decide +kernel
theorem dX5_isBrokenAt_41 : decode cX5_isBrokenAt 41 = .ok (.getfield 18, 3) := by decide +kernel
theorem dX5_isBrokenAt_44 : decode cX5_isBrokenAt 44 = .ok (.iload_n 1, 1) := by decide +kernel
theorem dX5_isBrokenAt_45 : decode cX5_isBrokenAt 45 = .ok (.iload 4, 2) := by decide +kernel
theorem dX5_isBrokenAt_47 : decode cX5_isBrokenAt 47 = .ok (.invokevirtual 50, 3) := by decide +kernel
theorem dX5_isBrokenAt_50 : decode cX5_isBrokenAt 50 = .ok (.istore 5, 2) := by decide +kernel
theorem dX5_isBrokenAt_52 : decode cX5_isBrokenAt 52 = .ok (.iload 4, 2) := by decide +kernel
theorem dX5_isBrokenAt_54 : decode cX5_isBrokenAt 54 = .ok (.iload_n 2, 1) := by decide +kernel
theorem dX5_isBrokenAt_55 : decode cX5_isBrokenAt 55 = .ok (.if_icmp .eq 27, 3) := by decide +kernel
theorem dX5_isBrokenAt_58 : decode cX5_isBrokenAt 58 = .ok (.iload 5, 2) := by decide +kernel
theorem dX5_isBrokenAt_60 : decode cX5_isBrokenAt 60 = .ok (.ifCond .le 22, 3) := by decide +kernel
theorem dX5_isBrokenAt_63 : decode cX5_isBrokenAt 63 = .ok (.aload_n 0, 1) := by decide +kernel
theorem dX5_isBrokenAt_64 : decode cX5_isBrokenAt 64 = .ok (.iload 4, 2) := by decide +kernel
theorem dX5_isBrokenAt_66 : decode cX5_isBrokenAt 66 = .ok (.invokevirtual 37, 3) := by decide +kernel
theorem dX5_isBrokenAt_69 : decode cX5_isBrokenAt 69 = .ok (.getfield 108, 3) := by decide +kernel
theorem dX5_isBrokenAt_72 : decode cX5_isBrokenAt 72 = .ok (.getfield 112, 3) := by decide +kernel
theorem dX5_isBrokenAt_75 : decode cX5_isBrokenAt 75 = .ok (.ifCond .eq 7, 3) := by decide +kernel
theorem dX5_isBrokenAt_78 : decode cX5_isBrokenAt 78 = .ok (.iconst 1, 1) := by decide +kernel
theorem dX5_isBrokenAt_79 : decode cX5_isBrokenAt 79 = .ok (.goto 4, 3) := by decide +kernel
theorem dX5_isBrokenAt_82 : decode cX5_isBrokenAt 82 = .ok (.iconst 0, 1) := by decide +kernel
theorem dX5_isBrokenAt_83 : decode cX5_isBrokenAt 83 = .ok (.istore 6, 2) := by decide +kernel
theorem dX5_isBrokenAt_85 : decode cX5_isBrokenAt 85 = .ok (.iload 6, 2) := by decide +kernel
theorem dX5_isBrokenAt_87 : decode cX5_isBrokenAt 87 = .ok (.ifCond .eq 13, 3) := by decide +kernel
theorem dX5_isBrokenAt_90 : decode cX5_isBrokenAt 90 = .ok (.iload 5, 2) := by decide +kernel
theorem dX5_isBrokenAt_92 : decode cX5_isBrokenAt 92 = .ok (.iload_n 3, 1) := by decide +kernel
theorem dX5_isBrokenAt_93 : decode cX5_isBrokenAt 93 = .ok (.iconst 3, 1) := by decide +kernel
theorem dX5_isBrokenAt_94 : decode cX5_isBrokenAt 94 = .ok (.isub, 1) := by decide +kernel
theorem dX5_isBrokenAt_95 : decode cX5_isBrokenAt 95 = .ok (.if_icmp .le 5, 3) := by decide +kernel
theorem dX5_isBrokenAt_98 : decode cX5_isBrokenAt 98 = .ok (.iconst 1, 1) := by decide +kernel
theorem dX5_isBrokenAt_99 : decode cX5_isBrokenAt 99 = .ok (.ireturn, 1) := by decide +kernel
theorem dX5_isBrokenAt_100 : decode cX5_isBrokenAt 100 = .ok (.iinc 4 1, 3) := by decide +kernel
theorem dX5_isBrokenAt_103 : decode cX5_isBrokenAt 103 = .ok (.goto (-70), 3) := by decide +kernel
theorem dX5_isBrokenAt_106 : decode cX5_isBrokenAt 106 = .ok (.iconst 0, 1) := by decide +kernel
theorem dX5_isBrokenAt_107 : decode cX5_isBrokenAt 107 = .ok (.ireturn, 1) := by decide +kernel
set_option maxRecDepth 20000 in
theorem ggX5_endsAfterSlot_X5_stationAt : GoodIn wsX5_endsAfterSlot wsX5_stationAt := goodIn_ca (goodIn_r _ [6, 7, 8, 9, 125, 126, 127, 128, 129] (by decide +kernel) (by decide +kernel)) (goodIn_sub (fun _ h => List.mem_cons_of_mem _ (List.mem_append_right _ h)) (by decide +kernel))
set_option maxRecDepth 20000 in
theorem gX5_endsAfterSlot_X5_stationAt : GoodIn wsX5_endsAfterSlot (wsV RX5 37 RX5 yX5_stationAt wsX5_stationAt) := goodIn_app (goodIn_of _ (by decide +kernel)) ggX5_endsAfterSlot_X5_stationAt
set_option maxRecDepth 20000 in
theorem ggX5_endsAfterSlot_X1_isRequest : GoodIn wsX5_endsAfterSlot wsX1_isRequest := goodIn_r _ [14, 15, 16, 118, 119, 120, 121, 122, 123, 124] (by decide +kernel) (by decide +kernel)
set_option maxRecDepth 20000 in
theorem gX5_endsAfterSlot_X1_isRequest : GoodIn wsX5_endsAfterSlot (wsV RX5 185 RX1 yX1_isRequest wsX1_isRequest) := goodIn_app (goodIn_of _ (by decide +kernel)) ggX5_endsAfterSlot_X1_isRequest
set_option maxRecDepth 20000 in
theorem ggX5_endsAfterSlot_X0_goalOfFirst : GoodIn wsX5_endsAfterSlot wsX0_goalOfFirst := goodIn_r _ [21, 22, 23, 130, 131, 132] (by decide +kernel) (by decide +kernel)
set_option maxRecDepth 20000 in
theorem gX5_endsAfterSlot_X0_goalOfFirst : GoodIn wsX5_endsAfterSlot (wsV RX5 175 RX0 yX0_goalOfFirst wsX0_goalOfFirst) := goodIn_app (goodIn_of _ (by decide +kernel)) ggX5_endsAfterSlot_X0_goalOfFirst
set_option maxRecDepth 20000 in
theorem ggX5_endsAfterSlot_X5_silenceAround : GoodIn wsX5_endsAfterSlot wsX5_silenceAround := goodIn_ca (goodIn_r _ [27, 28, 29, 30, 31, 32, 33, 34, 35, 36, 37, 38, 39, 40, 41, 42, 5, 43, 2, 3, 4, 6, 7, 8, 9, 125, 126, 127, 128, 129, 106, 107, 108, 109, 110, 111, 112, 113, 114, 115, 116, 117, 133] (by decide +kernel) (by decide +kernel)) (goodIn_sub (fun _ h => List.mem_cons_of_mem _ (List.mem_append_right _ h)) (by decide +kernel))
set_option maxRecDepth 20000 in
theorem gX5_endsAfterSlot_X5_silenceAround : GoodIn wsX5_endsAfterSlot (wsV RX5 194 RX5 yX5_silenceAround wsX5_silenceAround) := goodIn_app (goodIn_of _ (by decide +kernel)) ggX5_endsAfterSlot_X5_silenceAround
set_option maxRecDepth 20000 in
theorem ggX5_endsAfterSlot_X2_end : GoodIn wsX5_endsAfterSlot wsX2_end := goodIn_r _ [48, 49, 50, 51, 52, 53, 13, 54, 16, 55, 56, 57, 58, 59, 60, 61, 62, 63, 64, 47, 65, 66, 67, 68, 69, 31, 70, 71, 72, 73, 74, 75, 20, 76, 22, 23, 77, 78, 30, 32, 79, 80, 81, 82, 83, 84, 5, 85, 86, 87, 88, 89, 90, 91, 92, 93, 94, 95, 96, 97, 98, 99, 100, 101, 102, 103, 104, 105, 106, 107, 108, 109, 110, 111, 112, 113, 114, 115, 116, 117, 118, 119, 120, 121, 122, 123, 124, 130, 131, 132] (by decide +kernel) (by decide +kernel)
set_option maxRecDepth 20000 in
theorem gX5_endsAfterSlot_X2_end : GoodIn wsX5_endsAfterSlot (wsV RX5 197 RX2 yX2_end wsX2_end) := goodIn_app (goodIn_of _ (by decide +kernel)) ggX5_endsAfterSlot_X2_end
theorem dX5_endsAfterSlot_0 : decode cX5_endsAfterSlot 0 = .ok (.aload_n 0, 1) := by decide +kernel
theorem dX5_endsAfterSlot_1 : decode cX5_endsAfterSlot 1 = .ok (.iload_n 1, 1) := by decide +kernel
theorem dX5_endsAfterSlot_2 : decode cX5_endsAfterSlot 2 = .ok (.invokevirtual 37, 3) := by decide +kernel
theorem dX5_endsAfterSlot_5 : decode cX5_endsAfterSlot 5 = .ok (.astore_n 2, 1) := by decide +kernel
theorem dX5_endsAfterSlot_6 : decode cX5_endsAfterSlot 6 = .ok (.aload_n 2, 1) := by decide +kernel
theorem dX5_endsAfterSlot_7 : decode cX5_endsAfterSlot 7 = .ok (.getfield 108, 3) := by decide +kernel
theorem dX5_endsAfterSlot_10 : decode cX5_endsAfterSlot 10 = .ok (.getfield 112, 3) := by decide +kernel
theorem dX5_endsAfterSlot_13 : decode cX5_endsAfterSlot 13 = .ok (.ifCond .ne 5, 3) := by decide +kernel
theorem dX5_endsAfterSlot_16 : decode cX5_endsAfterSlot 16 = .ok (.iconst 0, 1) := by decide +kernel
theorem dX5_endsAfterSlot_17 : decode cX5_endsAfterSlot 17 = .ok (.ireturn, 1) := by decide +kernel
theorem dX5_endsAfterSlot_18 : decode cX5_endsAfterSlot 18 = .ok (.aload_n 2, 1) := by decide +kernel
theorem dX5_endsAfterSlot_19 : decode cX5_endsAfterSlot 19 = .ok (.getfield 108, 3) := by decide +kernel
theorem dX5_endsAfterSlot_22 : decode cX5_endsAfterSlot 22 = .ok (.aload_n 0, 1) := by decide +kernel
theorem dX5_endsAfterSlot_23 : decode cX5_endsAfterSlot 23 = .ok (.getfield 33, 3) := by decide +kernel
theorem dX5_endsAfterSlot_26 : decode cX5_endsAfterSlot 26 = .ok (.invokevirtual 185, 3) := by decide +kernel
theorem dX5_endsAfterSlot_29 : decode cX5_endsAfterSlot 29 = .ok (.ifCond .eq 34, 3) := by decide +kernel
theorem dX5_endsAfterSlot_32 : decode cX5_endsAfterSlot 32 = .ok (.aload_n 2, 1) := by decide +kernel
theorem dX5_endsAfterSlot_33 : decode cX5_endsAfterSlot 33 = .ok (.getfield 108, 3) := by decide +kernel
theorem dX5_endsAfterSlot_36 : decode cX5_endsAfterSlot 36 = .ok (.getfield 188, 3) := by decide +kernel
theorem dX5_endsAfterSlot_39 : decode cX5_endsAfterSlot 39 = .ok (.ifCond .ne 24, 3) := by decide +kernel
theorem dX5_endsAfterSlot_42 : decode cX5_endsAfterSlot 42 = .ok (.aload_n 0, 1) := by decide +kernel
theorem dX5_endsAfterSlot_43 : decode cX5_endsAfterSlot 43 = .ok (.aload_n 2, 1) := by decide +kernel
theorem dX5_endsAfterSlot_44 : decode cX5_endsAfterSlot 44 = .ok (.getfield 86, 3) := by decide +kernel
theorem dX5_endsAfterSlot_47 : decode cX5_endsAfterSlot 47 = .ok (.invokevirtual 175, 3) := by decide +kernel
theorem dX5_endsAfterSlot_50 : decode cX5_endsAfterSlot 50 = .ok (.iload_n 1, 1) := by decide +kernel
theorem dX5_endsAfterSlot_51 : decode cX5_endsAfterSlot 51 = .ok (.aload_n 2, 1) := by decide +kernel
theorem dX5_endsAfterSlot_52 : decode cX5_endsAfterSlot 52 = .ok (.getfield 108, 3) := by decide +kernel
theorem dX5_endsAfterSlot_55 : decode cX5_endsAfterSlot 55 = .ok (.getfield 191, 3) := by decide +kernel
theorem dX5_endsAfterSlot_58 : decode cX5_endsAfterSlot 58 = .ok (.invokevirtual 194, 3) := by decide +kernel
theorem dX5_endsAfterSlot_61 : decode cX5_endsAfterSlot 61 = .ok (.iconst 0, 1) := by decide +kernel
theorem dX5_endsAfterSlot_62 : decode cX5_endsAfterSlot 62 = .ok (.ireturn, 1) := by decide +kernel
theorem dX5_endsAfterSlot_63 : decode cX5_endsAfterSlot 63 = .ok (.aload_n 2, 1) := by decide +kernel
theorem dX5_endsAfterSlot_64 : decode cX5_endsAfterSlot 64 = .ok (.getfield 108, 3) := by decide +kernel
theorem dX5_endsAfterSlot_67 : decode cX5_endsAfterSlot 67 = .ok (.aload_n 0, 1) := by decide +kernel
theorem dX5_endsAfterSlot_68 : decode cX5_endsAfterSlot 68 = .ok (.getfield 33, 3) := by decide +kernel
theorem dX5_endsAfterSlot_71 : decode cX5_endsAfterSlot 71 = .ok (.invokevirtual 185, 3) := by decide +kernel
theorem dX5_endsAfterSlot_74 : decode cX5_endsAfterSlot 74 = .ok (.ifCond .ne 17, 3) := by decide +kernel
theorem dX5_endsAfterSlot_77 : decode cX5_endsAfterSlot 77 = .ok (.aload_n 0, 1) := by decide +kernel
theorem dX5_endsAfterSlot_78 : decode cX5_endsAfterSlot 78 = .ok (.getfield 33, 3) := by decide +kernel
theorem dX5_endsAfterSlot_81 : decode cX5_endsAfterSlot 81 = .ok (.aload_n 2, 1) := by decide +kernel
theorem dX5_endsAfterSlot_82 : decode cX5_endsAfterSlot 82 = .ok (.getfield 108, 3) := by decide +kernel
theorem dX5_endsAfterSlot_85 : decode cX5_endsAfterSlot 85 = .ok (.getfield 191, 3) := by decide +kernel
theorem dX5_endsAfterSlot_88 : decode cX5_endsAfterSlot 88 = .ok (.if_icmp .lt 13, 3) := by decide +kernel
theorem dX5_endsAfterSlot_91 : decode cX5_endsAfterSlot 91 = .ok (.aload_n 2, 1) := by decide +kernel
theorem dX5_endsAfterSlot_92 : decode cX5_endsAfterSlot 92 = .ok (.aload_n 0, 1) := by decide +kernel
theorem dX5_endsAfterSlot_93 : decode cX5_endsAfterSlot 93 = .ok (.getfield 33, 3) := by decide +kernel
theorem dX5_endsAfterSlot_96 : decode cX5_endsAfterSlot 96 = .ok (.invokevirtual 197, 3) := by decide +kernel
theorem dX5_endsAfterSlot_99 : decode cX5_endsAfterSlot 99 = .ok (.iconst 1, 1) := by decide +kernel
theorem dX5_endsAfterSlot_100 : decode cX5_endsAfterSlot 100 = .ok (.ireturn, 1) := by decide +kernel
theorem dX5_endsAfterSlot_101 : decode cX5_endsAfterSlot 101 = .ok (.iconst 0, 1) := by decide +kernel
theorem dX5_endsAfterSlot_102 : decode cX5_endsAfterSlot 102 = .ok (.ireturn, 1) := by decide +kernel
set_option maxRecDepth 20000 in
theorem ggX5_silenceAround_X3_between : GoodIn wsX5_silenceAround wsX3_between := goodIn_r _ [10, 11, 12, 13, 9, 14, 15, 16, 17, 42] (by decide +kernel) (by decide +kernel)
set_option maxRecDepth 20000 in
theorem gX5_silenceAround_X3_between : GoodIn wsX5_silenceAround (wsV RX5 50 RX3 yX3_between wsX3_between) := goodIn_app (goodIn_of _ (by decide +kernel)) ggX5_silenceAround_X3_between
set_option maxRecDepth 20000 in
theorem ggX5_silenceAround_X5_stationAt : GoodIn wsX5_silenceAround wsX5_stationAt := goodIn_ca (goodIn_r _ [21, 22, 23, 24, 25, 26, 27, 28, 29] (by decide +kernel) (by decide +kernel)) (goodIn_sub (fun _ h => List.mem_cons_of_mem _ (List.mem_append_right _ h)) (by decide +kernel))
set_option maxRecDepth 20000 in
theorem gX5_silenceAround_X5_stationAt : GoodIn wsX5_silenceAround (wsV RX5 37 RX5 yX5_stationAt wsX5_stationAt) := goodIn_app (goodIn_of _ (by decide +kernel)) ggX5_silenceAround_X5_stationAt
theorem dX5_silenceAround_0 : decode cX5_silenceAround 0 = .ok (.iconst 0, 1) := by decide +kernel
theorem dX5_silenceAround_1 : decode cX5_silenceAround 1 = .ok (.istore 4, 2) := by decide +kernel
theorem dX5_silenceAround_3 : decode cX5_silenceAround 3 = .ok (.iload 4, 2) := by decide +kernel
theorem dX5_silenceAround_5 : decode cX5_silenceAround 5 = .ok (.bipush 6, 2) := by decide +kernel
theorem dX5_silenceAround_7 : decode cX5_silenceAround 7 = .ok (.if_icmp .ge 50, 3) := by decide +kernel
theorem dX5_silenceAround_10 : decode cX5_silenceAround 10 = .ok (.iload 4, 2) := by decide +kernel
theorem dX5_silenceAround_12 : decode cX5_silenceAround 12 = .ok (.iload_n 2, 1) := by decide +kernel
theorem dX5_silenceAround_13 : decode cX5_silenceAround 13 = .ok (.if_icmp .eq 38, 3) := by decide +kernel
theorem dX5_silenceAround_16 : decode cX5_silenceAround 16 = .ok (.aload_n 0, 1) := by decide +kernel
theorem dX5_silenceAround_17 : decode cX5_silenceAround 17 = .ok (.getfield 18, 3) := by decide +kernel
theorem dX5_silenceAround_20 : decode cX5_silenceAround 20 = .ok (.iload_n 1, 1) := by decide +kernel
theorem dX5_silenceAround_21 : decode cX5_silenceAround 21 = .ok (.iload 4, 2) := by decide +kernel
theorem dX5_silenceAround_23 : decode cX5_silenceAround 23 = .ok (.invokevirtual 50, 3) := by decide +kernel
theorem dX5_silenceAround_26 : decode cX5_silenceAround 26 = .ok (.ifCond .le 25, 3) := by decide +kernel
theorem dX5_silenceAround_29 : decode cX5_silenceAround 29 = .ok (.aload_n 0, 1) := by decide +kernel
theorem dX5_silenceAround_30 : decode cX5_silenceAround 30 = .ok (.iload 4, 2) := by decide +kernel
theorem dX5_silenceAround_32 : decode cX5_silenceAround 32 = .ok (.invokevirtual 37, 3) := by decide +kernel
theorem dX5_silenceAround_35 : decode cX5_silenceAround 35 = .ok (.astore 5, 2) := by decide +kernel
theorem dX5_silenceAround_37 : decode cX5_silenceAround 37 = .ok (.aload 5, 2) := by decide +kernel
theorem dX5_silenceAround_39 : decode cX5_silenceAround 39 = .ok (.aload 5, 2) := by decide +kernel
theorem dX5_silenceAround_41 : decode cX5_silenceAround 41 = .ok (.getfield 124, 3) := by decide +kernel
theorem dX5_silenceAround_44 : decode cX5_silenceAround 44 = .ok (.iload_n 3, 1) := by decide +kernel
theorem dX5_silenceAround_45 : decode cX5_silenceAround 45 = .ok (.invokestatic 200, 3) := by decide +kernel
theorem dX5_silenceAround_48 : decode cX5_silenceAround 48 = .ok (.putfield 124, 3) := by decide +kernel
theorem dX5_silenceAround_51 : decode cX5_silenceAround 51 = .ok (.iinc 4 1, 3) := by decide +kernel
theorem dX5_silenceAround_54 : decode cX5_silenceAround 54 = .ok (.goto (-51), 3) := by decide +kernel
theorem dX5_silenceAround_57 : decode cX5_silenceAround 57 = .ok (.return_, 1) := by decide +kernel
theorem dJ6_bitCount_0f7a4_0 : decode cJ6_bitCount_0f7a4 0 = .ok (.iload_n 0, 1) := by decide +kernel
theorem dJ6_bitCount_0f7a4_1 : decode cJ6_bitCount_0f7a4 1 = .ok (.iload_n 0, 1) := by decide +kernel
theorem dJ6_bitCount_0f7a4_2 : decode cJ6_bitCount_0f7a4 2 = .ok (.iconst 1, 1) := by decide +kernel
theorem dJ6_bitCount_0f7a4_3 : decode cJ6_bitCount_0f7a4 3 = .ok (.iushr, 1) := by decide +kernel
theorem dJ6_bitCount_0f7a4_4 : decode cJ6_bitCount_0f7a4 4 = .ok (.ldc_w 265, 3) := by decide +kernel
theorem dJ6_bitCount_0f7a4_7 : decode cJ6_bitCount_0f7a4 7 = .ok (.iand, 1) := by decide +kernel
theorem dJ6_bitCount_0f7a4_8 : decode cJ6_bitCount_0f7a4 8 = .ok (.isub, 1) := by decide +kernel
theorem dJ6_bitCount_0f7a4_9 : decode cJ6_bitCount_0f7a4 9 = .ok (.istore_n 0, 1) := by decide +kernel
theorem dJ6_bitCount_0f7a4_10 : decode cJ6_bitCount_0f7a4 10 = .ok (.iload_n 0, 1) := by decide +kernel
theorem dJ6_bitCount_0f7a4_11 : decode cJ6_bitCount_0f7a4 11 = .ok (.ldc_w 266, 3) := by decide +kernel
theorem dJ6_bitCount_0f7a4_14 : decode cJ6_bitCount_0f7a4 14 = .ok (.iand, 1) := by decide +kernel
theorem dJ6_bitCount_0f7a4_15 : decode cJ6_bitCount_0f7a4 15 = .ok (.iload_n 0, 1) := by decide +kernel
theorem dJ6_bitCount_0f7a4_16 : decode cJ6_bitCount_0f7a4 16 = .ok (.iconst 2, 1) := by decide +kernel
theorem dJ6_bitCount_0f7a4_17 : decode cJ6_bitCount_0f7a4 17 = .ok (.iushr, 1) := by decide +kernel
theorem dJ6_bitCount_0f7a4_18 : decode cJ6_bitCount_0f7a4 18 = .ok (.ldc_w 266, 3) := by decide +kernel
theorem dJ6_bitCount_0f7a4_21 : decode cJ6_bitCount_0f7a4 21 = .ok (.iand, 1) := by decide +kernel
theorem dJ6_bitCount_0f7a4_22 : decode cJ6_bitCount_0f7a4 22 = .ok (.iadd, 1) := by decide +kernel
theorem dJ6_bitCount_0f7a4_23 : decode cJ6_bitCount_0f7a4 23 = .ok (.istore_n 0, 1) := by decide +kernel
theorem dJ6_bitCount_0f7a4_24 : decode cJ6_bitCount_0f7a4 24 = .ok (.iload_n 0, 1) := by decide +kernel
theorem dJ6_bitCount_0f7a4_25 : decode cJ6_bitCount_0f7a4 25 = .ok (.iload_n 0, 1) := by decide +kernel
theorem dJ6_bitCount_0f7a4_26 : decode cJ6_bitCount_0f7a4 26 = .ok (.iconst 4, 1) := by decide +kernel
theorem dJ6_bitCount_0f7a4_27 : decode cJ6_bitCount_0f7a4 27 = .ok (.iushr, 1) := by decide +kernel
theorem dJ6_bitCount_0f7a4_28 : decode cJ6_bitCount_0f7a4 28 = .ok (.iadd, 1) := by decide +kernel
theorem dJ6_bitCount_0f7a4_29 : decode cJ6_bitCount_0f7a4 29 = .ok (.ldc_w 267, 3) := by decide +kernel
theorem dJ6_bitCount_0f7a4_32 : decode cJ6_bitCount_0f7a4 32 = .ok (.iand, 1) := by decide +kernel
theorem dJ6_bitCount_0f7a4_33 : decode cJ6_bitCount_0f7a4 33 = .ok (.istore_n 0, 1) := by decide +kernel
theorem dJ6_bitCount_0f7a4_34 : decode cJ6_bitCount_0f7a4 34 = .ok (.iload_n 0, 1) := by decide +kernel
theorem dJ6_bitCount_0f7a4_35 : decode cJ6_bitCount_0f7a4 35 = .ok (.iload_n 0, 1) := by decide +kernel
theorem dJ6_bitCount_0f7a4_36 : decode cJ6_bitCount_0f7a4 36 = .ok (.bipush 8, 2) := by decide +kernel
theorem dJ6_bitCount_0f7a4_38 : decode cJ6_bitCount_0f7a4 38 = .ok (.iushr, 1) := by decide +kernel
theorem dJ6_bitCount_0f7a4_39 : decode cJ6_bitCount_0f7a4 39 = .ok (.iadd, 1) := by decide +kernel
theorem dJ6_bitCount_0f7a4_40 : decode cJ6_bitCount_0f7a4 40 = .ok (.istore_n 0, 1) := by decide +kernel
theorem dJ6_bitCount_0f7a4_41 : decode cJ6_bitCount_0f7a4 41 = .ok (.iload_n 0, 1) := by decide +kernel
theorem dJ6_bitCount_0f7a4_42 : decode cJ6_bitCount_0f7a4 42 = .ok (.iload_n 0, 1) := by decide +kernel
theorem dJ6_bitCount_0f7a4_43 : decode cJ6_bitCount_0f7a4 43 = .ok (.bipush 16, 2) := by decide +kernel
theorem dJ6_bitCount_0f7a4_45 : decode cJ6_bitCount_0f7a4 45 = .ok (.iushr, 1) := by decide +kernel
theorem dJ6_bitCount_0f7a4_46 : decode cJ6_bitCount_0f7a4 46 = .ok (.iadd, 1) := by decide +kernel
theorem dJ6_bitCount_0f7a4_47 : decode cJ6_bitCount_0f7a4 47 = .ok (.istore_n 0, 1) := by decide +kernel
theorem dJ6_bitCount_0f7a4_48 : decode cJ6_bitCount_0f7a4 48 = .ok (.iload_n 0, 1) := by decide +kernel
theorem dJ6_bitCount_0f7a4_49 : decode cJ6_bitCount_0f7a4 49 = .ok (.bipush 63, 2) := by decide +kernel
theorem dJ6_bitCount_0f7a4_51 : decode cJ6_bitCount_0f7a4 51 = .ok (.iand, 1) := by decide +kernel
theorem dJ6_bitCount_0f7a4_52 : decode cJ6_bitCount_0f7a4 52 = .ok (.ireturn, 1) := by decide +kernel
theorem dJ9_max_7cf53_0 : decode cJ9_max_7cf53 0 = .ok (.iload_n 0, 1) := by decide +kernel
theorem dJ9_max_7cf53_1 : decode cJ9_max_7cf53 1 = .ok (.iload_n 1, 1) := by decide +kernel
theorem dJ9_max_7cf53_2 : decode cJ9_max_7cf53 2 = .ok (.if_icmp .lt 7, 3) := by decide +kernel
theorem dJ9_max_7cf53_5 : decode cJ9_max_7cf53 5 = .ok (.iload_n 0, 1) := by decide +kernel
theorem dJ9_max_7cf53_6 : decode cJ9_max_7cf53 6 = .ok (.goto 4, 3) := by decide +kernel
theorem dJ9_max_7cf53_9 : decode cJ9_max_7cf53 9 = .ok (.iload_n 1, 1) := by decide +kernel
theorem dJ9_max_7cf53_10 : decode cJ9_max_7cf53 10 = .ok (.ireturn, 1) := by decide +kernel
theorem dJ9_min_7cf53_0 : decode cJ9_min_7cf53 0 = .ok (.iload_n 0, 1) := by decide +kernel
theorem dJ9_min_7cf53_1 : decode cJ9_min_7cf53 1 = .ok (.iload_n 1, 1) := by decide +kernel
theorem dJ9_min_7cf53_2 : decode cJ9_min_7cf53 2 = .ok (.if_icmp .gt 7, 3) := by decide +kernel
theorem dJ9_min_7cf53_5 : decode cJ9_min_7cf53 5 = .ok (.iload_n 0, 1) := by decide +kernel
theorem dJ9_min_7cf53_6 : decode cJ9_min_7cf53 6 = .ok (.goto 4, 3) := by decide +kernel
theorem dJ9_min_7cf53_9 : decode cJ9_min_7cf53 9 = .ok (.iload_n 1, 1) := by decide +kernel
theorem dJ9_min_7cf53_10 : decode cJ9_min_7cf53 10 = .ok (.ireturn, 1) := by decide +kernel
set_option maxRecDepth 20000 in
theorem ggL_tells_X5_tell : GoodIn wsL_tells wsX5_tell := goodIn_ca (goodIn_ca (goodIn_r _ [6, 7, 8, 9, 10, 11, 12, 13, 14, 15, 16, 17, 18, 19, 20, 21, 22, 23, 24, 25, 26, 27] (by decide +kernel) (by decide +kernel)) (goodIn_sub (fun _ h => List.mem_cons_of_mem _ (List.mem_append_left _ (List.mem_append_right _ h))) (by decide +kernel))) (goodIn_sub (fun _ h => List.mem_cons_of_mem _ (List.mem_append_right _ h)) (by decide +kernel))
set_option maxRecDepth 20000 in
theorem gL_tells_X5_tell : GoodIn wsL_tells (wsV RL 7 RX5 yX5_tell wsX5_tell) := goodIn_app (goodIn_of _ (by decide +kernel)) ggL_tells_X5_tell
set_option maxRecDepth 20000 in
theorem ggL_frames_X5_frame : GoodIn wsL_frames wsX5_frame := goodIn_ca (goodIn_ca (goodIn_ca (goodIn_r _ [6, 7, 8, 9, 10, 11, 12, 13, 5, 14, 15, 16, 17, 18, 19, 20, 21, 22, 23, 24, 25, 26, 27, 28, 29, 30, 31, 32, 33, 34, 35, 36, 37, 38, 39, 40, 41, 42, 43, 44, 45] (by decide +kernel) (by decide +kernel)) (goodIn_sub (fun _ h => List.mem_cons_of_mem _ (List.mem_append_left _ (List.mem_append_left _ (List.mem_append_right _ h)))) (by decide +kernel))) (goodIn_sub (fun _ h => List.mem_cons_of_mem _ (List.mem_append_left _ (List.mem_append_right _ h))) (by decide +kernel))) (goodIn_sub (fun _ h => List.mem_cons_of_mem _ (List.mem_append_right _ h)) (by decide +kernel))
set_option maxRecDepth 20000 in
theorem gL_frames_X5_frame : GoodIn wsL_frames (wsV RL 15 RX5 yX5_frame wsX5_frame) := goodIn_app (goodIn_of _ (by decide +kernel)) ggL_frames_X5_frame
set_option maxRecDepth 20000 in
theorem ggL_isStation_X5_window : GoodIn wsL_isStation wsX5_window := goodIn_ca (goodIn_r _ [5, 6, 7, 8, 4, 9, 10, 11, 12, 67, 68, 69, 70, 71, 72, 73, 74, 75, 76, 77, 78, 79, 80, 81, 82, 83] (by decide +kernel) (by decide +kernel)) (goodIn_sub (fun _ h => List.mem_cons_of_mem _ (List.mem_append_right _ h)) (by decide +kernel))
set_option maxRecDepth 20000 in
theorem gL_isStation_X5_window : GoodIn wsL_isStation (wsV RL 19 RX5 yX5_window wsX5_window) := goodIn_app (goodIn_of _ (by decide +kernel)) ggL_isStation_X5_window
set_option maxRecDepth 20000 in
theorem ggL_isStation_X5_failures : GoodIn wsL_isStation wsX5_failures := goodIn_ca (goodIn_r _ [16, 6, 7, 8, 4, 9, 10, 11, 12, 67, 68, 69, 70, 71, 72, 73, 74, 75, 76, 77, 78, 79, 80, 81, 82, 83] (by decide +kernel) (by decide +kernel)) (goodIn_sub (fun _ h => List.mem_cons_of_mem _ (List.mem_append_right _ h)) (by decide +kernel))
set_option maxRecDepth 20000 in
theorem gL_isStation_X5_failures : GoodIn wsL_isStation (wsV RL 22 RX5 yX5_failures wsX5_failures) := goodIn_app (goodIn_of _ (by decide +kernel)) ggL_isStation_X5_failures
set_option maxRecDepth 20000 in
theorem ggL_isStation_X5_waitOf : GoodIn wsL_isStation wsX5_waitOf := goodIn_ca (goodIn_r _ [20, 6, 7, 8, 4, 9, 10, 11, 12, 67, 68, 69, 70, 71, 72, 73, 74, 75, 76, 77, 78, 79, 80, 81, 82, 83] (by decide +kernel) (by decide +kernel)) (goodIn_sub (fun _ h => List.mem_cons_of_mem _ (List.mem_append_right _ h)) (by decide +kernel))
set_option maxRecDepth 20000 in
theorem gL_isStation_X5_waitOf : GoodIn wsL_isStation (wsV RL 25 RX5 yX5_waitOf wsX5_waitOf) := goodIn_app (goodIn_of _ (by decide +kernel)) ggL_isStation_X5_waitOf
set_option maxRecDepth 20000 in
theorem ggL_isStation_X5_silencedTo : GoodIn wsL_isStation wsX5_silencedTo := goodIn_ca (goodIn_r _ [24, 6, 7, 8, 4, 9, 10, 11, 12, 67, 68, 69, 70, 71, 72, 73, 74, 75, 76, 77, 78, 79, 80, 81, 82, 83] (by decide +kernel) (by decide +kernel)) (goodIn_sub (fun _ h => List.mem_cons_of_mem _ (List.mem_append_right _ h)) (by decide +kernel))
set_option maxRecDepth 20000 in
theorem gL_isStation_X5_silencedTo : GoodIn wsL_isStation (wsV RL 28 RX5 yX5_silencedTo wsX5_silencedTo) := goodIn_app (goodIn_of _ (by decide +kernel)) ggL_isStation_X5_silencedTo
set_option maxRecDepth 20000 in
theorem ggL_isStation_X5_now : GoodIn wsL_isStation wsX5_now := goodIn_r _ [28, 29, 79, 80, 81, 82, 83] (by decide +kernel) (by decide +kernel)
set_option maxRecDepth 20000 in
theorem gL_isStation_X5_now : GoodIn wsL_isStation (wsV RL 31 RX5 yX5_now wsX5_now) := goodIn_app (goodIn_of _ (by decide +kernel)) ggL_isStation_X5_now
set_option maxRecDepth 20000 in
theorem ggL_isStation_X5_sends : GoodIn wsL_isStation wsX5_sends := goodIn_ca (goodIn_r _ [33, 6, 7, 8, 4, 9, 10, 11, 12, 67, 68, 69, 70, 71, 72, 73, 74, 75, 76, 77, 78, 84, 85, 86, 87, 88, 89, 90, 79, 80, 81, 82, 83] (by decide +kernel) (by decide +kernel)) (goodIn_sub (fun _ h => List.mem_cons_of_mem _ (List.mem_append_right _ h)) (by decide +kernel))
set_option maxRecDepth 20000 in
theorem gL_isStation_X5_sends : GoodIn wsL_isStation (wsV RL 35 RX5 yX5_sends wsX5_sends) := goodIn_app (goodIn_of _ (by decide +kernel)) ggL_isStation_X5_sends
set_option maxRecDepth 20000 in
theorem ggL_isStation_X5_frames : GoodIn wsL_isStation wsX5_frames := goodIn_ca (goodIn_r _ [37, 6, 7, 8, 4, 9, 10, 11, 12, 67, 68, 69, 70, 71, 72, 73, 74, 75, 76, 77, 78, 91, 92, 93, 79, 80, 81, 82, 83] (by decide +kernel) (by decide +kernel)) (goodIn_sub (fun _ h => List.mem_cons_of_mem _ (List.mem_append_right _ h)) (by decide +kernel))
set_option maxRecDepth 20000 in
theorem gL_isStation_X5_frames : GoodIn wsL_isStation (wsV RL 39 RX5 yX5_frames wsX5_frames) := goodIn_app (goodIn_of _ (by decide +kernel)) ggL_isStation_X5_frames
set_option maxRecDepth 20000 in
theorem ggL_isStation_X5_partsLeft : GoodIn wsL_isStation wsX5_partsLeft := goodIn_ca (goodIn_r _ [41, 6, 7, 8, 4, 9, 10, 11, 12, 42, 43, 44, 45, 46, 47, 48, 67, 68, 69, 70, 71, 72, 73, 74, 75, 76, 77, 78, 79, 80, 81, 82, 83, 91, 92, 93] (by decide +kernel) (by decide +kernel)) (goodIn_sub (fun _ h => List.mem_cons_of_mem _ (List.mem_append_right _ h)) (by decide +kernel))
set_option maxRecDepth 20000 in
theorem gL_isStation_X5_partsLeft : GoodIn wsL_isStation (wsV RL 42 RX5 yX5_partsLeft wsX5_partsLeft) := goodIn_app (goodIn_of _ (by decide +kernel)) ggL_isStation_X5_partsLeft
set_option maxRecDepth 20000 in
theorem ggL_isStation_X5_airtime : GoodIn wsL_isStation wsX5_airtime := goodIn_ca (goodIn_r _ [52, 6, 7, 8, 4, 9, 10, 11, 12, 67, 68, 69, 70, 71, 72, 73, 74, 75, 76, 77, 78, 79, 80, 81, 82, 83] (by decide +kernel) (by decide +kernel)) (goodIn_sub (fun _ h => List.mem_cons_of_mem _ (List.mem_append_right _ h)) (by decide +kernel))
set_option maxRecDepth 20000 in
theorem gL_isStation_X5_airtime : GoodIn wsL_isStation (wsV RL 45 RX5 yX5_airtime wsX5_airtime) := goodIn_app (goodIn_of _ (by decide +kernel)) ggL_isStation_X5_airtime
set_option maxRecDepth 20000 in
theorem ggL_isStation_X5_airtimeBySendings : GoodIn wsL_isStation wsX5_airtimeBySendings := goodIn_ca (goodIn_r _ [56, 29, 6, 7, 8, 4, 9, 10, 11, 12, 57, 58, 59, 60, 61, 62, 67, 68, 69, 70, 71, 72, 73, 74, 75, 76, 77, 78, 84, 85, 86, 87, 88, 89, 90, 79, 80, 81, 82, 83] (by decide +kernel) (by decide +kernel)) (goodIn_sub (fun _ h => List.mem_cons_of_mem _ (List.mem_append_right _ h)) (by decide +kernel))
set_option maxRecDepth 20000 in
theorem gL_isStation_X5_airtimeBySendings : GoodIn wsL_isStation (wsV RL 48 RX5 yX5_airtimeBySendings wsX5_airtimeBySendings) := goodIn_app (goodIn_of _ (by decide +kernel)) ggL_isStation_X5_airtimeBySendings
set_option maxRecDepth 20000 in
theorem ggL_isStation_X5_delivered : GoodIn wsL_isStation wsX5_delivered := goodIn_ca (goodIn_r _ [66, 6, 7, 8, 4, 9, 10, 11, 12, 67, 68, 69, 70, 71, 72, 73, 74, 75, 76, 77, 78, 79, 80, 81, 82, 83] (by decide +kernel) (by decide +kernel)) (goodIn_sub (fun _ h => List.mem_cons_of_mem _ (List.mem_append_right _ h)) (by decide +kernel))
set_option maxRecDepth 20000 in
theorem gL_isStation_X5_delivered : GoodIn wsL_isStation (wsV RL 51 RX5 yX5_delivered wsX5_delivered) := goodIn_app (goodIn_of _ (by decide +kernel)) ggL_isStation_X5_delivered
set_option maxRecDepth 20000 in
theorem ggL_isSlot_X5_now : GoodIn wsL_isSlot wsX5_now := goodIn_r _ [5, 6, 219, 220, 221, 222, 223] (by decide +kernel) (by decide +kernel)
set_option maxRecDepth 20000 in
theorem gL_isSlot_X5_now : GoodIn wsL_isSlot (wsV RL 31 RX5 yX5_now wsX5_now) := goodIn_app (goodIn_of _ (by decide +kernel)) ggL_isSlot_X5_now
set_option maxRecDepth 20000 in
theorem ggL_isSlot_X5_sends : GoodIn wsL_isSlot wsX5_sends := goodIn_ca (goodIn_r _ [10, 11, 12, 13, 4, 14, 15, 16, 17, 224, 225, 226, 227, 228, 229, 230, 231, 232, 233, 234, 235, 236, 237, 238, 239, 240, 241, 242, 219, 220, 221, 222, 223] (by decide +kernel) (by decide +kernel)) (goodIn_sub (fun _ h => List.mem_cons_of_mem _ (List.mem_append_left _ (List.mem_append_right _ h))) (by decide +kernel))
set_option maxRecDepth 20000 in
theorem gL_isSlot_X5_sends : GoodIn wsL_isSlot (wsV RL 35 RX5 yX5_sends wsX5_sends) := goodIn_app (goodIn_of _ (by decide +kernel)) ggL_isSlot_X5_sends
set_option maxRecDepth 20000 in
theorem ggL_isSlot_X5_waitOf : GoodIn wsL_isSlot wsX5_waitOf := goodIn_ca (goodIn_r _ [21, 11, 12, 13, 4, 14, 15, 16, 17, 224, 225, 226, 227, 228, 229, 230, 231, 232, 233, 234, 235, 219, 220, 221, 222, 223] (by decide +kernel) (by decide +kernel)) (goodIn_sub (fun _ h => List.mem_cons_of_mem _ (List.mem_append_left _ (List.mem_append_right _ h))) (by decide +kernel))
set_option maxRecDepth 20000 in
theorem gL_isSlot_X5_waitOf : GoodIn wsL_isSlot (wsV RL 25 RX5 yX5_waitOf wsX5_waitOf) := goodIn_app (goodIn_of _ (by decide +kernel)) ggL_isSlot_X5_waitOf
set_option maxRecDepth 20000 in
theorem ggL_isSlot_X5_frames : GoodIn wsL_isSlot wsX5_frames := goodIn_ca (goodIn_r _ [25, 11, 12, 13, 4, 14, 15, 16, 17, 224, 225, 226, 227, 228, 229, 230, 231, 232, 233, 234, 235, 243, 244, 245, 219, 220, 221, 222, 223] (by decide +kernel) (by decide +kernel)) (goodIn_sub (fun _ h => List.mem_cons_of_mem _ (List.mem_append_left _ (List.mem_append_right _ h))) (by decide +kernel))
set_option maxRecDepth 20000 in
theorem gL_isSlot_X5_frames : GoodIn wsL_isSlot (wsV RL 39 RX5 yX5_frames wsX5_frames) := goodIn_app (goodIn_of _ (by decide +kernel)) ggL_isSlot_X5_frames
set_option maxRecDepth 20000 in
theorem ggL_isSlot_X5_airtime : GoodIn wsL_isSlot wsX5_airtime := goodIn_ca (goodIn_r _ [29, 11, 12, 13, 4, 14, 15, 16, 17, 224, 225, 226, 227, 228, 229, 230, 231, 232, 233, 234, 235, 219, 220, 221, 222, 223] (by decide +kernel) (by decide +kernel)) (goodIn_sub (fun _ h => List.mem_cons_of_mem _ (List.mem_append_left _ (List.mem_append_right _ h))) (by decide +kernel))
set_option maxRecDepth 20000 in
theorem gL_isSlot_X5_airtime : GoodIn wsL_isSlot (wsV RL 45 RX5 yX5_airtime wsX5_airtime) := goodIn_app (goodIn_of _ (by decide +kernel)) ggL_isSlot_X5_airtime
set_option maxRecDepth 20000 in
theorem ggL_isSlot_X5_silencedTo : GoodIn wsL_isSlot wsX5_silencedTo := goodIn_ca (goodIn_r _ [33, 11, 12, 13, 4, 14, 15, 16, 17, 224, 225, 226, 227, 228, 229, 230, 231, 232, 233, 234, 235, 219, 220, 221, 222, 223] (by decide +kernel) (by decide +kernel)) (goodIn_sub (fun _ h => List.mem_cons_of_mem _ (List.mem_append_left _ (List.mem_append_right _ h))) (by decide +kernel))
set_option maxRecDepth 20000 in
theorem gL_isSlot_X5_silencedTo : GoodIn wsL_isSlot (wsV RL 28 RX5 yX5_silencedTo wsX5_silencedTo) := goodIn_app (goodIn_of _ (by decide +kernel)) ggL_isSlot_X5_silencedTo
set_option maxRecDepth 20000 in
theorem ggL_isSlot_X5_delivered : GoodIn wsL_isSlot wsX5_delivered := goodIn_ca (goodIn_r _ [37, 11, 12, 13, 4, 14, 15, 16, 17, 224, 225, 226, 227, 228, 229, 230, 231, 232, 233, 234, 235, 219, 220, 221, 222, 223] (by decide +kernel) (by decide +kernel)) (goodIn_sub (fun _ h => List.mem_cons_of_mem _ (List.mem_append_left _ (List.mem_append_right _ h))) (by decide +kernel))
set_option maxRecDepth 20000 in
theorem gL_isSlot_X5_delivered : GoodIn wsL_isSlot (wsV RL 51 RX5 yX5_delivered wsX5_delivered) := goodIn_app (goodIn_of _ (by decide +kernel)) ggL_isSlot_X5_delivered
set_option maxRecDepth 20000 in
theorem ggL_isSlot_X5_partsLeft : GoodIn wsL_isSlot wsX5_partsLeft := goodIn_ca (goodIn_r _ [41, 11, 12, 13, 4, 14, 15, 16, 17, 42, 43, 44, 45, 46, 47, 48, 224, 225, 226, 227, 228, 229, 230, 231, 232, 233, 234, 235, 219, 220, 221, 222, 223, 243, 244, 245] (by decide +kernel) (by decide +kernel)) (goodIn_sub (fun _ h => List.mem_cons_of_mem _ (List.mem_append_left _ (List.mem_append_right _ h))) (by decide +kernel))
set_option maxRecDepth 20000 in
theorem gL_isSlot_X5_partsLeft : GoodIn wsL_isSlot (wsV RL 42 RX5 yX5_partsLeft wsX5_partsLeft) := goodIn_app (goodIn_of _ (by decide +kernel)) ggL_isSlot_X5_partsLeft
set_option maxRecDepth 20000 in
theorem ggL_isSlot_X5_dropped : GoodIn wsL_isSlot wsX5_dropped := goodIn_ca (goodIn_r _ [52, 11, 12, 13, 4, 14, 15, 16, 17, 224, 225, 226, 227, 228, 229, 230, 231, 232, 233, 234, 235, 219, 220, 221, 222, 223] (by decide +kernel) (by decide +kernel)) (goodIn_sub (fun _ h => List.mem_cons_of_mem _ (List.mem_append_left _ (List.mem_append_right _ h))) (by decide +kernel))
set_option maxRecDepth 20000 in
theorem gL_isSlot_X5_dropped : GoodIn wsL_isSlot (wsV RL 54 RX5 yX5_dropped wsX5_dropped) := goodIn_app (goodIn_of _ (by decide +kernel)) ggL_isSlot_X5_dropped
set_option maxRecDepth 20000 in
theorem ggL_isSlot_X5_pass : GoodIn wsL_isSlot wsX5_pass := goodIn_ca (goodIn_ca (goodIn_r _ [56, 57, 58, 59, 60, 61, 4, 62, 6, 63, 64, 65, 66, 67, 68, 11, 12, 13, 14, 15, 16, 17, 69, 70, 71, 72, 73, 74, 75, 76, 77, 78, 79, 80, 81, 82, 83, 84, 85, 86, 87, 88, 89, 90, 91, 92, 93, 94, 95, 96, 97, 98, 99, 100, 101, 102, 103, 104, 43, 44, 45, 46, 47, 48, 105, 106, 107, 108, 109, 110, 111, 112, 113, 114, 115, 116, 117, 118, 119, 120, 121, 122, 123, 124, 125, 126, 127, 128, 129, 130, 131, 132, 133, 134, 135, 136, 137, 138, 139, 140, 141, 142, 143, 144, 145, 146, 147, 148, 149, 150, 151, 152, 153, 154, 155, 156, 157, 158, 159, 160, 161, 162, 163, 164, 165, 166, 167, 168, 169, 170, 171, 172, 173, 174, 175, 176, 177, 178, 179, 180, 181, 182, 183, 184, 185, 186, 187, 188, 189, 190, 191, 192, 193, 194, 195, 196, 197, 198, 199, 200, 201, 202, 203, 204, 205, 206, 207, 208, 209, 210, 219, 220, 221, 222, 223, 224, 225, 226, 227, 228, 229, 230, 231, 232, 233, 234, 235, 236, 237, 238, 239, 240, 241, 242, 243, 244, 245, 246, 247, 248, 249] (by decide +kernel) (by decide +kernel)) (goodIn_sub (fun _ h => List.mem_cons_of_mem _ (List.mem_append_right _ h)) (by decide +kernel))) (goodIn_sub (fun _ h => List.mem_cons_of_mem _ (List.mem_append_left _ (List.mem_append_right _ h))) (by decide +kernel))
set_option maxRecDepth 20000 in
theorem gL_isSlot_X5_pass : GoodIn wsL_isSlot (wsV RL 57 RX5 yX5_pass wsX5_pass) := goodIn_app (goodIn_of _ (by decide +kernel)) ggL_isSlot_X5_pass
set_option maxRecDepth 20000 in
theorem ggL_isSlot_L_bits : GoodIn wsL_isSlot wsL_bits := goodIn_r _ [214] (by decide +kernel) (by decide +kernel)
set_option maxRecDepth 20000 in
theorem gL_isSlot_L_bits : GoodIn wsL_isSlot (va_wsS RL 60 yL_bits wsL_bits) := goodIn_app (goodIn_of _ (by decide +kernel)) ggL_isSlot_L_bits
set_option maxRecDepth 20000 in
theorem ggL_isSlot_X5_failures : GoodIn wsL_isSlot wsX5_failures := goodIn_ca (goodIn_r _ [218, 11, 12, 13, 4, 14, 15, 16, 17, 224, 225, 226, 227, 228, 229, 230, 231, 232, 233, 234, 235, 219, 220, 221, 222, 223] (by decide +kernel) (by decide +kernel)) (goodIn_sub (fun _ h => List.mem_cons_of_mem _ (List.mem_append_left _ (List.mem_append_right _ h))) (by decide +kernel))
set_option maxRecDepth 20000 in
theorem gL_isSlot_X5_failures : GoodIn wsL_isSlot (wsV RL 22 RX5 yX5_failures wsX5_failures) := goodIn_app (goodIn_of _ (by decide +kernel)) ggL_isSlot_X5_failures
abbrev vwCl : List vw_C := [(RX0, TX0, 3), (RX1, TX1, 7), (RX2, TX2, 12), (RX3, TX3, 1), (RX4, TX4, 3), (RX5, TX5, 5)]
end
section
-- the memory of a world: block k is what the cell at place k holds
abbrev Mem : Type := Nat → Nat → Int32
def ub (S : Mem) (b i : Nat) (v : Int32) : Mem := fun b' => if b' = b then upd (S b) i v else S b'
theorem ub_blk (S : Mem) (b i : Nat) (v : Int32) : ub S b i v b = upd (S b) i v := by simp [ub]
theorem ub_ne (S : Mem) {b b' : Nat} (i : Nat) (v : Int32) (h : b' ≠ b) : ub S b i v b' = S b' := by simp [ub, h]
def WL (n : Nat) (G : Nat → Nat) (F : Nat → (Nat → Int32) → va_E) (S : Mem) : va_W := (List.range n).map (fun k => (G k, F k (S k)))
theorem WL_get {n : Nat} {G : Nat → Nat} {F : Nat → (Nat → Int32) → va_E} {S : Mem} {k : Nat} (h : k < n) : (WL n G F S)[k]? = some (G k, F k (S k)) := by simp [WL, h]
theorem WL_at {n : Nat} {G : Nat → Nat} {F : Nat → (Nat → Int32) → va_E} {S : Mem} {k : Nat} {e : va_E} (h : k < n) (he : F k (S k) = e) : (WL n G F S)[k]? = some (G k, e) := by rw [WL_get h, he]
theorem WL_inv {n : Nat} {G : Nat → Nat} {F : Nat → (Nat → Int32) → va_E} {S : Mem} {k : Nat} {q : Nat × va_E} (h : (WL n G F S)[k]? = some q) : k < n ∧ q = (G k, F k (S k)) := by
  have hk : k < n := by
    have := (List.getElem?_eq_some_iff.mp h).1
    simpa [WL] using this
  rw [WL_get hk] at h
  exact ⟨hk, (Option.some.inj h).symm⟩
theorem WL_set {n : Nat} {G : Nat → Nat} {F : Nat → (Nat → Int32) → va_E} {S : Mem} {k j : Nat} {x : Int32} {e : va_E} (h : k < n) (he : F k (upd (S k) j x) = e) : (WL n G F S).set k (G k, e) = WL n G F (ub S k j x) := by
  apply List.ext_getElem?
  intro i
  by_cases hi : i = k
  · subst hi
    rw [List.getElem?_set_self (by simpa [WL] using h), WL_get h, ub_blk, he]
  · rw [List.getElem?_set_ne (Ne.symm hi)]
    by_cases hn : i < n
    · rw [WL_get hn, WL_get hn, ub_ne _ _ _ hi]
    · rw [List.getElem?_eq_none (by simp [WL]; omega), List.getElem?_eq_none (by simp [WL]; omega)]
theorem WL_D {A : Nat → Prop} {n : Nat} {G : Nat → Nat} {F : Nat → (Nat → Int32) → va_E} {S S' : Mem} (h : va_D A (WL n G F S)) : va_D A (WL n G F S') := by
  refine ⟨fun i j p q hi hj hpq => ?_, fun k q hk => ?_⟩
  · obtain ⟨h1, rfl⟩ := WL_inv hi
    obtain ⟨h2, rfl⟩ := WL_inv hj
    exact h.1 i j _ _ (WL_get h1) (WL_get h2) hpq
  · obtain ⟨h1, rfl⟩ := WL_inv hk
    exact h.2 k (G k, F k (S k)) (WL_get (S := S) h1)
def fA (n : Nat) (G : Nat → Nat) (sz : Nat) : Nat → Prop := fun q => (∃ k, k < n ∧ q = G k) ∨ sz ≤ q
theorem WL_self {B : Nat → Prop} {n : Nat} {G : Nat → Nat} {F : Nat → (Nat → Int32) → va_E} {S S' : Mem} {sz : Nat} (h : va_D B (WL n G F S)) : va_D (fA n G sz) (WL n G F S') :=
  ⟨(WL_D h).1, fun k q hk => by obtain ⟨h1, rfl⟩ := WL_inv hk; exact Or.inl ⟨k, h1, rfl⟩⟩
theorem fA_sub {A : Nat → Prop} {n : Nat} {G : Nat → Nat} {F : Nat → (Nat → Int32) → va_E} {S : Mem} {sz : Nat} (hD : va_D A (WL n G F S)) (hA : ∀ q, sz ≤ q → A q) : ∀ q, fA n G sz q → A q := fun q h => by
  rcases h with ⟨k, hk, rfl⟩ | h
  · exact hD.2 k _ (WL_get (S := S) hk)
  · exact hA q h
theorem P_kept {D : va_G} {cl : List vw_C} {ws : va_W} {H H1 : Heap} (hP : va_P D cl ws H) (hk : ∀ q : Nat, q < H.size → H1[q]? = H[q]?) : va_P D cl ws H1 := hP.kept (fun k q h => hk q.1 (hP k q h).lt)
-- the words of private members of nest mates
def nestW : List Cond := [.fieldLinkNest "BackofficeAir" 108 "BackofficeAir$Station" "sending" "LBackofficeAir$Sending;" "BackofficeAir", .fieldLinkNest "BackofficeAir" 112 "BackofficeAir$Sending" "on" "Z" "BackofficeAir", .fieldLinkNest "BackofficeAir" 118 "BackofficeAir$Station" "wait" "I" "BackofficeAir", .fieldLinkNest "BackofficeAir" 121 "BackofficeAir$Station" "failures" "I" "BackofficeAir", .fieldLinkNest "BackofficeAir" 124 "BackofficeAir$Station" "silencedTo" "I" "BackofficeAir", .fieldLinkNest "BackofficeAir" 130 "BackofficeAir$Station" "delivered" "I" "BackofficeAir", .fieldLinkNest "BackofficeAir" 133 "BackofficeAir$Station" "dropped" "I" "BackofficeAir", .fieldLinkNest "BackofficeAir" 136 "BackofficeAir$Station" "airtime" "I" "BackofficeAir", .fieldLinkNest "BackofficeAir" 139 "BackofficeAir$Station" "slotsOfEnded" "I" "BackofficeAir", .fieldLinkNest "BackofficeAir" 172 "BackofficeAir$Station" "lastSlotSent" "I" "BackofficeAir", .fieldLinkNest "BackofficeAir" 188 "BackofficeAir$Sending" "requestBroken" "Z" "BackofficeAir", .fieldLinkNest "BackofficeAir" 191 "BackofficeAir$Sending" "lastSlot" "I" "BackofficeAir", .fieldLinkNest "BackofficeAir" 60 "BackofficeAir$Station" "itsClass" "I" "BackofficeAir", .fieldLinkNest "BackofficeAir" 67 "BackofficeAir$Station" "window" "I" "BackofficeAir", .fieldLinkNest "BackofficeAir" 74 "BackofficeAir$Told" "left" "I" "BackofficeAir", .fieldLinkNest "BackofficeAir" 86 "BackofficeAir$Station" "row" "LBackofficeAir$Row;" "BackofficeAir", .fieldLinkNest "BackofficeAir" 92 "BackofficeAir$Row" "count" "I" "BackofficeAir", .fieldLinkNest "BackofficeAir$Station" 70 "BackofficeAir$Sending" "on" "Z" "BackofficeAir", .methodLinkNest "BackofficeAir" 17 ⟨"BackofficeAir$Strengths", "<init>", "()V"⟩ "BackofficeAir", .methodLinkNest "BackofficeAir" 24 ⟨"BackofficeAir$Told", "<init>", "()V"⟩ "BackofficeAir", .methodLinkNest "BackofficeAir" 36 ⟨"BackofficeAir$Station", "<init>", "()V"⟩ "BackofficeAir", .methodLinkNest "BackofficeAir$Station" 102 ⟨"BackofficeAir", "leastWindow", "(I)I"⟩ "BackofficeAir", .methodLinkNest "BackofficeAir$Station" 11 ⟨"BackofficeAir$Row", "<init>", "()V"⟩ "BackofficeAir", .methodLinkNest "BackofficeAir$Station" 20 ⟨"BackofficeAir$Sending", "<init>", "()V"⟩ "BackofficeAir", .methodLinkNest "BackofficeAir$Strengths" 19 ⟨"BackofficeAir", "isStation", "(I)Z"⟩ "BackofficeAir"]
def isNest (w : Cond) : Bool := match w with
  | .fieldLinkNest _ _ _ _ _ _ => true
  | .methodLinkNest _ _ _ _ => true
  | _ => false
theorem nestW_all : nestW.all isNest = true := by decide +kernel
def NW (U : State) : Prop := ∀ w ∈ nestW, va_Nw w U
theorem isNest_same {w : Cond} (h : isNest w = true) {u U : State} (hv : u.vm = U.vm) (hZ : va_Nw w u) : va_Nw w U := by
  unfold isNest at h
  split at h
  · exact va_Nw.same rfl hv hZ
  · exact va_Nw.same rfl hv hZ
  · cases h
theorem isNest_warm {w : Cond} (h : isNest w = true) {s U : State} (hW : s.WarmedH U.vm) (hZ : va_Nw w s) : va_Nw w U := by
  unfold isNest at h
  split at h
  · exact va_Nw.warmF hW hZ
  · exact va_Nw.warmM hW hZ
  · cases h
theorem NW.same {u U : State} (hv : u.vm = U.vm) (h : NW u) : NW U := fun w hw => isNest_same (List.all_eq_true.mp nestW_all w hw) hv (h w hw)
theorem NW.warm {s U : State} (hW : s.WarmedH U.vm) (h : NW s) : NW U := fun w hw => isNest_warm (List.all_eq_true.mp nestW_all w hw) hW (h w hw)
theorem NW.use {w : Cond} {A : Array Value} {U : State} (h : NW U) (hw : w ∈ nestW) (ht : w.onTables = true) : w.before A U = true := va_Nw.use ht (h w hw)
-- contracts
/-- a method's start: its arguments, the world, the tables' words -/
def wPc (n : Nat) (F : Nat → (Nat → Int32) → va_E) (D : va_G) (tys : List (ClassId × FieldType)) (G : Nat → Nat) (S : Mem) (sz : Nat) (av : List Value) : Array Value → State → Prop :=
  va_Pc av (fun U => U.heap.size = sz ∧ va_P D vwCl (WL n G F S) U.heap ∧ va_K D vwCl tys U ∧ va_D (fun _ => True) (WL n G F S) ∧ NW U)
theorem wPc_blind {n : Nat} {F : Nat → (Nat → Int32) → va_E} {D : va_G} {tys : List (ClassId × FieldType)} {G : Nat → Nat} {S : Mem} {sz : Nat} {av : List Value} : FrameBlind (wPc n F D tys G S sz av) := fun a U g mk q => by
  obtain ⟨q0, q1, qP, qK, qD, qN⟩ := q
  exact ⟨q0, q1, qP, va_K.moved (u := U) (U := U.calling g mk a) (Vm.Alike.refl U.vm) qK, qD, NW.same (u := U) (U := U.calling g mk a) rfl qN⟩
theorem wPc_at {n : Nat} {F : Nat → (Nat → Int32) → va_E} {D : va_G} {tys : List (ClassId × FieldType)} {G : Nat → Nat} {S : Mem} {s : State} {H : Heap} {av : List Value} (hP : va_P D vwCl (WL n G F S) H) (hK : va_K D vwCl tys s) {A : Nat → Prop} (hD : ∀ S' : Mem, va_D A (WL n G F S')) (hN : NW s) : ∀ U : State, U.heap = H → s.WarmedH U.vm → wPc n F D tys G S H.size av av.toArray U := fun U hU hW =>
  ⟨rfl, by rw [hU], by rw [hU]; exact hP, va_K.moved hW.alike hK, (hD S).weaken (fun _ _ _ _ => trivial), NW.warm hW hN⟩
/-- a static method's start: its arguments alone -/
def sPc (sz : Nat) (av : List Value) : Array Value → State → Prop := va_Pc av (fun U => U.heap.size = sz ∧ NW U)
theorem sPc_blind {sz : Nat} {av : List Value} : FrameBlind (sPc sz av) := fun a U g mk q => by
  obtain ⟨q0, q1, qN⟩ := q
  exact ⟨q0, q1, NW.same (u := U) (U := U.calling g mk a) rfl qN⟩
theorem sPc_at {s : State} {H : Heap} {av : List Value} (hN : NW s) : ∀ U : State, U.heap = H → s.WarmedH U.vm → sPc H.size av av.toArray U := fun U hU hW => ⟨rfl, by rw [hU], NW.warm hW hN⟩
/-- nothing old is changed, the answer is v -/
def pQi (v : Int32) (sz : Nat) : Array Value → State → Outcome → State → Prop := va_Qi (fun (r : Int32) (_ : Unit) => r = v) (fun _ _ => True) (fun q => sz ≤ q)
def pQr (a : Nat) (sz : Nat) : Array Value → State → Outcome → State → Prop := va_Qr (fun (_ : Unit) => True) (fun _ ra _ => ra = a) (fun q => sz ≤ q)
/-- the world becomes v.2, the answer is v.1 -/
def mQi (v : Int32 × Mem) (n : Nat) (F : Nat → (Nat → Int32) → va_E) (D : va_G) (G : Nat → Nat) (sz : Nat) : Array Value → State → Outcome → State → Prop := va_Qi (fun (r : Int32) (u : Mem) => (r, u) = v) (fun u t => va_P D vwCl (WL n G F u) t.heap) (fA n G sz)
def mQv (v : Mem) (n : Nat) (F : Nat → (Nat → Int32) → va_E) (D : va_G) (G : Nat → Nat) (sz : Nat) : Array Value → State → Outcome → State → Prop := va_Qv (fun (u : Mem) => u = v) (fun u t => va_P D vwCl (WL n G F u) t.heap) (fA n G sz)
section XR
variable {p : Program} {l : Launch} {e : Env} {R : Room} {s : State} {m : MethodId} {args : Array Value} {below : List Frame} {meth : Method} {c : Code} {H : Heap} {locs : List Loc} {cells slots : Nat} {Q : State → Prop}
variable {cc : ByteArray} {pc : Nat} {ls : Array Slot} {rest st0 : List Value} {D : va_G} {A : Nat → Prop} {tys : List (ClassId × FieldType)} {H0 : Heap} {n : Nat} {G : Nat → Nat} {F : Nat → (Nat → Int32) → va_E} {S : Mem} {a9 : Array Value}
/-- another way to say the number on top -/
theorem x_top {x y : Int32} (h : x = y) (k : W p l e R s m args below meth c H locs cells slots Q (F0 m pc ls (.int y :: rest))) : W p l e R s m args below meth c H locs cells slots Q (F0 m pc ls (.int x :: rest)) := h ▸ k
theorem x_get (hexec : p.tables.exec = Jvm.exec) (hb : c.code = cc) {own ref C : String} {T : u_T} {N ci index : Nat} {Ts : List Cond} (hts : ∀ w ∈ Ts, w.before args s = true) (hin : ∀ w ∈ u_ws C T N, w ∈ Ts) (hown : s.vm.findClass own = some m.cls) (hK : va_K D vwCl tys s) (hP : va_P D vwCl (WL n G F S) H) (q0 : Nat) (hq : q0 < n) {fs : List Value} (he : F q0 (S q0) = .inr (ci, fs)) (hc : vwCl[ci]? = some (C, T, N)) (k : Nat) (hk : k < N) (hlink : (Cond.fieldLink own index ref (T k).2.1 (T k).2.2.1).before args s = true) (href : ref = (T k).1) {v : Value} (hv : fs[k]? = some v) (hdg : decode cc pc = .ok (.getfield index, 3))
    (kk : W p l e R s m args below meth c H locs cells slots Q (F0 m (pc + 3) ls (v :: rest))) : W p l e R s m args below meth c H locs cells slots Q (F0 m pc ls (.ref (G q0) :: rest)) :=
  va_get hexec hb hts hin hown hK hP q0 (WL_at hq he) hc k hk hlink (fun x h => by rw [href]; exact h) hv hdg kk
theorem x_getN (hexec : p.tables.exec = Jvm.exec) (hb : c.code = cc) {own ref C host : String} {T : u_T} {N ci index : Nat} {Ts : List Cond} (hts : ∀ w ∈ Ts, w.before args s = true) (hin : ∀ w ∈ u_ws C T N, w ∈ Ts) (hown : s.vm.findClass own = some m.cls) (hK : va_K D vwCl tys s) (hP : va_P D vwCl (WL n G F S) H) (q0 : Nat) (hq : q0 < n) {fs : List Value} (he : F q0 (S q0) = .inr (ci, fs)) (hc : vwCl[ci]? = some (C, T, N)) (k : Nat) (hk : k < N) (hlink : (Cond.fieldLinkNest own index ref (T k).2.1 (T k).2.2.1 host).before args s = true) (href : ref = (T k).1) {v : Value} (hv : fs[k]? = some v) (hdg : decode cc pc = .ok (.getfield index, 3))
    (kk : W p l e R s m args below meth c H locs cells slots Q (F0 m (pc + 3) ls (v :: rest))) : W p l e R s m args below meth c H locs cells slots Q (F0 m pc ls (.ref (G q0) :: rest)) :=
  va_getN hexec hb hts hin hown hK hP q0 (WL_at hq he) hc k hk hlink (fun x h => by rw [href]; exact h) hv hdg kk
theorem x_put (hexec : p.tables.exec = Jvm.exec) (hb : c.code = cc) {own ref C : String} {T : u_T} {N ci index : Nat} {Ts : List Cond} (hts : ∀ w ∈ Ts, w.before args s = true) (hin : ∀ w ∈ u_ws C T N, w ∈ Ts) (ty0 : Nat → FieldType) (hty : ∀ k, k < N → parseFieldDescriptor (T k).2.2.1 = some (ty0 k)) (hnm : ∀ a, a < N → ∀ b, b < N → a ≠ b → (T a).2.1 ≠ (T b).2.1) (hown : s.vm.findClass own = some m.cls) (hK : va_K D vwCl tys s) (hP : va_P D vwCl (WL n G F S) H) (hD : ∀ S' : Mem, va_D A (WL n G F S')) (hS0 : va_S A H0 H locs) (q0 : Nat) (hq : q0 < n) {fs : List Value} (he : F q0 (S q0) = .inr (ci, fs)) (hc : vwCl[ci]? = some (C, T, N)) (k : Nat) (hk : k < N) (hlink : (Cond.fieldLink own index ref (T k).2.1 (T k).2.2.1).before args s = true) (href : ref = (T k).1) (hfin : (T k).2.2.2 = false) {ty : FieldType} {x : Int32} (hd : parseFieldDescriptor (T k).2.2.1 = some ty) (hn : narrow ty (.int x) = .int x) (hfit : fits ty (.int x) = true) (hl : k < fs.length) (j : Nat) (he2 : F q0 (upd (S q0) j x) = .inr (ci, fs.set k (.int x)))
    (hdg : decode cc pc = .ok (.putfield index, 3)) (kk : ∀ (H1 : Heap) (locs1 : List Loc), va_P D vwCl (WL n G F (ub S q0 j x)) H1 → va_S A H0 H1 locs1 → W p l e R s m args below meth c H1 locs1 cells slots Q (F0 m (pc + 3) ls rest)) : W p l e R s m args below meth c H locs cells slots Q (F0 m pc ls (.int x :: .ref (G q0) :: rest)) :=
  va_put hexec hb hts hin ty0 hty hnm hown hK hP (hD S) hS0 q0 (WL_at hq he) hc k hk hlink (fun x h => by rw [href]; exact h) hfin hd hn hfit hl hdg (fun H1 locs1 h1 _ h3 => kk H1 locs1 (by rw [← WL_set hq he2]; exact h1) h3)
theorem x_putN (hexec : p.tables.exec = Jvm.exec) (hb : c.code = cc) {own ref C host : String} {T : u_T} {N ci index : Nat} {Ts : List Cond} (hts : ∀ w ∈ Ts, w.before args s = true) (hin : ∀ w ∈ u_ws C T N, w ∈ Ts) (ty0 : Nat → FieldType) (hty : ∀ k, k < N → parseFieldDescriptor (T k).2.2.1 = some (ty0 k)) (hnm : ∀ a, a < N → ∀ b, b < N → a ≠ b → (T a).2.1 ≠ (T b).2.1) (hown : s.vm.findClass own = some m.cls) (hK : va_K D vwCl tys s) (hP : va_P D vwCl (WL n G F S) H) (hD : ∀ S' : Mem, va_D A (WL n G F S')) (hS0 : va_S A H0 H locs) (q0 : Nat) (hq : q0 < n) {fs : List Value} (he : F q0 (S q0) = .inr (ci, fs)) (hc : vwCl[ci]? = some (C, T, N)) (k : Nat) (hk : k < N) (hlink : (Cond.fieldLinkNest own index ref (T k).2.1 (T k).2.2.1 host).before args s = true) (href : ref = (T k).1) (hfin : (T k).2.2.2 = false) {ty : FieldType} {x : Int32} (hd : parseFieldDescriptor (T k).2.2.1 = some ty) (hn : narrow ty (.int x) = .int x) (hfit : fits ty (.int x) = true) (hl : k < fs.length) (j : Nat) (he2 : F q0 (upd (S q0) j x) = .inr (ci, fs.set k (.int x)))
    (hdg : decode cc pc = .ok (.putfield index, 3)) (kk : ∀ (H1 : Heap) (locs1 : List Loc), va_P D vwCl (WL n G F (ub S q0 j x)) H1 → va_S A H0 H1 locs1 → W p l e R s m args below meth c H1 locs1 cells slots Q (F0 m (pc + 3) ls rest)) : W p l e R s m args below meth c H locs cells slots Q (F0 m pc ls (.int x :: .ref (G q0) :: rest)) :=
  va_putN hexec hb hts hin ty0 hty hnm hown hK hP (hD S) hS0 q0 (WL_at hq he) hc k hk hlink (fun x h => by rw [href]; exact h) hfin hd hn hfit hl hdg (fun H1 locs1 h1 _ h3 => kk H1 locs1 (by rw [← WL_set hq he2]; exact h1) h3)
theorem x_iald (hexec : p.tables.exec = Jvm.exec) (hb : c.code = cc) (hK : va_K D vwCl tys s) (hP : va_P D vwCl (WL n G F S) H) (q0 t0 : Nat) (hq : q0 < n) {cA : ClassId} {z : Nat} (he : F q0 (S q0) = .inl (cA, z, .inl (S q0))) (ht : tys[t0]? = some (cA, .int)) (j : Nat) (hj : j < z) (hz : z ≤ 4096) (hdg : decode cc pc = .ok (.iaload, 1))
    (kk : W p l e R s m args below meth c H locs cells slots Q (F0 m (pc + 1) ls (.int (S q0 j) :: rest))) : W p l e R s m args below meth c H locs cells slots Q (F0 m pc ls (.int (nI j) :: .ref (G q0) :: rest)) :=
  va_iald hexec hb hK hP q0 t0 (WL_at hq he) ht (vp_in_nI hj (by omega)) hdg (by rw [nI_clamp (by omega)]; exact kk)
theorem x_zald (hexec : p.tables.exec = Jvm.exec) (hb : c.code = cc) (hK : va_K D vwCl tys s) (hP : va_P D vwCl (WL n G F S) H) (q0 t0 : Nat) (hq : q0 < n) {cA : ClassId} {z : Nat} (he : F q0 (S q0) = .inl (cA, z, .inl (S q0))) (ht : tys[t0]? = some (cA, .boolean)) (j : Nat) (hj : j < z) (hz : z ≤ 4096) (hdg : decode cc pc = .ok (.baload, 1))
    (kk : W p l e R s m args below meth c H locs cells slots Q (F0 m (pc + 1) ls (.int (S q0 j) :: rest))) : W p l e R s m args below meth c H locs cells slots Q (F0 m pc ls (.int (nI j) :: .ref (G q0) :: rest)) :=
  va_zald hexec hb hK hP q0 t0 (WL_at hq he) ht (vp_in_nI hj (by omega)) hdg (by rw [nI_clamp (by omega)]; exact kk)
theorem x_iast (hexec : p.tables.exec = Jvm.exec) (hb : c.code = cc) (hK : va_K D vwCl tys s) (hP : va_P D vwCl (WL n G F S) H) (hD : ∀ S' : Mem, va_D A (WL n G F S')) (hS : va_S A H0 H locs) (q0 t0 : Nat) (hq : q0 < n) {cA : ClassId} {z : Nat} (he : ∀ f : Nat → Int32, F q0 f = .inl (cA, z, .inl f)) (ht : tys[t0]? = some (cA, .int)) (j : Nat) (hj : j < z) (hz : z ≤ 4096) {x : Int32} (hdg : decode cc pc = .ok (.iastore, 1))
    (kk : ∀ (H1 : Heap) (locs1 : List Loc), va_P D vwCl (WL n G F (ub S q0 j x)) H1 → va_S A H0 H1 locs1 → W p l e R s m args below meth c H1 locs1 cells slots Q (F0 m (pc + 1) ls rest)) : W p l e R s m args below meth c H locs cells slots Q (F0 m pc ls (.int x :: .int (nI j) :: .ref (G q0) :: rest)) :=
  va_iast hexec hb hK hP (hD S) hS q0 t0 (WL_at hq (he _)) ht (vp_in_nI hj (by omega)) hdg (fun H1 locs1 h1 _ h3 => kk H1 locs1 (by rw [← WL_set hq (he _)]; rw [nI_clamp (by omega)] at h1; exact h1) h3)
theorem x_zast (hexec : p.tables.exec = Jvm.exec) (hb : c.code = cc) (hK : va_K D vwCl tys s) (hP : va_P D vwCl (WL n G F S) H) (hD : ∀ S' : Mem, va_D A (WL n G F S')) (hS : va_S A H0 H locs) (q0 t0 : Nat) (hq : q0 < n) {cA : ClassId} {z : Nat} (he : ∀ f : Nat → Int32, F q0 f = .inl (cA, z, .inl f)) (ht : tys[t0]? = some (cA, .boolean)) (j : Nat) (hj : j < z) (hz : z ≤ 4096) {x : Int32} (hdg : decode cc pc = .ok (.bastore, 1))
    (kk : ∀ (H1 : Heap) (locs1 : List Loc), va_P D vwCl (WL n G F (ub S q0 j (vp_nar .boolean x))) H1 → va_S A H0 H1 locs1 → W p l e R s m args below meth c H1 locs1 cells slots Q (F0 m (pc + 1) ls rest)) : W p l e R s m args below meth c H locs cells slots Q (F0 m pc ls (.int x :: .int (nI j) :: .ref (G q0) :: rest)) :=
  va_zast hexec hb hK hP (hD S) hS q0 t0 (WL_at hq (he _)) ht (vp_in_nI hj (by omega)) hdg (fun H1 locs1 h1 _ h3 => kk H1 locs1 (by rw [← WL_set hq (he _)]; rw [nI_clamp (by omega)] at h1; exact h1) h3)
theorem x_alen (hexec : p.tables.exec = Jvm.exec) (hb : c.code = cc) (hK : va_K D vwCl tys s) (hP : va_P D vwCl (WL n G F S) H) (q0 t0 : Nat) (hq : q0 < n) {cA : ClassId} {z : Nat} {x : (Nat → Int32) ⊕ (Nat → Int64) ⊕ (Nat → UInt32) ⊕ (Nat → UInt64) ⊕ (Nat → Option Nat)} (he : F q0 (S q0) = .inl (cA, z, x)) {ty : FieldType} (ht : tys[t0]? = some (cA, ty)) (hdg : decode cc pc = .ok (.arraylength, 1))
    (kk : W p l e R s m args below meth c H locs cells slots Q (F0 m (pc + 1) ls (.int (nI z) :: rest))) : W p l e R s m args below meth c H locs cells slots Q (F0 m pc ls (.ref (G q0) :: rest)) :=
  va_alen hexec hb hK hP q0 t0 (WL_at hq he) ht rfl hdg kk
theorem x_aald (hexec : p.tables.exec = Jvm.exec) (hb : c.code = cc) (hK : va_K D vwCl tys s) (hP : va_P D vwCl (WL n G F S) H) (q0 t0 : Nat) (hq : q0 < n) {cA : ClassId} {C : String} {z : Nat} {f : Nat → Option Nat} (he : F q0 (S q0) = .inl (cA, z, .inr (.inr (.inr (.inr f))))) (ht : tys[t0]? = some (cA, .object C)) (j : Nat) (hj : j < z) (hz : z ≤ 4096) (g : Nat) (hg : f j = some g) (hdg : decode cc pc = .ok (.aaload, 1))
    (kk : W p l e R s m args below meth c H locs cells slots Q (F0 m (pc + 1) ls (.ref g :: rest))) : W p l e R s m args below meth c H locs cells slots Q (F0 m pc ls (.int (nI j) :: .ref (G q0) :: rest)) :=
  va_aldq hexec hb hK hP q0 t0 (WL_at hq he) ht (vp_in_nI hj (by omega)) hdg (by rw [nI_clamp (by omega), hg]; exact kk)
theorem x_iaddN (hexec : p.tables.exec = Jvm.exec) (hb : c.code = cc) {a b : Nat} (hdg : decode cc pc = .ok (.iadd, 1)) (k : W p l e R s m args below meth c H locs cells slots Q (F0 m (pc + 1) ls (.int (nI (a + b)) :: rest))) : W p l e R s m args below meth c H locs cells slots Q (F0 m pc ls (.int (nI b) :: .int (nI a) :: rest)) := lv_iadd hexec hb hdg (by rw [nI_add]; exact k)
theorem x_imulN (hexec : p.tables.exec = Jvm.exec) (hb : c.code = cc) {a b : Nat} (hdg : decode cc pc = .ok (.imul, 1)) (k : W p l e R s m args below meth c H locs cells slots Q (F0 m (pc + 1) ls (.int (nI (a * b)) :: rest))) : W p l e R s m args below meth c H locs cells slots Q (F0 m pc ls (.int (nI b) :: .int (nI a) :: rest)) := lv_imul hexec hb hdg (by rw [pk_mul]; exact k)
theorem x_isubN (hexec : p.tables.exec = Jvm.exec) (hb : c.code = cc) {a b : Nat} (hab : b ≤ a) (hdg : decode cc pc = .ok (.isub, 1)) (k : W p l e R s m args below meth c H locs cells slots Q (F0 m (pc + 1) ls (.int (nI (a - b)) :: rest))) : W p l e R s m args below meth c H locs cells slots Q (F0 m pc ls (.int (nI b) :: .int (nI a) :: rest)) := lv_isub hexec hb hdg (by rw [pk_sub hab]; exact k)
/-- behind a call that changes nothing old -/
theorem x_pi {v : Int32} {free : Addr → Prop} (hr : va_Run p l e R s m args below meth c H locs cells slots 0 0 (F0 m pc ls st0) rest (pQi v H.size a9) free) (hS : va_S A s.heap H locs) (hA : ∀ q, s.heap.size ≤ q → A q) (hf : ∀ q, free q → H.size ≤ q)
    (kk : ∀ (H1 : Heap) (locs1 : List Loc), H.size ≤ H1.size → (∀ q : Nat, q < H.size → H1[q]? = H[q]?) → va_S A s.heap H1 locs1 → W p l e R s m args below meth c H1 locs1 cells slots Q (F0 m (pc + 3) ls (.int v :: rest))) : W p l e R s m args below meth c H locs cells slots Q (F0 m pc ls st0) :=
  va_calli hr hS (fun q h1 h2 => absurd h1 (Nat.not_lt.mpr h2)) (fun q h => hA q (Nat.le_trans hS.1 (hf q h))) (fun r u t H1 locs1 ht hvm hw hB hz hk hS1 => by
    have hw : r = v := hw
    rw [hw]
    exact kk H1 locs1 hz (fun q h => hk q h (Nat.not_le.mpr h)) hS1)
theorem x_pr {v : Nat} {free : Addr → Prop} (hr : va_Run p l e R s m args below meth c H locs cells slots 0 0 (F0 m pc ls st0) rest (pQr v H.size a9) free) (hS : va_S A s.heap H locs) (hA : ∀ q, s.heap.size ≤ q → A q) (hf : ∀ q, free q → H.size ≤ q)
    (kk : ∀ (H1 : Heap) (locs1 : List Loc), H.size ≤ H1.size → (∀ q : Nat, q < H.size → H1[q]? = H[q]?) → va_S A s.heap H1 locs1 → W p l e R s m args below meth c H1 locs1 cells slots Q (F0 m (pc + 3) ls (.ref v :: rest))) : W p l e R s m args below meth c H locs cells slots Q (F0 m pc ls st0) :=
  va_callr hr hS (fun q h1 h2 => absurd h1 (Nat.not_lt.mpr h2)) (fun q h => hA q (Nat.le_trans hS.1 (hf q h))) (fun u ra t H1 locs1 ht hvm hw hB hz hk hS1 => by
    have hB : ra = v := hB
    rw [hB]
    exact kk H1 locs1 hz (fun q h => hk q h (Nat.not_le.mpr h)) hS1)
/-- behind a call that changes the world -/
theorem x_mi {v : Int32 × Mem} (hr : va_Run p l e R s m args below meth c H locs cells slots 0 0 (F0 m pc ls st0) rest (mQi v n F D G H.size a9) (fA n G H.size)) (hS : va_S A s.heap H locs) (hF : ∀ q, fA n G H.size q → A q)
    (kk : ∀ (H1 : Heap) (locs1 : List Loc), H.size ≤ H1.size → (∀ q : Nat, q < H.size → ¬ fA n G H.size q → H1[q]? = H[q]?) → va_P D vwCl (WL n G F v.2) H1 → va_S A s.heap H1 locs1 → W p l e R s m args below meth c H1 locs1 cells slots Q (F0 m (pc + 3) ls (.int v.1 :: rest))) : W p l e R s m args below meth c H locs cells slots Q (F0 m pc ls st0) :=
  va_calli hr hS (fun q _ h => hF q h) hF (fun r u t H1 locs1 ht hvm hw hB hz hk hS1 => by
    have hw : (r, u) = v := hw
    subst hw
    rw [ht] at hB
    exact kk H1 locs1 hz hk hB hS1)
theorem x_mv {v : Mem} (hr : va_Run p l e R s m args below meth c H locs cells slots 0 0 (F0 m pc ls st0) rest (mQv v n F D G H.size a9) (fA n G H.size)) (hS : va_S A s.heap H locs) (hF : ∀ q, fA n G H.size q → A q)
    (kk : ∀ (H1 : Heap) (locs1 : List Loc), H.size ≤ H1.size → (∀ q : Nat, q < H.size → ¬ fA n G H.size q → H1[q]? = H[q]?) → va_P D vwCl (WL n G F v) H1 → va_S A s.heap H1 locs1 → W p l e R s m args below meth c H1 locs1 cells slots Q (F0 m (pc + 3) ls rest)) : W p l e R s m args below meth c H locs cells slots Q (F0 m pc ls st0) :=
  va_callv hr hS (fun q _ h => hF q h) hF (fun u t H1 locs1 ht hvm hw hB hz hk hS1 => by
    have hw : u = v := hw
    subst hw
    rw [ht] at hB
    exact kk H1 locs1 hz hk hB hS1)
/-- a body over a world, unpacked -/
theorem x_met {y : MethodName} {ws ws' : List Cond} {rm : Room} {av : List Value} {sz : Nat} {Qc : Array Value → State → Outcome → State → Prop} {free : Addr → Prop} {maxL : Nat} {ret : Option FieldType} (hy : plainName y.cls = true) (hw : ws = Cond.code y cc maxL ret :: ws') (hlen : (lg_sl av).length ≤ maxL)
    (body : ∀ (p : Program) (e : Env) (s : State) (m : MethodId) (below : List Frame) (meth : Method) (c : Code) (ls : Array Slot), p.tables.exec = Jvm.exec → c.code = cc → meth.sig.returnType = ret → c.maxLocals = maxL → (∀ w ∈ ws, w.before av.toArray s = true) → s.vm.findClass y.cls = some m.cls → meth.locks = false → s.heap.size = sz → va_P D vwCl (WL n G F S) s.heap → va_K D vwCl tys s → (∀ S' : Mem, va_D (fA n G s.heap.size) (WL n G F S')) → NW s → lv_has ls maxL (lv_args 0 av) → meth.name = y.name →
      W p l e rm s m av.toArray below meth c s.heap [] 0 0 (MQ below Qc av.toArray s 0 0 free) (F0 m 0 ls [])) : Met l y ws rm (wPc n F D tys G S sz av) Qc 0 0 free := by
  refine Met.ofW (cc := cc) (maxL := maxL) (ret := ret) hy hw ?_
  intro p e s m args below meth c s₁ B hml hv
  obtain ⟨rfl, hsz, hP, hK, hD0, hN⟩ := hv
  have hl := lv_entry av hlen
  rw [lg_entry_eq]
  exact body p e s m below meth c _ B.exec B.bytes B.returns hml (atoms_spec (ws := ws) B.pre) (findClass_of_methodNamed B.named) B.notSynchronized hsz hP hK (fun S' => WL_self hD0) hN hl (name_of_methodNamed B.named B.method).1
/-- a static body, unpacked -/
theorem x_sta {y : MethodName} {ws ws' : List Cond} {rm : Room} {av : List Value} {sz : Nat} {Qc : Array Value → State → Outcome → State → Prop} {free : Addr → Prop} {maxL : Nat} {ret : Option FieldType} (hy : plainName y.cls = true) (hw : ws = Cond.code y cc maxL ret :: ws') (hlen : (lg_sl av).length ≤ maxL)
    (body : ∀ (p : Program) (e : Env) (s : State) (m : MethodId) (below : List Frame) (meth : Method) (c : Code) (ls : Array Slot), p.tables.exec = Jvm.exec → c.code = cc → meth.sig.returnType = ret → c.maxLocals = maxL → (∀ w ∈ ws, w.before av.toArray s = true) → s.vm.findClass y.cls = some m.cls → meth.locks = false → s.heap.size = sz → NW s → lv_has ls maxL (lv_args 0 av) →
      W p l e rm s m av.toArray below meth c s.heap [] 0 0 (MQ below Qc av.toArray s 0 0 free) (F0 m 0 ls [])) : Met l y ws rm (sPc sz av) Qc 0 0 free := by
  refine Met.ofW (cc := cc) (maxL := maxL) (ret := ret) hy hw ?_
  intro p e s m args below meth c s₁ B hml hv
  obtain ⟨rfl, hsz, hN⟩ := hv
  have hl := lv_entry av hlen
  rw [lg_entry_eq]
  exact body p e s m below meth c _ B.exec B.bytes B.returns hml (atoms_spec (ws := ws) B.pre) (findClass_of_methodNamed B.named) B.notSynchronized hsz hN hl
/-- ends -/
theorem x_ret_p {v w : Int32} (hexec : p.tables.exec = Jvm.exec) (hb : c.code = cc) {ty : FieldType} (hr : meth.sig.returnType = some ty) (hn : narrow ty (.int v) = .int v) (hlocks : meth.locks = false) (hS : va_S (fun q => s.heap.size ≤ q) s.heap H locs) (hdg : decode cc pc = .ok (.ireturn, 1)) (hq : w = v) : W p l e R s m args below meth c H locs cells slots (MQ below (pQi w s.heap.size) args s cells slots (fun q => s.heap.size ≤ q)) (F0 m pc ls [.int v]) :=
  W.zret hexec hb hr hn (fun t ht hW => ⟨⟨v, (), rfl, hq.symm, trivial⟩, hS.F ht⟩) hS.2.2 hdg hlocks
theorem x_ret_m {v : Int32} {w : Int32 × Mem} (hexec : p.tables.exec = Jvm.exec) (hb : c.code = cc) {ty : FieldType} (hr : meth.sig.returnType = some ty) (hn : narrow ty (.int v) = .int v) (hlocks : meth.locks = false) (hP : va_P D vwCl (WL n G F S) H) (hS : va_S (fA n G s.heap.size) s.heap H locs) (hdg : decode cc pc = .ok (.ireturn, 1)) (hq : w = (v, S)) : W p l e R s m args below meth c H locs cells slots (MQ below (mQi w n F D G s.heap.size) args s cells slots (fA n G s.heap.size)) (F0 m pc ls [.int v]) :=
  W.zret hexec hb hr hn (fun t ht hW => ⟨⟨v, S, rfl, hq.symm, (show va_P D vwCl (WL n G F S) t.heap by rw [ht]; exact hP)⟩, hS.F ht⟩) hS.2.2 hdg hlocks
theorem x_ret_v {w : Mem} (hexec : p.tables.exec = Jvm.exec) (hb : c.code = cc) (hr : meth.sig.returnType = none) (hlocks : meth.locks = false) (hP : va_P D vwCl (WL n G F S) H) (hS : va_S (fA n G s.heap.size) s.heap H locs) (hdg : decode cc pc = .ok (.return_, 1)) (hq : w = S) : W p l e R s m args below meth c H locs cells slots (MQ below (mQv w n F D G s.heap.size) args s cells slots (fA n G s.heap.size)) (F0 m pc ls []) :=
  W.vret hexec hb hr (fun t ht hW => ⟨⟨S, rfl, hq.symm, (show va_P D vwCl (WL n G F S) t.heap by rw [ht]; exact hP)⟩, hS.F ht⟩) hS.2.2 hdg hlocks
theorem x_ret_r {v w : Nat} (hexec : p.tables.exec = Jvm.exec) (hb : c.code = cc) {C : String} (hr : meth.sig.returnType = some (.object C)) (hlocks : meth.locks = false) (hS : va_S (fun q => s.heap.size ≤ q) s.heap H locs) (hdg : decode cc pc = .ok (.areturn, 1)) (hq : w = v) : W p l e R s m args below meth c H locs cells slots (MQ below (pQr w s.heap.size) args s cells slots (fun q => s.heap.size ≤ q)) (F0 m pc ls [.ref v]) :=
  W.aret hexec hb hr (Or.inl ⟨C, rfl⟩) (Or.inr ⟨v, rfl⟩) (fun t ht hW => ⟨⟨(), v, rfl, trivial, hq.symm⟩, hS.F ht⟩) hS.2.2 hdg hlocks
end XR
-- the component's world
def cF (cI cS : ClassId) (G : Nat → Nat) (k : Nat) (f : Nat → Int32) : va_E :=
  if k < 6 then (match k with
    | 0 => .inr (5, [.ref (G 1), .ref (G 2), .ref (G 4), .int (f 0), .int (f 1)])
    | 1 => .inl (cS, 6, .inr (.inr (.inr (.inr (fun i => some (G (6 + 5 * i)))))))
    | 2 => .inr (3, [.ref (G 3)])
    | 3 => .inl (cI, 36, .inl f)
    | 4 => .inr (4, [.ref (G 5), .int (f 0), .int (f 1)])
    | _ => .inl (cI, 200, .inl f))
  else (match (k - 6) % 5 with
    | 0 => .inr (2, [.ref (G (k + 1)), .ref (G (k + 2)), .int (f 0), .int (f 1), .int (f 2), .int (f 3), .int (f 4), .int (f 5), .int (f 6), .int (f 7), .int (f 8), .int (f 9)])
    | 1 => .inr (0, [.ref (G (k + 2)), .ref (G (k + 3)), .int (f 0)])
    | 2 => .inr (1, [.int (f 0), .int (f 1), .int (f 2), .int (f 3), .int (f 4), .int (f 5), .int (f 6)])
    | 3 => .inl (cI, 5, .inl f)
    | _ => .inl (cI, 5, .inl f))
section CF
variable {cI cS : ClassId} {G : Nat → Nat}
theorem cF_air (f : Nat → Int32) : cF cI cS G 0 f = .inr (5, [.ref (G 1), .ref (G 2), .ref (G 4), .int (f 0), .int (f 1)]) := rfl
theorem cF_sts (f : Nat → Int32) : cF cI cS G 1 f = .inl (cS, 6, .inr (.inr (.inr (.inr (fun i => some (G (6 + 5 * i))))))) := rfl
theorem cF_str (f : Nat → Int32) : cF cI cS G 2 f = .inr (3, [.ref (G 3)]) := rfl
theorem cF_all (f : Nat → Int32) : cF cI cS G 3 f = .inl (cI, 36, .inl f) := rfl
theorem cF_told (f : Nat → Int32) : cF cI cS G 4 f = .inr (4, [.ref (G 5), .int (f 0), .int (f 1)]) := rfl
theorem cF_ring (f : Nat → Int32) : cF cI cS G 5 f = .inl (cI, 200, .inl f) := rfl
theorem cF_st (i : Nat) (f : Nat → Int32) : cF cI cS G (6 + 5 * i) f = .inr (2, [.ref (G (7 + 5 * i)), .ref (G (8 + 5 * i)), .int (f 0), .int (f 1), .int (f 2), .int (f 3), .int (f 4), .int (f 5), .int (f 6), .int (f 7), .int (f 8), .int (f 9)]) := by
  unfold cF
  rw [if_neg (by omega), show (6 + 5 * i - 6) % 5 = 0 by omega, show 6 + 5 * i + 1 = 7 + 5 * i by omega, show 6 + 5 * i + 2 = 8 + 5 * i by omega]
  rfl
theorem cF_row (i : Nat) (f : Nat → Int32) : cF cI cS G (7 + 5 * i) f = .inr (0, [.ref (G (9 + 5 * i)), .ref (G (10 + 5 * i)), .int (f 0)]) := by
  unfold cF
  rw [if_neg (by omega), show (7 + 5 * i - 6) % 5 = 1 by omega, show 7 + 5 * i + 2 = 9 + 5 * i by omega, show 7 + 5 * i + 3 = 10 + 5 * i by omega]
  rfl
theorem cF_sd (i : Nat) (f : Nat → Int32) : cF cI cS G (8 + 5 * i) f = .inr (1, [.int (f 0), .int (f 1), .int (f 2), .int (f 3), .int (f 4), .int (f 5), .int (f 6)]) := by
  unfold cF
  rw [if_neg (by omega), show (8 + 5 * i - 6) % 5 = 2 by omega]
  rfl
theorem cF_gl (i : Nat) (f : Nat → Int32) : cF cI cS G (9 + 5 * i) f = .inl (cI, 5, .inl f) := by
  unfold cF
  rw [if_neg (by omega), show (9 + 5 * i - 6) % 5 = 3 by omega]
  rfl
theorem cF_pt (i : Nat) (f : Nat → Int32) : cF cI cS G (10 + 5 * i) f = .inl (cI, 5, .inl f) := by
  unfold cF
  rw [if_neg (by omega), show (10 + 5 * i - 6) % 5 = 4 by omega]
  rfl
end CF
/-- the classes of the arrays: ints, stations -/
abbrev tY (cI cS : ClassId) : List (ClassId × FieldType) := [(cI, .int), (cS, .object "BackofficeAir$Station")]
end
section
def kN (x : Int32) : Nat := x.toNatClampNeg
theorem kN_nI {n : Nat} (h : n < 2 ^ 31) : kN (nI n) = n := nI_clamp h
theorem nI_ge0 {n : Nat} (h : n < 2 ^ 31) : 0 ≤ nI n := nI_pos' h
theorem nI_inj {a b : Nat} (ha : a < 2 ^ 31) (hb : b < 2 ^ 31) (h : nI a = nI b) : a = b := (nI_eq ha hb).mp h

def ush (x : Int32) (k : Nat) : Int32 := (x.toUInt32 >>> ((nI k).toUInt32 &&& Int32.toUInt32 31)).toInt32
def bc1 (x : Int32) : Int32 := x - (ush x 1 &&& 1431655765)
def bc2 (x : Int32) : Int32 := (x &&& 858993459) + (ush x 2 &&& 858993459)
def bc3 (x : Int32) : Int32 := (x + ush x 4) &&& 252645135
def bc4 (x : Int32) : Int32 := x + ush x 8
def bc5 (x : Int32) : Int32 := x + ush x 16

theorem lc_J6_bitCount_0f7a4_265 : Cond.constant RJ6 265 (1431655765) ∈ wsJ6_bitCount_0f7a4 := by decide +kernel
theorem lc_J6_bitCount_0f7a4_266 : Cond.constant RJ6 266 (858993459) ∈ wsJ6_bitCount_0f7a4 := by decide +kernel
theorem lc_J6_bitCount_0f7a4_267 : Cond.constant RJ6 267 (252645135) ∈ wsJ6_bitCount_0f7a4 := by decide +kernel
def f_J6_bitCount_0f7a4 (x : Int32) : Int32 := (bc5 (bc4 (bc3 (bc2 (bc1 x))))) &&& (nI 63)
theorem f_J6_bitCount_0f7a4_d (x : Int32) : f_J6_bitCount_0f7a4 x = ((bc5 (bc4 (bc3 (bc2 (bc1 x))))) &&& (nI 63)) := rfl
set_option maxHeartbeats 1000000 in
set_option maxRecDepth 100000 in
theorem c_J6_bitCount_0f7a4 (l : Launch) (sz : Nat) (x : Int32) : Met l yJ6_bitCount_0f7a4 wsJ6_bitCount_0f7a4 ({ frames := 1, cells := 0, slots := 0, locals := 20 } : Room) (sPc sz [.int x]) (pQi (f_J6_bitCount_0f7a4 x) sz) 0 0 (fun q => sz ≤ q) := by
  refine x_sta (cc := cJ6_bitCount_0f7a4) (maxL := 1) (ret := (some .int)) (by decide) rfl (Nat.le_of_ble_eq_true rfl) ?_
  intro p e s m below meth c ls hx hb hr hml hts hown hlocks hsz hN hl
  subst hsz
  have hown : s.vm.findClass RJ6 = some m.cls := hown
  have hl : lv_has ls 1 [(0, .int x)] := hl
  have hq := f_J6_bitCount_0f7a4_d x
  have hA : ∀ q : Nat, s.heap.size ≤ q → (fun q => s.heap.size ≤ q) q := fun q h => h
  have hS : va_S (fun q => s.heap.size ≤ q) s.heap s.heap [] := va_S.rf
  refine lv_iload_n hx hb dJ6_bitCount_0f7a4_0 rfl (lv_at hl 0 rfl) ?_
  refine lv_iload_n hx hb dJ6_bitCount_0f7a4_1 rfl (lv_at hl 0 rfl) ?_
  refine lv_iconst (v := nI 1) hx hb dJ6_bitCount_0f7a4_2 (by decide) ?_
  refine lv_iushr (v := (x.toUInt32 >>> ((nI 1).toUInt32 &&& Int32.toUInt32 31)).toInt32) hx hb dJ6_bitCount_0f7a4_3 rfl ?_
  refine lv_ldcw (v := 1431655765) hx hb hown (hts _ lc_J6_bitCount_0f7a4_265) dJ6_bitCount_0f7a4_4 ?_
  refine lv_iand hx hb dJ6_bitCount_0f7a4_7 ?_
  refine lv_isub hx hb dJ6_bitCount_0f7a4_8 ?_
  refine x_top (y := bc1 x) (rfl) ?_
  refine lv_istore_n (lv' := [(0, .int (bc1 x))]) hx hb dJ6_bitCount_0f7a4_9 rfl hl (by decide) rfl (fun ls hl => ?_)
  refine lv_iload_n hx hb dJ6_bitCount_0f7a4_10 rfl (lv_at hl 0 rfl) ?_
  refine lv_ldcw (v := 858993459) hx hb hown (hts _ lc_J6_bitCount_0f7a4_266) dJ6_bitCount_0f7a4_11 ?_
  refine lv_iand hx hb dJ6_bitCount_0f7a4_14 ?_
  refine lv_iload_n hx hb dJ6_bitCount_0f7a4_15 rfl (lv_at hl 0 rfl) ?_
  refine lv_iconst (v := nI 2) hx hb dJ6_bitCount_0f7a4_16 (by decide) ?_
  refine lv_iushr (v := ((bc1 x).toUInt32 >>> ((nI 2).toUInt32 &&& Int32.toUInt32 31)).toInt32) hx hb dJ6_bitCount_0f7a4_17 rfl ?_
  refine lv_ldcw (v := 858993459) hx hb hown (hts _ lc_J6_bitCount_0f7a4_266) dJ6_bitCount_0f7a4_18 ?_
  refine lv_iand hx hb dJ6_bitCount_0f7a4_21 ?_
  refine lv_iadd hx hb dJ6_bitCount_0f7a4_22 ?_
  refine x_top (y := bc2 (bc1 x)) (rfl) ?_
  refine lv_istore_n (lv' := [(0, .int (bc2 (bc1 x)))]) hx hb dJ6_bitCount_0f7a4_23 rfl hl (by decide) rfl (fun ls hl => ?_)
  refine lv_iload_n hx hb dJ6_bitCount_0f7a4_24 rfl (lv_at hl 0 rfl) ?_
  refine lv_iload_n hx hb dJ6_bitCount_0f7a4_25 rfl (lv_at hl 0 rfl) ?_
  refine lv_iconst (v := nI 4) hx hb dJ6_bitCount_0f7a4_26 (by decide) ?_
  refine lv_iushr (v := ((bc2 (bc1 x)).toUInt32 >>> ((nI 4).toUInt32 &&& Int32.toUInt32 31)).toInt32) hx hb dJ6_bitCount_0f7a4_27 rfl ?_
  refine lv_iadd hx hb dJ6_bitCount_0f7a4_28 ?_
  refine lv_ldcw (v := 252645135) hx hb hown (hts _ lc_J6_bitCount_0f7a4_267) dJ6_bitCount_0f7a4_29 ?_
  refine lv_iand hx hb dJ6_bitCount_0f7a4_32 ?_
  refine x_top (y := bc3 (bc2 (bc1 x))) (rfl) ?_
  refine lv_istore_n (lv' := [(0, .int (bc3 (bc2 (bc1 x))))]) hx hb dJ6_bitCount_0f7a4_33 rfl hl (by decide) rfl (fun ls hl => ?_)
  refine lv_iload_n hx hb dJ6_bitCount_0f7a4_34 rfl (lv_at hl 0 rfl) ?_
  refine lv_iload_n hx hb dJ6_bitCount_0f7a4_35 rfl (lv_at hl 0 rfl) ?_
  refine lv_bipush (v := nI 8) hx hb dJ6_bitCount_0f7a4_36 (by decide) ?_
  refine lv_iushr (v := ((bc3 (bc2 (bc1 x))).toUInt32 >>> ((nI 8).toUInt32 &&& Int32.toUInt32 31)).toInt32) hx hb dJ6_bitCount_0f7a4_38 rfl ?_
  refine lv_iadd hx hb dJ6_bitCount_0f7a4_39 ?_
  refine x_top (y := bc4 (bc3 (bc2 (bc1 x)))) (rfl) ?_
  refine lv_istore_n (lv' := [(0, .int (bc4 (bc3 (bc2 (bc1 x)))))]) hx hb dJ6_bitCount_0f7a4_40 rfl hl (by decide) rfl (fun ls hl => ?_)
  refine lv_iload_n hx hb dJ6_bitCount_0f7a4_41 rfl (lv_at hl 0 rfl) ?_
  refine lv_iload_n hx hb dJ6_bitCount_0f7a4_42 rfl (lv_at hl 0 rfl) ?_
  refine lv_bipush (v := nI 16) hx hb dJ6_bitCount_0f7a4_43 (by decide) ?_
  refine lv_iushr (v := ((bc4 (bc3 (bc2 (bc1 x)))).toUInt32 >>> ((nI 16).toUInt32 &&& Int32.toUInt32 31)).toInt32) hx hb dJ6_bitCount_0f7a4_45 rfl ?_
  refine lv_iadd hx hb dJ6_bitCount_0f7a4_46 ?_
  refine x_top (y := bc5 (bc4 (bc3 (bc2 (bc1 x))))) (rfl) ?_
  refine lv_istore_n (lv' := [(0, .int (bc5 (bc4 (bc3 (bc2 (bc1 x))))))]) hx hb dJ6_bitCount_0f7a4_47 rfl hl (by decide) rfl (fun ls hl => ?_)
  refine lv_iload_n hx hb dJ6_bitCount_0f7a4_48 rfl (lv_at hl 0 rfl) ?_
  refine lv_bipush (v := nI 63) hx hb dJ6_bitCount_0f7a4_49 (by decide) ?_
  refine lv_iand hx hb dJ6_bitCount_0f7a4_51 ?_
  exact x_ret_p hx hb hr rfl hlocks hS dJ6_bitCount_0f7a4_52 hq

def f_X5_isStation (x : Int32) : Int32 := if x < 0 then (nI 0) else (if nI 6 ≤ x then (nI 0) else (nI 1))
theorem f_X5_isStation_d (x : Int32) : f_X5_isStation x = (if x < 0 then (nI 0) else (if nI 6 ≤ x then (nI 0) else (nI 1))) := rfl
set_option maxHeartbeats 1000000 in
set_option maxRecDepth 100000 in
theorem c_X5_isStation (l : Launch) (sz : Nat) (x : Int32) : Met l yX5_isStation wsX5_isStation ({ frames := 1, cells := 0, slots := 0, locals := 20 } : Room) (sPc sz [.int x]) (pQi (f_X5_isStation x) sz) 0 0 (fun q => sz ≤ q) := by
  refine x_sta (cc := cX5_isStation) (maxL := 1) (ret := (some .boolean)) (by decide) rfl (Nat.le_of_ble_eq_true rfl) ?_
  intro p e s m below meth c ls hx hb hr hml hts hown hlocks hsz hN hl
  subst hsz
  have hown : s.vm.findClass RX5 = some m.cls := hown
  have hl : lv_has ls 1 [(0, .int x)] := hl
  have hq := f_X5_isStation_d x
  have hA : ∀ q : Nat, s.heap.size ≤ q → (fun q => s.heap.size ≤ q) q := fun q h => h
  have hS : va_S (fun q => s.heap.size ≤ q) s.heap s.heap [] := va_S.rf
  refine lv_iload_n hx hb dX5_isStation_0 rfl (lv_at hl 0 rfl) ?_
  refine lv_if_lt (tgt := 14) hx hb dX5_isStation_1 (by decide) (fun c_1 => ?_) (fun c_1 => ?_)
  · have hq := hq.trans (if_pos c_1)
    refine lv_iconst (v := nI 0) hx hb dX5_isStation_14 (by decide) ?_
    exact x_ret_p hx hb hr rfl hlocks hS dX5_isStation_15 hq
  · have hq := hq.trans (if_neg c_1)
    refine lv_iload_n hx hb dX5_isStation_4 rfl (lv_at hl 0 rfl) ?_
    refine lv_bipush (v := nI 6) hx hb dX5_isStation_5 (by decide) ?_
    refine lv_icmp_ge (tgt := 14) hx hb dX5_isStation_7 (by decide) (fun c_2 => ?_) (fun c_2 => ?_)
    · have hq := hq.trans (if_pos c_2)
      refine lv_iconst (v := nI 0) hx hb dX5_isStation_14 (by decide) ?_
      exact x_ret_p hx hb hr rfl hlocks hS dX5_isStation_15 hq
    · have hq := hq.trans (if_neg c_2)
      refine lv_iconst (v := nI 1) hx hb dX5_isStation_10 (by decide) ?_
      refine lv_goto (tgt := 15) hx hb dX5_isStation_11 (by decide) ?_
      exact x_ret_p hx hb hr rfl hlocks hS dX5_isStation_15 hq

def f_X5_leastWindow (x : Int32) : Int32 := if x = 0 then (nI 3) else (nI 7)
theorem f_X5_leastWindow_d (x : Int32) : f_X5_leastWindow x = (if x = 0 then (nI 3) else (nI 7)) := rfl
set_option maxHeartbeats 1000000 in
set_option maxRecDepth 100000 in
theorem c_X5_leastWindow (l : Launch) (sz : Nat) (x : Int32) : Met l yX5_leastWindow wsX5_leastWindow ({ frames := 1, cells := 0, slots := 0, locals := 20 } : Room) (sPc sz [.int x]) (pQi (f_X5_leastWindow x) sz) 0 0 (fun q => sz ≤ q) := by
  refine x_sta (cc := cX5_leastWindow) (maxL := 1) (ret := (some .int)) (by decide) rfl (Nat.le_of_ble_eq_true rfl) ?_
  intro p e s m below meth c ls hx hb hr hml hts hown hlocks hsz hN hl
  subst hsz
  have hown : s.vm.findClass RX5 = some m.cls := hown
  have hl : lv_has ls 1 [(0, .int x)] := hl
  have hq := f_X5_leastWindow_d x
  have hA : ∀ q : Nat, s.heap.size ≤ q → (fun q => s.heap.size ≤ q) q := fun q h => h
  have hS : va_S (fun q => s.heap.size ≤ q) s.heap s.heap [] := va_S.rf
  refine lv_iload_n hx hb dX5_leastWindow_0 rfl (lv_at hl 0 rfl) ?_
  refine lv_if_ne (tgt := 8) hx hb dX5_leastWindow_1 (by decide) (fun c_1 => ?_) (fun c_1 => ?_)
  · have hq := hq.trans (if_neg c_1)
    refine lv_bipush (v := nI 7) hx hb dX5_leastWindow_8 (by decide) ?_
    exact x_ret_p hx hb hr rfl hlocks hS dX5_leastWindow_10 hq
  · have hq := hq.trans (if_pos c_1)
    refine lv_iconst (v := nI 3) hx hb dX5_leastWindow_4 (by decide) ?_
    refine lv_goto (tgt := 10) hx hb dX5_leastWindow_5 (by decide) ?_
    exact x_ret_p hx hb hr rfl hlocks hS dX5_leastWindow_10 hq

def f_X5_restBy (x : Int32) (y : Int32) : Int32 := if y ≤ 0 then (nI 0) else (x - x / y * y)
theorem f_X5_restBy_d (x : Int32) (y : Int32) : f_X5_restBy x y = (if y ≤ 0 then (nI 0) else (x - x / y * y)) := rfl
set_option maxHeartbeats 1000000 in
set_option maxRecDepth 100000 in
theorem c_X5_restBy (l : Launch) (sz : Nat) (x : Int32) (y : Int32) : Met l yX5_restBy wsX5_restBy ({ frames := 1, cells := 0, slots := 0, locals := 20 } : Room) (sPc sz [.int x, .int y]) (pQi (f_X5_restBy x y) sz) 0 0 (fun q => sz ≤ q) := by
  refine x_sta (cc := cX5_restBy) (maxL := 2) (ret := (some .int)) (by decide) rfl (Nat.le_of_ble_eq_true rfl) ?_
  intro p e s m below meth c ls hx hb hr hml hts hown hlocks hsz hN hl
  subst hsz
  have hown : s.vm.findClass RX5 = some m.cls := hown
  have hl : lv_has ls 2 [(0, .int x), (1, .int y)] := hl
  have hq := f_X5_restBy_d x y
  have hA : ∀ q : Nat, s.heap.size ≤ q → (fun q => s.heap.size ≤ q) q := fun q h => h
  have hS : va_S (fun q => s.heap.size ≤ q) s.heap s.heap [] := va_S.rf
  refine lv_iload_n hx hb dX5_restBy_0 rfl (lv_at hl 1 rfl) ?_
  refine lv_if_le (tgt := 10) hx hb dX5_restBy_1 (by decide) (fun c_1 => ?_) (fun c_1 => ?_)
  · have hq := hq.trans (if_pos c_1)
    refine lv_iconst (v := nI 0) hx hb dX5_restBy_10 (by decide) ?_
    exact x_ret_p hx hb hr rfl hlocks hS dX5_restBy_11 hq
  · have hq := hq.trans (if_neg c_1)
    refine lv_iload_n hx hb dX5_restBy_4 rfl (lv_at hl 0 rfl) ?_
    refine lv_iload_n hx hb dX5_restBy_5 rfl (lv_at hl 1 rfl) ?_
    refine lv_irem hx hb dX5_restBy_6 (fun h => by subst h; exact c_1 (by decide)) ?_
    refine lv_goto (tgt := 11) hx hb dX5_restBy_7 (by decide) ?_
    exact x_ret_p hx hb hr rfl hlocks hS dX5_restBy_11 hq

theorem li_X3_placeOf_X5 : Cond.initialized RX5 ∈ wsX3_placeOf := by decide +kernel
theorem ls_X3_placeOf_X5_isStation : Cond.static yX5_isStation ∈ wsX3_placeOf := by decide +kernel
theorem nk_X3_19 : Cond.methodLinkNest RX3 19 ⟨"BackofficeAir", "isStation", "(I)Z"⟩ "BackofficeAir" ∈ nestW := by decide +kernel
def f_X3_placeOf (x : Int32) (y : Int32) : Int32 := if f_X5_isStation x = 0 then ((-1)) else (if f_X5_isStation y = 0 then ((-1)) else ((x * (nI 6)) + y))
theorem f_X3_placeOf_d (x : Int32) (y : Int32) : f_X3_placeOf x y = (if f_X5_isStation x = 0 then ((-1)) else (if f_X5_isStation y = 0 then ((-1)) else ((x * (nI 6)) + y))) := rfl
set_option maxHeartbeats 1000000 in
set_option maxRecDepth 100000 in
theorem c_X3_placeOf (l : Launch) (sz : Nat) (x : Int32) (y : Int32) : Met l yX3_placeOf wsX3_placeOf ({ frames := 2, cells := 0, slots := 0, locals := 40 } : Room) (sPc sz [.int x, .int y]) (pQi (f_X3_placeOf x y) sz) 0 0 (fun q => sz ≤ q) := by
  refine x_sta (cc := cX3_placeOf) (maxL := 2) (ret := (some .int)) (by decide) rfl (Nat.le_of_ble_eq_true rfl) ?_
  intro p e s m below meth c ls hx hb hr hml hts hown hlocks hsz hN hl
  subst hsz
  have hown : s.vm.findClass RX3 = some m.cls := hown
  have hl : lv_has ls 2 [(0, .int x), (1, .int y)] := hl
  have hq := f_X3_placeOf_d x y
  have hA : ∀ q : Nat, s.heap.size ≤ q → (fun q => s.heap.size ≤ q) q := fun q h => h
  have hS : va_S (fun q => s.heap.size ≤ q) s.heap s.heap [] := va_S.rf
  refine lv_iload_n hx hb dX3_placeOf_0 rfl (lv_at hl 0 rfl) ?_
  refine x_pi (va_runSN (As := [.int x]) (rest := []) ⟨hx, hb, hml, hown, hts⟩ (c_X5_isStation l s.heap.size x) ⟨va_cnB 1 hts gX3_placeOf_X5_isStation_n19 rfl rfl rfl (hN _ nk_X3_19) (hts _ li_X3_placeOf_X5) (by decide +kernel) ⟨Nat.le_of_ble_eq_true rfl, Nat.le_of_ble_eq_true rfl⟩, hts _ ls_X3_placeOf_X5_isStation, trivial⟩ ⟨sPc_blind, sPc_at hN⟩ rfl rfl hl.1 rfl (lv_room (Nat.le_of_ble_eq_true rfl)) dX3_placeOf_1 ⟨Nat.le_refl _, Nat.le_refl _⟩) hS hA (fun q h => h) (fun H locs hz hk hS => ?_)
  refine lv_if_eq (tgt := 23) hx hb dX3_placeOf_4 (by decide) (fun c_1 => ?_) (fun c_1 => ?_)
  · have hq := hq.trans (if_pos c_1)
    refine lv_iconst (v := (-1)) hx hb dX3_placeOf_23 (by decide) ?_
    exact x_ret_p hx hb hr rfl hlocks hS dX3_placeOf_24 hq
  · have hq := hq.trans (if_neg c_1)
    refine lv_iload_n hx hb dX3_placeOf_7 rfl (lv_at hl 1 rfl) ?_
    refine x_pi (va_runSN (As := [.int y]) (rest := []) ⟨hx, hb, hml, hown, hts⟩ (c_X5_isStation l H.size y) ⟨va_cnB 1 hts gX3_placeOf_X5_isStation_n19 rfl rfl rfl (hN _ nk_X3_19) (hts _ li_X3_placeOf_X5) (by decide +kernel) ⟨Nat.le_of_ble_eq_true rfl, Nat.le_of_ble_eq_true rfl⟩, hts _ ls_X3_placeOf_X5_isStation, trivial⟩ ⟨sPc_blind, sPc_at hN⟩ rfl rfl hl.1 rfl (lv_room (Nat.le_of_ble_eq_true rfl)) dX3_placeOf_8 ⟨Nat.le_refl _, Nat.le_refl _⟩) hS hA (fun q h => h) (fun H locs hz hk hS => ?_)
    refine lv_if_eq (tgt := 23) hx hb dX3_placeOf_11 (by decide) (fun c_2 => ?_) (fun c_2 => ?_)
    · have hq := hq.trans (if_pos c_2)
      refine lv_iconst (v := (-1)) hx hb dX3_placeOf_23 (by decide) ?_
      exact x_ret_p hx hb hr rfl hlocks hS dX3_placeOf_24 hq
    · have hq := hq.trans (if_neg c_2)
      refine lv_iload_n hx hb dX3_placeOf_14 rfl (lv_at hl 0 rfl) ?_
      refine lv_bipush (v := nI 6) hx hb dX3_placeOf_15 (by decide) ?_
      refine lv_imul hx hb dX3_placeOf_17 ?_
      refine lv_iload_n hx hb dX3_placeOf_18 rfl (lv_at hl 1 rfl) ?_
      refine lv_iadd hx hb dX3_placeOf_19 ?_
      refine lv_goto (tgt := 24) hx hb dX3_placeOf_20 (by decide) ?_
      exact x_ret_p hx hb hr rfl hlocks hS dX3_placeOf_24 hq

theorem f_isStation_in {a : Nat} (h : a < 6) : f_X5_isStation (nI a) = nI 1 := by
  unfold f_X5_isStation
  rw [if_neg (nI_pos (by omega)), if_neg (nI_ge h (by omega))]
theorem f_placeOf_in {a b : Nat} (h : a < 6) (h2 : b < 6) : f_X3_placeOf (nI a) (nI b) = nI (a * 6 + b) := by
  unfold f_X3_placeOf
  rw [f_isStation_in h, f_isStation_in h2, if_neg (by decide), if_neg (by decide), pk_mul, nI_add]

theorem mm_X0_add_X0 : ∀ w ∈ wsX00, w ∈ wsX0_add := by decide +kernel
theorem lk_X0_add_15 : Cond.fieldLink RX0 15 "BackofficeAir$Row" "parts" "[I" ∈ wsX0_add := by decide +kernel
theorem lk_X0_add_18 : Cond.fieldLink RX0 18 "BackofficeAir$Row" "count" "I" ∈ wsX0_add := by decide +kernel
theorem lk_X0_add_9 : Cond.fieldLink RX0 9 "BackofficeAir$Row" "goals" "[I" ∈ wsX0_add := by decide +kernel
def f_X0_add (S : Mem) (i : Nat) (g : Int32) (q : Int32) : Mem := ub (ub (ub S (9 + 5 * i) (kN (S (7 + 5 * i) 0)) g) (10 + 5 * i) (kN (S (7 + 5 * i) 0)) (((nI 1) <<< (q &&& 31)) - (nI 1))) (7 + 5 * i) 0 (((ub (ub S (9 + 5 * i) (kN (S (7 + 5 * i) 0)) g) (10 + 5 * i) (kN (S (7 + 5 * i) 0)) (((nI 1) <<< (q &&& 31)) - (nI 1))) (7 + 5 * i) 0) + (nI 1))
theorem f_X0_add_d (S : Mem) (i : Nat) (g : Int32) (q : Int32) : f_X0_add S i g q = (ub (ub (ub S (9 + 5 * i) (kN (S (7 + 5 * i) 0)) g) (10 + 5 * i) (kN (S (7 + 5 * i) 0)) (((nI 1) <<< (q &&& 31)) - (nI 1))) (7 + 5 * i) 0 (((ub (ub S (9 + 5 * i) (kN (S (7 + 5 * i) 0)) g) (10 + 5 * i) (kN (S (7 + 5 * i) 0)) (((nI 1) <<< (q &&& 31)) - (nI 1))) (7 + 5 * i) 0) + (nI 1))) := rfl
set_option maxHeartbeats 1000000 in
set_option maxRecDepth 100000 in
theorem c_X0_add (l : Launch) (D : va_G) (cI cS : ClassId) (G : Nat → Nat) (S : Mem) (sz : Nat) (i : Nat) (g : Int32) (q : Int32) (hi : i < 6) (hc : S (7 + 5 * i) 0 = nI (kN (S (7 + 5 * i) 0))) (hc5 : kN (S (7 + 5 * i) 0) < 5) : Met l yX0_add wsX0_add ({ frames := 1, cells := 0, slots := 0, locals := 20 } : Room) (wPc 36 (cF cI cS G) D (tY cI cS) G S sz [.ref (G (7 + 5 * i)), .int g, .int q]) (mQv (f_X0_add S i g q) 36 (cF cI cS G) D G sz) 0 0 (fA 36 G sz) := by
  refine x_met (cc := cX0_add) (maxL := 3) (ret := none) (by decide) rfl (Nat.le_of_ble_eq_true rfl) ?_
  intro p e s m below meth c ls hx hb hr hml hts hown hlocks hsz hP hK hD hN hl hnm
  subst hsz
  have hown : s.vm.findClass RX0 = some m.cls := hown
  have hl : lv_has ls 3 [(0, .ref (G (7 + 5 * i))), (1, .int g), (2, .int q)] := hl
  have hq := f_X0_add_d S i g q
  have hA : ∀ q : Nat, s.heap.size ≤ q → (fA 36 G s.heap.size) q := fun q h => Or.inr h
  have hS : va_S (fA 36 G s.heap.size) s.heap s.heap [] := va_S.rf
  refine lv_aload_n hx hb dX0_add_0 rfl (lv_at hl 0 rfl) ?_
  refine x_get hx hb hts mm_X0_add_X0 hown hK hP (7 + 5 * i) (by omega) (cF_row _ _) rfl 2 (by decide) (hts _ lk_X0_add_18) rfl rfl dX0_add_1 ?_
  refine x_top (y := nI (kN (S (7 + 5 * i) 0))) (hc) ?_
  refine lv_if_lt (tgt := 65) hx hb dX0_add_4 (by decide) (fun c_1 => absurd c_1 (nI_pos (by omega))) (fun _ => ?_)
  refine lv_aload_n hx hb dX0_add_7 rfl (lv_at hl 0 rfl) ?_
  refine x_get hx hb hts mm_X0_add_X0 hown hK hP (7 + 5 * i) (by omega) (cF_row _ _) rfl 2 (by decide) (hts _ lk_X0_add_18) rfl rfl dX0_add_8 ?_
  refine x_top (y := nI (kN (S (7 + 5 * i) 0))) (hc) ?_
  refine lv_aload_n hx hb dX0_add_11 rfl (lv_at hl 0 rfl) ?_
  refine x_get hx hb hts mm_X0_add_X0 hown hK hP (7 + 5 * i) (by omega) (cF_row _ _) rfl 0 (by decide) (hts _ lk_X0_add_9) rfl rfl dX0_add_12 ?_
  refine x_alen hx hb hK hP (9 + 5 * i) 0 (by omega) (cF_gl _ _) rfl dX0_add_15 ?_
  refine lv_icmp_ge (tgt := 65) hx hb dX0_add_16 (by decide) (fun c_2 => absurd c_2 (nI_ge hc5 (by omega))) (fun _ => ?_)
  refine lv_aload_n hx hb dX0_add_19 rfl (lv_at hl 0 rfl) ?_
  refine x_get hx hb hts mm_X0_add_X0 hown hK hP (7 + 5 * i) (by omega) (cF_row _ _) rfl 2 (by decide) (hts _ lk_X0_add_18) rfl rfl dX0_add_20 ?_
  refine x_top (y := nI (kN (S (7 + 5 * i) 0))) (hc) ?_
  refine lv_aload_n hx hb dX0_add_23 rfl (lv_at hl 0 rfl) ?_
  refine x_get hx hb hts mm_X0_add_X0 hown hK hP (7 + 5 * i) (by omega) (cF_row _ _) rfl 1 (by decide) (hts _ lk_X0_add_15) rfl rfl dX0_add_24 ?_
  refine x_alen hx hb hK hP (10 + 5 * i) 0 (by omega) (cF_pt _ _) rfl dX0_add_27 ?_
  refine lv_icmp_ge (tgt := 65) hx hb dX0_add_28 (by decide) (fun c_3 => absurd c_3 (nI_ge hc5 (by omega))) (fun _ => ?_)
  refine lv_aload_n hx hb dX0_add_31 rfl (lv_at hl 0 rfl) ?_
  refine x_get hx hb hts mm_X0_add_X0 hown hK hP (7 + 5 * i) (by omega) (cF_row _ _) rfl 0 (by decide) (hts _ lk_X0_add_9) rfl rfl dX0_add_32 ?_
  refine lv_aload_n hx hb dX0_add_35 rfl (lv_at hl 0 rfl) ?_
  refine x_get hx hb hts mm_X0_add_X0 hown hK hP (7 + 5 * i) (by omega) (cF_row _ _) rfl 2 (by decide) (hts _ lk_X0_add_18) rfl rfl dX0_add_36 ?_
  refine x_top (y := nI (kN (S (7 + 5 * i) 0))) (hc) ?_
  refine lv_iload_n hx hb dX0_add_39 rfl (lv_at hl 1 rfl) ?_
  refine x_iast hx hb hK hP hD hS (9 + 5 * i) 0 (by omega) (cF_gl _) rfl (kN (S (7 + 5 * i) 0)) (by omega) (by decide) dX0_add_40 (fun H locs hP hS => ?_)
  refine lv_aload_n hx hb dX0_add_41 rfl (lv_at hl 0 rfl) ?_
  refine x_get hx hb hts mm_X0_add_X0 hown hK hP (7 + 5 * i) (by omega) (cF_row _ _) rfl 1 (by decide) (hts _ lk_X0_add_15) rfl rfl dX0_add_42 ?_
  refine lv_aload_n hx hb dX0_add_45 rfl (lv_at hl 0 rfl) ?_
  refine x_get hx hb hts mm_X0_add_X0 hown hK hP (7 + 5 * i) (by omega) (cF_row _ _) rfl 2 (by decide) (hts _ lk_X0_add_18) rfl rfl dX0_add_46 ?_
  refine x_top (y := nI (kN (S (7 + 5 * i) 0))) (by rw [ub_ne _ _ _ (by omega)]; exact hc) ?_
  refine lv_iconst (v := nI 1) hx hb dX0_add_49 (by decide) ?_
  refine lv_iload_n hx hb dX0_add_50 rfl (lv_at hl 2 rfl) ?_
  refine lv_ishl hx hb dX0_add_51 ?_
  refine lv_iconst (v := nI 1) hx hb dX0_add_52 (by decide) ?_
  refine lv_isub hx hb dX0_add_53 ?_
  refine x_iast hx hb hK hP hD hS (10 + 5 * i) 0 (by omega) (cF_pt _) rfl (kN (S (7 + 5 * i) 0)) (by omega) (by decide) dX0_add_54 (fun H locs hP hS => ?_)
  refine lv_aload_n hx hb dX0_add_55 rfl (lv_at hl 0 rfl) ?_
  refine lv_dup hx hb dX0_add_56 rfl ?_
  refine x_get hx hb hts mm_X0_add_X0 hown hK hP (7 + 5 * i) (by omega) (cF_row _ _) rfl 2 (by decide) (hts _ lk_X0_add_18) rfl rfl dX0_add_57 ?_
  refine lv_iconst (v := nI 1) hx hb dX0_add_60 (by decide) ?_
  refine lv_iadd hx hb dX0_add_61 ?_
  refine x_put hx hb hts mm_X0_add_X0 tyX0 tyX0_ok nmX0 hown hK hP hD hS (7 + 5 * i) (by omega) (cF_row _ _) rfl 2 (by decide) (hts _ lk_X0_add_18) rfl rfl rfl rfl rfl (Nat.le_of_ble_eq_true rfl) 0 (cF_row _ _) dX0_add_62 (fun H locs hP hS => ?_)
  exact x_ret_v hx hb hr hlocks hP hS dX0_add_65 hq

theorem mm_X0_goalOfFirst_X0 : ∀ w ∈ wsX00, w ∈ wsX0_goalOfFirst := by decide +kernel
theorem lk_X0_goalOfFirst_18 : Cond.fieldLink RX0 18 "BackofficeAir$Row" "count" "I" ∈ wsX0_goalOfFirst := by decide +kernel
theorem lk_X0_goalOfFirst_9 : Cond.fieldLink RX0 9 "BackofficeAir$Row" "goals" "[I" ∈ wsX0_goalOfFirst := by decide +kernel
def f_X0_goalOfFirst (S : Mem) (i : Nat) : Int32 := if S (7 + 5 * i) 0 ≤ 0 then ((-1)) else (S (9 + 5 * i) 0)
theorem f_X0_goalOfFirst_d (S : Mem) (i : Nat) : f_X0_goalOfFirst S i = (if S (7 + 5 * i) 0 ≤ 0 then ((-1)) else (S (9 + 5 * i) 0)) := rfl
set_option maxHeartbeats 1000000 in
set_option maxRecDepth 100000 in
theorem c_X0_goalOfFirst (l : Launch) (D : va_G) (cI cS : ClassId) (G : Nat → Nat) (S : Mem) (sz : Nat) (i : Nat) (hi : i < 6) : Met l yX0_goalOfFirst wsX0_goalOfFirst ({ frames := 1, cells := 0, slots := 0, locals := 20 } : Room) (wPc 36 (cF cI cS G) D (tY cI cS) G S sz [.ref (G (7 + 5 * i))]) (pQi (f_X0_goalOfFirst S i) sz) 0 0 (fun q => sz ≤ q) := by
  refine x_met (cc := cX0_goalOfFirst) (maxL := 1) (ret := (some .int)) (by decide) rfl (Nat.le_of_ble_eq_true rfl) ?_
  intro p e s m below meth c ls hx hb hr hml hts hown hlocks hsz hP hK hD hN hl hnm
  subst hsz
  have hown : s.vm.findClass RX0 = some m.cls := hown
  have hl : lv_has ls 1 [(0, .ref (G (7 + 5 * i)))] := hl
  have hq := f_X0_goalOfFirst_d S i
  have hA : ∀ q : Nat, s.heap.size ≤ q → (fun q => s.heap.size ≤ q) q := fun q h => h
  have hS : va_S (fun q => s.heap.size ≤ q) s.heap s.heap [] := va_S.rf
  refine lv_aload_n hx hb dX0_goalOfFirst_0 rfl (lv_at hl 0 rfl) ?_
  refine x_get hx hb hts mm_X0_goalOfFirst_X0 hown hK hP (7 + 5 * i) (by omega) (cF_row _ _) rfl 2 (by decide) (hts _ lk_X0_goalOfFirst_18) rfl rfl dX0_goalOfFirst_1 ?_
  refine lv_if_le (tgt := 24) hx hb dX0_goalOfFirst_4 (by decide) (fun c_1 => ?_) (fun c_1 => ?_)
  · have hq := hq.trans (if_pos c_1)
    refine lv_iconst (v := (-1)) hx hb dX0_goalOfFirst_24 (by decide) ?_
    exact x_ret_p hx hb hr rfl hlocks hS dX0_goalOfFirst_25 hq
  · have hq := hq.trans (if_neg c_1)
    refine lv_aload_n hx hb dX0_goalOfFirst_7 rfl (lv_at hl 0 rfl) ?_
    refine x_get hx hb hts mm_X0_goalOfFirst_X0 hown hK hP (7 + 5 * i) (by omega) (cF_row _ _) rfl 0 (by decide) (hts _ lk_X0_goalOfFirst_9) rfl rfl dX0_goalOfFirst_8 ?_
    refine x_alen hx hb hK hP (9 + 5 * i) 0 (by omega) (cF_gl _ _) rfl dX0_goalOfFirst_11 ?_
    refine lv_if_le (tgt := 24) hx hb dX0_goalOfFirst_12 (by decide) (fun c_2 => absurd c_2 (by decide)) (fun _ => ?_)
    refine lv_aload_n hx hb dX0_goalOfFirst_15 rfl (lv_at hl 0 rfl) ?_
    refine x_get hx hb hts mm_X0_goalOfFirst_X0 hown hK hP (7 + 5 * i) (by omega) (cF_row _ _) rfl 0 (by decide) (hts _ lk_X0_goalOfFirst_9) rfl rfl dX0_goalOfFirst_16 ?_
    refine lv_iconst (v := nI 0) hx hb dX0_goalOfFirst_19 (by decide) ?_
    refine x_iald hx hb hK hP (9 + 5 * i) 0 (by omega) (cF_gl _ _) rfl 0 (by omega) (by decide) dX0_goalOfFirst_20 ?_
    refine lv_goto (tgt := 25) hx hb dX0_goalOfFirst_21 (by decide) ?_
    exact x_ret_p hx hb hr rfl hlocks hS dX0_goalOfFirst_25 hq

theorem mm_X0_partsOfFirst_X0 : ∀ w ∈ wsX00, w ∈ wsX0_partsOfFirst := by decide +kernel
theorem lk_X0_partsOfFirst_15 : Cond.fieldLink RX0 15 "BackofficeAir$Row" "parts" "[I" ∈ wsX0_partsOfFirst := by decide +kernel
theorem lk_X0_partsOfFirst_18 : Cond.fieldLink RX0 18 "BackofficeAir$Row" "count" "I" ∈ wsX0_partsOfFirst := by decide +kernel
def f_X0_partsOfFirst (S : Mem) (i : Nat) : Int32 := if S (7 + 5 * i) 0 ≤ 0 then (nI 0) else (S (10 + 5 * i) 0)
theorem f_X0_partsOfFirst_d (S : Mem) (i : Nat) : f_X0_partsOfFirst S i = (if S (7 + 5 * i) 0 ≤ 0 then (nI 0) else (S (10 + 5 * i) 0)) := rfl
set_option maxHeartbeats 1000000 in
set_option maxRecDepth 100000 in
theorem c_X0_partsOfFirst (l : Launch) (D : va_G) (cI cS : ClassId) (G : Nat → Nat) (S : Mem) (sz : Nat) (i : Nat) (hi : i < 6) : Met l yX0_partsOfFirst wsX0_partsOfFirst ({ frames := 1, cells := 0, slots := 0, locals := 20 } : Room) (wPc 36 (cF cI cS G) D (tY cI cS) G S sz [.ref (G (7 + 5 * i))]) (pQi (f_X0_partsOfFirst S i) sz) 0 0 (fun q => sz ≤ q) := by
  refine x_met (cc := cX0_partsOfFirst) (maxL := 1) (ret := (some .int)) (by decide) rfl (Nat.le_of_ble_eq_true rfl) ?_
  intro p e s m below meth c ls hx hb hr hml hts hown hlocks hsz hP hK hD hN hl hnm
  subst hsz
  have hown : s.vm.findClass RX0 = some m.cls := hown
  have hl : lv_has ls 1 [(0, .ref (G (7 + 5 * i)))] := hl
  have hq := f_X0_partsOfFirst_d S i
  have hA : ∀ q : Nat, s.heap.size ≤ q → (fun q => s.heap.size ≤ q) q := fun q h => h
  have hS : va_S (fun q => s.heap.size ≤ q) s.heap s.heap [] := va_S.rf
  refine lv_aload_n hx hb dX0_partsOfFirst_0 rfl (lv_at hl 0 rfl) ?_
  refine x_get hx hb hts mm_X0_partsOfFirst_X0 hown hK hP (7 + 5 * i) (by omega) (cF_row _ _) rfl 2 (by decide) (hts _ lk_X0_partsOfFirst_18) rfl rfl dX0_partsOfFirst_1 ?_
  refine lv_if_le (tgt := 24) hx hb dX0_partsOfFirst_4 (by decide) (fun c_1 => ?_) (fun c_1 => ?_)
  · have hq := hq.trans (if_pos c_1)
    refine lv_iconst (v := nI 0) hx hb dX0_partsOfFirst_24 (by decide) ?_
    exact x_ret_p hx hb hr rfl hlocks hS dX0_partsOfFirst_25 hq
  · have hq := hq.trans (if_neg c_1)
    refine lv_aload_n hx hb dX0_partsOfFirst_7 rfl (lv_at hl 0 rfl) ?_
    refine x_get hx hb hts mm_X0_partsOfFirst_X0 hown hK hP (7 + 5 * i) (by omega) (cF_row _ _) rfl 1 (by decide) (hts _ lk_X0_partsOfFirst_15) rfl rfl dX0_partsOfFirst_8 ?_
    refine x_alen hx hb hK hP (10 + 5 * i) 0 (by omega) (cF_pt _ _) rfl dX0_partsOfFirst_11 ?_
    refine lv_if_le (tgt := 24) hx hb dX0_partsOfFirst_12 (by decide) (fun c_2 => absurd c_2 (by decide)) (fun _ => ?_)
    refine lv_aload_n hx hb dX0_partsOfFirst_15 rfl (lv_at hl 0 rfl) ?_
    refine x_get hx hb hts mm_X0_partsOfFirst_X0 hown hK hP (7 + 5 * i) (by omega) (cF_row _ _) rfl 1 (by decide) (hts _ lk_X0_partsOfFirst_15) rfl rfl dX0_partsOfFirst_16 ?_
    refine lv_iconst (v := nI 0) hx hb dX0_partsOfFirst_19 (by decide) ?_
    refine x_iald hx hb hK hP (10 + 5 * i) 0 (by omega) (cF_pt _ _) rfl 0 (by omega) (by decide) dX0_partsOfFirst_20 ?_
    refine lv_goto (tgt := 25) hx hb dX0_partsOfFirst_21 (by decide) ?_
    exact x_ret_p hx hb hr rfl hlocks hS dX0_partsOfFirst_25 hq

theorem mm_X0_takeFromFirst_X0 : ∀ w ∈ wsX00, w ∈ wsX0_takeFromFirst := by decide +kernel
theorem lk_X0_takeFromFirst_15 : Cond.fieldLink RX0 15 "BackofficeAir$Row" "parts" "[I" ∈ wsX0_takeFromFirst := by decide +kernel
theorem lk_X0_takeFromFirst_18 : Cond.fieldLink RX0 18 "BackofficeAir$Row" "count" "I" ∈ wsX0_takeFromFirst := by decide +kernel
def f_X0_takeFromFirst (S : Mem) (i : Nat) (x : Int32) : Mem := if S (7 + 5 * i) 0 ≤ 0 then (S) else (ub S (10 + 5 * i) 0 ((S (10 + 5 * i) 0) &&& (x ^^^ ((-1)))))
theorem f_X0_takeFromFirst_d (S : Mem) (i : Nat) (x : Int32) : f_X0_takeFromFirst S i x = (if S (7 + 5 * i) 0 ≤ 0 then (S) else (ub S (10 + 5 * i) 0 ((S (10 + 5 * i) 0) &&& (x ^^^ ((-1)))))) := rfl
set_option maxHeartbeats 1000000 in
set_option maxRecDepth 100000 in
theorem c_X0_takeFromFirst (l : Launch) (D : va_G) (cI cS : ClassId) (G : Nat → Nat) (S : Mem) (sz : Nat) (i : Nat) (x : Int32) (hi : i < 6) : Met l yX0_takeFromFirst wsX0_takeFromFirst ({ frames := 1, cells := 0, slots := 0, locals := 20 } : Room) (wPc 36 (cF cI cS G) D (tY cI cS) G S sz [.ref (G (7 + 5 * i)), .int x]) (mQv (f_X0_takeFromFirst S i x) 36 (cF cI cS G) D G sz) 0 0 (fA 36 G sz) := by
  refine x_met (cc := cX0_takeFromFirst) (maxL := 2) (ret := none) (by decide) rfl (Nat.le_of_ble_eq_true rfl) ?_
  intro p e s m below meth c ls hx hb hr hml hts hown hlocks hsz hP hK hD hN hl hnm
  subst hsz
  have hown : s.vm.findClass RX0 = some m.cls := hown
  have hl : lv_has ls 2 [(0, .ref (G (7 + 5 * i))), (1, .int x)] := hl
  have hq := f_X0_takeFromFirst_d S i x
  have hA : ∀ q : Nat, s.heap.size ≤ q → (fA 36 G s.heap.size) q := fun q h => Or.inr h
  have hS : va_S (fA 36 G s.heap.size) s.heap s.heap [] := va_S.rf
  refine lv_aload_n hx hb dX0_takeFromFirst_0 rfl (lv_at hl 0 rfl) ?_
  refine x_get hx hb hts mm_X0_takeFromFirst_X0 hown hK hP (7 + 5 * i) (by omega) (cF_row _ _) rfl 2 (by decide) (hts _ lk_X0_takeFromFirst_18) rfl rfl dX0_takeFromFirst_1 ?_
  refine lv_if_le (tgt := 27) hx hb dX0_takeFromFirst_4 (by decide) (fun c_1 => ?_) (fun c_1 => ?_)
  · have hq := hq.trans (if_pos c_1)
    exact x_ret_v hx hb hr hlocks hP hS dX0_takeFromFirst_27 hq
  · have hq := hq.trans (if_neg c_1)
    refine lv_aload_n hx hb dX0_takeFromFirst_7 rfl (lv_at hl 0 rfl) ?_
    refine x_get hx hb hts mm_X0_takeFromFirst_X0 hown hK hP (7 + 5 * i) (by omega) (cF_row _ _) rfl 1 (by decide) (hts _ lk_X0_takeFromFirst_15) rfl rfl dX0_takeFromFirst_8 ?_
    refine x_alen hx hb hK hP (10 + 5 * i) 0 (by omega) (cF_pt _ _) rfl dX0_takeFromFirst_11 ?_
    refine lv_if_le (tgt := 27) hx hb dX0_takeFromFirst_12 (by decide) (fun c_2 => absurd c_2 (by decide)) (fun _ => ?_)
    refine lv_aload_n hx hb dX0_takeFromFirst_15 rfl (lv_at hl 0 rfl) ?_
    refine x_get hx hb hts mm_X0_takeFromFirst_X0 hown hK hP (7 + 5 * i) (by omega) (cF_row _ _) rfl 1 (by decide) (hts _ lk_X0_takeFromFirst_15) rfl rfl dX0_takeFromFirst_16 ?_
    refine lv_iconst (v := nI 0) hx hb dX0_takeFromFirst_19 (by decide) ?_
    refine lv_dup2_11 hx hb dX0_takeFromFirst_20 rfl rfl ?_
    refine x_iald hx hb hK hP (10 + 5 * i) 0 (by omega) (cF_pt _ _) rfl 0 (by omega) (by decide) dX0_takeFromFirst_21 ?_
    refine lv_iload_n hx hb dX0_takeFromFirst_22 rfl (lv_at hl 1 rfl) ?_
    refine lv_iconst (v := (-1)) hx hb dX0_takeFromFirst_23 (by decide) ?_
    refine lv_ixor hx hb dX0_takeFromFirst_24 ?_
    refine lv_iand hx hb dX0_takeFromFirst_25 ?_
    refine x_iast hx hb hK hP hD hS (10 + 5 * i) 0 (by omega) (cF_pt _) rfl 0 (by omega) (by decide) dX0_takeFromFirst_26 (fun H locs hP hS => ?_)
    exact x_ret_v hx hb hr hlocks hP hS dX0_takeFromFirst_27 hq

theorem mm_X0_removeFirst_X0 : ∀ w ∈ wsX00, w ∈ wsX0_removeFirst := by decide +kernel
theorem lk_X0_removeFirst_15 : Cond.fieldLink RX0 15 "BackofficeAir$Row" "parts" "[I" ∈ wsX0_removeFirst := by decide +kernel
theorem lk_X0_removeFirst_18 : Cond.fieldLink RX0 18 "BackofficeAir$Row" "count" "I" ∈ wsX0_removeFirst := by decide +kernel
theorem lk_X0_removeFirst_9 : Cond.fieldLink RX0 9 "BackofficeAir$Row" "goals" "[I" ∈ wsX0_removeFirst := by decide +kernel
theorem lm1_X0_removeFirst_max : Cond.methodLink RX0 22 Lib.Math.max.name ∈ wsX0_removeFirst := by decide +kernel
theorem lm2_X0_removeFirst_max : Cond.static Lib.Math.max.name ∈ wsX0_removeFirst := by decide +kernel
theorem lm3_X0_removeFirst_max : Cond.initialized "java/lang/Math" ∈ wsX0_removeFirst := by decide +kernel
theorem lm4_X0_removeFirst_max : Cond.code Lib.Math.max.name Lib.Math.max.code 2 (some .int) ∈ wsX0_removeFirst := by decide +kernel
def f_X0_removeFirst_L1 (i0 : Nat) : Nat → Nat → Mem → Mem
  | 0, i, S_L1 => if S_L1 (7 + 5 * i0) 0 ≤ nI i then (ub S_L1 (7 + 5 * i0) 0 (if ((S_L1 (7 + 5 * i0) 0) - (nI 1)) < (nI 0) then (nI 0) else ((S_L1 (7 + 5 * i0) 0) - (nI 1)))) else (ub S_L1 (7 + 5 * i0) 0 (if ((S_L1 (7 + 5 * i0) 0) - (nI 1)) < (nI 0) then (nI 0) else ((S_L1 (7 + 5 * i0) 0) - (nI 1))))
  | n + 1, i, S_L1 => if S_L1 (7 + 5 * i0) 0 ≤ nI i then (ub S_L1 (7 + 5 * i0) 0 (if ((S_L1 (7 + 5 * i0) 0) - (nI 1)) < (nI 0) then (nI 0) else ((S_L1 (7 + 5 * i0) 0) - (nI 1)))) else (f_X0_removeFirst_L1 i0 n (i + 1) (ub (ub S_L1 (9 + 5 * i0) (i - 1) (S_L1 (9 + 5 * i0) i)) (10 + 5 * i0) (i - 1) ((ub S_L1 (9 + 5 * i0) (i - 1) (S_L1 (9 + 5 * i0) i)) (10 + 5 * i0) i)))
theorem f_X0_removeFirst_L1_z (i0 : Nat) (i : Nat) (S_L1 : Mem) : f_X0_removeFirst_L1 i0 0 i S_L1 = (if S_L1 (7 + 5 * i0) 0 ≤ nI i then (ub S_L1 (7 + 5 * i0) 0 (if ((S_L1 (7 + 5 * i0) 0) - (nI 1)) < (nI 0) then (nI 0) else ((S_L1 (7 + 5 * i0) 0) - (nI 1)))) else (ub S_L1 (7 + 5 * i0) 0 (if ((S_L1 (7 + 5 * i0) 0) - (nI 1)) < (nI 0) then (nI 0) else ((S_L1 (7 + 5 * i0) 0) - (nI 1))))) := rfl
theorem f_X0_removeFirst_L1_s (i0 : Nat) (n : Nat) (i : Nat) (S_L1 : Mem) : f_X0_removeFirst_L1 i0 (n + 1) i S_L1 = (if S_L1 (7 + 5 * i0) 0 ≤ nI i then (ub S_L1 (7 + 5 * i0) 0 (if ((S_L1 (7 + 5 * i0) 0) - (nI 1)) < (nI 0) then (nI 0) else ((S_L1 (7 + 5 * i0) 0) - (nI 1)))) else (f_X0_removeFirst_L1 i0 n (i + 1) (ub (ub S_L1 (9 + 5 * i0) (i - 1) (S_L1 (9 + 5 * i0) i)) (10 + 5 * i0) (i - 1) ((ub S_L1 (9 + 5 * i0) (i - 1) (S_L1 (9 + 5 * i0) i)) (10 + 5 * i0) i)))) := rfl
def f_X0_removeFirst (S : Mem) (i0 : Nat) : Mem := f_X0_removeFirst_L1 i0 (5 - 1) 1 S
theorem f_X0_removeFirst_d (S : Mem) (i0 : Nat) : f_X0_removeFirst S i0 = (f_X0_removeFirst_L1 i0 (5 - 1) 1 S) := rfl
set_option maxHeartbeats 1000000 in
set_option maxRecDepth 100000 in
theorem c_X0_removeFirst (l : Launch) (D : va_G) (cI cS : ClassId) (G : Nat → Nat) (S : Mem) (sz : Nat) (i0 : Nat) (hi : i0 < 6) : Met l yX0_removeFirst wsX0_removeFirst ({ frames := 1, cells := 0, slots := 0, locals := 20 } : Room) (wPc 36 (cF cI cS G) D (tY cI cS) G S sz [.ref (G (7 + 5 * i0))]) (mQv (f_X0_removeFirst S i0) 36 (cF cI cS G) D G sz) 0 0 (fA 36 G sz) := by
  refine x_met (cc := cX0_removeFirst) (maxL := 2) (ret := none) (by decide) rfl (Nat.le_of_ble_eq_true rfl) ?_
  intro p e s m below meth c ls hx hb hr hml hts hown hlocks hsz hP hK hD hN hl hnm
  subst hsz
  have hown : s.vm.findClass RX0 = some m.cls := hown
  have hl : lv_has ls 2 [(0, .ref (G (7 + 5 * i0)))] := hl
  have hq := f_X0_removeFirst_d S i0
  have hA : ∀ q : Nat, s.heap.size ≤ q → (fA 36 G s.heap.size) q := fun q h => Or.inr h
  have hS : va_S (fA 36 G s.heap.size) s.heap s.heap [] := va_S.rf
  refine lv_iconst (v := nI 1) hx hb dX0_removeFirst_0 (by decide) ?_
  refine lv_istore_n (lv' := [(1, .int (nI 1)), (0, .ref (G (7 + 5 * i0)))]) hx hb dX0_removeFirst_1 rfl hl (by decide) rfl (fun ls hl => ?_)
  have L1 : ∀ (n : Nat) (i : Nat) (S_L1 : Mem) (H : Heap) (locs : List Loc) (ls : Array Slot), i + n = 5 → f_X0_removeFirst S i0 = f_X0_removeFirst_L1 i0 n i S_L1 → (1 ≤ i) → va_P D vwCl (WL 36 G (cF cI cS G) S_L1) H → va_S (fA 36 G s.heap.size) s.heap H locs → lv_has ls 2 [(1, .int (nI i)), (0, .ref (G (7 + 5 * i0)))] → W p l e ({ frames := 1, cells := 0, slots := 0, locals := 20 } : Room) s m ([.ref (G (7 + 5 * i0))] : List Value).toArray below meth c H locs 0 0 (MQ below (mQv (f_X0_removeFirst S i0) 36 (cF cI cS G) D G s.heap.size) ([.ref (G (7 + 5 * i0))] : List Value).toArray s 0 0 (fA 36 G s.heap.size)) (F0 m 2 ls []) := by
    intro n
    induction n with
    | zero =>
      intro i S_L1 H locs ls hin hq h1 hP hS hl
      have hq := hq.trans (f_X0_removeFirst_L1_z _ _ _)
      refine lv_iload_n hx hb dX0_removeFirst_2 rfl (lv_at hl 0 rfl) ?_
      refine lv_aload_n hx hb dX0_removeFirst_3 rfl (lv_at hl 1 rfl) ?_
      refine x_get hx hb hts mm_X0_removeFirst_X0 hown hK hP (7 + 5 * i0) (by omega) (cF_row _ _) rfl 2 (by decide) (hts _ lk_X0_removeFirst_18) rfl rfl dX0_removeFirst_4 ?_
      refine lv_icmp_ge (tgt := 62) hx hb dX0_removeFirst_7 (by decide) (fun c_1 => ?_) (fun c_1 => ?_)
      · have hq := hq.trans (if_pos c_1)
        refine lv_aload_n hx hb dX0_removeFirst_62 rfl (lv_at hl 1 rfl) ?_
        refine lv_aload_n hx hb dX0_removeFirst_63 rfl (lv_at hl 1 rfl) ?_
        refine x_get hx hb hts mm_X0_removeFirst_X0 hown hK hP (7 + 5 * i0) (by omega) (cF_row _ _) rfl 2 (by decide) (hts _ lk_X0_removeFirst_18) rfl rfl dX0_removeFirst_64 ?_
        refine lv_iconst (v := nI 1) hx hb dX0_removeFirst_67 (by decide) ?_
        refine lv_isub hx hb dX0_removeFirst_68 ?_
        refine lv_iconst (v := nI 0) hx hb dX0_removeFirst_69 (by decide) ?_
        refine va_mmax hx hb (hml.trans hl.1.symm) hown (hts _ lm1_X0_removeFirst_max) (hts _ lm2_X0_removeFirst_max) (hts _ lm3_X0_removeFirst_max) (hts _ lm4_X0_removeFirst_max) (Nat.le_of_ble_eq_true rfl) (Nat.le_of_ble_eq_true rfl) (Nat.zero_le _) (Nat.zero_le _) dX0_removeFirst_70 ?_
        refine x_put hx hb hts mm_X0_removeFirst_X0 tyX0 tyX0_ok nmX0 hown hK hP hD hS (7 + 5 * i0) (by omega) (cF_row _ _) rfl 2 (by decide) (hts _ lk_X0_removeFirst_18) rfl rfl rfl rfl rfl (Nat.le_of_ble_eq_true rfl) 0 (cF_row _ _) dX0_removeFirst_73 (fun H locs hP hS => ?_)
        exact x_ret_v hx hb hr hlocks hP hS dX0_removeFirst_76 hq
      · have hq := hq.trans (if_neg c_1)
        refine lv_iload_n hx hb dX0_removeFirst_10 rfl (lv_at hl 0 rfl) ?_
        refine lv_aload_n hx hb dX0_removeFirst_11 rfl (lv_at hl 1 rfl) ?_
        refine x_get hx hb hts mm_X0_removeFirst_X0 hown hK hP (7 + 5 * i0) (by omega) (cF_row _ _) rfl 0 (by decide) (hts _ lk_X0_removeFirst_9) rfl rfl dX0_removeFirst_12 ?_
        refine x_alen hx hb hK hP (9 + 5 * i0) 0 (by omega) (cF_gl _ _) rfl dX0_removeFirst_15 ?_
        refine lv_icmp_ge (tgt := 62) hx hb dX0_removeFirst_16 (by decide) (fun _ => ?_) (fun c_2 => absurd (nI_le (by omega) (by omega)) c_2) 
        refine lv_aload_n hx hb dX0_removeFirst_62 rfl (lv_at hl 1 rfl) ?_
        refine lv_aload_n hx hb dX0_removeFirst_63 rfl (lv_at hl 1 rfl) ?_
        refine x_get hx hb hts mm_X0_removeFirst_X0 hown hK hP (7 + 5 * i0) (by omega) (cF_row _ _) rfl 2 (by decide) (hts _ lk_X0_removeFirst_18) rfl rfl dX0_removeFirst_64 ?_
        refine lv_iconst (v := nI 1) hx hb dX0_removeFirst_67 (by decide) ?_
        refine lv_isub hx hb dX0_removeFirst_68 ?_
        refine lv_iconst (v := nI 0) hx hb dX0_removeFirst_69 (by decide) ?_
        refine va_mmax hx hb (hml.trans hl.1.symm) hown (hts _ lm1_X0_removeFirst_max) (hts _ lm2_X0_removeFirst_max) (hts _ lm3_X0_removeFirst_max) (hts _ lm4_X0_removeFirst_max) (Nat.le_of_ble_eq_true rfl) (Nat.le_of_ble_eq_true rfl) (Nat.zero_le _) (Nat.zero_le _) dX0_removeFirst_70 ?_
        refine x_put hx hb hts mm_X0_removeFirst_X0 tyX0 tyX0_ok nmX0 hown hK hP hD hS (7 + 5 * i0) (by omega) (cF_row _ _) rfl 2 (by decide) (hts _ lk_X0_removeFirst_18) rfl rfl rfl rfl rfl (Nat.le_of_ble_eq_true rfl) 0 (cF_row _ _) dX0_removeFirst_73 (fun H locs hP hS => ?_)
        exact x_ret_v hx hb hr hlocks hP hS dX0_removeFirst_76 hq
    | succ n ih =>
      intro i S_L1 H locs ls hin hq h1 hP hS hl
      have hq := hq.trans (f_X0_removeFirst_L1_s _ _ _ _)
      refine lv_iload_n hx hb dX0_removeFirst_2 rfl (lv_at hl 0 rfl) ?_
      refine lv_aload_n hx hb dX0_removeFirst_3 rfl (lv_at hl 1 rfl) ?_
      refine x_get hx hb hts mm_X0_removeFirst_X0 hown hK hP (7 + 5 * i0) (by omega) (cF_row _ _) rfl 2 (by decide) (hts _ lk_X0_removeFirst_18) rfl rfl dX0_removeFirst_4 ?_
      refine lv_icmp_ge (tgt := 62) hx hb dX0_removeFirst_7 (by decide) (fun c_3 => ?_) (fun c_3 => ?_)
      · have hq := hq.trans (if_pos c_3)
        refine lv_aload_n hx hb dX0_removeFirst_62 rfl (lv_at hl 1 rfl) ?_
        refine lv_aload_n hx hb dX0_removeFirst_63 rfl (lv_at hl 1 rfl) ?_
        refine x_get hx hb hts mm_X0_removeFirst_X0 hown hK hP (7 + 5 * i0) (by omega) (cF_row _ _) rfl 2 (by decide) (hts _ lk_X0_removeFirst_18) rfl rfl dX0_removeFirst_64 ?_
        refine lv_iconst (v := nI 1) hx hb dX0_removeFirst_67 (by decide) ?_
        refine lv_isub hx hb dX0_removeFirst_68 ?_
        refine lv_iconst (v := nI 0) hx hb dX0_removeFirst_69 (by decide) ?_
        refine va_mmax hx hb (hml.trans hl.1.symm) hown (hts _ lm1_X0_removeFirst_max) (hts _ lm2_X0_removeFirst_max) (hts _ lm3_X0_removeFirst_max) (hts _ lm4_X0_removeFirst_max) (Nat.le_of_ble_eq_true rfl) (Nat.le_of_ble_eq_true rfl) (Nat.zero_le _) (Nat.zero_le _) dX0_removeFirst_70 ?_
        refine x_put hx hb hts mm_X0_removeFirst_X0 tyX0 tyX0_ok nmX0 hown hK hP hD hS (7 + 5 * i0) (by omega) (cF_row _ _) rfl 2 (by decide) (hts _ lk_X0_removeFirst_18) rfl rfl rfl rfl rfl (Nat.le_of_ble_eq_true rfl) 0 (cF_row _ _) dX0_removeFirst_73 (fun H locs hP hS => ?_)
        exact x_ret_v hx hb hr hlocks hP hS dX0_removeFirst_76 hq
      · have hq := hq.trans (if_neg c_3)
        refine lv_iload_n hx hb dX0_removeFirst_10 rfl (lv_at hl 0 rfl) ?_
        refine lv_aload_n hx hb dX0_removeFirst_11 rfl (lv_at hl 1 rfl) ?_
        refine x_get hx hb hts mm_X0_removeFirst_X0 hown hK hP (7 + 5 * i0) (by omega) (cF_row _ _) rfl 0 (by decide) (hts _ lk_X0_removeFirst_9) rfl rfl dX0_removeFirst_12 ?_
        refine x_alen hx hb hK hP (9 + 5 * i0) 0 (by omega) (cF_gl _ _) rfl dX0_removeFirst_15 ?_
        refine lv_icmp_ge (tgt := 62) hx hb dX0_removeFirst_16 (by decide) (fun c_4 => absurd c_4 (nI_ge (by omega) (by omega))) (fun _ => ?_)
        refine lv_iload_n hx hb dX0_removeFirst_19 rfl (lv_at hl 0 rfl) ?_
        refine lv_aload_n hx hb dX0_removeFirst_20 rfl (lv_at hl 1 rfl) ?_
        refine x_get hx hb hts mm_X0_removeFirst_X0 hown hK hP (7 + 5 * i0) (by omega) (cF_row _ _) rfl 1 (by decide) (hts _ lk_X0_removeFirst_15) rfl rfl dX0_removeFirst_21 ?_
        refine x_alen hx hb hK hP (10 + 5 * i0) 0 (by omega) (cF_pt _ _) rfl dX0_removeFirst_24 ?_
        refine lv_icmp_ge (tgt := 62) hx hb dX0_removeFirst_25 (by decide) (fun c_5 => absurd c_5 (nI_ge (by omega) (by omega))) (fun _ => ?_)
        refine lv_aload_n hx hb dX0_removeFirst_28 rfl (lv_at hl 1 rfl) ?_
        refine x_get hx hb hts mm_X0_removeFirst_X0 hown hK hP (7 + 5 * i0) (by omega) (cF_row _ _) rfl 0 (by decide) (hts _ lk_X0_removeFirst_9) rfl rfl dX0_removeFirst_29 ?_
        refine lv_iload_n hx hb dX0_removeFirst_32 rfl (lv_at hl 0 rfl) ?_
        refine lv_iconst (v := nI 1) hx hb dX0_removeFirst_33 (by decide) ?_
        refine x_isubN hx hb h1 dX0_removeFirst_34 ?_
        refine lv_aload_n hx hb dX0_removeFirst_35 rfl (lv_at hl 1 rfl) ?_
        refine x_get hx hb hts mm_X0_removeFirst_X0 hown hK hP (7 + 5 * i0) (by omega) (cF_row _ _) rfl 0 (by decide) (hts _ lk_X0_removeFirst_9) rfl rfl dX0_removeFirst_36 ?_
        refine lv_iload_n hx hb dX0_removeFirst_39 rfl (lv_at hl 0 rfl) ?_
        refine x_iald hx hb hK hP (9 + 5 * i0) 0 (by omega) (cF_gl _ _) rfl i (by omega) (by decide) dX0_removeFirst_40 ?_
        refine x_iast hx hb hK hP hD hS (9 + 5 * i0) 0 (by omega) (cF_gl _) rfl (i - 1) (by omega) (by decide) dX0_removeFirst_41 (fun H locs hP hS => ?_)
        refine lv_aload_n hx hb dX0_removeFirst_42 rfl (lv_at hl 1 rfl) ?_
        refine x_get hx hb hts mm_X0_removeFirst_X0 hown hK hP (7 + 5 * i0) (by omega) (cF_row _ _) rfl 1 (by decide) (hts _ lk_X0_removeFirst_15) rfl rfl dX0_removeFirst_43 ?_
        refine lv_iload_n hx hb dX0_removeFirst_46 rfl (lv_at hl 0 rfl) ?_
        refine lv_iconst (v := nI 1) hx hb dX0_removeFirst_47 (by decide) ?_
        refine x_isubN hx hb h1 dX0_removeFirst_48 ?_
        refine lv_aload_n hx hb dX0_removeFirst_49 rfl (lv_at hl 1 rfl) ?_
        refine x_get hx hb hts mm_X0_removeFirst_X0 hown hK hP (7 + 5 * i0) (by omega) (cF_row _ _) rfl 1 (by decide) (hts _ lk_X0_removeFirst_15) rfl rfl dX0_removeFirst_50 ?_
        refine lv_iload_n hx hb dX0_removeFirst_53 rfl (lv_at hl 0 rfl) ?_
        refine x_iald hx hb hK hP (10 + 5 * i0) 0 (by omega) (cF_pt _ _) rfl i (by omega) (by decide) dX0_removeFirst_54 ?_
        refine x_iast hx hb hK hP hD hS (10 + 5 * i0) 0 (by omega) (cF_pt _) rfl (i - 1) (by omega) (by decide) dX0_removeFirst_55 (fun H locs hP hS => ?_)
        refine lv_iinc (v := nI (i + 1)) (lv' := [(1, .int (nI (i + 1))), (0, .ref (G (7 + 5 * i0)))]) hx hb dX0_removeFirst_56 hl (k := 0) rfl (nI_add _ _) (by decide) rfl (fun ls hl => ?_)
        refine lv_goto (tgt := 2) hx hb dX0_removeFirst_59 (by decide) ?_
        exact ih (i + 1) (ub (ub S_L1 (9 + 5 * i0) (i - 1) (S_L1 (9 + 5 * i0) i)) (10 + 5 * i0) (i - 1) ((ub S_L1 (9 + 5 * i0) (i - 1) (S_L1 (9 + 5 * i0) i)) (10 + 5 * i0) i)) H locs ls (by omega) hq (by omega) hP hS (lv_sub hl [0, 1] rfl)
  exact L1 (5 - 1) 1 S _ _ _ (by omega) hq (by omega) hP hS (lv_sub hl [0, 1] rfl)

theorem mm_X1_firstSlotOfParts_X1 : ∀ w ∈ wsX10, w ∈ wsX1_firstSlotOfParts := by decide +kernel
theorem lk_X1_firstSlotOfParts_15 : Cond.fieldLink RX1 15 "BackofficeAir$Sending" "firstSlot" "I" ∈ wsX1_firstSlotOfParts := by decide +kernel
theorem lk_X1_firstSlotOfParts_22 : Cond.fieldLink RX1 22 "BackofficeAir$Sending" "hasRequest" "Z" ∈ wsX1_firstSlotOfParts := by decide +kernel
def f_X1_firstSlotOfParts (S : Mem) (i : Nat) : Int32 := if S (8 + 5 * i) 3 = 0 then (S (8 + 5 * i) 1) else ((S (8 + 5 * i) 1) + (nI 1))
theorem f_X1_firstSlotOfParts_d (S : Mem) (i : Nat) : f_X1_firstSlotOfParts S i = (if S (8 + 5 * i) 3 = 0 then (S (8 + 5 * i) 1) else ((S (8 + 5 * i) 1) + (nI 1))) := rfl
set_option maxHeartbeats 1000000 in
set_option maxRecDepth 100000 in
theorem c_X1_firstSlotOfParts (l : Launch) (D : va_G) (cI cS : ClassId) (G : Nat → Nat) (S : Mem) (sz : Nat) (i : Nat) (hi : i < 6) : Met l yX1_firstSlotOfParts wsX1_firstSlotOfParts ({ frames := 1, cells := 0, slots := 0, locals := 20 } : Room) (wPc 36 (cF cI cS G) D (tY cI cS) G S sz [.ref (G (8 + 5 * i))]) (pQi (f_X1_firstSlotOfParts S i) sz) 0 0 (fun q => sz ≤ q) := by
  refine x_met (cc := cX1_firstSlotOfParts) (maxL := 1) (ret := (some .int)) (by decide) rfl (Nat.le_of_ble_eq_true rfl) ?_
  intro p e s m below meth c ls hx hb hr hml hts hown hlocks hsz hP hK hD hN hl hnm
  subst hsz
  have hown : s.vm.findClass RX1 = some m.cls := hown
  have hl : lv_has ls 1 [(0, .ref (G (8 + 5 * i)))] := hl
  have hq := f_X1_firstSlotOfParts_d S i
  have hA : ∀ q : Nat, s.heap.size ≤ q → (fun q => s.heap.size ≤ q) q := fun q h => h
  have hS : va_S (fun q => s.heap.size ≤ q) s.heap s.heap [] := va_S.rf
  refine lv_aload_n hx hb dX1_firstSlotOfParts_0 rfl (lv_at hl 0 rfl) ?_
  refine x_get hx hb hts mm_X1_firstSlotOfParts_X1 hown hK hP (8 + 5 * i) (by omega) (cF_sd _ _) rfl 3 (by decide) (hts _ lk_X1_firstSlotOfParts_22) rfl rfl dX1_firstSlotOfParts_1 ?_
  refine lv_if_eq (tgt := 16) hx hb dX1_firstSlotOfParts_4 (by decide) (fun c_1 => ?_) (fun c_1 => ?_)
  · have hq := hq.trans (if_pos c_1)
    refine lv_aload_n hx hb dX1_firstSlotOfParts_16 rfl (lv_at hl 0 rfl) ?_
    refine x_get hx hb hts mm_X1_firstSlotOfParts_X1 hown hK hP (8 + 5 * i) (by omega) (cF_sd _ _) rfl 1 (by decide) (hts _ lk_X1_firstSlotOfParts_15) rfl rfl dX1_firstSlotOfParts_17 ?_
    exact x_ret_p hx hb hr rfl hlocks hS dX1_firstSlotOfParts_20 hq
  · have hq := hq.trans (if_neg c_1)
    refine lv_aload_n hx hb dX1_firstSlotOfParts_7 rfl (lv_at hl 0 rfl) ?_
    refine x_get hx hb hts mm_X1_firstSlotOfParts_X1 hown hK hP (8 + 5 * i) (by omega) (cF_sd _ _) rfl 1 (by decide) (hts _ lk_X1_firstSlotOfParts_15) rfl rfl dX1_firstSlotOfParts_8 ?_
    refine lv_iconst (v := nI 1) hx hb dX1_firstSlotOfParts_11 (by decide) ?_
    refine lv_iadd hx hb dX1_firstSlotOfParts_12 ?_
    refine lv_goto (tgt := 20) hx hb dX1_firstSlotOfParts_13 (by decide) ?_
    exact x_ret_p hx hb hr rfl hlocks hS dX1_firstSlotOfParts_20 hq

theorem mm_X1_begin_X1 : ∀ w ∈ wsX10, w ∈ wsX1_begin := by decide +kernel
theorem lk_X1_begin_15 : Cond.fieldLink RX1 15 "BackofficeAir$Sending" "firstSlot" "I" ∈ wsX1_begin := by decide +kernel
theorem lk_X1_begin_19 : Cond.fieldLink RX1 19 "BackofficeAir$Sending" "lastSlot" "I" ∈ wsX1_begin := by decide +kernel
theorem lk_X1_begin_22 : Cond.fieldLink RX1 22 "BackofficeAir$Sending" "hasRequest" "Z" ∈ wsX1_begin := by decide +kernel
theorem lk_X1_begin_25 : Cond.fieldLink RX1 25 "BackofficeAir$Sending" "requestBroken" "Z" ∈ wsX1_begin := by decide +kernel
theorem lk_X1_begin_28 : Cond.fieldLink RX1 28 "BackofficeAir$Sending" "parts" "I" ∈ wsX1_begin := by decide +kernel
theorem lk_X1_begin_31 : Cond.fieldLink RX1 31 "BackofficeAir$Sending" "brokenParts" "I" ∈ wsX1_begin := by decide +kernel
theorem lk_X1_begin_9 : Cond.fieldLink RX1 9 "BackofficeAir$Sending" "on" "Z" ∈ wsX1_begin := by decide +kernel
def f_X1_begin (S : Mem) (i : Nat) (t : Int32) (q : Int32) (r : Int32) : Mem := ub (ub (ub (ub (ub (ub (ub S (8 + 5 * i) 0 (nI 1)) (8 + 5 * i) 1 t) (8 + 5 * i) 3 r) (8 + 5 * i) 4 (nI 0)) (8 + 5 * i) 5 q) (8 + 5 * i) 6 (nI 0)) (8 + 5 * i) 2 (((f_X1_firstSlotOfParts (ub (ub (ub (ub (ub (ub S (8 + 5 * i) 0 (nI 1)) (8 + 5 * i) 1 t) (8 + 5 * i) 3 r) (8 + 5 * i) 4 (nI 0)) (8 + 5 * i) 5 q) (8 + 5 * i) 6 (nI 0)) i) + ((nI 2) * (f_J6_bitCount_0f7a4 q))) - (nI 1))
theorem f_X1_begin_d (S : Mem) (i : Nat) (t : Int32) (q : Int32) (r : Int32) : f_X1_begin S i t q r = (ub (ub (ub (ub (ub (ub (ub S (8 + 5 * i) 0 (nI 1)) (8 + 5 * i) 1 t) (8 + 5 * i) 3 r) (8 + 5 * i) 4 (nI 0)) (8 + 5 * i) 5 q) (8 + 5 * i) 6 (nI 0)) (8 + 5 * i) 2 (((f_X1_firstSlotOfParts (ub (ub (ub (ub (ub (ub S (8 + 5 * i) 0 (nI 1)) (8 + 5 * i) 1 t) (8 + 5 * i) 3 r) (8 + 5 * i) 4 (nI 0)) (8 + 5 * i) 5 q) (8 + 5 * i) 6 (nI 0)) i) + ((nI 2) * (f_J6_bitCount_0f7a4 q))) - (nI 1))) := rfl
set_option maxHeartbeats 1000000 in
set_option maxRecDepth 100000 in
theorem c_X1_begin (l : Launch) (D : va_G) (cI cS : ClassId) (G : Nat → Nat) (S : Mem) (sz : Nat) (i : Nat) (t : Int32) (q : Int32) (r : Int32) (hi : i < 6) (hr1 : narrow .boolean (.int r) = .int r) (hr2 : fits .boolean (.int r) = true) : Met l yX1_begin wsX1_begin ({ frames := 2, cells := 0, slots := 0, locals := 40 } : Room) (wPc 36 (cF cI cS G) D (tY cI cS) G S sz [.ref (G (8 + 5 * i)), .int t, .int q, .int r]) (mQv (f_X1_begin S i t q r) 36 (cF cI cS G) D G sz) 0 0 (fA 36 G sz) := by
  refine x_met (cc := cX1_begin) (maxL := 4) (ret := none) (by decide) rfl (Nat.le_of_ble_eq_true rfl) ?_
  intro p e s m below meth c ls hx hb hr hml hts hown hlocks hsz hP hK hD hN hl hnm
  subst hsz
  have hown : s.vm.findClass RX1 = some m.cls := hown
  have hl : lv_has ls 4 [(0, .ref (G (8 + 5 * i))), (1, .int t), (2, .int q), (3, .int r)] := hl
  have hq := f_X1_begin_d S i t q r
  have hA : ∀ q : Nat, s.heap.size ≤ q → (fA 36 G s.heap.size) q := fun q h => Or.inr h
  have hS : va_S (fA 36 G s.heap.size) s.heap s.heap [] := va_S.rf
  refine lv_aload_n hx hb dX1_begin_0 rfl (lv_at hl 0 rfl) ?_
  refine lv_iconst (v := nI 1) hx hb dX1_begin_1 (by decide) ?_
  refine x_put hx hb hts mm_X1_begin_X1 tyX1 tyX1_ok nmX1 hown hK hP hD hS (8 + 5 * i) (by omega) (cF_sd _ _) rfl 0 (by decide) (hts _ lk_X1_begin_9) rfl rfl rfl rfl rfl (Nat.le_of_ble_eq_true rfl) 0 (cF_sd _ _) dX1_begin_2 (fun H locs hP hS => ?_)
  refine lv_aload_n hx hb dX1_begin_5 rfl (lv_at hl 0 rfl) ?_
  refine lv_iload_n hx hb dX1_begin_6 rfl (lv_at hl 1 rfl) ?_
  refine x_put hx hb hts mm_X1_begin_X1 tyX1 tyX1_ok nmX1 hown hK hP hD hS (8 + 5 * i) (by omega) (cF_sd _ _) rfl 1 (by decide) (hts _ lk_X1_begin_15) rfl rfl rfl rfl rfl (Nat.le_of_ble_eq_true rfl) 1 (cF_sd _ _) dX1_begin_7 (fun H locs hP hS => ?_)
  refine lv_aload_n hx hb dX1_begin_10 rfl (lv_at hl 0 rfl) ?_
  refine lv_iload_n hx hb dX1_begin_11 rfl (lv_at hl 3 rfl) ?_
  refine x_put hx hb hts mm_X1_begin_X1 tyX1 tyX1_ok nmX1 hown hK hP hD hS (8 + 5 * i) (by omega) (cF_sd _ _) rfl 3 (by decide) (hts _ lk_X1_begin_22) rfl rfl rfl hr1 hr2 (Nat.le_of_ble_eq_true rfl) 3 (cF_sd _ _) dX1_begin_12 (fun H locs hP hS => ?_)
  refine lv_aload_n hx hb dX1_begin_15 rfl (lv_at hl 0 rfl) ?_
  refine lv_iconst (v := nI 0) hx hb dX1_begin_16 (by decide) ?_
  refine x_put hx hb hts mm_X1_begin_X1 tyX1 tyX1_ok nmX1 hown hK hP hD hS (8 + 5 * i) (by omega) (cF_sd _ _) rfl 4 (by decide) (hts _ lk_X1_begin_25) rfl rfl rfl rfl rfl (Nat.le_of_ble_eq_true rfl) 4 (cF_sd _ _) dX1_begin_17 (fun H locs hP hS => ?_)
  refine lv_aload_n hx hb dX1_begin_20 rfl (lv_at hl 0 rfl) ?_
  refine lv_iload_n hx hb dX1_begin_21 rfl (lv_at hl 2 rfl) ?_
  refine x_put hx hb hts mm_X1_begin_X1 tyX1 tyX1_ok nmX1 hown hK hP hD hS (8 + 5 * i) (by omega) (cF_sd _ _) rfl 5 (by decide) (hts _ lk_X1_begin_28) rfl rfl rfl rfl rfl (Nat.le_of_ble_eq_true rfl) 5 (cF_sd _ _) dX1_begin_22 (fun H locs hP hS => ?_)
  refine lv_aload_n hx hb dX1_begin_25 rfl (lv_at hl 0 rfl) ?_
  refine lv_iconst (v := nI 0) hx hb dX1_begin_26 (by decide) ?_
  refine x_put hx hb hts mm_X1_begin_X1 tyX1 tyX1_ok nmX1 hown hK hP hD hS (8 + 5 * i) (by omega) (cF_sd _ _) rfl 6 (by decide) (hts _ lk_X1_begin_31) rfl rfl rfl rfl rfl (Nat.le_of_ble_eq_true rfl) 6 (cF_sd _ _) dX1_begin_27 (fun H locs hP hS => ?_)
  refine lv_aload_n hx hb dX1_begin_30 rfl (lv_at hl 0 rfl) ?_
  refine lv_aload_n hx hb dX1_begin_31 rfl (lv_at hl 0 rfl) ?_
  refine x_pi (va_runV (As := []) (rest := [.ref (G (8 + 5 * i))]) ⟨hx, hb, hml, hown, hts⟩ (c_X1_firstSlotOfParts l D cI cS G (ub (ub (ub (ub (ub (ub S (8 + 5 * i) 0 (nI 1)) (8 + 5 * i) 1 t) (8 + 5 * i) 3 r) (8 + 5 * i) 4 (nI 0)) (8 + 5 * i) 5 q) (8 + 5 * i) 6 (nI 0)) H.size i (by omega)) (cwV 0 hts gX1_begin_X1_firstSlotOfParts rfl rfl rfl (by decide +kernel) ⟨Nat.le_of_ble_eq_true rfl, Nat.le_of_ble_eq_true rfl⟩) ⟨wPc_blind, va_recv hK hP (ci := 1) (q0 := 8 + 5 * i) rfl (WL_at (by omega) (cF_sd _ _)), wPc_at hP hK hD hN⟩ rfl rfl hl.1 rfl (lv_room (Nat.le_of_ble_eq_true rfl)) dX1_begin_32 ⟨Nat.le_refl _, Nat.le_refl _⟩) hS hA (fun q h => h) (fun H locs hz hk hS => ?_)
  have hP := P_kept hP hk
  refine lv_iconst (v := nI 2) hx hb dX1_begin_35 (by decide) ?_
  refine lv_iload_n hx hb dX1_begin_36 rfl (lv_at hl 2 rfl) ?_
  refine x_pi (va_runS (As := [.int q]) (rest := [.int (nI 2), .int (f_X1_firstSlotOfParts (ub (ub (ub (ub (ub (ub S (8 + 5 * i) 0 (nI 1)) (8 + 5 * i) 1 t) (8 + 5 * i) 3 r) (8 + 5 * i) 4 (nI 0)) (8 + 5 * i) 5 q) (8 + 5 * i) 6 (nI 0)) i), .ref (G (8 + 5 * i))]) ⟨hx, hb, hml, hown, hts⟩ (c_J6_bitCount_0f7a4 l H.size q) (va_cwS 1 hts gX1_begin_J6_bitCount_0f7a4 rfl rfl rfl (by decide +kernel) ⟨Nat.le_of_ble_eq_true rfl, Nat.le_of_ble_eq_true rfl⟩) ⟨sPc_blind, sPc_at hN⟩ rfl rfl hl.1 rfl (lv_room (Nat.le_of_ble_eq_true rfl)) dX1_begin_37 ⟨Nat.le_refl _, Nat.le_refl _⟩) hS hA (fun q h => h) (fun H locs hz hk hS => ?_)
  have hP := P_kept hP hk
  refine lv_imul hx hb dX1_begin_40 ?_
  refine lv_iadd hx hb dX1_begin_41 ?_
  refine lv_iconst (v := nI 1) hx hb dX1_begin_42 (by decide) ?_
  refine lv_isub hx hb dX1_begin_43 ?_
  refine x_put hx hb hts mm_X1_begin_X1 tyX1 tyX1_ok nmX1 hown hK hP hD hS (8 + 5 * i) (by omega) (cF_sd _ _) rfl 2 (by decide) (hts _ lk_X1_begin_19) rfl rfl rfl rfl rfl (Nat.le_of_ble_eq_true rfl) 2 (cF_sd _ _) dX1_begin_44 (fun H locs hP hS => ?_)
  exact x_ret_v hx hb hr hlocks hP hS dX1_begin_47 hq

theorem mm_X1_slotsUpTo_X1 : ∀ w ∈ wsX10, w ∈ wsX1_slotsUpTo := by decide +kernel
theorem lk_X1_slotsUpTo_15 : Cond.fieldLink RX1 15 "BackofficeAir$Sending" "firstSlot" "I" ∈ wsX1_slotsUpTo := by decide +kernel
def f_X1_slotsUpTo (S : Mem) (i : Nat) (t : Int32) : Int32 := (t - (S (8 + 5 * i) 1)) + (nI 1)
theorem f_X1_slotsUpTo_d (S : Mem) (i : Nat) (t : Int32) : f_X1_slotsUpTo S i t = ((t - (S (8 + 5 * i) 1)) + (nI 1)) := rfl
set_option maxHeartbeats 1000000 in
set_option maxRecDepth 100000 in
theorem c_X1_slotsUpTo (l : Launch) (D : va_G) (cI cS : ClassId) (G : Nat → Nat) (S : Mem) (sz : Nat) (i : Nat) (t : Int32) (hi : i < 6) : Met l yX1_slotsUpTo wsX1_slotsUpTo ({ frames := 1, cells := 0, slots := 0, locals := 20 } : Room) (wPc 36 (cF cI cS G) D (tY cI cS) G S sz [.ref (G (8 + 5 * i)), .int t]) (pQi (f_X1_slotsUpTo S i t) sz) 0 0 (fun q => sz ≤ q) := by
  refine x_met (cc := cX1_slotsUpTo) (maxL := 2) (ret := (some .int)) (by decide) rfl (Nat.le_of_ble_eq_true rfl) ?_
  intro p e s m below meth c ls hx hb hr hml hts hown hlocks hsz hP hK hD hN hl hnm
  subst hsz
  have hown : s.vm.findClass RX1 = some m.cls := hown
  have hl : lv_has ls 2 [(0, .ref (G (8 + 5 * i))), (1, .int t)] := hl
  have hq := f_X1_slotsUpTo_d S i t
  have hA : ∀ q : Nat, s.heap.size ≤ q → (fun q => s.heap.size ≤ q) q := fun q h => h
  have hS : va_S (fun q => s.heap.size ≤ q) s.heap s.heap [] := va_S.rf
  refine lv_iload_n hx hb dX1_slotsUpTo_0 rfl (lv_at hl 1 rfl) ?_
  refine lv_aload_n hx hb dX1_slotsUpTo_1 rfl (lv_at hl 0 rfl) ?_
  refine x_get hx hb hts mm_X1_slotsUpTo_X1 hown hK hP (8 + 5 * i) (by omega) (cF_sd _ _) rfl 1 (by decide) (hts _ lk_X1_slotsUpTo_15) rfl rfl dX1_slotsUpTo_2 ?_
  refine lv_isub hx hb dX1_slotsUpTo_5 ?_
  refine lv_iconst (v := nI 1) hx hb dX1_slotsUpTo_6 (by decide) ?_
  refine lv_iadd hx hb dX1_slotsUpTo_7 ?_
  exact x_ret_p hx hb hr rfl hlocks hS dX1_slotsUpTo_8 hq

theorem mm_X1_isRequest_X1 : ∀ w ∈ wsX10, w ∈ wsX1_isRequest := by decide +kernel
theorem lk_X1_isRequest_15 : Cond.fieldLink RX1 15 "BackofficeAir$Sending" "firstSlot" "I" ∈ wsX1_isRequest := by decide +kernel
theorem lk_X1_isRequest_22 : Cond.fieldLink RX1 22 "BackofficeAir$Sending" "hasRequest" "Z" ∈ wsX1_isRequest := by decide +kernel
def f_X1_isRequest (S : Mem) (i : Nat) (t : Int32) : Int32 := if S (8 + 5 * i) 3 = 0 then (nI 0) else (if t = S (8 + 5 * i) 1 then (nI 1) else (nI 0))
theorem f_X1_isRequest_d (S : Mem) (i : Nat) (t : Int32) : f_X1_isRequest S i t = (if S (8 + 5 * i) 3 = 0 then (nI 0) else (if t = S (8 + 5 * i) 1 then (nI 1) else (nI 0))) := rfl
set_option maxHeartbeats 1000000 in
set_option maxRecDepth 100000 in
theorem c_X1_isRequest (l : Launch) (D : va_G) (cI cS : ClassId) (G : Nat → Nat) (S : Mem) (sz : Nat) (i : Nat) (t : Int32) (hi : i < 6) : Met l yX1_isRequest wsX1_isRequest ({ frames := 1, cells := 0, slots := 0, locals := 20 } : Room) (wPc 36 (cF cI cS G) D (tY cI cS) G S sz [.ref (G (8 + 5 * i)), .int t]) (pQi (f_X1_isRequest S i t) sz) 0 0 (fun q => sz ≤ q) := by
  refine x_met (cc := cX1_isRequest) (maxL := 2) (ret := (some .boolean)) (by decide) rfl (Nat.le_of_ble_eq_true rfl) ?_
  intro p e s m below meth c ls hx hb hr hml hts hown hlocks hsz hP hK hD hN hl hnm
  subst hsz
  have hown : s.vm.findClass RX1 = some m.cls := hown
  have hl : lv_has ls 2 [(0, .ref (G (8 + 5 * i))), (1, .int t)] := hl
  have hq := f_X1_isRequest_d S i t
  have hA : ∀ q : Nat, s.heap.size ≤ q → (fun q => s.heap.size ≤ q) q := fun q h => h
  have hS : va_S (fun q => s.heap.size ≤ q) s.heap s.heap [] := va_S.rf
  refine lv_aload_n hx hb dX1_isRequest_0 rfl (lv_at hl 0 rfl) ?_
  refine x_get hx hb hts mm_X1_isRequest_X1 hown hK hP (8 + 5 * i) (by omega) (cF_sd _ _) rfl 3 (by decide) (hts _ lk_X1_isRequest_22) rfl rfl dX1_isRequest_1 ?_
  refine lv_if_eq (tgt := 19) hx hb dX1_isRequest_4 (by decide) (fun c_1 => ?_) (fun c_1 => ?_)
  · have hq := hq.trans (if_pos c_1)
    refine lv_iconst (v := nI 0) hx hb dX1_isRequest_19 (by decide) ?_
    exact x_ret_p hx hb hr rfl hlocks hS dX1_isRequest_20 hq
  · have hq := hq.trans (if_neg c_1)
    refine lv_iload_n hx hb dX1_isRequest_7 rfl (lv_at hl 1 rfl) ?_
    refine lv_aload_n hx hb dX1_isRequest_8 rfl (lv_at hl 0 rfl) ?_
    refine x_get hx hb hts mm_X1_isRequest_X1 hown hK hP (8 + 5 * i) (by omega) (cF_sd _ _) rfl 1 (by decide) (hts _ lk_X1_isRequest_15) rfl rfl dX1_isRequest_9 ?_
    refine lv_icmp_ne (tgt := 19) hx hb dX1_isRequest_12 (by decide) (fun c_2 => ?_) (fun c_2 => ?_)
    · have hq := hq.trans (if_neg c_2)
      refine lv_iconst (v := nI 0) hx hb dX1_isRequest_19 (by decide) ?_
      exact x_ret_p hx hb hr rfl hlocks hS dX1_isRequest_20 hq
    · have hq := hq.trans (if_pos c_2)
      refine lv_iconst (v := nI 1) hx hb dX1_isRequest_15 (by decide) ?_
      refine lv_goto (tgt := 20) hx hb dX1_isRequest_16 (by decide) ?_
      exact x_ret_p hx hb hr rfl hlocks hS dX1_isRequest_20 hq

theorem mm_X1_partIn_X1 : ∀ w ∈ wsX10, w ∈ wsX1_partIn := by decide +kernel
theorem lk_X1_partIn_28 : Cond.fieldLink RX1 28 "BackofficeAir$Sending" "parts" "I" ∈ wsX1_partIn := by decide +kernel
def f_X1_partIn_L1 (S : Mem) (i0 : Nat) (t : Int32) : Nat → Nat → Int32 → Int32
  | 0, i, r => if (t - (f_X1_firstSlotOfParts S i0)) / (nI 2) ≤ nI i then (r &&& (-r)) else (r &&& (-r))
  | n + 1, i, r => if (t - (f_X1_firstSlotOfParts S i0)) / (nI 2) ≤ nI i then (r &&& (-r)) else (f_X1_partIn_L1 S i0 t n (i + 1) (r &&& (r - (nI 1))))
theorem f_X1_partIn_L1_z (S : Mem) (i0 : Nat) (t : Int32) (i : Nat) (r : Int32) : f_X1_partIn_L1 S i0 t 0 i r = (if (t - (f_X1_firstSlotOfParts S i0)) / (nI 2) ≤ nI i then (r &&& (-r)) else (r &&& (-r))) := rfl
theorem f_X1_partIn_L1_s (S : Mem) (i0 : Nat) (t : Int32) (n : Nat) (i : Nat) (r : Int32) : f_X1_partIn_L1 S i0 t (n + 1) i r = (if (t - (f_X1_firstSlotOfParts S i0)) / (nI 2) ≤ nI i then (r &&& (-r)) else (f_X1_partIn_L1 S i0 t n (i + 1) (r &&& (r - (nI 1))))) := rfl
def f_X1_partIn (S : Mem) (i0 : Nat) (t : Int32) : Int32 := f_X1_partIn_L1 S i0 t 4 0 (S (8 + 5 * i0) 5)
theorem f_X1_partIn_d (S : Mem) (i0 : Nat) (t : Int32) : f_X1_partIn S i0 t = (f_X1_partIn_L1 S i0 t 4 0 (S (8 + 5 * i0) 5)) := rfl
set_option maxHeartbeats 1000000 in
set_option maxRecDepth 100000 in
theorem c_X1_partIn (l : Launch) (D : va_G) (cI cS : ClassId) (G : Nat → Nat) (S : Mem) (sz : Nat) (i0 : Nat) (t : Int32) (hi : i0 < 6) : Met l yX1_partIn wsX1_partIn ({ frames := 2, cells := 0, slots := 0, locals := 40 } : Room) (wPc 36 (cF cI cS G) D (tY cI cS) G S sz [.ref (G (8 + 5 * i0)), .int t]) (pQi (f_X1_partIn S i0 t) sz) 0 0 (fun q => sz ≤ q) := by
  refine x_met (cc := cX1_partIn) (maxL := 5) (ret := (some .int)) (by decide) rfl (Nat.le_of_ble_eq_true rfl) ?_
  intro p e s m below meth c ls hx hb hr hml hts hown hlocks hsz hP hK hD hN hl hnm
  subst hsz
  have hown : s.vm.findClass RX1 = some m.cls := hown
  have hl : lv_has ls 5 [(0, .ref (G (8 + 5 * i0))), (1, .int t)] := hl
  have hq := f_X1_partIn_d S i0 t
  have hA : ∀ q : Nat, s.heap.size ≤ q → (fun q => s.heap.size ≤ q) q := fun q h => h
  have hS : va_S (fun q => s.heap.size ≤ q) s.heap s.heap [] := va_S.rf
  refine lv_iload_n hx hb dX1_partIn_0 rfl (lv_at hl 1 rfl) ?_
  refine lv_aload_n hx hb dX1_partIn_1 rfl (lv_at hl 0 rfl) ?_
  refine x_pi (va_runV (As := []) (rest := [.int t]) ⟨hx, hb, hml, hown, hts⟩ (c_X1_firstSlotOfParts l D cI cS G S s.heap.size i0 (by omega)) (cwV 0 hts gX1_partIn_X1_firstSlotOfParts rfl rfl rfl (by decide +kernel) ⟨Nat.le_of_ble_eq_true rfl, Nat.le_of_ble_eq_true rfl⟩) ⟨wPc_blind, va_recv hK hP (ci := 1) (q0 := 8 + 5 * i0) rfl (WL_at (by omega) (cF_sd _ _)), wPc_at hP hK hD hN⟩ rfl rfl hl.1 rfl (lv_room (Nat.le_of_ble_eq_true rfl)) dX1_partIn_2 ⟨Nat.le_refl _, Nat.le_refl _⟩) hS hA (fun q h => h) (fun H locs hz hk hS => ?_)
  have hP := P_kept hP hk
  refine lv_isub hx hb dX1_partIn_5 ?_
  refine lv_iconst (v := nI 2) hx hb dX1_partIn_6 (by decide) ?_
  refine lv_idiv hx hb dX1_partIn_7 (by decide) ?_
  refine lv_istore_n (lv' := [(2, .int ((t - (f_X1_firstSlotOfParts S i0)) / (nI 2))), (0, .ref (G (8 + 5 * i0))), (1, .int t)]) hx hb dX1_partIn_8 rfl hl (by decide) rfl (fun ls hl => ?_)
  refine lv_aload_n hx hb dX1_partIn_9 rfl (lv_at hl 1 rfl) ?_
  refine x_get hx hb hts mm_X1_partIn_X1 hown hK hP (8 + 5 * i0) (by omega) (cF_sd _ _) rfl 5 (by decide) (hts _ lk_X1_partIn_28) rfl rfl dX1_partIn_10 ?_
  refine lv_istore_n (lv' := [(3, .int (S (8 + 5 * i0) 5)), (2, .int ((t - (f_X1_firstSlotOfParts S i0)) / (nI 2))), (0, .ref (G (8 + 5 * i0))), (1, .int t)]) hx hb dX1_partIn_13 rfl hl (by decide) rfl (fun ls hl => ?_)
  refine lv_iconst (v := nI 0) hx hb dX1_partIn_14 (by decide) ?_
  refine lv_istore (lv' := [(4, .int (nI 0)), (3, .int (S (8 + 5 * i0) 5)), (2, .int ((t - (f_X1_firstSlotOfParts S i0)) / (nI 2))), (0, .ref (G (8 + 5 * i0))), (1, .int t)]) hx hb dX1_partIn_15 hl (by decide) rfl (fun ls hl => ?_)
  have L1 : ∀ (n : Nat) (i : Nat) (r : Int32) (H : Heap) (locs : List Loc) (ls : Array Slot), i + n = 4 → f_X1_partIn S i0 t = f_X1_partIn_L1 S i0 t n i r → va_P D vwCl (WL 36 G (cF cI cS G) S) H → va_S (fun q => s.heap.size ≤ q) s.heap H locs → lv_has ls 5 [(4, .int (nI i)), (3, .int r), (2, .int ((t - (f_X1_firstSlotOfParts S i0)) / (nI 2))), (0, .ref (G (8 + 5 * i0))), (1, .int t)] → W p l e ({ frames := 2, cells := 0, slots := 0, locals := 40 } : Room) s m ([.ref (G (8 + 5 * i0)), .int t] : List Value).toArray below meth c H locs 0 0 (MQ below (pQi (f_X1_partIn S i0 t) s.heap.size) ([.ref (G (8 + 5 * i0)), .int t] : List Value).toArray s 0 0 (fun q => s.heap.size ≤ q)) (F0 m 17 ls []) := by
    intro n
    induction n with
    | zero =>
      intro i r H locs ls hin hq hP hS hl
      have hq := hq.trans (f_X1_partIn_L1_z _ _ _ _ _)
      refine lv_iload hx hb dX1_partIn_17 (lv_at hl 0 rfl) ?_
      refine lv_iload_n hx hb dX1_partIn_19 rfl (lv_at hl 2 rfl) ?_
      refine lv_icmp_ge (tgt := 41) hx hb dX1_partIn_20 (by decide) (fun c_1 => ?_) (fun c_1 => ?_)
      · have hq := hq.trans (if_pos c_1)
        refine lv_iload_n hx hb dX1_partIn_41 rfl (lv_at hl 1 rfl) ?_
        refine lv_iload_n hx hb dX1_partIn_42 rfl (lv_at hl 1 rfl) ?_
        refine lv_ineg hx hb dX1_partIn_43 ?_
        refine lv_iand hx hb dX1_partIn_44 ?_
        exact x_ret_p hx hb hr rfl hlocks hS dX1_partIn_45 hq
      · have hq := hq.trans (if_neg c_1)
        refine lv_iload hx hb dX1_partIn_23 (lv_at hl 0 rfl) ?_
        refine lv_iconst (v := nI 4) hx hb dX1_partIn_25 (by decide) ?_
        refine lv_icmp_ge (tgt := 41) hx hb dX1_partIn_26 (by decide) (fun _ => ?_) (fun c_2 => absurd (nI_le (by omega) (by omega)) c_2) 
        refine lv_iload_n hx hb dX1_partIn_41 rfl (lv_at hl 1 rfl) ?_
        refine lv_iload_n hx hb dX1_partIn_42 rfl (lv_at hl 1 rfl) ?_
        refine lv_ineg hx hb dX1_partIn_43 ?_
        refine lv_iand hx hb dX1_partIn_44 ?_
        exact x_ret_p hx hb hr rfl hlocks hS dX1_partIn_45 hq
    | succ n ih =>
      intro i r H locs ls hin hq hP hS hl
      have hq := hq.trans (f_X1_partIn_L1_s _ _ _ _ _ _)
      refine lv_iload hx hb dX1_partIn_17 (lv_at hl 0 rfl) ?_
      refine lv_iload_n hx hb dX1_partIn_19 rfl (lv_at hl 2 rfl) ?_
      refine lv_icmp_ge (tgt := 41) hx hb dX1_partIn_20 (by decide) (fun c_3 => ?_) (fun c_3 => ?_)
      · have hq := hq.trans (if_pos c_3)
        refine lv_iload_n hx hb dX1_partIn_41 rfl (lv_at hl 1 rfl) ?_
        refine lv_iload_n hx hb dX1_partIn_42 rfl (lv_at hl 1 rfl) ?_
        refine lv_ineg hx hb dX1_partIn_43 ?_
        refine lv_iand hx hb dX1_partIn_44 ?_
        exact x_ret_p hx hb hr rfl hlocks hS dX1_partIn_45 hq
      · have hq := hq.trans (if_neg c_3)
        refine lv_iload hx hb dX1_partIn_23 (lv_at hl 0 rfl) ?_
        refine lv_iconst (v := nI 4) hx hb dX1_partIn_25 (by decide) ?_
        refine lv_icmp_ge (tgt := 41) hx hb dX1_partIn_26 (by decide) (fun c_4 => absurd c_4 (nI_ge (by omega) (by omega))) (fun _ => ?_)
        refine lv_iload_n hx hb dX1_partIn_29 rfl (lv_at hl 1 rfl) ?_
        refine lv_iload_n hx hb dX1_partIn_30 rfl (lv_at hl 1 rfl) ?_
        refine lv_iconst (v := nI 1) hx hb dX1_partIn_31 (by decide) ?_
        refine lv_isub hx hb dX1_partIn_32 ?_
        refine lv_iand hx hb dX1_partIn_33 ?_
        refine lv_istore_n (lv' := [(3, .int (r &&& (r - (nI 1)))), (4, .int (nI i)), (2, .int ((t - (f_X1_firstSlotOfParts S i0)) / (nI 2))), (0, .ref (G (8 + 5 * i0))), (1, .int t)]) hx hb dX1_partIn_34 rfl hl (by decide) rfl (fun ls hl => ?_)
        refine lv_iinc (v := nI (i + 1)) (lv' := [(4, .int (nI (i + 1))), (3, .int (r &&& (r - (nI 1)))), (2, .int ((t - (f_X1_firstSlotOfParts S i0)) / (nI 2))), (0, .ref (G (8 + 5 * i0))), (1, .int t)]) hx hb dX1_partIn_35 hl (k := 1) rfl (nI_add _ _) (by decide) rfl (fun ls hl => ?_)
        refine lv_goto (tgt := 17) hx hb dX1_partIn_38 (by decide) ?_
        exact ih (i + 1) (r &&& (r - (nI 1))) H locs ls (by omega) hq hP hS (lv_sub hl [0, 1, 2, 3, 4] rfl)
  exact L1 4 0 (S (8 + 5 * i0) 5) _ _ _ (by omega) hq hP hS (lv_sub hl [0, 1, 2, 3, 4] rfl)

theorem mm_X1_breakIn_X1 : ∀ w ∈ wsX10, w ∈ wsX1_breakIn := by decide +kernel
theorem lk_X1_breakIn_25 : Cond.fieldLink RX1 25 "BackofficeAir$Sending" "requestBroken" "Z" ∈ wsX1_breakIn := by decide +kernel
theorem lk_X1_breakIn_31 : Cond.fieldLink RX1 31 "BackofficeAir$Sending" "brokenParts" "I" ∈ wsX1_breakIn := by decide +kernel
def f_X1_breakIn (S : Mem) (i : Nat) (t : Int32) : Mem := if f_X1_isRequest S i t = 0 then (ub S (8 + 5 * i) 6 ((S (8 + 5 * i) 6) ||| (f_X1_partIn S i t))) else (ub S (8 + 5 * i) 4 (nI 1))
theorem f_X1_breakIn_d (S : Mem) (i : Nat) (t : Int32) : f_X1_breakIn S i t = (if f_X1_isRequest S i t = 0 then (ub S (8 + 5 * i) 6 ((S (8 + 5 * i) 6) ||| (f_X1_partIn S i t))) else (ub S (8 + 5 * i) 4 (nI 1))) := rfl
set_option maxHeartbeats 1000000 in
set_option maxRecDepth 100000 in
theorem c_X1_breakIn (l : Launch) (D : va_G) (cI cS : ClassId) (G : Nat → Nat) (S : Mem) (sz : Nat) (i : Nat) (t : Int32) (hi : i < 6) : Met l yX1_breakIn wsX1_breakIn ({ frames := 3, cells := 0, slots := 0, locals := 64 } : Room) (wPc 36 (cF cI cS G) D (tY cI cS) G S sz [.ref (G (8 + 5 * i)), .int t]) (mQv (f_X1_breakIn S i t) 36 (cF cI cS G) D G sz) 0 0 (fA 36 G sz) := by
  refine x_met (cc := cX1_breakIn) (maxL := 2) (ret := none) (by decide) rfl (Nat.le_of_ble_eq_true rfl) ?_
  intro p e s m below meth c ls hx hb hr hml hts hown hlocks hsz hP hK hD hN hl hnm
  subst hsz
  have hown : s.vm.findClass RX1 = some m.cls := hown
  have hl : lv_has ls 2 [(0, .ref (G (8 + 5 * i))), (1, .int t)] := hl
  have hq := f_X1_breakIn_d S i t
  have hA : ∀ q : Nat, s.heap.size ≤ q → (fA 36 G s.heap.size) q := fun q h => Or.inr h
  have hS : va_S (fA 36 G s.heap.size) s.heap s.heap [] := va_S.rf
  refine lv_aload_n hx hb dX1_breakIn_0 rfl (lv_at hl 0 rfl) ?_
  refine lv_iload_n hx hb dX1_breakIn_1 rfl (lv_at hl 1 rfl) ?_
  refine x_pi (va_runV (As := [.int t]) (rest := []) ⟨hx, hb, hml, hown, hts⟩ (c_X1_isRequest l D cI cS G S s.heap.size i t (by omega)) (cwV 1 hts gX1_breakIn_X1_isRequest rfl rfl rfl (by decide +kernel) ⟨Nat.le_of_ble_eq_true rfl, Nat.le_of_ble_eq_true rfl⟩) ⟨wPc_blind, va_recv hK hP (ci := 1) (q0 := 8 + 5 * i) rfl (WL_at (by omega) (cF_sd _ _)), wPc_at hP hK hD hN⟩ rfl rfl hl.1 rfl (lv_room (Nat.le_of_ble_eq_true rfl)) dX1_breakIn_2 ⟨Nat.le_refl _, Nat.le_refl _⟩) hS hA (fun q h => h) (fun H locs hz hk hS => ?_)
  have hP := P_kept hP hk
  refine lv_if_eq (tgt := 16) hx hb dX1_breakIn_5 (by decide) (fun c_1 => ?_) (fun c_1 => ?_)
  · have hq := hq.trans (if_pos c_1)
    refine lv_aload_n hx hb dX1_breakIn_16 rfl (lv_at hl 0 rfl) ?_
    refine lv_dup hx hb dX1_breakIn_17 rfl ?_
    refine x_get hx hb hts mm_X1_breakIn_X1 hown hK hP (8 + 5 * i) (by omega) (cF_sd _ _) rfl 6 (by decide) (hts _ lk_X1_breakIn_31) rfl rfl dX1_breakIn_18 ?_
    refine lv_aload_n hx hb dX1_breakIn_21 rfl (lv_at hl 0 rfl) ?_
    refine lv_iload_n hx hb dX1_breakIn_22 rfl (lv_at hl 1 rfl) ?_
    refine x_pi (va_runV (As := [.int t]) (rest := [.int (S (8 + 5 * i) 6), .ref (G (8 + 5 * i))]) ⟨hx, hb, hml, hown, hts⟩ (c_X1_partIn l D cI cS G S H.size i t (by omega)) (cwV 1 hts gX1_breakIn_X1_partIn rfl rfl rfl (by decide +kernel) ⟨Nat.le_of_ble_eq_true rfl, Nat.le_of_ble_eq_true rfl⟩) ⟨wPc_blind, va_recv hK hP (ci := 1) (q0 := 8 + 5 * i) rfl (WL_at (by omega) (cF_sd _ _)), wPc_at hP hK hD hN⟩ rfl rfl hl.1 rfl (lv_room (Nat.le_of_ble_eq_true rfl)) dX1_breakIn_23 ⟨Nat.le_refl _, Nat.le_refl _⟩) hS hA (fun q h => h) (fun H locs hz hk hS => ?_)
    have hP := P_kept hP hk
    refine lv_ior hx hb dX1_breakIn_26 ?_
    refine x_put hx hb hts mm_X1_breakIn_X1 tyX1 tyX1_ok nmX1 hown hK hP hD hS (8 + 5 * i) (by omega) (cF_sd _ _) rfl 6 (by decide) (hts _ lk_X1_breakIn_31) rfl rfl rfl rfl rfl (Nat.le_of_ble_eq_true rfl) 6 (cF_sd _ _) dX1_breakIn_27 (fun H locs hP hS => ?_)
    exact x_ret_v hx hb hr hlocks hP hS dX1_breakIn_30 hq
  · have hq := hq.trans (if_neg c_1)
    refine lv_aload_n hx hb dX1_breakIn_8 rfl (lv_at hl 0 rfl) ?_
    refine lv_iconst (v := nI 1) hx hb dX1_breakIn_9 (by decide) ?_
    refine x_put hx hb hts mm_X1_breakIn_X1 tyX1 tyX1_ok nmX1 hown hK hP hD hS (8 + 5 * i) (by omega) (cF_sd _ _) rfl 4 (by decide) (hts _ lk_X1_breakIn_25) rfl rfl rfl rfl rfl (Nat.le_of_ble_eq_true rfl) 4 (cF_sd _ _) dX1_breakIn_10 (fun H locs hP hS => ?_)
    refine lv_goto (tgt := 30) hx hb dX1_breakIn_13 (by decide) ?_
    exact x_ret_v hx hb hr hlocks hP hS dX1_breakIn_30 hq

theorem mm_X1_arrivedParts_X1 : ∀ w ∈ wsX10, w ∈ wsX1_arrivedParts := by decide +kernel
theorem lk_X1_arrivedParts_25 : Cond.fieldLink RX1 25 "BackofficeAir$Sending" "requestBroken" "Z" ∈ wsX1_arrivedParts := by decide +kernel
theorem lk_X1_arrivedParts_28 : Cond.fieldLink RX1 28 "BackofficeAir$Sending" "parts" "I" ∈ wsX1_arrivedParts := by decide +kernel
theorem lk_X1_arrivedParts_31 : Cond.fieldLink RX1 31 "BackofficeAir$Sending" "brokenParts" "I" ∈ wsX1_arrivedParts := by decide +kernel
def f_X1_arrivedParts (S : Mem) (i : Nat) : Int32 := if S (8 + 5 * i) 4 = 0 then ((S (8 + 5 * i) 5) &&& ((S (8 + 5 * i) 6) ^^^ ((-1)))) else (nI 0)
theorem f_X1_arrivedParts_d (S : Mem) (i : Nat) : f_X1_arrivedParts S i = (if S (8 + 5 * i) 4 = 0 then ((S (8 + 5 * i) 5) &&& ((S (8 + 5 * i) 6) ^^^ ((-1)))) else (nI 0)) := rfl
set_option maxHeartbeats 1000000 in
set_option maxRecDepth 100000 in
theorem c_X1_arrivedParts (l : Launch) (D : va_G) (cI cS : ClassId) (G : Nat → Nat) (S : Mem) (sz : Nat) (i : Nat) (hi : i < 6) : Met l yX1_arrivedParts wsX1_arrivedParts ({ frames := 1, cells := 0, slots := 0, locals := 20 } : Room) (wPc 36 (cF cI cS G) D (tY cI cS) G S sz [.ref (G (8 + 5 * i))]) (pQi (f_X1_arrivedParts S i) sz) 0 0 (fun q => sz ≤ q) := by
  refine x_met (cc := cX1_arrivedParts) (maxL := 1) (ret := (some .int)) (by decide) rfl (Nat.le_of_ble_eq_true rfl) ?_
  intro p e s m below meth c ls hx hb hr hml hts hown hlocks hsz hP hK hD hN hl hnm
  subst hsz
  have hown : s.vm.findClass RX1 = some m.cls := hown
  have hl : lv_has ls 1 [(0, .ref (G (8 + 5 * i)))] := hl
  have hq := f_X1_arrivedParts_d S i
  have hA : ∀ q : Nat, s.heap.size ≤ q → (fun q => s.heap.size ≤ q) q := fun q h => h
  have hS : va_S (fun q => s.heap.size ≤ q) s.heap s.heap [] := va_S.rf
  refine lv_aload_n hx hb dX1_arrivedParts_0 rfl (lv_at hl 0 rfl) ?_
  refine x_get hx hb hts mm_X1_arrivedParts_X1 hown hK hP (8 + 5 * i) (by omega) (cF_sd _ _) rfl 4 (by decide) (hts _ lk_X1_arrivedParts_25) rfl rfl dX1_arrivedParts_1 ?_
  refine lv_if_eq (tgt := 11) hx hb dX1_arrivedParts_4 (by decide) (fun c_1 => ?_) (fun c_1 => ?_)
  · have hq := hq.trans (if_pos c_1)
    refine lv_aload_n hx hb dX1_arrivedParts_11 rfl (lv_at hl 0 rfl) ?_
    refine x_get hx hb hts mm_X1_arrivedParts_X1 hown hK hP (8 + 5 * i) (by omega) (cF_sd _ _) rfl 5 (by decide) (hts _ lk_X1_arrivedParts_28) rfl rfl dX1_arrivedParts_12 ?_
    refine lv_aload_n hx hb dX1_arrivedParts_15 rfl (lv_at hl 0 rfl) ?_
    refine x_get hx hb hts mm_X1_arrivedParts_X1 hown hK hP (8 + 5 * i) (by omega) (cF_sd _ _) rfl 6 (by decide) (hts _ lk_X1_arrivedParts_31) rfl rfl dX1_arrivedParts_16 ?_
    refine lv_iconst (v := (-1)) hx hb dX1_arrivedParts_19 (by decide) ?_
    refine lv_ixor hx hb dX1_arrivedParts_20 ?_
    refine lv_iand hx hb dX1_arrivedParts_21 ?_
    exact x_ret_p hx hb hr rfl hlocks hS dX1_arrivedParts_22 hq
  · have hq := hq.trans (if_neg c_1)
    refine lv_iconst (v := nI 0) hx hb dX1_arrivedParts_7 (by decide) ?_
    refine lv_goto (tgt := 22) hx hb dX1_arrivedParts_8 (by decide) ?_
    exact x_ret_p hx hb hr rfl hlocks hS dX1_arrivedParts_22 hq

theorem mm_X3_between_X3 : ∀ w ∈ wsX30, w ∈ wsX3_between := by decide +kernel
theorem lk_X3_between_9 : Cond.fieldLink RX3 9 "BackofficeAir$Strengths" "all" "[I" ∈ wsX3_between := by decide +kernel
def f_X3_between (S : Mem) (a : Nat) (b : Nat) : Int32 := S 3 (a * 6 + b)
theorem f_X3_between_d (S : Mem) (a : Nat) (b : Nat) : f_X3_between S a b = (S 3 (a * 6 + b)) := rfl
set_option maxHeartbeats 1000000 in
set_option maxRecDepth 100000 in
theorem c_X3_between (l : Launch) (D : va_G) (cI cS : ClassId) (G : Nat → Nat) (S : Mem) (sz : Nat) (a : Nat) (b : Nat) (ha : a < 6) (hb6 : b < 6) : Met l yX3_between wsX3_between ({ frames := 3, cells := 0, slots := 0, locals := 61 } : Room) (wPc 36 (cF cI cS G) D (tY cI cS) G S sz [.ref (G 2), .int (nI a), .int (nI b)]) (pQi (f_X3_between S a b) sz) 0 0 (fun q => sz ≤ q) := by
  refine x_met (cc := cX3_between) (maxL := 4) (ret := (some .int)) (by decide) rfl (Nat.le_of_ble_eq_true rfl) ?_
  intro p e s m below meth c ls hx hb hr hml hts hown hlocks hsz hP hK hD hN hl hnm
  subst hsz
  have hown : s.vm.findClass RX3 = some m.cls := hown
  have hl : lv_has ls 4 [(0, .ref (G 2)), (1, .int (nI a)), (2, .int (nI b))] := hl
  have hq := f_X3_between_d S a b
  have hA : ∀ q : Nat, s.heap.size ≤ q → (fun q => s.heap.size ≤ q) q := fun q h => h
  have hS : va_S (fun q => s.heap.size ≤ q) s.heap s.heap [] := va_S.rf
  refine lv_iload_n hx hb dX3_between_0 rfl (lv_at hl 1 rfl) ?_
  refine lv_iload_n hx hb dX3_between_1 rfl (lv_at hl 2 rfl) ?_
  refine x_pi (va_runS (As := [.int (nI a), .int (nI b)]) (rest := []) ⟨hx, hb, hml, hown, hts⟩ (c_X3_placeOf l s.heap.size (nI a) (nI b)) (va_cwS 2 hts gX3_between_X3_placeOf rfl rfl rfl (by decide +kernel) ⟨Nat.le_of_ble_eq_true rfl, Nat.le_of_ble_eq_true rfl⟩) ⟨sPc_blind, sPc_at hN⟩ rfl rfl hl.1 rfl (lv_room (Nat.le_of_ble_eq_true rfl)) dX3_between_2 ⟨Nat.le_refl _, Nat.le_refl _⟩) hS hA (fun q h => h) (fun H locs hz hk hS => ?_)
  have hP := P_kept hP hk
  refine x_top (y := nI (a * 6 + b)) (f_placeOf_in ha hb6) ?_
  refine lv_istore_n (lv' := [(3, .int (nI (a * 6 + b))), (0, .ref (G 2)), (1, .int (nI a)), (2, .int (nI b))]) hx hb dX3_between_5 rfl hl (by decide) rfl (fun ls hl => ?_)
  refine lv_iload_n hx hb dX3_between_6 rfl (lv_at hl 0 rfl) ?_
  refine lv_if_lt (tgt := 28) hx hb dX3_between_7 (by decide) (fun c_1 => absurd c_1 (nI_pos (by omega))) (fun _ => ?_)
  refine lv_iload_n hx hb dX3_between_10 rfl (lv_at hl 0 rfl) ?_
  refine lv_aload_n hx hb dX3_between_11 rfl (lv_at hl 1 rfl) ?_
  refine x_get hx hb hts mm_X3_between_X3 hown hK hP (2) (by decide) (cF_str _) rfl 0 (by decide) (hts _ lk_X3_between_9) rfl rfl dX3_between_12 ?_
  refine x_alen hx hb hK hP 3 0 (by decide) (cF_all _) rfl dX3_between_15 ?_
  refine lv_icmp_ge (tgt := 28) hx hb dX3_between_16 (by decide) (fun c_2 => absurd c_2 (nI_ge (by omega) (by omega))) (fun _ => ?_)
  refine lv_aload_n hx hb dX3_between_19 rfl (lv_at hl 1 rfl) ?_
  refine x_get hx hb hts mm_X3_between_X3 hown hK hP (2) (by decide) (cF_str _) rfl 0 (by decide) (hts _ lk_X3_between_9) rfl rfl dX3_between_20 ?_
  refine lv_iload_n hx hb dX3_between_23 rfl (lv_at hl 0 rfl) ?_
  refine x_iald hx hb hK hP 3 0 (by decide) (cF_all _) rfl (a * 6 + b) (by omega) (by decide) dX3_between_24 ?_
  refine lv_goto (tgt := 29) hx hb dX3_between_25 (by decide) ?_
  exact x_ret_p hx hb hr rfl hlocks hS dX3_between_29 hq

theorem mm_X3_put_X3 : ∀ w ∈ wsX30, w ∈ wsX3_put := by decide +kernel
theorem lk_X3_put_9 : Cond.fieldLink RX3 9 "BackofficeAir$Strengths" "all" "[I" ∈ wsX3_put := by decide +kernel
def f_X3_put (S : Mem) (a : Nat) (b : Nat) (v : Int32) : Mem := ub (ub S 3 (a * 6 + b) v) 3 (b * 6 + a) v
theorem f_X3_put_d (S : Mem) (a : Nat) (b : Nat) (v : Int32) : f_X3_put S a b v = (ub (ub S 3 (a * 6 + b) v) 3 (b * 6 + a) v) := rfl
set_option maxHeartbeats 1000000 in
set_option maxRecDepth 100000 in
theorem c_X3_put (l : Launch) (D : va_G) (cI cS : ClassId) (G : Nat → Nat) (S : Mem) (sz : Nat) (a : Nat) (b : Nat) (v : Int32) (ha : a < 6) (hb6 : b < 6) : Met l yX3_put wsX3_put ({ frames := 3, cells := 0, slots := 0, locals := 61 } : Room) (wPc 36 (cF cI cS G) D (tY cI cS) G S sz [.ref (G 2), .int (nI a), .int (nI b), .int v]) (mQv (f_X3_put S a b v) 36 (cF cI cS G) D G sz) 0 0 (fA 36 G sz) := by
  refine x_met (cc := cX3_put) (maxL := 6) (ret := none) (by decide) rfl (Nat.le_of_ble_eq_true rfl) ?_
  intro p e s m below meth c ls hx hb hr hml hts hown hlocks hsz hP hK hD hN hl hnm
  subst hsz
  have hown : s.vm.findClass RX3 = some m.cls := hown
  have hl : lv_has ls 6 [(0, .ref (G 2)), (1, .int (nI a)), (2, .int (nI b)), (3, .int v)] := hl
  have hq := f_X3_put_d S a b v
  have hA : ∀ q : Nat, s.heap.size ≤ q → (fA 36 G s.heap.size) q := fun q h => Or.inr h
  have hS : va_S (fA 36 G s.heap.size) s.heap s.heap [] := va_S.rf
  refine lv_iload_n hx hb dX3_put_0 rfl (lv_at hl 1 rfl) ?_
  refine lv_iload_n hx hb dX3_put_1 rfl (lv_at hl 2 rfl) ?_
  refine x_pi (va_runS (As := [.int (nI a), .int (nI b)]) (rest := []) ⟨hx, hb, hml, hown, hts⟩ (c_X3_placeOf l s.heap.size (nI a) (nI b)) (va_cwS 2 hts gX3_put_X3_placeOf rfl rfl rfl (by decide +kernel) ⟨Nat.le_of_ble_eq_true rfl, Nat.le_of_ble_eq_true rfl⟩) ⟨sPc_blind, sPc_at hN⟩ rfl rfl hl.1 rfl (lv_room (Nat.le_of_ble_eq_true rfl)) dX3_put_2 ⟨Nat.le_refl _, Nat.le_refl _⟩) hS hA (fun q h => h) (fun H locs hz hk hS => ?_)
  have hP := P_kept hP hk
  refine x_top (y := nI (a * 6 + b)) (f_placeOf_in ha hb6) ?_
  refine lv_istore (lv' := [(4, .int (nI (a * 6 + b))), (0, .ref (G 2)), (1, .int (nI a)), (2, .int (nI b)), (3, .int v)]) hx hb dX3_put_5 hl (by decide) rfl (fun ls hl => ?_)
  refine lv_iload_n hx hb dX3_put_7 rfl (lv_at hl 3 rfl) ?_
  refine lv_iload_n hx hb dX3_put_8 rfl (lv_at hl 2 rfl) ?_
  refine x_pi (va_runS (As := [.int (nI b), .int (nI a)]) (rest := []) ⟨hx, hb, hml, hown, hts⟩ (c_X3_placeOf l H.size (nI b) (nI a)) (va_cwS 2 hts gX3_put_X3_placeOf rfl rfl rfl (by decide +kernel) ⟨Nat.le_of_ble_eq_true rfl, Nat.le_of_ble_eq_true rfl⟩) ⟨sPc_blind, sPc_at hN⟩ rfl rfl hl.1 rfl (lv_room (Nat.le_of_ble_eq_true rfl)) dX3_put_9 ⟨Nat.le_refl _, Nat.le_refl _⟩) hS hA (fun q h => h) (fun H locs hz hk hS => ?_)
  have hP := P_kept hP hk
  refine x_top (y := nI (b * 6 + a)) (f_placeOf_in hb6 ha) ?_
  refine lv_istore (lv' := [(5, .int (nI (b * 6 + a))), (4, .int (nI (a * 6 + b))), (0, .ref (G 2)), (1, .int (nI a)), (2, .int (nI b)), (3, .int v)]) hx hb dX3_put_12 hl (by decide) rfl (fun ls hl => ?_)
  refine lv_iload hx hb dX3_put_14 (lv_at hl 1 rfl) ?_
  refine lv_if_lt (tgt := 60) hx hb dX3_put_16 (by decide) (fun c_1 => absurd c_1 (nI_pos (by omega))) (fun _ => ?_)
  refine lv_iload hx hb dX3_put_19 (lv_at hl 1 rfl) ?_
  refine lv_aload_n hx hb dX3_put_21 rfl (lv_at hl 2 rfl) ?_
  refine x_get hx hb hts mm_X3_put_X3 hown hK hP (2) (by decide) (cF_str _) rfl 0 (by decide) (hts _ lk_X3_put_9) rfl rfl dX3_put_22 ?_
  refine x_alen hx hb hK hP 3 0 (by decide) (cF_all _) rfl dX3_put_25 ?_
  refine lv_icmp_ge (tgt := 60) hx hb dX3_put_26 (by decide) (fun c_2 => absurd c_2 (nI_ge (by omega) (by omega))) (fun _ => ?_)
  refine lv_iload hx hb dX3_put_29 (lv_at hl 0 rfl) ?_
  refine lv_if_lt (tgt := 60) hx hb dX3_put_31 (by decide) (fun c_3 => absurd c_3 (nI_pos (by omega))) (fun _ => ?_)
  refine lv_iload hx hb dX3_put_34 (lv_at hl 0 rfl) ?_
  refine lv_aload_n hx hb dX3_put_36 rfl (lv_at hl 2 rfl) ?_
  refine x_get hx hb hts mm_X3_put_X3 hown hK hP (2) (by decide) (cF_str _) rfl 0 (by decide) (hts _ lk_X3_put_9) rfl rfl dX3_put_37 ?_
  refine x_alen hx hb hK hP 3 0 (by decide) (cF_all _) rfl dX3_put_40 ?_
  refine lv_icmp_ge (tgt := 60) hx hb dX3_put_41 (by decide) (fun c_4 => absurd c_4 (nI_ge (by omega) (by omega))) (fun _ => ?_)
  refine lv_aload_n hx hb dX3_put_44 rfl (lv_at hl 2 rfl) ?_
  refine x_get hx hb hts mm_X3_put_X3 hown hK hP (2) (by decide) (cF_str _) rfl 0 (by decide) (hts _ lk_X3_put_9) rfl rfl dX3_put_45 ?_
  refine lv_iload hx hb dX3_put_48 (lv_at hl 1 rfl) ?_
  refine lv_iload_n hx hb dX3_put_50 rfl (lv_at hl 5 rfl) ?_
  refine x_iast hx hb hK hP hD hS 3 0 (by decide) cF_all rfl (a * 6 + b) (by omega) (by decide) dX3_put_51 (fun H locs hP hS => ?_)
  refine lv_aload_n hx hb dX3_put_52 rfl (lv_at hl 2 rfl) ?_
  refine x_get hx hb hts mm_X3_put_X3 hown hK hP (2) (by decide) (cF_str _) rfl 0 (by decide) (hts _ lk_X3_put_9) rfl rfl dX3_put_53 ?_
  refine lv_iload hx hb dX3_put_56 (lv_at hl 0 rfl) ?_
  refine lv_iload_n hx hb dX3_put_58 rfl (lv_at hl 5 rfl) ?_
  refine x_iast hx hb hK hP hD hS 3 0 (by decide) cF_all rfl (b * 6 + a) (by omega) (by decide) dX3_put_59 (fun H locs hP hS => ?_)
  exact x_ret_v hx hb hr hlocks hP hS dX3_put_60 hq

theorem mm_X4_add_X4 : ∀ w ∈ wsX40, w ∈ wsX4_add := by decide +kernel
theorem lk_X4_add_15 : Cond.fieldLink RX4 15 "BackofficeAir$Told" "first" "I" ∈ wsX4_add := by decide +kernel
theorem lk_X4_add_19 : Cond.fieldLink RX4 19 "BackofficeAir$Told" "left" "I" ∈ wsX4_add := by decide +kernel
theorem lk_X4_add_9 : Cond.fieldLink RX4 9 "BackofficeAir$Told" "ring" "[I" ∈ wsX4_add := by decide +kernel
def f_X4_add (S : Mem) (v : Int32) : Mem := if nI ((kN (S 4 0)) + (kN (S 4 1))) < nI 200 then (ub (ub S 5 ((kN (S 4 0)) + (kN (S 4 1))) v) 4 1 (((ub S 5 ((kN (S 4 0)) + (kN (S 4 1))) v) 4 1) + (nI 1))) else (ub (ub S 5 (((kN (S 4 0)) + (kN (S 4 1))) - 200) v) 4 1 (((ub S 5 (((kN (S 4 0)) + (kN (S 4 1))) - 200) v) 4 1) + (nI 1)))
theorem f_X4_add_d (S : Mem) (v : Int32) : f_X4_add S v = (if nI ((kN (S 4 0)) + (kN (S 4 1))) < nI 200 then (ub (ub S 5 ((kN (S 4 0)) + (kN (S 4 1))) v) 4 1 (((ub S 5 ((kN (S 4 0)) + (kN (S 4 1))) v) 4 1) + (nI 1))) else (ub (ub S 5 (((kN (S 4 0)) + (kN (S 4 1))) - 200) v) 4 1 (((ub S 5 (((kN (S 4 0)) + (kN (S 4 1))) - 200) v) 4 1) + (nI 1)))) := rfl
set_option maxHeartbeats 1000000 in
set_option maxRecDepth 100000 in
theorem c_X4_add (l : Launch) (D : va_G) (cI cS : ClassId) (G : Nat → Nat) (S : Mem) (sz : Nat) (v : Int32) (hf : S 4 0 = nI (kN (S 4 0))) (hf2 : kN (S 4 0) < 200) (hl1 : S 4 1 = nI (kN (S 4 1))) (hl2 : kN (S 4 1) < 200) : Met l yX4_add wsX4_add ({ frames := 1, cells := 0, slots := 0, locals := 20 } : Room) (wPc 36 (cF cI cS G) D (tY cI cS) G S sz [.ref (G 4), .int v]) (mQv (f_X4_add S v) 36 (cF cI cS G) D G sz) 0 0 (fA 36 G sz) := by
  refine x_met (cc := cX4_add) (maxL := 3) (ret := none) (by decide) rfl (Nat.le_of_ble_eq_true rfl) ?_
  intro p e s m below meth c ls hx hb hr hml hts hown hlocks hsz hP hK hD hN hl hnm
  subst hsz
  have hown : s.vm.findClass RX4 = some m.cls := hown
  have hl : lv_has ls 3 [(0, .ref (G 4)), (1, .int v)] := hl
  have hq := f_X4_add_d S v
  have hA : ∀ q : Nat, s.heap.size ≤ q → (fA 36 G s.heap.size) q := fun q h => Or.inr h
  have hS : va_S (fA 36 G s.heap.size) s.heap s.heap [] := va_S.rf
  refine lv_aload_n hx hb dX4_add_0 rfl (lv_at hl 0 rfl) ?_
  refine x_get hx hb hts mm_X4_add_X4 hown hK hP (4) (by decide) (cF_told _) rfl 1 (by decide) (hts _ lk_X4_add_15) rfl rfl dX4_add_1 ?_
  refine x_top (y := nI (kN (S 4 0))) (hf) ?_
  refine lv_aload_n hx hb dX4_add_4 rfl (lv_at hl 0 rfl) ?_
  refine x_get hx hb hts mm_X4_add_X4 hown hK hP (4) (by decide) (cF_told _) rfl 2 (by decide) (hts _ lk_X4_add_19) rfl rfl dX4_add_5 ?_
  refine x_top (y := nI (kN (S 4 1))) (hl1) ?_
  refine x_iaddN hx hb dX4_add_8 ?_
  refine lv_istore_n (lv' := [(2, .int (nI ((kN (S 4 0)) + (kN (S 4 1))))), (0, .ref (G 4)), (1, .int v)]) hx hb dX4_add_9 rfl hl (by decide) rfl (fun ls hl => ?_)
  refine lv_iload_n hx hb dX4_add_10 rfl (lv_at hl 0 rfl) ?_
  refine lv_aload_n hx hb dX4_add_11 rfl (lv_at hl 1 rfl) ?_
  refine x_get hx hb hts mm_X4_add_X4 hown hK hP (4) (by decide) (cF_told _) rfl 0 (by decide) (hts _ lk_X4_add_9) rfl rfl dX4_add_12 ?_
  refine x_alen hx hb hK hP 5 0 (by decide) (cF_ring _) rfl dX4_add_15 ?_
  refine lv_icmp_lt (tgt := 27) hx hb dX4_add_16 (by decide) (fun c_1 => ?_) (fun c_1 => ?_)
  · have hq := hq.trans (if_pos c_1)
    have hlt : kN (S 4 0) + kN (S 4 1) < 200 := (nI_ltI (by omega) (by omega)).mp c_1
    refine lv_aload_n hx hb dX4_add_27 rfl (lv_at hl 1 rfl) ?_
    refine x_get hx hb hts mm_X4_add_X4 hown hK hP (4) (by decide) (cF_told _) rfl 2 (by decide) (hts _ lk_X4_add_19) rfl rfl dX4_add_28 ?_
    refine x_top (y := nI (kN (S 4 1))) (hl1) ?_
    refine lv_aload_n hx hb dX4_add_31 rfl (lv_at hl 1 rfl) ?_
    refine x_get hx hb hts mm_X4_add_X4 hown hK hP (4) (by decide) (cF_told _) rfl 0 (by decide) (hts _ lk_X4_add_9) rfl rfl dX4_add_32 ?_
    refine x_alen hx hb hK hP 5 0 (by decide) (cF_ring _) rfl dX4_add_35 ?_
    refine lv_icmp_ge (tgt := 69) hx hb dX4_add_36 (by decide) (fun c_2 => absurd c_2 (nI_ge hl2 (by omega))) (fun _ => ?_)
    refine lv_iload_n hx hb dX4_add_39 rfl (lv_at hl 0 rfl) ?_
    refine lv_if_lt (tgt := 69) hx hb dX4_add_40 (by decide) (fun c_3 => absurd c_3 (nI_pos (by omega))) (fun _ => ?_)
    refine lv_iload_n hx hb dX4_add_43 rfl (lv_at hl 0 rfl) ?_
    refine lv_aload_n hx hb dX4_add_44 rfl (lv_at hl 1 rfl) ?_
    refine x_get hx hb hts mm_X4_add_X4 hown hK hP (4) (by decide) (cF_told _) rfl 0 (by decide) (hts _ lk_X4_add_9) rfl rfl dX4_add_45 ?_
    refine x_alen hx hb hK hP 5 0 (by decide) (cF_ring _) rfl dX4_add_48 ?_
    refine lv_icmp_ge (tgt := 69) hx hb dX4_add_49 (by decide) (fun c_4 => absurd c_4 (nI_ge (by omega) (by omega))) (fun _ => ?_)
    refine lv_aload_n hx hb dX4_add_52 rfl (lv_at hl 1 rfl) ?_
    refine x_get hx hb hts mm_X4_add_X4 hown hK hP (4) (by decide) (cF_told _) rfl 0 (by decide) (hts _ lk_X4_add_9) rfl rfl dX4_add_53 ?_
    refine lv_iload_n hx hb dX4_add_56 rfl (lv_at hl 0 rfl) ?_
    refine lv_iload_n hx hb dX4_add_57 rfl (lv_at hl 2 rfl) ?_
    refine x_iast hx hb hK hP hD hS 5 0 (by decide) cF_ring rfl ((kN (S 4 0)) + (kN (S 4 1))) (by omega) (by decide) dX4_add_58 (fun H locs hP hS => ?_)
    refine lv_aload_n hx hb dX4_add_59 rfl (lv_at hl 1 rfl) ?_
    refine lv_dup hx hb dX4_add_60 rfl ?_
    refine x_get hx hb hts mm_X4_add_X4 hown hK hP (4) (by decide) (cF_told _) rfl 2 (by decide) (hts _ lk_X4_add_19) rfl rfl dX4_add_61 ?_
    refine lv_iconst (v := nI 1) hx hb dX4_add_64 (by decide) ?_
    refine lv_iadd hx hb dX4_add_65 ?_
    refine x_put hx hb hts mm_X4_add_X4 tyX4 tyX4_ok nmX4 hown hK hP hD hS 4 (by decide) (cF_told _) rfl 2 (by decide) (hts _ lk_X4_add_19) rfl rfl rfl rfl rfl (Nat.le_of_ble_eq_true rfl) 1 (cF_told _) dX4_add_66 (fun H locs hP hS => ?_)
    exact x_ret_v hx hb hr hlocks hP hS dX4_add_69 hq
  · have hq := hq.trans (if_neg c_1)
    have hlt : ¬ kN (S 4 0) + kN (S 4 1) < 200 := fun h => c_1 (nI_lt h (by omega))
    refine lv_iload_n hx hb dX4_add_19 rfl (lv_at hl 0 rfl) ?_
    refine lv_aload_n hx hb dX4_add_20 rfl (lv_at hl 1 rfl) ?_
    refine x_get hx hb hts mm_X4_add_X4 hown hK hP (4) (by decide) (cF_told _) rfl 0 (by decide) (hts _ lk_X4_add_9) rfl rfl dX4_add_21 ?_
    refine x_alen hx hb hK hP 5 0 (by decide) (cF_ring _) rfl dX4_add_24 ?_
    refine x_isubN hx hb (by omega) dX4_add_25 ?_
    refine lv_istore_n (lv' := [(2, .int (nI (((kN (S 4 0)) + (kN (S 4 1))) - 200))), (0, .ref (G 4)), (1, .int v)]) hx hb dX4_add_26 rfl hl (by decide) rfl (fun ls hl => ?_)
    refine lv_aload_n hx hb dX4_add_27 rfl (lv_at hl 1 rfl) ?_
    refine x_get hx hb hts mm_X4_add_X4 hown hK hP (4) (by decide) (cF_told _) rfl 2 (by decide) (hts _ lk_X4_add_19) rfl rfl dX4_add_28 ?_
    refine x_top (y := nI (kN (S 4 1))) (hl1) ?_
    refine lv_aload_n hx hb dX4_add_31 rfl (lv_at hl 1 rfl) ?_
    refine x_get hx hb hts mm_X4_add_X4 hown hK hP (4) (by decide) (cF_told _) rfl 0 (by decide) (hts _ lk_X4_add_9) rfl rfl dX4_add_32 ?_
    refine x_alen hx hb hK hP 5 0 (by decide) (cF_ring _) rfl dX4_add_35 ?_
    refine lv_icmp_ge (tgt := 69) hx hb dX4_add_36 (by decide) (fun c_5 => absurd c_5 (nI_ge hl2 (by omega))) (fun _ => ?_)
    refine lv_iload_n hx hb dX4_add_39 rfl (lv_at hl 0 rfl) ?_
    refine lv_if_lt (tgt := 69) hx hb dX4_add_40 (by decide) (fun c_6 => absurd c_6 (nI_pos (by omega))) (fun _ => ?_)
    refine lv_iload_n hx hb dX4_add_43 rfl (lv_at hl 0 rfl) ?_
    refine lv_aload_n hx hb dX4_add_44 rfl (lv_at hl 1 rfl) ?_
    refine x_get hx hb hts mm_X4_add_X4 hown hK hP (4) (by decide) (cF_told _) rfl 0 (by decide) (hts _ lk_X4_add_9) rfl rfl dX4_add_45 ?_
    refine x_alen hx hb hK hP 5 0 (by decide) (cF_ring _) rfl dX4_add_48 ?_
    refine lv_icmp_ge (tgt := 69) hx hb dX4_add_49 (by decide) (fun c_7 => absurd c_7 (nI_ge (by omega) (by omega))) (fun _ => ?_)
    refine lv_aload_n hx hb dX4_add_52 rfl (lv_at hl 1 rfl) ?_
    refine x_get hx hb hts mm_X4_add_X4 hown hK hP (4) (by decide) (cF_told _) rfl 0 (by decide) (hts _ lk_X4_add_9) rfl rfl dX4_add_53 ?_
    refine lv_iload_n hx hb dX4_add_56 rfl (lv_at hl 0 rfl) ?_
    refine lv_iload_n hx hb dX4_add_57 rfl (lv_at hl 2 rfl) ?_
    refine x_iast hx hb hK hP hD hS 5 0 (by decide) cF_ring rfl (((kN (S 4 0)) + (kN (S 4 1))) - 200) (by omega) (by decide) dX4_add_58 (fun H locs hP hS => ?_)
    refine lv_aload_n hx hb dX4_add_59 rfl (lv_at hl 1 rfl) ?_
    refine lv_dup hx hb dX4_add_60 rfl ?_
    refine x_get hx hb hts mm_X4_add_X4 hown hK hP (4) (by decide) (cF_told _) rfl 2 (by decide) (hts _ lk_X4_add_19) rfl rfl dX4_add_61 ?_
    refine lv_iconst (v := nI 1) hx hb dX4_add_64 (by decide) ?_
    refine lv_iadd hx hb dX4_add_65 ?_
    refine x_put hx hb hts mm_X4_add_X4 tyX4 tyX4_ok nmX4 hown hK hP hD hS 4 (by decide) (cF_told _) rfl 2 (by decide) (hts _ lk_X4_add_19) rfl rfl rfl rfl rfl (Nat.le_of_ble_eq_true rfl) 1 (cF_told _) dX4_add_66 (fun H locs hP hS => ?_)
    exact x_ret_v hx hb hr hlocks hP hS dX4_add_69 hq

theorem mm_X4_next_X4 : ∀ w ∈ wsX40, w ∈ wsX4_next := by decide +kernel
theorem lk_X4_next_15 : Cond.fieldLink RX4 15 "BackofficeAir$Told" "first" "I" ∈ wsX4_next := by decide +kernel
theorem lk_X4_next_19 : Cond.fieldLink RX4 19 "BackofficeAir$Told" "left" "I" ∈ wsX4_next := by decide +kernel
theorem lk_X4_next_9 : Cond.fieldLink RX4 9 "BackofficeAir$Told" "ring" "[I" ∈ wsX4_next := by decide +kernel
def f_X4_next (S : Mem) : Int32 × Mem := if S 4 1 ≤ 0 then ((nI 0, S)) else (if nI 200 ≤ (S 4 0) + (nI 1) then ((S 5 (kN (S 4 0)), ub (ub S 4 0 (nI 0)) 4 1 (((ub S 4 0 (nI 0)) 4 1) - (nI 1)))) else ((S 5 (kN (S 4 0)), ub (ub S 4 0 ((S 4 0) + (nI 1))) 4 1 (((ub S 4 0 ((S 4 0) + (nI 1))) 4 1) - (nI 1)))))
theorem f_X4_next_d (S : Mem) : f_X4_next S = (if S 4 1 ≤ 0 then ((nI 0, S)) else (if nI 200 ≤ (S 4 0) + (nI 1) then ((S 5 (kN (S 4 0)), ub (ub S 4 0 (nI 0)) 4 1 (((ub S 4 0 (nI 0)) 4 1) - (nI 1)))) else ((S 5 (kN (S 4 0)), ub (ub S 4 0 ((S 4 0) + (nI 1))) 4 1 (((ub S 4 0 ((S 4 0) + (nI 1))) 4 1) - (nI 1)))))) := rfl
set_option maxHeartbeats 1000000 in
set_option maxRecDepth 100000 in
theorem c_X4_next (l : Launch) (D : va_G) (cI cS : ClassId) (G : Nat → Nat) (S : Mem) (sz : Nat) (hf : S 4 0 = nI (kN (S 4 0))) (hf2 : kN (S 4 0) < 200) : Met l yX4_next wsX4_next ({ frames := 1, cells := 0, slots := 0, locals := 20 } : Room) (wPc 36 (cF cI cS G) D (tY cI cS) G S sz [.ref (G 4)]) (mQi (f_X4_next S) 36 (cF cI cS G) D G sz) 0 0 (fA 36 G sz) := by
  refine x_met (cc := cX4_next) (maxL := 2) (ret := (some .int)) (by decide) rfl (Nat.le_of_ble_eq_true rfl) ?_
  intro p e s m below meth c ls hx hb hr hml hts hown hlocks hsz hP hK hD hN hl hnm
  subst hsz
  have hown : s.vm.findClass RX4 = some m.cls := hown
  have hl : lv_has ls 2 [(0, .ref (G 4))] := hl
  have hq := f_X4_next_d S
  have hA : ∀ q : Nat, s.heap.size ≤ q → (fA 36 G s.heap.size) q := fun q h => Or.inr h
  have hS : va_S (fA 36 G s.heap.size) s.heap s.heap [] := va_S.rf
  refine lv_aload_n hx hb dX4_next_0 rfl (lv_at hl 0 rfl) ?_
  refine x_get hx hb hts mm_X4_next_X4 hown hK hP (4) (by decide) (cF_told _) rfl 2 (by decide) (hts _ lk_X4_next_19) rfl rfl dX4_next_1 ?_
  refine lv_if_le (tgt := 26) hx hb dX4_next_4 (by decide) (fun c_1 => ?_) (fun c_1 => ?_)
  · have hq := hq.trans (if_pos c_1)
    refine lv_iconst (v := nI 0) hx hb dX4_next_26 (by decide) ?_
    exact x_ret_m hx hb hr rfl hlocks hP hS dX4_next_27 hq
  · have hq := hq.trans (if_neg c_1)
    refine lv_aload_n hx hb dX4_next_7 rfl (lv_at hl 0 rfl) ?_
    refine x_get hx hb hts mm_X4_next_X4 hown hK hP (4) (by decide) (cF_told _) rfl 1 (by decide) (hts _ lk_X4_next_15) rfl rfl dX4_next_8 ?_
    refine x_top (y := nI (kN (S 4 0))) (hf) ?_
    refine lv_if_lt (tgt := 26) hx hb dX4_next_11 (by decide) (fun c_2 => absurd c_2 (nI_pos (by omega))) (fun _ => ?_)
    refine lv_aload_n hx hb dX4_next_14 rfl (lv_at hl 0 rfl) ?_
    refine x_get hx hb hts mm_X4_next_X4 hown hK hP (4) (by decide) (cF_told _) rfl 1 (by decide) (hts _ lk_X4_next_15) rfl rfl dX4_next_15 ?_
    refine x_top (y := nI (kN (S 4 0))) (hf) ?_
    refine lv_aload_n hx hb dX4_next_18 rfl (lv_at hl 0 rfl) ?_
    refine x_get hx hb hts mm_X4_next_X4 hown hK hP (4) (by decide) (cF_told _) rfl 0 (by decide) (hts _ lk_X4_next_9) rfl rfl dX4_next_19 ?_
    refine x_alen hx hb hK hP 5 0 (by decide) (cF_ring _) rfl dX4_next_22 ?_
    refine lv_icmp_lt (tgt := 28) hx hb dX4_next_23 (by decide) (fun _ => ?_) (fun c_3 => absurd (nI_lt hf2 (by omega)) c_3) 
    refine lv_aload_n hx hb dX4_next_28 rfl (lv_at hl 0 rfl) ?_
    refine x_get hx hb hts mm_X4_next_X4 hown hK hP (4) (by decide) (cF_told _) rfl 0 (by decide) (hts _ lk_X4_next_9) rfl rfl dX4_next_29 ?_
    refine lv_aload_n hx hb dX4_next_32 rfl (lv_at hl 0 rfl) ?_
    refine x_get hx hb hts mm_X4_next_X4 hown hK hP (4) (by decide) (cF_told _) rfl 1 (by decide) (hts _ lk_X4_next_15) rfl rfl dX4_next_33 ?_
    refine x_top (y := nI (kN (S 4 0))) (hf) ?_
    refine x_iald hx hb hK hP 5 0 (by decide) (cF_ring _) rfl (kN (S 4 0)) (by omega) (by decide) dX4_next_36 ?_
    refine lv_istore_n (lv' := [(1, .int (S 5 (kN (S 4 0)))), (0, .ref (G 4))]) hx hb dX4_next_37 rfl hl (by decide) rfl (fun ls hl => ?_)
    refine lv_aload_n hx hb dX4_next_38 rfl (lv_at hl 1 rfl) ?_
    refine lv_aload_n hx hb dX4_next_39 rfl (lv_at hl 1 rfl) ?_
    refine x_get hx hb hts mm_X4_next_X4 hown hK hP (4) (by decide) (cF_told _) rfl 1 (by decide) (hts _ lk_X4_next_15) rfl rfl dX4_next_40 ?_
    refine lv_iconst (v := nI 1) hx hb dX4_next_43 (by decide) ?_
    refine lv_iadd hx hb dX4_next_44 ?_
    refine lv_aload_n hx hb dX4_next_45 rfl (lv_at hl 1 rfl) ?_
    refine x_get hx hb hts mm_X4_next_X4 hown hK hP (4) (by decide) (cF_told _) rfl 0 (by decide) (hts _ lk_X4_next_9) rfl rfl dX4_next_46 ?_
    refine x_alen hx hb hK hP 5 0 (by decide) (cF_ring _) rfl dX4_next_49 ?_
    refine lv_icmp_ge (tgt := 62) hx hb dX4_next_50 (by decide) (fun c_4 => ?_) (fun c_4 => ?_)
    · have hq := hq.trans (if_pos c_4)
      refine lv_iconst (v := nI 0) hx hb dX4_next_62 (by decide) ?_
      refine x_put hx hb hts mm_X4_next_X4 tyX4 tyX4_ok nmX4 hown hK hP hD hS 4 (by decide) (cF_told _) rfl 1 (by decide) (hts _ lk_X4_next_15) rfl rfl rfl rfl rfl (Nat.le_of_ble_eq_true rfl) 0 (cF_told _) dX4_next_63 (fun H locs hP hS => ?_)
      refine lv_aload_n hx hb dX4_next_66 rfl (lv_at hl 1 rfl) ?_
      refine lv_dup hx hb dX4_next_67 rfl ?_
      refine x_get hx hb hts mm_X4_next_X4 hown hK hP (4) (by decide) (cF_told _) rfl 2 (by decide) (hts _ lk_X4_next_19) rfl rfl dX4_next_68 ?_
      refine lv_iconst (v := nI 1) hx hb dX4_next_71 (by decide) ?_
      refine lv_isub hx hb dX4_next_72 ?_
      refine x_put hx hb hts mm_X4_next_X4 tyX4 tyX4_ok nmX4 hown hK hP hD hS 4 (by decide) (cF_told _) rfl 2 (by decide) (hts _ lk_X4_next_19) rfl rfl rfl rfl rfl (Nat.le_of_ble_eq_true rfl) 1 (cF_told _) dX4_next_73 (fun H locs hP hS => ?_)
      refine lv_iload_n hx hb dX4_next_76 rfl (lv_at hl 0 rfl) ?_
      exact x_ret_m hx hb hr rfl hlocks hP hS dX4_next_77 hq
    · have hq := hq.trans (if_neg c_4)
      refine lv_aload_n hx hb dX4_next_53 rfl (lv_at hl 1 rfl) ?_
      refine x_get hx hb hts mm_X4_next_X4 hown hK hP (4) (by decide) (cF_told _) rfl 1 (by decide) (hts _ lk_X4_next_15) rfl rfl dX4_next_54 ?_
      refine lv_iconst (v := nI 1) hx hb dX4_next_57 (by decide) ?_
      refine lv_iadd hx hb dX4_next_58 ?_
      refine lv_goto (tgt := 63) hx hb dX4_next_59 (by decide) ?_
      refine x_put hx hb hts mm_X4_next_X4 tyX4 tyX4_ok nmX4 hown hK hP hD hS 4 (by decide) (cF_told _) rfl 1 (by decide) (hts _ lk_X4_next_15) rfl rfl rfl rfl rfl (Nat.le_of_ble_eq_true rfl) 0 (cF_told _) dX4_next_63 (fun H locs hP hS => ?_)
      refine lv_aload_n hx hb dX4_next_66 rfl (lv_at hl 1 rfl) ?_
      refine lv_dup hx hb dX4_next_67 rfl ?_
      refine x_get hx hb hts mm_X4_next_X4 hown hK hP (4) (by decide) (cF_told _) rfl 2 (by decide) (hts _ lk_X4_next_19) rfl rfl dX4_next_68 ?_
      refine lv_iconst (v := nI 1) hx hb dX4_next_71 (by decide) ?_
      refine lv_isub hx hb dX4_next_72 ?_
      refine x_put hx hb hts mm_X4_next_X4 tyX4 tyX4_ok nmX4 hown hK hP hD hS 4 (by decide) (cF_told _) rfl 2 (by decide) (hts _ lk_X4_next_19) rfl rfl rfl rfl rfl (Nat.le_of_ble_eq_true rfl) 1 (cF_told _) dX4_next_73 (fun H locs hP hS => ?_)
      refine lv_iload_n hx hb dX4_next_76 rfl (lv_at hl 0 rfl) ?_
      exact x_ret_m hx hb hr rfl hlocks hP hS dX4_next_77 hq
end
section
theorem mm_X2_startAfresh_X2 : ∀ w ∈ wsX20, w ∈ wsX2_startAfresh := by decide +kernel
theorem li_X2_startAfresh_X5 : Cond.initialized RX5 ∈ wsX2_startAfresh := by decide +kernel
theorem lk_X2_startAfresh_25 : Cond.fieldLink RX2 25 "BackofficeAir$Station" "itsClass" "I" ∈ wsX2_startAfresh := by decide +kernel
theorem lk_X2_startAfresh_29 : Cond.fieldLink RX2 29 "BackofficeAir$Station" "window" "I" ∈ wsX2_startAfresh := by decide +kernel
theorem lk_X2_startAfresh_35 : Cond.fieldLink RX2 35 "BackofficeAir$Station" "failures" "I" ∈ wsX2_startAfresh := by decide +kernel
theorem ls_X2_startAfresh_X5_leastWindow : Cond.static yX5_leastWindow ∈ wsX2_startAfresh := by decide +kernel
theorem nk_X2_102 : Cond.methodLinkNest RX2 102 ⟨"BackofficeAir", "leastWindow", "(I)I"⟩ "BackofficeAir" ∈ nestW := by decide +kernel
def f_X2_startAfresh (S : Mem) (i : Nat) : Mem := ub (ub S (6 + 5 * i) 1 (f_X5_leastWindow (S (6 + 5 * i) 0))) (6 + 5 * i) 3 (nI 0)
theorem f_X2_startAfresh_d (S : Mem) (i : Nat) : f_X2_startAfresh S i = (ub (ub S (6 + 5 * i) 1 (f_X5_leastWindow (S (6 + 5 * i) 0))) (6 + 5 * i) 3 (nI 0)) := rfl
set_option maxHeartbeats 1000000 in
set_option maxRecDepth 100000 in
theorem c_X2_startAfresh (l : Launch) (D : va_G) (cI cS : ClassId) (G : Nat → Nat) (S : Mem) (sz : Nat) (i : Nat) (hi : i < 6) : Met l yX2_startAfresh wsX2_startAfresh ({ frames := 2, cells := 0, slots := 0, locals := 40 } : Room) (wPc 36 (cF cI cS G) D (tY cI cS) G S sz [.ref (G (6 + 5 * i))]) (mQv (f_X2_startAfresh S i) 36 (cF cI cS G) D G sz) 0 0 (fA 36 G sz) := by
  refine x_met (cc := cX2_startAfresh) (maxL := 1) (ret := none) (by decide) rfl (Nat.le_of_ble_eq_true rfl) ?_
  intro p e s m below meth c ls hx hb hr hml hts hown hlocks hsz hP hK hD hN hl hnm
  subst hsz
  have hown : s.vm.findClass RX2 = some m.cls := hown
  have hl : lv_has ls 1 [(0, .ref (G (6 + 5 * i)))] := hl
  have hq := f_X2_startAfresh_d S i
  have hA : ∀ q : Nat, s.heap.size ≤ q → (fA 36 G s.heap.size) q := fun q h => Or.inr h
  have hS : va_S (fA 36 G s.heap.size) s.heap s.heap [] := va_S.rf
  refine lv_aload_n hx hb dX2_startAfresh_0 rfl (lv_at hl 0 rfl) ?_
  refine lv_aload_n hx hb dX2_startAfresh_1 rfl (lv_at hl 0 rfl) ?_
  refine x_get hx hb hts mm_X2_startAfresh_X2 hown hK hP (6 + 5 * i) (by omega) (cF_st _ _) rfl 2 (by decide) (hts _ lk_X2_startAfresh_25) rfl rfl dX2_startAfresh_2 ?_
  refine x_pi (va_runSN (As := [.int (S (6 + 5 * i) 0)]) (rest := [.ref (G (6 + 5 * i))]) ⟨hx, hb, hml, hown, hts⟩ (c_X5_leastWindow l s.heap.size (S (6 + 5 * i) 0)) ⟨va_cnB 1 hts gX2_startAfresh_X5_leastWindow_n102 rfl rfl rfl (hN _ nk_X2_102) (hts _ li_X2_startAfresh_X5) (by decide +kernel) ⟨Nat.le_of_ble_eq_true rfl, Nat.le_of_ble_eq_true rfl⟩, hts _ ls_X2_startAfresh_X5_leastWindow, trivial⟩ ⟨sPc_blind, sPc_at hN⟩ rfl rfl hl.1 rfl (lv_room (Nat.le_of_ble_eq_true rfl)) dX2_startAfresh_5 ⟨Nat.le_refl _, Nat.le_refl _⟩) hS hA (fun q h => h) (fun H locs hz hk hS => ?_)
  have hP := P_kept hP hk
  refine x_put hx hb hts mm_X2_startAfresh_X2 tyX2 tyX2_ok nmX2 hown hK hP hD hS (6 + 5 * i) (by omega) (cF_st _ _) rfl 3 (by decide) (hts _ lk_X2_startAfresh_29) rfl rfl rfl rfl rfl (Nat.le_of_ble_eq_true rfl) 1 (cF_st _ _) dX2_startAfresh_8 (fun H locs hP hS => ?_)
  refine lv_aload_n hx hb dX2_startAfresh_11 rfl (lv_at hl 0 rfl) ?_
  refine lv_iconst (v := nI 0) hx hb dX2_startAfresh_12 (by decide) ?_
  refine x_put hx hb hts mm_X2_startAfresh_X2 tyX2 tyX2_ok nmX2 hown hK hP hD hS (6 + 5 * i) (by omega) (cF_st _ _) rfl 5 (by decide) (hts _ lk_X2_startAfresh_35) rfl rfl rfl rfl rfl (Nat.le_of_ble_eq_true rfl) 3 (cF_st _ _) dX2_startAfresh_13 (fun H locs hP hS => ?_)
  exact x_ret_v hx hb hr hlocks hP hS dX2_startAfresh_16 hq

theorem mm_X2_countFailure_X2 : ∀ w ∈ wsX20, w ∈ wsX2_countFailure := by decide +kernel
theorem lk_X2_countFailure_12 : Cond.fieldLink RX2 12 "BackofficeAir$Station" "row" "LBackofficeAir$Row;" ∈ wsX2_countFailure := by decide +kernel
theorem lk_X2_countFailure_29 : Cond.fieldLink RX2 29 "BackofficeAir$Station" "window" "I" ∈ wsX2_countFailure := by decide +kernel
theorem lk_X2_countFailure_35 : Cond.fieldLink RX2 35 "BackofficeAir$Station" "failures" "I" ∈ wsX2_countFailure := by decide +kernel
theorem lk_X2_countFailure_44 : Cond.fieldLink RX2 44 "BackofficeAir$Station" "dropped" "I" ∈ wsX2_countFailure := by decide +kernel
theorem lm1_X2_countFailure_min : Cond.methodLink RX2 96 Lib.Math.min.name ∈ wsX2_countFailure := by decide +kernel
theorem lm2_X2_countFailure_min : Cond.static Lib.Math.min.name ∈ wsX2_countFailure := by decide +kernel
theorem lm3_X2_countFailure_min : Cond.initialized "java/lang/Math" ∈ wsX2_countFailure := by decide +kernel
theorem lm4_X2_countFailure_min : Cond.code Lib.Math.min.name Lib.Math.min.code 2 (some .int) ∈ wsX2_countFailure := by decide +kernel
def f_X2_countFailure (S : Mem) (i : Nat) : Mem := if nI 5 ≤ (ub S (6 + 5 * i) 3 ((S (6 + 5 * i) 3) + (nI 1))) (6 + 5 * i) 3 then (f_X2_startAfresh (f_X0_removeFirst (ub (ub S (6 + 5 * i) 3 ((S (6 + 5 * i) 3) + (nI 1))) (6 + 5 * i) 6 (((ub S (6 + 5 * i) 3 ((S (6 + 5 * i) 3) + (nI 1))) (6 + 5 * i) 6) + (nI 1))) i) i) else (ub (ub S (6 + 5 * i) 3 ((S (6 + 5 * i) 3) + (nI 1))) (6 + 5 * i) 1 (if (nI 31) < (((nI 2) * ((ub S (6 + 5 * i) 3 ((S (6 + 5 * i) 3) + (nI 1))) (6 + 5 * i) 1)) + (nI 1)) then (nI 31) else (((nI 2) * ((ub S (6 + 5 * i) 3 ((S (6 + 5 * i) 3) + (nI 1))) (6 + 5 * i) 1)) + (nI 1))))
theorem f_X2_countFailure_d (S : Mem) (i : Nat) : f_X2_countFailure S i = (if nI 5 ≤ (ub S (6 + 5 * i) 3 ((S (6 + 5 * i) 3) + (nI 1))) (6 + 5 * i) 3 then (f_X2_startAfresh (f_X0_removeFirst (ub (ub S (6 + 5 * i) 3 ((S (6 + 5 * i) 3) + (nI 1))) (6 + 5 * i) 6 (((ub S (6 + 5 * i) 3 ((S (6 + 5 * i) 3) + (nI 1))) (6 + 5 * i) 6) + (nI 1))) i) i) else (ub (ub S (6 + 5 * i) 3 ((S (6 + 5 * i) 3) + (nI 1))) (6 + 5 * i) 1 (if (nI 31) < (((nI 2) * ((ub S (6 + 5 * i) 3 ((S (6 + 5 * i) 3) + (nI 1))) (6 + 5 * i) 1)) + (nI 1)) then (nI 31) else (((nI 2) * ((ub S (6 + 5 * i) 3 ((S (6 + 5 * i) 3) + (nI 1))) (6 + 5 * i) 1)) + (nI 1))))) := rfl
set_option maxHeartbeats 1000000 in
set_option maxRecDepth 100000 in
theorem c_X2_countFailure (l : Launch) (D : va_G) (cI cS : ClassId) (G : Nat → Nat) (S : Mem) (sz : Nat) (i : Nat) (hi : i < 6) : Met l yX2_countFailure wsX2_countFailure ({ frames := 3, cells := 0, slots := 0, locals := 60 } : Room) (wPc 36 (cF cI cS G) D (tY cI cS) G S sz [.ref (G (6 + 5 * i))]) (mQv (f_X2_countFailure S i) 36 (cF cI cS G) D G sz) 0 0 (fA 36 G sz) := by
  refine x_met (cc := cX2_countFailure) (maxL := 1) (ret := none) (by decide) rfl (Nat.le_of_ble_eq_true rfl) ?_
  intro p e s m below meth c ls hx hb hr hml hts hown hlocks hsz hP hK hD hN hl hnm
  subst hsz
  have hown : s.vm.findClass RX2 = some m.cls := hown
  have hl : lv_has ls 1 [(0, .ref (G (6 + 5 * i)))] := hl
  have hq := f_X2_countFailure_d S i
  have hA : ∀ q : Nat, s.heap.size ≤ q → (fA 36 G s.heap.size) q := fun q h => Or.inr h
  have hS : va_S (fA 36 G s.heap.size) s.heap s.heap [] := va_S.rf
  refine lv_aload_n hx hb dX2_countFailure_0 rfl (lv_at hl 0 rfl) ?_
  refine lv_dup hx hb dX2_countFailure_1 rfl ?_
  refine x_get hx hb hts mm_X2_countFailure_X2 hown hK hP (6 + 5 * i) (by omega) (cF_st _ _) rfl 5 (by decide) (hts _ lk_X2_countFailure_35) rfl rfl dX2_countFailure_2 ?_
  refine lv_iconst (v := nI 1) hx hb dX2_countFailure_5 (by decide) ?_
  refine lv_iadd hx hb dX2_countFailure_6 ?_
  refine x_put hx hb hts mm_X2_countFailure_X2 tyX2 tyX2_ok nmX2 hown hK hP hD hS (6 + 5 * i) (by omega) (cF_st _ _) rfl 5 (by decide) (hts _ lk_X2_countFailure_35) rfl rfl rfl rfl rfl (Nat.le_of_ble_eq_true rfl) 3 (cF_st _ _) dX2_countFailure_7 (fun H locs hP hS => ?_)
  refine lv_aload_n hx hb dX2_countFailure_10 rfl (lv_at hl 0 rfl) ?_
  refine x_get hx hb hts mm_X2_countFailure_X2 hown hK hP (6 + 5 * i) (by omega) (cF_st _ _) rfl 5 (by decide) (hts _ lk_X2_countFailure_35) rfl rfl dX2_countFailure_11 ?_
  refine lv_iconst (v := nI 5) hx hb dX2_countFailure_14 (by decide) ?_
  refine lv_icmp_ge (tgt := 36) hx hb dX2_countFailure_15 (by decide) (fun c_1 => ?_) (fun c_1 => ?_)
  · have hq := hq.trans (if_pos c_1)
    refine lv_aload_n hx hb dX2_countFailure_36 rfl (lv_at hl 0 rfl) ?_
    refine lv_dup hx hb dX2_countFailure_37 rfl ?_
    refine x_get hx hb hts mm_X2_countFailure_X2 hown hK hP (6 + 5 * i) (by omega) (cF_st _ _) rfl 8 (by decide) (hts _ lk_X2_countFailure_44) rfl rfl dX2_countFailure_38 ?_
    refine lv_iconst (v := nI 1) hx hb dX2_countFailure_41 (by decide) ?_
    refine lv_iadd hx hb dX2_countFailure_42 ?_
    refine x_put hx hb hts mm_X2_countFailure_X2 tyX2 tyX2_ok nmX2 hown hK hP hD hS (6 + 5 * i) (by omega) (cF_st _ _) rfl 8 (by decide) (hts _ lk_X2_countFailure_44) rfl rfl rfl rfl rfl (Nat.le_of_ble_eq_true rfl) 6 (cF_st _ _) dX2_countFailure_43 (fun H locs hP hS => ?_)
    refine lv_aload_n hx hb dX2_countFailure_46 rfl (lv_at hl 0 rfl) ?_
    refine x_get hx hb hts mm_X2_countFailure_X2 hown hK hP (6 + 5 * i) (by omega) (cF_st _ _) rfl 0 (by decide) (hts _ lk_X2_countFailure_12) rfl rfl dX2_countFailure_47 ?_
    refine x_mv (va_runV (As := []) (rest := []) ⟨hx, hb, hml, hown, hts⟩ (c_X0_removeFirst l D cI cS G (ub (ub S (6 + 5 * i) 3 ((S (6 + 5 * i) 3) + (nI 1))) (6 + 5 * i) 6 (((ub S (6 + 5 * i) 3 ((S (6 + 5 * i) 3) + (nI 1))) (6 + 5 * i) 6) + (nI 1))) H.size i (by omega)) (cwV 0 hts gX2_countFailure_X0_removeFirst rfl rfl rfl (by decide +kernel) ⟨Nat.le_of_ble_eq_true rfl, Nat.le_of_ble_eq_true rfl⟩) ⟨wPc_blind, va_recv hK hP (ci := 0) (q0 := 7 + 5 * i) rfl (WL_at (by omega) (cF_row _ _)), wPc_at hP hK hD hN⟩ rfl rfl hl.1 rfl (lv_room (Nat.le_of_ble_eq_true rfl)) dX2_countFailure_50 ⟨Nat.le_refl _, Nat.le_refl _⟩) hS (fA_sub (hD S) (fun q h => hA q (Nat.le_trans hS.1 h))) (fun H locs hz hk hP hS => ?_)
    refine lv_aload_n hx hb dX2_countFailure_53 rfl (lv_at hl 0 rfl) ?_
    refine x_mv (va_runV (As := []) (rest := []) ⟨hx, hb, hml, hown, hts⟩ (c_X2_startAfresh l D cI cS G (f_X0_removeFirst (ub (ub S (6 + 5 * i) 3 ((S (6 + 5 * i) 3) + (nI 1))) (6 + 5 * i) 6 (((ub S (6 + 5 * i) 3 ((S (6 + 5 * i) 3) + (nI 1))) (6 + 5 * i) 6) + (nI 1))) i) H.size i (by omega)) (cwV 0 hts gX2_countFailure_X2_startAfresh rfl rfl rfl (by decide +kernel) ⟨Nat.le_of_ble_eq_true rfl, Nat.le_of_ble_eq_true rfl⟩) ⟨wPc_blind, va_recv hK hP (ci := 2) (q0 := 6 + 5 * i) rfl (WL_at (by omega) (cF_st _ _)), wPc_at hP hK hD hN⟩ rfl rfl hl.1 rfl (lv_room (Nat.le_of_ble_eq_true rfl)) dX2_countFailure_54 ⟨Nat.le_refl _, Nat.le_refl _⟩) hS (fA_sub (hD S) (fun q h => hA q (Nat.le_trans hS.1 h))) (fun H locs hz hk hP hS => ?_)
    exact x_ret_v hx hb hr hlocks hP hS dX2_countFailure_57 hq
  · have hq := hq.trans (if_neg c_1)
    refine lv_aload_n hx hb dX2_countFailure_18 rfl (lv_at hl 0 rfl) ?_
    refine lv_iconst (v := nI 2) hx hb dX2_countFailure_19 (by decide) ?_
    refine lv_aload_n hx hb dX2_countFailure_20 rfl (lv_at hl 0 rfl) ?_
    refine x_get hx hb hts mm_X2_countFailure_X2 hown hK hP (6 + 5 * i) (by omega) (cF_st _ _) rfl 3 (by decide) (hts _ lk_X2_countFailure_29) rfl rfl dX2_countFailure_21 ?_
    refine lv_imul hx hb dX2_countFailure_24 ?_
    refine lv_iconst (v := nI 1) hx hb dX2_countFailure_25 (by decide) ?_
    refine lv_iadd hx hb dX2_countFailure_26 ?_
    refine lv_bipush (v := nI 31) hx hb dX2_countFailure_27 (by decide) ?_
    refine va_mmin hx hb (hml.trans hl.1.symm) hown (hts _ lm1_X2_countFailure_min) (hts _ lm2_X2_countFailure_min) (hts _ lm3_X2_countFailure_min) (hts _ lm4_X2_countFailure_min) (Nat.le_of_ble_eq_true rfl) (Nat.le_of_ble_eq_true rfl) (Nat.zero_le _) (Nat.zero_le _) dX2_countFailure_29 ?_
    refine x_put hx hb hts mm_X2_countFailure_X2 tyX2 tyX2_ok nmX2 hown hK hP hD hS (6 + 5 * i) (by omega) (cF_st _ _) rfl 3 (by decide) (hts _ lk_X2_countFailure_29) rfl rfl rfl rfl rfl (Nat.le_of_ble_eq_true rfl) 1 (cF_st _ _) dX2_countFailure_32 (fun H locs hP hS => ?_)
    exact x_ret_v hx hb hr hlocks hP hS dX2_countFailure_35 hq

theorem mm_X2_countSuccess_X2 : ∀ w ∈ wsX20, w ∈ wsX2_countSuccess := by decide +kernel
theorem lk_X2_countSuccess_12 : Cond.fieldLink RX2 12 "BackofficeAir$Station" "row" "LBackofficeAir$Row;" ∈ wsX2_countSuccess := by decide +kernel
theorem lk_X2_countSuccess_41 : Cond.fieldLink RX2 41 "BackofficeAir$Station" "delivered" "I" ∈ wsX2_countSuccess := by decide +kernel
def f_X2_countSuccess (S : Mem) (i : Nat) (x : Int32) : Mem := if f_X0_partsOfFirst (f_X2_startAfresh (f_X0_takeFromFirst (ub S (6 + 5 * i) 5 ((S (6 + 5 * i) 5) + (f_J6_bitCount_0f7a4 x))) i x) i) i = 0 then (f_X0_removeFirst (f_X2_startAfresh (f_X0_takeFromFirst (ub S (6 + 5 * i) 5 ((S (6 + 5 * i) 5) + (f_J6_bitCount_0f7a4 x))) i x) i) i) else (f_X2_startAfresh (f_X0_takeFromFirst (ub S (6 + 5 * i) 5 ((S (6 + 5 * i) 5) + (f_J6_bitCount_0f7a4 x))) i x) i)
theorem f_X2_countSuccess_d (S : Mem) (i : Nat) (x : Int32) : f_X2_countSuccess S i x = (if f_X0_partsOfFirst (f_X2_startAfresh (f_X0_takeFromFirst (ub S (6 + 5 * i) 5 ((S (6 + 5 * i) 5) + (f_J6_bitCount_0f7a4 x))) i x) i) i = 0 then (f_X0_removeFirst (f_X2_startAfresh (f_X0_takeFromFirst (ub S (6 + 5 * i) 5 ((S (6 + 5 * i) 5) + (f_J6_bitCount_0f7a4 x))) i x) i) i) else (f_X2_startAfresh (f_X0_takeFromFirst (ub S (6 + 5 * i) 5 ((S (6 + 5 * i) 5) + (f_J6_bitCount_0f7a4 x))) i x) i)) := rfl
set_option maxHeartbeats 1000000 in
set_option maxRecDepth 100000 in
theorem c_X2_countSuccess (l : Launch) (D : va_G) (cI cS : ClassId) (G : Nat → Nat) (S : Mem) (sz : Nat) (i : Nat) (x : Int32) (hi : i < 6) : Met l yX2_countSuccess wsX2_countSuccess ({ frames := 3, cells := 0, slots := 0, locals := 60 } : Room) (wPc 36 (cF cI cS G) D (tY cI cS) G S sz [.ref (G (6 + 5 * i)), .int x]) (mQv (f_X2_countSuccess S i x) 36 (cF cI cS G) D G sz) 0 0 (fA 36 G sz) := by
  refine x_met (cc := cX2_countSuccess) (maxL := 2) (ret := none) (by decide) rfl (Nat.le_of_ble_eq_true rfl) ?_
  intro p e s m below meth c ls hx hb hr hml hts hown hlocks hsz hP hK hD hN hl hnm
  subst hsz
  have hown : s.vm.findClass RX2 = some m.cls := hown
  have hl : lv_has ls 2 [(0, .ref (G (6 + 5 * i))), (1, .int x)] := hl
  have hq := f_X2_countSuccess_d S i x
  have hA : ∀ q : Nat, s.heap.size ≤ q → (fA 36 G s.heap.size) q := fun q h => Or.inr h
  have hS : va_S (fA 36 G s.heap.size) s.heap s.heap [] := va_S.rf
  refine lv_aload_n hx hb dX2_countSuccess_0 rfl (lv_at hl 0 rfl) ?_
  refine lv_dup hx hb dX2_countSuccess_1 rfl ?_
  refine x_get hx hb hts mm_X2_countSuccess_X2 hown hK hP (6 + 5 * i) (by omega) (cF_st _ _) rfl 7 (by decide) (hts _ lk_X2_countSuccess_41) rfl rfl dX2_countSuccess_2 ?_
  refine lv_iload_n hx hb dX2_countSuccess_5 rfl (lv_at hl 1 rfl) ?_
  refine x_pi (va_runS (As := [.int x]) (rest := [.int (S (6 + 5 * i) 5), .ref (G (6 + 5 * i))]) ⟨hx, hb, hml, hown, hts⟩ (c_J6_bitCount_0f7a4 l s.heap.size x) (va_cwS 1 hts gX2_countSuccess_J6_bitCount_0f7a4 rfl rfl rfl (by decide +kernel) ⟨Nat.le_of_ble_eq_true rfl, Nat.le_of_ble_eq_true rfl⟩) ⟨sPc_blind, sPc_at hN⟩ rfl rfl hl.1 rfl (lv_room (Nat.le_of_ble_eq_true rfl)) dX2_countSuccess_6 ⟨Nat.le_refl _, Nat.le_refl _⟩) hS hA (fun q h => h) (fun H locs hz hk hS => ?_)
  have hP := P_kept hP hk
  refine lv_iadd hx hb dX2_countSuccess_9 ?_
  refine x_put hx hb hts mm_X2_countSuccess_X2 tyX2 tyX2_ok nmX2 hown hK hP hD hS (6 + 5 * i) (by omega) (cF_st _ _) rfl 7 (by decide) (hts _ lk_X2_countSuccess_41) rfl rfl rfl rfl rfl (Nat.le_of_ble_eq_true rfl) 5 (cF_st _ _) dX2_countSuccess_10 (fun H locs hP hS => ?_)
  refine lv_aload_n hx hb dX2_countSuccess_13 rfl (lv_at hl 0 rfl) ?_
  refine x_get hx hb hts mm_X2_countSuccess_X2 hown hK hP (6 + 5 * i) (by omega) (cF_st _ _) rfl 0 (by decide) (hts _ lk_X2_countSuccess_12) rfl rfl dX2_countSuccess_14 ?_
  refine lv_iload_n hx hb dX2_countSuccess_17 rfl (lv_at hl 1 rfl) ?_
  refine x_mv (va_runV (As := [.int x]) (rest := []) ⟨hx, hb, hml, hown, hts⟩ (c_X0_takeFromFirst l D cI cS G (ub S (6 + 5 * i) 5 ((S (6 + 5 * i) 5) + (f_J6_bitCount_0f7a4 x))) H.size i x (by omega)) (cwV 1 hts gX2_countSuccess_X0_takeFromFirst rfl rfl rfl (by decide +kernel) ⟨Nat.le_of_ble_eq_true rfl, Nat.le_of_ble_eq_true rfl⟩) ⟨wPc_blind, va_recv hK hP (ci := 0) (q0 := 7 + 5 * i) rfl (WL_at (by omega) (cF_row _ _)), wPc_at hP hK hD hN⟩ rfl rfl hl.1 rfl (lv_room (Nat.le_of_ble_eq_true rfl)) dX2_countSuccess_18 ⟨Nat.le_refl _, Nat.le_refl _⟩) hS (fA_sub (hD S) (fun q h => hA q (Nat.le_trans hS.1 h))) (fun H locs hz hk hP hS => ?_)
  refine lv_aload_n hx hb dX2_countSuccess_21 rfl (lv_at hl 0 rfl) ?_
  refine x_mv (va_runV (As := []) (rest := []) ⟨hx, hb, hml, hown, hts⟩ (c_X2_startAfresh l D cI cS G (f_X0_takeFromFirst (ub S (6 + 5 * i) 5 ((S (6 + 5 * i) 5) + (f_J6_bitCount_0f7a4 x))) i x) H.size i (by omega)) (cwV 0 hts gX2_countSuccess_X2_startAfresh rfl rfl rfl (by decide +kernel) ⟨Nat.le_of_ble_eq_true rfl, Nat.le_of_ble_eq_true rfl⟩) ⟨wPc_blind, va_recv hK hP (ci := 2) (q0 := 6 + 5 * i) rfl (WL_at (by omega) (cF_st _ _)), wPc_at hP hK hD hN⟩ rfl rfl hl.1 rfl (lv_room (Nat.le_of_ble_eq_true rfl)) dX2_countSuccess_22 ⟨Nat.le_refl _, Nat.le_refl _⟩) hS (fA_sub (hD S) (fun q h => hA q (Nat.le_trans hS.1 h))) (fun H locs hz hk hP hS => ?_)
  refine lv_aload_n hx hb dX2_countSuccess_25 rfl (lv_at hl 0 rfl) ?_
  refine x_get hx hb hts mm_X2_countSuccess_X2 hown hK hP (6 + 5 * i) (by omega) (cF_st _ _) rfl 0 (by decide) (hts _ lk_X2_countSuccess_12) rfl rfl dX2_countSuccess_26 ?_
  refine x_pi (va_runV (As := []) (rest := []) ⟨hx, hb, hml, hown, hts⟩ (c_X0_partsOfFirst l D cI cS G (f_X2_startAfresh (f_X0_takeFromFirst (ub S (6 + 5 * i) 5 ((S (6 + 5 * i) 5) + (f_J6_bitCount_0f7a4 x))) i x) i) H.size i (by omega)) (cwV 0 hts gX2_countSuccess_X0_partsOfFirst rfl rfl rfl (by decide +kernel) ⟨Nat.le_of_ble_eq_true rfl, Nat.le_of_ble_eq_true rfl⟩) ⟨wPc_blind, va_recv hK hP (ci := 0) (q0 := 7 + 5 * i) rfl (WL_at (by omega) (cF_row _ _)), wPc_at hP hK hD hN⟩ rfl rfl hl.1 rfl (lv_room (Nat.le_of_ble_eq_true rfl)) dX2_countSuccess_29 ⟨Nat.le_refl _, Nat.le_refl _⟩) hS hA (fun q h => h) (fun H locs hz hk hS => ?_)
  have hP := P_kept hP hk
  refine lv_if_ne (tgt := 42) hx hb dX2_countSuccess_32 (by decide) (fun c_1 => ?_) (fun c_1 => ?_)
  · have hq := hq.trans (if_neg c_1)
    exact x_ret_v hx hb hr hlocks hP hS dX2_countSuccess_42 hq
  · have hq := hq.trans (if_pos c_1)
    refine lv_aload_n hx hb dX2_countSuccess_35 rfl (lv_at hl 0 rfl) ?_
    refine x_get hx hb hts mm_X2_countSuccess_X2 hown hK hP (6 + 5 * i) (by omega) (cF_st _ _) rfl 0 (by decide) (hts _ lk_X2_countSuccess_12) rfl rfl dX2_countSuccess_36 ?_
    refine x_mv (va_runV (As := []) (rest := []) ⟨hx, hb, hml, hown, hts⟩ (c_X0_removeFirst l D cI cS G (f_X2_startAfresh (f_X0_takeFromFirst (ub S (6 + 5 * i) 5 ((S (6 + 5 * i) 5) + (f_J6_bitCount_0f7a4 x))) i x) i) H.size i (by omega)) (cwV 0 hts gX2_countSuccess_X0_removeFirst rfl rfl rfl (by decide +kernel) ⟨Nat.le_of_ble_eq_true rfl, Nat.le_of_ble_eq_true rfl⟩) ⟨wPc_blind, va_recv hK hP (ci := 0) (q0 := 7 + 5 * i) rfl (WL_at (by omega) (cF_row _ _)), wPc_at hP hK hD hN⟩ rfl rfl hl.1 rfl (lv_room (Nat.le_of_ble_eq_true rfl)) dX2_countSuccess_39 ⟨Nat.le_refl _, Nat.le_refl _⟩) hS (fA_sub (hD S) (fun q h => hA q (Nat.le_trans hS.1 h))) (fun H locs hz hk hP hS => ?_)
    exact x_ret_v hx hb hr hlocks hP hS dX2_countSuccess_42 hq

theorem mm_X2_begin_X2 : ∀ w ∈ wsX20, w ∈ wsX2_begin := by decide +kernel
theorem lk_X2_begin_12 : Cond.fieldLink RX2 12 "BackofficeAir$Station" "row" "LBackofficeAir$Row;" ∈ wsX2_begin := by decide +kernel
theorem lk_X2_begin_21 : Cond.fieldLink RX2 21 "BackofficeAir$Station" "sending" "LBackofficeAir$Sending;" ∈ wsX2_begin := by decide +kernel
theorem lk_X2_begin_32 : Cond.fieldLink RX2 32 "BackofficeAir$Station" "wait" "I" ∈ wsX2_begin := by decide +kernel
def f_X2_begin (S : Mem) (i : Nat) (t : Int32) (v : Int32) : Mem := if f_J6_bitCount_0f7a4 (f_X0_partsOfFirst S i) < v then (f_X1_begin (ub S (6 + 5 * i) 2 ((-1))) i t (f_X0_partsOfFirst S i) (nI 0)) else (f_X1_begin (ub S (6 + 5 * i) 2 ((-1))) i t (f_X0_partsOfFirst S i) (nI 1))
theorem f_X2_begin_d (S : Mem) (i : Nat) (t : Int32) (v : Int32) : f_X2_begin S i t v = (if f_J6_bitCount_0f7a4 (f_X0_partsOfFirst S i) < v then (f_X1_begin (ub S (6 + 5 * i) 2 ((-1))) i t (f_X0_partsOfFirst S i) (nI 0)) else (f_X1_begin (ub S (6 + 5 * i) 2 ((-1))) i t (f_X0_partsOfFirst S i) (nI 1))) := rfl
set_option maxHeartbeats 1000000 in
set_option maxRecDepth 100000 in
theorem c_X2_begin (l : Launch) (D : va_G) (cI cS : ClassId) (G : Nat → Nat) (S : Mem) (sz : Nat) (i : Nat) (t : Int32) (v : Int32) (hi : i < 6) : Met l yX2_begin wsX2_begin ({ frames := 3, cells := 0, slots := 0, locals := 63 } : Room) (wPc 36 (cF cI cS G) D (tY cI cS) G S sz [.ref (G (6 + 5 * i)), .int t, .int v]) (mQv (f_X2_begin S i t v) 36 (cF cI cS G) D G sz) 0 0 (fA 36 G sz) := by
  refine x_met (cc := cX2_begin) (maxL := 4) (ret := none) (by decide) rfl (Nat.le_of_ble_eq_true rfl) ?_
  intro p e s m below meth c ls hx hb hr hml hts hown hlocks hsz hP hK hD hN hl hnm
  subst hsz
  have hown : s.vm.findClass RX2 = some m.cls := hown
  have hl : lv_has ls 4 [(0, .ref (G (6 + 5 * i))), (1, .int t), (2, .int v)] := hl
  have hq := f_X2_begin_d S i t v
  have hA : ∀ q : Nat, s.heap.size ≤ q → (fA 36 G s.heap.size) q := fun q h => Or.inr h
  have hS : va_S (fA 36 G s.heap.size) s.heap s.heap [] := va_S.rf
  refine lv_aload_n hx hb dX2_begin_0 rfl (lv_at hl 0 rfl) ?_
  refine x_get hx hb hts mm_X2_begin_X2 hown hK hP (6 + 5 * i) (by omega) (cF_st _ _) rfl 0 (by decide) (hts _ lk_X2_begin_12) rfl rfl dX2_begin_1 ?_
  refine x_pi (va_runV (As := []) (rest := []) ⟨hx, hb, hml, hown, hts⟩ (c_X0_partsOfFirst l D cI cS G S s.heap.size i (by omega)) (cwV 0 hts gX2_begin_X0_partsOfFirst rfl rfl rfl (by decide +kernel) ⟨Nat.le_of_ble_eq_true rfl, Nat.le_of_ble_eq_true rfl⟩) ⟨wPc_blind, va_recv hK hP (ci := 0) (q0 := 7 + 5 * i) rfl (WL_at (by omega) (cF_row _ _)), wPc_at hP hK hD hN⟩ rfl rfl hl.1 rfl (lv_room (Nat.le_of_ble_eq_true rfl)) dX2_begin_4 ⟨Nat.le_refl _, Nat.le_refl _⟩) hS hA (fun q h => h) (fun H locs hz hk hS => ?_)
  have hP := P_kept hP hk
  refine lv_istore_n (lv' := [(3, .int (f_X0_partsOfFirst S i)), (0, .ref (G (6 + 5 * i))), (1, .int t), (2, .int v)]) hx hb dX2_begin_7 rfl hl (by decide) rfl (fun ls hl => ?_)
  refine lv_aload_n hx hb dX2_begin_8 rfl (lv_at hl 1 rfl) ?_
  refine lv_iconst (v := (-1)) hx hb dX2_begin_9 (by decide) ?_
  refine x_put hx hb hts mm_X2_begin_X2 tyX2 tyX2_ok nmX2 hown hK hP hD hS (6 + 5 * i) (by omega) (cF_st _ _) rfl 4 (by decide) (hts _ lk_X2_begin_32) rfl rfl rfl rfl rfl (Nat.le_of_ble_eq_true rfl) 2 (cF_st _ _) dX2_begin_10 (fun H locs hP hS => ?_)
  refine lv_aload_n hx hb dX2_begin_13 rfl (lv_at hl 1 rfl) ?_
  refine x_get hx hb hts mm_X2_begin_X2 hown hK hP (6 + 5 * i) (by omega) (cF_st _ _) rfl 1 (by decide) (hts _ lk_X2_begin_21) rfl rfl dX2_begin_14 ?_
  refine lv_iload_n hx hb dX2_begin_17 rfl (lv_at hl 2 rfl) ?_
  refine lv_iload_n hx hb dX2_begin_18 rfl (lv_at hl 0 rfl) ?_
  refine lv_iload_n hx hb dX2_begin_19 rfl (lv_at hl 0 rfl) ?_
  refine x_pi (va_runS (As := [.int (f_X0_partsOfFirst S i)]) (rest := [.int (f_X0_partsOfFirst S i), .int t, .ref (G (8 + 5 * i))]) ⟨hx, hb, hml, hown, hts⟩ (c_J6_bitCount_0f7a4 l H.size (f_X0_partsOfFirst S i)) (va_cwS 1 hts gX2_begin_J6_bitCount_0f7a4 rfl rfl rfl (by decide +kernel) ⟨Nat.le_of_ble_eq_true rfl, Nat.le_of_ble_eq_true rfl⟩) ⟨sPc_blind, sPc_at hN⟩ rfl rfl hl.1 rfl (lv_room (Nat.le_of_ble_eq_true rfl)) dX2_begin_20 ⟨Nat.le_refl _, Nat.le_refl _⟩) hS hA (fun q h => h) (fun H locs hz hk hS => ?_)
  have hP := P_kept hP hk
  refine lv_iload_n hx hb dX2_begin_23 rfl (lv_at hl 3 rfl) ?_
  refine lv_icmp_lt (tgt := 31) hx hb dX2_begin_24 (by decide) (fun c_1 => ?_) (fun c_1 => ?_)
  · have hq := hq.trans (if_pos c_1)
    refine lv_iconst (v := nI 0) hx hb dX2_begin_31 (by decide) ?_
    refine x_mv (va_runV (As := [.int t, .int (f_X0_partsOfFirst S i), .int (nI 0)]) (rest := []) ⟨hx, hb, hml, hown, hts⟩ (c_X1_begin l D cI cS G (ub S (6 + 5 * i) 2 ((-1))) H.size i t (f_X0_partsOfFirst S i) (nI 0) (by omega) rfl rfl) (cwV 3 hts gX2_begin_X1_begin rfl rfl rfl (by decide +kernel) ⟨Nat.le_of_ble_eq_true rfl, Nat.le_of_ble_eq_true rfl⟩) ⟨wPc_blind, va_recv hK hP (ci := 1) (q0 := 8 + 5 * i) rfl (WL_at (by omega) (cF_sd _ _)), wPc_at hP hK hD hN⟩ rfl rfl hl.1 rfl (lv_room (Nat.le_of_ble_eq_true rfl)) dX2_begin_32 ⟨Nat.le_refl _, Nat.le_refl _⟩) hS (fA_sub (hD S) (fun q h => hA q (Nat.le_trans hS.1 h))) (fun H locs hz hk hP hS => ?_)
    exact x_ret_v hx hb hr hlocks hP hS dX2_begin_35 hq
  · have hq := hq.trans (if_neg c_1)
    refine lv_iconst (v := nI 1) hx hb dX2_begin_27 (by decide) ?_
    refine lv_goto (tgt := 32) hx hb dX2_begin_28 (by decide) ?_
    refine x_mv (va_runV (As := [.int t, .int (f_X0_partsOfFirst S i), .int (nI 1)]) (rest := []) ⟨hx, hb, hml, hown, hts⟩ (c_X1_begin l D cI cS G (ub S (6 + 5 * i) 2 ((-1))) H.size i t (f_X0_partsOfFirst S i) (nI 1) (by omega) rfl rfl) (cwV 3 hts gX2_begin_X1_begin rfl rfl rfl (by decide +kernel) ⟨Nat.le_of_ble_eq_true rfl, Nat.le_of_ble_eq_true rfl⟩) ⟨wPc_blind, va_recv hK hP (ci := 1) (q0 := 8 + 5 * i) rfl (WL_at (by omega) (cF_sd _ _)), wPc_at hP hK hD hN⟩ rfl rfl hl.1 rfl (lv_room (Nat.le_of_ble_eq_true rfl)) dX2_begin_32 ⟨Nat.le_refl _, Nat.le_refl _⟩) hS (fA_sub (hD S) (fun q h => hA q (Nat.le_trans hS.1 h))) (fun H locs hz hk hP hS => ?_)
    exact x_ret_v hx hb hr hlocks hP hS dX2_begin_35 hq

theorem mm_X2_end_X1 : ∀ w ∈ wsX10, w ∈ wsX2_end := by decide +kernel
theorem mm_X2_end_X2 : ∀ w ∈ wsX20, w ∈ wsX2_end := by decide +kernel
theorem lk_X2_end_21 : Cond.fieldLink RX2 21 "BackofficeAir$Station" "sending" "LBackofficeAir$Sending;" ∈ wsX2_end := by decide +kernel
theorem lk_X2_end_50 : Cond.fieldLink RX2 50 "BackofficeAir$Station" "slotsOfEnded" "I" ∈ wsX2_end := by decide +kernel
theorem nk_X2_70 : Cond.fieldLinkNest RX2 70 "BackofficeAir$Sending" "on" "Z" "BackofficeAir" ∈ nestW := by decide +kernel
def f_X2_end (S : Mem) (i : Nat) (t : Int32) : Mem := if f_X1_arrivedParts (ub (ub S (8 + 5 * i) 0 (nI 0)) (6 + 5 * i) 8 (((ub S (8 + 5 * i) 0 (nI 0)) (6 + 5 * i) 8) + (f_X1_slotsUpTo (ub S (8 + 5 * i) 0 (nI 0)) i t))) i = 0 then (f_X2_countFailure (ub (ub S (8 + 5 * i) 0 (nI 0)) (6 + 5 * i) 8 (((ub S (8 + 5 * i) 0 (nI 0)) (6 + 5 * i) 8) + (f_X1_slotsUpTo (ub S (8 + 5 * i) 0 (nI 0)) i t))) i) else (f_X2_countSuccess (ub (ub S (8 + 5 * i) 0 (nI 0)) (6 + 5 * i) 8 (((ub S (8 + 5 * i) 0 (nI 0)) (6 + 5 * i) 8) + (f_X1_slotsUpTo (ub S (8 + 5 * i) 0 (nI 0)) i t))) i (f_X1_arrivedParts (ub (ub S (8 + 5 * i) 0 (nI 0)) (6 + 5 * i) 8 (((ub S (8 + 5 * i) 0 (nI 0)) (6 + 5 * i) 8) + (f_X1_slotsUpTo (ub S (8 + 5 * i) 0 (nI 0)) i t))) i))
theorem f_X2_end_d (S : Mem) (i : Nat) (t : Int32) : f_X2_end S i t = (if f_X1_arrivedParts (ub (ub S (8 + 5 * i) 0 (nI 0)) (6 + 5 * i) 8 (((ub S (8 + 5 * i) 0 (nI 0)) (6 + 5 * i) 8) + (f_X1_slotsUpTo (ub S (8 + 5 * i) 0 (nI 0)) i t))) i = 0 then (f_X2_countFailure (ub (ub S (8 + 5 * i) 0 (nI 0)) (6 + 5 * i) 8 (((ub S (8 + 5 * i) 0 (nI 0)) (6 + 5 * i) 8) + (f_X1_slotsUpTo (ub S (8 + 5 * i) 0 (nI 0)) i t))) i) else (f_X2_countSuccess (ub (ub S (8 + 5 * i) 0 (nI 0)) (6 + 5 * i) 8 (((ub S (8 + 5 * i) 0 (nI 0)) (6 + 5 * i) 8) + (f_X1_slotsUpTo (ub S (8 + 5 * i) 0 (nI 0)) i t))) i (f_X1_arrivedParts (ub (ub S (8 + 5 * i) 0 (nI 0)) (6 + 5 * i) 8 (((ub S (8 + 5 * i) 0 (nI 0)) (6 + 5 * i) 8) + (f_X1_slotsUpTo (ub S (8 + 5 * i) 0 (nI 0)) i t))) i))) := rfl
set_option maxHeartbeats 1000000 in
set_option maxRecDepth 100000 in
theorem c_X2_end (l : Launch) (D : va_G) (cI cS : ClassId) (G : Nat → Nat) (S : Mem) (sz : Nat) (i : Nat) (t : Int32) (hi : i < 6) : Met l yX2_end wsX2_end ({ frames := 4, cells := 0, slots := 0, locals := 81 } : Room) (wPc 36 (cF cI cS G) D (tY cI cS) G S sz [.ref (G (6 + 5 * i)), .int t]) (mQv (f_X2_end S i t) 36 (cF cI cS G) D G sz) 0 0 (fA 36 G sz) := by
  refine x_met (cc := cX2_end) (maxL := 3) (ret := none) (by decide) rfl (Nat.le_of_ble_eq_true rfl) ?_
  intro p e s m below meth c ls hx hb hr hml hts hown hlocks hsz hP hK hD hN hl hnm
  subst hsz
  have hown : s.vm.findClass RX2 = some m.cls := hown
  have hl : lv_has ls 3 [(0, .ref (G (6 + 5 * i))), (1, .int t)] := hl
  have hq := f_X2_end_d S i t
  have hA : ∀ q : Nat, s.heap.size ≤ q → (fA 36 G s.heap.size) q := fun q h => Or.inr h
  have hS : va_S (fA 36 G s.heap.size) s.heap s.heap [] := va_S.rf
  refine lv_aload_n hx hb dX2_end_0 rfl (lv_at hl 0 rfl) ?_
  refine x_get hx hb hts mm_X2_end_X2 hown hK hP (6 + 5 * i) (by omega) (cF_st _ _) rfl 1 (by decide) (hts _ lk_X2_end_21) rfl rfl dX2_end_1 ?_
  refine lv_iconst (v := nI 0) hx hb dX2_end_4 (by decide) ?_
  refine x_putN hx hb hts mm_X2_end_X1 tyX1 tyX1_ok nmX1 hown hK hP hD hS (8 + 5 * i) (by omega) (cF_sd _ _) rfl 0 (by decide) (hN.use nk_X2_70 rfl) rfl rfl rfl rfl rfl (Nat.le_of_ble_eq_true rfl) 0 (cF_sd _ _) dX2_end_5 (fun H locs hP hS => ?_)
  refine lv_aload_n hx hb dX2_end_8 rfl (lv_at hl 0 rfl) ?_
  refine lv_dup hx hb dX2_end_9 rfl ?_
  refine x_get hx hb hts mm_X2_end_X2 hown hK hP (6 + 5 * i) (by omega) (cF_st _ _) rfl 10 (by decide) (hts _ lk_X2_end_50) rfl rfl dX2_end_10 ?_
  refine lv_aload_n hx hb dX2_end_13 rfl (lv_at hl 0 rfl) ?_
  refine x_get hx hb hts mm_X2_end_X2 hown hK hP (6 + 5 * i) (by omega) (cF_st _ _) rfl 1 (by decide) (hts _ lk_X2_end_21) rfl rfl dX2_end_14 ?_
  refine lv_iload_n hx hb dX2_end_17 rfl (lv_at hl 1 rfl) ?_
  refine x_pi (va_runV (As := [.int t]) (rest := [.int ((ub S (8 + 5 * i) 0 (nI 0)) (6 + 5 * i) 8), .ref (G (6 + 5 * i))]) ⟨hx, hb, hml, hown, hts⟩ (c_X1_slotsUpTo l D cI cS G (ub S (8 + 5 * i) 0 (nI 0)) H.size i t (by omega)) (cwV 1 hts gX2_end_X1_slotsUpTo rfl rfl rfl (by decide +kernel) ⟨Nat.le_of_ble_eq_true rfl, Nat.le_of_ble_eq_true rfl⟩) ⟨wPc_blind, va_recv hK hP (ci := 1) (q0 := 8 + 5 * i) rfl (WL_at (by omega) (cF_sd _ _)), wPc_at hP hK hD hN⟩ rfl rfl hl.1 rfl (lv_room (Nat.le_of_ble_eq_true rfl)) dX2_end_18 ⟨Nat.le_refl _, Nat.le_refl _⟩) hS hA (fun q h => h) (fun H locs hz hk hS => ?_)
  have hP := P_kept hP hk
  refine lv_iadd hx hb dX2_end_21 ?_
  refine x_put hx hb hts mm_X2_end_X2 tyX2 tyX2_ok nmX2 hown hK hP hD hS (6 + 5 * i) (by omega) (cF_st _ _) rfl 10 (by decide) (hts _ lk_X2_end_50) rfl rfl rfl rfl rfl (Nat.le_of_ble_eq_true rfl) 8 (cF_st _ _) dX2_end_22 (fun H locs hP hS => ?_)
  refine lv_aload_n hx hb dX2_end_25 rfl (lv_at hl 0 rfl) ?_
  refine x_get hx hb hts mm_X2_end_X2 hown hK hP (6 + 5 * i) (by omega) (cF_st _ _) rfl 1 (by decide) (hts _ lk_X2_end_21) rfl rfl dX2_end_26 ?_
  refine x_pi (va_runV (As := []) (rest := []) ⟨hx, hb, hml, hown, hts⟩ (c_X1_arrivedParts l D cI cS G (ub (ub S (8 + 5 * i) 0 (nI 0)) (6 + 5 * i) 8 (((ub S (8 + 5 * i) 0 (nI 0)) (6 + 5 * i) 8) + (f_X1_slotsUpTo (ub S (8 + 5 * i) 0 (nI 0)) i t))) H.size i (by omega)) (cwV 0 hts gX2_end_X1_arrivedParts rfl rfl rfl (by decide +kernel) ⟨Nat.le_of_ble_eq_true rfl, Nat.le_of_ble_eq_true rfl⟩) ⟨wPc_blind, va_recv hK hP (ci := 1) (q0 := 8 + 5 * i) rfl (WL_at (by omega) (cF_sd _ _)), wPc_at hP hK hD hN⟩ rfl rfl hl.1 rfl (lv_room (Nat.le_of_ble_eq_true rfl)) dX2_end_29 ⟨Nat.le_refl _, Nat.le_refl _⟩) hS hA (fun q h => h) (fun H locs hz hk hS => ?_)
  have hP := P_kept hP hk
  refine lv_istore_n (lv' := [(2, .int (f_X1_arrivedParts (ub (ub S (8 + 5 * i) 0 (nI 0)) (6 + 5 * i) 8 (((ub S (8 + 5 * i) 0 (nI 0)) (6 + 5 * i) 8) + (f_X1_slotsUpTo (ub S (8 + 5 * i) 0 (nI 0)) i t))) i)), (0, .ref (G (6 + 5 * i))), (1, .int t)]) hx hb dX2_end_32 rfl hl (by decide) rfl (fun ls hl => ?_)
  refine lv_iload_n hx hb dX2_end_33 rfl (lv_at hl 0 rfl) ?_
  refine lv_if_ne (tgt := 44) hx hb dX2_end_34 (by decide) (fun c_1 => ?_) (fun c_1 => ?_)
  · have hq := hq.trans (if_neg c_1)
    refine lv_aload_n hx hb dX2_end_44 rfl (lv_at hl 1 rfl) ?_
    refine lv_iload_n hx hb dX2_end_45 rfl (lv_at hl 0 rfl) ?_
    refine x_mv (va_runV (As := [.int (f_X1_arrivedParts (ub (ub S (8 + 5 * i) 0 (nI 0)) (6 + 5 * i) 8 (((ub S (8 + 5 * i) 0 (nI 0)) (6 + 5 * i) 8) + (f_X1_slotsUpTo (ub S (8 + 5 * i) 0 (nI 0)) i t))) i)]) (rest := []) ⟨hx, hb, hml, hown, hts⟩ (c_X2_countSuccess l D cI cS G (ub (ub S (8 + 5 * i) 0 (nI 0)) (6 + 5 * i) 8 (((ub S (8 + 5 * i) 0 (nI 0)) (6 + 5 * i) 8) + (f_X1_slotsUpTo (ub S (8 + 5 * i) 0 (nI 0)) i t))) H.size i (f_X1_arrivedParts (ub (ub S (8 + 5 * i) 0 (nI 0)) (6 + 5 * i) 8 (((ub S (8 + 5 * i) 0 (nI 0)) (6 + 5 * i) 8) + (f_X1_slotsUpTo (ub S (8 + 5 * i) 0 (nI 0)) i t))) i) (by omega)) (cwV 1 hts gX2_end_X2_countSuccess rfl rfl rfl (by decide +kernel) ⟨Nat.le_of_ble_eq_true rfl, Nat.le_of_ble_eq_true rfl⟩) ⟨wPc_blind, va_recv hK hP (ci := 2) (q0 := 6 + 5 * i) rfl (WL_at (by omega) (cF_st _ _)), wPc_at hP hK hD hN⟩ rfl rfl hl.1 rfl (lv_room (Nat.le_of_ble_eq_true rfl)) dX2_end_46 ⟨Nat.le_refl _, Nat.le_refl _⟩) hS (fA_sub (hD S) (fun q h => hA q (Nat.le_trans hS.1 h))) (fun H locs hz hk hP hS => ?_)
    exact x_ret_v hx hb hr hlocks hP hS dX2_end_49 hq
  · have hq := hq.trans (if_pos c_1)
    refine lv_aload_n hx hb dX2_end_37 rfl (lv_at hl 1 rfl) ?_
    refine x_mv (va_runV (As := []) (rest := []) ⟨hx, hb, hml, hown, hts⟩ (c_X2_countFailure l D cI cS G (ub (ub S (8 + 5 * i) 0 (nI 0)) (6 + 5 * i) 8 (((ub S (8 + 5 * i) 0 (nI 0)) (6 + 5 * i) 8) + (f_X1_slotsUpTo (ub S (8 + 5 * i) 0 (nI 0)) i t))) H.size i (by omega)) (cwV 0 hts gX2_end_X2_countFailure rfl rfl rfl (by decide +kernel) ⟨Nat.le_of_ble_eq_true rfl, Nat.le_of_ble_eq_true rfl⟩) ⟨wPc_blind, va_recv hK hP (ci := 2) (q0 := 6 + 5 * i) rfl (WL_at (by omega) (cF_st _ _)), wPc_at hP hK hD hN⟩ rfl rfl hl.1 rfl (lv_room (Nat.le_of_ble_eq_true rfl)) dX2_end_38 ⟨Nat.le_refl _, Nat.le_refl _⟩) hS (fA_sub (hD S) (fun q h => hA q (Nat.le_trans hS.1 h))) (fun H locs hz hk hP hS => ?_)
    refine lv_goto (tgt := 49) hx hb dX2_end_41 (by decide) ?_
    exact x_ret_v hx hb hr hlocks hP hS dX2_end_49 hq

theorem mm_X5_stationAt_X5 : ∀ w ∈ wsX50, w ∈ wsX5_stationAt := by decide +kernel
theorem lk_X5_stationAt_11 : Cond.fieldLink RX5 11 "BackofficeAir" "stations" "[LBackofficeAir$Station;" ∈ wsX5_stationAt := by decide +kernel
set_option maxHeartbeats 1000000 in
set_option maxRecDepth 100000 in
theorem c_X5_stationAt (l : Launch) (D : va_G) (cI cS : ClassId) (G : Nat → Nat) (S : Mem) (sz : Nat) (s1 : Nat) (h1 : s1 < 6) : Met l yX5_stationAt wsX5_stationAt ({ frames := 1, cells := 0, slots := 0, locals := 20 } : Room) (wPc 36 (cF cI cS G) D (tY cI cS) G S sz [.ref (G 0), .int (nI s1)]) (pQr (G (6 + 5 * s1)) sz) 0 0 (fun q => sz ≤ q) := by
  refine x_met (cc := cX5_stationAt) (maxL := 3) (ret := (some (.object "BackofficeAir$Station"))) (by decide) rfl (Nat.le_of_ble_eq_true rfl) ?_
  intro p e s m below meth c ls hx hb hr hml hts hown hlocks hsz hP hK hD hN hl hnm
  subst hsz
  have hown : s.vm.findClass RX5 = some m.cls := hown
  have hl : lv_has ls 3 [(0, .ref (G 0)), (1, .int (nI s1))] := hl
  have hA : ∀ q : Nat, s.heap.size ≤ q → (fun q => s.heap.size ≤ q) q := fun q h => h
  have hS : va_S (fun q => s.heap.size ≤ q) s.heap s.heap [] := va_S.rf
  refine lv_iload_n hx hb dX5_stationAt_0 rfl (lv_at hl 1 rfl) ?_
  refine lv_if_lt (tgt := 22) hx hb dX5_stationAt_1 (by decide) (fun c_1 => absurd c_1 (nI_pos (by omega))) (fun _ => ?_)
  refine lv_iload_n hx hb dX5_stationAt_4 rfl (lv_at hl 1 rfl) ?_
  refine lv_aload_n hx hb dX5_stationAt_5 rfl (lv_at hl 0 rfl) ?_
  refine x_get hx hb hts mm_X5_stationAt_X5 hown hK hP (0) (by decide) (cF_air _) rfl 0 (by decide) (hts _ lk_X5_stationAt_11) rfl rfl dX5_stationAt_6 ?_
  refine x_alen hx hb hK hP 1 1 (by decide) (cF_sts _) rfl dX5_stationAt_9 ?_
  refine lv_icmp_ge (tgt := 22) hx hb dX5_stationAt_10 (by decide) (fun c_2 => absurd c_2 (nI_ge h1 (by omega))) (fun _ => ?_)
  refine lv_aload_n hx hb dX5_stationAt_13 rfl (lv_at hl 0 rfl) ?_
  refine x_get hx hb hts mm_X5_stationAt_X5 hown hK hP (0) (by decide) (cF_air _) rfl 0 (by decide) (hts _ lk_X5_stationAt_11) rfl rfl dX5_stationAt_14 ?_
  refine lv_iload_n hx hb dX5_stationAt_17 rfl (lv_at hl 1 rfl) ?_
  refine x_aald hx hb hK hP 1 1 (by decide) (cF_sts _) rfl s1 (by omega) (by decide) (G (6 + 5 * s1)) rfl dX5_stationAt_18 ?_
  refine lv_goto (tgt := 23) hx hb dX5_stationAt_19 (by decide) ?_
  refine lv_astore_n (lv' := [(2, .ref (G (6 + 5 * s1))), (0, .ref (G 0)), (1, .int (nI s1))]) hx hb dX5_stationAt_23 rfl hl (by decide) rfl (fun ls hl => ?_)
  refine lv_aload_n hx hb dX5_stationAt_24 rfl (lv_at hl 0 rfl) ?_
  refine lv_ifnonnull (tgt := 38) hx hb dX5_stationAt_25 (by decide) ?_
  refine lv_aload_n hx hb dX5_stationAt_38 rfl (lv_at hl 0 rfl) ?_
  exact x_ret_r hx hb hr hlocks hS dX5_stationAt_39 rfl

theorem mm_X5_heardInSlotBefore_X2 : ∀ w ∈ wsX20, w ∈ wsX5_heardInSlotBefore := by decide +kernel
theorem mm_X5_heardInSlotBefore_X5 : ∀ w ∈ wsX50, w ∈ wsX5_heardInSlotBefore := by decide +kernel
theorem lk_X5_heardInSlotBefore_18 : Cond.fieldLink RX5 18 "BackofficeAir" "strengths" "LBackofficeAir$Strengths;" ∈ wsX5_heardInSlotBefore := by decide +kernel
theorem lk_X5_heardInSlotBefore_33 : Cond.fieldLink RX5 33 "BackofficeAir" "slot" "I" ∈ wsX5_heardInSlotBefore := by decide +kernel
theorem nk_X5_172 : Cond.fieldLinkNest RX5 172 "BackofficeAir$Station" "lastSlotSent" "I" "BackofficeAir" ∈ nestW := by decide +kernel
def f_X5_heardInSlotBefore_L1 (S : Mem) (s1 : Nat) : Nat → Nat → Int32
  | 0, i => nI 0
  | n + 1, i => if f_X3_between S s1 i ≤ 0 then (f_X5_heardInSlotBefore_L1 S s1 n (i + 1)) else (if S (6 + 5 * i) 9 = (S 0 1) - (nI 1) then (nI 1) else (f_X5_heardInSlotBefore_L1 S s1 n (i + 1)))
theorem f_X5_heardInSlotBefore_L1_z (S : Mem) (s1 : Nat) (i : Nat) : f_X5_heardInSlotBefore_L1 S s1 0 i = (nI 0) := rfl
theorem f_X5_heardInSlotBefore_L1_s (S : Mem) (s1 : Nat) (n : Nat) (i : Nat) : f_X5_heardInSlotBefore_L1 S s1 (n + 1) i = (if f_X3_between S s1 i ≤ 0 then (f_X5_heardInSlotBefore_L1 S s1 n (i + 1)) else (if S (6 + 5 * i) 9 = (S 0 1) - (nI 1) then (nI 1) else (f_X5_heardInSlotBefore_L1 S s1 n (i + 1)))) := rfl
def f_X5_heardInSlotBefore (S : Mem) (s1 : Nat) : Int32 := f_X5_heardInSlotBefore_L1 S s1 6 0
theorem f_X5_heardInSlotBefore_d (S : Mem) (s1 : Nat) : f_X5_heardInSlotBefore S s1 = (f_X5_heardInSlotBefore_L1 S s1 6 0) := rfl
set_option maxHeartbeats 1000000 in
set_option maxRecDepth 100000 in
theorem c_X5_heardInSlotBefore (l : Launch) (D : va_G) (cI cS : ClassId) (G : Nat → Nat) (S : Mem) (sz : Nat) (s1 : Nat) (h1 : s1 < 6) : Met l yX5_heardInSlotBefore wsX5_heardInSlotBefore ({ frames := 4, cells := 0, slots := 0, locals := 84 } : Room) (wPc 36 (cF cI cS G) D (tY cI cS) G S sz [.ref (G 0), .int (nI s1)]) (pQi (f_X5_heardInSlotBefore S s1) sz) 0 0 (fun q => sz ≤ q) := by
  refine x_met (cc := cX5_heardInSlotBefore) (maxL := 3) (ret := (some .boolean)) (by decide) rfl (Nat.le_of_ble_eq_true rfl) ?_
  intro p e s m below meth c ls hx hb hr hml hts hown hlocks hsz hP hK hD hN hl hnm
  subst hsz
  have hown : s.vm.findClass RX5 = some m.cls := hown
  have hl : lv_has ls 3 [(0, .ref (G 0)), (1, .int (nI s1))] := hl
  have hq := f_X5_heardInSlotBefore_d S s1
  have hA : ∀ q : Nat, s.heap.size ≤ q → (fun q => s.heap.size ≤ q) q := fun q h => h
  have hS : va_S (fun q => s.heap.size ≤ q) s.heap s.heap [] := va_S.rf
  refine lv_iconst (v := nI 0) hx hb dX5_heardInSlotBefore_0 (by decide) ?_
  refine lv_istore_n (lv' := [(2, .int (nI 0)), (0, .ref (G 0)), (1, .int (nI s1))]) hx hb dX5_heardInSlotBefore_1 rfl hl (by decide) rfl (fun ls hl => ?_)
  have L1 : ∀ (n : Nat) (i : Nat) (H : Heap) (locs : List Loc) (ls : Array Slot), i + n = 6 → f_X5_heardInSlotBefore S s1 = f_X5_heardInSlotBefore_L1 S s1 n i → va_P D vwCl (WL 36 G (cF cI cS G) S) H → va_S (fun q => s.heap.size ≤ q) s.heap H locs → lv_has ls 3 [(2, .int (nI i)), (0, .ref (G 0)), (1, .int (nI s1))] → W p l e ({ frames := 4, cells := 0, slots := 0, locals := 84 } : Room) s m ([.ref (G 0), .int (nI s1)] : List Value).toArray below meth c H locs 0 0 (MQ below (pQi (f_X5_heardInSlotBefore S s1) s.heap.size) ([.ref (G 0), .int (nI s1)] : List Value).toArray s 0 0 (fun q => s.heap.size ≤ q)) (F0 m 2 ls []) := by
    intro n
    induction n with
    | zero =>
      intro i H locs ls hin hq hP hS hl
      have hq := hq.trans (f_X5_heardInSlotBefore_L1_z _ _ _)
      refine lv_iload_n hx hb dX5_heardInSlotBefore_2 rfl (lv_at hl 0 rfl) ?_
      refine lv_bipush (v := nI 6) hx hb dX5_heardInSlotBefore_3 (by decide) ?_
      refine lv_icmp_ge (tgt := 45) hx hb dX5_heardInSlotBefore_5 (by decide) (fun _ => ?_) (fun c_1 => absurd (nI_le (by omega) (by omega)) c_1) 
      refine lv_iconst (v := nI 0) hx hb dX5_heardInSlotBefore_45 (by decide) ?_
      exact x_ret_p hx hb hr rfl hlocks hS dX5_heardInSlotBefore_46 hq
    | succ n ih =>
      intro i H locs ls hin hq hP hS hl
      have hq := hq.trans (f_X5_heardInSlotBefore_L1_s _ _ _ _)
      refine lv_iload_n hx hb dX5_heardInSlotBefore_2 rfl (lv_at hl 0 rfl) ?_
      refine lv_bipush (v := nI 6) hx hb dX5_heardInSlotBefore_3 (by decide) ?_
      refine lv_icmp_ge (tgt := 45) hx hb dX5_heardInSlotBefore_5 (by decide) (fun c_2 => absurd c_2 (nI_ge (by omega) (by omega))) (fun _ => ?_)
      refine lv_aload_n hx hb dX5_heardInSlotBefore_8 rfl (lv_at hl 1 rfl) ?_
      refine x_get hx hb hts mm_X5_heardInSlotBefore_X5 hown hK hP (0) (by decide) (cF_air _) rfl 1 (by decide) (hts _ lk_X5_heardInSlotBefore_18) rfl rfl dX5_heardInSlotBefore_9 ?_
      refine lv_iload_n hx hb dX5_heardInSlotBefore_12 rfl (lv_at hl 2 rfl) ?_
      refine lv_iload_n hx hb dX5_heardInSlotBefore_13 rfl (lv_at hl 0 rfl) ?_
      refine x_pi (va_runV (As := [.int (nI s1), .int (nI i)]) (rest := []) ⟨hx, hb, hml, hown, hts⟩ (c_X3_between l D cI cS G S H.size s1 i (by omega) (by omega)) (cwV 2 hts gX5_heardInSlotBefore_X3_between rfl rfl rfl (by decide +kernel) ⟨Nat.le_of_ble_eq_true rfl, Nat.le_of_ble_eq_true rfl⟩) ⟨wPc_blind, va_recv hK hP (ci := 3) (q0 := 2) rfl (WL_at (by decide) (cF_str _)), wPc_at hP hK hD hN⟩ rfl rfl hl.1 rfl (lv_room (Nat.le_of_ble_eq_true rfl)) dX5_heardInSlotBefore_14 ⟨Nat.le_refl _, Nat.le_refl _⟩) hS hA (fun q h => h) (fun H locs hz hk hS => ?_)
      have hP := P_kept hP hk
      refine lv_if_le (tgt := 39) hx hb dX5_heardInSlotBefore_17 (by decide) (fun c_3 => ?_) (fun c_3 => ?_)
      · have hq := hq.trans (if_pos c_3)
        refine lv_iinc (v := nI (i + 1)) (lv' := [(2, .int (nI (i + 1))), (0, .ref (G 0)), (1, .int (nI s1))]) hx hb dX5_heardInSlotBefore_39 hl (k := 0) rfl (nI_add _ _) (by decide) rfl (fun ls hl => ?_)
        refine lv_goto (tgt := 2) hx hb dX5_heardInSlotBefore_42 (by decide) ?_
        exact ih (i + 1) H locs ls (by omega) hq hP hS (lv_sub hl [0, 1, 2] rfl)
      · have hq := hq.trans (if_neg c_3)
        refine lv_aload_n hx hb dX5_heardInSlotBefore_20 rfl (lv_at hl 1 rfl) ?_
        refine lv_iload_n hx hb dX5_heardInSlotBefore_21 rfl (lv_at hl 0 rfl) ?_
        refine x_pr (va_runV (As := [.int (nI i)]) (rest := []) ⟨hx, hb, hml, hown, hts⟩ (c_X5_stationAt l D cI cS G S H.size i (by omega)) (cwV 1 hts gX5_heardInSlotBefore_X5_stationAt rfl rfl rfl (by decide +kernel) ⟨Nat.le_of_ble_eq_true rfl, Nat.le_of_ble_eq_true rfl⟩) ⟨wPc_blind, va_recv hK hP (ci := 5) (q0 := 0) rfl (WL_at (by decide) (cF_air _)), wPc_at hP hK hD hN⟩ rfl rfl hl.1 rfl (lv_room (Nat.le_of_ble_eq_true rfl)) dX5_heardInSlotBefore_22 ⟨Nat.le_refl _, Nat.le_refl _⟩) hS hA (fun q h => h) (fun H locs hz hk hS => ?_)
        have hP := P_kept hP hk
        refine x_getN hx hb hts mm_X5_heardInSlotBefore_X2 hown hK hP (6 + 5 * i) (by omega) (cF_st _ _) rfl 11 (by decide) (hN.use nk_X5_172 rfl) rfl rfl dX5_heardInSlotBefore_25 ?_
        refine lv_aload_n hx hb dX5_heardInSlotBefore_28 rfl (lv_at hl 1 rfl) ?_
        refine x_get hx hb hts mm_X5_heardInSlotBefore_X5 hown hK hP (0) (by decide) (cF_air _) rfl 4 (by decide) (hts _ lk_X5_heardInSlotBefore_33) rfl rfl dX5_heardInSlotBefore_29 ?_
        refine lv_iconst (v := nI 1) hx hb dX5_heardInSlotBefore_32 (by decide) ?_
        refine lv_isub hx hb dX5_heardInSlotBefore_33 ?_
        refine lv_icmp_ne (tgt := 39) hx hb dX5_heardInSlotBefore_34 (by decide) (fun c_4 => ?_) (fun c_4 => ?_)
        · have hq := hq.trans (if_neg c_4)
          refine lv_iinc (v := nI (i + 1)) (lv' := [(2, .int (nI (i + 1))), (0, .ref (G 0)), (1, .int (nI s1))]) hx hb dX5_heardInSlotBefore_39 hl (k := 0) rfl (nI_add _ _) (by decide) rfl (fun ls hl => ?_)
          refine lv_goto (tgt := 2) hx hb dX5_heardInSlotBefore_42 (by decide) ?_
          exact ih (i + 1) H locs ls (by omega) hq hP hS (lv_sub hl [0, 1, 2] rfl)
        · have hq := hq.trans (if_pos c_4)
          refine lv_iconst (v := nI 1) hx hb dX5_heardInSlotBefore_37 (by decide) ?_
          exact x_ret_p hx hb hr rfl hlocks hS dX5_heardInSlotBefore_38 hq
  exact L1 6 0 _ _ _ (by omega) hq hP hS (lv_sub hl [0, 1, 2] rfl)

theorem mm_X5_isBrokenAt_X1 : ∀ w ∈ wsX10, w ∈ wsX5_isBrokenAt := by decide +kernel
theorem mm_X5_isBrokenAt_X2 : ∀ w ∈ wsX20, w ∈ wsX5_isBrokenAt := by decide +kernel
theorem mm_X5_isBrokenAt_X5 : ∀ w ∈ wsX50, w ∈ wsX5_isBrokenAt := by decide +kernel
theorem lk_X5_isBrokenAt_18 : Cond.fieldLink RX5 18 "BackofficeAir" "strengths" "LBackofficeAir$Strengths;" ∈ wsX5_isBrokenAt := by decide +kernel
theorem nk_X5_108 : Cond.fieldLinkNest RX5 108 "BackofficeAir$Station" "sending" "LBackofficeAir$Sending;" "BackofficeAir" ∈ nestW := by decide +kernel
theorem nk_X5_112 : Cond.fieldLinkNest RX5 112 "BackofficeAir$Sending" "on" "Z" "BackofficeAir" ∈ nestW := by decide +kernel
def f_X5_isBrokenAt_L1 (S : Mem) (g : Nat) (s1 : Nat) : Nat → Nat → Int32
  | 0, i => nI 0
  | n + 1, i => if nI i = nI s1 then (f_X5_isBrokenAt_L1 S g s1 n (i + 1)) else (if f_X3_between S g i ≤ 0 then (f_X5_isBrokenAt_L1 S g s1 n (i + 1)) else (if S (8 + 5 * i) 0 = 0 then (f_X5_isBrokenAt_L1 S g s1 n (i + 1)) else (if f_X3_between S g i ≤ (f_X3_between S g s1) - (nI 3) then (f_X5_isBrokenAt_L1 S g s1 n (i + 1)) else (nI 1))))
theorem f_X5_isBrokenAt_L1_z (S : Mem) (g : Nat) (s1 : Nat) (i : Nat) : f_X5_isBrokenAt_L1 S g s1 0 i = (nI 0) := rfl
theorem f_X5_isBrokenAt_L1_s (S : Mem) (g : Nat) (s1 : Nat) (n : Nat) (i : Nat) : f_X5_isBrokenAt_L1 S g s1 (n + 1) i = (if nI i = nI s1 then (f_X5_isBrokenAt_L1 S g s1 n (i + 1)) else (if f_X3_between S g i ≤ 0 then (f_X5_isBrokenAt_L1 S g s1 n (i + 1)) else (if S (8 + 5 * i) 0 = 0 then (f_X5_isBrokenAt_L1 S g s1 n (i + 1)) else (if f_X3_between S g i ≤ (f_X3_between S g s1) - (nI 3) then (f_X5_isBrokenAt_L1 S g s1 n (i + 1)) else (nI 1))))) := rfl
def f_X5_isBrokenAt (S : Mem) (g : Nat) (s1 : Nat) : Int32 := if f_X3_between S g s1 = 0 then (nI 1) else (if S (8 + 5 * g) 0 = 0 then (f_X5_isBrokenAt_L1 S g s1 6 0) else (nI 1))
theorem f_X5_isBrokenAt_d (S : Mem) (g : Nat) (s1 : Nat) : f_X5_isBrokenAt S g s1 = (if f_X3_between S g s1 = 0 then (nI 1) else (if S (8 + 5 * g) 0 = 0 then (f_X5_isBrokenAt_L1 S g s1 6 0) else (nI 1))) := rfl
set_option maxHeartbeats 1000000 in
set_option maxRecDepth 100000 in
theorem c_X5_isBrokenAt (l : Launch) (D : va_G) (cI cS : ClassId) (G : Nat → Nat) (S : Mem) (sz : Nat) (g : Nat) (s1 : Nat) (hg : g < 6) (h1 : s1 < 6) : Met l yX5_isBrokenAt wsX5_isBrokenAt ({ frames := 4, cells := 0, slots := 0, locals := 84 } : Room) (wPc 36 (cF cI cS G) D (tY cI cS) G S sz [.ref (G 0), .int (nI g), .int (nI s1)]) (pQi (f_X5_isBrokenAt S g s1) sz) 0 0 (fun q => sz ≤ q) := by
  refine x_met (cc := cX5_isBrokenAt) (maxL := 7) (ret := (some .boolean)) (by decide) rfl (Nat.le_of_ble_eq_true rfl) ?_
  intro p e s m below meth c ls hx hb hr hml hts hown hlocks hsz hP hK hD hN hl hnm
  subst hsz
  have hown : s.vm.findClass RX5 = some m.cls := hown
  have hl : lv_has ls 7 [(0, .ref (G 0)), (1, .int (nI g)), (2, .int (nI s1))] := hl
  have hq := f_X5_isBrokenAt_d S g s1
  have hA : ∀ q : Nat, s.heap.size ≤ q → (fun q => s.heap.size ≤ q) q := fun q h => h
  have hS : va_S (fun q => s.heap.size ≤ q) s.heap s.heap [] := va_S.rf
  refine lv_aload_n hx hb dX5_isBrokenAt_0 rfl (lv_at hl 0 rfl) ?_
  refine x_get hx hb hts mm_X5_isBrokenAt_X5 hown hK hP (0) (by decide) (cF_air _) rfl 1 (by decide) (hts _ lk_X5_isBrokenAt_18) rfl rfl dX5_isBrokenAt_1 ?_
  refine lv_iload_n hx hb dX5_isBrokenAt_4 rfl (lv_at hl 1 rfl) ?_
  refine lv_iload_n hx hb dX5_isBrokenAt_5 rfl (lv_at hl 2 rfl) ?_
  refine x_pi (va_runV (As := [.int (nI g), .int (nI s1)]) (rest := []) ⟨hx, hb, hml, hown, hts⟩ (c_X3_between l D cI cS G S s.heap.size g s1 (by omega) (by omega)) (cwV 2 hts gX5_isBrokenAt_X3_between rfl rfl rfl (by decide +kernel) ⟨Nat.le_of_ble_eq_true rfl, Nat.le_of_ble_eq_true rfl⟩) ⟨wPc_blind, va_recv hK hP (ci := 3) (q0 := 2) rfl (WL_at (by decide) (cF_str _)), wPc_at hP hK hD hN⟩ rfl rfl hl.1 rfl (lv_room (Nat.le_of_ble_eq_true rfl)) dX5_isBrokenAt_6 ⟨Nat.le_refl _, Nat.le_refl _⟩) hS hA (fun q h => h) (fun H locs hz hk hS => ?_)
  have hP := P_kept hP hk
  refine lv_istore_n (lv' := [(3, .int (f_X3_between S g s1)), (0, .ref (G 0)), (1, .int (nI g)), (2, .int (nI s1))]) hx hb dX5_isBrokenAt_9 rfl hl (by decide) rfl (fun ls hl => ?_)
  refine lv_iload_n hx hb dX5_isBrokenAt_10 rfl (lv_at hl 0 rfl) ?_
  refine lv_if_eq (tgt := 28) hx hb dX5_isBrokenAt_11 (by decide) (fun c_1 => ?_) (fun c_1 => ?_)
  · have hq := hq.trans (if_pos c_1)
    refine lv_iconst (v := nI 1) hx hb dX5_isBrokenAt_28 (by decide) ?_
    exact x_ret_p hx hb hr rfl hlocks hS dX5_isBrokenAt_29 hq
  · have hq := hq.trans (if_neg c_1)
    refine lv_aload_n hx hb dX5_isBrokenAt_14 rfl (lv_at hl 1 rfl) ?_
    refine lv_iload_n hx hb dX5_isBrokenAt_15 rfl (lv_at hl 2 rfl) ?_
    refine x_pr (va_runV (As := [.int (nI g)]) (rest := []) ⟨hx, hb, hml, hown, hts⟩ (c_X5_stationAt l D cI cS G S H.size g (by omega)) (cwV 1 hts gX5_isBrokenAt_X5_stationAt rfl rfl rfl (by decide +kernel) ⟨Nat.le_of_ble_eq_true rfl, Nat.le_of_ble_eq_true rfl⟩) ⟨wPc_blind, va_recv hK hP (ci := 5) (q0 := 0) rfl (WL_at (by decide) (cF_air _)), wPc_at hP hK hD hN⟩ rfl rfl hl.1 rfl (lv_room (Nat.le_of_ble_eq_true rfl)) dX5_isBrokenAt_16 ⟨Nat.le_refl _, Nat.le_refl _⟩) hS hA (fun q h => h) (fun H locs hz hk hS => ?_)
    have hP := P_kept hP hk
    refine x_getN hx hb hts mm_X5_isBrokenAt_X2 hown hK hP (6 + 5 * g) (by omega) (cF_st _ _) rfl 1 (by decide) (hN.use nk_X5_108 rfl) rfl rfl dX5_isBrokenAt_19 ?_
    refine x_getN hx hb hts mm_X5_isBrokenAt_X1 hown hK hP (8 + 5 * g) (by omega) (cF_sd _ _) rfl 0 (by decide) (hN.use nk_X5_112 rfl) rfl rfl dX5_isBrokenAt_22 ?_
    refine lv_if_eq (tgt := 30) hx hb dX5_isBrokenAt_25 (by decide) (fun c_2 => ?_) (fun c_2 => ?_)
    · have hq := hq.trans (if_pos c_2)
      refine lv_iconst (v := nI 0) hx hb dX5_isBrokenAt_30 (by decide) ?_
      refine lv_istore (lv' := [(4, .int (nI 0)), (3, .int (f_X3_between S g s1)), (0, .ref (G 0)), (1, .int (nI g)), (2, .int (nI s1))]) hx hb dX5_isBrokenAt_31 hl (by decide) rfl (fun ls hl => ?_)
      have L1 : ∀ (n : Nat) (i : Nat) (H : Heap) (locs : List Loc) (ls : Array Slot), i + n = 6 → f_X5_isBrokenAt S g s1 = f_X5_isBrokenAt_L1 S g s1 n i → va_P D vwCl (WL 36 G (cF cI cS G) S) H → va_S (fun q => s.heap.size ≤ q) s.heap H locs → lv_has ls 7 [(4, .int (nI i)), (3, .int (f_X3_between S g s1)), (0, .ref (G 0)), (1, .int (nI g)), (2, .int (nI s1))] → W p l e ({ frames := 4, cells := 0, slots := 0, locals := 84 } : Room) s m ([.ref (G 0), .int (nI g), .int (nI s1)] : List Value).toArray below meth c H locs 0 0 (MQ below (pQi (f_X5_isBrokenAt S g s1) s.heap.size) ([.ref (G 0), .int (nI g), .int (nI s1)] : List Value).toArray s 0 0 (fun q => s.heap.size ≤ q)) (F0 m 33 ls []) := by
        intro n
        induction n with
        | zero =>
          intro i H locs ls hin hq hP hS hl
          have hq := hq.trans (f_X5_isBrokenAt_L1_z _ _ _ _)
          refine lv_iload hx hb dX5_isBrokenAt_33 (lv_at hl 0 rfl) ?_
          refine lv_bipush (v := nI 6) hx hb dX5_isBrokenAt_35 (by decide) ?_
          refine lv_icmp_ge (tgt := 106) hx hb dX5_isBrokenAt_37 (by decide) (fun _ => ?_) (fun c_3 => absurd (nI_le (by omega) (by omega)) c_3) 
          refine lv_iconst (v := nI 0) hx hb dX5_isBrokenAt_106 (by decide) ?_
          exact x_ret_p hx hb hr rfl hlocks hS dX5_isBrokenAt_107 hq
        | succ n ih =>
          intro i H locs ls hin hq hP hS hl
          have hq := hq.trans (f_X5_isBrokenAt_L1_s _ _ _ _ _)
          refine lv_iload hx hb dX5_isBrokenAt_33 (lv_at hl 0 rfl) ?_
          refine lv_bipush (v := nI 6) hx hb dX5_isBrokenAt_35 (by decide) ?_
          refine lv_icmp_ge (tgt := 106) hx hb dX5_isBrokenAt_37 (by decide) (fun c_4 => absurd c_4 (nI_ge (by omega) (by omega))) (fun _ => ?_)
          refine lv_aload_n hx hb dX5_isBrokenAt_40 rfl (lv_at hl 2 rfl) ?_
          refine x_get hx hb hts mm_X5_isBrokenAt_X5 hown hK hP (0) (by decide) (cF_air _) rfl 1 (by decide) (hts _ lk_X5_isBrokenAt_18) rfl rfl dX5_isBrokenAt_41 ?_
          refine lv_iload_n hx hb dX5_isBrokenAt_44 rfl (lv_at hl 3 rfl) ?_
          refine lv_iload hx hb dX5_isBrokenAt_45 (lv_at hl 0 rfl) ?_
          refine x_pi (va_runV (As := [.int (nI g), .int (nI i)]) (rest := []) ⟨hx, hb, hml, hown, hts⟩ (c_X3_between l D cI cS G S H.size g i (by omega) (by omega)) (cwV 2 hts gX5_isBrokenAt_X3_between rfl rfl rfl (by decide +kernel) ⟨Nat.le_of_ble_eq_true rfl, Nat.le_of_ble_eq_true rfl⟩) ⟨wPc_blind, va_recv hK hP (ci := 3) (q0 := 2) rfl (WL_at (by decide) (cF_str _)), wPc_at hP hK hD hN⟩ rfl rfl hl.1 rfl (lv_room (Nat.le_of_ble_eq_true rfl)) dX5_isBrokenAt_47 ⟨Nat.le_refl _, Nat.le_refl _⟩) hS hA (fun q h => h) (fun H locs hz hk hS => ?_)
          have hP := P_kept hP hk
          refine lv_istore (lv' := [(5, .int (f_X3_between S g i)), (4, .int (nI i)), (3, .int (f_X3_between S g s1)), (0, .ref (G 0)), (1, .int (nI g)), (2, .int (nI s1))]) hx hb dX5_isBrokenAt_50 hl (by decide) rfl (fun ls hl => ?_)
          refine lv_iload hx hb dX5_isBrokenAt_52 (lv_at hl 1 rfl) ?_
          refine lv_iload_n hx hb dX5_isBrokenAt_54 rfl (lv_at hl 5 rfl) ?_
          refine lv_icmp_eq (tgt := 82) hx hb dX5_isBrokenAt_55 (by decide) (fun c_5 => ?_) (fun c_5 => ?_)
          · have hq := hq.trans (if_pos c_5)
            refine lv_iconst (v := nI 0) hx hb dX5_isBrokenAt_82 (by decide) ?_
            refine lv_istore (lv' := [(6, .int (nI 0)), (5, .int (f_X3_between S g i)), (4, .int (nI i)), (3, .int (f_X3_between S g s1)), (0, .ref (G 0)), (1, .int (nI g)), (2, .int (nI s1))]) hx hb dX5_isBrokenAt_83 hl (by decide) rfl (fun ls hl => ?_)
            refine lv_iload hx hb dX5_isBrokenAt_85 (lv_at hl 0 rfl) ?_
            refine lv_if_eq (tgt := 100) hx hb dX5_isBrokenAt_87 (by decide) (fun _ => ?_) (fun c_6 => absurd (by decide) c_6) 
            refine lv_iinc (v := nI (i + 1)) (lv' := [(4, .int (nI (i + 1))), (6, .int (nI 0)), (5, .int (f_X3_between S g i)), (3, .int (f_X3_between S g s1)), (0, .ref (G 0)), (1, .int (nI g)), (2, .int (nI s1))]) hx hb dX5_isBrokenAt_100 hl (k := 2) rfl (nI_add _ _) (by decide) rfl (fun ls hl => ?_)
            refine lv_goto (tgt := 33) hx hb dX5_isBrokenAt_103 (by decide) ?_
            exact ih (i + 1) H locs ls (by omega) hq hP hS (lv_sub hl [0, 3, 4, 5, 6] rfl)
          · have hq := hq.trans (if_neg c_5)
            refine lv_iload hx hb dX5_isBrokenAt_58 (lv_at hl 0 rfl) ?_
            refine lv_if_le (tgt := 82) hx hb dX5_isBrokenAt_60 (by decide) (fun c_7 => ?_) (fun c_7 => ?_)
            · have hq := hq.trans (if_pos c_7)
              refine lv_iconst (v := nI 0) hx hb dX5_isBrokenAt_82 (by decide) ?_
              refine lv_istore (lv' := [(6, .int (nI 0)), (5, .int (f_X3_between S g i)), (4, .int (nI i)), (3, .int (f_X3_between S g s1)), (0, .ref (G 0)), (1, .int (nI g)), (2, .int (nI s1))]) hx hb dX5_isBrokenAt_83 hl (by decide) rfl (fun ls hl => ?_)
              refine lv_iload hx hb dX5_isBrokenAt_85 (lv_at hl 0 rfl) ?_
              refine lv_if_eq (tgt := 100) hx hb dX5_isBrokenAt_87 (by decide) (fun _ => ?_) (fun c_8 => absurd (by decide) c_8) 
              refine lv_iinc (v := nI (i + 1)) (lv' := [(4, .int (nI (i + 1))), (6, .int (nI 0)), (5, .int (f_X3_between S g i)), (3, .int (f_X3_between S g s1)), (0, .ref (G 0)), (1, .int (nI g)), (2, .int (nI s1))]) hx hb dX5_isBrokenAt_100 hl (k := 2) rfl (nI_add _ _) (by decide) rfl (fun ls hl => ?_)
              refine lv_goto (tgt := 33) hx hb dX5_isBrokenAt_103 (by decide) ?_
              exact ih (i + 1) H locs ls (by omega) hq hP hS (lv_sub hl [0, 3, 4, 5, 6] rfl)
            · have hq := hq.trans (if_neg c_7)
              refine lv_aload_n hx hb dX5_isBrokenAt_63 rfl (lv_at hl 3 rfl) ?_
              refine lv_iload hx hb dX5_isBrokenAt_64 (lv_at hl 1 rfl) ?_
              refine x_pr (va_runV (As := [.int (nI i)]) (rest := []) ⟨hx, hb, hml, hown, hts⟩ (c_X5_stationAt l D cI cS G S H.size i (by omega)) (cwV 1 hts gX5_isBrokenAt_X5_stationAt rfl rfl rfl (by decide +kernel) ⟨Nat.le_of_ble_eq_true rfl, Nat.le_of_ble_eq_true rfl⟩) ⟨wPc_blind, va_recv hK hP (ci := 5) (q0 := 0) rfl (WL_at (by decide) (cF_air _)), wPc_at hP hK hD hN⟩ rfl rfl hl.1 rfl (lv_room (Nat.le_of_ble_eq_true rfl)) dX5_isBrokenAt_66 ⟨Nat.le_refl _, Nat.le_refl _⟩) hS hA (fun q h => h) (fun H locs hz hk hS => ?_)
              have hP := P_kept hP hk
              refine x_getN hx hb hts mm_X5_isBrokenAt_X2 hown hK hP (6 + 5 * i) (by omega) (cF_st _ _) rfl 1 (by decide) (hN.use nk_X5_108 rfl) rfl rfl dX5_isBrokenAt_69 ?_
              refine x_getN hx hb hts mm_X5_isBrokenAt_X1 hown hK hP (8 + 5 * i) (by omega) (cF_sd _ _) rfl 0 (by decide) (hN.use nk_X5_112 rfl) rfl rfl dX5_isBrokenAt_72 ?_
              refine lv_if_eq (tgt := 82) hx hb dX5_isBrokenAt_75 (by decide) (fun c_9 => ?_) (fun c_9 => ?_)
              · have hq := hq.trans (if_pos c_9)
                refine lv_iconst (v := nI 0) hx hb dX5_isBrokenAt_82 (by decide) ?_
                refine lv_istore (lv' := [(6, .int (nI 0)), (5, .int (f_X3_between S g i)), (4, .int (nI i)), (3, .int (f_X3_between S g s1)), (0, .ref (G 0)), (1, .int (nI g)), (2, .int (nI s1))]) hx hb dX5_isBrokenAt_83 hl (by decide) rfl (fun ls hl => ?_)
                refine lv_iload hx hb dX5_isBrokenAt_85 (lv_at hl 0 rfl) ?_
                refine lv_if_eq (tgt := 100) hx hb dX5_isBrokenAt_87 (by decide) (fun _ => ?_) (fun c_10 => absurd (by decide) c_10) 
                refine lv_iinc (v := nI (i + 1)) (lv' := [(4, .int (nI (i + 1))), (6, .int (nI 0)), (5, .int (f_X3_between S g i)), (3, .int (f_X3_between S g s1)), (0, .ref (G 0)), (1, .int (nI g)), (2, .int (nI s1))]) hx hb dX5_isBrokenAt_100 hl (k := 2) rfl (nI_add _ _) (by decide) rfl (fun ls hl => ?_)
                refine lv_goto (tgt := 33) hx hb dX5_isBrokenAt_103 (by decide) ?_
                exact ih (i + 1) H locs ls (by omega) hq hP hS (lv_sub hl [0, 3, 4, 5, 6] rfl)
              · have hq := hq.trans (if_neg c_9)
                refine lv_iconst (v := nI 1) hx hb dX5_isBrokenAt_78 (by decide) ?_
                refine lv_goto (tgt := 83) hx hb dX5_isBrokenAt_79 (by decide) ?_
                refine lv_istore (lv' := [(6, .int (nI 1)), (5, .int (f_X3_between S g i)), (4, .int (nI i)), (3, .int (f_X3_between S g s1)), (0, .ref (G 0)), (1, .int (nI g)), (2, .int (nI s1))]) hx hb dX5_isBrokenAt_83 hl (by decide) rfl (fun ls hl => ?_)
                refine lv_iload hx hb dX5_isBrokenAt_85 (lv_at hl 0 rfl) ?_
                refine lv_if_eq (tgt := 100) hx hb dX5_isBrokenAt_87 (by decide) (fun c_11 => absurd c_11 (by decide)) (fun _ => ?_)
                refine lv_iload hx hb dX5_isBrokenAt_90 (lv_at hl 1 rfl) ?_
                refine lv_iload_n hx hb dX5_isBrokenAt_92 rfl (lv_at hl 3 rfl) ?_
                refine lv_iconst (v := nI 3) hx hb dX5_isBrokenAt_93 (by decide) ?_
                refine lv_isub hx hb dX5_isBrokenAt_94 ?_
                refine lv_icmp_le (tgt := 100) hx hb dX5_isBrokenAt_95 (by decide) (fun c_12 => ?_) (fun c_12 => ?_)
                · have hq := hq.trans (if_pos c_12)
                  refine lv_iinc (v := nI (i + 1)) (lv' := [(4, .int (nI (i + 1))), (6, .int (nI 1)), (5, .int (f_X3_between S g i)), (3, .int (f_X3_between S g s1)), (0, .ref (G 0)), (1, .int (nI g)), (2, .int (nI s1))]) hx hb dX5_isBrokenAt_100 hl (k := 2) rfl (nI_add _ _) (by decide) rfl (fun ls hl => ?_)
                  refine lv_goto (tgt := 33) hx hb dX5_isBrokenAt_103 (by decide) ?_
                  exact ih (i + 1) H locs ls (by omega) hq hP hS (lv_sub hl [0, 3, 4, 5, 6] rfl)
                · have hq := hq.trans (if_neg c_12)
                  refine lv_iconst (v := nI 1) hx hb dX5_isBrokenAt_98 (by decide) ?_
                  exact x_ret_p hx hb hr rfl hlocks hS dX5_isBrokenAt_99 hq
      exact L1 6 0 _ _ _ (by omega) hq hP hS (lv_sub hl [0, 1, 2, 3, 4] rfl)
    · have hq := hq.trans (if_neg c_2)
      refine lv_iconst (v := nI 1) hx hb dX5_isBrokenAt_28 (by decide) ?_
      exact x_ret_p hx hb hr rfl hlocks hS dX5_isBrokenAt_29 hq

theorem mm_X5_silenceAround_X2 : ∀ w ∈ wsX20, w ∈ wsX5_silenceAround := by decide +kernel
theorem mm_X5_silenceAround_X5 : ∀ w ∈ wsX50, w ∈ wsX5_silenceAround := by decide +kernel
theorem lk_X5_silenceAround_18 : Cond.fieldLink RX5 18 "BackofficeAir" "strengths" "LBackofficeAir$Strengths;" ∈ wsX5_silenceAround := by decide +kernel
theorem lm1_X5_silenceAround_max : Cond.methodLink RX5 200 Lib.Math.max.name ∈ wsX5_silenceAround := by decide +kernel
theorem lm2_X5_silenceAround_max : Cond.static Lib.Math.max.name ∈ wsX5_silenceAround := by decide +kernel
theorem lm3_X5_silenceAround_max : Cond.initialized "java/lang/Math" ∈ wsX5_silenceAround := by decide +kernel
theorem lm4_X5_silenceAround_max : Cond.code Lib.Math.max.name Lib.Math.max.code 2 (some .int) ∈ wsX5_silenceAround := by decide +kernel
theorem nk_X5_124 : Cond.fieldLinkNest RX5 124 "BackofficeAir$Station" "silencedTo" "I" "BackofficeAir" ∈ nestW := by decide +kernel
def f_X5_silenceAround_L1 (g : Nat) (s1 : Nat) (x : Int32) : Nat → Nat → Mem → Mem
  | 0, i, S_L1 => S_L1
  | n + 1, i, S_L1 => if nI i = nI s1 then (f_X5_silenceAround_L1 g s1 x n (i + 1) S_L1) else (if f_X3_between S_L1 g i ≤ 0 then (f_X5_silenceAround_L1 g s1 x n (i + 1) S_L1) else (f_X5_silenceAround_L1 g s1 x n (i + 1) (ub S_L1 (6 + 5 * i) 4 (if (S_L1 (6 + 5 * i) 4) < x then x else (S_L1 (6 + 5 * i) 4)))))
theorem f_X5_silenceAround_L1_z (g : Nat) (s1 : Nat) (x : Int32) (i : Nat) (S_L1 : Mem) : f_X5_silenceAround_L1 g s1 x 0 i S_L1 = (S_L1) := rfl
theorem f_X5_silenceAround_L1_s (g : Nat) (s1 : Nat) (x : Int32) (n : Nat) (i : Nat) (S_L1 : Mem) : f_X5_silenceAround_L1 g s1 x (n + 1) i S_L1 = (if nI i = nI s1 then (f_X5_silenceAround_L1 g s1 x n (i + 1) S_L1) else (if f_X3_between S_L1 g i ≤ 0 then (f_X5_silenceAround_L1 g s1 x n (i + 1) S_L1) else (f_X5_silenceAround_L1 g s1 x n (i + 1) (ub S_L1 (6 + 5 * i) 4 (if (S_L1 (6 + 5 * i) 4) < x then x else (S_L1 (6 + 5 * i) 4)))))) := rfl
def f_X5_silenceAround (S : Mem) (g : Nat) (s1 : Nat) (x : Int32) : Mem := f_X5_silenceAround_L1 g s1 x 6 0 S
theorem f_X5_silenceAround_d (S : Mem) (g : Nat) (s1 : Nat) (x : Int32) : f_X5_silenceAround S g s1 x = (f_X5_silenceAround_L1 g s1 x 6 0 S) := rfl
set_option maxHeartbeats 1000000 in
set_option maxRecDepth 100000 in
theorem c_X5_silenceAround (l : Launch) (D : va_G) (cI cS : ClassId) (G : Nat → Nat) (S : Mem) (sz : Nat) (g : Nat) (s1 : Nat) (x : Int32) (hg : g < 6) (h1 : s1 < 6) : Met l yX5_silenceAround wsX5_silenceAround ({ frames := 4, cells := 0, slots := 0, locals := 84 } : Room) (wPc 36 (cF cI cS G) D (tY cI cS) G S sz [.ref (G 0), .int (nI g), .int (nI s1), .int x]) (mQv (f_X5_silenceAround S g s1 x) 36 (cF cI cS G) D G sz) 0 0 (fA 36 G sz) := by
  refine x_met (cc := cX5_silenceAround) (maxL := 6) (ret := none) (by decide) rfl (Nat.le_of_ble_eq_true rfl) ?_
  intro p e s m below meth c ls hx hb hr hml hts hown hlocks hsz hP hK hD hN hl hnm
  subst hsz
  have hown : s.vm.findClass RX5 = some m.cls := hown
  have hl : lv_has ls 6 [(0, .ref (G 0)), (1, .int (nI g)), (2, .int (nI s1)), (3, .int x)] := hl
  have hq := f_X5_silenceAround_d S g s1 x
  have hA : ∀ q : Nat, s.heap.size ≤ q → (fA 36 G s.heap.size) q := fun q h => Or.inr h
  have hS : va_S (fA 36 G s.heap.size) s.heap s.heap [] := va_S.rf
  refine lv_iconst (v := nI 0) hx hb dX5_silenceAround_0 (by decide) ?_
  refine lv_istore (lv' := [(4, .int (nI 0)), (0, .ref (G 0)), (1, .int (nI g)), (2, .int (nI s1)), (3, .int x)]) hx hb dX5_silenceAround_1 hl (by decide) rfl (fun ls hl => ?_)
  have L1 : ∀ (n : Nat) (i : Nat) (S_L1 : Mem) (H : Heap) (locs : List Loc) (ls : Array Slot), i + n = 6 → f_X5_silenceAround S g s1 x = f_X5_silenceAround_L1 g s1 x n i S_L1 → va_P D vwCl (WL 36 G (cF cI cS G) S_L1) H → va_S (fA 36 G s.heap.size) s.heap H locs → lv_has ls 6 [(4, .int (nI i)), (0, .ref (G 0)), (1, .int (nI g)), (2, .int (nI s1)), (3, .int x)] → W p l e ({ frames := 4, cells := 0, slots := 0, locals := 84 } : Room) s m ([.ref (G 0), .int (nI g), .int (nI s1), .int x] : List Value).toArray below meth c H locs 0 0 (MQ below (mQv (f_X5_silenceAround S g s1 x) 36 (cF cI cS G) D G s.heap.size) ([.ref (G 0), .int (nI g), .int (nI s1), .int x] : List Value).toArray s 0 0 (fA 36 G s.heap.size)) (F0 m 3 ls []) := by
    intro n
    induction n with
    | zero =>
      intro i S_L1 H locs ls hin hq hP hS hl
      have hq := hq.trans (f_X5_silenceAround_L1_z _ _ _ _ _)
      refine lv_iload hx hb dX5_silenceAround_3 (lv_at hl 0 rfl) ?_
      refine lv_bipush (v := nI 6) hx hb dX5_silenceAround_5 (by decide) ?_
      refine lv_icmp_ge (tgt := 57) hx hb dX5_silenceAround_7 (by decide) (fun _ => ?_) (fun c_1 => absurd (nI_le (by omega) (by omega)) c_1) 
      exact x_ret_v hx hb hr hlocks hP hS dX5_silenceAround_57 hq
    | succ n ih =>
      intro i S_L1 H locs ls hin hq hP hS hl
      have hq := hq.trans (f_X5_silenceAround_L1_s _ _ _ _ _ _)
      refine lv_iload hx hb dX5_silenceAround_3 (lv_at hl 0 rfl) ?_
      refine lv_bipush (v := nI 6) hx hb dX5_silenceAround_5 (by decide) ?_
      refine lv_icmp_ge (tgt := 57) hx hb dX5_silenceAround_7 (by decide) (fun c_2 => absurd c_2 (nI_ge (by omega) (by omega))) (fun _ => ?_)
      refine lv_iload hx hb dX5_silenceAround_10 (lv_at hl 0 rfl) ?_
      refine lv_iload_n hx hb dX5_silenceAround_12 rfl (lv_at hl 3 rfl) ?_
      refine lv_icmp_eq (tgt := 51) hx hb dX5_silenceAround_13 (by decide) (fun c_3 => ?_) (fun c_3 => ?_)
      · have hq := hq.trans (if_pos c_3)
        refine lv_iinc (v := nI (i + 1)) (lv' := [(4, .int (nI (i + 1))), (0, .ref (G 0)), (1, .int (nI g)), (2, .int (nI s1)), (3, .int x)]) hx hb dX5_silenceAround_51 hl (k := 0) rfl (nI_add _ _) (by decide) rfl (fun ls hl => ?_)
        refine lv_goto (tgt := 3) hx hb dX5_silenceAround_54 (by decide) ?_
        exact ih (i + 1) S_L1 H locs ls (by omega) hq hP hS (lv_sub hl [0, 1, 2, 3, 4] rfl)
      · have hq := hq.trans (if_neg c_3)
        refine lv_aload_n hx hb dX5_silenceAround_16 rfl (lv_at hl 1 rfl) ?_
        refine x_get hx hb hts mm_X5_silenceAround_X5 hown hK hP (0) (by decide) (cF_air _) rfl 1 (by decide) (hts _ lk_X5_silenceAround_18) rfl rfl dX5_silenceAround_17 ?_
        refine lv_iload_n hx hb dX5_silenceAround_20 rfl (lv_at hl 2 rfl) ?_
        refine lv_iload hx hb dX5_silenceAround_21 (lv_at hl 0 rfl) ?_
        refine x_pi (va_runV (As := [.int (nI g), .int (nI i)]) (rest := []) ⟨hx, hb, hml, hown, hts⟩ (c_X3_between l D cI cS G S_L1 H.size g i (by omega) (by omega)) (cwV 2 hts gX5_silenceAround_X3_between rfl rfl rfl (by decide +kernel) ⟨Nat.le_of_ble_eq_true rfl, Nat.le_of_ble_eq_true rfl⟩) ⟨wPc_blind, va_recv hK hP (ci := 3) (q0 := 2) rfl (WL_at (by decide) (cF_str _)), wPc_at hP hK hD hN⟩ rfl rfl hl.1 rfl (lv_room (Nat.le_of_ble_eq_true rfl)) dX5_silenceAround_23 ⟨Nat.le_refl _, Nat.le_refl _⟩) hS hA (fun q h => h) (fun H locs hz hk hS => ?_)
        have hP := P_kept hP hk
        refine lv_if_le (tgt := 51) hx hb dX5_silenceAround_26 (by decide) (fun c_4 => ?_) (fun c_4 => ?_)
        · have hq := hq.trans (if_pos c_4)
          refine lv_iinc (v := nI (i + 1)) (lv' := [(4, .int (nI (i + 1))), (0, .ref (G 0)), (1, .int (nI g)), (2, .int (nI s1)), (3, .int x)]) hx hb dX5_silenceAround_51 hl (k := 0) rfl (nI_add _ _) (by decide) rfl (fun ls hl => ?_)
          refine lv_goto (tgt := 3) hx hb dX5_silenceAround_54 (by decide) ?_
          exact ih (i + 1) S_L1 H locs ls (by omega) hq hP hS (lv_sub hl [0, 1, 2, 3, 4] rfl)
        · have hq := hq.trans (if_neg c_4)
          refine lv_aload_n hx hb dX5_silenceAround_29 rfl (lv_at hl 1 rfl) ?_
          refine lv_iload hx hb dX5_silenceAround_30 (lv_at hl 0 rfl) ?_
          refine x_pr (va_runV (As := [.int (nI i)]) (rest := []) ⟨hx, hb, hml, hown, hts⟩ (c_X5_stationAt l D cI cS G S_L1 H.size i (by omega)) (cwV 1 hts gX5_silenceAround_X5_stationAt rfl rfl rfl (by decide +kernel) ⟨Nat.le_of_ble_eq_true rfl, Nat.le_of_ble_eq_true rfl⟩) ⟨wPc_blind, va_recv hK hP (ci := 5) (q0 := 0) rfl (WL_at (by decide) (cF_air _)), wPc_at hP hK hD hN⟩ rfl rfl hl.1 rfl (lv_room (Nat.le_of_ble_eq_true rfl)) dX5_silenceAround_32 ⟨Nat.le_refl _, Nat.le_refl _⟩) hS hA (fun q h => h) (fun H locs hz hk hS => ?_)
          have hP := P_kept hP hk
          refine lv_astore (lv' := [(5, .ref (G (6 + 5 * i))), (4, .int (nI i)), (0, .ref (G 0)), (1, .int (nI g)), (2, .int (nI s1)), (3, .int x)]) hx hb dX5_silenceAround_35 hl (by decide) rfl (fun ls hl => ?_)
          refine lv_aload hx hb dX5_silenceAround_37 (lv_at hl 0 rfl) ?_
          refine lv_aload hx hb dX5_silenceAround_39 (lv_at hl 0 rfl) ?_
          refine x_getN hx hb hts mm_X5_silenceAround_X2 hown hK hP (6 + 5 * i) (by omega) (cF_st _ _) rfl 6 (by decide) (hN.use nk_X5_124 rfl) rfl rfl dX5_silenceAround_41 ?_
          refine lv_iload_n hx hb dX5_silenceAround_44 rfl (lv_at hl 5 rfl) ?_
          refine va_mmax hx hb (hml.trans hl.1.symm) hown (hts _ lm1_X5_silenceAround_max) (hts _ lm2_X5_silenceAround_max) (hts _ lm3_X5_silenceAround_max) (hts _ lm4_X5_silenceAround_max) (Nat.le_of_ble_eq_true rfl) (Nat.le_of_ble_eq_true rfl) (Nat.zero_le _) (Nat.zero_le _) dX5_silenceAround_45 ?_
          refine x_putN hx hb hts mm_X5_silenceAround_X2 tyX2 tyX2_ok nmX2 hown hK hP hD hS (6 + 5 * i) (by omega) (cF_st _ _) rfl 6 (by decide) (hN.use nk_X5_124 rfl) rfl rfl rfl rfl rfl (Nat.le_of_ble_eq_true rfl) 4 (cF_st _ _) dX5_silenceAround_48 (fun H locs hP hS => ?_)
          refine lv_iinc (v := nI (i + 1)) (lv' := [(4, .int (nI (i + 1))), (5, .ref (G (6 + 5 * i))), (0, .ref (G 0)), (1, .int (nI g)), (2, .int (nI s1)), (3, .int x)]) hx hb dX5_silenceAround_51 hl (k := 1) rfl (nI_add _ _) (by decide) rfl (fun ls hl => ?_)
          refine lv_goto (tgt := 3) hx hb dX5_silenceAround_54 (by decide) ?_
          exact ih (i + 1) (ub S_L1 (6 + 5 * i) 4 (if (S_L1 (6 + 5 * i) 4) < x then x else (S_L1 (6 + 5 * i) 4))) H locs ls (by omega) hq hP hS (lv_sub hl [0, 2, 3, 4, 5] rfl)
  exact L1 6 0 S _ _ _ (by omega) hq hP hS (lv_sub hl [0, 1, 2, 3, 4] rfl)

def gof (S : Mem) (i : Nat) : Nat := kN (f_X0_goalOfFirst S i)
def gOK (S : Mem) (i : Nat) : Prop := f_X0_goalOfFirst S i = nI (gof S i) ∧ gof S i < 6
theorem gof_ub (S : Mem) (j i a : Nat) (v : Int32) : f_X0_goalOfFirst (ub S (6 + 5 * j) a v) i = f_X0_goalOfFirst S i := by
  unfold f_X0_goalOfFirst
  rw [ub_ne _ _ _ (by omega), ub_ne _ _ _ (by omega)]

theorem mm_X5_waitOrBegin_X0 : ∀ w ∈ wsX00, w ∈ wsX5_waitOrBegin := by decide +kernel
theorem mm_X5_waitOrBegin_X1 : ∀ w ∈ wsX10, w ∈ wsX5_waitOrBegin := by decide +kernel
theorem mm_X5_waitOrBegin_X2 : ∀ w ∈ wsX20, w ∈ wsX5_waitOrBegin := by decide +kernel
theorem mm_X5_waitOrBegin_X5 : ∀ w ∈ wsX50, w ∈ wsX5_waitOrBegin := by decide +kernel
theorem lk_X5_waitOrBegin_25 : Cond.fieldLink RX5 25 "BackofficeAir" "told" "LBackofficeAir$Told;" ∈ wsX5_waitOrBegin := by decide +kernel
theorem lk_X5_waitOrBegin_29 : Cond.fieldLink RX5 29 "BackofficeAir" "reserve" "I" ∈ wsX5_waitOrBegin := by decide +kernel
theorem lk_X5_waitOrBegin_33 : Cond.fieldLink RX5 33 "BackofficeAir" "slot" "I" ∈ wsX5_waitOrBegin := by decide +kernel
theorem nk_X5_118 : Cond.fieldLinkNest RX5 118 "BackofficeAir$Station" "wait" "I" "BackofficeAir" ∈ nestW := by decide +kernel
theorem nk_X5_67 : Cond.fieldLinkNest RX5 67 "BackofficeAir$Station" "window" "I" "BackofficeAir" ∈ nestW := by decide +kernel
theorem nk_X5_86 : Cond.fieldLinkNest RX5 86 "BackofficeAir$Station" "row" "LBackofficeAir$Row;" "BackofficeAir" ∈ nestW := by decide +kernel
theorem nk_X5_92 : Cond.fieldLinkNest RX5 92 "BackofficeAir$Row" "count" "I" "BackofficeAir" ∈ nestW := by decide +kernel
def f_X5_waitOrBegin (S : Mem) (s1 : Nat) : Mem := if S (8 + 5 * s1) 0 = 0 then (if S (7 + 5 * s1) 0 = 0 then (S) else (if S (6 + 5 * s1) 2 = (-1) then (if (ub ((f_X4_next S).2) (6 + 5 * s1) 2 (f_X5_restBy ((f_X4_next S).1) ((((f_X4_next S).2) (6 + 5 * s1) 1) + (nI 1)))) 0 1 ≤ (ub ((f_X4_next S).2) (6 + 5 * s1) 2 (f_X5_restBy ((f_X4_next S).1) ((((f_X4_next S).2) (6 + 5 * s1) 1) + (nI 1)))) (6 + 5 * s1) 4 then (ub ((f_X4_next S).2) (6 + 5 * s1) 2 (f_X5_restBy ((f_X4_next S).1) ((((f_X4_next S).2) (6 + 5 * s1) 1) + (nI 1)))) else (if f_X5_heardInSlotBefore (ub ((f_X4_next S).2) (6 + 5 * s1) 2 (f_X5_restBy ((f_X4_next S).1) ((((f_X4_next S).2) (6 + 5 * s1) 1) + (nI 1)))) s1 = 0 then (if (ub ((f_X4_next S).2) (6 + 5 * s1) 2 (f_X5_restBy ((f_X4_next S).1) ((((f_X4_next S).2) (6 + 5 * s1) 1) + (nI 1)))) (6 + 5 * s1) 2 ≤ 0 then (f_X2_begin (ub ((f_X4_next S).2) (6 + 5 * s1) 2 (f_X5_restBy ((f_X4_next S).1) ((((f_X4_next S).2) (6 + 5 * s1) 1) + (nI 1)))) s1 ((ub ((f_X4_next S).2) (6 + 5 * s1) 2 (f_X5_restBy ((f_X4_next S).1) ((((f_X4_next S).2) (6 + 5 * s1) 1) + (nI 1)))) 0 1) ((ub ((f_X4_next S).2) (6 + 5 * s1) 2 (f_X5_restBy ((f_X4_next S).1) ((((f_X4_next S).2) (6 + 5 * s1) 1) + (nI 1)))) 0 0)) else (ub (ub ((f_X4_next S).2) (6 + 5 * s1) 2 (f_X5_restBy ((f_X4_next S).1) ((((f_X4_next S).2) (6 + 5 * s1) 1) + (nI 1)))) (6 + 5 * s1) 2 (((ub ((f_X4_next S).2) (6 + 5 * s1) 2 (f_X5_restBy ((f_X4_next S).1) ((((f_X4_next S).2) (6 + 5 * s1) 1) + (nI 1)))) (6 + 5 * s1) 2) - (nI 1)))) else (ub ((f_X4_next S).2) (6 + 5 * s1) 2 (f_X5_restBy ((f_X4_next S).1) ((((f_X4_next S).2) (6 + 5 * s1) 1) + (nI 1)))))) else (if S 0 1 ≤ S (6 + 5 * s1) 4 then (S) else (if f_X5_heardInSlotBefore S s1 = 0 then (if S (6 + 5 * s1) 2 ≤ 0 then (f_X2_begin S s1 (S 0 1) (S 0 0)) else (ub S (6 + 5 * s1) 2 ((S (6 + 5 * s1) 2) - (nI 1)))) else (S))))) else (S)
theorem f_X5_waitOrBegin_d (S : Mem) (s1 : Nat) : f_X5_waitOrBegin S s1 = (if S (8 + 5 * s1) 0 = 0 then (if S (7 + 5 * s1) 0 = 0 then (S) else (if S (6 + 5 * s1) 2 = (-1) then (if (ub ((f_X4_next S).2) (6 + 5 * s1) 2 (f_X5_restBy ((f_X4_next S).1) ((((f_X4_next S).2) (6 + 5 * s1) 1) + (nI 1)))) 0 1 ≤ (ub ((f_X4_next S).2) (6 + 5 * s1) 2 (f_X5_restBy ((f_X4_next S).1) ((((f_X4_next S).2) (6 + 5 * s1) 1) + (nI 1)))) (6 + 5 * s1) 4 then (ub ((f_X4_next S).2) (6 + 5 * s1) 2 (f_X5_restBy ((f_X4_next S).1) ((((f_X4_next S).2) (6 + 5 * s1) 1) + (nI 1)))) else (if f_X5_heardInSlotBefore (ub ((f_X4_next S).2) (6 + 5 * s1) 2 (f_X5_restBy ((f_X4_next S).1) ((((f_X4_next S).2) (6 + 5 * s1) 1) + (nI 1)))) s1 = 0 then (if (ub ((f_X4_next S).2) (6 + 5 * s1) 2 (f_X5_restBy ((f_X4_next S).1) ((((f_X4_next S).2) (6 + 5 * s1) 1) + (nI 1)))) (6 + 5 * s1) 2 ≤ 0 then (f_X2_begin (ub ((f_X4_next S).2) (6 + 5 * s1) 2 (f_X5_restBy ((f_X4_next S).1) ((((f_X4_next S).2) (6 + 5 * s1) 1) + (nI 1)))) s1 ((ub ((f_X4_next S).2) (6 + 5 * s1) 2 (f_X5_restBy ((f_X4_next S).1) ((((f_X4_next S).2) (6 + 5 * s1) 1) + (nI 1)))) 0 1) ((ub ((f_X4_next S).2) (6 + 5 * s1) 2 (f_X5_restBy ((f_X4_next S).1) ((((f_X4_next S).2) (6 + 5 * s1) 1) + (nI 1)))) 0 0)) else (ub (ub ((f_X4_next S).2) (6 + 5 * s1) 2 (f_X5_restBy ((f_X4_next S).1) ((((f_X4_next S).2) (6 + 5 * s1) 1) + (nI 1)))) (6 + 5 * s1) 2 (((ub ((f_X4_next S).2) (6 + 5 * s1) 2 (f_X5_restBy ((f_X4_next S).1) ((((f_X4_next S).2) (6 + 5 * s1) 1) + (nI 1)))) (6 + 5 * s1) 2) - (nI 1)))) else (ub ((f_X4_next S).2) (6 + 5 * s1) 2 (f_X5_restBy ((f_X4_next S).1) ((((f_X4_next S).2) (6 + 5 * s1) 1) + (nI 1)))))) else (if S 0 1 ≤ S (6 + 5 * s1) 4 then (S) else (if f_X5_heardInSlotBefore S s1 = 0 then (if S (6 + 5 * s1) 2 ≤ 0 then (f_X2_begin S s1 (S 0 1) (S 0 0)) else (ub S (6 + 5 * s1) 2 ((S (6 + 5 * s1) 2) - (nI 1)))) else (S))))) else (S)) := rfl
set_option maxHeartbeats 1000000 in
set_option maxRecDepth 100000 in
theorem c_X5_waitOrBegin (l : Launch) (D : va_G) (cI cS : ClassId) (G : Nat → Nat) (S : Mem) (sz : Nat) (s1 : Nat) (h1 : s1 < 6) (hf : S 4 0 = nI (kN (S 4 0))) (hf2 : kN (S 4 0) < 200) : Met l yX5_waitOrBegin wsX5_waitOrBegin ({ frames := 5, cells := 0, slots := 0, locals := 106 } : Room) (wPc 36 (cF cI cS G) D (tY cI cS) G S sz [.ref (G 0), .int (nI s1)]) (mQv (f_X5_waitOrBegin S s1) 36 (cF cI cS G) D G sz) 0 0 (fA 36 G sz) := by
  refine x_met (cc := cX5_waitOrBegin) (maxL := 3) (ret := none) (by decide) rfl (Nat.le_of_ble_eq_true rfl) ?_
  intro p e s m below meth c ls hx hb hr hml hts hown hlocks hsz hP hK hD hN hl hnm
  subst hsz
  have hown : s.vm.findClass RX5 = some m.cls := hown
  have hl : lv_has ls 3 [(0, .ref (G 0)), (1, .int (nI s1))] := hl
  have hq := f_X5_waitOrBegin_d S s1
  have hA : ∀ q : Nat, s.heap.size ≤ q → (fA 36 G s.heap.size) q := fun q h => Or.inr h
  have hS : va_S (fA 36 G s.heap.size) s.heap s.heap [] := va_S.rf
  refine lv_aload_n hx hb dX5_waitOrBegin_0 rfl (lv_at hl 0 rfl) ?_
  refine lv_iload_n hx hb dX5_waitOrBegin_1 rfl (lv_at hl 1 rfl) ?_
  refine x_pr (va_runV (As := [.int (nI s1)]) (rest := []) ⟨hx, hb, hml, hown, hts⟩ (c_X5_stationAt l D cI cS G S s.heap.size s1 (by omega)) (cwV 1 hts gX5_waitOrBegin_X5_stationAt rfl rfl rfl (by decide +kernel) ⟨Nat.le_of_ble_eq_true rfl, Nat.le_of_ble_eq_true rfl⟩) ⟨wPc_blind, va_recv hK hP (ci := 5) (q0 := 0) rfl (WL_at (by decide) (cF_air _)), wPc_at hP hK hD hN⟩ rfl rfl hl.1 rfl (lv_room (Nat.le_of_ble_eq_true rfl)) dX5_waitOrBegin_2 ⟨Nat.le_refl _, Nat.le_refl _⟩) hS hA (fun q h => h) (fun H locs hz hk hS => ?_)
  have hP := P_kept hP hk
  refine lv_astore_n (lv' := [(2, .ref (G (6 + 5 * s1))), (0, .ref (G 0)), (1, .int (nI s1))]) hx hb dX5_waitOrBegin_5 rfl hl (by decide) rfl (fun ls hl => ?_)
  refine lv_aload_n hx hb dX5_waitOrBegin_6 rfl (lv_at hl 0 rfl) ?_
  refine x_getN hx hb hts mm_X5_waitOrBegin_X2 hown hK hP (6 + 5 * s1) (by omega) (cF_st _ _) rfl 1 (by decide) (hN.use nk_X5_108 rfl) rfl rfl dX5_waitOrBegin_7 ?_
  refine x_getN hx hb hts mm_X5_waitOrBegin_X1 hown hK hP (8 + 5 * s1) (by omega) (cF_sd _ _) rfl 0 (by decide) (hN.use nk_X5_112 rfl) rfl rfl dX5_waitOrBegin_10 ?_
  refine lv_if_ne (tgt := 26) hx hb dX5_waitOrBegin_13 (by decide) (fun c_1 => ?_) (fun c_1 => ?_)
  · have hq := hq.trans (if_neg c_1)
    exact x_ret_v hx hb hr hlocks hP hS dX5_waitOrBegin_26 hq
  · have hq := hq.trans (if_pos c_1)
    refine lv_aload_n hx hb dX5_waitOrBegin_16 rfl (lv_at hl 0 rfl) ?_
    refine x_getN hx hb hts mm_X5_waitOrBegin_X2 hown hK hP (6 + 5 * s1) (by omega) (cF_st _ _) rfl 0 (by decide) (hN.use nk_X5_86 rfl) rfl rfl dX5_waitOrBegin_17 ?_
    refine x_getN hx hb hts mm_X5_waitOrBegin_X0 hown hK hP (7 + 5 * s1) (by omega) (cF_row _ _) rfl 2 (by decide) (hN.use nk_X5_92 rfl) rfl rfl dX5_waitOrBegin_20 ?_
    refine lv_if_ne (tgt := 27) hx hb dX5_waitOrBegin_23 (by decide) (fun c_2 => ?_) (fun c_2 => ?_)
    · have hq := hq.trans (if_neg c_2)
      refine lv_aload_n hx hb dX5_waitOrBegin_27 rfl (lv_at hl 0 rfl) ?_
      refine x_getN hx hb hts mm_X5_waitOrBegin_X2 hown hK hP (6 + 5 * s1) (by omega) (cF_st _ _) rfl 4 (by decide) (hN.use nk_X5_118 rfl) rfl rfl dX5_waitOrBegin_28 ?_
      refine lv_iconst (v := (-1)) hx hb dX5_waitOrBegin_31 (by decide) ?_
      refine lv_icmp_ne (tgt := 55) hx hb dX5_waitOrBegin_32 (by decide) (fun c_3 => ?_) (fun c_3 => ?_)
      · have hq := hq.trans (if_neg c_3)
        refine lv_aload_n hx hb dX5_waitOrBegin_55 rfl (lv_at hl 1 rfl) ?_
        refine x_get hx hb hts mm_X5_waitOrBegin_X5 hown hK hP (0) (by decide) (cF_air _) rfl 4 (by decide) (hts _ lk_X5_waitOrBegin_33) rfl rfl dX5_waitOrBegin_56 ?_
        refine lv_aload_n hx hb dX5_waitOrBegin_59 rfl (lv_at hl 0 rfl) ?_
        refine x_getN hx hb hts mm_X5_waitOrBegin_X2 hown hK hP (6 + 5 * s1) (by omega) (cF_st _ _) rfl 6 (by decide) (hN.use nk_X5_124 rfl) rfl rfl dX5_waitOrBegin_60 ?_
        refine lv_icmp_le (tgt := 74) hx hb dX5_waitOrBegin_63 (by decide) (fun c_4 => ?_) (fun c_4 => ?_)
        · have hq := hq.trans (if_pos c_4)
          exact x_ret_v hx hb hr hlocks hP hS dX5_waitOrBegin_74 hq
        · have hq := hq.trans (if_neg c_4)
          refine lv_aload_n hx hb dX5_waitOrBegin_66 rfl (lv_at hl 1 rfl) ?_
          refine lv_iload_n hx hb dX5_waitOrBegin_67 rfl (lv_at hl 2 rfl) ?_
          refine x_pi (va_runV (As := [.int (nI s1)]) (rest := []) ⟨hx, hb, hml, hown, hts⟩ (c_X5_heardInSlotBefore l D cI cS G S H.size s1 (by omega)) (cwV 1 hts gX5_waitOrBegin_X5_heardInSlotBefore rfl rfl rfl (by decide +kernel) ⟨Nat.le_of_ble_eq_true rfl, Nat.le_of_ble_eq_true rfl⟩) ⟨wPc_blind, va_recv hK hP (ci := 5) (q0 := 0) rfl (WL_at (by decide) (cF_air _)), wPc_at hP hK hD hN⟩ rfl rfl hl.1 rfl (lv_room (Nat.le_of_ble_eq_true rfl)) dX5_waitOrBegin_68 ⟨Nat.le_refl _, Nat.le_refl _⟩) hS hA (fun q h => h) (fun H locs hz hk hS => ?_)
          have hP := P_kept hP hk
          refine lv_if_eq (tgt := 75) hx hb dX5_waitOrBegin_71 (by decide) (fun c_5 => ?_) (fun c_5 => ?_)
          · have hq := hq.trans (if_pos c_5)
            refine lv_aload_n hx hb dX5_waitOrBegin_75 rfl (lv_at hl 0 rfl) ?_
            refine x_getN hx hb hts mm_X5_waitOrBegin_X2 hown hK hP (6 + 5 * s1) (by omega) (cF_st _ _) rfl 4 (by decide) (hN.use nk_X5_118 rfl) rfl rfl dX5_waitOrBegin_76 ?_
            refine lv_if_le (tgt := 95) hx hb dX5_waitOrBegin_79 (by decide) (fun c_6 => ?_) (fun c_6 => ?_)
            · have hq := hq.trans (if_pos c_6)
              refine lv_aload_n hx hb dX5_waitOrBegin_95 rfl (lv_at hl 0 rfl) ?_
              refine lv_aload_n hx hb dX5_waitOrBegin_96 rfl (lv_at hl 1 rfl) ?_
              refine x_get hx hb hts mm_X5_waitOrBegin_X5 hown hK hP (0) (by decide) (cF_air _) rfl 4 (by decide) (hts _ lk_X5_waitOrBegin_33) rfl rfl dX5_waitOrBegin_97 ?_
              refine lv_aload_n hx hb dX5_waitOrBegin_100 rfl (lv_at hl 1 rfl) ?_
              refine x_get hx hb hts mm_X5_waitOrBegin_X5 hown hK hP (0) (by decide) (cF_air _) rfl 3 (by decide) (hts _ lk_X5_waitOrBegin_29) rfl rfl dX5_waitOrBegin_101 ?_
              refine x_mv (va_runV (As := [.int (S 0 1), .int (S 0 0)]) (rest := []) ⟨hx, hb, hml, hown, hts⟩ (c_X2_begin l D cI cS G S H.size s1 (S 0 1) (S 0 0) (by omega)) (cwV 2 hts gX5_waitOrBegin_X2_begin rfl rfl rfl (by decide +kernel) ⟨Nat.le_of_ble_eq_true rfl, Nat.le_of_ble_eq_true rfl⟩) ⟨wPc_blind, va_recv hK hP (ci := 2) (q0 := 6 + 5 * s1) rfl (WL_at (by omega) (cF_st _ _)), wPc_at hP hK hD hN⟩ rfl rfl hl.1 rfl (lv_room (Nat.le_of_ble_eq_true rfl)) dX5_waitOrBegin_104 ⟨Nat.le_refl _, Nat.le_refl _⟩) hS (fA_sub (hD S) (fun q h => hA q (Nat.le_trans hS.1 h))) (fun H locs hz hk hP hS => ?_)
              exact x_ret_v hx hb hr hlocks hP hS dX5_waitOrBegin_107 hq
            · have hq := hq.trans (if_neg c_6)
              refine lv_aload_n hx hb dX5_waitOrBegin_82 rfl (lv_at hl 0 rfl) ?_
              refine lv_dup hx hb dX5_waitOrBegin_83 rfl ?_
              refine x_getN hx hb hts mm_X5_waitOrBegin_X2 hown hK hP (6 + 5 * s1) (by omega) (cF_st _ _) rfl 4 (by decide) (hN.use nk_X5_118 rfl) rfl rfl dX5_waitOrBegin_84 ?_
              refine lv_iconst (v := nI 1) hx hb dX5_waitOrBegin_87 (by decide) ?_
              refine lv_isub hx hb dX5_waitOrBegin_88 ?_
              refine x_putN hx hb hts mm_X5_waitOrBegin_X2 tyX2 tyX2_ok nmX2 hown hK hP hD hS (6 + 5 * s1) (by omega) (cF_st _ _) rfl 4 (by decide) (hN.use nk_X5_118 rfl) rfl rfl rfl rfl rfl (Nat.le_of_ble_eq_true rfl) 2 (cF_st _ _) dX5_waitOrBegin_89 (fun H locs hP hS => ?_)
              refine lv_goto (tgt := 107) hx hb dX5_waitOrBegin_92 (by decide) ?_
              exact x_ret_v hx hb hr hlocks hP hS dX5_waitOrBegin_107 hq
          · have hq := hq.trans (if_neg c_5)
            exact x_ret_v hx hb hr hlocks hP hS dX5_waitOrBegin_74 hq
      · have hq := hq.trans (if_pos c_3)
        refine lv_aload_n hx hb dX5_waitOrBegin_35 rfl (lv_at hl 0 rfl) ?_
        refine lv_aload_n hx hb dX5_waitOrBegin_36 rfl (lv_at hl 1 rfl) ?_
        refine x_get hx hb hts mm_X5_waitOrBegin_X5 hown hK hP (0) (by decide) (cF_air _) rfl 2 (by decide) (hts _ lk_X5_waitOrBegin_25) rfl rfl dX5_waitOrBegin_37 ?_
        refine x_mi (va_runV (As := []) (rest := [.ref (G (6 + 5 * s1))]) ⟨hx, hb, hml, hown, hts⟩ (c_X4_next l D cI cS G S H.size hf hf2) (cwV 0 hts gX5_waitOrBegin_X4_next rfl rfl rfl (by decide +kernel) ⟨Nat.le_of_ble_eq_true rfl, Nat.le_of_ble_eq_true rfl⟩) ⟨wPc_blind, va_recv hK hP (ci := 4) (q0 := 4) rfl (WL_at (by decide) (cF_told _)), wPc_at hP hK hD hN⟩ rfl rfl hl.1 rfl (lv_room (Nat.le_of_ble_eq_true rfl)) dX5_waitOrBegin_40 ⟨Nat.le_refl _, Nat.le_refl _⟩) hS (fA_sub (hD S) (fun q h => hA q (Nat.le_trans hS.1 h))) (fun H locs hz hk hP hS => ?_)
        refine lv_aload_n hx hb dX5_waitOrBegin_43 rfl (lv_at hl 0 rfl) ?_
        refine x_getN hx hb hts mm_X5_waitOrBegin_X2 hown hK hP (6 + 5 * s1) (by omega) (cF_st _ _) rfl 3 (by decide) (hN.use nk_X5_67 rfl) rfl rfl dX5_waitOrBegin_44 ?_
        refine lv_iconst (v := nI 1) hx hb dX5_waitOrBegin_47 (by decide) ?_
        refine lv_iadd hx hb dX5_waitOrBegin_48 ?_
        refine x_pi (va_runS (As := [.int ((f_X4_next S).1), .int ((((f_X4_next S).2) (6 + 5 * s1) 1) + (nI 1))]) (rest := [.ref (G (6 + 5 * s1))]) ⟨hx, hb, hml, hown, hts⟩ (c_X5_restBy l H.size ((f_X4_next S).1) ((((f_X4_next S).2) (6 + 5 * s1) 1) + (nI 1))) (va_cwS 2 hts gX5_waitOrBegin_X5_restBy rfl rfl rfl (by decide +kernel) ⟨Nat.le_of_ble_eq_true rfl, Nat.le_of_ble_eq_true rfl⟩) ⟨sPc_blind, sPc_at hN⟩ rfl rfl hl.1 rfl (lv_room (Nat.le_of_ble_eq_true rfl)) dX5_waitOrBegin_49 ⟨Nat.le_refl _, Nat.le_refl _⟩) hS hA (fun q h => h) (fun H locs hz hk hS => ?_)
        have hP := P_kept hP hk
        refine x_putN hx hb hts mm_X5_waitOrBegin_X2 tyX2 tyX2_ok nmX2 hown hK hP hD hS (6 + 5 * s1) (by omega) (cF_st _ _) rfl 4 (by decide) (hN.use nk_X5_118 rfl) rfl rfl rfl rfl rfl (Nat.le_of_ble_eq_true rfl) 2 (cF_st _ _) dX5_waitOrBegin_52 (fun H locs hP hS => ?_)
        refine lv_aload_n hx hb dX5_waitOrBegin_55 rfl (lv_at hl 1 rfl) ?_
        refine x_get hx hb hts mm_X5_waitOrBegin_X5 hown hK hP (0) (by decide) (cF_air _) rfl 4 (by decide) (hts _ lk_X5_waitOrBegin_33) rfl rfl dX5_waitOrBegin_56 ?_
        refine lv_aload_n hx hb dX5_waitOrBegin_59 rfl (lv_at hl 0 rfl) ?_
        refine x_getN hx hb hts mm_X5_waitOrBegin_X2 hown hK hP (6 + 5 * s1) (by omega) (cF_st _ _) rfl 6 (by decide) (hN.use nk_X5_124 rfl) rfl rfl dX5_waitOrBegin_60 ?_
        refine lv_icmp_le (tgt := 74) hx hb dX5_waitOrBegin_63 (by decide) (fun c_7 => ?_) (fun c_7 => ?_)
        · have hq := hq.trans (if_pos c_7)
          exact x_ret_v hx hb hr hlocks hP hS dX5_waitOrBegin_74 hq
        · have hq := hq.trans (if_neg c_7)
          refine lv_aload_n hx hb dX5_waitOrBegin_66 rfl (lv_at hl 1 rfl) ?_
          refine lv_iload_n hx hb dX5_waitOrBegin_67 rfl (lv_at hl 2 rfl) ?_
          refine x_pi (va_runV (As := [.int (nI s1)]) (rest := []) ⟨hx, hb, hml, hown, hts⟩ (c_X5_heardInSlotBefore l D cI cS G (ub ((f_X4_next S).2) (6 + 5 * s1) 2 (f_X5_restBy ((f_X4_next S).1) ((((f_X4_next S).2) (6 + 5 * s1) 1) + (nI 1)))) H.size s1 (by omega)) (cwV 1 hts gX5_waitOrBegin_X5_heardInSlotBefore rfl rfl rfl (by decide +kernel) ⟨Nat.le_of_ble_eq_true rfl, Nat.le_of_ble_eq_true rfl⟩) ⟨wPc_blind, va_recv hK hP (ci := 5) (q0 := 0) rfl (WL_at (by decide) (cF_air _)), wPc_at hP hK hD hN⟩ rfl rfl hl.1 rfl (lv_room (Nat.le_of_ble_eq_true rfl)) dX5_waitOrBegin_68 ⟨Nat.le_refl _, Nat.le_refl _⟩) hS hA (fun q h => h) (fun H locs hz hk hS => ?_)
          have hP := P_kept hP hk
          refine lv_if_eq (tgt := 75) hx hb dX5_waitOrBegin_71 (by decide) (fun c_8 => ?_) (fun c_8 => ?_)
          · have hq := hq.trans (if_pos c_8)
            refine lv_aload_n hx hb dX5_waitOrBegin_75 rfl (lv_at hl 0 rfl) ?_
            refine x_getN hx hb hts mm_X5_waitOrBegin_X2 hown hK hP (6 + 5 * s1) (by omega) (cF_st _ _) rfl 4 (by decide) (hN.use nk_X5_118 rfl) rfl rfl dX5_waitOrBegin_76 ?_
            refine lv_if_le (tgt := 95) hx hb dX5_waitOrBegin_79 (by decide) (fun c_9 => ?_) (fun c_9 => ?_)
            · have hq := hq.trans (if_pos c_9)
              refine lv_aload_n hx hb dX5_waitOrBegin_95 rfl (lv_at hl 0 rfl) ?_
              refine lv_aload_n hx hb dX5_waitOrBegin_96 rfl (lv_at hl 1 rfl) ?_
              refine x_get hx hb hts mm_X5_waitOrBegin_X5 hown hK hP (0) (by decide) (cF_air _) rfl 4 (by decide) (hts _ lk_X5_waitOrBegin_33) rfl rfl dX5_waitOrBegin_97 ?_
              refine lv_aload_n hx hb dX5_waitOrBegin_100 rfl (lv_at hl 1 rfl) ?_
              refine x_get hx hb hts mm_X5_waitOrBegin_X5 hown hK hP (0) (by decide) (cF_air _) rfl 3 (by decide) (hts _ lk_X5_waitOrBegin_29) rfl rfl dX5_waitOrBegin_101 ?_
              refine x_mv (va_runV (As := [.int ((ub ((f_X4_next S).2) (6 + 5 * s1) 2 (f_X5_restBy ((f_X4_next S).1) ((((f_X4_next S).2) (6 + 5 * s1) 1) + (nI 1)))) 0 1), .int ((ub ((f_X4_next S).2) (6 + 5 * s1) 2 (f_X5_restBy ((f_X4_next S).1) ((((f_X4_next S).2) (6 + 5 * s1) 1) + (nI 1)))) 0 0)]) (rest := []) ⟨hx, hb, hml, hown, hts⟩ (c_X2_begin l D cI cS G (ub ((f_X4_next S).2) (6 + 5 * s1) 2 (f_X5_restBy ((f_X4_next S).1) ((((f_X4_next S).2) (6 + 5 * s1) 1) + (nI 1)))) H.size s1 ((ub ((f_X4_next S).2) (6 + 5 * s1) 2 (f_X5_restBy ((f_X4_next S).1) ((((f_X4_next S).2) (6 + 5 * s1) 1) + (nI 1)))) 0 1) ((ub ((f_X4_next S).2) (6 + 5 * s1) 2 (f_X5_restBy ((f_X4_next S).1) ((((f_X4_next S).2) (6 + 5 * s1) 1) + (nI 1)))) 0 0) (by omega)) (cwV 2 hts gX5_waitOrBegin_X2_begin rfl rfl rfl (by decide +kernel) ⟨Nat.le_of_ble_eq_true rfl, Nat.le_of_ble_eq_true rfl⟩) ⟨wPc_blind, va_recv hK hP (ci := 2) (q0 := 6 + 5 * s1) rfl (WL_at (by omega) (cF_st _ _)), wPc_at hP hK hD hN⟩ rfl rfl hl.1 rfl (lv_room (Nat.le_of_ble_eq_true rfl)) dX5_waitOrBegin_104 ⟨Nat.le_refl _, Nat.le_refl _⟩) hS (fA_sub (hD S) (fun q h => hA q (Nat.le_trans hS.1 h))) (fun H locs hz hk hP hS => ?_)
              exact x_ret_v hx hb hr hlocks hP hS dX5_waitOrBegin_107 hq
            · have hq := hq.trans (if_neg c_9)
              refine lv_aload_n hx hb dX5_waitOrBegin_82 rfl (lv_at hl 0 rfl) ?_
              refine lv_dup hx hb dX5_waitOrBegin_83 rfl ?_
              refine x_getN hx hb hts mm_X5_waitOrBegin_X2 hown hK hP (6 + 5 * s1) (by omega) (cF_st _ _) rfl 4 (by decide) (hN.use nk_X5_118 rfl) rfl rfl dX5_waitOrBegin_84 ?_
              refine lv_iconst (v := nI 1) hx hb dX5_waitOrBegin_87 (by decide) ?_
              refine lv_isub hx hb dX5_waitOrBegin_88 ?_
              refine x_putN hx hb hts mm_X5_waitOrBegin_X2 tyX2 tyX2_ok nmX2 hown hK hP hD hS (6 + 5 * s1) (by omega) (cF_st _ _) rfl 4 (by decide) (hN.use nk_X5_118 rfl) rfl rfl rfl rfl rfl (Nat.le_of_ble_eq_true rfl) 2 (cF_st _ _) dX5_waitOrBegin_89 (fun H locs hP hS => ?_)
              refine lv_goto (tgt := 107) hx hb dX5_waitOrBegin_92 (by decide) ?_
              exact x_ret_v hx hb hr hlocks hP hS dX5_waitOrBegin_107 hq
          · have hq := hq.trans (if_neg c_8)
            exact x_ret_v hx hb hr hlocks hP hS dX5_waitOrBegin_74 hq
    · have hq := hq.trans (if_pos c_2)
      exact x_ret_v hx hb hr hlocks hP hS dX5_waitOrBegin_26 hq

theorem mm_X5_sendInSlot_X1 : ∀ w ∈ wsX10, w ∈ wsX5_sendInSlot := by decide +kernel
theorem mm_X5_sendInSlot_X2 : ∀ w ∈ wsX20, w ∈ wsX5_sendInSlot := by decide +kernel
theorem mm_X5_sendInSlot_X5 : ∀ w ∈ wsX50, w ∈ wsX5_sendInSlot := by decide +kernel
theorem lk_X5_sendInSlot_33 : Cond.fieldLink RX5 33 "BackofficeAir" "slot" "I" ∈ wsX5_sendInSlot := by decide +kernel
theorem nk_X5_136 : Cond.fieldLinkNest RX5 136 "BackofficeAir$Station" "airtime" "I" "BackofficeAir" ∈ nestW := by decide +kernel
def f_X5_sendInSlot (S : Mem) (s1 : Nat) : Mem := if S (8 + 5 * s1) 0 = 0 then (S) else (if f_X5_isBrokenAt (ub (ub S (6 + 5 * s1) 7 ((S (6 + 5 * s1) 7) + (nI 1))) (6 + 5 * s1) 9 ((ub S (6 + 5 * s1) 7 ((S (6 + 5 * s1) 7) + (nI 1))) 0 1)) (gof S s1) s1 = 0 then (ub (ub S (6 + 5 * s1) 7 ((S (6 + 5 * s1) 7) + (nI 1))) (6 + 5 * s1) 9 ((ub S (6 + 5 * s1) 7 ((S (6 + 5 * s1) 7) + (nI 1))) 0 1)) else (f_X1_breakIn (ub (ub S (6 + 5 * s1) 7 ((S (6 + 5 * s1) 7) + (nI 1))) (6 + 5 * s1) 9 ((ub S (6 + 5 * s1) 7 ((S (6 + 5 * s1) 7) + (nI 1))) 0 1)) s1 ((ub (ub S (6 + 5 * s1) 7 ((S (6 + 5 * s1) 7) + (nI 1))) (6 + 5 * s1) 9 ((ub S (6 + 5 * s1) 7 ((S (6 + 5 * s1) 7) + (nI 1))) 0 1)) 0 1)))
theorem f_X5_sendInSlot_d (S : Mem) (s1 : Nat) : f_X5_sendInSlot S s1 = (if S (8 + 5 * s1) 0 = 0 then (S) else (if f_X5_isBrokenAt (ub (ub S (6 + 5 * s1) 7 ((S (6 + 5 * s1) 7) + (nI 1))) (6 + 5 * s1) 9 ((ub S (6 + 5 * s1) 7 ((S (6 + 5 * s1) 7) + (nI 1))) 0 1)) (gof S s1) s1 = 0 then (ub (ub S (6 + 5 * s1) 7 ((S (6 + 5 * s1) 7) + (nI 1))) (6 + 5 * s1) 9 ((ub S (6 + 5 * s1) 7 ((S (6 + 5 * s1) 7) + (nI 1))) 0 1)) else (f_X1_breakIn (ub (ub S (6 + 5 * s1) 7 ((S (6 + 5 * s1) 7) + (nI 1))) (6 + 5 * s1) 9 ((ub S (6 + 5 * s1) 7 ((S (6 + 5 * s1) 7) + (nI 1))) 0 1)) s1 ((ub (ub S (6 + 5 * s1) 7 ((S (6 + 5 * s1) 7) + (nI 1))) (6 + 5 * s1) 9 ((ub S (6 + 5 * s1) 7 ((S (6 + 5 * s1) 7) + (nI 1))) 0 1)) 0 1)))) := rfl
set_option maxHeartbeats 1000000 in
set_option maxRecDepth 100000 in
theorem c_X5_sendInSlot (l : Launch) (D : va_G) (cI cS : ClassId) (G : Nat → Nat) (S : Mem) (sz : Nat) (s1 : Nat) (h1 : s1 < 6) (hg : ¬ S (8 + 5 * s1) 0 = 0 → gOK S s1) : Met l yX5_sendInSlot wsX5_sendInSlot ({ frames := 5, cells := 0, slots := 0, locals := 110 } : Room) (wPc 36 (cF cI cS G) D (tY cI cS) G S sz [.ref (G 0), .int (nI s1)]) (mQv (f_X5_sendInSlot S s1) 36 (cF cI cS G) D G sz) 0 0 (fA 36 G sz) := by
  refine x_met (cc := cX5_sendInSlot) (maxL := 3) (ret := none) (by decide) rfl (Nat.le_of_ble_eq_true rfl) ?_
  intro p e s m below meth c ls hx hb hr hml hts hown hlocks hsz hP hK hD hN hl hnm
  subst hsz
  have hown : s.vm.findClass RX5 = some m.cls := hown
  have hl : lv_has ls 3 [(0, .ref (G 0)), (1, .int (nI s1))] := hl
  have hq := f_X5_sendInSlot_d S s1
  have hA : ∀ q : Nat, s.heap.size ≤ q → (fA 36 G s.heap.size) q := fun q h => Or.inr h
  have hS : va_S (fA 36 G s.heap.size) s.heap s.heap [] := va_S.rf
  refine lv_aload_n hx hb dX5_sendInSlot_0 rfl (lv_at hl 0 rfl) ?_
  refine lv_iload_n hx hb dX5_sendInSlot_1 rfl (lv_at hl 1 rfl) ?_
  refine x_pr (va_runV (As := [.int (nI s1)]) (rest := []) ⟨hx, hb, hml, hown, hts⟩ (c_X5_stationAt l D cI cS G S s.heap.size s1 (by omega)) (cwV 1 hts gX5_sendInSlot_X5_stationAt rfl rfl rfl (by decide +kernel) ⟨Nat.le_of_ble_eq_true rfl, Nat.le_of_ble_eq_true rfl⟩) ⟨wPc_blind, va_recv hK hP (ci := 5) (q0 := 0) rfl (WL_at (by decide) (cF_air _)), wPc_at hP hK hD hN⟩ rfl rfl hl.1 rfl (lv_room (Nat.le_of_ble_eq_true rfl)) dX5_sendInSlot_2 ⟨Nat.le_refl _, Nat.le_refl _⟩) hS hA (fun q h => h) (fun H locs hz hk hS => ?_)
  have hP := P_kept hP hk
  refine lv_astore_n (lv' := [(2, .ref (G (6 + 5 * s1))), (0, .ref (G 0)), (1, .int (nI s1))]) hx hb dX5_sendInSlot_5 rfl hl (by decide) rfl (fun ls hl => ?_)
  refine lv_aload_n hx hb dX5_sendInSlot_6 rfl (lv_at hl 0 rfl) ?_
  refine x_getN hx hb hts mm_X5_sendInSlot_X2 hown hK hP (6 + 5 * s1) (by omega) (cF_st _ _) rfl 1 (by decide) (hN.use nk_X5_108 rfl) rfl rfl dX5_sendInSlot_7 ?_
  refine x_getN hx hb hts mm_X5_sendInSlot_X1 hown hK hP (8 + 5 * s1) (by omega) (cF_sd _ _) rfl 0 (by decide) (hN.use nk_X5_112 rfl) rfl rfl dX5_sendInSlot_10 ?_
  refine lv_if_ne (tgt := 17) hx hb dX5_sendInSlot_13 (by decide) (fun c_1 => ?_) (fun c_1 => ?_)
  · have hq := hq.trans (if_neg c_1)
    have hg := hg c_1
    refine lv_aload_n hx hb dX5_sendInSlot_17 rfl (lv_at hl 0 rfl) ?_
    refine lv_dup hx hb dX5_sendInSlot_18 rfl ?_
    refine x_getN hx hb hts mm_X5_sendInSlot_X2 hown hK hP (6 + 5 * s1) (by omega) (cF_st _ _) rfl 9 (by decide) (hN.use nk_X5_136 rfl) rfl rfl dX5_sendInSlot_19 ?_
    refine lv_iconst (v := nI 1) hx hb dX5_sendInSlot_22 (by decide) ?_
    refine lv_iadd hx hb dX5_sendInSlot_23 ?_
    refine x_putN hx hb hts mm_X5_sendInSlot_X2 tyX2 tyX2_ok nmX2 hown hK hP hD hS (6 + 5 * s1) (by omega) (cF_st _ _) rfl 9 (by decide) (hN.use nk_X5_136 rfl) rfl rfl rfl rfl rfl (Nat.le_of_ble_eq_true rfl) 7 (cF_st _ _) dX5_sendInSlot_24 (fun H locs hP hS => ?_)
    refine lv_aload_n hx hb dX5_sendInSlot_27 rfl (lv_at hl 0 rfl) ?_
    refine lv_aload_n hx hb dX5_sendInSlot_28 rfl (lv_at hl 1 rfl) ?_
    refine x_get hx hb hts mm_X5_sendInSlot_X5 hown hK hP (0) (by decide) (cF_air _) rfl 4 (by decide) (hts _ lk_X5_sendInSlot_33) rfl rfl dX5_sendInSlot_29 ?_
    refine x_putN hx hb hts mm_X5_sendInSlot_X2 tyX2 tyX2_ok nmX2 hown hK hP hD hS (6 + 5 * s1) (by omega) (cF_st _ _) rfl 11 (by decide) (hN.use nk_X5_172 rfl) rfl rfl rfl rfl rfl (Nat.le_of_ble_eq_true rfl) 9 (cF_st _ _) dX5_sendInSlot_32 (fun H locs hP hS => ?_)
    refine lv_aload_n hx hb dX5_sendInSlot_35 rfl (lv_at hl 1 rfl) ?_
    refine lv_aload_n hx hb dX5_sendInSlot_36 rfl (lv_at hl 0 rfl) ?_
    refine x_getN hx hb hts mm_X5_sendInSlot_X2 hown hK hP (6 + 5 * s1) (by omega) (cF_st _ _) rfl 0 (by decide) (hN.use nk_X5_86 rfl) rfl rfl dX5_sendInSlot_37 ?_
    refine x_pi (va_runV (As := []) (rest := [.ref (G 0)]) ⟨hx, hb, hml, hown, hts⟩ (c_X0_goalOfFirst l D cI cS G (ub (ub S (6 + 5 * s1) 7 ((S (6 + 5 * s1) 7) + (nI 1))) (6 + 5 * s1) 9 ((ub S (6 + 5 * s1) 7 ((S (6 + 5 * s1) 7) + (nI 1))) 0 1)) H.size s1 (by omega)) (cwV 0 hts gX5_sendInSlot_X0_goalOfFirst rfl rfl rfl (by decide +kernel) ⟨Nat.le_of_ble_eq_true rfl, Nat.le_of_ble_eq_true rfl⟩) ⟨wPc_blind, va_recv hK hP (ci := 0) (q0 := 7 + 5 * s1) rfl (WL_at (by omega) (cF_row _ _)), wPc_at hP hK hD hN⟩ rfl rfl hl.1 rfl (lv_room (Nat.le_of_ble_eq_true rfl)) dX5_sendInSlot_40 ⟨Nat.le_refl _, Nat.le_refl _⟩) hS hA (fun q h => h) (fun H locs hz hk hS => ?_)
    have hP := P_kept hP hk
    refine x_top (y := nI (gof S s1)) (by rw [gof_ub, gof_ub]; exact hg.1) ?_
    refine lv_iload_n hx hb dX5_sendInSlot_43 rfl (lv_at hl 2 rfl) ?_
    refine x_pi (va_runV (As := [.int (nI (gof S s1)), .int (nI s1)]) (rest := []) ⟨hx, hb, hml, hown, hts⟩ (c_X5_isBrokenAt l D cI cS G (ub (ub S (6 + 5 * s1) 7 ((S (6 + 5 * s1) 7) + (nI 1))) (6 + 5 * s1) 9 ((ub S (6 + 5 * s1) 7 ((S (6 + 5 * s1) 7) + (nI 1))) 0 1)) H.size (gof S s1) s1 hg.2 h1) (cwV 2 hts gX5_sendInSlot_X5_isBrokenAt rfl rfl rfl (by decide +kernel) ⟨Nat.le_of_ble_eq_true rfl, Nat.le_of_ble_eq_true rfl⟩) ⟨wPc_blind, va_recv hK hP (ci := 5) (q0 := 0) rfl (WL_at (by decide) (cF_air _)), wPc_at hP hK hD hN⟩ rfl rfl hl.1 rfl (lv_room (Nat.le_of_ble_eq_true rfl)) dX5_sendInSlot_44 ⟨Nat.le_refl _, Nat.le_refl _⟩) hS hA (fun q h => h) (fun H locs hz hk hS => ?_)
    have hP := P_kept hP hk
    refine lv_if_eq (tgt := 61) hx hb dX5_sendInSlot_47 (by decide) (fun c_2 => ?_) (fun c_2 => ?_)
    · have hq := hq.trans (if_pos c_2)
      exact x_ret_v hx hb hr hlocks hP hS dX5_sendInSlot_61 hq
    · have hq := hq.trans (if_neg c_2)
      refine lv_aload_n hx hb dX5_sendInSlot_50 rfl (lv_at hl 0 rfl) ?_
      refine x_getN hx hb hts mm_X5_sendInSlot_X2 hown hK hP (6 + 5 * s1) (by omega) (cF_st _ _) rfl 1 (by decide) (hN.use nk_X5_108 rfl) rfl rfl dX5_sendInSlot_51 ?_
      refine lv_aload_n hx hb dX5_sendInSlot_54 rfl (lv_at hl 1 rfl) ?_
      refine x_get hx hb hts mm_X5_sendInSlot_X5 hown hK hP (0) (by decide) (cF_air _) rfl 4 (by decide) (hts _ lk_X5_sendInSlot_33) rfl rfl dX5_sendInSlot_55 ?_
      refine x_mv (va_runV (As := [.int ((ub (ub S (6 + 5 * s1) 7 ((S (6 + 5 * s1) 7) + (nI 1))) (6 + 5 * s1) 9 ((ub S (6 + 5 * s1) 7 ((S (6 + 5 * s1) 7) + (nI 1))) 0 1)) 0 1)]) (rest := []) ⟨hx, hb, hml, hown, hts⟩ (c_X1_breakIn l D cI cS G (ub (ub S (6 + 5 * s1) 7 ((S (6 + 5 * s1) 7) + (nI 1))) (6 + 5 * s1) 9 ((ub S (6 + 5 * s1) 7 ((S (6 + 5 * s1) 7) + (nI 1))) 0 1)) H.size s1 ((ub (ub S (6 + 5 * s1) 7 ((S (6 + 5 * s1) 7) + (nI 1))) (6 + 5 * s1) 9 ((ub S (6 + 5 * s1) 7 ((S (6 + 5 * s1) 7) + (nI 1))) 0 1)) 0 1) (by omega)) (cwV 1 hts gX5_sendInSlot_X1_breakIn rfl rfl rfl (by decide +kernel) ⟨Nat.le_of_ble_eq_true rfl, Nat.le_of_ble_eq_true rfl⟩) ⟨wPc_blind, va_recv hK hP (ci := 1) (q0 := 8 + 5 * s1) rfl (WL_at (by omega) (cF_sd _ _)), wPc_at hP hK hD hN⟩ rfl rfl hl.1 rfl (lv_room (Nat.le_of_ble_eq_true rfl)) dX5_sendInSlot_58 ⟨Nat.le_refl _, Nat.le_refl _⟩) hS (fA_sub (hD S) (fun q h => hA q (Nat.le_trans hS.1 h))) (fun H locs hz hk hP hS => ?_)
      exact x_ret_v hx hb hr hlocks hP hS dX5_sendInSlot_61 hq
  · have hq := hq.trans (if_pos c_1)
    exact x_ret_v hx hb hr hlocks hP hS dX5_sendInSlot_16 hq

theorem mm_X5_endsAfterSlot_X1 : ∀ w ∈ wsX10, w ∈ wsX5_endsAfterSlot := by decide +kernel
theorem mm_X5_endsAfterSlot_X2 : ∀ w ∈ wsX20, w ∈ wsX5_endsAfterSlot := by decide +kernel
theorem mm_X5_endsAfterSlot_X5 : ∀ w ∈ wsX50, w ∈ wsX5_endsAfterSlot := by decide +kernel
theorem lk_X5_endsAfterSlot_33 : Cond.fieldLink RX5 33 "BackofficeAir" "slot" "I" ∈ wsX5_endsAfterSlot := by decide +kernel
theorem nk_X5_188 : Cond.fieldLinkNest RX5 188 "BackofficeAir$Sending" "requestBroken" "Z" "BackofficeAir" ∈ nestW := by decide +kernel
theorem nk_X5_191 : Cond.fieldLinkNest RX5 191 "BackofficeAir$Sending" "lastSlot" "I" "BackofficeAir" ∈ nestW := by decide +kernel
def f_X5_endsAfterSlot (S : Mem) (s1 : Nat) : Int32 × Mem := if S (8 + 5 * s1) 0 = 0 then ((nI 0, S)) else (if f_X1_isRequest S s1 (S 0 1) = 0 then (if f_X1_isRequest S s1 (S 0 1) = 0 then (if S 0 1 < S (8 + 5 * s1) 2 then ((nI 0, S)) else ((nI 1, f_X2_end S s1 (S 0 1)))) else ((nI 1, f_X2_end S s1 (S 0 1)))) else (if S (8 + 5 * s1) 4 = 0 then ((nI 0, f_X5_silenceAround S (gof S s1) s1 (S (8 + 5 * s1) 2))) else (if f_X1_isRequest S s1 (S 0 1) = 0 then (if S 0 1 < S (8 + 5 * s1) 2 then ((nI 0, S)) else ((nI 1, f_X2_end S s1 (S 0 1)))) else ((nI 1, f_X2_end S s1 (S 0 1))))))
theorem f_X5_endsAfterSlot_d (S : Mem) (s1 : Nat) : f_X5_endsAfterSlot S s1 = (if S (8 + 5 * s1) 0 = 0 then ((nI 0, S)) else (if f_X1_isRequest S s1 (S 0 1) = 0 then (if f_X1_isRequest S s1 (S 0 1) = 0 then (if S 0 1 < S (8 + 5 * s1) 2 then ((nI 0, S)) else ((nI 1, f_X2_end S s1 (S 0 1)))) else ((nI 1, f_X2_end S s1 (S 0 1)))) else (if S (8 + 5 * s1) 4 = 0 then ((nI 0, f_X5_silenceAround S (gof S s1) s1 (S (8 + 5 * s1) 2))) else (if f_X1_isRequest S s1 (S 0 1) = 0 then (if S 0 1 < S (8 + 5 * s1) 2 then ((nI 0, S)) else ((nI 1, f_X2_end S s1 (S 0 1)))) else ((nI 1, f_X2_end S s1 (S 0 1))))))) := rfl
set_option maxHeartbeats 1000000 in
set_option maxRecDepth 100000 in
theorem c_X5_endsAfterSlot (l : Launch) (D : va_G) (cI cS : ClassId) (G : Nat → Nat) (S : Mem) (sz : Nat) (s1 : Nat) (h1 : s1 < 6) (hg : ¬ S (8 + 5 * s1) 0 = 0 → gOK S s1) : Met l yX5_endsAfterSlot wsX5_endsAfterSlot ({ frames := 5, cells := 0, slots := 0, locals := 109 } : Room) (wPc 36 (cF cI cS G) D (tY cI cS) G S sz [.ref (G 0), .int (nI s1)]) (mQi (f_X5_endsAfterSlot S s1) 36 (cF cI cS G) D G sz) 0 0 (fA 36 G sz) := by
  refine x_met (cc := cX5_endsAfterSlot) (maxL := 3) (ret := (some .boolean)) (by decide) rfl (Nat.le_of_ble_eq_true rfl) ?_
  intro p e s m below meth c ls hx hb hr hml hts hown hlocks hsz hP hK hD hN hl hnm
  subst hsz
  have hown : s.vm.findClass RX5 = some m.cls := hown
  have hl : lv_has ls 3 [(0, .ref (G 0)), (1, .int (nI s1))] := hl
  have hq := f_X5_endsAfterSlot_d S s1
  have hA : ∀ q : Nat, s.heap.size ≤ q → (fA 36 G s.heap.size) q := fun q h => Or.inr h
  have hS : va_S (fA 36 G s.heap.size) s.heap s.heap [] := va_S.rf
  refine lv_aload_n hx hb dX5_endsAfterSlot_0 rfl (lv_at hl 0 rfl) ?_
  refine lv_iload_n hx hb dX5_endsAfterSlot_1 rfl (lv_at hl 1 rfl) ?_
  refine x_pr (va_runV (As := [.int (nI s1)]) (rest := []) ⟨hx, hb, hml, hown, hts⟩ (c_X5_stationAt l D cI cS G S s.heap.size s1 (by omega)) (cwV 1 hts gX5_endsAfterSlot_X5_stationAt rfl rfl rfl (by decide +kernel) ⟨Nat.le_of_ble_eq_true rfl, Nat.le_of_ble_eq_true rfl⟩) ⟨wPc_blind, va_recv hK hP (ci := 5) (q0 := 0) rfl (WL_at (by decide) (cF_air _)), wPc_at hP hK hD hN⟩ rfl rfl hl.1 rfl (lv_room (Nat.le_of_ble_eq_true rfl)) dX5_endsAfterSlot_2 ⟨Nat.le_refl _, Nat.le_refl _⟩) hS hA (fun q h => h) (fun H locs hz hk hS => ?_)
  have hP := P_kept hP hk
  refine lv_astore_n (lv' := [(2, .ref (G (6 + 5 * s1))), (0, .ref (G 0)), (1, .int (nI s1))]) hx hb dX5_endsAfterSlot_5 rfl hl (by decide) rfl (fun ls hl => ?_)
  refine lv_aload_n hx hb dX5_endsAfterSlot_6 rfl (lv_at hl 0 rfl) ?_
  refine x_getN hx hb hts mm_X5_endsAfterSlot_X2 hown hK hP (6 + 5 * s1) (by omega) (cF_st _ _) rfl 1 (by decide) (hN.use nk_X5_108 rfl) rfl rfl dX5_endsAfterSlot_7 ?_
  refine x_getN hx hb hts mm_X5_endsAfterSlot_X1 hown hK hP (8 + 5 * s1) (by omega) (cF_sd _ _) rfl 0 (by decide) (hN.use nk_X5_112 rfl) rfl rfl dX5_endsAfterSlot_10 ?_
  refine lv_if_ne (tgt := 18) hx hb dX5_endsAfterSlot_13 (by decide) (fun c_1 => ?_) (fun c_1 => ?_)
  · have hq := hq.trans (if_neg c_1)
    have hg := hg c_1
    refine lv_aload_n hx hb dX5_endsAfterSlot_18 rfl (lv_at hl 0 rfl) ?_
    refine x_getN hx hb hts mm_X5_endsAfterSlot_X2 hown hK hP (6 + 5 * s1) (by omega) (cF_st _ _) rfl 1 (by decide) (hN.use nk_X5_108 rfl) rfl rfl dX5_endsAfterSlot_19 ?_
    refine lv_aload_n hx hb dX5_endsAfterSlot_22 rfl (lv_at hl 1 rfl) ?_
    refine x_get hx hb hts mm_X5_endsAfterSlot_X5 hown hK hP (0) (by decide) (cF_air _) rfl 4 (by decide) (hts _ lk_X5_endsAfterSlot_33) rfl rfl dX5_endsAfterSlot_23 ?_
    refine x_pi (va_runV (As := [.int (S 0 1)]) (rest := []) ⟨hx, hb, hml, hown, hts⟩ (c_X1_isRequest l D cI cS G S H.size s1 (S 0 1) (by omega)) (cwV 1 hts gX5_endsAfterSlot_X1_isRequest rfl rfl rfl (by decide +kernel) ⟨Nat.le_of_ble_eq_true rfl, Nat.le_of_ble_eq_true rfl⟩) ⟨wPc_blind, va_recv hK hP (ci := 1) (q0 := 8 + 5 * s1) rfl (WL_at (by omega) (cF_sd _ _)), wPc_at hP hK hD hN⟩ rfl rfl hl.1 rfl (lv_room (Nat.le_of_ble_eq_true rfl)) dX5_endsAfterSlot_26 ⟨Nat.le_refl _, Nat.le_refl _⟩) hS hA (fun q h => h) (fun H locs hz hk hS => ?_)
    have hP := P_kept hP hk
    refine lv_if_eq (tgt := 63) hx hb dX5_endsAfterSlot_29 (by decide) (fun c_2 => ?_) (fun c_2 => ?_)
    · have hq := hq.trans (if_pos c_2)
      refine lv_aload_n hx hb dX5_endsAfterSlot_63 rfl (lv_at hl 0 rfl) ?_
      refine x_getN hx hb hts mm_X5_endsAfterSlot_X2 hown hK hP (6 + 5 * s1) (by omega) (cF_st _ _) rfl 1 (by decide) (hN.use nk_X5_108 rfl) rfl rfl dX5_endsAfterSlot_64 ?_
      refine lv_aload_n hx hb dX5_endsAfterSlot_67 rfl (lv_at hl 1 rfl) ?_
      refine x_get hx hb hts mm_X5_endsAfterSlot_X5 hown hK hP (0) (by decide) (cF_air _) rfl 4 (by decide) (hts _ lk_X5_endsAfterSlot_33) rfl rfl dX5_endsAfterSlot_68 ?_
      refine x_pi (va_runV (As := [.int (S 0 1)]) (rest := []) ⟨hx, hb, hml, hown, hts⟩ (c_X1_isRequest l D cI cS G S H.size s1 (S 0 1) (by omega)) (cwV 1 hts gX5_endsAfterSlot_X1_isRequest rfl rfl rfl (by decide +kernel) ⟨Nat.le_of_ble_eq_true rfl, Nat.le_of_ble_eq_true rfl⟩) ⟨wPc_blind, va_recv hK hP (ci := 1) (q0 := 8 + 5 * s1) rfl (WL_at (by omega) (cF_sd _ _)), wPc_at hP hK hD hN⟩ rfl rfl hl.1 rfl (lv_room (Nat.le_of_ble_eq_true rfl)) dX5_endsAfterSlot_71 ⟨Nat.le_refl _, Nat.le_refl _⟩) hS hA (fun q h => h) (fun H locs hz hk hS => ?_)
      have hP := P_kept hP hk
      refine lv_if_ne (tgt := 91) hx hb dX5_endsAfterSlot_74 (by decide) (fun c_3 => ?_) (fun c_3 => ?_)
      · have hq := hq.trans (if_neg c_3)
        refine lv_aload_n hx hb dX5_endsAfterSlot_91 rfl (lv_at hl 0 rfl) ?_
        refine lv_aload_n hx hb dX5_endsAfterSlot_92 rfl (lv_at hl 1 rfl) ?_
        refine x_get hx hb hts mm_X5_endsAfterSlot_X5 hown hK hP (0) (by decide) (cF_air _) rfl 4 (by decide) (hts _ lk_X5_endsAfterSlot_33) rfl rfl dX5_endsAfterSlot_93 ?_
        refine x_mv (va_runV (As := [.int (S 0 1)]) (rest := []) ⟨hx, hb, hml, hown, hts⟩ (c_X2_end l D cI cS G S H.size s1 (S 0 1) (by omega)) (cwV 1 hts gX5_endsAfterSlot_X2_end rfl rfl rfl (by decide +kernel) ⟨Nat.le_of_ble_eq_true rfl, Nat.le_of_ble_eq_true rfl⟩) ⟨wPc_blind, va_recv hK hP (ci := 2) (q0 := 6 + 5 * s1) rfl (WL_at (by omega) (cF_st _ _)), wPc_at hP hK hD hN⟩ rfl rfl hl.1 rfl (lv_room (Nat.le_of_ble_eq_true rfl)) dX5_endsAfterSlot_96 ⟨Nat.le_refl _, Nat.le_refl _⟩) hS (fA_sub (hD S) (fun q h => hA q (Nat.le_trans hS.1 h))) (fun H locs hz hk hP hS => ?_)
        refine lv_iconst (v := nI 1) hx hb dX5_endsAfterSlot_99 (by decide) ?_
        exact x_ret_m hx hb hr rfl hlocks hP hS dX5_endsAfterSlot_100 hq
      · have hq := hq.trans (if_pos c_3)
        refine lv_aload_n hx hb dX5_endsAfterSlot_77 rfl (lv_at hl 1 rfl) ?_
        refine x_get hx hb hts mm_X5_endsAfterSlot_X5 hown hK hP (0) (by decide) (cF_air _) rfl 4 (by decide) (hts _ lk_X5_endsAfterSlot_33) rfl rfl dX5_endsAfterSlot_78 ?_
        refine lv_aload_n hx hb dX5_endsAfterSlot_81 rfl (lv_at hl 0 rfl) ?_
        refine x_getN hx hb hts mm_X5_endsAfterSlot_X2 hown hK hP (6 + 5 * s1) (by omega) (cF_st _ _) rfl 1 (by decide) (hN.use nk_X5_108 rfl) rfl rfl dX5_endsAfterSlot_82 ?_
        refine x_getN hx hb hts mm_X5_endsAfterSlot_X1 hown hK hP (8 + 5 * s1) (by omega) (cF_sd _ _) rfl 2 (by decide) (hN.use nk_X5_191 rfl) rfl rfl dX5_endsAfterSlot_85 ?_
        refine lv_icmp_lt (tgt := 101) hx hb dX5_endsAfterSlot_88 (by decide) (fun c_4 => ?_) (fun c_4 => ?_)
        · have hq := hq.trans (if_pos c_4)
          refine lv_iconst (v := nI 0) hx hb dX5_endsAfterSlot_101 (by decide) ?_
          exact x_ret_m hx hb hr rfl hlocks hP hS dX5_endsAfterSlot_102 hq
        · have hq := hq.trans (if_neg c_4)
          refine lv_aload_n hx hb dX5_endsAfterSlot_91 rfl (lv_at hl 0 rfl) ?_
          refine lv_aload_n hx hb dX5_endsAfterSlot_92 rfl (lv_at hl 1 rfl) ?_
          refine x_get hx hb hts mm_X5_endsAfterSlot_X5 hown hK hP (0) (by decide) (cF_air _) rfl 4 (by decide) (hts _ lk_X5_endsAfterSlot_33) rfl rfl dX5_endsAfterSlot_93 ?_
          refine x_mv (va_runV (As := [.int (S 0 1)]) (rest := []) ⟨hx, hb, hml, hown, hts⟩ (c_X2_end l D cI cS G S H.size s1 (S 0 1) (by omega)) (cwV 1 hts gX5_endsAfterSlot_X2_end rfl rfl rfl (by decide +kernel) ⟨Nat.le_of_ble_eq_true rfl, Nat.le_of_ble_eq_true rfl⟩) ⟨wPc_blind, va_recv hK hP (ci := 2) (q0 := 6 + 5 * s1) rfl (WL_at (by omega) (cF_st _ _)), wPc_at hP hK hD hN⟩ rfl rfl hl.1 rfl (lv_room (Nat.le_of_ble_eq_true rfl)) dX5_endsAfterSlot_96 ⟨Nat.le_refl _, Nat.le_refl _⟩) hS (fA_sub (hD S) (fun q h => hA q (Nat.le_trans hS.1 h))) (fun H locs hz hk hP hS => ?_)
          refine lv_iconst (v := nI 1) hx hb dX5_endsAfterSlot_99 (by decide) ?_
          exact x_ret_m hx hb hr rfl hlocks hP hS dX5_endsAfterSlot_100 hq
    · have hq := hq.trans (if_neg c_2)
      refine lv_aload_n hx hb dX5_endsAfterSlot_32 rfl (lv_at hl 0 rfl) ?_
      refine x_getN hx hb hts mm_X5_endsAfterSlot_X2 hown hK hP (6 + 5 * s1) (by omega) (cF_st _ _) rfl 1 (by decide) (hN.use nk_X5_108 rfl) rfl rfl dX5_endsAfterSlot_33 ?_
      refine x_getN hx hb hts mm_X5_endsAfterSlot_X1 hown hK hP (8 + 5 * s1) (by omega) (cF_sd _ _) rfl 4 (by decide) (hN.use nk_X5_188 rfl) rfl rfl dX5_endsAfterSlot_36 ?_
      refine lv_if_ne (tgt := 63) hx hb dX5_endsAfterSlot_39 (by decide) (fun c_5 => ?_) (fun c_5 => ?_)
      · have hq := hq.trans (if_neg c_5)
        refine lv_aload_n hx hb dX5_endsAfterSlot_63 rfl (lv_at hl 0 rfl) ?_
        refine x_getN hx hb hts mm_X5_endsAfterSlot_X2 hown hK hP (6 + 5 * s1) (by omega) (cF_st _ _) rfl 1 (by decide) (hN.use nk_X5_108 rfl) rfl rfl dX5_endsAfterSlot_64 ?_
        refine lv_aload_n hx hb dX5_endsAfterSlot_67 rfl (lv_at hl 1 rfl) ?_
        refine x_get hx hb hts mm_X5_endsAfterSlot_X5 hown hK hP (0) (by decide) (cF_air _) rfl 4 (by decide) (hts _ lk_X5_endsAfterSlot_33) rfl rfl dX5_endsAfterSlot_68 ?_
        refine x_pi (va_runV (As := [.int (S 0 1)]) (rest := []) ⟨hx, hb, hml, hown, hts⟩ (c_X1_isRequest l D cI cS G S H.size s1 (S 0 1) (by omega)) (cwV 1 hts gX5_endsAfterSlot_X1_isRequest rfl rfl rfl (by decide +kernel) ⟨Nat.le_of_ble_eq_true rfl, Nat.le_of_ble_eq_true rfl⟩) ⟨wPc_blind, va_recv hK hP (ci := 1) (q0 := 8 + 5 * s1) rfl (WL_at (by omega) (cF_sd _ _)), wPc_at hP hK hD hN⟩ rfl rfl hl.1 rfl (lv_room (Nat.le_of_ble_eq_true rfl)) dX5_endsAfterSlot_71 ⟨Nat.le_refl _, Nat.le_refl _⟩) hS hA (fun q h => h) (fun H locs hz hk hS => ?_)
        have hP := P_kept hP hk
        refine lv_if_ne (tgt := 91) hx hb dX5_endsAfterSlot_74 (by decide) (fun c_6 => ?_) (fun c_6 => ?_)
        · have hq := hq.trans (if_neg c_6)
          refine lv_aload_n hx hb dX5_endsAfterSlot_91 rfl (lv_at hl 0 rfl) ?_
          refine lv_aload_n hx hb dX5_endsAfterSlot_92 rfl (lv_at hl 1 rfl) ?_
          refine x_get hx hb hts mm_X5_endsAfterSlot_X5 hown hK hP (0) (by decide) (cF_air _) rfl 4 (by decide) (hts _ lk_X5_endsAfterSlot_33) rfl rfl dX5_endsAfterSlot_93 ?_
          refine x_mv (va_runV (As := [.int (S 0 1)]) (rest := []) ⟨hx, hb, hml, hown, hts⟩ (c_X2_end l D cI cS G S H.size s1 (S 0 1) (by omega)) (cwV 1 hts gX5_endsAfterSlot_X2_end rfl rfl rfl (by decide +kernel) ⟨Nat.le_of_ble_eq_true rfl, Nat.le_of_ble_eq_true rfl⟩) ⟨wPc_blind, va_recv hK hP (ci := 2) (q0 := 6 + 5 * s1) rfl (WL_at (by omega) (cF_st _ _)), wPc_at hP hK hD hN⟩ rfl rfl hl.1 rfl (lv_room (Nat.le_of_ble_eq_true rfl)) dX5_endsAfterSlot_96 ⟨Nat.le_refl _, Nat.le_refl _⟩) hS (fA_sub (hD S) (fun q h => hA q (Nat.le_trans hS.1 h))) (fun H locs hz hk hP hS => ?_)
          refine lv_iconst (v := nI 1) hx hb dX5_endsAfterSlot_99 (by decide) ?_
          exact x_ret_m hx hb hr rfl hlocks hP hS dX5_endsAfterSlot_100 hq
        · have hq := hq.trans (if_pos c_6)
          refine lv_aload_n hx hb dX5_endsAfterSlot_77 rfl (lv_at hl 1 rfl) ?_
          refine x_get hx hb hts mm_X5_endsAfterSlot_X5 hown hK hP (0) (by decide) (cF_air _) rfl 4 (by decide) (hts _ lk_X5_endsAfterSlot_33) rfl rfl dX5_endsAfterSlot_78 ?_
          refine lv_aload_n hx hb dX5_endsAfterSlot_81 rfl (lv_at hl 0 rfl) ?_
          refine x_getN hx hb hts mm_X5_endsAfterSlot_X2 hown hK hP (6 + 5 * s1) (by omega) (cF_st _ _) rfl 1 (by decide) (hN.use nk_X5_108 rfl) rfl rfl dX5_endsAfterSlot_82 ?_
          refine x_getN hx hb hts mm_X5_endsAfterSlot_X1 hown hK hP (8 + 5 * s1) (by omega) (cF_sd _ _) rfl 2 (by decide) (hN.use nk_X5_191 rfl) rfl rfl dX5_endsAfterSlot_85 ?_
          refine lv_icmp_lt (tgt := 101) hx hb dX5_endsAfterSlot_88 (by decide) (fun c_7 => ?_) (fun c_7 => ?_)
          · have hq := hq.trans (if_pos c_7)
            refine lv_iconst (v := nI 0) hx hb dX5_endsAfterSlot_101 (by decide) ?_
            exact x_ret_m hx hb hr rfl hlocks hP hS dX5_endsAfterSlot_102 hq
          · have hq := hq.trans (if_neg c_7)
            refine lv_aload_n hx hb dX5_endsAfterSlot_91 rfl (lv_at hl 0 rfl) ?_
            refine lv_aload_n hx hb dX5_endsAfterSlot_92 rfl (lv_at hl 1 rfl) ?_
            refine x_get hx hb hts mm_X5_endsAfterSlot_X5 hown hK hP (0) (by decide) (cF_air _) rfl 4 (by decide) (hts _ lk_X5_endsAfterSlot_33) rfl rfl dX5_endsAfterSlot_93 ?_
            refine x_mv (va_runV (As := [.int (S 0 1)]) (rest := []) ⟨hx, hb, hml, hown, hts⟩ (c_X2_end l D cI cS G S H.size s1 (S 0 1) (by omega)) (cwV 1 hts gX5_endsAfterSlot_X2_end rfl rfl rfl (by decide +kernel) ⟨Nat.le_of_ble_eq_true rfl, Nat.le_of_ble_eq_true rfl⟩) ⟨wPc_blind, va_recv hK hP (ci := 2) (q0 := 6 + 5 * s1) rfl (WL_at (by omega) (cF_st _ _)), wPc_at hP hK hD hN⟩ rfl rfl hl.1 rfl (lv_room (Nat.le_of_ble_eq_true rfl)) dX5_endsAfterSlot_96 ⟨Nat.le_refl _, Nat.le_refl _⟩) hS (fA_sub (hD S) (fun q h => hA q (Nat.le_trans hS.1 h))) (fun H locs hz hk hP hS => ?_)
            refine lv_iconst (v := nI 1) hx hb dX5_endsAfterSlot_99 (by decide) ?_
            exact x_ret_m hx hb hr rfl hlocks hP hS dX5_endsAfterSlot_100 hq
      · have hq := hq.trans (if_pos c_5)
        refine lv_aload_n hx hb dX5_endsAfterSlot_42 rfl (lv_at hl 1 rfl) ?_
        refine lv_aload_n hx hb dX5_endsAfterSlot_43 rfl (lv_at hl 0 rfl) ?_
        refine x_getN hx hb hts mm_X5_endsAfterSlot_X2 hown hK hP (6 + 5 * s1) (by omega) (cF_st _ _) rfl 0 (by decide) (hN.use nk_X5_86 rfl) rfl rfl dX5_endsAfterSlot_44 ?_
        refine x_pi (va_runV (As := []) (rest := [.ref (G 0)]) ⟨hx, hb, hml, hown, hts⟩ (c_X0_goalOfFirst l D cI cS G S H.size s1 (by omega)) (cwV 0 hts gX5_endsAfterSlot_X0_goalOfFirst rfl rfl rfl (by decide +kernel) ⟨Nat.le_of_ble_eq_true rfl, Nat.le_of_ble_eq_true rfl⟩) ⟨wPc_blind, va_recv hK hP (ci := 0) (q0 := 7 + 5 * s1) rfl (WL_at (by omega) (cF_row _ _)), wPc_at hP hK hD hN⟩ rfl rfl hl.1 rfl (lv_room (Nat.le_of_ble_eq_true rfl)) dX5_endsAfterSlot_47 ⟨Nat.le_refl _, Nat.le_refl _⟩) hS hA (fun q h => h) (fun H locs hz hk hS => ?_)
        have hP := P_kept hP hk
        refine x_top (y := nI (gof S s1)) (hg.1) ?_
        refine lv_iload_n hx hb dX5_endsAfterSlot_50 rfl (lv_at hl 2 rfl) ?_
        refine lv_aload_n hx hb dX5_endsAfterSlot_51 rfl (lv_at hl 0 rfl) ?_
        refine x_getN hx hb hts mm_X5_endsAfterSlot_X2 hown hK hP (6 + 5 * s1) (by omega) (cF_st _ _) rfl 1 (by decide) (hN.use nk_X5_108 rfl) rfl rfl dX5_endsAfterSlot_52 ?_
        refine x_getN hx hb hts mm_X5_endsAfterSlot_X1 hown hK hP (8 + 5 * s1) (by omega) (cF_sd _ _) rfl 2 (by decide) (hN.use nk_X5_191 rfl) rfl rfl dX5_endsAfterSlot_55 ?_
        refine x_mv (va_runV (As := [.int (nI (gof S s1)), .int (nI s1), .int (S (8 + 5 * s1) 2)]) (rest := []) ⟨hx, hb, hml, hown, hts⟩ (c_X5_silenceAround l D cI cS G S H.size (gof S s1) s1 (S (8 + 5 * s1) 2) hg.2 h1) (cwV 3 hts gX5_endsAfterSlot_X5_silenceAround rfl rfl rfl (by decide +kernel) ⟨Nat.le_of_ble_eq_true rfl, Nat.le_of_ble_eq_true rfl⟩) ⟨wPc_blind, va_recv hK hP (ci := 5) (q0 := 0) rfl (WL_at (by decide) (cF_air _)), wPc_at hP hK hD hN⟩ rfl rfl hl.1 rfl (lv_room (Nat.le_of_ble_eq_true rfl)) dX5_endsAfterSlot_58 ⟨Nat.le_refl _, Nat.le_refl _⟩) hS (fA_sub (hD S) (fun q h => hA q (Nat.le_trans hS.1 h))) (fun H locs hz hk hP hS => ?_)
        refine lv_iconst (v := nI 0) hx hb dX5_endsAfterSlot_61 (by decide) ?_
        exact x_ret_m hx hb hr rfl hlocks hP hS dX5_endsAfterSlot_62 hq
  · have hq := hq.trans (if_pos c_1)
    refine lv_iconst (v := nI 0) hx hb dX5_endsAfterSlot_16 (by decide) ?_
    exact x_ret_m hx hb hr rfl hlocks hP hS dX5_endsAfterSlot_17 hq
end
section
def itr (f : Nat → Mem → Mem) (S : Mem) : Nat → Mem
  | 0 => S
  | n + 1 => f n (itr f S n)
theorem itr_0 (f : Nat → Mem → Mem) (S : Mem) : itr f S 0 = S := rfl
theorem itr_s (f : Nat → Mem → Mem) (S : Mem) (n : Nat) : itr f S (n + 1) = f n (itr f S n) := rfl

theorem mm_X5_passOneSlot_X5 : ∀ w ∈ wsX50, w ∈ wsX5_passOneSlot := by decide +kernel
theorem lk_X5_passOneSlot_33 : Cond.fieldLink RX5 33 "BackofficeAir" "slot" "I" ∈ wsX5_passOneSlot := by decide +kernel
def f_X5_passOneSlot_L3 : Nat → Nat → Mem → Int32 → Int32 × Mem
  | 0, i, S_L3, b => (b, S_L3)
  | n + 1, i, S_L3, b => if (f_X5_endsAfterSlot S_L3 i).1 = 0 then (f_X5_passOneSlot_L3 n (i + 1) ((f_X5_endsAfterSlot S_L3 i).2) b) else (f_X5_passOneSlot_L3 n (i + 1) ((f_X5_endsAfterSlot S_L3 i).2) (b + Int32.ofInt 1))
theorem f_X5_passOneSlot_L3_z (i : Nat) (S_L3 : Mem) (b : Int32) : f_X5_passOneSlot_L3  0 i S_L3 b = ((b, S_L3)) := rfl
theorem f_X5_passOneSlot_L3_s (n : Nat) (i : Nat) (S_L3 : Mem) (b : Int32) : f_X5_passOneSlot_L3  (n + 1) i S_L3 b = (if (f_X5_endsAfterSlot S_L3 i).1 = 0 then (f_X5_passOneSlot_L3 n (i + 1) ((f_X5_endsAfterSlot S_L3 i).2) b) else (f_X5_passOneSlot_L3 n (i + 1) ((f_X5_endsAfterSlot S_L3 i).2) (b + Int32.ofInt 1))) := rfl
def f_X5_passOneSlot_L3_b (i : Nat) (S_L3 : Mem) : Mem := if (f_X5_endsAfterSlot S_L3 i).1 = 0 then ((f_X5_endsAfterSlot S_L3 i).2) else ((f_X5_endsAfterSlot S_L3 i).2)
theorem f_X5_passOneSlot_L3_b_d (i : Nat) (S_L3 : Mem) : f_X5_passOneSlot_L3_b i S_L3 = (if (f_X5_endsAfterSlot S_L3 i).1 = 0 then ((f_X5_endsAfterSlot S_L3 i).2) else ((f_X5_endsAfterSlot S_L3 i).2)) := rfl
def f_X5_passOneSlot_L2 : Nat → Nat → Mem → Int32 × Mem
  | 0, i, S_L2 => f_X5_passOneSlot_L3 6 0 S_L2 (nI 0)
  | n + 1, i, S_L2 => f_X5_passOneSlot_L2 n (i + 1) (f_X5_sendInSlot S_L2 i)
theorem f_X5_passOneSlot_L2_z (i : Nat) (S_L2 : Mem) : f_X5_passOneSlot_L2  0 i S_L2 = (f_X5_passOneSlot_L3 6 0 S_L2 (nI 0)) := rfl
theorem f_X5_passOneSlot_L2_s (n : Nat) (i : Nat) (S_L2 : Mem) : f_X5_passOneSlot_L2  (n + 1) i S_L2 = (f_X5_passOneSlot_L2 n (i + 1) (f_X5_sendInSlot S_L2 i)) := rfl
def f_X5_passOneSlot_L2_b (i : Nat) (S_L2 : Mem) : Mem := f_X5_sendInSlot S_L2 i
theorem f_X5_passOneSlot_L2_b_d (i : Nat) (S_L2 : Mem) : f_X5_passOneSlot_L2_b i S_L2 = (f_X5_sendInSlot S_L2 i) := rfl
def f_X5_passOneSlot_L1 : Nat → Nat → Mem → Int32 × Mem
  | 0, i, S_L1 => f_X5_passOneSlot_L2 6 0 S_L1
  | n + 1, i, S_L1 => f_X5_passOneSlot_L1 n (i + 1) (f_X5_waitOrBegin S_L1 i)
theorem f_X5_passOneSlot_L1_z (i : Nat) (S_L1 : Mem) : f_X5_passOneSlot_L1  0 i S_L1 = (f_X5_passOneSlot_L2 6 0 S_L1) := rfl
theorem f_X5_passOneSlot_L1_s (n : Nat) (i : Nat) (S_L1 : Mem) : f_X5_passOneSlot_L1  (n + 1) i S_L1 = (f_X5_passOneSlot_L1 n (i + 1) (f_X5_waitOrBegin S_L1 i)) := rfl
def f_X5_passOneSlot_L1_b (i : Nat) (S_L1 : Mem) : Mem := f_X5_waitOrBegin S_L1 i
theorem f_X5_passOneSlot_L1_b_d (i : Nat) (S_L1 : Mem) : f_X5_passOneSlot_L1_b i S_L1 = (f_X5_waitOrBegin S_L1 i) := rfl
def ct0 (S : Mem) : Mem := ub S 0 1 ((S 0 1) + (nI 1))
def ct1 (S : Mem) (i : Nat) : Mem := itr f_X5_passOneSlot_L1_b (ct0 S) i
def ct2 (S : Mem) (i : Nat) : Mem := itr f_X5_passOneSlot_L2_b (ct1 S 6) i
def ct3 (S : Mem) (i : Nat) : Mem := itr f_X5_passOneSlot_L3_b (ct2 S 6) i
theorem ct1_0 (S : Mem) : ct1 S 0 = ub S 0 1 ((S 0 1) + (nI 1)) := itr_0 _ _
theorem ct1_s (S : Mem) (i : Nat) : ct1 S (i + 1) = f_X5_passOneSlot_L1_b i (ct1 S i) := itr_s _ _ _
theorem ct2_0 (S : Mem) : ct2 S 0 = ct1 S 6 := itr_0 _ _
theorem ct2_s (S : Mem) (i : Nat) : ct2 S (i + 1) = f_X5_passOneSlot_L2_b i (ct2 S i) := itr_s _ _ _
theorem ct3_0 (S : Mem) : ct3 S 0 = ct2 S 6 := itr_0 _ _
theorem ct3_s (S : Mem) (i : Nat) : ct3 S (i + 1) = f_X5_passOneSlot_L3_b i (ct3 S i) := itr_s _ _ _
def pOK (S : Mem) : Prop := (∀ i, i < 6 → ct1 S i 4 0 = nI (kN (ct1 S i 4 0)) ∧ kN (ct1 S i 4 0) < 200) ∧ (∀ i, i < 6 → ¬ ct2 S i (8 + 5 * i) 0 = 0 → gOK (ct2 S i) i) ∧ ∀ i, i < 6 → ¬ ct3 S i (8 + 5 * i) 0 = 0 → gOK (ct3 S i) i
def f_X5_passOneSlot (S : Mem) : Int32 × Mem := f_X5_passOneSlot_L1 6 0 (ub S 0 1 ((S 0 1) + (nI 1)))
theorem f_X5_passOneSlot_d (S : Mem) : f_X5_passOneSlot S = (f_X5_passOneSlot_L1 6 0 (ub S 0 1 ((S 0 1) + (nI 1)))) := rfl
set_option maxHeartbeats 1000000 in
set_option maxRecDepth 100000 in
theorem c_X5_passOneSlot (l : Launch) (D : va_G) (cI cS : ClassId) (G : Nat → Nat) (S : Mem) (sz : Nat) (hp : pOK S) : Met l yX5_passOneSlot wsX5_passOneSlot ({ frames := 6, cells := 0, slots := 0, locals := 132 } : Room) (wPc 36 (cF cI cS G) D (tY cI cS) G S sz [.ref (G 0)]) (mQi (f_X5_passOneSlot S) 36 (cF cI cS G) D G sz) 0 0 (fA 36 G sz) := by
  refine x_met (cc := cX5_passOneSlot) (maxL := 3) (ret := (some .int)) (by decide) rfl (Nat.le_of_ble_eq_true rfl) ?_
  intro p e s m below meth c ls hx hb hr hml hts hown hlocks hsz hP hK hD hN hl hnm
  subst hsz
  have hown : s.vm.findClass RX5 = some m.cls := hown
  have hl : lv_has ls 3 [(0, .ref (G 0))] := hl
  have hq := f_X5_passOneSlot_d S
  have hA : ∀ q : Nat, s.heap.size ≤ q → (fA 36 G s.heap.size) q := fun q h => Or.inr h
  have hS : va_S (fA 36 G s.heap.size) s.heap s.heap [] := va_S.rf
  refine lv_aload_n hx hb dX5_passOneSlot_0 rfl (lv_at hl 0 rfl) ?_
  refine lv_dup hx hb dX5_passOneSlot_1 rfl ?_
  refine x_get hx hb hts mm_X5_passOneSlot_X5 hown hK hP (0) (by decide) (cF_air _) rfl 4 (by decide) (hts _ lk_X5_passOneSlot_33) rfl rfl dX5_passOneSlot_2 ?_
  refine lv_iconst (v := nI 1) hx hb dX5_passOneSlot_5 (by decide) ?_
  refine lv_iadd hx hb dX5_passOneSlot_6 ?_
  refine x_put hx hb hts mm_X5_passOneSlot_X5 tyX5 tyX5_ok nmX5 hown hK hP hD hS 0 (by decide) (cF_air _) rfl 4 (by decide) (hts _ lk_X5_passOneSlot_33) rfl rfl rfl rfl rfl (Nat.le_of_ble_eq_true rfl) 1 (cF_air _) dX5_passOneSlot_7 (fun H locs hP hS => ?_)
  refine lv_iconst (v := nI 0) hx hb dX5_passOneSlot_10 (by decide) ?_
  refine lv_istore_n (lv' := [(1, .int (nI 0)), (0, .ref (G 0))]) hx hb dX5_passOneSlot_11 rfl hl (by decide) rfl (fun ls hl => ?_)
  have L1 : ∀ (n : Nat) (i : Nat) (S_L1 : Mem) (H : Heap) (locs : List Loc) (ls : Array Slot), i + n = 6 → f_X5_passOneSlot S = f_X5_passOneSlot_L1 n i S_L1 → (S_L1 = ct1 S i) → va_P D vwCl (WL 36 G (cF cI cS G) S_L1) H → va_S (fA 36 G s.heap.size) s.heap H locs → lv_has ls 3 [(1, .int (nI i)), (0, .ref (G 0))] → W p l e ({ frames := 6, cells := 0, slots := 0, locals := 132 } : Room) s m ([.ref (G 0)] : List Value).toArray below meth c H locs 0 0 (MQ below (mQi (f_X5_passOneSlot S) 36 (cF cI cS G) D G s.heap.size) ([.ref (G 0)] : List Value).toArray s 0 0 (fA 36 G s.heap.size)) (F0 m 12 ls []) := by
    intro n
    induction n with
    | zero =>
      intro i S_L1 H locs ls hin hq hv hP hS hl
      have hq := hq.trans (f_X5_passOneSlot_L1_z _ _)
      refine lv_iload_n hx hb dX5_passOneSlot_12 rfl (lv_at hl 0 rfl) ?_
      refine lv_bipush (v := nI 6) hx hb dX5_passOneSlot_13 (by decide) ?_
      refine lv_icmp_ge (tgt := 29) hx hb dX5_passOneSlot_15 (by decide) (fun _ => ?_) (fun c_1 => absurd (nI_le (by omega) (by omega)) c_1) 
      refine lv_iconst (v := nI 0) hx hb dX5_passOneSlot_29 (by decide) ?_
      refine lv_istore_n (lv' := [(1, .int (nI 0)), (0, .ref (G 0))]) hx hb dX5_passOneSlot_30 rfl hl (by decide) rfl (fun ls hl => ?_)
      have L2 : ∀ (n : Nat) (i : Nat) (S_L2 : Mem) (H : Heap) (locs : List Loc) (ls : Array Slot), i + n = 6 → f_X5_passOneSlot S = f_X5_passOneSlot_L2 n i S_L2 → (S_L2 = ct2 S i) → va_P D vwCl (WL 36 G (cF cI cS G) S_L2) H → va_S (fA 36 G s.heap.size) s.heap H locs → lv_has ls 3 [(1, .int (nI i)), (0, .ref (G 0))] → W p l e ({ frames := 6, cells := 0, slots := 0, locals := 132 } : Room) s m ([.ref (G 0)] : List Value).toArray below meth c H locs 0 0 (MQ below (mQi (f_X5_passOneSlot S) 36 (cF cI cS G) D G s.heap.size) ([.ref (G 0)] : List Value).toArray s 0 0 (fA 36 G s.heap.size)) (F0 m 31 ls []) := by
        intro n
        induction n with
        | zero =>
          intro i S_L2 H locs ls hin hq hv hP hS hl
          have hq := hq.trans (f_X5_passOneSlot_L2_z _ _)
          refine lv_iload_n hx hb dX5_passOneSlot_31 rfl (lv_at hl 0 rfl) ?_
          refine lv_bipush (v := nI 6) hx hb dX5_passOneSlot_32 (by decide) ?_
          refine lv_icmp_ge (tgt := 48) hx hb dX5_passOneSlot_34 (by decide) (fun _ => ?_) (fun c_2 => absurd (nI_le (by omega) (by omega)) c_2) 
          refine lv_iconst (v := nI 0) hx hb dX5_passOneSlot_48 (by decide) ?_
          refine lv_istore_n (lv' := [(1, .int (nI 0)), (0, .ref (G 0))]) hx hb dX5_passOneSlot_49 rfl hl (by decide) rfl (fun ls hl => ?_)
          refine lv_iconst (v := nI 0) hx hb dX5_passOneSlot_50 (by decide) ?_
          refine lv_istore_n (lv' := [(2, .int (nI 0)), (1, .int (nI 0)), (0, .ref (G 0))]) hx hb dX5_passOneSlot_51 rfl hl (by decide) rfl (fun ls hl => ?_)
          have L3 : ∀ (n : Nat) (i : Nat) (S_L3 : Mem) (b : Int32) (H : Heap) (locs : List Loc) (ls : Array Slot), i + n = 6 → f_X5_passOneSlot S = f_X5_passOneSlot_L3 n i S_L3 b → (S_L3 = ct3 S i) → va_P D vwCl (WL 36 G (cF cI cS G) S_L3) H → va_S (fA 36 G s.heap.size) s.heap H locs → lv_has ls 3 [(2, .int (nI i)), (1, .int b), (0, .ref (G 0))] → W p l e ({ frames := 6, cells := 0, slots := 0, locals := 132 } : Room) s m ([.ref (G 0)] : List Value).toArray below meth c H locs 0 0 (MQ below (mQi (f_X5_passOneSlot S) 36 (cF cI cS G) D G s.heap.size) ([.ref (G 0)] : List Value).toArray s 0 0 (fA 36 G s.heap.size)) (F0 m 52 ls []) := by
            intro n
            induction n with
            | zero =>
              intro i S_L3 b H locs ls hin hq hv hP hS hl
              have hq := hq.trans (f_X5_passOneSlot_L3_z _ _ _)
              refine lv_iload_n hx hb dX5_passOneSlot_52 rfl (lv_at hl 0 rfl) ?_
              refine lv_bipush (v := nI 6) hx hb dX5_passOneSlot_53 (by decide) ?_
              refine lv_icmp_ge (tgt := 75) hx hb dX5_passOneSlot_55 (by decide) (fun _ => ?_) (fun c_3 => absurd (nI_le (by omega) (by omega)) c_3) 
              refine lv_iload_n hx hb dX5_passOneSlot_75 rfl (lv_at hl 1 rfl) ?_
              exact x_ret_m hx hb hr rfl hlocks hP hS dX5_passOneSlot_76 hq
            | succ n ih =>
              intro i S_L3 b H locs ls hin hq hv hP hS hl
              have hq := hq.trans (f_X5_passOneSlot_L3_s _ _ _ _)
              refine lv_iload_n hx hb dX5_passOneSlot_52 rfl (lv_at hl 0 rfl) ?_
              refine lv_bipush (v := nI 6) hx hb dX5_passOneSlot_53 (by decide) ?_
              refine lv_icmp_ge (tgt := 75) hx hb dX5_passOneSlot_55 (by decide) (fun c_4 => absurd c_4 (nI_ge (by omega) (by omega))) (fun _ => ?_)
              refine lv_aload_n hx hb dX5_passOneSlot_58 rfl (lv_at hl 2 rfl) ?_
              refine lv_iload_n hx hb dX5_passOneSlot_59 rfl (lv_at hl 0 rfl) ?_
              refine x_mi (va_runV (As := [.int (nI i)]) (rest := []) ⟨hx, hb, hml, hown, hts⟩ (c_X5_endsAfterSlot l D cI cS G S_L3 H.size i (by omega) (by rw [hv]; exact hp.2.2 i (by omega))) (cwV 1 hts gX5_passOneSlot_X5_endsAfterSlot rfl rfl rfl (by decide +kernel) ⟨Nat.le_of_ble_eq_true rfl, Nat.le_of_ble_eq_true rfl⟩) ⟨wPc_blind, va_recv hK hP (ci := 5) (q0 := 0) rfl (WL_at (by decide) (cF_air _)), wPc_at hP hK hD hN⟩ rfl rfl hl.1 rfl (lv_room (Nat.le_of_ble_eq_true rfl)) dX5_passOneSlot_60 ⟨Nat.le_refl _, Nat.le_refl _⟩) hS (fA_sub (hD S) (fun q h => hA q (Nat.le_trans hS.1 h))) (fun H locs hz hk hP hS => ?_)
              refine lv_if_eq (tgt := 69) hx hb dX5_passOneSlot_63 (by decide) (fun c_5 => ?_) (fun c_5 => ?_)
              · have hq := hq.trans (if_pos c_5)
                refine lv_iinc (v := nI (i + 1)) (lv' := [(2, .int (nI (i + 1))), (1, .int b), (0, .ref (G 0))]) hx hb dX5_passOneSlot_69 hl (k := 0) rfl (nI_add _ _) (by decide) rfl (fun ls hl => ?_)
                refine lv_goto (tgt := 52) hx hb dX5_passOneSlot_72 (by decide) ?_
                have hB : f_X5_passOneSlot_L3_b i S_L3 = (f_X5_endsAfterSlot S_L3 i).2 := ((f_X5_passOneSlot_L3_b_d _ _).trans (if_pos c_5))
                exact ih (i + 1) ((f_X5_endsAfterSlot S_L3 i).2) b H locs ls (by omega) hq (hB.symm.trans ((congrArg _ hv).trans (ct3_s S i).symm)) hP hS (lv_sub hl [0, 1, 2] rfl)
              · have hq := hq.trans (if_neg c_5)
                refine lv_iinc (v := b + Int32.ofInt 1) (lv' := [(1, .int (b + Int32.ofInt 1)), (2, .int (nI i)), (0, .ref (G 0))]) hx hb dX5_passOneSlot_66 hl (k := 1) rfl rfl (by decide) rfl (fun ls hl => ?_)
                refine lv_iinc (v := nI (i + 1)) (lv' := [(2, .int (nI (i + 1))), (1, .int (b + Int32.ofInt 1)), (0, .ref (G 0))]) hx hb dX5_passOneSlot_69 hl (k := 1) rfl (nI_add _ _) (by decide) rfl (fun ls hl => ?_)
                refine lv_goto (tgt := 52) hx hb dX5_passOneSlot_72 (by decide) ?_
                have hB : f_X5_passOneSlot_L3_b i S_L3 = (f_X5_endsAfterSlot S_L3 i).2 := ((f_X5_passOneSlot_L3_b_d _ _).trans (if_neg c_5))
                exact ih (i + 1) ((f_X5_endsAfterSlot S_L3 i).2) (b + Int32.ofInt 1) H locs ls (by omega) hq (hB.symm.trans ((congrArg _ hv).trans (ct3_s S i).symm)) hP hS (lv_sub hl [0, 1, 2] rfl)
          exact L3 6 0 S_L2 (nI 0) _ _ _ (by omega) hq (hv.trans ((congrArg (ct2 S) (show i = 6 by omega)).trans (ct3_0 S).symm)) hP hS (lv_sub hl [0, 1, 2] rfl)
        | succ n ih =>
          intro i S_L2 H locs ls hin hq hv hP hS hl
          have hq := hq.trans (f_X5_passOneSlot_L2_s _ _ _)
          refine lv_iload_n hx hb dX5_passOneSlot_31 rfl (lv_at hl 0 rfl) ?_
          refine lv_bipush (v := nI 6) hx hb dX5_passOneSlot_32 (by decide) ?_
          refine lv_icmp_ge (tgt := 48) hx hb dX5_passOneSlot_34 (by decide) (fun c_6 => absurd c_6 (nI_ge (by omega) (by omega))) (fun _ => ?_)
          refine lv_aload_n hx hb dX5_passOneSlot_37 rfl (lv_at hl 1 rfl) ?_
          refine lv_iload_n hx hb dX5_passOneSlot_38 rfl (lv_at hl 0 rfl) ?_
          refine x_mv (va_runV (As := [.int (nI i)]) (rest := []) ⟨hx, hb, hml, hown, hts⟩ (c_X5_sendInSlot l D cI cS G S_L2 H.size i (by omega) (by rw [hv]; exact hp.2.1 i (by omega))) (cwV 1 hts gX5_passOneSlot_X5_sendInSlot rfl rfl rfl (by decide +kernel) ⟨Nat.le_of_ble_eq_true rfl, Nat.le_of_ble_eq_true rfl⟩) ⟨wPc_blind, va_recv hK hP (ci := 5) (q0 := 0) rfl (WL_at (by decide) (cF_air _)), wPc_at hP hK hD hN⟩ rfl rfl hl.1 rfl (lv_room (Nat.le_of_ble_eq_true rfl)) dX5_passOneSlot_39 ⟨Nat.le_refl _, Nat.le_refl _⟩) hS (fA_sub (hD S) (fun q h => hA q (Nat.le_trans hS.1 h))) (fun H locs hz hk hP hS => ?_)
          refine lv_iinc (v := nI (i + 1)) (lv' := [(1, .int (nI (i + 1))), (0, .ref (G 0))]) hx hb dX5_passOneSlot_42 hl (k := 0) rfl (nI_add _ _) (by decide) rfl (fun ls hl => ?_)
          refine lv_goto (tgt := 31) hx hb dX5_passOneSlot_45 (by decide) ?_
          have hB : f_X5_passOneSlot_L2_b i S_L2 = f_X5_sendInSlot S_L2 i := (f_X5_passOneSlot_L2_b_d _ _)
          exact ih (i + 1) (f_X5_sendInSlot S_L2 i) H locs ls (by omega) hq (hB.symm.trans ((congrArg _ hv).trans (ct2_s S i).symm)) hP hS (lv_sub hl [0, 1] rfl)
      exact L2 6 0 S_L1 _ _ _ (by omega) hq (hv.trans ((congrArg (ct1 S) (show i = 6 by omega)).trans (ct2_0 S).symm)) hP hS (lv_sub hl [0, 1] rfl)
    | succ n ih =>
      intro i S_L1 H locs ls hin hq hv hP hS hl
      have hq := hq.trans (f_X5_passOneSlot_L1_s _ _ _)
      refine lv_iload_n hx hb dX5_passOneSlot_12 rfl (lv_at hl 0 rfl) ?_
      refine lv_bipush (v := nI 6) hx hb dX5_passOneSlot_13 (by decide) ?_
      refine lv_icmp_ge (tgt := 29) hx hb dX5_passOneSlot_15 (by decide) (fun c_7 => absurd c_7 (nI_ge (by omega) (by omega))) (fun _ => ?_)
      refine lv_aload_n hx hb dX5_passOneSlot_18 rfl (lv_at hl 1 rfl) ?_
      refine lv_iload_n hx hb dX5_passOneSlot_19 rfl (lv_at hl 0 rfl) ?_
      refine x_mv (va_runV (As := [.int (nI i)]) (rest := []) ⟨hx, hb, hml, hown, hts⟩ (c_X5_waitOrBegin l D cI cS G S_L1 H.size i (by omega) (by rw [hv]; exact (hp.1 i (by omega)).1) (by rw [hv]; exact (hp.1 i (by omega)).2)) (cwV 1 hts gX5_passOneSlot_X5_waitOrBegin rfl rfl rfl (by decide +kernel) ⟨Nat.le_of_ble_eq_true rfl, Nat.le_of_ble_eq_true rfl⟩) ⟨wPc_blind, va_recv hK hP (ci := 5) (q0 := 0) rfl (WL_at (by decide) (cF_air _)), wPc_at hP hK hD hN⟩ rfl rfl hl.1 rfl (lv_room (Nat.le_of_ble_eq_true rfl)) dX5_passOneSlot_20 ⟨Nat.le_refl _, Nat.le_refl _⟩) hS (fA_sub (hD S) (fun q h => hA q (Nat.le_trans hS.1 h))) (fun H locs hz hk hP hS => ?_)
      refine lv_iinc (v := nI (i + 1)) (lv' := [(1, .int (nI (i + 1))), (0, .ref (G 0))]) hx hb dX5_passOneSlot_23 hl (k := 0) rfl (nI_add _ _) (by decide) rfl (fun ls hl => ?_)
      refine lv_goto (tgt := 12) hx hb dX5_passOneSlot_26 (by decide) ?_
      have hB : f_X5_passOneSlot_L1_b i S_L1 = f_X5_waitOrBegin S_L1 i := (f_X5_passOneSlot_L1_b_d _ _)
      exact ih (i + 1) (f_X5_waitOrBegin S_L1 i) H locs ls (by omega) hq (hB.symm.trans ((congrArg _ hv).trans (ct1_s S i).symm)) hP hS (lv_sub hl [0, 1] rfl)
  exact L1 6 0 (ub S 0 1 ((S 0 1) + (nI 1))) _ _ _ (by omega) hq (ct1_0 S).symm hP hS (lv_sub hl [0, 1] rfl)
end
section
theorem mm_X5_setStrength_X5 : ∀ w ∈ wsX50, w ∈ wsX5_setStrength := by decide +kernel
theorem lk_X5_setStrength_18 : Cond.fieldLink RX5 18 "BackofficeAir" "strengths" "LBackofficeAir$Strengths;" ∈ wsX5_setStrength := by decide +kernel
def f_X5_setStrength (S : Mem) (a : Nat) (b : Nat) (v : Int32) : Int32 × Mem := (f_X3_between S a b, f_X3_put S a b v)
theorem f_X5_setStrength_d (S : Mem) (a : Nat) (b : Nat) (v : Int32) : f_X5_setStrength S a b v = ((f_X3_between S a b, f_X3_put S a b v)) := rfl
set_option maxHeartbeats 1000000 in
set_option maxRecDepth 100000 in
theorem c_X5_setStrength (l : Launch) (D : va_G) (cI cS : ClassId) (G : Nat → Nat) (S : Mem) (sz : Nat) (a : Nat) (b : Nat) (v : Int32) (ha : a < 6) (hb6 : b < 6) (hv1 : ¬ v < 0) (hv2 : v ≤ nI 9) (hne : ¬ nI a = nI b) : Met l yX5_setStrength wsX5_setStrength ({ frames := 4, cells := 0, slots := 0, locals := 86 } : Room) (wPc 36 (cF cI cS G) D (tY cI cS) G S sz [.ref (G 0), .int (nI a), .int (nI b), .int v]) (mQi (f_X5_setStrength S a b v) 36 (cF cI cS G) D G sz) 0 0 (fA 36 G sz) := by
  refine x_met (cc := cX5_setStrength) (maxL := 5) (ret := (some .int)) (by decide) rfl (Nat.le_of_ble_eq_true rfl) ?_
  intro p e s m below meth c ls hx hb hr hml hts hown hlocks hsz hP hK hD hN hl hnm
  subst hsz
  have hown : s.vm.findClass RX5 = some m.cls := hown
  have hl : lv_has ls 5 [(0, .ref (G 0)), (1, .int (nI a)), (2, .int (nI b)), (3, .int v)] := hl
  have hq := f_X5_setStrength_d S a b v
  have hA : ∀ q : Nat, s.heap.size ≤ q → (fA 36 G s.heap.size) q := fun q h => Or.inr h
  have hS : va_S (fA 36 G s.heap.size) s.heap s.heap [] := va_S.rf
  refine lv_aload_n hx hb dX5_setStrength_0 rfl (lv_at hl 0 rfl) ?_
  refine lv_iload_n hx hb dX5_setStrength_1 rfl (lv_at hl 1 rfl) ?_
  refine x_pr (va_runV (As := [.int (nI a)]) (rest := []) ⟨hx, hb, hml, hown, hts⟩ (c_X5_stationAt l D cI cS G S s.heap.size a (by omega)) (cwV 1 hts gX5_setStrength_X5_stationAt rfl rfl rfl (by decide +kernel) ⟨Nat.le_of_ble_eq_true rfl, Nat.le_of_ble_eq_true rfl⟩) ⟨wPc_blind, va_recv hK hP (ci := 5) (q0 := 0) rfl (WL_at (by decide) (cF_air _)), wPc_at hP hK hD hN⟩ rfl rfl hl.1 rfl (lv_room (Nat.le_of_ble_eq_true rfl)) dX5_setStrength_2 ⟨Nat.le_refl _, Nat.le_refl _⟩) hS hA (fun q h => h) (fun H locs hz hk hS => ?_)
  have hP := P_kept hP hk
  refine lv_pop hx hb dX5_setStrength_5 rfl ?_
  refine lv_aload_n hx hb dX5_setStrength_6 rfl (lv_at hl 0 rfl) ?_
  refine lv_iload_n hx hb dX5_setStrength_7 rfl (lv_at hl 2 rfl) ?_
  refine x_pr (va_runV (As := [.int (nI b)]) (rest := []) ⟨hx, hb, hml, hown, hts⟩ (c_X5_stationAt l D cI cS G S H.size b (by omega)) (cwV 1 hts gX5_setStrength_X5_stationAt rfl rfl rfl (by decide +kernel) ⟨Nat.le_of_ble_eq_true rfl, Nat.le_of_ble_eq_true rfl⟩) ⟨wPc_blind, va_recv hK hP (ci := 5) (q0 := 0) rfl (WL_at (by decide) (cF_air _)), wPc_at hP hK hD hN⟩ rfl rfl hl.1 rfl (lv_room (Nat.le_of_ble_eq_true rfl)) dX5_setStrength_8 ⟨Nat.le_refl _, Nat.le_refl _⟩) hS hA (fun q h => h) (fun H locs hz hk hS => ?_)
  have hP := P_kept hP hk
  refine lv_pop hx hb dX5_setStrength_11 rfl ?_
  refine lv_iload_n hx hb dX5_setStrength_12 rfl (lv_at hl 3 rfl) ?_
  refine lv_if_lt (tgt := 22) hx hb dX5_setStrength_13 (by decide) (fun c_1 => absurd c_1 hv1) (fun _ => ?_)
  refine lv_iload_n hx hb dX5_setStrength_16 rfl (lv_at hl 3 rfl) ?_
  refine lv_bipush (v := nI 9) hx hb dX5_setStrength_17 (by decide) ?_
  refine lv_icmp_le (tgt := 32) hx hb dX5_setStrength_19 (by decide) (fun _ => ?_) (fun c_2 => absurd hv2 c_2) 
  refine lv_iload_n hx hb dX5_setStrength_32 rfl (lv_at hl 1 rfl) ?_
  refine lv_iload_n hx hb dX5_setStrength_33 rfl (lv_at hl 2 rfl) ?_
  refine lv_icmp_ne (tgt := 47) hx hb dX5_setStrength_34 (by decide) (fun _ => ?_) (fun c_3 => absurd c_3 hne)
  refine lv_aload_n hx hb dX5_setStrength_47 rfl (lv_at hl 0 rfl) ?_
  refine x_get hx hb hts mm_X5_setStrength_X5 hown hK hP (0) (by decide) (cF_air _) rfl 1 (by decide) (hts _ lk_X5_setStrength_18) rfl rfl dX5_setStrength_48 ?_
  refine lv_iload_n hx hb dX5_setStrength_51 rfl (lv_at hl 1 rfl) ?_
  refine lv_iload_n hx hb dX5_setStrength_52 rfl (lv_at hl 2 rfl) ?_
  refine x_pi (va_runV (As := [.int (nI a), .int (nI b)]) (rest := []) ⟨hx, hb, hml, hown, hts⟩ (c_X3_between l D cI cS G S H.size a b (by omega) (by omega)) (cwV 2 hts gX5_setStrength_X3_between rfl rfl rfl (by decide +kernel) ⟨Nat.le_of_ble_eq_true rfl, Nat.le_of_ble_eq_true rfl⟩) ⟨wPc_blind, va_recv hK hP (ci := 3) (q0 := 2) rfl (WL_at (by decide) (cF_str _)), wPc_at hP hK hD hN⟩ rfl rfl hl.1 rfl (lv_room (Nat.le_of_ble_eq_true rfl)) dX5_setStrength_53 ⟨Nat.le_refl _, Nat.le_refl _⟩) hS hA (fun q h => h) (fun H locs hz hk hS => ?_)
  have hP := P_kept hP hk
  refine lv_istore (lv' := [(4, .int (f_X3_between S a b)), (0, .ref (G 0)), (1, .int (nI a)), (2, .int (nI b)), (3, .int v)]) hx hb dX5_setStrength_56 hl (by decide) rfl (fun ls hl => ?_)
  refine lv_aload_n hx hb dX5_setStrength_58 rfl (lv_at hl 1 rfl) ?_
  refine x_get hx hb hts mm_X5_setStrength_X5 hown hK hP (0) (by decide) (cF_air _) rfl 1 (by decide) (hts _ lk_X5_setStrength_18) rfl rfl dX5_setStrength_59 ?_
  refine lv_iload_n hx hb dX5_setStrength_62 rfl (lv_at hl 2 rfl) ?_
  refine lv_iload_n hx hb dX5_setStrength_63 rfl (lv_at hl 3 rfl) ?_
  refine lv_iload_n hx hb dX5_setStrength_64 rfl (lv_at hl 4 rfl) ?_
  refine x_mv (va_runV (As := [.int (nI a), .int (nI b), .int v]) (rest := []) ⟨hx, hb, hml, hown, hts⟩ (c_X3_put l D cI cS G S H.size a b v (by omega) (by omega)) (cwV 3 hts gX5_setStrength_X3_put rfl rfl rfl (by decide +kernel) ⟨Nat.le_of_ble_eq_true rfl, Nat.le_of_ble_eq_true rfl⟩) ⟨wPc_blind, va_recv hK hP (ci := 3) (q0 := 2) rfl (WL_at (by decide) (cF_str _)), wPc_at hP hK hD hN⟩ rfl rfl hl.1 rfl (lv_room (Nat.le_of_ble_eq_true rfl)) dX5_setStrength_65 ⟨Nat.le_refl _, Nat.le_refl _⟩) hS (fA_sub (hD S) (fun q h => hA q (Nat.le_trans hS.1 h))) (fun H locs hz hk hP hS => ?_)
  refine lv_iload hx hb dX5_setStrength_68 (lv_at hl 0 rfl) ?_
  exact x_ret_m hx hb hr rfl hlocks hP hS dX5_setStrength_70 hq

theorem mm_X5_setClass_X2 : ∀ w ∈ wsX20, w ∈ wsX5_setClass := by decide +kernel
theorem nk_X5_60 : Cond.fieldLinkNest RX5 60 "BackofficeAir$Station" "itsClass" "I" "BackofficeAir" ∈ nestW := by decide +kernel
def f_X5_setClass (S : Mem) (s1 : Nat) (y : Int32) : Int32 × Mem := (S (6 + 5 * s1) 0, ub (ub S (6 + 5 * s1) 0 y) (6 + 5 * s1) 1 (f_X5_leastWindow y))
theorem f_X5_setClass_d (S : Mem) (s1 : Nat) (y : Int32) : f_X5_setClass S s1 y = ((S (6 + 5 * s1) 0, ub (ub S (6 + 5 * s1) 0 y) (6 + 5 * s1) 1 (f_X5_leastWindow y))) := rfl
set_option maxHeartbeats 1000000 in
set_option maxRecDepth 100000 in
theorem c_X5_setClass (l : Launch) (D : va_G) (cI cS : ClassId) (G : Nat → Nat) (S : Mem) (sz : Nat) (s1 : Nat) (y : Int32) (h1 : s1 < 6) (hv1 : ¬ y < 0) (hv2 : y ≤ nI 1) : Met l yX5_setClass wsX5_setClass ({ frames := 2, cells := 0, slots := 0, locals := 42 } : Room) (wPc 36 (cF cI cS G) D (tY cI cS) G S sz [.ref (G 0), .int (nI s1), .int y]) (mQi (f_X5_setClass S s1 y) 36 (cF cI cS G) D G sz) 0 0 (fA 36 G sz) := by
  refine x_met (cc := cX5_setClass) (maxL := 5) (ret := (some .int)) (by decide) rfl (Nat.le_of_ble_eq_true rfl) ?_
  intro p e s m below meth c ls hx hb hr hml hts hown hlocks hsz hP hK hD hN hl hnm
  subst hsz
  have hown : s.vm.findClass RX5 = some m.cls := hown
  have hl : lv_has ls 5 [(0, .ref (G 0)), (1, .int (nI s1)), (2, .int y)] := hl
  have hq := f_X5_setClass_d S s1 y
  have hA : ∀ q : Nat, s.heap.size ≤ q → (fA 36 G s.heap.size) q := fun q h => Or.inr h
  have hS : va_S (fA 36 G s.heap.size) s.heap s.heap [] := va_S.rf
  refine lv_aload_n hx hb dX5_setClass_0 rfl (lv_at hl 0 rfl) ?_
  refine lv_iload_n hx hb dX5_setClass_1 rfl (lv_at hl 1 rfl) ?_
  refine x_pr (va_runV (As := [.int (nI s1)]) (rest := []) ⟨hx, hb, hml, hown, hts⟩ (c_X5_stationAt l D cI cS G S s.heap.size s1 (by omega)) (cwV 1 hts gX5_setClass_X5_stationAt rfl rfl rfl (by decide +kernel) ⟨Nat.le_of_ble_eq_true rfl, Nat.le_of_ble_eq_true rfl⟩) ⟨wPc_blind, va_recv hK hP (ci := 5) (q0 := 0) rfl (WL_at (by decide) (cF_air _)), wPc_at hP hK hD hN⟩ rfl rfl hl.1 rfl (lv_room (Nat.le_of_ble_eq_true rfl)) dX5_setClass_2 ⟨Nat.le_refl _, Nat.le_refl _⟩) hS hA (fun q h => h) (fun H locs hz hk hS => ?_)
  have hP := P_kept hP hk
  refine lv_astore_n (lv' := [(3, .ref (G (6 + 5 * s1))), (0, .ref (G 0)), (1, .int (nI s1)), (2, .int y)]) hx hb dX5_setClass_5 rfl hl (by decide) rfl (fun ls hl => ?_)
  refine lv_iload_n hx hb dX5_setClass_6 rfl (lv_at hl 3 rfl) ?_
  refine lv_if_lt (tgt := 15) hx hb dX5_setClass_7 (by decide) (fun c_1 => absurd c_1 hv1) (fun _ => ?_)
  refine lv_iload_n hx hb dX5_setClass_10 rfl (lv_at hl 3 rfl) ?_
  refine lv_iconst (v := nI 1) hx hb dX5_setClass_11 (by decide) ?_
  refine lv_icmp_le (tgt := 25) hx hb dX5_setClass_12 (by decide) (fun _ => ?_) (fun c_2 => absurd hv2 c_2) 
  refine lv_aload_n hx hb dX5_setClass_25 rfl (lv_at hl 0 rfl) ?_
  refine x_getN hx hb hts mm_X5_setClass_X2 hown hK hP (6 + 5 * s1) (by omega) (cF_st _ _) rfl 2 (by decide) (hN.use nk_X5_60 rfl) rfl rfl dX5_setClass_26 ?_
  refine lv_istore (lv' := [(4, .int (S (6 + 5 * s1) 0)), (3, .ref (G (6 + 5 * s1))), (0, .ref (G 0)), (1, .int (nI s1)), (2, .int y)]) hx hb dX5_setClass_29 hl (by decide) rfl (fun ls hl => ?_)
  refine lv_aload_n hx hb dX5_setClass_31 rfl (lv_at hl 1 rfl) ?_
  refine lv_iload_n hx hb dX5_setClass_32 rfl (lv_at hl 4 rfl) ?_
  refine x_putN hx hb hts mm_X5_setClass_X2 tyX2 tyX2_ok nmX2 hown hK hP hD hS (6 + 5 * s1) (by omega) (cF_st _ _) rfl 2 (by decide) (hN.use nk_X5_60 rfl) rfl rfl rfl rfl rfl (Nat.le_of_ble_eq_true rfl) 0 (cF_st _ _) dX5_setClass_33 (fun H locs hP hS => ?_)
  refine lv_aload_n hx hb dX5_setClass_36 rfl (lv_at hl 1 rfl) ?_
  refine lv_iload_n hx hb dX5_setClass_37 rfl (lv_at hl 4 rfl) ?_
  refine x_pi (va_runS (As := [.int y]) (rest := [.ref (G (6 + 5 * s1))]) ⟨hx, hb, hml, hown, hts⟩ (c_X5_leastWindow l H.size y) (va_cwS 1 hts gX5_setClass_X5_leastWindow rfl rfl rfl (by decide +kernel) ⟨Nat.le_of_ble_eq_true rfl, Nat.le_of_ble_eq_true rfl⟩) ⟨sPc_blind, sPc_at hN⟩ rfl rfl hl.1 rfl (lv_room (Nat.le_of_ble_eq_true rfl)) dX5_setClass_38 ⟨Nat.le_refl _, Nat.le_refl _⟩) hS hA (fun q h => h) (fun H locs hz hk hS => ?_)
  have hP := P_kept hP hk
  refine x_putN hx hb hts mm_X5_setClass_X2 tyX2 tyX2_ok nmX2 hown hK hP hD hS (6 + 5 * s1) (by omega) (cF_st _ _) rfl 3 (by decide) (hN.use nk_X5_67 rfl) rfl rfl rfl rfl rfl (Nat.le_of_ble_eq_true rfl) 1 (cF_st _ _) dX5_setClass_41 (fun H locs hP hS => ?_)
  refine lv_iload hx hb dX5_setClass_44 (lv_at hl 0 rfl) ?_
  exact x_ret_m hx hb hr rfl hlocks hP hS dX5_setClass_46 hq

theorem mm_X5_setReserve_X5 : ∀ w ∈ wsX50, w ∈ wsX5_setReserve := by decide +kernel
theorem lk_X5_setReserve_29 : Cond.fieldLink RX5 29 "BackofficeAir" "reserve" "I" ∈ wsX5_setReserve := by decide +kernel
def f_X5_setReserve (S : Mem) (x : Int32) : Int32 × Mem := (S 0 0, ub S 0 0 x)
theorem f_X5_setReserve_d (S : Mem) (x : Int32) : f_X5_setReserve S x = ((S 0 0, ub S 0 0 x)) := rfl
set_option maxHeartbeats 1000000 in
set_option maxRecDepth 100000 in
theorem c_X5_setReserve (l : Launch) (D : va_G) (cI cS : ClassId) (G : Nat → Nat) (S : Mem) (sz : Nat) (x : Int32) (hv1 : ¬ x < nI 1) (hv2 : x ≤ nI 5) : Met l yX5_setReserve wsX5_setReserve ({ frames := 1, cells := 0, slots := 0, locals := 20 } : Room) (wPc 36 (cF cI cS G) D (tY cI cS) G S sz [.ref (G 0), .int x]) (mQi (f_X5_setReserve S x) 36 (cF cI cS G) D G sz) 0 0 (fA 36 G sz) := by
  refine x_met (cc := cX5_setReserve) (maxL := 3) (ret := (some .int)) (by decide) rfl (Nat.le_of_ble_eq_true rfl) ?_
  intro p e s m below meth c ls hx hb hr hml hts hown hlocks hsz hP hK hD hN hl hnm
  subst hsz
  have hown : s.vm.findClass RX5 = some m.cls := hown
  have hl : lv_has ls 3 [(0, .ref (G 0)), (1, .int x)] := hl
  have hq := f_X5_setReserve_d S x
  have hA : ∀ q : Nat, s.heap.size ≤ q → (fA 36 G s.heap.size) q := fun q h => Or.inr h
  have hS : va_S (fA 36 G s.heap.size) s.heap s.heap [] := va_S.rf
  refine lv_iload_n hx hb dX5_setReserve_0 rfl (lv_at hl 1 rfl) ?_
  refine lv_iconst (v := nI 1) hx hb dX5_setReserve_1 (by decide) ?_
  refine lv_icmp_lt (tgt := 10) hx hb dX5_setReserve_2 (by decide) (fun c_1 => absurd c_1 hv1) (fun _ => ?_)
  refine lv_iload_n hx hb dX5_setReserve_5 rfl (lv_at hl 1 rfl) ?_
  refine lv_iconst (v := nI 5) hx hb dX5_setReserve_6 (by decide) ?_
  refine lv_icmp_le (tgt := 20) hx hb dX5_setReserve_7 (by decide) (fun _ => ?_) (fun c_2 => absurd hv2 c_2) 
  refine lv_aload_n hx hb dX5_setReserve_20 rfl (lv_at hl 0 rfl) ?_
  refine x_get hx hb hts mm_X5_setReserve_X5 hown hK hP (0) (by decide) (cF_air _) rfl 3 (by decide) (hts _ lk_X5_setReserve_29) rfl rfl dX5_setReserve_21 ?_
  refine lv_istore_n (lv' := [(2, .int (S 0 0)), (0, .ref (G 0)), (1, .int x)]) hx hb dX5_setReserve_24 rfl hl (by decide) rfl (fun ls hl => ?_)
  refine lv_aload_n hx hb dX5_setReserve_25 rfl (lv_at hl 1 rfl) ?_
  refine lv_iload_n hx hb dX5_setReserve_26 rfl (lv_at hl 2 rfl) ?_
  refine x_put hx hb hts mm_X5_setReserve_X5 tyX5 tyX5_ok nmX5 hown hK hP hD hS 0 (by decide) (cF_air _) rfl 3 (by decide) (hts _ lk_X5_setReserve_29) rfl rfl rfl rfl rfl (Nat.le_of_ble_eq_true rfl) 0 (cF_air _) dX5_setReserve_27 (fun H locs hP hS => ?_)
  refine lv_iload_n hx hb dX5_setReserve_30 rfl (lv_at hl 0 rfl) ?_
  exact x_ret_m hx hb hr rfl hlocks hP hS dX5_setReserve_31 hq

theorem mm_X5_tell_X4 : ∀ w ∈ wsX40, w ∈ wsX5_tell := by decide +kernel
theorem mm_X5_tell_X5 : ∀ w ∈ wsX50, w ∈ wsX5_tell := by decide +kernel
theorem lk_X5_tell_25 : Cond.fieldLink RX5 25 "BackofficeAir" "told" "LBackofficeAir$Told;" ∈ wsX5_tell := by decide +kernel
theorem nk_X5_74 : Cond.fieldLinkNest RX5 74 "BackofficeAir$Told" "left" "I" "BackofficeAir" ∈ nestW := by decide +kernel
def f_X5_tell (S : Mem) (x : Int32) : Int32 × Mem := ((f_X4_add S x) 4 1, f_X4_add S x)
theorem f_X5_tell_d (S : Mem) (x : Int32) : f_X5_tell S x = (((f_X4_add S x) 4 1, f_X4_add S x)) := rfl
set_option maxHeartbeats 1000000 in
set_option maxRecDepth 100000 in
theorem c_X5_tell (l : Launch) (D : va_G) (cI cS : ClassId) (G : Nat → Nat) (S : Mem) (sz : Nat) (x : Int32) (hv1 : ¬ x < 0) (hv2 : x ≤ nI 1000) (hlt : S 4 1 < nI 200) (hf : S 4 0 = nI (kN (S 4 0))) (hf2 : kN (S 4 0) < 200) (hl1 : S 4 1 = nI (kN (S 4 1))) (hl2 : kN (S 4 1) < 200) : Met l yX5_tell wsX5_tell ({ frames := 2, cells := 0, slots := 0, locals := 42 } : Room) (wPc 36 (cF cI cS G) D (tY cI cS) G S sz [.ref (G 0), .int x]) (mQi (f_X5_tell S x) 36 (cF cI cS G) D G sz) 0 0 (fA 36 G sz) := by
  refine x_met (cc := cX5_tell) (maxL := 2) (ret := (some .int)) (by decide) rfl (Nat.le_of_ble_eq_true rfl) ?_
  intro p e s m below meth c ls hx hb hr hml hts hown hlocks hsz hP hK hD hN hl hnm
  subst hsz
  have hown : s.vm.findClass RX5 = some m.cls := hown
  have hl : lv_has ls 2 [(0, .ref (G 0)), (1, .int x)] := hl
  have hq := f_X5_tell_d S x
  have hA : ∀ q : Nat, s.heap.size ≤ q → (fA 36 G s.heap.size) q := fun q h => Or.inr h
  have hS : va_S (fA 36 G s.heap.size) s.heap s.heap [] := va_S.rf
  refine lv_iload_n hx hb dX5_tell_0 rfl (lv_at hl 1 rfl) ?_
  refine lv_if_lt (tgt := 11) hx hb dX5_tell_1 (by decide) (fun c_1 => absurd c_1 hv1) (fun _ => ?_)
  refine lv_iload_n hx hb dX5_tell_4 rfl (lv_at hl 1 rfl) ?_
  refine lv_sipush (v := nI 1000) hx hb dX5_tell_5 (by decide) ?_
  refine lv_icmp_le (tgt := 21) hx hb dX5_tell_8 (by decide) (fun _ => ?_) (fun c_2 => absurd hv2 c_2) 
  refine lv_aload_n hx hb dX5_tell_21 rfl (lv_at hl 0 rfl) ?_
  refine x_get hx hb hts mm_X5_tell_X5 hown hK hP (0) (by decide) (cF_air _) rfl 2 (by decide) (hts _ lk_X5_tell_25) rfl rfl dX5_tell_22 ?_
  refine x_getN hx hb hts mm_X5_tell_X4 hown hK hP (4) (by decide) (cF_told _) rfl 2 (by decide) (hN.use nk_X5_74 rfl) rfl rfl dX5_tell_25 ?_
  refine lv_sipush (v := nI 200) hx hb dX5_tell_28 (by decide) ?_
  refine lv_icmp_lt (tgt := 44) hx hb dX5_tell_31 (by decide) (fun _ => ?_) (fun c_3 => absurd hlt c_3) 
  refine lv_aload_n hx hb dX5_tell_44 rfl (lv_at hl 0 rfl) ?_
  refine x_get hx hb hts mm_X5_tell_X5 hown hK hP (0) (by decide) (cF_air _) rfl 2 (by decide) (hts _ lk_X5_tell_25) rfl rfl dX5_tell_45 ?_
  refine lv_iload_n hx hb dX5_tell_48 rfl (lv_at hl 1 rfl) ?_
  refine x_mv (va_runV (As := [.int x]) (rest := []) ⟨hx, hb, hml, hown, hts⟩ (c_X4_add l D cI cS G S s.heap.size x hf hf2 hl1 hl2) (cwV 1 hts gX5_tell_X4_add rfl rfl rfl (by decide +kernel) ⟨Nat.le_of_ble_eq_true rfl, Nat.le_of_ble_eq_true rfl⟩) ⟨wPc_blind, va_recv hK hP (ci := 4) (q0 := 4) rfl (WL_at (by decide) (cF_told _)), wPc_at hP hK hD hN⟩ rfl rfl hl.1 rfl (lv_room (Nat.le_of_ble_eq_true rfl)) dX5_tell_49 ⟨Nat.le_refl _, Nat.le_refl _⟩) hS (fA_sub (hD S) (fun q h => hA q (Nat.le_trans hS.1 h))) (fun H locs hz hk hP hS => ?_)
  refine lv_aload_n hx hb dX5_tell_52 rfl (lv_at hl 0 rfl) ?_
  refine x_get hx hb hts mm_X5_tell_X5 hown hK hP (0) (by decide) (cF_air _) rfl 2 (by decide) (hts _ lk_X5_tell_25) rfl rfl dX5_tell_53 ?_
  refine x_getN hx hb hts mm_X5_tell_X4 hown hK hP (4) (by decide) (cF_told _) rfl 2 (by decide) (hN.use nk_X5_74 rfl) rfl rfl dX5_tell_56 ?_
  exact x_ret_m hx hb hr rfl hlocks hP hS dX5_tell_59 hq

theorem mm_X5_frame_X0 : ∀ w ∈ wsX00, w ∈ wsX5_frame := by decide +kernel
theorem mm_X5_frame_X2 : ∀ w ∈ wsX20, w ∈ wsX5_frame := by decide +kernel
def f_X5_frame (S : Mem) (a : Nat) (b : Nat) (v : Int32) : Int32 × Mem := ((f_X0_add S a (nI b) v) (7 + 5 * a) 0, f_X0_add S a (nI b) v)
theorem f_X5_frame_d (S : Mem) (a : Nat) (b : Nat) (v : Int32) : f_X5_frame S a b v = (((f_X0_add S a (nI b) v) (7 + 5 * a) 0, f_X0_add S a (nI b) v)) := rfl
set_option maxHeartbeats 1000000 in
set_option maxRecDepth 100000 in
theorem c_X5_frame (l : Launch) (D : va_G) (cI cS : ClassId) (G : Nat → Nat) (S : Mem) (sz : Nat) (a : Nat) (b : Nat) (v : Int32) (ha : a < 6) (hb6 : b < 6) (hv1 : ¬ v < nI 1) (hv2 : v ≤ nI 4) (hne : ¬ nI a = nI b) (hlt : S (7 + 5 * a) 0 < nI 5) (hc : S (7 + 5 * a) 0 = nI (kN (S (7 + 5 * a) 0))) (hc5 : kN (S (7 + 5 * a) 0) < 5) : Met l yX5_frame wsX5_frame ({ frames := 2, cells := 0, slots := 0, locals := 42 } : Room) (wPc 36 (cF cI cS G) D (tY cI cS) G S sz [.ref (G 0), .int (nI a), .int (nI b), .int v]) (mQi (f_X5_frame S a b v) 36 (cF cI cS G) D G sz) 0 0 (fA 36 G sz) := by
  refine x_met (cc := cX5_frame) (maxL := 5) (ret := (some .int)) (by decide) rfl (Nat.le_of_ble_eq_true rfl) ?_
  intro p e s m below meth c ls hx hb hr hml hts hown hlocks hsz hP hK hD hN hl hnm
  subst hsz
  have hown : s.vm.findClass RX5 = some m.cls := hown
  have hl : lv_has ls 5 [(0, .ref (G 0)), (1, .int (nI a)), (2, .int (nI b)), (3, .int v)] := hl
  have hq := f_X5_frame_d S a b v
  have hA : ∀ q : Nat, s.heap.size ≤ q → (fA 36 G s.heap.size) q := fun q h => Or.inr h
  have hS : va_S (fA 36 G s.heap.size) s.heap s.heap [] := va_S.rf
  refine lv_aload_n hx hb dX5_frame_0 rfl (lv_at hl 0 rfl) ?_
  refine lv_iload_n hx hb dX5_frame_1 rfl (lv_at hl 1 rfl) ?_
  refine x_pr (va_runV (As := [.int (nI a)]) (rest := []) ⟨hx, hb, hml, hown, hts⟩ (c_X5_stationAt l D cI cS G S s.heap.size a (by omega)) (cwV 1 hts gX5_frame_X5_stationAt rfl rfl rfl (by decide +kernel) ⟨Nat.le_of_ble_eq_true rfl, Nat.le_of_ble_eq_true rfl⟩) ⟨wPc_blind, va_recv hK hP (ci := 5) (q0 := 0) rfl (WL_at (by decide) (cF_air _)), wPc_at hP hK hD hN⟩ rfl rfl hl.1 rfl (lv_room (Nat.le_of_ble_eq_true rfl)) dX5_frame_2 ⟨Nat.le_refl _, Nat.le_refl _⟩) hS hA (fun q h => h) (fun H locs hz hk hS => ?_)
  have hP := P_kept hP hk
  refine x_getN hx hb hts mm_X5_frame_X2 hown hK hP (6 + 5 * a) (by omega) (cF_st _ _) rfl 0 (by decide) (hN.use nk_X5_86 rfl) rfl rfl dX5_frame_5 ?_
  refine lv_astore (lv' := [(4, .ref (G (7 + 5 * a))), (0, .ref (G 0)), (1, .int (nI a)), (2, .int (nI b)), (3, .int v)]) hx hb dX5_frame_8 hl (by decide) rfl (fun ls hl => ?_)
  refine lv_aload_n hx hb dX5_frame_10 rfl (lv_at hl 1 rfl) ?_
  refine lv_iload_n hx hb dX5_frame_11 rfl (lv_at hl 3 rfl) ?_
  refine x_pr (va_runV (As := [.int (nI b)]) (rest := []) ⟨hx, hb, hml, hown, hts⟩ (c_X5_stationAt l D cI cS G S H.size b (by omega)) (cwV 1 hts gX5_frame_X5_stationAt rfl rfl rfl (by decide +kernel) ⟨Nat.le_of_ble_eq_true rfl, Nat.le_of_ble_eq_true rfl⟩) ⟨wPc_blind, va_recv hK hP (ci := 5) (q0 := 0) rfl (WL_at (by decide) (cF_air _)), wPc_at hP hK hD hN⟩ rfl rfl hl.1 rfl (lv_room (Nat.le_of_ble_eq_true rfl)) dX5_frame_12 ⟨Nat.le_refl _, Nat.le_refl _⟩) hS hA (fun q h => h) (fun H locs hz hk hS => ?_)
  have hP := P_kept hP hk
  refine lv_pop hx hb dX5_frame_15 rfl ?_
  refine lv_iload_n hx hb dX5_frame_16 rfl (lv_at hl 4 rfl) ?_
  refine lv_iconst (v := nI 1) hx hb dX5_frame_17 (by decide) ?_
  refine lv_icmp_lt (tgt := 26) hx hb dX5_frame_18 (by decide) (fun c_1 => absurd c_1 hv1) (fun _ => ?_)
  refine lv_iload_n hx hb dX5_frame_21 rfl (lv_at hl 4 rfl) ?_
  refine lv_iconst (v := nI 4) hx hb dX5_frame_22 (by decide) ?_
  refine lv_icmp_le (tgt := 36) hx hb dX5_frame_23 (by decide) (fun _ => ?_) (fun c_2 => absurd hv2 c_2) 
  refine lv_iload_n hx hb dX5_frame_36 rfl (lv_at hl 2 rfl) ?_
  refine lv_iload_n hx hb dX5_frame_37 rfl (lv_at hl 3 rfl) ?_
  refine lv_icmp_ne (tgt := 51) hx hb dX5_frame_38 (by decide) (fun _ => ?_) (fun c_3 => absurd c_3 hne)
  refine lv_aload hx hb dX5_frame_51 (lv_at hl 0 rfl) ?_
  refine x_getN hx hb hts mm_X5_frame_X0 hown hK hP (7 + 5 * a) (by omega) (cF_row _ _) rfl 2 (by decide) (hN.use nk_X5_92 rfl) rfl rfl dX5_frame_53 ?_
  refine lv_iconst (v := nI 5) hx hb dX5_frame_56 (by decide) ?_
  refine lv_icmp_lt (tgt := 70) hx hb dX5_frame_57 (by decide) (fun _ => ?_) (fun c_4 => absurd hlt c_4) 
  refine lv_aload hx hb dX5_frame_70 (lv_at hl 0 rfl) ?_
  refine lv_iload_n hx hb dX5_frame_72 rfl (lv_at hl 3 rfl) ?_
  refine lv_iload_n hx hb dX5_frame_73 rfl (lv_at hl 4 rfl) ?_
  refine x_mv (va_runV (As := [.int (nI b), .int v]) (rest := []) ⟨hx, hb, hml, hown, hts⟩ (c_X0_add l D cI cS G S H.size a (nI b) v ha hc hc5) (cwV 2 hts gX5_frame_X0_add rfl rfl rfl (by decide +kernel) ⟨Nat.le_of_ble_eq_true rfl, Nat.le_of_ble_eq_true rfl⟩) ⟨wPc_blind, va_recv hK hP (ci := 0) (q0 := 7 + 5 * a) rfl (WL_at (by omega) (cF_row _ _)), wPc_at hP hK hD hN⟩ rfl rfl hl.1 rfl (lv_room (Nat.le_of_ble_eq_true rfl)) dX5_frame_74 ⟨Nat.le_refl _, Nat.le_refl _⟩) hS (fA_sub (hD S) (fun q h => hA q (Nat.le_trans hS.1 h))) (fun H locs hz hk hP hS => ?_)
  refine lv_aload hx hb dX5_frame_77 (lv_at hl 0 rfl) ?_
  refine x_getN hx hb hts mm_X5_frame_X0 hown hK hP (7 + 5 * a) (by omega) (cF_row _ _) rfl 2 (by decide) (hN.use nk_X5_92 rfl) rfl rfl dX5_frame_79 ?_
  exact x_ret_m hx hb hr rfl hlocks hP hS dX5_frame_82 hq

def f_X5_pass_L1 (k : Nat) : Nat → Nat → Mem → Int32 → Int32 × Mem
  | 0, i, S_L1, q => (q, S_L1)
  | n + 1, i, S_L1, q => f_X5_pass_L1 k n (i + 1) ((f_X5_passOneSlot S_L1).2) (q + ((f_X5_passOneSlot S_L1).1))
theorem f_X5_pass_L1_z (k : Nat) (i : Nat) (S_L1 : Mem) (q : Int32) : f_X5_pass_L1 k 0 i S_L1 q = ((q, S_L1)) := rfl
theorem f_X5_pass_L1_s (k : Nat) (n : Nat) (i : Nat) (S_L1 : Mem) (q : Int32) : f_X5_pass_L1 k (n + 1) i S_L1 q = (f_X5_pass_L1 k n (i + 1) ((f_X5_passOneSlot S_L1).2) (q + ((f_X5_passOneSlot S_L1).1))) := rfl
def f_X5_pass_L1_b (k : Nat) (i : Nat) (S_L1 : Mem) : Mem := (f_X5_passOneSlot S_L1).2
theorem f_X5_pass_L1_b_d (k : Nat) (i : Nat) (S_L1 : Mem) : f_X5_pass_L1_b k i S_L1 = ((f_X5_passOneSlot S_L1).2) := rfl
def ctp (S : Mem) (i : Nat) : Mem := itr (f_X5_pass_L1_b 0) S i
theorem ctp_0 (S : Mem) : ctp S 0 = S := itr_0 _ _
theorem ctp_s (S : Mem) (i : Nat) : ctp S (i + 1) = (f_X5_passOneSlot (ctp S i)).2 := itr_s _ _ _
def f_X5_pass (S : Mem) (k : Nat) : Int32 × Mem := f_X5_pass_L1 k k 0 S (nI 0)
theorem f_X5_pass_d (S : Mem) (k : Nat) : f_X5_pass S k = (f_X5_pass_L1 k k 0 S (nI 0)) := rfl
set_option maxHeartbeats 1000000 in
set_option maxRecDepth 100000 in
theorem c_X5_pass (l : Launch) (D : va_G) (cI cS : ClassId) (G : Nat → Nat) (S : Mem) (sz : Nat) (k : Nat) (hk1 : 1 ≤ k) (hk2 : k ≤ 50) (hall : ∀ j, j < k → pOK (ctp S j)) : Met l yX5_pass wsX5_pass ({ frames := 7, cells := 0, slots := 0, locals := 154 } : Room) (wPc 36 (cF cI cS G) D (tY cI cS) G S sz [.ref (G 0), .int (nI k)]) (mQi (f_X5_pass S k) 36 (cF cI cS G) D G sz) 0 0 (fA 36 G sz) := by
  refine x_met (cc := cX5_pass) (maxL := 4) (ret := (some .int)) (by decide) rfl (Nat.le_of_ble_eq_true rfl) ?_
  intro p e s m below meth c ls hx hb hr hml hts hown hlocks hsz hP hK hD hN hl hnm
  subst hsz
  have hown : s.vm.findClass RX5 = some m.cls := hown
  have hl : lv_has ls 4 [(0, .ref (G 0)), (1, .int (nI k))] := hl
  have hq := f_X5_pass_d S k
  have hA : ∀ q : Nat, s.heap.size ≤ q → (fA 36 G s.heap.size) q := fun q h => Or.inr h
  have hS : va_S (fA 36 G s.heap.size) s.heap s.heap [] := va_S.rf
  refine lv_iload_n hx hb dX5_pass_0 rfl (lv_at hl 1 rfl) ?_
  refine lv_iconst (v := nI 1) hx hb dX5_pass_1 (by decide) ?_
  refine lv_icmp_lt (tgt := 11) hx hb dX5_pass_2 (by decide) (fun c_1 => absurd c_1 (nI_nlt hk1 (by omega))) (fun _ => ?_)
  refine lv_iload_n hx hb dX5_pass_5 rfl (lv_at hl 1 rfl) ?_
  refine lv_bipush (v := nI 50) hx hb dX5_pass_6 (by decide) ?_
  refine lv_icmp_le (tgt := 21) hx hb dX5_pass_8 (by decide) (fun _ => ?_) (fun c_2 => absurd (nI_le hk2 (by omega)) c_2) 
  refine lv_iconst (v := nI 0) hx hb dX5_pass_21 (by decide) ?_
  refine lv_istore_n (lv' := [(2, .int (nI 0)), (0, .ref (G 0)), (1, .int (nI k))]) hx hb dX5_pass_22 rfl hl (by decide) rfl (fun ls hl => ?_)
  refine lv_iconst (v := nI 0) hx hb dX5_pass_23 (by decide) ?_
  refine lv_istore_n (lv' := [(3, .int (nI 0)), (2, .int (nI 0)), (0, .ref (G 0)), (1, .int (nI k))]) hx hb dX5_pass_24 rfl hl (by decide) rfl (fun ls hl => ?_)
  have L1 : ∀ (n : Nat) (i : Nat) (S_L1 : Mem) (q : Int32) (H : Heap) (locs : List Loc) (ls : Array Slot), i + n = k → f_X5_pass S k = f_X5_pass_L1 k n i S_L1 q → (S_L1 = ctp S i) → va_P D vwCl (WL 36 G (cF cI cS G) S_L1) H → va_S (fA 36 G s.heap.size) s.heap H locs → lv_has ls 4 [(3, .int (nI i)), (2, .int q), (0, .ref (G 0)), (1, .int (nI k))] → W p l e ({ frames := 7, cells := 0, slots := 0, locals := 154 } : Room) s m ([.ref (G 0), .int (nI k)] : List Value).toArray below meth c H locs 0 0 (MQ below (mQi (f_X5_pass S k) 36 (cF cI cS G) D G s.heap.size) ([.ref (G 0), .int (nI k)] : List Value).toArray s 0 0 (fA 36 G s.heap.size)) (F0 m 25 ls []) := by
    intro n
    induction n with
    | zero =>
      intro i S_L1 q H locs ls hin hq hv hP hS hl
      have hq := hq.trans (f_X5_pass_L1_z _ _ _ _)
      refine lv_iload_n hx hb dX5_pass_25 rfl (lv_at hl 0 rfl) ?_
      refine lv_iload_n hx hb dX5_pass_26 rfl (lv_at hl 3 rfl) ?_
      refine lv_icmp_ge (tgt := 43) hx hb dX5_pass_27 (by decide) (fun _ => ?_) (fun c_3 => absurd (nI_le (by omega) (by omega)) c_3) 
      refine lv_iload_n hx hb dX5_pass_43 rfl (lv_at hl 1 rfl) ?_
      exact x_ret_m hx hb hr rfl hlocks hP hS dX5_pass_44 hq
    | succ n ih =>
      intro i S_L1 q H locs ls hin hq hv hP hS hl
      have hq := hq.trans (f_X5_pass_L1_s _ _ _ _ _)
      refine lv_iload_n hx hb dX5_pass_25 rfl (lv_at hl 0 rfl) ?_
      refine lv_iload_n hx hb dX5_pass_26 rfl (lv_at hl 3 rfl) ?_
      refine lv_icmp_ge (tgt := 43) hx hb dX5_pass_27 (by decide) (fun c_4 => absurd c_4 (nI_ge (by omega) (by omega))) (fun _ => ?_)
      refine lv_iload_n hx hb dX5_pass_30 rfl (lv_at hl 1 rfl) ?_
      refine lv_aload_n hx hb dX5_pass_31 rfl (lv_at hl 2 rfl) ?_
      refine x_mi (va_runV (As := []) (rest := [.int q]) ⟨hx, hb, hml, hown, hts⟩ (c_X5_passOneSlot l D cI cS G S_L1 H.size (by rw [hv]; exact hall i (by omega))) (cwV 0 hts gX5_pass_X5_passOneSlot rfl rfl rfl (by decide +kernel) ⟨Nat.le_of_ble_eq_true rfl, Nat.le_of_ble_eq_true rfl⟩) ⟨wPc_blind, va_recv hK hP (ci := 5) (q0 := 0) rfl (WL_at (by decide) (cF_air _)), wPc_at hP hK hD hN⟩ rfl rfl hl.1 rfl (lv_room (Nat.le_of_ble_eq_true rfl)) dX5_pass_32 ⟨Nat.le_refl _, Nat.le_refl _⟩) hS (fA_sub (hD S) (fun q h => hA q (Nat.le_trans hS.1 h))) (fun H locs hz hk hP hS => ?_)
      refine lv_iadd hx hb dX5_pass_35 ?_
      refine lv_istore_n (lv' := [(2, .int (q + ((f_X5_passOneSlot S_L1).1))), (3, .int (nI i)), (0, .ref (G 0)), (1, .int (nI k))]) hx hb dX5_pass_36 rfl hl (by decide) rfl (fun ls hl => ?_)
      refine lv_iinc (v := nI (i + 1)) (lv' := [(3, .int (nI (i + 1))), (2, .int (q + ((f_X5_passOneSlot S_L1).1))), (0, .ref (G 0)), (1, .int (nI k))]) hx hb dX5_pass_37 hl (k := 1) rfl (nI_add _ _) (by decide) rfl (fun ls hl => ?_)
      refine lv_goto (tgt := 25) hx hb dX5_pass_40 (by decide) ?_
      have hB : f_X5_pass_L1_b k i S_L1 = (f_X5_passOneSlot S_L1).2 := (f_X5_pass_L1_b_d _ _ _)
      exact ih (i + 1) ((f_X5_passOneSlot S_L1).2) (q + ((f_X5_passOneSlot S_L1).1)) H locs ls (by omega) hq (hB.symm.trans ((congrArg (f_X5_pass_L1_b k i) hv).trans (ctp_s S i).symm)) hP hS (lv_sub hl [0, 1, 2, 3] rfl)
  exact L1 k 0 S (nI 0) _ _ _ (by omega) hq (ctp_0 S).symm hP hS (lv_sub hl [0, 1, 2, 3] rfl)

theorem mm_X5_now_X5 : ∀ w ∈ wsX50, w ∈ wsX5_now := by decide +kernel
theorem lk_X5_now_33 : Cond.fieldLink RX5 33 "BackofficeAir" "slot" "I" ∈ wsX5_now := by decide +kernel
def f_X5_now (S : Mem) : Int32 := S 0 1
theorem f_X5_now_d (S : Mem) : f_X5_now S = (S 0 1) := rfl
set_option maxHeartbeats 1000000 in
set_option maxRecDepth 100000 in
theorem c_X5_now (l : Launch) (D : va_G) (cI cS : ClassId) (G : Nat → Nat) (S : Mem) (sz : Nat) : Met l yX5_now wsX5_now ({ frames := 1, cells := 0, slots := 0, locals := 20 } : Room) (wPc 36 (cF cI cS G) D (tY cI cS) G S sz [.ref (G 0)]) (pQi (f_X5_now S) sz) 0 0 (fun q => sz ≤ q) := by
  refine x_met (cc := cX5_now) (maxL := 1) (ret := (some .int)) (by decide) rfl (Nat.le_of_ble_eq_true rfl) ?_
  intro p e s m below meth c ls hx hb hr hml hts hown hlocks hsz hP hK hD hN hl hnm
  subst hsz
  have hown : s.vm.findClass RX5 = some m.cls := hown
  have hl : lv_has ls 1 [(0, .ref (G 0))] := hl
  have hq := f_X5_now_d S
  have hA : ∀ q : Nat, s.heap.size ≤ q → (fun q => s.heap.size ≤ q) q := fun q h => h
  have hS : va_S (fun q => s.heap.size ≤ q) s.heap s.heap [] := va_S.rf
  refine lv_aload_n hx hb dX5_now_0 rfl (lv_at hl 0 rfl) ?_
  refine x_get hx hb hts mm_X5_now_X5 hown hK hP (0) (by decide) (cF_air _) rfl 4 (by decide) (hts _ lk_X5_now_33) rfl rfl dX5_now_1 ?_
  exact x_ret_p hx hb hr rfl hlocks hS dX5_now_4 hq

theorem mm_X5_numbers_X4 : ∀ w ∈ wsX40, w ∈ wsX5_numbers := by decide +kernel
theorem mm_X5_numbers_X5 : ∀ w ∈ wsX50, w ∈ wsX5_numbers := by decide +kernel
theorem lk_X5_numbers_25 : Cond.fieldLink RX5 25 "BackofficeAir" "told" "LBackofficeAir$Told;" ∈ wsX5_numbers := by decide +kernel
def f_X5_numbers (S : Mem) : Int32 := S 4 1
theorem f_X5_numbers_d (S : Mem) : f_X5_numbers S = (S 4 1) := rfl
set_option maxHeartbeats 1000000 in
set_option maxRecDepth 100000 in
theorem c_X5_numbers (l : Launch) (D : va_G) (cI cS : ClassId) (G : Nat → Nat) (S : Mem) (sz : Nat) : Met l yX5_numbers wsX5_numbers ({ frames := 1, cells := 0, slots := 0, locals := 20 } : Room) (wPc 36 (cF cI cS G) D (tY cI cS) G S sz [.ref (G 0)]) (pQi (f_X5_numbers S) sz) 0 0 (fun q => sz ≤ q) := by
  refine x_met (cc := cX5_numbers) (maxL := 1) (ret := (some .int)) (by decide) rfl (Nat.le_of_ble_eq_true rfl) ?_
  intro p e s m below meth c ls hx hb hr hml hts hown hlocks hsz hP hK hD hN hl hnm
  subst hsz
  have hown : s.vm.findClass RX5 = some m.cls := hown
  have hl : lv_has ls 1 [(0, .ref (G 0))] := hl
  have hq := f_X5_numbers_d S
  have hA : ∀ q : Nat, s.heap.size ≤ q → (fun q => s.heap.size ≤ q) q := fun q h => h
  have hS : va_S (fun q => s.heap.size ≤ q) s.heap s.heap [] := va_S.rf
  refine lv_aload_n hx hb dX5_numbers_0 rfl (lv_at hl 0 rfl) ?_
  refine x_get hx hb hts mm_X5_numbers_X5 hown hK hP (0) (by decide) (cF_air _) rfl 2 (by decide) (hts _ lk_X5_numbers_25) rfl rfl dX5_numbers_1 ?_
  refine x_getN hx hb hts mm_X5_numbers_X4 hown hK hP (4) (by decide) (cF_told _) rfl 2 (by decide) (hN.use nk_X5_74 rfl) rfl rfl dX5_numbers_4 ?_
  exact x_ret_p hx hb hr rfl hlocks hS dX5_numbers_7 hq

theorem mm_X5_sends_X1 : ∀ w ∈ wsX10, w ∈ wsX5_sends := by decide +kernel
theorem mm_X5_sends_X2 : ∀ w ∈ wsX20, w ∈ wsX5_sends := by decide +kernel
def f_X5_sends (S : Mem) (s1 : Nat) : Int32 := S (8 + 5 * s1) 0
theorem f_X5_sends_d (S : Mem) (s1 : Nat) : f_X5_sends S s1 = (S (8 + 5 * s1) 0) := rfl
set_option maxHeartbeats 1000000 in
set_option maxRecDepth 100000 in
theorem c_X5_sends (l : Launch) (D : va_G) (cI cS : ClassId) (G : Nat → Nat) (S : Mem) (sz : Nat) (s1 : Nat) (h1 : s1 < 6) (hbo : narrow .boolean (.int (S (8 + 5 * s1) 0)) = .int (S (8 + 5 * s1) 0)) : Met l yX5_sends wsX5_sends ({ frames := 2, cells := 0, slots := 0, locals := 42 } : Room) (wPc 36 (cF cI cS G) D (tY cI cS) G S sz [.ref (G 0), .int (nI s1)]) (pQi (f_X5_sends S s1) sz) 0 0 (fun q => sz ≤ q) := by
  refine x_met (cc := cX5_sends) (maxL := 2) (ret := (some .boolean)) (by decide) rfl (Nat.le_of_ble_eq_true rfl) ?_
  intro p e s m below meth c ls hx hb hr hml hts hown hlocks hsz hP hK hD hN hl hnm
  subst hsz
  have hown : s.vm.findClass RX5 = some m.cls := hown
  have hl : lv_has ls 2 [(0, .ref (G 0)), (1, .int (nI s1))] := hl
  have hq := f_X5_sends_d S s1
  have hA : ∀ q : Nat, s.heap.size ≤ q → (fun q => s.heap.size ≤ q) q := fun q h => h
  have hS : va_S (fun q => s.heap.size ≤ q) s.heap s.heap [] := va_S.rf
  refine lv_aload_n hx hb dX5_sends_0 rfl (lv_at hl 0 rfl) ?_
  refine lv_iload_n hx hb dX5_sends_1 rfl (lv_at hl 1 rfl) ?_
  refine x_pr (va_runV (As := [.int (nI s1)]) (rest := []) ⟨hx, hb, hml, hown, hts⟩ (c_X5_stationAt l D cI cS G S s.heap.size s1 (by omega)) (cwV 1 hts gX5_sends_X5_stationAt rfl rfl rfl (by decide +kernel) ⟨Nat.le_of_ble_eq_true rfl, Nat.le_of_ble_eq_true rfl⟩) ⟨wPc_blind, va_recv hK hP (ci := 5) (q0 := 0) rfl (WL_at (by decide) (cF_air _)), wPc_at hP hK hD hN⟩ rfl rfl hl.1 rfl (lv_room (Nat.le_of_ble_eq_true rfl)) dX5_sends_2 ⟨Nat.le_refl _, Nat.le_refl _⟩) hS hA (fun q h => h) (fun H locs hz hk hS => ?_)
  have hP := P_kept hP hk
  refine x_getN hx hb hts mm_X5_sends_X2 hown hK hP (6 + 5 * s1) (by omega) (cF_st _ _) rfl 1 (by decide) (hN.use nk_X5_108 rfl) rfl rfl dX5_sends_5 ?_
  refine x_getN hx hb hts mm_X5_sends_X1 hown hK hP (8 + 5 * s1) (by omega) (cF_sd _ _) rfl 0 (by decide) (hN.use nk_X5_112 rfl) rfl rfl dX5_sends_8 ?_
  exact x_ret_p hx hb hr hbo hlocks hS dX5_sends_11 hq

theorem mm_X5_waitOf_X2 : ∀ w ∈ wsX20, w ∈ wsX5_waitOf := by decide +kernel
def f_X5_waitOf (S : Mem) (s1 : Nat) : Int32 := S (6 + 5 * s1) 2
theorem f_X5_waitOf_d (S : Mem) (s1 : Nat) : f_X5_waitOf S s1 = (S (6 + 5 * s1) 2) := rfl
set_option maxHeartbeats 1000000 in
set_option maxRecDepth 100000 in
theorem c_X5_waitOf (l : Launch) (D : va_G) (cI cS : ClassId) (G : Nat → Nat) (S : Mem) (sz : Nat) (s1 : Nat) (h1 : s1 < 6) : Met l yX5_waitOf wsX5_waitOf ({ frames := 2, cells := 0, slots := 0, locals := 42 } : Room) (wPc 36 (cF cI cS G) D (tY cI cS) G S sz [.ref (G 0), .int (nI s1)]) (pQi (f_X5_waitOf S s1) sz) 0 0 (fun q => sz ≤ q) := by
  refine x_met (cc := cX5_waitOf) (maxL := 2) (ret := (some .int)) (by decide) rfl (Nat.le_of_ble_eq_true rfl) ?_
  intro p e s m below meth c ls hx hb hr hml hts hown hlocks hsz hP hK hD hN hl hnm
  subst hsz
  have hown : s.vm.findClass RX5 = some m.cls := hown
  have hl : lv_has ls 2 [(0, .ref (G 0)), (1, .int (nI s1))] := hl
  have hq := f_X5_waitOf_d S s1
  have hA : ∀ q : Nat, s.heap.size ≤ q → (fun q => s.heap.size ≤ q) q := fun q h => h
  have hS : va_S (fun q => s.heap.size ≤ q) s.heap s.heap [] := va_S.rf
  refine lv_aload_n hx hb dX5_waitOf_0 rfl (lv_at hl 0 rfl) ?_
  refine lv_iload_n hx hb dX5_waitOf_1 rfl (lv_at hl 1 rfl) ?_
  refine x_pr (va_runV (As := [.int (nI s1)]) (rest := []) ⟨hx, hb, hml, hown, hts⟩ (c_X5_stationAt l D cI cS G S s.heap.size s1 (by omega)) (cwV 1 hts gX5_waitOf_X5_stationAt rfl rfl rfl (by decide +kernel) ⟨Nat.le_of_ble_eq_true rfl, Nat.le_of_ble_eq_true rfl⟩) ⟨wPc_blind, va_recv hK hP (ci := 5) (q0 := 0) rfl (WL_at (by decide) (cF_air _)), wPc_at hP hK hD hN⟩ rfl rfl hl.1 rfl (lv_room (Nat.le_of_ble_eq_true rfl)) dX5_waitOf_2 ⟨Nat.le_refl _, Nat.le_refl _⟩) hS hA (fun q h => h) (fun H locs hz hk hS => ?_)
  have hP := P_kept hP hk
  refine x_getN hx hb hts mm_X5_waitOf_X2 hown hK hP (6 + 5 * s1) (by omega) (cF_st _ _) rfl 4 (by decide) (hN.use nk_X5_118 rfl) rfl rfl dX5_waitOf_5 ?_
  exact x_ret_p hx hb hr rfl hlocks hS dX5_waitOf_8 hq

theorem mm_X5_window_X2 : ∀ w ∈ wsX20, w ∈ wsX5_window := by decide +kernel
def f_X5_window (S : Mem) (s1 : Nat) : Int32 := S (6 + 5 * s1) 1
theorem f_X5_window_d (S : Mem) (s1 : Nat) : f_X5_window S s1 = (S (6 + 5 * s1) 1) := rfl
set_option maxHeartbeats 1000000 in
set_option maxRecDepth 100000 in
theorem c_X5_window (l : Launch) (D : va_G) (cI cS : ClassId) (G : Nat → Nat) (S : Mem) (sz : Nat) (s1 : Nat) (h1 : s1 < 6) : Met l yX5_window wsX5_window ({ frames := 2, cells := 0, slots := 0, locals := 42 } : Room) (wPc 36 (cF cI cS G) D (tY cI cS) G S sz [.ref (G 0), .int (nI s1)]) (pQi (f_X5_window S s1) sz) 0 0 (fun q => sz ≤ q) := by
  refine x_met (cc := cX5_window) (maxL := 2) (ret := (some .int)) (by decide) rfl (Nat.le_of_ble_eq_true rfl) ?_
  intro p e s m below meth c ls hx hb hr hml hts hown hlocks hsz hP hK hD hN hl hnm
  subst hsz
  have hown : s.vm.findClass RX5 = some m.cls := hown
  have hl : lv_has ls 2 [(0, .ref (G 0)), (1, .int (nI s1))] := hl
  have hq := f_X5_window_d S s1
  have hA : ∀ q : Nat, s.heap.size ≤ q → (fun q => s.heap.size ≤ q) q := fun q h => h
  have hS : va_S (fun q => s.heap.size ≤ q) s.heap s.heap [] := va_S.rf
  refine lv_aload_n hx hb dX5_window_0 rfl (lv_at hl 0 rfl) ?_
  refine lv_iload_n hx hb dX5_window_1 rfl (lv_at hl 1 rfl) ?_
  refine x_pr (va_runV (As := [.int (nI s1)]) (rest := []) ⟨hx, hb, hml, hown, hts⟩ (c_X5_stationAt l D cI cS G S s.heap.size s1 (by omega)) (cwV 1 hts gX5_window_X5_stationAt rfl rfl rfl (by decide +kernel) ⟨Nat.le_of_ble_eq_true rfl, Nat.le_of_ble_eq_true rfl⟩) ⟨wPc_blind, va_recv hK hP (ci := 5) (q0 := 0) rfl (WL_at (by decide) (cF_air _)), wPc_at hP hK hD hN⟩ rfl rfl hl.1 rfl (lv_room (Nat.le_of_ble_eq_true rfl)) dX5_window_2 ⟨Nat.le_refl _, Nat.le_refl _⟩) hS hA (fun q h => h) (fun H locs hz hk hS => ?_)
  have hP := P_kept hP hk
  refine x_getN hx hb hts mm_X5_window_X2 hown hK hP (6 + 5 * s1) (by omega) (cF_st _ _) rfl 3 (by decide) (hN.use nk_X5_67 rfl) rfl rfl dX5_window_5 ?_
  exact x_ret_p hx hb hr rfl hlocks hS dX5_window_8 hq

theorem mm_X5_failures_X2 : ∀ w ∈ wsX20, w ∈ wsX5_failures := by decide +kernel
theorem nk_X5_121 : Cond.fieldLinkNest RX5 121 "BackofficeAir$Station" "failures" "I" "BackofficeAir" ∈ nestW := by decide +kernel
def f_X5_failures (S : Mem) (s1 : Nat) : Int32 := S (6 + 5 * s1) 3
theorem f_X5_failures_d (S : Mem) (s1 : Nat) : f_X5_failures S s1 = (S (6 + 5 * s1) 3) := rfl
set_option maxHeartbeats 1000000 in
set_option maxRecDepth 100000 in
theorem c_X5_failures (l : Launch) (D : va_G) (cI cS : ClassId) (G : Nat → Nat) (S : Mem) (sz : Nat) (s1 : Nat) (h1 : s1 < 6) : Met l yX5_failures wsX5_failures ({ frames := 2, cells := 0, slots := 0, locals := 42 } : Room) (wPc 36 (cF cI cS G) D (tY cI cS) G S sz [.ref (G 0), .int (nI s1)]) (pQi (f_X5_failures S s1) sz) 0 0 (fun q => sz ≤ q) := by
  refine x_met (cc := cX5_failures) (maxL := 2) (ret := (some .int)) (by decide) rfl (Nat.le_of_ble_eq_true rfl) ?_
  intro p e s m below meth c ls hx hb hr hml hts hown hlocks hsz hP hK hD hN hl hnm
  subst hsz
  have hown : s.vm.findClass RX5 = some m.cls := hown
  have hl : lv_has ls 2 [(0, .ref (G 0)), (1, .int (nI s1))] := hl
  have hq := f_X5_failures_d S s1
  have hA : ∀ q : Nat, s.heap.size ≤ q → (fun q => s.heap.size ≤ q) q := fun q h => h
  have hS : va_S (fun q => s.heap.size ≤ q) s.heap s.heap [] := va_S.rf
  refine lv_aload_n hx hb dX5_failures_0 rfl (lv_at hl 0 rfl) ?_
  refine lv_iload_n hx hb dX5_failures_1 rfl (lv_at hl 1 rfl) ?_
  refine x_pr (va_runV (As := [.int (nI s1)]) (rest := []) ⟨hx, hb, hml, hown, hts⟩ (c_X5_stationAt l D cI cS G S s.heap.size s1 (by omega)) (cwV 1 hts gX5_failures_X5_stationAt rfl rfl rfl (by decide +kernel) ⟨Nat.le_of_ble_eq_true rfl, Nat.le_of_ble_eq_true rfl⟩) ⟨wPc_blind, va_recv hK hP (ci := 5) (q0 := 0) rfl (WL_at (by decide) (cF_air _)), wPc_at hP hK hD hN⟩ rfl rfl hl.1 rfl (lv_room (Nat.le_of_ble_eq_true rfl)) dX5_failures_2 ⟨Nat.le_refl _, Nat.le_refl _⟩) hS hA (fun q h => h) (fun H locs hz hk hS => ?_)
  have hP := P_kept hP hk
  refine x_getN hx hb hts mm_X5_failures_X2 hown hK hP (6 + 5 * s1) (by omega) (cF_st _ _) rfl 5 (by decide) (hN.use nk_X5_121 rfl) rfl rfl dX5_failures_5 ?_
  exact x_ret_p hx hb hr rfl hlocks hS dX5_failures_8 hq

theorem mm_X5_silencedTo_X2 : ∀ w ∈ wsX20, w ∈ wsX5_silencedTo := by decide +kernel
def f_X5_silencedTo (S : Mem) (s1 : Nat) : Int32 := S (6 + 5 * s1) 4
theorem f_X5_silencedTo_d (S : Mem) (s1 : Nat) : f_X5_silencedTo S s1 = (S (6 + 5 * s1) 4) := rfl
set_option maxHeartbeats 1000000 in
set_option maxRecDepth 100000 in
theorem c_X5_silencedTo (l : Launch) (D : va_G) (cI cS : ClassId) (G : Nat → Nat) (S : Mem) (sz : Nat) (s1 : Nat) (h1 : s1 < 6) : Met l yX5_silencedTo wsX5_silencedTo ({ frames := 2, cells := 0, slots := 0, locals := 42 } : Room) (wPc 36 (cF cI cS G) D (tY cI cS) G S sz [.ref (G 0), .int (nI s1)]) (pQi (f_X5_silencedTo S s1) sz) 0 0 (fun q => sz ≤ q) := by
  refine x_met (cc := cX5_silencedTo) (maxL := 2) (ret := (some .int)) (by decide) rfl (Nat.le_of_ble_eq_true rfl) ?_
  intro p e s m below meth c ls hx hb hr hml hts hown hlocks hsz hP hK hD hN hl hnm
  subst hsz
  have hown : s.vm.findClass RX5 = some m.cls := hown
  have hl : lv_has ls 2 [(0, .ref (G 0)), (1, .int (nI s1))] := hl
  have hq := f_X5_silencedTo_d S s1
  have hA : ∀ q : Nat, s.heap.size ≤ q → (fun q => s.heap.size ≤ q) q := fun q h => h
  have hS : va_S (fun q => s.heap.size ≤ q) s.heap s.heap [] := va_S.rf
  refine lv_aload_n hx hb dX5_silencedTo_0 rfl (lv_at hl 0 rfl) ?_
  refine lv_iload_n hx hb dX5_silencedTo_1 rfl (lv_at hl 1 rfl) ?_
  refine x_pr (va_runV (As := [.int (nI s1)]) (rest := []) ⟨hx, hb, hml, hown, hts⟩ (c_X5_stationAt l D cI cS G S s.heap.size s1 (by omega)) (cwV 1 hts gX5_silencedTo_X5_stationAt rfl rfl rfl (by decide +kernel) ⟨Nat.le_of_ble_eq_true rfl, Nat.le_of_ble_eq_true rfl⟩) ⟨wPc_blind, va_recv hK hP (ci := 5) (q0 := 0) rfl (WL_at (by decide) (cF_air _)), wPc_at hP hK hD hN⟩ rfl rfl hl.1 rfl (lv_room (Nat.le_of_ble_eq_true rfl)) dX5_silencedTo_2 ⟨Nat.le_refl _, Nat.le_refl _⟩) hS hA (fun q h => h) (fun H locs hz hk hS => ?_)
  have hP := P_kept hP hk
  refine x_getN hx hb hts mm_X5_silencedTo_X2 hown hK hP (6 + 5 * s1) (by omega) (cF_st _ _) rfl 6 (by decide) (hN.use nk_X5_124 rfl) rfl rfl dX5_silencedTo_5 ?_
  exact x_ret_p hx hb hr rfl hlocks hS dX5_silencedTo_8 hq

theorem mm_X5_frames_X0 : ∀ w ∈ wsX00, w ∈ wsX5_frames := by decide +kernel
theorem mm_X5_frames_X2 : ∀ w ∈ wsX20, w ∈ wsX5_frames := by decide +kernel
def f_X5_frames (S : Mem) (s1 : Nat) : Int32 := S (7 + 5 * s1) 0
theorem f_X5_frames_d (S : Mem) (s1 : Nat) : f_X5_frames S s1 = (S (7 + 5 * s1) 0) := rfl
set_option maxHeartbeats 1000000 in
set_option maxRecDepth 100000 in
theorem c_X5_frames (l : Launch) (D : va_G) (cI cS : ClassId) (G : Nat → Nat) (S : Mem) (sz : Nat) (s1 : Nat) (h1 : s1 < 6) : Met l yX5_frames wsX5_frames ({ frames := 2, cells := 0, slots := 0, locals := 42 } : Room) (wPc 36 (cF cI cS G) D (tY cI cS) G S sz [.ref (G 0), .int (nI s1)]) (pQi (f_X5_frames S s1) sz) 0 0 (fun q => sz ≤ q) := by
  refine x_met (cc := cX5_frames) (maxL := 2) (ret := (some .int)) (by decide) rfl (Nat.le_of_ble_eq_true rfl) ?_
  intro p e s m below meth c ls hx hb hr hml hts hown hlocks hsz hP hK hD hN hl hnm
  subst hsz
  have hown : s.vm.findClass RX5 = some m.cls := hown
  have hl : lv_has ls 2 [(0, .ref (G 0)), (1, .int (nI s1))] := hl
  have hq := f_X5_frames_d S s1
  have hA : ∀ q : Nat, s.heap.size ≤ q → (fun q => s.heap.size ≤ q) q := fun q h => h
  have hS : va_S (fun q => s.heap.size ≤ q) s.heap s.heap [] := va_S.rf
  refine lv_aload_n hx hb dX5_frames_0 rfl (lv_at hl 0 rfl) ?_
  refine lv_iload_n hx hb dX5_frames_1 rfl (lv_at hl 1 rfl) ?_
  refine x_pr (va_runV (As := [.int (nI s1)]) (rest := []) ⟨hx, hb, hml, hown, hts⟩ (c_X5_stationAt l D cI cS G S s.heap.size s1 (by omega)) (cwV 1 hts gX5_frames_X5_stationAt rfl rfl rfl (by decide +kernel) ⟨Nat.le_of_ble_eq_true rfl, Nat.le_of_ble_eq_true rfl⟩) ⟨wPc_blind, va_recv hK hP (ci := 5) (q0 := 0) rfl (WL_at (by decide) (cF_air _)), wPc_at hP hK hD hN⟩ rfl rfl hl.1 rfl (lv_room (Nat.le_of_ble_eq_true rfl)) dX5_frames_2 ⟨Nat.le_refl _, Nat.le_refl _⟩) hS hA (fun q h => h) (fun H locs hz hk hS => ?_)
  have hP := P_kept hP hk
  refine x_getN hx hb hts mm_X5_frames_X2 hown hK hP (6 + 5 * s1) (by omega) (cF_st _ _) rfl 0 (by decide) (hN.use nk_X5_86 rfl) rfl rfl dX5_frames_5 ?_
  refine x_getN hx hb hts mm_X5_frames_X0 hown hK hP (7 + 5 * s1) (by omega) (cF_row _ _) rfl 2 (by decide) (hN.use nk_X5_92 rfl) rfl rfl dX5_frames_8 ?_
  exact x_ret_p hx hb hr rfl hlocks hS dX5_frames_11 hq

theorem mm_X5_partsLeft_X2 : ∀ w ∈ wsX20, w ∈ wsX5_partsLeft := by decide +kernel
def f_X5_partsLeft (S : Mem) (s1 : Nat) : Int32 := f_X0_partsOfFirst S s1
theorem f_X5_partsLeft_d (S : Mem) (s1 : Nat) : f_X5_partsLeft S s1 = (f_X0_partsOfFirst S s1) := rfl
set_option maxHeartbeats 1000000 in
set_option maxRecDepth 100000 in
theorem c_X5_partsLeft (l : Launch) (D : va_G) (cI cS : ClassId) (G : Nat → Nat) (S : Mem) (sz : Nat) (s1 : Nat) (h1 : s1 < 6) : Met l yX5_partsLeft wsX5_partsLeft ({ frames := 2, cells := 0, slots := 0, locals := 42 } : Room) (wPc 36 (cF cI cS G) D (tY cI cS) G S sz [.ref (G 0), .int (nI s1)]) (pQi (f_X5_partsLeft S s1) sz) 0 0 (fun q => sz ≤ q) := by
  refine x_met (cc := cX5_partsLeft) (maxL := 2) (ret := (some .int)) (by decide) rfl (Nat.le_of_ble_eq_true rfl) ?_
  intro p e s m below meth c ls hx hb hr hml hts hown hlocks hsz hP hK hD hN hl hnm
  subst hsz
  have hown : s.vm.findClass RX5 = some m.cls := hown
  have hl : lv_has ls 2 [(0, .ref (G 0)), (1, .int (nI s1))] := hl
  have hq := f_X5_partsLeft_d S s1
  have hA : ∀ q : Nat, s.heap.size ≤ q → (fun q => s.heap.size ≤ q) q := fun q h => h
  have hS : va_S (fun q => s.heap.size ≤ q) s.heap s.heap [] := va_S.rf
  refine lv_aload_n hx hb dX5_partsLeft_0 rfl (lv_at hl 0 rfl) ?_
  refine lv_iload_n hx hb dX5_partsLeft_1 rfl (lv_at hl 1 rfl) ?_
  refine x_pr (va_runV (As := [.int (nI s1)]) (rest := []) ⟨hx, hb, hml, hown, hts⟩ (c_X5_stationAt l D cI cS G S s.heap.size s1 (by omega)) (cwV 1 hts gX5_partsLeft_X5_stationAt rfl rfl rfl (by decide +kernel) ⟨Nat.le_of_ble_eq_true rfl, Nat.le_of_ble_eq_true rfl⟩) ⟨wPc_blind, va_recv hK hP (ci := 5) (q0 := 0) rfl (WL_at (by decide) (cF_air _)), wPc_at hP hK hD hN⟩ rfl rfl hl.1 rfl (lv_room (Nat.le_of_ble_eq_true rfl)) dX5_partsLeft_2 ⟨Nat.le_refl _, Nat.le_refl _⟩) hS hA (fun q h => h) (fun H locs hz hk hS => ?_)
  have hP := P_kept hP hk
  refine x_getN hx hb hts mm_X5_partsLeft_X2 hown hK hP (6 + 5 * s1) (by omega) (cF_st _ _) rfl 0 (by decide) (hN.use nk_X5_86 rfl) rfl rfl dX5_partsLeft_5 ?_
  refine x_pi (va_runV (As := []) (rest := []) ⟨hx, hb, hml, hown, hts⟩ (c_X0_partsOfFirst l D cI cS G S H.size s1 (by omega)) (cwV 0 hts gX5_partsLeft_X0_partsOfFirst rfl rfl rfl (by decide +kernel) ⟨Nat.le_of_ble_eq_true rfl, Nat.le_of_ble_eq_true rfl⟩) ⟨wPc_blind, va_recv hK hP (ci := 0) (q0 := 7 + 5 * s1) rfl (WL_at (by omega) (cF_row _ _)), wPc_at hP hK hD hN⟩ rfl rfl hl.1 rfl (lv_room (Nat.le_of_ble_eq_true rfl)) dX5_partsLeft_8 ⟨Nat.le_refl _, Nat.le_refl _⟩) hS hA (fun q h => h) (fun H locs hz hk hS => ?_)
  have hP := P_kept hP hk
  exact x_ret_p hx hb hr rfl hlocks hS dX5_partsLeft_11 hq

theorem mm_X5_delivered_X2 : ∀ w ∈ wsX20, w ∈ wsX5_delivered := by decide +kernel
theorem nk_X5_130 : Cond.fieldLinkNest RX5 130 "BackofficeAir$Station" "delivered" "I" "BackofficeAir" ∈ nestW := by decide +kernel
def f_X5_delivered (S : Mem) (s1 : Nat) : Int32 := S (6 + 5 * s1) 5
theorem f_X5_delivered_d (S : Mem) (s1 : Nat) : f_X5_delivered S s1 = (S (6 + 5 * s1) 5) := rfl
set_option maxHeartbeats 1000000 in
set_option maxRecDepth 100000 in
theorem c_X5_delivered (l : Launch) (D : va_G) (cI cS : ClassId) (G : Nat → Nat) (S : Mem) (sz : Nat) (s1 : Nat) (h1 : s1 < 6) : Met l yX5_delivered wsX5_delivered ({ frames := 2, cells := 0, slots := 0, locals := 42 } : Room) (wPc 36 (cF cI cS G) D (tY cI cS) G S sz [.ref (G 0), .int (nI s1)]) (pQi (f_X5_delivered S s1) sz) 0 0 (fun q => sz ≤ q) := by
  refine x_met (cc := cX5_delivered) (maxL := 2) (ret := (some .int)) (by decide) rfl (Nat.le_of_ble_eq_true rfl) ?_
  intro p e s m below meth c ls hx hb hr hml hts hown hlocks hsz hP hK hD hN hl hnm
  subst hsz
  have hown : s.vm.findClass RX5 = some m.cls := hown
  have hl : lv_has ls 2 [(0, .ref (G 0)), (1, .int (nI s1))] := hl
  have hq := f_X5_delivered_d S s1
  have hA : ∀ q : Nat, s.heap.size ≤ q → (fun q => s.heap.size ≤ q) q := fun q h => h
  have hS : va_S (fun q => s.heap.size ≤ q) s.heap s.heap [] := va_S.rf
  refine lv_aload_n hx hb dX5_delivered_0 rfl (lv_at hl 0 rfl) ?_
  refine lv_iload_n hx hb dX5_delivered_1 rfl (lv_at hl 1 rfl) ?_
  refine x_pr (va_runV (As := [.int (nI s1)]) (rest := []) ⟨hx, hb, hml, hown, hts⟩ (c_X5_stationAt l D cI cS G S s.heap.size s1 (by omega)) (cwV 1 hts gX5_delivered_X5_stationAt rfl rfl rfl (by decide +kernel) ⟨Nat.le_of_ble_eq_true rfl, Nat.le_of_ble_eq_true rfl⟩) ⟨wPc_blind, va_recv hK hP (ci := 5) (q0 := 0) rfl (WL_at (by decide) (cF_air _)), wPc_at hP hK hD hN⟩ rfl rfl hl.1 rfl (lv_room (Nat.le_of_ble_eq_true rfl)) dX5_delivered_2 ⟨Nat.le_refl _, Nat.le_refl _⟩) hS hA (fun q h => h) (fun H locs hz hk hS => ?_)
  have hP := P_kept hP hk
  refine x_getN hx hb hts mm_X5_delivered_X2 hown hK hP (6 + 5 * s1) (by omega) (cF_st _ _) rfl 7 (by decide) (hN.use nk_X5_130 rfl) rfl rfl dX5_delivered_5 ?_
  exact x_ret_p hx hb hr rfl hlocks hS dX5_delivered_8 hq

theorem mm_X5_dropped_X2 : ∀ w ∈ wsX20, w ∈ wsX5_dropped := by decide +kernel
theorem nk_X5_133 : Cond.fieldLinkNest RX5 133 "BackofficeAir$Station" "dropped" "I" "BackofficeAir" ∈ nestW := by decide +kernel
def f_X5_dropped (S : Mem) (s1 : Nat) : Int32 := S (6 + 5 * s1) 6
theorem f_X5_dropped_d (S : Mem) (s1 : Nat) : f_X5_dropped S s1 = (S (6 + 5 * s1) 6) := rfl
set_option maxHeartbeats 1000000 in
set_option maxRecDepth 100000 in
theorem c_X5_dropped (l : Launch) (D : va_G) (cI cS : ClassId) (G : Nat → Nat) (S : Mem) (sz : Nat) (s1 : Nat) (h1 : s1 < 6) : Met l yX5_dropped wsX5_dropped ({ frames := 2, cells := 0, slots := 0, locals := 42 } : Room) (wPc 36 (cF cI cS G) D (tY cI cS) G S sz [.ref (G 0), .int (nI s1)]) (pQi (f_X5_dropped S s1) sz) 0 0 (fun q => sz ≤ q) := by
  refine x_met (cc := cX5_dropped) (maxL := 2) (ret := (some .int)) (by decide) rfl (Nat.le_of_ble_eq_true rfl) ?_
  intro p e s m below meth c ls hx hb hr hml hts hown hlocks hsz hP hK hD hN hl hnm
  subst hsz
  have hown : s.vm.findClass RX5 = some m.cls := hown
  have hl : lv_has ls 2 [(0, .ref (G 0)), (1, .int (nI s1))] := hl
  have hq := f_X5_dropped_d S s1
  have hA : ∀ q : Nat, s.heap.size ≤ q → (fun q => s.heap.size ≤ q) q := fun q h => h
  have hS : va_S (fun q => s.heap.size ≤ q) s.heap s.heap [] := va_S.rf
  refine lv_aload_n hx hb dX5_dropped_0 rfl (lv_at hl 0 rfl) ?_
  refine lv_iload_n hx hb dX5_dropped_1 rfl (lv_at hl 1 rfl) ?_
  refine x_pr (va_runV (As := [.int (nI s1)]) (rest := []) ⟨hx, hb, hml, hown, hts⟩ (c_X5_stationAt l D cI cS G S s.heap.size s1 (by omega)) (cwV 1 hts gX5_dropped_X5_stationAt rfl rfl rfl (by decide +kernel) ⟨Nat.le_of_ble_eq_true rfl, Nat.le_of_ble_eq_true rfl⟩) ⟨wPc_blind, va_recv hK hP (ci := 5) (q0 := 0) rfl (WL_at (by decide) (cF_air _)), wPc_at hP hK hD hN⟩ rfl rfl hl.1 rfl (lv_room (Nat.le_of_ble_eq_true rfl)) dX5_dropped_2 ⟨Nat.le_refl _, Nat.le_refl _⟩) hS hA (fun q h => h) (fun H locs hz hk hS => ?_)
  have hP := P_kept hP hk
  refine x_getN hx hb hts mm_X5_dropped_X2 hown hK hP (6 + 5 * s1) (by omega) (cF_st _ _) rfl 8 (by decide) (hN.use nk_X5_133 rfl) rfl rfl dX5_dropped_5 ?_
  exact x_ret_p hx hb hr rfl hlocks hS dX5_dropped_8 hq

theorem mm_X5_airtime_X2 : ∀ w ∈ wsX20, w ∈ wsX5_airtime := by decide +kernel
def f_X5_airtime (S : Mem) (s1 : Nat) : Int32 := S (6 + 5 * s1) 7
theorem f_X5_airtime_d (S : Mem) (s1 : Nat) : f_X5_airtime S s1 = (S (6 + 5 * s1) 7) := rfl
set_option maxHeartbeats 1000000 in
set_option maxRecDepth 100000 in
theorem c_X5_airtime (l : Launch) (D : va_G) (cI cS : ClassId) (G : Nat → Nat) (S : Mem) (sz : Nat) (s1 : Nat) (h1 : s1 < 6) : Met l yX5_airtime wsX5_airtime ({ frames := 2, cells := 0, slots := 0, locals := 42 } : Room) (wPc 36 (cF cI cS G) D (tY cI cS) G S sz [.ref (G 0), .int (nI s1)]) (pQi (f_X5_airtime S s1) sz) 0 0 (fun q => sz ≤ q) := by
  refine x_met (cc := cX5_airtime) (maxL := 2) (ret := (some .int)) (by decide) rfl (Nat.le_of_ble_eq_true rfl) ?_
  intro p e s m below meth c ls hx hb hr hml hts hown hlocks hsz hP hK hD hN hl hnm
  subst hsz
  have hown : s.vm.findClass RX5 = some m.cls := hown
  have hl : lv_has ls 2 [(0, .ref (G 0)), (1, .int (nI s1))] := hl
  have hq := f_X5_airtime_d S s1
  have hA : ∀ q : Nat, s.heap.size ≤ q → (fun q => s.heap.size ≤ q) q := fun q h => h
  have hS : va_S (fun q => s.heap.size ≤ q) s.heap s.heap [] := va_S.rf
  refine lv_aload_n hx hb dX5_airtime_0 rfl (lv_at hl 0 rfl) ?_
  refine lv_iload_n hx hb dX5_airtime_1 rfl (lv_at hl 1 rfl) ?_
  refine x_pr (va_runV (As := [.int (nI s1)]) (rest := []) ⟨hx, hb, hml, hown, hts⟩ (c_X5_stationAt l D cI cS G S s.heap.size s1 (by omega)) (cwV 1 hts gX5_airtime_X5_stationAt rfl rfl rfl (by decide +kernel) ⟨Nat.le_of_ble_eq_true rfl, Nat.le_of_ble_eq_true rfl⟩) ⟨wPc_blind, va_recv hK hP (ci := 5) (q0 := 0) rfl (WL_at (by decide) (cF_air _)), wPc_at hP hK hD hN⟩ rfl rfl hl.1 rfl (lv_room (Nat.le_of_ble_eq_true rfl)) dX5_airtime_2 ⟨Nat.le_refl _, Nat.le_refl _⟩) hS hA (fun q h => h) (fun H locs hz hk hS => ?_)
  have hP := P_kept hP hk
  refine x_getN hx hb hts mm_X5_airtime_X2 hown hK hP (6 + 5 * s1) (by omega) (cF_st _ _) rfl 9 (by decide) (hN.use nk_X5_136 rfl) rfl rfl dX5_airtime_5 ?_
  exact x_ret_p hx hb hr rfl hlocks hS dX5_airtime_8 hq

theorem mm_X5_airtimeBySendings_X1 : ∀ w ∈ wsX10, w ∈ wsX5_airtimeBySendings := by decide +kernel
theorem mm_X5_airtimeBySendings_X2 : ∀ w ∈ wsX20, w ∈ wsX5_airtimeBySendings := by decide +kernel
theorem mm_X5_airtimeBySendings_X5 : ∀ w ∈ wsX50, w ∈ wsX5_airtimeBySendings := by decide +kernel
theorem lk_X5_airtimeBySendings_33 : Cond.fieldLink RX5 33 "BackofficeAir" "slot" "I" ∈ wsX5_airtimeBySendings := by decide +kernel
theorem nk_X5_139 : Cond.fieldLinkNest RX5 139 "BackofficeAir$Station" "slotsOfEnded" "I" "BackofficeAir" ∈ nestW := by decide +kernel
def f_X5_airtimeBySendings (S : Mem) (s1 : Nat) : Int32 := if S (8 + 5 * s1) 0 = 0 then ((S (6 + 5 * s1) 8) + (nI 0)) else ((S (6 + 5 * s1) 8) + (f_X1_slotsUpTo S s1 (S 0 1)))
theorem f_X5_airtimeBySendings_d (S : Mem) (s1 : Nat) : f_X5_airtimeBySendings S s1 = (if S (8 + 5 * s1) 0 = 0 then ((S (6 + 5 * s1) 8) + (nI 0)) else ((S (6 + 5 * s1) 8) + (f_X1_slotsUpTo S s1 (S 0 1)))) := rfl
set_option maxHeartbeats 1000000 in
set_option maxRecDepth 100000 in
theorem c_X5_airtimeBySendings (l : Launch) (D : va_G) (cI cS : ClassId) (G : Nat → Nat) (S : Mem) (sz : Nat) (s1 : Nat) (h1 : s1 < 6) : Met l yX5_airtimeBySendings wsX5_airtimeBySendings ({ frames := 2, cells := 0, slots := 0, locals := 42 } : Room) (wPc 36 (cF cI cS G) D (tY cI cS) G S sz [.ref (G 0), .int (nI s1)]) (pQi (f_X5_airtimeBySendings S s1) sz) 0 0 (fun q => sz ≤ q) := by
  refine x_met (cc := cX5_airtimeBySendings) (maxL := 3) (ret := (some .int)) (by decide) rfl (Nat.le_of_ble_eq_true rfl) ?_
  intro p e s m below meth c ls hx hb hr hml hts hown hlocks hsz hP hK hD hN hl hnm
  subst hsz
  have hown : s.vm.findClass RX5 = some m.cls := hown
  have hl : lv_has ls 3 [(0, .ref (G 0)), (1, .int (nI s1))] := hl
  have hq := f_X5_airtimeBySendings_d S s1
  have hA : ∀ q : Nat, s.heap.size ≤ q → (fun q => s.heap.size ≤ q) q := fun q h => h
  have hS : va_S (fun q => s.heap.size ≤ q) s.heap s.heap [] := va_S.rf
  refine lv_aload_n hx hb dX5_airtimeBySendings_0 rfl (lv_at hl 0 rfl) ?_
  refine lv_iload_n hx hb dX5_airtimeBySendings_1 rfl (lv_at hl 1 rfl) ?_
  refine x_pr (va_runV (As := [.int (nI s1)]) (rest := []) ⟨hx, hb, hml, hown, hts⟩ (c_X5_stationAt l D cI cS G S s.heap.size s1 (by omega)) (cwV 1 hts gX5_airtimeBySendings_X5_stationAt rfl rfl rfl (by decide +kernel) ⟨Nat.le_of_ble_eq_true rfl, Nat.le_of_ble_eq_true rfl⟩) ⟨wPc_blind, va_recv hK hP (ci := 5) (q0 := 0) rfl (WL_at (by decide) (cF_air _)), wPc_at hP hK hD hN⟩ rfl rfl hl.1 rfl (lv_room (Nat.le_of_ble_eq_true rfl)) dX5_airtimeBySendings_2 ⟨Nat.le_refl _, Nat.le_refl _⟩) hS hA (fun q h => h) (fun H locs hz hk hS => ?_)
  have hP := P_kept hP hk
  refine lv_astore_n (lv' := [(2, .ref (G (6 + 5 * s1))), (0, .ref (G 0)), (1, .int (nI s1))]) hx hb dX5_airtimeBySendings_5 rfl hl (by decide) rfl (fun ls hl => ?_)
  refine lv_aload_n hx hb dX5_airtimeBySendings_6 rfl (lv_at hl 0 rfl) ?_
  refine x_getN hx hb hts mm_X5_airtimeBySendings_X2 hown hK hP (6 + 5 * s1) (by omega) (cF_st _ _) rfl 10 (by decide) (hN.use nk_X5_139 rfl) rfl rfl dX5_airtimeBySendings_7 ?_
  refine lv_aload_n hx hb dX5_airtimeBySendings_10 rfl (lv_at hl 0 rfl) ?_
  refine x_getN hx hb hts mm_X5_airtimeBySendings_X2 hown hK hP (6 + 5 * s1) (by omega) (cF_st _ _) rfl 1 (by decide) (hN.use nk_X5_108 rfl) rfl rfl dX5_airtimeBySendings_11 ?_
  refine x_getN hx hb hts mm_X5_airtimeBySendings_X1 hown hK hP (8 + 5 * s1) (by omega) (cF_sd _ _) rfl 0 (by decide) (hN.use nk_X5_112 rfl) rfl rfl dX5_airtimeBySendings_14 ?_
  refine lv_if_eq (tgt := 34) hx hb dX5_airtimeBySendings_17 (by decide) (fun c_1 => ?_) (fun c_1 => ?_)
  · have hq := hq.trans (if_pos c_1)
    refine lv_iconst (v := nI 0) hx hb dX5_airtimeBySendings_34 (by decide) ?_
    refine lv_iadd hx hb dX5_airtimeBySendings_35 ?_
    exact x_ret_p hx hb hr rfl hlocks hS dX5_airtimeBySendings_36 hq
  · have hq := hq.trans (if_neg c_1)
    refine lv_aload_n hx hb dX5_airtimeBySendings_20 rfl (lv_at hl 0 rfl) ?_
    refine x_getN hx hb hts mm_X5_airtimeBySendings_X2 hown hK hP (6 + 5 * s1) (by omega) (cF_st _ _) rfl 1 (by decide) (hN.use nk_X5_108 rfl) rfl rfl dX5_airtimeBySendings_21 ?_
    refine lv_aload_n hx hb dX5_airtimeBySendings_24 rfl (lv_at hl 1 rfl) ?_
    refine x_get hx hb hts mm_X5_airtimeBySendings_X5 hown hK hP (0) (by decide) (cF_air _) rfl 4 (by decide) (hts _ lk_X5_airtimeBySendings_33) rfl rfl dX5_airtimeBySendings_25 ?_
    refine x_pi (va_runV (As := [.int (S 0 1)]) (rest := [.int (S (6 + 5 * s1) 8)]) ⟨hx, hb, hml, hown, hts⟩ (c_X1_slotsUpTo l D cI cS G S H.size s1 (S 0 1) (by omega)) (cwV 1 hts gX5_airtimeBySendings_X1_slotsUpTo rfl rfl rfl (by decide +kernel) ⟨Nat.le_of_ble_eq_true rfl, Nat.le_of_ble_eq_true rfl⟩) ⟨wPc_blind, va_recv hK hP (ci := 1) (q0 := 8 + 5 * s1) rfl (WL_at (by omega) (cF_sd _ _)), wPc_at hP hK hD hN⟩ rfl rfl hl.1 rfl (lv_room (Nat.le_of_ble_eq_true rfl)) dX5_airtimeBySendings_28 ⟨Nat.le_refl _, Nat.le_refl _⟩) hS hA (fun q h => h) (fun H locs hz hk hS => ?_)
    have hP := P_kept hP hk
    refine lv_goto (tgt := 35) hx hb dX5_airtimeBySendings_31 (by decide) ?_
    refine lv_iadd hx hb dX5_airtimeBySendings_35 ?_
    exact x_ret_p hx hb hr rfl hlocks hS dX5_airtimeBySendings_36 hq
end
section
-- what a method that throws needs beside the world
def exNm : List String := ["java/lang/IndexOutOfBoundsException", "java/lang/IllegalArgumentException", "java/lang/IllegalStateException"]
def nms : List String := ["java/lang/RuntimeException", "java/lang/Exception"]
def exStr : List (Nat × String) := [(102, "slots is out of range"), (147, "no such station"), (43, "strength is out of range"), (48, "a station has no strength to itself"), (58, "no such class"), (70, "parts is out of range"), (72, "number is out of range"), (79, "200 numbers are left"), (90, "the goal is another station"), (97, "the station has 5 frames")]
def dcl (C : String) : Cond := .declares ⟨C, "<init>", "(Ljava/lang/String;)V"⟩
def exW (X : String) : List Cond := [dcl "java/lang/RuntimeException", dcl "java/lang/Exception", dcl "java/lang/Throwable", .castable X X]
def exAll : List Cond := exNm.flatMap exW
def isEx (w : Cond) : Bool := match w with
  | .declares _ => true
  | .castable _ _ => true
  | _ => false
theorem exAll_ok : exAll.all isEx = true := by decide +kernel
theorem isEx_same {w : Cond} (h : isEx w = true) {u U : State} (hv : u.vm = U.vm) (hZ : va_Nw w u) : va_Nw w U := by
  unfold isEx at h
  split at h
  · exact va_Nw.same rfl hv hZ
  · exact va_Nw.same rfl hv hZ
  · cases h
theorem isEx_warm {w : Cond} (h : isEx w = true) {s U : State} (hW : s.WarmedH U.vm) (hZ : va_Nw w s) : va_Nw w U := by
  unfold isEx at h
  split at h
  · exact va_Nw.warmD hW hZ
  · exact va_Nw.warmC hW hZ
  · cases h
theorem isEx_use {w : Cond} (h : isEx w = true) {A : Array Value} {U : State} (hZ : va_Nw w U) : w.before A U = true := by
  unfold isEx at h
  split at h
  · exact va_Nw.use rfl hZ
  · exact va_Nw.use rfl hZ
  · cases h
def TW (U : State) : Prop := (∀ w ∈ exAll, va_Nw w U) ∧ ∀ q ∈ exStr, ∃ sa : Nat, vk_R RX5 q.1 q.2 sa U
def ZQ (sz : Nat) (U : State) : Prop := vx_Zq Bundle.tN "UNASSIGNED_STACK" Bundle.steD (fun q => sz ≤ q) U U.heap ∧ vx_Zq Bundle.tN "SUPPRESSED_SENTINEL" Bundle.listD (fun q => sz ≤ q) U U.heap
theorem TW.same {u U : State} (hv : u.vm = U.vm) (h : TW u) : TW U := ⟨fun w hw => isEx_same (List.all_eq_true.mp exAll_ok w hw) hv (h.1 w hw), fun q hq => by obtain ⟨sa, hs⟩ := h.2 q hq; exact ⟨sa, vk_R.same hv.symm hs⟩⟩
theorem TW.warm {s U : State} (hW : s.WarmedH U.vm) (h : TW s) : TW U := ⟨fun w hw => isEx_warm (List.all_eq_true.mp exAll_ok w hw) hW (h.1 w hw), fun q hq => by obtain ⟨sa, hs⟩ := h.2 q hq; exact ⟨sa, vk_R.warm hW hs⟩⟩
theorem ZQ_at {s : State} {H : Heap} {locs : List Loc} (hZ : ZQ s.heap.size s) (hS : va_S (fun q => s.heap.size ≤ q) s.heap H locs) {U : State} (hU : U.heap = H) (hW : s.WarmedH U.vm) : ZQ H.size U := by
  have key : ∀ {C n d : String}, vx_Zq C n d (fun q => s.heap.size ≤ q) s s.heap → vx_Zq C n d (fun q => H.size ≤ q) U U.heap := by
    intro C n d h
    rw [hU]
    exact vx_Zq.narrow (vx_Zq.moved hW.alike (vx_Zq.kept h hS.2.1)) (fun q hq => Nat.le_trans hS.1 hq)
  exact ⟨key hZ.1, key hZ.2⟩
def tPc (n : Nat) (F : Nat → (Nat → Int32) → va_E) (D : va_G) (tys : List (ClassId × FieldType)) (G : Nat → Nat) (S : Mem) (sz : Nat) (av : List Value) : Array Value → State → Prop :=
  va_Pc av (fun U => U.heap.size = sz ∧ va_P D vwCl (WL n G F S) U.heap ∧ va_K D vwCl tys U ∧ va_D (fun _ => True) (WL n G F S) ∧ NW U ∧ TW U ∧ ZQ sz U)
theorem tPc_blind {n : Nat} {F : Nat → (Nat → Int32) → va_E} {D : va_G} {tys : List (ClassId × FieldType)} {G : Nat → Nat} {S : Mem} {sz : Nat} {av : List Value} : FrameBlind (tPc n F D tys G S sz av) := fun a U g mk q => by
  obtain ⟨q0, q1, qP, qK, qD, qN, qT, qZ⟩ := q
  exact ⟨q0, q1, qP, va_K.moved (u := U) (U := U.calling g mk a) (Vm.Alike.refl U.vm) qK, qD, NW.same (u := U) (U := U.calling g mk a) rfl qN, TW.same (u := U) (U := U.calling g mk a) rfl qT, ⟨vx_Zq.moved (u := U) (U := U.calling g mk a) (Vm.Alike.refl U.vm) qZ.1, vx_Zq.moved (u := U) (U := U.calling g mk a) (Vm.Alike.refl U.vm) qZ.2⟩⟩
theorem tPc_at {n : Nat} {F : Nat → (Nat → Int32) → va_E} {D : va_G} {tys : List (ClassId × FieldType)} {G : Nat → Nat} {S : Mem} {s : State} {H : Heap} {locs : List Loc} {av : List Value} (hP : va_P D vwCl (WL n G F S) H) (hK : va_K D vwCl tys s) {A : Nat → Prop} (hD : ∀ S' : Mem, va_D A (WL n G F S')) (hN : NW s) (hT : TW s) (hZ : ZQ s.heap.size s) (hS : va_S (fun q => s.heap.size ≤ q) s.heap H locs) : ∀ U : State, U.heap = H → s.WarmedH U.vm → tPc n F D tys G S H.size av av.toArray U := fun U hU hW =>
  ⟨rfl, by rw [hU], by rw [hU]; exact hP, va_K.moved hW.alike hK, (hD S).weaken (fun _ _ _ _ => trivial), NW.warm hW hN, TW.warm hW hT, ZQ_at hZ hS hU hW⟩
/-- it throws E0, nothing old is changed -/
def xX (E0 : String) (sz : Nat) : String → State → State → Prop := vx_X (fun (_ : Unit) => True) (fun E _ _ => E = E0) (fun q => sz ≤ q)
section XT
variable {p : Program} {l : Launch} {e : Env} {R : Room} {s : State} {m : MethodId} {args : Array Value} {below : List Frame} {meth : Method} {c : Code} {H : Heap} {locs : List Loc} {cells slots : Nat} {Q : State → Prop}
variable {cc : ByteArray} {pc : Nat} {ls : Array Slot} {rest st0 : List Value} {D : va_G} {A : Nat → Prop} {tys : List (ClassId × FieldType)} {n : Nat} {G : Nat → Nat} {F : Nat → (Nat → Int32) → va_E} {S : Mem}
theorem x_thr {E0 : String} {mc ms : Nat} {free : Addr → Prop} (hr : vx_Run p l e R s m args below meth c H locs cells slots mc ms (F0 m pc ls st0) rest (fun _ _ _ => False) (xX E0 H.size) free) (hS : va_S A s.heap H locs) (hA : ∀ q, s.heap.size ≤ q → A q) (hf : ∀ q, free q → H.size ≤ q)
    (kx : ∀ (ce : Cell) (q9 : Addr) (H1 : Heap) (locs1 : List Loc), H.size ≤ H1.size → (∀ q : Nat, q < H.size → H1[q]? = H[q]?) → va_S A s.heap H1 locs1 → H1[q9]? = some ce → ce.vm = .none → s.vm.findClass E0 = some ce.cls → vx_W p l e R s m args below meth c H1 locs1 (cells + mc) (slots + ms) Q (F0 m pc ls rest) q9) : W p l e R s m args below meth c H locs cells slots Q (F0 m pc ls st0) := by
  intro T hT X
  rcases hr T hT X with ⟨v, st₀, t, T', L, h0, X', hL, e1, e2, hF, st⟩ | ⟨q, st₀, t, T', L, E, ce, h0, X', hL, e1, e2, ⟨u, hp, hb, hF⟩, hce, hcv, hcl, st⟩
  · exact hF.elim
  · have hb : E = E0 := hb
    subst hb
    obtain ⟨k1, k2, k3⟩ := vx_keep (A1 := fun q => H.size ≤ q) h0 e1 hS (fun q h1 h2 => absurd h1 (Nat.not_lt.mpr h2)) (fun q h => hA q (Nat.le_trans hS.1 (hf q h))) hL hF
    obtain ⟨t2, a1, b1⟩ := kx ce q T'.heap (locs ++ L) k1 (fun q h => k2 q h (Nat.not_le.mpr h)) k3 (by rw [e1]; exact hce) hcv hcl T' rfl X'
    exact ⟨t2, st.trans a1, b1⟩
theorem x_metX {y : MethodName} {ws ws' : List Cond} {rm : Room} {av : List Value} {sz : Nat} {Qc : Array Value → State → Outcome → State → Prop} {XC : String → State → State → Prop} {mc ms : Nat} {free : Addr → Prop} {maxL : Nat} {ret : Option FieldType} (hy : plainName y.cls = true) (hw : ws = Cond.code y cc maxL ret :: ws') (hlen : (lg_sl av).length ≤ maxL)
    (body : ∀ (p : Program) (e : Env) (s : State) (m : MethodId) (below : List Frame) (meth : Method) (c : Code) (ls : Array Slot), p.tables.exec = Jvm.exec → c.code = cc → meth.sig.returnType = ret → c.maxLocals = maxL → (∀ w ∈ ws, w.before av.toArray s = true) → s.vm.findClass y.cls = some m.cls → meth.locks = false → s.heap.size = sz → va_P D vwCl (WL n G F S) s.heap → va_K D vwCl tys s → (∀ S' : Mem, va_D (fA n G s.heap.size) (WL n G F S')) → NW s → TW s → ZQ s.heap.size s → lv_has ls maxL (lv_args 0 av) → (∀ x ∈ c.exceptionTable.toList, False) →
      W p l e rm s m av.toArray below meth c s.heap [] 0 0 (vx_MQ below Qc XC av.toArray s mc ms free) (F0 m 0 ls [])) : vx_Met l y ws rm (tPc n F D tys G S sz av) Qc XC mc ms free := by
  refine vx_ofW (cc := cc) (maxL := maxL) (ret := ret) hy hw ?_
  intro p e s m args below meth c s₁ B hml ht hv
  obtain ⟨rfl, hsz, hP, hK, hD0, hN, hT, hZ⟩ := hv
  have hl := lv_entry av hlen
  rw [lg_entry_eq]
  exact body p e s m below meth c _ B.exec B.bytes B.returns hml (atoms_spec (ws := ws) B.pre) (findClass_of_methodNamed B.named) B.notSynchronized hsz hP hK (fun S' => WL_self hD0) hN hT (by rw [hsz]; exact hZ) hl ht
theorem x_throw (hexec : p.tables.exec = Jvm.exec) (hb : c.code = cc) (hfl : l.stackTraces = false) {cls text : String} {ik is ic : Nat} {Qc : Array Value → State → Outcome → State → Prop} (hown : s.vm.findClass RX5 = some m.cls) (hcls : Bundle.fit cls = true) (hk : (Cond.classLink RX5 ik cls).before args s = true) (hini : (Cond.initialized cls).before args s = true)
    (hstr : (is, text) ∈ exStr) (hX : cls ∈ exNm) (h1 : ∀ w ∈ (vx_atS RX5 ic cls nms).filter goodWord, w.before args s = true) (h2 : (vx_atS RX5 ic cls nms).filter (fun w => !goodWord w) = exW cls) (h3 : ∀ w ∈ vx_atS RX5 ic cls nms, vx_ot w = true) (h4 : vx_ot (.classLink RX5 ik cls) = true ∧ vx_ot (.initialized cls) = true)
    (hT : TW s) (hZ : ZQ s.heap.size s) (hS : va_S (fun q => s.heap.size ≤ q) s.heap H locs) (hsize : ls.size = c.maxLocals) (htb : ∀ x ∈ c.exceptionTable.toList, False)
    (d0 : decode cc pc = .ok (.new ik, 3)) (d3 : decode cc (pc + 3) = .ok (.dup, 1)) (d4 : decode cc (pc + 4) = .ok (.ldc is, 2)) (d6 : decode cc (pc + 6) = .ok (.invokespecial ic, 3)) (d9 : decode cc (pc + 9) = .ok (.athrow, 1)) (hlocks : meth.locks = false)
    (hRf : 5 < R.frames) (hRl : (rest.map fun v => v.category).sum + 82 ≤ R.locals) (hRc : 1 ≤ R.cells) (hRs : 6 ≤ R.slots) :
    W p l e R s m args below meth c H locs 0 0 (vx_MQ below Qc (xX cls s.heap.size) args s 1 6 (fun q => s.heap.size ≤ q)) (F0 m pc ls rest) := by
  obtain ⟨sa, hsa⟩ := hT.2 _ hstr
  exact vx_throwS (names := nms) hexec hb hfl hown hcls (by decide) hk hini hsa (vx_hat h1 (B := exW cls) (fun w h => by rw [h2] at h; exact h) (fun w h => have hm : w ∈ exAll := List.mem_flatMap.mpr ⟨cls, hX, h⟩; isEx_use (List.all_eq_true.mp exAll_ok w hm) (hT.1 w hm))) (List.forall_mem_cons.mpr ⟨h4.1, List.forall_mem_cons.mpr ⟨h4.2, h3⟩⟩) hZ.1 hZ.2 hS hsize d0 d3 d4 d6 d9 (fun x h => (htb x h).elim) hRf hRl hRc hRs hlocks
    (fun t _ hz hk => ⟨(), trivial, rfl, Nat.le_trans hS.1 hz, fun q h1 h2 => (hk q (Nat.lt_of_lt_of_le h1 hS.1)).trans (hS.2.1 q h1 h2)⟩) hS.2.2 (Nat.le_refl _) (Nat.le_refl _)
end XT
theorem ng_149 : (vx_atS RX5 149 "java/lang/IndexOutOfBoundsException" nms).filter (fun w => !goodWord w) = exW "java/lang/IndexOutOfBoundsException" := by decide +kernel
theorem ng_45 : (vx_atS RX5 45 "java/lang/IllegalArgumentException" nms).filter (fun w => !goodWord w) = exW "java/lang/IllegalArgumentException" := by decide +kernel
theorem ng_81 : (vx_atS RX5 81 "java/lang/IllegalStateException" nms).filter (fun w => !goodWord w) = exW "java/lang/IllegalStateException" := by decide +kernel
theorem gw_149 : ∀ w ∈ vx_atS RX5 149 "java/lang/IndexOutOfBoundsException" nms, vx_ot w = true := by decide +kernel
theorem gw_45 : ∀ w ∈ vx_atS RX5 45 "java/lang/IllegalArgumentException" nms, vx_ot w = true := by decide +kernel
theorem gw_81 : ∀ w ∈ vx_atS RX5 81 "java/lang/IllegalStateException" nms, vx_ot w = true := by decide +kernel

theorem lt_X5_stationAt_145 : Cond.classLink RX5 145 "java/lang/IndexOutOfBoundsException" ∈ wsX5_stationAt := by decide +kernel
theorem lu_X5_stationAt_145 : Cond.initialized "java/lang/IndexOutOfBoundsException" ∈ wsX5_stationAt := by decide +kernel
set_option maxHeartbeats 1000000 in
set_option maxRecDepth 100000 in
theorem b_X5_stationAt (l : Launch) (hfl : l.stackTraces = false) (D : va_G) (cI cS : ClassId) (G : Nat → Nat) (S : Mem) (sz : Nat) (x : Int32) (hbad : ¬ x < 0 → nI 6 ≤ x) : vx_Met l yX5_stationAt wsX5_stationAt ({ frames := 6, cells := 1, slots := 6, locals := 90 } : Room) (tPc 36 (cF cI cS G) D (tY cI cS) G S sz [.ref (G 0), .int x]) (fun _ _ _ _ => False) (xX "java/lang/IndexOutOfBoundsException" sz) 1 6 (fun q => sz ≤ q) := by
  refine x_metX (cc := cX5_stationAt) (maxL := 3) (ret := (some (.object "BackofficeAir$Station"))) (by decide) rfl (Nat.le_of_ble_eq_true rfl) ?_
  intro p e s m below meth c ls hx hb hr hml hts hown hlocks hsz hP hK hD hN hT hZ hl htb
  subst hsz
  have hown : s.vm.findClass RX5 = some m.cls := hown
  have hl : lv_has ls 3 [(0, .ref (G 0)), (1, .int x)] := hl
  have hA : ∀ q : Nat, s.heap.size ≤ q → (fun q => s.heap.size ≤ q) q := fun q h => h
  have hS : va_S (fun q => s.heap.size ≤ q) s.heap s.heap [] := va_S.rf
  refine lv_iload_n hx hb dX5_stationAt_0 rfl (lv_at hl 1 rfl) ?_
  refine lv_if_lt (tgt := 22) hx hb dX5_stationAt_1 (by decide) (fun c_1 => ?_) (fun c_1 => ?_)
  · refine lv_null hx hb dX5_stationAt_22 ?_
    refine lv_astore_nN (lv' := [(2, .null), (0, .ref (G 0)), (1, .int x)]) hx hb dX5_stationAt_23 rfl hl (by decide) rfl (fun ls hl => ?_)
    refine lv_aload_nN hx hb dX5_stationAt_24 rfl (lv_at hl 0 rfl) ?_
    refine lv_ifnonnullN hx hb dX5_stationAt_25 ?_
    exact x_throw (ik := 145) (is := 147) (ic := 149) (text := "no such station") hx hb hfl hown (by decide) (hts _ lt_X5_stationAt_145) (hts _ lu_X5_stationAt_145) (by decide) (by decide) (fun w h => hts w (List.mem_cons_of_mem _ (List.mem_append_right _ h))) ng_149 gw_149 (by decide +kernel) hT hZ hS (hl.1.trans hml.symm) htb dX5_stationAt_28 dX5_stationAt_31 dX5_stationAt_32 dX5_stationAt_34 dX5_stationAt_37 hlocks (Nat.le_of_ble_eq_true rfl) (Nat.le_of_ble_eq_true rfl) (Nat.le_of_ble_eq_true rfl) (Nat.le_of_ble_eq_true rfl)
  · refine lv_iload_n hx hb dX5_stationAt_4 rfl (lv_at hl 1 rfl) ?_
    refine lv_aload_n hx hb dX5_stationAt_5 rfl (lv_at hl 0 rfl) ?_
    refine x_get hx hb hts mm_X5_stationAt_X5 hown hK hP (0) (by decide) (cF_air _) rfl 0 (by decide) (hts _ lk_X5_stationAt_11) rfl rfl dX5_stationAt_6 ?_
    refine x_alen hx hb hK hP 1 1 (by decide) (cF_sts _) rfl dX5_stationAt_9 ?_
    refine lv_icmp_ge (tgt := 22) hx hb dX5_stationAt_10 (by decide) (fun _ => ?_) (fun c_2 => absurd (hbad c_1) c_2) 
    refine lv_null hx hb dX5_stationAt_22 ?_
    refine lv_astore_nN (lv' := [(2, .null), (0, .ref (G 0)), (1, .int x)]) hx hb dX5_stationAt_23 rfl hl (by decide) rfl (fun ls hl => ?_)
    refine lv_aload_nN hx hb dX5_stationAt_24 rfl (lv_at hl 0 rfl) ?_
    refine lv_ifnonnullN hx hb dX5_stationAt_25 ?_
    exact x_throw (ik := 145) (is := 147) (ic := 149) (text := "no such station") hx hb hfl hown (by decide) (hts _ lt_X5_stationAt_145) (hts _ lu_X5_stationAt_145) (by decide) (by decide) (fun w h => hts w (List.mem_cons_of_mem _ (List.mem_append_right _ h))) ng_149 gw_149 (by decide +kernel) hT hZ hS (hl.1.trans hml.symm) htb dX5_stationAt_28 dX5_stationAt_31 dX5_stationAt_32 dX5_stationAt_34 dX5_stationAt_37 hlocks (Nat.le_of_ble_eq_true rfl) (Nat.le_of_ble_eq_true rfl) (Nat.le_of_ble_eq_true rfl) (Nat.le_of_ble_eq_true rfl)

set_option maxHeartbeats 1000000 in
set_option maxRecDepth 100000 in
theorem b_X5_sends (l : Launch) (hfl : l.stackTraces = false) (D : va_G) (cI cS : ClassId) (G : Nat → Nat) (S : Mem) (sz : Nat) (x : Int32) (hbad : ¬ x < 0 → nI 6 ≤ x) : vx_Met l yX5_sends wsX5_sends ({ frames := 7, cells := 1, slots := 6, locals := 112 } : Room) (tPc 36 (cF cI cS G) D (tY cI cS) G S sz [.ref (G 0), .int x]) (fun _ _ _ _ => False) (xX "java/lang/IndexOutOfBoundsException" sz) 1 6 (fun q => sz ≤ q) := by
  refine x_metX (cc := cX5_sends) (maxL := 2) (ret := (some .boolean)) (by decide) rfl (Nat.le_of_ble_eq_true rfl) ?_
  intro p e s m below meth c ls hx hb hr hml hts hown hlocks hsz hP hK hD hN hT hZ hl htb
  subst hsz
  have hown : s.vm.findClass RX5 = some m.cls := hown
  have hl : lv_has ls 2 [(0, .ref (G 0)), (1, .int x)] := hl
  have hA : ∀ q : Nat, s.heap.size ≤ q → (fun q => s.heap.size ≤ q) q := fun q h => h
  have hS : va_S (fun q => s.heap.size ≤ q) s.heap s.heap [] := va_S.rf
  refine lv_aload_n hx hb dX5_sends_0 rfl (lv_at hl 0 rfl) ?_
  refine lv_iload_n hx hb dX5_sends_1 rfl (lv_at hl 1 rfl) ?_
  refine x_thr (vx_runV (As := [.int x]) (rest := []) ⟨hx, hb, hml, hown, hts⟩ (b_X5_stationAt l hfl D cI cS G S s.heap.size x hbad) (cwV 1 hts gX5_sends_X5_stationAt rfl rfl rfl (by decide +kernel) ⟨Nat.le_of_ble_eq_true rfl, Nat.le_of_ble_eq_true rfl⟩) ⟨tPc_blind, va_recv hK hP (ci := 5) (q0 := 0) rfl (WL_at (by decide) (cF_air _)), tPc_at hP hK hD hN hT hZ hS⟩ rfl rfl hl.1 rfl (lv_room (Nat.le_of_ble_eq_true rfl)) dX5_sends_2 ⟨Nat.le_of_ble_eq_true rfl, Nat.le_of_ble_eq_true rfl⟩) hS hA (fun q h => h) (fun ce q9 H locs hz hk hS hce hcv hcl => ?_)
  exact vx_out (fun x h => (htb x h).elim) hlocks hce hcv hcl (fun t ht _ => ⟨(), trivial, rfl, hS.F ht⟩) hS.2.2 (Nat.le_of_ble_eq_true rfl) (Nat.le_of_ble_eq_true rfl)

set_option maxHeartbeats 1000000 in
set_option maxRecDepth 100000 in
theorem b_X5_waitOf (l : Launch) (hfl : l.stackTraces = false) (D : va_G) (cI cS : ClassId) (G : Nat → Nat) (S : Mem) (sz : Nat) (x : Int32) (hbad : ¬ x < 0 → nI 6 ≤ x) : vx_Met l yX5_waitOf wsX5_waitOf ({ frames := 7, cells := 1, slots := 6, locals := 112 } : Room) (tPc 36 (cF cI cS G) D (tY cI cS) G S sz [.ref (G 0), .int x]) (fun _ _ _ _ => False) (xX "java/lang/IndexOutOfBoundsException" sz) 1 6 (fun q => sz ≤ q) := by
  refine x_metX (cc := cX5_waitOf) (maxL := 2) (ret := (some .int)) (by decide) rfl (Nat.le_of_ble_eq_true rfl) ?_
  intro p e s m below meth c ls hx hb hr hml hts hown hlocks hsz hP hK hD hN hT hZ hl htb
  subst hsz
  have hown : s.vm.findClass RX5 = some m.cls := hown
  have hl : lv_has ls 2 [(0, .ref (G 0)), (1, .int x)] := hl
  have hA : ∀ q : Nat, s.heap.size ≤ q → (fun q => s.heap.size ≤ q) q := fun q h => h
  have hS : va_S (fun q => s.heap.size ≤ q) s.heap s.heap [] := va_S.rf
  refine lv_aload_n hx hb dX5_waitOf_0 rfl (lv_at hl 0 rfl) ?_
  refine lv_iload_n hx hb dX5_waitOf_1 rfl (lv_at hl 1 rfl) ?_
  refine x_thr (vx_runV (As := [.int x]) (rest := []) ⟨hx, hb, hml, hown, hts⟩ (b_X5_stationAt l hfl D cI cS G S s.heap.size x hbad) (cwV 1 hts gX5_waitOf_X5_stationAt rfl rfl rfl (by decide +kernel) ⟨Nat.le_of_ble_eq_true rfl, Nat.le_of_ble_eq_true rfl⟩) ⟨tPc_blind, va_recv hK hP (ci := 5) (q0 := 0) rfl (WL_at (by decide) (cF_air _)), tPc_at hP hK hD hN hT hZ hS⟩ rfl rfl hl.1 rfl (lv_room (Nat.le_of_ble_eq_true rfl)) dX5_waitOf_2 ⟨Nat.le_of_ble_eq_true rfl, Nat.le_of_ble_eq_true rfl⟩) hS hA (fun q h => h) (fun ce q9 H locs hz hk hS hce hcv hcl => ?_)
  exact vx_out (fun x h => (htb x h).elim) hlocks hce hcv hcl (fun t ht _ => ⟨(), trivial, rfl, hS.F ht⟩) hS.2.2 (Nat.le_of_ble_eq_true rfl) (Nat.le_of_ble_eq_true rfl)

set_option maxHeartbeats 1000000 in
set_option maxRecDepth 100000 in
theorem b_X5_window (l : Launch) (hfl : l.stackTraces = false) (D : va_G) (cI cS : ClassId) (G : Nat → Nat) (S : Mem) (sz : Nat) (x : Int32) (hbad : ¬ x < 0 → nI 6 ≤ x) : vx_Met l yX5_window wsX5_window ({ frames := 7, cells := 1, slots := 6, locals := 112 } : Room) (tPc 36 (cF cI cS G) D (tY cI cS) G S sz [.ref (G 0), .int x]) (fun _ _ _ _ => False) (xX "java/lang/IndexOutOfBoundsException" sz) 1 6 (fun q => sz ≤ q) := by
  refine x_metX (cc := cX5_window) (maxL := 2) (ret := (some .int)) (by decide) rfl (Nat.le_of_ble_eq_true rfl) ?_
  intro p e s m below meth c ls hx hb hr hml hts hown hlocks hsz hP hK hD hN hT hZ hl htb
  subst hsz
  have hown : s.vm.findClass RX5 = some m.cls := hown
  have hl : lv_has ls 2 [(0, .ref (G 0)), (1, .int x)] := hl
  have hA : ∀ q : Nat, s.heap.size ≤ q → (fun q => s.heap.size ≤ q) q := fun q h => h
  have hS : va_S (fun q => s.heap.size ≤ q) s.heap s.heap [] := va_S.rf
  refine lv_aload_n hx hb dX5_window_0 rfl (lv_at hl 0 rfl) ?_
  refine lv_iload_n hx hb dX5_window_1 rfl (lv_at hl 1 rfl) ?_
  refine x_thr (vx_runV (As := [.int x]) (rest := []) ⟨hx, hb, hml, hown, hts⟩ (b_X5_stationAt l hfl D cI cS G S s.heap.size x hbad) (cwV 1 hts gX5_window_X5_stationAt rfl rfl rfl (by decide +kernel) ⟨Nat.le_of_ble_eq_true rfl, Nat.le_of_ble_eq_true rfl⟩) ⟨tPc_blind, va_recv hK hP (ci := 5) (q0 := 0) rfl (WL_at (by decide) (cF_air _)), tPc_at hP hK hD hN hT hZ hS⟩ rfl rfl hl.1 rfl (lv_room (Nat.le_of_ble_eq_true rfl)) dX5_window_2 ⟨Nat.le_of_ble_eq_true rfl, Nat.le_of_ble_eq_true rfl⟩) hS hA (fun q h => h) (fun ce q9 H locs hz hk hS hce hcv hcl => ?_)
  exact vx_out (fun x h => (htb x h).elim) hlocks hce hcv hcl (fun t ht _ => ⟨(), trivial, rfl, hS.F ht⟩) hS.2.2 (Nat.le_of_ble_eq_true rfl) (Nat.le_of_ble_eq_true rfl)

set_option maxHeartbeats 1000000 in
set_option maxRecDepth 100000 in
theorem b_X5_failures (l : Launch) (hfl : l.stackTraces = false) (D : va_G) (cI cS : ClassId) (G : Nat → Nat) (S : Mem) (sz : Nat) (x : Int32) (hbad : ¬ x < 0 → nI 6 ≤ x) : vx_Met l yX5_failures wsX5_failures ({ frames := 7, cells := 1, slots := 6, locals := 112 } : Room) (tPc 36 (cF cI cS G) D (tY cI cS) G S sz [.ref (G 0), .int x]) (fun _ _ _ _ => False) (xX "java/lang/IndexOutOfBoundsException" sz) 1 6 (fun q => sz ≤ q) := by
  refine x_metX (cc := cX5_failures) (maxL := 2) (ret := (some .int)) (by decide) rfl (Nat.le_of_ble_eq_true rfl) ?_
  intro p e s m below meth c ls hx hb hr hml hts hown hlocks hsz hP hK hD hN hT hZ hl htb
  subst hsz
  have hown : s.vm.findClass RX5 = some m.cls := hown
  have hl : lv_has ls 2 [(0, .ref (G 0)), (1, .int x)] := hl
  have hA : ∀ q : Nat, s.heap.size ≤ q → (fun q => s.heap.size ≤ q) q := fun q h => h
  have hS : va_S (fun q => s.heap.size ≤ q) s.heap s.heap [] := va_S.rf
  refine lv_aload_n hx hb dX5_failures_0 rfl (lv_at hl 0 rfl) ?_
  refine lv_iload_n hx hb dX5_failures_1 rfl (lv_at hl 1 rfl) ?_
  refine x_thr (vx_runV (As := [.int x]) (rest := []) ⟨hx, hb, hml, hown, hts⟩ (b_X5_stationAt l hfl D cI cS G S s.heap.size x hbad) (cwV 1 hts gX5_failures_X5_stationAt rfl rfl rfl (by decide +kernel) ⟨Nat.le_of_ble_eq_true rfl, Nat.le_of_ble_eq_true rfl⟩) ⟨tPc_blind, va_recv hK hP (ci := 5) (q0 := 0) rfl (WL_at (by decide) (cF_air _)), tPc_at hP hK hD hN hT hZ hS⟩ rfl rfl hl.1 rfl (lv_room (Nat.le_of_ble_eq_true rfl)) dX5_failures_2 ⟨Nat.le_of_ble_eq_true rfl, Nat.le_of_ble_eq_true rfl⟩) hS hA (fun q h => h) (fun ce q9 H locs hz hk hS hce hcv hcl => ?_)
  exact vx_out (fun x h => (htb x h).elim) hlocks hce hcv hcl (fun t ht _ => ⟨(), trivial, rfl, hS.F ht⟩) hS.2.2 (Nat.le_of_ble_eq_true rfl) (Nat.le_of_ble_eq_true rfl)

set_option maxHeartbeats 1000000 in
set_option maxRecDepth 100000 in
theorem b_X5_silencedTo (l : Launch) (hfl : l.stackTraces = false) (D : va_G) (cI cS : ClassId) (G : Nat → Nat) (S : Mem) (sz : Nat) (x : Int32) (hbad : ¬ x < 0 → nI 6 ≤ x) : vx_Met l yX5_silencedTo wsX5_silencedTo ({ frames := 7, cells := 1, slots := 6, locals := 112 } : Room) (tPc 36 (cF cI cS G) D (tY cI cS) G S sz [.ref (G 0), .int x]) (fun _ _ _ _ => False) (xX "java/lang/IndexOutOfBoundsException" sz) 1 6 (fun q => sz ≤ q) := by
  refine x_metX (cc := cX5_silencedTo) (maxL := 2) (ret := (some .int)) (by decide) rfl (Nat.le_of_ble_eq_true rfl) ?_
  intro p e s m below meth c ls hx hb hr hml hts hown hlocks hsz hP hK hD hN hT hZ hl htb
  subst hsz
  have hown : s.vm.findClass RX5 = some m.cls := hown
  have hl : lv_has ls 2 [(0, .ref (G 0)), (1, .int x)] := hl
  have hA : ∀ q : Nat, s.heap.size ≤ q → (fun q => s.heap.size ≤ q) q := fun q h => h
  have hS : va_S (fun q => s.heap.size ≤ q) s.heap s.heap [] := va_S.rf
  refine lv_aload_n hx hb dX5_silencedTo_0 rfl (lv_at hl 0 rfl) ?_
  refine lv_iload_n hx hb dX5_silencedTo_1 rfl (lv_at hl 1 rfl) ?_
  refine x_thr (vx_runV (As := [.int x]) (rest := []) ⟨hx, hb, hml, hown, hts⟩ (b_X5_stationAt l hfl D cI cS G S s.heap.size x hbad) (cwV 1 hts gX5_silencedTo_X5_stationAt rfl rfl rfl (by decide +kernel) ⟨Nat.le_of_ble_eq_true rfl, Nat.le_of_ble_eq_true rfl⟩) ⟨tPc_blind, va_recv hK hP (ci := 5) (q0 := 0) rfl (WL_at (by decide) (cF_air _)), tPc_at hP hK hD hN hT hZ hS⟩ rfl rfl hl.1 rfl (lv_room (Nat.le_of_ble_eq_true rfl)) dX5_silencedTo_2 ⟨Nat.le_of_ble_eq_true rfl, Nat.le_of_ble_eq_true rfl⟩) hS hA (fun q h => h) (fun ce q9 H locs hz hk hS hce hcv hcl => ?_)
  exact vx_out (fun x h => (htb x h).elim) hlocks hce hcv hcl (fun t ht _ => ⟨(), trivial, rfl, hS.F ht⟩) hS.2.2 (Nat.le_of_ble_eq_true rfl) (Nat.le_of_ble_eq_true rfl)

set_option maxHeartbeats 1000000 in
set_option maxRecDepth 100000 in
theorem b_X5_frames (l : Launch) (hfl : l.stackTraces = false) (D : va_G) (cI cS : ClassId) (G : Nat → Nat) (S : Mem) (sz : Nat) (x : Int32) (hbad : ¬ x < 0 → nI 6 ≤ x) : vx_Met l yX5_frames wsX5_frames ({ frames := 7, cells := 1, slots := 6, locals := 112 } : Room) (tPc 36 (cF cI cS G) D (tY cI cS) G S sz [.ref (G 0), .int x]) (fun _ _ _ _ => False) (xX "java/lang/IndexOutOfBoundsException" sz) 1 6 (fun q => sz ≤ q) := by
  refine x_metX (cc := cX5_frames) (maxL := 2) (ret := (some .int)) (by decide) rfl (Nat.le_of_ble_eq_true rfl) ?_
  intro p e s m below meth c ls hx hb hr hml hts hown hlocks hsz hP hK hD hN hT hZ hl htb
  subst hsz
  have hown : s.vm.findClass RX5 = some m.cls := hown
  have hl : lv_has ls 2 [(0, .ref (G 0)), (1, .int x)] := hl
  have hA : ∀ q : Nat, s.heap.size ≤ q → (fun q => s.heap.size ≤ q) q := fun q h => h
  have hS : va_S (fun q => s.heap.size ≤ q) s.heap s.heap [] := va_S.rf
  refine lv_aload_n hx hb dX5_frames_0 rfl (lv_at hl 0 rfl) ?_
  refine lv_iload_n hx hb dX5_frames_1 rfl (lv_at hl 1 rfl) ?_
  refine x_thr (vx_runV (As := [.int x]) (rest := []) ⟨hx, hb, hml, hown, hts⟩ (b_X5_stationAt l hfl D cI cS G S s.heap.size x hbad) (cwV 1 hts gX5_frames_X5_stationAt rfl rfl rfl (by decide +kernel) ⟨Nat.le_of_ble_eq_true rfl, Nat.le_of_ble_eq_true rfl⟩) ⟨tPc_blind, va_recv hK hP (ci := 5) (q0 := 0) rfl (WL_at (by decide) (cF_air _)), tPc_at hP hK hD hN hT hZ hS⟩ rfl rfl hl.1 rfl (lv_room (Nat.le_of_ble_eq_true rfl)) dX5_frames_2 ⟨Nat.le_of_ble_eq_true rfl, Nat.le_of_ble_eq_true rfl⟩) hS hA (fun q h => h) (fun ce q9 H locs hz hk hS hce hcv hcl => ?_)
  exact vx_out (fun x h => (htb x h).elim) hlocks hce hcv hcl (fun t ht _ => ⟨(), trivial, rfl, hS.F ht⟩) hS.2.2 (Nat.le_of_ble_eq_true rfl) (Nat.le_of_ble_eq_true rfl)

set_option maxHeartbeats 1000000 in
set_option maxRecDepth 100000 in
theorem b_X5_partsLeft (l : Launch) (hfl : l.stackTraces = false) (D : va_G) (cI cS : ClassId) (G : Nat → Nat) (S : Mem) (sz : Nat) (x : Int32) (hbad : ¬ x < 0 → nI 6 ≤ x) : vx_Met l yX5_partsLeft wsX5_partsLeft ({ frames := 7, cells := 1, slots := 6, locals := 112 } : Room) (tPc 36 (cF cI cS G) D (tY cI cS) G S sz [.ref (G 0), .int x]) (fun _ _ _ _ => False) (xX "java/lang/IndexOutOfBoundsException" sz) 1 6 (fun q => sz ≤ q) := by
  refine x_metX (cc := cX5_partsLeft) (maxL := 2) (ret := (some .int)) (by decide) rfl (Nat.le_of_ble_eq_true rfl) ?_
  intro p e s m below meth c ls hx hb hr hml hts hown hlocks hsz hP hK hD hN hT hZ hl htb
  subst hsz
  have hown : s.vm.findClass RX5 = some m.cls := hown
  have hl : lv_has ls 2 [(0, .ref (G 0)), (1, .int x)] := hl
  have hA : ∀ q : Nat, s.heap.size ≤ q → (fun q => s.heap.size ≤ q) q := fun q h => h
  have hS : va_S (fun q => s.heap.size ≤ q) s.heap s.heap [] := va_S.rf
  refine lv_aload_n hx hb dX5_partsLeft_0 rfl (lv_at hl 0 rfl) ?_
  refine lv_iload_n hx hb dX5_partsLeft_1 rfl (lv_at hl 1 rfl) ?_
  refine x_thr (vx_runV (As := [.int x]) (rest := []) ⟨hx, hb, hml, hown, hts⟩ (b_X5_stationAt l hfl D cI cS G S s.heap.size x hbad) (cwV 1 hts gX5_partsLeft_X5_stationAt rfl rfl rfl (by decide +kernel) ⟨Nat.le_of_ble_eq_true rfl, Nat.le_of_ble_eq_true rfl⟩) ⟨tPc_blind, va_recv hK hP (ci := 5) (q0 := 0) rfl (WL_at (by decide) (cF_air _)), tPc_at hP hK hD hN hT hZ hS⟩ rfl rfl hl.1 rfl (lv_room (Nat.le_of_ble_eq_true rfl)) dX5_partsLeft_2 ⟨Nat.le_of_ble_eq_true rfl, Nat.le_of_ble_eq_true rfl⟩) hS hA (fun q h => h) (fun ce q9 H locs hz hk hS hce hcv hcl => ?_)
  exact vx_out (fun x h => (htb x h).elim) hlocks hce hcv hcl (fun t ht _ => ⟨(), trivial, rfl, hS.F ht⟩) hS.2.2 (Nat.le_of_ble_eq_true rfl) (Nat.le_of_ble_eq_true rfl)

set_option maxHeartbeats 1000000 in
set_option maxRecDepth 100000 in
theorem b_X5_delivered (l : Launch) (hfl : l.stackTraces = false) (D : va_G) (cI cS : ClassId) (G : Nat → Nat) (S : Mem) (sz : Nat) (x : Int32) (hbad : ¬ x < 0 → nI 6 ≤ x) : vx_Met l yX5_delivered wsX5_delivered ({ frames := 7, cells := 1, slots := 6, locals := 112 } : Room) (tPc 36 (cF cI cS G) D (tY cI cS) G S sz [.ref (G 0), .int x]) (fun _ _ _ _ => False) (xX "java/lang/IndexOutOfBoundsException" sz) 1 6 (fun q => sz ≤ q) := by
  refine x_metX (cc := cX5_delivered) (maxL := 2) (ret := (some .int)) (by decide) rfl (Nat.le_of_ble_eq_true rfl) ?_
  intro p e s m below meth c ls hx hb hr hml hts hown hlocks hsz hP hK hD hN hT hZ hl htb
  subst hsz
  have hown : s.vm.findClass RX5 = some m.cls := hown
  have hl : lv_has ls 2 [(0, .ref (G 0)), (1, .int x)] := hl
  have hA : ∀ q : Nat, s.heap.size ≤ q → (fun q => s.heap.size ≤ q) q := fun q h => h
  have hS : va_S (fun q => s.heap.size ≤ q) s.heap s.heap [] := va_S.rf
  refine lv_aload_n hx hb dX5_delivered_0 rfl (lv_at hl 0 rfl) ?_
  refine lv_iload_n hx hb dX5_delivered_1 rfl (lv_at hl 1 rfl) ?_
  refine x_thr (vx_runV (As := [.int x]) (rest := []) ⟨hx, hb, hml, hown, hts⟩ (b_X5_stationAt l hfl D cI cS G S s.heap.size x hbad) (cwV 1 hts gX5_delivered_X5_stationAt rfl rfl rfl (by decide +kernel) ⟨Nat.le_of_ble_eq_true rfl, Nat.le_of_ble_eq_true rfl⟩) ⟨tPc_blind, va_recv hK hP (ci := 5) (q0 := 0) rfl (WL_at (by decide) (cF_air _)), tPc_at hP hK hD hN hT hZ hS⟩ rfl rfl hl.1 rfl (lv_room (Nat.le_of_ble_eq_true rfl)) dX5_delivered_2 ⟨Nat.le_of_ble_eq_true rfl, Nat.le_of_ble_eq_true rfl⟩) hS hA (fun q h => h) (fun ce q9 H locs hz hk hS hce hcv hcl => ?_)
  exact vx_out (fun x h => (htb x h).elim) hlocks hce hcv hcl (fun t ht _ => ⟨(), trivial, rfl, hS.F ht⟩) hS.2.2 (Nat.le_of_ble_eq_true rfl) (Nat.le_of_ble_eq_true rfl)

set_option maxHeartbeats 1000000 in
set_option maxRecDepth 100000 in
theorem b_X5_dropped (l : Launch) (hfl : l.stackTraces = false) (D : va_G) (cI cS : ClassId) (G : Nat → Nat) (S : Mem) (sz : Nat) (x : Int32) (hbad : ¬ x < 0 → nI 6 ≤ x) : vx_Met l yX5_dropped wsX5_dropped ({ frames := 7, cells := 1, slots := 6, locals := 112 } : Room) (tPc 36 (cF cI cS G) D (tY cI cS) G S sz [.ref (G 0), .int x]) (fun _ _ _ _ => False) (xX "java/lang/IndexOutOfBoundsException" sz) 1 6 (fun q => sz ≤ q) := by
  refine x_metX (cc := cX5_dropped) (maxL := 2) (ret := (some .int)) (by decide) rfl (Nat.le_of_ble_eq_true rfl) ?_
  intro p e s m below meth c ls hx hb hr hml hts hown hlocks hsz hP hK hD hN hT hZ hl htb
  subst hsz
  have hown : s.vm.findClass RX5 = some m.cls := hown
  have hl : lv_has ls 2 [(0, .ref (G 0)), (1, .int x)] := hl
  have hA : ∀ q : Nat, s.heap.size ≤ q → (fun q => s.heap.size ≤ q) q := fun q h => h
  have hS : va_S (fun q => s.heap.size ≤ q) s.heap s.heap [] := va_S.rf
  refine lv_aload_n hx hb dX5_dropped_0 rfl (lv_at hl 0 rfl) ?_
  refine lv_iload_n hx hb dX5_dropped_1 rfl (lv_at hl 1 rfl) ?_
  refine x_thr (vx_runV (As := [.int x]) (rest := []) ⟨hx, hb, hml, hown, hts⟩ (b_X5_stationAt l hfl D cI cS G S s.heap.size x hbad) (cwV 1 hts gX5_dropped_X5_stationAt rfl rfl rfl (by decide +kernel) ⟨Nat.le_of_ble_eq_true rfl, Nat.le_of_ble_eq_true rfl⟩) ⟨tPc_blind, va_recv hK hP (ci := 5) (q0 := 0) rfl (WL_at (by decide) (cF_air _)), tPc_at hP hK hD hN hT hZ hS⟩ rfl rfl hl.1 rfl (lv_room (Nat.le_of_ble_eq_true rfl)) dX5_dropped_2 ⟨Nat.le_of_ble_eq_true rfl, Nat.le_of_ble_eq_true rfl⟩) hS hA (fun q h => h) (fun ce q9 H locs hz hk hS hce hcv hcl => ?_)
  exact vx_out (fun x h => (htb x h).elim) hlocks hce hcv hcl (fun t ht _ => ⟨(), trivial, rfl, hS.F ht⟩) hS.2.2 (Nat.le_of_ble_eq_true rfl) (Nat.le_of_ble_eq_true rfl)

set_option maxHeartbeats 1000000 in
set_option maxRecDepth 100000 in
theorem b_X5_airtime (l : Launch) (hfl : l.stackTraces = false) (D : va_G) (cI cS : ClassId) (G : Nat → Nat) (S : Mem) (sz : Nat) (x : Int32) (hbad : ¬ x < 0 → nI 6 ≤ x) : vx_Met l yX5_airtime wsX5_airtime ({ frames := 7, cells := 1, slots := 6, locals := 112 } : Room) (tPc 36 (cF cI cS G) D (tY cI cS) G S sz [.ref (G 0), .int x]) (fun _ _ _ _ => False) (xX "java/lang/IndexOutOfBoundsException" sz) 1 6 (fun q => sz ≤ q) := by
  refine x_metX (cc := cX5_airtime) (maxL := 2) (ret := (some .int)) (by decide) rfl (Nat.le_of_ble_eq_true rfl) ?_
  intro p e s m below meth c ls hx hb hr hml hts hown hlocks hsz hP hK hD hN hT hZ hl htb
  subst hsz
  have hown : s.vm.findClass RX5 = some m.cls := hown
  have hl : lv_has ls 2 [(0, .ref (G 0)), (1, .int x)] := hl
  have hA : ∀ q : Nat, s.heap.size ≤ q → (fun q => s.heap.size ≤ q) q := fun q h => h
  have hS : va_S (fun q => s.heap.size ≤ q) s.heap s.heap [] := va_S.rf
  refine lv_aload_n hx hb dX5_airtime_0 rfl (lv_at hl 0 rfl) ?_
  refine lv_iload_n hx hb dX5_airtime_1 rfl (lv_at hl 1 rfl) ?_
  refine x_thr (vx_runV (As := [.int x]) (rest := []) ⟨hx, hb, hml, hown, hts⟩ (b_X5_stationAt l hfl D cI cS G S s.heap.size x hbad) (cwV 1 hts gX5_airtime_X5_stationAt rfl rfl rfl (by decide +kernel) ⟨Nat.le_of_ble_eq_true rfl, Nat.le_of_ble_eq_true rfl⟩) ⟨tPc_blind, va_recv hK hP (ci := 5) (q0 := 0) rfl (WL_at (by decide) (cF_air _)), tPc_at hP hK hD hN hT hZ hS⟩ rfl rfl hl.1 rfl (lv_room (Nat.le_of_ble_eq_true rfl)) dX5_airtime_2 ⟨Nat.le_of_ble_eq_true rfl, Nat.le_of_ble_eq_true rfl⟩) hS hA (fun q h => h) (fun ce q9 H locs hz hk hS hce hcv hcl => ?_)
  exact vx_out (fun x h => (htb x h).elim) hlocks hce hcv hcl (fun t ht _ => ⟨(), trivial, rfl, hS.F ht⟩) hS.2.2 (Nat.le_of_ble_eq_true rfl) (Nat.le_of_ble_eq_true rfl)

set_option maxHeartbeats 1000000 in
set_option maxRecDepth 100000 in
theorem b_X5_airtimeBySendings (l : Launch) (hfl : l.stackTraces = false) (D : va_G) (cI cS : ClassId) (G : Nat → Nat) (S : Mem) (sz : Nat) (x : Int32) (hbad : ¬ x < 0 → nI 6 ≤ x) : vx_Met l yX5_airtimeBySendings wsX5_airtimeBySendings ({ frames := 7, cells := 1, slots := 6, locals := 112 } : Room) (tPc 36 (cF cI cS G) D (tY cI cS) G S sz [.ref (G 0), .int x]) (fun _ _ _ _ => False) (xX "java/lang/IndexOutOfBoundsException" sz) 1 6 (fun q => sz ≤ q) := by
  refine x_metX (cc := cX5_airtimeBySendings) (maxL := 3) (ret := (some .int)) (by decide) rfl (Nat.le_of_ble_eq_true rfl) ?_
  intro p e s m below meth c ls hx hb hr hml hts hown hlocks hsz hP hK hD hN hT hZ hl htb
  subst hsz
  have hown : s.vm.findClass RX5 = some m.cls := hown
  have hl : lv_has ls 3 [(0, .ref (G 0)), (1, .int x)] := hl
  have hA : ∀ q : Nat, s.heap.size ≤ q → (fun q => s.heap.size ≤ q) q := fun q h => h
  have hS : va_S (fun q => s.heap.size ≤ q) s.heap s.heap [] := va_S.rf
  refine lv_aload_n hx hb dX5_airtimeBySendings_0 rfl (lv_at hl 0 rfl) ?_
  refine lv_iload_n hx hb dX5_airtimeBySendings_1 rfl (lv_at hl 1 rfl) ?_
  refine x_thr (vx_runV (As := [.int x]) (rest := []) ⟨hx, hb, hml, hown, hts⟩ (b_X5_stationAt l hfl D cI cS G S s.heap.size x hbad) (cwV 1 hts gX5_airtimeBySendings_X5_stationAt rfl rfl rfl (by decide +kernel) ⟨Nat.le_of_ble_eq_true rfl, Nat.le_of_ble_eq_true rfl⟩) ⟨tPc_blind, va_recv hK hP (ci := 5) (q0 := 0) rfl (WL_at (by decide) (cF_air _)), tPc_at hP hK hD hN hT hZ hS⟩ rfl rfl hl.1 rfl (lv_room (Nat.le_of_ble_eq_true rfl)) dX5_airtimeBySendings_2 ⟨Nat.le_of_ble_eq_true rfl, Nat.le_of_ble_eq_true rfl⟩) hS hA (fun q h => h) (fun ce q9 H locs hz hk hS hce hcv hcl => ?_)
  exact vx_out (fun x h => (htb x h).elim) hlocks hce hcv hcl (fun t ht _ => ⟨(), trivial, rfl, hS.F ht⟩) hS.2.2 (Nat.le_of_ble_eq_true rfl) (Nat.le_of_ble_eq_true rfl)

set_option maxHeartbeats 1000000 in
set_option maxRecDepth 100000 in
theorem b_X5_setStrength__1 (l : Launch) (hfl : l.stackTraces = false) (D : va_G) (cI cS : ClassId) (G : Nat → Nat) (S : Mem) (sz : Nat) (x : Int32) (y : Int32) (v : Int32) (hbad : ¬ x < 0 → nI 6 ≤ x) : vx_Met l yX5_setStrength wsX5_setStrength ({ frames := 7, cells := 1, slots := 6, locals := 112 } : Room) (tPc 36 (cF cI cS G) D (tY cI cS) G S sz [.ref (G 0), .int x, .int y, .int v]) (fun _ _ _ _ => False) (xX "java/lang/IndexOutOfBoundsException" sz) 1 6 (fun q => sz ≤ q) := by
  refine x_metX (cc := cX5_setStrength) (maxL := 5) (ret := (some .int)) (by decide) rfl (Nat.le_of_ble_eq_true rfl) ?_
  intro p e s m below meth c ls hx hb hr hml hts hown hlocks hsz hP hK hD hN hT hZ hl htb
  subst hsz
  have hown : s.vm.findClass RX5 = some m.cls := hown
  have hl : lv_has ls 5 [(0, .ref (G 0)), (1, .int x), (2, .int y), (3, .int v)] := hl
  have hA : ∀ q : Nat, s.heap.size ≤ q → (fun q => s.heap.size ≤ q) q := fun q h => h
  have hS : va_S (fun q => s.heap.size ≤ q) s.heap s.heap [] := va_S.rf
  refine lv_aload_n hx hb dX5_setStrength_0 rfl (lv_at hl 0 rfl) ?_
  refine lv_iload_n hx hb dX5_setStrength_1 rfl (lv_at hl 1 rfl) ?_
  refine x_thr (vx_runV (As := [.int x]) (rest := []) ⟨hx, hb, hml, hown, hts⟩ (b_X5_stationAt l hfl D cI cS G S s.heap.size x hbad) (cwV 1 hts gX5_setStrength_X5_stationAt rfl rfl rfl (by decide +kernel) ⟨Nat.le_of_ble_eq_true rfl, Nat.le_of_ble_eq_true rfl⟩) ⟨tPc_blind, va_recv hK hP (ci := 5) (q0 := 0) rfl (WL_at (by decide) (cF_air _)), tPc_at hP hK hD hN hT hZ hS⟩ rfl rfl hl.1 rfl (lv_room (Nat.le_of_ble_eq_true rfl)) dX5_setStrength_2 ⟨Nat.le_of_ble_eq_true rfl, Nat.le_of_ble_eq_true rfl⟩) hS hA (fun q h => h) (fun ce q9 H locs hz hk hS hce hcv hcl => ?_)
  exact vx_out (fun x h => (htb x h).elim) hlocks hce hcv hcl (fun t ht _ => ⟨(), trivial, rfl, hS.F ht⟩) hS.2.2 (Nat.le_of_ble_eq_true rfl) (Nat.le_of_ble_eq_true rfl)

set_option maxHeartbeats 1000000 in
set_option maxRecDepth 100000 in
theorem b_X5_setStrength__2 (l : Launch) (hfl : l.stackTraces = false) (D : va_G) (cI cS : ClassId) (G : Nat → Nat) (S : Mem) (sz : Nat) (a : Nat) (y : Int32) (v : Int32) (ha : a < 6) (hbad : ¬ y < 0 → nI 6 ≤ y) : vx_Met l yX5_setStrength wsX5_setStrength ({ frames := 7, cells := 1, slots := 6, locals := 112 } : Room) (tPc 36 (cF cI cS G) D (tY cI cS) G S sz [.ref (G 0), .int (nI a), .int y, .int v]) (fun _ _ _ _ => False) (xX "java/lang/IndexOutOfBoundsException" sz) 1 6 (fun q => sz ≤ q) := by
  refine x_metX (cc := cX5_setStrength) (maxL := 5) (ret := (some .int)) (by decide) rfl (Nat.le_of_ble_eq_true rfl) ?_
  intro p e s m below meth c ls hx hb hr hml hts hown hlocks hsz hP hK hD hN hT hZ hl htb
  subst hsz
  have hown : s.vm.findClass RX5 = some m.cls := hown
  have hl : lv_has ls 5 [(0, .ref (G 0)), (1, .int (nI a)), (2, .int y), (3, .int v)] := hl
  have hA : ∀ q : Nat, s.heap.size ≤ q → (fun q => s.heap.size ≤ q) q := fun q h => h
  have hS : va_S (fun q => s.heap.size ≤ q) s.heap s.heap [] := va_S.rf
  refine lv_aload_n hx hb dX5_setStrength_0 rfl (lv_at hl 0 rfl) ?_
  refine lv_iload_n hx hb dX5_setStrength_1 rfl (lv_at hl 1 rfl) ?_
  refine x_pr (va_runV (As := [.int (nI a)]) (rest := []) ⟨hx, hb, hml, hown, hts⟩ (c_X5_stationAt l D cI cS G S s.heap.size a (by omega)) (cwV 1 hts gX5_setStrength_X5_stationAt rfl rfl rfl (by decide +kernel) ⟨Nat.le_of_ble_eq_true rfl, Nat.le_of_ble_eq_true rfl⟩) ⟨wPc_blind, va_recv hK hP (ci := 5) (q0 := 0) rfl (WL_at (by decide) (cF_air _)), wPc_at hP hK hD hN⟩ rfl rfl hl.1 rfl (lv_room (Nat.le_of_ble_eq_true rfl)) dX5_setStrength_2 ⟨Nat.le_of_ble_eq_true rfl, Nat.le_of_ble_eq_true rfl⟩) hS hA (fun q h => h) (fun H locs hz hk hS => ?_)
  have hP := P_kept hP hk
  refine lv_pop hx hb dX5_setStrength_5 rfl ?_
  refine lv_aload_n hx hb dX5_setStrength_6 rfl (lv_at hl 0 rfl) ?_
  refine lv_iload_n hx hb dX5_setStrength_7 rfl (lv_at hl 2 rfl) ?_
  refine x_thr (vx_runV (As := [.int y]) (rest := []) ⟨hx, hb, hml, hown, hts⟩ (b_X5_stationAt l hfl D cI cS G S H.size y hbad) (cwV 1 hts gX5_setStrength_X5_stationAt rfl rfl rfl (by decide +kernel) ⟨Nat.le_of_ble_eq_true rfl, Nat.le_of_ble_eq_true rfl⟩) ⟨tPc_blind, va_recv hK hP (ci := 5) (q0 := 0) rfl (WL_at (by decide) (cF_air _)), tPc_at hP hK hD hN hT hZ hS⟩ rfl rfl hl.1 rfl (lv_room (Nat.le_of_ble_eq_true rfl)) dX5_setStrength_8 ⟨Nat.le_of_ble_eq_true rfl, Nat.le_of_ble_eq_true rfl⟩) hS hA (fun q h => h) (fun ce q9 H locs hz hk hS hce hcv hcl => ?_)
  exact vx_out (fun x h => (htb x h).elim) hlocks hce hcv hcl (fun t ht _ => ⟨(), trivial, rfl, hS.F ht⟩) hS.2.2 (Nat.le_of_ble_eq_true rfl) (Nat.le_of_ble_eq_true rfl)

theorem lt_X5_setStrength_41 : Cond.classLink RX5 41 "java/lang/IllegalArgumentException" ∈ wsX5_setStrength := by decide +kernel
theorem lu_X5_setStrength_41 : Cond.initialized "java/lang/IllegalArgumentException" ∈ wsX5_setStrength := by decide +kernel
set_option maxHeartbeats 1000000 in
set_option maxRecDepth 100000 in
theorem b_X5_setStrength__3 (l : Launch) (hfl : l.stackTraces = false) (D : va_G) (cI cS : ClassId) (G : Nat → Nat) (S : Mem) (sz : Nat) (a : Nat) (b : Nat) (v : Int32) (ha : a < 6) (hb6 : b < 6) (hbad : ¬ v < 0 → v ≤ nI 9 → nI a = nI b) : vx_Met l yX5_setStrength wsX5_setStrength ({ frames := 6, cells := 1, slots := 6, locals := 90 } : Room) (tPc 36 (cF cI cS G) D (tY cI cS) G S sz [.ref (G 0), .int (nI a), .int (nI b), .int v]) (fun _ _ _ _ => False) (xX "java/lang/IllegalArgumentException" sz) 1 6 (fun q => sz ≤ q) := by
  refine x_metX (cc := cX5_setStrength) (maxL := 5) (ret := (some .int)) (by decide) rfl (Nat.le_of_ble_eq_true rfl) ?_
  intro p e s m below meth c ls hx hb hr hml hts hown hlocks hsz hP hK hD hN hT hZ hl htb
  subst hsz
  have hown : s.vm.findClass RX5 = some m.cls := hown
  have hl : lv_has ls 5 [(0, .ref (G 0)), (1, .int (nI a)), (2, .int (nI b)), (3, .int v)] := hl
  have hA : ∀ q : Nat, s.heap.size ≤ q → (fun q => s.heap.size ≤ q) q := fun q h => h
  have hS : va_S (fun q => s.heap.size ≤ q) s.heap s.heap [] := va_S.rf
  refine lv_aload_n hx hb dX5_setStrength_0 rfl (lv_at hl 0 rfl) ?_
  refine lv_iload_n hx hb dX5_setStrength_1 rfl (lv_at hl 1 rfl) ?_
  refine x_pr (va_runV (As := [.int (nI a)]) (rest := []) ⟨hx, hb, hml, hown, hts⟩ (c_X5_stationAt l D cI cS G S s.heap.size a (by omega)) (cwV 1 hts gX5_setStrength_X5_stationAt rfl rfl rfl (by decide +kernel) ⟨Nat.le_of_ble_eq_true rfl, Nat.le_of_ble_eq_true rfl⟩) ⟨wPc_blind, va_recv hK hP (ci := 5) (q0 := 0) rfl (WL_at (by decide) (cF_air _)), wPc_at hP hK hD hN⟩ rfl rfl hl.1 rfl (lv_room (Nat.le_of_ble_eq_true rfl)) dX5_setStrength_2 ⟨Nat.le_of_ble_eq_true rfl, Nat.le_of_ble_eq_true rfl⟩) hS hA (fun q h => h) (fun H locs hz hk hS => ?_)
  have hP := P_kept hP hk
  refine lv_pop hx hb dX5_setStrength_5 rfl ?_
  refine lv_aload_n hx hb dX5_setStrength_6 rfl (lv_at hl 0 rfl) ?_
  refine lv_iload_n hx hb dX5_setStrength_7 rfl (lv_at hl 2 rfl) ?_
  refine x_pr (va_runV (As := [.int (nI b)]) (rest := []) ⟨hx, hb, hml, hown, hts⟩ (c_X5_stationAt l D cI cS G S H.size b (by omega)) (cwV 1 hts gX5_setStrength_X5_stationAt rfl rfl rfl (by decide +kernel) ⟨Nat.le_of_ble_eq_true rfl, Nat.le_of_ble_eq_true rfl⟩) ⟨wPc_blind, va_recv hK hP (ci := 5) (q0 := 0) rfl (WL_at (by decide) (cF_air _)), wPc_at hP hK hD hN⟩ rfl rfl hl.1 rfl (lv_room (Nat.le_of_ble_eq_true rfl)) dX5_setStrength_8 ⟨Nat.le_of_ble_eq_true rfl, Nat.le_of_ble_eq_true rfl⟩) hS hA (fun q h => h) (fun H locs hz hk hS => ?_)
  have hP := P_kept hP hk
  refine lv_pop hx hb dX5_setStrength_11 rfl ?_
  refine lv_iload_n hx hb dX5_setStrength_12 rfl (lv_at hl 3 rfl) ?_
  refine lv_if_lt (tgt := 22) hx hb dX5_setStrength_13 (by decide) (fun c_1 => ?_) (fun c_1 => ?_)
  · exact x_throw (ik := 41) (is := 43) (ic := 45) (text := "strength is out of range") hx hb hfl hown (by decide) (hts _ lt_X5_setStrength_41) (hts _ lu_X5_setStrength_41) (by decide) (by decide) (fun w h => hts w (List.mem_cons_of_mem _ (List.mem_append_left _ (List.mem_append_right _ h)))) ng_45 gw_45 (by decide +kernel) hT hZ hS (hl.1.trans hml.symm) htb dX5_setStrength_22 dX5_setStrength_25 dX5_setStrength_26 dX5_setStrength_28 dX5_setStrength_31 hlocks (Nat.le_of_ble_eq_true rfl) (Nat.le_of_ble_eq_true rfl) (Nat.le_of_ble_eq_true rfl) (Nat.le_of_ble_eq_true rfl)
  · refine lv_iload_n hx hb dX5_setStrength_16 rfl (lv_at hl 3 rfl) ?_
    refine lv_bipush (v := nI 9) hx hb dX5_setStrength_17 (by decide) ?_
    refine lv_icmp_le (tgt := 32) hx hb dX5_setStrength_19 (by decide) (fun c_2 => ?_) (fun c_2 => ?_)
    · refine lv_iload_n hx hb dX5_setStrength_32 rfl (lv_at hl 1 rfl) ?_
      refine lv_iload_n hx hb dX5_setStrength_33 rfl (lv_at hl 2 rfl) ?_
      refine lv_icmp_ne (tgt := 47) hx hb dX5_setStrength_34 (by decide) (fun c_3 => absurd (hbad c_1 c_2) c_3) (fun _ => ?_)
      exact x_throw (ik := 41) (is := 48) (ic := 45) (text := "a station has no strength to itself") hx hb hfl hown (by decide) (hts _ lt_X5_setStrength_41) (hts _ lu_X5_setStrength_41) (by decide) (by decide) (fun w h => hts w (List.mem_cons_of_mem _ (List.mem_append_left _ (List.mem_append_right _ h)))) ng_45 gw_45 (by decide +kernel) hT hZ hS (hl.1.trans hml.symm) htb dX5_setStrength_37 dX5_setStrength_40 dX5_setStrength_41 dX5_setStrength_43 dX5_setStrength_46 hlocks (Nat.le_of_ble_eq_true rfl) (Nat.le_of_ble_eq_true rfl) (Nat.le_of_ble_eq_true rfl) (Nat.le_of_ble_eq_true rfl)
    · exact x_throw (ik := 41) (is := 43) (ic := 45) (text := "strength is out of range") hx hb hfl hown (by decide) (hts _ lt_X5_setStrength_41) (hts _ lu_X5_setStrength_41) (by decide) (by decide) (fun w h => hts w (List.mem_cons_of_mem _ (List.mem_append_left _ (List.mem_append_right _ h)))) ng_45 gw_45 (by decide +kernel) hT hZ hS (hl.1.trans hml.symm) htb dX5_setStrength_22 dX5_setStrength_25 dX5_setStrength_26 dX5_setStrength_28 dX5_setStrength_31 hlocks (Nat.le_of_ble_eq_true rfl) (Nat.le_of_ble_eq_true rfl) (Nat.le_of_ble_eq_true rfl) (Nat.le_of_ble_eq_true rfl)

set_option maxHeartbeats 1000000 in
set_option maxRecDepth 100000 in
theorem b_X5_setClass__1 (l : Launch) (hfl : l.stackTraces = false) (D : va_G) (cI cS : ClassId) (G : Nat → Nat) (S : Mem) (sz : Nat) (x : Int32) (y : Int32) (hbad : ¬ x < 0 → nI 6 ≤ x) : vx_Met l yX5_setClass wsX5_setClass ({ frames := 7, cells := 1, slots := 6, locals := 112 } : Room) (tPc 36 (cF cI cS G) D (tY cI cS) G S sz [.ref (G 0), .int x, .int y]) (fun _ _ _ _ => False) (xX "java/lang/IndexOutOfBoundsException" sz) 1 6 (fun q => sz ≤ q) := by
  refine x_metX (cc := cX5_setClass) (maxL := 5) (ret := (some .int)) (by decide) rfl (Nat.le_of_ble_eq_true rfl) ?_
  intro p e s m below meth c ls hx hb hr hml hts hown hlocks hsz hP hK hD hN hT hZ hl htb
  subst hsz
  have hown : s.vm.findClass RX5 = some m.cls := hown
  have hl : lv_has ls 5 [(0, .ref (G 0)), (1, .int x), (2, .int y)] := hl
  have hA : ∀ q : Nat, s.heap.size ≤ q → (fun q => s.heap.size ≤ q) q := fun q h => h
  have hS : va_S (fun q => s.heap.size ≤ q) s.heap s.heap [] := va_S.rf
  refine lv_aload_n hx hb dX5_setClass_0 rfl (lv_at hl 0 rfl) ?_
  refine lv_iload_n hx hb dX5_setClass_1 rfl (lv_at hl 1 rfl) ?_
  refine x_thr (vx_runV (As := [.int x]) (rest := []) ⟨hx, hb, hml, hown, hts⟩ (b_X5_stationAt l hfl D cI cS G S s.heap.size x hbad) (cwV 1 hts gX5_setClass_X5_stationAt rfl rfl rfl (by decide +kernel) ⟨Nat.le_of_ble_eq_true rfl, Nat.le_of_ble_eq_true rfl⟩) ⟨tPc_blind, va_recv hK hP (ci := 5) (q0 := 0) rfl (WL_at (by decide) (cF_air _)), tPc_at hP hK hD hN hT hZ hS⟩ rfl rfl hl.1 rfl (lv_room (Nat.le_of_ble_eq_true rfl)) dX5_setClass_2 ⟨Nat.le_of_ble_eq_true rfl, Nat.le_of_ble_eq_true rfl⟩) hS hA (fun q h => h) (fun ce q9 H locs hz hk hS hce hcv hcl => ?_)
  exact vx_out (fun x h => (htb x h).elim) hlocks hce hcv hcl (fun t ht _ => ⟨(), trivial, rfl, hS.F ht⟩) hS.2.2 (Nat.le_of_ble_eq_true rfl) (Nat.le_of_ble_eq_true rfl)

theorem lt_X5_setClass_41 : Cond.classLink RX5 41 "java/lang/IllegalArgumentException" ∈ wsX5_setClass := by decide +kernel
theorem lu_X5_setClass_41 : Cond.initialized "java/lang/IllegalArgumentException" ∈ wsX5_setClass := by decide +kernel
set_option maxHeartbeats 1000000 in
set_option maxRecDepth 100000 in
theorem b_X5_setClass__2 (l : Launch) (hfl : l.stackTraces = false) (D : va_G) (cI cS : ClassId) (G : Nat → Nat) (S : Mem) (sz : Nat) (a : Nat) (y : Int32) (ha : a < 6) (hbad : ¬ y < 0 → ¬ y ≤ nI 1) : vx_Met l yX5_setClass wsX5_setClass ({ frames := 6, cells := 1, slots := 6, locals := 90 } : Room) (tPc 36 (cF cI cS G) D (tY cI cS) G S sz [.ref (G 0), .int (nI a), .int y]) (fun _ _ _ _ => False) (xX "java/lang/IllegalArgumentException" sz) 1 6 (fun q => sz ≤ q) := by
  refine x_metX (cc := cX5_setClass) (maxL := 5) (ret := (some .int)) (by decide) rfl (Nat.le_of_ble_eq_true rfl) ?_
  intro p e s m below meth c ls hx hb hr hml hts hown hlocks hsz hP hK hD hN hT hZ hl htb
  subst hsz
  have hown : s.vm.findClass RX5 = some m.cls := hown
  have hl : lv_has ls 5 [(0, .ref (G 0)), (1, .int (nI a)), (2, .int y)] := hl
  have hA : ∀ q : Nat, s.heap.size ≤ q → (fun q => s.heap.size ≤ q) q := fun q h => h
  have hS : va_S (fun q => s.heap.size ≤ q) s.heap s.heap [] := va_S.rf
  refine lv_aload_n hx hb dX5_setClass_0 rfl (lv_at hl 0 rfl) ?_
  refine lv_iload_n hx hb dX5_setClass_1 rfl (lv_at hl 1 rfl) ?_
  refine x_pr (va_runV (As := [.int (nI a)]) (rest := []) ⟨hx, hb, hml, hown, hts⟩ (c_X5_stationAt l D cI cS G S s.heap.size a (by omega)) (cwV 1 hts gX5_setClass_X5_stationAt rfl rfl rfl (by decide +kernel) ⟨Nat.le_of_ble_eq_true rfl, Nat.le_of_ble_eq_true rfl⟩) ⟨wPc_blind, va_recv hK hP (ci := 5) (q0 := 0) rfl (WL_at (by decide) (cF_air _)), wPc_at hP hK hD hN⟩ rfl rfl hl.1 rfl (lv_room (Nat.le_of_ble_eq_true rfl)) dX5_setClass_2 ⟨Nat.le_of_ble_eq_true rfl, Nat.le_of_ble_eq_true rfl⟩) hS hA (fun q h => h) (fun H locs hz hk hS => ?_)
  have hP := P_kept hP hk
  refine lv_astore_n (lv' := [(3, .ref (G (6 + 5 * a))), (0, .ref (G 0)), (1, .int (nI a)), (2, .int y)]) hx hb dX5_setClass_5 rfl hl (by decide) rfl (fun ls hl => ?_)
  refine lv_iload_n hx hb dX5_setClass_6 rfl (lv_at hl 3 rfl) ?_
  refine lv_if_lt (tgt := 15) hx hb dX5_setClass_7 (by decide) (fun c_1 => ?_) (fun c_1 => ?_)
  · exact x_throw (ik := 41) (is := 58) (ic := 45) (text := "no such class") hx hb hfl hown (by decide) (hts _ lt_X5_setClass_41) (hts _ lu_X5_setClass_41) (by decide) (by decide) (fun w h => hts w (List.mem_cons_of_mem _ (List.mem_append_left _ (List.mem_append_right _ h)))) ng_45 gw_45 (by decide +kernel) hT hZ hS (hl.1.trans hml.symm) htb dX5_setClass_15 dX5_setClass_18 dX5_setClass_19 dX5_setClass_21 dX5_setClass_24 hlocks (Nat.le_of_ble_eq_true rfl) (Nat.le_of_ble_eq_true rfl) (Nat.le_of_ble_eq_true rfl) (Nat.le_of_ble_eq_true rfl)
  · refine lv_iload_n hx hb dX5_setClass_10 rfl (lv_at hl 3 rfl) ?_
    refine lv_iconst (v := nI 1) hx hb dX5_setClass_11 (by decide) ?_
    refine lv_icmp_le (tgt := 25) hx hb dX5_setClass_12 (by decide) (fun c_2 => absurd c_2 (hbad c_1)) (fun _ => ?_)
    exact x_throw (ik := 41) (is := 58) (ic := 45) (text := "no such class") hx hb hfl hown (by decide) (hts _ lt_X5_setClass_41) (hts _ lu_X5_setClass_41) (by decide) (by decide) (fun w h => hts w (List.mem_cons_of_mem _ (List.mem_append_left _ (List.mem_append_right _ h)))) ng_45 gw_45 (by decide +kernel) hT hZ hS (hl.1.trans hml.symm) htb dX5_setClass_15 dX5_setClass_18 dX5_setClass_19 dX5_setClass_21 dX5_setClass_24 hlocks (Nat.le_of_ble_eq_true rfl) (Nat.le_of_ble_eq_true rfl) (Nat.le_of_ble_eq_true rfl) (Nat.le_of_ble_eq_true rfl)

theorem lt_X5_setReserve_41 : Cond.classLink RX5 41 "java/lang/IllegalArgumentException" ∈ wsX5_setReserve := by decide +kernel
theorem lu_X5_setReserve_41 : Cond.initialized "java/lang/IllegalArgumentException" ∈ wsX5_setReserve := by decide +kernel
set_option maxHeartbeats 1000000 in
set_option maxRecDepth 100000 in
theorem b_X5_setReserve__1 (l : Launch) (hfl : l.stackTraces = false) (D : va_G) (cI cS : ClassId) (G : Nat → Nat) (S : Mem) (sz : Nat) (x : Int32) (hbad : ¬ x < nI 1 → ¬ x ≤ nI 5) : vx_Met l yX5_setReserve wsX5_setReserve ({ frames := 6, cells := 1, slots := 6, locals := 90 } : Room) (tPc 36 (cF cI cS G) D (tY cI cS) G S sz [.ref (G 0), .int x]) (fun _ _ _ _ => False) (xX "java/lang/IllegalArgumentException" sz) 1 6 (fun q => sz ≤ q) := by
  refine x_metX (cc := cX5_setReserve) (maxL := 3) (ret := (some .int)) (by decide) rfl (Nat.le_of_ble_eq_true rfl) ?_
  intro p e s m below meth c ls hx hb hr hml hts hown hlocks hsz hP hK hD hN hT hZ hl htb
  subst hsz
  have hown : s.vm.findClass RX5 = some m.cls := hown
  have hl : lv_has ls 3 [(0, .ref (G 0)), (1, .int x)] := hl
  have hA : ∀ q : Nat, s.heap.size ≤ q → (fun q => s.heap.size ≤ q) q := fun q h => h
  have hS : va_S (fun q => s.heap.size ≤ q) s.heap s.heap [] := va_S.rf
  refine lv_iload_n hx hb dX5_setReserve_0 rfl (lv_at hl 1 rfl) ?_
  refine lv_iconst (v := nI 1) hx hb dX5_setReserve_1 (by decide) ?_
  refine lv_icmp_lt (tgt := 10) hx hb dX5_setReserve_2 (by decide) (fun c_1 => ?_) (fun c_1 => ?_)
  · exact x_throw (ik := 41) (is := 70) (ic := 45) (text := "parts is out of range") hx hb hfl hown (by decide) (hts _ lt_X5_setReserve_41) (hts _ lu_X5_setReserve_41) (by decide) (by decide) (fun w h => hts w (List.mem_cons_of_mem _ (List.mem_append_right _ h))) ng_45 gw_45 (by decide +kernel) hT hZ hS (hl.1.trans hml.symm) htb dX5_setReserve_10 dX5_setReserve_13 dX5_setReserve_14 dX5_setReserve_16 dX5_setReserve_19 hlocks (Nat.le_of_ble_eq_true rfl) (Nat.le_of_ble_eq_true rfl) (Nat.le_of_ble_eq_true rfl) (Nat.le_of_ble_eq_true rfl)
  · refine lv_iload_n hx hb dX5_setReserve_5 rfl (lv_at hl 1 rfl) ?_
    refine lv_iconst (v := nI 5) hx hb dX5_setReserve_6 (by decide) ?_
    refine lv_icmp_le (tgt := 20) hx hb dX5_setReserve_7 (by decide) (fun c_2 => absurd c_2 (hbad c_1)) (fun _ => ?_)
    exact x_throw (ik := 41) (is := 70) (ic := 45) (text := "parts is out of range") hx hb hfl hown (by decide) (hts _ lt_X5_setReserve_41) (hts _ lu_X5_setReserve_41) (by decide) (by decide) (fun w h => hts w (List.mem_cons_of_mem _ (List.mem_append_right _ h))) ng_45 gw_45 (by decide +kernel) hT hZ hS (hl.1.trans hml.symm) htb dX5_setReserve_10 dX5_setReserve_13 dX5_setReserve_14 dX5_setReserve_16 dX5_setReserve_19 hlocks (Nat.le_of_ble_eq_true rfl) (Nat.le_of_ble_eq_true rfl) (Nat.le_of_ble_eq_true rfl) (Nat.le_of_ble_eq_true rfl)

theorem lt_X5_tell_41 : Cond.classLink RX5 41 "java/lang/IllegalArgumentException" ∈ wsX5_tell := by decide +kernel
theorem lu_X5_tell_41 : Cond.initialized "java/lang/IllegalArgumentException" ∈ wsX5_tell := by decide +kernel
set_option maxHeartbeats 1000000 in
set_option maxRecDepth 100000 in
theorem b_X5_tell__1 (l : Launch) (hfl : l.stackTraces = false) (D : va_G) (cI cS : ClassId) (G : Nat → Nat) (S : Mem) (sz : Nat) (x : Int32) (hbad : ¬ x < 0 → ¬ x ≤ nI 1000) : vx_Met l yX5_tell wsX5_tell ({ frames := 6, cells := 1, slots := 6, locals := 90 } : Room) (tPc 36 (cF cI cS G) D (tY cI cS) G S sz [.ref (G 0), .int x]) (fun _ _ _ _ => False) (xX "java/lang/IllegalArgumentException" sz) 1 6 (fun q => sz ≤ q) := by
  refine x_metX (cc := cX5_tell) (maxL := 2) (ret := (some .int)) (by decide) rfl (Nat.le_of_ble_eq_true rfl) ?_
  intro p e s m below meth c ls hx hb hr hml hts hown hlocks hsz hP hK hD hN hT hZ hl htb
  subst hsz
  have hown : s.vm.findClass RX5 = some m.cls := hown
  have hl : lv_has ls 2 [(0, .ref (G 0)), (1, .int x)] := hl
  have hA : ∀ q : Nat, s.heap.size ≤ q → (fun q => s.heap.size ≤ q) q := fun q h => h
  have hS : va_S (fun q => s.heap.size ≤ q) s.heap s.heap [] := va_S.rf
  refine lv_iload_n hx hb dX5_tell_0 rfl (lv_at hl 1 rfl) ?_
  refine lv_if_lt (tgt := 11) hx hb dX5_tell_1 (by decide) (fun c_1 => ?_) (fun c_1 => ?_)
  · exact x_throw (ik := 41) (is := 72) (ic := 45) (text := "number is out of range") hx hb hfl hown (by decide) (hts _ lt_X5_tell_41) (hts _ lu_X5_tell_41) (by decide) (by decide) (fun w h => hts w (List.mem_cons_of_mem _ (List.mem_append_left _ (List.mem_append_right _ h)))) ng_45 gw_45 (by decide +kernel) hT hZ hS (hl.1.trans hml.symm) htb dX5_tell_11 dX5_tell_14 dX5_tell_15 dX5_tell_17 dX5_tell_20 hlocks (Nat.le_of_ble_eq_true rfl) (Nat.le_of_ble_eq_true rfl) (Nat.le_of_ble_eq_true rfl) (Nat.le_of_ble_eq_true rfl)
  · refine lv_iload_n hx hb dX5_tell_4 rfl (lv_at hl 1 rfl) ?_
    refine lv_sipush (v := nI 1000) hx hb dX5_tell_5 (by decide) ?_
    refine lv_icmp_le (tgt := 21) hx hb dX5_tell_8 (by decide) (fun c_2 => absurd c_2 (hbad c_1)) (fun _ => ?_)
    exact x_throw (ik := 41) (is := 72) (ic := 45) (text := "number is out of range") hx hb hfl hown (by decide) (hts _ lt_X5_tell_41) (hts _ lu_X5_tell_41) (by decide) (by decide) (fun w h => hts w (List.mem_cons_of_mem _ (List.mem_append_left _ (List.mem_append_right _ h)))) ng_45 gw_45 (by decide +kernel) hT hZ hS (hl.1.trans hml.symm) htb dX5_tell_11 dX5_tell_14 dX5_tell_15 dX5_tell_17 dX5_tell_20 hlocks (Nat.le_of_ble_eq_true rfl) (Nat.le_of_ble_eq_true rfl) (Nat.le_of_ble_eq_true rfl) (Nat.le_of_ble_eq_true rfl)

theorem lt_X5_tell_77 : Cond.classLink RX5 77 "java/lang/IllegalStateException" ∈ wsX5_tell := by decide +kernel
theorem lu_X5_tell_77 : Cond.initialized "java/lang/IllegalStateException" ∈ wsX5_tell := by decide +kernel
set_option maxHeartbeats 1000000 in
set_option maxRecDepth 100000 in
theorem b_X5_tell__2 (l : Launch) (hfl : l.stackTraces = false) (D : va_G) (cI cS : ClassId) (G : Nat → Nat) (S : Mem) (sz : Nat) (x : Int32) (h1 : ¬ x < 0) (h2 : x ≤ nI 1000) (hbad : ¬ S 4 1 < nI 200) : vx_Met l yX5_tell wsX5_tell ({ frames := 6, cells := 1, slots := 6, locals := 90 } : Room) (tPc 36 (cF cI cS G) D (tY cI cS) G S sz [.ref (G 0), .int x]) (fun _ _ _ _ => False) (xX "java/lang/IllegalStateException" sz) 1 6 (fun q => sz ≤ q) := by
  refine x_metX (cc := cX5_tell) (maxL := 2) (ret := (some .int)) (by decide) rfl (Nat.le_of_ble_eq_true rfl) ?_
  intro p e s m below meth c ls hx hb hr hml hts hown hlocks hsz hP hK hD hN hT hZ hl htb
  subst hsz
  have hown : s.vm.findClass RX5 = some m.cls := hown
  have hl : lv_has ls 2 [(0, .ref (G 0)), (1, .int x)] := hl
  have hA : ∀ q : Nat, s.heap.size ≤ q → (fun q => s.heap.size ≤ q) q := fun q h => h
  have hS : va_S (fun q => s.heap.size ≤ q) s.heap s.heap [] := va_S.rf
  refine lv_iload_n hx hb dX5_tell_0 rfl (lv_at hl 1 rfl) ?_
  refine lv_if_lt (tgt := 11) hx hb dX5_tell_1 (by decide) (fun c_1 => absurd c_1 h1) (fun _ => ?_)
  refine lv_iload_n hx hb dX5_tell_4 rfl (lv_at hl 1 rfl) ?_
  refine lv_sipush (v := nI 1000) hx hb dX5_tell_5 (by decide) ?_
  refine lv_icmp_le (tgt := 21) hx hb dX5_tell_8 (by decide) (fun _ => ?_) (fun c_2 => absurd h2 c_2) 
  refine lv_aload_n hx hb dX5_tell_21 rfl (lv_at hl 0 rfl) ?_
  refine x_get hx hb hts mm_X5_tell_X5 hown hK hP (0) (by decide) (cF_air _) rfl 2 (by decide) (hts _ lk_X5_tell_25) rfl rfl dX5_tell_22 ?_
  refine x_getN hx hb hts mm_X5_tell_X4 hown hK hP (4) (by decide) (cF_told _) rfl 2 (by decide) (hN.use nk_X5_74 rfl) rfl rfl dX5_tell_25 ?_
  refine lv_sipush (v := nI 200) hx hb dX5_tell_28 (by decide) ?_
  refine lv_icmp_lt (tgt := 44) hx hb dX5_tell_31 (by decide) (fun c_3 => absurd c_3 hbad) (fun _ => ?_)
  exact x_throw (ik := 77) (is := 79) (ic := 81) (text := "200 numbers are left") hx hb hfl hown (by decide) (hts _ lt_X5_tell_77) (hts _ lu_X5_tell_77) (by decide) (by decide) (fun w h => hts w (List.mem_cons_of_mem _ (List.mem_append_right _ h))) ng_81 gw_81 (by decide +kernel) hT hZ hS (hl.1.trans hml.symm) htb dX5_tell_34 dX5_tell_37 dX5_tell_38 dX5_tell_40 dX5_tell_43 hlocks (Nat.le_of_ble_eq_true rfl) (Nat.le_of_ble_eq_true rfl) (Nat.le_of_ble_eq_true rfl) (Nat.le_of_ble_eq_true rfl)

set_option maxHeartbeats 1000000 in
set_option maxRecDepth 100000 in
theorem b_X5_frame__1 (l : Launch) (hfl : l.stackTraces = false) (D : va_G) (cI cS : ClassId) (G : Nat → Nat) (S : Mem) (sz : Nat) (x : Int32) (y : Int32) (v : Int32) (hbad : ¬ x < 0 → nI 6 ≤ x) : vx_Met l yX5_frame wsX5_frame ({ frames := 7, cells := 1, slots := 6, locals := 112 } : Room) (tPc 36 (cF cI cS G) D (tY cI cS) G S sz [.ref (G 0), .int x, .int y, .int v]) (fun _ _ _ _ => False) (xX "java/lang/IndexOutOfBoundsException" sz) 1 6 (fun q => sz ≤ q) := by
  refine x_metX (cc := cX5_frame) (maxL := 5) (ret := (some .int)) (by decide) rfl (Nat.le_of_ble_eq_true rfl) ?_
  intro p e s m below meth c ls hx hb hr hml hts hown hlocks hsz hP hK hD hN hT hZ hl htb
  subst hsz
  have hown : s.vm.findClass RX5 = some m.cls := hown
  have hl : lv_has ls 5 [(0, .ref (G 0)), (1, .int x), (2, .int y), (3, .int v)] := hl
  have hA : ∀ q : Nat, s.heap.size ≤ q → (fun q => s.heap.size ≤ q) q := fun q h => h
  have hS : va_S (fun q => s.heap.size ≤ q) s.heap s.heap [] := va_S.rf
  refine lv_aload_n hx hb dX5_frame_0 rfl (lv_at hl 0 rfl) ?_
  refine lv_iload_n hx hb dX5_frame_1 rfl (lv_at hl 1 rfl) ?_
  refine x_thr (vx_runV (As := [.int x]) (rest := []) ⟨hx, hb, hml, hown, hts⟩ (b_X5_stationAt l hfl D cI cS G S s.heap.size x hbad) (cwV 1 hts gX5_frame_X5_stationAt rfl rfl rfl (by decide +kernel) ⟨Nat.le_of_ble_eq_true rfl, Nat.le_of_ble_eq_true rfl⟩) ⟨tPc_blind, va_recv hK hP (ci := 5) (q0 := 0) rfl (WL_at (by decide) (cF_air _)), tPc_at hP hK hD hN hT hZ hS⟩ rfl rfl hl.1 rfl (lv_room (Nat.le_of_ble_eq_true rfl)) dX5_frame_2 ⟨Nat.le_of_ble_eq_true rfl, Nat.le_of_ble_eq_true rfl⟩) hS hA (fun q h => h) (fun ce q9 H locs hz hk hS hce hcv hcl => ?_)
  exact vx_out (fun x h => (htb x h).elim) hlocks hce hcv hcl (fun t ht _ => ⟨(), trivial, rfl, hS.F ht⟩) hS.2.2 (Nat.le_of_ble_eq_true rfl) (Nat.le_of_ble_eq_true rfl)

set_option maxHeartbeats 1000000 in
set_option maxRecDepth 100000 in
theorem b_X5_frame__2 (l : Launch) (hfl : l.stackTraces = false) (D : va_G) (cI cS : ClassId) (G : Nat → Nat) (S : Mem) (sz : Nat) (a : Nat) (y : Int32) (v : Int32) (ha : a < 6) (hbad : ¬ y < 0 → nI 6 ≤ y) : vx_Met l yX5_frame wsX5_frame ({ frames := 7, cells := 1, slots := 6, locals := 112 } : Room) (tPc 36 (cF cI cS G) D (tY cI cS) G S sz [.ref (G 0), .int (nI a), .int y, .int v]) (fun _ _ _ _ => False) (xX "java/lang/IndexOutOfBoundsException" sz) 1 6 (fun q => sz ≤ q) := by
  refine x_metX (cc := cX5_frame) (maxL := 5) (ret := (some .int)) (by decide) rfl (Nat.le_of_ble_eq_true rfl) ?_
  intro p e s m below meth c ls hx hb hr hml hts hown hlocks hsz hP hK hD hN hT hZ hl htb
  subst hsz
  have hown : s.vm.findClass RX5 = some m.cls := hown
  have hl : lv_has ls 5 [(0, .ref (G 0)), (1, .int (nI a)), (2, .int y), (3, .int v)] := hl
  have hA : ∀ q : Nat, s.heap.size ≤ q → (fun q => s.heap.size ≤ q) q := fun q h => h
  have hS : va_S (fun q => s.heap.size ≤ q) s.heap s.heap [] := va_S.rf
  refine lv_aload_n hx hb dX5_frame_0 rfl (lv_at hl 0 rfl) ?_
  refine lv_iload_n hx hb dX5_frame_1 rfl (lv_at hl 1 rfl) ?_
  refine x_pr (va_runV (As := [.int (nI a)]) (rest := []) ⟨hx, hb, hml, hown, hts⟩ (c_X5_stationAt l D cI cS G S s.heap.size a (by omega)) (cwV 1 hts gX5_frame_X5_stationAt rfl rfl rfl (by decide +kernel) ⟨Nat.le_of_ble_eq_true rfl, Nat.le_of_ble_eq_true rfl⟩) ⟨wPc_blind, va_recv hK hP (ci := 5) (q0 := 0) rfl (WL_at (by decide) (cF_air _)), wPc_at hP hK hD hN⟩ rfl rfl hl.1 rfl (lv_room (Nat.le_of_ble_eq_true rfl)) dX5_frame_2 ⟨Nat.le_of_ble_eq_true rfl, Nat.le_of_ble_eq_true rfl⟩) hS hA (fun q h => h) (fun H locs hz hk hS => ?_)
  have hP := P_kept hP hk
  refine x_getN hx hb hts mm_X5_frame_X2 hown hK hP (6 + 5 * a) (by omega) (cF_st _ _) rfl 0 (by decide) (hN.use nk_X5_86 rfl) rfl rfl dX5_frame_5 ?_
  refine lv_astore (lv' := [(4, .ref (G (7 + 5 * a))), (0, .ref (G 0)), (1, .int (nI a)), (2, .int y), (3, .int v)]) hx hb dX5_frame_8 hl (by decide) rfl (fun ls hl => ?_)
  refine lv_aload_n hx hb dX5_frame_10 rfl (lv_at hl 1 rfl) ?_
  refine lv_iload_n hx hb dX5_frame_11 rfl (lv_at hl 3 rfl) ?_
  refine x_thr (vx_runV (As := [.int y]) (rest := []) ⟨hx, hb, hml, hown, hts⟩ (b_X5_stationAt l hfl D cI cS G S H.size y hbad) (cwV 1 hts gX5_frame_X5_stationAt rfl rfl rfl (by decide +kernel) ⟨Nat.le_of_ble_eq_true rfl, Nat.le_of_ble_eq_true rfl⟩) ⟨tPc_blind, va_recv hK hP (ci := 5) (q0 := 0) rfl (WL_at (by decide) (cF_air _)), tPc_at hP hK hD hN hT hZ hS⟩ rfl rfl hl.1 rfl (lv_room (Nat.le_of_ble_eq_true rfl)) dX5_frame_12 ⟨Nat.le_of_ble_eq_true rfl, Nat.le_of_ble_eq_true rfl⟩) hS hA (fun q h => h) (fun ce q9 H locs hz hk hS hce hcv hcl => ?_)
  exact vx_out (fun x h => (htb x h).elim) hlocks hce hcv hcl (fun t ht _ => ⟨(), trivial, rfl, hS.F ht⟩) hS.2.2 (Nat.le_of_ble_eq_true rfl) (Nat.le_of_ble_eq_true rfl)

theorem lt_X5_frame_41 : Cond.classLink RX5 41 "java/lang/IllegalArgumentException" ∈ wsX5_frame := by decide +kernel
theorem lu_X5_frame_41 : Cond.initialized "java/lang/IllegalArgumentException" ∈ wsX5_frame := by decide +kernel
set_option maxHeartbeats 1000000 in
set_option maxRecDepth 100000 in
theorem b_X5_frame__3 (l : Launch) (hfl : l.stackTraces = false) (D : va_G) (cI cS : ClassId) (G : Nat → Nat) (S : Mem) (sz : Nat) (a : Nat) (b : Nat) (v : Int32) (ha : a < 6) (hb6 : b < 6) (hbad : ¬ v < nI 1 → v ≤ nI 4 → nI a = nI b) : vx_Met l yX5_frame wsX5_frame ({ frames := 6, cells := 1, slots := 6, locals := 90 } : Room) (tPc 36 (cF cI cS G) D (tY cI cS) G S sz [.ref (G 0), .int (nI a), .int (nI b), .int v]) (fun _ _ _ _ => False) (xX "java/lang/IllegalArgumentException" sz) 1 6 (fun q => sz ≤ q) := by
  refine x_metX (cc := cX5_frame) (maxL := 5) (ret := (some .int)) (by decide) rfl (Nat.le_of_ble_eq_true rfl) ?_
  intro p e s m below meth c ls hx hb hr hml hts hown hlocks hsz hP hK hD hN hT hZ hl htb
  subst hsz
  have hown : s.vm.findClass RX5 = some m.cls := hown
  have hl : lv_has ls 5 [(0, .ref (G 0)), (1, .int (nI a)), (2, .int (nI b)), (3, .int v)] := hl
  have hA : ∀ q : Nat, s.heap.size ≤ q → (fun q => s.heap.size ≤ q) q := fun q h => h
  have hS : va_S (fun q => s.heap.size ≤ q) s.heap s.heap [] := va_S.rf
  refine lv_aload_n hx hb dX5_frame_0 rfl (lv_at hl 0 rfl) ?_
  refine lv_iload_n hx hb dX5_frame_1 rfl (lv_at hl 1 rfl) ?_
  refine x_pr (va_runV (As := [.int (nI a)]) (rest := []) ⟨hx, hb, hml, hown, hts⟩ (c_X5_stationAt l D cI cS G S s.heap.size a (by omega)) (cwV 1 hts gX5_frame_X5_stationAt rfl rfl rfl (by decide +kernel) ⟨Nat.le_of_ble_eq_true rfl, Nat.le_of_ble_eq_true rfl⟩) ⟨wPc_blind, va_recv hK hP (ci := 5) (q0 := 0) rfl (WL_at (by decide) (cF_air _)), wPc_at hP hK hD hN⟩ rfl rfl hl.1 rfl (lv_room (Nat.le_of_ble_eq_true rfl)) dX5_frame_2 ⟨Nat.le_of_ble_eq_true rfl, Nat.le_of_ble_eq_true rfl⟩) hS hA (fun q h => h) (fun H locs hz hk hS => ?_)
  have hP := P_kept hP hk
  refine x_getN hx hb hts mm_X5_frame_X2 hown hK hP (6 + 5 * a) (by omega) (cF_st _ _) rfl 0 (by decide) (hN.use nk_X5_86 rfl) rfl rfl dX5_frame_5 ?_
  refine lv_astore (lv' := [(4, .ref (G (7 + 5 * a))), (0, .ref (G 0)), (1, .int (nI a)), (2, .int (nI b)), (3, .int v)]) hx hb dX5_frame_8 hl (by decide) rfl (fun ls hl => ?_)
  refine lv_aload_n hx hb dX5_frame_10 rfl (lv_at hl 1 rfl) ?_
  refine lv_iload_n hx hb dX5_frame_11 rfl (lv_at hl 3 rfl) ?_
  refine x_pr (va_runV (As := [.int (nI b)]) (rest := []) ⟨hx, hb, hml, hown, hts⟩ (c_X5_stationAt l D cI cS G S H.size b (by omega)) (cwV 1 hts gX5_frame_X5_stationAt rfl rfl rfl (by decide +kernel) ⟨Nat.le_of_ble_eq_true rfl, Nat.le_of_ble_eq_true rfl⟩) ⟨wPc_blind, va_recv hK hP (ci := 5) (q0 := 0) rfl (WL_at (by decide) (cF_air _)), wPc_at hP hK hD hN⟩ rfl rfl hl.1 rfl (lv_room (Nat.le_of_ble_eq_true rfl)) dX5_frame_12 ⟨Nat.le_of_ble_eq_true rfl, Nat.le_of_ble_eq_true rfl⟩) hS hA (fun q h => h) (fun H locs hz hk hS => ?_)
  have hP := P_kept hP hk
  refine lv_pop hx hb dX5_frame_15 rfl ?_
  refine lv_iload_n hx hb dX5_frame_16 rfl (lv_at hl 4 rfl) ?_
  refine lv_iconst (v := nI 1) hx hb dX5_frame_17 (by decide) ?_
  refine lv_icmp_lt (tgt := 26) hx hb dX5_frame_18 (by decide) (fun c_1 => ?_) (fun c_1 => ?_)
  · exact x_throw (ik := 41) (is := 70) (ic := 45) (text := "parts is out of range") hx hb hfl hown (by decide) (hts _ lt_X5_frame_41) (hts _ lu_X5_frame_41) (by decide) (by decide) (fun w h => hts w (List.mem_cons_of_mem _ (List.mem_append_left _ (List.mem_append_left _ (List.mem_append_right _ h))))) ng_45 gw_45 (by decide +kernel) hT hZ hS (hl.1.trans hml.symm) htb dX5_frame_26 dX5_frame_29 dX5_frame_30 dX5_frame_32 dX5_frame_35 hlocks (Nat.le_of_ble_eq_true rfl) (Nat.le_of_ble_eq_true rfl) (Nat.le_of_ble_eq_true rfl) (Nat.le_of_ble_eq_true rfl)
  · refine lv_iload_n hx hb dX5_frame_21 rfl (lv_at hl 4 rfl) ?_
    refine lv_iconst (v := nI 4) hx hb dX5_frame_22 (by decide) ?_
    refine lv_icmp_le (tgt := 36) hx hb dX5_frame_23 (by decide) (fun c_2 => ?_) (fun c_2 => ?_)
    · refine lv_iload_n hx hb dX5_frame_36 rfl (lv_at hl 2 rfl) ?_
      refine lv_iload_n hx hb dX5_frame_37 rfl (lv_at hl 3 rfl) ?_
      refine lv_icmp_ne (tgt := 51) hx hb dX5_frame_38 (by decide) (fun c_3 => absurd (hbad c_1 c_2) c_3) (fun _ => ?_)
      exact x_throw (ik := 41) (is := 90) (ic := 45) (text := "the goal is another station") hx hb hfl hown (by decide) (hts _ lt_X5_frame_41) (hts _ lu_X5_frame_41) (by decide) (by decide) (fun w h => hts w (List.mem_cons_of_mem _ (List.mem_append_left _ (List.mem_append_left _ (List.mem_append_right _ h))))) ng_45 gw_45 (by decide +kernel) hT hZ hS (hl.1.trans hml.symm) htb dX5_frame_41 dX5_frame_44 dX5_frame_45 dX5_frame_47 dX5_frame_50 hlocks (Nat.le_of_ble_eq_true rfl) (Nat.le_of_ble_eq_true rfl) (Nat.le_of_ble_eq_true rfl) (Nat.le_of_ble_eq_true rfl)
    · exact x_throw (ik := 41) (is := 70) (ic := 45) (text := "parts is out of range") hx hb hfl hown (by decide) (hts _ lt_X5_frame_41) (hts _ lu_X5_frame_41) (by decide) (by decide) (fun w h => hts w (List.mem_cons_of_mem _ (List.mem_append_left _ (List.mem_append_left _ (List.mem_append_right _ h))))) ng_45 gw_45 (by decide +kernel) hT hZ hS (hl.1.trans hml.symm) htb dX5_frame_26 dX5_frame_29 dX5_frame_30 dX5_frame_32 dX5_frame_35 hlocks (Nat.le_of_ble_eq_true rfl) (Nat.le_of_ble_eq_true rfl) (Nat.le_of_ble_eq_true rfl) (Nat.le_of_ble_eq_true rfl)

theorem lt_X5_frame_77 : Cond.classLink RX5 77 "java/lang/IllegalStateException" ∈ wsX5_frame := by decide +kernel
theorem lu_X5_frame_77 : Cond.initialized "java/lang/IllegalStateException" ∈ wsX5_frame := by decide +kernel
set_option maxHeartbeats 1000000 in
set_option maxRecDepth 100000 in
theorem b_X5_frame__4 (l : Launch) (hfl : l.stackTraces = false) (D : va_G) (cI cS : ClassId) (G : Nat → Nat) (S : Mem) (sz : Nat) (a : Nat) (b : Nat) (v : Int32) (ha : a < 6) (hb6 : b < 6) (h1 : ¬ v < nI 1) (h2 : v ≤ nI 4) (hne : ¬ nI a = nI b) (hbad : ¬ S (7 + 5 * a) 0 < nI 5) : vx_Met l yX5_frame wsX5_frame ({ frames := 6, cells := 1, slots := 6, locals := 90 } : Room) (tPc 36 (cF cI cS G) D (tY cI cS) G S sz [.ref (G 0), .int (nI a), .int (nI b), .int v]) (fun _ _ _ _ => False) (xX "java/lang/IllegalStateException" sz) 1 6 (fun q => sz ≤ q) := by
  refine x_metX (cc := cX5_frame) (maxL := 5) (ret := (some .int)) (by decide) rfl (Nat.le_of_ble_eq_true rfl) ?_
  intro p e s m below meth c ls hx hb hr hml hts hown hlocks hsz hP hK hD hN hT hZ hl htb
  subst hsz
  have hown : s.vm.findClass RX5 = some m.cls := hown
  have hl : lv_has ls 5 [(0, .ref (G 0)), (1, .int (nI a)), (2, .int (nI b)), (3, .int v)] := hl
  have hA : ∀ q : Nat, s.heap.size ≤ q → (fun q => s.heap.size ≤ q) q := fun q h => h
  have hS : va_S (fun q => s.heap.size ≤ q) s.heap s.heap [] := va_S.rf
  refine lv_aload_n hx hb dX5_frame_0 rfl (lv_at hl 0 rfl) ?_
  refine lv_iload_n hx hb dX5_frame_1 rfl (lv_at hl 1 rfl) ?_
  refine x_pr (va_runV (As := [.int (nI a)]) (rest := []) ⟨hx, hb, hml, hown, hts⟩ (c_X5_stationAt l D cI cS G S s.heap.size a (by omega)) (cwV 1 hts gX5_frame_X5_stationAt rfl rfl rfl (by decide +kernel) ⟨Nat.le_of_ble_eq_true rfl, Nat.le_of_ble_eq_true rfl⟩) ⟨wPc_blind, va_recv hK hP (ci := 5) (q0 := 0) rfl (WL_at (by decide) (cF_air _)), wPc_at hP hK hD hN⟩ rfl rfl hl.1 rfl (lv_room (Nat.le_of_ble_eq_true rfl)) dX5_frame_2 ⟨Nat.le_of_ble_eq_true rfl, Nat.le_of_ble_eq_true rfl⟩) hS hA (fun q h => h) (fun H locs hz hk hS => ?_)
  have hP := P_kept hP hk
  refine x_getN hx hb hts mm_X5_frame_X2 hown hK hP (6 + 5 * a) (by omega) (cF_st _ _) rfl 0 (by decide) (hN.use nk_X5_86 rfl) rfl rfl dX5_frame_5 ?_
  refine lv_astore (lv' := [(4, .ref (G (7 + 5 * a))), (0, .ref (G 0)), (1, .int (nI a)), (2, .int (nI b)), (3, .int v)]) hx hb dX5_frame_8 hl (by decide) rfl (fun ls hl => ?_)
  refine lv_aload_n hx hb dX5_frame_10 rfl (lv_at hl 1 rfl) ?_
  refine lv_iload_n hx hb dX5_frame_11 rfl (lv_at hl 3 rfl) ?_
  refine x_pr (va_runV (As := [.int (nI b)]) (rest := []) ⟨hx, hb, hml, hown, hts⟩ (c_X5_stationAt l D cI cS G S H.size b (by omega)) (cwV 1 hts gX5_frame_X5_stationAt rfl rfl rfl (by decide +kernel) ⟨Nat.le_of_ble_eq_true rfl, Nat.le_of_ble_eq_true rfl⟩) ⟨wPc_blind, va_recv hK hP (ci := 5) (q0 := 0) rfl (WL_at (by decide) (cF_air _)), wPc_at hP hK hD hN⟩ rfl rfl hl.1 rfl (lv_room (Nat.le_of_ble_eq_true rfl)) dX5_frame_12 ⟨Nat.le_of_ble_eq_true rfl, Nat.le_of_ble_eq_true rfl⟩) hS hA (fun q h => h) (fun H locs hz hk hS => ?_)
  have hP := P_kept hP hk
  refine lv_pop hx hb dX5_frame_15 rfl ?_
  refine lv_iload_n hx hb dX5_frame_16 rfl (lv_at hl 4 rfl) ?_
  refine lv_iconst (v := nI 1) hx hb dX5_frame_17 (by decide) ?_
  refine lv_icmp_lt (tgt := 26) hx hb dX5_frame_18 (by decide) (fun c_1 => absurd c_1 h1) (fun _ => ?_)
  refine lv_iload_n hx hb dX5_frame_21 rfl (lv_at hl 4 rfl) ?_
  refine lv_iconst (v := nI 4) hx hb dX5_frame_22 (by decide) ?_
  refine lv_icmp_le (tgt := 36) hx hb dX5_frame_23 (by decide) (fun _ => ?_) (fun c_2 => absurd h2 c_2) 
  refine lv_iload_n hx hb dX5_frame_36 rfl (lv_at hl 2 rfl) ?_
  refine lv_iload_n hx hb dX5_frame_37 rfl (lv_at hl 3 rfl) ?_
  refine lv_icmp_ne (tgt := 51) hx hb dX5_frame_38 (by decide) (fun _ => ?_) (fun c_3 => absurd c_3 hne)
  refine lv_aload hx hb dX5_frame_51 (lv_at hl 0 rfl) ?_
  refine x_getN hx hb hts mm_X5_frame_X0 hown hK hP (7 + 5 * a) (by omega) (cF_row _ _) rfl 2 (by decide) (hN.use nk_X5_92 rfl) rfl rfl dX5_frame_53 ?_
  refine lv_iconst (v := nI 5) hx hb dX5_frame_56 (by decide) ?_
  refine lv_icmp_lt (tgt := 70) hx hb dX5_frame_57 (by decide) (fun c_4 => absurd c_4 hbad) (fun _ => ?_)
  exact x_throw (ik := 77) (is := 97) (ic := 81) (text := "the station has 5 frames") hx hb hfl hown (by decide) (hts _ lt_X5_frame_77) (hts _ lu_X5_frame_77) (by decide) (by decide) (fun w h => hts w (List.mem_cons_of_mem _ (List.mem_append_left _ (List.mem_append_right _ h)))) ng_81 gw_81 (by decide +kernel) hT hZ hS (hl.1.trans hml.symm) htb dX5_frame_60 dX5_frame_63 dX5_frame_64 dX5_frame_66 dX5_frame_69 hlocks (Nat.le_of_ble_eq_true rfl) (Nat.le_of_ble_eq_true rfl) (Nat.le_of_ble_eq_true rfl) (Nat.le_of_ble_eq_true rfl)

theorem lt_X5_pass_41 : Cond.classLink RX5 41 "java/lang/IllegalArgumentException" ∈ wsX5_pass := by decide +kernel
theorem lu_X5_pass_41 : Cond.initialized "java/lang/IllegalArgumentException" ∈ wsX5_pass := by decide +kernel
set_option maxHeartbeats 1000000 in
set_option maxRecDepth 100000 in
theorem b_X5_pass__1 (l : Launch) (hfl : l.stackTraces = false) (D : va_G) (cI cS : ClassId) (G : Nat → Nat) (S : Mem) (sz : Nat) (x : Int32) (hbad : ¬ x < nI 1 → ¬ x ≤ nI 50) : vx_Met l yX5_pass wsX5_pass ({ frames := 6, cells := 1, slots := 6, locals := 90 } : Room) (tPc 36 (cF cI cS G) D (tY cI cS) G S sz [.ref (G 0), .int x]) (fun _ _ _ _ => False) (xX "java/lang/IllegalArgumentException" sz) 1 6 (fun q => sz ≤ q) := by
  refine x_metX (cc := cX5_pass) (maxL := 4) (ret := (some .int)) (by decide) rfl (Nat.le_of_ble_eq_true rfl) ?_
  intro p e s m below meth c ls hx hb hr hml hts hown hlocks hsz hP hK hD hN hT hZ hl htb
  subst hsz
  have hown : s.vm.findClass RX5 = some m.cls := hown
  have hl : lv_has ls 4 [(0, .ref (G 0)), (1, .int x)] := hl
  have hA : ∀ q : Nat, s.heap.size ≤ q → (fun q => s.heap.size ≤ q) q := fun q h => h
  have hS : va_S (fun q => s.heap.size ≤ q) s.heap s.heap [] := va_S.rf
  refine lv_iload_n hx hb dX5_pass_0 rfl (lv_at hl 1 rfl) ?_
  refine lv_iconst (v := nI 1) hx hb dX5_pass_1 (by decide) ?_
  refine lv_icmp_lt (tgt := 11) hx hb dX5_pass_2 (by decide) (fun c_1 => ?_) (fun c_1 => ?_)
  · exact x_throw (ik := 41) (is := 102) (ic := 45) (text := "slots is out of range") hx hb hfl hown (by decide) (hts _ lt_X5_pass_41) (hts _ lu_X5_pass_41) (by decide) (by decide) (fun w h => hts w (List.mem_cons_of_mem _ (List.mem_append_left _ (List.mem_append_right _ h)))) ng_45 gw_45 (by decide +kernel) hT hZ hS (hl.1.trans hml.symm) htb dX5_pass_11 dX5_pass_14 dX5_pass_15 dX5_pass_17 dX5_pass_20 hlocks (Nat.le_of_ble_eq_true rfl) (Nat.le_of_ble_eq_true rfl) (Nat.le_of_ble_eq_true rfl) (Nat.le_of_ble_eq_true rfl)
  · refine lv_iload_n hx hb dX5_pass_5 rfl (lv_at hl 1 rfl) ?_
    refine lv_bipush (v := nI 50) hx hb dX5_pass_6 (by decide) ?_
    refine lv_icmp_le (tgt := 21) hx hb dX5_pass_8 (by decide) (fun c_2 => absurd c_2 (hbad c_1)) (fun _ => ?_)
    exact x_throw (ik := 41) (is := 102) (ic := 45) (text := "slots is out of range") hx hb hfl hown (by decide) (hts _ lt_X5_pass_41) (hts _ lu_X5_pass_41) (by decide) (by decide) (fun w h => hts w (List.mem_cons_of_mem _ (List.mem_append_left _ (List.mem_append_right _ h)))) ng_45 gw_45 (by decide +kernel) hT hZ hS (hl.1.trans hml.symm) htb dX5_pass_11 dX5_pass_14 dX5_pass_15 dX5_pass_17 dX5_pass_20 hlocks (Nat.le_of_ble_eq_true rfl) (Nat.le_of_ble_eq_true rfl) (Nat.le_of_ble_eq_true rfl) (Nat.le_of_ble_eq_true rfl)
end
section
-- what holds between the calls
def sm (x : Int32) (N : Nat) : Prop := x = nI (kN x) ∧ kN x < N
theorem sm_nI {n N : Nat} (h : n < N) (hN : N ≤ 2 ^ 30) : sm (nI n) N := by
  unfold sm
  rw [kN_nI (by omega)]
  exact ⟨rfl, h⟩
theorem sm.le {x : Int32} {N N' : Nat} (h : sm x N) (hN : N ≤ N') : sm x N' := ⟨h.1, Nat.lt_of_lt_of_le h.2 hN⟩
def ppc (p : Nat) : Nat := p % 2 + p / 2 % 2 + p / 4 % 2 + p / 8 % 2
theorem bc_eq : ∀ p, p < 16 → f_J6_bitCount_0f7a4 (nI p) = nI (ppc p) := by decide +kernel
theorem ppc_pos : ∀ p, p < 16 → 0 < p → 0 < ppc p := by decide +kernel
theorem ppc_le : ∀ p, p < 16 → ppc p ≤ 4 := by decide +kernel
theorem lw_le (c : Int32) : f_X5_leastWindow c = nI 3 ∨ f_X5_leastWindow c = nI 7 := by
  rw [f_X5_leastWindow_d]
  by_cases h : c = 0
  · rw [if_pos h]; exact Or.inl rfl
  · rw [if_neg h]; exact Or.inr rfl
theorem x4_spec {S : Mem} {fi c : Nat} (h0 : S 4 0 = nI fi) (hf : fi < 200) (h1 : S 4 1 = nI c) (hc : c ≤ 200) (hp : 0 < c) : (f_X4_next S).1 = S 5 fi ∧ (f_X4_next S).2 4 0 = nI ((fi + 1) % 200) ∧ (f_X4_next S).2 4 1 = nI (c - 1) ∧ ∀ b, b ≠ 4 → (f_X4_next S).2 b = S b := by
  have hk : kN (S 4 0) = fi := by rw [h0]; exact kN_nI (by omega)
  rw [f_X4_next_d, if_neg (by rw [h1]; exact nI_nle hp (by omega)), hk]
  by_cases h : nI 200 ≤ S 4 0 + nI 1
  · rw [if_pos h]
    rw [h0, nI_add, nI_leI (by omega) (by omega)] at h
    have e : fi = 199 := by omega
    refine ⟨rfl, ?_, ?_, fun b hb => ?_⟩
    · dsimp only
      rw [ub_blk, pk_un (by decide), ub_blk, pk_us, e]
    · dsimp only
      rw [ub_blk, pk_us, ub_blk, pk_un (by decide), h1, pk_sub (by omega)]
    · dsimp only
      rw [ub_ne _ _ _ hb, ub_ne _ _ _ hb]
  · rw [if_neg h]
    rw [h0, nI_add, nI_leI (by omega) (by omega)] at h
    refine ⟨rfl, ?_, ?_, fun b hb => ?_⟩
    · dsimp only
      rw [ub_blk, pk_un (by decide), ub_blk, pk_us, h0, nI_add, Nat.mod_eq_of_lt (by omega)]
    · dsimp only
      rw [ub_blk, pk_us, ub_blk, pk_un (by decide), h1, pk_sub (by omega)]
    · dsimp only
      rw [ub_ne _ _ _ hb, ub_ne _ _ _ hb]
theorem x4_zero {S : Mem} (h1 : S 4 1 = nI 0) : f_X4_next S = (nI 0, S) := by
  rw [f_X4_next_d, if_pos (by rw [h1]; decide)]
theorem nI0 : nI 0 = 0 := by decide
theorem nI1_ne : ¬ nI 1 = 0 := by decide
theorem nI1_0 : ¬ nI 1 = nI 0 := by decide
theorem rf_cnt : ∀ c, c < 6 → (if nI c - nI 1 < nI 0 then nI 0 else nI c - nI 1) = nI (c - 1) := by decide +kernel
theorem rf_L1 {c j : Nat} (hc : c < 6) : ∀ (n i : Nat) (S : Mem), i + n = 5 → 1 ≤ i → S (7 + 5 * j) 0 = nI c →
    (∀ b, b ≠ 7 + 5 * j → b ≠ 9 + 5 * j → b ≠ 10 + 5 * j → f_X0_removeFirst_L1 j n i S b = S b) ∧ f_X0_removeFirst_L1 j n i S (7 + 5 * j) 0 = nI (c - 1) ∧
    ∀ k, (i ≤ k + 1 → k + 1 < c → f_X0_removeFirst_L1 j n i S (9 + 5 * j) k = S (9 + 5 * j) (k + 1) ∧ f_X0_removeFirst_L1 j n i S (10 + 5 * j) k = S (10 + 5 * j) (k + 1)) ∧ (k + 1 < i → f_X0_removeFirst_L1 j n i S (9 + 5 * j) k = S (9 + 5 * j) k ∧ f_X0_removeFirst_L1 j n i S (10 + 5 * j) k = S (10 + 5 * j) k)
  | 0, i, S, hi, h1, h => by
    rw [f_X0_removeFirst_L1_z, ite_self, h, rf_cnt c hc]
    refine ⟨fun b h1 h2 h3 => ub_ne _ _ _ h1, by rw [ub_blk, pk_us], fun k => ⟨fun h1 h2 => by omega, fun _ => ⟨?_, ?_⟩⟩⟩
    · rw [ub_ne _ _ _ (by omega)]
    · rw [ub_ne _ _ _ (by omega)]
  | n + 1, i, S, hi, h1, h => by
    rw [f_X0_removeFirst_L1_s]
    by_cases hx : S (7 + 5 * j) 0 ≤ nI i
    · rw [if_pos hx]
      rw [h, nI_leI (by omega) (by omega)] at hx
      rw [h, rf_cnt c hc]
      refine ⟨fun b h1 h2 h3 => ub_ne _ _ _ h1, by rw [ub_blk, pk_us], fun k => ⟨fun h1 h2 => by omega, fun _ => ⟨?_, ?_⟩⟩⟩
      · rw [ub_ne _ _ _ (by omega)]
      · rw [ub_ne _ _ _ (by omega)]
    · rw [if_neg hx]
      rw [ub_ne _ _ _ (show 10 + 5 * j ≠ 9 + 5 * j by omega)]
      obtain ⟨g1, g2, g3⟩ := rf_L1 (j := j) hc n (i + 1) (ub (ub S (9 + 5 * j) (i - 1) (S (9 + 5 * j) i)) (10 + 5 * j) (i - 1) (S (10 + 5 * j) i)) (by omega) (by omega) (by rw [ub_ne _ _ _ (by omega), ub_ne _ _ _ (by omega)]; exact h)
      have r9 : ∀ k, ub (ub S (9 + 5 * j) (i - 1) (S (9 + 5 * j) i)) (10 + 5 * j) (i - 1) (S (10 + 5 * j) i) (9 + 5 * j) k = if k = i - 1 then S (9 + 5 * j) i else S (9 + 5 * j) k := fun k => by
        rw [ub_ne _ _ _ (by omega), ub_blk, upd]
      have r10 : ∀ k, ub (ub S (9 + 5 * j) (i - 1) (S (9 + 5 * j) i)) (10 + 5 * j) (i - 1) (S (10 + 5 * j) i) (10 + 5 * j) k = if k = i - 1 then S (10 + 5 * j) i else S (10 + 5 * j) k := fun k => by
        rw [ub_blk, upd, ub_ne _ _ _ (by omega)]
      refine ⟨fun b h1 h2 h3 => ?_, g2, fun k => ⟨fun k1 k2 => ?_, fun k1 => ?_⟩⟩
      · rw [g1 b h1 h2 h3, ub_ne _ _ _ h3, ub_ne _ _ _ h2]
      · rcases Nat.lt_or_ge i (k + 1) with q | q
        · obtain ⟨x1, x2⟩ := (g3 k).1 q k2
          rw [x1, x2, r9, r10, if_neg (by omega), if_neg (by omega)]
          exact ⟨rfl, rfl⟩
        · have e : k = i - 1 := by omega
          obtain ⟨x1, x2⟩ := (g3 k).2 (by omega)
          rw [x1, x2, r9, r10, if_pos e, if_pos e, show k + 1 = i by omega]
          exact ⟨rfl, rfl⟩
      · obtain ⟨x1, x2⟩ := (g3 k).2 (by omega)
        rw [x1, x2, r9, r10, if_neg (by omega), if_neg (by omega)]
        exact ⟨rfl, rfl⟩
theorem parts_eq {S : Mem} {i p c : Nat} (hc : S (7 + 5 * i) 0 = nI c) (hc0 : 0 < c) (hc6 : c < 6) (hp : S (10 + 5 * i) 0 = nI p) : f_X0_partsOfFirst S i = nI p := by
  rw [f_X0_partsOfFirst_d, if_neg (by rw [hc]; exact nI_nle hc0 (by omega))]
  exact hp
theorem goal_eq {S : Mem} {i c : Nat} (hc : S (7 + 5 * i) 0 = nI c) (hc0 : 0 < c) (hc6 : c < 6) : f_X0_goalOfFirst S i = S (9 + 5 * i) 0 := by
  rw [f_X0_goalOfFirst_d, if_neg (by rw [hc]; exact nI_nle hc0 (by omega))]
/-- what a sending's begin writes in the component -/
theorem begin_spec (S : Mem) {i t p r c : Nat} (ht : 1 ≤ t) (hc : S (7 + 5 * i) 0 = nI c) (hc0 : 0 < c) (hc6 : c < 6) (hp : S (10 + 5 * i) 0 = nI p) (hp16 : p < 16) (hr6 : r < 6) : ∃ q, q = (if ppc p < r then 0 else 1) ∧ f_X2_begin S i (nI t) (nI r) (8 + 5 * i) 0 = nI 1 ∧ f_X2_begin S i (nI t) (nI r) (8 + 5 * i) 1 = nI t ∧ f_X2_begin S i (nI t) (nI r) (8 + 5 * i) 2 = nI (t + q + 2 * ppc p - 1) ∧ f_X2_begin S i (nI t) (nI r) (8 + 5 * i) 3 = nI q ∧ f_X2_begin S i (nI t) (nI r) (8 + 5 * i) 4 = nI 0 ∧ f_X2_begin S i (nI t) (nI r) (8 + 5 * i) 5 = nI p ∧ f_X2_begin S i (nI t) (nI r) (8 + 5 * i) 6 = nI 0 ∧ f_X2_begin S i (nI t) (nI r) (6 + 5 * i) 2 = -1 ∧ (∀ a, a ≠ 2 → f_X2_begin S i (nI t) (nI r) (6 + 5 * i) a = S (6 + 5 * i) a) ∧ ∀ b, b ≠ 6 + 5 * i → b ≠ 8 + 5 * i → f_X2_begin S i (nI t) (nI r) b = S b := by
  have hpc := ppc_le p hp16
  have key : ∀ q, q < 2 → ∀ X : Mem, X = f_X1_begin (ub S (6 + 5 * i) 2 (-1)) i (nI t) (nI p) (nI q) → X (8 + 5 * i) 0 = nI 1 ∧ X (8 + 5 * i) 1 = nI t ∧ X (8 + 5 * i) 2 = nI (t + q + 2 * ppc p - 1) ∧ X (8 + 5 * i) 3 = nI q ∧ X (8 + 5 * i) 4 = nI 0 ∧ X (8 + 5 * i) 5 = nI p ∧ X (8 + 5 * i) 6 = nI 0 ∧ X (6 + 5 * i) 2 = -1 ∧ (∀ a, a ≠ 2 → X (6 + 5 * i) a = S (6 + 5 * i) a) ∧ ∀ b, b ≠ 6 + 5 * i → b ≠ 8 + 5 * i → X b = S b := by
    intro q hq X hX
    have e3 : f_X1_firstSlotOfParts (ub (ub (ub (ub (ub (ub (ub S (6 + 5 * i) 2 (-1)) (8 + 5 * i) 0 (nI 1)) (8 + 5 * i) 1 (nI t)) (8 + 5 * i) 3 (nI q)) (8 + 5 * i) 4 (nI 0)) (8 + 5 * i) 5 (nI p)) (8 + 5 * i) 6 (nI 0)) i + nI 2 * f_J6_bitCount_0f7a4 (nI p) - nI 1 = nI (t + q + 2 * ppc p - 1) := by
      rw [f_X1_firstSlotOfParts_d, bc_eq p hp16]
      simp (disch := decide) only [ub_blk, pk_us, pk_un]
      rcases (show q = 0 ∨ q = 1 by omega) with h | h
      · subst h
        rw [if_pos nI0, pk_mul, nI_add, pk_sub (by omega)]
        rfl
      · subst h
        rw [if_neg nI1_ne, pk_mul, nI_add, nI_add, pk_sub (by omega)]
    rw [f_X1_begin_d, e3] at hX
    subst hX
    refine ⟨?_, ?_, ?_, ?_, ?_, ?_, ?_, ?_, fun a ha => ?_, fun b h1 h2 => ?_⟩
    · simp (disch := decide) only [ub_blk, pk_us, pk_un]
    · simp (disch := decide) only [ub_blk, pk_us, pk_un]
    · simp (disch := decide) only [ub_blk, pk_us, pk_un]
    · simp (disch := decide) only [ub_blk, pk_us, pk_un]
    · simp (disch := decide) only [ub_blk, pk_us, pk_un]
    · simp (disch := decide) only [ub_blk, pk_us, pk_un]
    · simp (disch := decide) only [ub_blk, pk_us, pk_un]
    · simp (disch := omega) only [ub_ne, ub_blk, pk_us]
    · simp (disch := omega) only [ub_ne, ub_blk, pk_un]
    · simp (disch := omega) only [ub_ne]
  have ep := parts_eq hc hc0 hc6 hp
  rw [f_X2_begin_d, ep, bc_eq p hp16]
  by_cases h : ppc p < r
  · refine ⟨0, by rw [if_pos h], ?_⟩
    rw [if_pos (nI_lt h (by omega))]
    exact key 0 (by decide) _ rfl
  · refine ⟨1, by rw [if_neg h], ?_⟩
    rw [if_neg (fun hh => h ((nI_ltI (by omega) (by omega)).mp hh))]
    exact key 1 (by decide) _ rfl
theorem neg1_ne {n : Nat} (h : n < 2 ^ 31) : ¬ (-1 : Int32) = nI n := fun e => by
  have h1 : (0 : Int32) ≤ -1 := by rw [e]; exact nI_ge0 h
  exact absurd h1 (by decide)
theorem isReq_yes {X : Mem} {i t : Nat} (hf : X (8 + 5 * i) 1 = nI t) (hq : X (8 + 5 * i) 3 = nI 1) : f_X1_isRequest X i (nI t) = nI 1 := by
  rw [f_X1_isRequest_d, hq, if_neg nI1_ne, hf, if_pos rfl]
theorem isReq_no {X : Mem} {i t f q : Nat} (ht : t < 100000) (hft : f ≤ t) (hf : X (8 + 5 * i) 1 = nI f) (hq : X (8 + 5 * i) 3 = nI q) (hq2 : q < 2) (hn : f = t → q = 1 → False) : f_X1_isRequest X i (nI t) = nI 0 := by
  rw [f_X1_isRequest_d, hf, hq]
  rcases (show q = 0 ∨ q = 1 by omega) with e | e
  · subst e; rw [if_pos nI0]
  · subst e
    rw [if_neg nI1_ne, if_neg]
    intro h
    exact hn (nI_inj (by omega) (by omega) h).symm rfl
def wob2 (X : Mem) (i : Nat) : Mem := if X 0 1 ≤ X (6 + 5 * i) 4 then X else (if f_X5_heardInSlotBefore X i = 0 then (if X (6 + 5 * i) 2 ≤ 0 then f_X2_begin X i (X 0 1) (X 0 0) else ub X (6 + 5 * i) 2 (X (6 + 5 * i) 2 - nI 1)) else X)
theorem wob_eq (S : Mem) (i : Nat) : f_X5_waitOrBegin S i = if S (8 + 5 * i) 0 = 0 then (if S (7 + 5 * i) 0 = 0 then S else (if S (6 + 5 * i) 2 = -1 then wob2 (ub (f_X4_next S).2 (6 + 5 * i) 2 (f_X5_restBy (f_X4_next S).1 ((f_X4_next S).2 (6 + 5 * i) 1 + nI 1))) i else wob2 S i)) else S := rfl
theorem cL1 (S : Mem) : ∀ n i, i + n = 6 → f_X5_passOneSlot_L1 n i (ct1 S i) = f_X5_passOneSlot_L2 6 0 (ct1 S 6)
  | 0, i, hi => by
    have e : i = 6 := by omega
    subst e
    rfl
  | n + 1, i, hi => by
    rw [f_X5_passOneSlot_L1_s, ← f_X5_passOneSlot_L1_b_d, ← ct1_s]
    exact cL1 S n (i + 1) (by omega)
theorem cL2 (S : Mem) : ∀ n i, i + n = 6 → f_X5_passOneSlot_L2 n i (ct2 S i) = f_X5_passOneSlot_L3 6 0 (ct2 S 6) (nI 0)
  | 0, i, hi => by
    have e : i = 6 := by omega
    subst e
    rfl
  | n + 1, i, hi => by
    rw [f_X5_passOneSlot_L2_s, ← f_X5_passOneSlot_L2_b_d, ← ct2_s]
    exact cL2 S n (i + 1) (by omega)
theorem cSlot (S : Mem) : f_X5_passOneSlot S = f_X5_passOneSlot_L3 6 0 (ct3 S 0) (nI 0) := by
  have h1 := cL1 S 6 0 rfl
  have h2 := cL2 S 6 0 rfl
  rw [ct1_0] at h1
  rw [ct2_0] at h2
  rw [f_X5_passOneSlot_d, h1, h2, ct3_0]
def kQu (S : Mem) : Prop := sm (S 4 0) 200 ∧ sm (S 4 1) 201 ∧ ∀ k, k < 200 → sm (S 5 k) 1001
def kGl (t : Nat) (S : Mem) : Prop := (sm (S 0 0) 6 ∧ 0 < kN (S 0 0)) ∧ S 0 1 = nI t ∧ t < 100000
def kW (x : Int32) : Prop := x = nI 3 ∨ x = nI 7 ∨ x = nI 15 ∨ x = nI 31
theorem kW_sm {x : Int32} (h : kW x) : sm x 32 := by
  rcases h with rfl | rfl | rfl | rfl <;> exact sm_nI (by decide) (by decide)
theorem lw_W (c : Int32) : kW (f_X5_leastWindow c) := by
  rcases lw_le c with h | h
  · exact Or.inl h
  · exact Or.inr (Or.inl h)
def kRw (S : Mem) (i : Nat) : Prop := sm (S (7 + 5 * i) 0) 6 ∧ ∀ k, k < kN (S (7 + 5 * i) 0) → sm (S (9 + 5 * i) k) 6 ∧ sm (S (10 + 5 * i) k) 16 ∧ ¬ S (10 + 5 * i) k = 0
def kRw1 (S : Mem) (i : Nat) : Prop := sm (S (7 + 5 * i) 0) 6 ∧ ∀ k, 0 < k → k < kN (S (7 + 5 * i) 0) → sm (S (9 + 5 * i) k) 6 ∧ sm (S (10 + 5 * i) k) 16 ∧ ¬ S (10 + 5 * i) k = 0
theorem kRw.w {S : Mem} {i : Nat} (h : kRw S i) : kRw1 S i := ⟨h.1, fun k _ hk => h.2 k hk⟩
def kTm (f q p : Nat) (S : Mem) (i : Nat) : Prop := 0 < kN (S (7 + 5 * i) 0) ∧ q < 2 ∧ 0 < p ∧ p < 16 ∧ S (8 + 5 * i) 1 = nI f ∧ S (8 + 5 * i) 3 = nI q ∧ S (8 + 5 * i) 5 = nI p ∧ S (10 + 5 * i) 0 = nI p ∧ S (8 + 5 * i) 2 = nI (f + q + 2 * ppc p - 1)
def kC (t : Nat) (S : Mem) (i : Nat) : Prop := kW (S (6 + 5 * i) 1) ∧ sm (S (6 + 5 * i) 3) 5 ∧ sm (S (6 + 5 * i) 4) (t + 9)
def kWt (S : Mem) (i : Nat) : Prop := S (6 + 5 * i) 2 = -1 ∨ (sm (S (6 + 5 * i) 2) 32 ∧ 0 < kN (S (7 + 5 * i) 0) ∧ S (8 + 5 * i) 0 = nI 0)
def kAr (d e a : Nat) (S : Mem) (i : Nat) : Prop := S (6 + 5 * i) 5 = nI d ∧ S (6 + 5 * i) 8 = nI e ∧ S (6 + 5 * i) 7 = nI a ∧ 2 * d ≤ e
def kLs (t : Nat) (S : Mem) (i : Nat) : Prop := S (6 + 5 * i) 9 = -1 ∨ ∃ q : Nat, q ≤ t ∧ S (6 + 5 * i) 9 = nI q
def IA (t : Nat) (S : Mem) (i : Nat) : Prop := kC t S i ∧ kRw S i ∧ kWt S i ∧ kLs t S i ∧ ∃ d e a : Nat, kAr d e a S i ∧ a ≤ t ∧ ((S (8 + 5 * i) 0 = nI 0 ∧ a = e) ∨ (S (8 + 5 * i) 0 = nI 1 ∧ ∃ f q p : Nat, kTm f q p S i ∧ f ≤ t ∧ a = e + (t - f + 1)))
-- one slot, seen from its start S
def bz (t : Nat) (S : Mem) (i : Nat) : Prop := nI (t + 1) ≤ S (6 + 5 * i) 4 ∨ ∃ k, k < 6 ∧ k ≠ i ∧ ¬ S 3 (i * 6 + k) ≤ 0 ∧ S (6 + 5 * k) 9 = nI t
def wq (b : Prop) (S X : Mem) (i : Nat) : Prop := S (6 + 5 * i) 2 = -1 ∨ (b ∧ X (6 + 5 * i) 2 = S (6 + 5 * i) 2) ∨ (¬ b ∧ ∃ w : Nat, S (6 + 5 * i) 2 = nI (w + 1) ∧ w < 31 ∧ X (6 + 5 * i) 2 = nI w)
def wsn (b : Prop) (S : Mem) (i : Nat) : Prop := S (8 + 5 * i) 0 = nI 1 ∨ (S (8 + 5 * i) 0 = nI 0 ∧ ¬ b ∧ (S (6 + 5 * i) 2 = -1 ∨ S (6 + 5 * i) 2 = nI 0))
def kG (n : Nat) (S X : Mem) : Prop := X 0 0 = S 0 0 ∧ X 0 1 = nI n ∧ X 3 = S 3 ∧ kQu X
def sameT (S X : Mem) (i : Nat) : Prop := X (6 + 5 * i) = S (6 + 5 * i) ∧ X (7 + 5 * i) = S (7 + 5 * i) ∧ X (8 + 5 * i) = S (8 + 5 * i) ∧ X (9 + 5 * i) = S (9 + 5 * i) ∧ X (10 + 5 * i) = S (10 + 5 * i)
def sameR (S X : Mem) (i : Nat) : Prop := X (7 + 5 * i) = S (7 + 5 * i) ∧ X (9 + 5 * i) = S (9 + 5 * i) ∧ X (10 + 5 * i) = S (10 + 5 * i)
def RB (t : Nat) (S X : Mem) (i : Nat) : Prop := sameR S X i ∧ (∀ a, a ≠ 2 → X (6 + 5 * i) a = S (6 + 5 * i) a) ∧
  ((S (8 + 5 * i) 0 = nI 0 ∧ X (8 + 5 * i) 0 = nI 0 ∧ kWt X i ∧ wq (bz t S i) S X i) ∨
   (wsn (bz t S i) S i ∧ X (8 + 5 * i) 0 = nI 1 ∧ X (6 + 5 * i) 2 = -1 ∧ ∃ d e f q p : Nat, kAr d e (e + (t + 1 - f)) X i ∧ e + (t + 1 - f) ≤ t ∧ kTm f q p X i ∧ f ≤ t + 1))
def RC (t : Nat) (S X : Mem) (i : Nat) : Prop := sameR S X i ∧ (∀ a, a ≠ 2 → a ≠ 4 → a ≠ 7 → a ≠ 9 → X (6 + 5 * i) a = S (6 + 5 * i) a) ∧ sm (X (6 + 5 * i) 4) (t + 10) ∧
  ((S (8 + 5 * i) 0 = nI 0 ∧ X (8 + 5 * i) 0 = nI 0 ∧ kWt X i ∧ wq (bz t S i) S X i ∧ X (6 + 5 * i) 7 = S (6 + 5 * i) 7 ∧ X (6 + 5 * i) 9 = S (6 + 5 * i) 9) ∨
   (wsn (bz t S i) S i ∧ X (8 + 5 * i) 0 = nI 1 ∧ X (6 + 5 * i) 2 = -1 ∧ X (6 + 5 * i) 9 = nI (t + 1) ∧ ∃ d e f q p : Nat, kAr d e (e + (t + 1 - f) + 1) X i ∧ S (6 + 5 * i) 7 = nI (e + (t + 1 - f)) ∧ e + (t + 1 - f) ≤ t ∧ kTm f q p X i ∧ f ≤ t + 1))
def oE (S X : Mem) (i : Nat) : Prop :=
  (X (8 + 5 * i) 0 = nI 1 ∧ X (6 + 5 * i) 5 = S (6 + 5 * i) 5 ∧ X (7 + 5 * i) 0 = S (7 + 5 * i) 0) ∨
  (X (8 + 5 * i) 0 = nI 0 ∧ X (6 + 5 * i) 5 = S (6 + 5 * i) 5 ∧ X (7 + 5 * i) 0 = S (7 + 5 * i) 0) ∨
  (X (8 + 5 * i) 0 = nI 0 ∧ X (6 + 5 * i) 5 = S (6 + 5 * i) 5 ∧ X (6 + 5 * i) 6 = S (6 + 5 * i) 6 + nI 1 ∧ ∃ c : Nat, c < 5 ∧ S (7 + 5 * i) 0 = nI (c + 1) ∧ X (7 + 5 * i) 0 = nI c) ∨
  (X (8 + 5 * i) 0 = nI 0 ∧ X (6 + 5 * i) 6 = S (6 + 5 * i) 6 ∧ X (6 + 5 * i) 3 = nI 0 ∧ ∃ d g p : Nat, S (6 + 5 * i) 5 = nI d ∧ X (6 + 5 * i) 5 = nI (d + g) ∧ S (10 + 5 * i) 0 = nI p ∧ p < 16 ∧ 0 < g ∧ g ≤ ppc p ∧ (X (7 + 5 * i) 0 = S (7 + 5 * i) 0 ∨ (g = ppc p ∧ ∃ c : Nat, c < 5 ∧ S (7 + 5 * i) 0 = nI (c + 1) ∧ X (7 + 5 * i) 0 = nI c)))
def oQ (t : Nat) (S X : Mem) (i : Nat) : Prop := S (8 + 5 * i) 0 = nI 0 ∧ X (8 + 5 * i) 0 = nI 0 ∧ wq (bz t S i) S X i ∧ X (6 + 5 * i) 7 = S (6 + 5 * i) 7 ∧ X (6 + 5 * i) 9 = S (6 + 5 * i) 9 ∧ X (6 + 5 * i) 5 = S (6 + 5 * i) 5 ∧ X (7 + 5 * i) 0 = S (7 + 5 * i) 0
def oS (t : Nat) (S X : Mem) (i : Nat) : Prop := wsn (bz t S i) S i ∧ X (6 + 5 * i) 9 = nI (t + 1) ∧ (∃ a : Nat, a ≤ t ∧ S (6 + 5 * i) 7 = nI a ∧ X (6 + 5 * i) 7 = nI (a + 1)) ∧ 0 < kN (S (7 + 5 * i) 0) ∧ oE S X i
def RD (t : Nat) (S X : Mem) (i : Nat) : Prop := IA (t + 1) X i ∧ (oQ t S X i ∨ oS t S X i)
-- tables
theorem win_tab2 {w : Int32} (h : kW w) : kW (if nI 31 < (nI 2 * w) + nI 1 then nI 31 else (nI 2 * w) + nI 1) := by
  rcases h with rfl | rfl | rfl | rfl <;> (unfold kW; decide +kernel)
def gd (p j : Nat) : Nat := kN (nI p &&& nI j)
def lf (p j : Nat) : Nat := kN (nI p &&& (nI (gd p j) ^^^ (-1)))
theorem gd_tab : ∀ p, p < 16 → ∀ j, j < 16 → nI p &&& nI j = nI (gd p j) ∧ gd p j < 16 ∧ ppc (gd p j) ≤ ppc p ∧ nI p &&& (nI (gd p j) ^^^ (-1)) = nI (lf p j) ∧ lf p j < 16 ∧ (lf p j = 0 → ppc (gd p j) = ppc p) := by decide +kernel
theorem and_low {p : Nat} (hp : p < 16) (x : Int32) : ∃ j : Nat, j < 16 ∧ nI p &&& x = nI (gd p j) := by
  obtain ⟨j, hj, e⟩ := pk_andE x (m := nI 15) 4 (by decide)
  refine ⟨j, hj, ?_⟩
  have h15 : nI p &&& nI 15 = nI p := (show ∀ p, p < 16 → nI p &&& nI 15 = nI p by decide +kernel) p hp
  rw [← (gd_tab p hp j hj).1, ← e, Int32.and_comm x, ← Int32.and_assoc, h15]
-- numbers
theorem kQu_next {S : Mem} (h : kQu S) : kQu (f_X4_next S).2 ∧ sm (f_X4_next S).1 1001 ∧ ∀ b, b ≠ 4 → (f_X4_next S).2 b = S b := by
  obtain ⟨⟨a1, a2⟩, ⟨c1, c2⟩, d⟩ := id h
  obtain ⟨fi, hfi⟩ : ∃ z, z = kN (S 4 0) := ⟨_, rfl⟩
  obtain ⟨c, hc⟩ : ∃ z, z = kN (S 4 1) := ⟨_, rfl⟩
  rw [← hfi] at a1 a2
  rw [← hc] at c1 c2
  rcases Nat.eq_zero_or_pos c with q | q
  · subst q
    rw [x4_zero c1]
    exact ⟨h, sm_nI (by decide) (by decide), fun _ _ => rfl⟩
  · obtain ⟨x1, x2, x3, x4⟩ := x4_spec a1 a2 c1 (by omega) q
    refine ⟨⟨by rw [x2]; exact sm_nI (Nat.mod_lt _ (by decide)) (by decide), by rw [x3]; exact sm_nI (by omega) (by decide), fun k hk => by rw [x4 5 (by decide)]; exact d k hk⟩, by rw [x1]; exact d fi a2, x4⟩
theorem rest_sm {x w : Int32} (hw : kW w) (hx : sm x 1001) : sm (f_X5_restBy x (w + nI 1)) 32 := by
  have h := kW_sm hw
  have h1 := h.2
  have h2 := hx.2
  rw [f_X5_restBy_d, if_neg (by rw [h.1, nI_add]; exact nI_nle (by omega) (by omega)), h.1, hx.1, nI_add, pk_rem (by omega) (by omega) (by omega)]
  exact sm_nI (by have := Nat.mod_lt (kN x) (show 0 < kN w + 1 by omega); omega) (by decide)
-- a frame leaves
theorem kRw_rem {S : Mem} {i : Nat} (h : kRw1 S i) (hp : 0 < kN (S (7 + 5 * i) 0)) : kRw (f_X0_removeFirst S i) i ∧ (∃ c : Nat, c < 5 ∧ S (7 + 5 * i) 0 = nI (c + 1) ∧ f_X0_removeFirst S i (7 + 5 * i) 0 = nI c) ∧ ∀ b, b ≠ 7 + 5 * i → b ≠ 9 + 5 * i → b ≠ 10 + 5 * i → f_X0_removeFirst S i b = S b := by
  obtain ⟨⟨a2, a3⟩, a4⟩ := h
  obtain ⟨c, hc⟩ : ∃ z, z = kN (S (7 + 5 * i) 0) := ⟨_, rfl⟩
  rw [← hc] at a2 a3 a4 hp
  obtain ⟨g1, g2, g3⟩ := rf_L1 (j := i) a3 4 1 S (by omega) (by omega) a2
  rw [f_X0_removeFirst_d]
  refine ⟨⟨by rw [g2]; exact sm_nI (by omega) (by decide), fun k hk => ?_⟩, ⟨c - 1, by omega, by rw [a2, Nat.sub_add_cancel hp], g2⟩, g1⟩
  rw [g2, kN_nI (by omega)] at hk
  obtain ⟨x1, x2⟩ := (g3 k).1 (by omega) (by omega)
  rw [x1, x2]
  exact a4 (k + 1) (by omega) (by omega)
-- who hears somebody
theorem heard_L {t i : Nat} {S X : Mem} (ht : t < 100000) (h0 : X 0 1 = nI (t + 1)) (h3 : X 3 = S 3) (h9 : ∀ k, k < 6 → X (6 + 5 * k) 9 = S (6 + 5 * k) 9) : ∀ n k, k + n = 6 → (f_X5_heardInSlotBefore_L1 X i n k = 0 ↔ ∀ m, k ≤ m → m < 6 → S 3 (i * 6 + m) ≤ 0 ∨ ¬ S (6 + 5 * m) 9 = nI t)
  | 0, k, hk => by
    rw [f_X5_heardInSlotBefore_L1_z]
    exact ⟨fun _ m h1 h2 => by omega, fun _ => nI0⟩
  | n + 1, k, hk => by
    have ih := heard_L (i := i) ht h0 h3 h9 n (k + 1) (by omega)
    have more : ∀ P : Nat → Prop, P k → ((∀ m, k + 1 ≤ m → m < 6 → P m) ↔ ∀ m, k ≤ m → m < 6 → P m) := fun P hP => ⟨fun h m h1 h2 => by
      rcases Nat.lt_or_ge k m with q | q
      · exact h m q h2
      · have : m = k := by omega
        subst this; exact hP, fun h m h1 h2 => h m (by omega) h2⟩
    rw [f_X5_heardInSlotBefore_L1_s, f_X3_between_d, h3, h9 k (by omega), h0, pk_sub (by omega), Nat.add_sub_cancel]
    by_cases h1 : S 3 (i * 6 + k) ≤ 0
    · rw [if_pos h1]
      exact ih.trans (more _ (Or.inl h1))
    · rw [if_neg h1]
      by_cases h2 : S (6 + 5 * k) 9 = nI t
      · rw [if_pos h2]
        exact ⟨fun h => absurd h nI1_ne, fun h => by
          rcases h k (Nat.le_refl _) (by omega) with q | q
          · exact absurd q h1
          · exact absurd h2 q⟩
      · rw [if_neg h2]
        exact ih.trans (more _ (Or.inr h2))
theorem heard_eq {t i : Nat} {S X : Mem} (ht : t < 100000) (hi : i < 6) (hd : S 3 (i * 6 + i) = 0) (h0 : X 0 1 = nI (t + 1)) (h3 : X 3 = S 3) (h9 : ∀ k, k < 6 → X (6 + 5 * k) 9 = S (6 + 5 * k) 9) : f_X5_heardInSlotBefore X i = 0 ↔ ¬ ∃ k, k < 6 ∧ k ≠ i ∧ ¬ S 3 (i * 6 + k) ≤ 0 ∧ S (6 + 5 * k) 9 = nI t := by
  rw [f_X5_heardInSlotBefore_d, heard_L ht h0 h3 h9 6 0 rfl]
  refine ⟨fun h => ?_, fun h m _ hm => ?_⟩
  · rintro ⟨k, k1, k2, k3, k4⟩
    rcases h k (Nat.zero_le _) k1 with q | q
    · exact k3 q
    · exact q k4
  · by_cases e : m = i
    · subst e; rw [hd]; exact Or.inl (by decide)
    · by_cases h1 : S 3 (i * 6 + m) ≤ 0
      · exact Or.inl h1
      · exact Or.inr (fun h2 => h ⟨m, hm, e, h1, h2⟩)
end
section
-- step (2) of a slot
def busyH (t : Nat) (S : Mem) (i : Nat) : Prop := ∃ k, k < 6 ∧ k ≠ i ∧ ¬ S 3 (i * 6 + k) ≤ 0 ∧ S (6 + 5 * k) 9 = nI t
theorem wob2_step {t i w : Nat} {S X : Mem} (ht : t + 1 < 100000) (h0 : X 0 1 = nI (t + 1)) (hr : sm (X 0 0) 6) (h4 : X (6 + 5 * i) 4 = S (6 + 5 * i) 4) (hhe : f_X5_heardInSlotBefore X i = 0 ↔ ¬ busyH t S i) (hw : X (6 + 5 * i) 2 = nI w) (hw32 : w < 32) (hR : kRw X i) (hc0 : 0 < kN (X (7 + 5 * i) 0)) (hoff : X (8 + 5 * i) 0 = nI 0) :
    (∀ b, b ≠ 6 + 5 * i → b ≠ 8 + 5 * i → wob2 X i b = X b) ∧ (∀ a, a ≠ 2 → wob2 X i (6 + 5 * i) a = X (6 + 5 * i) a) ∧
    ((wob2 X i (8 + 5 * i) 0 = nI 0 ∧ kWt (wob2 X i) i ∧ ((bz t S i ∧ wob2 X i (6 + 5 * i) 2 = nI w) ∨ (¬ bz t S i ∧ ∃ w', w = w' + 1 ∧ wob2 X i (6 + 5 * i) 2 = nI w'))) ∨
     (¬ bz t S i ∧ w = 0 ∧ wob2 X i (8 + 5 * i) 0 = nI 1 ∧ wob2 X i (6 + 5 * i) 2 = -1 ∧ ∃ q p, kTm (t + 1) q p (wob2 X i) i)) := by
  have hsm : sm (nI w) 32 := sm_nI hw32 (by decide)
  have self : ∀ Z : Mem, Z = X → bz t S i → (∀ b, b ≠ 6 + 5 * i → b ≠ 8 + 5 * i → Z b = X b) ∧ (∀ a, a ≠ 2 → Z (6 + 5 * i) a = X (6 + 5 * i) a) ∧
    ((Z (8 + 5 * i) 0 = nI 0 ∧ kWt Z i ∧ ((bz t S i ∧ Z (6 + 5 * i) 2 = nI w) ∨ (¬ bz t S i ∧ ∃ w', w = w' + 1 ∧ Z (6 + 5 * i) 2 = nI w'))) ∨
     (¬ bz t S i ∧ w = 0 ∧ Z (8 + 5 * i) 0 = nI 1 ∧ Z (6 + 5 * i) 2 = -1 ∧ ∃ q p, kTm (t + 1) q p Z i)) := by
    rintro Z rfl hb
    exact ⟨fun _ _ _ => rfl, fun _ _ => rfl, Or.inl ⟨hoff, Or.inr ⟨by rw [hw]; exact hsm, hc0, hoff⟩, Or.inl ⟨hb, hw⟩⟩⟩
  by_cases h1 : nI (t + 1) ≤ S (6 + 5 * i) 4
  · exact self _ (by unfold wob2; rw [h0, h4, if_pos h1]) (Or.inl h1)
  · by_cases h2 : f_X5_heardInSlotBefore X i = 0
    · have hb : ¬ bz t S i := fun h => h.elim h1 (hhe.mp h2)
      by_cases h3 : X (6 + 5 * i) 2 ≤ 0
      · have w0 : w = 0 := by
          rcases Nat.eq_zero_or_pos w with q | q
          · exact q
          · exact absurd (by rw [← hw]; exact h3) (nI_nle q (by omega))
        obtain ⟨c1, c2⟩ := hR.1
        obtain ⟨r1, r2⟩ := hr
        obtain ⟨-, ⟨p1, p2⟩, p3⟩ := hR.2 0 hc0
        obtain ⟨c, hc⟩ : ∃ z, z = kN (X (7 + 5 * i) 0) := ⟨_, rfl⟩
        obtain ⟨r, hr⟩ : ∃ z, z = kN (X 0 0) := ⟨_, rfl⟩
        obtain ⟨p, hp⟩ : ∃ z, z = kN (X (10 + 5 * i) 0) := ⟨_, rfl⟩
        rw [← hc] at c1 c2 hc0
        rw [← hr] at r1 r2
        rw [← hp] at p1 p2
        have p0 : 0 < p := by
          rcases Nat.eq_zero_or_pos p with q | q
          · subst q; exact absurd (p1.trans nI0) p3
          · exact q
        obtain ⟨q, hq, b0, b1, b2, b3, b4, b5, b6, b7, b8, b9⟩ := begin_spec X (i := i) (t := t + 1) (p := p) (r := r) (c := c) (by omega) c1 hc0 c2 p1 p2 r2
        have e : wob2 X i = f_X2_begin X i (nI (t + 1)) (nI r) := by unfold wob2; rw [h0, h4, if_neg h1, if_pos h2, if_pos h3, r1]
        rw [e]
        refine ⟨b9, b8, Or.inr ⟨hb, w0, b0, b7, q, p, ?_, ?_, p0, p2, b1, b3, b5, ?_, b2⟩⟩
        · rw [b9 _ (by omega) (by omega), ← hc]; exact hc0
        · rw [hq]; split <;> decide
        · rw [b9 _ (by omega) (by omega)]; exact p1
      · have w0 : 0 < w := by
          rcases Nat.eq_zero_or_pos w with q | q
          · subst q; exact absurd (by rw [hw]; decide) h3
          · exact q
        have e : wob2 X i = ub X (6 + 5 * i) 2 (nI (w - 1)) := by unfold wob2; rw [h0, h4, if_neg h1, if_pos h2, if_neg h3, hw, pk_sub w0]
        have e2 : wob2 X i (6 + 5 * i) 2 = nI (w - 1) := by rw [e, ub_blk, pk_us]
        have e8 : wob2 X i (8 + 5 * i) 0 = nI 0 := by rw [e, ub_ne _ _ _ (by omega)]; exact hoff
        refine ⟨fun b k1 _ => by rw [e, ub_ne _ _ _ k1], fun a ha => by rw [e, ub_blk, pk_un ha], Or.inl ⟨e8, Or.inr ⟨by rw [e2]; exact sm_nI (by omega) (by decide), by rw [e, ub_ne _ _ _ (by omega)]; exact hc0, e8⟩, Or.inr ⟨hb, w - 1, by omega, e2⟩⟩⟩
    · exact self _ (by unfold wob2; rw [h0, h4, if_neg h1, if_neg h2]) (Or.inr (Decidable.not_not.mp (fun h => h2 (hhe.mpr h))))
theorem L1_step {t i : Nat} {S X : Mem} (ht : t + 1 < 100000) (hi : i < 6) (hGl : kGl t S) (hd : S 3 (i * 6 + i) = 0) (hG : kG (t + 1) S X) (hIA : IA t S i) (hT : sameT S X i) (h9 : ∀ k, k < 6 → X (6 + 5 * k) 9 = S (6 + 5 * k) 9) :
    kG (t + 1) S (f_X5_waitOrBegin X i) ∧ RB t S (f_X5_waitOrBegin X i) i ∧ ∀ b, b ≠ 4 → b ≠ 6 + 5 * i → b ≠ 8 + 5 * i → f_X5_waitOrBegin X i b = X b := by
  obtain ⟨e6, e7, e8, e9, e10⟩ := hT
  obtain ⟨g1, g2, g3, g4⟩ := id hG
  obtain ⟨hC, hR, hWt, hLs, d, e, a, hAr, hat, hcase⟩ := hIA
  rw [wob_eq]
  rcases hcase with ⟨hoff, hae⟩ | ⟨hon, f, q, p, hTm, hf, ha⟩
  · rw [e8, hoff, if_pos nI0]
    by_cases hc : S (7 + 5 * i) 0 = 0
    · rw [e7, if_pos hc]
      have hc1 : kN (S (7 + 5 * i) 0) = 0 := by rw [hc]; decide
      have hw1 : S (6 + 5 * i) 2 = -1 := by
        rcases hWt with h | ⟨-, h, -⟩
        · exact h
        · rw [hc1] at h; exact absurd h (Nat.lt_irrefl 0)
      refine ⟨hG, ⟨⟨e7, e9, e10⟩, fun a _ => by rw [e6], Or.inl ⟨hoff, by rw [e8]; exact hoff, Or.inl (by rw [e6]; exact hw1), Or.inl hw1⟩⟩, fun _ _ _ _ => rfl⟩
    · rw [e7, if_neg hc, e6]
      have hcp : 0 < kN (S (7 + 5 * i) 0) := by
        rcases Nat.eq_zero_or_pos (kN (S (7 + 5 * i) 0)) with q | q
        · exact absurd (hR.1.1.trans (by rw [q]; exact nI0)) hc
        · exact q
      have fin : ∀ (X1 : Mem) (w : Nat), (∀ b, b ≠ 4 → b ≠ 6 + 5 * i → X1 b = X b) → (∀ a, a ≠ 2 → X1 (6 + 5 * i) a = X (6 + 5 * i) a) → X1 (6 + 5 * i) 2 = nI w → w < 32 → kQu X1 → (S (6 + 5 * i) 2 = -1 ∨ S (6 + 5 * i) 2 = nI w) → kG (t + 1) S (wob2 X1 i) ∧ RB t S (wob2 X1 i) i ∧ ∀ b, b ≠ 4 → b ≠ 6 + 5 * i → b ≠ 8 + 5 * i → wob2 X1 i b = X b := by
        intro X1 w f1 f2 f3 f4 f5 f6
        have x7 : X1 (7 + 5 * i) = S (7 + 5 * i) := (f1 _ (by omega) (by omega)).trans e7
        have x8 : X1 (8 + 5 * i) = S (8 + 5 * i) := (f1 _ (by omega) (by omega)).trans e8
        have x9 : X1 (9 + 5 * i) = S (9 + 5 * i) := (f1 _ (by omega) (by omega)).trans e9
        have x10 : X1 (10 + 5 * i) = S (10 + 5 * i) := (f1 _ (by omega) (by omega)).trans e10
        have xh : ∀ k, k < 6 → X1 (6 + 5 * k) 9 = S (6 + 5 * k) 9 := fun k hk => by
          by_cases ek : k = i
          · subst ek; rw [f2 9 (by decide)]; exact h9 k hk
          · rw [f1 _ (by omega) (by omega)]; exact h9 k hk
        have hR1 : kRw X1 i := by unfold kRw; rw [x7, x9, x10]; exact hR
        have hx0 : X1 0 1 = nI (t + 1) := by rw [f1 0 (by decide) (by omega)]; exact g2
        have hx3 : X1 3 = S 3 := (f1 3 (by decide) (by omega)).trans g3
        obtain ⟨z1, z2, z3⟩ := wob2_step (t := t) (i := i) (w := w) (S := S) (X := X1) ht hx0 (by rw [f1 0 (by decide) (by omega), g1]; exact hGl.1.1) (by rw [f2 4 (by decide), e6]) (heard_eq (by omega) hi hd hx0 hx3 xh) f3 f4 hR1 (by rw [x7]; exact hcp) (by rw [x8]; exact hoff)
        refine ⟨⟨?_, ?_, ?_, ?_⟩, ⟨⟨?_, ?_, ?_⟩, fun a ha => ?_, ?_⟩, fun b h1 h2 h3 => ?_⟩
        · rw [z1 0 (by omega) (by omega), f1 0 (by decide) (by omega)]; exact g1
        · rw [z1 0 (by omega) (by omega)]; exact hx0
        · rw [z1 3 (by omega) (by omega)]; exact hx3
        · unfold kQu; rw [z1 4 (by omega) (by omega), z1 5 (by omega) (by omega)]; exact f5
        · rw [z1 _ (by omega) (by omega)]; exact x7
        · rw [z1 _ (by omega) (by omega)]; exact x9
        · rw [z1 _ (by omega) (by omega)]; exact x10
        · rw [z2 a ha, f2 a ha, e6]
        · rcases z3 with ⟨o1, o2, o3⟩ | ⟨hnb, w0, o1, o2, q, p, o3⟩
          · refine Or.inl ⟨hoff, o1, o2, ?_⟩
            rcases f6 with h | h
            · exact Or.inl h
            · rcases o3 with ⟨h1, h2⟩ | ⟨h1, w', h2, h3⟩
              · exact Or.inr (Or.inl ⟨h1, h2.trans h.symm⟩)
              · exact Or.inr (Or.inr ⟨h1, w', by rw [h, h2], by omega, h3⟩)
          · subst w0
            refine Or.inr ⟨Or.inr ⟨hoff, hnb, f6⟩, o1, o2, d, e, t + 1, q, p, ?_, by omega, o3, Nat.le_refl _⟩
            unfold kAr at hAr ⊢
            rw [z2 5 (by decide), z2 8 (by decide), z2 7 (by decide), f2 5 (by decide), f2 8 (by decide), f2 7 (by decide), e6, Nat.sub_self, Nat.add_zero]
            rw [hae] at hAr
            exact hAr
        · rw [z1 b h2 h3, f1 b h1 h2]
      by_cases hw : S (6 + 5 * i) 2 = -1
      · rw [if_pos hw]
        obtain ⟨n1, n2, n3⟩ := kQu_next g4
        have hv : sm (f_X5_restBy (f_X4_next X).1 ((f_X4_next X).2 (6 + 5 * i) 1 + nI 1)) 32 := by
          rw [n3 _ (by omega), e6]
          exact rest_sm hC.1 n2
        obtain ⟨v, ev⟩ : ∃ v, v = f_X5_restBy (f_X4_next X).1 ((f_X4_next X).2 (6 + 5 * i) 1 + nI 1) := ⟨_, rfl⟩
        rw [← ev] at hv ⊢
        refine fin _ (kN v) (fun b h1 h2 => by rw [ub_ne _ _ _ h2, n3 b h1]) (fun a ha => by rw [ub_blk, pk_un ha, n3 _ (by omega)]) (by rw [ub_blk, pk_us]; exact hv.1) hv.2 ?_ (Or.inl hw)
        unfold kQu at n1 ⊢
        rw [ub_ne _ _ _ (by omega), ub_ne _ _ _ (by omega)]
        exact n1
      · rw [if_neg hw]
        rcases hWt with h | ⟨h, -, -⟩
        · exact absurd h hw
        · exact fin X (kN (S (6 + 5 * i) 2)) (fun _ _ _ => rfl) (fun _ _ => rfl) (by rw [e6]; exact h.1) h.2 g4 (Or.inr h.1)
  · rw [e8, hon, if_neg nI1_ne]
    refine ⟨hG, ⟨⟨e7, e9, e10⟩, fun a _ => by rw [e6], Or.inr ⟨Or.inl hon, by rw [e8]; exact hon, ?_, d, e, f, q, p, ?_, by omega, ?_, by omega⟩⟩, fun _ _ _ _ => rfl⟩
    · rw [e6]
      rcases hWt with h | ⟨-, -, h⟩
      · exact h
      · exact absurd (hon.symm.trans h) nI1_0
    · unfold kAr at hAr ⊢
      rw [e6, show e + (t + 1 - f) = a by omega]
      exact hAr
    · unfold kTm at hTm ⊢
      rw [e7, e8, e10]
      exact hTm
theorem sameT_trans {S X Y : Mem} {j : Nat} (h : sameT S X j) (h2 : sameT X Y j) : sameT S Y j := ⟨h2.1.trans h.1, h2.2.1.trans h.2.1, h2.2.2.1.trans h.2.2.1, h2.2.2.2.1.trans h.2.2.2.1, h2.2.2.2.2.trans h.2.2.2.2⟩
theorem RB_fr {t : Nat} {S X Y : Mem} {j : Nat} (h : sameT X Y j) (hB : RB t S X j) : RB t S Y j := by
  obtain ⟨e6, e7, e8, e9, e10⟩ := h
  unfold RB sameR kWt wq kAr kTm at hB ⊢
  rw [e6, e7, e8, e9, e10]
  exact hB
/-- what holds at a call's end, of the class alone -/
def I0 (t : Nat) (S : Mem) : Prop := kGl t S ∧ (∀ a, a < 6 → S 3 (a * 6 + a) = 0) ∧ kQu S ∧ ∀ j, j < 6 → IA t S j
theorem ph1 {t : Nat} {S : Mem} (h : I0 t S) (ht : t + 1 < 100000) : ∀ i, i ≤ 6 → kG (t + 1) S (ct1 S i) ∧ ∀ j, j < 6 → (j < i → RB t S (ct1 S i) j) ∧ (i ≤ j → sameT S (ct1 S i) j)
  | 0, _ => by
    rw [ct1_0]
    obtain ⟨⟨g1, g2, g3⟩, h2, h3, h4⟩ := h
    refine ⟨⟨?_, ?_, ?_, ?_⟩, fun j hj => ⟨fun hh => absurd hh (by omega), fun _ => ⟨?_, ?_, ?_, ?_, ?_⟩⟩⟩
    · rw [ub_blk, pk_un (by decide)]
    · rw [ub_blk, pk_us, g2, nI_add]
    · rw [ub_ne _ _ _ (by decide)]
    · unfold kQu; rw [ub_ne _ _ _ (by decide), ub_ne _ _ _ (by decide)]; exact h3
    · rw [ub_ne _ _ _ (by omega)]
    · rw [ub_ne _ _ _ (by omega)]
    · rw [ub_ne _ _ _ (by omega)]
    · rw [ub_ne _ _ _ (by omega)]
    · rw [ub_ne _ _ _ (by omega)]
  | i + 1, hi => by
    obtain ⟨h1, h4⟩ := ph1 h ht i (by omega)
    have h9 : ∀ k, k < 6 → ct1 S i (6 + 5 * k) 9 = S (6 + 5 * k) 9 := fun k hk => by
      rcases Nat.lt_or_ge k i with q | q
      · exact ((h4 k hk).1 q).2.1 9 (by decide)
      · rw [((h4 k hk).2 q).1]
    obtain ⟨z1, z2, z3⟩ := L1_step ht (show i < 6 by omega) h.1 (h.2.1 i (by omega)) h1 (h.2.2.2 i (by omega)) ((h4 i (by omega)).2 (Nat.le_refl _)) h9
    rw [ct1_s, f_X5_passOneSlot_L1_b_d]
    refine ⟨z1, fun j hj => ?_⟩
    have fr : j ≠ i → sameT (ct1 S i) (f_X5_waitOrBegin (ct1 S i) i) j := fun hji => ⟨z3 _ (by omega) (by omega) (by omega), z3 _ (by omega) (by omega) (by omega), z3 _ (by omega) (by omega) (by omega), z3 _ (by omega) (by omega) (by omega), z3 _ (by omega) (by omega) (by omega)⟩
    refine ⟨fun k1 => ?_, fun k1 => sameT_trans ((h4 j hj).2 (by omega)) (fr (by omega))⟩
    by_cases e : j = i
    · subst e; exact z2
    · exact RB_fr (fr e) ((h4 j hj).1 (by omega))
end
section
-- step (3) of a slot
theorem L2_step {t i : Nat} {S X : Mem} (hG : kG (t + 1) S X) (hIA : IA t S i) (hB : RB t S X i) :
    kG (t + 1) S (f_X5_sendInSlot X i) ∧ RC t S (f_X5_sendInSlot X i) i ∧ ∀ b, b ≠ 6 + 5 * i → b ≠ 8 + 5 * i → f_X5_sendInSlot X i b = X b := by
  obtain ⟨g1, g2, g3, g4⟩ := id hG
  obtain ⟨⟨e7, e9, e10⟩, e6, hcase⟩ := hB
  have h4 : sm (X (6 + 5 * i) 4) (t + 10) := by rw [e6 4 (by decide)]; exact hIA.1.2.2.le (by omega)
  rw [f_X5_sendInSlot_d]
  rcases hcase with ⟨hoff, x0, x1, x2⟩ | ⟨hs, x0, x1, d, e, f, q, p, hAr, het, hTm, hf⟩
  · rw [x0, if_pos nI0]
    exact ⟨hG, ⟨⟨e7, e9, e10⟩, fun a h1 _ _ _ => e6 a h1, h4, Or.inl ⟨hoff, x0, x1, x2, e6 7 (by decide), e6 9 (by decide)⟩⟩, fun _ _ _ => rfl⟩
  · rw [x0, if_neg nI1_ne, ub_ne X _ _ (show 0 ≠ 6 + 5 * i by omega), g2]
    obtain ⟨X2, hX2⟩ : ∃ z, z = ub (ub X (6 + 5 * i) 7 (X (6 + 5 * i) 7 + nI 1)) (6 + 5 * i) 9 (nI (t + 1)) := ⟨_, rfl⟩
    rw [← hX2]
    have s2b : ∀ b, b ≠ 6 + 5 * i → X2 b = X b := fun b h => by rw [hX2, ub_ne _ _ _ h, ub_ne _ _ _ h]
    have s2a : ∀ a, a ≠ 7 → a ≠ 9 → X2 (6 + 5 * i) a = X (6 + 5 * i) a := fun a h h2 => by rw [hX2, ub_blk, pk_un h2, ub_blk, pk_un h]
    have s27 : X2 (6 + 5 * i) 7 = X (6 + 5 * i) 7 + nI 1 := by rw [hX2, ub_blk, pk_un (by decide), ub_blk, pk_us]
    have s29 : X2 (6 + 5 * i) 9 = nI (t + 1) := by rw [hX2, ub_blk, pk_us]
    have fin : ∀ Z : Mem, (∀ b, b ≠ 8 + 5 * i → Z b = X2 b) → (∀ a, a ≠ 4 → a ≠ 6 → Z (8 + 5 * i) a = X2 (8 + 5 * i) a) → kG (t + 1) S Z ∧ RC t S Z i ∧ ∀ b, b ≠ 6 + 5 * i → b ≠ 8 + 5 * i → Z b = X b := by
      intro Z f1 f2
      have y1 : ∀ b, b ≠ 6 + 5 * i → b ≠ 8 + 5 * i → Z b = X b := fun b h h2 => by rw [f1 b h2, s2b b h]
      have y6 : Z (6 + 5 * i) = X2 (6 + 5 * i) := f1 _ (by omega)
      have y8 : ∀ a, a ≠ 4 → a ≠ 6 → Z (8 + 5 * i) a = X (8 + 5 * i) a := fun a h h2 => by rw [f2 a h h2, s2b _ (by omega)]
      obtain ⟨r1, r2, r3, r4⟩ := hAr
      refine ⟨⟨?_, ?_, ?_, ?_⟩, ⟨⟨?_, ?_, ?_⟩, fun a h1 _ h3 h4 => ?_, ?_, Or.inr ⟨hs, ?_, ?_, ?_, d, e, f, q, p, ⟨?_, ?_, ?_, r4⟩, ?_, het, ?_, hf⟩⟩, y1⟩
      · rw [y1 0 (by omega) (by omega)]; exact g1
      · rw [y1 0 (by omega) (by omega)]; exact g2
      · rw [y1 3 (by omega) (by omega)]; exact g3
      · unfold kQu; rw [y1 4 (by omega) (by omega), y1 5 (by omega) (by omega)]; exact g4
      · rw [y1 _ (by omega) (by omega)]; exact e7
      · rw [y1 _ (by omega) (by omega)]; exact e9
      · rw [y1 _ (by omega) (by omega)]; exact e10
      · rw [y6, s2a a h3 h4]; exact e6 a h1
      · rw [y6, s2a 4 (by decide) (by decide)]; exact h4
      · rw [y8 0 (by decide) (by decide)]; exact x0
      · rw [y6, s2a 2 (by decide) (by decide)]; exact x1
      · rw [y6]; exact s29
      · rw [y6, s2a 5 (by decide) (by decide)]; exact r1
      · rw [y6, s2a 8 (by decide) (by decide)]; exact r2
      · rw [y6, s27, r3, nI_add]
      · rw [← e6 7 (by decide)]; exact r3
      · unfold kTm at hTm ⊢
        rw [y1 (7 + 5 * i) (by omega) (by omega), y1 (10 + 5 * i) (by omega) (by omega), y8 1 (by decide) (by decide), y8 2 (by decide) (by decide), y8 3 (by decide) (by decide), y8 5 (by decide) (by decide)]
        exact hTm
    by_cases hb : f_X5_isBrokenAt X2 (gof X i) i = 0
    · rw [if_pos hb]
      exact fin X2 (fun _ _ => rfl) (fun _ _ _ => rfl)
    · rw [if_neg hb, f_X1_breakIn_d]
      by_cases hq : f_X1_isRequest X2 i (X2 0 1) = 0
      · rw [if_pos hq]
        exact fin _ (fun b h => ub_ne _ _ _ h) (fun a _ h => by rw [ub_blk, pk_un h])
      · rw [if_neg hq]
        exact fin _ (fun b h => ub_ne _ _ _ h) (fun a h _ => by rw [ub_blk, pk_un h])
theorem RC_fr0 {t : Nat} {S X Y : Mem} {j : Nat} (h : sameT X Y j) (hC : RC t S X j) : RC t S Y j := by
  obtain ⟨e6, e7, e8, e9, e10⟩ := h
  unfold RC sameR kWt wq kAr kTm at hC ⊢
  rw [e6, e7, e8, e9, e10]
  exact hC
theorem row_gOK {S : Mem} {i : Nat} (h : kRw S i) (hp : 0 < kN (S (7 + 5 * i) 0)) : gOK S i := by
  obtain ⟨k2, -⟩ := h.2 0 hp
  have e := goal_eq h.1.1 hp h.1.2
  unfold gOK gof
  rw [e]
  exact k2
theorem ph2 {t : Nat} {S : Mem} (h : I0 t S) (ht : t + 1 < 100000) : ∀ i, i ≤ 6 → kG (t + 1) S (ct2 S i) ∧ ∀ j, j < 6 → (j < i → RC t S (ct2 S i) j) ∧ (i ≤ j → RB t S (ct2 S i) j)
  | 0, _ => by
    rw [ct2_0]
    obtain ⟨h1, h4⟩ := ph1 h ht 6 (Nat.le_refl _)
    exact ⟨h1, fun j hj => ⟨fun hh => absurd hh (by omega), fun _ => (h4 j hj).1 hj⟩⟩
  | i + 1, hi => by
    obtain ⟨h1, h4⟩ := ph2 h ht i (by omega)
    obtain ⟨z1, z2, z3⟩ := L2_step h1 (h.2.2.2 i (by omega)) ((h4 i (by omega)).2 (Nat.le_refl _))
    rw [ct2_s, f_X5_passOneSlot_L2_b_d]
    refine ⟨z1, fun j hj => ?_⟩
    have fr : j ≠ i → sameT (ct2 S i) (f_X5_sendInSlot (ct2 S i) i) j := fun hji => ⟨z3 _ (by omega) (by omega), z3 _ (by omega) (by omega), z3 _ (by omega) (by omega), z3 _ (by omega) (by omega), z3 _ (by omega) (by omega)⟩
    refine ⟨fun k1 => ?_, fun k1 => RB_fr (fr (by omega)) ((h4 j hj).2 (by omega))⟩
    by_cases e : j = i
    · subst e; exact z2
    · exact RC_fr0 (fr e) ((h4 j hj).1 (by omega))
theorem RB_gOK {t i : Nat} {S X : Mem} (hIA : IA t S i) (h : RB t S X i) (hn : ¬ X (8 + 5 * i) 0 = 0) : gOK X i := by
  obtain ⟨⟨e7, e9, e10⟩, -, hcase⟩ := h
  rcases hcase with ⟨-, x0, -⟩ | ⟨-, -, -, d, e, f, q, p, -, -, hTm, -⟩
  · exact absurd (x0.trans nI0) hn
  · exact row_gOK (by unfold kRw; rw [e7, e9, e10]; exact hIA.2.1) hTm.1
theorem RC_gOK {t i : Nat} {S X : Mem} (hIA : IA t S i) (h : RC t S X i) (hn : ¬ X (8 + 5 * i) 0 = 0) : gOK X i := by
  obtain ⟨⟨e7, e9, e10⟩, -, -, hcase⟩ := h
  rcases hcase with ⟨-, x0, -⟩ | ⟨-, -, -, -, d, e, f, q, p, -, -, -, hTm, -⟩
  · exact absurd (x0.trans nI0) hn
  · exact row_gOK (by unfold kRw; rw [e7, e9, e10]; exact hIA.2.1) hTm.1
-- step (4): a sending ends
def ES (i : Nat) (Y Z : Mem) : Prop := (∀ b, b ≠ 6 + 5 * i → b ≠ 7 + 5 * i → b ≠ 9 + 5 * i → b ≠ 10 + 5 * i → Z b = Y b) ∧ (∀ a, a ≠ 1 → a ≠ 3 → a ≠ 5 → a ≠ 6 → Z (6 + 5 * i) a = Y (6 + 5 * i) a) ∧ kRw Z i ∧ kW (Z (6 + 5 * i) 1) ∧ sm (Z (6 + 5 * i) 3) 5
theorem fail_step {i : Nat} {Y : Mem} (hR : kRw Y i) (hp : 0 < kN (Y (7 + 5 * i) 0)) (hW : kW (Y (6 + 5 * i) 1)) (h3 : sm (Y (6 + 5 * i) 3) 5) : ES i Y (f_X2_countFailure Y i) ∧ f_X2_countFailure Y i (6 + 5 * i) 5 = Y (6 + 5 * i) 5 ∧ (f_X2_countFailure Y i (7 + 5 * i) 0 = Y (7 + 5 * i) 0 ∨ (f_X2_countFailure Y i (6 + 5 * i) 6 = Y (6 + 5 * i) 6 + nI 1 ∧ ∃ c : Nat, c < 5 ∧ Y (7 + 5 * i) 0 = nI (c + 1) ∧ f_X2_countFailure Y i (7 + 5 * i) 0 = nI c)) := by
  obtain ⟨n, hn⟩ : ∃ z, z = kN (Y (6 + 5 * i) 3) := ⟨_, rfl⟩
  have n1 : Y (6 + 5 * i) 3 = nI n := by rw [hn]; exact h3.1
  have n2 : n < 5 := by rw [hn]; exact h3.2
  have e3 : ub Y (6 + 5 * i) 3 (Y (6 + 5 * i) 3 + nI 1) (6 + 5 * i) 3 = nI (n + 1) := by rw [ub_blk, pk_us, n1, nI_add]
  by_cases h5 : n = 4
  · obtain ⟨Z, hZ⟩ : ∃ Z, Z = ub (ub Y (6 + 5 * i) 3 (Y (6 + 5 * i) 3 + nI 1)) (6 + 5 * i) 6 ((ub Y (6 + 5 * i) 3 (Y (6 + 5 * i) 3 + nI 1)) (6 + 5 * i) 6 + nI 1) := ⟨_, rfl⟩
    have e : f_X2_countFailure Y i = f_X2_startAfresh (f_X0_removeFirst Z i) i := by
      rw [f_X2_countFailure_d, e3, if_pos (by rw [h5]; decide), ← hZ]
    have zb : ∀ b, b ≠ 6 + 5 * i → Z b = Y b := fun b h => by rw [hZ, ub_ne _ _ _ h, ub_ne _ _ _ h]
    have za : ∀ a, a ≠ 3 → a ≠ 6 → Z (6 + 5 * i) a = Y (6 + 5 * i) a := fun a h1 h2 => by rw [hZ, ub_blk, pk_un h2, ub_blk, pk_un h1]
    have z6 : Z (6 + 5 * i) 6 = Y (6 + 5 * i) 6 + nI 1 := by rw [hZ, ub_blk, pk_us, ub_blk, pk_un (by decide)]
    obtain ⟨q1, ⟨c, c1, c2, c3⟩, q2⟩ := kRw_rem (S := Z) (i := i) (by unfold kRw1; rw [zb _ (by omega), zb _ (by omega), zb _ (by omega)]; exact hR.w) (by rw [zb _ (by omega)]; exact hp)
    rw [zb _ (by omega)] at c2
    obtain ⟨R, hR⟩ : ∃ R, R = f_X0_removeFirst Z i := ⟨_, rfl⟩
    rw [← hR] at q1 q2 c3 e
    rw [e, f_X2_startAfresh_d]
    refine ⟨⟨fun b h1 h2 h3 h4 => ?_, fun a h1 h2 h3 h4 => ?_, ?_, ?_, ?_⟩, ?_, Or.inr ⟨?_, c, c1, c2, ?_⟩⟩
    · rw [ub_ne _ _ _ h1, ub_ne _ _ _ h1, q2 b h2 h3 h4, zb b h1]
    · rw [ub_blk, pk_un h2, ub_blk, pk_un h1, q2 _ (by omega) (by omega) (by omega), za a h2 h4]
    · unfold kRw; simp (disch := omega) only [ub_ne]; exact q1
    · rw [ub_blk, pk_un (by decide), ub_blk, pk_us]; exact lw_W _
    · rw [ub_blk, pk_us]; exact sm_nI (by decide) (by decide)
    · rw [ub_blk, pk_un (by decide), ub_blk, pk_un (by decide), q2 _ (by omega) (by omega) (by omega), za 5 (by decide) (by decide)]
    · rw [ub_blk, pk_un (by decide), ub_blk, pk_un (by decide), q2 _ (by omega) (by omega) (by omega), z6]
    · rw [ub_ne _ _ _ (by omega), ub_ne _ _ _ (by omega)]; exact c3
  · rw [f_X2_countFailure_d, e3, if_neg (by rw [nI_leI (by decide) (by omega)]; omega)]
    refine ⟨⟨fun b h1 h2 h3 h4 => ?_, fun a h1 h2 h3 h4 => ?_, ?_, ?_, ?_⟩, ?_, Or.inl ?_⟩
    · rw [ub_ne _ _ _ h1, ub_ne _ _ _ h1]
    · rw [ub_blk, pk_un h1, ub_blk, pk_un h2]
    · unfold kRw; simp (disch := omega) only [ub_ne]; exact hR
    · rw [ub_blk, pk_us, ub_blk, pk_un (by decide)]; exact win_tab2 hW
    · rw [ub_blk, pk_un (by decide), e3]; exact sm_nI (by omega) (by decide)
    · rw [ub_blk, pk_un (by decide), ub_blk, pk_un (by decide)]
    · rw [ub_ne _ _ _ (by omega), ub_ne _ _ _ (by omega)]
theorem succ_step {i p j : Nat} {Y : Mem} (hR : kRw Y i) (hp : 0 < kN (Y (7 + 5 * i) 0)) (hp8 : Y (10 + 5 * i) 0 = nI p) (hp16 : p < 16) (hj : j < 16) : ES i Y (f_X2_countSuccess Y i (nI (gd p j))) ∧ f_X2_countSuccess Y i (nI (gd p j)) (6 + 5 * i) 5 = Y (6 + 5 * i) 5 + nI (ppc (gd p j)) ∧ f_X2_countSuccess Y i (nI (gd p j)) (6 + 5 * i) 6 = Y (6 + 5 * i) 6 ∧ f_X2_countSuccess Y i (nI (gd p j)) (6 + 5 * i) 3 = nI 0 ∧ (f_X2_countSuccess Y i (nI (gd p j)) (7 + 5 * i) 0 = Y (7 + 5 * i) 0 ∨ (ppc (gd p j) = ppc p ∧ ∃ c : Nat, c < 5 ∧ Y (7 + 5 * i) 0 = nI (c + 1) ∧ f_X2_countSuccess Y i (nI (gd p j)) (7 + 5 * i) 0 = nI c)) := by
  obtain ⟨t1, t2, t3, t4, t5, t6⟩ := gd_tab p hp16 j hj
  have ec : ¬ Y (7 + 5 * i) 0 ≤ 0 := by rw [hR.1.1]; exact nI_nle hp (by have := hR.1.2; omega)
  obtain ⟨U, hU⟩ : ∃ U, U = f_X2_startAfresh (f_X0_takeFromFirst (ub Y (6 + 5 * i) 5 ((Y (6 + 5 * i) 5) + (f_J6_bitCount_0f7a4 (nI (gd p j))))) i (nI (gd p j))) i := ⟨_, rfl⟩
  have eU : U = ub (ub (ub (ub Y (6 + 5 * i) 5 (Y (6 + 5 * i) 5 + nI (ppc (gd p j)))) (10 + 5 * i) 0 (nI (lf p j))) (6 + 5 * i) 1 (f_X5_leastWindow (Y (6 + 5 * i) 0))) (6 + 5 * i) 3 (nI 0) := by
    rw [hU, f_X2_startAfresh_d, f_X0_takeFromFirst_d, bc_eq _ t2]
    simp (disch := omega) only [ub_ne, ub_blk, pk_us, pk_un, if_neg ec, hp8, t4]
  have e : f_X2_countSuccess Y i (nI (gd p j)) = if f_X0_partsOfFirst U i = 0 then f_X0_removeFirst U i else U := by rw [f_X2_countSuccess_d, ← hU]
  have ub1 : ∀ b, b ≠ 6 + 5 * i → b ≠ 10 + 5 * i → U b = Y b := fun b h1 h2 => by rw [eU, ub_ne _ _ _ h1, ub_ne _ _ _ h1, ub_ne _ _ _ h2, ub_ne _ _ _ h1]
  have ua : ∀ a, a ≠ 1 → a ≠ 3 → a ≠ 5 → U (6 + 5 * i) a = Y (6 + 5 * i) a := fun a h1 h2 h3 => by rw [eU, ub_blk, pk_un h2, ub_blk, pk_un h1, ub_ne _ _ _ (by omega), ub_blk, pk_un h3]
  have u5 : U (6 + 5 * i) 5 = Y (6 + 5 * i) 5 + nI (ppc (gd p j)) := by rw [eU, ub_blk, pk_un (by decide), ub_blk, pk_un (by decide), ub_ne _ _ _ (by omega), ub_blk, pk_us]
  have u1 : kW (U (6 + 5 * i) 1) := by rw [eU, ub_blk, pk_un (by decide), ub_blk, pk_us]; exact lw_W _
  have u3 : U (6 + 5 * i) 3 = nI 0 := by rw [eU, ub_blk, pk_us]
  have u10 : U (10 + 5 * i) 0 = nI (lf p j) := by rw [eU, ub_ne _ _ _ (by omega), ub_ne _ _ _ (by omega), ub_blk, pk_us]
  have u10' : ∀ k, k ≠ 0 → U (10 + 5 * i) k = Y (10 + 5 * i) k := fun k hk => by rw [eU, ub_ne _ _ _ (by omega), ub_ne _ _ _ (by omega), ub_blk, pk_un hk, ub_ne _ _ _ (by omega)]
  have u7 : U (7 + 5 * i) = Y (7 + 5 * i) := ub1 _ (by omega) (by omega)
  have u9 : U (9 + 5 * i) = Y (9 + 5 * i) := ub1 _ (by omega) (by omega)
  have ep : f_X0_partsOfFirst U i = nI (lf p j) := by rw [f_X0_partsOfFirst_d, u7, if_neg ec, u10]
  rw [ep] at e
  have hR1 : kRw1 U i := by
    unfold kRw1
    rw [u7, u9]
    exact ⟨hR.1, fun k k0 hk => by rw [u10' k (by omega)]; exact hR.2 k hk⟩
  by_cases hl : nI (lf p j) = 0
  · rw [if_pos hl] at e
    have hl0 : lf p j = 0 := nI_inj (by omega) (by decide) (hl.trans nI0.symm)
    obtain ⟨q1, ⟨c, c1, c2, c3⟩, q2⟩ := kRw_rem hR1 (by rw [u7]; exact hp)
    rw [u7] at c2
    rw [e]
    have k6 : f_X0_removeFirst U i (6 + 5 * i) = U (6 + 5 * i) := q2 _ (by omega) (by omega) (by omega)
    exact ⟨⟨fun b h1 h2 h3 h4 => by rw [q2 b h2 h3 h4, ub1 b h1 h4], fun a h1 h2 h3 h4 => by rw [k6, ua a h1 h2 h3], q1, by rw [k6]; exact u1, by rw [k6, u3]; exact sm_nI (by decide) (by decide)⟩, by rw [k6, u5], by rw [k6, ua 6 (by decide) (by decide) (by decide)], by rw [k6, u3], Or.inr ⟨t6 hl0, c, c1, c2, c3⟩⟩
  · rw [if_neg hl] at e
    rw [e]
    refine ⟨⟨fun b h1 h2 h3 h4 => ub1 b h1 h4, fun a h1 h2 h3 h4 => ua a h1 h2 h3, ⟨by rw [u7]; exact hR.1, fun k hk => ?_⟩, u1, by rw [u3]; exact sm_nI (by decide) (by decide)⟩, u5, ua 6 (by decide) (by decide) (by decide), u3, Or.inl (by rw [u7])⟩
    rw [u7] at hk
    rw [u9]
    by_cases k0 : k = 0
    · subst k0
      rw [u10]
      exact ⟨(hR.2 0 hk).1, sm_nI t5 (by decide), hl⟩
    · rw [u10' k k0]
      exact hR.2 k hk
end
section
-- step (4): who is silenced, who ends
theorem sil_L {g i N : Nat} {x : Int32} (hx : sm x N) : ∀ (n k : Nat) (S : Mem), k + n = 6 → (∀ j, j < 6 → sm (S (6 + 5 * j) 4) N → sm (f_X5_silenceAround_L1 g i x n k S (6 + 5 * j) 4) N) ∧ ∀ b a, (a ≠ 4 ∨ ∀ j, j < 6 → b ≠ 6 + 5 * j) → f_X5_silenceAround_L1 g i x n k S b a = S b a
  | 0, k, S, _ => by
    rw [f_X5_silenceAround_L1_z]
    exact ⟨fun _ _ h => h, fun _ _ _ => rfl⟩
  | n + 1, k, S, hk => by
    have ih := sil_L (g := g) (i := i) hx n (k + 1) S (by omega)
    rw [f_X5_silenceAround_L1_s]
    by_cases h1 : nI k = nI i
    · rw [if_pos h1]; exact ih
    · rw [if_neg h1]
      by_cases h3 : f_X3_between S g k ≤ 0
      · rw [if_pos h3]; exact ih
      · rw [if_neg h3]
        obtain ⟨v, hv⟩ : ∃ v, v = (if S (6 + 5 * k) 4 < x then x else S (6 + 5 * k) 4) := ⟨_, rfl⟩
        rw [← hv]
        obtain ⟨g1, g2⟩ := sil_L (g := g) (i := i) hx n (k + 1) (ub S (6 + 5 * k) 4 v) (by omega)
        refine ⟨fun j hj h => g1 j hj ?_, fun b a h => ?_⟩
        · by_cases e : j = k
          · subst e
            rw [ub_blk, pk_us, hv]
            split
            · exact hx
            · exact h
          · rw [ub_ne _ _ _ (by omega)]; exact h
        · rw [g2 b a h]
          by_cases e : b = 6 + 5 * k
          · subst e
            rw [ub_blk]
            rcases h with h | h
            · rw [pk_un h]
            · exact absurd rfl (h k (by omega))
          · rw [ub_ne _ _ _ e]
def sameS (S S' : Mem) (j : Nat) : Prop := (∀ a, a ≠ 4 → S' (6 + 5 * j) a = S (6 + 5 * j) a) ∧ S' (7 + 5 * j) = S (7 + 5 * j) ∧ S' (8 + 5 * j) = S (8 + 5 * j) ∧ S' (9 + 5 * j) = S (9 + 5 * j) ∧ S' (10 + 5 * j) = S (10 + 5 * j)
theorem sameS_rf (S : Mem) (j : Nat) : sameS S S j := ⟨fun _ _ => rfl, rfl, rfl, rfl, rfl⟩
theorem RC_fr {t : Nat} {S X Y : Mem} {j : Nat} (h : sameS X Y j) (h4 : sm (X (6 + 5 * j) 4) (t + 10) → sm (Y (6 + 5 * j) 4) (t + 10)) (hC : RC t S X j) : RC t S Y j := by
  obtain ⟨e6, e7, e8, e9, e10⟩ := h
  obtain ⟨c1, c2, c3, c4⟩ := hC
  refine ⟨?_, fun a a1 a2 a3 a4 => ?_, h4 c3, ?_⟩
  · unfold sameR at c1 ⊢; rw [e7, e9, e10]; exact c1
  · rw [e6 a a2]; exact c2 a a1 a2 a3 a4
  · unfold kWt wq kAr kTm at c4 ⊢
    rw [e6 2 (by decide), e6 5 (by decide), e6 7 (by decide), e6 8 (by decide), e6 9 (by decide), e7, e8, e10]
    exact c4
theorem IA_fr {t : Nat} {X Y : Mem} {j : Nat} (h : sameS X Y j) (h4 : sm (X (6 + 5 * j) 4) (t + 9) → sm (Y (6 + 5 * j) 4) (t + 9)) (hI : IA t X j) : IA t Y j := by
  obtain ⟨e6, e7, e8, e9, e10⟩ := h
  obtain ⟨⟨c1, c2, c3⟩, c4⟩ := hI
  refine ⟨⟨by rw [e6 1 (by decide)]; exact c1, by rw [e6 3 (by decide)]; exact c2, h4 c3⟩, ?_⟩
  unfold kRw kWt kLs kAr kTm at c4 ⊢
  rw [e6 2 (by decide), e6 5 (by decide), e6 7 (by decide), e6 8 (by decide), e6 9 (by decide), e7, e8, e9, e10]
  exact c4
theorem RD_fr {t : Nat} {S X Y : Mem} {j : Nat} (h : sameS X Y j) (h4 : sm (X (6 + 5 * j) 4) (t + 10) → sm (Y (6 + 5 * j) 4) (t + 10)) (hD : RD t S X j) : RD t S Y j := by
  obtain ⟨d1, d2⟩ := hD
  refine ⟨IA_fr h h4 d1, ?_⟩
  obtain ⟨e6, e7, e8, e9, e10⟩ := h
  unfold oQ oS oE wq at d2 ⊢
  rw [e6 2 (by decide), e6 3 (by decide), e6 5 (by decide), e6 6 (by decide), e6 7 (by decide), e6 9 (by decide), e7, e8]
  exact d2
def eN (t : Nat) (X : Mem) (i : Nat) : Nat := if X (6 + 5 * i) 9 = nI (t + 1) ∧ X (8 + 5 * i) 0 = nI 0 then 1 else 0
set_option maxHeartbeats 1000000 in
theorem L3_step {t i : Nat} {S X : Mem} (ht : t + 1 < 100000) (hi : i < 6) (hG : kG (t + 1) S X) (hIA : IA t S i) (hC : RC t S X i) :
    ∃ Z : Mem, f_X5_endsAfterSlot X i = (nI (eN t Z i), Z) ∧ kG (t + 1) S Z ∧ RD t S Z i ∧ ∀ j, j < 6 → j ≠ i → sameS X Z j ∧ (sm (X (6 + 5 * j) 4) (t + 10) → sm (Z (6 + 5 * j) 4) (t + 10)) := by
  obtain ⟨g1, g2, g3, g4⟩ := id hG
  obtain ⟨⟨e7, e9, e10⟩, e6, h4, hcase⟩ := hC
  obtain ⟨iC, iR, iW, iL, id', ie, ia, iA, iat, icase⟩ := id hIA
  have hRX : kRw X i := by unfold kRw; rw [e7, e9, e10]; exact iR
  have hCX : kC (t + 1) X i := ⟨by rw [e6 1 (by decide) (by decide) (by decide) (by decide)]; exact iC.1, by rw [e6 3 (by decide) (by decide) (by decide) (by decide)]; exact iC.2.1, h4⟩
  have fr0 : ∀ j, j < 6 → j ≠ i → sameS X X j ∧ (sm (X (6 + 5 * j) 4) (t + 10) → sm (X (6 + 5 * j) 4) (t + 10)) := fun j _ _ => ⟨sameS_rf X j, fun h => h⟩
  rw [f_X5_endsAfterSlot_d]
  rcases hcase with ⟨hoff, x0, x1, x2, x3, x4⟩ | ⟨hs, x0, x1, x2, d, e, f, q, p, hAr, h7, het, hTm, hf⟩
  · rw [x0, if_pos nI0]
    have a5 : X (6 + 5 * i) 5 = S (6 + 5 * i) 5 := e6 5 (by decide) (by decide) (by decide) (by decide)
    have a8 : X (6 + 5 * i) 8 = S (6 + 5 * i) 8 := e6 8 (by decide) (by decide) (by decide) (by decide)
    have hae : ia = ie := by
      rcases icase with ⟨-, h⟩ | ⟨h, -⟩
      · exact h
      · exact absurd (h.symm.trans hoff) nI1_0
    have z9 : ¬ X (6 + 5 * i) 9 = nI (t + 1) := by
      rw [x4]
      rcases iL with h | ⟨q, hq, h⟩
      · rw [h]; exact neg1_ne (by omega)
      · rw [h]; intro h2; have := nI_inj (by omega) (by omega) h2; omega
    refine ⟨X, by unfold eN; rw [if_neg (fun h => z9 h.1)], hG, ⟨⟨hCX, hRX, x1, ?_, id', ie, ia, ?_, by omega, Or.inl ⟨x0, hae⟩⟩, Or.inl ⟨hoff, x0, x2, x3, x4, a5, by rw [e7]⟩⟩, fr0⟩
    · unfold kLs; rw [x4]
      rcases iL with h | ⟨q, hq, h⟩
      · exact Or.inl h
      · exact Or.inr ⟨q, by omega, h⟩
    · unfold kAr; rw [a5, a8, x3]; exact iA
  · obtain ⟨t1, t2, t3, t4, t5, t6, t7, t8, t9⟩ := id hTm
    obtain ⟨r1, r2, r3, r4⟩ := id hAr
    have hpc := ppc_pos p t4 t3
    have hp4 := ppc_le p t4
    have cS : 0 < kN (S (7 + 5 * i) 0) := by rw [← e7]; exact t1
    have hd : S (6 + 5 * i) 5 = nI d := by rw [← e6 5 (by decide) (by decide) (by decide) (by decide)]; exact r1
    rw [x0, if_neg nI1_ne, g2]
    -- it goes on: Z is like X but for who is silenced
    have goes : ∀ Z : Mem, sameS X Z i → sm (Z (6 + 5 * i) 4) (t + 10) → kG (t + 1) S Z → nI 0 = nI (eN t Z i) ∧ kG (t + 1) S Z ∧ RD t S Z i := by
      intro Z hz hz4 hzG
      obtain ⟨f6, f7, f8, f9, f10⟩ := hz
      refine ⟨?_, hzG, ⟨⟨⟨?_, ?_, hz4⟩, ?_, ?_, ?_, d, e, e + (t + 1 - f) + 1, ?_, by omega, Or.inr ⟨?_, f, q, p, ?_, hf, by omega⟩⟩, Or.inr ⟨hs, ?_, ⟨e + (t + 1 - f), het, h7, ?_⟩, cS, Or.inl ⟨?_, ?_, ?_⟩⟩⟩⟩
      · unfold eN; rw [if_neg (fun h => nI1_0 (x0.symm.trans ((congrFun f8 0).symm.trans h.2)))]
      · rw [f6 1 (by decide)]; exact hCX.1
      · rw [f6 3 (by decide)]; exact hCX.2.1
      · unfold kRw; rw [f7, f9, f10]; exact hRX
      · exact Or.inl (by rw [f6 2 (by decide)]; exact x1)
      · exact Or.inr ⟨t + 1, Nat.le_refl _, by rw [f6 9 (by decide)]; exact x2⟩
      · unfold kAr; rw [f6 5 (by decide), f6 8 (by decide), f6 7 (by decide)]; exact hAr
      · rw [f8]; exact x0
      · unfold kTm; rw [f7, f8, f10]; exact hTm
      · rw [f6 9 (by decide)]; exact x2
      · rw [f6 7 (by decide)]; exact r3
      · rw [f8]; exact x0
      · rw [f6 5 (by decide)]; exact e6 5 (by decide) (by decide) (by decide) (by decide)
      · rw [f7, e7]
    -- it ends
    obtain ⟨Y, hY⟩ : ∃ Y, Y = ub (ub X (8 + 5 * i) 0 (nI 0)) (6 + 5 * i) 8 (((ub X (8 + 5 * i) 0 (nI 0)) (6 + 5 * i) 8) + (f_X1_slotsUpTo (ub X (8 + 5 * i) 0 (nI 0)) i (nI (t + 1)))) := ⟨_, rfl⟩
    have ya : ∀ a, a ≠ 8 → Y (6 + 5 * i) a = X (6 + 5 * i) a := fun a h => by rw [hY, ub_blk, pk_un h, ub_ne _ _ _ (by omega)]
    have yb : ∀ b, b ≠ 6 + 5 * i → b ≠ 8 + 5 * i → Y b = X b := fun b h1 h2 => by rw [hY, ub_ne _ _ _ h1, ub_ne _ _ _ h2]
    have y80 : Y (8 + 5 * i) 0 = nI 0 := by rw [hY, ub_ne _ _ _ (by omega), ub_blk, pk_us]
    have yo : ∀ a, a ≠ 0 → Y (8 + 5 * i) a = X (8 + 5 * i) a := fun a h => by rw [hY, ub_ne _ _ _ (by omega), ub_blk, pk_un h]
    have y8 : Y (6 + 5 * i) 8 = nI (e + (t + 1 - f) + 1) := by
      rw [hY, ub_blk, pk_us, f_X1_slotsUpTo_d, ub_ne _ _ _ (show 6 + 5 * i ≠ 8 + 5 * i by omega), ub_blk, pk_un (by decide), r2, t5, pk_sub hf, nI_add, nI_add, Nat.add_assoc]
    have hRY : kRw Y i := by unfold kRw; rw [yb _ (by omega) (by omega), yb _ (by omega) (by omega), yb _ (by omega) (by omega)]; exact hRX
    have cY : 0 < kN (Y (7 + 5 * i) 0) := by rw [yb _ (by omega) (by omega)]; exact t1
    have ends : (X (8 + 5 * i) 4 = 0 → f + 2 * ppc p ≤ t + 2) → ∃ Z : Mem, f_X2_end X i (nI (t + 1)) = Z ∧ nI 1 = nI (eN t Z i) ∧ kG (t + 1) S Z ∧ RD t S Z i ∧ ∀ j, j < 6 → j ≠ i → sameS X Z j ∧ (sm (X (6 + 5 * j) 4) (t + 10) → sm (Z (6 + 5 * j) 4) (t + 10)) := by
      intro hlong
      have fin : ∀ (Z : Mem) (dd : Nat), ES i Y Z → Z (6 + 5 * i) 5 = nI dd → 2 * dd ≤ e + (t + 1 - f) + 1 → oE S Z i → nI 1 = nI (eN t Z i) ∧ kG (t + 1) S Z ∧ RD t S Z i ∧ ∀ j, j < 6 → j ≠ i → sameS X Z j ∧ (sm (X (6 + 5 * j) 4) (t + 10) → sm (Z (6 + 5 * j) 4) (t + 10)) := by
        intro Z dd hES k1 k2 k3
        obtain ⟨s1, s2, s3, s4, s5⟩ := hES
        have z80 : Z (8 + 5 * i) 0 = nI 0 := by rw [s1 _ (by omega) (by omega) (by omega) (by omega)]; exact y80
        have z9 : Z (6 + 5 * i) 9 = nI (t + 1) := by rw [s2 9 (by decide) (by decide) (by decide) (by decide), ya 9 (by decide)]; exact x2
        have z2 : Z (6 + 5 * i) 2 = -1 := by rw [s2 2 (by decide) (by decide) (by decide) (by decide), ya 2 (by decide)]; exact x1
        have z4 : Z (6 + 5 * i) 4 = X (6 + 5 * i) 4 := by rw [s2 4 (by decide) (by decide) (by decide) (by decide), ya 4 (by decide)]
        have z7 : Z (6 + 5 * i) 7 = nI (e + (t + 1 - f) + 1) := by rw [s2 7 (by decide) (by decide) (by decide) (by decide), ya 7 (by decide)]; exact r3
        have z8 : Z (6 + 5 * i) 8 = nI (e + (t + 1 - f) + 1) := by rw [s2 8 (by decide) (by decide) (by decide) (by decide)]; exact y8
        have zb : ∀ b, b ≠ 6 + 5 * i → b ≠ 7 + 5 * i → b ≠ 8 + 5 * i → b ≠ 9 + 5 * i → b ≠ 10 + 5 * i → Z b = X b := fun b h1 h2 h3 h4 h5 => by rw [s1 b h1 h2 h4 h5, yb b h1 h3]
        refine ⟨?_, ⟨?_, ?_, ?_, ?_⟩, ⟨⟨⟨s4, s5, by rw [z4]; exact h4⟩, s3, Or.inl z2, Or.inr ⟨t + 1, Nat.le_refl _, z9⟩, dd, e + (t + 1 - f) + 1, e + (t + 1 - f) + 1, ⟨k1, z8, z7, k2⟩, by omega, Or.inl ⟨z80, rfl⟩⟩, Or.inr ⟨hs, z9, ⟨e + (t + 1 - f), het, h7, z7⟩, cS, k3⟩⟩, fun j hj hji => ⟨⟨fun a _ => by rw [zb _ (by omega) (by omega) (by omega) (by omega) (by omega)], zb _ (by omega) (by omega) (by omega) (by omega) (by omega), zb _ (by omega) (by omega) (by omega) (by omega) (by omega), zb _ (by omega) (by omega) (by omega) (by omega) (by omega), zb _ (by omega) (by omega) (by omega) (by omega) (by omega)⟩, fun h => by rw [zb _ (by omega) (by omega) (by omega) (by omega) (by omega)]; exact h⟩⟩
        · unfold eN; rw [if_pos ⟨z9, z80⟩]
        · rw [zb 0 (by omega) (by omega) (by omega) (by omega) (by omega)]; exact g1
        · rw [zb 0 (by omega) (by omega) (by omega) (by omega) (by omega)]; exact g2
        · rw [zb 3 (by omega) (by omega) (by omega) (by omega) (by omega)]; exact g3
        · unfold kQu; rw [zb 4 (by omega) (by omega) (by omega) (by omega) (by omega), zb 5 (by omega) (by omega) (by omega) (by omega) (by omega)]; exact g4
      have s6 : Y (6 + 5 * i) 6 = S (6 + 5 * i) 6 := by rw [ya 6 (by decide)]; exact e6 6 (by decide) (by decide) (by decide) (by decide)
      have s5 : Y (6 + 5 * i) 5 = nI d := by rw [ya 5 (by decide)]; exact r1
      have s7 : Y (7 + 5 * i) = S (7 + 5 * i) := by rw [yb _ (by omega) (by omega)]; exact e7
      have p8 : Y (10 + 5 * i) 0 = nI p := by rw [yb _ (by omega) (by omega)]; exact t8
      have p8S : S (10 + 5 * i) 0 = nI p := by rw [← e10]; exact t8
      have fails : ∃ Z : Mem, f_X2_countFailure Y i = Z ∧ nI 1 = nI (eN t Z i) ∧ kG (t + 1) S Z ∧ RD t S Z i ∧ ∀ j, j < 6 → j ≠ i → sameS X Z j ∧ (sm (X (6 + 5 * j) 4) (t + 10) → sm (Z (6 + 5 * j) 4) (t + 10)) := by
        obtain ⟨z1, z2, z3⟩ := fail_step hRY cY (by rw [ya 1 (by decide)]; exact hCX.1) (by rw [ya 3 (by decide)]; exact hCX.2.1)
        have z80 : f_X2_countFailure Y i (8 + 5 * i) 0 = nI 0 := by rw [z1.1 _ (by omega) (by omega) (by omega) (by omega)]; exact y80
        refine ⟨_, rfl, fin _ d z1 (by rw [z2]; exact s5) (by omega) ?_⟩
        rcases z3 with z3 | ⟨z3, c, c1, c2, c3⟩
        · exact Or.inr (Or.inl ⟨z80, by rw [z2, s5, hd], by rw [z3, s7]⟩)
        · exact Or.inr (Or.inr (Or.inl ⟨z80, by rw [z2, s5, hd], by rw [z3, s6], c, c1, by rw [← s7]; exact c2, c3⟩))
      rw [f_X2_end_d, ← hY, f_X1_arrivedParts_d, yo 4 (by decide)]
      by_cases hb : X (8 + 5 * i) 4 = 0
      · rw [if_pos hb, yo 5 (by decide), t7]
        obtain ⟨j, hj, ej⟩ := and_low t4 (Y (8 + 5 * i) 6 ^^^ (-1))
        rw [ej]
        obtain ⟨b1, b2, b3, b4, b5, b6⟩ := gd_tab p t4 j hj
        by_cases hg : nI (gd p j) = 0
        · rw [if_pos hg]; exact fails
        · rw [if_neg hg]
          have hl := hlong hb
          have g0 : 0 < gd p j := by
            rcases Nat.eq_zero_or_pos (gd p j) with h | h
            · rw [h] at hg; exact absurd nI0 hg
            · exact h
          obtain ⟨z1, z2, z3, z4, z5⟩ := succ_step hRY cY p8 t4 hj
          have z80 : f_X2_countSuccess Y i (nI (gd p j)) (8 + 5 * i) 0 = nI 0 := by rw [z1.1 _ (by omega) (by omega) (by omega) (by omega)]; exact y80
          refine ⟨_, rfl, fin _ (d + ppc (gd p j)) z1 (by rw [z2, s5, nI_add]) (by omega) (Or.inr (Or.inr (Or.inr ⟨z80, by rw [z3, s6], z4, d, ppc (gd p j), p, hd, by rw [z2, s5, nI_add], p8S, t4, ppc_pos _ b2 g0, b3, ?_⟩)))⟩
          rcases z5 with z5 | ⟨z5, c, c1, c2, c3⟩
          · exact Or.inl (by rw [z5, s7])
          · exact Or.inr ⟨z5, c, c1, by rw [← s7]; exact c2, c3⟩
      · rw [if_neg hb, if_pos nI0]; exact fails
    have quiet : ∃ Z : Mem, (nI 0, X) = (nI (eN t Z i), Z) ∧ kG (t + 1) S Z ∧ RD t S Z i ∧ ∀ j, j < 6 → j ≠ i → sameS X Z j ∧ (sm (X (6 + 5 * j) 4) (t + 10) → sm (Z (6 + 5 * j) 4) (t + 10)) := by
      obtain ⟨z1, z2, z3⟩ := goes X (sameS_rf X i) h4 hG
      exact ⟨X, by rw [← z1], z2, z3, fr0⟩
    have over : (X (8 + 5 * i) 4 = 0 → f + 2 * ppc p ≤ t + 2) → ∃ Z : Mem, (nI 1, f_X2_end X i (nI (t + 1))) = (nI (eN t Z i), Z) ∧ kG (t + 1) S Z ∧ RD t S Z i ∧ ∀ j, j < 6 → j ≠ i → sameS X Z j ∧ (sm (X (6 + 5 * j) 4) (t + 10) → sm (Z (6 + 5 * j) 4) (t + 10)) := by
      intro hl
      obtain ⟨Z, z0, z1, z2, z3, z4⟩ := ends hl
      exact ⟨Z, by rw [z0, ← z1], z2, z3, z4⟩
    by_cases hrq : f_X1_isRequest X i (nI (t + 1)) = 0
    · rw [if_pos hrq, if_pos hrq]
      by_cases hl : nI (t + 1) < X (8 + 5 * i) 2
      · rw [if_pos hl]; exact quiet
      · rw [if_neg hl]
        refine over (fun _ => ?_)
        rw [t9, nI_ltI (by omega) (by omega)] at hl
        omega
    · rw [if_neg hrq]
      by_cases hb : X (8 + 5 * i) 4 = 0
      · rw [if_pos hb]
        have hfq : f = t + 1 ∧ q = 1 := by
          rw [f_X1_isRequest_d, t6, t5] at hrq
          rcases (show q = 0 ∨ q = 1 by omega) with e' | e'
          · subst e'; rw [if_pos nI0] at hrq; exact absurd nI0 hrq
          · subst e'
            rw [if_neg nI1_ne] at hrq
            by_cases h : nI (t + 1) = nI f
            · exact ⟨(nI_inj (by omega) (by omega) h).symm, rfl⟩
            · rw [if_neg h] at hrq; exact absurd nI0 hrq
        obtain ⟨s1, s2⟩ := sil_L (g := gof X i) (i := i) (N := t + 10) (x := X (8 + 5 * i) 2) (by rw [t9]; exact sm_nI (by omega) (by omega)) 6 0 X (by omega)
        rw [← f_X5_silenceAround_d] at s1 s2
        have gS : ∀ j, j < 6 → sameS X (f_X5_silenceAround X (gof X i) i (X (8 + 5 * i) 2)) j := fun j hj => ⟨fun a ha => s2 _ a (Or.inl ha), funext fun a => s2 _ a (Or.inr fun _ _ => by omega), funext fun a => s2 _ a (Or.inr fun _ _ => by omega), funext fun a => s2 _ a (Or.inr fun _ _ => by omega), funext fun a => s2 _ a (Or.inr fun _ _ => by omega)⟩
        have b0 : ∀ b, b < 6 → f_X5_silenceAround X (gof X i) i (X (8 + 5 * i) 2) b = X b := fun b hb => funext fun a => s2 b a (Or.inr fun _ _ => by omega)
        obtain ⟨z1, z2, z3⟩ := goes _ (gS i hi) (s1 i hi h4) ⟨by rw [b0 0 (by decide)]; exact g1, by rw [b0 0 (by decide)]; exact g2, by rw [b0 3 (by decide)]; exact g3, by unfold kQu; rw [b0 4 (by decide), b0 5 (by decide)]; exact g4⟩
        exact ⟨_, by rw [← z1], z2, z3, fun j hj _ => ⟨gS j hj, s1 j hj⟩⟩
      · rw [if_neg hb, if_neg hrq]
        exact over (fun h => absurd h hb)
end
section
-- one slot
theorem L3_b {i e : Nat} {X Z : Mem} (h : f_X5_endsAfterSlot X i = (nI e, Z)) (he : e < 2) : f_X5_passOneSlot_L3_b i X = Z ∧ ∀ n b, f_X5_passOneSlot_L3 (n + 1) i X b = f_X5_passOneSlot_L3 n (i + 1) Z (b + nI e) := by
  refine ⟨by rw [f_X5_passOneSlot_L3_b_d, ite_self, h], fun n b => ?_⟩
  rw [f_X5_passOneSlot_L3_s, h]
  rcases (show e = 0 ∨ e = 1 by omega) with q | q
  · subst q; rw [if_pos nI0, nI0, Int32.add_zero]
  · subst q; rw [if_neg nI1_ne]; rfl
theorem eN_lt (t : Nat) (X : Mem) (i : Nat) : eN t X i < 2 := by unfold eN; split <;> decide
theorem ph3 {t : Nat} {S : Mem} (h : I0 t S) (ht : t + 1 < 100000) : ∀ i, i ≤ 6 → kG (t + 1) S (ct3 S i) ∧ ∀ j, j < 6 → (j < i → RD t S (ct3 S i) j) ∧ (i ≤ j → RC t S (ct3 S i) j)
  | 0, _ => by
    rw [ct3_0]
    obtain ⟨h1, h4⟩ := ph2 h ht 6 (Nat.le_refl _)
    exact ⟨h1, fun j hj => ⟨fun hh => absurd hh (by omega), fun _ => (h4 j hj).1 hj⟩⟩
  | i + 1, hi => by
    obtain ⟨h1, h4⟩ := ph3 h ht i (by omega)
    obtain ⟨Z, z0, z1, z2, z3⟩ := L3_step ht (show i < 6 by omega) h1 (h.2.2.2 i (by omega)) ((h4 i (by omega)).2 (Nat.le_refl _))
    rw [ct3_s, (L3_b z0 (eN_lt _ _ _)).1]
    refine ⟨z1, fun j hj => ⟨fun k1 => ?_, fun k1 => ?_⟩⟩
    · by_cases e : j = i
      · subst e; exact z2
      · obtain ⟨a, b⟩ := z3 j hj e
        exact RD_fr a b ((h4 j hj).1 (by omega))
    · obtain ⟨a, b⟩ := z3 j hj (by omega)
      exact RC_fr a b ((h4 j hj).2 (by omega))
theorem ct3_step {t i : Nat} {S : Mem} (h : I0 t S) (ht : t + 1 < 100000) (hi : i < 6) : f_X5_endsAfterSlot (ct3 S i) i = (nI (eN t (ct3 S (i + 1)) i), ct3 S (i + 1)) ∧ ∀ j, j < 6 → j ≠ i → sameS (ct3 S i) (ct3 S (i + 1)) j := by
  obtain ⟨h1, h4⟩ := ph3 h ht i (by omega)
  obtain ⟨Z, z0, z1, z2, z3⟩ := L3_step ht hi h1 (h.2.2.2 i hi) ((h4 i hi).2 (Nat.le_refl _))
  have e : ct3 S (i + 1) = Z := by rw [ct3_s, (L3_b z0 (eN_lt _ _ _)).1]
  rw [e]
  exact ⟨z0, fun j hj hji => (z3 j hj hji).1⟩
theorem ct3_keep {t i : Nat} {S : Mem} (h : I0 t S) (ht : t + 1 < 100000) (hi : i < 6) : ∀ m, i + 1 + m ≤ 6 → eN t (ct3 S (i + 1 + m)) i = eN t (ct3 S (i + 1)) i
  | 0, _ => rfl
  | m + 1, hm => by
    have ih := ct3_keep h ht hi m (by omega)
    obtain ⟨f6, -, f8, -, -⟩ := (ct3_step h ht (show i + 1 + m < 6 by omega)).2 i hi (by omega)
    rw [← ih, ← Nat.add_assoc]
    unfold eN
    rw [f6 9 (by decide), f8]
def eS (t : Nat) (X : Mem) : Nat → Nat
  | 0 => 0
  | k + 1 => eS t X k + eN t X k
theorem ph_acc {t : Nat} {S : Mem} (h : I0 t S) (ht : t + 1 < 100000) : ∀ n i, i + n = 6 → f_X5_passOneSlot_L3 n i (ct3 S i) (nI (eS t (ct3 S 6) i)) = (nI (eS t (ct3 S 6) 6), ct3 S 6)
  | 0, i, hi => by
    have e : i = 6 := by omega
    subst e
    rfl
  | n + 1, i, hi => by
    obtain ⟨z0, -⟩ := ct3_step h ht (show i < 6 by omega)
    have e : eN t (ct3 S 6) i = eN t (ct3 S (i + 1)) i := by
      have := ct3_keep h ht (show i < 6 by omega) n (by omega)
      rw [show i + 1 + n = 6 by omega] at this
      exact this
    rw [(L3_b z0 (eN_lt _ _ _)).2, nI_add, ← e]
    exact ph_acc h ht n (i + 1) (by omega)
theorem slot_ok {t : Nat} {S : Mem} (h : I0 t S) (ht : t + 1 < 100000) : pOK S ∧ f_X5_passOneSlot S = (nI (eS t (ct3 S 6) 6), ct3 S 6) ∧ I0 (t + 1) (ct3 S 6) ∧ ct3 S 6 3 = S 3 ∧ ∀ j, j < 6 → RD t S (ct3 S 6) j := by
  obtain ⟨h1, h4⟩ := ph3 h ht 6 (Nat.le_refl _)
  obtain ⟨g1, g2, g3, g4⟩ := h1
  refine ⟨⟨fun i hi => ?_, fun i hi hn => ?_, fun i hi hn => ?_⟩, ?_, ⟨⟨by rw [g1]; exact h.1.1, g2, ht⟩, fun a ha => by rw [g3]; exact h.2.1 a ha, g4, fun j hj => ((h4 j hj).1 hj).1⟩, g3, fun j hj => (h4 j hj).1 hj⟩
  · exact (ph1 h ht i (by omega)).1.2.2.2.1
  · exact RB_gOK (h.2.2.2 i hi) (((ph2 h ht i (by omega)).2 i hi).2 (Nat.le_refl _)) hn
  · exact RC_gOK (h.2.2.2 i hi) (((ph3 h ht i (by omega)).2 i hi).2 (Nat.le_refl _)) hn
  · rw [cSlot]
    exact ph_acc h ht 6 0 rfl
theorem pass_eq {S X : Mem} {b : Int32} (h : f_X5_passOneSlot S = (b, X)) : f_X5_pass S 1 = (nI 0 + b, X) := by
  rw [f_X5_pass_d, f_X5_pass_L1_s, f_X5_pass_L1_z, h]
theorem pass_ok {t : Nat} {S : Mem} (h : I0 t S) (ht : t + 1 < 100000) : (∀ j, j < 1 → pOK (ctp S j)) ∧ f_X5_pass S 1 = (nI (eS t (ct3 S 6) 6), ct3 S 6) := by
  obtain ⟨h1, h2, -⟩ := slot_ok h ht
  refine ⟨fun j hj => ?_, ?_⟩
  · have e : j = 0 := by omega
    subst e
    rw [ctp_0]; exact h1
  · rw [pass_eq h2, nI_add, Nat.zero_add]
-- the other calls
theorem IA_same {t : Nat} {X Y : Mem} {j : Nat} (h : sameT X Y j) (hI : IA t X j) : IA t Y j := by
  obtain ⟨e6, e7, e8, e9, e10⟩ := h
  exact IA_fr ⟨fun a _ => by rw [e6], e7, e8, e9, e10⟩ (fun h => by rw [e6]; exact h) hI
theorem sameT_of {X Y : Mem} {j : Nat} (h : ∀ b, 6 ≤ b → Y b = X b) : sameT X Y j := ⟨h _ (by omega), h _ (by omega), h _ (by omega), h _ (by omega), h _ (by omega)⟩
theorem k_setStrength {t a b : Nat} {v : Int32} {S : Mem} (h : I0 t S) (ha : a < 6) (hb : b < 6) (hab : a ≠ b) : f_X5_setStrength S a b v = (S 3 (a * 6 + b), ub (ub S 3 (a * 6 + b) v) 3 (b * 6 + a) v) ∧ I0 t (ub (ub S 3 (a * 6 + b) v) 3 (b * 6 + a) v) := by
  refine ⟨by rw [f_X5_setStrength_d, f_X3_between_d, f_X3_put_d], ⟨?_, fun c hc => ?_, ?_, fun j hj => IA_same (sameT_of fun b hb => ?_) (h.2.2.2 j hj)⟩⟩
  · unfold kGl; rw [ub_ne _ _ _ (by decide), ub_ne _ _ _ (by decide)]; exact h.1
  · rw [ub_blk, pk_un (by omega), ub_blk, pk_un (by omega)]; exact h.2.1 c hc
  · unfold kQu; simp (disch := decide) only [ub_ne]; exact h.2.2.1
  · rw [ub_ne _ _ _ (by omega), ub_ne _ _ _ (by omega)]
theorem k_setReserve {t r : Nat} {S : Mem} (h : I0 t S) (hr : r < 6) (hr0 : 0 < r) : f_X5_setReserve S (nI r) = (S 0 0, ub S 0 0 (nI r)) ∧ I0 t (ub S 0 0 (nI r)) := by
  refine ⟨by rw [f_X5_setReserve_d], ⟨⟨?_, ?_, h.1.2.2⟩, fun c hc => ?_, ?_, fun j hj => IA_same (sameT_of fun b hb => ?_) (h.2.2.2 j hj)⟩⟩
  · rw [ub_blk, pk_us, kN_nI (by omega)]; exact ⟨sm_nI hr (by decide), hr0⟩
  · rw [ub_blk, pk_un (by decide)]; exact h.1.2.1
  · rw [ub_ne _ _ _ (by decide)]; exact h.2.1 c hc
  · unfold kQu; simp (disch := decide) only [ub_ne]; exact h.2.2.1
  · rw [ub_ne _ _ _ (by omega)]
theorem k_setClass {t i : Nat} {y : Int32} {S : Mem} (h : I0 t S) (hi : i < 6) : f_X5_setClass S i y = (S (6 + 5 * i) 0, ub (ub S (6 + 5 * i) 0 y) (6 + 5 * i) 1 (f_X5_leastWindow y)) ∧ I0 t (ub (ub S (6 + 5 * i) 0 y) (6 + 5 * i) 1 (f_X5_leastWindow y)) := by
  refine ⟨by rw [f_X5_setClass_d], ⟨?_, fun c hc => ?_, ?_, fun j hj => ?_⟩⟩
  · unfold kGl; simp (disch := omega) only [ub_ne]; exact h.1
  · simp (disch := omega) only [ub_ne]; exact h.2.1 c hc
  · unfold kQu; simp (disch := omega) only [ub_ne]; exact h.2.2.1
  · have hI := h.2.2.2 j hj
    by_cases e : j = i
    · subst e
      obtain ⟨⟨c1, c2⟩, c3⟩ := hI
      refine ⟨⟨?_, ?_⟩, ?_⟩
      · rw [ub_blk, pk_us]; exact lw_W _
      · simp (disch := omega) only [ub_blk, pk_un]; exact c2
      · unfold kRw kWt kLs kAr kTm at c3 ⊢
        simp (disch := omega) only [ub_ne, ub_blk, pk_un]
        exact c3
    · exact IA_same ⟨by simp (disch := omega) only [ub_ne], by simp (disch := omega) only [ub_ne], by simp (disch := omega) only [ub_ne], by simp (disch := omega) only [ub_ne], by simp (disch := omega) only [ub_ne]⟩ hI
theorem k_tell {t v : Nat} {S : Mem} (h : I0 t S) (hv : v < 1001) (hn : kN (S 4 1) < 200) : ∃ Z : Mem, f_X5_tell S (nI v) = (nI (kN (S 4 1) + 1), Z) ∧ I0 t Z ∧ ∀ b, b ≠ 4 → b ≠ 5 → Z b = S b := by
  obtain ⟨q1, q2, q3⟩ := h.2.2.1
  have fin : ∀ (k : Nat), ∃ Z : Mem, Z = ub (ub S 5 k (nI v)) 4 1 (((ub S 5 k (nI v)) 4 1) + (nI 1)) ∧ Z 4 1 = nI (kN (S 4 1) + 1) ∧ I0 t Z ∧ ∀ b, b ≠ 4 → b ≠ 5 → Z b = S b := fun k => by
    have e41 : ub S 5 k (nI v) 4 1 + nI 1 = nI (kN (S 4 1) + 1) := by
      rw [ub_ne _ _ _ (by decide)]
      conv => lhs; rw [q2.1]
      rw [nI_add]
    refine ⟨_, rfl, by rw [ub_blk, pk_us, e41], ⟨?_, fun c hc => ?_, ⟨?_, ?_, fun j hj => ?_⟩, fun j hj => IA_same (sameT_of fun b hb => ?_) (h.2.2.2 j hj)⟩, fun b h4 h5 => by rw [ub_ne _ _ _ h4, ub_ne _ _ _ h5]⟩
    · unfold kGl; simp (disch := omega) only [ub_ne]; exact h.1
    · simp (disch := omega) only [ub_ne]; exact h.2.1 c hc
    · rw [ub_blk, pk_un (by decide), ub_ne _ _ _ (by decide)]; exact q1
    · rw [ub_blk, pk_us, e41]; exact sm_nI (by omega) (by decide)
    · rw [ub_ne _ _ _ (by decide), ub_blk]
      by_cases e : j = k
      · subst e; rw [pk_us]; exact sm_nI hv (by decide)
      · rw [pk_un e]; exact q3 j hj
    · rw [ub_ne _ _ _ (by omega), ub_ne _ _ _ (by omega)]
  rw [f_X5_tell_d, f_X4_add_d]
  by_cases hh : nI (kN (S 4 0) + kN (S 4 1)) < nI 200
  · rw [if_pos hh]
    obtain ⟨Z, z0, z1, z2⟩ := fin (kN (S 4 0) + kN (S 4 1))
    rw [← z0]
    exact ⟨Z, by rw [z1], z2⟩
  · rw [if_neg hh]
    obtain ⟨Z, z0, z1, z2⟩ := fin (kN (S 4 0) + kN (S 4 1) - 200)
    rw [← z0]
    exact ⟨Z, by rw [z1], z2⟩
theorem par_tab : ∀ v, v < 5 → 0 < v → (nI 1) <<< (nI v &&& 31) - nI 1 = nI (2 ^ v - 1) ∧ 2 ^ v - 1 < 16 ∧ ¬ nI (2 ^ v - 1) = 0 := by decide +kernel
theorem k_frame {t a g v : Nat} {S : Mem} (h : I0 t S) (ha : a < 6) (hg : g < 6) (hv : v < 5) (hv0 : 0 < v) (hc : kN (S (7 + 5 * a) 0) < 5) : ∃ Z : Mem, f_X5_frame S a g (nI v) = (nI (kN (S (7 + 5 * a) 0) + 1), Z) ∧ I0 t Z ∧ (∀ b, b ≠ 7 + 5 * a → b ≠ 9 + 5 * a → b ≠ 10 + 5 * a → Z b = S b) ∧ Z (7 + 5 * a) 0 = nI (kN (S (7 + 5 * a) 0) + 1) ∧ (kN (S (7 + 5 * a) 0) = 0 → Z (10 + 5 * a) 0 = nI (2 ^ v - 1)) := by
  obtain ⟨p1, p2, p3⟩ := par_tab v hv hv0
  obtain ⟨iC, iR, iW, iL, iX⟩ := h.2.2.2 a ha
  obtain ⟨c, hcc⟩ : ∃ c, c = kN (S (7 + 5 * a) 0) := ⟨_, rfl⟩
  have hc7 : S (7 + 5 * a) 0 = nI c := by rw [hcc]; exact iR.1.1
  obtain ⟨Z, hZ⟩ : ∃ Z, Z = f_X0_add S a (nI g) (nI v) := ⟨_, rfl⟩
  have eZ : Z = ub (ub (ub S (9 + 5 * a) c (nI g)) (10 + 5 * a) c (nI (2 ^ v - 1))) (7 + 5 * a) 0 (nI (c + 1)) := by
    rw [hZ, f_X0_add_d, p1, ← hcc, ub_ne _ _ _ (show 7 + 5 * a ≠ 10 + 5 * a by omega), ub_ne _ _ _ (show 7 + 5 * a ≠ 9 + 5 * a by omega), hc7, nI_add]
  have z7 : Z (7 + 5 * a) 0 = nI (c + 1) := by rw [eZ, ub_blk, pk_us]
  have z9 : ∀ k, Z (9 + 5 * a) k = if k = c then nI g else S (9 + 5 * a) k := fun k => by rw [eZ, ub_ne _ _ _ (by omega), ub_ne _ _ _ (by omega), ub_blk, upd]
  have z10 : ∀ k, Z (10 + 5 * a) k = if k = c then nI (2 ^ v - 1) else S (10 + 5 * a) k := fun k => by rw [eZ, ub_ne _ _ _ (by omega), ub_blk, upd, ub_ne _ _ _ (by omega)]
  have zb : ∀ b, b ≠ 7 + 5 * a → b ≠ 9 + 5 * a → b ≠ 10 + 5 * a → Z b = S b := fun b h1 h2 h3 => by rw [eZ, ub_ne _ _ _ h1, ub_ne _ _ _ h3, ub_ne _ _ _ h2]
  have hRZ : kRw Z a := by
    refine ⟨by rw [z7]; exact sm_nI (by omega) (by decide), fun k hk => ?_⟩
    rw [z7, kN_nI (by omega)] at hk
    rw [z9, z10]
    by_cases e : k = c
    · rw [if_pos e, if_pos e]
      exact ⟨sm_nI hg (by decide), sm_nI p2 (by decide), p3⟩
    · rw [if_neg e, if_neg e]
      exact iR.2 k (by rw [← hcc]; omega)
  rw [f_X5_frame_d, ← hZ, ← hcc]
  refine ⟨Z, by rw [z7], ⟨?_, fun c hc => ?_, ?_, fun j hj => ?_⟩, zb, z7, fun h0 => by rw [z10, if_pos h0.symm]⟩
  · unfold kGl; rw [zb 0 (by omega) (by omega) (by omega)]; exact h.1
  · rw [zb 3 (by omega) (by omega) (by omega)]; exact h.2.1 c hc
  · unfold kQu; rw [zb 4 (by omega) (by omega) (by omega), zb 5 (by omega) (by omega) (by omega)]; exact h.2.2.1
  · by_cases e : j = a
    · subst e
      have z6 := zb (6 + 5 * j) (by omega) (by omega) (by omega)
      have z8 := zb (8 + 5 * j) (by omega) (by omega) (by omega)
      refine ⟨by unfold kC; rw [z6]; exact iC, hRZ, ?_, by unfold kLs; rw [z6]; exact iL, ?_⟩
      · unfold kWt; rw [z6, z7, z8, kN_nI (by omega)]
        rcases iW with w | ⟨w1, w2, w3⟩
        · exact Or.inl w
        · exact Or.inr ⟨w1, by omega, w3⟩
      · obtain ⟨d, e, x, x1, x2, x3⟩ := iX
        refine ⟨d, e, x, by unfold kAr; rw [z6]; exact x1, x2, ?_⟩
        rw [z8]
        rcases x3 with x3 | ⟨x3, f, q, p, x4, x5, x6⟩
        · exact Or.inl x3
        · refine Or.inr ⟨x3, f, q, p, ?_, x5, x6⟩
          obtain ⟨y1, y2⟩ := x4
          unfold kTm
          rw [z7, z8, z10, kN_nI (by omega), if_neg (by rw [hcc]; omega)]
          exact ⟨by omega, y2⟩
    · exact IA_same ⟨zb _ (by omega) (by omega) (by omega), zb _ (by omega) (by omega) (by omega), zb _ (by omega) (by omega) (by omega), zb _ (by omega) (by omega) (by omega), zb _ (by omega) (by omega) (by omega)⟩ (h.2.2.2 j hj)
end
section
def wsL_law0_r1 : List Cond := [Cond.classLink RL 8 RX5, Cond.instantiable RX5 5, Cond.initialized RX5, Cond.arrayClass .int, Cond.constant RL 70 (1950001), Cond.constant RL 71 (65011), Cond.constant RL 72 (268435455), Cond.methodLink RL 65 yX5_init, Cond.instanceMethod yX5_init, Cond.code yX5_init cX5_init 2 none, Cond.methodLink RX5 1 objectInit, Cond.instanceMethod objectInit, Cond.code objectInit ⟨#[0xb1]⟩ 1 none, Cond.classLink RX5 9 RX2, Cond.fieldLink RX5 11 "BackofficeAir" "stations" "[LBackofficeAir$Station;", Cond.classLink RX5 15 RX3, Cond.instantiable RX3 1, Cond.initialized RX3, Cond.fieldLink RX5 18 "BackofficeAir" "strengths" "LBackofficeAir$Strengths;", Cond.classLink RX5 22 RX4, Cond.instantiable RX4 3, Cond.initialized RX4, Cond.fieldLink RX5 25 "BackofficeAir" "told" "LBackofficeAir$Told;", Cond.fieldLink RX5 29 "BackofficeAir" "reserve" "I"]
def wsL_law0_r2 : List Cond := [Cond.fieldLink RX5 33 "BackofficeAir" "slot" "I", Cond.instantiable RX2 12, Cond.initialized RX2, Cond.instanceMethod yX3_init, Cond.code yX3_init cX3_init 1 none, Cond.methodLink RX3 3 objectInit, Cond.fieldLink RX3 9 "BackofficeAir$Strengths" "all" "[I", Cond.instanceMethod yX4_init, Cond.code yX4_init cX4_init 1 none, Cond.methodLink RX4 3 objectInit, Cond.fieldLink RX4 9 "BackofficeAir$Told" "ring" "[I", Cond.fieldLink RX4 15 "BackofficeAir$Told" "first" "I", Cond.fieldLink RX4 19 "BackofficeAir$Told" "left" "I", Cond.instanceMethod yX2_init, Cond.code yX2_init cX2_init 1 none, Cond.methodLink RX2 3 objectInit, Cond.classLink RX2 9 RX0, Cond.instantiable RX0 3, Cond.initialized RX0, Cond.fieldLink RX2 12 "BackofficeAir$Station" "row" "LBackofficeAir$Row;", Cond.classLink RX2 18 RX1, Cond.instantiable RX1 7, Cond.initialized RX1, Cond.fieldLink RX2 21 "BackofficeAir$Station" "sending" "LBackofficeAir$Sending;"]
def wsL_law0_r3 : List Cond := [Cond.fieldLink RX2 25 "BackofficeAir$Station" "itsClass" "I", Cond.fieldLink RX2 29 "BackofficeAir$Station" "window" "I", Cond.fieldLink RX2 32 "BackofficeAir$Station" "wait" "I", Cond.fieldLink RX2 35 "BackofficeAir$Station" "failures" "I", Cond.fieldLink RX2 38 "BackofficeAir$Station" "silencedTo" "I", Cond.fieldLink RX2 41 "BackofficeAir$Station" "delivered" "I", Cond.fieldLink RX2 44 "BackofficeAir$Station" "dropped" "I", Cond.fieldLink RX2 47 "BackofficeAir$Station" "airtime" "I", Cond.fieldLink RX2 50 "BackofficeAir$Station" "slotsOfEnded" "I", Cond.fieldLink RX2 53 "BackofficeAir$Station" "lastSlotSent" "I", Cond.instanceMethod yX0_init, Cond.code yX0_init cX0_init 1 none, Cond.methodLink RX0 3 objectInit, Cond.fieldLink RX0 9 "BackofficeAir$Row" "goals" "[I", Cond.fieldLink RX0 15 "BackofficeAir$Row" "parts" "[I", Cond.fieldLink RX0 18 "BackofficeAir$Row" "count" "I", Cond.instanceMethod yX1_init, Cond.code yX1_init cX1_init 1 none, Cond.methodLink RX1 3 objectInit, Cond.fieldLink RX1 9 "BackofficeAir$Sending" "on" "Z", Cond.fieldLink RX1 15 "BackofficeAir$Sending" "firstSlot" "I", Cond.fieldLink RX1 19 "BackofficeAir$Sending" "lastSlot" "I", Cond.fieldLink RX1 22 "BackofficeAir$Sending" "hasRequest" "Z", Cond.fieldLink RX1 25 "BackofficeAir$Sending" "requestBroken" "Z"]
def wsL_law0_r4 : List Cond := [Cond.fieldLink RX1 28 "BackofficeAir$Sending" "parts" "I", Cond.fieldLink RX1 31 "BackofficeAir$Sending" "brokenParts" "I", Cond.methodLink RL 66 yL_isStation, Cond.static yL_isStation, Cond.initialized RL, Cond.code yL_isStation cL_isStation 8 (some .boolean), Cond.methodLink RL 19 yX5_window, Cond.instanceMethod yX5_window, Cond.selects RX5 yX5_window yX5_window, Cond.code yX5_window cX5_window 2 (some .int), Cond.methodLink RX5 37 yX5_stationAt, Cond.instanceMethod yX5_stationAt, Cond.selects RX5 yX5_stationAt yX5_stationAt, Cond.code yX5_stationAt cX5_stationAt 3 (some (.object "BackofficeAir$Station")), Cond.classLink RX5 145 "java/lang/IndexOutOfBoundsException", Cond.initialized "java/lang/IndexOutOfBoundsException", Cond.methodLink RL 22 yX5_failures, Cond.instanceMethod yX5_failures, Cond.selects RX5 yX5_failures yX5_failures, Cond.code yX5_failures cX5_failures 2 (some .int), Cond.methodLink RL 25 yX5_waitOf, Cond.instanceMethod yX5_waitOf, Cond.selects RX5 yX5_waitOf yX5_waitOf, Cond.code yX5_waitOf cX5_waitOf 2 (some .int)]
def wsL_law0_r5 : List Cond := [Cond.methodLink RL 28 yX5_silencedTo, Cond.instanceMethod yX5_silencedTo, Cond.selects RX5 yX5_silencedTo yX5_silencedTo, Cond.code yX5_silencedTo cX5_silencedTo 2 (some .int), Cond.methodLink RL 31 yX5_now, Cond.instanceMethod yX5_now, Cond.selects RX5 yX5_now yX5_now, Cond.code yX5_now cX5_now 1 (some .int), Cond.methodLink RL 35 yX5_sends, Cond.instanceMethod yX5_sends, Cond.selects RX5 yX5_sends yX5_sends, Cond.code yX5_sends cX5_sends 2 (some .boolean), Cond.methodLink RL 39 yX5_frames, Cond.instanceMethod yX5_frames, Cond.selects RX5 yX5_frames yX5_frames, Cond.code yX5_frames cX5_frames 2 (some .int), Cond.methodLink RL 42 yX5_partsLeft, Cond.instanceMethod yX5_partsLeft, Cond.selects RX5 yX5_partsLeft yX5_partsLeft, Cond.code yX5_partsLeft cX5_partsLeft 2 (some .int), Cond.methodLink RX5 127 yX0_partsOfFirst, Cond.instanceMethod yX0_partsOfFirst, Cond.selects RX0 yX0_partsOfFirst yX0_partsOfFirst, Cond.code yX0_partsOfFirst cX0_partsOfFirst 1 (some .int)]
def wsL_law0_r6 : List Cond := [Cond.methodLink RL 45 yX5_airtime, Cond.instanceMethod yX5_airtime, Cond.selects RX5 yX5_airtime yX5_airtime, Cond.code yX5_airtime cX5_airtime 2 (some .int), Cond.methodLink RL 48 yX5_airtimeBySendings, Cond.instanceMethod yX5_airtimeBySendings, Cond.selects RX5 yX5_airtimeBySendings yX5_airtimeBySendings, Cond.code yX5_airtimeBySendings cX5_airtimeBySendings 3 (some .int), Cond.methodLink RX5 142 yX1_slotsUpTo, Cond.instanceMethod yX1_slotsUpTo, Cond.selects RX1 yX1_slotsUpTo yX1_slotsUpTo, Cond.code yX1_slotsUpTo cX1_slotsUpTo 2 (some .int), Cond.methodLink RL 51 yX5_delivered, Cond.instanceMethod yX5_delivered, Cond.selects RX5 yX5_delivered yX5_delivered, Cond.code yX5_delivered cX5_delivered 2 (some .int), Cond.methodLink RL 73 yX5_setStrength, Cond.instanceMethod yX5_setStrength, Cond.selects RX5 yX5_setStrength yX5_setStrength, Cond.code yX5_setStrength cX5_setStrength 5 (some .int), Cond.classLink RX5 41 "java/lang/IllegalArgumentException", Cond.initialized "java/lang/IllegalArgumentException", Cond.methodLink RX5 50 yX3_between, Cond.instanceMethod yX3_between]
def wsL_law0_r7 : List Cond := [Cond.selects RX3 yX3_between yX3_between, Cond.code yX3_between cX3_between 4 (some .int), Cond.methodLink RX3 15 yX3_placeOf, Cond.static yX3_placeOf, Cond.code yX3_placeOf cX3_placeOf 2 (some .int), Cond.static yX5_isStation, Cond.code yX5_isStation cX5_isStation 1 (some .boolean), Cond.methodLink RX5 54 yX3_put, Cond.instanceMethod yX3_put, Cond.selects RX3 yX3_put yX3_put, Cond.code yX3_put cX3_put 6 none, Cond.methodLink RL 76 yX5_setReserve, Cond.instanceMethod yX5_setReserve, Cond.selects RX5 yX5_setReserve yX5_setReserve, Cond.code yX5_setReserve cX5_setReserve 3 (some .int), Cond.methodLink RL 79 yX5_setClass, Cond.instanceMethod yX5_setClass, Cond.selects RX5 yX5_setClass yX5_setClass, Cond.code yX5_setClass cX5_setClass 5 (some .int), Cond.methodLink RX5 63 yX5_leastWindow, Cond.static yX5_leastWindow, Cond.code yX5_leastWindow cX5_leastWindow 1 (some .int), Cond.methodLink RL 83 yX5_numbers, Cond.instanceMethod yX5_numbers]
def wsL_law0_r8 : List Cond := [Cond.selects RX5 yX5_numbers yX5_numbers, Cond.code yX5_numbers cX5_numbers 1 (some .int), Cond.methodLink RL 86 yL_tells, Cond.static yL_tells, Cond.codeWith yL_tells cL_tells 3 (some .int) [(0, 5, 6, 13)], Cond.classLink RL 13 "java/lang/IllegalStateException", Cond.methodLink RL 7 yX5_tell, Cond.instanceMethod yX5_tell, Cond.selects RX5 yX5_tell yX5_tell, Cond.code yX5_tell cX5_tell 2 (some .int), Cond.classLink RX5 77 "java/lang/IllegalStateException", Cond.initialized "java/lang/IllegalStateException", Cond.methodLink RX5 82 yX4_add, Cond.instanceMethod yX4_add, Cond.selects RX4 yX4_add yX4_add, Cond.code yX4_add cX4_add 3 none, Cond.methodLink RL 90 yL_frames, Cond.static yL_frames, Cond.codeWith yL_frames cL_frames 5 (some .int) [(0, 7, 8, 13)], Cond.methodLink RL 15 yX5_frame, Cond.instanceMethod yX5_frame, Cond.selects RX5 yX5_frame yX5_frame, Cond.code yX5_frame cX5_frame 5 (some .int), Cond.methodLink RX5 99 yX0_add]
def wsL_law0_r9 : List Cond := [Cond.instanceMethod yX0_add, Cond.selects RX0 yX0_add yX0_add, Cond.code yX0_add cX0_add 3 none, Cond.methodLink RL 93 yL_isSlot, Cond.static yL_isSlot, Cond.code yL_isSlot cL_isSlot 13 (some .boolean), Cond.methodLink RL 54 yX5_dropped, Cond.instanceMethod yX5_dropped, Cond.selects RX5 yX5_dropped yX5_dropped, Cond.code yX5_dropped cX5_dropped 2 (some .int), Cond.methodLink RL 57 yX5_pass, Cond.instanceMethod yX5_pass, Cond.selects RX5 yX5_pass yX5_pass, Cond.code yX5_pass cX5_pass 4 (some .int), Cond.methodLink RX5 104 yX5_passOneSlot, Cond.instanceMethod yX5_passOneSlot, Cond.selects RX5 yX5_passOneSlot yX5_passOneSlot, Cond.code yX5_passOneSlot cX5_passOneSlot 3 (some .int), Cond.methodLink RX5 150 yX5_waitOrBegin, Cond.instanceMethod yX5_waitOrBegin, Cond.selects RX5 yX5_waitOrBegin yX5_waitOrBegin, Cond.code yX5_waitOrBegin cX5_waitOrBegin 3 none, Cond.methodLink RX5 160 yX4_next, Cond.instanceMethod yX4_next]
def wsL_law0_r10 : List Cond := [Cond.selects RX4 yX4_next yX4_next, Cond.code yX4_next cX4_next 2 (some .int), Cond.methodLink RX5 163 yX5_restBy, Cond.static yX5_restBy, Cond.code yX5_restBy cX5_restBy 2 (some .int), Cond.methodLink RX5 166 yX5_heardInSlotBefore, Cond.instanceMethod yX5_heardInSlotBefore, Cond.selects RX5 yX5_heardInSlotBefore yX5_heardInSlotBefore, Cond.code yX5_heardInSlotBefore cX5_heardInSlotBefore 3 (some .boolean), Cond.methodLink RX5 169 yX2_begin, Cond.instanceMethod yX2_begin, Cond.selects RX2 yX2_begin yX2_begin, Cond.code yX2_begin cX2_begin 4 none, Cond.methodLink RX2 56 yX0_partsOfFirst, Cond.methodLink RX2 60 yJ6_bitCount_0f7a4, Cond.static yJ6_bitCount_0f7a4, Cond.initialized RJ6, Cond.code yJ6_bitCount_0f7a4 cJ6_bitCount_0f7a4 1 (some .int), Cond.constant RJ6 265 (1431655765), Cond.constant RJ6 266 (858993459), Cond.constant RJ6 267 (252645135), Cond.methodLink RX2 66 yX1_begin, Cond.instanceMethod yX1_begin, Cond.selects RX1 yX1_begin yX1_begin]
def wsL_law0_r11 : List Cond := [Cond.code yX1_begin cX1_begin 4 none, Cond.methodLink RX1 34 yX1_firstSlotOfParts, Cond.instanceMethod yX1_firstSlotOfParts, Cond.selects RX1 yX1_firstSlotOfParts yX1_firstSlotOfParts, Cond.code yX1_firstSlotOfParts cX1_firstSlotOfParts 1 (some .int), Cond.methodLink RX1 38 yJ6_bitCount_0f7a4, Cond.methodLink RX5 153 yX5_sendInSlot, Cond.instanceMethod yX5_sendInSlot, Cond.selects RX5 yX5_sendInSlot yX5_sendInSlot, Cond.code yX5_sendInSlot cX5_sendInSlot 3 none, Cond.methodLink RX5 175 yX0_goalOfFirst, Cond.instanceMethod yX0_goalOfFirst, Cond.selects RX0 yX0_goalOfFirst yX0_goalOfFirst, Cond.code yX0_goalOfFirst cX0_goalOfFirst 1 (some .int), Cond.methodLink RX5 178 yX5_isBrokenAt, Cond.instanceMethod yX5_isBrokenAt, Cond.selects RX5 yX5_isBrokenAt yX5_isBrokenAt, Cond.code yX5_isBrokenAt cX5_isBrokenAt 7 (some .boolean), Cond.methodLink RX5 182 yX1_breakIn, Cond.instanceMethod yX1_breakIn, Cond.selects RX1 yX1_breakIn yX1_breakIn, Cond.code yX1_breakIn cX1_breakIn 2 none, Cond.methodLink RX1 44 yX1_isRequest, Cond.instanceMethod yX1_isRequest]
def wsL_law0_r12 : List Cond := [Cond.selects RX1 yX1_isRequest yX1_isRequest, Cond.code yX1_isRequest cX1_isRequest 2 (some .boolean), Cond.methodLink RX1 48 yX1_partIn, Cond.instanceMethod yX1_partIn, Cond.selects RX1 yX1_partIn yX1_partIn, Cond.code yX1_partIn cX1_partIn 5 (some .int), Cond.methodLink RX5 156 yX5_endsAfterSlot, Cond.instanceMethod yX5_endsAfterSlot, Cond.selects RX5 yX5_endsAfterSlot yX5_endsAfterSlot, Cond.code yX5_endsAfterSlot cX5_endsAfterSlot 3 (some .boolean), Cond.methodLink RX5 185 yX1_isRequest, Cond.methodLink RX5 194 yX5_silenceAround, Cond.instanceMethod yX5_silenceAround, Cond.selects RX5 yX5_silenceAround yX5_silenceAround, Cond.code yX5_silenceAround cX5_silenceAround 6 none, Cond.methodLink RX5 200 Lib.Math.max.name, Cond.static Lib.Math.max.name, Cond.initialized "java/lang/Math", Cond.code Lib.Math.max.name Lib.Math.max.code 2 (some .int), Cond.methodLink RX5 197 yX2_end, Cond.instanceMethod yX2_end, Cond.selects RX2 yX2_end yX2_end, Cond.code yX2_end cX2_end 3 none, Cond.methodLink RX2 74 yX1_slotsUpTo]
def wsL_law0_r13 : List Cond := [Cond.methodLink RX2 77 yX1_arrivedParts, Cond.instanceMethod yX1_arrivedParts, Cond.selects RX1 yX1_arrivedParts yX1_arrivedParts, Cond.code yX1_arrivedParts cX1_arrivedParts 1 (some .int), Cond.methodLink RX2 80 yX2_countFailure, Cond.instanceMethod yX2_countFailure, Cond.selects RX2 yX2_countFailure yX2_countFailure, Cond.code yX2_countFailure cX2_countFailure 1 none, Cond.methodLink RX2 96 Lib.Math.min.name, Cond.static Lib.Math.min.name, Cond.code Lib.Math.min.name Lib.Math.min.code 2 (some .int), Cond.methodLink RX2 93 yX0_removeFirst, Cond.instanceMethod yX0_removeFirst, Cond.selects RX0 yX0_removeFirst yX0_removeFirst, Cond.code yX0_removeFirst cX0_removeFirst 2 none, Cond.methodLink RX0 22 Lib.Math.max.name, Cond.methodLink RX2 90 yX2_startAfresh, Cond.instanceMethod yX2_startAfresh, Cond.selects RX2 yX2_startAfresh yX2_startAfresh, Cond.code yX2_startAfresh cX2_startAfresh 1 none, Cond.methodLink RX2 83 yX2_countSuccess, Cond.instanceMethod yX2_countSuccess, Cond.selects RX2 yX2_countSuccess yX2_countSuccess, Cond.code yX2_countSuccess cX2_countSuccess 2 none]
def wsL_law0_r14 : List Cond := [Cond.methodLink RX2 87 yX0_takeFromFirst, Cond.instanceMethod yX0_takeFromFirst, Cond.selects RX0 yX0_takeFromFirst yX0_takeFromFirst, Cond.code yX0_takeFromFirst cX0_takeFromFirst 2 none, Cond.methodLink RL 60 yL_bits, Cond.static yL_bits, Cond.code yL_bits cL_bits 1 (some .int)]
def wsL_law0 : List Cond := (wsL_law0_r1 ++ (wsL_law0_r2 ++ (wsL_law0_r3 ++ (wsL_law0_r4 ++ (wsL_law0_r5 ++ (wsL_law0_r6 ++ (wsL_law0_r7 ++ (wsL_law0_r8 ++ (wsL_law0_r9 ++ (wsL_law0_r10 ++ (wsL_law0_r11 ++ (wsL_law0_r12 ++ (wsL_law0_r13 ++ wsL_law0_r14))))))))))))) ++ wsX50 ++ wsX30 ++ wsX40 ++ wsX20 ++ wsX00 ++ wsX10 ++ ([] : List Cond)
def wsL_law : List Cond := wsL_law0 ++ (vx_atS RX5 149 "java/lang/IndexOutOfBoundsException" ["java/lang/RuntimeException", "java/lang/Exception"]).filter goodWord ++ (vx_atS RX5 45 "java/lang/IllegalArgumentException" ["java/lang/RuntimeException", "java/lang/Exception"]).filter goodWord ++ (vx_atS RX5 81 "java/lang/IllegalStateException" ["java/lang/RuntimeException", "java/lang/Exception"]).filter goodWord
set_option maxRecDepth 20000 in
theorem wsL_r1_in : ∀ w ∈ wsL_law0_r1, w ∈ lw_tbl := fun w h => (goodIn_p wsL_law0_r1 [33, 36] (by decide +kernel) (by decide +kernel) w h).1
set_option maxRecDepth 20000 in
theorem wsL_r2_in : ∀ w ∈ wsL_law0_r2, w ∈ lw_tbl := fun w h => (goodIn_p wsL_law0_r2 [43, 54, 70] (by decide +kernel) (by decide +kernel) w h).1
set_option maxRecDepth 20000 in
theorem wsL_r3_in : ∀ w ∈ wsL_law0_r3, w ∈ lw_tbl := fun w h => (goodIn_p wsL_law0_r3 [76, 93] (by decide +kernel) (by decide +kernel) w h).1
set_option maxRecDepth 20000 in
theorem wsL_r4_in : ∀ w ∈ wsL_law0_r4, w ∈ lw_tbl := fun w h => (goodIn_p wsL_law0_r4 [370, 309, 193, 374, 378] (by decide +kernel) (by decide +kernel) w h).1
set_option maxRecDepth 20000 in
theorem wsL_r5_in : ∀ w ∈ wsL_law0_r5, w ∈ lw_tbl := fun w h => (goodIn_p wsL_law0_r5 [382, 386, 390, 313, 317, 321] (by decide +kernel) (by decide +kernel) w h).1
set_option maxRecDepth 20000 in
theorem wsL_r6_in : ∀ w ∈ wsL_law0_r6, w ∈ lw_tbl := fun w h => (goodIn_p wsL_law0_r6 [394, 398, 402, 406, 189] (by decide +kernel) (by decide +kernel) w h).1
set_option maxRecDepth 20000 in
theorem wsL_r7_in : ∀ w ∈ wsL_law0_r7, w ∈ lw_tbl := fun w h => (goodIn_p wsL_law0_r7 [282, 285, 288, 292, 304, 296, 300] (by decide +kernel) (by decide +kernel) w h).1
set_option maxRecDepth 20000 in
theorem wsL_r8_in : ∀ w ∈ wsL_law0_r8, w ∈ lw_tbl := fun w h => (goodIn_p wsL_law0_r8 [325, 333, 354, 361] (by decide +kernel) (by decide +kernel) w h).1
end
section
set_option maxRecDepth 20000 in
theorem wsL_r9_in0 : ∀ w ∈ ([Cond.instanceMethod yX0_add, Cond.selects RX0 yX0_add yX0_add, Cond.code yX0_add cX0_add 3 none, Cond.methodLink RL 93 yL_isSlot, Cond.static yL_isSlot] : List Cond), w ∈ lw_tbl := fun w h => (goodIn_p [Cond.instanceMethod yX0_add, Cond.selects RX0 yX0_add yX0_add, Cond.code yX0_add cX0_add 3 none, Cond.methodLink RL 93 yL_isSlot, Cond.static yL_isSlot] [367] (by decide +kernel) (by decide +kernel) w h).1
set_option maxRecDepth 40000 in
theorem is_at : lw_tbl[409]? = some (Cond.code yL_isSlot cL_isSlot 13 (some .boolean)) := by rfl
theorem wsL_r9_in1 : ∀ w ∈ ([Cond.code yL_isSlot cL_isSlot 13 (some .boolean)] : List Cond), w ∈ lw_tbl := fun w h => by
  rw [List.mem_singleton.mp h]
  exact List.mem_of_getElem? is_at
set_option maxRecDepth 20000 in
theorem wsL_r9_in2 : ∀ w ∈ ([Cond.methodLink RL 54 yX5_dropped, Cond.instanceMethod yX5_dropped, Cond.selects RX5 yX5_dropped yX5_dropped, Cond.code yX5_dropped cX5_dropped 2 (some .int), Cond.methodLink RL 57 yX5_pass, Cond.instanceMethod yX5_pass, Cond.selects RX5 yX5_pass yX5_pass, Cond.code yX5_pass cX5_pass 4 (some .int), Cond.methodLink RX5 104 yX5_passOneSlot, Cond.instanceMethod yX5_passOneSlot, Cond.selects RX5 yX5_passOneSlot yX5_passOneSlot, Cond.code yX5_passOneSlot cX5_passOneSlot 3 (some .int), Cond.methodLink RX5 150 yX5_waitOrBegin, Cond.instanceMethod yX5_waitOrBegin, Cond.selects RX5 yX5_waitOrBegin yX5_waitOrBegin, Cond.code yX5_waitOrBegin cX5_waitOrBegin 3 none, Cond.methodLink RX5 160 yX4_next, Cond.instanceMethod yX4_next] : List Cond), w ∈ lw_tbl := fun w h => (goodIn_p [Cond.methodLink RL 54 yX5_dropped, Cond.instanceMethod yX5_dropped, Cond.selects RX5 yX5_dropped yX5_dropped, Cond.code yX5_dropped cX5_dropped 2 (some .int), Cond.methodLink RL 57 yX5_pass, Cond.instanceMethod yX5_pass, Cond.selects RX5 yX5_pass yX5_pass, Cond.code yX5_pass cX5_pass 4 (some .int), Cond.methodLink RX5 104 yX5_passOneSlot, Cond.instanceMethod yX5_passOneSlot, Cond.selects RX5 yX5_passOneSlot yX5_passOneSlot, Cond.code yX5_passOneSlot cX5_passOneSlot 3 (some .int), Cond.methodLink RX5 150 yX5_waitOrBegin, Cond.instanceMethod yX5_waitOrBegin, Cond.selects RX5 yX5_waitOrBegin yX5_waitOrBegin, Cond.code yX5_waitOrBegin cX5_waitOrBegin 3 none, Cond.methodLink RX5 160 yX4_next, Cond.instanceMethod yX4_next] [413, 417, 422, 426] (by decide +kernel) (by decide +kernel) w h).1
theorem wsL_r9_in : ∀ w ∈ wsL_law0_r9, w ∈ lw_tbl := List.forall_mem_append.mpr ⟨wsL_r9_in0, List.forall_mem_append.mpr ⟨wsL_r9_in1, wsL_r9_in2⟩⟩
set_option maxRecDepth 20000 in
theorem wsL_r10_in0 : ∀ w ∈ ([Cond.selects RX4 yX4_next yX4_next, Cond.code yX4_next cX4_next 2 (some .int), Cond.methodLink RX5 163 yX5_restBy, Cond.static yX5_restBy, Cond.code yX5_restBy cX5_restBy 2 (some .int), Cond.methodLink RX5 166 yX5_heardInSlotBefore, Cond.instanceMethod yX5_heardInSlotBefore, Cond.selects RX5 yX5_heardInSlotBefore yX5_heardInSlotBefore, Cond.code yX5_heardInSlotBefore cX5_heardInSlotBefore 3 (some .boolean), Cond.methodLink RX5 169 yX2_begin, Cond.instanceMethod yX2_begin, Cond.selects RX2 yX2_begin yX2_begin] : List Cond), w ∈ lw_tbl := fun w h => (goodIn_p [Cond.selects RX4 yX4_next yX4_next, Cond.code yX4_next cX4_next 2 (some .int), Cond.methodLink RX5 163 yX5_restBy, Cond.static yX5_restBy, Cond.code yX5_restBy cX5_restBy 2 (some .int), Cond.methodLink RX5 166 yX5_heardInSlotBefore, Cond.instanceMethod yX5_heardInSlotBefore, Cond.selects RX5 yX5_heardInSlotBefore yX5_heardInSlotBefore, Cond.code yX5_heardInSlotBefore cX5_heardInSlotBefore 3 (some .boolean), Cond.methodLink RX5 169 yX2_begin, Cond.instanceMethod yX2_begin, Cond.selects RX2 yX2_begin yX2_begin] [430, 433, 437] (by decide +kernel) (by decide +kernel) w h).1
set_option maxRecDepth 20000 in
theorem wsL_r10_in1 : ∀ w ∈ ([Cond.code yX2_begin cX2_begin 4 none, Cond.methodLink RX2 56 yX0_partsOfFirst, Cond.methodLink RX2 60 yJ6_bitCount_0f7a4, Cond.static yJ6_bitCount_0f7a4, Cond.initialized RJ6, Cond.code yJ6_bitCount_0f7a4 cJ6_bitCount_0f7a4 1 (some .int), Cond.constant RJ6 265 (1431655765), Cond.constant RJ6 266 (858993459), Cond.constant RJ6 267 (252645135), Cond.methodLink RX2 66 yX1_begin, Cond.instanceMethod yX1_begin, Cond.selects RX1 yX1_begin yX1_begin] : List Cond), w ∈ lw_tbl := fun w h => (goodIn_p [Cond.code yX2_begin cX2_begin 4 none, Cond.methodLink RX2 56 yX0_partsOfFirst, Cond.methodLink RX2 60 yJ6_bitCount_0f7a4, Cond.static yJ6_bitCount_0f7a4, Cond.initialized RJ6, Cond.code yJ6_bitCount_0f7a4 cJ6_bitCount_0f7a4 1 (some .int), Cond.constant RJ6 265 (1431655765), Cond.constant RJ6 266 (858993459), Cond.constant RJ6 267 (252645135), Cond.methodLink RX2 66 yX1_begin, Cond.instanceMethod yX1_begin, Cond.selects RX1 yX1_begin yX1_begin] [441, 445] (by decide +kernel) (by decide +kernel) w h).1
theorem wsL_r10_in : ∀ w ∈ wsL_law0_r10, w ∈ lw_tbl := List.forall_mem_append.mpr ⟨wsL_r10_in0, wsL_r10_in1⟩
set_option maxRecDepth 20000 in
theorem wsL_r11_in0 : ∀ w ∈ ([Cond.code yX1_begin cX1_begin 4 none, Cond.methodLink RX1 34 yX1_firstSlotOfParts, Cond.instanceMethod yX1_firstSlotOfParts, Cond.selects RX1 yX1_firstSlotOfParts yX1_firstSlotOfParts, Cond.code yX1_firstSlotOfParts cX1_firstSlotOfParts 1 (some .int), Cond.methodLink RX1 38 yJ6_bitCount_0f7a4, Cond.methodLink RX5 153 yX5_sendInSlot, Cond.instanceMethod yX5_sendInSlot, Cond.selects RX5 yX5_sendInSlot yX5_sendInSlot, Cond.code yX5_sendInSlot cX5_sendInSlot 3 none, Cond.methodLink RX5 175 yX0_goalOfFirst, Cond.instanceMethod yX0_goalOfFirst] : List Cond), w ∈ lw_tbl := fun w h => (goodIn_p [Cond.code yX1_begin cX1_begin 4 none, Cond.methodLink RX1 34 yX1_firstSlotOfParts, Cond.instanceMethod yX1_firstSlotOfParts, Cond.selects RX1 yX1_firstSlotOfParts yX1_firstSlotOfParts, Cond.code yX1_firstSlotOfParts cX1_firstSlotOfParts 1 (some .int), Cond.methodLink RX1 38 yJ6_bitCount_0f7a4, Cond.methodLink RX5 153 yX5_sendInSlot, Cond.instanceMethod yX5_sendInSlot, Cond.selects RX5 yX5_sendInSlot yX5_sendInSlot, Cond.code yX5_sendInSlot cX5_sendInSlot 3 none, Cond.methodLink RX5 175 yX0_goalOfFirst, Cond.instanceMethod yX0_goalOfFirst] [452, 456, 461] (by decide +kernel) (by decide +kernel) w h).1
set_option maxRecDepth 20000 in
theorem wsL_r11_in1 : ∀ w ∈ ([Cond.selects RX0 yX0_goalOfFirst yX0_goalOfFirst, Cond.code yX0_goalOfFirst cX0_goalOfFirst 1 (some .int), Cond.methodLink RX5 178 yX5_isBrokenAt, Cond.instanceMethod yX5_isBrokenAt, Cond.selects RX5 yX5_isBrokenAt yX5_isBrokenAt, Cond.code yX5_isBrokenAt cX5_isBrokenAt 7 (some .boolean), Cond.methodLink RX5 182 yX1_breakIn, Cond.instanceMethod yX1_breakIn, Cond.selects RX1 yX1_breakIn yX1_breakIn, Cond.code yX1_breakIn cX1_breakIn 2 none, Cond.methodLink RX1 44 yX1_isRequest, Cond.instanceMethod yX1_isRequest] : List Cond), w ∈ lw_tbl := fun w h => (goodIn_p [Cond.selects RX0 yX0_goalOfFirst yX0_goalOfFirst, Cond.code yX0_goalOfFirst cX0_goalOfFirst 1 (some .int), Cond.methodLink RX5 178 yX5_isBrokenAt, Cond.instanceMethod yX5_isBrokenAt, Cond.selects RX5 yX5_isBrokenAt yX5_isBrokenAt, Cond.code yX5_isBrokenAt cX5_isBrokenAt 7 (some .boolean), Cond.methodLink RX5 182 yX1_breakIn, Cond.instanceMethod yX1_breakIn, Cond.selects RX1 yX1_breakIn yX1_breakIn, Cond.code yX1_breakIn cX1_breakIn 2 none, Cond.methodLink RX1 44 yX1_isRequest, Cond.instanceMethod yX1_isRequest] [465, 469, 473] (by decide +kernel) (by decide +kernel) w h).1
theorem wsL_r11_in : ∀ w ∈ wsL_law0_r11, w ∈ lw_tbl := List.forall_mem_append.mpr ⟨wsL_r11_in0, wsL_r11_in1⟩
set_option maxRecDepth 20000 in
theorem wsL_r12_in0 : ∀ w ∈ ([Cond.selects RX1 yX1_isRequest yX1_isRequest, Cond.code yX1_isRequest cX1_isRequest 2 (some .boolean), Cond.methodLink RX1 48 yX1_partIn, Cond.instanceMethod yX1_partIn, Cond.selects RX1 yX1_partIn yX1_partIn, Cond.code yX1_partIn cX1_partIn 5 (some .int), Cond.methodLink RX5 156 yX5_endsAfterSlot, Cond.instanceMethod yX5_endsAfterSlot, Cond.selects RX5 yX5_endsAfterSlot yX5_endsAfterSlot, Cond.code yX5_endsAfterSlot cX5_endsAfterSlot 3 (some .boolean), Cond.methodLink RX5 185 yX1_isRequest, Cond.methodLink RX5 194 yX5_silenceAround] : List Cond), w ∈ lw_tbl := fun w h => (goodIn_p [Cond.selects RX1 yX1_isRequest yX1_isRequest, Cond.code yX1_isRequest cX1_isRequest 2 (some .boolean), Cond.methodLink RX1 48 yX1_partIn, Cond.instanceMethod yX1_partIn, Cond.selects RX1 yX1_partIn yX1_partIn, Cond.code yX1_partIn cX1_partIn 5 (some .int), Cond.methodLink RX5 156 yX5_endsAfterSlot, Cond.instanceMethod yX5_endsAfterSlot, Cond.selects RX5 yX5_endsAfterSlot yX5_endsAfterSlot, Cond.code yX5_endsAfterSlot cX5_endsAfterSlot 3 (some .boolean), Cond.methodLink RX5 185 yX1_isRequest, Cond.methodLink RX5 194 yX5_silenceAround] [477, 481, 485] (by decide +kernel) (by decide +kernel) w h).1
set_option maxRecDepth 20000 in
theorem wsL_r12_in1 : ∀ w ∈ ([Cond.instanceMethod yX5_silenceAround, Cond.selects RX5 yX5_silenceAround yX5_silenceAround, Cond.code yX5_silenceAround cX5_silenceAround 6 none, Cond.methodLink RX5 200 Lib.Math.max.name, Cond.static Lib.Math.max.name, Cond.initialized "java/lang/Math", Cond.code Lib.Math.max.name Lib.Math.max.code 2 (some .int), Cond.methodLink RX5 197 yX2_end, Cond.instanceMethod yX2_end, Cond.selects RX2 yX2_end yX2_end, Cond.code yX2_end cX2_end 3 none, Cond.methodLink RX2 74 yX1_slotsUpTo] : List Cond), w ∈ lw_tbl := fun w h => (goodIn_p [Cond.instanceMethod yX5_silenceAround, Cond.selects RX5 yX5_silenceAround yX5_silenceAround, Cond.code yX5_silenceAround cX5_silenceAround 6 none, Cond.methodLink RX5 200 Lib.Math.max.name, Cond.static Lib.Math.max.name, Cond.initialized "java/lang/Math", Cond.code Lib.Math.max.name Lib.Math.max.code 2 (some .int), Cond.methodLink RX5 197 yX2_end, Cond.instanceMethod yX2_end, Cond.selects RX2 yX2_end yX2_end, Cond.code yX2_end cX2_end 3 none, Cond.methodLink RX2 74 yX1_slotsUpTo] [490, 493, 497] (by decide +kernel) (by decide +kernel) w h).1
theorem wsL_r12_in : ∀ w ∈ wsL_law0_r12, w ∈ lw_tbl := List.forall_mem_append.mpr ⟨wsL_r12_in0, wsL_r12_in1⟩
set_option maxRecDepth 20000 in
theorem wsL_r13_in0 : ∀ w ∈ ([Cond.methodLink RX2 77 yX1_arrivedParts, Cond.instanceMethod yX1_arrivedParts, Cond.selects RX1 yX1_arrivedParts yX1_arrivedParts, Cond.code yX1_arrivedParts cX1_arrivedParts 1 (some .int), Cond.methodLink RX2 80 yX2_countFailure, Cond.instanceMethod yX2_countFailure, Cond.selects RX2 yX2_countFailure yX2_countFailure, Cond.code yX2_countFailure cX2_countFailure 1 none, Cond.methodLink RX2 96 Lib.Math.min.name, Cond.static Lib.Math.min.name, Cond.code Lib.Math.min.name Lib.Math.min.code 2 (some .int), Cond.methodLink RX2 93 yX0_removeFirst] : List Cond), w ∈ lw_tbl := fun w h => (goodIn_p [Cond.methodLink RX2 77 yX1_arrivedParts, Cond.instanceMethod yX1_arrivedParts, Cond.selects RX1 yX1_arrivedParts yX1_arrivedParts, Cond.code yX1_arrivedParts cX1_arrivedParts 1 (some .int), Cond.methodLink RX2 80 yX2_countFailure, Cond.instanceMethod yX2_countFailure, Cond.selects RX2 yX2_countFailure yX2_countFailure, Cond.code yX2_countFailure cX2_countFailure 1 none, Cond.methodLink RX2 96 Lib.Math.min.name, Cond.static Lib.Math.min.name, Cond.code Lib.Math.min.name Lib.Math.min.code 2 (some .int), Cond.methodLink RX2 93 yX0_removeFirst] [502, 506, 509] (by decide +kernel) (by decide +kernel) w h).1
set_option maxRecDepth 20000 in
theorem wsL_r13_in1 : ∀ w ∈ ([Cond.instanceMethod yX0_removeFirst, Cond.selects RX0 yX0_removeFirst yX0_removeFirst, Cond.code yX0_removeFirst cX0_removeFirst 2 none, Cond.methodLink RX0 22 Lib.Math.max.name, Cond.methodLink RX2 90 yX2_startAfresh, Cond.instanceMethod yX2_startAfresh, Cond.selects RX2 yX2_startAfresh yX2_startAfresh, Cond.code yX2_startAfresh cX2_startAfresh 1 none, Cond.methodLink RX2 83 yX2_countSuccess, Cond.instanceMethod yX2_countSuccess, Cond.selects RX2 yX2_countSuccess yX2_countSuccess, Cond.code yX2_countSuccess cX2_countSuccess 2 none] : List Cond), w ∈ lw_tbl := fun w h => (goodIn_p [Cond.instanceMethod yX0_removeFirst, Cond.selects RX0 yX0_removeFirst yX0_removeFirst, Cond.code yX0_removeFirst cX0_removeFirst 2 none, Cond.methodLink RX0 22 Lib.Math.max.name, Cond.methodLink RX2 90 yX2_startAfresh, Cond.instanceMethod yX2_startAfresh, Cond.selects RX2 yX2_startAfresh yX2_startAfresh, Cond.code yX2_startAfresh cX2_startAfresh 1 none, Cond.methodLink RX2 83 yX2_countSuccess, Cond.instanceMethod yX2_countSuccess, Cond.selects RX2 yX2_countSuccess yX2_countSuccess, Cond.code yX2_countSuccess cX2_countSuccess 2 none] [513, 518, 523] (by decide +kernel) (by decide +kernel) w h).1
theorem wsL_r13_in : ∀ w ∈ wsL_law0_r13, w ∈ lw_tbl := List.forall_mem_append.mpr ⟨wsL_r13_in0, wsL_r13_in1⟩
set_option maxRecDepth 20000 in
theorem wsL_r14_in0 : ∀ w ∈ ([Cond.methodLink RX2 87 yX0_takeFromFirst, Cond.instanceMethod yX0_takeFromFirst, Cond.selects RX0 yX0_takeFromFirst yX0_takeFromFirst, Cond.code yX0_takeFromFirst cX0_takeFromFirst 2 none, Cond.methodLink RL 60 yL_bits, Cond.static yL_bits, Cond.code yL_bits cL_bits 1 (some .int)] : List Cond), w ∈ lw_tbl := fun w h => (goodIn_p [Cond.methodLink RX2 87 yX0_takeFromFirst, Cond.instanceMethod yX0_takeFromFirst, Cond.selects RX0 yX0_takeFromFirst yX0_takeFromFirst, Cond.code yX0_takeFromFirst cX0_takeFromFirst 2 none, Cond.methodLink RL 60 yL_bits, Cond.static yL_bits, Cond.code yL_bits cL_bits 1 (some .int)] [527, 530] (by decide +kernel) (by decide +kernel) w h).1
theorem wsL_r14_in : ∀ w ∈ wsL_law0_r14, w ∈ lw_tbl := wsL_r14_in0
end
section
theorem wsX50_in9 : ∀ w ∈ wsX50, w ∈ lw_tbl := by decide +kernel
theorem wsX30_in9 : ∀ w ∈ wsX30, w ∈ lw_tbl := by decide +kernel
theorem wsX40_in9 : ∀ w ∈ wsX40, w ∈ lw_tbl := by decide +kernel
theorem wsX20_in9 : ∀ w ∈ wsX20, w ∈ lw_tbl := by decide +kernel
theorem wsX00_in9 : ∀ w ∈ wsX00, w ∈ lw_tbl := by decide +kernel
theorem wsX10_in9 : ∀ w ∈ wsX10, w ∈ lw_tbl := by decide +kernel
theorem wsL_law_in0 : ∀ w ∈ wsL_law0, w ∈ lw_tbl := (List.forall_mem_append.mpr ⟨(List.forall_mem_append.mpr ⟨(List.forall_mem_append.mpr ⟨(List.forall_mem_append.mpr ⟨(List.forall_mem_append.mpr ⟨(List.forall_mem_append.mpr ⟨(List.forall_mem_append.mpr ⟨(List.forall_mem_append.mpr ⟨wsL_r1_in, List.forall_mem_append.mpr ⟨wsL_r2_in, List.forall_mem_append.mpr ⟨wsL_r3_in, List.forall_mem_append.mpr ⟨wsL_r4_in, List.forall_mem_append.mpr ⟨wsL_r5_in, List.forall_mem_append.mpr ⟨wsL_r6_in, List.forall_mem_append.mpr ⟨wsL_r7_in, List.forall_mem_append.mpr ⟨wsL_r8_in, List.forall_mem_append.mpr ⟨wsL_r9_in, List.forall_mem_append.mpr ⟨wsL_r10_in, List.forall_mem_append.mpr ⟨wsL_r11_in, List.forall_mem_append.mpr ⟨wsL_r12_in, List.forall_mem_append.mpr ⟨wsL_r13_in, wsL_r14_in⟩⟩⟩⟩⟩⟩⟩⟩⟩⟩⟩⟩⟩), wsX50_in9⟩), wsX30_in9⟩), wsX40_in9⟩), wsX20_in9⟩), wsX00_in9⟩), wsX10_in9⟩), fun _ h => absurd h List.not_mem_nil⟩)
theorem wsL_law_x0 : ∀ w ∈ (vx_atS RX5 149 "java/lang/IndexOutOfBoundsException" ["java/lang/RuntimeException", "java/lang/Exception"]).filter goodWord, w ∈ lw_tbl := by decide +kernel
theorem wsL_law_x1 : ∀ w ∈ (vx_atS RX5 45 "java/lang/IllegalArgumentException" ["java/lang/RuntimeException", "java/lang/Exception"]).filter goodWord, w ∈ lw_tbl := by decide +kernel
theorem wsL_law_x2 : ∀ w ∈ (vx_atS RX5 81 "java/lang/IllegalStateException" ["java/lang/RuntimeException", "java/lang/Exception"]).filter goodWord, w ∈ lw_tbl := by decide +kernel
theorem wsL_law_in : ∀ w ∈ wsL_law, w ∈ lw_tbl := fun w h => (List.mem_append.mp h).elim (fun h => (List.mem_append.mp h).elim (fun h => (List.mem_append.mp h).elim (fun h => wsL_law_in0 w h) (fun h => wsL_law_x0 w h)) (fun h => wsL_law_x1 w h)) (fun h => wsL_law_x2 w h)
theorem inlX0 : ∀ w ∈ wsX00, w ∈ wsL_law := fun _ h => List.mem_append_left _ (List.mem_append_left _ (List.mem_append_left _ (List.mem_append_left _ (List.mem_append_left _ (List.mem_append_right _ h)))))
theorem inX0 : ∀ w ∈ wsX00, w ∈ lw_tbl := fun w h => wsL_law_in w (inlX0 w h)
theorem inlX1 : ∀ w ∈ wsX10, w ∈ wsL_law := fun _ h => List.mem_append_left _ (List.mem_append_left _ (List.mem_append_left _ (List.mem_append_left _ (List.mem_append_right _ h))))
theorem inX1 : ∀ w ∈ wsX10, w ∈ lw_tbl := fun w h => wsL_law_in w (inlX1 w h)
theorem inlX2 : ∀ w ∈ wsX20, w ∈ wsL_law := fun _ h => List.mem_append_left _ (List.mem_append_left _ (List.mem_append_left _ (List.mem_append_left _ (List.mem_append_left _ (List.mem_append_left _ (List.mem_append_right _ h))))))
theorem inX2 : ∀ w ∈ wsX20, w ∈ lw_tbl := fun w h => wsL_law_in w (inlX2 w h)
theorem inlX3 : ∀ w ∈ wsX30, w ∈ wsL_law := fun _ h => List.mem_append_left _ (List.mem_append_left _ (List.mem_append_left _ (List.mem_append_left _ (List.mem_append_left _ (List.mem_append_left _ (List.mem_append_left _ (List.mem_append_left _ (List.mem_append_right _ h))))))))
theorem inX3 : ∀ w ∈ wsX30, w ∈ lw_tbl := fun w h => wsL_law_in w (inlX3 w h)
theorem inlX4 : ∀ w ∈ wsX40, w ∈ wsL_law := fun _ h => List.mem_append_left _ (List.mem_append_left _ (List.mem_append_left _ (List.mem_append_left _ (List.mem_append_left _ (List.mem_append_left _ (List.mem_append_left _ (List.mem_append_right _ h)))))))
theorem inX4 : ∀ w ∈ wsX40, w ∈ lw_tbl := fun w h => wsL_law_in w (inlX4 w h)
theorem inlX5 : ∀ w ∈ wsX50, w ∈ wsL_law := fun _ h => List.mem_append_left _ (List.mem_append_left _ (List.mem_append_left _ (List.mem_append_left _ (List.mem_append_left _ (List.mem_append_left _ (List.mem_append_left _ (List.mem_append_left _ (List.mem_append_left _ (List.mem_append_right _ h)))))))))
theorem inX5 : ∀ w ∈ wsX50, w ∈ lw_tbl := fun w h => wsL_law_in w (inlX5 w h)
theorem inX6 : ∀ w ∈ wsX60, w ∈ lw_tbl := by decide +kernel
theorem inJ6 : ∀ w ∈ wsJ60, w ∈ lw_tbl := by decide +kernel
theorem inJ9 : ∀ w ∈ wsJ90, w ∈ lw_tbl := by decide +kernel
theorem inJ0 : ∀ w ∈ wsJ00, w ∈ lw_tbl := by decide +kernel
theorem dL_tells_0 : decode cL_tells 0 = .ok (.aload_n 0, 1) := by decide +kernel
theorem dL_tells_1 : decode cL_tells 1 = .ok (.iload_n 1, 1) := by decide +kernel
theorem dL_tells_2 : decode cL_tells 2 = .ok (.invokevirtual 7, 3) := by decide +kernel
theorem dL_tells_5 : decode cL_tells 5 = .ok (.ireturn, 1) := by decide +kernel
theorem dL_tells_6 : decode cL_tells 6 = .ok (.astore_n 2, 1) := by decide +kernel
theorem dL_tells_7 : decode cL_tells 7 = .ok (.bipush (-3), 2) := by decide +kernel
theorem dL_tells_9 : decode cL_tells 9 = .ok (.ireturn, 1) := by decide +kernel
theorem dL_frames_0 : decode cL_frames 0 = .ok (.aload_n 0, 1) := by decide +kernel
theorem dL_frames_1 : decode cL_frames 1 = .ok (.iload_n 1, 1) := by decide +kernel
theorem dL_frames_2 : decode cL_frames 2 = .ok (.iload_n 2, 1) := by decide +kernel
theorem dL_frames_3 : decode cL_frames 3 = .ok (.iload_n 3, 1) := by decide +kernel
theorem dL_frames_4 : decode cL_frames 4 = .ok (.invokevirtual 15, 3) := by decide +kernel
theorem dL_frames_7 : decode cL_frames 7 = .ok (.ireturn, 1) := by decide +kernel
theorem dL_frames_8 : decode cL_frames 8 = .ok (.astore 4, 2) := by decide +kernel
theorem dL_frames_10 : decode cL_frames 10 = .ok (.bipush (-3), 2) := by decide +kernel
theorem dL_frames_12 : decode cL_frames 12 = .ok (.ireturn, 1) := by decide +kernel
theorem dL_bits_0 : decode cL_bits 0 = .ok (.iload_n 0, 1) := by decide +kernel
theorem dL_bits_1 : decode cL_bits 1 = .ok (.iconst 1, 1) := by decide +kernel
theorem dL_bits_2 : decode cL_bits 2 = .ok (.iand, 1) := by decide +kernel
theorem dL_bits_3 : decode cL_bits 3 = .ok (.iload_n 0, 1) := by decide +kernel
theorem dL_bits_4 : decode cL_bits 4 = .ok (.iconst 1, 1) := by decide +kernel
theorem dL_bits_5 : decode cL_bits 5 = .ok (.ishr, 1) := by decide +kernel
theorem dL_bits_6 : decode cL_bits 6 = .ok (.iconst 1, 1) := by decide +kernel
theorem dL_bits_7 : decode cL_bits 7 = .ok (.iand, 1) := by decide +kernel
theorem dL_bits_8 : decode cL_bits 8 = .ok (.iadd, 1) := by decide +kernel
theorem dL_bits_9 : decode cL_bits 9 = .ok (.iload_n 0, 1) := by decide +kernel
theorem dL_bits_10 : decode cL_bits 10 = .ok (.iconst 2, 1) := by decide +kernel
theorem dL_bits_11 : decode cL_bits 11 = .ok (.ishr, 1) := by decide +kernel
theorem dL_bits_12 : decode cL_bits 12 = .ok (.iconst 1, 1) := by decide +kernel
theorem dL_bits_13 : decode cL_bits 13 = .ok (.iand, 1) := by decide +kernel
theorem dL_bits_14 : decode cL_bits 14 = .ok (.iadd, 1) := by decide +kernel
theorem dL_bits_15 : decode cL_bits 15 = .ok (.iload_n 0, 1) := by decide +kernel
theorem dL_bits_16 : decode cL_bits 16 = .ok (.iconst 3, 1) := by decide +kernel
theorem dL_bits_17 : decode cL_bits 17 = .ok (.ishr, 1) := by decide +kernel
theorem dL_bits_18 : decode cL_bits 18 = .ok (.iconst 1, 1) := by decide +kernel
theorem dL_bits_19 : decode cL_bits 19 = .ok (.iand, 1) := by decide +kernel
theorem dL_bits_20 : decode cL_bits 20 = .ok (.iadd, 1) := by decide +kernel
theorem dL_bits_21 : decode cL_bits 21 = .ok (.ireturn, 1) := by decide +kernel
theorem dL_isStation_0 : decode cL_isStation 0 = .ok (.iload_n 2, 1) := by decide +kernel
theorem dL_isStation_1 : decode cL_isStation 1 = .ok (.ifCond .ne 7, 3) := by decide +kernel
theorem dL_isStation_4 : decode cL_isStation 4 = .ok (.iconst 3, 1) := by decide +kernel
theorem dL_isStation_5 : decode cL_isStation 5 = .ok (.goto 5, 3) := by decide +kernel
theorem dL_isStation_8 : decode cL_isStation 8 = .ok (.bipush 7, 2) := by decide +kernel
theorem dL_isStation_10 : decode cL_isStation 10 = .ok (.istore_n 3, 1) := by decide +kernel
theorem dL_isStation_11 : decode cL_isStation 11 = .ok (.aload_n 0, 1) := by decide +kernel
theorem dL_isStation_12 : decode cL_isStation 12 = .ok (.iload_n 1, 1) := by decide +kernel
theorem dL_isStation_13 : decode cL_isStation 13 = .ok (.invokevirtual 19, 3) := by decide +kernel
theorem dL_isStation_16 : decode cL_isStation 16 = .ok (.istore 4, 2) := by decide +kernel
theorem dL_isStation_18 : decode cL_isStation 18 = .ok (.aload_n 0, 1) := by decide +kernel
theorem dL_isStation_19 : decode cL_isStation 19 = .ok (.iload_n 1, 1) := by decide +kernel
theorem dL_isStation_20 : decode cL_isStation 20 = .ok (.invokevirtual 22, 3) := by decide +kernel
theorem dL_isStation_23 : decode cL_isStation 23 = .ok (.istore 5, 2) := by decide +kernel
theorem dL_isStation_25 : decode cL_isStation 25 = .ok (.aload_n 0, 1) := by decide +kernel
theorem dL_isStation_26 : decode cL_isStation 26 = .ok (.iload_n 1, 1) := by decide +kernel
theorem dL_isStation_27 : decode cL_isStation 27 = .ok (.invokevirtual 25, 3) := by decide +kernel
theorem dL_isStation_30 : decode cL_isStation 30 = .ok (.istore 6, 2) := by decide +kernel
theorem dL_isStation_32 : decode cL_isStation 32 = .ok (.iload 5, 2) := by decide +kernel
theorem dL_isStation_34 : decode cL_isStation 34 = .ok (.ifCond .lt 49, 3) := by decide +kernel
theorem dL_isStation_37 : decode cL_isStation 37 = .ok (.iload 5, 2) := by decide +kernel
theorem dL_isStation_39 : decode cL_isStation 39 = .ok (.iconst 5, 1) := by decide +kernel
theorem dL_isStation_40 : decode cL_isStation 40 = .ok (.if_icmp .ge 43, 3) := by decide +kernel
theorem dL_isStation_43 : decode cL_isStation 43 = .ok (.iload 6, 2) := by decide +kernel
theorem dL_isStation_45 : decode cL_isStation 45 = .ok (.iconst (-1), 1) := by decide +kernel
theorem dL_isStation_46 : decode cL_isStation 46 = .ok (.if_icmp .lt 37, 3) := by decide +kernel
theorem dL_isStation_49 : decode cL_isStation 49 = .ok (.iload 6, 2) := by decide +kernel
theorem dL_isStation_51 : decode cL_isStation 51 = .ok (.bipush 31, 2) := by decide +kernel
theorem dL_isStation_53 : decode cL_isStation 53 = .ok (.if_icmp .gt 30, 3) := by decide +kernel
theorem dL_isStation_56 : decode cL_isStation 56 = .ok (.aload_n 0, 1) := by decide +kernel
theorem dL_isStation_57 : decode cL_isStation 57 = .ok (.iload_n 1, 1) := by decide +kernel
theorem dL_isStation_58 : decode cL_isStation 58 = .ok (.invokevirtual 28, 3) := by decide +kernel
theorem dL_isStation_61 : decode cL_isStation 61 = .ok (.ifCond .lt 22, 3) := by decide +kernel
theorem dL_isStation_64 : decode cL_isStation 64 = .ok (.aload_n 0, 1) := by decide +kernel
theorem dL_isStation_65 : decode cL_isStation 65 = .ok (.iload_n 1, 1) := by decide +kernel
theorem dL_isStation_66 : decode cL_isStation 66 = .ok (.invokevirtual 28, 3) := by decide +kernel
theorem dL_isStation_69 : decode cL_isStation 69 = .ok (.aload_n 0, 1) := by decide +kernel
theorem dL_isStation_70 : decode cL_isStation 70 = .ok (.invokevirtual 31, 3) := by decide +kernel
theorem dL_isStation_73 : decode cL_isStation 73 = .ok (.bipush 8, 2) := by decide +kernel
theorem dL_isStation_75 : decode cL_isStation 75 = .ok (.iadd, 1) := by decide +kernel
theorem dL_isStation_76 : decode cL_isStation 76 = .ok (.if_icmp .gt 7, 3) := by decide +kernel
theorem dL_isStation_79 : decode cL_isStation 79 = .ok (.iconst 1, 1) := by decide +kernel
theorem dL_isStation_80 : decode cL_isStation 80 = .ok (.goto 4, 3) := by decide +kernel
theorem dL_isStation_83 : decode cL_isStation 83 = .ok (.iconst 0, 1) := by decide +kernel
theorem dL_isStation_84 : decode cL_isStation 84 = .ok (.istore 7, 2) := by decide +kernel
theorem dL_isStation_86 : decode cL_isStation 86 = .ok (.iload 7, 2) := by decide +kernel
theorem dL_isStation_88 : decode cL_isStation 88 = .ok (.ifCond .eq 73, 3) := by decide +kernel
theorem dL_isStation_91 : decode cL_isStation 91 = .ok (.iload 4, 2) := by decide +kernel
theorem dL_isStation_93 : decode cL_isStation 93 = .ok (.iconst 3, 1) := by decide +kernel
theorem dL_isStation_94 : decode cL_isStation 94 = .ok (.if_icmp .eq 24, 3) := by decide +kernel
theorem dL_isStation_97 : decode cL_isStation 97 = .ok (.iload 4, 2) := by decide +kernel
theorem dL_isStation_99 : decode cL_isStation 99 = .ok (.bipush 7, 2) := by decide +kernel
theorem dL_isStation_101 : decode cL_isStation 101 = .ok (.if_icmp .eq 17, 3) := by decide +kernel
theorem dL_isStation_104 : decode cL_isStation 104 = .ok (.iload 4, 2) := by decide +kernel
theorem dL_isStation_106 : decode cL_isStation 106 = .ok (.bipush 15, 2) := by decide +kernel
theorem dL_isStation_108 : decode cL_isStation 108 = .ok (.if_icmp .eq 10, 3) := by decide +kernel
theorem dL_isStation_111 : decode cL_isStation 111 = .ok (.iload 4, 2) := by decide +kernel
theorem dL_isStation_113 : decode cL_isStation 113 = .ok (.bipush 31, 2) := by decide +kernel
theorem dL_isStation_115 : decode cL_isStation 115 = .ok (.if_icmp .ne 46, 3) := by decide +kernel
theorem dL_isStation_118 : decode cL_isStation 118 = .ok (.iload 4, 2) := by decide +kernel
theorem dL_isStation_120 : decode cL_isStation 120 = .ok (.iload_n 3, 1) := by decide +kernel
theorem dL_isStation_121 : decode cL_isStation 121 = .ok (.iload 4, 2) := by decide +kernel
theorem dL_isStation_123 : decode cL_isStation 123 = .ok (.if_icmp .ge 7, 3) := by decide +kernel
theorem dL_isStation_126 : decode cL_isStation 126 = .ok (.iload_n 3, 1) := by decide +kernel
theorem dL_isStation_127 : decode cL_isStation 127 = .ok (.goto 5, 3) := by decide +kernel
theorem dL_isStation_130 : decode cL_isStation 130 = .ok (.iload 4, 2) := by decide +kernel
theorem dL_isStation_132 : decode cL_isStation 132 = .ok (.if_icmp .lt 29, 3) := by decide +kernel
theorem dL_isStation_135 : decode cL_isStation 135 = .ok (.aload_n 0, 1) := by decide +kernel
theorem dL_isStation_136 : decode cL_isStation 136 = .ok (.iload_n 1, 1) := by decide +kernel
theorem dL_isStation_137 : decode cL_isStation 137 = .ok (.invokevirtual 35, 3) := by decide +kernel
theorem dL_isStation_140 : decode cL_isStation 140 = .ok (.ifCond .eq 17, 3) := by decide +kernel
theorem dL_isStation_143 : decode cL_isStation 143 = .ok (.iload 6, 2) := by decide +kernel
theorem dL_isStation_145 : decode cL_isStation 145 = .ok (.iconst (-1), 1) := by decide +kernel
theorem dL_isStation_146 : decode cL_isStation 146 = .ok (.if_icmp .ne 15, 3) := by decide +kernel
theorem dL_isStation_149 : decode cL_isStation 149 = .ok (.aload_n 0, 1) := by decide +kernel
theorem dL_isStation_150 : decode cL_isStation 150 = .ok (.iload_n 1, 1) := by decide +kernel
theorem dL_isStation_151 : decode cL_isStation 151 = .ok (.invokevirtual 39, 3) := by decide +kernel
theorem dL_isStation_154 : decode cL_isStation 154 = .ok (.ifCond .le 7, 3) := by decide +kernel
theorem dL_isStation_157 : decode cL_isStation 157 = .ok (.iconst 1, 1) := by decide +kernel
theorem dL_isStation_158 : decode cL_isStation 158 = .ok (.goto 4, 3) := by decide +kernel
theorem dL_isStation_161 : decode cL_isStation 161 = .ok (.iconst 0, 1) := by decide +kernel
theorem dL_isStation_162 : decode cL_isStation 162 = .ok (.istore 7, 2) := by decide +kernel
theorem dL_isStation_164 : decode cL_isStation 164 = .ok (.iload 7, 2) := by decide +kernel
theorem dL_isStation_166 : decode cL_isStation 166 = .ok (.ifCond .eq 63, 3) := by decide +kernel
theorem dL_isStation_169 : decode cL_isStation 169 = .ok (.aload_n 0, 1) := by decide +kernel
theorem dL_isStation_170 : decode cL_isStation 170 = .ok (.iload_n 1, 1) := by decide +kernel
theorem dL_isStation_171 : decode cL_isStation 171 = .ok (.invokevirtual 39, 3) := by decide +kernel
theorem dL_isStation_174 : decode cL_isStation 174 = .ok (.ifCond .lt 55, 3) := by decide +kernel
theorem dL_isStation_177 : decode cL_isStation 177 = .ok (.aload_n 0, 1) := by decide +kernel
theorem dL_isStation_178 : decode cL_isStation 178 = .ok (.iload_n 1, 1) := by decide +kernel
theorem dL_isStation_179 : decode cL_isStation 179 = .ok (.invokevirtual 39, 3) := by decide +kernel
theorem dL_isStation_182 : decode cL_isStation 182 = .ok (.iconst 5, 1) := by decide +kernel
theorem dL_isStation_183 : decode cL_isStation 183 = .ok (.if_icmp .gt 46, 3) := by decide +kernel
theorem dL_isStation_186 : decode cL_isStation 186 = .ok (.aload_n 0, 1) := by decide +kernel
theorem dL_isStation_187 : decode cL_isStation 187 = .ok (.iload_n 1, 1) := by decide +kernel
theorem dL_isStation_188 : decode cL_isStation 188 = .ok (.invokevirtual 39, 3) := by decide +kernel
theorem dL_isStation_191 : decode cL_isStation 191 = .ok (.ifCond .ne 7, 3) := by decide +kernel
theorem dL_isStation_194 : decode cL_isStation 194 = .ok (.iconst 1, 1) := by decide +kernel
theorem dL_isStation_195 : decode cL_isStation 195 = .ok (.goto 4, 3) := by decide +kernel
theorem dL_isStation_198 : decode cL_isStation 198 = .ok (.iconst 0, 1) := by decide +kernel
theorem dL_isStation_199 : decode cL_isStation 199 = .ok (.aload_n 0, 1) := by decide +kernel
theorem dL_isStation_200 : decode cL_isStation 200 = .ok (.iload_n 1, 1) := by decide +kernel
theorem dL_isStation_201 : decode cL_isStation 201 = .ok (.invokevirtual 42, 3) := by decide +kernel
theorem dL_isStation_204 : decode cL_isStation 204 = .ok (.ifCond .ne 7, 3) := by decide +kernel
theorem dL_isStation_207 : decode cL_isStation 207 = .ok (.iconst 1, 1) := by decide +kernel
theorem dL_isStation_208 : decode cL_isStation 208 = .ok (.goto 4, 3) := by decide +kernel
theorem dL_isStation_211 : decode cL_isStation 211 = .ok (.iconst 0, 1) := by decide +kernel
theorem dL_isStation_212 : decode cL_isStation 212 = .ok (.if_icmp .ne 17, 3) := by decide +kernel
theorem dL_isStation_215 : decode cL_isStation 215 = .ok (.aload_n 0, 1) := by decide +kernel
theorem dL_isStation_216 : decode cL_isStation 216 = .ok (.iload_n 1, 1) := by decide +kernel
theorem dL_isStation_217 : decode cL_isStation 217 = .ok (.invokevirtual 42, 3) := by decide +kernel
theorem dL_isStation_220 : decode cL_isStation 220 = .ok (.bipush 16, 2) := by decide +kernel
theorem dL_isStation_222 : decode cL_isStation 222 = .ok (.if_icmp .ge 7, 3) := by decide +kernel
theorem dL_isStation_225 : decode cL_isStation 225 = .ok (.iconst 1, 1) := by decide +kernel
theorem dL_isStation_226 : decode cL_isStation 226 = .ok (.goto 4, 3) := by decide +kernel
theorem dL_isStation_229 : decode cL_isStation 229 = .ok (.iconst 0, 1) := by decide +kernel
theorem dL_isStation_230 : decode cL_isStation 230 = .ok (.istore 7, 2) := by decide +kernel
theorem dL_isStation_232 : decode cL_isStation 232 = .ok (.iload 7, 2) := by decide +kernel
theorem dL_isStation_234 : decode cL_isStation 234 = .ok (.ifCond .eq 66, 3) := by decide +kernel
theorem dL_isStation_237 : decode cL_isStation 237 = .ok (.aload_n 0, 1) := by decide +kernel
theorem dL_isStation_238 : decode cL_isStation 238 = .ok (.iload_n 1, 1) := by decide +kernel
theorem dL_isStation_239 : decode cL_isStation 239 = .ok (.invokevirtual 45, 3) := by decide +kernel
theorem dL_isStation_242 : decode cL_isStation 242 = .ok (.aload_n 0, 1) := by decide +kernel
theorem dL_isStation_243 : decode cL_isStation 243 = .ok (.iload_n 1, 1) := by decide +kernel
theorem dL_isStation_244 : decode cL_isStation 244 = .ok (.invokevirtual 48, 3) := by decide +kernel
theorem dL_isStation_247 : decode cL_isStation 247 = .ok (.if_icmp .ne 53, 3) := by decide +kernel
theorem dL_isStation_250 : decode cL_isStation 250 = .ok (.aload_n 0, 1) := by decide +kernel
theorem dL_isStation_251 : decode cL_isStation 251 = .ok (.iload_n 1, 1) := by decide +kernel
theorem dL_isStation_252 : decode cL_isStation 252 = .ok (.invokevirtual 45, 3) := by decide +kernel
theorem dL_isStation_255 : decode cL_isStation 255 = .ok (.iconst 2, 1) := by decide +kernel
theorem dL_isStation_256 : decode cL_isStation 256 = .ok (.aload_n 0, 1) := by decide +kernel
theorem dL_isStation_257 : decode cL_isStation 257 = .ok (.iload_n 1, 1) := by decide +kernel
theorem dL_isStation_258 : decode cL_isStation 258 = .ok (.invokevirtual 51, 3) := by decide +kernel
theorem dL_isStation_261 : decode cL_isStation 261 = .ok (.imul, 1) := by decide +kernel
theorem dL_isStation_262 : decode cL_isStation 262 = .ok (.if_icmp .lt 38, 3) := by decide +kernel
theorem dL_isStation_265 : decode cL_isStation 265 = .ok (.aload_n 0, 1) := by decide +kernel
theorem dL_isStation_266 : decode cL_isStation 266 = .ok (.iload_n 1, 1) := by decide +kernel
theorem dL_isStation_267 : decode cL_isStation 267 = .ok (.invokevirtual 45, 3) := by decide +kernel
theorem dL_isStation_270 : decode cL_isStation 270 = .ok (.aload_n 0, 1) := by decide +kernel
theorem dL_isStation_271 : decode cL_isStation 271 = .ok (.invokevirtual 31, 3) := by decide +kernel
theorem dL_isStation_274 : decode cL_isStation 274 = .ok (.if_icmp .gt 26, 3) := by decide +kernel
theorem dL_isStation_277 : decode cL_isStation 277 = .ok (.iload 5, 2) := by decide +kernel
theorem dL_isStation_279 : decode cL_isStation 279 = .ok (.ifCond .gt 17, 3) := by decide +kernel
theorem dL_isStation_282 : decode cL_isStation 282 = .ok (.aload_n 0, 1) := by decide +kernel
theorem dL_isStation_283 : decode cL_isStation 283 = .ok (.iload_n 1, 1) := by decide +kernel
theorem dL_isStation_284 : decode cL_isStation 284 = .ok (.invokevirtual 39, 3) := by decide +kernel
theorem dL_isStation_287 : decode cL_isStation 287 = .ok (.ifCond .gt 9, 3) := by decide +kernel
theorem dL_isStation_290 : decode cL_isStation 290 = .ok (.iload 6, 2) := by decide +kernel
theorem dL_isStation_292 : decode cL_isStation 292 = .ok (.iconst (-1), 1) := by decide +kernel
theorem dL_isStation_293 : decode cL_isStation 293 = .ok (.if_icmp .ne 7, 3) := by decide +kernel
theorem dL_isStation_296 : decode cL_isStation 296 = .ok (.iconst 1, 1) := by decide +kernel
theorem dL_isStation_297 : decode cL_isStation 297 = .ok (.goto 4, 3) := by decide +kernel
theorem dL_isStation_300 : decode cL_isStation 300 = .ok (.iconst 0, 1) := by decide +kernel
theorem dL_isStation_301 : decode cL_isStation 301 = .ok (.ireturn, 1) := by decide +kernel
theorem dL_isSlot_0 : decode cL_isSlot 0 = .ok (.iconst 0, 1) := by decide +kernel
theorem dL_isSlot_1 : decode cL_isSlot 1 = .ok (.istore 4, 2) := by decide +kernel
theorem dL_isSlot_3 : decode cL_isSlot 3 = .ok (.aload_n 0, 1) := by decide +kernel
theorem dL_isSlot_4 : decode cL_isSlot 4 = .ok (.invokevirtual 31, 3) := by decide +kernel
theorem dL_isSlot_7 : decode cL_isSlot 7 = .ok (.istore 5, 2) := by decide +kernel
theorem dL_isSlot_9 : decode cL_isSlot 9 = .ok (.iconst 0, 1) := by decide +kernel
theorem dL_isSlot_10 : decode cL_isSlot 10 = .ok (.istore 6, 2) := by decide +kernel
theorem dL_isSlot_12 : decode cL_isSlot 12 = .ok (.iload 6, 2) := by decide +kernel
theorem dL_isSlot_14 : decode cL_isSlot 14 = .ok (.bipush 6, 2) := by decide +kernel
theorem dL_isSlot_16 : decode cL_isSlot 16 = .ok (.if_icmp .ge 137, 3) := by decide +kernel
theorem dL_isSlot_19 : decode cL_isSlot 19 = .ok (.aload_n 2, 1) := by decide +kernel
theorem dL_isSlot_20 : decode cL_isSlot 20 = .ok (.bipush 8, 2) := by decide +kernel
theorem dL_isSlot_22 : decode cL_isSlot 22 = .ok (.iload 6, 2) := by decide +kernel
theorem dL_isSlot_24 : decode cL_isSlot 24 = .ok (.imul, 1) := by decide +kernel
theorem dL_isSlot_25 : decode cL_isSlot 25 = .ok (.aload_n 0, 1) := by decide +kernel
theorem dL_isSlot_26 : decode cL_isSlot 26 = .ok (.iload 6, 2) := by decide +kernel
theorem dL_isSlot_28 : decode cL_isSlot 28 = .ok (.invokevirtual 35, 3) := by decide +kernel
theorem dL_isSlot_31 : decode cL_isSlot 31 = .ok (.ifCond .eq 7, 3) := by decide +kernel
theorem dL_isSlot_34 : decode cL_isSlot 34 = .ok (.iconst 1, 1) := by decide +kernel
theorem dL_isSlot_35 : decode cL_isSlot 35 = .ok (.goto 4, 3) := by decide +kernel
theorem dL_isSlot_38 : decode cL_isSlot 38 = .ok (.iconst 0, 1) := by decide +kernel
theorem dL_isSlot_39 : decode cL_isSlot 39 = .ok (.iastore, 1) := by decide +kernel
theorem dL_isSlot_40 : decode cL_isSlot 40 = .ok (.aload_n 2, 1) := by decide +kernel
theorem dL_isSlot_41 : decode cL_isSlot 41 = .ok (.bipush 8, 2) := by decide +kernel
theorem dL_isSlot_43 : decode cL_isSlot 43 = .ok (.iload 6, 2) := by decide +kernel
theorem dL_isSlot_45 : decode cL_isSlot 45 = .ok (.imul, 1) := by decide +kernel
theorem dL_isSlot_46 : decode cL_isSlot 46 = .ok (.iconst 1, 1) := by decide +kernel
theorem dL_isSlot_47 : decode cL_isSlot 47 = .ok (.iadd, 1) := by decide +kernel
theorem dL_isSlot_48 : decode cL_isSlot 48 = .ok (.aload_n 0, 1) := by decide +kernel
theorem dL_isSlot_49 : decode cL_isSlot 49 = .ok (.iload 6, 2) := by decide +kernel
theorem dL_isSlot_51 : decode cL_isSlot 51 = .ok (.invokevirtual 25, 3) := by decide +kernel
theorem dL_isSlot_54 : decode cL_isSlot 54 = .ok (.iastore, 1) := by decide +kernel
theorem dL_isSlot_55 : decode cL_isSlot 55 = .ok (.aload_n 2, 1) := by decide +kernel
theorem dL_isSlot_56 : decode cL_isSlot 56 = .ok (.bipush 8, 2) := by decide +kernel
theorem dL_isSlot_58 : decode cL_isSlot 58 = .ok (.iload 6, 2) := by decide +kernel
theorem dL_isSlot_60 : decode cL_isSlot 60 = .ok (.imul, 1) := by decide +kernel
theorem dL_isSlot_61 : decode cL_isSlot 61 = .ok (.iconst 2, 1) := by decide +kernel
theorem dL_isSlot_62 : decode cL_isSlot 62 = .ok (.iadd, 1) := by decide +kernel
theorem dL_isSlot_63 : decode cL_isSlot 63 = .ok (.aload_n 0, 1) := by decide +kernel
theorem dL_isSlot_64 : decode cL_isSlot 64 = .ok (.iload 6, 2) := by decide +kernel
theorem dL_isSlot_66 : decode cL_isSlot 66 = .ok (.invokevirtual 39, 3) := by decide +kernel
theorem dL_isSlot_69 : decode cL_isSlot 69 = .ok (.iastore, 1) := by decide +kernel
theorem dL_isSlot_70 : decode cL_isSlot 70 = .ok (.aload_n 2, 1) := by decide +kernel
theorem dL_isSlot_71 : decode cL_isSlot 71 = .ok (.bipush 8, 2) := by decide +kernel
theorem dL_isSlot_73 : decode cL_isSlot 73 = .ok (.iload 6, 2) := by decide +kernel
theorem dL_isSlot_75 : decode cL_isSlot 75 = .ok (.imul, 1) := by decide +kernel
theorem dL_isSlot_76 : decode cL_isSlot 76 = .ok (.iconst 3, 1) := by decide +kernel
theorem dL_isSlot_77 : decode cL_isSlot 77 = .ok (.iadd, 1) := by decide +kernel
theorem dL_isSlot_78 : decode cL_isSlot 78 = .ok (.aload_n 0, 1) := by decide +kernel
theorem dL_isSlot_79 : decode cL_isSlot 79 = .ok (.iload 6, 2) := by decide +kernel
theorem dL_isSlot_81 : decode cL_isSlot 81 = .ok (.invokevirtual 45, 3) := by decide +kernel
theorem dL_isSlot_84 : decode cL_isSlot 84 = .ok (.iastore, 1) := by decide +kernel
theorem dL_isSlot_85 : decode cL_isSlot 85 = .ok (.aload_n 2, 1) := by decide +kernel
theorem dL_isSlot_86 : decode cL_isSlot 86 = .ok (.bipush 8, 2) := by decide +kernel
theorem dL_isSlot_88 : decode cL_isSlot 88 = .ok (.iload 6, 2) := by decide +kernel
theorem dL_isSlot_90 : decode cL_isSlot 90 = .ok (.imul, 1) := by decide +kernel
theorem dL_isSlot_91 : decode cL_isSlot 91 = .ok (.iconst 4, 1) := by decide +kernel
theorem dL_isSlot_92 : decode cL_isSlot 92 = .ok (.iadd, 1) := by decide +kernel
theorem dL_isSlot_93 : decode cL_isSlot 93 = .ok (.aload_n 0, 1) := by decide +kernel
theorem dL_isSlot_94 : decode cL_isSlot 94 = .ok (.iload 6, 2) := by decide +kernel
theorem dL_isSlot_96 : decode cL_isSlot 96 = .ok (.invokevirtual 28, 3) := by decide +kernel
theorem dL_isSlot_99 : decode cL_isSlot 99 = .ok (.iastore, 1) := by decide +kernel
theorem dL_isSlot_100 : decode cL_isSlot 100 = .ok (.aload_n 2, 1) := by decide +kernel
theorem dL_isSlot_101 : decode cL_isSlot 101 = .ok (.bipush 8, 2) := by decide +kernel
theorem dL_isSlot_103 : decode cL_isSlot 103 = .ok (.iload 6, 2) := by decide +kernel
theorem dL_isSlot_105 : decode cL_isSlot 105 = .ok (.imul, 1) := by decide +kernel
theorem dL_isSlot_106 : decode cL_isSlot 106 = .ok (.iconst 5, 1) := by decide +kernel
theorem dL_isSlot_107 : decode cL_isSlot 107 = .ok (.iadd, 1) := by decide +kernel
theorem dL_isSlot_108 : decode cL_isSlot 108 = .ok (.aload_n 0, 1) := by decide +kernel
theorem dL_isSlot_109 : decode cL_isSlot 109 = .ok (.iload 6, 2) := by decide +kernel
theorem dL_isSlot_111 : decode cL_isSlot 111 = .ok (.invokevirtual 51, 3) := by decide +kernel
theorem dL_isSlot_114 : decode cL_isSlot 114 = .ok (.iastore, 1) := by decide +kernel
theorem dL_isSlot_115 : decode cL_isSlot 115 = .ok (.aload_n 2, 1) := by decide +kernel
theorem dL_isSlot_116 : decode cL_isSlot 116 = .ok (.bipush 8, 2) := by decide +kernel
theorem dL_isSlot_118 : decode cL_isSlot 118 = .ok (.iload 6, 2) := by decide +kernel
theorem dL_isSlot_120 : decode cL_isSlot 120 = .ok (.imul, 1) := by decide +kernel
theorem dL_isSlot_121 : decode cL_isSlot 121 = .ok (.bipush 6, 2) := by decide +kernel
theorem dL_isSlot_123 : decode cL_isSlot 123 = .ok (.iadd, 1) := by decide +kernel
theorem dL_isSlot_124 : decode cL_isSlot 124 = .ok (.aload_n 0, 1) := by decide +kernel
theorem dL_isSlot_125 : decode cL_isSlot 125 = .ok (.iload 6, 2) := by decide +kernel
theorem dL_isSlot_127 : decode cL_isSlot 127 = .ok (.invokevirtual 42, 3) := by decide +kernel
theorem dL_isSlot_130 : decode cL_isSlot 130 = .ok (.iastore, 1) := by decide +kernel
theorem dL_isSlot_131 : decode cL_isSlot 131 = .ok (.aload_n 2, 1) := by decide +kernel
theorem dL_isSlot_132 : decode cL_isSlot 132 = .ok (.bipush 8, 2) := by decide +kernel
theorem dL_isSlot_134 : decode cL_isSlot 134 = .ok (.iload 6, 2) := by decide +kernel
theorem dL_isSlot_136 : decode cL_isSlot 136 = .ok (.imul, 1) := by decide +kernel
theorem dL_isSlot_137 : decode cL_isSlot 137 = .ok (.bipush 7, 2) := by decide +kernel
theorem dL_isSlot_139 : decode cL_isSlot 139 = .ok (.iadd, 1) := by decide +kernel
theorem dL_isSlot_140 : decode cL_isSlot 140 = .ok (.aload_n 0, 1) := by decide +kernel
theorem dL_isSlot_141 : decode cL_isSlot 141 = .ok (.iload 6, 2) := by decide +kernel
theorem dL_isSlot_143 : decode cL_isSlot 143 = .ok (.invokevirtual 54, 3) := by decide +kernel
theorem dL_isSlot_146 : decode cL_isSlot 146 = .ok (.iastore, 1) := by decide +kernel
theorem dL_isSlot_147 : decode cL_isSlot 147 = .ok (.iinc 6 1, 3) := by decide +kernel
theorem dL_isSlot_150 : decode cL_isSlot 150 = .ok (.goto (-138), 3) := by decide +kernel
theorem dL_isSlot_153 : decode cL_isSlot 153 = .ok (.aload_n 0, 1) := by decide +kernel
theorem dL_isSlot_154 : decode cL_isSlot 154 = .ok (.iconst 1, 1) := by decide +kernel
theorem dL_isSlot_155 : decode cL_isSlot 155 = .ok (.invokevirtual 57, 3) := by decide +kernel
theorem dL_isSlot_158 : decode cL_isSlot 158 = .ok (.istore 6, 2) := by decide +kernel
theorem dL_isSlot_160 : decode cL_isSlot 160 = .ok (.aload_n 0, 1) := by decide +kernel
theorem dL_isSlot_161 : decode cL_isSlot 161 = .ok (.invokevirtual 31, 3) := by decide +kernel
theorem dL_isSlot_164 : decode cL_isSlot 164 = .ok (.iload 5, 2) := by decide +kernel
theorem dL_isSlot_166 : decode cL_isSlot 166 = .ok (.iconst 1, 1) := by decide +kernel
theorem dL_isSlot_167 : decode cL_isSlot 167 = .ok (.iadd, 1) := by decide +kernel
theorem dL_isSlot_168 : decode cL_isSlot 168 = .ok (.if_icmp .ne 7, 3) := by decide +kernel
theorem dL_isSlot_171 : decode cL_isSlot 171 = .ok (.iconst 1, 1) := by decide +kernel
theorem dL_isSlot_172 : decode cL_isSlot 172 = .ok (.goto 4, 3) := by decide +kernel
theorem dL_isSlot_175 : decode cL_isSlot 175 = .ok (.iconst 0, 1) := by decide +kernel
theorem dL_isSlot_176 : decode cL_isSlot 176 = .ok (.istore 7, 2) := by decide +kernel
theorem dL_isSlot_178 : decode cL_isSlot 178 = .ok (.iconst 0, 1) := by decide +kernel
theorem dL_isSlot_179 : decode cL_isSlot 179 = .ok (.istore 8, 2) := by decide +kernel
theorem dL_isSlot_181 : decode cL_isSlot 181 = .ok (.iload 8, 2) := by decide +kernel
theorem dL_isSlot_183 : decode cL_isSlot 183 = .ok (.bipush 6, 2) := by decide +kernel
theorem dL_isSlot_185 : decode cL_isSlot 185 = .ok (.if_icmp .ge 534, 3) := by decide +kernel
theorem dL_isSlot_188 : decode cL_isSlot 188 = .ok (.iload 7, 2) := by decide +kernel
theorem dL_isSlot_190 : decode cL_isSlot 190 = .ok (.ifCond .eq 529, 3) := by decide +kernel
theorem dL_isSlot_193 : decode cL_isSlot 193 = .ok (.aload_n 0, 1) := by decide +kernel
theorem dL_isSlot_194 : decode cL_isSlot 194 = .ok (.iload 8, 2) := by decide +kernel
theorem dL_isSlot_196 : decode cL_isSlot 196 = .ok (.invokevirtual 45, 3) := by decide +kernel
theorem dL_isSlot_199 : decode cL_isSlot 199 = .ok (.aload_n 2, 1) := by decide +kernel
theorem dL_isSlot_200 : decode cL_isSlot 200 = .ok (.bipush 8, 2) := by decide +kernel
theorem dL_isSlot_202 : decode cL_isSlot 202 = .ok (.iload 8, 2) := by decide +kernel
theorem dL_isSlot_204 : decode cL_isSlot 204 = .ok (.imul, 1) := by decide +kernel
theorem dL_isSlot_205 : decode cL_isSlot 205 = .ok (.iconst 3, 1) := by decide +kernel
theorem dL_isSlot_206 : decode cL_isSlot 206 = .ok (.iadd, 1) := by decide +kernel
theorem dL_isSlot_207 : decode cL_isSlot 207 = .ok (.iaload, 1) := by decide +kernel
theorem dL_isSlot_208 : decode cL_isSlot 208 = .ok (.if_icmp .le 7, 3) := by decide +kernel
theorem dL_isSlot_211 : decode cL_isSlot 211 = .ok (.iconst 1, 1) := by decide +kernel
theorem dL_isSlot_212 : decode cL_isSlot 212 = .ok (.goto 4, 3) := by decide +kernel
theorem dL_isSlot_215 : decode cL_isSlot 215 = .ok (.iconst 0, 1) := by decide +kernel
theorem dL_isSlot_216 : decode cL_isSlot 216 = .ok (.istore 9, 2) := by decide +kernel
theorem dL_isSlot_218 : decode cL_isSlot 218 = .ok (.aload_n 2, 1) := by decide +kernel
theorem dL_isSlot_219 : decode cL_isSlot 219 = .ok (.bipush 8, 2) := by decide +kernel
theorem dL_isSlot_221 : decode cL_isSlot 221 = .ok (.iload 8, 2) := by decide +kernel
theorem dL_isSlot_223 : decode cL_isSlot 223 = .ok (.imul, 1) := by decide +kernel
theorem dL_isSlot_224 : decode cL_isSlot 224 = .ok (.iconst 4, 1) := by decide +kernel
theorem dL_isSlot_225 : decode cL_isSlot 225 = .ok (.iadd, 1) := by decide +kernel
theorem dL_isSlot_226 : decode cL_isSlot 226 = .ok (.iaload, 1) := by decide +kernel
theorem dL_isSlot_227 : decode cL_isSlot 227 = .ok (.iload 5, 2) := by decide +kernel
theorem dL_isSlot_229 : decode cL_isSlot 229 = .ok (.if_icmp .le 7, 3) := by decide +kernel
theorem dL_isSlot_232 : decode cL_isSlot 232 = .ok (.iconst 1, 1) := by decide +kernel
theorem dL_isSlot_233 : decode cL_isSlot 233 = .ok (.goto 4, 3) := by decide +kernel
theorem dL_isSlot_236 : decode cL_isSlot 236 = .ok (.iconst 0, 1) := by decide +kernel
theorem dL_isSlot_237 : decode cL_isSlot 237 = .ok (.istore 10, 2) := by decide +kernel
theorem dL_isSlot_239 : decode cL_isSlot 239 = .ok (.iconst 0, 1) := by decide +kernel
theorem dL_isSlot_240 : decode cL_isSlot 240 = .ok (.istore 11, 2) := by decide +kernel
theorem dL_isSlot_242 : decode cL_isSlot 242 = .ok (.iload 11, 2) := by decide +kernel
theorem dL_isSlot_244 : decode cL_isSlot 244 = .ok (.bipush 6, 2) := by decide +kernel
theorem dL_isSlot_246 : decode cL_isSlot 246 = .ok (.if_icmp .ge 49, 3) := by decide +kernel
theorem dL_isSlot_249 : decode cL_isSlot 249 = .ok (.iload 10, 2) := by decide +kernel
theorem dL_isSlot_251 : decode cL_isSlot 251 = .ok (.ifCond .ne 31, 3) := by decide +kernel
theorem dL_isSlot_254 : decode cL_isSlot 254 = .ok (.iload 11, 2) := by decide +kernel
theorem dL_isSlot_256 : decode cL_isSlot 256 = .ok (.iload 8, 2) := by decide +kernel
theorem dL_isSlot_258 : decode cL_isSlot 258 = .ok (.if_icmp .eq 28, 3) := by decide +kernel
theorem dL_isSlot_261 : decode cL_isSlot 261 = .ok (.aload_n 1, 1) := by decide +kernel
theorem dL_isSlot_262 : decode cL_isSlot 262 = .ok (.bipush 6, 2) := by decide +kernel
theorem dL_isSlot_264 : decode cL_isSlot 264 = .ok (.iload 8, 2) := by decide +kernel
theorem dL_isSlot_266 : decode cL_isSlot 266 = .ok (.imul, 1) := by decide +kernel
theorem dL_isSlot_267 : decode cL_isSlot 267 = .ok (.iload 11, 2) := by decide +kernel
theorem dL_isSlot_269 : decode cL_isSlot 269 = .ok (.iadd, 1) := by decide +kernel
theorem dL_isSlot_270 : decode cL_isSlot 270 = .ok (.iaload, 1) := by decide +kernel
theorem dL_isSlot_271 : decode cL_isSlot 271 = .ok (.ifCond .le 15, 3) := by decide +kernel
theorem dL_isSlot_274 : decode cL_isSlot 274 = .ok (.aload_n 3, 1) := by decide +kernel
theorem dL_isSlot_275 : decode cL_isSlot 275 = .ok (.iload 11, 2) := by decide +kernel
theorem dL_isSlot_277 : decode cL_isSlot 277 = .ok (.iaload, 1) := by decide +kernel
theorem dL_isSlot_278 : decode cL_isSlot 278 = .ok (.iconst 1, 1) := by decide +kernel
theorem dL_isSlot_279 : decode cL_isSlot 279 = .ok (.if_icmp .ne 7, 3) := by decide +kernel
theorem dL_isSlot_282 : decode cL_isSlot 282 = .ok (.iconst 1, 1) := by decide +kernel
theorem dL_isSlot_283 : decode cL_isSlot 283 = .ok (.goto 4, 3) := by decide +kernel
theorem dL_isSlot_286 : decode cL_isSlot 286 = .ok (.iconst 0, 1) := by decide +kernel
theorem dL_isSlot_287 : decode cL_isSlot 287 = .ok (.istore 10, 2) := by decide +kernel
theorem dL_isSlot_289 : decode cL_isSlot 289 = .ok (.iinc 11 1, 3) := by decide +kernel
theorem dL_isSlot_292 : decode cL_isSlot 292 = .ok (.goto (-50), 3) := by decide +kernel
theorem dL_isSlot_295 : decode cL_isSlot 295 = .ok (.aload_n 0, 1) := by decide +kernel
theorem dL_isSlot_296 : decode cL_isSlot 296 = .ok (.iload 8, 2) := by decide +kernel
theorem dL_isSlot_298 : decode cL_isSlot 298 = .ok (.invokevirtual 45, 3) := by decide +kernel
theorem dL_isSlot_301 : decode cL_isSlot 301 = .ok (.aload_n 2, 1) := by decide +kernel
theorem dL_isSlot_302 : decode cL_isSlot 302 = .ok (.bipush 8, 2) := by decide +kernel
theorem dL_isSlot_304 : decode cL_isSlot 304 = .ok (.iload 8, 2) := by decide +kernel
theorem dL_isSlot_306 : decode cL_isSlot 306 = .ok (.imul, 1) := by decide +kernel
theorem dL_isSlot_307 : decode cL_isSlot 307 = .ok (.iconst 3, 1) := by decide +kernel
theorem dL_isSlot_308 : decode cL_isSlot 308 = .ok (.iadd, 1) := by decide +kernel
theorem dL_isSlot_309 : decode cL_isSlot 309 = .ok (.iaload, 1) := by decide +kernel
theorem dL_isSlot_310 : decode cL_isSlot 310 = .ok (.iconst 1, 1) := by decide +kernel
theorem dL_isSlot_311 : decode cL_isSlot 311 = .ok (.iadd, 1) := by decide +kernel
theorem dL_isSlot_312 : decode cL_isSlot 312 = .ok (.if_icmp .gt 74, 3) := by decide +kernel
theorem dL_isSlot_315 : decode cL_isSlot 315 = .ok (.aload_n 2, 1) := by decide +kernel
theorem dL_isSlot_316 : decode cL_isSlot 316 = .ok (.bipush 8, 2) := by decide +kernel
theorem dL_isSlot_318 : decode cL_isSlot 318 = .ok (.iload 8, 2) := by decide +kernel
theorem dL_isSlot_320 : decode cL_isSlot 320 = .ok (.imul, 1) := by decide +kernel
theorem dL_isSlot_321 : decode cL_isSlot 321 = .ok (.iaload, 1) := by decide +kernel
theorem dL_isSlot_322 : decode cL_isSlot 322 = .ok (.ifCond .eq 8, 3) := by decide +kernel
theorem dL_isSlot_325 : decode cL_isSlot 325 = .ok (.iload 9, 2) := by decide +kernel
theorem dL_isSlot_327 : decode cL_isSlot 327 = .ok (.ifCond .eq 59, 3) := by decide +kernel
theorem dL_isSlot_330 : decode cL_isSlot 330 = .ok (.aload_n 2, 1) := by decide +kernel
theorem dL_isSlot_331 : decode cL_isSlot 331 = .ok (.bipush 8, 2) := by decide +kernel
theorem dL_isSlot_333 : decode cL_isSlot 333 = .ok (.iload 8, 2) := by decide +kernel
theorem dL_isSlot_335 : decode cL_isSlot 335 = .ok (.imul, 1) := by decide +kernel
theorem dL_isSlot_336 : decode cL_isSlot 336 = .ok (.iaload, 1) := by decide +kernel
theorem dL_isSlot_337 : decode cL_isSlot 337 = .ok (.iconst 1, 1) := by decide +kernel
theorem dL_isSlot_338 : decode cL_isSlot 338 = .ok (.if_icmp .eq 44, 3) := by decide +kernel
theorem dL_isSlot_341 : decode cL_isSlot 341 = .ok (.iload 10, 2) := by decide +kernel
theorem dL_isSlot_343 : decode cL_isSlot 343 = .ok (.ifCond .eq 39, 3) := by decide +kernel
theorem dL_isSlot_346 : decode cL_isSlot 346 = .ok (.iload 9, 2) := by decide +kernel
theorem dL_isSlot_348 : decode cL_isSlot 348 = .ok (.ifCond .ne 38, 3) := by decide +kernel
theorem dL_isSlot_351 : decode cL_isSlot 351 = .ok (.aload_n 2, 1) := by decide +kernel
theorem dL_isSlot_352 : decode cL_isSlot 352 = .ok (.bipush 8, 2) := by decide +kernel
theorem dL_isSlot_354 : decode cL_isSlot 354 = .ok (.iload 8, 2) := by decide +kernel
theorem dL_isSlot_356 : decode cL_isSlot 356 = .ok (.imul, 1) := by decide +kernel
theorem dL_isSlot_357 : decode cL_isSlot 357 = .ok (.iconst 1, 1) := by decide +kernel
theorem dL_isSlot_358 : decode cL_isSlot 358 = .ok (.iadd, 1) := by decide +kernel
theorem dL_isSlot_359 : decode cL_isSlot 359 = .ok (.iaload, 1) := by decide +kernel
theorem dL_isSlot_360 : decode cL_isSlot 360 = .ok (.iconst (-1), 1) := by decide +kernel
theorem dL_isSlot_361 : decode cL_isSlot 361 = .ok (.if_icmp .eq 21, 3) := by decide +kernel
theorem dL_isSlot_364 : decode cL_isSlot 364 = .ok (.aload_n 0, 1) := by decide +kernel
theorem dL_isSlot_365 : decode cL_isSlot 365 = .ok (.iload 8, 2) := by decide +kernel
theorem dL_isSlot_367 : decode cL_isSlot 367 = .ok (.invokevirtual 25, 3) := by decide +kernel
theorem dL_isSlot_370 : decode cL_isSlot 370 = .ok (.aload_n 2, 1) := by decide +kernel
theorem dL_isSlot_371 : decode cL_isSlot 371 = .ok (.bipush 8, 2) := by decide +kernel
theorem dL_isSlot_373 : decode cL_isSlot 373 = .ok (.iload 8, 2) := by decide +kernel
theorem dL_isSlot_375 : decode cL_isSlot 375 = .ok (.imul, 1) := by decide +kernel
theorem dL_isSlot_376 : decode cL_isSlot 376 = .ok (.iconst 1, 1) := by decide +kernel
theorem dL_isSlot_377 : decode cL_isSlot 377 = .ok (.iadd, 1) := by decide +kernel
theorem dL_isSlot_378 : decode cL_isSlot 378 = .ok (.iaload, 1) := by decide +kernel
theorem dL_isSlot_379 : decode cL_isSlot 379 = .ok (.if_icmp .ne 7, 3) := by decide +kernel
theorem dL_isSlot_382 : decode cL_isSlot 382 = .ok (.iconst 1, 1) := by decide +kernel
theorem dL_isSlot_383 : decode cL_isSlot 383 = .ok (.goto 4, 3) := by decide +kernel
theorem dL_isSlot_386 : decode cL_isSlot 386 = .ok (.iconst 0, 1) := by decide +kernel
theorem dL_isSlot_387 : decode cL_isSlot 387 = .ok (.istore 7, 2) := by decide +kernel
theorem dL_isSlot_389 : decode cL_isSlot 389 = .ok (.iload 7, 2) := by decide +kernel
theorem dL_isSlot_391 : decode cL_isSlot 391 = .ok (.ifCond .eq 112, 3) := by decide +kernel
theorem dL_isSlot_394 : decode cL_isSlot 394 = .ok (.aload_n 2, 1) := by decide +kernel
theorem dL_isSlot_395 : decode cL_isSlot 395 = .ok (.bipush 8, 2) := by decide +kernel
theorem dL_isSlot_397 : decode cL_isSlot 397 = .ok (.iload 8, 2) := by decide +kernel
theorem dL_isSlot_399 : decode cL_isSlot 399 = .ok (.imul, 1) := by decide +kernel
theorem dL_isSlot_400 : decode cL_isSlot 400 = .ok (.iaload, 1) := by decide +kernel
theorem dL_isSlot_401 : decode cL_isSlot 401 = .ok (.iconst 1, 1) := by decide +kernel
theorem dL_isSlot_402 : decode cL_isSlot 402 = .ok (.if_icmp .eq 58, 3) := by decide +kernel
theorem dL_isSlot_405 : decode cL_isSlot 405 = .ok (.iload 10, 2) := by decide +kernel
theorem dL_isSlot_407 : decode cL_isSlot 407 = .ok (.ifCond .ne 53, 3) := by decide +kernel
theorem dL_isSlot_410 : decode cL_isSlot 410 = .ok (.aload_n 2, 1) := by decide +kernel
theorem dL_isSlot_411 : decode cL_isSlot 411 = .ok (.bipush 8, 2) := by decide +kernel
theorem dL_isSlot_413 : decode cL_isSlot 413 = .ok (.iload 8, 2) := by decide +kernel
theorem dL_isSlot_415 : decode cL_isSlot 415 = .ok (.imul, 1) := by decide +kernel
theorem dL_isSlot_416 : decode cL_isSlot 416 = .ok (.iconst 2, 1) := by decide +kernel
theorem dL_isSlot_417 : decode cL_isSlot 417 = .ok (.iadd, 1) := by decide +kernel
theorem dL_isSlot_418 : decode cL_isSlot 418 = .ok (.iaload, 1) := by decide +kernel
theorem dL_isSlot_419 : decode cL_isSlot 419 = .ok (.ifCond .eq 41, 3) := by decide +kernel
theorem dL_isSlot_422 : decode cL_isSlot 422 = .ok (.aload_n 2, 1) := by decide +kernel
theorem dL_isSlot_423 : decode cL_isSlot 423 = .ok (.bipush 8, 2) := by decide +kernel
theorem dL_isSlot_425 : decode cL_isSlot 425 = .ok (.iload 8, 2) := by decide +kernel
theorem dL_isSlot_427 : decode cL_isSlot 427 = .ok (.imul, 1) := by decide +kernel
theorem dL_isSlot_428 : decode cL_isSlot 428 = .ok (.iconst 1, 1) := by decide +kernel
theorem dL_isSlot_429 : decode cL_isSlot 429 = .ok (.iadd, 1) := by decide +kernel
theorem dL_isSlot_430 : decode cL_isSlot 430 = .ok (.iaload, 1) := by decide +kernel
theorem dL_isSlot_431 : decode cL_isSlot 431 = .ok (.iconst 1, 1) := by decide +kernel
theorem dL_isSlot_432 : decode cL_isSlot 432 = .ok (.if_icmp .lt 28, 3) := by decide +kernel
theorem dL_isSlot_435 : decode cL_isSlot 435 = .ok (.iload 9, 2) := by decide +kernel
theorem dL_isSlot_437 : decode cL_isSlot 437 = .ok (.ifCond .ne 66, 3) := by decide +kernel
theorem dL_isSlot_440 : decode cL_isSlot 440 = .ok (.aload_n 0, 1) := by decide +kernel
theorem dL_isSlot_441 : decode cL_isSlot 441 = .ok (.iload 8, 2) := by decide +kernel
theorem dL_isSlot_443 : decode cL_isSlot 443 = .ok (.invokevirtual 25, 3) := by decide +kernel
theorem dL_isSlot_446 : decode cL_isSlot 446 = .ok (.aload_n 2, 1) := by decide +kernel
theorem dL_isSlot_447 : decode cL_isSlot 447 = .ok (.bipush 8, 2) := by decide +kernel
theorem dL_isSlot_449 : decode cL_isSlot 449 = .ok (.iload 8, 2) := by decide +kernel
theorem dL_isSlot_451 : decode cL_isSlot 451 = .ok (.imul, 1) := by decide +kernel
theorem dL_isSlot_452 : decode cL_isSlot 452 = .ok (.iconst 1, 1) := by decide +kernel
theorem dL_isSlot_453 : decode cL_isSlot 453 = .ok (.iadd, 1) := by decide +kernel
theorem dL_isSlot_454 : decode cL_isSlot 454 = .ok (.iaload, 1) := by decide +kernel
theorem dL_isSlot_455 : decode cL_isSlot 455 = .ok (.iconst 1, 1) := by decide +kernel
theorem dL_isSlot_456 : decode cL_isSlot 456 = .ok (.isub, 1) := by decide +kernel
theorem dL_isSlot_457 : decode cL_isSlot 457 = .ok (.if_icmp .ne 46, 3) := by decide +kernel
theorem dL_isSlot_460 : decode cL_isSlot 460 = .ok (.aload_n 2, 1) := by decide +kernel
theorem dL_isSlot_461 : decode cL_isSlot 461 = .ok (.bipush 8, 2) := by decide +kernel
theorem dL_isSlot_463 : decode cL_isSlot 463 = .ok (.iload 8, 2) := by decide +kernel
theorem dL_isSlot_465 : decode cL_isSlot 465 = .ok (.imul, 1) := by decide +kernel
theorem dL_isSlot_466 : decode cL_isSlot 466 = .ok (.iconst 1, 1) := by decide +kernel
theorem dL_isSlot_467 : decode cL_isSlot 467 = .ok (.iadd, 1) := by decide +kernel
theorem dL_isSlot_468 : decode cL_isSlot 468 = .ok (.iaload, 1) := by decide +kernel
theorem dL_isSlot_469 : decode cL_isSlot 469 = .ok (.ifCond .ne 13, 3) := by decide +kernel
theorem dL_isSlot_472 : decode cL_isSlot 472 = .ok (.iload 10, 2) := by decide +kernel
theorem dL_isSlot_474 : decode cL_isSlot 474 = .ok (.ifCond .ne 8, 3) := by decide +kernel
theorem dL_isSlot_477 : decode cL_isSlot 477 = .ok (.iload 9, 2) := by decide +kernel
theorem dL_isSlot_479 : decode cL_isSlot 479 = .ok (.ifCond .eq 24, 3) := by decide +kernel
theorem dL_isSlot_482 : decode cL_isSlot 482 = .ok (.aload_n 2, 1) := by decide +kernel
theorem dL_isSlot_483 : decode cL_isSlot 483 = .ok (.bipush 8, 2) := by decide +kernel
theorem dL_isSlot_485 : decode cL_isSlot 485 = .ok (.iload 8, 2) := by decide +kernel
theorem dL_isSlot_487 : decode cL_isSlot 487 = .ok (.imul, 1) := by decide +kernel
theorem dL_isSlot_488 : decode cL_isSlot 488 = .ok (.iconst 2, 1) := by decide +kernel
theorem dL_isSlot_489 : decode cL_isSlot 489 = .ok (.iadd, 1) := by decide +kernel
theorem dL_isSlot_490 : decode cL_isSlot 490 = .ok (.iaload, 1) := by decide +kernel
theorem dL_isSlot_491 : decode cL_isSlot 491 = .ok (.ifCond .gt 8, 3) := by decide +kernel
theorem dL_isSlot_494 : decode cL_isSlot 494 = .ok (.iload 9, 2) := by decide +kernel
theorem dL_isSlot_496 : decode cL_isSlot 496 = .ok (.ifCond .ne 7, 3) := by decide +kernel
theorem dL_isSlot_499 : decode cL_isSlot 499 = .ok (.iconst 1, 1) := by decide +kernel
theorem dL_isSlot_500 : decode cL_isSlot 500 = .ok (.goto 4, 3) := by decide +kernel
theorem dL_isSlot_503 : decode cL_isSlot 503 = .ok (.iconst 0, 1) := by decide +kernel
theorem dL_isSlot_504 : decode cL_isSlot 504 = .ok (.istore 7, 2) := by decide +kernel
theorem dL_isSlot_506 : decode cL_isSlot 506 = .ok (.aload_n 0, 1) := by decide +kernel
theorem dL_isSlot_507 : decode cL_isSlot 507 = .ok (.iload 8, 2) := by decide +kernel
theorem dL_isSlot_509 : decode cL_isSlot 509 = .ok (.invokevirtual 51, 3) := by decide +kernel
theorem dL_isSlot_512 : decode cL_isSlot 512 = .ok (.aload_n 2, 1) := by decide +kernel
theorem dL_isSlot_513 : decode cL_isSlot 513 = .ok (.bipush 8, 2) := by decide +kernel
theorem dL_isSlot_515 : decode cL_isSlot 515 = .ok (.iload 8, 2) := by decide +kernel
theorem dL_isSlot_517 : decode cL_isSlot 517 = .ok (.imul, 1) := by decide +kernel
theorem dL_isSlot_518 : decode cL_isSlot 518 = .ok (.iconst 5, 1) := by decide +kernel
theorem dL_isSlot_519 : decode cL_isSlot 519 = .ok (.iadd, 1) := by decide +kernel
theorem dL_isSlot_520 : decode cL_isSlot 520 = .ok (.iaload, 1) := by decide +kernel
theorem dL_isSlot_521 : decode cL_isSlot 521 = .ok (.isub, 1) := by decide +kernel
theorem dL_isSlot_522 : decode cL_isSlot 522 = .ok (.istore 11, 2) := by decide +kernel
theorem dL_isSlot_524 : decode cL_isSlot 524 = .ok (.iload 4, 2) := by decide +kernel
theorem dL_isSlot_526 : decode cL_isSlot 526 = .ok (.iload 9, 2) := by decide +kernel
theorem dL_isSlot_528 : decode cL_isSlot 528 = .ok (.ifCond .eq 16, 3) := by decide +kernel
theorem dL_isSlot_531 : decode cL_isSlot 531 = .ok (.aload_n 0, 1) := by decide +kernel
theorem dL_isSlot_532 : decode cL_isSlot 532 = .ok (.iload 8, 2) := by decide +kernel
theorem dL_isSlot_534 : decode cL_isSlot 534 = .ok (.invokevirtual 35, 3) := by decide +kernel
theorem dL_isSlot_537 : decode cL_isSlot 537 = .ok (.ifCond .ne 7, 3) := by decide +kernel
theorem dL_isSlot_540 : decode cL_isSlot 540 = .ok (.iconst 1, 1) := by decide +kernel
theorem dL_isSlot_541 : decode cL_isSlot 541 = .ok (.goto 4, 3) := by decide +kernel
theorem dL_isSlot_544 : decode cL_isSlot 544 = .ok (.iconst 0, 1) := by decide +kernel
theorem dL_isSlot_545 : decode cL_isSlot 545 = .ok (.iadd, 1) := by decide +kernel
theorem dL_isSlot_546 : decode cL_isSlot 546 = .ok (.istore 4, 2) := by decide +kernel
theorem dL_isSlot_548 : decode cL_isSlot 548 = .ok (.iload 7, 2) := by decide +kernel
theorem dL_isSlot_550 : decode cL_isSlot 550 = .ok (.ifCond .eq 58, 3) := by decide +kernel
theorem dL_isSlot_553 : decode cL_isSlot 553 = .ok (.iload 11, 2) := by decide +kernel
theorem dL_isSlot_555 : decode cL_isSlot 555 = .ok (.ifCond .lt 53, 3) := by decide +kernel
theorem dL_isSlot_558 : decode cL_isSlot 558 = .ok (.iload 11, 2) := by decide +kernel
theorem dL_isSlot_560 : decode cL_isSlot 560 = .ok (.aload_n 2, 1) := by decide +kernel
theorem dL_isSlot_561 : decode cL_isSlot 561 = .ok (.bipush 8, 2) := by decide +kernel
theorem dL_isSlot_563 : decode cL_isSlot 563 = .ok (.iload 8, 2) := by decide +kernel
theorem dL_isSlot_565 : decode cL_isSlot 565 = .ok (.imul, 1) := by decide +kernel
theorem dL_isSlot_566 : decode cL_isSlot 566 = .ok (.bipush 6, 2) := by decide +kernel
theorem dL_isSlot_568 : decode cL_isSlot 568 = .ok (.iadd, 1) := by decide +kernel
theorem dL_isSlot_569 : decode cL_isSlot 569 = .ok (.iaload, 1) := by decide +kernel
theorem dL_isSlot_570 : decode cL_isSlot 570 = .ok (.invokestatic 60, 3) := by decide +kernel
theorem dL_isSlot_573 : decode cL_isSlot 573 = .ok (.if_icmp .gt 35, 3) := by decide +kernel
theorem dL_isSlot_576 : decode cL_isSlot 576 = .ok (.iload 11, 2) := by decide +kernel
theorem dL_isSlot_578 : decode cL_isSlot 578 = .ok (.ifCond .eq 26, 3) := by decide +kernel
theorem dL_isSlot_581 : decode cL_isSlot 581 = .ok (.iload 9, 2) := by decide +kernel
theorem dL_isSlot_583 : decode cL_isSlot 583 = .ok (.ifCond .eq 25, 3) := by decide +kernel
theorem dL_isSlot_586 : decode cL_isSlot 586 = .ok (.aload_n 0, 1) := by decide +kernel
theorem dL_isSlot_587 : decode cL_isSlot 587 = .ok (.iload 8, 2) := by decide +kernel
theorem dL_isSlot_589 : decode cL_isSlot 589 = .ok (.invokevirtual 35, 3) := by decide +kernel
theorem dL_isSlot_592 : decode cL_isSlot 592 = .ok (.ifCond .ne 16, 3) := by decide +kernel
theorem dL_isSlot_595 : decode cL_isSlot 595 = .ok (.aload_n 0, 1) := by decide +kernel
theorem dL_isSlot_596 : decode cL_isSlot 596 = .ok (.iload 8, 2) := by decide +kernel
theorem dL_isSlot_598 : decode cL_isSlot 598 = .ok (.invokevirtual 22, 3) := by decide +kernel
theorem dL_isSlot_601 : decode cL_isSlot 601 = .ok (.ifCond .ne 7, 3) := by decide +kernel
theorem dL_isSlot_604 : decode cL_isSlot 604 = .ok (.iconst 1, 1) := by decide +kernel
theorem dL_isSlot_605 : decode cL_isSlot 605 = .ok (.goto 4, 3) := by decide +kernel
theorem dL_isSlot_608 : decode cL_isSlot 608 = .ok (.iconst 0, 1) := by decide +kernel
theorem dL_isSlot_609 : decode cL_isSlot 609 = .ok (.istore 7, 2) := by decide +kernel
theorem dL_isSlot_611 : decode cL_isSlot 611 = .ok (.aload_n 2, 1) := by decide +kernel
theorem dL_isSlot_612 : decode cL_isSlot 612 = .ok (.bipush 8, 2) := by decide +kernel
theorem dL_isSlot_614 : decode cL_isSlot 614 = .ok (.iload 8, 2) := by decide +kernel
theorem dL_isSlot_616 : decode cL_isSlot 616 = .ok (.imul, 1) := by decide +kernel
theorem dL_isSlot_617 : decode cL_isSlot 617 = .ok (.iconst 2, 1) := by decide +kernel
theorem dL_isSlot_618 : decode cL_isSlot 618 = .ok (.iadd, 1) := by decide +kernel
theorem dL_isSlot_619 : decode cL_isSlot 619 = .ok (.iaload, 1) := by decide +kernel
theorem dL_isSlot_620 : decode cL_isSlot 620 = .ok (.aload_n 0, 1) := by decide +kernel
theorem dL_isSlot_621 : decode cL_isSlot 621 = .ok (.iload 8, 2) := by decide +kernel
theorem dL_isSlot_623 : decode cL_isSlot 623 = .ok (.invokevirtual 39, 3) := by decide +kernel
theorem dL_isSlot_626 : decode cL_isSlot 626 = .ok (.isub, 1) := by decide +kernel
theorem dL_isSlot_627 : decode cL_isSlot 627 = .ok (.istore 12, 2) := by decide +kernel
theorem dL_isSlot_629 : decode cL_isSlot 629 = .ok (.iload 7, 2) := by decide +kernel
theorem dL_isSlot_631 : decode cL_isSlot 631 = .ok (.ifCond .eq 62, 3) := by decide +kernel
theorem dL_isSlot_634 : decode cL_isSlot 634 = .ok (.iload 12, 2) := by decide +kernel
theorem dL_isSlot_636 : decode cL_isSlot 636 = .ok (.ifCond .eq 53, 3) := by decide +kernel
theorem dL_isSlot_639 : decode cL_isSlot 639 = .ok (.iload 12, 2) := by decide +kernel
theorem dL_isSlot_641 : decode cL_isSlot 641 = .ok (.iconst 1, 1) := by decide +kernel
theorem dL_isSlot_642 : decode cL_isSlot 642 = .ok (.if_icmp .ne 51, 3) := by decide +kernel
theorem dL_isSlot_645 : decode cL_isSlot 645 = .ok (.aload_n 0, 1) := by decide +kernel
theorem dL_isSlot_646 : decode cL_isSlot 646 = .ok (.iload 8, 2) := by decide +kernel
theorem dL_isSlot_648 : decode cL_isSlot 648 = .ok (.invokevirtual 54, 3) := by decide +kernel
theorem dL_isSlot_651 : decode cL_isSlot 651 = .ok (.aload_n 2, 1) := by decide +kernel
theorem dL_isSlot_652 : decode cL_isSlot 652 = .ok (.bipush 8, 2) := by decide +kernel
theorem dL_isSlot_654 : decode cL_isSlot 654 = .ok (.iload 8, 2) := by decide +kernel
theorem dL_isSlot_656 : decode cL_isSlot 656 = .ok (.imul, 1) := by decide +kernel
theorem dL_isSlot_657 : decode cL_isSlot 657 = .ok (.bipush 7, 2) := by decide +kernel
theorem dL_isSlot_659 : decode cL_isSlot 659 = .ok (.iadd, 1) := by decide +kernel
theorem dL_isSlot_660 : decode cL_isSlot 660 = .ok (.iaload, 1) := by decide +kernel
theorem dL_isSlot_661 : decode cL_isSlot 661 = .ok (.iconst 1, 1) := by decide +kernel
theorem dL_isSlot_662 : decode cL_isSlot 662 = .ok (.iadd, 1) := by decide +kernel
theorem dL_isSlot_663 : decode cL_isSlot 663 = .ok (.if_icmp .ne 8, 3) := by decide +kernel
theorem dL_isSlot_666 : decode cL_isSlot 666 = .ok (.iload 11, 2) := by decide +kernel
theorem dL_isSlot_668 : decode cL_isSlot 668 = .ok (.ifCond .eq 21, 3) := by decide +kernel
theorem dL_isSlot_671 : decode cL_isSlot 671 = .ok (.iload 11, 2) := by decide +kernel
theorem dL_isSlot_673 : decode cL_isSlot 673 = .ok (.aload_n 2, 1) := by decide +kernel
theorem dL_isSlot_674 : decode cL_isSlot 674 = .ok (.bipush 8, 2) := by decide +kernel
theorem dL_isSlot_676 : decode cL_isSlot 676 = .ok (.iload 8, 2) := by decide +kernel
theorem dL_isSlot_678 : decode cL_isSlot 678 = .ok (.imul, 1) := by decide +kernel
theorem dL_isSlot_679 : decode cL_isSlot 679 = .ok (.bipush 6, 2) := by decide +kernel
theorem dL_isSlot_681 : decode cL_isSlot 681 = .ok (.iadd, 1) := by decide +kernel
theorem dL_isSlot_682 : decode cL_isSlot 682 = .ok (.iaload, 1) := by decide +kernel
theorem dL_isSlot_683 : decode cL_isSlot 683 = .ok (.invokestatic 60, 3) := by decide +kernel
theorem dL_isSlot_686 : decode cL_isSlot 686 = .ok (.if_icmp .ne 7, 3) := by decide +kernel
theorem dL_isSlot_689 : decode cL_isSlot 689 = .ok (.iconst 1, 1) := by decide +kernel
theorem dL_isSlot_690 : decode cL_isSlot 690 = .ok (.goto 4, 3) := by decide +kernel
theorem dL_isSlot_693 : decode cL_isSlot 693 = .ok (.iconst 0, 1) := by decide +kernel
theorem dL_isSlot_694 : decode cL_isSlot 694 = .ok (.istore 7, 2) := by decide +kernel
theorem dL_isSlot_696 : decode cL_isSlot 696 = .ok (.aload_n 2, 1) := by decide +kernel
theorem dL_isSlot_697 : decode cL_isSlot 697 = .ok (.bipush 8, 2) := by decide +kernel
theorem dL_isSlot_699 : decode cL_isSlot 699 = .ok (.iload 8, 2) := by decide +kernel
theorem dL_isSlot_701 : decode cL_isSlot 701 = .ok (.imul, 1) := by decide +kernel
theorem dL_isSlot_702 : decode cL_isSlot 702 = .ok (.iload 9, 2) := by decide +kernel
theorem dL_isSlot_704 : decode cL_isSlot 704 = .ok (.ifCond .eq 7, 3) := by decide +kernel
theorem dL_isSlot_707 : decode cL_isSlot 707 = .ok (.iconst 1, 1) := by decide +kernel
theorem dL_isSlot_708 : decode cL_isSlot 708 = .ok (.goto 4, 3) := by decide +kernel
theorem dL_isSlot_711 : decode cL_isSlot 711 = .ok (.iconst 0, 1) := by decide +kernel
theorem dL_isSlot_712 : decode cL_isSlot 712 = .ok (.iastore, 1) := by decide +kernel
theorem dL_isSlot_713 : decode cL_isSlot 713 = .ok (.iinc 8 1, 3) := by decide +kernel
theorem dL_isSlot_716 : decode cL_isSlot 716 = .ok (.goto (-535), 3) := by decide +kernel
theorem dL_isSlot_719 : decode cL_isSlot 719 = .ok (.iconst 0, 1) := by decide +kernel
theorem dL_isSlot_720 : decode cL_isSlot 720 = .ok (.istore 8, 2) := by decide +kernel
theorem dL_isSlot_722 : decode cL_isSlot 722 = .ok (.iload 8, 2) := by decide +kernel
theorem dL_isSlot_724 : decode cL_isSlot 724 = .ok (.bipush 6, 2) := by decide +kernel
theorem dL_isSlot_726 : decode cL_isSlot 726 = .ok (.if_icmp .ge 20, 3) := by decide +kernel
theorem dL_isSlot_729 : decode cL_isSlot 729 = .ok (.aload_n 3, 1) := by decide +kernel
theorem dL_isSlot_730 : decode cL_isSlot 730 = .ok (.iload 8, 2) := by decide +kernel
theorem dL_isSlot_732 : decode cL_isSlot 732 = .ok (.aload_n 2, 1) := by decide +kernel
theorem dL_isSlot_733 : decode cL_isSlot 733 = .ok (.bipush 8, 2) := by decide +kernel
theorem dL_isSlot_735 : decode cL_isSlot 735 = .ok (.iload 8, 2) := by decide +kernel
theorem dL_isSlot_737 : decode cL_isSlot 737 = .ok (.imul, 1) := by decide +kernel
theorem dL_isSlot_738 : decode cL_isSlot 738 = .ok (.iaload, 1) := by decide +kernel
theorem dL_isSlot_739 : decode cL_isSlot 739 = .ok (.iastore, 1) := by decide +kernel
theorem dL_isSlot_740 : decode cL_isSlot 740 = .ok (.iinc 8 1, 3) := by decide +kernel
theorem dL_isSlot_743 : decode cL_isSlot 743 = .ok (.goto (-21), 3) := by decide +kernel
theorem dL_isSlot_746 : decode cL_isSlot 746 = .ok (.iload 7, 2) := by decide +kernel
theorem dL_isSlot_748 : decode cL_isSlot 748 = .ok (.ifCond .eq 14, 3) := by decide +kernel
theorem dL_isSlot_751 : decode cL_isSlot 751 = .ok (.iload 6, 2) := by decide +kernel
theorem dL_isSlot_753 : decode cL_isSlot 753 = .ok (.iload 4, 2) := by decide +kernel
theorem dL_isSlot_755 : decode cL_isSlot 755 = .ok (.if_icmp .ne 7, 3) := by decide +kernel
theorem dL_isSlot_758 : decode cL_isSlot 758 = .ok (.iconst 1, 1) := by decide +kernel
theorem dL_isSlot_759 : decode cL_isSlot 759 = .ok (.goto 4, 3) := by decide +kernel
theorem dL_isSlot_762 : decode cL_isSlot 762 = .ok (.iconst 0, 1) := by decide +kernel
theorem dL_isSlot_763 : decode cL_isSlot 763 = .ok (.ireturn, 1) := by decide +kernel
set_option maxRecDepth 20000 in
theorem ggL_law_X5_init : GoodIn wsL_law wsX5_init := goodIn_r _ [9, 10, 11, 12, 13, 14, 15, 16, 17, 18, 19, 20, 21, 22, 23, 24, 25, 26, 27, 28, 29, 3, 30, 31, 32, 33, 34, 35, 36, 37, 38, 39, 40, 41, 42, 43, 44, 45, 46, 47, 48, 49, 50, 51, 52, 53, 54, 55, 56, 57, 58, 59, 60, 61, 62, 63, 64, 65, 66, 67, 68, 69, 70, 71, 72, 73, 319, 320, 321, 322, 323, 324, 325, 326, 327, 328, 329, 330, 331, 332, 333, 334, 335, 336, 337, 338, 339, 340, 341, 342, 343, 344, 345, 346, 347, 348, 349] (by decide +kernel) (by decide +kernel)
set_option maxRecDepth 20000 in
theorem gL_law_X5_init : GoodIn wsL_law (wsX5_init) := ggL_law_X5_init
set_option maxRecDepth 20000 in
theorem ggL_law_L_isStation : GoodIn wsL_law wsL_isStation := goodIn_ca (goodIn_r _ [77, 78, 79, 80, 2, 81, 82, 83, 84, 85, 86, 87, 14, 88, 89, 90, 91, 92, 93, 94, 95, 96, 97, 98, 99, 100, 101, 102, 103, 24, 104, 105, 106, 107, 108, 109, 110, 111, 112, 113, 114, 115, 116, 117, 118, 42, 119, 63, 62, 120, 121, 122, 123, 124, 125, 126, 127, 128, 129, 130, 46, 131, 68, 132, 133, 134, 135, 328, 329, 330, 331, 332, 333, 334, 335, 336, 337, 338, 339, 319, 320, 321, 322, 323, 343, 344, 345, 346, 347, 348, 349, 340, 341, 342] (by decide +kernel) (by decide +kernel)) (goodIn_sub (fun _ h => List.mem_append_left _ (List.mem_append_left _ (List.mem_append_right _ h))) (by decide +kernel))
set_option maxRecDepth 20000 in
theorem gL_law_L_isStation : GoodIn wsL_law (va_wsS RL 66 yL_isStation wsL_isStation) := goodIn_app (goodIn_of _ (by decide +kernel)) ggL_law_L_isStation
set_option maxRecDepth 20000 in
theorem ggL_law_X5_setStrength : GoodIn wsL_law wsX5_setStrength := goodIn_ca (goodIn_ca (goodIn_r _ [139, 140, 141, 18, 82, 83, 84, 2, 85, 86, 87, 14, 142, 143, 144, 17, 145, 30, 146, 147, 148, 149, 150, 151, 152, 153, 154, 319, 320, 321, 322, 323, 324] (by decide +kernel) (by decide +kernel)) (goodIn_sub (fun _ h => List.mem_append_left _ (List.mem_append_right _ h)) (by decide +kernel))) (goodIn_sub (fun _ h => List.mem_append_left _ (List.mem_append_left _ (List.mem_append_right _ h))) (by decide +kernel))
set_option maxRecDepth 20000 in
theorem gL_law_X5_setStrength : GoodIn wsL_law (wsV RL 73 RX5 yX5_setStrength wsX5_setStrength) := goodIn_app (goodIn_of _ (by decide +kernel)) ggL_law_X5_setStrength
set_option maxRecDepth 20000 in
theorem ggL_law_X5_setReserve : GoodIn wsL_law wsX5_setReserve := goodIn_ca (goodIn_r _ [158, 140, 141, 23, 319, 320, 321, 322, 323] (by decide +kernel) (by decide +kernel)) (goodIn_sub (fun _ h => List.mem_append_left _ (List.mem_append_right _ h)) (by decide +kernel))
set_option maxRecDepth 20000 in
theorem gL_law_X5_setReserve : GoodIn wsL_law (wsV RL 76 RX5 yX5_setReserve wsX5_setReserve) := goodIn_app (goodIn_of _ (by decide +kernel)) ggL_law_X5_setReserve
set_option maxRecDepth 20000 in
theorem ggL_law_X5_setClass : GoodIn wsL_law wsX5_setClass := goodIn_ca (goodIn_ca (goodIn_r _ [162, 140, 141, 82, 83, 84, 2, 85, 86, 87, 14, 163, 164, 165, 328, 329, 330, 331, 332, 333, 334, 335, 336, 337, 338, 339, 319, 320, 321, 322, 323] (by decide +kernel) (by decide +kernel)) (goodIn_sub (fun _ h => List.mem_append_left _ (List.mem_append_right _ h)) (by decide +kernel))) (goodIn_sub (fun _ h => List.mem_append_left _ (List.mem_append_left _ (List.mem_append_right _ h))) (by decide +kernel))
set_option maxRecDepth 20000 in
theorem gL_law_X5_setClass : GoodIn wsL_law (wsV RL 79 RX5 yX5_setClass wsX5_setClass) := goodIn_app (goodIn_of _ (by decide +kernel)) ggL_law_X5_setClass
set_option maxRecDepth 20000 in
theorem ggL_law_X5_window : GoodIn wsL_law wsX5_window := goodIn_ca (goodIn_r _ [81, 82, 83, 84, 2, 85, 86, 87, 14, 328, 329, 330, 331, 332, 333, 334, 335, 336, 337, 338, 339, 319, 320, 321, 322, 323] (by decide +kernel) (by decide +kernel)) (goodIn_sub (fun _ h => List.mem_append_left _ (List.mem_append_left _ (List.mem_append_right _ h))) (by decide +kernel))
set_option maxRecDepth 20000 in
theorem gL_law_X5_window : GoodIn wsL_law (wsV RL 19 RX5 yX5_window wsX5_window) := goodIn_app (goodIn_of _ (by decide +kernel)) ggL_law_X5_window
set_option maxRecDepth 20000 in
theorem ggL_law_X5_numbers : GoodIn wsL_law wsX5_numbers := goodIn_r _ [169, 22, 319, 320, 321, 322, 323, 325, 326, 327] (by decide +kernel) (by decide +kernel)
set_option maxRecDepth 20000 in
theorem gL_law_X5_numbers : GoodIn wsL_law (wsV RL 83 RX5 yX5_numbers wsX5_numbers) := goodIn_app (goodIn_of _ (by decide +kernel)) ggL_law_X5_numbers
set_option maxRecDepth 20000 in
theorem ggL_law_L_tells : GoodIn wsL_law wsL_tells := goodIn_ca (goodIn_ca (goodIn_r _ [172, 173, 174, 175, 176, 2, 177, 140, 141, 178, 179, 22, 180, 181, 182, 21, 183, 35, 36, 34, 319, 320, 321, 322, 323, 325, 326, 327] (by decide +kernel) (by decide +kernel)) (goodIn_sub (fun _ h => List.mem_append_left _ (List.mem_append_right _ h)) (by decide +kernel))) (goodIn_sub (fun _ h => List.mem_append_right _ h) (by decide +kernel))
set_option maxRecDepth 20000 in
theorem gL_law_L_tells : GoodIn wsL_law (va_wsS RL 86 yL_tells wsL_tells) := goodIn_app (goodIn_of _ (by decide +kernel)) ggL_law_L_tells
set_option maxRecDepth 20000 in
theorem ggL_law_X5_frames : GoodIn wsL_law wsX5_frames := goodIn_ca (goodIn_r _ [111, 82, 83, 84, 2, 85, 86, 87, 14, 328, 329, 330, 331, 332, 333, 334, 335, 336, 337, 338, 339, 340, 341, 342, 319, 320, 321, 322, 323] (by decide +kernel) (by decide +kernel)) (goodIn_sub (fun _ h => List.mem_append_left _ (List.mem_append_left _ (List.mem_append_right _ h))) (by decide +kernel))
set_option maxRecDepth 20000 in
theorem gL_law_X5_frames : GoodIn wsL_law (wsV RL 39 RX5 yX5_frames wsX5_frames) := goodIn_app (goodIn_of _ (by decide +kernel)) ggL_law_X5_frames
set_option maxRecDepth 20000 in
theorem ggL_law_L_frames : GoodIn wsL_law wsL_frames := goodIn_ca (goodIn_ca (goodIn_ca (goodIn_r _ [186, 173, 187, 188, 189, 2, 190, 140, 141, 178, 179, 82, 83, 84, 85, 86, 87, 14, 191, 192, 193, 42, 194, 63, 61, 62, 328, 329, 330, 331, 332, 333, 334, 335, 336, 337, 338, 339, 340, 341, 342, 319, 320, 321, 322, 323] (by decide +kernel) (by decide +kernel)) (goodIn_sub (fun _ h => List.mem_append_left _ (List.mem_append_right _ h)) (by decide +kernel))) (goodIn_sub (fun _ h => List.mem_append_right _ h) (by decide +kernel))) (goodIn_sub (fun _ h => List.mem_append_left _ (List.mem_append_left _ (List.mem_append_right _ h))) (by decide +kernel))
set_option maxRecDepth 20000 in
theorem gL_law_L_frames : GoodIn wsL_law (va_wsS RL 90 yL_frames wsL_frames) := goodIn_app (goodIn_of _ (by decide +kernel)) ggL_law_L_frames
set_option maxRecDepth 20000 in
theorem ggL_law_X5_partsLeft : GoodIn wsL_law wsX5_partsLeft := goodIn_ca (goodIn_r _ [115, 82, 83, 84, 2, 85, 86, 87, 14, 116, 117, 118, 42, 119, 63, 62, 328, 329, 330, 331, 332, 333, 334, 335, 336, 337, 338, 339, 319, 320, 321, 322, 323, 340, 341, 342] (by decide +kernel) (by decide +kernel)) (goodIn_sub (fun _ h => List.mem_append_left _ (List.mem_append_left _ (List.mem_append_right _ h))) (by decide +kernel))
set_option maxRecDepth 20000 in
theorem gL_law_X5_partsLeft : GoodIn wsL_law (wsV RL 42 RX5 yX5_partsLeft wsX5_partsLeft) := goodIn_app (goodIn_of _ (by decide +kernel)) ggL_law_X5_partsLeft
theorem dL_law_0 : decode cL_law 0 = .ok (.new 8, 3) := by decide +kernel
theorem dL_law_3 : decode cL_law 3 = .ok (.dup, 1) := by decide +kernel
theorem dL_law_4 : decode cL_law 4 = .ok (.invokespecial 65, 3) := by decide +kernel
theorem dL_law_7 : decode cL_law 7 = .ok (.astore_n 1, 1) := by decide +kernel
theorem dL_law_8 : decode cL_law 8 = .ok (.bipush 36, 2) := by decide +kernel
theorem dL_law_10 : decode cL_law 10 = .ok (.newarray .int, 2) := by decide +kernel
theorem dL_law_12 : decode cL_law 12 = .ok (.astore_n 2, 1) := by decide +kernel
theorem dL_law_13 : decode cL_law 13 = .ok (.bipush 48, 2) := by decide +kernel
theorem dL_law_15 : decode cL_law 15 = .ok (.newarray .int, 2) := by decide +kernel
theorem dL_law_17 : decode cL_law 17 = .ok (.astore_n 3, 1) := by decide +kernel
theorem dL_law_18 : decode cL_law 18 = .ok (.bipush 6, 2) := by decide +kernel
theorem dL_law_20 : decode cL_law 20 = .ok (.newarray .int, 2) := by decide +kernel
theorem dL_law_22 : decode cL_law 22 = .ok (.astore 4, 2) := by decide +kernel
theorem dL_law_24 : decode cL_law 24 = .ok (.bipush 6, 2) := by decide +kernel
theorem dL_law_26 : decode cL_law 26 = .ok (.newarray .int, 2) := by decide +kernel
theorem dL_law_28 : decode cL_law 28 = .ok (.astore 5, 2) := by decide +kernel
theorem dL_law_30 : decode cL_law 30 = .ok (.aload_n 1, 1) := by decide +kernel
theorem dL_law_31 : decode cL_law 31 = .ok (.iconst 0, 1) := by decide +kernel
theorem dL_law_32 : decode cL_law 32 = .ok (.iconst 0, 1) := by decide +kernel
theorem dL_law_33 : decode cL_law 33 = .ok (.invokestatic 66, 3) := by decide +kernel
theorem dL_law_36 : decode cL_law 36 = .ok (.istore 6, 2) := by decide +kernel
theorem dL_law_38 : decode cL_law 38 = .ok (.iconst 0, 1) := by decide +kernel
theorem dL_law_39 : decode cL_law 39 = .ok (.istore 7, 2) := by decide +kernel
theorem dL_law_41 : decode cL_law 41 = .ok (.aload_n 0, 1) := by decide +kernel
theorem dL_law_42 : decode cL_law 42 = .ok (.arraylength, 1) := by decide +kernel
theorem dL_law_43 : decode cL_law 43 = .ok (.bipush 40, 2) := by decide +kernel
theorem dL_law_45 : decode cL_law 45 = .ok (.if_icmp .ge 9, 3) := by decide +kernel
theorem dL_law_48 : decode cL_law 48 = .ok (.sipush 220, 3) := by decide +kernel
theorem dL_law_51 : decode cL_law 51 = .ok (.goto 20, 3) := by decide +kernel
theorem dL_law_54 : decode cL_law 54 = .ok (.aload_n 0, 1) := by decide +kernel
theorem dL_law_55 : decode cL_law 55 = .ok (.arraylength, 1) := by decide +kernel
theorem dL_law_56 : decode cL_law 56 = .ok (.bipush 80, 2) := by decide +kernel
theorem dL_law_58 : decode cL_law 58 = .ok (.if_icmp .ge 10, 3) := by decide +kernel
theorem dL_law_61 : decode cL_law 61 = .ok (.iconst 5, 1) := by decide +kernel
theorem dL_law_62 : decode cL_law 62 = .ok (.aload_n 0, 1) := by decide +kernel
theorem dL_law_63 : decode cL_law 63 = .ok (.arraylength, 1) := by decide +kernel
theorem dL_law_64 : decode cL_law 64 = .ok (.imul, 1) := by decide +kernel
theorem dL_law_65 : decode cL_law 65 = .ok (.goto 6, 3) := by decide +kernel
theorem dL_law_68 : decode cL_law 68 = .ok (.sipush 420, 3) := by decide +kernel
theorem dL_law_71 : decode cL_law 71 = .ok (.istore 8, 2) := by decide +kernel
theorem dL_law_73 : decode cL_law 73 = .ok (.iconst 0, 1) := by decide +kernel
theorem dL_law_74 : decode cL_law 74 = .ok (.istore 9, 2) := by decide +kernel
theorem dL_law_76 : decode cL_law 76 = .ok (.iload 9, 2) := by decide +kernel
theorem dL_law_78 : decode cL_law 78 = .ok (.iload 8, 2) := by decide +kernel
theorem dL_law_80 : decode cL_law 80 = .ok (.if_icmp .ge 568, 3) := by decide +kernel
theorem dL_law_83 : decode cL_law 83 = .ok (.iload 6, 2) := by decide +kernel
theorem dL_law_85 : decode cL_law 85 = .ok (.ifCond .eq 563, 3) := by decide +kernel
theorem dL_law_88 : decode cL_law 88 = .ok (.iload 9, 2) := by decide +kernel
theorem dL_law_90 : decode cL_law 90 = .ok (.aload_n 0, 1) := by decide +kernel
theorem dL_law_91 : decode cL_law 91 = .ok (.arraylength, 1) := by decide +kernel
theorem dL_law_92 : decode cL_law 92 = .ok (.if_icmp .ge 10, 3) := by decide +kernel
theorem dL_law_95 : decode cL_law 95 = .ok (.aload_n 0, 1) := by decide +kernel
theorem dL_law_96 : decode cL_law 96 = .ok (.iload 9, 2) := by decide +kernel
theorem dL_law_98 : decode cL_law 98 = .ok (.iaload, 1) := by decide +kernel
theorem dL_law_99 : decode cL_law 99 = .ok (.goto 20, 3) := by decide +kernel
theorem dL_law_102 : decode cL_law 102 = .ok (.ldc 70, 2) := by decide +kernel
theorem dL_law_104 : decode cL_law 104 = .ok (.iload 9, 2) := by decide +kernel
theorem dL_law_106 : decode cL_law 106 = .ok (.imul, 1) := by decide +kernel
theorem dL_law_107 : decode cL_law 107 = .ok (.iload 9, 2) := by decide +kernel
theorem dL_law_109 : decode cL_law 109 = .ok (.imul, 1) := by decide +kernel
theorem dL_law_110 : decode cL_law 110 = .ok (.ldc 71, 2) := by decide +kernel
theorem dL_law_112 : decode cL_law 112 = .ok (.iload 9, 2) := by decide +kernel
theorem dL_law_114 : decode cL_law 114 = .ok (.imul, 1) := by decide +kernel
theorem dL_law_115 : decode cL_law 115 = .ok (.iadd, 1) := by decide +kernel
theorem dL_law_116 : decode cL_law 116 = .ok (.bipush 102, 2) := by decide +kernel
theorem dL_law_118 : decode cL_law 118 = .ok (.iadd, 1) := by decide +kernel
theorem dL_law_119 : decode cL_law 119 = .ok (.istore 10, 2) := by decide +kernel
theorem dL_law_121 : decode cL_law 121 = .ok (.iload 10, 2) := by decide +kernel
theorem dL_law_123 : decode cL_law 123 = .ok (.iconst 4, 1) := by decide +kernel
theorem dL_law_124 : decode cL_law 124 = .ok (.ishr, 1) := by decide +kernel
theorem dL_law_125 : decode cL_law 125 = .ok (.ldc 72, 2) := by decide +kernel
theorem dL_law_127 : decode cL_law 127 = .ok (.iand, 1) := by decide +kernel
theorem dL_law_128 : decode cL_law 128 = .ok (.istore 11, 2) := by decide +kernel
theorem dL_law_130 : decode cL_law 130 = .ok (.iload 9, 2) := by decide +kernel
theorem dL_law_132 : decode cL_law 132 = .ok (.iconst 5, 1) := by decide +kernel
theorem dL_law_133 : decode cL_law 133 = .ok (.if_icmp .ge 7, 3) := by decide +kernel
theorem dL_law_136 : decode cL_law 136 = .ok (.iconst 0, 1) := by decide +kernel
theorem dL_law_137 : decode cL_law 137 = .ok (.goto 8, 3) := by decide +kernel
theorem dL_law_140 : decode cL_law 140 = .ok (.iload 10, 2) := by decide +kernel
theorem dL_law_142 : decode cL_law 142 = .ok (.bipush 15, 2) := by decide +kernel
theorem dL_law_144 : decode cL_law 144 = .ok (.iand, 1) := by decide +kernel
theorem dL_law_145 : decode cL_law 145 = .ok (.istore 12, 2) := by decide +kernel
theorem dL_law_147 : decode cL_law 147 = .ok (.iload 11, 2) := by decide +kernel
theorem dL_law_149 : decode cL_law 149 = .ok (.bipush 6, 2) := by decide +kernel
theorem dL_law_151 : decode cL_law 151 = .ok (.irem, 1) := by decide +kernel
theorem dL_law_152 : decode cL_law 152 = .ok (.istore 13, 2) := by decide +kernel
theorem dL_law_154 : decode cL_law 154 = .ok (.iload 13, 2) := by decide +kernel
theorem dL_law_156 : decode cL_law 156 = .ok (.iconst 1, 1) := by decide +kernel
theorem dL_law_157 : decode cL_law 157 = .ok (.iadd, 1) := by decide +kernel
theorem dL_law_158 : decode cL_law 158 = .ok (.iload 11, 2) := by decide +kernel
theorem dL_law_160 : decode cL_law 160 = .ok (.iconst 3, 1) := by decide +kernel
theorem dL_law_161 : decode cL_law 161 = .ok (.ishr, 1) := by decide +kernel
theorem dL_law_162 : decode cL_law 162 = .ok (.iconst 5, 1) := by decide +kernel
theorem dL_law_163 : decode cL_law 163 = .ok (.irem, 1) := by decide +kernel
theorem dL_law_164 : decode cL_law 164 = .ok (.iadd, 1) := by decide +kernel
theorem dL_law_165 : decode cL_law 165 = .ok (.bipush 6, 2) := by decide +kernel
theorem dL_law_167 : decode cL_law 167 = .ok (.irem, 1) := by decide +kernel
theorem dL_law_168 : decode cL_law 168 = .ok (.istore 14, 2) := by decide +kernel
theorem dL_law_170 : decode cL_law 170 = .ok (.iload 12, 2) := by decide +kernel
theorem dL_law_172 : decode cL_law 172 = .ok (.ifCond .eq 16, 3) := by decide +kernel
theorem dL_law_175 : decode cL_law 175 = .ok (.iload 12, 2) := by decide +kernel
theorem dL_law_177 : decode cL_law 177 = .ok (.iconst 1, 1) := by decide +kernel
theorem dL_law_178 : decode cL_law 178 = .ok (.if_icmp .ne 111, 3) := by decide +kernel
theorem dL_law_181 : decode cL_law 181 = .ok (.iload 11, 2) := by decide +kernel
theorem dL_law_183 : decode cL_law 183 = .ok (.iconst 1, 1) := by decide +kernel
theorem dL_law_184 : decode cL_law 184 = .ok (.iand, 1) := by decide +kernel
theorem dL_law_185 : decode cL_law 185 = .ok (.ifCond .ne 104, 3) := by decide +kernel
theorem dL_law_188 : decode cL_law 188 = .ok (.iload 9, 2) := by decide +kernel
theorem dL_law_190 : decode cL_law 190 = .ok (.iconst 5, 1) := by decide +kernel
theorem dL_law_191 : decode cL_law 191 = .ok (.if_icmp .ge 16, 3) := by decide +kernel
theorem dL_law_194 : decode cL_law 194 = .ok (.iconst 4, 1) := by decide +kernel
theorem dL_law_195 : decode cL_law 195 = .ok (.iload 11, 2) := by decide +kernel
theorem dL_law_197 : decode cL_law 197 = .ok (.bipush 6, 2) := by decide +kernel
theorem dL_law_199 : decode cL_law 199 = .ok (.ishr, 1) := by decide +kernel
theorem dL_law_200 : decode cL_law 200 = .ok (.bipush 6, 2) := by decide +kernel
theorem dL_law_202 : decode cL_law 202 = .ok (.irem, 1) := by decide +kernel
theorem dL_law_203 : decode cL_law 203 = .ok (.iadd, 1) := by decide +kernel
theorem dL_law_204 : decode cL_law 204 = .ok (.goto 11, 3) := by decide +kernel
theorem dL_law_207 : decode cL_law 207 = .ok (.iload 11, 2) := by decide +kernel
theorem dL_law_209 : decode cL_law 209 = .ok (.bipush 6, 2) := by decide +kernel
theorem dL_law_211 : decode cL_law 211 = .ok (.ishr, 1) := by decide +kernel
theorem dL_law_212 : decode cL_law 212 = .ok (.bipush 10, 2) := by decide +kernel
theorem dL_law_214 : decode cL_law 214 = .ok (.irem, 1) := by decide +kernel
theorem dL_law_215 : decode cL_law 215 = .ok (.istore 15, 2) := by decide +kernel
theorem dL_law_217 : decode cL_law 217 = .ok (.aload_n 1, 1) := by decide +kernel
theorem dL_law_218 : decode cL_law 218 = .ok (.iload 13, 2) := by decide +kernel
theorem dL_law_220 : decode cL_law 220 = .ok (.iload 14, 2) := by decide +kernel
theorem dL_law_222 : decode cL_law 222 = .ok (.iload 15, 2) := by decide +kernel
theorem dL_law_224 : decode cL_law 224 = .ok (.invokevirtual 73, 3) := by decide +kernel
theorem dL_law_227 : decode cL_law 227 = .ok (.aload_n 2, 1) := by decide +kernel
theorem dL_law_228 : decode cL_law 228 = .ok (.bipush 6, 2) := by decide +kernel
theorem dL_law_230 : decode cL_law 230 = .ok (.iload 13, 2) := by decide +kernel
theorem dL_law_232 : decode cL_law 232 = .ok (.imul, 1) := by decide +kernel
theorem dL_law_233 : decode cL_law 233 = .ok (.iload 14, 2) := by decide +kernel
theorem dL_law_235 : decode cL_law 235 = .ok (.iadd, 1) := by decide +kernel
theorem dL_law_236 : decode cL_law 236 = .ok (.iaload, 1) := by decide +kernel
theorem dL_law_237 : decode cL_law 237 = .ok (.if_icmp .ne 22, 3) := by decide +kernel
theorem dL_law_240 : decode cL_law 240 = .ok (.aload_n 1, 1) := by decide +kernel
theorem dL_law_241 : decode cL_law 241 = .ok (.iload 14, 2) := by decide +kernel
theorem dL_law_243 : decode cL_law 243 = .ok (.iload 13, 2) := by decide +kernel
theorem dL_law_245 : decode cL_law 245 = .ok (.iload 15, 2) := by decide +kernel
theorem dL_law_247 : decode cL_law 247 = .ok (.invokevirtual 73, 3) := by decide +kernel
theorem dL_law_250 : decode cL_law 250 = .ok (.iload 15, 2) := by decide +kernel
theorem dL_law_252 : decode cL_law 252 = .ok (.if_icmp .ne 7, 3) := by decide +kernel
theorem dL_law_255 : decode cL_law 255 = .ok (.iconst 1, 1) := by decide +kernel
theorem dL_law_256 : decode cL_law 256 = .ok (.goto 4, 3) := by decide +kernel
theorem dL_law_259 : decode cL_law 259 = .ok (.iconst 0, 1) := by decide +kernel
theorem dL_law_260 : decode cL_law 260 = .ok (.istore 6, 2) := by decide +kernel
theorem dL_law_262 : decode cL_law 262 = .ok (.aload_n 2, 1) := by decide +kernel
theorem dL_law_263 : decode cL_law 263 = .ok (.bipush 6, 2) := by decide +kernel
theorem dL_law_265 : decode cL_law 265 = .ok (.iload 13, 2) := by decide +kernel
theorem dL_law_267 : decode cL_law 267 = .ok (.imul, 1) := by decide +kernel
theorem dL_law_268 : decode cL_law 268 = .ok (.iload 14, 2) := by decide +kernel
theorem dL_law_270 : decode cL_law 270 = .ok (.iadd, 1) := by decide +kernel
theorem dL_law_271 : decode cL_law 271 = .ok (.iload 15, 2) := by decide +kernel
theorem dL_law_273 : decode cL_law 273 = .ok (.iastore, 1) := by decide +kernel
theorem dL_law_274 : decode cL_law 274 = .ok (.aload_n 2, 1) := by decide +kernel
theorem dL_law_275 : decode cL_law 275 = .ok (.bipush 6, 2) := by decide +kernel
theorem dL_law_277 : decode cL_law 277 = .ok (.iload 14, 2) := by decide +kernel
theorem dL_law_279 : decode cL_law 279 = .ok (.imul, 1) := by decide +kernel
theorem dL_law_280 : decode cL_law 280 = .ok (.iload 13, 2) := by decide +kernel
theorem dL_law_282 : decode cL_law 282 = .ok (.iadd, 1) := by decide +kernel
theorem dL_law_283 : decode cL_law 283 = .ok (.iload 15, 2) := by decide +kernel
theorem dL_law_285 : decode cL_law 285 = .ok (.iastore, 1) := by decide +kernel
theorem dL_law_286 : decode cL_law 286 = .ok (.goto 322, 3) := by decide +kernel
theorem dL_law_289 : decode cL_law 289 = .ok (.iload 12, 2) := by decide +kernel
theorem dL_law_291 : decode cL_law 291 = .ok (.iconst 1, 1) := by decide +kernel
theorem dL_law_292 : decode cL_law 292 = .ok (.if_icmp .ne 51, 3) := by decide +kernel
theorem dL_law_295 : decode cL_law 295 = .ok (.aload_n 1, 1) := by decide +kernel
theorem dL_law_296 : decode cL_law 296 = .ok (.iconst 1, 1) := by decide +kernel
theorem dL_law_297 : decode cL_law 297 = .ok (.iload 11, 2) := by decide +kernel
theorem dL_law_299 : decode cL_law 299 = .ok (.iconst 3, 1) := by decide +kernel
theorem dL_law_300 : decode cL_law 300 = .ok (.ishr, 1) := by decide +kernel
theorem dL_law_301 : decode cL_law 301 = .ok (.iconst 5, 1) := by decide +kernel
theorem dL_law_302 : decode cL_law 302 = .ok (.irem, 1) := by decide +kernel
theorem dL_law_303 : decode cL_law 303 = .ok (.iadd, 1) := by decide +kernel
theorem dL_law_304 : decode cL_law 304 = .ok (.invokevirtual 76, 3) := by decide +kernel
theorem dL_law_307 : decode cL_law 307 = .ok (.ifCond .le 30, 3) := by decide +kernel
theorem dL_law_310 : decode cL_law 310 = .ok (.aload_n 1, 1) := by decide +kernel
theorem dL_law_311 : decode cL_law 311 = .ok (.iconst 1, 1) := by decide +kernel
theorem dL_law_312 : decode cL_law 312 = .ok (.iload 11, 2) := by decide +kernel
theorem dL_law_314 : decode cL_law 314 = .ok (.iconst 3, 1) := by decide +kernel
theorem dL_law_315 : decode cL_law 315 = .ok (.ishr, 1) := by decide +kernel
theorem dL_law_316 : decode cL_law 316 = .ok (.iconst 5, 1) := by decide +kernel
theorem dL_law_317 : decode cL_law 317 = .ok (.irem, 1) := by decide +kernel
theorem dL_law_318 : decode cL_law 318 = .ok (.iadd, 1) := by decide +kernel
theorem dL_law_319 : decode cL_law 319 = .ok (.invokevirtual 76, 3) := by decide +kernel
theorem dL_law_322 : decode cL_law 322 = .ok (.iconst 1, 1) := by decide +kernel
theorem dL_law_323 : decode cL_law 323 = .ok (.iload 11, 2) := by decide +kernel
theorem dL_law_325 : decode cL_law 325 = .ok (.iconst 3, 1) := by decide +kernel
theorem dL_law_326 : decode cL_law 326 = .ok (.ishr, 1) := by decide +kernel
theorem dL_law_327 : decode cL_law 327 = .ok (.iconst 5, 1) := by decide +kernel
theorem dL_law_328 : decode cL_law 328 = .ok (.irem, 1) := by decide +kernel
theorem dL_law_329 : decode cL_law 329 = .ok (.iadd, 1) := by decide +kernel
theorem dL_law_330 : decode cL_law 330 = .ok (.if_icmp .ne 7, 3) := by decide +kernel
theorem dL_law_333 : decode cL_law 333 = .ok (.iconst 1, 1) := by decide +kernel
theorem dL_law_334 : decode cL_law 334 = .ok (.goto 4, 3) := by decide +kernel
theorem dL_law_337 : decode cL_law 337 = .ok (.iconst 0, 1) := by decide +kernel
theorem dL_law_338 : decode cL_law 338 = .ok (.istore 6, 2) := by decide +kernel
theorem dL_law_340 : decode cL_law 340 = .ok (.goto 268, 3) := by decide +kernel
theorem dL_law_343 : decode cL_law 343 = .ok (.iload 12, 2) := by decide +kernel
theorem dL_law_345 : decode cL_law 345 = .ok (.iconst 2, 1) := by decide +kernel
theorem dL_law_346 : decode cL_law 346 = .ok (.if_icmp .ne 79, 3) := by decide +kernel
theorem dL_law_349 : decode cL_law 349 = .ok (.iload 11, 2) := by decide +kernel
theorem dL_law_351 : decode cL_law 351 = .ok (.iconst 3, 1) := by decide +kernel
theorem dL_law_352 : decode cL_law 352 = .ok (.iand, 1) := by decide +kernel
theorem dL_law_353 : decode cL_law 353 = .ok (.ifCond .ne 72, 3) := by decide +kernel
theorem dL_law_356 : decode cL_law 356 = .ok (.iload 11, 2) := by decide +kernel
theorem dL_law_358 : decode cL_law 358 = .ok (.iconst 3, 1) := by decide +kernel
theorem dL_law_359 : decode cL_law 359 = .ok (.ishr, 1) := by decide +kernel
theorem dL_law_360 : decode cL_law 360 = .ok (.bipush 6, 2) := by decide +kernel
theorem dL_law_362 : decode cL_law 362 = .ok (.irem, 1) := by decide +kernel
theorem dL_law_363 : decode cL_law 363 = .ok (.istore 13, 2) := by decide +kernel
theorem dL_law_365 : decode cL_law 365 = .ok (.aload_n 1, 1) := by decide +kernel
theorem dL_law_366 : decode cL_law 366 = .ok (.iload 13, 2) := by decide +kernel
theorem dL_law_368 : decode cL_law 368 = .ok (.iload 11, 2) := by decide +kernel
theorem dL_law_370 : decode cL_law 370 = .ok (.iconst 2, 1) := by decide +kernel
theorem dL_law_371 : decode cL_law 371 = .ok (.ishr, 1) := by decide +kernel
theorem dL_law_372 : decode cL_law 372 = .ok (.iconst 1, 1) := by decide +kernel
theorem dL_law_373 : decode cL_law 373 = .ok (.iand, 1) := by decide +kernel
theorem dL_law_374 : decode cL_law 374 = .ok (.invokevirtual 79, 3) := by decide +kernel
theorem dL_law_377 : decode cL_law 377 = .ok (.aload 5, 2) := by decide +kernel
theorem dL_law_379 : decode cL_law 379 = .ok (.iload 13, 2) := by decide +kernel
theorem dL_law_381 : decode cL_law 381 = .ok (.iaload, 1) := by decide +kernel
theorem dL_law_382 : decode cL_law 382 = .ok (.if_icmp .ne 26, 3) := by decide +kernel
theorem dL_law_385 : decode cL_law 385 = .ok (.aload_n 1, 1) := by decide +kernel
theorem dL_law_386 : decode cL_law 386 = .ok (.iload 13, 2) := by decide +kernel
theorem dL_law_388 : decode cL_law 388 = .ok (.invokevirtual 19, 3) := by decide +kernel
theorem dL_law_391 : decode cL_law 391 = .ok (.iconst 3, 1) := by decide +kernel
theorem dL_law_392 : decode cL_law 392 = .ok (.iconst 4, 1) := by decide +kernel
theorem dL_law_393 : decode cL_law 393 = .ok (.iload 11, 2) := by decide +kernel
theorem dL_law_395 : decode cL_law 395 = .ok (.iconst 2, 1) := by decide +kernel
theorem dL_law_396 : decode cL_law 396 = .ok (.ishr, 1) := by decide +kernel
theorem dL_law_397 : decode cL_law 397 = .ok (.iconst 1, 1) := by decide +kernel
theorem dL_law_398 : decode cL_law 398 = .ok (.iand, 1) := by decide +kernel
theorem dL_law_399 : decode cL_law 399 = .ok (.imul, 1) := by decide +kernel
theorem dL_law_400 : decode cL_law 400 = .ok (.iadd, 1) := by decide +kernel
theorem dL_law_401 : decode cL_law 401 = .ok (.if_icmp .ne 7, 3) := by decide +kernel
theorem dL_law_404 : decode cL_law 404 = .ok (.iconst 1, 1) := by decide +kernel
theorem dL_law_405 : decode cL_law 405 = .ok (.goto 4, 3) := by decide +kernel
theorem dL_law_408 : decode cL_law 408 = .ok (.iconst 0, 1) := by decide +kernel
theorem dL_law_409 : decode cL_law 409 = .ok (.istore 6, 2) := by decide +kernel
theorem dL_law_411 : decode cL_law 411 = .ok (.aload 5, 2) := by decide +kernel
theorem dL_law_413 : decode cL_law 413 = .ok (.iload 13, 2) := by decide +kernel
theorem dL_law_415 : decode cL_law 415 = .ok (.iload 11, 2) := by decide +kernel
theorem dL_law_417 : decode cL_law 417 = .ok (.iconst 2, 1) := by decide +kernel
theorem dL_law_418 : decode cL_law 418 = .ok (.ishr, 1) := by decide +kernel
theorem dL_law_419 : decode cL_law 419 = .ok (.iconst 1, 1) := by decide +kernel
theorem dL_law_420 : decode cL_law 420 = .ok (.iand, 1) := by decide +kernel
theorem dL_law_421 : decode cL_law 421 = .ok (.iastore, 1) := by decide +kernel
theorem dL_law_422 : decode cL_law 422 = .ok (.goto 186, 3) := by decide +kernel
theorem dL_law_425 : decode cL_law 425 = .ok (.iload 12, 2) := by decide +kernel
theorem dL_law_427 : decode cL_law 427 = .ok (.iconst 5, 1) := by decide +kernel
theorem dL_law_428 : decode cL_law 428 = .ok (.if_icmp .ge 55, 3) := by decide +kernel
theorem dL_law_431 : decode cL_law 431 = .ok (.aload_n 1, 1) := by decide +kernel
theorem dL_law_432 : decode cL_law 432 = .ok (.invokevirtual 83, 3) := by decide +kernel
theorem dL_law_435 : decode cL_law 435 = .ok (.istore 15, 2) := by decide +kernel
theorem dL_law_437 : decode cL_law 437 = .ok (.aload_n 1, 1) := by decide +kernel
theorem dL_law_438 : decode cL_law 438 = .ok (.iload 11, 2) := by decide +kernel
theorem dL_law_440 : decode cL_law 440 = .ok (.iconst 3, 1) := by decide +kernel
theorem dL_law_441 : decode cL_law 441 = .ok (.ishr, 1) := by decide +kernel
theorem dL_law_442 : decode cL_law 442 = .ok (.sipush 1001, 3) := by decide +kernel
theorem dL_law_445 : decode cL_law 445 = .ok (.irem, 1) := by decide +kernel
theorem dL_law_446 : decode cL_law 446 = .ok (.invokestatic 86, 3) := by decide +kernel
theorem dL_law_449 : decode cL_law 449 = .ok (.istore 7, 2) := by decide +kernel
theorem dL_law_451 : decode cL_law 451 = .ok (.iload 7, 2) := by decide +kernel
theorem dL_law_453 : decode cL_law 453 = .ok (.iload 15, 2) := by decide +kernel
theorem dL_law_455 : decode cL_law 455 = .ok (.sipush 200, 3) := by decide +kernel
theorem dL_law_458 : decode cL_law 458 = .ok (.if_icmp .ge 10, 3) := by decide +kernel
theorem dL_law_461 : decode cL_law 461 = .ok (.iload 15, 2) := by decide +kernel
theorem dL_law_463 : decode cL_law 463 = .ok (.iconst 1, 1) := by decide +kernel
theorem dL_law_464 : decode cL_law 464 = .ok (.iadd, 1) := by decide +kernel
theorem dL_law_465 : decode cL_law 465 = .ok (.goto 5, 3) := by decide +kernel
theorem dL_law_468 : decode cL_law 468 = .ok (.bipush (-3), 2) := by decide +kernel
theorem dL_law_470 : decode cL_law 470 = .ok (.if_icmp .ne 7, 3) := by decide +kernel
theorem dL_law_473 : decode cL_law 473 = .ok (.iconst 1, 1) := by decide +kernel
theorem dL_law_474 : decode cL_law 474 = .ok (.goto 4, 3) := by decide +kernel
theorem dL_law_477 : decode cL_law 477 = .ok (.iconst 0, 1) := by decide +kernel
theorem dL_law_478 : decode cL_law 478 = .ok (.istore 6, 2) := by decide +kernel
theorem dL_law_480 : decode cL_law 480 = .ok (.goto 128, 3) := by decide +kernel
theorem dL_law_483 : decode cL_law 483 = .ok (.iload 12, 2) := by decide +kernel
theorem dL_law_485 : decode cL_law 485 = .ok (.bipush 8, 2) := by decide +kernel
theorem dL_law_487 : decode cL_law 487 = .ok (.if_icmp .ge 80, 3) := by decide +kernel
theorem dL_law_490 : decode cL_law 490 = .ok (.iconst 1, 1) := by decide +kernel
theorem dL_law_491 : decode cL_law 491 = .ok (.iload 11, 2) := by decide +kernel
theorem dL_law_493 : decode cL_law 493 = .ok (.bipush 8, 2) := by decide +kernel
theorem dL_law_495 : decode cL_law 495 = .ok (.ishr, 1) := by decide +kernel
theorem dL_law_496 : decode cL_law 496 = .ok (.iconst 4, 1) := by decide +kernel
theorem dL_law_497 : decode cL_law 497 = .ok (.irem, 1) := by decide +kernel
theorem dL_law_498 : decode cL_law 498 = .ok (.iadd, 1) := by decide +kernel
theorem dL_law_499 : decode cL_law 499 = .ok (.istore 15, 2) := by decide +kernel
theorem dL_law_501 : decode cL_law 501 = .ok (.aload_n 1, 1) := by decide +kernel
theorem dL_law_502 : decode cL_law 502 = .ok (.iload 13, 2) := by decide +kernel
theorem dL_law_504 : decode cL_law 504 = .ok (.invokevirtual 39, 3) := by decide +kernel
theorem dL_law_507 : decode cL_law 507 = .ok (.istore 16, 2) := by decide +kernel
theorem dL_law_509 : decode cL_law 509 = .ok (.aload_n 1, 1) := by decide +kernel
theorem dL_law_510 : decode cL_law 510 = .ok (.iload 13, 2) := by decide +kernel
theorem dL_law_512 : decode cL_law 512 = .ok (.iload 14, 2) := by decide +kernel
theorem dL_law_514 : decode cL_law 514 = .ok (.iload 15, 2) := by decide +kernel
theorem dL_law_516 : decode cL_law 516 = .ok (.invokestatic 90, 3) := by decide +kernel
theorem dL_law_519 : decode cL_law 519 = .ok (.iload 16, 2) := by decide +kernel
theorem dL_law_521 : decode cL_law 521 = .ok (.iconst 5, 1) := by decide +kernel
theorem dL_law_522 : decode cL_law 522 = .ok (.if_icmp .ge 10, 3) := by decide +kernel
theorem dL_law_525 : decode cL_law 525 = .ok (.iload 16, 2) := by decide +kernel
theorem dL_law_527 : decode cL_law 527 = .ok (.iconst 1, 1) := by decide +kernel
theorem dL_law_528 : decode cL_law 528 = .ok (.iadd, 1) := by decide +kernel
theorem dL_law_529 : decode cL_law 529 = .ok (.goto 5, 3) := by decide +kernel
theorem dL_law_532 : decode cL_law 532 = .ok (.bipush (-3), 2) := by decide +kernel
theorem dL_law_534 : decode cL_law 534 = .ok (.if_icmp .ne 27, 3) := by decide +kernel
theorem dL_law_537 : decode cL_law 537 = .ok (.iload 16, 2) := by decide +kernel
theorem dL_law_539 : decode cL_law 539 = .ok (.ifCond .gt 18, 3) := by decide +kernel
theorem dL_law_542 : decode cL_law 542 = .ok (.aload_n 1, 1) := by decide +kernel
theorem dL_law_543 : decode cL_law 543 = .ok (.iload 13, 2) := by decide +kernel
theorem dL_law_545 : decode cL_law 545 = .ok (.invokevirtual 42, 3) := by decide +kernel
theorem dL_law_548 : decode cL_law 548 = .ok (.iconst 1, 1) := by decide +kernel
theorem dL_law_549 : decode cL_law 549 = .ok (.iload 15, 2) := by decide +kernel
theorem dL_law_551 : decode cL_law 551 = .ok (.ishl, 1) := by decide +kernel
theorem dL_law_552 : decode cL_law 552 = .ok (.iconst 1, 1) := by decide +kernel
theorem dL_law_553 : decode cL_law 553 = .ok (.isub, 1) := by decide +kernel
theorem dL_law_554 : decode cL_law 554 = .ok (.if_icmp .ne 7, 3) := by decide +kernel
theorem dL_law_557 : decode cL_law 557 = .ok (.iconst 1, 1) := by decide +kernel
theorem dL_law_558 : decode cL_law 558 = .ok (.goto 4, 3) := by decide +kernel
theorem dL_law_561 : decode cL_law 561 = .ok (.iconst 0, 1) := by decide +kernel
theorem dL_law_562 : decode cL_law 562 = .ok (.istore 6, 2) := by decide +kernel
theorem dL_law_564 : decode cL_law 564 = .ok (.goto 44, 3) := by decide +kernel
theorem dL_law_567 : decode cL_law 567 = .ok (.iconst 1, 1) := by decide +kernel
theorem dL_law_568 : decode cL_law 568 = .ok (.iload 11, 2) := by decide +kernel
theorem dL_law_570 : decode cL_law 570 = .ok (.iconst 2, 1) := by decide +kernel
theorem dL_law_571 : decode cL_law 571 = .ok (.ishr, 1) := by decide +kernel
theorem dL_law_572 : decode cL_law 572 = .ok (.iconst 4, 1) := by decide +kernel
theorem dL_law_573 : decode cL_law 573 = .ok (.irem, 1) := by decide +kernel
theorem dL_law_574 : decode cL_law 574 = .ok (.iadd, 1) := by decide +kernel
theorem dL_law_575 : decode cL_law 575 = .ok (.istore 15, 2) := by decide +kernel
theorem dL_law_577 : decode cL_law 577 = .ok (.iconst 0, 1) := by decide +kernel
theorem dL_law_578 : decode cL_law 578 = .ok (.istore 16, 2) := by decide +kernel
theorem dL_law_580 : decode cL_law 580 = .ok (.iload 16, 2) := by decide +kernel
theorem dL_law_582 : decode cL_law 582 = .ok (.iload 15, 2) := by decide +kernel
theorem dL_law_584 : decode cL_law 584 = .ok (.if_icmp .ge 24, 3) := by decide +kernel
theorem dL_law_587 : decode cL_law 587 = .ok (.iload 6, 2) := by decide +kernel
theorem dL_law_589 : decode cL_law 589 = .ok (.ifCond .eq 19, 3) := by decide +kernel
theorem dL_law_592 : decode cL_law 592 = .ok (.aload_n 1, 1) := by decide +kernel
theorem dL_law_593 : decode cL_law 593 = .ok (.aload_n 2, 1) := by decide +kernel
theorem dL_law_594 : decode cL_law 594 = .ok (.aload_n 3, 1) := by decide +kernel
theorem dL_law_595 : decode cL_law 595 = .ok (.aload 4, 2) := by decide +kernel
theorem dL_law_597 : decode cL_law 597 = .ok (.invokestatic 93, 3) := by decide +kernel
theorem dL_law_600 : decode cL_law 600 = .ok (.istore 6, 2) := by decide +kernel
theorem dL_law_602 : decode cL_law 602 = .ok (.iinc 16 1, 3) := by decide +kernel
theorem dL_law_605 : decode cL_law 605 = .ok (.goto (-25), 3) := by decide +kernel
theorem dL_law_608 : decode cL_law 608 = .ok (.iconst 0, 1) := by decide +kernel
theorem dL_law_609 : decode cL_law 609 = .ok (.istore 15, 2) := by decide +kernel
theorem dL_law_611 : decode cL_law 611 = .ok (.iload 15, 2) := by decide +kernel
theorem dL_law_613 : decode cL_law 613 = .ok (.bipush 6, 2) := by decide +kernel
theorem dL_law_615 : decode cL_law 615 = .ok (.if_icmp .ge 27, 3) := by decide +kernel
theorem dL_law_618 : decode cL_law 618 = .ok (.iload 6, 2) := by decide +kernel
theorem dL_law_620 : decode cL_law 620 = .ok (.ifCond .eq 22, 3) := by decide +kernel
theorem dL_law_623 : decode cL_law 623 = .ok (.aload_n 1, 1) := by decide +kernel
theorem dL_law_624 : decode cL_law 624 = .ok (.iload 15, 2) := by decide +kernel
theorem dL_law_626 : decode cL_law 626 = .ok (.aload 5, 2) := by decide +kernel
theorem dL_law_628 : decode cL_law 628 = .ok (.iload 15, 2) := by decide +kernel
theorem dL_law_630 : decode cL_law 630 = .ok (.iaload, 1) := by decide +kernel
theorem dL_law_631 : decode cL_law 631 = .ok (.invokestatic 66, 3) := by decide +kernel
theorem dL_law_634 : decode cL_law 634 = .ok (.istore 6, 2) := by decide +kernel
theorem dL_law_636 : decode cL_law 636 = .ok (.iinc 15 1, 3) := by decide +kernel
theorem dL_law_639 : decode cL_law 639 = .ok (.goto (-28), 3) := by decide +kernel
theorem dL_law_642 : decode cL_law 642 = .ok (.iinc 9 1, 3) := by decide +kernel
theorem dL_law_645 : decode cL_law 645 = .ok (.goto (-569), 3) := by decide +kernel
theorem dL_law_648 : decode cL_law 648 = .ok (.iload 6, 2) := by decide +kernel
theorem dL_law_650 : decode cL_law 650 = .ok (.ireturn, 1) := by decide +kernel
end
section
set_option maxRecDepth 40000 in
theorem is_at2 : wsL_law[197]? = some (Cond.code yL_isSlot cL_isSlot 13 (some .boolean)) := by rfl
theorem is_c0 : GoodIn wsL_law [Cond.code yL_isSlot cL_isSlot 13 (some .boolean)] := fun w h => by
  rw [List.mem_singleton.mp h]
  exact ⟨List.mem_of_getElem? is_at2, good_of_word (by decide +kernel)⟩
set_option maxRecDepth 20000 in
theorem is_r1a : GoodIn wsL_law wsL_isSlot_r1 := goodIn_r _ [100, 101, 102, 2, 103, 24, 104, 105, 106, 107, 82, 83, 84, 85, 86, 87, 14, 92, 93, 94, 95, 108, 109, 110] (by decide +kernel) (by decide +kernel)
theorem is_r1 : GoodIn wsL_law (Cond.code yL_isSlot cL_isSlot 13 (some .boolean) :: wsL_isSlot_r1) := goodIn_app is_c0 is_r1a
set_option maxRecDepth 20000 in
theorem is_r2 : GoodIn wsL_law wsL_isSlot_r2 := goodIn_r _ [111, 120, 121, 122, 123, 96, 97, 98, 99, 132, 133, 134, 135, 112, 113, 114, 115, 116, 117, 118, 42, 119, 63, 62] (by decide +kernel) (by decide +kernel)
set_option maxRecDepth 20000 in
theorem is_r3 : GoodIn wsL_law wsL_isSlot_r3 := goodIn_r _ [198, 199, 200, 201, 202, 203, 204, 205, 140, 141, 206, 207, 208, 209, 210, 211, 212, 213, 22, 23, 214, 215, 216, 21] (by decide +kernel) (by decide +kernel)
set_option maxRecDepth 20000 in
theorem is_r4 : GoodIn wsL_law wsL_isSlot_r4 := goodIn_r _ [217, 36, 35, 34, 218, 219, 220, 221, 222, 223, 224, 18, 142, 143, 144, 17, 145, 30, 146, 147, 148, 149, 150, 225] (by decide +kernel) (by decide +kernel)
set_option maxRecDepth 20000 in
theorem is_r5 : GoodIn wsL_law wsL_isSlot_r5 := goodIn_r _ [226, 227, 26, 228, 43, 50, 47, 229, 230, 231, 232, 233, 234, 235, 236, 237, 238, 239, 46, 240, 67, 68, 70, 71] (by decide +kernel) (by decide +kernel)
set_option maxRecDepth 20000 in
theorem is_r6 : GoodIn wsL_law wsL_isSlot_r6 := goodIn_r _ [72, 73, 69, 241, 242, 243, 244, 245, 246, 247, 248, 249, 250, 251, 252, 253, 61, 254, 255, 256, 257, 258, 259, 260] (by decide +kernel) (by decide +kernel)
set_option maxRecDepth 20000 in
theorem is_r7 : GoodIn wsL_law wsL_isSlot_r7 := goodIn_r _ [261, 262, 263, 264, 265, 266, 267, 268, 269, 270, 271, 272, 273, 274, 275, 276, 277, 278, 279, 280, 281, 282, 283, 284] (by decide +kernel) (by decide +kernel)
set_option maxRecDepth 20000 in
theorem is_r8 : GoodIn wsL_law wsL_isSlot_r8 := goodIn_r _ [285, 286, 56, 287, 129, 130, 131, 288, 289, 290, 291, 292, 293, 294, 295, 51, 49, 296, 297, 298, 54, 299, 300, 301] (by decide +kernel) (by decide +kernel)
set_option maxRecDepth 20000 in
theorem is_r9 : GoodIn wsL_law wsL_isSlot_r9 := goodIn_r _ [302, 303, 304, 305, 306, 307, 48, 164, 165, 308, 309, 310, 311, 53, 312, 313, 314, 315, 316, 317, 76, 318, 88, 89] (by decide +kernel) (by decide +kernel)
set_option maxRecDepth 20000 in
theorem is_r10 : GoodIn wsL_law wsL_isSlot_r10 := goodIn_r _ [90, 91] (by decide +kernel) (by decide +kernel)
set_option maxRecDepth 20000 in
theorem is_wsX50 : GoodIn wsL_law wsX50 := goodIn_r _ [319, 320, 321, 322, 323] (by decide +kernel) (by decide +kernel)
set_option maxRecDepth 20000 in
theorem is_wsX20 : GoodIn wsL_law wsX20 := goodIn_r _ [328, 329, 330, 331, 332, 333, 334, 335, 336, 337, 338, 339] (by decide +kernel) (by decide +kernel)
set_option maxRecDepth 20000 in
theorem is_wsX10 : GoodIn wsL_law wsX10 := goodIn_r _ [343, 344, 345, 346, 347, 348, 349] (by decide +kernel) (by decide +kernel)
set_option maxRecDepth 20000 in
theorem is_wsX00 : GoodIn wsL_law wsX00 := goodIn_r _ [340, 341, 342] (by decide +kernel) (by decide +kernel)
set_option maxRecDepth 20000 in
theorem is_wsX40 : GoodIn wsL_law wsX40 := goodIn_r _ [325, 326, 327] (by decide +kernel) (by decide +kernel)
set_option maxRecDepth 20000 in
theorem is_wsX30 : GoodIn wsL_law wsX30 := goodIn_r _ [324] (by decide +kernel) (by decide +kernel)
set_option maxRecDepth 20000 in
theorem ggL_law_L_isSlot : GoodIn wsL_law wsL_isSlot := goodIn_ca (goodIn_ca (goodIn_ca (goodIn_ca (goodIn_ca (goodIn_ca (goodIn_ca (goodIn_ca (goodIn_ca is_r1 (goodIn_app is_r2 (goodIn_app is_r3 (goodIn_app is_r4 (goodIn_app is_r5 (goodIn_app is_r6 (goodIn_app is_r7 (goodIn_app is_r8 (goodIn_app is_r9 (is_r10)))))))))) is_wsX50) is_wsX20) is_wsX10) is_wsX00) is_wsX40) is_wsX30) (goodIn_sub (fun _ h => List.mem_append_left _ (List.mem_append_left _ (List.mem_append_right _ h))) (by decide +kernel))) (goodIn_sub (fun _ h => List.mem_append_left _ (List.mem_append_right _ h)) (by decide +kernel))
set_option maxRecDepth 20000 in
theorem gL_law_L_isSlot : GoodIn wsL_law (va_wsS RL 93 yL_isSlot wsL_isSlot) := goodIn_app (goodIn_of _ (by decide +kernel)) ggL_law_L_isSlot
end
