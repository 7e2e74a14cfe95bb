section
-- ===== PART A: goes FIRST, ahead of the names: the tables' words, and 'selects' of the private methods out of them =====
/-- a private method of a class that the tables say can be made, by its rows of tables_1 -/
def lw_okq (q : MethodName × Nat) : Prop := (q.1.cls ≠ "java/lang/invoke/MethodHandle" ∧ q.1.cls ≠ "java/lang/invoke/VarHandle") ∧ Cond.instantiable q.1.cls q.2 ∈ tables_1 ∧ Cond.privateMethod q.1 ∈ tables_1 ∧ Cond.instanceMethod q.1 ∈ tables_1
theorem lw_p0 : lw_okq (⟨"java/lang/Throwable", "fillInStackTrace", "(I)Ljava/lang/Throwable;"⟩, 6) := ⟨⟨by decide +kernel, by decide +kernel⟩, List.mem_of_getElem? (i := 117) (by decide +kernel), List.mem_of_getElem? (i := 115) (by decide +kernel), List.mem_of_getElem? (i := 116) (by decide +kernel)⟩
theorem lw_p1 : lw_okq (⟨"EquityRelease", "livesLeft", "()I"⟩, 17) := ⟨⟨by decide +kernel, by decide +kernel⟩, List.mem_of_getElem? (i := 10) (by decide +kernel), List.mem_of_getElem? (i := 183) (by decide +kernel), List.mem_of_getElem? (i := 184) (by decide +kernel)⟩
theorem lw_p2 : lw_okq (⟨"EquityRelease", "isBegun", "()Z"⟩, 17) := ⟨⟨by decide +kernel, by decide +kernel⟩, List.mem_of_getElem? (i := 10) (by decide +kernel), List.mem_of_getElem? (i := 195) (by decide +kernel), List.mem_of_getElem? (i := 196) (by decide +kernel)⟩
theorem lw_p3 : lw_okq (⟨"EquityRelease", "addLife", "(I)V"⟩, 17) := ⟨⟨by decide +kernel, by decide +kernel⟩, List.mem_of_getElem? (i := 10) (by decide +kernel), List.mem_of_getElem? (i := 247) (by decide +kernel), List.mem_of_getElem? (i := 248) (by decide +kernel)⟩
theorem lw_p4 : lw_okq (⟨"EquityRelease", "addDrawing", "(I)V"⟩, 17) := ⟨⟨by decide +kernel, by decide +kernel⟩, List.mem_of_getElem? (i := 10) (by decide +kernel), List.mem_of_getElem? (i := 251) (by decide +kernel), List.mem_of_getElem? (i := 252) (by decide +kernel)⟩
theorem lw_p5 : lw_okq (⟨"EquityRelease", "balanceAnew", "(I)J"⟩, 17) := ⟨⟨by decide +kernel, by decide +kernel⟩, List.mem_of_getElem? (i := 10) (by decide +kernel), List.mem_of_getElem? (i := 280) (by decide +kernel), List.mem_of_getElem? (i := 281) (by decide +kernel)⟩
theorem lw_p6 : lw_okq (⟨"EquityRelease", "lastEndDay", "()I"⟩, 17) := ⟨⟨by decide +kernel, by decide +kernel⟩, List.mem_of_getElem? (i := 10) (by decide +kernel), List.mem_of_getElem? (i := 284) (by decide +kernel), List.mem_of_getElem? (i := 285) (by decide +kernel)⟩
theorem lw_p7 : lw_okq (⟨"EquityRelease", "paidThisYear", "()I"⟩, 17) := ⟨⟨by decide +kernel, by decide +kernel⟩, List.mem_of_getElem? (i := 10) (by decide +kernel), List.mem_of_getElem? (i := 308) (by decide +kernel), List.mem_of_getElem? (i := 309) (by decide +kernel)⟩
theorem lw_p8 : lw_okq (⟨"EquityRelease", "yearOfLoan", "(I)I"⟩, 17) := ⟨⟨by decide +kernel, by decide +kernel⟩, List.mem_of_getElem? (i := 10) (by decide +kernel), List.mem_of_getElem? (i := 312) (by decide +kernel), List.mem_of_getElem? (i := 313) (by decide +kernel)⟩
theorem lw_p9 : lw_okq (⟨"EquityRelease", "requireRunning", "()V"⟩, 17) := ⟨⟨by decide +kernel, by decide +kernel⟩, List.mem_of_getElem? (i := 10) (by decide +kernel), List.mem_of_getElem? (i := 327) (by decide +kernel), List.mem_of_getElem? (i := 328) (by decide +kernel)⟩
theorem lw_p10 : lw_okq (⟨"EquityRelease", "chargeFor", "(I)I"⟩, 17) := ⟨⟨by decide +kernel, by decide +kernel⟩, List.mem_of_getElem? (i := 10) (by decide +kernel), List.mem_of_getElem? (i := 340) (by decide +kernel), List.mem_of_getElem? (i := 341) (by decide +kernel)⟩
theorem lw_p11 : lw_okq (⟨"EquityRelease", "isWaived", "()Z"⟩, 17) := ⟨⟨by decide +kernel, by decide +kernel⟩, List.mem_of_getElem? (i := 10) (by decide +kernel), List.mem_of_getElem? (i := 344) (by decide +kernel), List.mem_of_getElem? (i := 345) (by decide +kernel)⟩
theorem lw_p12 : lw_okq (⟨"EquityRelease", "takeBack", "(JI)V"⟩, 17) := ⟨⟨by decide +kernel, by decide +kernel⟩, List.mem_of_getElem? (i := 10) (by decide +kernel), List.mem_of_getElem? (i := 357) (by decide +kernel), List.mem_of_getElem? (i := 358) (by decide +kernel)⟩
def lw_privs_1 : List (MethodName × Nat) := [(⟨"java/lang/Throwable", "fillInStackTrace", "(I)Ljava/lang/Throwable;"⟩, 6), (⟨"EquityRelease", "livesLeft", "()I"⟩, 17), (⟨"EquityRelease", "isBegun", "()Z"⟩, 17), (⟨"EquityRelease", "addLife", "(I)V"⟩, 17), (⟨"EquityRelease", "addDrawing", "(I)V"⟩, 17), (⟨"EquityRelease", "balanceAnew", "(I)J"⟩, 17), (⟨"EquityRelease", "lastEndDay", "()I"⟩, 17), (⟨"EquityRelease", "paidThisYear", "()I"⟩, 17), (⟨"EquityRelease", "yearOfLoan", "(I)I"⟩, 17), (⟨"EquityRelease", "requireRunning", "()V"⟩, 17), (⟨"EquityRelease", "chargeFor", "(I)I"⟩, 17), (⟨"EquityRelease", "isWaived", "()Z"⟩, 17), (⟨"EquityRelease", "takeBack", "(JI)V"⟩, 17)]
theorem lw_r1 : ∀ q ∈ lw_privs_1, lw_okq q := List.forall_mem_cons.mpr ⟨lw_p0, List.forall_mem_cons.mpr ⟨lw_p1, List.forall_mem_cons.mpr ⟨lw_p2, List.forall_mem_cons.mpr ⟨lw_p3, List.forall_mem_cons.mpr ⟨lw_p4, List.forall_mem_cons.mpr ⟨lw_p5, List.forall_mem_cons.mpr ⟨lw_p6, List.forall_mem_cons.mpr ⟨lw_p7, List.forall_mem_cons.mpr ⟨lw_p8, List.forall_mem_cons.mpr ⟨lw_p9, List.forall_mem_cons.mpr ⟨lw_p10, List.forall_mem_cons.mpr ⟨lw_p11, List.forall_mem_cons.mpr ⟨lw_p12, fun _ h => absurd h List.not_mem_nil⟩⟩⟩⟩⟩⟩⟩⟩⟩⟩⟩⟩⟩
def lw_privs : List (MethodName × Nat) := lw_privs_1
def lw_tbl : List Cond := k2_sels lw_privs ++ tables_1
theorem lw_privs_ok : ∀ q ∈ lw_privs, lw_okq q := lw_r1
-- ===== end of PART A; then your names; then what follows =====
/-! ===== BEGIN words of one list among another's, by their places ===== -/
theorem goodIn_r {big : List Cond} (ws : List Cond) (ps : List Nat) (hp : ws = ps.filterMap (fun i => big[i]?)) (h : ws.all goodWord = true) : GoodIn big ws := by
  intro w hw
  have h1 := List.all_eq_true.mp h w hw
  rw [hp] at hw
  obtain ⟨i, -, hi⟩ := List.mem_filterMap.mp hw
  have hm : w ∈ big := by first | exact List.mem_of_getElem? hi | exact List.getElem?_mem hi
  exact ⟨hm, good_of_word h1⟩
theorem goodIn_app {big a b : List Cond} (ha : GoodIn big a) (hb : GoodIn big b) : GoodIn big (a ++ b) := fun w h => (List.mem_append.mp h).elim (ha w) (hb w)
theorem goodIn_ca {big a b : List Cond} {c : Cond} (ha : GoodIn big (c :: a)) (hb : GoodIn big b) : GoodIn big (c :: (a ++ b)) := fun w h => (List.mem_cons.mp h).elim (fun e => ha w (List.mem_cons.mpr (Or.inl e))) (fun h => (List.mem_append.mp h).elim (fun h => ha w (List.mem_cons.mpr (Or.inr h))) (hb w))
theorem goodIn_sub {big ws : List Cond} (hm : ∀ w ∈ ws, w ∈ big) (h : ws.all goodWord = true) : GoodIn big ws := fun w hw => ⟨hm w hw, good_of_word (List.all_eq_true.mp h w hw)⟩
/-! ===== END ===== -/

/-! ===== BEGIN exceptions that leave a method, and their catching by the caller (launches without stack traces) ===== -/
section VXA
/-! The laws vx_back, vx_callV, vx_callS, vx_callSW, vx_throw0, vx_throwS follow proofs of the library, with one case more: JvmDerived/Free/Laws.lean (Back.of_free), Shelf42/LK1.lean (callV, callS), Shelf/KitTraced.lean (throwNew0V, throwNewS). -/
/-- where a method has thrown q: the class by its name, the cell, what was written, the world -/
def vx_T (XC : String → State → State → Prop) (st : State) (q : Addr) (t : State) (mc ms : Nat) (free : Addr → Prop) : Prop :=
  ∃ (E : String) (ce : Cell) (L : List Loc), XC E st t ∧ t.heap[q]? = some ce ∧ ce.vm = .none ∧ st.vm.findClass E = some ce.cls ∧ st.WarmedH t.vm ∧ st.sameButNew ({ t with vm := st.vm } : State) L mc ms ∧ ∀ z ∈ L, free z.base
def vx_Q (Qc : Array Value → State → Outcome → State → Prop) (XC : String → State → State → Prop) (mc ms : Nat) (free : Addr → Prop) : Array Value → State → Outcome → State → Prop := fun a st o t =>
  (Qc a st o t ∧ ∃ L, FrameEnd st o t L mc ms ∧ ∀ q ∈ L, free q.base) ∨ ∃ q, o = .threw q ∧ vx_T XC st q t mc ms free
/-- a callee that returns or throws -/
def vx_Met (l : Launch) (y : MethodName) (ws : List Cond) (rm : Room) (Pc : Array Value → State → Prop) (Qc : Array Value → State → Outcome → State → Prop) (XC : String → State → State → Prop) (mc ms : Nat) (free : Addr → Prop) : Prop :=
  MetFree l y (headSpec ws rm) Pc (fun _ _ _ _ _ => True) (vx_Q Qc XC mc ms free)
def vx_Post (XC : String → State → State → Prop) (mc ms : Nat) (free : Addr → Prop) : Pt → Array Value → Addr → Pt → Prop := fun A a q B =>
  ∃ (g : JFrame) (mk : MethodId) (t : State) (L : List Loc) (E : String) (ce : Cell), B.U.heap = t.heap ∧ B.U.vm = t.vm ∧ XC E (A.U.calling g mk a) t ∧ t.heap[q]? = some ce ∧ ce.vm = .none ∧ A.U.vm.findClass E = some ce.cls ∧ B.locs = A.locs ++ L ∧ (∀ z ∈ L, free z.base) ∧ B.cells = A.cells + mc ∧ B.slots = A.slots + ms
def vx_Back (l : Launch) (R : Room) (p : Program) (e : Env) (below : List Frame) (s : State) (sargs : Array Value) (y : MethodName) (len W9 : Nat)
    (Pre : Pt → Array Value → Prop) (Post : Pt → Array Value → Option Value → Pt → Prop) (PostX : Pt → Array Value → Addr → Pt → Prop) : Prop :=
  ∀ (m : MethodId) (meth : Method) (c : Code) (A : Pt) (g : JFrame) (ig : Instr) (mk : MethodId) (a : Array Value),
    Stand p l e R s m sargs below meth c A.U A.locs A.cells A.slots → g.method = m → g.locals.size = c.maxLocals → decode c.code g.pc = .ok (ig, len) →
    2 * g.monitorRoom + (g.stack.map fun v => v.category).sum ≤ W9 → A.U.methodNamed? y = some mk → Pre A a →
    (∃ (v : Option Value) (B : Pt), Stand p l e R s m sargs below meth c B.U B.locs B.cells B.slots ∧ Post A a v B ∧
      Steps p.tables e below (doInvoke e (A.U.setTop g) [] mk a).1 (B.U.setTop { g with pc := g.pc + len, stack := v.toList ++ g.stack })) ∨
    (∃ (q : Addr) (B : Pt), Stand p l e R s m sargs below meth c B.U B.locs B.cells B.slots ∧ PostX A a q B ∧
      Steps p.tables e below (doInvoke e (A.U.setTop g) [] mk a).1 ((B.U.setTop g).pushFrame (.throwing q)))
section Payer
variable {l : Launch} {R : Room} {p : Program} {e : Env} {below : List Frame} {s : State} {sargs : Array Value} {y : MethodName} {len W9 : Nat}
theorem vx_back {ws : List Cond} {rm : Room} {Pc : Array Value → State → Prop} {Qc : Array Value → State → Outcome → State → Prop} {XC : String → State → State → Prop} {mc ms : Nat} {free : Addr → Prop} {bytes : ByteArray} {maxL : Nat} {ret : Option FieldType}
    (hM : vx_Met l y ws rm Pc Qc XC mc ms free) (hblind : FrameBlind Pc) (hrc : rm.cells = mc) (hrs : rm.slots = ms)
    (hframes : rm.frames + 1 ≤ R.frames) (hlocals : W9 + (maxL + 11) + rm.locals ≤ R.locals)
    (hws : ∀ w ∈ ws, ∀ a' U, s.WarmedH U.vm → w.before a' U = true) (hcode : Cond.code y bytes maxL ret ∈ ws) (hinit : ∀ a' U, s.WarmedH U.vm → (Cond.initialized y.cls).before a' U = true) :
    vx_Back l R p e below s sargs y len W9 (PreOf R mc ms Pc) (PostOf Qc mc ms free) (vx_Post XC mc ms free) := by
  intro m meth c A g ig mk a X hg hsize hdg hW hn hp
  have h1 : (headSpec ws rm).pre.before a A.U = true := atoms_intro fun w hw => hws w hw _ _ X.warmed
  have h2 : (Cond.code y bytes maxL ret).before a A.U = true := hws _ hcode _ _ X.warmed
  have h3 : (Cond.initialized y.cls).before a A.U = true := hinit _ _ X.warmed
  have h4 : A.cells + (headSpec ws rm).room.cells ≤ R.cells := by rw [show (headSpec ws rm).room.cells = mc from hrc]; exact hp.1
  have h5 : A.slots + (headSpec ws rm).room.slots ≤ R.slots := by rw [show (headSpec ws rm).room.slots = ms from hrs]; exact hp.2.1
  have hPc : Pc a (A.U.calling g mk a) := hblind _ _ _ _ hp.2.2
  obtain ⟨U, Ls, c0, s0⟩ := A
  dsimp only [Pt.U, Pt.locs, Pt.cells, Pt.slots] at h1 h2 h3 h4 h5 X hn hPc ⊢
  obtain ⟨methY, cY, hmY, hcY, -, hlY, -, -, -, -⟩ := Cond.code_spec hn h2
  obtain ⟨kY, hkY, -⟩ := className_of_methodNamed hn
  have hinitY : kY.init = .initialized := Cond.initialized_spec (findClass_of_methodNamed hn) hkY h3
  have h : At U g.method c below := by rw [hg]; exact X.here
  have hlocals9 : W9 + (maxL + 11) + (headSpec ws rm).room.locals ≤ R.locals := hlocals
  have happ : (headSpec ws rm).appliesLoose y e.platform (U.calling g mk a) = true :=
    Spec.appliesLoose_calling (g := g) h hdg hn hkY hinitY
      (X.room_calling (g := g) (R' := (headSpec ws rm).room) hsize hmY hcY hframes (by rw [hlY]; omega) h4 h5) h1
  obtain ⟨mid, hmid⟩ := h.above
  have hfr : (U.setTop g).frames = (.java g :: mid) ++ below := by rw [State.frames_setTop' g h.top, hmid]; rfl
  obtain ⟨o, s₂, hsteps, -, hend, hq⟩ := Steps.callFree hM p X.admits X.cas X.clock (acts := []) hfr happ hPc trivial
  have hq' : vx_Q Qc XC mc ms free a (U.calling g mk a) o s₂ := hq
  rw [State.frames_setTop' g h.top] at hend
  obtain ⟨g₀, hg0⟩ := Option.isSome_iff_exists.mp h.top
  obtain ⟨r, hr⟩ := State.topJava?_eq_some.mp hg0
  have hr' : (({ U with heap := s₂.heap, slotsUsed := s₂.slotsUsed } : State).setVm s₂.vm).frames = .java g₀ :: r := hr
  rcases hq' with ⟨hqc, L, hfe, hL⟩ | ⟨q, rfl, E, ce, L, hx, hce, hcv, hcl, hW₂, hsm, hL⟩
  · obtain ⟨⟨v, rfl⟩, hW₂, e2, q2, q3, q4, q5, q6⟩ := id hfe
    have e3 : s₂ = ({ (U.calling g mk a).setFrames s₂.frames with heap := s₂.heap, slotsUsed := s₂.slotsUsed } : State).setVm s₂.vm := by
      have : s₂ = ({ s₂ with vm := (U.calling g mk a).vm } : State).setVm s₂.vm := rfl
      rw [e2] at this
      exact this
    obtain ⟨c₂, i₂, len₂, hc₂, hd₂, hf₂⟩ := hend
    have hW' : U.WarmedH s₂.vm := hW₂
    have hcc : c₂ = c := by
      have h1 : s₂.code? g.method = U.code? g.method := by
        rw [State.code?_eq, State.code?_eq, hW'.alike.method?]
      exact Option.some.inj (hc₂.symm.trans (h1.trans h.code))
    subst hcc
    have hlen : len₂ = len := by rw [hdg] at hd₂; cases hd₂; rfl
    subst hlen
    have hs₂ : s₂ = (({ U with heap := s₂.heap, slotsUsed := s₂.slotsUsed } : State).setVm s₂.vm).setTop { g with pc := g.pc + len₂, stack := v.toList ++ g.stack } := by
      refine e3.trans ?_
      rw [hf₂, State.calling_eq h.top, State.setFrames_setFrames, State.setTop_of_frames _ hr', hr]
      rfl
    have hsame : U.sameButNew ({ U with heap := s₂.heap, slotsUsed := s₂.slotsUsed } : State) L mc ms := by
      refine ⟨?_, q2, q3, q4, q5, q6⟩
      obtain ⟨t, ht, -⟩ := State.frames_cons hr
      show ({ U with heap := s₂.heap, slotsUsed := s₂.slotsUsed } : State) = { U.setFrames U.frames with heap := s₂.heap, slotsUsed := s₂.slotsUsed }
      rw [State.setFrames_self ht]
    subst hg
    refine Or.inl ⟨v, ⟨(({ U with heap := s₂.heap, slotsUsed := s₂.slotsUsed } : State).setVm s₂.vm), Ls ++ L, c0 + mc, s0 + ms⟩,
      ⟨X.admits, X.cas, X.clock, X.frames, X.room, X.hears, X.method, X.code, (X.here.setHeapUsed s₂.heap s₂.slotsUsed).setVm hW'.alike, X.tail, State.WarmedH.trans X.warmed hW', X.limits, X.bytes, X.same.trans (hsame.setVm s.vm)⟩,
      ⟨g, mk, s₂, L, rfl, rfl, hqc, rfl, hL, rfl, rfl⟩, ?_⟩
    show Steps p.tables e below _ ((({ U with heap := s₂.heap, slotsUsed := s₂.slotsUsed } : State).setVm s₂.vm).setTop { g with pc := g.pc + len₂, stack := v.toList ++ g.stack })
    rw [← hs₂]
    exact hsteps
  · obtain ⟨e2, q2, q3, q4, q5, q6⟩ := id hsm
    have e3 : s₂ = ({ (U.calling g mk a).setFrames s₂.frames with heap := s₂.heap, slotsUsed := s₂.slotsUsed } : State).setVm s₂.vm := by
      have : s₂ = ({ s₂ with vm := (U.calling g mk a).vm } : State).setVm s₂.vm := rfl
      rw [e2] at this
      exact this
    have hf₂ : s₂.frames = .throwing q :: .java g :: U.frames.tail := hend
    have hW' : U.WarmedH s₂.vm := hW₂
    have hs₂ : s₂ = ((({ U with heap := s₂.heap, slotsUsed := s₂.slotsUsed } : State).setVm s₂.vm).setTop g).pushFrame (.throwing q) := by
      refine e3.trans ?_
      rw [hf₂, State.calling_eq h.top, State.setFrames_setFrames, State.pushFrame, State.frames_setTop _ hr', State.setTop_of_frames _ hr', State.setFrames_setFrames, hr]
      rfl
    have hsame : U.sameButNew ({ U with heap := s₂.heap, slotsUsed := s₂.slotsUsed } : State) L mc ms := by
      refine ⟨?_, q2, q3, q4, q5, q6⟩
      obtain ⟨t, ht, -⟩ := State.frames_cons hr
      show ({ U with heap := s₂.heap, slotsUsed := s₂.slotsUsed } : State) = { U.setFrames U.frames with heap := s₂.heap, slotsUsed := s₂.slotsUsed }
      rw [State.setFrames_self ht]
    subst hg
    refine Or.inr ⟨q, ⟨(({ U with heap := s₂.heap, slotsUsed := s₂.slotsUsed } : State).setVm s₂.vm), Ls ++ L, c0 + mc, s0 + ms⟩,
      ⟨X.admits, X.cas, X.clock, X.frames, X.room, X.hears, X.method, X.code, (X.here.setHeapUsed s₂.heap s₂.slotsUsed).setVm hW'.alike, X.tail, State.WarmedH.trans X.warmed hW', X.limits, X.bytes, X.same.trans (hsame.setVm s.vm)⟩,
      ⟨g, mk, s₂, L, E, ce, rfl, rfl, hx, hce, hcv, hcl, rfl, hL, rfl, rfl⟩, ?_⟩
    show Steps p.tables e below _ (((({ U with heap := s₂.heap, slotsUsed := s₂.slotsUsed } : State).setVm s₂.vm).setTop g).pushFrame (.throwing q))
    rw [← hs₂]
    exact hsteps
end Payer
section Calls
variable {p : Program} {l : Launch} {e : Env} {R : Room} {s : State} {m : MethodId} {args : Array Value} {below : List Frame} {meth : Method} {c : Code} {T : State} {locs : List Loc} {cells slots : Nat}
theorem vx_callV (X : Stand p l e R s m args below meth c T locs cells slots) (hexec : p.tables.exec = Jvm.exec) {own C : String} {index : Nat} {y : MethodName} {bytes : ByteArray} {maxL : Nat} {ret : Option FieldType}
    (hown : s.vm.findClass own = some m.cls) (hlink : (Cond.methodLink own index y).before args s = true) (hinst : (Cond.instanceMethod y).before args s = true) (hsel : (Cond.selects C y y).before args s = true)
    (hcode : (Cond.code y bytes maxL ret).before args s = true) (hy : y.cls ≠ "java/lang/invoke/MethodHandle" ∧ y.cls ≠ "java/lang/invoke/VarHandle")
    {W9 : Nat} {Pre : Pt → Array Value → Prop} {Post : Pt → Array Value → Option Value → Pt → Prop} {PostX : Pt → Array Value → Addr → Pt → Prop} (hK : vx_Back l R p e below s args y 3 W9 Pre Post PostX)
    {b : Addr} {cellB : Cell} (hcell : T.heap[b]? = some cellB) (hobj : cellB.vm.isStatics = false) (hcls : s.vm.findClass C = some cellB.cls)
    {g : JFrame} (hg : g.method = m) (hsize : g.locals.size = c.maxLocals) {argsL rest : List Value} (hlen : ∀ sig, parseMethodDescriptor y.desc = some sig → argsL.length = sig.parameters.length)
    (hstack : g.stack = argsL.reverse ++ .ref b :: rest) (hW : 2 * g.monitorRoom + (rest.map fun v => v.category).sum ≤ W9) (hdg : decode c.code g.pc = .ok (.invokevirtual index, 3))
    (hpre : ∀ vm₁, s.WarmedH vm₁ → Pre ⟨T.setVm vm₁, locs, cells, slots⟩ (Value.ref b :: argsL).toArray) :
    (∃ (v : Option Value) (vm₁ : Vm) (B : Pt), s.WarmedH vm₁ ∧ Stand p l e R s m args below meth c B.U B.locs B.cells B.slots ∧ Post ⟨T.setVm vm₁, locs, cells, slots⟩ (Value.ref b :: argsL).toArray v B ∧
      ∀ target, Steps p.tables e below (B.U.setTop { g with pc := g.pc + 3, stack := v.toList ++ rest }) target → Steps p.tables e below (T.setTop g) target) ∨
    (∃ (q : Addr) (vm₁ : Vm) (B : Pt), s.WarmedH vm₁ ∧ Stand p l e R s m args below meth c B.U B.locs B.cells B.slots ∧ PostX ⟨T.setVm vm₁, locs, cells, slots⟩ (Value.ref b :: argsL).toArray q B ∧
      Steps p.tables e below (T.setTop g) ((B.U.setTop { g with stack := rest }).pushFrame (.throwing q))) := by
  obtain ⟨mk, methM, hnamed, hmethM, hstM, habM⟩ := Cond.instanceMethod_spec hinst
  obtain ⟨methM', cM, hmethM', -, -, -, -, -, -, hsigM⟩ := Cond.code_spec hnamed hcode
  cases hmethM.symm.trans hmethM'
  obtain ⟨c2, r2, m2, q1, q2, q3, q4, kP, hkP, hkPi⟩ := Cond.selects_spec hsel
  cases hcls.symm.trans q1
  cases (State.methodFound?_of_named hnamed hy).symm.trans q2
  cases hnamed.symm.trans q3
  have hselP : selectMethod e.platform s.vm cellB.cls mk = .method mk := by rw [Launch.admits_selectMethod X.admits]; exact q4
  obtain ⟨vm₁, X₁, hstep₁⟩ := X.invokevirtual hexec hown hlink hnamed hmethM hstM hkP hkPi hy (a := b) (cell := cellB) hcell
    (fun z h => by rw [h] at hobj; cases hobj) hselP hmethM habM hkP hkPi (g := g) hg (argsL := argsL) (rest := rest) (hlen _ hsigM) hstack hdg
  rcases hK m meth c ⟨T.setVm vm₁, locs, cells, slots⟩ { g with stack := rest } (.invokevirtual index) mk (Value.ref b :: argsL).toArray X₁ hg hsize hdg hW (X₁.named hnamed) (hpre vm₁ X₁.warmed) with ⟨v, B, X', hpost, hsteps⟩ | ⟨q, B, X', hpost, hsteps⟩
  · exact Or.inl ⟨v, vm₁, B, X₁.warmed, X', hpost, fun target h => hstep₁ _ fun acts => by rw [doInvoke_state]; exact hsteps.trans h⟩
  · exact Or.inr ⟨q, vm₁, B, X₁.warmed, X', hpost, hstep₁ _ fun acts => by rw [doInvoke_state]; exact hsteps⟩
theorem vx_callS (X : Stand p l e R s m args below meth c T locs cells slots) (hexec : p.tables.exec = Jvm.exec) {own : String} {index : Nat} {y : MethodName} {bytes : ByteArray} {maxL : Nat} {ret : Option FieldType}
    (hown : s.vm.findClass own = some m.cls) (hlink : (Cond.methodLink own index y).before args s = true) (hstat : (Cond.static y).before args s = true) (hinit : (Cond.initialized y.cls).before args s = true)
    (hcode : (Cond.code y bytes maxL ret).before args s = true) (hy : y.cls ≠ "java/lang/invoke/MethodHandle" ∧ y.cls ≠ "java/lang/invoke/VarHandle")
    {W9 : Nat} {Pre : Pt → Array Value → Prop} {Post : Pt → Array Value → Option Value → Pt → Prop} {PostX : Pt → Array Value → Addr → Pt → Prop} (hK : vx_Back l R p e below s args y 3 W9 Pre Post PostX)
    {g : JFrame} (hg : g.method = m) (hsize : g.locals.size = c.maxLocals) {argsL rest : List Value} (hlen : ∀ sig, parseMethodDescriptor y.desc = some sig → argsL.length = sig.parameters.length)
    (hstack : g.stack = argsL.reverse ++ rest) (hW : 2 * g.monitorRoom + (rest.map fun v => v.category).sum ≤ W9) (hdg : decode c.code g.pc = .ok (.invokestatic index, 3))
    (hpre : ∀ vm₁, s.WarmedH vm₁ → Pre ⟨T.setVm vm₁, locs, cells, slots⟩ argsL.toArray) :
    (∃ (v : Option Value) (vm₁ : Vm) (B : Pt), s.WarmedH vm₁ ∧ Stand p l e R s m args below meth c B.U B.locs B.cells B.slots ∧ Post ⟨T.setVm vm₁, locs, cells, slots⟩ argsL.toArray v B ∧
      ∀ target, Steps p.tables e below (B.U.setTop { g with pc := g.pc + 3, stack := v.toList ++ rest }) target → Steps p.tables e below (T.setTop g) target) ∨
    (∃ (q : Addr) (vm₁ : Vm) (B : Pt), s.WarmedH vm₁ ∧ Stand p l e R s m args below meth c B.U B.locs B.cells B.slots ∧ PostX ⟨T.setVm vm₁, locs, cells, slots⟩ argsL.toArray q B ∧
      Steps p.tables e below (T.setTop g) ((B.U.setTop { g with stack := rest }).pushFrame (.throwing q))) := by
  obtain ⟨mk, hnamed⟩ := Cond.code_named hcode
  obtain ⟨methM, cM, hmethM, -, -, -, -, -, -, hsigM⟩ := Cond.code_spec hnamed hcode
  have hstatic : methM.isStatic = true := Cond.static_spec hnamed hmethM hstat
  obtain ⟨kP, hkP, -⟩ := className_of_methodNamed hnamed
  have hinitP : kP.init = .initialized := Cond.initialized_spec (findClass_of_methodNamed hnamed) hkP hinit
  obtain ⟨vm₁, X₁, hstep₁⟩ := X.invokestatic hexec hown hlink hnamed hmethM hstatic hkP hinitP hy (g := g) hg (argsL := argsL) (rest := rest) (hlen _ hsigM) hstack hdg
  rcases hK m meth c ⟨T.setVm vm₁, locs, cells, slots⟩ { g with stack := rest } (.invokestatic index) mk argsL.toArray X₁ hg hsize hdg hW (X₁.named hnamed) (hpre vm₁ X₁.warmed) with ⟨v, B, X', hpost, hsteps⟩ | ⟨q, B, X', hpost, hsteps⟩
  · exact Or.inl ⟨v, vm₁, B, X₁.warmed, X', hpost, fun target h => hstep₁ _ fun acts => by rw [doInvoke_state]; exact hsteps.trans h⟩
  · exact Or.inr ⟨q, vm₁, B, X₁.warmed, X', hpost, hstep₁ _ fun acts => by rw [doInvoke_state]; exact hsteps⟩
end Calls
theorem vx_cls {s : State} {T : State} {vm₁ : Vm} {E : String} {k : ClassId} (hW : s.WarmedH vm₁) (h : (T.setVm vm₁).vm.findClass E = some k) : s.vm.findClass E = some k := by
  have h1 : vm₁.findClass E = some k := h
  rw [hW.alike.findClass] at h1
  exact h1
/-- the method's frame g, with q thrown over it -/
def vx_W (p : Program) (l : Launch) (e : Env) (R : Room) (s : State) (m : MethodId) (args : Array Value) (below : List Frame) (meth : Method) (c : Code) (H : Heap) (locs : List Loc) (cells slots : Nat) (Q : State → Prop) (g : JFrame) (q : Addr) : Prop :=
  ∀ T : State, T.heap = H → Stand p l e R s m args below meth c T locs cells slots → ∃ t, Steps p.tables e below ((T.setTop g).pushFrame (.throwing q)) t ∧ Q t
def vx_Run (p : Program) (l : Launch) (e : Env) (R : Room) (s : State) (m : MethodId) (args : Array Value) (below : List Frame) (meth : Method) (c : Code) (H : Heap) (locs : List Loc) (cells slots mc ms : Nat) (g : JFrame) (rest : List Value) (Qa : State → Outcome → State → Prop) (XC : String → State → State → Prop) (free : Addr → Prop) : Prop :=
  ∀ T : State, T.heap = H → Stand p l e R s m args below meth c T locs cells slots →
    (∃ (v : Option Value) (st₀ t T' : State) (L : List Loc), st₀.heap = H ∧ Stand p l e R s m args below meth c T' (locs ++ L) (cells + mc) (slots + ms) ∧ (∀ q ∈ L, free q.base) ∧ T'.heap = t.heap ∧ T'.vm = t.vm ∧ Qa st₀ (.returned v) t ∧
      Goes p e below T g T' { g with pc := g.pc + 3, stack := v.toList ++ rest }) ∨
    (∃ (q : Addr) (st₀ t T' : State) (L : List Loc) (E : String) (ce : Cell), st₀.heap = H ∧ Stand p l e R s m args below meth c T' (locs ++ L) (cells + mc) (slots + ms) ∧ (∀ z ∈ L, free z.base) ∧ T'.heap = t.heap ∧ T'.vm = t.vm ∧ XC E st₀ t ∧ t.heap[q]? = some ce ∧ ce.vm = .none ∧ s.vm.findClass E = some ce.cls ∧
      Steps p.tables e below (T.setTop g) ((T'.setTop { g with stack := rest }).pushFrame (.throwing q)))
def vx_X {S : Type} (px : S → Prop) (B : String → S → State → Prop) (A : Nat → Prop) : String → State → State → Prop := fun E st t => ∃ u : S, px u ∧ B E u t ∧ va_F A st t
section Runs
variable {p : Program} {l : Launch} {e : Env} {R : Room} {s : State} {m : MethodId} {args : Array Value} {below : List Frame} {meth : Method} {c : Code} {H : Heap} {locs : List Loc} {cells slots : Nat}
variable {y : MethodName} {bytes cc : ByteArray} {maxL nL mc ms n index : Nat} {ret : Option FieldType} {ws : List Cond} {rm : Room} {Pc : Array Value → State → Prop} {Qc : Array Value → State → Outcome → State → Prop} {XC : String → State → State → Prop} {free : Addr → Prop} {Ts : List Cond} {own C : String} {b : Addr} {As rest : List Value} {g : JFrame}
theorem vx_callBack (cb : CallB R s args own index y bytes maxL ret ws rm mc ms n) (hM : vx_Met l y ws rm Pc Qc XC mc ms free) (hbl : FrameBlind Pc) : vx_Back l R p e below s args y 3 8 (PreOf R mc ms Pc) (PostOf Qc mc ms free) (vx_Post XC mc ms free) := by
  obtain ⟨hrc, hrs, hfr, hlo, hws, hcw, -, hini, -⟩ := cb
  exact vx_back (bytes := bytes) (maxL := maxL) (ret := ret) hM hbl hrc hrs hfr hlo hws hcw (fun a' U hW => word_at hW (Or.inl (by first | rfl | simp [Cond.onTables, Cond.keeps, Cond.steady])) hini)
theorem vx_runV (S : CallFix p m c cc nL s args Ts own) (hM : vx_Met l y ws rm Pc Qc XC mc ms free) (cw : CallW R s args own C index y bytes maxL ret ws rm mc ms n) (hp : PreV s H C b Pc As)
    (hg : g.method = m) (hn : As.length = n) (hsize : g.locals.size = nL) (hstack : g.stack = As.reverse ++ .ref b :: rest) (hW : 2 * g.monitorRoom + (rest.map fun v => v.category).sum ≤ 8) (hdg : decode cc g.pc = .ok (.invokevirtual index, 3)) (hf : cells + mc ≤ R.cells ∧ slots + ms ≤ R.slots) :
    vx_Run p l e R s m args below meth c H locs cells slots mc ms g rest (Qc (Value.ref b :: As).toArray) XC free := by
  have hK : vx_Back l R p e below s args y 3 8 (PreOf R mc ms Pc) (PostOf Qc mc ms free) (vx_Post XC mc ms free) := vx_callBack cw.1 hM hp.1
  obtain ⟨⟨-, -, -, -, -, -, hcode, -, hy, hlen, hl⟩, hin, hse⟩ := cw
  obtain ⟨hx, hb, hml, ho, -⟩ := S
  obtain ⟨-, ⟨cellB, hcB, hoB, hclB⟩, hPc⟩ := hp
  intro T hT X
  rcases vx_callV X hx (C := C) (bytes := bytes) (maxL := maxL) (ret := ret) ho hl hin hse hcode hy hK (by rw [hT]; exact hcB) hoB hclB hg (hsize.trans hml.symm) (argsL := As) (rest := rest) (fun sig h => hn.trans (hlen sig h)) hstack hW (by rw [hb]; exact hdg)
    (fun vm₁ hW₁ => ⟨hf.1, hf.2, hPc (T.setVm vm₁) hT hW₁⟩) with ⟨v, vm₁, ⟨U', l2, c2, s2⟩, hW₁, X', ⟨g', mk, t, L, e1, e2, hq, h1, hL, h2, h3⟩, st⟩ | ⟨q, vm₁, ⟨U', l2, c2, s2⟩, hW₁, X', ⟨g', mk, t, L, E, ce, e1, e2, hq, hce, hcv, hcl, h1, hL, h2, h3⟩, st⟩
  · dsimp only [Pt.U, Pt.locs, Pt.cells, Pt.slots] at X' e1 e2 h1 h2 h3 st
    subst h1; subst h2; subst h3
    exact Or.inl ⟨v, (T.setVm vm₁).calling g' mk (Value.ref b :: As).toArray, t, U', L, hT, X', hL, e1, e2, hq, st⟩
  · dsimp only [Pt.U, Pt.locs, Pt.cells, Pt.slots] at X' e1 e2 h1 h2 h3 st hcl
    subst h1; subst h2; subst h3
    exact Or.inr ⟨q, (T.setVm vm₁).calling g' mk (Value.ref b :: As).toArray, t, U', L, E, ce, hT, X', hL, e1, e2, hq, hce, hcv, vx_cls hW₁ hcl, st⟩
theorem vx_runS (S : CallFix p m c cc nL s args Ts own) (hM : vx_Met l y ws rm Pc Qc XC mc ms free) (cw : CallB R s args own index y bytes maxL ret ws rm mc ms n ∧ (Cond.static y).before args s = true) (hp : PreS s H Pc As)
    (hg : g.method = m) (hn : As.length = n) (hsize : g.locals.size = nL) (hstack : g.stack = As.reverse ++ rest) (hW : 2 * g.monitorRoom + (rest.map fun v => v.category).sum ≤ 8) (hdg : decode cc g.pc = .ok (.invokestatic index, 3)) (hf : cells + mc ≤ R.cells ∧ slots + ms ≤ R.slots) :
    vx_Run p l e R s m args below meth c H locs cells slots mc ms g rest (Qc As.toArray) XC free := by
  have hK : vx_Back l R p e below s args y 3 8 (PreOf R mc ms Pc) (PostOf Qc mc ms free) (vx_Post XC mc ms free) := vx_callBack cw.1 hM hp.1
  obtain ⟨⟨-, -, -, -, -, -, hcode, hini, hy, hlen, hl⟩, hstt⟩ := cw
  obtain ⟨hx, hb, hml, ho, -⟩ := S
  intro T hT X
  rcases vx_callS X hx (bytes := bytes) (maxL := maxL) (ret := ret) ho hl hstt hini hcode hy hK hg (hsize.trans hml.symm) (argsL := As) (rest := rest) (fun sig h => hn.trans (hlen sig h)) hstack hW (by rw [hb]; exact hdg)
    (fun vm₁ hW₁ => ⟨hf.1, hf.2, hp.2 (T.setVm vm₁) hT hW₁⟩) with ⟨v, vm₁, ⟨U', l2, c2, s2⟩, hW₁, X', ⟨g', mk, t, L, e1, e2, hq, h1, hL, h2, h3⟩, st⟩ | ⟨q, vm₁, ⟨U', l2, c2, s2⟩, hW₁, X', ⟨g', mk, t, L, E, ce, e1, e2, hq, hce, hcv, hcl, h1, hL, h2, h3⟩, st⟩
  · dsimp only [Pt.U, Pt.locs, Pt.cells, Pt.slots] at X' e1 e2 h1 h2 h3 st
    subst h1; subst h2; subst h3
    exact Or.inl ⟨v, (T.setVm vm₁).calling g' mk As.toArray, t, U', L, hT, X', hL, e1, e2, hq, st⟩
  · dsimp only [Pt.U, Pt.locs, Pt.cells, Pt.slots] at X' e1 e2 h1 h2 h3 st hcl
    subst h1; subst h2; subst h3
    exact Or.inr ⟨q, (T.setVm vm₁).calling g' mk As.toArray, t, U', L, E, ce, hT, X', hL, e1, e2, hq, hce, hcv, vx_cls hW₁ hcl, st⟩
end Runs
section Rows
variable {p : Program} {l : Launch} {e : Env} {R : Room} {s : State} {m : MethodId} {args : Array Value} {below : List Frame} {meth : Method} {c : Code} {H : Heap} {locs : List Loc} {cells slots : Nat} {Q : State → Prop}
variable {mc ms : Nat} {free : Addr → Prop} {A0 A1 : Nat → Prop} {H0 : Heap} {a : Array Value} {pc : Nat} {ls : Array Slot} {st0 rest : List Value}
theorem vx_keep {st₀ t T' : State} {L : List Loc} (h0 : st₀.heap = H) (e1 : T'.heap = t.heap) (hS : va_S A0 H0 H locs) (hA : ∀ q, q < H.size → A1 q → A0 q) (hf : ∀ q, free q → A0 q) (hL : ∀ q ∈ L, free q.base) (hF : va_F A1 st₀ t) :
    H.size ≤ T'.heap.size ∧ (∀ q : Nat, q < H.size → ¬ A1 q → T'.heap[q]? = H[q]?) ∧ va_S A0 H0 T'.heap (locs ++ L) := by
  obtain ⟨hz, hk⟩ := hF
  rw [h0] at hz hk
  exact ⟨by rw [e1]; exact hz, fun q h1 h2 => by rw [e1]; exact hk q h1 h2,
    ⟨Nat.le_trans hS.1 (by rw [e1]; exact hz), fun q h1 h2 => by rw [e1, hk q (Nat.lt_of_lt_of_le h1 hS.1) (fun z => h2 (hA q (Nat.lt_of_lt_of_le h1 hS.1) z))]; exact hS.2.1 q h1 h2, fun q hq => by
      rcases List.mem_append.mp hq with h | h
      · exact hS.2.2 q h
      · exact hf _ (hL q h)⟩⟩
theorem vx_calli {S SX : Type} {post : Int32 → S → Prop} {px : SX → Prop} {B : S → State → Prop} {BX : String → SX → State → Prop} {AX : Nat → Prop} (hr : vx_Run p l e R s m args below meth c H locs cells slots mc ms (F0 m pc ls st0) rest (va_Qi post B A1 a) (vx_X px BX AX) free) (hS : va_S A0 H0 H locs) (hA : ∀ q, q < H.size → A1 q → A0 q) (hf : ∀ q, free q → A0 q) (hAX : ∀ q, q < H.size → AX q → A0 q)
    (kx : ∀ (E : String) (ce : Cell) (q9 : Addr) (u : SX) (t : State) (H1 : Heap) (locs1 : List Loc), t.heap = H1 → s.vm.Alike t.vm → px u → BX E u t → H.size ≤ H1.size → (∀ q : Nat, q < H.size → ¬ AX q → H1[q]? = H[q]?) → va_S A0 H0 H1 locs1 → H1[q9]? = some ce → ce.vm = .none → s.vm.findClass E = some ce.cls → vx_W p l e R s m args below meth c H1 locs1 (cells + mc) (slots + ms) Q (F0 m pc ls rest) q9)
    (kk : ∀ (r : Int32) (u : S) (t : State) (H1 : Heap) (locs1 : List Loc), t.heap = H1 → s.vm.Alike t.vm → post r u → B u t → H.size ≤ H1.size → (∀ q : Nat, q < H.size → ¬ A1 q → H1[q]? = H[q]?) → va_S A0 H0 H1 locs1 → W p l e R s m args below meth c H1 locs1 (cells + mc) (slots + ms) Q (F0 m (pc + 3) ls (.int r :: rest))) : W p l e R s m args below meth c H locs cells slots Q (F0 m pc ls st0) := by
  intro T hT X
  rcases hr T hT X with ⟨v, st₀, t, T', L, h0, X', hL, e1, e2, ⟨⟨r, u, hv, hp, hb⟩, hF⟩, st⟩ | ⟨q, st₀, t, T', L, E, ce, h0, X', hL, e1, e2, ⟨u, hp, hb, hF⟩, hce, hcv, hcl, st⟩
  · cases hv
    obtain ⟨k1, k2, k3⟩ := vx_keep h0 e1 hS hA hf hL hF
    obtain ⟨t2, a1, b1⟩ := kk r u t T'.heap (locs ++ L) e1.symm (by rw [← e2]; exact X'.warmed.alike) hp hb k1 k2 k3 T' rfl X'
    exact ⟨t2, st t2 a1, b1⟩
  · obtain ⟨k1, k2, k3⟩ := vx_keep h0 e1 hS hAX hf hL hF
    obtain ⟨t2, a1, b1⟩ := kx E ce q u t T'.heap (locs ++ L) e1.symm (by rw [← e2]; exact X'.warmed.alike) hp hb k1 k2 k3 (by rw [e1]; exact hce) hcv hcl T' rfl X'
    exact ⟨t2, st.trans a1, b1⟩
theorem vx_calll {S SX : Type} {post : Int64 → S → Prop} {px : SX → Prop} {B : S → State → Prop} {BX : String → SX → State → Prop} {AX : Nat → Prop} (hr : vx_Run p l e R s m args below meth c H locs cells slots mc ms (F0 m pc ls st0) rest (va_Ql post B A1 a) (vx_X px BX AX) free) (hS : va_S A0 H0 H locs) (hA : ∀ q, q < H.size → A1 q → A0 q) (hf : ∀ q, free q → A0 q) (hAX : ∀ q, q < H.size → AX q → A0 q)
    (kx : ∀ (E : String) (ce : Cell) (q9 : Addr) (u : SX) (t : State) (H1 : Heap) (locs1 : List Loc), t.heap = H1 → s.vm.Alike t.vm → px u → BX E u t → H.size ≤ H1.size → (∀ q : Nat, q < H.size → ¬ AX q → H1[q]? = H[q]?) → va_S A0 H0 H1 locs1 → H1[q9]? = some ce → ce.vm = .none → s.vm.findClass E = some ce.cls → vx_W p l e R s m args below meth c H1 locs1 (cells + mc) (slots + ms) Q (F0 m pc ls rest) q9)
    (kk : ∀ (r : Int64) (u : S) (t : State) (H1 : Heap) (locs1 : List Loc), t.heap = H1 → s.vm.Alike t.vm → post r u → B u t → H.size ≤ H1.size → (∀ q : Nat, q < H.size → ¬ A1 q → H1[q]? = H[q]?) → va_S A0 H0 H1 locs1 → W p l e R s m args below meth c H1 locs1 (cells + mc) (slots + ms) Q (F0 m (pc + 3) ls (.long r :: rest))) : W p l e R s m args below meth c H locs cells slots Q (F0 m pc ls st0) := by
  intro T hT X
  rcases hr T hT X with ⟨v, st₀, t, T', L, h0, X', hL, e1, e2, ⟨⟨r, u, hv, hp, hb⟩, hF⟩, st⟩ | ⟨q, st₀, t, T', L, E, ce, h0, X', hL, e1, e2, ⟨u, hp, hb, hF⟩, hce, hcv, hcl, st⟩
  · cases hv
    obtain ⟨k1, k2, k3⟩ := vx_keep h0 e1 hS hA hf hL hF
    obtain ⟨t2, a1, b1⟩ := kk r u t T'.heap (locs ++ L) e1.symm (by rw [← e2]; exact X'.warmed.alike) hp hb k1 k2 k3 T' rfl X'
    exact ⟨t2, st t2 a1, b1⟩
  · obtain ⟨k1, k2, k3⟩ := vx_keep h0 e1 hS hAX hf hL hF
    obtain ⟨t2, a1, b1⟩ := kx E ce q u t T'.heap (locs ++ L) e1.symm (by rw [← e2]; exact X'.warmed.alike) hp hb k1 k2 k3 (by rw [e1]; exact hce) hcv hcl T' rfl X'
    exact ⟨t2, st.trans a1, b1⟩
theorem vx_callf {S SX : Type} {post : UInt32 → S → Prop} {px : SX → Prop} {B : S → State → Prop} {BX : String → SX → State → Prop} {AX : Nat → Prop} (hr : vx_Run p l e R s m args below meth c H locs cells slots mc ms (F0 m pc ls st0) rest (va_Qf post B A1 a) (vx_X px BX AX) free) (hS : va_S A0 H0 H locs) (hA : ∀ q, q < H.size → A1 q → A0 q) (hf : ∀ q, free q → A0 q) (hAX : ∀ q, q < H.size → AX q → A0 q)
    (kx : ∀ (E : String) (ce : Cell) (q9 : Addr) (u : SX) (t : State) (H1 : Heap) (locs1 : List Loc), t.heap = H1 → s.vm.Alike t.vm → px u → BX E u t → H.size ≤ H1.size → (∀ q : Nat, q < H.size → ¬ AX q → H1[q]? = H[q]?) → va_S A0 H0 H1 locs1 → H1[q9]? = some ce → ce.vm = .none → s.vm.findClass E = some ce.cls → vx_W p l e R s m args below meth c H1 locs1 (cells + mc) (slots + ms) Q (F0 m pc ls rest) q9)
    (kk : ∀ (r : UInt32) (u : S) (t : State) (H1 : Heap) (locs1 : List Loc), t.heap = H1 → s.vm.Alike t.vm → post r u → B u t → H.size ≤ H1.size → (∀ q : Nat, q < H.size → ¬ A1 q → H1[q]? = H[q]?) → va_S A0 H0 H1 locs1 → W p l e R s m args below meth c H1 locs1 (cells + mc) (slots + ms) Q (F0 m (pc + 3) ls (.float r :: rest))) : W p l e R s m args below meth c H locs cells slots Q (F0 m pc ls st0) := by
  intro T hT X
  rcases hr T hT X with ⟨v, st₀, t, T', L, h0, X', hL, e1, e2, ⟨⟨r, u, hv, hp, hb⟩, hF⟩, st⟩ | ⟨q, st₀, t, T', L, E, ce, h0, X', hL, e1, e2, ⟨u, hp, hb, hF⟩, hce, hcv, hcl, st⟩
  · cases hv
    obtain ⟨k1, k2, k3⟩ := vx_keep h0 e1 hS hA hf hL hF
    obtain ⟨t2, a1, b1⟩ := kk r u t T'.heap (locs ++ L) e1.symm (by rw [← e2]; exact X'.warmed.alike) hp hb k1 k2 k3 T' rfl X'
    exact ⟨t2, st t2 a1, b1⟩
  · obtain ⟨k1, k2, k3⟩ := vx_keep h0 e1 hS hAX hf hL hF
    obtain ⟨t2, a1, b1⟩ := kx E ce q u t T'.heap (locs ++ L) e1.symm (by rw [← e2]; exact X'.warmed.alike) hp hb k1 k2 k3 (by rw [e1]; exact hce) hcv hcl T' rfl X'
    exact ⟨t2, st.trans a1, b1⟩
theorem vx_calld {S SX : Type} {post : UInt64 → S → Prop} {px : SX → Prop} {B : S → State → Prop} {BX : String → SX → State → Prop} {AX : Nat → Prop} (hr : vx_Run p l e R s m args below meth c H locs cells slots mc ms (F0 m pc ls st0) rest (va_Qd post B A1 a) (vx_X px BX AX) free) (hS : va_S A0 H0 H locs) (hA : ∀ q, q < H.size → A1 q → A0 q) (hf : ∀ q, free q → A0 q) (hAX : ∀ q, q < H.size → AX q → A0 q)
    (kx : ∀ (E : String) (ce : Cell) (q9 : Addr) (u : SX) (t : State) (H1 : Heap) (locs1 : List Loc), t.heap = H1 → s.vm.Alike t.vm → px u → BX E u t → H.size ≤ H1.size → (∀ q : Nat, q < H.size → ¬ AX q → H1[q]? = H[q]?) → va_S A0 H0 H1 locs1 → H1[q9]? = some ce → ce.vm = .none → s.vm.findClass E = some ce.cls → vx_W p l e R s m args below meth c H1 locs1 (cells + mc) (slots + ms) Q (F0 m pc ls rest) q9)
    (kk : ∀ (r : UInt64) (u : S) (t : State) (H1 : Heap) (locs1 : List Loc), t.heap = H1 → s.vm.Alike t.vm → post r u → B u t → H.size ≤ H1.size → (∀ q : Nat, q < H.size → ¬ A1 q → H1[q]? = H[q]?) → va_S A0 H0 H1 locs1 → W p l e R s m args below meth c H1 locs1 (cells + mc) (slots + ms) Q (F0 m (pc + 3) ls (.double r :: rest))) : W p l e R s m args below meth c H locs cells slots Q (F0 m pc ls st0) := by
  intro T hT X
  rcases hr T hT X with ⟨v, st₀, t, T', L, h0, X', hL, e1, e2, ⟨⟨r, u, hv, hp, hb⟩, hF⟩, st⟩ | ⟨q, st₀, t, T', L, E, ce, h0, X', hL, e1, e2, ⟨u, hp, hb, hF⟩, hce, hcv, hcl, st⟩
  · cases hv
    obtain ⟨k1, k2, k3⟩ := vx_keep h0 e1 hS hA hf hL hF
    obtain ⟨t2, a1, b1⟩ := kk r u t T'.heap (locs ++ L) e1.symm (by rw [← e2]; exact X'.warmed.alike) hp hb k1 k2 k3 T' rfl X'
    exact ⟨t2, st t2 a1, b1⟩
  · obtain ⟨k1, k2, k3⟩ := vx_keep h0 e1 hS hAX hf hL hF
    obtain ⟨t2, a1, b1⟩ := kx E ce q u t T'.heap (locs ++ L) e1.symm (by rw [← e2]; exact X'.warmed.alike) hp hb k1 k2 k3 (by rw [e1]; exact hce) hcv hcl T' rfl X'
    exact ⟨t2, st.trans a1, b1⟩
theorem vx_callv {S SX : Type} {post : S → Prop} {px : SX → Prop} {B : S → State → Prop} {BX : String → SX → State → Prop} {AX : Nat → Prop} (hr : vx_Run p l e R s m args below meth c H locs cells slots mc ms (F0 m pc ls st0) rest (va_Qv post B A1 a) (vx_X px BX AX) free) (hS : va_S A0 H0 H locs) (hA : ∀ q, q < H.size → A1 q → A0 q) (hf : ∀ q, free q → A0 q) (hAX : ∀ q, q < H.size → AX q → A0 q)
    (kx : ∀ (E : String) (ce : Cell) (q9 : Addr) (u : SX) (t : State) (H1 : Heap) (locs1 : List Loc), t.heap = H1 → s.vm.Alike t.vm → px u → BX E u t → H.size ≤ H1.size → (∀ q : Nat, q < H.size → ¬ AX q → H1[q]? = H[q]?) → va_S A0 H0 H1 locs1 → H1[q9]? = some ce → ce.vm = .none → s.vm.findClass E = some ce.cls → vx_W p l e R s m args below meth c H1 locs1 (cells + mc) (slots + ms) Q (F0 m pc ls rest) q9)
    (kk : ∀ (u : S) (t : State) (H1 : Heap) (locs1 : List Loc), t.heap = H1 → s.vm.Alike t.vm → post u → B u t → H.size ≤ H1.size → (∀ q : Nat, q < H.size → ¬ A1 q → H1[q]? = H[q]?) → va_S A0 H0 H1 locs1 → W p l e R s m args below meth c H1 locs1 (cells + mc) (slots + ms) Q (F0 m (pc + 3) ls (rest))) : W p l e R s m args below meth c H locs cells slots Q (F0 m pc ls st0) := by
  intro T hT X
  rcases hr T hT X with ⟨v, st₀, t, T', L, h0, X', hL, e1, e2, ⟨⟨u, hv, hp, hb⟩, hF⟩, st⟩ | ⟨q, st₀, t, T', L, E, ce, h0, X', hL, e1, e2, ⟨u, hp, hb, hF⟩, hce, hcv, hcl, st⟩
  · cases hv
    obtain ⟨k1, k2, k3⟩ := vx_keep h0 e1 hS hA hf hL hF
    obtain ⟨t2, a1, b1⟩ := kk u t T'.heap (locs ++ L) e1.symm (by rw [← e2]; exact X'.warmed.alike) hp hb k1 k2 k3 T' rfl X'
    exact ⟨t2, st t2 a1, b1⟩
  · obtain ⟨k1, k2, k3⟩ := vx_keep h0 e1 hS hAX hf hL hF
    obtain ⟨t2, a1, b1⟩ := kx E ce q u t T'.heap (locs ++ L) e1.symm (by rw [← e2]; exact X'.warmed.alike) hp hb k1 k2 k3 (by rw [e1]; exact hce) hcv hcl T' rfl X'
    exact ⟨t2, st.trans a1, b1⟩
/-- caught by the row x of this method's table; the rows ahead don't take it -/
theorem vx_catch {own name : String} {E : String} {ce : Cell} {q : Addr} (hown : s.vm.findClass own = some m.cls) (pre : List ExceptionTableEntry) (x : ExceptionTableEntry) (suf : List ExceptionTableEntry) (hsplit : c.exceptionTable.toList = pre ++ x :: suf)
    (hpass : ∀ z ∈ pre, covers z pc = false ∨ (z.catchType ≠ 0 ∧ ∃ nm : String, (Cond.classLink own z.catchType nm).before args s = true ∧ va_Nc E nm s)) (hx : covers x pc = true) (h0 : x.catchType ≠ 0)
    (hlink : (Cond.classLink own x.catchType name).before args s = true) (hcast : (Cond.castable E name).before args s = true) (hcell : H[q]? = some ce) (hv : ce.vm = .none) (hcl : s.vm.findClass E = some ce.cls)
    (kk : W p l e R s m args below meth c H locs cells slots Q (F0 m x.handlerPc ls [.ref q])) : vx_W p l e R s m args below meth c H locs cells slots Q (F0 m pc ls rest) q := by
  intro T hT X
  have hpl : e.platform.magicAccessors = ({} : Platform).magicAccessors := by rw [X.admits.platform]
  obtain ⟨c3, c4, hc3, hc4, hasg⟩ := Cond.castable_spec hcast
  cases Option.some.inj (hc3.symm.trans hcl)
  obtain ⟨c5, hc5, hcl5⟩ := Cond.classLink_spec hown hlink e.platform hpl
  cases Option.some.inj (hc4.symm.trans hc5)
  obtain ⟨vm', X', st⟩ := X.thenCaughtThrough q (g := F0 m pc ls rest) rfl (Steps.refl _) (by rw [hT]; exact hcell) (by rw [hv]; rfl) (by obtain ⟨k9, h9, -⟩ := Vm.findClass_spec hcl; exact ⟨k9, h9⟩) pre x suf hsplit
    (fun z hz => by
      rcases hpass z hz with h | ⟨hz0, nm, hl1, hn1⟩
      · exact Or.inl h
      · obtain ⟨c6, hc6, hcl6⟩ := Cond.classLink_spec hown hl1 e.platform hpl
        obtain ⟨a8, b8, h1, h2, h3⟩ := hn1
        cases Option.some.inj (h1.symm.trans hcl)
        cases Option.some.inj (h2.symm.trans hc6)
        exact Or.inr ⟨hz0, _, hcl6, h3⟩) hx (Or.inr ⟨h0, c4, hcl5, hasg⟩)
  obtain ⟨t, a1, b1⟩ := kk (T.setVm vm') hT X'
  exact ⟨t, st.trans a1, b1⟩
end Rows
section Ends
variable {p : Program} {l : Launch} {e : Env} {R : Room} {s : State} {m : MethodId} {args : Array Value} {below : List Frame} {meth : Method} {c : Code} {H : Heap} {locs : List Loc} {cells slots : Nat} {Q : State → Prop}
variable {mc ms : Nat} {free : Addr → Prop} {A0 A1 : Nat → Prop} {H0 : Heap} {a : Array Value} {ls : Array Slot} {st0 rest : List Value}
variable {Qc : Array Value → State → Outcome → State → Prop} {XC : String → State → State → Prop}
/-- what a body that may throw owes at its end -/
def vx_MQ (below : List Frame) (Qc : Array Value → State → Outcome → State → Prop) (XC : String → State → State → Prop) (a : Array Value) (s : State) (mc ms : Nat) (free : Addr → Prop) : State → Prop := fun t =>
  ∃ o, t.status = .running ∧ Ended t below o ∧ vx_Q Qc XC mc ms free a s o t
theorem vx_ret {g : JFrame} {mc ms : Nat} (k : W p l e R s m args below meth c H locs cells slots (MQ below Qc args s mc ms free) g) : W p l e R s m args below meth c H locs cells slots (vx_MQ below Qc XC args s mc ms free) g := by
  intro T hT X
  obtain ⟨t, a1, o, b1, b2, b3, b4⟩ := k T hT X
  exact ⟨t, a1, o, b1, b2, Or.inl ⟨b3, b4⟩⟩
/-- not caught here: it goes on to the caller -/
theorem vx_widen {g : JFrame} {q : Addr} {k n : Nat} (h1 : cells ≤ k) (h2 : slots ≤ n) (kk : vx_W p l e R s m args below meth c H locs k n Q g q) : vx_W p l e R s m args below meth c H locs cells slots Q g q := fun T hT X => kk T hT (stand_widen X h1 h2)
theorem vx_out {pc : Nat} {E : String} {ce : Cell} {q : Addr} {mc ms : Nat} (hout : ∀ x ∈ c.exceptionTable.toList, covers x pc = false) (hlocks : meth.locks = false) (hcell : H[q]? = some ce) (hv : ce.vm = .none) (hcl : s.vm.findClass E = some ce.cls)
    (hx : ∀ t : State, t.heap = H → s.vm.Alike t.vm → XC E s t) (hf : ∀ z ∈ locs, free z.base) (hc : cells ≤ mc) (hs : slots ≤ ms) :
    vx_W p l e R s m args below meth c H locs cells slots (vx_MQ below Qc XC args s mc ms free) (F0 m pc ls rest) q := by
  intro T hT X
  obtain ⟨st1, hrun, hend, hW, hsm⟩ := X.leaveThrown q (g := F0 m pc ls rest) rfl rfl rfl hout hlocks
  have hcell9 : (T.setFrames (.throwing q :: below)).heap[q]? = some ce := by
    show T.heap[q]? = some ce
    rw [hT]; exact hcell
  exact ⟨_, st1, .threw q, hrun, hend, Or.inr ⟨q, rfl, E, ce, locs, hx _ hT hW.alike, hcell9, hv, hcl, hW, hsm.mono hc hs, hf⟩⟩
theorem vx_frame {U : State} {k n : Nat} (h : s.sameButNew ({ U with vm := s.vm } : State) locs k n) : s.heap.size ≤ U.heap.size ∧ ∀ q : Nat, q < s.heap.size → (∀ z ∈ locs, z.base ≠ q) → U.heap[q]? = s.heap[q]? := by
  obtain ⟨-, h2, -, -, -, h6⟩ := h
  refine ⟨h2, fun q hq hz => ?_⟩
  obtain ⟨c9, e1, e2, e3, e4⟩ := h6 q _ (Array.getElem?_eq_getElem hq)
  have hs : c9.slots = (s.heap[q]).slots := Array.ext_getElem? fun i => e4 i fun hm => hz _ hm rfl
  have h9 : c9 = s.heap[q] := by
    rw [hs] at e2
    exact e2
  have e5 : U.heap[q]? = some c9 := e1
  rw [e5, h9, Array.getElem?_eq_getElem hq]
/-- the words of a throw but the four that speak of the heap -/
def vx_no (w : Cond) : Bool := decide (w ≠ .isRef (.static Bundle.tN "UNASSIGNED_STACK" Bundle.steD)) && decide (w ≠ .isRef (.static Bundle.tN "SUPPRESSED_SENTINEL" Bundle.listD)) && decide (w ≠ .laysStatic Bundle.tN "UNASSIGNED_STACK" Bundle.steD) && decide (w ≠ .laysStatic Bundle.tN "SUPPRESSED_SENTINEL" Bundle.listD)
def vx_at0 (own : String) (ic : Nat) (X : String) (names : List String) : List Cond := (Bundle.ownAtoms0 own ic X names).filter vx_no
def vx_atS (own : String) (ic : Nat) (X : String) (names : List String) : List Cond := (Bundle.ownAtoms own ic X names).filter vx_no
/-- a word that the tables alone decide, or a good one -/
def vx_ot (w : Cond) : Bool := w.onTables || goodWord w
theorem vx_ot_at {args a' : Array Value} {s U : State} {w : Cond} (hW : s.WarmedH U.vm) (hvm : s.vm = U.vm) (hg : vx_ot w = true) (h : w.before args s = true) : w.before a' U = true := by
  simp only [vx_ot, Bool.or_eq_true] at hg
  rcases hg with hg | hg
  · exact va_tabs hg hvm h
  · exact word_at hW (good_of_word hg) h
/-- a list's words: the good ones out of the method's own list, the others by premises of their own -/
theorem vx_hat {args : Array Value} {s : State} {L B : List Cond} (h1 : ∀ w ∈ L.filter goodWord, w.before args s = true) (h2 : ∀ w ∈ L.filter (fun w => !goodWord w), w ∈ B) (h3 : ∀ w ∈ B, w.before args s = true) : ∀ w ∈ L, w.before args s = true := by
  intro w hw
  by_cases g : goodWord w = true
  · exact h1 w (List.mem_filter.mpr ⟨hw, g⟩)
  · refine h3 w (h2 w (List.mem_filter.mpr ⟨hw, ?_⟩))
    show (!goodWord w) = true
    cases hgw : goodWord w
    · rfl
    · exact absurd hgw g
theorem vx_c {args : Array Value} {s : State} {w : Cond} {B : List Cond} (h : w.before args s = true) (t : ∀ w ∈ B, w.before args s = true) : ∀ w' ∈ w :: B, w'.before args s = true := fun w' h' => (List.mem_cons.mp h').elim (fun e => by rw [e]; exact h) (t w')
theorem vx_n {args : Array Value} {s : State} : ∀ w ∈ ([] : List Cond), w.before args s = true := fun _ h => nomatch h
theorem vx_own {args : Array Value} {s : State} {L : List Cond} (h1 : ∀ w ∈ L.filter vx_no, w.before args s = true)
    (hU : (Cond.isRef (.static Bundle.tN "UNASSIGNED_STACK" Bundle.steD)).before args s = true) (hN : (Cond.isRef (.static Bundle.tN "SUPPRESSED_SENTINEL" Bundle.listD)).before args s = true)
    (lU : (Cond.laysStatic Bundle.tN "UNASSIGNED_STACK" Bundle.steD).before args s = true) (lN : (Cond.laysStatic Bundle.tN "SUPPRESSED_SENTINEL" Bundle.listD).before args s = true) : ∀ w ∈ L, w.before args s = true := by
  intro w hw
  by_cases e1 : w = .isRef (.static Bundle.tN "UNASSIGNED_STACK" Bundle.steD)
  · rw [e1]; exact hU
  · by_cases e2 : w = .isRef (.static Bundle.tN "SUPPRESSED_SENTINEL" Bundle.listD)
    · rw [e2]; exact hN
    · by_cases e3 : w = .laysStatic Bundle.tN "UNASSIGNED_STACK" Bundle.steD
      · rw [e3]; exact lU
      · by_cases e4 : w = .laysStatic Bundle.tN "SUPPRESSED_SENTINEL" Bundle.listD
        · rw [e4]; exact lN
        · exact h1 w (List.mem_filter.mpr ⟨hw, by unfold vx_no; rw [decide_eq_true e1, decide_eq_true e2, decide_eq_true e3, decide_eq_true e4]; rfl⟩)
/-- where a static field lies, its class's statics cell in H -/
def vx_L (C n d : String) (A : Nat → Prop) (U : State) (H : Heap) : Prop := ∃ (c : ClassId) (k : Class) (i : Nat) (f : Field) (a : Nat) (cell : Cell), U.vm.findClass C = some c ∧ U.fieldFound? C n d = some (c, k, i, f) ∧ f.isStatic = true ∧ k.statics = some a ∧ H[a]? = some cell ∧ cell.vm.isStatics = true ∧ cell.cls = c ∧ f.slot < cell.slots.size ∧ k.staticTypes[f.slot]? = some f.type ∧ ¬ A a
theorem vx_L.moved {C n d : String} {A : Nat → Prop} {u U : State} {H : Heap} (hvm : u.vm.Alike U.vm) (h : vx_L C n d A u H) : vx_L C n d A U H := by
  obtain ⟨c, k, i, f, a, cell, h1, h2, h3, h4, h5, h6, h7, h8, h9, h10⟩ := h
  obtain ⟨k', hi', he⟩ := State.fieldFound?_setVm hvm h2
  exact ⟨c, k', i, f, a, cell, by rw [hvm.findClass]; exact h1, hi', h3, by rw [he]; exact h4, h5, h6, h7, h8, by rw [he]; exact h9, h10⟩
theorem vx_L.kept {C n d : String} {A : Nat → Prop} {U : State} {H H1 : Heap} (h : vx_L C n d A U H) (hq : ∀ a : Nat, a < H.size → ¬ A a → H1[a]? = H[a]?) : vx_L C n d A U H1 := by
  obtain ⟨c, k, i, f, a, cell, h1, h2, h3, h4, h5, h6, h7, h8, h9, h10⟩ := h
  exact ⟨c, k, i, f, a, cell, h1, h2, h3, h4, by rw [hq a (Array.getElem?_eq_some_iff.mp h5).1 h10]; exact h5, h6, h7, h8, h9, h10⟩
theorem vx_L.narrow {C n d : String} {A B : Nat → Prop} {U : State} {H : Heap} (h : vx_L C n d A U H) (hAB : ∀ q, B q → A q) : vx_L C n d B U H := by
  obtain ⟨c, k, i, f, a, cell, h1, h2, h3, h4, h5, h6, h7, h8, h9, h10⟩ := h
  exact ⟨c, k, i, f, a, cell, h1, h2, h3, h4, h5, h6, h7, h8, h9, fun z => h10 (hAB _ z)⟩
theorem vx_L.word {C n d : String} {A : Nat → Prop} {s : State} {args : Array Value} (h : vx_L C n d A s s.heap) : (Cond.laysStatic C n d).before args s = true := by
  obtain ⟨c, k, i, f, a, cell, h1, h2, h3, h4, h5, h6, h7, h8, h9, -⟩ := h
  show (Cond.laysStatic C n d).holds args s none s [] = true
  exact Cond.laysStatic_of h1 h2 h3 h4 h5 h6 h7 h8 h9
/-- .. and what it holds: null or some reference -/
def vx_Zq (C n d : String) (A : Nat → Prop) (U : State) (H : Heap) : Prop := va_Zq C n d A U H ∧ vx_L C n d A U H
theorem vx_Zq.moved {C n d : String} {A : Nat → Prop} {u U : State} {H : Heap} (hvm : u.vm.Alike U.vm) (h : vx_Zq C n d A u H) : vx_Zq C n d A U H := ⟨va_Zq.moved hvm h.1, vx_L.moved hvm h.2⟩
theorem vx_Zq.kept {C n d : String} {A : Nat → Prop} {U : State} {H H1 : Heap} (h : vx_Zq C n d A U H) (hq : ∀ a : Nat, a < H.size → ¬ A a → H1[a]? = H[a]?) : vx_Zq C n d A U H1 := ⟨va_Zq.kept h.1 hq, vx_L.kept h.2 hq⟩
theorem vx_Zq.narrow {C n d : String} {A B : Nat → Prop} {U : State} {H : Heap} (h : vx_Zq C n d A U H) (hAB : ∀ q, B q → A q) : vx_Zq C n d B U H := ⟨va_Zq.narrow h.1 hAB, vx_L.narrow h.2 hAB⟩
theorem vx_Zqof {args : Array Value} {s : State} {C n d : String} {A : Nat → Prop} (hl : (Cond.laysStatic C n d).before args s = true) (hini : (Cond.initialized C).before args s = true) (h : (Cond.isRef (.static C n d)).before args s = true) (hA : ∀ a : Nat, a < s.heap.size → ¬ A a) : vx_Zq C n d A s s.heap := by
  refine ⟨va_Zqof hl hini h hA, ?_⟩
  obtain ⟨c, k, i, f, a, cell, h1, h2, h3, h4, h5, h6, h7, h8, h9⟩ := Cond.laysStatic_spec hl
  exact ⟨c, k, i, f, a, cell, h1, h2, h3, h4, h5, h6, h7, h8, h9, hA a (Array.getElem?_eq_some_iff.mp h5).1⟩
theorem vx_isRef {C n d : String} {v : Value} {A : Nat → Prop} {s : State} {args : Array Value} (h : va_Z C n d v A s s.heap) (hv : v.isRef = true) : (Cond.isRef (.static C n d)).before args s = true := by
  obtain ⟨cf, kf, fi, f, a, cell, h1, h2, h3, h4, h5, h6, h7, -⟩ := h
  have he : (Term.static C n d).eval args s none [] s = some v := by
    simp [Term.eval, State.fieldNamed?, h1, h2, h4, h5, h6, h7]
  simp only [Cond.before, Cond.holds, Cond.value, he]
  cases v <;> simp_all [Value.isRef]
theorem vx_isRefq {C n d : String} {A : Nat → Prop} {s : State} {args : Array Value} (h : va_Zq C n d A s s.heap) : (Cond.isRef (.static C n d)).before args s = true := by
  rcases h with h | ⟨t, h⟩
  · exact vx_isRef h rfl
  · exact vx_isRef h rfl
/-- the same frame, seen from here: as if the method were called anew in this heap -/
theorem vx_rebase {T : State} (X : Stand p l e R s m args below meth c T locs cells slots) {R' : Room} (hf : R'.frames ≤ R.frames) (hl : R'.locals ≤ R.locals) (hc : cells + R'.cells ≤ R.cells) (hs : slots + R'.slots ≤ R.slots) :
    Stand p l e R' ((T.setVm s.vm).setFrames (.invoking m args :: below)) m args below meth c T [] 0 0 := by
  have htop : (T.setVm s.vm).topJava?.isSome := X.here.top
  have hF : ((T.setVm s.vm).setFrames (.invoking m args :: below)).frames = .invoking m args :: below := State.frames_setFrames _ (State.cur_lt_of_top htop)
  obtain ⟨g₀, hg0⟩ := Option.isSome_iff_exists.mp htop
  obtain ⟨r, hr⟩ := State.topJava?_eq_some.mp hg0
  have hl9 : e.platform.stackLimits (T.setVm s.vm).me = e.platform.stackLimits s.me := X.limits
  have hb9 : (T.setVm s.vm).me.stackBytes = s.me.stackBytes := X.bytes
  refine ⟨X.admits, X.cas, X.clock, hF, ?_, X.hears, X.method, X.code, X.here, X.tail, X.warmed, ?_, ?_, ?_⟩
  · have h := X.room
    have hU : ((T.setVm s.vm).setFrames (.invoking m args :: below)).localsInUse = s.localsInUse := by
      rw [State.localsInUse_invoking hF (meth := meth) (c := c) X.method X.code, State.localsInUse_invoking X.frames X.method X.code]
    simp only [State.hasRoom, Bool.and_eq_true, decide_eq_true_eq] at h ⊢
    obtain ⟨⟨⟨⟨h1, h2, h3, h4, h5, h6⟩, h7⟩, h8⟩, h9⟩ := h
    rw [X.frames, List.length_cons] at h2 h3
    have q1 := X.heapSize
    have q2 := X.used
    simp only [hF, hU, List.length_cons, State.stackLimits_setFrames, State.stackBytes_setFrames, hl9, hb9]
    refine ⟨⟨⟨⟨by omega, by omega, by omega, by omega, by omega, h6⟩, ?_⟩, ?_⟩, X.book⟩
    · show T.heap.size + R'.cells ≤ e.platform.maxCells
      omega
    · show T.slotsUsed + R'.slots ≤ e.platform.maxSlots
      omega
  · rw [State.stackLimits_setFrames]; rfl
  · rw [State.stackBytes_setFrames]; rfl
  · refine ⟨?_, Nat.le_refl _, Nat.le_refl _, ?_, ?_, fun a c9 h9 => ⟨c9, h9, rfl, rfl, fun _ _ => rfl⟩⟩
    · obtain ⟨t, ht, -⟩ := State.frames_cons hr
      show T.setVm s.vm = { ((T.setVm s.vm).setFrames (.invoking m args :: below)).setFrames (T.setVm s.vm).frames with heap := T.heap, slotsUsed := T.slotsUsed }
      rw [State.setFrames_setFrames, State.setFrames_self ht]
      rfl
    · show T.slotsUsed = T.slotsUsed + ((T.heap.toList.drop T.heap.size).map (·.slots.size)).sum
      rw [List.drop_eq_nil_of_le (Nat.le_of_eq Array.length_toList)]
      rfl
    · show ((T.heap.toList.drop T.heap.size).map (·.slots.size)).sum ≤ 0
      rw [List.drop_eq_nil_of_le (Nat.le_of_eq Array.length_toList)]
      exact Nat.le_refl _
/-- 'throw new E()': new; dup; invokespecial; athrow -/
theorem vx_throw0 {cc : ByteArray} {pc : Nat} (hexec : p.tables.exec = Jvm.exec) (hb : c.code = cc) (hl : l.stackTraces = false) {own cls : String} {names : List String} {ik ic mc ms : Nat} {A : Nat → Prop}
    (hown : s.vm.findClass own = some m.cls) (hcls : Bundle.fit cls = true) (hnames : ∀ n ∈ names, Bundle.fit n = true)
    (hk : (Cond.classLink own ik cls).before args s = true) (hini : (Cond.initialized cls).before args s = true) (hat : ∀ w ∈ vx_at0 own ic cls names, w.before args s = true)
    (hgood : ∀ w ∈ Cond.classLink own ik cls :: Cond.initialized cls :: vx_at0 own ic cls names, vx_ot w = true)
    (hU : vx_Zq Bundle.tN "UNASSIGNED_STACK" Bundle.steD A s s.heap) (hN : vx_Zq Bundle.tN "SUPPRESSED_SENTINEL" Bundle.listD A s s.heap) (hS : va_S A s.heap H locs) (hsize : ls.size = c.maxLocals)
    (d0 : decode cc pc = .ok (.new ik, 3)) (d3 : decode cc (pc + 3) = .ok (.dup, 1)) (d4 : decode cc (pc + 4) = .ok (.invokespecial ic, 3)) (d7 : decode cc (pc + 7) = .ok (.athrow, 1))
    (hout : ∀ x ∈ c.exceptionTable.toList, covers x (pc + 7) = false)
    (hRframes : names.length + 3 < R.frames) (hRlocals : (rest.map fun v => v.category).sum + (13 * (names.length + 1) + 42) ≤ R.locals) (hRcells : cells + 1 ≤ R.cells) (hRslots : slots + 6 ≤ R.slots) (hlocks : meth.locks = false)
    (hx : ∀ t : State, s.vm.Alike t.vm → H.size ≤ t.heap.size → (∀ q : Nat, q < H.size → t.heap[q]? = H[q]?) → XC cls s t)
    (hf : ∀ z ∈ locs, free z.base) (hc : cells + 1 ≤ mc) (hs : slots + 6 ≤ ms) :
    W p l e R s m args below meth c H locs cells slots (vx_MQ below Qc XC args s mc ms free) (F0 m pc ls rest) := by
  intro T hT X
  have htr : e.platform.stackTraces = false := (show e.platform.stackTraces = l.stackTraces by rw [X.admits.platform]).trans hl
  have Y := vx_rebase X (R' := { frames := R.frames, locals := R.locals, cells := 1, slots := 6 }) (Nat.le_refl _) (Nat.le_refl _) hRcells hRslots
  obtain ⟨s', hA⟩ : ∃ z, z = (T.setVm s.vm).setFrames (.invoking m args :: below) := ⟨_, rfl⟩
  rw [← hA] at Y
  have hvm : s'.vm = s.vm := by rw [hA]; rfl
  have hhp : s'.heap = H := by rw [hA]; exact hT
  have hW0 : s.WarmedH s'.vm := by rw [hvm]; exact State.WarmedH.refl s
  have hat' : ∀ w ∈ vx_at0 own ic cls names, w.before args s' = true := fun w hw => vx_ot_at hW0 hvm.symm (hgood w (List.mem_cons_of_mem _ (List.mem_cons_of_mem _ hw))) (hat w hw)
  have hk' : (Cond.classLink own ik cls).before args s' = true := vx_ot_at hW0 hvm.symm (hgood _ List.mem_cons_self) hk
  have hini' : (Cond.initialized cls).before args s' = true := vx_ot_at hW0 hvm.symm (hgood _ (List.mem_cons_of_mem _ List.mem_cons_self)) hini
  have hU' : vx_Zq Bundle.tN "UNASSIGNED_STACK" Bundle.steD A s' s'.heap := by rw [hhp]; exact vx_Zq.moved hW0.alike (hU.kept hS.2.1)
  have hN' : vx_Zq Bundle.tN "SUPPRESSED_SENTINEL" Bundle.listD A s' s'.heap := by rw [hhp]; exact vx_Zq.moved hW0.alike (hN.kept hS.2.1)
  have h : ∀ w ∈ Bundle.ownAtoms0 own ic cls names, w.before args s' = true := vx_own hat' (vx_isRefq hU'.1) (vx_isRefq hN'.1) hU'.2.word hN'.2.word
  have hown' : s'.vm.findClass own = some m.cls := by rw [hvm]; exact hown
  have hins : (Cond.instantiable cls 6).before args s' = true := h _ (by simp [Bundle.ownAtoms0])
  obtain ⟨vm₁, cX, kX, hfX, hkX, -, -, X₁, st1⟩ := Y.newCold hexec (own := own) (C := cls) (index := ik) (n := 6) hown' hk' hins hini'
    (g := F0 m pc ls rest) rfl (by rw [hb]; exact d0) (Nat.le_refl _) (Nat.le_refl _)
  generalize hT1 : (T.setVm vm₁).pushCell { cls := cX, slots := kX.instanceTypes.map defaultValue, vm := .none } = T1 at X₁ st1
  have hcat : (Value.ref T.heap.size).category = 1 := rfl
  have hcellA : T1.heap[T.heap.size]? = some (freshCell cX kX) := by rw [← hT1]; exact State.heap_pushCell_size _ _
  have d3' : decode c.code (pc + 3) = .ok (.dup, 1) := by rw [hb]; exact d3
  obtain ⟨U, hsteps, hrun, hend, hW, hsame, ce, hce, hO⟩ := X₁.ctorThrow0 hexec htr (own := own) (cls := cls) (names := names) (ic := ic) hown' hcls hnames h (fun x hx => nomatch hx) hfX hkX hcellA (by rw [hhp, hT]; exact Nat.le_refl _)
    (g := { method := m, pc := pc + 4, locals := ls, stack := .ref T.heap.size :: .ref T.heap.size :: rest, locked := none }) rfl hsize rfl rfl (rest := rest) rfl
    (by rw [hb]; exact d4) (by rw [hb]; exact d7) hout hRframes (by simp only [List.map_cons, List.sum_cons, hcat]; omega) hlocks
  obtain ⟨f1, f2⟩ := vx_frame hsame
  rw [hhp] at f1 f2
  have hWs : s.WarmedH U.vm := State.WarmedH.trans hW0 hW
  have hcl : s.vm.findClass cls = some ce.cls := by
    have h9 := hO.cls
    rw [hvm] at h9
    exact h9
  have hall : s.sameButNew ({ U with vm := s.vm } : State) locs mc ms := by
    subst hA
    obtain ⟨e1, e2⟩ := hsame
    rw [State.setFrames_setFrames] at e1
    have h2 : (T.setVm s.vm).sameButNew ({ U with vm := s.vm } : State) [] (0 + 1) (0 + 6) := ⟨e1, e2⟩
    have h3 := X.same.trans h2
    rw [List.append_nil] at h3
    exact h3.mono hc hs
  refine ⟨U, ?_, .threw T.heap.size, hrun, hend, Or.inr ⟨T.heap.size, rfl, cls, ce, locs, hx U hWs.alike f1 (fun q hq => f2 q hq (fun z hz => nomatch hz)), hce, hO.vm, hcl, hWs, hall, hf⟩⟩
  refine st1 _ ?_
  show Steps p.tables e below (T1.setTop { method := m, pc := pc + 3, locals := ls, stack := .ref T.heap.size :: rest, locked := none }) _
  jvm_step X₁.here [X₁.here.top, hexec, d3', Value.category]
  exact hsteps
/-- 'throw new E("text")': new; dup; ldc; invokespecial; athrow -/
theorem vx_throwS {cc : ByteArray} {pc : Nat} (hexec : p.tables.exec = Jvm.exec) (hb : c.code = cc) (hl : l.stackTraces = false) {own cls text : String} {names : List String} {ik is ic mc ms sa : Nat} {A : Nat → Prop}
    (hown : s.vm.findClass own = some m.cls) (hcls : Bundle.fit cls = true) (hnames : ∀ n ∈ names, Bundle.fit n = true)
    (hk : (Cond.classLink own ik cls).before args s = true) (hini : (Cond.initialized cls).before args s = true) (hstr : vk_R own is text sa s) (hat : ∀ w ∈ vx_atS own ic cls names, w.before args s = true)
    (hgood : ∀ w ∈ Cond.classLink own ik cls :: Cond.initialized cls :: vx_atS own ic cls names, vx_ot w = true)
    (hU : vx_Zq Bundle.tN "UNASSIGNED_STACK" Bundle.steD A s s.heap) (hN : vx_Zq Bundle.tN "SUPPRESSED_SENTINEL" Bundle.listD A s s.heap) (hS : va_S A s.heap H locs) (hsize : ls.size = c.maxLocals)
    (d0 : decode cc pc = .ok (.new ik, 3)) (d3 : decode cc (pc + 3) = .ok (.dup, 1)) (d4 : decode cc (pc + 4) = .ok (.ldc is, 2)) (d6 : decode cc (pc + 6) = .ok (.invokespecial ic, 3)) (d9 : decode cc (pc + 9) = .ok (.athrow, 1))
    (hout : ∀ x ∈ c.exceptionTable.toList, covers x (pc + 9) = false)
    (hRframes : names.length + 3 < R.frames) (hRlocals : (rest.map fun v => v.category).sum + (13 * (names.length + 1) + 43) ≤ R.locals) (hRcells : cells + 1 ≤ R.cells) (hRslots : slots + 6 ≤ R.slots) (hlocks : meth.locks = false)
    (hx : ∀ t : State, s.vm.Alike t.vm → H.size ≤ t.heap.size → (∀ q : Nat, q < H.size → t.heap[q]? = H[q]?) → XC cls s t)
    (hf : ∀ z ∈ locs, free z.base) (hc : cells + 1 ≤ mc) (hs : slots + 6 ≤ ms) :
    W p l e R s m args below meth c H locs cells slots (vx_MQ below Qc XC args s mc ms free) (F0 m pc ls rest) := by
  intro T hT X
  have htr : e.platform.stackTraces = false := (show e.platform.stackTraces = l.stackTraces by rw [X.admits.platform]).trans hl
  have Y := vx_rebase X (R' := { frames := R.frames, locals := R.locals, cells := 1, slots := 6 }) (Nat.le_refl _) (Nat.le_refl _) hRcells hRslots
  obtain ⟨s', hA⟩ : ∃ z, z = (T.setVm s.vm).setFrames (.invoking m args :: below) := ⟨_, rfl⟩
  rw [← hA] at Y
  have hvm : s'.vm = s.vm := by rw [hA]; rfl
  have hhp : s'.heap = H := by rw [hA]; exact hT
  have hW0 : s.WarmedH s'.vm := by rw [hvm]; exact State.WarmedH.refl s
  have hat' : ∀ w ∈ vx_atS own ic cls names, w.before args s' = true := fun w hw => vx_ot_at hW0 hvm.symm (hgood w (List.mem_cons_of_mem _ (List.mem_cons_of_mem _ hw))) (hat w hw)
  have hk' : (Cond.classLink own ik cls).before args s' = true := vx_ot_at hW0 hvm.symm (hgood _ List.mem_cons_self) hk
  have hini' : (Cond.initialized cls).before args s' = true := vx_ot_at hW0 hvm.symm (hgood _ (List.mem_cons_of_mem _ List.mem_cons_self)) hini
  have hU' : vx_Zq Bundle.tN "UNASSIGNED_STACK" Bundle.steD A s' s'.heap := by rw [hhp]; exact vx_Zq.moved hW0.alike (hU.kept hS.2.1)
  have hN' : vx_Zq Bundle.tN "SUPPRESSED_SENTINEL" Bundle.listD A s' s'.heap := by rw [hhp]; exact vx_Zq.moved hW0.alike (hN.kept hS.2.1)
  have h : ∀ w ∈ Bundle.ownAtoms own ic cls names, w.before args s' = true := vx_own hat' (vx_isRefq hU'.1) (vx_isRefq hN'.1) hU'.2.word hN'.2.word
  have hown' : s'.vm.findClass own = some m.cls := by rw [hvm]; exact hown
  have hins : (Cond.instantiable cls 6).before args s' = true := h _ (by simp [Bundle.ownAtoms])
  obtain ⟨vm₁, cX, kX, hfX, hkX, -, -, X₁, st1⟩ := Y.newCold hexec (own := own) (C := cls) (index := ik) (n := 6) hown' hk' hins hini'
    (g := F0 m pc ls rest) rfl (by rw [hb]; exact d0) (Nat.le_refl _) (Nat.le_refl _)
  generalize hT1 : (T.setVm vm₁).pushCell { cls := cX, slots := kX.instanceTypes.map defaultValue, vm := .none } = T1 at X₁ st1
  have hcat : (Value.ref T.heap.size).category = 1 := rfl
  have hcellA : T1.heap[T.heap.size]? = some (freshCell cX kX) := by rw [← hT1]; exact State.heap_pushCell_size _ _
  have d3' : decode c.code (pc + 3) = .ok (.dup, 1) := by rw [hb]; exact d3
  have d4' : decode c.code (pc + 4) = .ok (.ldc is, 2) := by rw [hb]; exact d4
  have hstr' : vk_R own is text sa s' := vk_R.warm hW0 hstr
  obtain ⟨U, hsteps, hrun, hend, hW, hsame, ce, hce, hO⟩ := X₁.ctorThrowS hexec htr (own := own) (cls := cls) (names := names) (ic := ic) hown' hcls hnames h (fun x hx => nomatch hx) hfX hkX hcellA (by rw [hhp, hT]; exact Nat.le_refl _) (msg := .ref sa) rfl
    (g := { method := m, pc := pc + 6, locals := ls, stack := .ref sa :: .ref T.heap.size :: .ref T.heap.size :: rest, locked := none }) rfl hsize rfl rfl (rest := rest) rfl
    (by rw [hb]; exact d6) (by rw [hb]; exact d9) hout hRframes (by simp only [List.map_cons, List.sum_cons, hcat]; omega) hlocks
  obtain ⟨f1, f2⟩ := vx_frame hsame
  rw [hhp] at f1 f2
  have hWs : s.WarmedH U.vm := State.WarmedH.trans hW0 hW
  have hcl : s.vm.findClass cls = some ce.cls := by
    have h9 := hO.cls
    rw [hvm] at h9
    exact h9
  have hall : s.sameButNew ({ U with vm := s.vm } : State) locs mc ms := by
    subst hA
    obtain ⟨e1, e2⟩ := hsame
    rw [State.setFrames_setFrames] at e1
    have h2 : (T.setVm s.vm).sameButNew ({ U with vm := s.vm } : State) [] (0 + 1) (0 + 6) := ⟨e1, e2⟩
    have h3 := X.same.trans h2
    rw [List.append_nil] at h3
    exact h3.mono hc hs
  refine ⟨U, ?_, .threw T.heap.size, hrun, hend, Or.inr ⟨T.heap.size, rfl, cls, ce, locs, hx U hWs.alike f1 (fun q hq => f2 q hq (fun z hz => nomatch hz)), hce, hO.vm, hcl, hWs, hall, hf⟩⟩
  refine st1 _ ?_
  show Steps p.tables e below (T1.setTop { method := m, pc := pc + 3, locals := ls, stack := .ref T.heap.size :: rest, locked := none }) _
  jvm_step X₁.here [X₁.here.top, hexec, d3', Value.category]
  exact X₁.ldcString hexec (own := own) (text := text) (index := is) (a := sa) hown' hstr'.1 hstr'.2
    (g := { method := m, pc := pc + 4, locals := ls, stack := .ref T.heap.size :: .ref T.heap.size :: rest, locked := none }) rfl d4' _ hsteps
/-- 'throw new E("text")', the text by a wide index -/
theorem vx_throwSW {cc : ByteArray} {pc : Nat} (hexec : p.tables.exec = Jvm.exec) (hb : c.code = cc) (hl : l.stackTraces = false) {own cls text : String} {names : List String} {ik is ic mc ms sa : Nat} {A : Nat → Prop}
    (hown : s.vm.findClass own = some m.cls) (hcls : Bundle.fit cls = true) (hnames : ∀ n ∈ names, Bundle.fit n = true)
    (hk : (Cond.classLink own ik cls).before args s = true) (hini : (Cond.initialized cls).before args s = true) (hstr : vk_R own is text sa s) (hat : ∀ w ∈ vx_atS own ic cls names, w.before args s = true)
    (hgood : ∀ w ∈ Cond.classLink own ik cls :: Cond.initialized cls :: vx_atS own ic cls names, vx_ot w = true)
    (hU : vx_Zq Bundle.tN "UNASSIGNED_STACK" Bundle.steD A s s.heap) (hN : vx_Zq Bundle.tN "SUPPRESSED_SENTINEL" Bundle.listD A s s.heap) (hS : va_S A s.heap H locs) (hsize : ls.size = c.maxLocals)
    (d0 : decode cc pc = .ok (.new ik, 3)) (d3 : decode cc (pc + 3) = .ok (.dup, 1)) (d4 : decode cc (pc + 4) = .ok (.ldc_w is, 3)) (d7 : decode cc (pc + 7) = .ok (.invokespecial ic, 3)) (d10 : decode cc (pc + 10) = .ok (.athrow, 1))
    (hout : ∀ x ∈ c.exceptionTable.toList, covers x (pc + 10) = false)
    (hRframes : names.length + 3 < R.frames) (hRlocals : (rest.map fun v => v.category).sum + (13 * (names.length + 1) + 43) ≤ R.locals) (hRcells : cells + 1 ≤ R.cells) (hRslots : slots + 6 ≤ R.slots) (hlocks : meth.locks = false)
    (hx : ∀ t : State, s.vm.Alike t.vm → H.size ≤ t.heap.size → (∀ q : Nat, q < H.size → t.heap[q]? = H[q]?) → XC cls s t)
    (hf : ∀ z ∈ locs, free z.base) (hc : cells + 1 ≤ mc) (hs : slots + 6 ≤ ms) :
    W p l e R s m args below meth c H locs cells slots (vx_MQ below Qc XC args s mc ms free) (F0 m pc ls rest) := by
  intro T hT X
  have htr : e.platform.stackTraces = false := (show e.platform.stackTraces = l.stackTraces by rw [X.admits.platform]).trans hl
  have Y := vx_rebase X (R' := { frames := R.frames, locals := R.locals, cells := 1, slots := 6 }) (Nat.le_refl _) (Nat.le_refl _) hRcells hRslots
  obtain ⟨s', hA⟩ : ∃ z, z = (T.setVm s.vm).setFrames (.invoking m args :: below) := ⟨_, rfl⟩
  rw [← hA] at Y
  have hvm : s'.vm = s.vm := by rw [hA]; rfl
  have hhp : s'.heap = H := by rw [hA]; exact hT
  have hW0 : s.WarmedH s'.vm := by rw [hvm]; exact State.WarmedH.refl s
  have hat' : ∀ w ∈ vx_atS own ic cls names, w.before args s' = true := fun w hw => vx_ot_at hW0 hvm.symm (hgood w (List.mem_cons_of_mem _ (List.mem_cons_of_mem _ hw))) (hat w hw)
  have hk' : (Cond.classLink own ik cls).before args s' = true := vx_ot_at hW0 hvm.symm (hgood _ List.mem_cons_self) hk
  have hini' : (Cond.initialized cls).before args s' = true := vx_ot_at hW0 hvm.symm (hgood _ (List.mem_cons_of_mem _ List.mem_cons_self)) hini
  have hU' : vx_Zq Bundle.tN "UNASSIGNED_STACK" Bundle.steD A s' s'.heap := by rw [hhp]; exact vx_Zq.moved hW0.alike (hU.kept hS.2.1)
  have hN' : vx_Zq Bundle.tN "SUPPRESSED_SENTINEL" Bundle.listD A s' s'.heap := by rw [hhp]; exact vx_Zq.moved hW0.alike (hN.kept hS.2.1)
  have h : ∀ w ∈ Bundle.ownAtoms own ic cls names, w.before args s' = true := vx_own hat' (vx_isRefq hU'.1) (vx_isRefq hN'.1) hU'.2.word hN'.2.word
  have hown' : s'.vm.findClass own = some m.cls := by rw [hvm]; exact hown
  have hins : (Cond.instantiable cls 6).before args s' = true := h _ (by simp [Bundle.ownAtoms])
  obtain ⟨vm₁, cX, kX, hfX, hkX, -, -, X₁, st1⟩ := Y.newCold hexec (own := own) (C := cls) (index := ik) (n := 6) hown' hk' hins hini'
    (g := F0 m pc ls rest) rfl (by rw [hb]; exact d0) (Nat.le_refl _) (Nat.le_refl _)
  generalize hT1 : (T.setVm vm₁).pushCell { cls := cX, slots := kX.instanceTypes.map defaultValue, vm := .none } = T1 at X₁ st1
  have hcat : (Value.ref T.heap.size).category = 1 := rfl
  have hcellA : T1.heap[T.heap.size]? = some (freshCell cX kX) := by rw [← hT1]; exact State.heap_pushCell_size _ _
  have d3' : decode c.code (pc + 3) = .ok (.dup, 1) := by rw [hb]; exact d3
  have d4' : decode c.code (pc + 4) = .ok (.ldc_w is, 3) := by rw [hb]; exact d4
  have hstr' : vk_R own is text sa s' := vk_R.warm hW0 hstr
  obtain ⟨U, hsteps, hrun, hend, hW, hsame, ce, hce, hO⟩ := X₁.ctorThrowS hexec htr (own := own) (cls := cls) (names := names) (ic := ic) hown' hcls hnames h (fun x hx => nomatch hx) hfX hkX hcellA (by rw [hhp, hT]; exact Nat.le_refl _) (msg := .ref sa) rfl
    (g := { method := m, pc := pc + 7, locals := ls, stack := .ref sa :: .ref T.heap.size :: .ref T.heap.size :: rest, locked := none }) rfl hsize rfl rfl (rest := rest) rfl
    (by rw [hb]; exact d7) (by rw [hb]; exact d10) hout hRframes (by simp only [List.map_cons, List.sum_cons, hcat]; omega) hlocks
  obtain ⟨f1, f2⟩ := vx_frame hsame
  rw [hhp] at f1 f2
  have hWs : s.WarmedH U.vm := State.WarmedH.trans hW0 hW
  have hcl : s.vm.findClass cls = some ce.cls := by
    have h9 := hO.cls
    rw [hvm] at h9
    exact h9
  have hall : s.sameButNew ({ U with vm := s.vm } : State) locs mc ms := by
    subst hA
    obtain ⟨e1, e2⟩ := hsame
    rw [State.setFrames_setFrames] at e1
    have h2 : (T.setVm s.vm).sameButNew ({ U with vm := s.vm } : State) [] (0 + 1) (0 + 6) := ⟨e1, e2⟩
    have h3 := X.same.trans h2
    rw [List.append_nil] at h3
    exact h3.mono hc hs
  refine ⟨U, ?_, .threw T.heap.size, hrun, hend, Or.inr ⟨T.heap.size, rfl, cls, ce, locs, hx U hWs.alike f1 (fun q hq => f2 q hq (fun z hz => nomatch hz)), hce, hO.vm, hcl, hWs, hall, hf⟩⟩
  refine st1 _ ?_
  show Steps p.tables e below (T1.setTop { method := m, pc := pc + 3, locals := ls, stack := .ref T.heap.size :: rest, locked := none }) _
  jvm_step X₁.here [X₁.here.top, hexec, d3', Value.category]
  exact X₁.ldcStringW hexec (own := own) (text := text) (index := is) (a := sa) hown' hstr'.1 hstr'.2
    (g := { method := m, pc := pc + 4, locals := ls, stack := .ref T.heap.size :: .ref T.heap.size :: rest, locked := none }) rfl d4' _ hsteps
end Ends
section Bodies
variable {l : Launch}
theorem vx_ofW {y : MethodName} {ws ws' : List Cond} {rm : Room} {Pc : Array Value → State → Prop} {Qc : Array Value → State → Outcome → State → Prop} {XC : String → State → State → Prop} {mc ms : Nat} {free : Addr → Prop} {cc : ByteArray} {maxL : Nat} {ret : Option FieldType}
    (hy : plainName y.cls = true) (hw : ws = Cond.code y cc maxL ret :: ws')
    (body : ∀ p e s m args below meth c s₁, BodyLoose p l y (headSpec ws rm) cc maxL ret e s m args below meth c s₁ → c.maxLocals = maxL → (∀ x ∈ c.exceptionTable.toList, False) → Pc args s →
      W p l e (headSpec ws rm).room s m args below meth c s.heap [] 0 0 (vx_MQ below Qc XC args s mc ms free) (entryFrame m args maxL)) : vx_Met l y ws rm Pc Qc XC mc ms free := by
  refine MetFree.of_bodyS (code := cc) (maxLocals := maxL) (ret := ret) hy ?_ ?_
  · intro args s m h hn
    obtain ⟨meth, c, h1, h2, h3, h4, h5, h6, -, -⟩ := Cond.code_spec hn (atoms_spec (ws := ws) h _ (by rw [hw]; exact List.mem_cons_self))
    exact ⟨meth, c, h1, h2, h3, h4, h5, h6⟩
  · intro p e s m args below meth c s₁ B hml hP _
    have hh0 : s₁.heap = s.heap := by rw [B.state]; rfl
    have ht : ∀ x ∈ c.exceptionTable.toList, False := by
      obtain ⟨meth9, c9, h1, h2, -, -, -, -, h7, -⟩ := Cond.code_spec B.named (atoms_spec (ws := ws) B.pre _ (by rw [hw]; exact List.mem_cons_self))
      cases Option.some.inj (h1.symm.trans B.method)
      cases Option.some.inj (h2.symm.trans (Stand.of_body B).code)
      intro x hx
      rw [Array.isEmpty_iff.mp h7] at hx
      cases hx
    obtain ⟨t, a1, o, b1, b2, b3⟩ := body p e s m args below meth c s₁ B hml ht hP s₁ hh0 (Stand.of_body B)
    exact ⟨t, o, a1, b1, b2, b3⟩
/-- the table of a body with handlers -/
theorem vx_table {p : Program} {x y : MethodName} {S : Spec} {cc bytes : ByteArray} {maxL maxL' : Nat} {ret ret' : Option FieldType} {e : Env} {s s₁ : State} {m : MethodId} {args : Array Value} {below : List Frame} {meth : Method} {c : Code} {hh : List (Nat × Nat × Nat × Nat)}
    (B : BodyLoose p l y S cc maxL ret e s m args below meth c s₁) (h : (Cond.codeWith y bytes maxL' ret' hh).before args s = true) : c.exceptionTable.toList = tableOf hh := by
  obtain ⟨m9, meth9, c9, hn9, h1, h2, -, -, h6, -⟩ := Cond.codeWith_spec h
  cases Option.some.inj (hn9.symm.trans B.named)
  cases Option.some.inj (h1.symm.trans B.method)
  cases Option.some.inj (h2.symm.trans (Stand.of_body B).code)
  rw [← h6, table_eq]
end Bodies
end VXA
/-! ===== END ===== -/
/-! ===== BEGIN a static call of a method with an exception table ===== -/
section VXS
variable {p : Program} {l : Launch} {e : Env} {R : Room} {s : State} {m : MethodId} {args : Array Value} {below : List Frame} {meth : Method} {c : Code} {T : State} {H : Heap} {locs : List Loc} {cells slots : Nat}
abbrev vx_CSW (R : Room) (s : State) (args : Array Value) (own : String) (index : Nat) (y : MethodName) (bytes : ByteArray) (maxL : Nat) (ret : Option FieldType) (hh : List (Nat × Nat × Nat × Nat)) (ws : List Cond) (rm : Room) (mc ms n : Nat) : Prop :=
  (rm.cells = mc ∧ rm.slots = ms ∧ rm.frames + 1 ≤ R.frames ∧ 8 + (maxL + 11) + rm.locals ≤ R.locals ∧ (∀ w ∈ ws, ∀ (a' : Array Value) (U : State), s.WarmedH U.vm → w.before a' U = true) ∧ Cond.codeWith y bytes maxL ret hh ∈ ws) ∧
  (Cond.codeWith y bytes maxL ret hh).before args s = true ∧ (Cond.initialized y.cls).before args s = true ∧ (y.cls ≠ "java/lang/invoke/MethodHandle" ∧ y.cls ≠ "java/lang/invoke/VarHandle") ∧
  (∀ sig, parseMethodDescriptor y.desc = some sig → n = sig.parameters.length) ∧ (Cond.methodLink own index y).before args s = true ∧ (Cond.static y).before args s = true
theorem vx_cwSW {own : String} {index maxL mc ms : Nat} {y : MethodName} {bytes : ByteArray} {ret : Option FieldType} {hh : List (Nat × Nat × Nat × Nat)} {Ts ws ws' : List Cond} {rm : Room} (n : Nat) (ht : ∀ w ∈ Ts, w.before args s = true) (hT : GoodIn Ts (va_wsS own index y ws)) (hw : ws = Cond.codeWith y bytes maxL ret hh :: ws') (hrc : rm.cells = mc) (hrs : rm.slots = ms)
    (hd : y.cls ≠ "java/lang/invoke/MethodHandle" ∧ y.cls ≠ "java/lang/invoke/VarHandle" ∧ (parseMethodDescriptor y.desc).map (fun d => d.parameters.length) = some n) (hR : rm.frames + 1 ≤ R.frames ∧ 8 + (maxL + 11) + rm.locals ≤ R.locals) :
    vx_CSW R s args own index y bytes maxL ret hh ws rm mc ms n := by
  have ok : ∀ w ∈ va_wsS own index y ws, w.before args s = true := fun w h => ht w (hT w h).1
  have hG : GoodIn Ts ws := fun w h => hT w (by unfold va_wsS; exact List.mem_append_right _ h)
  have hc : Cond.codeWith y bytes maxL ret hh ∈ ws := by rw [hw]; exact List.mem_cons_self
  refine ⟨⟨hrc, hrs, hR.1, hR.2, pay_in ht hG, hc⟩, ht _ (hG _ hc).1, ok _ (by simp [va_wsS]), ⟨hd.1, hd.2.1⟩, fun sig h => ?_, ok _ (by simp [va_wsS]), ok _ (by simp [va_wsS])⟩
  have h2 := hd.2.2
  rw [h] at h2
  exact (Option.some.inj h2).symm
theorem vx_callSW (X : Stand p l e R s m args below meth c T locs cells slots) (hexec : p.tables.exec = Jvm.exec) {own : String} {index : Nat} {y : MethodName} {bytes : ByteArray} {maxL : Nat} {ret : Option FieldType} {hh : List (Nat × Nat × Nat × Nat)}
    (hown : s.vm.findClass own = some m.cls) (hlink : (Cond.methodLink own index y).before args s = true) (hstat : (Cond.static y).before args s = true) (hinit : (Cond.initialized y.cls).before args s = true)
    (hcode : (Cond.codeWith y bytes maxL ret hh).before args s = true) (hy : y.cls ≠ "java/lang/invoke/MethodHandle" ∧ y.cls ≠ "java/lang/invoke/VarHandle")
    {W9 : Nat} {Pre : Pt → Array Value → Prop} {Post : Pt → Array Value → Option Value → Pt → Prop} (hK : Back l R p e below s args y 3 W9 Pre Post)
    {g : JFrame} (hg : g.method = m) (hsize : g.locals.size = c.maxLocals) {argsL rest : List Value} (hlen : ∀ sig, parseMethodDescriptor y.desc = some sig → argsL.length = sig.parameters.length)
    (hstack : g.stack = argsL.reverse ++ rest) (hW : 2 * g.monitorRoom + (rest.map fun v => v.category).sum ≤ W9) (hdg : decode c.code g.pc = .ok (.invokestatic index, 3))
    (hpre : ∀ vm₁, s.WarmedH vm₁ → Pre ⟨T.setVm vm₁, locs, cells, slots⟩ argsL.toArray) :
    ∃ (v : Option Value) (vm₁ : Vm) (B : Pt), s.WarmedH vm₁ ∧ Stand p l e R s m args below meth c B.U B.locs B.cells B.slots ∧ Post ⟨T.setVm vm₁, locs, cells, slots⟩ argsL.toArray v B ∧
      ∀ target, Steps p.tables e below (B.U.setTop { g with pc := g.pc + 3, stack := v.toList ++ rest }) target → Steps p.tables e below (T.setTop g) target := by
  obtain ⟨mk, methM, cM, hnamed, hmethM, -, -, -, -, -, -, hsigM⟩ := Cond.codeWith_spec hcode
  have hstatic : methM.isStatic = true := Cond.static_spec hnamed hmethM hstat
  obtain ⟨kP, hkP, -⟩ := className_of_methodNamed hnamed
  have hinitP : kP.init = .initialized := Cond.initialized_spec (findClass_of_methodNamed hnamed) hkP hinit
  obtain ⟨vm₁, X₁, hstep₁⟩ := X.invokestatic hexec hown hlink hnamed hmethM hstatic hkP hinitP hy (g := g) hg (argsL := argsL) (rest := rest) (hlen _ hsigM) hstack hdg
  obtain ⟨v, B, X', hpost, hsteps⟩ := hK m meth c ⟨T.setVm vm₁, locs, cells, slots⟩ { g with stack := rest } (.invokestatic index) mk argsL.toArray X₁ hg hsize hdg hW (X₁.named hnamed) (hpre vm₁ X₁.warmed)
  exact ⟨v, vm₁, B, X₁.warmed, X', hpost, fun target h => hstep₁ _ fun acts => by rw [doInvoke_state]; exact hsteps.trans h⟩
theorem vx_runSW {y : MethodName} {bytes cc : ByteArray} {maxL nL mc ms n index : Nat} {ret : Option FieldType} {hh : List (Nat × Nat × Nat × Nat)} {ws : List Cond} {rm : Room} {Pc : Array Value → State → Prop} {Qc : Array Value → State → Outcome → State → Prop} {free : Addr → Prop} {Ts : List Cond} {own : String} {As rest : List Value} {g : JFrame}
    (S : CallFix p m c cc nL s args Ts own) (hM : Met l y ws rm Pc Qc mc ms free) (cw : vx_CSW R s args own index y bytes maxL ret hh ws rm mc ms n) (hp : PreS s H Pc As)
    (hg : g.method = m) (hn : As.length = n) (hsize : g.locals.size = nL) (hstack : g.stack = As.reverse ++ rest) (hW : 2 * g.monitorRoom + (rest.map fun v => v.category).sum ≤ 8) (hdg : decode cc g.pc = .ok (.invokestatic index, 3)) (hf : cells + mc ≤ R.cells ∧ slots + ms ≤ R.slots) :
    va_Run p l e R s m args below meth c H locs cells slots mc ms g rest (Qc As.toArray) (free) := by
  obtain ⟨⟨hrc, hrs, hfr, hlo, hws, hcw⟩, hcode, hini, hy, hlen, hl, hstt⟩ := cw
  have hK : Back l R p e below s args y 3 8 (PreOf R mc ms Pc) (PostOf Qc mc ms free) := va_backW (hh := hh) (bytes := bytes) (maxL := maxL) (ret := ret) hM hp.1 hrc hrs hfr hlo hws hcw (fun a' U hW => word_at hW (Or.inl (by first | rfl | simp [Cond.onTables, Cond.keeps, Cond.steady])) hini)
  obtain ⟨hx, hb, hml, ho, -⟩ := S
  intro T hT X
  obtain ⟨v, vm₁, ⟨U', l2, c2, s2⟩, hW₁, X', ⟨g', mk, t, L, e1, e2, hq, h1, hL, h2, h3⟩, st⟩ := vx_callSW X hx (hh := hh) (bytes := bytes) (maxL := maxL) (ret := ret) ho hl hstt hini hcode hy hK hg (hsize.trans hml.symm) (argsL := As) (rest := rest) (fun sig h => hn.trans (hlen sig h)) hstack hW (by rw [hb]; exact hdg)
    (fun vm₁ hW₁ => ⟨hf.1, hf.2, hp.2 (T.setVm vm₁) hT hW₁⟩)
  dsimp only [Pt.U, Pt.locs, Pt.cells, Pt.slots] at X' e1 e2 h1 h2 h3 st
  subst h1; subst h2; subst h3
  exact ⟨v, (T.setVm vm₁).calling g' mk As.toArray, t, U', L, hT, X', hL, e1, e2, hq, st⟩
/-- not caught here, past rows that name other classes: it goes on to the caller -/
theorem vx_outP {p : Program} {l : Launch} {e : Env} {R : Room} {s : State} {m : MethodId} {args : Array Value} {below : List Frame} {meth : Method} {c : Code} {H : Heap} {locs : List Loc} {cells slots : Nat} {free : Addr → Prop} {ls : Array Slot} {rest : List Value} {Qc : Array Value → State → Outcome → State → Prop} {XC : String → State → State → Prop}
    {pc : Nat} {own E : String} {ce : Cell} {q : Addr} {mc ms : Nat} (hown : s.vm.findClass own = some m.cls) (hlocks : meth.locks = false)
    (hpass : ∀ z ∈ c.exceptionTable.toList, covers z pc = false ∨ (z.catchType ≠ 0 ∧ ∃ nm : String, (Cond.classLink own z.catchType nm).before args s = true ∧ va_Nc E nm s)) (hcell : H[q]? = some ce) (hv : ce.vm = .none) (hcl : s.vm.findClass E = some ce.cls)
    (hx : ∀ t : State, t.heap = H → s.vm.Alike t.vm → XC E s t) (hf : ∀ z ∈ locs, free z.base) (hc : cells ≤ mc) (hs : slots ≤ ms) :
    vx_W p l e R s m args below meth c H locs cells slots (vx_MQ below Qc XC args s mc ms free) (F0 m pc ls rest) q := by
  intro T hT X
  have hpl : e.platform.magicAccessors = ({} : Platform).magicAccessors := by rw [X.admits.platform]
  obtain ⟨vm', hW', X', st⟩ := X.outThrough hlocks q (g := F0 m pc ls rest) rfl rfl rfl (cell := ce) (by rw [hT]; exact hcell) (by rw [hv]; rfl)
    (by obtain ⟨k9, h9, -⟩ := Vm.findClass_spec hcl; exact ⟨k9, h9⟩) (fun z hz => by
      rcases hpass z hz with h | ⟨hz0, nm, hl1, hn1⟩
      · exact Or.inl h
      · obtain ⟨c6, hc6, hcl6⟩ := Cond.classLink_spec hown hl1 e.platform hpl
        obtain ⟨a8, b8, h1, h2, h3⟩ := hn1
        cases Option.some.inj (h1.symm.trans hcl)
        cases Option.some.inj (h2.symm.trans hc6)
        exact Or.inr ⟨hz0, _, hcl6, h3⟩)
  obtain ⟨g₀, hfr⟩ := X'.frames_eq
  have hcell9 : ((T.setVm vm').setFrames (.throwing q :: below)).heap[q]? = some ce := by
    show T.heap[q]? = some ce
    rw [hT]; exact hcell
  have hend : Ended ((T.setVm vm').setFrames (.throwing q :: below)) below (.threw q) := State.frames_setFrames _ (State.cur_lt_of_frames hfr)
  refine ⟨(T.setVm vm').setFrames (.throwing q :: below), ?_, .threw q, X'.here.running, hend, Or.inr ⟨q, rfl, E, ce, locs, hx _ hT (X'.ends _).1.alike, hcell9, hv, hcl, (X'.ends _).1, (X'.ends _).2.mono hc hs, hf⟩⟩
  rw [X.pushThrowing_eq]
  exact st
/-- a thing of a world lies in the heap -/
theorem vx_lt {D : va_G} {cl : List vw_C} {ws : va_W} {H1 : Heap} (h : va_P D cl ws H1) {k : Nat} {q : Nat × va_E} (hk : ws[k]? = some q) : q.1 < H1.size := (h k q hk).lt
end VXS
/-! ===== END ===== -/
/-! ===== BEGIN methods with a table of their own: called by a name, returning or throwing ===== -/
section VXH
/-! vx_backW, vx_callVX, vx_callSX, vx_callVW, vx_runVW, vx_runVX, vx_runSX, vx_ofWH follow the same proofs as their sisters above (Free/Laws.lean, Shelf42/LK1.lean); vx_outP calls Shelf42/NT130.lean (outThrough). -/
section
variable {l : Launch} {R : Room} {p : Program} {e : Env} {below : List Frame} {s : State} {sargs : Array Value} {y : MethodName} {len W9 : Nat}
theorem vx_backW {ws : List Cond} {rm : Room} {Pc : Array Value → State → Prop} {Qc : Array Value → State → Outcome → State → Prop} {XC : String → State → State → Prop} {mc ms : Nat} {free : Addr → Prop} {bytes : ByteArray} {maxL : Nat} {ret : Option FieldType} {hh : List (Nat × Nat × Nat × Nat)}
    (hM : vx_Met l y ws rm Pc Qc XC mc ms free) (hblind : FrameBlind Pc) (hrc : rm.cells = mc) (hrs : rm.slots = ms)
    (hframes : rm.frames + 1 ≤ R.frames) (hlocals : W9 + (maxL + 11) + rm.locals ≤ R.locals)
    (hws : ∀ w ∈ ws, ∀ a' U, s.WarmedH U.vm → w.before a' U = true) (hcode : Cond.codeWith y bytes maxL ret hh ∈ ws) (hinit : ∀ a' U, s.WarmedH U.vm → (Cond.initialized y.cls).before a' U = true) :
    vx_Back l R p e below s sargs y len W9 (PreOf R mc ms Pc) (PostOf Qc mc ms free) (vx_Post XC mc ms free) := by
  intro m meth c A g ig mk a X hg hsize hdg hW hn hp
  have h1 : (headSpec ws rm).pre.before a A.U = true := atoms_intro fun w hw => hws w hw _ _ X.warmed
  have h2 : (Cond.codeWith y bytes maxL ret hh).before a A.U = true := hws _ hcode _ _ X.warmed
  have h3 : (Cond.initialized y.cls).before a A.U = true := hinit _ _ X.warmed
  have h4 : A.cells + (headSpec ws rm).room.cells ≤ R.cells := by rw [show (headSpec ws rm).room.cells = mc from hrc]; exact hp.1
  have h5 : A.slots + (headSpec ws rm).room.slots ≤ R.slots := by rw [show (headSpec ws rm).room.slots = ms from hrs]; exact hp.2.1
  have hPc : Pc a (A.U.calling g mk a) := hblind _ _ _ _ hp.2.2
  obtain ⟨U, Ls, c0, s0⟩ := A
  dsimp only [Pt.U, Pt.locs, Pt.cells, Pt.slots] at h1 h2 h3 h4 h5 X hn hPc ⊢
  obtain ⟨m9, methY, cY, hn9, hmY, hcY, -, hlY, -⟩ := Cond.codeWith_spec h2
  cases Option.some.inj (hn9.symm.trans hn)
  obtain ⟨kY, hkY, -⟩ := className_of_methodNamed hn
  have hinitY : kY.init = .initialized := Cond.initialized_spec (findClass_of_methodNamed hn) hkY h3
  have h : At U g.method c below := by rw [hg]; exact X.here
  have hlocals9 : W9 + (maxL + 11) + (headSpec ws rm).room.locals ≤ R.locals := hlocals
  have happ : (headSpec ws rm).appliesLoose y e.platform (U.calling g mk a) = true :=
    Spec.appliesLoose_calling (g := g) h hdg hn hkY hinitY
      (X.room_calling (g := g) (R' := (headSpec ws rm).room) hsize hmY hcY hframes (by rw [hlY]; omega) h4 h5) h1
  obtain ⟨mid, hmid⟩ := h.above
  have hfr : (U.setTop g).frames = (.java g :: mid) ++ below := by rw [State.frames_setTop' g h.top, hmid]; rfl
  obtain ⟨o, s₂, hsteps, -, hend, hq⟩ := Steps.callFree hM p X.admits X.cas X.clock (acts := []) hfr happ hPc trivial
  have hq' : vx_Q Qc XC mc ms free a (U.calling g mk a) o s₂ := hq
  rw [State.frames_setTop' g h.top] at hend
  obtain ⟨g₀, hg0⟩ := Option.isSome_iff_exists.mp h.top
  obtain ⟨r, hr⟩ := State.topJava?_eq_some.mp hg0
  have hr' : (({ U with heap := s₂.heap, slotsUsed := s₂.slotsUsed } : State).setVm s₂.vm).frames = .java g₀ :: r := hr
  rcases hq' with ⟨hqc, L, hfe, hL⟩ | ⟨q, rfl, E, ce, L, hx, hce, hcv, hcl, hW₂, hsm, hL⟩
  · obtain ⟨⟨v, rfl⟩, hW₂, e2, q2, q3, q4, q5, q6⟩ := id hfe
    have e3 : s₂ = ({ (U.calling g mk a).setFrames s₂.frames with heap := s₂.heap, slotsUsed := s₂.slotsUsed } : State).setVm s₂.vm := by
      have : s₂ = ({ s₂ with vm := (U.calling g mk a).vm } : State).setVm s₂.vm := rfl
      rw [e2] at this
      exact this
    obtain ⟨c₂, i₂, len₂, hc₂, hd₂, hf₂⟩ := hend
    have hW' : U.WarmedH s₂.vm := hW₂
    have hcc : c₂ = c := by
      have h1 : s₂.code? g.method = U.code? g.method := by
        rw [State.code?_eq, State.code?_eq, hW'.alike.method?]
      exact Option.some.inj (hc₂.symm.trans (h1.trans h.code))
    subst hcc
    have hlen : len₂ = len := by rw [hdg] at hd₂; cases hd₂; rfl
    subst hlen
    have hs₂ : s₂ = (({ U with heap := s₂.heap, slotsUsed := s₂.slotsUsed } : State).setVm s₂.vm).setTop { g with pc := g.pc + len₂, stack := v.toList ++ g.stack } := by
      refine e3.trans ?_
      rw [hf₂, State.calling_eq h.top, State.setFrames_setFrames, State.setTop_of_frames _ hr', hr]
      rfl
    have hsame : U.sameButNew ({ U with heap := s₂.heap, slotsUsed := s₂.slotsUsed } : State) L mc ms := by
      refine ⟨?_, q2, q3, q4, q5, q6⟩
      obtain ⟨t, ht, -⟩ := State.frames_cons hr
      show ({ U with heap := s₂.heap, slotsUsed := s₂.slotsUsed } : State) = { U.setFrames U.frames with heap := s₂.heap, slotsUsed := s₂.slotsUsed }
      rw [State.setFrames_self ht]
    subst hg
    refine Or.inl ⟨v, ⟨(({ U with heap := s₂.heap, slotsUsed := s₂.slotsUsed } : State).setVm s₂.vm), Ls ++ L, c0 + mc, s0 + ms⟩,
      ⟨X.admits, X.cas, X.clock, X.frames, X.room, X.hears, X.method, X.code, (X.here.setHeapUsed s₂.heap s₂.slotsUsed).setVm hW'.alike, X.tail, State.WarmedH.trans X.warmed hW', X.limits, X.bytes, X.same.trans (hsame.setVm s.vm)⟩,
      ⟨g, mk, s₂, L, rfl, rfl, hqc, rfl, hL, rfl, rfl⟩, ?_⟩
    show Steps p.tables e below _ ((({ U with heap := s₂.heap, slotsUsed := s₂.slotsUsed } : State).setVm s₂.vm).setTop { g with pc := g.pc + len₂, stack := v.toList ++ g.stack })
    rw [← hs₂]
    exact hsteps
  · obtain ⟨e2, q2, q3, q4, q5, q6⟩ := id hsm
    have e3 : s₂ = ({ (U.calling g mk a).setFrames s₂.frames with heap := s₂.heap, slotsUsed := s₂.slotsUsed } : State).setVm s₂.vm := by
      have : s₂ = ({ s₂ with vm := (U.calling g mk a).vm } : State).setVm s₂.vm := rfl
      rw [e2] at this
      exact this
    have hf₂ : s₂.frames = .throwing q :: .java g :: U.frames.tail := hend
    have hW' : U.WarmedH s₂.vm := hW₂
    have hs₂ : s₂ = ((({ U with heap := s₂.heap, slotsUsed := s₂.slotsUsed } : State).setVm s₂.vm).setTop g).pushFrame (.throwing q) := by
      refine e3.trans ?_
      rw [hf₂, State.calling_eq h.top, State.setFrames_setFrames, State.pushFrame, State.frames_setTop _ hr', State.setTop_of_frames _ hr', State.setFrames_setFrames, hr]
      rfl
    have hsame : U.sameButNew ({ U with heap := s₂.heap, slotsUsed := s₂.slotsUsed } : State) L mc ms := by
      refine ⟨?_, q2, q3, q4, q5, q6⟩
      obtain ⟨t, ht, -⟩ := State.frames_cons hr
      show ({ U with heap := s₂.heap, slotsUsed := s₂.slotsUsed } : State) = { U.setFrames U.frames with heap := s₂.heap, slotsUsed := s₂.slotsUsed }
      rw [State.setFrames_self ht]
    subst hg
    refine Or.inr ⟨q, ⟨(({ U with heap := s₂.heap, slotsUsed := s₂.slotsUsed } : State).setVm s₂.vm), Ls ++ L, c0 + mc, s0 + ms⟩,
      ⟨X.admits, X.cas, X.clock, X.frames, X.room, X.hears, X.method, X.code, (X.here.setHeapUsed s₂.heap s₂.slotsUsed).setVm hW'.alike, X.tail, State.WarmedH.trans X.warmed hW', X.limits, X.bytes, X.same.trans (hsame.setVm s.vm)⟩,
      ⟨g, mk, s₂, L, E, ce, rfl, rfl, hx, hce, hcv, hcl, rfl, hL, rfl, rfl⟩, ?_⟩
    show Steps p.tables e below _ (((({ U with heap := s₂.heap, slotsUsed := s₂.slotsUsed } : State).setVm s₂.vm).setTop g).pushFrame (.throwing q))
    rw [← hs₂]
    exact hsteps
end
variable {p : Program} {l : Launch} {e : Env} {R : Room} {s : State} {m : MethodId} {args : Array Value} {below : List Frame} {meth : Method} {c : Code} {T : State} {H : Heap} {locs : List Loc} {cells slots : Nat}
theorem vx_callVX (X : Stand p l e R s m args below meth c T locs cells slots) (hexec : p.tables.exec = Jvm.exec) {own C : String} {index : Nat} {y : MethodName} {bytes : ByteArray} {maxL : Nat} {ret : Option FieldType} {hh : List (Nat × Nat × Nat × Nat)}
    (hown : s.vm.findClass own = some m.cls) (hlink : (Cond.methodLink own index y).before args s = true) (hinst : (Cond.instanceMethod y).before args s = true) (hsel : (Cond.selects C y y).before args s = true)
    (hcode : (Cond.codeWith y bytes maxL ret hh).before args s = true) (hy : y.cls ≠ "java/lang/invoke/MethodHandle" ∧ y.cls ≠ "java/lang/invoke/VarHandle")
    {W9 : Nat} {Pre : Pt → Array Value → Prop} {Post : Pt → Array Value → Option Value → Pt → Prop} {PostX : Pt → Array Value → Addr → Pt → Prop} (hK : vx_Back l R p e below s args y 3 W9 Pre Post PostX)
    {b : Addr} {cellB : Cell} (hcell : T.heap[b]? = some cellB) (hobj : cellB.vm.isStatics = false) (hcls : s.vm.findClass C = some cellB.cls)
    {g : JFrame} (hg : g.method = m) (hsize : g.locals.size = c.maxLocals) {argsL rest : List Value} (hlen : ∀ sig, parseMethodDescriptor y.desc = some sig → argsL.length = sig.parameters.length)
    (hstack : g.stack = argsL.reverse ++ .ref b :: rest) (hW : 2 * g.monitorRoom + (rest.map fun v => v.category).sum ≤ W9) (hdg : decode c.code g.pc = .ok (.invokevirtual index, 3))
    (hpre : ∀ vm₁, s.WarmedH vm₁ → Pre ⟨T.setVm vm₁, locs, cells, slots⟩ (Value.ref b :: argsL).toArray) :
    (∃ (v : Option Value) (vm₁ : Vm) (B : Pt), s.WarmedH vm₁ ∧ Stand p l e R s m args below meth c B.U B.locs B.cells B.slots ∧ Post ⟨T.setVm vm₁, locs, cells, slots⟩ (Value.ref b :: argsL).toArray v B ∧
      ∀ target, Steps p.tables e below (B.U.setTop { g with pc := g.pc + 3, stack := v.toList ++ rest }) target → Steps p.tables e below (T.setTop g) target) ∨
    (∃ (q : Addr) (vm₁ : Vm) (B : Pt), s.WarmedH vm₁ ∧ Stand p l e R s m args below meth c B.U B.locs B.cells B.slots ∧ PostX ⟨T.setVm vm₁, locs, cells, slots⟩ (Value.ref b :: argsL).toArray q B ∧
      Steps p.tables e below (T.setTop g) ((B.U.setTop { g with stack := rest }).pushFrame (.throwing q))) := by
  obtain ⟨mk, methM, hnamed, hmethM, hstM, habM⟩ := Cond.instanceMethod_spec hinst
  obtain ⟨m8, methM', cM, hn8, hmethM', -, -, -, -, -, -, hsigM⟩ := Cond.codeWith_spec hcode
  cases Option.some.inj (hn8.symm.trans hnamed)
  cases hmethM.symm.trans hmethM'
  obtain ⟨c2, r2, m2, q1, q2, q3, q4, kP, hkP, hkPi⟩ := Cond.selects_spec hsel
  cases hcls.symm.trans q1
  cases (State.methodFound?_of_named hnamed hy).symm.trans q2
  cases hnamed.symm.trans q3
  have hselP : selectMethod e.platform s.vm cellB.cls mk = .method mk := by rw [Launch.admits_selectMethod X.admits]; exact q4
  obtain ⟨vm₁, X₁, hstep₁⟩ := X.invokevirtual hexec hown hlink hnamed hmethM hstM hkP hkPi hy (a := b) (cell := cellB) hcell
    (fun z h => by rw [h] at hobj; cases hobj) hselP hmethM habM hkP hkPi (g := g) hg (argsL := argsL) (rest := rest) (hlen _ hsigM) hstack hdg
  rcases hK m meth c ⟨T.setVm vm₁, locs, cells, slots⟩ { g with stack := rest } (.invokevirtual index) mk (Value.ref b :: argsL).toArray X₁ hg hsize hdg hW (X₁.named hnamed) (hpre vm₁ X₁.warmed) with ⟨v, B, X', hpost, hsteps⟩ | ⟨q, B, X', hpost, hsteps⟩
  · exact Or.inl ⟨v, vm₁, B, X₁.warmed, X', hpost, fun target h => hstep₁ _ fun acts => by rw [doInvoke_state]; exact hsteps.trans h⟩
  · exact Or.inr ⟨q, vm₁, B, X₁.warmed, X', hpost, hstep₁ _ fun acts => by rw [doInvoke_state]; exact hsteps⟩
theorem vx_callSX (X : Stand p l e R s m args below meth c T locs cells slots) (hexec : p.tables.exec = Jvm.exec) {own : String} {index : Nat} {y : MethodName} {bytes : ByteArray} {maxL : Nat} {ret : Option FieldType} {hh : List (Nat × Nat × Nat × Nat)}
    (hown : s.vm.findClass own = some m.cls) (hlink : (Cond.methodLink own index y).before args s = true) (hstat : (Cond.static y).before args s = true) (hinit : (Cond.initialized y.cls).before args s = true)
    (hcode : (Cond.codeWith y bytes maxL ret hh).before args s = true) (hy : y.cls ≠ "java/lang/invoke/MethodHandle" ∧ y.cls ≠ "java/lang/invoke/VarHandle")
    {W9 : Nat} {Pre : Pt → Array Value → Prop} {Post : Pt → Array Value → Option Value → Pt → Prop} {PostX : Pt → Array Value → Addr → Pt → Prop} (hK : vx_Back l R p e below s args y 3 W9 Pre Post PostX)
    {g : JFrame} (hg : g.method = m) (hsize : g.locals.size = c.maxLocals) {argsL rest : List Value} (hlen : ∀ sig, parseMethodDescriptor y.desc = some sig → argsL.length = sig.parameters.length)
    (hstack : g.stack = argsL.reverse ++ rest) (hW : 2 * g.monitorRoom + (rest.map fun v => v.category).sum ≤ W9) (hdg : decode c.code g.pc = .ok (.invokestatic index, 3))
    (hpre : ∀ vm₁, s.WarmedH vm₁ → Pre ⟨T.setVm vm₁, locs, cells, slots⟩ argsL.toArray) :
    (∃ (v : Option Value) (vm₁ : Vm) (B : Pt), s.WarmedH vm₁ ∧ Stand p l e R s m args below meth c B.U B.locs B.cells B.slots ∧ Post ⟨T.setVm vm₁, locs, cells, slots⟩ argsL.toArray v B ∧
      ∀ target, Steps p.tables e below (B.U.setTop { g with pc := g.pc + 3, stack := v.toList ++ rest }) target → Steps p.tables e below (T.setTop g) target) ∨
    (∃ (q : Addr) (vm₁ : Vm) (B : Pt), s.WarmedH vm₁ ∧ Stand p l e R s m args below meth c B.U B.locs B.cells B.slots ∧ PostX ⟨T.setVm vm₁, locs, cells, slots⟩ argsL.toArray q B ∧
      Steps p.tables e below (T.setTop g) ((B.U.setTop { g with stack := rest }).pushFrame (.throwing q))) := by
  obtain ⟨mk, methM, cM, hnamed, hmethM, -, -, -, -, -, -, hsigM⟩ := Cond.codeWith_spec hcode
  have hstatic : methM.isStatic = true := Cond.static_spec hnamed hmethM hstat
  obtain ⟨kP, hkP, -⟩ := className_of_methodNamed hnamed
  have hinitP : kP.init = .initialized := Cond.initialized_spec (findClass_of_methodNamed hnamed) hkP hinit
  obtain ⟨vm₁, X₁, hstep₁⟩ := X.invokestatic hexec hown hlink hnamed hmethM hstatic hkP hinitP hy (g := g) hg (argsL := argsL) (rest := rest) (hlen _ hsigM) hstack hdg
  rcases hK m meth c ⟨T.setVm vm₁, locs, cells, slots⟩ { g with stack := rest } (.invokestatic index) mk argsL.toArray X₁ hg hsize hdg hW (X₁.named hnamed) (hpre vm₁ X₁.warmed) with ⟨v, B, X', hpost, hsteps⟩ | ⟨q, B, X', hpost, hsteps⟩
  · exact Or.inl ⟨v, vm₁, B, X₁.warmed, X', hpost, fun target h => hstep₁ _ fun acts => by rw [doInvoke_state]; exact hsteps.trans h⟩
  · exact Or.inr ⟨q, vm₁, B, X₁.warmed, X', hpost, hstep₁ _ fun acts => by rw [doInvoke_state]; exact hsteps⟩
theorem vx_callVW (X : Stand p l e R s m args below meth c T locs cells slots) (hexec : p.tables.exec = Jvm.exec) {own C : String} {index : Nat} {y : MethodName} {bytes : ByteArray} {maxL : Nat} {ret : Option FieldType} {hh : List (Nat × Nat × Nat × Nat)}
    (hown : s.vm.findClass own = some m.cls) (hlink : (Cond.methodLink own index y).before args s = true) (hinst : (Cond.instanceMethod y).before args s = true) (hsel : (Cond.selects C y y).before args s = true)
    (hcode : (Cond.codeWith y bytes maxL ret hh).before args s = true) (hy : y.cls ≠ "java/lang/invoke/MethodHandle" ∧ y.cls ≠ "java/lang/invoke/VarHandle")
    {W9 : Nat} {Pre : Pt → Array Value → Prop} {Post : Pt → Array Value → Option Value → Pt → Prop} (hK : Back l R p e below s args y 3 W9 Pre Post)
    {b : Addr} {cellB : Cell} (hcell : T.heap[b]? = some cellB) (hobj : cellB.vm.isStatics = false) (hcls : s.vm.findClass C = some cellB.cls)
    {g : JFrame} (hg : g.method = m) (hsize : g.locals.size = c.maxLocals) {argsL rest : List Value} (hlen : ∀ sig, parseMethodDescriptor y.desc = some sig → argsL.length = sig.parameters.length)
    (hstack : g.stack = argsL.reverse ++ .ref b :: rest) (hW : 2 * g.monitorRoom + (rest.map fun v => v.category).sum ≤ W9) (hdg : decode c.code g.pc = .ok (.invokevirtual index, 3))
    (hpre : ∀ vm₁, s.WarmedH vm₁ → Pre ⟨T.setVm vm₁, locs, cells, slots⟩ (Value.ref b :: argsL).toArray) :
    ∃ (v : Option Value) (vm₁ : Vm) (B : Pt), s.WarmedH vm₁ ∧ Stand p l e R s m args below meth c B.U B.locs B.cells B.slots ∧ Post ⟨T.setVm vm₁, locs, cells, slots⟩ (Value.ref b :: argsL).toArray v B ∧
      ∀ target, Steps p.tables e below (B.U.setTop { g with pc := g.pc + 3, stack := v.toList ++ rest }) target → Steps p.tables e below (T.setTop g) target := by
  obtain ⟨mk, methM, hnamed, hmethM, hstM, habM⟩ := Cond.instanceMethod_spec hinst
  obtain ⟨m8, methM', cM, hn8, hmethM', -, -, -, -, -, -, hsigM⟩ := Cond.codeWith_spec hcode
  cases Option.some.inj (hn8.symm.trans hnamed)
  cases hmethM.symm.trans hmethM'
  obtain ⟨c2, r2, m2, q1, q2, q3, q4, kP, hkP, hkPi⟩ := Cond.selects_spec hsel
  cases hcls.symm.trans q1
  cases (State.methodFound?_of_named hnamed hy).symm.trans q2
  cases hnamed.symm.trans q3
  have hselP : selectMethod e.platform s.vm cellB.cls mk = .method mk := by rw [Launch.admits_selectMethod X.admits]; exact q4
  obtain ⟨vm₁, X₁, hstep₁⟩ := X.invokevirtual hexec hown hlink hnamed hmethM hstM hkP hkPi hy (a := b) (cell := cellB) hcell
    (fun z h => by rw [h] at hobj; cases hobj) hselP hmethM habM hkP hkPi (g := g) hg (argsL := argsL) (rest := rest) (hlen _ hsigM) hstack hdg
  obtain ⟨v, B, X', hpost, hsteps⟩ := hK m meth c ⟨T.setVm vm₁, locs, cells, slots⟩ { g with stack := rest } (.invokevirtual index) mk (Value.ref b :: argsL).toArray X₁ hg hsize hdg hW (X₁.named hnamed) (hpre vm₁ X₁.warmed)
  exact ⟨v, vm₁, B, X₁.warmed, X', hpost, fun target h => hstep₁ _ fun acts => by rw [doInvoke_state]; exact hsteps.trans h⟩
abbrev vx_CVW (R : Room) (s : State) (args : Array Value) (own C : String) (index : Nat) (y : MethodName) (bytes : ByteArray) (maxL : Nat) (ret : Option FieldType) (hh : List (Nat × Nat × Nat × Nat)) (ws : List Cond) (rm : Room) (mc ms n : Nat) : Prop :=
  (rm.cells = mc ∧ rm.slots = ms ∧ rm.frames + 1 ≤ R.frames ∧ 8 + (maxL + 11) + rm.locals ≤ R.locals ∧ (∀ w ∈ ws, ∀ (a' : Array Value) (U : State), s.WarmedH U.vm → w.before a' U = true) ∧ Cond.codeWith y bytes maxL ret hh ∈ ws) ∧
  (Cond.codeWith y bytes maxL ret hh).before args s = true ∧ (Cond.initialized y.cls).before args s = true ∧ (y.cls ≠ "java/lang/invoke/MethodHandle" ∧ y.cls ≠ "java/lang/invoke/VarHandle") ∧
  (∀ sig, parseMethodDescriptor y.desc = some sig → n = sig.parameters.length) ∧ (Cond.methodLink own index y).before args s = true ∧ (Cond.instanceMethod y).before args s = true ∧ (Cond.selects C y y).before args s = true
theorem vx_cwVW {own C : String} {index maxL mc ms : Nat} {y : MethodName} {bytes : ByteArray} {ret : Option FieldType} {hh : List (Nat × Nat × Nat × Nat)} {Ts ws ws' : List Cond} {rm : Room} (n : Nat) (ht : ∀ w ∈ Ts, w.before args s = true) (hT : GoodIn Ts (wsV own index C y ws)) (hw : ws = Cond.codeWith y bytes maxL ret hh :: ws') (hrc : rm.cells = mc) (hrs : rm.slots = ms)
    (hd : y.cls = C ∧ y.cls ≠ "java/lang/invoke/MethodHandle" ∧ y.cls ≠ "java/lang/invoke/VarHandle" ∧ (parseMethodDescriptor y.desc).map (fun d => d.parameters.length) = some n) (hR : rm.frames + 1 ≤ R.frames ∧ 8 + (maxL + 11) + rm.locals ≤ R.locals) :
    vx_CVW R s args own C index y bytes maxL ret hh ws rm mc ms n := by
  obtain ⟨hC, hd⟩ := hd
  subst hC
  have ok : ∀ w ∈ wsV own index y.cls y ws, w.before args s = true := fun w h => ht w (hT w h).1
  have hG : GoodIn Ts ws := fun w h => hT w (by unfold wsV; exact List.mem_append_right _ h)
  have hc : Cond.codeWith y bytes maxL ret hh ∈ ws := by rw [hw]; exact List.mem_cons_self
  refine ⟨⟨hrc, hrs, hR.1, hR.2, pay_in ht hG, hc⟩, ht _ (hG _ hc).1, ok _ (by simp [wsV]), ⟨hd.1, hd.2.1⟩, fun sig h => ?_, ok _ (by simp [wsV]), ok _ (by simp [wsV]), ok _ (by simp [wsV])⟩
  have h2 := hd.2.2
  rw [h] at h2
  exact (Option.some.inj h2).symm
theorem vx_runVW {y : MethodName} {bytes cc : ByteArray} {maxL nL mc ms n index : Nat} {ret : Option FieldType} {hh : List (Nat × Nat × Nat × Nat)} {ws : List Cond} {rm : Room} {Pc : Array Value → State → Prop} {Qc : Array Value → State → Outcome → State → Prop} {free : Addr → Prop} {Ts : List Cond} {own C : String} {b : Addr} {As rest : List Value} {g : JFrame}
    (S : CallFix p m c cc nL s args Ts own) (hM : Met l y ws rm Pc Qc mc ms free) (cw : vx_CVW R s args own C index y bytes maxL ret hh ws rm mc ms n) (hp : PreV s H C b Pc As)
    (hg : g.method = m) (hn : As.length = n) (hsize : g.locals.size = nL) (hstack : g.stack = As.reverse ++ .ref b :: rest) (hW : 2 * g.monitorRoom + (rest.map fun v => v.category).sum ≤ 8) (hdg : decode cc g.pc = .ok (.invokevirtual index, 3)) (hf : cells + mc ≤ R.cells ∧ slots + ms ≤ R.slots) :
    va_Run p l e R s m args below meth c H locs cells slots mc ms g rest (Qc (Value.ref b :: As).toArray) free := by
  obtain ⟨⟨hrc, hrs, hfr, hlo, hws, hcw⟩, hcode, hini, hy, hlen, hl, hin, hse⟩ := cw
  have hK : Back l R p e below s args y 3 8 (PreOf R mc ms Pc) (PostOf Qc mc ms free) := va_backW (hh := hh) (bytes := bytes) (maxL := maxL) (ret := ret) hM hp.1 hrc hrs hfr hlo hws hcw (fun a' U hW => word_at hW (Or.inl (by first | rfl | simp [Cond.onTables, Cond.keeps, Cond.steady])) hini)
  obtain ⟨hx, hb, hml, ho, -⟩ := S
  obtain ⟨-, ⟨cellB, hcB, hoB, hclB⟩, hPc⟩ := hp
  intro T hT X
  obtain ⟨v, vm₁, ⟨U', l2, c2, s2⟩, hW₁, X', ⟨g', mk, t, L, e1, e2, hq, h1, hL, h2, h3⟩, st⟩ := vx_callVW X hx (C := C) (hh := hh) (bytes := bytes) (maxL := maxL) (ret := ret) ho hl hin hse hcode hy hK (by rw [hT]; exact hcB) hoB hclB hg (hsize.trans hml.symm) (argsL := As) (rest := rest) (fun sig h => hn.trans (hlen sig h)) hstack hW (by rw [hb]; exact hdg)
    (fun vm₁ hW₁ => ⟨hf.1, hf.2, hPc (T.setVm vm₁) hT hW₁⟩)
  dsimp only [Pt.U, Pt.locs, Pt.cells, Pt.slots] at X' e1 e2 h1 h2 h3 st
  subst h1; subst h2; subst h3
  exact ⟨v, (T.setVm vm₁).calling g' mk (Value.ref b :: As).toArray, t, U', L, hT, X', hL, e1, e2, hq, st⟩
section
variable {y : MethodName} {bytes cc : ByteArray} {maxL nL mc ms n index : Nat} {ret : Option FieldType} {ws : List Cond} {rm : Room} {Pc : Array Value → State → Prop} {Qc : Array Value → State → Outcome → State → Prop} {XC : String → State → State → Prop} {free : Addr → Prop} {Ts : List Cond} {own C : String} {b : Addr} {As rest : List Value} {g : JFrame}
theorem vx_runVX {hh : List (Nat × Nat × Nat × Nat)} (S : CallFix p m c cc nL s args Ts own) (hM : vx_Met l y ws rm Pc Qc XC mc ms free) (cw : vx_CVW R s args own C index y bytes maxL ret hh ws rm mc ms n) (hp : PreV s H C b Pc As)
    (hg : g.method = m) (hn : As.length = n) (hsize : g.locals.size = nL) (hstack : g.stack = As.reverse ++ .ref b :: rest) (hW : 2 * g.monitorRoom + (rest.map fun v => v.category).sum ≤ 8) (hdg : decode cc g.pc = .ok (.invokevirtual index, 3)) (hf : cells + mc ≤ R.cells ∧ slots + ms ≤ R.slots) :
    vx_Run p l e R s m args below meth c H locs cells slots mc ms g rest (Qc (Value.ref b :: As).toArray) XC free := by
  obtain ⟨⟨hrc, hrs, hfr, hlo, hws, hcw⟩, hcode, hini, hy, hlen, hl, hin, hse⟩ := cw
  have hK : vx_Back l R p e below s args y 3 8 (PreOf R mc ms Pc) (PostOf Qc mc ms free) (vx_Post XC mc ms free) := vx_backW (hh := hh) (bytes := bytes) (maxL := maxL) (ret := ret) hM hp.1 hrc hrs hfr hlo hws hcw (fun a' U hW => word_at hW (Or.inl (by first | rfl | simp [Cond.onTables, Cond.keeps, Cond.steady])) hini)
  obtain ⟨hx, hb, hml, ho, -⟩ := S
  obtain ⟨-, ⟨cellB, hcB, hoB, hclB⟩, hPc⟩ := hp
  intro T hT X
  rcases vx_callVX X hx (C := C) (hh := hh) (bytes := bytes) (maxL := maxL) (ret := ret) ho hl hin hse hcode hy hK (by rw [hT]; exact hcB) hoB hclB hg (hsize.trans hml.symm) (argsL := As) (rest := rest) (fun sig h => hn.trans (hlen sig h)) hstack hW (by rw [hb]; exact hdg)
    (fun vm₁ hW₁ => ⟨hf.1, hf.2, hPc (T.setVm vm₁) hT hW₁⟩) with ⟨v, vm₁, ⟨U', l2, c2, s2⟩, hW₁, X', ⟨g', mk, t, L, e1, e2, hq, h1, hL, h2, h3⟩, st⟩ | ⟨q, vm₁, ⟨U', l2, c2, s2⟩, hW₁, X', ⟨g', mk, t, L, E, ce, e1, e2, hq, hce, hcv, hcl, h1, hL, h2, h3⟩, st⟩
  · dsimp only [Pt.U, Pt.locs, Pt.cells, Pt.slots] at X' e1 e2 h1 h2 h3 st
    subst h1; subst h2; subst h3
    exact Or.inl ⟨v, (T.setVm vm₁).calling g' mk (Value.ref b :: As).toArray, t, U', L, hT, X', hL, e1, e2, hq, st⟩
  · dsimp only [Pt.U, Pt.locs, Pt.cells, Pt.slots] at X' e1 e2 h1 h2 h3 st hcl
    subst h1; subst h2; subst h3
    exact Or.inr ⟨q, (T.setVm vm₁).calling g' mk (Value.ref b :: As).toArray, t, U', L, E, ce, hT, X', hL, e1, e2, hq, hce, hcv, vx_cls hW₁ hcl, st⟩
theorem vx_runSX {hh : List (Nat × Nat × Nat × Nat)} (S : CallFix p m c cc nL s args Ts own) (hM : vx_Met l y ws rm Pc Qc XC mc ms free) (cw : vx_CSW R s args own index y bytes maxL ret hh ws rm mc ms n) (hp : PreS s H Pc As)
    (hg : g.method = m) (hn : As.length = n) (hsize : g.locals.size = nL) (hstack : g.stack = As.reverse ++ rest) (hW : 2 * g.monitorRoom + (rest.map fun v => v.category).sum ≤ 8) (hdg : decode cc g.pc = .ok (.invokestatic index, 3)) (hf : cells + mc ≤ R.cells ∧ slots + ms ≤ R.slots) :
    vx_Run p l e R s m args below meth c H locs cells slots mc ms g rest (Qc As.toArray) XC free := by
  obtain ⟨⟨hrc, hrs, hfr, hlo, hws, hcw⟩, hcode, hini, hy, hlen, hl, hstt⟩ := cw
  have hK : vx_Back l R p e below s args y 3 8 (PreOf R mc ms Pc) (PostOf Qc mc ms free) (vx_Post XC mc ms free) := vx_backW (hh := hh) (bytes := bytes) (maxL := maxL) (ret := ret) hM hp.1 hrc hrs hfr hlo hws hcw (fun a' U hW => word_at hW (Or.inl (by first | rfl | simp [Cond.onTables, Cond.keeps, Cond.steady])) hini)
  obtain ⟨hx, hb, hml, ho, -⟩ := S
  intro T hT X
  rcases vx_callSX X hx (hh := hh) (bytes := bytes) (maxL := maxL) (ret := ret) ho hl hstt hini hcode hy hK hg (hsize.trans hml.symm) (argsL := As) (rest := rest) (fun sig h => hn.trans (hlen sig h)) hstack hW (by rw [hb]; exact hdg)
    (fun vm₁ hW₁ => ⟨hf.1, hf.2, hp.2 (T.setVm vm₁) hT hW₁⟩) with ⟨v, vm₁, ⟨U', l2, c2, s2⟩, hW₁, X', ⟨g', mk, t, L, e1, e2, hq, h1, hL, h2, h3⟩, st⟩ | ⟨q, vm₁, ⟨U', l2, c2, s2⟩, hW₁, X', ⟨g', mk, t, L, E, ce, e1, e2, hq, hce, hcv, hcl, h1, hL, h2, h3⟩, st⟩
  · dsimp only [Pt.U, Pt.locs, Pt.cells, Pt.slots] at X' e1 e2 h1 h2 h3 st
    subst h1; subst h2; subst h3
    exact Or.inl ⟨v, (T.setVm vm₁).calling g' mk As.toArray, t, U', L, hT, X', hL, e1, e2, hq, st⟩
  · dsimp only [Pt.U, Pt.locs, Pt.cells, Pt.slots] at X' e1 e2 h1 h2 h3 st hcl
    subst h1; subst h2; subst h3
    exact Or.inr ⟨q, (T.setVm vm₁).calling g' mk As.toArray, t, U', L, E, ce, hT, X', hL, e1, e2, hq, hce, hcv, vx_cls hW₁ hcl, st⟩
end
end VXH
theorem vx_ofWH {l : Launch} {y : MethodName} {ws ws' : List Cond} {rm : Room} {Pc : Array Value → State → Prop} {Qc : Array Value → State → Outcome → State → Prop} {XC : String → State → State → Prop} {mc ms : Nat} {free : Addr → Prop} {cc : ByteArray} {maxL : Nat} {ret : Option FieldType} {hh : List (Nat × Nat × Nat × Nat)}
    (hy : plainName y.cls = true) (hw : ws = Cond.codeWith y cc maxL ret hh :: ws')
    (body : ∀ p e s m args below meth c s₁, BodyLoose p l y (headSpec ws rm) cc maxL ret e s m args below meth c s₁ → c.maxLocals = maxL → Pc args s →
      W p l e (headSpec ws rm).room s m args below meth c s.heap [] 0 0 (vx_MQ below Qc XC args s mc ms free) (entryFrame m args maxL)) : vx_Met l y ws rm Pc Qc XC mc ms free := by
  refine MetFree.of_bodyS (code := cc) (maxLocals := maxL) (ret := ret) hy ?_ ?_
  · intro args s m h hn
    obtain ⟨m9, meth, c, hn9, h1, h2, h3, h4, -, h5, h6, -⟩ := Cond.codeWith_spec (atoms_spec (ws := ws) h _ (by rw [hw]; exact List.mem_cons_self))
    cases hn.symm.trans hn9
    exact ⟨meth, c, h1, h2, h3, h4, h5, h6⟩
  · intro p e s m args below meth c s₁ B hml hP _
    have hh0 : s₁.heap = s.heap := by rw [B.state]; rfl
    obtain ⟨t, a1, o, b1, b2, b3⟩ := body p e s m args below meth c s₁ B hml hP s₁ hh0 (Stand.of_body B)
    exact ⟨t, o, a1, b1, b2, b3⟩
/-! ===== END ===== -/

/-! ===== BEGIN printed: names, fields, word lists, decode rows ===== -/
def RX0 : String := "EquityRelease"
def TX0 : u_T := fun k => match k with
  | 0 => ("EquityRelease", "today", "I", false)
  | 1 => ("EquityRelease", "rateNow", "I", false)
  | 2 => ("EquityRelease", "lifeCount", "I", false)
  | 3 => ("EquityRelease", "firstAges", "[I", true)
  | 4 => ("EquityRelease", "endDays", "[I", true)
  | 5 => ("EquityRelease", "beginDay", "I", false)
  | 6 => ("EquityRelease", "houseWorth", "I", false)
  | 7 => ("EquityRelease", "roomLeft", "I", false)
  | 8 => ("EquityRelease", "drawingCount", "I", false)
  | 9 => ("EquityRelease", "drawnAmounts", "[I", true)
  | 10 => ("EquityRelease", "drawnDays", "[I", true)
  | 11 => ("EquityRelease", "drawnRates", "[I", true)
  | 12 => ("EquityRelease", "balances", "[J", true)
  | 13 => ("EquityRelease", "paymentCount", "I", false)
  | 14 => ("EquityRelease", "paidDays", "[I", true)
  | 15 => ("EquityRelease", "paidByTenth", "[I", true)
  | _ => ("EquityRelease", "takenParts", "[J", true)
def tyX0 : Nat → FieldType := fun k => match k with
  | 0 => .int
  | 1 => .int
  | 2 => .int
  | 3 => .array .int
  | 4 => .array .int
  | 5 => .int
  | 6 => .int
  | 7 => .int
  | 8 => .int
  | 9 => .array .int
  | 10 => .array .int
  | 11 => .array .int
  | 12 => .array .long
  | 13 => .int
  | 14 => .array .int
  | 15 => .array .int
  | _ => .array .long
abbrev wsX00 : List Cond := u_ws RX0 TX0 17
theorem nmX0 : ∀ a, a < 17 → ∀ b, b < 17 → a ≠ b → (TX0 a).2.1 ≠ (TX0 b).2.1 := by decide +kernel
theorem tyX0_ok : ∀ k, k < 17 → parseFieldDescriptor (TX0 k).2.2.1 = some (tyX0 k) := by decide +kernel
abbrev cX0_init : ByteArray := prog_1_method_1_code
def yX0_init : MethodName := ⟨RX0, "<init>", "()V"⟩
abbrev cX0_begin : ByteArray := prog_1_method_2_code
def yX0_begin : MethodName := ⟨RX0, "begin", "(IIII)I"⟩
abbrev cX0_setRate : ByteArray := prog_1_method_3_code
def yX0_setRate : MethodName := ⟨RX0, "setRate", "(I)I"⟩
abbrev cX0_draw : ByteArray := prog_1_method_4_code
def yX0_draw : MethodName := ⟨RX0, "draw", "(I)I"⟩
abbrev cX0_pay : ByteArray := prog_1_method_5_code
def yX0_pay : MethodName := ⟨RX0, "pay", "(I)I"⟩
abbrev cX0_pass : ByteArray := prog_1_method_6_code
def yX0_pass : MethodName := ⟨RX0, "pass", "(I)I"⟩
abbrev cX0_end : ByteArray := prog_1_method_7_code
def yX0_end : MethodName := ⟨RX0, "end", "(I)I"⟩
abbrev cX0_value : ByteArray := prog_1_method_8_code
def yX0_value : MethodName := ⟨RX0, "value", "(I)I"⟩
abbrev cX0_move : ByteArray := prog_1_method_9_code
def yX0_move : MethodName := ⟨RX0, "move", "(I)J"⟩
abbrev cX0_day : ByteArray := prog_1_method_10_code
def yX0_day : MethodName := ⟨RX0, "day", "()I"⟩
abbrev cX0_hasEnded : ByteArray := prog_1_method_11_code
def yX0_hasEnded : MethodName := ⟨RX0, "hasEnded", "()Z"⟩
abbrev cX0_age : ByteArray := prog_1_method_12_code
def yX0_age : MethodName := ⟨RX0, "age", "()I"⟩
abbrev cX0_worth : ByteArray := prog_1_method_13_code
def yX0_worth : MethodName := ⟨RX0, "worth", "()I"⟩
abbrev cX0_room : ByteArray := prog_1_method_14_code
def yX0_room : MethodName := ⟨RX0, "room", "()I"⟩
abbrev cX0_drawings : ByteArray := prog_1_method_15_code
def yX0_drawings : MethodName := ⟨RX0, "drawings", "()I"⟩
abbrev cX0_balance : ByteArray := prog_1_method_16_code
def yX0_balance : MethodName := ⟨RX0, "balance", "(I)J"⟩
abbrev cX0_debt : ByteArray := prog_1_method_17_code
def yX0_debt : MethodName := ⟨RX0, "debt", "()J"⟩
abbrev cX0_debtAnew : ByteArray := prog_1_method_18_code
def yX0_debtAnew : MethodName := ⟨RX0, "debtAnew", "()J"⟩
abbrev cX0_owed : ByteArray := prog_1_method_19_code
def yX0_owed : MethodName := ⟨RX0, "owed", "()J"⟩
abbrev cX0_spared : ByteArray := prog_1_method_20_code
def yX0_spared : MethodName := ⟨RX0, "spared", "()J"⟩
abbrev cX0_allowance : ByteArray := prog_1_method_21_code
def yX0_allowance : MethodName := ⟨RX0, "allowance", "()I"⟩
abbrev cX0_charge : ByteArray := prog_1_method_22_code
def yX0_charge : MethodName := ⟨RX0, "charge", "(I)I"⟩
abbrev cX0_requireWithin : ByteArray := prog_1_method_23_code
def yX0_requireWithin : MethodName := ⟨RX0, "requireWithin", "(III)V"⟩
abbrev cX0_requireRunning : ByteArray := prog_1_method_24_code
def yX0_requireRunning : MethodName := ⟨RX0, "requireRunning", "()V"⟩
abbrev cX0_isBegun : ByteArray := prog_1_method_25_code
def yX0_isBegun : MethodName := ⟨RX0, "isBegun", "()Z"⟩
abbrev cX0_livesLeft : ByteArray := prog_1_method_26_code
def yX0_livesLeft : MethodName := ⟨RX0, "livesLeft", "()I"⟩
abbrev cX0_lastEndDay : ByteArray := prog_1_method_27_code
def yX0_lastEndDay : MethodName := ⟨RX0, "lastEndDay", "()I"⟩
abbrev cX0_addLife : ByteArray := prog_1_method_28_code
def yX0_addLife : MethodName := ⟨RX0, "addLife", "(I)V"⟩
abbrev cX0_addDrawing : ByteArray := prog_1_method_29_code
def yX0_addDrawing : MethodName := ⟨RX0, "addDrawing", "(I)V"⟩
abbrev cX0_takeBack : ByteArray := prog_1_method_30_code
def yX0_takeBack : MethodName := ⟨RX0, "takeBack", "(JI)V"⟩
abbrev cX0_greatestLoan : ByteArray := prog_1_method_31_code
def yX0_greatestLoan : MethodName := ⟨RX0, "greatestLoan", "(II)I"⟩
abbrev cX0_rolledUp : ByteArray := prog_1_method_32_code
def yX0_rolledUp : MethodName := ⟨RX0, "rolledUp", "(JII)J"⟩
abbrev cX0_balanceAnew : ByteArray := prog_1_method_33_code
def yX0_balanceAnew : MethodName := ⟨RX0, "balanceAnew", "(I)J"⟩
abbrev cX0_wholeAmount : ByteArray := prog_1_method_34_code
def yX0_wholeAmount : MethodName := ⟨RX0, "wholeAmount", "(J)J"⟩
abbrev cX0_yearOfLoan : ByteArray := prog_1_method_35_code
def yX0_yearOfLoan : MethodName := ⟨RX0, "yearOfLoan", "(I)I"⟩
abbrev cX0_paidThisYear : ByteArray := prog_1_method_36_code
def yX0_paidThisYear : MethodName := ⟨RX0, "paidThisYear", "()I"⟩
abbrev cX0_isWaived : ByteArray := prog_1_method_37_code
def yX0_isWaived : MethodName := ⟨RX0, "isWaived", "()Z"⟩
abbrev cX0_chargeFor : ByteArray := prog_1_method_38_code
def yX0_chargeFor : MethodName := ⟨RX0, "chargeFor", "(I)I"⟩
def RX1 : String := "EquityReleaseModel"
def TX1 : u_T := fun k => match k with
  | _ => ("", "", "", false)
def tyX1 : Nat → FieldType := fun k => match k with
  | _ => .int
abbrev wsX10 : List Cond := u_ws RX1 TX1 0
theorem nmX1 : ∀ a, a < 0 → ∀ b, b < 0 → a ≠ b → (TX1 a).2.1 ≠ (TX1 b).2.1 := by decide +kernel
theorem tyX1_ok : ∀ k, k < 0 → parseFieldDescriptor (TX1 k).2.2.1 = some (tyX1 k) := by decide +kernel
def RJ9 : String := "java/lang/Math"
def TJ9 : u_T := fun k => match k with
  | _ => ("", "", "", false)
def tyJ9 : Nat → FieldType := fun k => match k with
  | _ => .int
abbrev wsJ90 : List Cond := u_ws RJ9 TJ9 0
theorem nmJ9 : ∀ a, a < 0 → ∀ b, b < 0 → a ≠ b → (TJ9 a).2.1 ≠ (TJ9 b).2.1 := by decide +kernel
theorem tyJ9_ok : ∀ k, k < 0 → parseFieldDescriptor (TJ9 k).2.2.1 = some (tyJ9 k) := by decide +kernel
abbrev cJ9_max_7cf53 : ByteArray := prog_8_method_65_code
def yJ9_max_7cf53 : MethodName := ⟨RJ9, "max", "(II)I"⟩
abbrev cJ9_max_f86c9 : ByteArray := prog_8_method_66_code
def yJ9_max_f86c9 : MethodName := ⟨RJ9, "max", "(JJ)J"⟩
abbrev cJ9_min_7cf53 : ByteArray := prog_8_method_69_code
def yJ9_min_7cf53 : MethodName := ⟨RJ9, "min", "(II)I"⟩
abbrev cJ9_min_f86c9 : ByteArray := prog_8_method_70_code
def yJ9_min_f86c9 : MethodName := ⟨RJ9, "min", "(JJ)J"⟩
def RJ0 : String := "java/lang/String"
def TJ0 : u_T := fun k => match k with
  | _ => ("", "", "", false)
def tyJ0 : Nat → FieldType := fun k => match k with
  | _ => .int
abbrev wsJ00 : List Cond := u_ws RJ0 TJ0 0
theorem nmJ0 : ∀ a, a < 0 → ∀ b, b < 0 → a ≠ b → (TJ0 a).2.1 ≠ (TJ0 b).2.1 := by decide +kernel
theorem tyJ0_ok : ∀ k, k < 0 → parseFieldDescriptor (TJ0 k).2.2.1 = some (tyJ0 k) := by decide +kernel
def RL : String := "EquityReleaseLaw"
abbrev cL_low : ByteArray := method_2_code
def yL_low : MethodName := ⟨RL, "low", "(II)I"⟩
abbrev cL_cell : ByteArray := method_3_code
def yL_cell : MethodName := ⟨RL, "cell", "([II)I"⟩
abbrev cL_begin : ByteArray := method_4_code
def yL_begin : MethodName := ⟨RL, "begin", "(LEquityRelease;IIII)I"⟩
abbrev cL_draw : ByteArray := method_5_code
def yL_draw : MethodName := ⟨RL, "draw", "(LEquityRelease;I)I"⟩
abbrev cL_pay : ByteArray := method_6_code
def yL_pay : MethodName := ⟨RL, "pay", "(LEquityRelease;I)I"⟩
abbrev cL_move : ByteArray := method_7_code
def yL_move : MethodName := ⟨RL, "move", "(LEquityRelease;I)J"⟩
abbrev cL_pass : ByteArray := method_8_code
def yL_pass : MethodName := ⟨RL, "pass", "(LEquityRelease;I)I"⟩
abbrev cL_charge : ByteArray := method_9_code
def yL_charge : MethodName := ⟨RL, "charge", "(LEquityRelease;I)I"⟩
abbrev cL_holds : ByteArray := method_10_code
def yL_holds : MethodName := ⟨RL, "holds", "(LEquityRelease;)Z"⟩
abbrev cL_loan : ByteArray := method_11_code
def yL_loan : MethodName := ⟨RL, "loan", "(LEquityRelease;II)Z"⟩
abbrev cL_law : ByteArray := code
def yL_law : MethodName := ⟨RL, "law", "([I)Z"⟩
def wsX0_init : List Cond := .code yX0_init cX0_init 1 none :: ([.methodLink RX0 1 objectInit, .instanceMethod objectInit, .code objectInit ⟨#[0xb1]⟩ 1 none, .fieldLink RX0 9 "EquityRelease" "rateNow" "I", .arrayClass .int, .fieldLink RX0 13 "EquityRelease" "firstAges" "[I", .fieldLink RX0 17 "EquityRelease" "endDays" "[I", .fieldLink RX0 20 "EquityRelease" "drawnAmounts" "[I", .fieldLink RX0 23 "EquityRelease" "drawnDays" "[I", .fieldLink RX0 26 "EquityRelease" "drawnRates" "[I", .arrayClass .long, .fieldLink RX0 29 "EquityRelease" "balances" "[J", .fieldLink RX0 33 "EquityRelease" "paidDays" "[I", .fieldLink RX0 36 "EquityRelease" "paidByTenth" "[I", .fieldLink RX0 39 "EquityRelease" "takenParts" "[J"] ++ wsX00)
def wsX0_requireWithin : List Cond := .code yX0_requireWithin cX0_requireWithin 3 none :: ([.classLink RX0 165 "java/lang/IllegalArgumentException", .initialized "java/lang/IllegalArgumentException"] ++ (vx_atS RX0 169 "java/lang/IllegalArgumentException" ["java/lang/RuntimeException", "java/lang/Exception"]).filter goodWord)
def wsX0_greatestLoan : List Cond := .code yX0_greatestLoan cX0_greatestLoan 3 (some .int) :: ([.methodLink RX0 47 Lib.Math.min.name, .static Lib.Math.min.name, .initialized "java/lang/Math", .code Lib.Math.min.name Lib.Math.min.code 2 (some .int)])
def wsX0_isBegun : List Cond := .code yX0_isBegun cX0_isBegun 1 (some .boolean) :: ([.fieldLink RX0 120 "EquityRelease" "lifeCount" "I"] ++ wsX00)
def wsX0_addLife : List Cond := .code yX0_addLife cX0_addLife 2 none :: ([.fieldLink RX0 120 "EquityRelease" "lifeCount" "I", .fieldLink RX0 13 "EquityRelease" "firstAges" "[I", .fieldLink RX0 17 "EquityRelease" "endDays" "[I"] ++ wsX00)
def wsX0_addDrawing : List Cond := .code yX0_addDrawing cX0_addDrawing 2 none :: ([.fieldLink RX0 89 "EquityRelease" "drawingCount" "I", .fieldLink RX0 20 "EquityRelease" "drawnAmounts" "[I", .fieldLink RX0 23 "EquityRelease" "drawnDays" "[I", .fieldLink RX0 53 "EquityRelease" "today" "I", .fieldLink RX0 26 "EquityRelease" "drawnRates" "[I", .fieldLink RX0 9 "EquityRelease" "rateNow" "I", .fieldLink RX0 29 "EquityRelease" "balances" "[J", .constantLong RX0 172 (10000), .fieldLink RX0 80 "EquityRelease" "roomLeft" "I"] ++ wsX00)
def wsX0_begin_r1 : List Cond := [Cond.classLink RX0 63 "java/lang/IllegalStateException", Cond.initialized "java/lang/IllegalStateException", Cond.constant RX0 42 (10000000), Cond.methodLink RX0 47 Lib.Math.min.name, Cond.static Lib.Math.min.name, Cond.initialized "java/lang/Math", Cond.code Lib.Math.min.name Lib.Math.min.code 2 (some .int), Cond.fieldLink RX0 53 "EquityRelease" "today" "I", Cond.fieldLink RX0 74 "EquityRelease" "beginDay" "I", Cond.fieldLink RX0 77 "EquityRelease" "houseWorth" "I", Cond.fieldLink RX0 80 "EquityRelease" "roomLeft" "I", Cond.methodLink RX0 43 yX0_requireWithin, Cond.static yX0_requireWithin, Cond.initialized RX0, Cond.code yX0_requireWithin cX0_requireWithin 3 none, Cond.classLink RX0 165 "java/lang/IllegalArgumentException", Cond.initialized "java/lang/IllegalArgumentException", Cond.methodLink RX0 56 yX0_greatestLoan, Cond.static yX0_greatestLoan, Cond.code yX0_greatestLoan cX0_greatestLoan 3 (some .int), Cond.methodLink RX0 59 yX0_isBegun, Cond.instanceMethod yX0_isBegun, Cond.selects RX0 yX0_isBegun yX0_isBegun, Cond.code yX0_isBegun cX0_isBegun 1 (some .boolean)]
def wsX0_begin_r2 : List Cond := [Cond.fieldLink RX0 120 "EquityRelease" "lifeCount" "I", Cond.methodLink RX0 70 yX0_addLife, Cond.instanceMethod yX0_addLife, Cond.selects RX0 yX0_addLife yX0_addLife, Cond.code yX0_addLife cX0_addLife 2 none, Cond.fieldLink RX0 13 "EquityRelease" "firstAges" "[I", Cond.fieldLink RX0 17 "EquityRelease" "endDays" "[I", Cond.methodLink RX0 83 yX0_addDrawing, Cond.instanceMethod yX0_addDrawing, Cond.selects RX0 yX0_addDrawing yX0_addDrawing, Cond.code yX0_addDrawing cX0_addDrawing 2 none, Cond.fieldLink RX0 89 "EquityRelease" "drawingCount" "I", Cond.fieldLink RX0 20 "EquityRelease" "drawnAmounts" "[I", Cond.fieldLink RX0 23 "EquityRelease" "drawnDays" "[I", Cond.fieldLink RX0 26 "EquityRelease" "drawnRates" "[I", Cond.fieldLink RX0 9 "EquityRelease" "rateNow" "I", Cond.fieldLink RX0 29 "EquityRelease" "balances" "[J", Cond.constantLong RX0 172 (10000)]
def wsX0_begin : List Cond := .code yX0_begin cX0_begin 7 (some .int) :: ((wsX0_begin_r1 ++ wsX0_begin_r2) ++ wsX00 ++ (vx_atS RX0 67 "java/lang/IllegalStateException" ["java/lang/RuntimeException", "java/lang/Exception"]).filter goodWord ++ (vx_atS RX0 169 "java/lang/IllegalArgumentException" ["java/lang/RuntimeException", "java/lang/Exception"]).filter goodWord)
def wsX0_setRate : List Cond := .code yX0_setRate cX0_setRate 3 (some .int) :: ([.fieldLink RX0 9 "EquityRelease" "rateNow" "I", .methodLink RX0 43 yX0_requireWithin, .static yX0_requireWithin, .initialized RX0, .code yX0_requireWithin cX0_requireWithin 3 none, .classLink RX0 165 "java/lang/IllegalArgumentException", .initialized "java/lang/IllegalArgumentException"] ++ wsX00 ++ (vx_atS RX0 169 "java/lang/IllegalArgumentException" ["java/lang/RuntimeException", "java/lang/Exception"]).filter goodWord)
def wsX0_livesLeft : List Cond := .code yX0_livesLeft cX0_livesLeft 3 (some .int) :: ([.fieldLink RX0 120 "EquityRelease" "lifeCount" "I", .fieldLink RX0 17 "EquityRelease" "endDays" "[I"] ++ wsX00)
def wsX0_hasEnded : List Cond := .code yX0_hasEnded cX0_hasEnded 1 (some .boolean) :: ([.methodLink RX0 59 yX0_isBegun, .instanceMethod yX0_isBegun, .selects RX0 yX0_isBegun yX0_isBegun, .initialized RX0, .code yX0_isBegun cX0_isBegun 1 (some .boolean), .fieldLink RX0 120 "EquityRelease" "lifeCount" "I", .methodLink RX0 130 yX0_livesLeft, .instanceMethod yX0_livesLeft, .selects RX0 yX0_livesLeft yX0_livesLeft, .code yX0_livesLeft cX0_livesLeft 3 (some .int), .fieldLink RX0 17 "EquityRelease" "endDays" "[I"] ++ wsX00)
def wsX0_requireRunning : List Cond := .code yX0_requireRunning cX0_requireRunning 1 none :: ([.classLink RX0 63 "java/lang/IllegalStateException", .initialized "java/lang/IllegalStateException", .methodLink RX0 59 yX0_isBegun, .instanceMethod yX0_isBegun, .selects RX0 yX0_isBegun yX0_isBegun, .initialized RX0, .code yX0_isBegun cX0_isBegun 1 (some .boolean), .fieldLink RX0 120 "EquityRelease" "lifeCount" "I", .methodLink RX0 113 yX0_hasEnded, .instanceMethod yX0_hasEnded, .selects RX0 yX0_hasEnded yX0_hasEnded, .code yX0_hasEnded cX0_hasEnded 1 (some .boolean), .methodLink RX0 130 yX0_livesLeft, .instanceMethod yX0_livesLeft, .selects RX0 yX0_livesLeft yX0_livesLeft, .code yX0_livesLeft cX0_livesLeft 3 (some .int), .fieldLink RX0 17 "EquityRelease" "endDays" "[I"] ++ wsX00 ++ (vx_atS RX0 67 "java/lang/IllegalStateException" ["java/lang/RuntimeException", "java/lang/Exception"]).filter goodWord)
def wsX0_draw_r1 : List Cond := [Cond.classLink RX0 63 "java/lang/IllegalStateException", Cond.initialized "java/lang/IllegalStateException", Cond.constant RX0 42 (10000000), Cond.fieldLink RX0 80 "EquityRelease" "roomLeft" "I", Cond.fieldLink RX0 89 "EquityRelease" "drawingCount" "I", Cond.methodLink RX0 43 yX0_requireWithin, Cond.static yX0_requireWithin, Cond.initialized RX0, Cond.code yX0_requireWithin cX0_requireWithin 3 none, Cond.classLink RX0 165 "java/lang/IllegalArgumentException", Cond.initialized "java/lang/IllegalArgumentException", Cond.methodLink RX0 86 yX0_requireRunning, Cond.instanceMethod yX0_requireRunning, Cond.selects RX0 yX0_requireRunning yX0_requireRunning, Cond.code yX0_requireRunning cX0_requireRunning 1 none, Cond.methodLink RX0 59 yX0_isBegun, Cond.instanceMethod yX0_isBegun, Cond.selects RX0 yX0_isBegun yX0_isBegun, Cond.code yX0_isBegun cX0_isBegun 1 (some .boolean), Cond.fieldLink RX0 120 "EquityRelease" "lifeCount" "I", Cond.methodLink RX0 113 yX0_hasEnded, Cond.instanceMethod yX0_hasEnded, Cond.selects RX0 yX0_hasEnded yX0_hasEnded, Cond.code yX0_hasEnded cX0_hasEnded 1 (some .boolean)]
def wsX0_draw_r2 : List Cond := [Cond.methodLink RX0 130 yX0_livesLeft, Cond.instanceMethod yX0_livesLeft, Cond.selects RX0 yX0_livesLeft yX0_livesLeft, Cond.code yX0_livesLeft cX0_livesLeft 3 (some .int), Cond.fieldLink RX0 17 "EquityRelease" "endDays" "[I", Cond.methodLink RX0 83 yX0_addDrawing, Cond.instanceMethod yX0_addDrawing, Cond.selects RX0 yX0_addDrawing yX0_addDrawing, Cond.code yX0_addDrawing cX0_addDrawing 2 none, Cond.fieldLink RX0 20 "EquityRelease" "drawnAmounts" "[I", Cond.fieldLink RX0 23 "EquityRelease" "drawnDays" "[I", Cond.fieldLink RX0 53 "EquityRelease" "today" "I", Cond.fieldLink RX0 26 "EquityRelease" "drawnRates" "[I", Cond.fieldLink RX0 9 "EquityRelease" "rateNow" "I", Cond.fieldLink RX0 29 "EquityRelease" "balances" "[J", Cond.constantLong RX0 172 (10000)]
def wsX0_draw : List Cond := .code yX0_draw cX0_draw 2 (some .int) :: ((wsX0_draw_r1 ++ wsX0_draw_r2) ++ wsX00 ++ (vx_atS RX0 67 "java/lang/IllegalStateException" ["java/lang/RuntimeException", "java/lang/Exception"]).filter goodWord ++ (vx_atS RX0 169 "java/lang/IllegalArgumentException" ["java/lang/RuntimeException", "java/lang/Exception"]).filter goodWord)
def wsX0_wholeAmount : List Cond := .code yX0_wholeAmount cX0_wholeAmount 2 (some .long) :: ([.constantLong RX0 172 (10000)])
def wsX0_debt : List Cond := .code yX0_debt cX0_debt 4 (some .long) :: ([.fieldLink RX0 89 "EquityRelease" "drawingCount" "I", .fieldLink RX0 29 "EquityRelease" "balances" "[J", .methodLink RX0 147 yX0_wholeAmount, .static yX0_wholeAmount, .initialized RX0, .code yX0_wholeAmount cX0_wholeAmount 2 (some .long), .constantLong RX0 172 (10000)] ++ wsX00)
def wsX0_lastEndDay : List Cond := .code yX0_lastEndDay cX0_lastEndDay 3 (some .int) :: ([.fieldLink RX0 120 "EquityRelease" "lifeCount" "I", .fieldLink RX0 17 "EquityRelease" "endDays" "[I", .methodLink RX0 163 Lib.Math.max.name, .static Lib.Math.max.name, .initialized "java/lang/Math", .code Lib.Math.max.name Lib.Math.max.code 2 (some .int)] ++ wsX00)
def wsX0_isWaived : List Cond := .code yX0_isWaived cX0_isWaived 2 (some .boolean) :: ([.fieldLink RX0 53 "EquityRelease" "today" "I", .methodLink RX0 176 yX0_lastEndDay, .instanceMethod yX0_lastEndDay, .selects RX0 yX0_lastEndDay yX0_lastEndDay, .initialized RX0, .code yX0_lastEndDay cX0_lastEndDay 3 (some .int), .fieldLink RX0 120 "EquityRelease" "lifeCount" "I", .fieldLink RX0 17 "EquityRelease" "endDays" "[I", .methodLink RX0 163 Lib.Math.max.name, .static Lib.Math.max.name, .initialized "java/lang/Math", .code Lib.Math.max.name Lib.Math.max.code 2 (some .int)] ++ wsX00)
def wsX0_yearOfLoan : List Cond := .code yX0_yearOfLoan cX0_yearOfLoan 2 (some .int) :: ([.fieldLink RX0 74 "EquityRelease" "beginDay" "I"] ++ wsX00)
def wsX0_paidThisYear : List Cond := .code yX0_paidThisYear cX0_paidThisYear 3 (some .int) :: ([.fieldLink RX0 98 "EquityRelease" "paymentCount" "I", .fieldLink RX0 33 "EquityRelease" "paidDays" "[I", .fieldLink RX0 53 "EquityRelease" "today" "I", .fieldLink RX0 36 "EquityRelease" "paidByTenth" "[I", .methodLink RX0 179 yX0_yearOfLoan, .instanceMethod yX0_yearOfLoan, .selects RX0 yX0_yearOfLoan yX0_yearOfLoan, .initialized RX0, .code yX0_yearOfLoan cX0_yearOfLoan 2 (some .int), .fieldLink RX0 74 "EquityRelease" "beginDay" "I"] ++ wsX00)
def wsX0_allowance : List Cond := .code yX0_allowance cX0_allowance 3 (some .int) :: ([.fieldLink RX0 89 "EquityRelease" "drawingCount" "I", .fieldLink RX0 20 "EquityRelease" "drawnAmounts" "[I", .methodLink RX0 163 Lib.Math.max.name, .static Lib.Math.max.name, .initialized "java/lang/Math", .code Lib.Math.max.name Lib.Math.max.code 2 (some .int), .methodLink RX0 160 yX0_paidThisYear, .instanceMethod yX0_paidThisYear, .selects RX0 yX0_paidThisYear yX0_paidThisYear, .initialized RX0, .code yX0_paidThisYear cX0_paidThisYear 3 (some .int), .fieldLink RX0 98 "EquityRelease" "paymentCount" "I", .fieldLink RX0 33 "EquityRelease" "paidDays" "[I", .fieldLink RX0 53 "EquityRelease" "today" "I", .fieldLink RX0 36 "EquityRelease" "paidByTenth" "[I", .methodLink RX0 179 yX0_yearOfLoan, .instanceMethod yX0_yearOfLoan, .selects RX0 yX0_yearOfLoan yX0_yearOfLoan, .code yX0_yearOfLoan cX0_yearOfLoan 2 (some .int), .fieldLink RX0 74 "EquityRelease" "beginDay" "I"] ++ wsX00)
def wsX0_chargeFor_r1 : List Cond := [Cond.methodLink RX0 163 Lib.Math.max.name, Cond.static Lib.Math.max.name, Cond.initialized "java/lang/Math", Cond.code Lib.Math.max.name Lib.Math.max.code 2 (some .int), Cond.fieldLink RX0 53 "EquityRelease" "today" "I", Cond.methodLink RX0 182 yX0_isWaived, Cond.instanceMethod yX0_isWaived, Cond.selects RX0 yX0_isWaived yX0_isWaived, Cond.initialized RX0, Cond.code yX0_isWaived cX0_isWaived 2 (some .boolean), Cond.methodLink RX0 176 yX0_lastEndDay, Cond.instanceMethod yX0_lastEndDay, Cond.selects RX0 yX0_lastEndDay yX0_lastEndDay, Cond.code yX0_lastEndDay cX0_lastEndDay 3 (some .int), Cond.fieldLink RX0 120 "EquityRelease" "lifeCount" "I", Cond.fieldLink RX0 17 "EquityRelease" "endDays" "[I", Cond.methodLink RX0 185 yX0_allowance, Cond.instanceMethod yX0_allowance, Cond.selects RX0 yX0_allowance yX0_allowance, Cond.code yX0_allowance cX0_allowance 3 (some .int), Cond.fieldLink RX0 89 "EquityRelease" "drawingCount" "I", Cond.fieldLink RX0 20 "EquityRelease" "drawnAmounts" "[I", Cond.methodLink RX0 160 yX0_paidThisYear, Cond.instanceMethod yX0_paidThisYear]
def wsX0_chargeFor_r2 : List Cond := [Cond.selects RX0 yX0_paidThisYear yX0_paidThisYear, Cond.code yX0_paidThisYear cX0_paidThisYear 3 (some .int), Cond.fieldLink RX0 98 "EquityRelease" "paymentCount" "I", Cond.fieldLink RX0 33 "EquityRelease" "paidDays" "[I", Cond.fieldLink RX0 36 "EquityRelease" "paidByTenth" "[I", Cond.methodLink RX0 179 yX0_yearOfLoan, Cond.instanceMethod yX0_yearOfLoan, Cond.selects RX0 yX0_yearOfLoan yX0_yearOfLoan, Cond.code yX0_yearOfLoan cX0_yearOfLoan 2 (some .int), Cond.fieldLink RX0 74 "EquityRelease" "beginDay" "I"]
def wsX0_chargeFor : List Cond := .code yX0_chargeFor cX0_chargeFor 4 (some .int) :: ((wsX0_chargeFor_r1 ++ wsX0_chargeFor_r2) ++ wsX00)
def wsX0_takeBack : List Cond := .code yX0_takeBack cX0_takeBack 9 none :: ([.fieldLink RX0 98 "EquityRelease" "paymentCount" "I", .constantLong RX0 172 (10000), .fieldLink RX0 89 "EquityRelease" "drawingCount" "I", .fieldLink RX0 29 "EquityRelease" "balances" "[J", .methodLink RX0 155 Lib.MathLoose.min_long.x, .static Lib.MathLoose.min_long.x, .initialized "java/lang/Math", .code Lib.MathLoose.min_long.x Lib.MathLoose.min_long.code 4 (some .long), .fieldLink RX0 39 "EquityRelease" "takenParts" "[J", .fieldLink RX0 33 "EquityRelease" "paidDays" "[I", .fieldLink RX0 53 "EquityRelease" "today" "I", .fieldLink RX0 36 "EquityRelease" "paidByTenth" "[I"] ++ wsX00)
def wsX0_pay_r1 : List Cond := [Cond.classLink RX0 63 "java/lang/IllegalStateException", Cond.initialized "java/lang/IllegalStateException", Cond.constant RX0 42 (10000000), Cond.fieldLink RX0 98 "EquityRelease" "paymentCount" "I", Cond.methodLink RX0 43 yX0_requireWithin, Cond.static yX0_requireWithin, Cond.initialized RX0, Cond.code yX0_requireWithin cX0_requireWithin 3 none, Cond.classLink RX0 165 "java/lang/IllegalArgumentException", Cond.initialized "java/lang/IllegalArgumentException", Cond.methodLink RX0 86 yX0_requireRunning, Cond.instanceMethod yX0_requireRunning, Cond.selects RX0 yX0_requireRunning yX0_requireRunning, Cond.code yX0_requireRunning cX0_requireRunning 1 none, Cond.methodLink RX0 59 yX0_isBegun, Cond.instanceMethod yX0_isBegun, Cond.selects RX0 yX0_isBegun yX0_isBegun, Cond.code yX0_isBegun cX0_isBegun 1 (some .boolean), Cond.fieldLink RX0 120 "EquityRelease" "lifeCount" "I", Cond.methodLink RX0 113 yX0_hasEnded, Cond.instanceMethod yX0_hasEnded, Cond.selects RX0 yX0_hasEnded yX0_hasEnded, Cond.code yX0_hasEnded cX0_hasEnded 1 (some .boolean), Cond.methodLink RX0 130 yX0_livesLeft]
def wsX0_pay_r2 : List Cond := [Cond.instanceMethod yX0_livesLeft, Cond.selects RX0 yX0_livesLeft yX0_livesLeft, Cond.code yX0_livesLeft cX0_livesLeft 3 (some .int), Cond.fieldLink RX0 17 "EquityRelease" "endDays" "[I", Cond.methodLink RX0 94 yX0_debt, Cond.instanceMethod yX0_debt, Cond.selects RX0 yX0_debt yX0_debt, Cond.code yX0_debt cX0_debt 4 (some .long), Cond.fieldLink RX0 89 "EquityRelease" "drawingCount" "I", Cond.fieldLink RX0 29 "EquityRelease" "balances" "[J", Cond.methodLink RX0 147 yX0_wholeAmount, Cond.static yX0_wholeAmount, Cond.code yX0_wholeAmount cX0_wholeAmount 2 (some .long), Cond.constantLong RX0 172 (10000), Cond.methodLink RX0 103 yX0_chargeFor, Cond.instanceMethod yX0_chargeFor, Cond.selects RX0 yX0_chargeFor yX0_chargeFor, Cond.code yX0_chargeFor cX0_chargeFor 4 (some .int), Cond.methodLink RX0 163 Lib.Math.max.name, Cond.static Lib.Math.max.name, Cond.initialized "java/lang/Math", Cond.code Lib.Math.max.name Lib.Math.max.code 2 (some .int), Cond.fieldLink RX0 53 "EquityRelease" "today" "I", Cond.methodLink RX0 182 yX0_isWaived]
def wsX0_pay_r3 : List Cond := [Cond.instanceMethod yX0_isWaived, Cond.selects RX0 yX0_isWaived yX0_isWaived, Cond.code yX0_isWaived cX0_isWaived 2 (some .boolean), Cond.methodLink RX0 176 yX0_lastEndDay, Cond.instanceMethod yX0_lastEndDay, Cond.selects RX0 yX0_lastEndDay yX0_lastEndDay, Cond.code yX0_lastEndDay cX0_lastEndDay 3 (some .int), Cond.methodLink RX0 185 yX0_allowance, Cond.instanceMethod yX0_allowance, Cond.selects RX0 yX0_allowance yX0_allowance, Cond.code yX0_allowance cX0_allowance 3 (some .int), Cond.fieldLink RX0 20 "EquityRelease" "drawnAmounts" "[I", Cond.methodLink RX0 160 yX0_paidThisYear, Cond.instanceMethod yX0_paidThisYear, Cond.selects RX0 yX0_paidThisYear yX0_paidThisYear, Cond.code yX0_paidThisYear cX0_paidThisYear 3 (some .int), Cond.fieldLink RX0 33 "EquityRelease" "paidDays" "[I", Cond.fieldLink RX0 36 "EquityRelease" "paidByTenth" "[I", Cond.methodLink RX0 179 yX0_yearOfLoan, Cond.instanceMethod yX0_yearOfLoan, Cond.selects RX0 yX0_yearOfLoan yX0_yearOfLoan, Cond.code yX0_yearOfLoan cX0_yearOfLoan 2 (some .int), Cond.fieldLink RX0 74 "EquityRelease" "beginDay" "I", Cond.methodLink RX0 107 yX0_takeBack]
def wsX0_pay_r4 : List Cond := [Cond.instanceMethod yX0_takeBack, Cond.selects RX0 yX0_takeBack yX0_takeBack, Cond.code yX0_takeBack cX0_takeBack 9 none, Cond.methodLink RX0 155 Lib.MathLoose.min_long.x, Cond.static Lib.MathLoose.min_long.x, Cond.code Lib.MathLoose.min_long.x Lib.MathLoose.min_long.code 4 (some .long), Cond.fieldLink RX0 39 "EquityRelease" "takenParts" "[J"]
def wsX0_pay : List Cond := .code yX0_pay cX0_pay 3 (some .int) :: ((wsX0_pay_r1 ++ (wsX0_pay_r2 ++ (wsX0_pay_r3 ++ wsX0_pay_r4))) ++ wsX00 ++ (vx_atS RX0 67 "java/lang/IllegalStateException" ["java/lang/RuntimeException", "java/lang/Exception"]).filter goodWord ++ (vx_atS RX0 169 "java/lang/IllegalArgumentException" ["java/lang/RuntimeException", "java/lang/Exception"]).filter goodWord)
def wsX0_rolledUp : List Cond := .code yX0_rolledUp cX0_rolledUp 9 (some .long) :: ([.constantLong RX0 174 (3650000)])
def wsX0_pass_r1 : List Cond := [Cond.classLink RX0 63 "java/lang/IllegalStateException", Cond.initialized "java/lang/IllegalStateException", Cond.fieldLink RX0 53 "EquityRelease" "today" "I", Cond.fieldLink RX0 89 "EquityRelease" "drawingCount" "I", Cond.fieldLink RX0 29 "EquityRelease" "balances" "[J", Cond.fieldLink RX0 26 "EquityRelease" "drawnRates" "[I", Cond.methodLink RX0 43 yX0_requireWithin, Cond.static yX0_requireWithin, Cond.initialized RX0, Cond.code yX0_requireWithin cX0_requireWithin 3 none, Cond.classLink RX0 165 "java/lang/IllegalArgumentException", Cond.initialized "java/lang/IllegalArgumentException", Cond.methodLink RX0 113 yX0_hasEnded, Cond.instanceMethod yX0_hasEnded, Cond.selects RX0 yX0_hasEnded yX0_hasEnded, Cond.code yX0_hasEnded cX0_hasEnded 1 (some .boolean), Cond.methodLink RX0 59 yX0_isBegun, Cond.instanceMethod yX0_isBegun, Cond.selects RX0 yX0_isBegun yX0_isBegun, Cond.code yX0_isBegun cX0_isBegun 1 (some .boolean), Cond.fieldLink RX0 120 "EquityRelease" "lifeCount" "I", Cond.methodLink RX0 130 yX0_livesLeft, Cond.instanceMethod yX0_livesLeft, Cond.selects RX0 yX0_livesLeft yX0_livesLeft]
def wsX0_pass_r2 : List Cond := [Cond.code yX0_livesLeft cX0_livesLeft 3 (some .int), Cond.fieldLink RX0 17 "EquityRelease" "endDays" "[I", Cond.methodLink RX0 116 yX0_rolledUp, Cond.static yX0_rolledUp, Cond.code yX0_rolledUp cX0_rolledUp 9 (some .long), Cond.constantLong RX0 174 (3650000)]
def wsX0_pass : List Cond := .code yX0_pass cX0_pass 3 (some .int) :: ((wsX0_pass_r1 ++ wsX0_pass_r2) ++ wsX00 ++ (vx_atS RX0 67 "java/lang/IllegalStateException" ["java/lang/RuntimeException", "java/lang/Exception"]).filter goodWord ++ (vx_atS RX0 169 "java/lang/IllegalArgumentException" ["java/lang/RuntimeException", "java/lang/Exception"]).filter goodWord)
def wsX0_end : List Cond := .code yX0_end cX0_end 2 (some .int) :: ([.classLink RX0 123 "java/lang/IndexOutOfBoundsException", .initialized "java/lang/IndexOutOfBoundsException", .classLink RX0 63 "java/lang/IllegalStateException", .initialized "java/lang/IllegalStateException", .fieldLink RX0 120 "EquityRelease" "lifeCount" "I", .fieldLink RX0 17 "EquityRelease" "endDays" "[I", .fieldLink RX0 53 "EquityRelease" "today" "I", .methodLink RX0 130 yX0_livesLeft, .instanceMethod yX0_livesLeft, .selects RX0 yX0_livesLeft yX0_livesLeft, .initialized RX0, .code yX0_livesLeft cX0_livesLeft 3 (some .int)] ++ wsX00 ++ (vx_atS RX0 127 "java/lang/IndexOutOfBoundsException" ["java/lang/RuntimeException", "java/lang/Exception"]).filter goodWord ++ (vx_atS RX0 67 "java/lang/IllegalStateException" ["java/lang/RuntimeException", "java/lang/Exception"]).filter goodWord)
def wsX0_value : List Cond := .code yX0_value cX0_value 3 (some .int) :: ([.classLink RX0 63 "java/lang/IllegalStateException", .initialized "java/lang/IllegalStateException", .constant RX0 42 (10000000), .fieldLink RX0 77 "EquityRelease" "houseWorth" "I", .methodLink RX0 43 yX0_requireWithin, .static yX0_requireWithin, .initialized RX0, .code yX0_requireWithin cX0_requireWithin 3 none, .classLink RX0 165 "java/lang/IllegalArgumentException", .initialized "java/lang/IllegalArgumentException", .methodLink RX0 59 yX0_isBegun, .instanceMethod yX0_isBegun, .selects RX0 yX0_isBegun yX0_isBegun, .code yX0_isBegun cX0_isBegun 1 (some .boolean), .fieldLink RX0 120 "EquityRelease" "lifeCount" "I"] ++ wsX00 ++ (vx_atS RX0 67 "java/lang/IllegalStateException" ["java/lang/RuntimeException", "java/lang/Exception"]).filter goodWord ++ (vx_atS RX0 169 "java/lang/IllegalArgumentException" ["java/lang/RuntimeException", "java/lang/Exception"]).filter goodWord)
def wsX0_age : List Cond := .code yX0_age cX0_age 3 (some .int) :: ([.fieldLink RX0 120 "EquityRelease" "lifeCount" "I", .fieldLink RX0 17 "EquityRelease" "endDays" "[I", .fieldLink RX0 13 "EquityRelease" "firstAges" "[I", .fieldLink RX0 53 "EquityRelease" "today" "I"] ++ wsX00)
def wsX0_move_r1 : List Cond := [Cond.classLink RX0 63 "java/lang/IllegalStateException", Cond.initialized "java/lang/IllegalStateException", Cond.constant RX0 42 (10000000), Cond.fieldLink RX0 98 "EquityRelease" "paymentCount" "I", Cond.methodLink RX0 141 Lib.MathLoose.max_long.x, Cond.static Lib.MathLoose.max_long.x, Cond.initialized "java/lang/Math", Cond.code Lib.MathLoose.max_long.x Lib.MathLoose.max_long.code 4 (some .long), Cond.fieldLink RX0 77 "EquityRelease" "houseWorth" "I", Cond.fieldLink RX0 80 "EquityRelease" "roomLeft" "I", Cond.methodLink RX0 43 yX0_requireWithin, Cond.static yX0_requireWithin, Cond.initialized RX0, Cond.code yX0_requireWithin cX0_requireWithin 3 none, Cond.classLink RX0 165 "java/lang/IllegalArgumentException", Cond.initialized "java/lang/IllegalArgumentException", Cond.methodLink RX0 86 yX0_requireRunning, Cond.instanceMethod yX0_requireRunning, Cond.selects RX0 yX0_requireRunning yX0_requireRunning, Cond.code yX0_requireRunning cX0_requireRunning 1 none, Cond.methodLink RX0 59 yX0_isBegun, Cond.instanceMethod yX0_isBegun, Cond.selects RX0 yX0_isBegun yX0_isBegun, Cond.code yX0_isBegun cX0_isBegun 1 (some .boolean)]
def wsX0_move_r2 : List Cond := [Cond.fieldLink RX0 120 "EquityRelease" "lifeCount" "I", Cond.methodLink RX0 113 yX0_hasEnded, Cond.instanceMethod yX0_hasEnded, Cond.selects RX0 yX0_hasEnded yX0_hasEnded, Cond.code yX0_hasEnded cX0_hasEnded 1 (some .boolean), Cond.methodLink RX0 130 yX0_livesLeft, Cond.instanceMethod yX0_livesLeft, Cond.selects RX0 yX0_livesLeft yX0_livesLeft, Cond.code yX0_livesLeft cX0_livesLeft 3 (some .int), Cond.fieldLink RX0 17 "EquityRelease" "endDays" "[I", Cond.methodLink RX0 138 yX0_age, Cond.instanceMethod yX0_age, Cond.selects RX0 yX0_age yX0_age, Cond.code yX0_age cX0_age 3 (some .int), Cond.fieldLink RX0 13 "EquityRelease" "firstAges" "[I", Cond.fieldLink RX0 53 "EquityRelease" "today" "I", Cond.methodLink RX0 56 yX0_greatestLoan, Cond.static yX0_greatestLoan, Cond.code yX0_greatestLoan cX0_greatestLoan 3 (some .int), Cond.methodLink RX0 47 Lib.Math.min.name, Cond.static Lib.Math.min.name, Cond.code Lib.Math.min.name Lib.Math.min.code 2 (some .int), Cond.methodLink RX0 94 yX0_debt, Cond.instanceMethod yX0_debt]
def wsX0_move_r3 : List Cond := [Cond.selects RX0 yX0_debt yX0_debt, Cond.code yX0_debt cX0_debt 4 (some .long), Cond.fieldLink RX0 89 "EquityRelease" "drawingCount" "I", Cond.fieldLink RX0 29 "EquityRelease" "balances" "[J", Cond.methodLink RX0 147 yX0_wholeAmount, Cond.static yX0_wholeAmount, Cond.code yX0_wholeAmount cX0_wholeAmount 2 (some .long), Cond.constantLong RX0 172 (10000), Cond.methodLink RX0 107 yX0_takeBack, Cond.instanceMethod yX0_takeBack, Cond.selects RX0 yX0_takeBack yX0_takeBack, Cond.code yX0_takeBack cX0_takeBack 9 none, Cond.methodLink RX0 155 Lib.MathLoose.min_long.x, Cond.static Lib.MathLoose.min_long.x, Cond.code Lib.MathLoose.min_long.x Lib.MathLoose.min_long.code 4 (some .long), Cond.fieldLink RX0 39 "EquityRelease" "takenParts" "[J", Cond.fieldLink RX0 33 "EquityRelease" "paidDays" "[I", Cond.fieldLink RX0 36 "EquityRelease" "paidByTenth" "[I"]
def wsX0_move : List Cond := .code yX0_move cX0_move 5 (some .long) :: ((wsX0_move_r1 ++ (wsX0_move_r2 ++ wsX0_move_r3)) ++ wsX00 ++ (vx_atS RX0 67 "java/lang/IllegalStateException" ["java/lang/RuntimeException", "java/lang/Exception"]).filter goodWord ++ (vx_atS RX0 169 "java/lang/IllegalArgumentException" ["java/lang/RuntimeException", "java/lang/Exception"]).filter goodWord)
def wsX0_day : List Cond := .code yX0_day cX0_day 1 (some .int) :: ([.fieldLink RX0 53 "EquityRelease" "today" "I"] ++ wsX00)
def wsX0_worth : List Cond := .code yX0_worth cX0_worth 1 (some .int) :: ([.fieldLink RX0 77 "EquityRelease" "houseWorth" "I"] ++ wsX00)
def wsX0_room : List Cond := .code yX0_room cX0_room 1 (some .int) :: ([.fieldLink RX0 80 "EquityRelease" "roomLeft" "I"] ++ wsX00)
def wsX0_drawings : List Cond := .code yX0_drawings cX0_drawings 1 (some .int) :: ([.fieldLink RX0 89 "EquityRelease" "drawingCount" "I"] ++ wsX00)
def wsX0_balance : List Cond := .code yX0_balance cX0_balance 2 (some .long) :: ([.classLink RX0 123 "java/lang/IndexOutOfBoundsException", .initialized "java/lang/IndexOutOfBoundsException", .fieldLink RX0 89 "EquityRelease" "drawingCount" "I", .fieldLink RX0 29 "EquityRelease" "balances" "[J", .methodLink RX0 147 yX0_wholeAmount, .static yX0_wholeAmount, .initialized RX0, .code yX0_wholeAmount cX0_wholeAmount 2 (some .long), .constantLong RX0 172 (10000)] ++ wsX00 ++ (vx_atS RX0 127 "java/lang/IndexOutOfBoundsException" ["java/lang/RuntimeException", "java/lang/Exception"]).filter goodWord)
def wsX0_balanceAnew_r1 : List Cond := [Cond.fieldLink RX0 20 "EquityRelease" "drawnAmounts" "[I", Cond.constantLong RX0 172 (10000), Cond.fieldLink RX0 23 "EquityRelease" "drawnDays" "[I", Cond.fieldLink RX0 98 "EquityRelease" "paymentCount" "I", Cond.fieldLink RX0 39 "EquityRelease" "takenParts" "[J", Cond.fieldLink RX0 26 "EquityRelease" "drawnRates" "[I", Cond.fieldLink RX0 33 "EquityRelease" "paidDays" "[I", Cond.fieldLink RX0 53 "EquityRelease" "today" "I", Cond.methodLink RX0 116 yX0_rolledUp, Cond.static yX0_rolledUp, Cond.initialized RX0, Cond.code yX0_rolledUp cX0_rolledUp 9 (some .long), Cond.constantLong RX0 174 (3650000), Cond.methodLink RX0 113 yX0_hasEnded, Cond.instanceMethod yX0_hasEnded, Cond.selects RX0 yX0_hasEnded yX0_hasEnded, Cond.code yX0_hasEnded cX0_hasEnded 1 (some .boolean), Cond.methodLink RX0 59 yX0_isBegun, Cond.instanceMethod yX0_isBegun, Cond.selects RX0 yX0_isBegun yX0_isBegun, Cond.code yX0_isBegun cX0_isBegun 1 (some .boolean), Cond.fieldLink RX0 120 "EquityRelease" "lifeCount" "I", Cond.methodLink RX0 130 yX0_livesLeft, Cond.instanceMethod yX0_livesLeft]
def wsX0_balanceAnew_r2 : List Cond := [Cond.selects RX0 yX0_livesLeft yX0_livesLeft, Cond.code yX0_livesLeft cX0_livesLeft 3 (some .int), Cond.fieldLink RX0 17 "EquityRelease" "endDays" "[I", Cond.methodLink RX0 176 yX0_lastEndDay, Cond.instanceMethod yX0_lastEndDay, Cond.selects RX0 yX0_lastEndDay yX0_lastEndDay, Cond.code yX0_lastEndDay cX0_lastEndDay 3 (some .int), Cond.methodLink RX0 163 Lib.Math.max.name, Cond.static Lib.Math.max.name, Cond.initialized "java/lang/Math", Cond.code Lib.Math.max.name Lib.Math.max.code 2 (some .int)]
def wsX0_balanceAnew : List Cond := .code yX0_balanceAnew cX0_balanceAnew 8 (some .long) :: ((wsX0_balanceAnew_r1 ++ wsX0_balanceAnew_r2) ++ wsX00)
def wsX0_debtAnew_r1 : List Cond := [Cond.fieldLink RX0 89 "EquityRelease" "drawingCount" "I", Cond.methodLink RX0 151 yX0_balanceAnew, Cond.instanceMethod yX0_balanceAnew, Cond.selects RX0 yX0_balanceAnew yX0_balanceAnew, Cond.initialized RX0, Cond.code yX0_balanceAnew cX0_balanceAnew 8 (some .long), Cond.fieldLink RX0 20 "EquityRelease" "drawnAmounts" "[I", Cond.constantLong RX0 172 (10000), Cond.fieldLink RX0 23 "EquityRelease" "drawnDays" "[I", Cond.fieldLink RX0 98 "EquityRelease" "paymentCount" "I", Cond.fieldLink RX0 39 "EquityRelease" "takenParts" "[J", Cond.fieldLink RX0 26 "EquityRelease" "drawnRates" "[I", Cond.fieldLink RX0 33 "EquityRelease" "paidDays" "[I", Cond.fieldLink RX0 53 "EquityRelease" "today" "I", Cond.methodLink RX0 116 yX0_rolledUp, Cond.static yX0_rolledUp, Cond.code yX0_rolledUp cX0_rolledUp 9 (some .long), Cond.constantLong RX0 174 (3650000), Cond.methodLink RX0 113 yX0_hasEnded, Cond.instanceMethod yX0_hasEnded, Cond.selects RX0 yX0_hasEnded yX0_hasEnded, Cond.code yX0_hasEnded cX0_hasEnded 1 (some .boolean), Cond.methodLink RX0 59 yX0_isBegun, Cond.instanceMethod yX0_isBegun]
def wsX0_debtAnew_r2 : List Cond := [Cond.selects RX0 yX0_isBegun yX0_isBegun, Cond.code yX0_isBegun cX0_isBegun 1 (some .boolean), Cond.fieldLink RX0 120 "EquityRelease" "lifeCount" "I", Cond.methodLink RX0 130 yX0_livesLeft, Cond.instanceMethod yX0_livesLeft, Cond.selects RX0 yX0_livesLeft yX0_livesLeft, Cond.code yX0_livesLeft cX0_livesLeft 3 (some .int), Cond.fieldLink RX0 17 "EquityRelease" "endDays" "[I", Cond.methodLink RX0 176 yX0_lastEndDay, Cond.instanceMethod yX0_lastEndDay, Cond.selects RX0 yX0_lastEndDay yX0_lastEndDay, Cond.code yX0_lastEndDay cX0_lastEndDay 3 (some .int), Cond.methodLink RX0 163 Lib.Math.max.name, Cond.static Lib.Math.max.name, Cond.initialized "java/lang/Math", Cond.code Lib.Math.max.name Lib.Math.max.code 2 (some .int), Cond.methodLink RX0 147 yX0_wholeAmount, Cond.static yX0_wholeAmount, Cond.code yX0_wholeAmount cX0_wholeAmount 2 (some .long)]
def wsX0_debtAnew : List Cond := .code yX0_debtAnew cX0_debtAnew 4 (some .long) :: ((wsX0_debtAnew_r1 ++ wsX0_debtAnew_r2) ++ wsX00)
def wsX0_owed : List Cond := .code yX0_owed cX0_owed 1 (some .long) :: ([.fieldLink RX0 77 "EquityRelease" "houseWorth" "I", .methodLink RX0 155 Lib.MathLoose.min_long.x, .static Lib.MathLoose.min_long.x, .initialized "java/lang/Math", .code Lib.MathLoose.min_long.x Lib.MathLoose.min_long.code 4 (some .long), .methodLink RX0 94 yX0_debt, .instanceMethod yX0_debt, .selects RX0 yX0_debt yX0_debt, .initialized RX0, .code yX0_debt cX0_debt 4 (some .long), .fieldLink RX0 89 "EquityRelease" "drawingCount" "I", .fieldLink RX0 29 "EquityRelease" "balances" "[J", .methodLink RX0 147 yX0_wholeAmount, .static yX0_wholeAmount, .code yX0_wholeAmount cX0_wholeAmount 2 (some .long), .constantLong RX0 172 (10000)] ++ wsX00)
def wsX0_spared : List Cond := .code yX0_spared cX0_spared 1 (some .long) :: ([.methodLink RX0 94 yX0_debt, .instanceMethod yX0_debt, .selects RX0 yX0_debt yX0_debt, .initialized RX0, .code yX0_debt cX0_debt 4 (some .long), .fieldLink RX0 89 "EquityRelease" "drawingCount" "I", .fieldLink RX0 29 "EquityRelease" "balances" "[J", .methodLink RX0 147 yX0_wholeAmount, .static yX0_wholeAmount, .code yX0_wholeAmount cX0_wholeAmount 2 (some .long), .constantLong RX0 172 (10000), .methodLink RX0 157 yX0_owed, .instanceMethod yX0_owed, .selects RX0 yX0_owed yX0_owed, .code yX0_owed cX0_owed 1 (some .long), .fieldLink RX0 77 "EquityRelease" "houseWorth" "I", .methodLink RX0 155 Lib.MathLoose.min_long.x, .static Lib.MathLoose.min_long.x, .initialized "java/lang/Math", .code Lib.MathLoose.min_long.x Lib.MathLoose.min_long.code 4 (some .long)] ++ wsX00)
def wsX0_charge_r1 : List Cond := [Cond.constant RX0 42 (10000000), Cond.methodLink RX0 43 yX0_requireWithin, Cond.static yX0_requireWithin, Cond.initialized RX0, Cond.code yX0_requireWithin cX0_requireWithin 3 none, Cond.classLink RX0 165 "java/lang/IllegalArgumentException", Cond.initialized "java/lang/IllegalArgumentException", Cond.methodLink RX0 86 yX0_requireRunning, Cond.instanceMethod yX0_requireRunning, Cond.selects RX0 yX0_requireRunning yX0_requireRunning, Cond.code yX0_requireRunning cX0_requireRunning 1 none, Cond.classLink RX0 63 "java/lang/IllegalStateException", Cond.initialized "java/lang/IllegalStateException", Cond.methodLink RX0 59 yX0_isBegun, Cond.instanceMethod yX0_isBegun, Cond.selects RX0 yX0_isBegun yX0_isBegun, Cond.code yX0_isBegun cX0_isBegun 1 (some .boolean), Cond.fieldLink RX0 120 "EquityRelease" "lifeCount" "I", Cond.methodLink RX0 113 yX0_hasEnded, Cond.instanceMethod yX0_hasEnded, Cond.selects RX0 yX0_hasEnded yX0_hasEnded, Cond.code yX0_hasEnded cX0_hasEnded 1 (some .boolean), Cond.methodLink RX0 130 yX0_livesLeft, Cond.instanceMethod yX0_livesLeft]
def wsX0_charge_r2 : List Cond := [Cond.selects RX0 yX0_livesLeft yX0_livesLeft, Cond.code yX0_livesLeft cX0_livesLeft 3 (some .int), Cond.fieldLink RX0 17 "EquityRelease" "endDays" "[I", Cond.methodLink RX0 103 yX0_chargeFor, Cond.instanceMethod yX0_chargeFor, Cond.selects RX0 yX0_chargeFor yX0_chargeFor, Cond.code yX0_chargeFor cX0_chargeFor 4 (some .int), Cond.methodLink RX0 163 Lib.Math.max.name, Cond.static Lib.Math.max.name, Cond.initialized "java/lang/Math", Cond.code Lib.Math.max.name Lib.Math.max.code 2 (some .int), Cond.fieldLink RX0 53 "EquityRelease" "today" "I", Cond.methodLink RX0 182 yX0_isWaived, Cond.instanceMethod yX0_isWaived, Cond.selects RX0 yX0_isWaived yX0_isWaived, Cond.code yX0_isWaived cX0_isWaived 2 (some .boolean), Cond.methodLink RX0 176 yX0_lastEndDay, Cond.instanceMethod yX0_lastEndDay, Cond.selects RX0 yX0_lastEndDay yX0_lastEndDay, Cond.code yX0_lastEndDay cX0_lastEndDay 3 (some .int), Cond.methodLink RX0 185 yX0_allowance, Cond.instanceMethod yX0_allowance, Cond.selects RX0 yX0_allowance yX0_allowance, Cond.code yX0_allowance cX0_allowance 3 (some .int)]
def wsX0_charge_r3 : List Cond := [Cond.fieldLink RX0 89 "EquityRelease" "drawingCount" "I", Cond.fieldLink RX0 20 "EquityRelease" "drawnAmounts" "[I", Cond.methodLink RX0 160 yX0_paidThisYear, Cond.instanceMethod yX0_paidThisYear, Cond.selects RX0 yX0_paidThisYear yX0_paidThisYear, Cond.code yX0_paidThisYear cX0_paidThisYear 3 (some .int), Cond.fieldLink RX0 98 "EquityRelease" "paymentCount" "I", Cond.fieldLink RX0 33 "EquityRelease" "paidDays" "[I", Cond.fieldLink RX0 36 "EquityRelease" "paidByTenth" "[I", Cond.methodLink RX0 179 yX0_yearOfLoan, Cond.instanceMethod yX0_yearOfLoan, Cond.selects RX0 yX0_yearOfLoan yX0_yearOfLoan, Cond.code yX0_yearOfLoan cX0_yearOfLoan 2 (some .int), Cond.fieldLink RX0 74 "EquityRelease" "beginDay" "I"]
def wsX0_charge : List Cond := .code yX0_charge cX0_charge 2 (some .int) :: ((wsX0_charge_r1 ++ (wsX0_charge_r2 ++ wsX0_charge_r3)) ++ wsX00 ++ (vx_atS RX0 169 "java/lang/IllegalArgumentException" ["java/lang/RuntimeException", "java/lang/Exception"]).filter goodWord ++ (vx_atS RX0 67 "java/lang/IllegalStateException" ["java/lang/RuntimeException", "java/lang/Exception"]).filter goodWord)
def wsJ9_max_7cf53 : List Cond := .code yJ9_max_7cf53 cJ9_max_7cf53 2 (some .int) :: ([])
def wsJ9_max_f86c9 : List Cond := .code yJ9_max_f86c9 cJ9_max_f86c9 4 (some .long) :: ([])
def wsJ9_min_7cf53 : List Cond := .code yJ9_min_7cf53 cJ9_min_7cf53 2 (some .int) :: ([])
def wsJ9_min_f86c9 : List Cond := .code yJ9_min_f86c9 cJ9_min_f86c9 4 (some .long) :: ([])
def wsL_low : List Cond := .code yL_low cL_low 2 (some .int) :: ([.constant RL 7 (2147483647)])
def wsL_cell : List Cond := .code yL_cell cL_cell 2 (some .int) :: ([.constant RL 8 (40503)])
def wsL_begin_r1 : List Cond := [Cond.classLink RL 15 "java/lang/IllegalStateException", Cond.methodLink RL 9 yX0_begin, Cond.instanceMethod yX0_begin, Cond.selects RX0 yX0_begin yX0_begin, Cond.initialized RX0, Cond.code yX0_begin cX0_begin 7 (some .int), Cond.classLink RX0 63 "java/lang/IllegalStateException", Cond.initialized "java/lang/IllegalStateException", Cond.constant RX0 42 (10000000), Cond.methodLink RX0 47 Lib.Math.min.name, Cond.static Lib.Math.min.name, Cond.initialized "java/lang/Math", Cond.code Lib.Math.min.name Lib.Math.min.code 2 (some .int), Cond.fieldLink RX0 53 "EquityRelease" "today" "I", Cond.fieldLink RX0 74 "EquityRelease" "beginDay" "I", Cond.fieldLink RX0 77 "EquityRelease" "houseWorth" "I", Cond.fieldLink RX0 80 "EquityRelease" "roomLeft" "I", Cond.methodLink RX0 43 yX0_requireWithin, Cond.static yX0_requireWithin, Cond.code yX0_requireWithin cX0_requireWithin 3 none, Cond.classLink RX0 165 "java/lang/IllegalArgumentException", Cond.initialized "java/lang/IllegalArgumentException", Cond.methodLink RX0 56 yX0_greatestLoan, Cond.static yX0_greatestLoan]
def wsL_begin_r2 : List Cond := [Cond.code yX0_greatestLoan cX0_greatestLoan 3 (some .int), Cond.methodLink RX0 59 yX0_isBegun, Cond.instanceMethod yX0_isBegun, Cond.selects RX0 yX0_isBegun yX0_isBegun, Cond.code yX0_isBegun cX0_isBegun 1 (some .boolean), Cond.fieldLink RX0 120 "EquityRelease" "lifeCount" "I", Cond.methodLink RX0 70 yX0_addLife, Cond.instanceMethod yX0_addLife, Cond.selects RX0 yX0_addLife yX0_addLife, Cond.code yX0_addLife cX0_addLife 2 none, Cond.fieldLink RX0 13 "EquityRelease" "firstAges" "[I", Cond.fieldLink RX0 17 "EquityRelease" "endDays" "[I", Cond.methodLink RX0 83 yX0_addDrawing, Cond.instanceMethod yX0_addDrawing, Cond.selects RX0 yX0_addDrawing yX0_addDrawing, Cond.code yX0_addDrawing cX0_addDrawing 2 none, Cond.fieldLink RX0 89 "EquityRelease" "drawingCount" "I", Cond.fieldLink RX0 20 "EquityRelease" "drawnAmounts" "[I", Cond.fieldLink RX0 23 "EquityRelease" "drawnDays" "[I", Cond.fieldLink RX0 26 "EquityRelease" "drawnRates" "[I", Cond.fieldLink RX0 9 "EquityRelease" "rateNow" "I", Cond.fieldLink RX0 29 "EquityRelease" "balances" "[J", Cond.constantLong RX0 172 (10000)]
def wsL_begin : List Cond := .codeWith yL_begin cL_begin 6 (some .int) [(0, 9, 10, 15)] :: ((wsL_begin_r1 ++ wsL_begin_r2) ++ wsX00 ++ (vx_atS RX0 67 "java/lang/IllegalStateException" ["java/lang/RuntimeException", "java/lang/Exception"]).filter goodWord ++ (vx_atS RX0 169 "java/lang/IllegalArgumentException" ["java/lang/RuntimeException", "java/lang/Exception"]).filter goodWord)
def wsL_draw_r1 : List Cond := [Cond.classLink RL 15 "java/lang/IllegalStateException", Cond.methodLink RL 17 yX0_draw, Cond.instanceMethod yX0_draw, Cond.selects RX0 yX0_draw yX0_draw, Cond.initialized RX0, Cond.code yX0_draw cX0_draw 2 (some .int), Cond.classLink RX0 63 "java/lang/IllegalStateException", Cond.initialized "java/lang/IllegalStateException", Cond.constant RX0 42 (10000000), Cond.fieldLink RX0 80 "EquityRelease" "roomLeft" "I", Cond.fieldLink RX0 89 "EquityRelease" "drawingCount" "I", Cond.methodLink RX0 43 yX0_requireWithin, Cond.static yX0_requireWithin, Cond.code yX0_requireWithin cX0_requireWithin 3 none, Cond.classLink RX0 165 "java/lang/IllegalArgumentException", Cond.initialized "java/lang/IllegalArgumentException", Cond.methodLink RX0 86 yX0_requireRunning, Cond.instanceMethod yX0_requireRunning, Cond.selects RX0 yX0_requireRunning yX0_requireRunning, Cond.code yX0_requireRunning cX0_requireRunning 1 none, Cond.methodLink RX0 59 yX0_isBegun, Cond.instanceMethod yX0_isBegun, Cond.selects RX0 yX0_isBegun yX0_isBegun, Cond.code yX0_isBegun cX0_isBegun 1 (some .boolean)]
def wsL_draw_r2 : List Cond := [Cond.fieldLink RX0 120 "EquityRelease" "lifeCount" "I", Cond.methodLink RX0 113 yX0_hasEnded, Cond.instanceMethod yX0_hasEnded, Cond.selects RX0 yX0_hasEnded yX0_hasEnded, Cond.code yX0_hasEnded cX0_hasEnded 1 (some .boolean), Cond.methodLink RX0 130 yX0_livesLeft, Cond.instanceMethod yX0_livesLeft, Cond.selects RX0 yX0_livesLeft yX0_livesLeft, Cond.code yX0_livesLeft cX0_livesLeft 3 (some .int), Cond.fieldLink RX0 17 "EquityRelease" "endDays" "[I", Cond.methodLink RX0 83 yX0_addDrawing, Cond.instanceMethod yX0_addDrawing, Cond.selects RX0 yX0_addDrawing yX0_addDrawing, Cond.code yX0_addDrawing cX0_addDrawing 2 none, Cond.fieldLink RX0 20 "EquityRelease" "drawnAmounts" "[I", Cond.fieldLink RX0 23 "EquityRelease" "drawnDays" "[I", Cond.fieldLink RX0 53 "EquityRelease" "today" "I", Cond.fieldLink RX0 26 "EquityRelease" "drawnRates" "[I", Cond.fieldLink RX0 9 "EquityRelease" "rateNow" "I", Cond.fieldLink RX0 29 "EquityRelease" "balances" "[J", Cond.constantLong RX0 172 (10000)]
def wsL_draw : List Cond := .codeWith yL_draw cL_draw 3 (some .int) [(0, 5, 6, 15)] :: ((wsL_draw_r1 ++ wsL_draw_r2) ++ wsX00 ++ (vx_atS RX0 67 "java/lang/IllegalStateException" ["java/lang/RuntimeException", "java/lang/Exception"]).filter goodWord ++ (vx_atS RX0 169 "java/lang/IllegalArgumentException" ["java/lang/RuntimeException", "java/lang/Exception"]).filter goodWord)
def wsL_pay_r1 : List Cond := [Cond.classLink RL 15 "java/lang/IllegalStateException", Cond.methodLink RL 21 yX0_pay, Cond.instanceMethod yX0_pay, Cond.selects RX0 yX0_pay yX0_pay, Cond.initialized RX0, Cond.code yX0_pay cX0_pay 3 (some .int), Cond.classLink RX0 63 "java/lang/IllegalStateException", Cond.initialized "java/lang/IllegalStateException", Cond.constant RX0 42 (10000000), Cond.fieldLink RX0 98 "EquityRelease" "paymentCount" "I", Cond.methodLink RX0 43 yX0_requireWithin, Cond.static yX0_requireWithin, Cond.code yX0_requireWithin cX0_requireWithin 3 none, Cond.classLink RX0 165 "java/lang/IllegalArgumentException", Cond.initialized "java/lang/IllegalArgumentException", Cond.methodLink RX0 86 yX0_requireRunning, Cond.instanceMethod yX0_requireRunning, Cond.selects RX0 yX0_requireRunning yX0_requireRunning, Cond.code yX0_requireRunning cX0_requireRunning 1 none, Cond.methodLink RX0 59 yX0_isBegun, Cond.instanceMethod yX0_isBegun, Cond.selects RX0 yX0_isBegun yX0_isBegun, Cond.code yX0_isBegun cX0_isBegun 1 (some .boolean), Cond.fieldLink RX0 120 "EquityRelease" "lifeCount" "I"]
def wsL_pay_r2 : List Cond := [Cond.methodLink RX0 113 yX0_hasEnded, Cond.instanceMethod yX0_hasEnded, Cond.selects RX0 yX0_hasEnded yX0_hasEnded, Cond.code yX0_hasEnded cX0_hasEnded 1 (some .boolean), Cond.methodLink RX0 130 yX0_livesLeft, Cond.instanceMethod yX0_livesLeft, Cond.selects RX0 yX0_livesLeft yX0_livesLeft, Cond.code yX0_livesLeft cX0_livesLeft 3 (some .int), Cond.fieldLink RX0 17 "EquityRelease" "endDays" "[I", Cond.methodLink RX0 94 yX0_debt, Cond.instanceMethod yX0_debt, Cond.selects RX0 yX0_debt yX0_debt, Cond.code yX0_debt cX0_debt 4 (some .long), Cond.fieldLink RX0 89 "EquityRelease" "drawingCount" "I", Cond.fieldLink RX0 29 "EquityRelease" "balances" "[J", Cond.methodLink RX0 147 yX0_wholeAmount, Cond.static yX0_wholeAmount, Cond.code yX0_wholeAmount cX0_wholeAmount 2 (some .long), Cond.constantLong RX0 172 (10000), Cond.methodLink RX0 103 yX0_chargeFor, Cond.instanceMethod yX0_chargeFor, Cond.selects RX0 yX0_chargeFor yX0_chargeFor, Cond.code yX0_chargeFor cX0_chargeFor 4 (some .int), Cond.methodLink RX0 163 Lib.Math.max.name]
def wsL_pay_r3 : List Cond := [Cond.static Lib.Math.max.name, Cond.initialized "java/lang/Math", Cond.code Lib.Math.max.name Lib.Math.max.code 2 (some .int), Cond.fieldLink RX0 53 "EquityRelease" "today" "I", Cond.methodLink RX0 182 yX0_isWaived, Cond.instanceMethod yX0_isWaived, Cond.selects RX0 yX0_isWaived yX0_isWaived, Cond.code yX0_isWaived cX0_isWaived 2 (some .boolean), Cond.methodLink RX0 176 yX0_lastEndDay, Cond.instanceMethod yX0_lastEndDay, Cond.selects RX0 yX0_lastEndDay yX0_lastEndDay, Cond.code yX0_lastEndDay cX0_lastEndDay 3 (some .int), Cond.methodLink RX0 185 yX0_allowance, Cond.instanceMethod yX0_allowance, Cond.selects RX0 yX0_allowance yX0_allowance, Cond.code yX0_allowance cX0_allowance 3 (some .int), Cond.fieldLink RX0 20 "EquityRelease" "drawnAmounts" "[I", Cond.methodLink RX0 160 yX0_paidThisYear, Cond.instanceMethod yX0_paidThisYear, Cond.selects RX0 yX0_paidThisYear yX0_paidThisYear, Cond.code yX0_paidThisYear cX0_paidThisYear 3 (some .int), Cond.fieldLink RX0 33 "EquityRelease" "paidDays" "[I", Cond.fieldLink RX0 36 "EquityRelease" "paidByTenth" "[I", Cond.methodLink RX0 179 yX0_yearOfLoan]
def wsL_pay_r4 : List Cond := [Cond.instanceMethod yX0_yearOfLoan, Cond.selects RX0 yX0_yearOfLoan yX0_yearOfLoan, Cond.code yX0_yearOfLoan cX0_yearOfLoan 2 (some .int), Cond.fieldLink RX0 74 "EquityRelease" "beginDay" "I", Cond.methodLink RX0 107 yX0_takeBack, Cond.instanceMethod yX0_takeBack, Cond.selects RX0 yX0_takeBack yX0_takeBack, Cond.code yX0_takeBack cX0_takeBack 9 none, Cond.methodLink RX0 155 Lib.MathLoose.min_long.x, Cond.static Lib.MathLoose.min_long.x, Cond.code Lib.MathLoose.min_long.x Lib.MathLoose.min_long.code 4 (some .long), Cond.fieldLink RX0 39 "EquityRelease" "takenParts" "[J"]
def wsL_pay : List Cond := .codeWith yL_pay cL_pay 3 (some .int) [(0, 5, 6, 15)] :: ((wsL_pay_r1 ++ (wsL_pay_r2 ++ (wsL_pay_r3 ++ wsL_pay_r4))) ++ wsX00 ++ (vx_atS RX0 67 "java/lang/IllegalStateException" ["java/lang/RuntimeException", "java/lang/Exception"]).filter goodWord ++ (vx_atS RX0 169 "java/lang/IllegalArgumentException" ["java/lang/RuntimeException", "java/lang/Exception"]).filter goodWord)
def wsL_move_r1 : List Cond := [Cond.classLink RL 15 "java/lang/IllegalStateException", Cond.constantLong RL 28 (-3), Cond.methodLink RL 24 yX0_move, Cond.instanceMethod yX0_move, Cond.selects RX0 yX0_move yX0_move, Cond.initialized RX0, Cond.code yX0_move cX0_move 5 (some .long), Cond.classLink RX0 63 "java/lang/IllegalStateException", Cond.initialized "java/lang/IllegalStateException", Cond.constant RX0 42 (10000000), Cond.fieldLink RX0 98 "EquityRelease" "paymentCount" "I", Cond.methodLink RX0 141 Lib.MathLoose.max_long.x, Cond.static Lib.MathLoose.max_long.x, Cond.initialized "java/lang/Math", Cond.code Lib.MathLoose.max_long.x Lib.MathLoose.max_long.code 4 (some .long), Cond.fieldLink RX0 77 "EquityRelease" "houseWorth" "I", Cond.fieldLink RX0 80 "EquityRelease" "roomLeft" "I", Cond.methodLink RX0 43 yX0_requireWithin, Cond.static yX0_requireWithin, Cond.code yX0_requireWithin cX0_requireWithin 3 none, Cond.classLink RX0 165 "java/lang/IllegalArgumentException", Cond.initialized "java/lang/IllegalArgumentException", Cond.methodLink RX0 86 yX0_requireRunning, Cond.instanceMethod yX0_requireRunning]
def wsL_move_r2 : List Cond := [Cond.selects RX0 yX0_requireRunning yX0_requireRunning, Cond.code yX0_requireRunning cX0_requireRunning 1 none, Cond.methodLink RX0 59 yX0_isBegun, Cond.instanceMethod yX0_isBegun, Cond.selects RX0 yX0_isBegun yX0_isBegun, Cond.code yX0_isBegun cX0_isBegun 1 (some .boolean), Cond.fieldLink RX0 120 "EquityRelease" "lifeCount" "I", Cond.methodLink RX0 113 yX0_hasEnded, Cond.instanceMethod yX0_hasEnded, Cond.selects RX0 yX0_hasEnded yX0_hasEnded, Cond.code yX0_hasEnded cX0_hasEnded 1 (some .boolean), Cond.methodLink RX0 130 yX0_livesLeft, Cond.instanceMethod yX0_livesLeft, Cond.selects RX0 yX0_livesLeft yX0_livesLeft, Cond.code yX0_livesLeft cX0_livesLeft 3 (some .int), Cond.fieldLink RX0 17 "EquityRelease" "endDays" "[I", Cond.methodLink RX0 138 yX0_age, Cond.instanceMethod yX0_age, Cond.selects RX0 yX0_age yX0_age, Cond.code yX0_age cX0_age 3 (some .int), Cond.fieldLink RX0 13 "EquityRelease" "firstAges" "[I", Cond.fieldLink RX0 53 "EquityRelease" "today" "I", Cond.methodLink RX0 56 yX0_greatestLoan, Cond.static yX0_greatestLoan]
def wsL_move_r3 : List Cond := [Cond.code yX0_greatestLoan cX0_greatestLoan 3 (some .int), Cond.methodLink RX0 47 Lib.Math.min.name, Cond.static Lib.Math.min.name, Cond.code Lib.Math.min.name Lib.Math.min.code 2 (some .int), Cond.methodLink RX0 94 yX0_debt, Cond.instanceMethod yX0_debt, Cond.selects RX0 yX0_debt yX0_debt, Cond.code yX0_debt cX0_debt 4 (some .long), Cond.fieldLink RX0 89 "EquityRelease" "drawingCount" "I", Cond.fieldLink RX0 29 "EquityRelease" "balances" "[J", Cond.methodLink RX0 147 yX0_wholeAmount, Cond.static yX0_wholeAmount, Cond.code yX0_wholeAmount cX0_wholeAmount 2 (some .long), Cond.constantLong RX0 172 (10000), Cond.methodLink RX0 107 yX0_takeBack, Cond.instanceMethod yX0_takeBack, Cond.selects RX0 yX0_takeBack yX0_takeBack, Cond.code yX0_takeBack cX0_takeBack 9 none, Cond.methodLink RX0 155 Lib.MathLoose.min_long.x, Cond.static Lib.MathLoose.min_long.x, Cond.code Lib.MathLoose.min_long.x Lib.MathLoose.min_long.code 4 (some .long), Cond.fieldLink RX0 39 "EquityRelease" "takenParts" "[J", Cond.fieldLink RX0 33 "EquityRelease" "paidDays" "[I", Cond.fieldLink RX0 36 "EquityRelease" "paidByTenth" "[I"]
def wsL_move : List Cond := .codeWith yL_move cL_move 3 (some .long) [(0, 5, 6, 15)] :: ((wsL_move_r1 ++ (wsL_move_r2 ++ wsL_move_r3)) ++ wsX00 ++ (vx_atS RX0 67 "java/lang/IllegalStateException" ["java/lang/RuntimeException", "java/lang/Exception"]).filter goodWord ++ (vx_atS RX0 169 "java/lang/IllegalArgumentException" ["java/lang/RuntimeException", "java/lang/Exception"]).filter goodWord)
def wsL_pass_r1 : List Cond := [Cond.classLink RL 15 "java/lang/IllegalStateException", Cond.methodLink RL 30 yX0_pass, Cond.instanceMethod yX0_pass, Cond.selects RX0 yX0_pass yX0_pass, Cond.initialized RX0, Cond.code yX0_pass cX0_pass 3 (some .int), Cond.classLink RX0 63 "java/lang/IllegalStateException", Cond.initialized "java/lang/IllegalStateException", Cond.fieldLink RX0 53 "EquityRelease" "today" "I", Cond.fieldLink RX0 89 "EquityRelease" "drawingCount" "I", Cond.fieldLink RX0 29 "EquityRelease" "balances" "[J", Cond.fieldLink RX0 26 "EquityRelease" "drawnRates" "[I", Cond.methodLink RX0 43 yX0_requireWithin, Cond.static yX0_requireWithin, Cond.code yX0_requireWithin cX0_requireWithin 3 none, Cond.classLink RX0 165 "java/lang/IllegalArgumentException", Cond.initialized "java/lang/IllegalArgumentException", Cond.methodLink RX0 113 yX0_hasEnded, Cond.instanceMethod yX0_hasEnded, Cond.selects RX0 yX0_hasEnded yX0_hasEnded, Cond.code yX0_hasEnded cX0_hasEnded 1 (some .boolean), Cond.methodLink RX0 59 yX0_isBegun, Cond.instanceMethod yX0_isBegun, Cond.selects RX0 yX0_isBegun yX0_isBegun]
def wsL_pass_r2 : List Cond := [Cond.code yX0_isBegun cX0_isBegun 1 (some .boolean), Cond.fieldLink RX0 120 "EquityRelease" "lifeCount" "I", Cond.methodLink RX0 130 yX0_livesLeft, Cond.instanceMethod yX0_livesLeft, Cond.selects RX0 yX0_livesLeft yX0_livesLeft, Cond.code yX0_livesLeft cX0_livesLeft 3 (some .int), Cond.fieldLink RX0 17 "EquityRelease" "endDays" "[I", Cond.methodLink RX0 116 yX0_rolledUp, Cond.static yX0_rolledUp, Cond.code yX0_rolledUp cX0_rolledUp 9 (some .long), Cond.constantLong RX0 174 (3650000)]
def wsL_pass : List Cond := .codeWith yL_pass cL_pass 3 (some .int) [(0, 5, 6, 15)] :: ((wsL_pass_r1 ++ wsL_pass_r2) ++ wsX00 ++ (vx_atS RX0 67 "java/lang/IllegalStateException" ["java/lang/RuntimeException", "java/lang/Exception"]).filter goodWord ++ (vx_atS RX0 169 "java/lang/IllegalArgumentException" ["java/lang/RuntimeException", "java/lang/Exception"]).filter goodWord)
def wsL_charge_r1 : List Cond := [Cond.classLink RL 15 "java/lang/IllegalStateException", Cond.methodLink RL 33 yX0_charge, Cond.instanceMethod yX0_charge, Cond.selects RX0 yX0_charge yX0_charge, Cond.initialized RX0, Cond.code yX0_charge cX0_charge 2 (some .int), Cond.constant RX0 42 (10000000), Cond.methodLink RX0 43 yX0_requireWithin, Cond.static yX0_requireWithin, Cond.code yX0_requireWithin cX0_requireWithin 3 none, Cond.classLink RX0 165 "java/lang/IllegalArgumentException", Cond.initialized "java/lang/IllegalArgumentException", Cond.methodLink RX0 86 yX0_requireRunning, Cond.instanceMethod yX0_requireRunning, Cond.selects RX0 yX0_requireRunning yX0_requireRunning, Cond.code yX0_requireRunning cX0_requireRunning 1 none, Cond.classLink RX0 63 "java/lang/IllegalStateException", Cond.initialized "java/lang/IllegalStateException", Cond.methodLink RX0 59 yX0_isBegun, Cond.instanceMethod yX0_isBegun, Cond.selects RX0 yX0_isBegun yX0_isBegun, Cond.code yX0_isBegun cX0_isBegun 1 (some .boolean), Cond.fieldLink RX0 120 "EquityRelease" "lifeCount" "I", Cond.methodLink RX0 113 yX0_hasEnded]
def wsL_charge_r2 : List Cond := [Cond.instanceMethod yX0_hasEnded, Cond.selects RX0 yX0_hasEnded yX0_hasEnded, Cond.code yX0_hasEnded cX0_hasEnded 1 (some .boolean), Cond.methodLink RX0 130 yX0_livesLeft, Cond.instanceMethod yX0_livesLeft, Cond.selects RX0 yX0_livesLeft yX0_livesLeft, Cond.code yX0_livesLeft cX0_livesLeft 3 (some .int), Cond.fieldLink RX0 17 "EquityRelease" "endDays" "[I", Cond.methodLink RX0 103 yX0_chargeFor, Cond.instanceMethod yX0_chargeFor, Cond.selects RX0 yX0_chargeFor yX0_chargeFor, Cond.code yX0_chargeFor cX0_chargeFor 4 (some .int), Cond.methodLink RX0 163 Lib.Math.max.name, Cond.static Lib.Math.max.name, Cond.initialized "java/lang/Math", Cond.code Lib.Math.max.name Lib.Math.max.code 2 (some .int), Cond.fieldLink RX0 53 "EquityRelease" "today" "I", Cond.methodLink RX0 182 yX0_isWaived, Cond.instanceMethod yX0_isWaived, Cond.selects RX0 yX0_isWaived yX0_isWaived, Cond.code yX0_isWaived cX0_isWaived 2 (some .boolean), Cond.methodLink RX0 176 yX0_lastEndDay, Cond.instanceMethod yX0_lastEndDay, Cond.selects RX0 yX0_lastEndDay yX0_lastEndDay]
def wsL_charge_r3 : List Cond := [Cond.code yX0_lastEndDay cX0_lastEndDay 3 (some .int), Cond.methodLink RX0 185 yX0_allowance, Cond.instanceMethod yX0_allowance, Cond.selects RX0 yX0_allowance yX0_allowance, Cond.code yX0_allowance cX0_allowance 3 (some .int), Cond.fieldLink RX0 89 "EquityRelease" "drawingCount" "I", Cond.fieldLink RX0 20 "EquityRelease" "drawnAmounts" "[I", Cond.methodLink RX0 160 yX0_paidThisYear, Cond.instanceMethod yX0_paidThisYear, Cond.selects RX0 yX0_paidThisYear yX0_paidThisYear, Cond.code yX0_paidThisYear cX0_paidThisYear 3 (some .int), Cond.fieldLink RX0 98 "EquityRelease" "paymentCount" "I", Cond.fieldLink RX0 33 "EquityRelease" "paidDays" "[I", Cond.fieldLink RX0 36 "EquityRelease" "paidByTenth" "[I", Cond.methodLink RX0 179 yX0_yearOfLoan, Cond.instanceMethod yX0_yearOfLoan, Cond.selects RX0 yX0_yearOfLoan yX0_yearOfLoan, Cond.code yX0_yearOfLoan cX0_yearOfLoan 2 (some .int), Cond.fieldLink RX0 74 "EquityRelease" "beginDay" "I"]
def wsL_charge : List Cond := .codeWith yL_charge cL_charge 3 (some .int) [(0, 5, 6, 15)] :: ((wsL_charge_r1 ++ (wsL_charge_r2 ++ wsL_charge_r3)) ++ wsX00 ++ (vx_atS RX0 169 "java/lang/IllegalArgumentException" ["java/lang/RuntimeException", "java/lang/Exception"]).filter goodWord ++ (vx_atS RX0 67 "java/lang/IllegalStateException" ["java/lang/RuntimeException", "java/lang/Exception"]).filter goodWord)
def wsL_holds_r1 : List Cond := [Cond.methodLink RL 36 yX0_debt, Cond.instanceMethod yX0_debt, Cond.selects RX0 yX0_debt yX0_debt, Cond.initialized RX0, Cond.code yX0_debt cX0_debt 4 (some .long), Cond.fieldLink RX0 89 "EquityRelease" "drawingCount" "I", Cond.fieldLink RX0 29 "EquityRelease" "balances" "[J", Cond.methodLink RX0 147 yX0_wholeAmount, Cond.static yX0_wholeAmount, Cond.code yX0_wholeAmount cX0_wholeAmount 2 (some .long), Cond.constantLong RX0 172 (10000), Cond.methodLink RL 40 yX0_drawings, Cond.instanceMethod yX0_drawings, Cond.selects RX0 yX0_drawings yX0_drawings, Cond.code yX0_drawings cX0_drawings 1 (some .int), Cond.methodLink RL 44 yX0_balance, Cond.instanceMethod yX0_balance, Cond.selects RX0 yX0_balance yX0_balance, Cond.code yX0_balance cX0_balance 2 (some .long), Cond.classLink RX0 123 "java/lang/IndexOutOfBoundsException", Cond.initialized "java/lang/IndexOutOfBoundsException", Cond.methodLink RL 47 yX0_debtAnew, Cond.instanceMethod yX0_debtAnew, Cond.selects RX0 yX0_debtAnew yX0_debtAnew]
def wsL_holds_r2 : List Cond := [Cond.code yX0_debtAnew cX0_debtAnew 4 (some .long), Cond.methodLink RX0 151 yX0_balanceAnew, Cond.instanceMethod yX0_balanceAnew, Cond.selects RX0 yX0_balanceAnew yX0_balanceAnew, Cond.code yX0_balanceAnew cX0_balanceAnew 8 (some .long), Cond.fieldLink RX0 20 "EquityRelease" "drawnAmounts" "[I", Cond.fieldLink RX0 23 "EquityRelease" "drawnDays" "[I", Cond.fieldLink RX0 98 "EquityRelease" "paymentCount" "I", Cond.fieldLink RX0 39 "EquityRelease" "takenParts" "[J", Cond.fieldLink RX0 26 "EquityRelease" "drawnRates" "[I", Cond.fieldLink RX0 33 "EquityRelease" "paidDays" "[I", Cond.fieldLink RX0 53 "EquityRelease" "today" "I", Cond.methodLink RX0 116 yX0_rolledUp, Cond.static yX0_rolledUp, Cond.code yX0_rolledUp cX0_rolledUp 9 (some .long), Cond.constantLong RX0 174 (3650000), Cond.methodLink RX0 113 yX0_hasEnded, Cond.instanceMethod yX0_hasEnded, Cond.selects RX0 yX0_hasEnded yX0_hasEnded, Cond.code yX0_hasEnded cX0_hasEnded 1 (some .boolean), Cond.methodLink RX0 59 yX0_isBegun, Cond.instanceMethod yX0_isBegun, Cond.selects RX0 yX0_isBegun yX0_isBegun, Cond.code yX0_isBegun cX0_isBegun 1 (some .boolean)]
def wsL_holds_r3 : List Cond := [Cond.fieldLink RX0 120 "EquityRelease" "lifeCount" "I", Cond.methodLink RX0 130 yX0_livesLeft, Cond.instanceMethod yX0_livesLeft, Cond.selects RX0 yX0_livesLeft yX0_livesLeft, Cond.code yX0_livesLeft cX0_livesLeft 3 (some .int), Cond.fieldLink RX0 17 "EquityRelease" "endDays" "[I", Cond.methodLink RX0 176 yX0_lastEndDay, Cond.instanceMethod yX0_lastEndDay, Cond.selects RX0 yX0_lastEndDay yX0_lastEndDay, Cond.code yX0_lastEndDay cX0_lastEndDay 3 (some .int), Cond.methodLink RX0 163 Lib.Math.max.name, Cond.static Lib.Math.max.name, Cond.initialized "java/lang/Math", Cond.code Lib.Math.max.name Lib.Math.max.code 2 (some .int), Cond.methodLink RL 50 yX0_owed, Cond.instanceMethod yX0_owed, Cond.selects RX0 yX0_owed yX0_owed, Cond.code yX0_owed cX0_owed 1 (some .long), Cond.fieldLink RX0 77 "EquityRelease" "houseWorth" "I", Cond.methodLink RX0 155 Lib.MathLoose.min_long.x, Cond.static Lib.MathLoose.min_long.x, Cond.code Lib.MathLoose.min_long.x Lib.MathLoose.min_long.code 4 (some .long), Cond.methodLink RX0 94 yX0_debt, Cond.methodLink RL 53 yX0_worth]
def wsL_holds_r4 : List Cond := [Cond.instanceMethod yX0_worth, Cond.selects RX0 yX0_worth yX0_worth, Cond.code yX0_worth cX0_worth 1 (some .int), Cond.methodLink RL 56 yX0_spared, Cond.instanceMethod yX0_spared, Cond.selects RX0 yX0_spared yX0_spared, Cond.code yX0_spared cX0_spared 1 (some .long), Cond.methodLink RX0 157 yX0_owed, Cond.methodLink RL 59 yX0_room, Cond.instanceMethod yX0_room, Cond.selects RX0 yX0_room yX0_room, Cond.code yX0_room cX0_room 1 (some .int), Cond.fieldLink RX0 80 "EquityRelease" "roomLeft" "I", Cond.methodLink RL 62 yX0_allowance, Cond.instanceMethod yX0_allowance, Cond.selects RX0 yX0_allowance yX0_allowance, Cond.code yX0_allowance cX0_allowance 3 (some .int), Cond.methodLink RX0 160 yX0_paidThisYear, Cond.instanceMethod yX0_paidThisYear, Cond.selects RX0 yX0_paidThisYear yX0_paidThisYear, Cond.code yX0_paidThisYear cX0_paidThisYear 3 (some .int), Cond.fieldLink RX0 36 "EquityRelease" "paidByTenth" "[I", Cond.methodLink RX0 179 yX0_yearOfLoan, Cond.instanceMethod yX0_yearOfLoan]
def wsL_holds_r5 : List Cond := [Cond.selects RX0 yX0_yearOfLoan yX0_yearOfLoan, Cond.code yX0_yearOfLoan cX0_yearOfLoan 2 (some .int), Cond.fieldLink RX0 74 "EquityRelease" "beginDay" "I", Cond.methodLink RL 65 yX0_age, Cond.instanceMethod yX0_age, Cond.selects RX0 yX0_age yX0_age, Cond.code yX0_age cX0_age 3 (some .int), Cond.fieldLink RX0 13 "EquityRelease" "firstAges" "[I", Cond.methodLink RL 68 yX0_hasEnded]
def wsL_holds : List Cond := .code yL_holds cL_holds 6 (some .boolean) :: ((wsL_holds_r1 ++ (wsL_holds_r2 ++ (wsL_holds_r3 ++ (wsL_holds_r4 ++ wsL_holds_r5)))) ++ wsX00 ++ (vx_atS RX0 127 "java/lang/IndexOutOfBoundsException" ["java/lang/RuntimeException", "java/lang/Exception"]).filter goodWord)
def wsL_loan_r1 : List Cond := [Cond.constant RL 78 (10000000), Cond.constant RL 86 (10000001), Cond.constantLong RL 28 (-3), Cond.methodLink RL 36 yX0_debt, Cond.instanceMethod yX0_debt, Cond.selects RX0 yX0_debt yX0_debt, Cond.initialized RX0, Cond.code yX0_debt cX0_debt 4 (some .long), Cond.fieldLink RX0 89 "EquityRelease" "drawingCount" "I", Cond.fieldLink RX0 29 "EquityRelease" "balances" "[J", Cond.methodLink RX0 147 yX0_wholeAmount, Cond.static yX0_wholeAmount, Cond.code yX0_wholeAmount cX0_wholeAmount 2 (some .long), Cond.constantLong RX0 172 (10000), Cond.methodLink RL 59 yX0_room, Cond.instanceMethod yX0_room, Cond.selects RX0 yX0_room yX0_room, Cond.code yX0_room cX0_room 1 (some .int), Cond.fieldLink RX0 80 "EquityRelease" "roomLeft" "I", Cond.methodLink RL 72 yL_low, Cond.static yL_low, Cond.initialized RL, Cond.code yL_low cL_low 2 (some .int), Cond.constant RL 7 (2147483647)]
def wsL_loan_r2 : List Cond := [Cond.methodLink RL 79 yL_draw, Cond.static yL_draw, Cond.codeWith yL_draw cL_draw 3 (some .int) [(0, 5, 6, 15)], Cond.classLink RL 15 "java/lang/IllegalStateException", Cond.methodLink RL 17 yX0_draw, Cond.instanceMethod yX0_draw, Cond.selects RX0 yX0_draw yX0_draw, Cond.code yX0_draw cX0_draw 2 (some .int), Cond.classLink RX0 63 "java/lang/IllegalStateException", Cond.initialized "java/lang/IllegalStateException", Cond.constant RX0 42 (10000000), Cond.methodLink RX0 43 yX0_requireWithin, Cond.static yX0_requireWithin, Cond.code yX0_requireWithin cX0_requireWithin 3 none, Cond.classLink RX0 165 "java/lang/IllegalArgumentException", Cond.initialized "java/lang/IllegalArgumentException", Cond.methodLink RX0 86 yX0_requireRunning, Cond.instanceMethod yX0_requireRunning, Cond.selects RX0 yX0_requireRunning yX0_requireRunning, Cond.code yX0_requireRunning cX0_requireRunning 1 none, Cond.methodLink RX0 59 yX0_isBegun, Cond.instanceMethod yX0_isBegun, Cond.selects RX0 yX0_isBegun yX0_isBegun, Cond.code yX0_isBegun cX0_isBegun 1 (some .boolean)]
def wsL_loan_r3 : List Cond := [Cond.fieldLink RX0 120 "EquityRelease" "lifeCount" "I", Cond.methodLink RX0 113 yX0_hasEnded, Cond.instanceMethod yX0_hasEnded, Cond.selects RX0 yX0_hasEnded yX0_hasEnded, Cond.code yX0_hasEnded cX0_hasEnded 1 (some .boolean), Cond.methodLink RX0 130 yX0_livesLeft, Cond.instanceMethod yX0_livesLeft, Cond.selects RX0 yX0_livesLeft yX0_livesLeft, Cond.code yX0_livesLeft cX0_livesLeft 3 (some .int), Cond.fieldLink RX0 17 "EquityRelease" "endDays" "[I", Cond.methodLink RX0 83 yX0_addDrawing, Cond.instanceMethod yX0_addDrawing, Cond.selects RX0 yX0_addDrawing yX0_addDrawing, Cond.code yX0_addDrawing cX0_addDrawing 2 none, Cond.fieldLink RX0 20 "EquityRelease" "drawnAmounts" "[I", Cond.fieldLink RX0 23 "EquityRelease" "drawnDays" "[I", Cond.fieldLink RX0 53 "EquityRelease" "today" "I", Cond.fieldLink RX0 26 "EquityRelease" "drawnRates" "[I", Cond.fieldLink RX0 9 "EquityRelease" "rateNow" "I", Cond.methodLink RL 82 yL_charge, Cond.static yL_charge, Cond.codeWith yL_charge cL_charge 3 (some .int) [(0, 5, 6, 15)], Cond.methodLink RL 33 yX0_charge, Cond.instanceMethod yX0_charge]
def wsL_loan_r4 : List Cond := [Cond.selects RX0 yX0_charge yX0_charge, Cond.code yX0_charge cX0_charge 2 (some .int), Cond.methodLink RX0 103 yX0_chargeFor, Cond.instanceMethod yX0_chargeFor, Cond.selects RX0 yX0_chargeFor yX0_chargeFor, Cond.code yX0_chargeFor cX0_chargeFor 4 (some .int), Cond.methodLink RX0 163 Lib.Math.max.name, Cond.static Lib.Math.max.name, Cond.initialized "java/lang/Math", Cond.code Lib.Math.max.name Lib.Math.max.code 2 (some .int), Cond.methodLink RX0 182 yX0_isWaived, Cond.instanceMethod yX0_isWaived, Cond.selects RX0 yX0_isWaived yX0_isWaived, Cond.code yX0_isWaived cX0_isWaived 2 (some .boolean), Cond.methodLink RX0 176 yX0_lastEndDay, Cond.instanceMethod yX0_lastEndDay, Cond.selects RX0 yX0_lastEndDay yX0_lastEndDay, Cond.code yX0_lastEndDay cX0_lastEndDay 3 (some .int), Cond.methodLink RX0 185 yX0_allowance, Cond.instanceMethod yX0_allowance, Cond.selects RX0 yX0_allowance yX0_allowance, Cond.code yX0_allowance cX0_allowance 3 (some .int), Cond.methodLink RX0 160 yX0_paidThisYear, Cond.instanceMethod yX0_paidThisYear]
def wsL_loan_r5 : List Cond := [Cond.selects RX0 yX0_paidThisYear yX0_paidThisYear, Cond.code yX0_paidThisYear cX0_paidThisYear 3 (some .int), Cond.fieldLink RX0 98 "EquityRelease" "paymentCount" "I", Cond.fieldLink RX0 33 "EquityRelease" "paidDays" "[I", Cond.fieldLink RX0 36 "EquityRelease" "paidByTenth" "[I", Cond.methodLink RX0 179 yX0_yearOfLoan, Cond.instanceMethod yX0_yearOfLoan, Cond.selects RX0 yX0_yearOfLoan yX0_yearOfLoan, Cond.code yX0_yearOfLoan cX0_yearOfLoan 2 (some .int), Cond.fieldLink RX0 74 "EquityRelease" "beginDay" "I", Cond.methodLink RL 84 yL_pay, Cond.static yL_pay, Cond.codeWith yL_pay cL_pay 3 (some .int) [(0, 5, 6, 15)], Cond.methodLink RL 21 yX0_pay, Cond.instanceMethod yX0_pay, Cond.selects RX0 yX0_pay yX0_pay, Cond.code yX0_pay cX0_pay 3 (some .int), Cond.methodLink RX0 94 yX0_debt, Cond.methodLink RX0 107 yX0_takeBack, Cond.instanceMethod yX0_takeBack, Cond.selects RX0 yX0_takeBack yX0_takeBack, Cond.code yX0_takeBack cX0_takeBack 9 none, Cond.methodLink RX0 155 Lib.MathLoose.min_long.x, Cond.static Lib.MathLoose.min_long.x]
def wsL_loan_r6 : List Cond := [Cond.code Lib.MathLoose.min_long.x Lib.MathLoose.min_long.code 4 (some .long), Cond.fieldLink RX0 39 "EquityRelease" "takenParts" "[J", Cond.methodLink RL 87 yL_move, Cond.static yL_move, Cond.codeWith yL_move cL_move 3 (some .long) [(0, 5, 6, 15)], Cond.methodLink RL 24 yX0_move, Cond.instanceMethod yX0_move, Cond.selects RX0 yX0_move yX0_move, Cond.code yX0_move cX0_move 5 (some .long), Cond.methodLink RX0 141 Lib.MathLoose.max_long.x, Cond.static Lib.MathLoose.max_long.x, Cond.code Lib.MathLoose.max_long.x Lib.MathLoose.max_long.code 4 (some .long), Cond.fieldLink RX0 77 "EquityRelease" "houseWorth" "I", Cond.methodLink RX0 138 yX0_age, Cond.instanceMethod yX0_age, Cond.selects RX0 yX0_age yX0_age, Cond.code yX0_age cX0_age 3 (some .int), Cond.fieldLink RX0 13 "EquityRelease" "firstAges" "[I", Cond.methodLink RX0 56 yX0_greatestLoan, Cond.static yX0_greatestLoan, Cond.code yX0_greatestLoan cX0_greatestLoan 3 (some .int), Cond.methodLink RX0 47 Lib.Math.min.name, Cond.static Lib.Math.min.name, Cond.code Lib.Math.min.name Lib.Math.min.code 2 (some .int)]
def wsL_loan_r7 : List Cond := [Cond.methodLink RL 90 yX0_value, Cond.instanceMethod yX0_value, Cond.selects RX0 yX0_value yX0_value, Cond.code yX0_value cX0_value 3 (some .int), Cond.methodLink RL 53 yX0_worth, Cond.instanceMethod yX0_worth, Cond.selects RX0 yX0_worth yX0_worth, Cond.code yX0_worth cX0_worth 1 (some .int)]
def wsL_loan : List Cond := .code yL_loan cL_loan 9 (some .boolean) :: ((wsL_loan_r1 ++ (wsL_loan_r2 ++ (wsL_loan_r3 ++ (wsL_loan_r4 ++ (wsL_loan_r5 ++ (wsL_loan_r6 ++ wsL_loan_r7)))))) ++ wsX00 ++ (vx_atS RX0 67 "java/lang/IllegalStateException" ["java/lang/RuntimeException", "java/lang/Exception"]).filter goodWord ++ (vx_atS RX0 169 "java/lang/IllegalArgumentException" ["java/lang/RuntimeException", "java/lang/Exception"]).filter goodWord)
def wsL_law0_r1 : List Cond := [Cond.classLink RL 10 RX0, Cond.instantiable RX0 17, Cond.initialized RX0, Cond.constant RL 105 (9999001), Cond.constant RL 106 (400000), Cond.methodLink RL 93 yX0_init, Cond.instanceMethod yX0_init, Cond.code yX0_init cX0_init 1 none, Cond.methodLink RX0 1 objectInit, Cond.instanceMethod objectInit, Cond.code objectInit ⟨#[0xb1]⟩ 1 none, Cond.fieldLink RX0 9 "EquityRelease" "rateNow" "I", Cond.arrayClass .int, Cond.fieldLink RX0 13 "EquityRelease" "firstAges" "[I", Cond.fieldLink RX0 17 "EquityRelease" "endDays" "[I", Cond.fieldLink RX0 20 "EquityRelease" "drawnAmounts" "[I", Cond.fieldLink RX0 23 "EquityRelease" "drawnDays" "[I", Cond.fieldLink RX0 26 "EquityRelease" "drawnRates" "[I", Cond.arrayClass .long, Cond.fieldLink RX0 29 "EquityRelease" "balances" "[J", Cond.fieldLink RX0 33 "EquityRelease" "paidDays" "[I", Cond.fieldLink RX0 36 "EquityRelease" "paidByTenth" "[I", Cond.fieldLink RX0 39 "EquityRelease" "takenParts" "[J", Cond.methodLink RL 94 yL_holds]
def wsL_law0_r2 : List Cond := [Cond.static yL_holds, Cond.initialized RL, Cond.code yL_holds cL_holds 6 (some .boolean), Cond.methodLink RL 36 yX0_debt, Cond.instanceMethod yX0_debt, Cond.selects RX0 yX0_debt yX0_debt, Cond.code yX0_debt cX0_debt 4 (some .long), Cond.fieldLink RX0 89 "EquityRelease" "drawingCount" "I", Cond.methodLink RX0 147 yX0_wholeAmount, Cond.static yX0_wholeAmount, Cond.code yX0_wholeAmount cX0_wholeAmount 2 (some .long), Cond.constantLong RX0 172 (10000), Cond.methodLink RL 40 yX0_drawings, Cond.instanceMethod yX0_drawings, Cond.selects RX0 yX0_drawings yX0_drawings, Cond.code yX0_drawings cX0_drawings 1 (some .int), Cond.methodLink RL 44 yX0_balance, Cond.instanceMethod yX0_balance, Cond.selects RX0 yX0_balance yX0_balance, Cond.code yX0_balance cX0_balance 2 (some .long), Cond.classLink RX0 123 "java/lang/IndexOutOfBoundsException", Cond.initialized "java/lang/IndexOutOfBoundsException", Cond.methodLink RL 47 yX0_debtAnew, Cond.instanceMethod yX0_debtAnew]
def wsL_law0_r3 : List Cond := [Cond.selects RX0 yX0_debtAnew yX0_debtAnew, Cond.code yX0_debtAnew cX0_debtAnew 4 (some .long), Cond.methodLink RX0 151 yX0_balanceAnew, Cond.instanceMethod yX0_balanceAnew, Cond.selects RX0 yX0_balanceAnew yX0_balanceAnew, Cond.code yX0_balanceAnew cX0_balanceAnew 8 (some .long), Cond.fieldLink RX0 98 "EquityRelease" "paymentCount" "I", Cond.fieldLink RX0 53 "EquityRelease" "today" "I", Cond.methodLink RX0 116 yX0_rolledUp, Cond.static yX0_rolledUp, Cond.code yX0_rolledUp cX0_rolledUp 9 (some .long), Cond.constantLong RX0 174 (3650000), Cond.methodLink RX0 113 yX0_hasEnded, Cond.instanceMethod yX0_hasEnded, Cond.selects RX0 yX0_hasEnded yX0_hasEnded, Cond.code yX0_hasEnded cX0_hasEnded 1 (some .boolean), Cond.methodLink RX0 59 yX0_isBegun, Cond.instanceMethod yX0_isBegun, Cond.selects RX0 yX0_isBegun yX0_isBegun, Cond.code yX0_isBegun cX0_isBegun 1 (some .boolean), Cond.fieldLink RX0 120 "EquityRelease" "lifeCount" "I", Cond.methodLink RX0 130 yX0_livesLeft, Cond.instanceMethod yX0_livesLeft, Cond.selects RX0 yX0_livesLeft yX0_livesLeft]
def wsL_law0_r4 : List Cond := [Cond.code yX0_livesLeft cX0_livesLeft 3 (some .int), Cond.methodLink RX0 176 yX0_lastEndDay, Cond.instanceMethod yX0_lastEndDay, Cond.selects RX0 yX0_lastEndDay yX0_lastEndDay, Cond.code yX0_lastEndDay cX0_lastEndDay 3 (some .int), Cond.methodLink RX0 163 Lib.Math.max.name, Cond.static Lib.Math.max.name, Cond.initialized "java/lang/Math", Cond.code Lib.Math.max.name Lib.Math.max.code 2 (some .int), Cond.methodLink RL 50 yX0_owed, Cond.instanceMethod yX0_owed, Cond.selects RX0 yX0_owed yX0_owed, Cond.code yX0_owed cX0_owed 1 (some .long), Cond.fieldLink RX0 77 "EquityRelease" "houseWorth" "I", Cond.methodLink RX0 155 Lib.MathLoose.min_long.x, Cond.static Lib.MathLoose.min_long.x, Cond.code Lib.MathLoose.min_long.x Lib.MathLoose.min_long.code 4 (some .long), Cond.methodLink RX0 94 yX0_debt, Cond.methodLink RL 53 yX0_worth, Cond.instanceMethod yX0_worth, Cond.selects RX0 yX0_worth yX0_worth, Cond.code yX0_worth cX0_worth 1 (some .int), Cond.methodLink RL 56 yX0_spared, Cond.instanceMethod yX0_spared]
def wsL_law0_r5 : List Cond := [Cond.selects RX0 yX0_spared yX0_spared, Cond.code yX0_spared cX0_spared 1 (some .long), Cond.methodLink RX0 157 yX0_owed, Cond.methodLink RL 59 yX0_room, Cond.instanceMethod yX0_room, Cond.selects RX0 yX0_room yX0_room, Cond.code yX0_room cX0_room 1 (some .int), Cond.fieldLink RX0 80 "EquityRelease" "roomLeft" "I", Cond.methodLink RL 62 yX0_allowance, Cond.instanceMethod yX0_allowance, Cond.selects RX0 yX0_allowance yX0_allowance, Cond.code yX0_allowance cX0_allowance 3 (some .int), Cond.methodLink RX0 160 yX0_paidThisYear, Cond.instanceMethod yX0_paidThisYear, Cond.selects RX0 yX0_paidThisYear yX0_paidThisYear, Cond.code yX0_paidThisYear cX0_paidThisYear 3 (some .int), Cond.methodLink RX0 179 yX0_yearOfLoan, Cond.instanceMethod yX0_yearOfLoan, Cond.selects RX0 yX0_yearOfLoan yX0_yearOfLoan, Cond.code yX0_yearOfLoan cX0_yearOfLoan 2 (some .int), Cond.fieldLink RX0 74 "EquityRelease" "beginDay" "I", Cond.methodLink RL 65 yX0_age, Cond.instanceMethod yX0_age, Cond.selects RX0 yX0_age yX0_age]
def wsL_law0_r6 : List Cond := [Cond.code yX0_age cX0_age 3 (some .int), Cond.methodLink RL 68 yX0_hasEnded, Cond.methodLink RL 98 yX0_setRate, Cond.instanceMethod yX0_setRate, Cond.selects RX0 yX0_setRate yX0_setRate, Cond.code yX0_setRate cX0_setRate 3 (some .int), Cond.methodLink RX0 43 yX0_requireWithin, Cond.static yX0_requireWithin, Cond.code yX0_requireWithin cX0_requireWithin 3 none, Cond.classLink RX0 165 "java/lang/IllegalArgumentException", Cond.initialized "java/lang/IllegalArgumentException", Cond.methodLink RL 101 yL_cell, Cond.static yL_cell, Cond.code yL_cell cL_cell 2 (some .int), Cond.constant RL 8 (40503), Cond.methodLink RL 72 yL_low, Cond.static yL_low, Cond.code yL_low cL_low 2 (some .int), Cond.constant RL 7 (2147483647), Cond.methodLink RL 107 yL_begin, Cond.static yL_begin, Cond.codeWith yL_begin cL_begin 6 (some .int) [(0, 9, 10, 15)], Cond.classLink RL 15 "java/lang/IllegalStateException", Cond.methodLink RL 9 yX0_begin]
def wsL_law0_r7 : List Cond := [Cond.instanceMethod yX0_begin, Cond.selects RX0 yX0_begin yX0_begin, Cond.code yX0_begin cX0_begin 7 (some .int), Cond.classLink RX0 63 "java/lang/IllegalStateException", Cond.initialized "java/lang/IllegalStateException", Cond.constant RX0 42 (10000000), Cond.methodLink RX0 47 Lib.Math.min.name, Cond.static Lib.Math.min.name, Cond.code Lib.Math.min.name Lib.Math.min.code 2 (some .int), Cond.methodLink RX0 56 yX0_greatestLoan, Cond.static yX0_greatestLoan, Cond.code yX0_greatestLoan cX0_greatestLoan 3 (some .int), Cond.methodLink RX0 70 yX0_addLife, Cond.instanceMethod yX0_addLife, Cond.selects RX0 yX0_addLife yX0_addLife, Cond.code yX0_addLife cX0_addLife 2 none, Cond.methodLink RX0 83 yX0_addDrawing, Cond.instanceMethod yX0_addDrawing, Cond.selects RX0 yX0_addDrawing yX0_addDrawing, Cond.code yX0_addDrawing cX0_addDrawing 2 none, Cond.methodLink RL 110 yL_loan, Cond.static yL_loan, Cond.code yL_loan cL_loan 9 (some .boolean), Cond.constant RL 78 (10000000)]
def wsL_law0_r8 : List Cond := [Cond.constant RL 86 (10000001), Cond.constantLong RL 28 (-3), Cond.methodLink RL 79 yL_draw, Cond.static yL_draw, Cond.codeWith yL_draw cL_draw 3 (some .int) [(0, 5, 6, 15)], Cond.methodLink RL 17 yX0_draw, Cond.instanceMethod yX0_draw, Cond.selects RX0 yX0_draw yX0_draw, Cond.code yX0_draw cX0_draw 2 (some .int), Cond.methodLink RX0 86 yX0_requireRunning, Cond.instanceMethod yX0_requireRunning, Cond.selects RX0 yX0_requireRunning yX0_requireRunning, Cond.code yX0_requireRunning cX0_requireRunning 1 none, Cond.methodLink RL 82 yL_charge, Cond.static yL_charge, Cond.codeWith yL_charge cL_charge 3 (some .int) [(0, 5, 6, 15)], Cond.methodLink RL 33 yX0_charge, Cond.instanceMethod yX0_charge, Cond.selects RX0 yX0_charge yX0_charge, Cond.code yX0_charge cX0_charge 2 (some .int), Cond.methodLink RX0 103 yX0_chargeFor, Cond.instanceMethod yX0_chargeFor, Cond.selects RX0 yX0_chargeFor yX0_chargeFor, Cond.code yX0_chargeFor cX0_chargeFor 4 (some .int)]
def wsL_law0_r9 : List Cond := [Cond.methodLink RX0 182 yX0_isWaived, Cond.instanceMethod yX0_isWaived, Cond.selects RX0 yX0_isWaived yX0_isWaived, Cond.code yX0_isWaived cX0_isWaived 2 (some .boolean), Cond.methodLink RX0 185 yX0_allowance, Cond.methodLink RL 84 yL_pay, Cond.static yL_pay, Cond.codeWith yL_pay cL_pay 3 (some .int) [(0, 5, 6, 15)], Cond.methodLink RL 21 yX0_pay, Cond.instanceMethod yX0_pay, Cond.selects RX0 yX0_pay yX0_pay, Cond.code yX0_pay cX0_pay 3 (some .int), Cond.methodLink RX0 107 yX0_takeBack, Cond.instanceMethod yX0_takeBack, Cond.selects RX0 yX0_takeBack yX0_takeBack, Cond.code yX0_takeBack cX0_takeBack 9 none, Cond.methodLink RL 87 yL_move, Cond.static yL_move, Cond.codeWith yL_move cL_move 3 (some .long) [(0, 5, 6, 15)], Cond.methodLink RL 24 yX0_move, Cond.instanceMethod yX0_move, Cond.selects RX0 yX0_move yX0_move, Cond.code yX0_move cX0_move 5 (some .long), Cond.methodLink RX0 141 Lib.MathLoose.max_long.x]
def wsL_law0_r10 : List Cond := [Cond.static Lib.MathLoose.max_long.x, Cond.code Lib.MathLoose.max_long.x Lib.MathLoose.max_long.code 4 (some .long), Cond.methodLink RX0 138 yX0_age, Cond.methodLink RL 90 yX0_value, Cond.instanceMethod yX0_value, Cond.selects RX0 yX0_value yX0_value, Cond.code yX0_value cX0_value 3 (some .int), Cond.methodLink RL 114 yX0_end, Cond.instanceMethod yX0_end, Cond.selects RX0 yX0_end yX0_end, Cond.code yX0_end cX0_end 2 (some .int), Cond.methodLink RL 117 yX0_day, Cond.instanceMethod yX0_day, Cond.selects RX0 yX0_day yX0_day, Cond.code yX0_day cX0_day 1 (some .int), Cond.methodLink RL 120 yL_pass, Cond.static yL_pass, Cond.codeWith yL_pass cL_pass 3 (some .int) [(0, 5, 6, 15)], Cond.methodLink RL 30 yX0_pass, Cond.instanceMethod yX0_pass, Cond.selects RX0 yX0_pass yX0_pass, Cond.code yX0_pass cX0_pass 3 (some .int)]
def wsL_law0 : List Cond := (wsL_law0_r1 ++ (wsL_law0_r2 ++ (wsL_law0_r3 ++ (wsL_law0_r4 ++ (wsL_law0_r5 ++ (wsL_law0_r6 ++ (wsL_law0_r7 ++ (wsL_law0_r8 ++ (wsL_law0_r9 ++ wsL_law0_r10))))))))) ++ wsX00 ++ ([] : List Cond)
def wsL_law : List Cond := wsL_law0 ++ (vx_atS RX0 127 "java/lang/IndexOutOfBoundsException" ["java/lang/RuntimeException", "java/lang/Exception"]).filter goodWord ++ (vx_atS RX0 169 "java/lang/IllegalArgumentException" ["java/lang/RuntimeException", "java/lang/Exception"]).filter goodWord ++ (vx_atS RX0 67 "java/lang/IllegalStateException" ["java/lang/RuntimeException", "java/lang/Exception"]).filter goodWord
set_option maxRecDepth 20000 in
theorem wsL_law_in0 : ∀ w ∈ wsL_law0, w ∈ lw_tbl := fun w h => (goodIn_p wsL_law0 [26, 29, 282, 230, 233, 226, 286, 291, 295, 278, 206, 210, 198, 299, 302, 306, 310, 218, 314, 222, 319, 323, 327, 214, 87, 90, 241, 237, 250, 254, 257, 262, 266, 330, 338, 342, 351, 355, 359, 367, 372, 380, 385, 390, 162, 202, 273] (by decide +kernel) (by decide +kernel) w h).1
theorem wsL_law_x0 : ∀ w ∈ (vx_atS RX0 127 "java/lang/IndexOutOfBoundsException" ["java/lang/RuntimeException", "java/lang/Exception"]).filter goodWord, w ∈ lw_tbl := by decide +kernel
theorem wsL_law_x1 : ∀ w ∈ (vx_atS RX0 169 "java/lang/IllegalArgumentException" ["java/lang/RuntimeException", "java/lang/Exception"]).filter goodWord, w ∈ lw_tbl := by decide +kernel
theorem wsL_law_x2 : ∀ w ∈ (vx_atS RX0 67 "java/lang/IllegalStateException" ["java/lang/RuntimeException", "java/lang/Exception"]).filter goodWord, w ∈ lw_tbl := by decide +kernel
theorem wsL_law_in : ∀ w ∈ wsL_law, w ∈ lw_tbl := fun w h => (List.mem_append.mp h).elim (fun h => (List.mem_append.mp h).elim (fun h => (List.mem_append.mp h).elim (fun h => wsL_law_in0 w h) (fun h => wsL_law_x0 w h)) (fun h => wsL_law_x1 w h)) (fun h => wsL_law_x2 w h)
theorem inlX0 : ∀ w ∈ wsX00, w ∈ wsL_law := fun _ h => List.mem_append_left _ (List.mem_append_left _ (List.mem_append_left _ (List.mem_append_left _ (List.mem_append_right _ h))))
theorem inX0 : ∀ w ∈ wsX00, w ∈ lw_tbl := fun w h => wsL_law_in w (inlX0 w h)
theorem inX1 : ∀ w ∈ wsX10, w ∈ lw_tbl := by decide +kernel
theorem inJ9 : ∀ w ∈ wsJ90, w ∈ lw_tbl := by decide +kernel
theorem inJ0 : ∀ w ∈ wsJ00, w ∈ lw_tbl := by decide +kernel
theorem dX0_init_0 : decode cX0_init 0 = .ok (.aload_n 0, 1) := by decide +kernel
theorem dX0_init_1 : decode cX0_init 1 = .ok (.invokespecial 1, 3) := by decide +kernel
theorem dX0_init_4 : decode cX0_init 4 = .ok (.aload_n 0, 1) := by decide +kernel
theorem dX0_init_5 : decode cX0_init 5 = .ok (.sipush 500, 3) := by decide +kernel
theorem dX0_init_8 : decode cX0_init 8 = .ok (.putfield 9, 3) := by decide +kernel
theorem dX0_init_11 : decode cX0_init 11 = .ok (.aload_n 0, 1) := by decide +kernel
theorem dX0_init_12 : decode cX0_init 12 = .ok (.iconst 2, 1) := by decide +kernel
theorem dX0_init_13 : decode cX0_init 13 = .ok (.newarray .int, 2) := by decide +kernel
theorem dX0_init_15 : decode cX0_init 15 = .ok (.putfield 13, 3) := by decide +kernel
theorem dX0_init_18 : decode cX0_init 18 = .ok (.aload_n 0, 1) := by decide +kernel
theorem dX0_init_19 : decode cX0_init 19 = .ok (.iconst 2, 1) := by decide +kernel
theorem dX0_init_20 : decode cX0_init 20 = .ok (.newarray .int, 2) := by decide +kernel
theorem dX0_init_22 : decode cX0_init 22 = .ok (.putfield 17, 3) := by decide +kernel
theorem dX0_init_25 : decode cX0_init 25 = .ok (.aload_n 0, 1) := by decide +kernel
theorem dX0_init_26 : decode cX0_init 26 = .ok (.bipush 20, 2) := by decide +kernel
theorem dX0_init_28 : decode cX0_init 28 = .ok (.newarray .int, 2) := by decide +kernel
theorem dX0_init_30 : decode cX0_init 30 = .ok (.putfield 20, 3) := by decide +kernel
theorem dX0_init_33 : decode cX0_init 33 = .ok (.aload_n 0, 1) := by decide +kernel
theorem dX0_init_34 : decode cX0_init 34 = .ok (.bipush 20, 2) := by decide +kernel
theorem dX0_init_36 : decode cX0_init 36 = .ok (.newarray .int, 2) := by decide +kernel
theorem dX0_init_38 : decode cX0_init 38 = .ok (.putfield 23, 3) := by decide +kernel
theorem dX0_init_41 : decode cX0_init 41 = .ok (.aload_n 0, 1) := by decide +kernel
theorem dX0_init_42 : decode cX0_init 42 = .ok (.bipush 20, 2) := by decide +kernel
theorem dX0_init_44 : decode cX0_init 44 = .ok (.newarray .int, 2) := by decide +kernel
theorem dX0_init_46 : decode cX0_init 46 = .ok (.putfield 26, 3) := by decide +kernel
theorem dX0_init_49 : decode cX0_init 49 = .ok (.aload_n 0, 1) := by decide +kernel
theorem dX0_init_50 : decode cX0_init 50 = .ok (.bipush 20, 2) := by decide +kernel
theorem dX0_init_52 : decode cX0_init 52 = .ok (.newarray .long, 2) := by decide +kernel
theorem dX0_init_54 : decode cX0_init 54 = .ok (.putfield 29, 3) := by decide +kernel
theorem dX0_init_57 : decode cX0_init 57 = .ok (.aload_n 0, 1) := by decide +kernel
theorem dX0_init_58 : decode cX0_init 58 = .ok (.bipush 40, 2) := by decide +kernel
theorem dX0_init_60 : decode cX0_init 60 = .ok (.newarray .int, 2) := by decide +kernel
theorem dX0_init_62 : decode cX0_init 62 = .ok (.putfield 33, 3) := by decide +kernel
theorem dX0_init_65 : decode cX0_init 65 = .ok (.aload_n 0, 1) := by decide +kernel
theorem dX0_init_66 : decode cX0_init 66 = .ok (.bipush 40, 2) := by decide +kernel
theorem dX0_init_68 : decode cX0_init 68 = .ok (.newarray .int, 2) := by decide +kernel
theorem dX0_init_70 : decode cX0_init 70 = .ok (.putfield 36, 3) := by decide +kernel
theorem dX0_init_73 : decode cX0_init 73 = .ok (.aload_n 0, 1) := by decide +kernel
theorem dX0_init_74 : decode cX0_init 74 = .ok (.sipush 800, 3) := by decide +kernel
theorem dX0_init_77 : decode cX0_init 77 = .ok (.newarray .long, 2) := by decide +kernel
theorem dX0_init_79 : decode cX0_init 79 = .ok (.putfield 39, 3) := by decide +kernel
theorem dX0_init_82 : decode cX0_init 82 = .ok (.return_, 1) := by decide +kernel
set_option maxRecDepth 20000 in
theorem ggX0_begin_X0_requireWithin : GoodIn wsX0_begin wsX0_requireWithin := goodIn_ca (goodIn_r _ [15, 16, 17] (by decide +kernel) (by decide +kernel)) (goodIn_sub (fun _ h => List.mem_cons_of_mem _ (List.mem_append_right _ h)) (by decide +kernel))
set_option maxRecDepth 20000 in
theorem gX0_begin_X0_requireWithin : GoodIn wsX0_begin (va_wsS RX0 43 yX0_requireWithin wsX0_requireWithin) := goodIn_app (goodIn_of _ (by decide +kernel)) ggX0_begin_X0_requireWithin
set_option maxRecDepth 20000 in
theorem ggX0_begin_X0_greatestLoan : GoodIn wsX0_begin wsX0_greatestLoan := goodIn_r _ [20, 4, 5, 6, 7] (by decide +kernel) (by decide +kernel)
set_option maxRecDepth 20000 in
theorem gX0_begin_X0_greatestLoan : GoodIn wsX0_begin (va_wsS RX0 56 yX0_greatestLoan wsX0_greatestLoan) := goodIn_app (goodIn_of _ (by decide +kernel)) ggX0_begin_X0_greatestLoan
set_option maxRecDepth 20000 in
theorem ggX0_begin_X0_isBegun : GoodIn wsX0_begin wsX0_isBegun := goodIn_r _ [24, 25, 43, 44, 45, 46, 47, 48, 49, 50, 51, 52, 53, 54, 55, 56, 57, 58, 59] (by decide +kernel) (by decide +kernel)
set_option maxRecDepth 20000 in
theorem gX0_begin_X0_isBegun : GoodIn wsX0_begin (wsV RX0 59 RX0 yX0_isBegun wsX0_isBegun) := goodIn_app (goodIn_of _ (by decide +kernel)) ggX0_begin_X0_isBegun
set_option maxRecDepth 20000 in
theorem ggX0_begin_X0_addLife : GoodIn wsX0_begin wsX0_addLife := goodIn_r _ [29, 25, 30, 31, 43, 44, 45, 46, 47, 48, 49, 50, 51, 52, 53, 54, 55, 56, 57, 58, 59] (by decide +kernel) (by decide +kernel)
set_option maxRecDepth 20000 in
theorem gX0_begin_X0_addLife : GoodIn wsX0_begin (wsV RX0 70 RX0 yX0_addLife wsX0_addLife) := goodIn_app (goodIn_of _ (by decide +kernel)) ggX0_begin_X0_addLife
set_option maxRecDepth 20000 in
theorem ggX0_begin_X0_addDrawing : GoodIn wsX0_begin wsX0_addDrawing := goodIn_r _ [35, 36, 37, 38, 8, 39, 40, 41, 42, 11, 43, 44, 45, 46, 47, 48, 49, 50, 51, 52, 53, 54, 55, 56, 57, 58, 59] (by decide +kernel) (by decide +kernel)
set_option maxRecDepth 20000 in
theorem gX0_begin_X0_addDrawing : GoodIn wsX0_begin (wsV RX0 83 RX0 yX0_addDrawing wsX0_addDrawing) := goodIn_app (goodIn_of _ (by decide +kernel)) ggX0_begin_X0_addDrawing
theorem dX0_begin_0 : decode cX0_begin 0 = .ok (.iload_n 1, 1) := by decide +kernel
theorem dX0_begin_1 : decode cX0_begin 1 = .ok (.sipush 1000, 3) := by decide +kernel
theorem dX0_begin_4 : decode cX0_begin 4 = .ok (.ldc 42, 2) := by decide +kernel
theorem dX0_begin_6 : decode cX0_begin 6 = .ok (.invokestatic 43, 3) := by decide +kernel
theorem dX0_begin_9 : decode cX0_begin 9 = .ok (.iload_n 2, 1) := by decide +kernel
theorem dX0_begin_10 : decode cX0_begin 10 = .ok (.bipush 55, 2) := by decide +kernel
theorem dX0_begin_12 : decode cX0_begin 12 = .ok (.bipush 95, 2) := by decide +kernel
theorem dX0_begin_14 : decode cX0_begin 14 = .ok (.invokestatic 43, 3) := by decide +kernel
theorem dX0_begin_17 : decode cX0_begin 17 = .ok (.iload_n 3, 1) := by decide +kernel
theorem dX0_begin_18 : decode cX0_begin 18 = .ok (.ifCond .eq 11, 3) := by decide +kernel
theorem dX0_begin_21 : decode cX0_begin 21 = .ok (.iload_n 3, 1) := by decide +kernel
theorem dX0_begin_22 : decode cX0_begin 22 = .ok (.bipush 55, 2) := by decide +kernel
theorem dX0_begin_24 : decode cX0_begin 24 = .ok (.bipush 95, 2) := by decide +kernel
theorem dX0_begin_26 : decode cX0_begin 26 = .ok (.invokestatic 43, 3) := by decide +kernel
theorem dX0_begin_29 : decode cX0_begin 29 = .ok (.iload 4, 2) := by decide +kernel
theorem dX0_begin_31 : decode cX0_begin 31 = .ok (.iconst 0, 1) := by decide +kernel
theorem dX0_begin_32 : decode cX0_begin 32 = .ok (.ldc 42, 2) := by decide +kernel
theorem dX0_begin_34 : decode cX0_begin 34 = .ok (.invokestatic 43, 3) := by decide +kernel
theorem dX0_begin_37 : decode cX0_begin 37 = .ok (.iload_n 3, 1) := by decide +kernel
theorem dX0_begin_38 : decode cX0_begin 38 = .ok (.ifCond .ne 7, 3) := by decide +kernel
theorem dX0_begin_41 : decode cX0_begin 41 = .ok (.iload_n 2, 1) := by decide +kernel
theorem dX0_begin_42 : decode cX0_begin 42 = .ok (.goto 8, 3) := by decide +kernel
theorem dX0_begin_45 : decode cX0_begin 45 = .ok (.iload_n 2, 1) := by decide +kernel
theorem dX0_begin_46 : decode cX0_begin 46 = .ok (.iload_n 3, 1) := by decide +kernel
theorem dX0_begin_47 : decode cX0_begin 47 = .ok (.invokestatic 47, 3) := by decide +kernel
theorem dX0_begin_50 : decode cX0_begin 50 = .ok (.istore 5, 2) := by decide +kernel
theorem dX0_begin_52 : decode cX0_begin 52 = .ok (.iload_n 1, 1) := by decide +kernel
theorem dX0_begin_53 : decode cX0_begin 53 = .ok (.iload 5, 2) := by decide +kernel
theorem dX0_begin_55 : decode cX0_begin 55 = .ok (.aload_n 0, 1) := by decide +kernel
theorem dX0_begin_56 : decode cX0_begin 56 = .ok (.getfield 53, 3) := by decide +kernel
theorem dX0_begin_59 : decode cX0_begin 59 = .ok (.sipush 365, 3) := by decide +kernel
theorem dX0_begin_62 : decode cX0_begin 62 = .ok (.idiv, 1) := by decide +kernel
theorem dX0_begin_63 : decode cX0_begin 63 = .ok (.iadd, 1) := by decide +kernel
theorem dX0_begin_64 : decode cX0_begin 64 = .ok (.invokestatic 56, 3) := by decide +kernel
theorem dX0_begin_67 : decode cX0_begin 67 = .ok (.istore 6, 2) := by decide +kernel
theorem dX0_begin_69 : decode cX0_begin 69 = .ok (.aload_n 0, 1) := by decide +kernel
theorem dX0_begin_70 : decode cX0_begin 70 = .ok (.invokevirtual 59, 3) := by decide +kernel
theorem dX0_begin_73 : decode cX0_begin 73 = .ok (.ifCond .ne 10, 3) := by decide +kernel
theorem dX0_begin_76 : decode cX0_begin 76 = .ok (.iload 4, 2) := by decide +kernel
theorem dX0_begin_78 : decode cX0_begin 78 = .ok (.iload 6, 2) := by decide +kernel
theorem dX0_begin_80 : decode cX0_begin 80 = .ok (.if_icmp .le 13, 3) := by decide +kernel
theorem dX0_begin_83 : decode cX0_begin 83 = .ok (.new 63, 3) := by decide +kernel
theorem dX0_begin_86 : decode cX0_begin 86 = .ok (.dup, 1) := by decide +kernel
theorem dX0_begin_87 : decode cX0_begin 87 = .ok (.ldc 65, 2) := by decide +kernel
theorem dX0_begin_89 : decode cX0_begin 89 = .ok (.invokespecial 67, 3) := by decide +kernel
theorem dX0_begin_92 : decode cX0_begin 92 = .ok (.athrow, 1) := by decide +kernel
theorem dX0_begin_93 : decode cX0_begin 93 = .ok (.aload_n 0, 1) := by decide +kernel
theorem dX0_begin_94 : decode cX0_begin 94 = .ok (.iload_n 2, 1) := by decide +kernel
theorem dX0_begin_95 : decode cX0_begin 95 = .ok (.invokevirtual 70, 3) := by decide +kernel
theorem dX0_begin_98 : decode cX0_begin 98 = .ok (.iload_n 3, 1) := by decide +kernel
theorem dX0_begin_99 : decode cX0_begin 99 = .ok (.ifCond .eq 8, 3) := by decide +kernel
theorem dX0_begin_102 : decode cX0_begin 102 = .ok (.aload_n 0, 1) := by decide +kernel
theorem dX0_begin_103 : decode cX0_begin 103 = .ok (.iload_n 3, 1) := by decide +kernel
theorem dX0_begin_104 : decode cX0_begin 104 = .ok (.invokevirtual 70, 3) := by decide +kernel
theorem dX0_begin_107 : decode cX0_begin 107 = .ok (.aload_n 0, 1) := by decide +kernel
theorem dX0_begin_108 : decode cX0_begin 108 = .ok (.aload_n 0, 1) := by decide +kernel
theorem dX0_begin_109 : decode cX0_begin 109 = .ok (.getfield 53, 3) := by decide +kernel
theorem dX0_begin_112 : decode cX0_begin 112 = .ok (.putfield 74, 3) := by decide +kernel
theorem dX0_begin_115 : decode cX0_begin 115 = .ok (.aload_n 0, 1) := by decide +kernel
theorem dX0_begin_116 : decode cX0_begin 116 = .ok (.iload_n 1, 1) := by decide +kernel
theorem dX0_begin_117 : decode cX0_begin 117 = .ok (.putfield 77, 3) := by decide +kernel
theorem dX0_begin_120 : decode cX0_begin 120 = .ok (.aload_n 0, 1) := by decide +kernel
theorem dX0_begin_121 : decode cX0_begin 121 = .ok (.iload 6, 2) := by decide +kernel
theorem dX0_begin_123 : decode cX0_begin 123 = .ok (.putfield 80, 3) := by decide +kernel
theorem dX0_begin_126 : decode cX0_begin 126 = .ok (.iload 4, 2) := by decide +kernel
theorem dX0_begin_128 : decode cX0_begin 128 = .ok (.ifCond .le 9, 3) := by decide +kernel
theorem dX0_begin_131 : decode cX0_begin 131 = .ok (.aload_n 0, 1) := by decide +kernel
theorem dX0_begin_132 : decode cX0_begin 132 = .ok (.iload 4, 2) := by decide +kernel
theorem dX0_begin_134 : decode cX0_begin 134 = .ok (.invokevirtual 83, 3) := by decide +kernel
theorem dX0_begin_137 : decode cX0_begin 137 = .ok (.aload_n 0, 1) := by decide +kernel
theorem dX0_begin_138 : decode cX0_begin 138 = .ok (.getfield 80, 3) := by decide +kernel
theorem dX0_begin_141 : decode cX0_begin 141 = .ok (.ireturn, 1) := by decide +kernel
set_option maxRecDepth 20000 in
theorem ggX0_setRate_X0_requireWithin : GoodIn wsX0_setRate wsX0_requireWithin := goodIn_ca (goodIn_r _ [5, 6, 7] (by decide +kernel) (by decide +kernel)) (goodIn_sub (fun _ h => List.mem_cons_of_mem _ (List.mem_append_right _ h)) (by decide +kernel))
set_option maxRecDepth 20000 in
theorem gX0_setRate_X0_requireWithin : GoodIn wsX0_setRate (va_wsS RX0 43 yX0_requireWithin wsX0_requireWithin) := goodIn_app (goodIn_of _ (by decide +kernel)) ggX0_setRate_X0_requireWithin
theorem dX0_setRate_0 : decode cX0_setRate 0 = .ok (.iload_n 1, 1) := by decide +kernel
theorem dX0_setRate_1 : decode cX0_setRate 1 = .ok (.iconst 0, 1) := by decide +kernel
theorem dX0_setRate_2 : decode cX0_setRate 2 = .ok (.sipush 2000, 3) := by decide +kernel
theorem dX0_setRate_5 : decode cX0_setRate 5 = .ok (.invokestatic 43, 3) := by decide +kernel
theorem dX0_setRate_8 : decode cX0_setRate 8 = .ok (.aload_n 0, 1) := by decide +kernel
theorem dX0_setRate_9 : decode cX0_setRate 9 = .ok (.getfield 9, 3) := by decide +kernel
theorem dX0_setRate_12 : decode cX0_setRate 12 = .ok (.istore_n 2, 1) := by decide +kernel
theorem dX0_setRate_13 : decode cX0_setRate 13 = .ok (.aload_n 0, 1) := by decide +kernel
theorem dX0_setRate_14 : decode cX0_setRate 14 = .ok (.iload_n 1, 1) := by decide +kernel
theorem dX0_setRate_15 : decode cX0_setRate 15 = .ok (.putfield 9, 3) := by decide +kernel
theorem dX0_setRate_18 : decode cX0_setRate 18 = .ok (.iload_n 2, 1) := by decide +kernel
theorem dX0_setRate_19 : decode cX0_setRate 19 = .ok (.ireturn, 1) := by decide +kernel
set_option maxRecDepth 20000 in
theorem ggX0_draw_X0_requireWithin : GoodIn wsX0_draw wsX0_requireWithin := goodIn_ca (goodIn_r _ [9, 10, 11] (by decide +kernel) (by decide +kernel)) (goodIn_sub (fun _ h => List.mem_cons_of_mem _ (List.mem_append_right _ h)) (by decide +kernel))
set_option maxRecDepth 20000 in
theorem gX0_draw_X0_requireWithin : GoodIn wsX0_draw (va_wsS RX0 43 yX0_requireWithin wsX0_requireWithin) := goodIn_app (goodIn_of _ (by decide +kernel)) ggX0_draw_X0_requireWithin
set_option maxRecDepth 20000 in
theorem ggX0_draw_X0_requireRunning : GoodIn wsX0_draw wsX0_requireRunning := goodIn_ca (goodIn_r _ [15, 1, 2, 16, 17, 18, 8, 19, 20, 21, 22, 23, 24, 25, 26, 27, 28, 29, 41, 42, 43, 44, 45, 46, 47, 48, 49, 50, 51, 52, 53, 54, 55, 56, 57] (by decide +kernel) (by decide +kernel)) (goodIn_sub (fun _ h => List.mem_cons_of_mem _ (List.mem_append_left _ (List.mem_append_right _ h))) (by decide +kernel))
set_option maxRecDepth 20000 in
theorem gX0_draw_X0_requireRunning : GoodIn wsX0_draw (wsV RX0 86 RX0 yX0_requireRunning wsX0_requireRunning) := goodIn_app (goodIn_of _ (by decide +kernel)) ggX0_draw_X0_requireRunning
set_option maxRecDepth 20000 in
theorem ggX0_draw_X0_addDrawing : GoodIn wsX0_draw wsX0_addDrawing := goodIn_r _ [33, 5, 34, 35, 36, 37, 38, 39, 40, 4, 41, 42, 43, 44, 45, 46, 47, 48, 49, 50, 51, 52, 53, 54, 55, 56, 57] (by decide +kernel) (by decide +kernel)
set_option maxRecDepth 20000 in
theorem gX0_draw_X0_addDrawing : GoodIn wsX0_draw (wsV RX0 83 RX0 yX0_addDrawing wsX0_addDrawing) := goodIn_app (goodIn_of _ (by decide +kernel)) ggX0_draw_X0_addDrawing
theorem dX0_draw_0 : decode cX0_draw 0 = .ok (.iload_n 1, 1) := by decide +kernel
theorem dX0_draw_1 : decode cX0_draw 1 = .ok (.iconst 1, 1) := by decide +kernel
theorem dX0_draw_2 : decode cX0_draw 2 = .ok (.ldc 42, 2) := by decide +kernel
theorem dX0_draw_4 : decode cX0_draw 4 = .ok (.invokestatic 43, 3) := by decide +kernel
theorem dX0_draw_7 : decode cX0_draw 7 = .ok (.aload_n 0, 1) := by decide +kernel
theorem dX0_draw_8 : decode cX0_draw 8 = .ok (.invokevirtual 86, 3) := by decide +kernel
theorem dX0_draw_11 : decode cX0_draw 11 = .ok (.iload_n 1, 1) := by decide +kernel
theorem dX0_draw_12 : decode cX0_draw 12 = .ok (.aload_n 0, 1) := by decide +kernel
theorem dX0_draw_13 : decode cX0_draw 13 = .ok (.getfield 80, 3) := by decide +kernel
theorem dX0_draw_16 : decode cX0_draw 16 = .ok (.if_icmp .gt 12, 3) := by decide +kernel
theorem dX0_draw_19 : decode cX0_draw 19 = .ok (.aload_n 0, 1) := by decide +kernel
theorem dX0_draw_20 : decode cX0_draw 20 = .ok (.getfield 89, 3) := by decide +kernel
theorem dX0_draw_23 : decode cX0_draw 23 = .ok (.bipush 20, 2) := by decide +kernel
theorem dX0_draw_25 : decode cX0_draw 25 = .ok (.if_icmp .lt 13, 3) := by decide +kernel
theorem dX0_draw_28 : decode cX0_draw 28 = .ok (.new 63, 3) := by decide +kernel
theorem dX0_draw_31 : decode cX0_draw 31 = .ok (.dup, 1) := by decide +kernel
theorem dX0_draw_32 : decode cX0_draw 32 = .ok (.ldc 92, 2) := by decide +kernel
theorem dX0_draw_34 : decode cX0_draw 34 = .ok (.invokespecial 67, 3) := by decide +kernel
theorem dX0_draw_37 : decode cX0_draw 37 = .ok (.athrow, 1) := by decide +kernel
theorem dX0_draw_38 : decode cX0_draw 38 = .ok (.aload_n 0, 1) := by decide +kernel
theorem dX0_draw_39 : decode cX0_draw 39 = .ok (.iload_n 1, 1) := by decide +kernel
theorem dX0_draw_40 : decode cX0_draw 40 = .ok (.invokevirtual 83, 3) := by decide +kernel
theorem dX0_draw_43 : decode cX0_draw 43 = .ok (.aload_n 0, 1) := by decide +kernel
theorem dX0_draw_44 : decode cX0_draw 44 = .ok (.getfield 80, 3) := by decide +kernel
theorem dX0_draw_47 : decode cX0_draw 47 = .ok (.ireturn, 1) := by decide +kernel
set_option maxRecDepth 20000 in
theorem ggX0_pay_X0_requireWithin : GoodIn wsX0_pay wsX0_requireWithin := goodIn_ca (goodIn_r _ [8, 9, 10] (by decide +kernel) (by decide +kernel)) (goodIn_sub (fun _ h => List.mem_cons_of_mem _ (List.mem_append_right _ h)) (by decide +kernel))
set_option maxRecDepth 20000 in
theorem gX0_pay_X0_requireWithin : GoodIn wsX0_pay (va_wsS RX0 43 yX0_requireWithin wsX0_requireWithin) := goodIn_app (goodIn_of _ (by decide +kernel)) ggX0_pay_X0_requireWithin
set_option maxRecDepth 20000 in
theorem ggX0_pay_X0_requireRunning : GoodIn wsX0_pay wsX0_requireRunning := goodIn_ca (goodIn_r _ [14, 1, 2, 15, 16, 17, 7, 18, 19, 20, 21, 22, 23, 24, 25, 26, 27, 28, 80, 81, 82, 83, 84, 85, 86, 87, 88, 89, 90, 91, 92, 93, 94, 95, 96] (by decide +kernel) (by decide +kernel)) (goodIn_sub (fun _ h => List.mem_cons_of_mem _ (List.mem_append_left _ (List.mem_append_right _ h))) (by decide +kernel))
set_option maxRecDepth 20000 in
theorem gX0_pay_X0_requireRunning : GoodIn wsX0_pay (wsV RX0 86 RX0 yX0_requireRunning wsX0_requireRunning) := goodIn_app (goodIn_of _ (by decide +kernel)) ggX0_pay_X0_requireRunning
set_option maxRecDepth 20000 in
theorem ggX0_pay_X0_debt : GoodIn wsX0_pay wsX0_debt := goodIn_r _ [32, 33, 34, 35, 36, 7, 37, 38, 80, 81, 82, 83, 84, 85, 86, 87, 88, 89, 90, 91, 92, 93, 94, 95, 96] (by decide +kernel) (by decide +kernel)
set_option maxRecDepth 20000 in
theorem gX0_pay_X0_debt : GoodIn wsX0_pay (wsV RX0 94 RX0 yX0_debt wsX0_debt) := goodIn_app (goodIn_of _ (by decide +kernel)) ggX0_pay_X0_debt
set_option maxRecDepth 20000 in
theorem ggX0_pay_X0_chargeFor : GoodIn wsX0_pay wsX0_chargeFor := goodIn_r _ [42, 43, 44, 45, 46, 47, 48, 49, 50, 7, 51, 52, 53, 54, 55, 19, 28, 56, 57, 58, 59, 33, 60, 61, 62, 63, 64, 4, 65, 66, 67, 68, 69, 70, 71, 80, 81, 82, 83, 84, 85, 86, 87, 88, 89, 90, 91, 92, 93, 94, 95, 96] (by decide +kernel) (by decide +kernel)
set_option maxRecDepth 20000 in
theorem gX0_pay_X0_chargeFor : GoodIn wsX0_pay (wsV RX0 103 RX0 yX0_chargeFor wsX0_chargeFor) := goodIn_app (goodIn_of _ (by decide +kernel)) ggX0_pay_X0_chargeFor
set_option maxRecDepth 20000 in
theorem ggX0_pay_X0_takeBack : GoodIn wsX0_pay wsX0_takeBack := goodIn_r _ [75, 4, 38, 33, 34, 76, 77, 45, 78, 79, 65, 47, 66, 80, 81, 82, 83, 84, 85, 86, 87, 88, 89, 90, 91, 92, 93, 94, 95, 96] (by decide +kernel) (by decide +kernel)
set_option maxRecDepth 20000 in
theorem gX0_pay_X0_takeBack : GoodIn wsX0_pay (wsV RX0 107 RX0 yX0_takeBack wsX0_takeBack) := goodIn_app (goodIn_of _ (by decide +kernel)) ggX0_pay_X0_takeBack
theorem dX0_pay_0 : decode cX0_pay 0 = .ok (.iload_n 1, 1) := by decide +kernel
theorem dX0_pay_1 : decode cX0_pay 1 = .ok (.iconst 1, 1) := by decide +kernel
theorem dX0_pay_2 : decode cX0_pay 2 = .ok (.ldc 42, 2) := by decide +kernel
theorem dX0_pay_4 : decode cX0_pay 4 = .ok (.invokestatic 43, 3) := by decide +kernel
theorem dX0_pay_7 : decode cX0_pay 7 = .ok (.aload_n 0, 1) := by decide +kernel
theorem dX0_pay_8 : decode cX0_pay 8 = .ok (.invokevirtual 86, 3) := by decide +kernel
theorem dX0_pay_11 : decode cX0_pay 11 = .ok (.iload_n 1, 1) := by decide +kernel
theorem dX0_pay_12 : decode cX0_pay 12 = .ok (.i2l, 1) := by decide +kernel
theorem dX0_pay_13 : decode cX0_pay 13 = .ok (.aload_n 0, 1) := by decide +kernel
theorem dX0_pay_14 : decode cX0_pay 14 = .ok (.invokevirtual 94, 3) := by decide +kernel
theorem dX0_pay_17 : decode cX0_pay 17 = .ok (.lcmp, 1) := by decide +kernel
theorem dX0_pay_18 : decode cX0_pay 18 = .ok (.ifCond .gt 12, 3) := by decide +kernel
theorem dX0_pay_21 : decode cX0_pay 21 = .ok (.aload_n 0, 1) := by decide +kernel
theorem dX0_pay_22 : decode cX0_pay 22 = .ok (.getfield 98, 3) := by decide +kernel
theorem dX0_pay_25 : decode cX0_pay 25 = .ok (.bipush 40, 2) := by decide +kernel
theorem dX0_pay_27 : decode cX0_pay 27 = .ok (.if_icmp .lt 13, 3) := by decide +kernel
theorem dX0_pay_30 : decode cX0_pay 30 = .ok (.new 63, 3) := by decide +kernel
theorem dX0_pay_33 : decode cX0_pay 33 = .ok (.dup, 1) := by decide +kernel
theorem dX0_pay_34 : decode cX0_pay 34 = .ok (.ldc 101, 2) := by decide +kernel
theorem dX0_pay_36 : decode cX0_pay 36 = .ok (.invokespecial 67, 3) := by decide +kernel
theorem dX0_pay_39 : decode cX0_pay 39 = .ok (.athrow, 1) := by decide +kernel
theorem dX0_pay_40 : decode cX0_pay 40 = .ok (.aload_n 0, 1) := by decide +kernel
theorem dX0_pay_41 : decode cX0_pay 41 = .ok (.iload_n 1, 1) := by decide +kernel
theorem dX0_pay_42 : decode cX0_pay 42 = .ok (.invokevirtual 103, 3) := by decide +kernel
theorem dX0_pay_45 : decode cX0_pay 45 = .ok (.istore_n 2, 1) := by decide +kernel
theorem dX0_pay_46 : decode cX0_pay 46 = .ok (.aload_n 0, 1) := by decide +kernel
theorem dX0_pay_47 : decode cX0_pay 47 = .ok (.iload_n 1, 1) := by decide +kernel
theorem dX0_pay_48 : decode cX0_pay 48 = .ok (.i2l, 1) := by decide +kernel
theorem dX0_pay_49 : decode cX0_pay 49 = .ok (.iload_n 1, 1) := by decide +kernel
theorem dX0_pay_50 : decode cX0_pay 50 = .ok (.invokevirtual 107, 3) := by decide +kernel
theorem dX0_pay_53 : decode cX0_pay 53 = .ok (.iload_n 2, 1) := by decide +kernel
theorem dX0_pay_54 : decode cX0_pay 54 = .ok (.ireturn, 1) := by decide +kernel
set_option maxRecDepth 20000 in
theorem ggX0_pass_X0_requireWithin : GoodIn wsX0_pass wsX0_requireWithin := goodIn_ca (goodIn_r _ [10, 11, 12] (by decide +kernel) (by decide +kernel)) (goodIn_sub (fun _ h => List.mem_cons_of_mem _ (List.mem_append_right _ h)) (by decide +kernel))
set_option maxRecDepth 20000 in
theorem gX0_pass_X0_requireWithin : GoodIn wsX0_pass (va_wsS RX0 43 yX0_requireWithin wsX0_requireWithin) := goodIn_app (goodIn_of _ (by decide +kernel)) ggX0_pass_X0_requireWithin
set_option maxRecDepth 20000 in
theorem ggX0_pass_X0_hasEnded : GoodIn wsX0_pass wsX0_hasEnded := goodIn_r _ [16, 17, 18, 19, 9, 20, 21, 22, 23, 24, 25, 26, 31, 32, 33, 34, 35, 36, 37, 38, 39, 40, 41, 42, 43, 44, 45, 46, 47] (by decide +kernel) (by decide +kernel)
set_option maxRecDepth 20000 in
theorem gX0_pass_X0_hasEnded : GoodIn wsX0_pass (wsV RX0 113 RX0 yX0_hasEnded wsX0_hasEnded) := goodIn_app (goodIn_of _ (by decide +kernel)) ggX0_pass_X0_hasEnded
set_option maxRecDepth 20000 in
theorem ggX0_pass_X0_rolledUp : GoodIn wsX0_pass wsX0_rolledUp := goodIn_r _ [29, 30] (by decide +kernel) (by decide +kernel)
set_option maxRecDepth 20000 in
theorem gX0_pass_X0_rolledUp : GoodIn wsX0_pass (va_wsS RX0 116 yX0_rolledUp wsX0_rolledUp) := goodIn_app (goodIn_of _ (by decide +kernel)) ggX0_pass_X0_rolledUp
theorem dX0_pass_0 : decode cX0_pass 0 = .ok (.iload_n 1, 1) := by decide +kernel
theorem dX0_pass_1 : decode cX0_pass 1 = .ok (.iconst 1, 1) := by decide +kernel
theorem dX0_pass_2 : decode cX0_pass 2 = .ok (.sipush 3650, 3) := by decide +kernel
theorem dX0_pass_5 : decode cX0_pass 5 = .ok (.invokestatic 43, 3) := by decide +kernel
theorem dX0_pass_8 : decode cX0_pass 8 = .ok (.iload_n 1, 1) := by decide +kernel
theorem dX0_pass_9 : decode cX0_pass 9 = .ok (.sipush 15000, 3) := by decide +kernel
theorem dX0_pass_12 : decode cX0_pass 12 = .ok (.aload_n 0, 1) := by decide +kernel
theorem dX0_pass_13 : decode cX0_pass 13 = .ok (.getfield 53, 3) := by decide +kernel
theorem dX0_pass_16 : decode cX0_pass 16 = .ok (.isub, 1) := by decide +kernel
theorem dX0_pass_17 : decode cX0_pass 17 = .ok (.if_icmp .le 13, 3) := by decide +kernel
theorem dX0_pass_20 : decode cX0_pass 20 = .ok (.new 63, 3) := by decide +kernel
theorem dX0_pass_23 : decode cX0_pass 23 = .ok (.dup, 1) := by decide +kernel
theorem dX0_pass_24 : decode cX0_pass 24 = .ok (.ldc 111, 2) := by decide +kernel
theorem dX0_pass_26 : decode cX0_pass 26 = .ok (.invokespecial 67, 3) := by decide +kernel
theorem dX0_pass_29 : decode cX0_pass 29 = .ok (.athrow, 1) := by decide +kernel
theorem dX0_pass_30 : decode cX0_pass 30 = .ok (.aload_n 0, 1) := by decide +kernel
theorem dX0_pass_31 : decode cX0_pass 31 = .ok (.dup, 1) := by decide +kernel
theorem dX0_pass_32 : decode cX0_pass 32 = .ok (.getfield 53, 3) := by decide +kernel
theorem dX0_pass_35 : decode cX0_pass 35 = .ok (.iload_n 1, 1) := by decide +kernel
theorem dX0_pass_36 : decode cX0_pass 36 = .ok (.iadd, 1) := by decide +kernel
theorem dX0_pass_37 : decode cX0_pass 37 = .ok (.putfield 53, 3) := by decide +kernel
theorem dX0_pass_40 : decode cX0_pass 40 = .ok (.aload_n 0, 1) := by decide +kernel
theorem dX0_pass_41 : decode cX0_pass 41 = .ok (.invokevirtual 113, 3) := by decide +kernel
theorem dX0_pass_44 : decode cX0_pass 44 = .ok (.ifCond .ne 41, 3) := by decide +kernel
theorem dX0_pass_47 : decode cX0_pass 47 = .ok (.iconst 0, 1) := by decide +kernel
theorem dX0_pass_48 : decode cX0_pass 48 = .ok (.istore_n 2, 1) := by decide +kernel
theorem dX0_pass_49 : decode cX0_pass 49 = .ok (.iload_n 2, 1) := by decide +kernel
theorem dX0_pass_50 : decode cX0_pass 50 = .ok (.aload_n 0, 1) := by decide +kernel
theorem dX0_pass_51 : decode cX0_pass 51 = .ok (.getfield 89, 3) := by decide +kernel
theorem dX0_pass_54 : decode cX0_pass 54 = .ok (.if_icmp .ge 31, 3) := by decide +kernel
theorem dX0_pass_57 : decode cX0_pass 57 = .ok (.aload_n 0, 1) := by decide +kernel
theorem dX0_pass_58 : decode cX0_pass 58 = .ok (.getfield 29, 3) := by decide +kernel
theorem dX0_pass_61 : decode cX0_pass 61 = .ok (.iload_n 2, 1) := by decide +kernel
theorem dX0_pass_62 : decode cX0_pass 62 = .ok (.aload_n 0, 1) := by decide +kernel
theorem dX0_pass_63 : decode cX0_pass 63 = .ok (.getfield 29, 3) := by decide +kernel
theorem dX0_pass_66 : decode cX0_pass 66 = .ok (.iload_n 2, 1) := by decide +kernel
theorem dX0_pass_67 : decode cX0_pass 67 = .ok (.laload, 1) := by decide +kernel
theorem dX0_pass_68 : decode cX0_pass 68 = .ok (.aload_n 0, 1) := by decide +kernel
theorem dX0_pass_69 : decode cX0_pass 69 = .ok (.getfield 26, 3) := by decide +kernel
theorem dX0_pass_72 : decode cX0_pass 72 = .ok (.iload_n 2, 1) := by decide +kernel
theorem dX0_pass_73 : decode cX0_pass 73 = .ok (.iaload, 1) := by decide +kernel
theorem dX0_pass_74 : decode cX0_pass 74 = .ok (.iload_n 1, 1) := by decide +kernel
theorem dX0_pass_75 : decode cX0_pass 75 = .ok (.invokestatic 116, 3) := by decide +kernel
theorem dX0_pass_78 : decode cX0_pass 78 = .ok (.lastore, 1) := by decide +kernel
theorem dX0_pass_79 : decode cX0_pass 79 = .ok (.iinc 2 1, 3) := by decide +kernel
theorem dX0_pass_82 : decode cX0_pass 82 = .ok (.goto (-33), 3) := by decide +kernel
theorem dX0_pass_85 : decode cX0_pass 85 = .ok (.aload_n 0, 1) := by decide +kernel
theorem dX0_pass_86 : decode cX0_pass 86 = .ok (.getfield 53, 3) := by decide +kernel
theorem dX0_pass_89 : decode cX0_pass 89 = .ok (.ireturn, 1) := by decide +kernel
set_option maxRecDepth 20000 in
theorem ggX0_end_X0_livesLeft : GoodIn wsX0_end wsX0_livesLeft := goodIn_r _ [12, 5, 6, 13, 14, 15, 16, 17, 18, 19, 20, 21, 22, 23, 24, 25, 26, 27, 28, 29] (by decide +kernel) (by decide +kernel)
set_option maxRecDepth 20000 in
theorem gX0_end_X0_livesLeft : GoodIn wsX0_end (wsV RX0 130 RX0 yX0_livesLeft wsX0_livesLeft) := goodIn_app (goodIn_of _ (by decide +kernel)) ggX0_end_X0_livesLeft
theorem dX0_end_0 : decode cX0_end 0 = .ok (.iload_n 1, 1) := by decide +kernel
theorem dX0_end_1 : decode cX0_end 1 = .ok (.ifCond .lt 11, 3) := by decide +kernel
theorem dX0_end_4 : decode cX0_end 4 = .ok (.iload_n 1, 1) := by decide +kernel
theorem dX0_end_5 : decode cX0_end 5 = .ok (.aload_n 0, 1) := by decide +kernel
theorem dX0_end_6 : decode cX0_end 6 = .ok (.getfield 120, 3) := by decide +kernel
theorem dX0_end_9 : decode cX0_end 9 = .ok (.if_icmp .lt 13, 3) := by decide +kernel
theorem dX0_end_12 : decode cX0_end 12 = .ok (.new 123, 3) := by decide +kernel
theorem dX0_end_15 : decode cX0_end 15 = .ok (.dup, 1) := by decide +kernel
theorem dX0_end_16 : decode cX0_end 16 = .ok (.ldc 125, 2) := by decide +kernel
theorem dX0_end_18 : decode cX0_end 18 = .ok (.invokespecial 127, 3) := by decide +kernel
theorem dX0_end_21 : decode cX0_end 21 = .ok (.athrow, 1) := by decide +kernel
theorem dX0_end_22 : decode cX0_end 22 = .ok (.aload_n 0, 1) := by decide +kernel
theorem dX0_end_23 : decode cX0_end 23 = .ok (.getfield 17, 3) := by decide +kernel
theorem dX0_end_26 : decode cX0_end 26 = .ok (.iload_n 1, 1) := by decide +kernel
theorem dX0_end_27 : decode cX0_end 27 = .ok (.iaload, 1) := by decide +kernel
theorem dX0_end_28 : decode cX0_end 28 = .ok (.iconst (-1), 1) := by decide +kernel
theorem dX0_end_29 : decode cX0_end 29 = .ok (.if_icmp .eq 13, 3) := by decide +kernel
theorem dX0_end_32 : decode cX0_end 32 = .ok (.new 63, 3) := by decide +kernel
theorem dX0_end_35 : decode cX0_end 35 = .ok (.dup, 1) := by decide +kernel
theorem dX0_end_36 : decode cX0_end 36 = .ok (.ldc 128, 2) := by decide +kernel
theorem dX0_end_38 : decode cX0_end 38 = .ok (.invokespecial 67, 3) := by decide +kernel
theorem dX0_end_41 : decode cX0_end 41 = .ok (.athrow, 1) := by decide +kernel
theorem dX0_end_42 : decode cX0_end 42 = .ok (.aload_n 0, 1) := by decide +kernel
theorem dX0_end_43 : decode cX0_end 43 = .ok (.getfield 17, 3) := by decide +kernel
theorem dX0_end_46 : decode cX0_end 46 = .ok (.iload_n 1, 1) := by decide +kernel
theorem dX0_end_47 : decode cX0_end 47 = .ok (.aload_n 0, 1) := by decide +kernel
theorem dX0_end_48 : decode cX0_end 48 = .ok (.getfield 53, 3) := by decide +kernel
theorem dX0_end_51 : decode cX0_end 51 = .ok (.iastore, 1) := by decide +kernel
theorem dX0_end_52 : decode cX0_end 52 = .ok (.aload_n 0, 1) := by decide +kernel
theorem dX0_end_53 : decode cX0_end 53 = .ok (.invokevirtual 130, 3) := by decide +kernel
theorem dX0_end_56 : decode cX0_end 56 = .ok (.ireturn, 1) := by decide +kernel
set_option maxRecDepth 20000 in
theorem ggX0_value_X0_requireWithin : GoodIn wsX0_value wsX0_requireWithin := goodIn_ca (goodIn_r _ [8, 9, 10] (by decide +kernel) (by decide +kernel)) (goodIn_sub (fun _ h => List.mem_cons_of_mem _ (List.mem_append_right _ h)) (by decide +kernel))
set_option maxRecDepth 20000 in
theorem gX0_value_X0_requireWithin : GoodIn wsX0_value (va_wsS RX0 43 yX0_requireWithin wsX0_requireWithin) := goodIn_app (goodIn_of _ (by decide +kernel)) ggX0_value_X0_requireWithin
set_option maxRecDepth 20000 in
theorem ggX0_value_X0_isBegun : GoodIn wsX0_value wsX0_isBegun := goodIn_r _ [14, 15, 16, 17, 18, 19, 20, 21, 22, 23, 24, 25, 26, 27, 28, 29, 30, 31, 32] (by decide +kernel) (by decide +kernel)
set_option maxRecDepth 20000 in
theorem gX0_value_X0_isBegun : GoodIn wsX0_value (wsV RX0 59 RX0 yX0_isBegun wsX0_isBegun) := goodIn_app (goodIn_of _ (by decide +kernel)) ggX0_value_X0_isBegun
theorem dX0_value_0 : decode cX0_value 0 = .ok (.iload_n 1, 1) := by decide +kernel
theorem dX0_value_1 : decode cX0_value 1 = .ok (.iconst 0, 1) := by decide +kernel
theorem dX0_value_2 : decode cX0_value 2 = .ok (.ldc 42, 2) := by decide +kernel
theorem dX0_value_4 : decode cX0_value 4 = .ok (.invokestatic 43, 3) := by decide +kernel
theorem dX0_value_7 : decode cX0_value 7 = .ok (.aload_n 0, 1) := by decide +kernel
theorem dX0_value_8 : decode cX0_value 8 = .ok (.invokevirtual 59, 3) := by decide +kernel
theorem dX0_value_11 : decode cX0_value 11 = .ok (.ifCond .ne 13, 3) := by decide +kernel
theorem dX0_value_14 : decode cX0_value 14 = .ok (.new 63, 3) := by decide +kernel
theorem dX0_value_17 : decode cX0_value 17 = .ok (.dup, 1) := by decide +kernel
theorem dX0_value_18 : decode cX0_value 18 = .ok (.ldc 134, 2) := by decide +kernel
theorem dX0_value_20 : decode cX0_value 20 = .ok (.invokespecial 67, 3) := by decide +kernel
theorem dX0_value_23 : decode cX0_value 23 = .ok (.athrow, 1) := by decide +kernel
theorem dX0_value_24 : decode cX0_value 24 = .ok (.aload_n 0, 1) := by decide +kernel
theorem dX0_value_25 : decode cX0_value 25 = .ok (.getfield 77, 3) := by decide +kernel
theorem dX0_value_28 : decode cX0_value 28 = .ok (.istore_n 2, 1) := by decide +kernel
theorem dX0_value_29 : decode cX0_value 29 = .ok (.aload_n 0, 1) := by decide +kernel
theorem dX0_value_30 : decode cX0_value 30 = .ok (.iload_n 1, 1) := by decide +kernel
theorem dX0_value_31 : decode cX0_value 31 = .ok (.putfield 77, 3) := by decide +kernel
theorem dX0_value_34 : decode cX0_value 34 = .ok (.iload_n 2, 1) := by decide +kernel
theorem dX0_value_35 : decode cX0_value 35 = .ok (.ireturn, 1) := by decide +kernel
set_option maxRecDepth 20000 in
theorem ggX0_move_X0_requireWithin : GoodIn wsX0_move wsX0_requireWithin := goodIn_ca (goodIn_r _ [14, 15, 16] (by decide +kernel) (by decide +kernel)) (goodIn_sub (fun _ h => List.mem_cons_of_mem _ (List.mem_append_right _ h)) (by decide +kernel))
set_option maxRecDepth 20000 in
theorem gX0_move_X0_requireWithin : GoodIn wsX0_move (va_wsS RX0 43 yX0_requireWithin wsX0_requireWithin) := goodIn_app (goodIn_of _ (by decide +kernel)) ggX0_move_X0_requireWithin
set_option maxRecDepth 20000 in
theorem ggX0_move_X0_requireRunning : GoodIn wsX0_move wsX0_requireRunning := goodIn_ca (goodIn_r _ [20, 1, 2, 21, 22, 23, 13, 24, 25, 26, 27, 28, 29, 30, 31, 32, 33, 34, 67, 68, 69, 70, 71, 72, 73, 74, 75, 76, 77, 78, 79, 80, 81, 82, 83] (by decide +kernel) (by decide +kernel)) (goodIn_sub (fun _ h => List.mem_cons_of_mem _ (List.mem_append_left _ (List.mem_append_right _ h))) (by decide +kernel))
set_option maxRecDepth 20000 in
theorem gX0_move_X0_requireRunning : GoodIn wsX0_move (wsV RX0 86 RX0 yX0_requireRunning wsX0_requireRunning) := goodIn_app (goodIn_of _ (by decide +kernel)) ggX0_move_X0_requireRunning
set_option maxRecDepth 20000 in
theorem ggX0_move_X0_age : GoodIn wsX0_move wsX0_age := goodIn_r _ [38, 25, 34, 39, 40, 67, 68, 69, 70, 71, 72, 73, 74, 75, 76, 77, 78, 79, 80, 81, 82, 83] (by decide +kernel) (by decide +kernel)
set_option maxRecDepth 20000 in
theorem gX0_move_X0_age : GoodIn wsX0_move (wsV RX0 138 RX0 yX0_age wsX0_age) := goodIn_app (goodIn_of _ (by decide +kernel)) ggX0_move_X0_age
set_option maxRecDepth 20000 in
theorem ggX0_move_X0_greatestLoan : GoodIn wsX0_move wsX0_greatestLoan := goodIn_r _ [43, 44, 45, 7, 46] (by decide +kernel) (by decide +kernel)
set_option maxRecDepth 20000 in
theorem gX0_move_X0_greatestLoan : GoodIn wsX0_move (va_wsS RX0 56 yX0_greatestLoan wsX0_greatestLoan) := goodIn_app (goodIn_of _ (by decide +kernel)) ggX0_move_X0_greatestLoan
set_option maxRecDepth 20000 in
theorem ggX0_move_X0_debt : GoodIn wsX0_move wsX0_debt := goodIn_r _ [50, 51, 52, 53, 54, 13, 55, 56, 67, 68, 69, 70, 71, 72, 73, 74, 75, 76, 77, 78, 79, 80, 81, 82, 83] (by decide +kernel) (by decide +kernel)
set_option maxRecDepth 20000 in
theorem gX0_move_X0_debt : GoodIn wsX0_move (wsV RX0 94 RX0 yX0_debt wsX0_debt) := goodIn_app (goodIn_of _ (by decide +kernel)) ggX0_move_X0_debt
set_option maxRecDepth 20000 in
theorem ggX0_move_X0_takeBack : GoodIn wsX0_move wsX0_takeBack := goodIn_r _ [60, 4, 56, 51, 52, 61, 62, 7, 63, 64, 65, 40, 66, 67, 68, 69, 70, 71, 72, 73, 74, 75, 76, 77, 78, 79, 80, 81, 82, 83] (by decide +kernel) (by decide +kernel)
set_option maxRecDepth 20000 in
theorem gX0_move_X0_takeBack : GoodIn wsX0_move (wsV RX0 107 RX0 yX0_takeBack wsX0_takeBack) := goodIn_app (goodIn_of _ (by decide +kernel)) ggX0_move_X0_takeBack
theorem dX0_move_0 : decode cX0_move 0 = .ok (.iload_n 1, 1) := by decide +kernel
theorem dX0_move_1 : decode cX0_move 1 = .ok (.iconst 0, 1) := by decide +kernel
theorem dX0_move_2 : decode cX0_move 2 = .ok (.ldc 42, 2) := by decide +kernel
theorem dX0_move_4 : decode cX0_move 4 = .ok (.invokestatic 43, 3) := by decide +kernel
theorem dX0_move_7 : decode cX0_move 7 = .ok (.aload_n 0, 1) := by decide +kernel
theorem dX0_move_8 : decode cX0_move 8 = .ok (.invokevirtual 86, 3) := by decide +kernel
theorem dX0_move_11 : decode cX0_move 11 = .ok (.aload_n 0, 1) := by decide +kernel
theorem dX0_move_12 : decode cX0_move 12 = .ok (.getfield 98, 3) := by decide +kernel
theorem dX0_move_15 : decode cX0_move 15 = .ok (.bipush 40, 2) := by decide +kernel
theorem dX0_move_17 : decode cX0_move 17 = .ok (.if_icmp .lt 13, 3) := by decide +kernel
theorem dX0_move_20 : decode cX0_move 20 = .ok (.new 63, 3) := by decide +kernel
theorem dX0_move_23 : decode cX0_move 23 = .ok (.dup, 1) := by decide +kernel
theorem dX0_move_24 : decode cX0_move 24 = .ok (.ldc 136, 2) := by decide +kernel
theorem dX0_move_26 : decode cX0_move 26 = .ok (.invokespecial 67, 3) := by decide +kernel
theorem dX0_move_29 : decode cX0_move 29 = .ok (.athrow, 1) := by decide +kernel
theorem dX0_move_30 : decode cX0_move 30 = .ok (.iload_n 1, 1) := by decide +kernel
theorem dX0_move_31 : decode cX0_move 31 = .ok (.aload_n 0, 1) := by decide +kernel
theorem dX0_move_32 : decode cX0_move 32 = .ok (.invokevirtual 138, 3) := by decide +kernel
theorem dX0_move_35 : decode cX0_move 35 = .ok (.invokestatic 56, 3) := by decide +kernel
theorem dX0_move_38 : decode cX0_move 38 = .ok (.istore_n 2, 1) := by decide +kernel
theorem dX0_move_39 : decode cX0_move 39 = .ok (.lconst 0, 1) := by decide +kernel
theorem dX0_move_40 : decode cX0_move 40 = .ok (.aload_n 0, 1) := by decide +kernel
theorem dX0_move_41 : decode cX0_move 41 = .ok (.invokevirtual 94, 3) := by decide +kernel
theorem dX0_move_44 : decode cX0_move 44 = .ok (.iload_n 2, 1) := by decide +kernel
theorem dX0_move_45 : decode cX0_move 45 = .ok (.i2l, 1) := by decide +kernel
theorem dX0_move_46 : decode cX0_move 46 = .ok (.lsub, 1) := by decide +kernel
theorem dX0_move_47 : decode cX0_move 47 = .ok (.invokestatic 141, 3) := by decide +kernel
theorem dX0_move_50 : decode cX0_move 50 = .ok (.lstore_n 3, 1) := by decide +kernel
theorem dX0_move_51 : decode cX0_move 51 = .ok (.lload_n 3, 1) := by decide +kernel
theorem dX0_move_52 : decode cX0_move 52 = .ok (.lconst 0, 1) := by decide +kernel
theorem dX0_move_53 : decode cX0_move 53 = .ok (.lcmp, 1) := by decide +kernel
theorem dX0_move_54 : decode cX0_move 54 = .ok (.ifCond .le 9, 3) := by decide +kernel
theorem dX0_move_57 : decode cX0_move 57 = .ok (.aload_n 0, 1) := by decide +kernel
theorem dX0_move_58 : decode cX0_move 58 = .ok (.lload_n 3, 1) := by decide +kernel
theorem dX0_move_59 : decode cX0_move 59 = .ok (.iconst 0, 1) := by decide +kernel
theorem dX0_move_60 : decode cX0_move 60 = .ok (.invokevirtual 107, 3) := by decide +kernel
theorem dX0_move_63 : decode cX0_move 63 = .ok (.aload_n 0, 1) := by decide +kernel
theorem dX0_move_64 : decode cX0_move 64 = .ok (.iload_n 1, 1) := by decide +kernel
theorem dX0_move_65 : decode cX0_move 65 = .ok (.putfield 77, 3) := by decide +kernel
theorem dX0_move_68 : decode cX0_move 68 = .ok (.aload_n 0, 1) := by decide +kernel
theorem dX0_move_69 : decode cX0_move 69 = .ok (.lconst 0, 1) := by decide +kernel
theorem dX0_move_70 : decode cX0_move 70 = .ok (.iload_n 2, 1) := by decide +kernel
theorem dX0_move_71 : decode cX0_move 71 = .ok (.i2l, 1) := by decide +kernel
theorem dX0_move_72 : decode cX0_move 72 = .ok (.aload_n 0, 1) := by decide +kernel
theorem dX0_move_73 : decode cX0_move 73 = .ok (.invokevirtual 94, 3) := by decide +kernel
theorem dX0_move_76 : decode cX0_move 76 = .ok (.lsub, 1) := by decide +kernel
theorem dX0_move_77 : decode cX0_move 77 = .ok (.invokestatic 141, 3) := by decide +kernel
theorem dX0_move_80 : decode cX0_move 80 = .ok (.l2i, 1) := by decide +kernel
theorem dX0_move_81 : decode cX0_move 81 = .ok (.putfield 80, 3) := by decide +kernel
theorem dX0_move_84 : decode cX0_move 84 = .ok (.lload_n 3, 1) := by decide +kernel
theorem dX0_move_85 : decode cX0_move 85 = .ok (.lreturn, 1) := by decide +kernel
theorem dX0_day_0 : decode cX0_day 0 = .ok (.aload_n 0, 1) := by decide +kernel
theorem dX0_day_1 : decode cX0_day 1 = .ok (.getfield 53, 3) := by decide +kernel
theorem dX0_day_4 : decode cX0_day 4 = .ok (.ireturn, 1) := by decide +kernel
set_option maxRecDepth 20000 in
theorem ggX0_hasEnded_X0_isBegun : GoodIn wsX0_hasEnded wsX0_isBegun := goodIn_r _ [5, 6, 12, 13, 14, 15, 16, 17, 18, 19, 20, 21, 22, 23, 24, 25, 26, 27, 28] (by decide +kernel) (by decide +kernel)
set_option maxRecDepth 20000 in
theorem gX0_hasEnded_X0_isBegun : GoodIn wsX0_hasEnded (wsV RX0 59 RX0 yX0_isBegun wsX0_isBegun) := goodIn_app (goodIn_of _ (by decide +kernel)) ggX0_hasEnded_X0_isBegun
set_option maxRecDepth 20000 in
theorem ggX0_hasEnded_X0_livesLeft : GoodIn wsX0_hasEnded wsX0_livesLeft := goodIn_r _ [10, 6, 11, 12, 13, 14, 15, 16, 17, 18, 19, 20, 21, 22, 23, 24, 25, 26, 27, 28] (by decide +kernel) (by decide +kernel)
set_option maxRecDepth 20000 in
theorem gX0_hasEnded_X0_livesLeft : GoodIn wsX0_hasEnded (wsV RX0 130 RX0 yX0_livesLeft wsX0_livesLeft) := goodIn_app (goodIn_of _ (by decide +kernel)) ggX0_hasEnded_X0_livesLeft
theorem dX0_hasEnded_0 : decode cX0_hasEnded 0 = .ok (.aload_n 0, 1) := by decide +kernel
theorem dX0_hasEnded_1 : decode cX0_hasEnded 1 = .ok (.invokevirtual 59, 3) := by decide +kernel
theorem dX0_hasEnded_4 : decode cX0_hasEnded 4 = .ok (.ifCond .eq 14, 3) := by decide +kernel
theorem dX0_hasEnded_7 : decode cX0_hasEnded 7 = .ok (.aload_n 0, 1) := by decide +kernel
theorem dX0_hasEnded_8 : decode cX0_hasEnded 8 = .ok (.invokevirtual 130, 3) := by decide +kernel
theorem dX0_hasEnded_11 : decode cX0_hasEnded 11 = .ok (.ifCond .ne 7, 3) := by decide +kernel
theorem dX0_hasEnded_14 : decode cX0_hasEnded 14 = .ok (.iconst 1, 1) := by decide +kernel
theorem dX0_hasEnded_15 : decode cX0_hasEnded 15 = .ok (.goto 4, 3) := by decide +kernel
theorem dX0_hasEnded_18 : decode cX0_hasEnded 18 = .ok (.iconst 0, 1) := by decide +kernel
theorem dX0_hasEnded_19 : decode cX0_hasEnded 19 = .ok (.ireturn, 1) := by decide +kernel
theorem dX0_age_0 : decode cX0_age 0 = .ok (.iconst (-1), 1) := by decide +kernel
theorem dX0_age_1 : decode cX0_age 1 = .ok (.istore_n 1, 1) := by decide +kernel
theorem dX0_age_2 : decode cX0_age 2 = .ok (.iconst 0, 1) := by decide +kernel
theorem dX0_age_3 : decode cX0_age 3 = .ok (.istore_n 2, 1) := by decide +kernel
theorem dX0_age_4 : decode cX0_age 4 = .ok (.iload_n 2, 1) := by decide +kernel
theorem dX0_age_5 : decode cX0_age 5 = .ok (.aload_n 0, 1) := by decide +kernel
theorem dX0_age_6 : decode cX0_age 6 = .ok (.getfield 120, 3) := by decide +kernel
theorem dX0_age_9 : decode cX0_age 9 = .ok (.if_icmp .ge 41, 3) := by decide +kernel
theorem dX0_age_12 : decode cX0_age 12 = .ok (.aload_n 0, 1) := by decide +kernel
theorem dX0_age_13 : decode cX0_age 13 = .ok (.getfield 17, 3) := by decide +kernel
theorem dX0_age_16 : decode cX0_age 16 = .ok (.iload_n 2, 1) := by decide +kernel
theorem dX0_age_17 : decode cX0_age 17 = .ok (.iaload, 1) := by decide +kernel
theorem dX0_age_18 : decode cX0_age 18 = .ok (.iconst (-1), 1) := by decide +kernel
theorem dX0_age_19 : decode cX0_age 19 = .ok (.if_icmp .ne 25, 3) := by decide +kernel
theorem dX0_age_22 : decode cX0_age 22 = .ok (.iload_n 1, 1) := by decide +kernel
theorem dX0_age_23 : decode cX0_age 23 = .ok (.iconst (-1), 1) := by decide +kernel
theorem dX0_age_24 : decode cX0_age 24 = .ok (.if_icmp .eq 13, 3) := by decide +kernel
theorem dX0_age_27 : decode cX0_age 27 = .ok (.aload_n 0, 1) := by decide +kernel
theorem dX0_age_28 : decode cX0_age 28 = .ok (.getfield 13, 3) := by decide +kernel
theorem dX0_age_31 : decode cX0_age 31 = .ok (.iload_n 2, 1) := by decide +kernel
theorem dX0_age_32 : decode cX0_age 32 = .ok (.iaload, 1) := by decide +kernel
theorem dX0_age_33 : decode cX0_age 33 = .ok (.iload_n 1, 1) := by decide +kernel
theorem dX0_age_34 : decode cX0_age 34 = .ok (.if_icmp .ge 10, 3) := by decide +kernel
theorem dX0_age_37 : decode cX0_age 37 = .ok (.aload_n 0, 1) := by decide +kernel
theorem dX0_age_38 : decode cX0_age 38 = .ok (.getfield 13, 3) := by decide +kernel
theorem dX0_age_41 : decode cX0_age 41 = .ok (.iload_n 2, 1) := by decide +kernel
theorem dX0_age_42 : decode cX0_age 42 = .ok (.iaload, 1) := by decide +kernel
theorem dX0_age_43 : decode cX0_age 43 = .ok (.istore_n 1, 1) := by decide +kernel
theorem dX0_age_44 : decode cX0_age 44 = .ok (.iinc 2 1, 3) := by decide +kernel
theorem dX0_age_47 : decode cX0_age 47 = .ok (.goto (-43), 3) := by decide +kernel
theorem dX0_age_50 : decode cX0_age 50 = .ok (.iload_n 1, 1) := by decide +kernel
theorem dX0_age_51 : decode cX0_age 51 = .ok (.iconst (-1), 1) := by decide +kernel
theorem dX0_age_52 : decode cX0_age 52 = .ok (.if_icmp .ne 7, 3) := by decide +kernel
theorem dX0_age_55 : decode cX0_age 55 = .ok (.iconst (-1), 1) := by decide +kernel
theorem dX0_age_56 : decode cX0_age 56 = .ok (.goto 13, 3) := by decide +kernel
theorem dX0_age_59 : decode cX0_age 59 = .ok (.iload_n 1, 1) := by decide +kernel
theorem dX0_age_60 : decode cX0_age 60 = .ok (.aload_n 0, 1) := by decide +kernel
theorem dX0_age_61 : decode cX0_age 61 = .ok (.getfield 53, 3) := by decide +kernel
theorem dX0_age_64 : decode cX0_age 64 = .ok (.sipush 365, 3) := by decide +kernel
theorem dX0_age_67 : decode cX0_age 67 = .ok (.idiv, 1) := by decide +kernel
theorem dX0_age_68 : decode cX0_age 68 = .ok (.iadd, 1) := by decide +kernel
theorem dX0_age_69 : decode cX0_age 69 = .ok (.ireturn, 1) := by decide +kernel
theorem dX0_worth_0 : decode cX0_worth 0 = .ok (.aload_n 0, 1) := by decide +kernel
theorem dX0_worth_1 : decode cX0_worth 1 = .ok (.getfield 77, 3) := by decide +kernel
theorem dX0_worth_4 : decode cX0_worth 4 = .ok (.ireturn, 1) := by decide +kernel
theorem dX0_room_0 : decode cX0_room 0 = .ok (.aload_n 0, 1) := by decide +kernel
theorem dX0_room_1 : decode cX0_room 1 = .ok (.getfield 80, 3) := by decide +kernel
theorem dX0_room_4 : decode cX0_room 4 = .ok (.ireturn, 1) := by decide +kernel
theorem dX0_drawings_0 : decode cX0_drawings 0 = .ok (.aload_n 0, 1) := by decide +kernel
theorem dX0_drawings_1 : decode cX0_drawings 1 = .ok (.getfield 89, 3) := by decide +kernel
theorem dX0_drawings_4 : decode cX0_drawings 4 = .ok (.ireturn, 1) := by decide +kernel
set_option maxRecDepth 20000 in
theorem ggX0_balance_X0_wholeAmount : GoodIn wsX0_balance wsX0_wholeAmount := goodIn_r _ [8, 9] (by decide +kernel) (by decide +kernel)
set_option maxRecDepth 20000 in
theorem gX0_balance_X0_wholeAmount : GoodIn wsX0_balance (va_wsS RX0 147 yX0_wholeAmount wsX0_wholeAmount) := goodIn_app (goodIn_of _ (by decide +kernel)) ggX0_balance_X0_wholeAmount
theorem dX0_balance_0 : decode cX0_balance 0 = .ok (.iload_n 1, 1) := by decide +kernel
theorem dX0_balance_1 : decode cX0_balance 1 = .ok (.ifCond .lt 11, 3) := by decide +kernel
theorem dX0_balance_4 : decode cX0_balance 4 = .ok (.iload_n 1, 1) := by decide +kernel
theorem dX0_balance_5 : decode cX0_balance 5 = .ok (.aload_n 0, 1) := by decide +kernel
theorem dX0_balance_6 : decode cX0_balance 6 = .ok (.getfield 89, 3) := by decide +kernel
theorem dX0_balance_9 : decode cX0_balance 9 = .ok (.if_icmp .lt 13, 3) := by decide +kernel
theorem dX0_balance_12 : decode cX0_balance 12 = .ok (.new 123, 3) := by decide +kernel
theorem dX0_balance_15 : decode cX0_balance 15 = .ok (.dup, 1) := by decide +kernel
theorem dX0_balance_16 : decode cX0_balance 16 = .ok (.ldc 145, 2) := by decide +kernel
theorem dX0_balance_18 : decode cX0_balance 18 = .ok (.invokespecial 127, 3) := by decide +kernel
theorem dX0_balance_21 : decode cX0_balance 21 = .ok (.athrow, 1) := by decide +kernel
theorem dX0_balance_22 : decode cX0_balance 22 = .ok (.aload_n 0, 1) := by decide +kernel
theorem dX0_balance_23 : decode cX0_balance 23 = .ok (.getfield 29, 3) := by decide +kernel
theorem dX0_balance_26 : decode cX0_balance 26 = .ok (.iload_n 1, 1) := by decide +kernel
theorem dX0_balance_27 : decode cX0_balance 27 = .ok (.laload, 1) := by decide +kernel
theorem dX0_balance_28 : decode cX0_balance 28 = .ok (.invokestatic 147, 3) := by decide +kernel
theorem dX0_balance_31 : decode cX0_balance 31 = .ok (.lreturn, 1) := by decide +kernel
set_option maxRecDepth 20000 in
theorem ggX0_debt_X0_wholeAmount : GoodIn wsX0_debt wsX0_wholeAmount := goodIn_r _ [6, 7] (by decide +kernel) (by decide +kernel)
set_option maxRecDepth 20000 in
theorem gX0_debt_X0_wholeAmount : GoodIn wsX0_debt (va_wsS RX0 147 yX0_wholeAmount wsX0_wholeAmount) := goodIn_app (goodIn_of _ (by decide +kernel)) ggX0_debt_X0_wholeAmount
theorem dX0_debt_0 : decode cX0_debt 0 = .ok (.lconst 0, 1) := by decide +kernel
theorem dX0_debt_1 : decode cX0_debt 1 = .ok (.lstore_n 1, 1) := by decide +kernel
theorem dX0_debt_2 : decode cX0_debt 2 = .ok (.iconst 0, 1) := by decide +kernel
theorem dX0_debt_3 : decode cX0_debt 3 = .ok (.istore_n 3, 1) := by decide +kernel
theorem dX0_debt_4 : decode cX0_debt 4 = .ok (.iload_n 3, 1) := by decide +kernel
theorem dX0_debt_5 : decode cX0_debt 5 = .ok (.aload_n 0, 1) := by decide +kernel
theorem dX0_debt_6 : decode cX0_debt 6 = .ok (.getfield 89, 3) := by decide +kernel
theorem dX0_debt_9 : decode cX0_debt 9 = .ok (.if_icmp .ge 18, 3) := by decide +kernel
theorem dX0_debt_12 : decode cX0_debt 12 = .ok (.lload_n 1, 1) := by decide +kernel
theorem dX0_debt_13 : decode cX0_debt 13 = .ok (.aload_n 0, 1) := by decide +kernel
theorem dX0_debt_14 : decode cX0_debt 14 = .ok (.getfield 29, 3) := by decide +kernel
theorem dX0_debt_17 : decode cX0_debt 17 = .ok (.iload_n 3, 1) := by decide +kernel
theorem dX0_debt_18 : decode cX0_debt 18 = .ok (.laload, 1) := by decide +kernel
theorem dX0_debt_19 : decode cX0_debt 19 = .ok (.ladd, 1) := by decide +kernel
theorem dX0_debt_20 : decode cX0_debt 20 = .ok (.lstore_n 1, 1) := by decide +kernel
theorem dX0_debt_21 : decode cX0_debt 21 = .ok (.iinc 3 1, 3) := by decide +kernel
theorem dX0_debt_24 : decode cX0_debt 24 = .ok (.goto (-20), 3) := by decide +kernel
theorem dX0_debt_27 : decode cX0_debt 27 = .ok (.lload_n 1, 1) := by decide +kernel
theorem dX0_debt_28 : decode cX0_debt 28 = .ok (.invokestatic 147, 3) := by decide +kernel
theorem dX0_debt_31 : decode cX0_debt 31 = .ok (.lreturn, 1) := by decide +kernel
set_option maxRecDepth 20000 in
theorem ggX0_debtAnew_X0_balanceAnew : GoodIn wsX0_debtAnew wsX0_balanceAnew := goodIn_r _ [6, 7, 8, 9, 10, 11, 12, 13, 14, 15, 16, 5, 17, 18, 19, 20, 21, 22, 23, 24, 25, 26, 27, 28, 29, 30, 31, 32, 33, 34, 35, 36, 37, 38, 39, 40, 44, 45, 46, 47, 48, 49, 50, 51, 52, 53, 54, 55, 56, 57, 58, 59, 60] (by decide +kernel) (by decide +kernel)
set_option maxRecDepth 20000 in
theorem gX0_debtAnew_X0_balanceAnew : GoodIn wsX0_debtAnew (wsV RX0 151 RX0 yX0_balanceAnew wsX0_balanceAnew) := goodIn_app (goodIn_of _ (by decide +kernel)) ggX0_debtAnew_X0_balanceAnew
set_option maxRecDepth 20000 in
theorem ggX0_debtAnew_X0_wholeAmount : GoodIn wsX0_debtAnew wsX0_wholeAmount := goodIn_r _ [43, 8] (by decide +kernel) (by decide +kernel)
set_option maxRecDepth 20000 in
theorem gX0_debtAnew_X0_wholeAmount : GoodIn wsX0_debtAnew (va_wsS RX0 147 yX0_wholeAmount wsX0_wholeAmount) := goodIn_app (goodIn_of _ (by decide +kernel)) ggX0_debtAnew_X0_wholeAmount
theorem dX0_debtAnew_0 : decode cX0_debtAnew 0 = .ok (.lconst 0, 1) := by decide +kernel
theorem dX0_debtAnew_1 : decode cX0_debtAnew 1 = .ok (.lstore_n 1, 1) := by decide +kernel
theorem dX0_debtAnew_2 : decode cX0_debtAnew 2 = .ok (.iconst 0, 1) := by decide +kernel
theorem dX0_debtAnew_3 : decode cX0_debtAnew 3 = .ok (.istore_n 3, 1) := by decide +kernel
theorem dX0_debtAnew_4 : decode cX0_debtAnew 4 = .ok (.iload_n 3, 1) := by decide +kernel
theorem dX0_debtAnew_5 : decode cX0_debtAnew 5 = .ok (.aload_n 0, 1) := by decide +kernel
theorem dX0_debtAnew_6 : decode cX0_debtAnew 6 = .ok (.getfield 89, 3) := by decide +kernel
theorem dX0_debtAnew_9 : decode cX0_debtAnew 9 = .ok (.if_icmp .ge 17, 3) := by decide +kernel
theorem dX0_debtAnew_12 : decode cX0_debtAnew 12 = .ok (.lload_n 1, 1) := by decide +kernel
theorem dX0_debtAnew_13 : decode cX0_debtAnew 13 = .ok (.aload_n 0, 1) := by decide +kernel
theorem dX0_debtAnew_14 : decode cX0_debtAnew 14 = .ok (.iload_n 3, 1) := by decide +kernel
theorem dX0_debtAnew_15 : decode cX0_debtAnew 15 = .ok (.invokevirtual 151, 3) := by decide +kernel
theorem dX0_debtAnew_18 : decode cX0_debtAnew 18 = .ok (.ladd, 1) := by decide +kernel
theorem dX0_debtAnew_19 : decode cX0_debtAnew 19 = .ok (.lstore_n 1, 1) := by decide +kernel
theorem dX0_debtAnew_20 : decode cX0_debtAnew 20 = .ok (.iinc 3 1, 3) := by decide +kernel
theorem dX0_debtAnew_23 : decode cX0_debtAnew 23 = .ok (.goto (-19), 3) := by decide +kernel
theorem dX0_debtAnew_26 : decode cX0_debtAnew 26 = .ok (.lload_n 1, 1) := by decide +kernel
theorem dX0_debtAnew_27 : decode cX0_debtAnew 27 = .ok (.invokestatic 147, 3) := by decide +kernel
theorem dX0_debtAnew_30 : decode cX0_debtAnew 30 = .ok (.lreturn, 1) := by decide +kernel
set_option maxRecDepth 20000 in
theorem ggX0_owed_X0_debt : GoodIn wsX0_owed wsX0_debt := goodIn_r _ [10, 11, 12, 13, 14, 9, 15, 16, 17, 18, 19, 20, 21, 22, 23, 24, 25, 26, 27, 28, 29, 30, 31, 32, 33] (by decide +kernel) (by decide +kernel)
set_option maxRecDepth 20000 in
theorem gX0_owed_X0_debt : GoodIn wsX0_owed (wsV RX0 94 RX0 yX0_debt wsX0_debt) := goodIn_app (goodIn_of _ (by decide +kernel)) ggX0_owed_X0_debt
theorem dX0_owed_0 : decode cX0_owed 0 = .ok (.aload_n 0, 1) := by decide +kernel
theorem dX0_owed_1 : decode cX0_owed 1 = .ok (.invokevirtual 94, 3) := by decide +kernel
theorem dX0_owed_4 : decode cX0_owed 4 = .ok (.aload_n 0, 1) := by decide +kernel
theorem dX0_owed_5 : decode cX0_owed 5 = .ok (.getfield 77, 3) := by decide +kernel
theorem dX0_owed_8 : decode cX0_owed 8 = .ok (.i2l, 1) := by decide +kernel
theorem dX0_owed_9 : decode cX0_owed 9 = .ok (.invokestatic 155, 3) := by decide +kernel
theorem dX0_owed_12 : decode cX0_owed 12 = .ok (.lreturn, 1) := by decide +kernel
set_option maxRecDepth 20000 in
theorem ggX0_spared_X0_debt : GoodIn wsX0_spared wsX0_debt := goodIn_r _ [5, 6, 7, 8, 9, 4, 10, 11, 21, 22, 23, 24, 25, 26, 27, 28, 29, 30, 31, 32, 33, 34, 35, 36, 37] (by decide +kernel) (by decide +kernel)
set_option maxRecDepth 20000 in
theorem gX0_spared_X0_debt : GoodIn wsX0_spared (wsV RX0 94 RX0 yX0_debt wsX0_debt) := goodIn_app (goodIn_of _ (by decide +kernel)) ggX0_spared_X0_debt
set_option maxRecDepth 20000 in
theorem ggX0_spared_X0_owed : GoodIn wsX0_spared wsX0_owed := goodIn_r _ [15, 16, 17, 18, 19, 20, 1, 2, 3, 4, 5, 6, 7, 8, 9, 10, 11, 21, 22, 23, 24, 25, 26, 27, 28, 29, 30, 31, 32, 33, 34, 35, 36, 37] (by decide +kernel) (by decide +kernel)
set_option maxRecDepth 20000 in
theorem gX0_spared_X0_owed : GoodIn wsX0_spared (wsV RX0 157 RX0 yX0_owed wsX0_owed) := goodIn_app (goodIn_of _ (by decide +kernel)) ggX0_spared_X0_owed
theorem dX0_spared_0 : decode cX0_spared 0 = .ok (.aload_n 0, 1) := by decide +kernel
theorem dX0_spared_1 : decode cX0_spared 1 = .ok (.invokevirtual 94, 3) := by decide +kernel
theorem dX0_spared_4 : decode cX0_spared 4 = .ok (.aload_n 0, 1) := by decide +kernel
theorem dX0_spared_5 : decode cX0_spared 5 = .ok (.invokevirtual 157, 3) := by decide +kernel
theorem dX0_spared_8 : decode cX0_spared 8 = .ok (.lsub, 1) := by decide +kernel
theorem dX0_spared_9 : decode cX0_spared 9 = .ok (.lreturn, 1) := by decide +kernel
set_option maxRecDepth 20000 in
theorem ggX0_allowance_X0_paidThisYear : GoodIn wsX0_allowance wsX0_paidThisYear := goodIn_r _ [11, 12, 13, 14, 15, 16, 17, 18, 10, 19, 20, 21, 22, 23, 24, 25, 26, 27, 28, 29, 30, 31, 32, 33, 34, 35, 36, 37] (by decide +kernel) (by decide +kernel)
set_option maxRecDepth 20000 in
theorem gX0_allowance_X0_paidThisYear : GoodIn wsX0_allowance (wsV RX0 160 RX0 yX0_paidThisYear wsX0_paidThisYear) := goodIn_app (goodIn_of _ (by decide +kernel)) ggX0_allowance_X0_paidThisYear
theorem dX0_allowance_0 : decode cX0_allowance 0 = .ok (.iconst 0, 1) := by decide +kernel
theorem dX0_allowance_1 : decode cX0_allowance 1 = .ok (.istore_n 1, 1) := by decide +kernel
theorem dX0_allowance_2 : decode cX0_allowance 2 = .ok (.iconst 0, 1) := by decide +kernel
theorem dX0_allowance_3 : decode cX0_allowance 3 = .ok (.istore_n 2, 1) := by decide +kernel
theorem dX0_allowance_4 : decode cX0_allowance 4 = .ok (.iload_n 2, 1) := by decide +kernel
theorem dX0_allowance_5 : decode cX0_allowance 5 = .ok (.aload_n 0, 1) := by decide +kernel
theorem dX0_allowance_6 : decode cX0_allowance 6 = .ok (.getfield 89, 3) := by decide +kernel
theorem dX0_allowance_9 : decode cX0_allowance 9 = .ok (.if_icmp .ge 18, 3) := by decide +kernel
theorem dX0_allowance_12 : decode cX0_allowance 12 = .ok (.iload_n 1, 1) := by decide +kernel
theorem dX0_allowance_13 : decode cX0_allowance 13 = .ok (.aload_n 0, 1) := by decide +kernel
theorem dX0_allowance_14 : decode cX0_allowance 14 = .ok (.getfield 20, 3) := by decide +kernel
theorem dX0_allowance_17 : decode cX0_allowance 17 = .ok (.iload_n 2, 1) := by decide +kernel
theorem dX0_allowance_18 : decode cX0_allowance 18 = .ok (.iaload, 1) := by decide +kernel
theorem dX0_allowance_19 : decode cX0_allowance 19 = .ok (.iadd, 1) := by decide +kernel
theorem dX0_allowance_20 : decode cX0_allowance 20 = .ok (.istore_n 1, 1) := by decide +kernel
theorem dX0_allowance_21 : decode cX0_allowance 21 = .ok (.iinc 2 1, 3) := by decide +kernel
theorem dX0_allowance_24 : decode cX0_allowance 24 = .ok (.goto (-20), 3) := by decide +kernel
theorem dX0_allowance_27 : decode cX0_allowance 27 = .ok (.iconst 0, 1) := by decide +kernel
theorem dX0_allowance_28 : decode cX0_allowance 28 = .ok (.iload_n 1, 1) := by decide +kernel
theorem dX0_allowance_29 : decode cX0_allowance 29 = .ok (.bipush 10, 2) := by decide +kernel
theorem dX0_allowance_31 : decode cX0_allowance 31 = .ok (.idiv, 1) := by decide +kernel
theorem dX0_allowance_32 : decode cX0_allowance 32 = .ok (.aload_n 0, 1) := by decide +kernel
theorem dX0_allowance_33 : decode cX0_allowance 33 = .ok (.invokevirtual 160, 3) := by decide +kernel
theorem dX0_allowance_36 : decode cX0_allowance 36 = .ok (.isub, 1) := by decide +kernel
theorem dX0_allowance_37 : decode cX0_allowance 37 = .ok (.invokestatic 163, 3) := by decide +kernel
theorem dX0_allowance_40 : decode cX0_allowance 40 = .ok (.ireturn, 1) := by decide +kernel
set_option maxRecDepth 20000 in
theorem ggX0_charge_X0_requireWithin : GoodIn wsX0_charge wsX0_requireWithin := goodIn_ca (goodIn_r _ [5, 6, 7] (by decide +kernel) (by decide +kernel)) (goodIn_sub (fun _ h => List.mem_cons_of_mem _ (List.mem_append_left _ (List.mem_append_right _ h))) (by decide +kernel))
set_option maxRecDepth 20000 in
theorem gX0_charge_X0_requireWithin : GoodIn wsX0_charge (va_wsS RX0 43 yX0_requireWithin wsX0_requireWithin) := goodIn_app (goodIn_of _ (by decide +kernel)) ggX0_charge_X0_requireWithin
set_option maxRecDepth 20000 in
theorem ggX0_charge_X0_requireRunning : GoodIn wsX0_charge wsX0_requireRunning := goodIn_ca (goodIn_r _ [11, 12, 13, 14, 15, 16, 4, 17, 18, 19, 20, 21, 22, 23, 24, 25, 26, 27, 63, 64, 65, 66, 67, 68, 69, 70, 71, 72, 73, 74, 75, 76, 77, 78, 79] (by decide +kernel) (by decide +kernel)) (goodIn_sub (fun _ h => List.mem_cons_of_mem _ (List.mem_append_right _ h)) (by decide +kernel))
set_option maxRecDepth 20000 in
theorem gX0_charge_X0_requireRunning : GoodIn wsX0_charge (wsV RX0 86 RX0 yX0_requireRunning wsX0_requireRunning) := goodIn_app (goodIn_of _ (by decide +kernel)) ggX0_charge_X0_requireRunning
set_option maxRecDepth 20000 in
theorem ggX0_charge_X0_chargeFor : GoodIn wsX0_charge wsX0_chargeFor := goodIn_r _ [31, 32, 33, 34, 35, 36, 37, 38, 39, 4, 40, 41, 42, 43, 44, 18, 27, 45, 46, 47, 48, 49, 50, 51, 52, 53, 54, 55, 56, 57, 58, 59, 60, 61, 62, 63, 64, 65, 66, 67, 68, 69, 70, 71, 72, 73, 74, 75, 76, 77, 78, 79] (by decide +kernel) (by decide +kernel)
set_option maxRecDepth 20000 in
theorem gX0_charge_X0_chargeFor : GoodIn wsX0_charge (wsV RX0 103 RX0 yX0_chargeFor wsX0_chargeFor) := goodIn_app (goodIn_of _ (by decide +kernel)) ggX0_charge_X0_chargeFor
theorem dX0_charge_0 : decode cX0_charge 0 = .ok (.iload_n 1, 1) := by decide +kernel
theorem dX0_charge_1 : decode cX0_charge 1 = .ok (.iconst 1, 1) := by decide +kernel
theorem dX0_charge_2 : decode cX0_charge 2 = .ok (.ldc 42, 2) := by decide +kernel
theorem dX0_charge_4 : decode cX0_charge 4 = .ok (.invokestatic 43, 3) := by decide +kernel
theorem dX0_charge_7 : decode cX0_charge 7 = .ok (.aload_n 0, 1) := by decide +kernel
theorem dX0_charge_8 : decode cX0_charge 8 = .ok (.invokevirtual 86, 3) := by decide +kernel
theorem dX0_charge_11 : decode cX0_charge 11 = .ok (.aload_n 0, 1) := by decide +kernel
theorem dX0_charge_12 : decode cX0_charge 12 = .ok (.iload_n 1, 1) := by decide +kernel
theorem dX0_charge_13 : decode cX0_charge 13 = .ok (.invokevirtual 103, 3) := by decide +kernel
theorem dX0_charge_16 : decode cX0_charge 16 = .ok (.ireturn, 1) := by decide +kernel
theorem dX0_requireWithin_0 : decode cX0_requireWithin 0 = .ok (.iload_n 0, 1) := by decide +kernel
theorem dX0_requireWithin_1 : decode cX0_requireWithin 1 = .ok (.iload_n 1, 1) := by decide +kernel
theorem dX0_requireWithin_2 : decode cX0_requireWithin 2 = .ok (.if_icmp .lt 8, 3) := by decide +kernel
theorem dX0_requireWithin_5 : decode cX0_requireWithin 5 = .ok (.iload_n 0, 1) := by decide +kernel
theorem dX0_requireWithin_6 : decode cX0_requireWithin 6 = .ok (.iload_n 2, 1) := by decide +kernel
theorem dX0_requireWithin_7 : decode cX0_requireWithin 7 = .ok (.if_icmp .le 13, 3) := by decide +kernel
theorem dX0_requireWithin_10 : decode cX0_requireWithin 10 = .ok (.new 165, 3) := by decide +kernel
theorem dX0_requireWithin_13 : decode cX0_requireWithin 13 = .ok (.dup, 1) := by decide +kernel
theorem dX0_requireWithin_14 : decode cX0_requireWithin 14 = .ok (.ldc 167, 2) := by decide +kernel
theorem dX0_requireWithin_16 : decode cX0_requireWithin 16 = .ok (.invokespecial 169, 3) := by decide +kernel
theorem dX0_requireWithin_19 : decode cX0_requireWithin 19 = .ok (.athrow, 1) := by decide +kernel
theorem dX0_requireWithin_20 : decode cX0_requireWithin 20 = .ok (.return_, 1) := by decide +kernel
set_option maxRecDepth 20000 in
theorem ggX0_requireRunning_X0_isBegun : GoodIn wsX0_requireRunning wsX0_isBegun := goodIn_r _ [7, 8, 18, 19, 20, 21, 22, 23, 24, 25, 26, 27, 28, 29, 30, 31, 32, 33, 34] (by decide +kernel) (by decide +kernel)
set_option maxRecDepth 20000 in
theorem gX0_requireRunning_X0_isBegun : GoodIn wsX0_requireRunning (wsV RX0 59 RX0 yX0_isBegun wsX0_isBegun) := goodIn_app (goodIn_of _ (by decide +kernel)) ggX0_requireRunning_X0_isBegun
set_option maxRecDepth 20000 in
theorem ggX0_requireRunning_X0_hasEnded : GoodIn wsX0_requireRunning wsX0_hasEnded := goodIn_r _ [12, 3, 4, 5, 6, 7, 8, 13, 14, 15, 16, 17, 18, 19, 20, 21, 22, 23, 24, 25, 26, 27, 28, 29, 30, 31, 32, 33, 34] (by decide +kernel) (by decide +kernel)
set_option maxRecDepth 20000 in
theorem gX0_requireRunning_X0_hasEnded : GoodIn wsX0_requireRunning (wsV RX0 113 RX0 yX0_hasEnded wsX0_hasEnded) := goodIn_app (goodIn_of _ (by decide +kernel)) ggX0_requireRunning_X0_hasEnded
theorem dX0_requireRunning_0 : decode cX0_requireRunning 0 = .ok (.aload_n 0, 1) := by decide +kernel
theorem dX0_requireRunning_1 : decode cX0_requireRunning 1 = .ok (.invokevirtual 59, 3) := by decide +kernel
theorem dX0_requireRunning_4 : decode cX0_requireRunning 4 = .ok (.ifCond .eq 10, 3) := by decide +kernel
theorem dX0_requireRunning_7 : decode cX0_requireRunning 7 = .ok (.aload_n 0, 1) := by decide +kernel
theorem dX0_requireRunning_8 : decode cX0_requireRunning 8 = .ok (.invokevirtual 113, 3) := by decide +kernel
theorem dX0_requireRunning_11 : decode cX0_requireRunning 11 = .ok (.ifCond .eq 13, 3) := by decide +kernel
theorem dX0_requireRunning_14 : decode cX0_requireRunning 14 = .ok (.new 63, 3) := by decide +kernel
theorem dX0_requireRunning_17 : decode cX0_requireRunning 17 = .ok (.dup, 1) := by decide +kernel
theorem dX0_requireRunning_18 : decode cX0_requireRunning 18 = .ok (.ldc 170, 2) := by decide +kernel
theorem dX0_requireRunning_20 : decode cX0_requireRunning 20 = .ok (.invokespecial 67, 3) := by decide +kernel
theorem dX0_requireRunning_23 : decode cX0_requireRunning 23 = .ok (.athrow, 1) := by decide +kernel
theorem dX0_requireRunning_24 : decode cX0_requireRunning 24 = .ok (.return_, 1) := by decide +kernel
theorem dX0_isBegun_0 : decode cX0_isBegun 0 = .ok (.aload_n 0, 1) := by decide +kernel
theorem dX0_isBegun_1 : decode cX0_isBegun 1 = .ok (.getfield 120, 3) := by decide +kernel
theorem dX0_isBegun_4 : decode cX0_isBegun 4 = .ok (.ifCond .le 7, 3) := by decide +kernel
theorem dX0_isBegun_7 : decode cX0_isBegun 7 = .ok (.iconst 1, 1) := by decide +kernel
theorem dX0_isBegun_8 : decode cX0_isBegun 8 = .ok (.goto 4, 3) := by decide +kernel
theorem dX0_isBegun_11 : decode cX0_isBegun 11 = .ok (.iconst 0, 1) := by decide +kernel
theorem dX0_isBegun_12 : decode cX0_isBegun 12 = .ok (.ireturn, 1) := by decide +kernel
theorem dX0_livesLeft_0 : decode cX0_livesLeft 0 = .ok (.iconst 0, 1) := by decide +kernel
theorem dX0_livesLeft_1 : decode cX0_livesLeft 1 = .ok (.istore_n 1, 1) := by decide +kernel
theorem dX0_livesLeft_2 : decode cX0_livesLeft 2 = .ok (.iconst 0, 1) := by decide +kernel
theorem dX0_livesLeft_3 : decode cX0_livesLeft 3 = .ok (.istore_n 2, 1) := by decide +kernel
theorem dX0_livesLeft_4 : decode cX0_livesLeft 4 = .ok (.iload_n 2, 1) := by decide +kernel
theorem dX0_livesLeft_5 : decode cX0_livesLeft 5 = .ok (.aload_n 0, 1) := by decide +kernel
theorem dX0_livesLeft_6 : decode cX0_livesLeft 6 = .ok (.getfield 120, 3) := by decide +kernel
theorem dX0_livesLeft_9 : decode cX0_livesLeft 9 = .ok (.if_icmp .ge 22, 3) := by decide +kernel
theorem dX0_livesLeft_12 : decode cX0_livesLeft 12 = .ok (.aload_n 0, 1) := by decide +kernel
theorem dX0_livesLeft_13 : decode cX0_livesLeft 13 = .ok (.getfield 17, 3) := by decide +kernel
theorem dX0_livesLeft_16 : decode cX0_livesLeft 16 = .ok (.iload_n 2, 1) := by decide +kernel
theorem dX0_livesLeft_17 : decode cX0_livesLeft 17 = .ok (.iaload, 1) := by decide +kernel
theorem dX0_livesLeft_18 : decode cX0_livesLeft 18 = .ok (.iconst (-1), 1) := by decide +kernel
theorem dX0_livesLeft_19 : decode cX0_livesLeft 19 = .ok (.if_icmp .ne 6, 3) := by decide +kernel
theorem dX0_livesLeft_22 : decode cX0_livesLeft 22 = .ok (.iinc 1 1, 3) := by decide +kernel
theorem dX0_livesLeft_25 : decode cX0_livesLeft 25 = .ok (.iinc 2 1, 3) := by decide +kernel
theorem dX0_livesLeft_28 : decode cX0_livesLeft 28 = .ok (.goto (-24), 3) := by decide +kernel
theorem dX0_livesLeft_31 : decode cX0_livesLeft 31 = .ok (.iload_n 1, 1) := by decide +kernel
theorem dX0_livesLeft_32 : decode cX0_livesLeft 32 = .ok (.ireturn, 1) := by decide +kernel
theorem dX0_lastEndDay_0 : decode cX0_lastEndDay 0 = .ok (.iconst (-1), 1) := by decide +kernel
theorem dX0_lastEndDay_1 : decode cX0_lastEndDay 1 = .ok (.istore_n 1, 1) := by decide +kernel
theorem dX0_lastEndDay_2 : decode cX0_lastEndDay 2 = .ok (.iconst 0, 1) := by decide +kernel
theorem dX0_lastEndDay_3 : decode cX0_lastEndDay 3 = .ok (.istore_n 2, 1) := by decide +kernel
theorem dX0_lastEndDay_4 : decode cX0_lastEndDay 4 = .ok (.iload_n 2, 1) := by decide +kernel
theorem dX0_lastEndDay_5 : decode cX0_lastEndDay 5 = .ok (.aload_n 0, 1) := by decide +kernel
theorem dX0_lastEndDay_6 : decode cX0_lastEndDay 6 = .ok (.getfield 120, 3) := by decide +kernel
theorem dX0_lastEndDay_9 : decode cX0_lastEndDay 9 = .ok (.if_icmp .ge 20, 3) := by decide +kernel
theorem dX0_lastEndDay_12 : decode cX0_lastEndDay 12 = .ok (.iload_n 1, 1) := by decide +kernel
theorem dX0_lastEndDay_13 : decode cX0_lastEndDay 13 = .ok (.aload_n 0, 1) := by decide +kernel
theorem dX0_lastEndDay_14 : decode cX0_lastEndDay 14 = .ok (.getfield 17, 3) := by decide +kernel
theorem dX0_lastEndDay_17 : decode cX0_lastEndDay 17 = .ok (.iload_n 2, 1) := by decide +kernel
theorem dX0_lastEndDay_18 : decode cX0_lastEndDay 18 = .ok (.iaload, 1) := by decide +kernel
theorem dX0_lastEndDay_19 : decode cX0_lastEndDay 19 = .ok (.invokestatic 163, 3) := by decide +kernel
theorem dX0_lastEndDay_22 : decode cX0_lastEndDay 22 = .ok (.istore_n 1, 1) := by decide +kernel
theorem dX0_lastEndDay_23 : decode cX0_lastEndDay 23 = .ok (.iinc 2 1, 3) := by decide +kernel
theorem dX0_lastEndDay_26 : decode cX0_lastEndDay 26 = .ok (.goto (-22), 3) := by decide +kernel
theorem dX0_lastEndDay_29 : decode cX0_lastEndDay 29 = .ok (.iload_n 1, 1) := by decide +kernel
theorem dX0_lastEndDay_30 : decode cX0_lastEndDay 30 = .ok (.ireturn, 1) := by decide +kernel
theorem dX0_addLife_0 : decode cX0_addLife 0 = .ok (.aload_n 0, 1) := by decide +kernel
theorem dX0_addLife_1 : decode cX0_addLife 1 = .ok (.getfield 120, 3) := by decide +kernel
theorem dX0_addLife_4 : decode cX0_addLife 4 = .ok (.iconst 2, 1) := by decide +kernel
theorem dX0_addLife_5 : decode cX0_addLife 5 = .ok (.if_icmp .ge 33, 3) := by decide +kernel
theorem dX0_addLife_8 : decode cX0_addLife 8 = .ok (.aload_n 0, 1) := by decide +kernel
theorem dX0_addLife_9 : decode cX0_addLife 9 = .ok (.getfield 13, 3) := by decide +kernel
theorem dX0_addLife_12 : decode cX0_addLife 12 = .ok (.aload_n 0, 1) := by decide +kernel
theorem dX0_addLife_13 : decode cX0_addLife 13 = .ok (.getfield 120, 3) := by decide +kernel
theorem dX0_addLife_16 : decode cX0_addLife 16 = .ok (.iload_n 1, 1) := by decide +kernel
theorem dX0_addLife_17 : decode cX0_addLife 17 = .ok (.iastore, 1) := by decide +kernel
theorem dX0_addLife_18 : decode cX0_addLife 18 = .ok (.aload_n 0, 1) := by decide +kernel
theorem dX0_addLife_19 : decode cX0_addLife 19 = .ok (.getfield 17, 3) := by decide +kernel
theorem dX0_addLife_22 : decode cX0_addLife 22 = .ok (.aload_n 0, 1) := by decide +kernel
theorem dX0_addLife_23 : decode cX0_addLife 23 = .ok (.getfield 120, 3) := by decide +kernel
theorem dX0_addLife_26 : decode cX0_addLife 26 = .ok (.iconst (-1), 1) := by decide +kernel
theorem dX0_addLife_27 : decode cX0_addLife 27 = .ok (.iastore, 1) := by decide +kernel
theorem dX0_addLife_28 : decode cX0_addLife 28 = .ok (.aload_n 0, 1) := by decide +kernel
theorem dX0_addLife_29 : decode cX0_addLife 29 = .ok (.dup, 1) := by decide +kernel
theorem dX0_addLife_30 : decode cX0_addLife 30 = .ok (.getfield 120, 3) := by decide +kernel
theorem dX0_addLife_33 : decode cX0_addLife 33 = .ok (.iconst 1, 1) := by decide +kernel
theorem dX0_addLife_34 : decode cX0_addLife 34 = .ok (.iadd, 1) := by decide +kernel
theorem dX0_addLife_35 : decode cX0_addLife 35 = .ok (.putfield 120, 3) := by decide +kernel
theorem dX0_addLife_38 : decode cX0_addLife 38 = .ok (.return_, 1) := by decide +kernel
theorem dX0_addDrawing_0 : decode cX0_addDrawing 0 = .ok (.aload_n 0, 1) := by decide +kernel
theorem dX0_addDrawing_1 : decode cX0_addDrawing 1 = .ok (.getfield 89, 3) := by decide +kernel
theorem dX0_addDrawing_4 : decode cX0_addDrawing 4 = .ok (.bipush 20, 2) := by decide +kernel
theorem dX0_addDrawing_6 : decode cX0_addDrawing 6 = .ok (.if_icmp .ge 74, 3) := by decide +kernel
theorem dX0_addDrawing_9 : decode cX0_addDrawing 9 = .ok (.aload_n 0, 1) := by decide +kernel
theorem dX0_addDrawing_10 : decode cX0_addDrawing 10 = .ok (.getfield 20, 3) := by decide +kernel
theorem dX0_addDrawing_13 : decode cX0_addDrawing 13 = .ok (.aload_n 0, 1) := by decide +kernel
theorem dX0_addDrawing_14 : decode cX0_addDrawing 14 = .ok (.getfield 89, 3) := by decide +kernel
theorem dX0_addDrawing_17 : decode cX0_addDrawing 17 = .ok (.iload_n 1, 1) := by decide +kernel
theorem dX0_addDrawing_18 : decode cX0_addDrawing 18 = .ok (.iastore, 1) := by decide +kernel
theorem dX0_addDrawing_19 : decode cX0_addDrawing 19 = .ok (.aload_n 0, 1) := by decide +kernel
theorem dX0_addDrawing_20 : decode cX0_addDrawing 20 = .ok (.getfield 23, 3) := by decide +kernel
theorem dX0_addDrawing_23 : decode cX0_addDrawing 23 = .ok (.aload_n 0, 1) := by decide +kernel
theorem dX0_addDrawing_24 : decode cX0_addDrawing 24 = .ok (.getfield 89, 3) := by decide +kernel
theorem dX0_addDrawing_27 : decode cX0_addDrawing 27 = .ok (.aload_n 0, 1) := by decide +kernel
theorem dX0_addDrawing_28 : decode cX0_addDrawing 28 = .ok (.getfield 53, 3) := by decide +kernel
theorem dX0_addDrawing_31 : decode cX0_addDrawing 31 = .ok (.iastore, 1) := by decide +kernel
theorem dX0_addDrawing_32 : decode cX0_addDrawing 32 = .ok (.aload_n 0, 1) := by decide +kernel
theorem dX0_addDrawing_33 : decode cX0_addDrawing 33 = .ok (.getfield 26, 3) := by decide +kernel
theorem dX0_addDrawing_36 : decode cX0_addDrawing 36 = .ok (.aload_n 0, 1) := by decide +kernel
theorem dX0_addDrawing_37 : decode cX0_addDrawing 37 = .ok (.getfield 89, 3) := by decide +kernel
theorem dX0_addDrawing_40 : decode cX0_addDrawing 40 = .ok (.aload_n 0, 1) := by decide +kernel
theorem dX0_addDrawing_41 : decode cX0_addDrawing 41 = .ok (.getfield 9, 3) := by decide +kernel
theorem dX0_addDrawing_44 : decode cX0_addDrawing 44 = .ok (.iastore, 1) := by decide +kernel
theorem dX0_addDrawing_45 : decode cX0_addDrawing 45 = .ok (.aload_n 0, 1) := by decide +kernel
theorem dX0_addDrawing_46 : decode cX0_addDrawing 46 = .ok (.getfield 29, 3) := by decide +kernel
theorem dX0_addDrawing_49 : decode cX0_addDrawing 49 = .ok (.aload_n 0, 1) := by decide +kernel
theorem dX0_addDrawing_50 : decode cX0_addDrawing 50 = .ok (.getfield 89, 3) := by decide +kernel
theorem dX0_addDrawing_53 : decode cX0_addDrawing 53 = .ok (.iload_n 1, 1) := by decide +kernel
theorem dX0_addDrawing_54 : decode cX0_addDrawing 54 = .ok (.i2l, 1) := by decide +kernel
theorem dX0_addDrawing_55 : decode cX0_addDrawing 55 = .ok (.ldc2_w 172, 3) := by decide +kernel
theorem dX0_addDrawing_58 : decode cX0_addDrawing 58 = .ok (.lmul, 1) := by decide +kernel
theorem dX0_addDrawing_59 : decode cX0_addDrawing 59 = .ok (.lastore, 1) := by decide +kernel
theorem dX0_addDrawing_60 : decode cX0_addDrawing 60 = .ok (.aload_n 0, 1) := by decide +kernel
theorem dX0_addDrawing_61 : decode cX0_addDrawing 61 = .ok (.dup, 1) := by decide +kernel
theorem dX0_addDrawing_62 : decode cX0_addDrawing 62 = .ok (.getfield 89, 3) := by decide +kernel
theorem dX0_addDrawing_65 : decode cX0_addDrawing 65 = .ok (.iconst 1, 1) := by decide +kernel
theorem dX0_addDrawing_66 : decode cX0_addDrawing 66 = .ok (.iadd, 1) := by decide +kernel
theorem dX0_addDrawing_67 : decode cX0_addDrawing 67 = .ok (.putfield 89, 3) := by decide +kernel
theorem dX0_addDrawing_70 : decode cX0_addDrawing 70 = .ok (.aload_n 0, 1) := by decide +kernel
theorem dX0_addDrawing_71 : decode cX0_addDrawing 71 = .ok (.dup, 1) := by decide +kernel
theorem dX0_addDrawing_72 : decode cX0_addDrawing 72 = .ok (.getfield 80, 3) := by decide +kernel
theorem dX0_addDrawing_75 : decode cX0_addDrawing 75 = .ok (.iload_n 1, 1) := by decide +kernel
theorem dX0_addDrawing_76 : decode cX0_addDrawing 76 = .ok (.isub, 1) := by decide +kernel
theorem dX0_addDrawing_77 : decode cX0_addDrawing 77 = .ok (.putfield 80, 3) := by decide +kernel
theorem dX0_addDrawing_80 : decode cX0_addDrawing 80 = .ok (.return_, 1) := by decide +kernel
theorem dX0_takeBack_0 : decode cX0_takeBack 0 = .ok (.aload_n 0, 1) := by decide +kernel
theorem dX0_takeBack_1 : decode cX0_takeBack 1 = .ok (.getfield 98, 3) := by decide +kernel
theorem dX0_takeBack_4 : decode cX0_takeBack 4 = .ok (.bipush 40, 2) := by decide +kernel
theorem dX0_takeBack_6 : decode cX0_takeBack 6 = .ok (.if_icmp .ge 111, 3) := by decide +kernel
theorem dX0_takeBack_9 : decode cX0_takeBack 9 = .ok (.lload_n 1, 1) := by decide +kernel
theorem dX0_takeBack_10 : decode cX0_takeBack 10 = .ok (.ldc2_w 172, 3) := by decide +kernel
theorem dX0_takeBack_13 : decode cX0_takeBack 13 = .ok (.lmul, 1) := by decide +kernel
theorem dX0_takeBack_14 : decode cX0_takeBack 14 = .ok (.lstore 4, 2) := by decide +kernel
theorem dX0_takeBack_16 : decode cX0_takeBack 16 = .ok (.iconst 0, 1) := by decide +kernel
theorem dX0_takeBack_17 : decode cX0_takeBack 17 = .ok (.istore 6, 2) := by decide +kernel
theorem dX0_takeBack_19 : decode cX0_takeBack 19 = .ok (.iload 6, 2) := by decide +kernel
theorem dX0_takeBack_21 : decode cX0_takeBack 21 = .ok (.aload_n 0, 1) := by decide +kernel
theorem dX0_takeBack_22 : decode cX0_takeBack 22 = .ok (.getfield 89, 3) := by decide +kernel
theorem dX0_takeBack_25 : decode cX0_takeBack 25 = .ok (.if_icmp .ge 59, 3) := by decide +kernel
theorem dX0_takeBack_28 : decode cX0_takeBack 28 = .ok (.lload 4, 2) := by decide +kernel
theorem dX0_takeBack_30 : decode cX0_takeBack 30 = .ok (.aload_n 0, 1) := by decide +kernel
theorem dX0_takeBack_31 : decode cX0_takeBack 31 = .ok (.getfield 29, 3) := by decide +kernel
theorem dX0_takeBack_34 : decode cX0_takeBack 34 = .ok (.iload 6, 2) := by decide +kernel
theorem dX0_takeBack_36 : decode cX0_takeBack 36 = .ok (.laload, 1) := by decide +kernel
theorem dX0_takeBack_37 : decode cX0_takeBack 37 = .ok (.invokestatic 155, 3) := by decide +kernel
theorem dX0_takeBack_40 : decode cX0_takeBack 40 = .ok (.lstore 7, 2) := by decide +kernel
theorem dX0_takeBack_42 : decode cX0_takeBack 42 = .ok (.aload_n 0, 1) := by decide +kernel
theorem dX0_takeBack_43 : decode cX0_takeBack 43 = .ok (.getfield 29, 3) := by decide +kernel
theorem dX0_takeBack_46 : decode cX0_takeBack 46 = .ok (.iload 6, 2) := by decide +kernel
theorem dX0_takeBack_48 : decode cX0_takeBack 48 = .ok (.dup2, 1) := by decide +kernel
theorem dX0_takeBack_49 : decode cX0_takeBack 49 = .ok (.laload, 1) := by decide +kernel
theorem dX0_takeBack_50 : decode cX0_takeBack 50 = .ok (.lload 7, 2) := by decide +kernel
theorem dX0_takeBack_52 : decode cX0_takeBack 52 = .ok (.lsub, 1) := by decide +kernel
theorem dX0_takeBack_53 : decode cX0_takeBack 53 = .ok (.lastore, 1) := by decide +kernel
theorem dX0_takeBack_54 : decode cX0_takeBack 54 = .ok (.lload 4, 2) := by decide +kernel
theorem dX0_takeBack_56 : decode cX0_takeBack 56 = .ok (.lload 7, 2) := by decide +kernel
theorem dX0_takeBack_58 : decode cX0_takeBack 58 = .ok (.lsub, 1) := by decide +kernel
theorem dX0_takeBack_59 : decode cX0_takeBack 59 = .ok (.lstore 4, 2) := by decide +kernel
theorem dX0_takeBack_61 : decode cX0_takeBack 61 = .ok (.aload_n 0, 1) := by decide +kernel
theorem dX0_takeBack_62 : decode cX0_takeBack 62 = .ok (.getfield 39, 3) := by decide +kernel
theorem dX0_takeBack_65 : decode cX0_takeBack 65 = .ok (.iload 6, 2) := by decide +kernel
theorem dX0_takeBack_67 : decode cX0_takeBack 67 = .ok (.bipush 40, 2) := by decide +kernel
theorem dX0_takeBack_69 : decode cX0_takeBack 69 = .ok (.imul, 1) := by decide +kernel
theorem dX0_takeBack_70 : decode cX0_takeBack 70 = .ok (.aload_n 0, 1) := by decide +kernel
theorem dX0_takeBack_71 : decode cX0_takeBack 71 = .ok (.getfield 98, 3) := by decide +kernel
theorem dX0_takeBack_74 : decode cX0_takeBack 74 = .ok (.iadd, 1) := by decide +kernel
theorem dX0_takeBack_75 : decode cX0_takeBack 75 = .ok (.lload 7, 2) := by decide +kernel
theorem dX0_takeBack_77 : decode cX0_takeBack 77 = .ok (.lastore, 1) := by decide +kernel
theorem dX0_takeBack_78 : decode cX0_takeBack 78 = .ok (.iinc 6 1, 3) := by decide +kernel
theorem dX0_takeBack_81 : decode cX0_takeBack 81 = .ok (.goto (-62), 3) := by decide +kernel
theorem dX0_takeBack_84 : decode cX0_takeBack 84 = .ok (.aload_n 0, 1) := by decide +kernel
theorem dX0_takeBack_85 : decode cX0_takeBack 85 = .ok (.getfield 33, 3) := by decide +kernel
theorem dX0_takeBack_88 : decode cX0_takeBack 88 = .ok (.aload_n 0, 1) := by decide +kernel
theorem dX0_takeBack_89 : decode cX0_takeBack 89 = .ok (.getfield 98, 3) := by decide +kernel
theorem dX0_takeBack_92 : decode cX0_takeBack 92 = .ok (.aload_n 0, 1) := by decide +kernel
theorem dX0_takeBack_93 : decode cX0_takeBack 93 = .ok (.getfield 53, 3) := by decide +kernel
theorem dX0_takeBack_96 : decode cX0_takeBack 96 = .ok (.iastore, 1) := by decide +kernel
theorem dX0_takeBack_97 : decode cX0_takeBack 97 = .ok (.aload_n 0, 1) := by decide +kernel
theorem dX0_takeBack_98 : decode cX0_takeBack 98 = .ok (.getfield 36, 3) := by decide +kernel
theorem dX0_takeBack_101 : decode cX0_takeBack 101 = .ok (.aload_n 0, 1) := by decide +kernel
theorem dX0_takeBack_102 : decode cX0_takeBack 102 = .ok (.getfield 98, 3) := by decide +kernel
theorem dX0_takeBack_105 : decode cX0_takeBack 105 = .ok (.iload_n 3, 1) := by decide +kernel
theorem dX0_takeBack_106 : decode cX0_takeBack 106 = .ok (.iastore, 1) := by decide +kernel
theorem dX0_takeBack_107 : decode cX0_takeBack 107 = .ok (.aload_n 0, 1) := by decide +kernel
theorem dX0_takeBack_108 : decode cX0_takeBack 108 = .ok (.dup, 1) := by decide +kernel
theorem dX0_takeBack_109 : decode cX0_takeBack 109 = .ok (.getfield 98, 3) := by decide +kernel
theorem dX0_takeBack_112 : decode cX0_takeBack 112 = .ok (.iconst 1, 1) := by decide +kernel
theorem dX0_takeBack_113 : decode cX0_takeBack 113 = .ok (.iadd, 1) := by decide +kernel
theorem dX0_takeBack_114 : decode cX0_takeBack 114 = .ok (.putfield 98, 3) := by decide +kernel
theorem dX0_takeBack_117 : decode cX0_takeBack 117 = .ok (.return_, 1) := by decide +kernel
theorem dX0_greatestLoan_0 : decode cX0_greatestLoan 0 = .ok (.bipush 55, 2) := by decide +kernel
theorem dX0_greatestLoan_2 : decode cX0_greatestLoan 2 = .ok (.bipush 20, 2) := by decide +kernel
theorem dX0_greatestLoan_4 : decode cX0_greatestLoan 4 = .ok (.iload_n 1, 1) := by decide +kernel
theorem dX0_greatestLoan_5 : decode cX0_greatestLoan 5 = .ok (.iadd, 1) := by decide +kernel
theorem dX0_greatestLoan_6 : decode cX0_greatestLoan 6 = .ok (.bipush 55, 2) := by decide +kernel
theorem dX0_greatestLoan_8 : decode cX0_greatestLoan 8 = .ok (.isub, 1) := by decide +kernel
theorem dX0_greatestLoan_9 : decode cX0_greatestLoan 9 = .ok (.invokestatic 47, 3) := by decide +kernel
theorem dX0_greatestLoan_12 : decode cX0_greatestLoan 12 = .ok (.istore_n 2, 1) := by decide +kernel
theorem dX0_greatestLoan_13 : decode cX0_greatestLoan 13 = .ok (.iload_n 0, 1) := by decide +kernel
theorem dX0_greatestLoan_14 : decode cX0_greatestLoan 14 = .ok (.iload_n 2, 1) := by decide +kernel
theorem dX0_greatestLoan_15 : decode cX0_greatestLoan 15 = .ok (.imul, 1) := by decide +kernel
theorem dX0_greatestLoan_16 : decode cX0_greatestLoan 16 = .ok (.bipush 100, 2) := by decide +kernel
theorem dX0_greatestLoan_18 : decode cX0_greatestLoan 18 = .ok (.idiv, 1) := by decide +kernel
theorem dX0_greatestLoan_19 : decode cX0_greatestLoan 19 = .ok (.ireturn, 1) := by decide +kernel
theorem dX0_rolledUp_0 : decode cX0_rolledUp 0 = .ok (.lload_n 0, 1) := by decide +kernel
theorem dX0_rolledUp_1 : decode cX0_rolledUp 1 = .ok (.lstore 4, 2) := by decide +kernel
theorem dX0_rolledUp_3 : decode cX0_rolledUp 3 = .ok (.iconst 0, 1) := by decide +kernel
theorem dX0_rolledUp_4 : decode cX0_rolledUp 4 = .ok (.istore 6, 2) := by decide +kernel
theorem dX0_rolledUp_6 : decode cX0_rolledUp 6 = .ok (.iload 6, 2) := by decide +kernel
theorem dX0_rolledUp_8 : decode cX0_rolledUp 8 = .ok (.iload_n 3, 1) := by decide +kernel
theorem dX0_rolledUp_9 : decode cX0_rolledUp 9 = .ok (.if_icmp .ge 37, 3) := by decide +kernel
theorem dX0_rolledUp_12 : decode cX0_rolledUp 12 = .ok (.lload 4, 2) := by decide +kernel
theorem dX0_rolledUp_14 : decode cX0_rolledUp 14 = .ok (.iload_n 2, 1) := by decide +kernel
theorem dX0_rolledUp_15 : decode cX0_rolledUp 15 = .ok (.i2l, 1) := by decide +kernel
theorem dX0_rolledUp_16 : decode cX0_rolledUp 16 = .ok (.lmul, 1) := by decide +kernel
theorem dX0_rolledUp_17 : decode cX0_rolledUp 17 = .ok (.ldc2_w 174, 3) := by decide +kernel
theorem dX0_rolledUp_20 : decode cX0_rolledUp 20 = .ok (.ldiv, 1) := by decide +kernel
theorem dX0_rolledUp_21 : decode cX0_rolledUp 21 = .ok (.lstore 7, 2) := by decide +kernel
theorem dX0_rolledUp_23 : decode cX0_rolledUp 23 = .ok (.lload 7, 2) := by decide +kernel
theorem dX0_rolledUp_25 : decode cX0_rolledUp 25 = .ok (.lconst 0, 1) := by decide +kernel
theorem dX0_rolledUp_26 : decode cX0_rolledUp 26 = .ok (.lcmp, 1) := by decide +kernel
theorem dX0_rolledUp_27 : decode cX0_rolledUp 27 = .ok (.ifCond .ne 6, 3) := by decide +kernel
theorem dX0_rolledUp_30 : decode cX0_rolledUp 30 = .ok (.goto 16, 3) := by decide +kernel
theorem dX0_rolledUp_33 : decode cX0_rolledUp 33 = .ok (.lload 4, 2) := by decide +kernel
theorem dX0_rolledUp_35 : decode cX0_rolledUp 35 = .ok (.lload 7, 2) := by decide +kernel
theorem dX0_rolledUp_37 : decode cX0_rolledUp 37 = .ok (.ladd, 1) := by decide +kernel
theorem dX0_rolledUp_38 : decode cX0_rolledUp 38 = .ok (.lstore 4, 2) := by decide +kernel
theorem dX0_rolledUp_40 : decode cX0_rolledUp 40 = .ok (.iinc 6 1, 3) := by decide +kernel
theorem dX0_rolledUp_43 : decode cX0_rolledUp 43 = .ok (.goto (-37), 3) := by decide +kernel
theorem dX0_rolledUp_46 : decode cX0_rolledUp 46 = .ok (.lload 4, 2) := by decide +kernel
theorem dX0_rolledUp_48 : decode cX0_rolledUp 48 = .ok (.lreturn, 1) := by decide +kernel
set_option maxRecDepth 20000 in
theorem ggX0_balanceAnew_X0_rolledUp : GoodIn wsX0_balanceAnew wsX0_rolledUp := goodIn_r _ [12, 13] (by decide +kernel) (by decide +kernel)
set_option maxRecDepth 20000 in
theorem gX0_balanceAnew_X0_rolledUp : GoodIn wsX0_balanceAnew (va_wsS RX0 116 yX0_rolledUp wsX0_rolledUp) := goodIn_app (goodIn_of _ (by decide +kernel)) ggX0_balanceAnew_X0_rolledUp
set_option maxRecDepth 20000 in
theorem ggX0_balanceAnew_X0_hasEnded : GoodIn wsX0_balanceAnew wsX0_hasEnded := goodIn_r _ [17, 18, 19, 20, 11, 21, 22, 23, 24, 25, 26, 27, 36, 37, 38, 39, 40, 41, 42, 43, 44, 45, 46, 47, 48, 49, 50, 51, 52] (by decide +kernel) (by decide +kernel)
set_option maxRecDepth 20000 in
theorem gX0_balanceAnew_X0_hasEnded : GoodIn wsX0_balanceAnew (wsV RX0 113 RX0 yX0_hasEnded wsX0_hasEnded) := goodIn_app (goodIn_of _ (by decide +kernel)) ggX0_balanceAnew_X0_hasEnded
set_option maxRecDepth 20000 in
theorem ggX0_balanceAnew_X0_lastEndDay : GoodIn wsX0_balanceAnew wsX0_lastEndDay := goodIn_r _ [31, 22, 27, 32, 33, 34, 35, 36, 37, 38, 39, 40, 41, 42, 43, 44, 45, 46, 47, 48, 49, 50, 51, 52] (by decide +kernel) (by decide +kernel)
set_option maxRecDepth 20000 in
theorem gX0_balanceAnew_X0_lastEndDay : GoodIn wsX0_balanceAnew (wsV RX0 176 RX0 yX0_lastEndDay wsX0_lastEndDay) := goodIn_app (goodIn_of _ (by decide +kernel)) ggX0_balanceAnew_X0_lastEndDay
theorem dX0_balanceAnew_0 : decode cX0_balanceAnew 0 = .ok (.aload_n 0, 1) := by decide +kernel
theorem dX0_balanceAnew_1 : decode cX0_balanceAnew 1 = .ok (.getfield 20, 3) := by decide +kernel
theorem dX0_balanceAnew_4 : decode cX0_balanceAnew 4 = .ok (.iload_n 1, 1) := by decide +kernel
theorem dX0_balanceAnew_5 : decode cX0_balanceAnew 5 = .ok (.iaload, 1) := by decide +kernel
theorem dX0_balanceAnew_6 : decode cX0_balanceAnew 6 = .ok (.i2l, 1) := by decide +kernel
theorem dX0_balanceAnew_7 : decode cX0_balanceAnew 7 = .ok (.ldc2_w 172, 3) := by decide +kernel
theorem dX0_balanceAnew_10 : decode cX0_balanceAnew 10 = .ok (.lmul, 1) := by decide +kernel
theorem dX0_balanceAnew_11 : decode cX0_balanceAnew 11 = .ok (.lstore_n 2, 1) := by decide +kernel
theorem dX0_balanceAnew_12 : decode cX0_balanceAnew 12 = .ok (.aload_n 0, 1) := by decide +kernel
theorem dX0_balanceAnew_13 : decode cX0_balanceAnew 13 = .ok (.getfield 23, 3) := by decide +kernel
theorem dX0_balanceAnew_16 : decode cX0_balanceAnew 16 = .ok (.iload_n 1, 1) := by decide +kernel
theorem dX0_balanceAnew_17 : decode cX0_balanceAnew 17 = .ok (.iaload, 1) := by decide +kernel
theorem dX0_balanceAnew_18 : decode cX0_balanceAnew 18 = .ok (.istore 4, 2) := by decide +kernel
theorem dX0_balanceAnew_20 : decode cX0_balanceAnew 20 = .ok (.iconst 0, 1) := by decide +kernel
theorem dX0_balanceAnew_21 : decode cX0_balanceAnew 21 = .ok (.istore 5, 2) := by decide +kernel
theorem dX0_balanceAnew_23 : decode cX0_balanceAnew 23 = .ok (.iload 5, 2) := by decide +kernel
theorem dX0_balanceAnew_25 : decode cX0_balanceAnew 25 = .ok (.aload_n 0, 1) := by decide +kernel
theorem dX0_balanceAnew_26 : decode cX0_balanceAnew 26 = .ok (.getfield 98, 3) := by decide +kernel
theorem dX0_balanceAnew_29 : decode cX0_balanceAnew 29 = .ok (.if_icmp .ge 63, 3) := by decide +kernel
theorem dX0_balanceAnew_32 : decode cX0_balanceAnew 32 = .ok (.aload_n 0, 1) := by decide +kernel
theorem dX0_balanceAnew_33 : decode cX0_balanceAnew 33 = .ok (.getfield 39, 3) := by decide +kernel
theorem dX0_balanceAnew_36 : decode cX0_balanceAnew 36 = .ok (.iload_n 1, 1) := by decide +kernel
theorem dX0_balanceAnew_37 : decode cX0_balanceAnew 37 = .ok (.bipush 40, 2) := by decide +kernel
theorem dX0_balanceAnew_39 : decode cX0_balanceAnew 39 = .ok (.imul, 1) := by decide +kernel
theorem dX0_balanceAnew_40 : decode cX0_balanceAnew 40 = .ok (.iload 5, 2) := by decide +kernel
theorem dX0_balanceAnew_42 : decode cX0_balanceAnew 42 = .ok (.iadd, 1) := by decide +kernel
theorem dX0_balanceAnew_43 : decode cX0_balanceAnew 43 = .ok (.laload, 1) := by decide +kernel
theorem dX0_balanceAnew_44 : decode cX0_balanceAnew 44 = .ok (.lstore 6, 2) := by decide +kernel
theorem dX0_balanceAnew_46 : decode cX0_balanceAnew 46 = .ok (.lload 6, 2) := by decide +kernel
theorem dX0_balanceAnew_48 : decode cX0_balanceAnew 48 = .ok (.lconst 0, 1) := by decide +kernel
theorem dX0_balanceAnew_49 : decode cX0_balanceAnew 49 = .ok (.lcmp, 1) := by decide +kernel
theorem dX0_balanceAnew_50 : decode cX0_balanceAnew 50 = .ok (.ifCond .le 36, 3) := by decide +kernel
theorem dX0_balanceAnew_53 : decode cX0_balanceAnew 53 = .ok (.lload_n 2, 1) := by decide +kernel
theorem dX0_balanceAnew_54 : decode cX0_balanceAnew 54 = .ok (.aload_n 0, 1) := by decide +kernel
theorem dX0_balanceAnew_55 : decode cX0_balanceAnew 55 = .ok (.getfield 26, 3) := by decide +kernel
theorem dX0_balanceAnew_58 : decode cX0_balanceAnew 58 = .ok (.iload_n 1, 1) := by decide +kernel
theorem dX0_balanceAnew_59 : decode cX0_balanceAnew 59 = .ok (.iaload, 1) := by decide +kernel
theorem dX0_balanceAnew_60 : decode cX0_balanceAnew 60 = .ok (.aload_n 0, 1) := by decide +kernel
theorem dX0_balanceAnew_61 : decode cX0_balanceAnew 61 = .ok (.getfield 33, 3) := by decide +kernel
theorem dX0_balanceAnew_64 : decode cX0_balanceAnew 64 = .ok (.iload 5, 2) := by decide +kernel
theorem dX0_balanceAnew_66 : decode cX0_balanceAnew 66 = .ok (.iaload, 1) := by decide +kernel
theorem dX0_balanceAnew_67 : decode cX0_balanceAnew 67 = .ok (.iload 4, 2) := by decide +kernel
theorem dX0_balanceAnew_69 : decode cX0_balanceAnew 69 = .ok (.isub, 1) := by decide +kernel
theorem dX0_balanceAnew_70 : decode cX0_balanceAnew 70 = .ok (.invokestatic 116, 3) := by decide +kernel
theorem dX0_balanceAnew_73 : decode cX0_balanceAnew 73 = .ok (.lload 6, 2) := by decide +kernel
theorem dX0_balanceAnew_75 : decode cX0_balanceAnew 75 = .ok (.lsub, 1) := by decide +kernel
theorem dX0_balanceAnew_76 : decode cX0_balanceAnew 76 = .ok (.lstore_n 2, 1) := by decide +kernel
theorem dX0_balanceAnew_77 : decode cX0_balanceAnew 77 = .ok (.aload_n 0, 1) := by decide +kernel
theorem dX0_balanceAnew_78 : decode cX0_balanceAnew 78 = .ok (.getfield 33, 3) := by decide +kernel
theorem dX0_balanceAnew_81 : decode cX0_balanceAnew 81 = .ok (.iload 5, 2) := by decide +kernel
theorem dX0_balanceAnew_83 : decode cX0_balanceAnew 83 = .ok (.iaload, 1) := by decide +kernel
theorem dX0_balanceAnew_84 : decode cX0_balanceAnew 84 = .ok (.istore 4, 2) := by decide +kernel
theorem dX0_balanceAnew_86 : decode cX0_balanceAnew 86 = .ok (.iinc 5 1, 3) := by decide +kernel
theorem dX0_balanceAnew_89 : decode cX0_balanceAnew 89 = .ok (.goto (-66), 3) := by decide +kernel
theorem dX0_balanceAnew_92 : decode cX0_balanceAnew 92 = .ok (.aload_n 0, 1) := by decide +kernel
theorem dX0_balanceAnew_93 : decode cX0_balanceAnew 93 = .ok (.invokevirtual 113, 3) := by decide +kernel
theorem dX0_balanceAnew_96 : decode cX0_balanceAnew 96 = .ok (.ifCond .eq 10, 3) := by decide +kernel
theorem dX0_balanceAnew_99 : decode cX0_balanceAnew 99 = .ok (.aload_n 0, 1) := by decide +kernel
theorem dX0_balanceAnew_100 : decode cX0_balanceAnew 100 = .ok (.invokevirtual 176, 3) := by decide +kernel
theorem dX0_balanceAnew_103 : decode cX0_balanceAnew 103 = .ok (.goto 7, 3) := by decide +kernel
theorem dX0_balanceAnew_106 : decode cX0_balanceAnew 106 = .ok (.aload_n 0, 1) := by decide +kernel
theorem dX0_balanceAnew_107 : decode cX0_balanceAnew 107 = .ok (.getfield 53, 3) := by decide +kernel
theorem dX0_balanceAnew_110 : decode cX0_balanceAnew 110 = .ok (.istore 5, 2) := by decide +kernel
theorem dX0_balanceAnew_112 : decode cX0_balanceAnew 112 = .ok (.lload_n 2, 1) := by decide +kernel
theorem dX0_balanceAnew_113 : decode cX0_balanceAnew 113 = .ok (.aload_n 0, 1) := by decide +kernel
theorem dX0_balanceAnew_114 : decode cX0_balanceAnew 114 = .ok (.getfield 26, 3) := by decide +kernel
theorem dX0_balanceAnew_117 : decode cX0_balanceAnew 117 = .ok (.iload_n 1, 1) := by decide +kernel
theorem dX0_balanceAnew_118 : decode cX0_balanceAnew 118 = .ok (.iaload, 1) := by decide +kernel
theorem dX0_balanceAnew_119 : decode cX0_balanceAnew 119 = .ok (.iload 5, 2) := by decide +kernel
theorem dX0_balanceAnew_121 : decode cX0_balanceAnew 121 = .ok (.iload 4, 2) := by decide +kernel
theorem dX0_balanceAnew_123 : decode cX0_balanceAnew 123 = .ok (.isub, 1) := by decide +kernel
theorem dX0_balanceAnew_124 : decode cX0_balanceAnew 124 = .ok (.invokestatic 116, 3) := by decide +kernel
theorem dX0_balanceAnew_127 : decode cX0_balanceAnew 127 = .ok (.lreturn, 1) := by decide +kernel
theorem dX0_wholeAmount_0 : decode cX0_wholeAmount 0 = .ok (.lload_n 0, 1) := by decide +kernel
theorem dX0_wholeAmount_1 : decode cX0_wholeAmount 1 = .ok (.ldc2_w 172, 3) := by decide +kernel
theorem dX0_wholeAmount_4 : decode cX0_wholeAmount 4 = .ok (.ladd, 1) := by decide +kernel
theorem dX0_wholeAmount_5 : decode cX0_wholeAmount 5 = .ok (.lconst 1, 1) := by decide +kernel
theorem dX0_wholeAmount_6 : decode cX0_wholeAmount 6 = .ok (.lsub, 1) := by decide +kernel
theorem dX0_wholeAmount_7 : decode cX0_wholeAmount 7 = .ok (.ldc2_w 172, 3) := by decide +kernel
theorem dX0_wholeAmount_10 : decode cX0_wholeAmount 10 = .ok (.ldiv, 1) := by decide +kernel
theorem dX0_wholeAmount_11 : decode cX0_wholeAmount 11 = .ok (.lreturn, 1) := by decide +kernel
theorem dX0_yearOfLoan_0 : decode cX0_yearOfLoan 0 = .ok (.iload_n 1, 1) := by decide +kernel
theorem dX0_yearOfLoan_1 : decode cX0_yearOfLoan 1 = .ok (.aload_n 0, 1) := by decide +kernel
theorem dX0_yearOfLoan_2 : decode cX0_yearOfLoan 2 = .ok (.getfield 74, 3) := by decide +kernel
theorem dX0_yearOfLoan_5 : decode cX0_yearOfLoan 5 = .ok (.isub, 1) := by decide +kernel
theorem dX0_yearOfLoan_6 : decode cX0_yearOfLoan 6 = .ok (.sipush 365, 3) := by decide +kernel
theorem dX0_yearOfLoan_9 : decode cX0_yearOfLoan 9 = .ok (.idiv, 1) := by decide +kernel
theorem dX0_yearOfLoan_10 : decode cX0_yearOfLoan 10 = .ok (.ireturn, 1) := by decide +kernel
set_option maxRecDepth 20000 in
theorem ggX0_paidThisYear_X0_yearOfLoan : GoodIn wsX0_paidThisYear wsX0_yearOfLoan := goodIn_r _ [9, 10, 11, 12, 13, 14, 15, 16, 17, 18, 19, 20, 21, 22, 23, 24, 25, 26, 27] (by decide +kernel) (by decide +kernel)
set_option maxRecDepth 20000 in
theorem gX0_paidThisYear_X0_yearOfLoan : GoodIn wsX0_paidThisYear (wsV RX0 179 RX0 yX0_yearOfLoan wsX0_yearOfLoan) := goodIn_app (goodIn_of _ (by decide +kernel)) ggX0_paidThisYear_X0_yearOfLoan
theorem dX0_paidThisYear_0 : decode cX0_paidThisYear 0 = .ok (.iconst 0, 1) := by decide +kernel
theorem dX0_paidThisYear_1 : decode cX0_paidThisYear 1 = .ok (.istore_n 1, 1) := by decide +kernel
theorem dX0_paidThisYear_2 : decode cX0_paidThisYear 2 = .ok (.iconst 0, 1) := by decide +kernel
theorem dX0_paidThisYear_3 : decode cX0_paidThisYear 3 = .ok (.istore_n 2, 1) := by decide +kernel
theorem dX0_paidThisYear_4 : decode cX0_paidThisYear 4 = .ok (.iload_n 2, 1) := by decide +kernel
theorem dX0_paidThisYear_5 : decode cX0_paidThisYear 5 = .ok (.aload_n 0, 1) := by decide +kernel
theorem dX0_paidThisYear_6 : decode cX0_paidThisYear 6 = .ok (.getfield 98, 3) := by decide +kernel
theorem dX0_paidThisYear_9 : decode cX0_paidThisYear 9 = .ok (.if_icmp .ge 39, 3) := by decide +kernel
theorem dX0_paidThisYear_12 : decode cX0_paidThisYear 12 = .ok (.aload_n 0, 1) := by decide +kernel
theorem dX0_paidThisYear_13 : decode cX0_paidThisYear 13 = .ok (.aload_n 0, 1) := by decide +kernel
theorem dX0_paidThisYear_14 : decode cX0_paidThisYear 14 = .ok (.getfield 33, 3) := by decide +kernel
theorem dX0_paidThisYear_17 : decode cX0_paidThisYear 17 = .ok (.iload_n 2, 1) := by decide +kernel
theorem dX0_paidThisYear_18 : decode cX0_paidThisYear 18 = .ok (.iaload, 1) := by decide +kernel
theorem dX0_paidThisYear_19 : decode cX0_paidThisYear 19 = .ok (.invokevirtual 179, 3) := by decide +kernel
theorem dX0_paidThisYear_22 : decode cX0_paidThisYear 22 = .ok (.aload_n 0, 1) := by decide +kernel
theorem dX0_paidThisYear_23 : decode cX0_paidThisYear 23 = .ok (.aload_n 0, 1) := by decide +kernel
theorem dX0_paidThisYear_24 : decode cX0_paidThisYear 24 = .ok (.getfield 53, 3) := by decide +kernel
theorem dX0_paidThisYear_27 : decode cX0_paidThisYear 27 = .ok (.invokevirtual 179, 3) := by decide +kernel
theorem dX0_paidThisYear_30 : decode cX0_paidThisYear 30 = .ok (.if_icmp .ne 12, 3) := by decide +kernel
theorem dX0_paidThisYear_33 : decode cX0_paidThisYear 33 = .ok (.iload_n 1, 1) := by decide +kernel
theorem dX0_paidThisYear_34 : decode cX0_paidThisYear 34 = .ok (.aload_n 0, 1) := by decide +kernel
theorem dX0_paidThisYear_35 : decode cX0_paidThisYear 35 = .ok (.getfield 36, 3) := by decide +kernel
theorem dX0_paidThisYear_38 : decode cX0_paidThisYear 38 = .ok (.iload_n 2, 1) := by decide +kernel
theorem dX0_paidThisYear_39 : decode cX0_paidThisYear 39 = .ok (.iaload, 1) := by decide +kernel
theorem dX0_paidThisYear_40 : decode cX0_paidThisYear 40 = .ok (.iadd, 1) := by decide +kernel
theorem dX0_paidThisYear_41 : decode cX0_paidThisYear 41 = .ok (.istore_n 1, 1) := by decide +kernel
theorem dX0_paidThisYear_42 : decode cX0_paidThisYear 42 = .ok (.iinc 2 1, 3) := by decide +kernel
theorem dX0_paidThisYear_45 : decode cX0_paidThisYear 45 = .ok (.goto (-41), 3) := by decide +kernel
theorem dX0_paidThisYear_48 : decode cX0_paidThisYear 48 = .ok (.iload_n 1, 1) := by decide +kernel
theorem dX0_paidThisYear_49 : decode cX0_paidThisYear 49 = .ok (.ireturn, 1) := by decide +kernel
set_option maxRecDepth 20000 in
theorem ggX0_isWaived_X0_lastEndDay : GoodIn wsX0_isWaived wsX0_lastEndDay := goodIn_r _ [6, 7, 8, 9, 10, 11, 12, 13, 14, 15, 16, 17, 18, 19, 20, 21, 22, 23, 24, 25, 26, 27, 28, 29] (by decide +kernel) (by decide +kernel)
set_option maxRecDepth 20000 in
theorem gX0_isWaived_X0_lastEndDay : GoodIn wsX0_isWaived (wsV RX0 176 RX0 yX0_lastEndDay wsX0_lastEndDay) := goodIn_app (goodIn_of _ (by decide +kernel)) ggX0_isWaived_X0_lastEndDay
theorem dX0_isWaived_0 : decode cX0_isWaived 0 = .ok (.aload_n 0, 1) := by decide +kernel
theorem dX0_isWaived_1 : decode cX0_isWaived 1 = .ok (.invokevirtual 176, 3) := by decide +kernel
theorem dX0_isWaived_4 : decode cX0_isWaived 4 = .ok (.istore_n 1, 1) := by decide +kernel
theorem dX0_isWaived_5 : decode cX0_isWaived 5 = .ok (.iload_n 1, 1) := by decide +kernel
theorem dX0_isWaived_6 : decode cX0_isWaived 6 = .ok (.iconst (-1), 1) := by decide +kernel
theorem dX0_isWaived_7 : decode cX0_isWaived 7 = .ok (.if_icmp .eq 19, 3) := by decide +kernel
theorem dX0_isWaived_10 : decode cX0_isWaived 10 = .ok (.aload_n 0, 1) := by decide +kernel
theorem dX0_isWaived_11 : decode cX0_isWaived 11 = .ok (.getfield 53, 3) := by decide +kernel
theorem dX0_isWaived_14 : decode cX0_isWaived 14 = .ok (.iload_n 1, 1) := by decide +kernel
theorem dX0_isWaived_15 : decode cX0_isWaived 15 = .ok (.isub, 1) := by decide +kernel
theorem dX0_isWaived_16 : decode cX0_isWaived 16 = .ok (.sipush 1095, 3) := by decide +kernel
theorem dX0_isWaived_19 : decode cX0_isWaived 19 = .ok (.if_icmp .gt 7, 3) := by decide +kernel
theorem dX0_isWaived_22 : decode cX0_isWaived 22 = .ok (.iconst 1, 1) := by decide +kernel
theorem dX0_isWaived_23 : decode cX0_isWaived 23 = .ok (.goto 4, 3) := by decide +kernel
theorem dX0_isWaived_26 : decode cX0_isWaived 26 = .ok (.iconst 0, 1) := by decide +kernel
theorem dX0_isWaived_27 : decode cX0_isWaived 27 = .ok (.ireturn, 1) := by decide +kernel
set_option maxRecDepth 20000 in
theorem ggX0_chargeFor_X0_isWaived : GoodIn wsX0_chargeFor wsX0_isWaived := goodIn_r _ [10, 5, 11, 12, 13, 9, 14, 15, 16, 1, 2, 3, 4, 35, 36, 37, 38, 39, 40, 41, 42, 43, 44, 45, 46, 47, 48, 49, 50, 51] (by decide +kernel) (by decide +kernel)
set_option maxRecDepth 20000 in
theorem gX0_chargeFor_X0_isWaived : GoodIn wsX0_chargeFor (wsV RX0 182 RX0 yX0_isWaived wsX0_isWaived) := goodIn_app (goodIn_of _ (by decide +kernel)) ggX0_chargeFor_X0_isWaived
set_option maxRecDepth 20000 in
theorem ggX0_chargeFor_X0_allowance : GoodIn wsX0_chargeFor wsX0_allowance := goodIn_r _ [20, 21, 22, 1, 2, 3, 4, 23, 24, 25, 9, 26, 27, 28, 5, 29, 30, 31, 32, 33, 34, 35, 36, 37, 38, 39, 40, 41, 42, 43, 44, 45, 46, 47, 48, 49, 50, 51] (by decide +kernel) (by decide +kernel)
set_option maxRecDepth 20000 in
theorem gX0_chargeFor_X0_allowance : GoodIn wsX0_chargeFor (wsV RX0 185 RX0 yX0_allowance wsX0_allowance) := goodIn_app (goodIn_of _ (by decide +kernel)) ggX0_chargeFor_X0_allowance
set_option maxRecDepth 20000 in
theorem ggX0_chargeFor_X0_yearOfLoan : GoodIn wsX0_chargeFor wsX0_yearOfLoan := goodIn_r _ [33, 34, 35, 36, 37, 38, 39, 40, 41, 42, 43, 44, 45, 46, 47, 48, 49, 50, 51] (by decide +kernel) (by decide +kernel)
set_option maxRecDepth 20000 in
theorem gX0_chargeFor_X0_yearOfLoan : GoodIn wsX0_chargeFor (wsV RX0 179 RX0 yX0_yearOfLoan wsX0_yearOfLoan) := goodIn_app (goodIn_of _ (by decide +kernel)) ggX0_chargeFor_X0_yearOfLoan
theorem dX0_chargeFor_0 : decode cX0_chargeFor 0 = .ok (.aload_n 0, 1) := by decide +kernel
theorem dX0_chargeFor_1 : decode cX0_chargeFor 1 = .ok (.invokevirtual 182, 3) := by decide +kernel
theorem dX0_chargeFor_4 : decode cX0_chargeFor 4 = .ok (.ifCond .eq 5, 3) := by decide +kernel
theorem dX0_chargeFor_7 : decode cX0_chargeFor 7 = .ok (.iconst 0, 1) := by decide +kernel
theorem dX0_chargeFor_8 : decode cX0_chargeFor 8 = .ok (.ireturn, 1) := by decide +kernel
theorem dX0_chargeFor_9 : decode cX0_chargeFor 9 = .ok (.iconst 0, 1) := by decide +kernel
theorem dX0_chargeFor_10 : decode cX0_chargeFor 10 = .ok (.iload_n 1, 1) := by decide +kernel
theorem dX0_chargeFor_11 : decode cX0_chargeFor 11 = .ok (.aload_n 0, 1) := by decide +kernel
theorem dX0_chargeFor_12 : decode cX0_chargeFor 12 = .ok (.invokevirtual 185, 3) := by decide +kernel
theorem dX0_chargeFor_15 : decode cX0_chargeFor 15 = .ok (.isub, 1) := by decide +kernel
theorem dX0_chargeFor_16 : decode cX0_chargeFor 16 = .ok (.invokestatic 163, 3) := by decide +kernel
theorem dX0_chargeFor_19 : decode cX0_chargeFor 19 = .ok (.istore_n 2, 1) := by decide +kernel
theorem dX0_chargeFor_20 : decode cX0_chargeFor 20 = .ok (.iconst 0, 1) := by decide +kernel
theorem dX0_chargeFor_21 : decode cX0_chargeFor 21 = .ok (.bipush 10, 2) := by decide +kernel
theorem dX0_chargeFor_23 : decode cX0_chargeFor 23 = .ok (.aload_n 0, 1) := by decide +kernel
theorem dX0_chargeFor_24 : decode cX0_chargeFor 24 = .ok (.aload_n 0, 1) := by decide +kernel
theorem dX0_chargeFor_25 : decode cX0_chargeFor 25 = .ok (.getfield 53, 3) := by decide +kernel
theorem dX0_chargeFor_28 : decode cX0_chargeFor 28 = .ok (.invokevirtual 179, 3) := by decide +kernel
theorem dX0_chargeFor_31 : decode cX0_chargeFor 31 = .ok (.isub, 1) := by decide +kernel
theorem dX0_chargeFor_32 : decode cX0_chargeFor 32 = .ok (.invokestatic 163, 3) := by decide +kernel
theorem dX0_chargeFor_35 : decode cX0_chargeFor 35 = .ok (.istore_n 3, 1) := by decide +kernel
theorem dX0_chargeFor_36 : decode cX0_chargeFor 36 = .ok (.iload_n 2, 1) := by decide +kernel
theorem dX0_chargeFor_37 : decode cX0_chargeFor 37 = .ok (.iload_n 3, 1) := by decide +kernel
theorem dX0_chargeFor_38 : decode cX0_chargeFor 38 = .ok (.imul, 1) := by decide +kernel
theorem dX0_chargeFor_39 : decode cX0_chargeFor 39 = .ok (.bipush 100, 2) := by decide +kernel
theorem dX0_chargeFor_41 : decode cX0_chargeFor 41 = .ok (.idiv, 1) := by decide +kernel
theorem dX0_chargeFor_42 : decode cX0_chargeFor 42 = .ok (.ireturn, 1) := by decide +kernel
theorem dJ9_max_7cf53_0 : decode cJ9_max_7cf53 0 = .ok (.iload_n 0, 1) := by decide +kernel
theorem dJ9_max_7cf53_1 : decode cJ9_max_7cf53 1 = .ok (.iload_n 1, 1) := by decide +kernel
theorem dJ9_max_7cf53_2 : decode cJ9_max_7cf53 2 = .ok (.if_icmp .lt 7, 3) := by decide +kernel
theorem dJ9_max_7cf53_5 : decode cJ9_max_7cf53 5 = .ok (.iload_n 0, 1) := by decide +kernel
theorem dJ9_max_7cf53_6 : decode cJ9_max_7cf53 6 = .ok (.goto 4, 3) := by decide +kernel
theorem dJ9_max_7cf53_9 : decode cJ9_max_7cf53 9 = .ok (.iload_n 1, 1) := by decide +kernel
theorem dJ9_max_7cf53_10 : decode cJ9_max_7cf53 10 = .ok (.ireturn, 1) := by decide +kernel
theorem dJ9_max_f86c9_0 : decode cJ9_max_f86c9 0 = .ok (.lload_n 0, 1) := by decide +kernel
theorem dJ9_max_f86c9_1 : decode cJ9_max_f86c9 1 = .ok (.lload_n 2, 1) := by decide +kernel
theorem dJ9_max_f86c9_2 : decode cJ9_max_f86c9 2 = .ok (.lcmp, 1) := by decide +kernel
theorem dJ9_max_f86c9_3 : decode cJ9_max_f86c9 3 = .ok (.ifCond .lt 7, 3) := by decide +kernel
theorem dJ9_max_f86c9_6 : decode cJ9_max_f86c9 6 = .ok (.lload_n 0, 1) := by decide +kernel
theorem dJ9_max_f86c9_7 : decode cJ9_max_f86c9 7 = .ok (.goto 4, 3) := by decide +kernel
theorem dJ9_max_f86c9_10 : decode cJ9_max_f86c9 10 = .ok (.lload_n 2, 1) := by decide +kernel
theorem dJ9_max_f86c9_11 : decode cJ9_max_f86c9 11 = .ok (.lreturn, 1) := by decide +kernel
theorem dJ9_min_7cf53_0 : decode cJ9_min_7cf53 0 = .ok (.iload_n 0, 1) := by decide +kernel
theorem dJ9_min_7cf53_1 : decode cJ9_min_7cf53 1 = .ok (.iload_n 1, 1) := by decide +kernel
theorem dJ9_min_7cf53_2 : decode cJ9_min_7cf53 2 = .ok (.if_icmp .gt 7, 3) := by decide +kernel
theorem dJ9_min_7cf53_5 : decode cJ9_min_7cf53 5 = .ok (.iload_n 0, 1) := by decide +kernel
theorem dJ9_min_7cf53_6 : decode cJ9_min_7cf53 6 = .ok (.goto 4, 3) := by decide +kernel
theorem dJ9_min_7cf53_9 : decode cJ9_min_7cf53 9 = .ok (.iload_n 1, 1) := by decide +kernel
theorem dJ9_min_7cf53_10 : decode cJ9_min_7cf53 10 = .ok (.ireturn, 1) := by decide +kernel
theorem dJ9_min_f86c9_0 : decode cJ9_min_f86c9 0 = .ok (.lload_n 0, 1) := by decide +kernel
theorem dJ9_min_f86c9_1 : decode cJ9_min_f86c9 1 = .ok (.lload_n 2, 1) := by decide +kernel
theorem dJ9_min_f86c9_2 : decode cJ9_min_f86c9 2 = .ok (.lcmp, 1) := by decide +kernel
theorem dJ9_min_f86c9_3 : decode cJ9_min_f86c9 3 = .ok (.ifCond .gt 7, 3) := by decide +kernel
theorem dJ9_min_f86c9_6 : decode cJ9_min_f86c9 6 = .ok (.lload_n 0, 1) := by decide +kernel
theorem dJ9_min_f86c9_7 : decode cJ9_min_f86c9 7 = .ok (.goto 4, 3) := by decide +kernel
theorem dJ9_min_f86c9_10 : decode cJ9_min_f86c9 10 = .ok (.lload_n 2, 1) := by decide +kernel
theorem dJ9_min_f86c9_11 : decode cJ9_min_f86c9 11 = .ok (.lreturn, 1) := by decide +kernel
theorem dL_low_0 : decode cL_low 0 = .ok (.iload_n 0, 1) := by decide +kernel
theorem dL_low_1 : decode cL_low 1 = .ok (.ldc 7, 2) := by decide +kernel
theorem dL_low_3 : decode cL_low 3 = .ok (.iand, 1) := by decide +kernel
theorem dL_low_4 : decode cL_low 4 = .ok (.iload_n 1, 1) := by decide +kernel
theorem dL_low_5 : decode cL_low 5 = .ok (.irem, 1) := by decide +kernel
theorem dL_low_6 : decode cL_low 6 = .ok (.ireturn, 1) := by decide +kernel
theorem dL_cell_0 : decode cL_cell 0 = .ok (.iload_n 1, 1) := by decide +kernel
theorem dL_cell_1 : decode cL_cell 1 = .ok (.aload_n 0, 1) := by decide +kernel
theorem dL_cell_2 : decode cL_cell 2 = .ok (.arraylength, 1) := by decide +kernel
theorem dL_cell_3 : decode cL_cell 3 = .ok (.if_icmp .ge 9, 3) := by decide +kernel
theorem dL_cell_6 : decode cL_cell 6 = .ok (.aload_n 0, 1) := by decide +kernel
theorem dL_cell_7 : decode cL_cell 7 = .ok (.iload_n 1, 1) := by decide +kernel
theorem dL_cell_8 : decode cL_cell 8 = .ok (.iaload, 1) := by decide +kernel
theorem dL_cell_9 : decode cL_cell 9 = .ok (.goto 11, 3) := by decide +kernel
theorem dL_cell_12 : decode cL_cell 12 = .ok (.ldc 8, 2) := by decide +kernel
theorem dL_cell_14 : decode cL_cell 14 = .ok (.iload_n 1, 1) := by decide +kernel
theorem dL_cell_15 : decode cL_cell 15 = .ok (.imul, 1) := by decide +kernel
theorem dL_cell_16 : decode cL_cell 16 = .ok (.sipush 977, 3) := by decide +kernel
theorem dL_cell_19 : decode cL_cell 19 = .ok (.iadd, 1) := by decide +kernel
theorem dL_cell_20 : decode cL_cell 20 = .ok (.ireturn, 1) := by decide +kernel
set_option maxRecDepth 20000 in
theorem ggL_begin_X0_begin : GoodIn wsL_begin wsX0_begin := goodIn_ca (goodIn_ca (goodIn_r _ [6, 7, 8, 9, 10, 11, 12, 13, 14, 15, 16, 17, 18, 19, 5, 20, 21, 22, 23, 24, 25, 26, 27, 28, 29, 30, 31, 32, 33, 34, 35, 36, 37, 38, 39, 40, 41, 42, 43, 44, 45, 46, 47, 48, 49, 50, 51, 52, 53, 54, 55, 56, 57, 58, 59, 60, 61, 62, 63, 64] (by decide +kernel) (by decide +kernel)) (goodIn_sub (fun _ h => List.mem_cons_of_mem _ (List.mem_append_left _ (List.mem_append_right _ h))) (by decide +kernel))) (goodIn_sub (fun _ h => List.mem_cons_of_mem _ (List.mem_append_right _ h)) (by decide +kernel))
set_option maxRecDepth 20000 in
theorem gL_begin_X0_begin : GoodIn wsL_begin (wsV RL 9 RX0 yX0_begin wsX0_begin) := goodIn_app (goodIn_of _ (by decide +kernel)) ggL_begin_X0_begin
theorem dL_begin_0 : decode cL_begin 0 = .ok (.aload_n 0, 1) := by decide +kernel
theorem dL_begin_1 : decode cL_begin 1 = .ok (.iload_n 1, 1) := by decide +kernel
theorem dL_begin_2 : decode cL_begin 2 = .ok (.iload_n 2, 1) := by decide +kernel
theorem dL_begin_3 : decode cL_begin 3 = .ok (.iload_n 3, 1) := by decide +kernel
theorem dL_begin_4 : decode cL_begin 4 = .ok (.iload 4, 2) := by decide +kernel
theorem dL_begin_6 : decode cL_begin 6 = .ok (.invokevirtual 9, 3) := by decide +kernel
theorem dL_begin_9 : decode cL_begin 9 = .ok (.ireturn, 1) := by decide +kernel
theorem dL_begin_10 : decode cL_begin 10 = .ok (.astore 5, 2) := by decide +kernel
theorem dL_begin_12 : decode cL_begin 12 = .ok (.bipush (-3), 2) := by decide +kernel
theorem dL_begin_14 : decode cL_begin 14 = .ok (.ireturn, 1) := by decide +kernel
set_option maxRecDepth 20000 in
theorem ggL_draw_X0_draw : GoodIn wsL_draw wsX0_draw := goodIn_ca (goodIn_ca (goodIn_r _ [6, 7, 8, 9, 10, 11, 12, 13, 5, 14, 15, 16, 17, 18, 19, 20, 21, 22, 23, 24, 25, 26, 27, 28, 29, 30, 31, 32, 33, 34, 35, 36, 37, 38, 39, 40, 41, 42, 43, 44, 45, 46, 47, 48, 49, 50, 51, 52, 53, 54, 55, 56, 57, 58, 59, 60, 61, 62] (by decide +kernel) (by decide +kernel)) (goodIn_sub (fun _ h => List.mem_cons_of_mem _ (List.mem_append_left _ (List.mem_append_right _ h))) (by decide +kernel))) (goodIn_sub (fun _ h => List.mem_cons_of_mem _ (List.mem_append_right _ h)) (by decide +kernel))
set_option maxRecDepth 20000 in
theorem gL_draw_X0_draw : GoodIn wsL_draw (wsV RL 17 RX0 yX0_draw wsX0_draw) := goodIn_app (goodIn_of _ (by decide +kernel)) ggL_draw_X0_draw
theorem dL_draw_0 : decode cL_draw 0 = .ok (.aload_n 0, 1) := by decide +kernel
theorem dL_draw_1 : decode cL_draw 1 = .ok (.iload_n 1, 1) := by decide +kernel
theorem dL_draw_2 : decode cL_draw 2 = .ok (.invokevirtual 17, 3) := by decide +kernel
theorem dL_draw_5 : decode cL_draw 5 = .ok (.ireturn, 1) := by decide +kernel
theorem dL_draw_6 : decode cL_draw 6 = .ok (.astore_n 2, 1) := by decide +kernel
theorem dL_draw_7 : decode cL_draw 7 = .ok (.bipush (-3), 2) := by decide +kernel
theorem dL_draw_9 : decode cL_draw 9 = .ok (.ireturn, 1) := by decide +kernel
set_option maxRecDepth 20000 in
theorem ggL_pay_X0_pay : GoodIn wsL_pay wsX0_pay := goodIn_ca (goodIn_ca (goodIn_r _ [6, 7, 8, 9, 10, 11, 12, 5, 13, 14, 15, 16, 17, 18, 19, 20, 21, 22, 23, 24, 25, 26, 27, 28, 29, 30, 31, 32, 33, 34, 35, 36, 37, 38, 39, 40, 41, 42, 43, 44, 45, 46, 47, 48, 49, 50, 51, 52, 53, 54, 55, 56, 57, 58, 59, 60, 61, 62, 63, 64, 65, 66, 67, 68, 69, 70, 71, 72, 73, 74, 75, 76, 77, 78, 79, 80, 81, 82, 83, 84, 85, 86, 87, 88, 89, 90, 91, 92, 93, 94, 95, 96, 97, 98, 99, 100, 101] (by decide +kernel) (by decide +kernel)) (goodIn_sub (fun _ h => List.mem_cons_of_mem _ (List.mem_append_left _ (List.mem_append_right _ h))) (by decide +kernel))) (goodIn_sub (fun _ h => List.mem_cons_of_mem _ (List.mem_append_right _ h)) (by decide +kernel))
set_option maxRecDepth 20000 in
theorem gL_pay_X0_pay : GoodIn wsL_pay (wsV RL 21 RX0 yX0_pay wsX0_pay) := goodIn_app (goodIn_of _ (by decide +kernel)) ggL_pay_X0_pay
theorem dL_pay_0 : decode cL_pay 0 = .ok (.aload_n 0, 1) := by decide +kernel
theorem dL_pay_1 : decode cL_pay 1 = .ok (.iload_n 1, 1) := by decide +kernel
theorem dL_pay_2 : decode cL_pay 2 = .ok (.invokevirtual 21, 3) := by decide +kernel
theorem dL_pay_5 : decode cL_pay 5 = .ok (.ireturn, 1) := by decide +kernel
theorem dL_pay_6 : decode cL_pay 6 = .ok (.astore_n 2, 1) := by decide +kernel
theorem dL_pay_7 : decode cL_pay 7 = .ok (.bipush (-3), 2) := by decide +kernel
theorem dL_pay_9 : decode cL_pay 9 = .ok (.ireturn, 1) := by decide +kernel
set_option maxRecDepth 20000 in
theorem ggL_move_X0_move : GoodIn wsL_move wsX0_move := goodIn_ca (goodIn_ca (goodIn_r _ [7, 8, 9, 10, 11, 12, 13, 14, 15, 16, 17, 18, 19, 6, 20, 21, 22, 23, 24, 25, 26, 27, 28, 29, 30, 31, 32, 33, 34, 35, 36, 37, 38, 39, 40, 41, 42, 43, 44, 45, 46, 47, 48, 49, 50, 51, 52, 53, 54, 55, 56, 57, 58, 59, 60, 61, 62, 63, 64, 65, 66, 67, 68, 69, 70, 71, 72, 73, 74, 75, 76, 77, 78, 79, 80, 81, 82, 83, 84, 85, 86, 87, 88, 89] (by decide +kernel) (by decide +kernel)) (goodIn_sub (fun _ h => List.mem_cons_of_mem _ (List.mem_append_left _ (List.mem_append_right _ h))) (by decide +kernel))) (goodIn_sub (fun _ h => List.mem_cons_of_mem _ (List.mem_append_right _ h)) (by decide +kernel))
set_option maxRecDepth 20000 in
theorem gL_move_X0_move : GoodIn wsL_move (wsV RL 24 RX0 yX0_move wsX0_move) := goodIn_app (goodIn_of _ (by decide +kernel)) ggL_move_X0_move
theorem dL_move_0 : decode cL_move 0 = .ok (.aload_n 0, 1) := by decide +kernel
theorem dL_move_1 : decode cL_move 1 = .ok (.iload_n 1, 1) := by decide +kernel
theorem dL_move_2 : decode cL_move 2 = .ok (.invokevirtual 24, 3) := by decide +kernel
theorem dL_move_5 : decode cL_move 5 = .ok (.lreturn, 1) := by decide +kernel
theorem dL_move_6 : decode cL_move 6 = .ok (.astore_n 2, 1) := by decide +kernel
theorem dL_move_7 : decode cL_move 7 = .ok (.ldc2_w 28, 3) := by decide +kernel
theorem dL_move_10 : decode cL_move 10 = .ok (.lreturn, 1) := by decide +kernel
set_option maxRecDepth 20000 in
theorem ggL_pass_X0_pass : GoodIn wsL_pass wsX0_pass := goodIn_ca (goodIn_ca (goodIn_r _ [6, 7, 8, 9, 10, 11, 12, 13, 14, 5, 15, 16, 17, 18, 19, 20, 21, 22, 23, 24, 25, 26, 27, 28, 29, 30, 31, 32, 33, 34, 35, 36, 37, 38, 39, 40, 41, 42, 43, 44, 45, 46, 47, 48, 49, 50, 51, 52] (by decide +kernel) (by decide +kernel)) (goodIn_sub (fun _ h => List.mem_cons_of_mem _ (List.mem_append_left _ (List.mem_append_right _ h))) (by decide +kernel))) (goodIn_sub (fun _ h => List.mem_cons_of_mem _ (List.mem_append_right _ h)) (by decide +kernel))
set_option maxRecDepth 20000 in
theorem gL_pass_X0_pass : GoodIn wsL_pass (wsV RL 30 RX0 yX0_pass wsX0_pass) := goodIn_app (goodIn_of _ (by decide +kernel)) ggL_pass_X0_pass
theorem dL_pass_0 : decode cL_pass 0 = .ok (.aload_n 0, 1) := by decide +kernel
theorem dL_pass_1 : decode cL_pass 1 = .ok (.iload_n 1, 1) := by decide +kernel
theorem dL_pass_2 : decode cL_pass 2 = .ok (.invokevirtual 30, 3) := by decide +kernel
theorem dL_pass_5 : decode cL_pass 5 = .ok (.ireturn, 1) := by decide +kernel
theorem dL_pass_6 : decode cL_pass 6 = .ok (.astore_n 2, 1) := by decide +kernel
theorem dL_pass_7 : decode cL_pass 7 = .ok (.bipush (-3), 2) := by decide +kernel
theorem dL_pass_9 : decode cL_pass 9 = .ok (.ireturn, 1) := by decide +kernel
set_option maxRecDepth 20000 in
theorem ggL_charge_X0_charge : GoodIn wsL_charge wsX0_charge := goodIn_ca (goodIn_ca (goodIn_r _ [6, 7, 8, 9, 5, 10, 11, 12, 13, 14, 15, 16, 17, 18, 19, 20, 21, 22, 23, 24, 25, 26, 27, 28, 29, 30, 31, 32, 33, 34, 35, 36, 37, 38, 39, 40, 41, 42, 43, 44, 45, 46, 47, 48, 49, 50, 51, 52, 53, 54, 55, 56, 57, 58, 59, 60, 61, 62, 63, 64, 65, 66, 67, 68, 69, 70, 71, 72, 73, 74, 75, 76, 77, 78, 79, 80, 81, 82, 83, 84] (by decide +kernel) (by decide +kernel)) (goodIn_sub (fun _ h => List.mem_cons_of_mem _ (List.mem_append_left _ (List.mem_append_right _ h))) (by decide +kernel))) (goodIn_sub (fun _ h => List.mem_cons_of_mem _ (List.mem_append_right _ h)) (by decide +kernel))
set_option maxRecDepth 20000 in
theorem gL_charge_X0_charge : GoodIn wsL_charge (wsV RL 33 RX0 yX0_charge wsX0_charge) := goodIn_app (goodIn_of _ (by decide +kernel)) ggL_charge_X0_charge
theorem dL_charge_0 : decode cL_charge 0 = .ok (.aload_n 0, 1) := by decide +kernel
theorem dL_charge_1 : decode cL_charge 1 = .ok (.iload_n 1, 1) := by decide +kernel
theorem dL_charge_2 : decode cL_charge 2 = .ok (.invokevirtual 33, 3) := by decide +kernel
theorem dL_charge_5 : decode cL_charge 5 = .ok (.ireturn, 1) := by decide +kernel
theorem dL_charge_6 : decode cL_charge 6 = .ok (.astore_n 2, 1) := by decide +kernel
theorem dL_charge_7 : decode cL_charge 7 = .ok (.bipush (-3), 2) := by decide +kernel
theorem dL_charge_9 : decode cL_charge 9 = .ok (.ireturn, 1) := by decide +kernel
set_option maxRecDepth 20000 in
theorem ggL_holds_X0_debt : GoodIn wsL_holds wsX0_debt := goodIn_r _ [5, 6, 7, 8, 9, 4, 10, 11, 106, 107, 108, 109, 110, 111, 112, 113, 114, 115, 116, 117, 118, 119, 120, 121, 122] (by decide +kernel) (by decide +kernel)
set_option maxRecDepth 20000 in
theorem gL_holds_X0_debt : GoodIn wsL_holds (wsV RL 36 RX0 yX0_debt wsX0_debt) := goodIn_app (goodIn_of _ (by decide +kernel)) ggL_holds_X0_debt
set_option maxRecDepth 20000 in
theorem ggL_holds_X0_drawings : GoodIn wsL_holds wsX0_drawings := goodIn_r _ [15, 6, 106, 107, 108, 109, 110, 111, 112, 113, 114, 115, 116, 117, 118, 119, 120, 121, 122] (by decide +kernel) (by decide +kernel)
set_option maxRecDepth 20000 in
theorem gL_holds_X0_drawings : GoodIn wsL_holds (wsV RL 40 RX0 yX0_drawings wsX0_drawings) := goodIn_app (goodIn_of _ (by decide +kernel)) ggL_holds_X0_drawings
set_option maxRecDepth 20000 in
theorem ggL_holds_X0_balance : GoodIn wsL_holds wsX0_balance := goodIn_ca (goodIn_r _ [19, 20, 21, 6, 7, 8, 9, 4, 10, 11, 106, 107, 108, 109, 110, 111, 112, 113, 114, 115, 116, 117, 118, 119, 120, 121, 122] (by decide +kernel) (by decide +kernel)) (goodIn_sub (fun _ h => List.mem_cons_of_mem _ (List.mem_append_right _ h)) (by decide +kernel))
set_option maxRecDepth 20000 in
theorem gL_holds_X0_balance : GoodIn wsL_holds (wsV RL 44 RX0 yX0_balance wsX0_balance) := goodIn_app (goodIn_of _ (by decide +kernel)) ggL_holds_X0_balance
set_option maxRecDepth 20000 in
theorem ggL_holds_X0_debtAnew : GoodIn wsL_holds wsX0_debtAnew := goodIn_r _ [25, 6, 26, 27, 28, 4, 29, 30, 11, 31, 32, 33, 34, 35, 36, 37, 38, 39, 40, 41, 42, 43, 44, 45, 46, 47, 48, 49, 50, 51, 52, 53, 54, 55, 56, 57, 58, 59, 60, 61, 62, 8, 9, 10, 106, 107, 108, 109, 110, 111, 112, 113, 114, 115, 116, 117, 118, 119, 120, 121, 122] (by decide +kernel) (by decide +kernel)
set_option maxRecDepth 20000 in
theorem gL_holds_X0_debtAnew : GoodIn wsL_holds (wsV RL 47 RX0 yX0_debtAnew wsX0_debtAnew) := goodIn_app (goodIn_of _ (by decide +kernel)) ggL_holds_X0_debtAnew
set_option maxRecDepth 20000 in
theorem ggL_holds_X0_owed : GoodIn wsL_holds wsX0_owed := goodIn_r _ [66, 67, 68, 69, 61, 70, 71, 2, 3, 4, 5, 6, 7, 8, 9, 10, 11, 106, 107, 108, 109, 110, 111, 112, 113, 114, 115, 116, 117, 118, 119, 120, 121, 122] (by decide +kernel) (by decide +kernel)
set_option maxRecDepth 20000 in
theorem gL_holds_X0_owed : GoodIn wsL_holds (wsV RL 50 RX0 yX0_owed wsX0_owed) := goodIn_app (goodIn_of _ (by decide +kernel)) ggL_holds_X0_owed
set_option maxRecDepth 20000 in
theorem ggL_holds_X0_worth : GoodIn wsL_holds wsX0_worth := goodIn_r _ [75, 67, 106, 107, 108, 109, 110, 111, 112, 113, 114, 115, 116, 117, 118, 119, 120, 121, 122] (by decide +kernel) (by decide +kernel)
set_option maxRecDepth 20000 in
theorem gL_holds_X0_worth : GoodIn wsL_holds (wsV RL 53 RX0 yX0_worth wsX0_worth) := goodIn_app (goodIn_of _ (by decide +kernel)) ggL_holds_X0_worth
set_option maxRecDepth 20000 in
theorem ggL_holds_X0_spared : GoodIn wsL_holds wsX0_spared := goodIn_r _ [79, 71, 2, 3, 4, 5, 6, 7, 8, 9, 10, 11, 80, 64, 65, 66, 67, 68, 69, 61, 70, 106, 107, 108, 109, 110, 111, 112, 113, 114, 115, 116, 117, 118, 119, 120, 121, 122] (by decide +kernel) (by decide +kernel)
set_option maxRecDepth 20000 in
theorem gL_holds_X0_spared : GoodIn wsL_holds (wsV RL 56 RX0 yX0_spared wsX0_spared) := goodIn_app (goodIn_of _ (by decide +kernel)) ggL_holds_X0_spared
set_option maxRecDepth 20000 in
theorem ggL_holds_X0_room : GoodIn wsL_holds wsX0_room := goodIn_r _ [84, 85, 106, 107, 108, 109, 110, 111, 112, 113, 114, 115, 116, 117, 118, 119, 120, 121, 122] (by decide +kernel) (by decide +kernel)
set_option maxRecDepth 20000 in
theorem gL_holds_X0_room : GoodIn wsL_holds (wsV RL 59 RX0 yX0_room wsX0_room) := goodIn_app (goodIn_of _ (by decide +kernel)) ggL_holds_X0_room
set_option maxRecDepth 20000 in
theorem ggL_holds_X0_allowance : GoodIn wsL_holds wsX0_allowance := goodIn_r _ [89, 6, 30, 59, 60, 61, 62, 90, 91, 92, 4, 93, 32, 35, 36, 94, 95, 96, 97, 98, 99, 106, 107, 108, 109, 110, 111, 112, 113, 114, 115, 116, 117, 118, 119, 120, 121, 122] (by decide +kernel) (by decide +kernel)
set_option maxRecDepth 20000 in
theorem gL_holds_X0_allowance : GoodIn wsL_holds (wsV RL 62 RX0 yX0_allowance wsX0_allowance) := goodIn_app (goodIn_of _ (by decide +kernel)) ggL_holds_X0_allowance
set_option maxRecDepth 20000 in
theorem ggL_holds_X0_age : GoodIn wsL_holds wsX0_age := goodIn_r _ [103, 49, 54, 104, 36, 106, 107, 108, 109, 110, 111, 112, 113, 114, 115, 116, 117, 118, 119, 120, 121, 122] (by decide +kernel) (by decide +kernel)
set_option maxRecDepth 20000 in
theorem gL_holds_X0_age : GoodIn wsL_holds (wsV RL 65 RX0 yX0_age wsX0_age) := goodIn_app (goodIn_of _ (by decide +kernel)) ggL_holds_X0_age
set_option maxRecDepth 20000 in
theorem ggL_holds_X0_hasEnded : GoodIn wsL_holds wsX0_hasEnded := goodIn_r _ [44, 45, 46, 47, 4, 48, 49, 50, 51, 52, 53, 54, 106, 107, 108, 109, 110, 111, 112, 113, 114, 115, 116, 117, 118, 119, 120, 121, 122] (by decide +kernel) (by decide +kernel)
set_option maxRecDepth 20000 in
theorem gL_holds_X0_hasEnded : GoodIn wsL_holds (wsV RL 68 RX0 yX0_hasEnded wsX0_hasEnded) := goodIn_app (goodIn_of _ (by decide +kernel)) ggL_holds_X0_hasEnded
theorem dL_holds_0 : decode cL_holds 0 = .ok (.aload_n 0, 1) := by decide +kernel
theorem dL_holds_1 : decode cL_holds 1 = .ok (.invokevirtual 36, 3) := by decide +kernel
theorem dL_holds_4 : decode cL_holds 4 = .ok (.lstore_n 1, 1) := by decide +kernel
theorem dL_holds_5 : decode cL_holds 5 = .ok (.lconst 0, 1) := by decide +kernel
theorem dL_holds_6 : decode cL_holds 6 = .ok (.lstore_n 3, 1) := by decide +kernel
theorem dL_holds_7 : decode cL_holds 7 = .ok (.iconst 0, 1) := by decide +kernel
theorem dL_holds_8 : decode cL_holds 8 = .ok (.istore 5, 2) := by decide +kernel
theorem dL_holds_10 : decode cL_holds 10 = .ok (.iload 5, 2) := by decide +kernel
theorem dL_holds_12 : decode cL_holds 12 = .ok (.aload_n 0, 1) := by decide +kernel
theorem dL_holds_13 : decode cL_holds 13 = .ok (.invokevirtual 40, 3) := by decide +kernel
theorem dL_holds_16 : decode cL_holds 16 = .ok (.if_icmp .ge 18, 3) := by decide +kernel
theorem dL_holds_19 : decode cL_holds 19 = .ok (.lload_n 3, 1) := by decide +kernel
theorem dL_holds_20 : decode cL_holds 20 = .ok (.aload_n 0, 1) := by decide +kernel
theorem dL_holds_21 : decode cL_holds 21 = .ok (.iload 5, 2) := by decide +kernel
theorem dL_holds_23 : decode cL_holds 23 = .ok (.invokevirtual 44, 3) := by decide +kernel
theorem dL_holds_26 : decode cL_holds 26 = .ok (.ladd, 1) := by decide +kernel
theorem dL_holds_27 : decode cL_holds 27 = .ok (.lstore_n 3, 1) := by decide +kernel
theorem dL_holds_28 : decode cL_holds 28 = .ok (.iinc 5 1, 3) := by decide +kernel
theorem dL_holds_31 : decode cL_holds 31 = .ok (.goto (-21), 3) := by decide +kernel
theorem dL_holds_34 : decode cL_holds 34 = .ok (.lload_n 1, 1) := by decide +kernel
theorem dL_holds_35 : decode cL_holds 35 = .ok (.aload_n 0, 1) := by decide +kernel
theorem dL_holds_36 : decode cL_holds 36 = .ok (.invokevirtual 47, 3) := by decide +kernel
theorem dL_holds_39 : decode cL_holds 39 = .ok (.lcmp, 1) := by decide +kernel
theorem dL_holds_40 : decode cL_holds 40 = .ok (.ifCond .ne 45, 3) := by decide +kernel
theorem dL_holds_43 : decode cL_holds 43 = .ok (.lload_n 1, 1) := by decide +kernel
theorem dL_holds_44 : decode cL_holds 44 = .ok (.lconst 0, 1) := by decide +kernel
theorem dL_holds_45 : decode cL_holds 45 = .ok (.lcmp, 1) := by decide +kernel
theorem dL_holds_46 : decode cL_holds 46 = .ok (.ifCond .lt 39, 3) := by decide +kernel
theorem dL_holds_49 : decode cL_holds 49 = .ok (.lload_n 1, 1) := by decide +kernel
theorem dL_holds_50 : decode cL_holds 50 = .ok (.lload_n 3, 1) := by decide +kernel
theorem dL_holds_51 : decode cL_holds 51 = .ok (.lcmp, 1) := by decide +kernel
theorem dL_holds_52 : decode cL_holds 52 = .ok (.ifCond .gt 33, 3) := by decide +kernel
theorem dL_holds_55 : decode cL_holds 55 = .ok (.lload_n 1, 1) := by decide +kernel
theorem dL_holds_56 : decode cL_holds 56 = .ok (.lload_n 3, 1) := by decide +kernel
theorem dL_holds_57 : decode cL_holds 57 = .ok (.aload_n 0, 1) := by decide +kernel
theorem dL_holds_58 : decode cL_holds 58 = .ok (.invokevirtual 40, 3) := by decide +kernel
theorem dL_holds_61 : decode cL_holds 61 = .ok (.i2l, 1) := by decide +kernel
theorem dL_holds_62 : decode cL_holds 62 = .ok (.lsub, 1) := by decide +kernel
theorem dL_holds_63 : decode cL_holds 63 = .ok (.aload_n 0, 1) := by decide +kernel
theorem dL_holds_64 : decode cL_holds 64 = .ok (.invokevirtual 40, 3) := by decide +kernel
theorem dL_holds_67 : decode cL_holds 67 = .ok (.ifCond .ne 7, 3) := by decide +kernel
theorem dL_holds_70 : decode cL_holds 70 = .ok (.iconst 1, 1) := by decide +kernel
theorem dL_holds_71 : decode cL_holds 71 = .ok (.goto 4, 3) := by decide +kernel
theorem dL_holds_74 : decode cL_holds 74 = .ok (.iconst 0, 1) := by decide +kernel
theorem dL_holds_75 : decode cL_holds 75 = .ok (.i2l, 1) := by decide +kernel
theorem dL_holds_76 : decode cL_holds 76 = .ok (.lsub, 1) := by decide +kernel
theorem dL_holds_77 : decode cL_holds 77 = .ok (.lcmp, 1) := by decide +kernel
theorem dL_holds_78 : decode cL_holds 78 = .ok (.ifCond .le 7, 3) := by decide +kernel
theorem dL_holds_81 : decode cL_holds 81 = .ok (.iconst 1, 1) := by decide +kernel
theorem dL_holds_82 : decode cL_holds 82 = .ok (.goto 4, 3) := by decide +kernel
theorem dL_holds_85 : decode cL_holds 85 = .ok (.iconst 0, 1) := by decide +kernel
theorem dL_holds_86 : decode cL_holds 86 = .ok (.istore 5, 2) := by decide +kernel
theorem dL_holds_88 : decode cL_holds 88 = .ok (.iload 5, 2) := by decide +kernel
theorem dL_holds_90 : decode cL_holds 90 = .ok (.ifCond .eq 62, 3) := by decide +kernel
theorem dL_holds_93 : decode cL_holds 93 = .ok (.aload_n 0, 1) := by decide +kernel
theorem dL_holds_94 : decode cL_holds 94 = .ok (.invokevirtual 50, 3) := by decide +kernel
theorem dL_holds_97 : decode cL_holds 97 = .ok (.lload_n 1, 1) := by decide +kernel
theorem dL_holds_98 : decode cL_holds 98 = .ok (.aload_n 0, 1) := by decide +kernel
theorem dL_holds_99 : decode cL_holds 99 = .ok (.invokevirtual 53, 3) := by decide +kernel
theorem dL_holds_102 : decode cL_holds 102 = .ok (.i2l, 1) := by decide +kernel
theorem dL_holds_103 : decode cL_holds 103 = .ok (.lcmp, 1) := by decide +kernel
theorem dL_holds_104 : decode cL_holds 104 = .ok (.ifCond .ge 7, 3) := by decide +kernel
theorem dL_holds_107 : decode cL_holds 107 = .ok (.lload_n 1, 1) := by decide +kernel
theorem dL_holds_108 : decode cL_holds 108 = .ok (.goto 8, 3) := by decide +kernel
theorem dL_holds_111 : decode cL_holds 111 = .ok (.aload_n 0, 1) := by decide +kernel
theorem dL_holds_112 : decode cL_holds 112 = .ok (.invokevirtual 53, 3) := by decide +kernel
theorem dL_holds_115 : decode cL_holds 115 = .ok (.i2l, 1) := by decide +kernel
theorem dL_holds_116 : decode cL_holds 116 = .ok (.lcmp, 1) := by decide +kernel
theorem dL_holds_117 : decode cL_holds 117 = .ok (.ifCond .ne 35, 3) := by decide +kernel
theorem dL_holds_120 : decode cL_holds 120 = .ok (.aload_n 0, 1) := by decide +kernel
theorem dL_holds_121 : decode cL_holds 121 = .ok (.invokevirtual 56, 3) := by decide +kernel
theorem dL_holds_124 : decode cL_holds 124 = .ok (.lload_n 1, 1) := by decide +kernel
theorem dL_holds_125 : decode cL_holds 125 = .ok (.aload_n 0, 1) := by decide +kernel
theorem dL_holds_126 : decode cL_holds 126 = .ok (.invokevirtual 50, 3) := by decide +kernel
theorem dL_holds_129 : decode cL_holds 129 = .ok (.lsub, 1) := by decide +kernel
theorem dL_holds_130 : decode cL_holds 130 = .ok (.lcmp, 1) := by decide +kernel
theorem dL_holds_131 : decode cL_holds 131 = .ok (.ifCond .ne 21, 3) := by decide +kernel
theorem dL_holds_134 : decode cL_holds 134 = .ok (.aload_n 0, 1) := by decide +kernel
theorem dL_holds_135 : decode cL_holds 135 = .ok (.invokevirtual 59, 3) := by decide +kernel
theorem dL_holds_138 : decode cL_holds 138 = .ok (.ifCond .lt 14, 3) := by decide +kernel
theorem dL_holds_141 : decode cL_holds 141 = .ok (.aload_n 0, 1) := by decide +kernel
theorem dL_holds_142 : decode cL_holds 142 = .ok (.invokevirtual 62, 3) := by decide +kernel
theorem dL_holds_145 : decode cL_holds 145 = .ok (.ifCond .lt 7, 3) := by decide +kernel
theorem dL_holds_148 : decode cL_holds 148 = .ok (.iconst 1, 1) := by decide +kernel
theorem dL_holds_149 : decode cL_holds 149 = .ok (.goto 4, 3) := by decide +kernel
theorem dL_holds_152 : decode cL_holds 152 = .ok (.iconst 0, 1) := by decide +kernel
theorem dL_holds_153 : decode cL_holds 153 = .ok (.istore 5, 2) := by decide +kernel
theorem dL_holds_155 : decode cL_holds 155 = .ok (.iload 5, 2) := by decide +kernel
theorem dL_holds_157 : decode cL_holds 157 = .ok (.ifCond .eq 39, 3) := by decide +kernel
theorem dL_holds_160 : decode cL_holds 160 = .ok (.aload_n 0, 1) := by decide +kernel
theorem dL_holds_161 : decode cL_holds 161 = .ok (.invokevirtual 65, 3) := by decide +kernel
theorem dL_holds_164 : decode cL_holds 164 = .ok (.iconst (-1), 1) := by decide +kernel
theorem dL_holds_165 : decode cL_holds 165 = .ok (.if_icmp .eq 12, 3) := by decide +kernel
theorem dL_holds_168 : decode cL_holds 168 = .ok (.aload_n 0, 1) := by decide +kernel
theorem dL_holds_169 : decode cL_holds 169 = .ok (.invokevirtual 65, 3) := by decide +kernel
theorem dL_holds_172 : decode cL_holds 172 = .ok (.bipush 55, 2) := by decide +kernel
theorem dL_holds_174 : decode cL_holds 174 = .ok (.if_icmp .lt 22, 3) := by decide +kernel
theorem dL_holds_177 : decode cL_holds 177 = .ok (.aload_n 0, 1) := by decide +kernel
theorem dL_holds_178 : decode cL_holds 178 = .ok (.invokevirtual 68, 3) := by decide +kernel
theorem dL_holds_181 : decode cL_holds 181 = .ok (.ifCond .eq 11, 3) := by decide +kernel
theorem dL_holds_184 : decode cL_holds 184 = .ok (.aload_n 0, 1) := by decide +kernel
theorem dL_holds_185 : decode cL_holds 185 = .ok (.invokevirtual 65, 3) := by decide +kernel
theorem dL_holds_188 : decode cL_holds 188 = .ok (.iconst (-1), 1) := by decide +kernel
theorem dL_holds_189 : decode cL_holds 189 = .ok (.if_icmp .ne 7, 3) := by decide +kernel
theorem dL_holds_192 : decode cL_holds 192 = .ok (.iconst 1, 1) := by decide +kernel
theorem dL_holds_193 : decode cL_holds 193 = .ok (.goto 4, 3) := by decide +kernel
theorem dL_holds_196 : decode cL_holds 196 = .ok (.iconst 0, 1) := by decide +kernel
theorem dL_holds_197 : decode cL_holds 197 = .ok (.ireturn, 1) := by decide +kernel
set_option maxRecDepth 20000 in
theorem ggL_loan_X0_debt : GoodIn wsL_loan wsX0_debt := goodIn_r _ [8, 9, 10, 11, 12, 7, 13, 14, 153, 154, 155, 156, 157, 158, 159, 160, 161, 162, 163, 164, 165, 166, 167, 168, 169] (by decide +kernel) (by decide +kernel)
set_option maxRecDepth 20000 in
theorem gL_loan_X0_debt : GoodIn wsL_loan (wsV RL 36 RX0 yX0_debt wsX0_debt) := goodIn_app (goodIn_of _ (by decide +kernel)) ggL_loan_X0_debt
set_option maxRecDepth 20000 in
theorem ggL_loan_X0_room : GoodIn wsL_loan wsX0_room := goodIn_r _ [18, 19, 153, 154, 155, 156, 157, 158, 159, 160, 161, 162, 163, 164, 165, 166, 167, 168, 169] (by decide +kernel) (by decide +kernel)
set_option maxRecDepth 20000 in
theorem gL_loan_X0_room : GoodIn wsL_loan (wsV RL 59 RX0 yX0_room wsX0_room) := goodIn_app (goodIn_of _ (by decide +kernel)) ggL_loan_X0_room
set_option maxRecDepth 20000 in
theorem ggL_loan_L_low : GoodIn wsL_loan wsL_low := goodIn_r _ [23, 24] (by decide +kernel) (by decide +kernel)
set_option maxRecDepth 20000 in
theorem gL_loan_L_low : GoodIn wsL_loan (va_wsS RL 72 yL_low wsL_low) := goodIn_app (goodIn_of _ (by decide +kernel)) ggL_loan_L_low
set_option maxRecDepth 20000 in
theorem ggL_loan_L_draw : GoodIn wsL_loan wsL_draw := goodIn_ca (goodIn_ca (goodIn_r _ [27, 28, 29, 30, 31, 7, 32, 33, 34, 35, 19, 9, 36, 37, 38, 39, 40, 41, 42, 43, 44, 45, 46, 47, 48, 49, 50, 51, 52, 53, 54, 55, 56, 57, 58, 59, 60, 61, 62, 63, 64, 65, 66, 67, 10, 14, 153, 154, 155, 156, 157, 158, 159, 160, 161, 162, 163, 164, 165, 166, 167, 168, 169] (by decide +kernel) (by decide +kernel)) (goodIn_sub (fun _ h => List.mem_cons_of_mem _ (List.mem_append_left _ (List.mem_append_right _ h))) (by decide +kernel))) (goodIn_sub (fun _ h => List.mem_cons_of_mem _ (List.mem_append_right _ h)) (by decide +kernel))
set_option maxRecDepth 20000 in
theorem gL_loan_L_draw : GoodIn wsL_loan (va_wsS RL 79 yL_draw wsL_draw) := goodIn_app (goodIn_of _ (by decide +kernel)) ggL_loan_L_draw
set_option maxRecDepth 20000 in
theorem ggL_loan_L_charge : GoodIn wsL_loan wsL_charge := goodIn_ca (goodIn_ca (goodIn_r _ [70, 28, 71, 72, 73, 7, 74, 35, 36, 37, 38, 39, 40, 41, 42, 43, 44, 33, 34, 45, 46, 47, 48, 49, 50, 51, 52, 53, 54, 55, 56, 57, 58, 75, 76, 77, 78, 79, 80, 81, 82, 65, 83, 84, 85, 86, 87, 88, 89, 90, 91, 92, 93, 94, 9, 63, 95, 96, 97, 98, 99, 100, 101, 102, 103, 104, 105, 106, 153, 154, 155, 156, 157, 158, 159, 160, 161, 162, 163, 164, 165, 166, 167, 168, 169] (by decide +kernel) (by decide +kernel)) (goodIn_sub (fun _ h => List.mem_cons_of_mem _ (List.mem_append_right _ h)) (by decide +kernel))) (goodIn_sub (fun _ h => List.mem_cons_of_mem _ (List.mem_append_left _ (List.mem_append_right _ h))) (by decide +kernel))
set_option maxRecDepth 20000 in
theorem gL_loan_L_charge : GoodIn wsL_loan (va_wsS RL 82 yL_charge wsL_charge) := goodIn_app (goodIn_of _ (by decide +kernel)) ggL_loan_L_charge
set_option maxRecDepth 20000 in
theorem ggL_loan_L_pay : GoodIn wsL_loan wsL_pay := goodIn_ca (goodIn_ca (goodIn_r _ [109, 28, 110, 111, 112, 7, 113, 33, 34, 35, 99, 36, 37, 38, 39, 40, 41, 42, 43, 44, 45, 46, 47, 48, 49, 50, 51, 52, 53, 54, 55, 56, 57, 58, 114, 5, 6, 8, 9, 10, 11, 12, 13, 14, 75, 76, 77, 78, 79, 80, 81, 82, 65, 83, 84, 85, 86, 87, 88, 89, 90, 91, 92, 93, 94, 63, 95, 96, 97, 98, 100, 101, 102, 103, 104, 105, 106, 115, 116, 117, 118, 119, 120, 121, 122, 153, 154, 155, 156, 157, 158, 159, 160, 161, 162, 163, 164, 165, 166, 167, 168, 169] (by decide +kernel) (by decide +kernel)) (goodIn_sub (fun _ h => List.mem_cons_of_mem _ (List.mem_append_left _ (List.mem_append_right _ h))) (by decide +kernel))) (goodIn_sub (fun _ h => List.mem_cons_of_mem _ (List.mem_append_right _ h)) (by decide +kernel))
set_option maxRecDepth 20000 in
theorem gL_loan_L_pay : GoodIn wsL_loan (va_wsS RL 84 yL_pay wsL_pay) := goodIn_app (goodIn_of _ (by decide +kernel)) ggL_loan_L_pay
set_option maxRecDepth 20000 in
theorem ggL_loan_L_move : GoodIn wsL_loan wsL_move := goodIn_ca (goodIn_ca (goodIn_r _ [125, 28, 3, 126, 127, 128, 7, 129, 33, 34, 35, 99, 130, 131, 81, 132, 133, 19, 36, 37, 38, 39, 40, 41, 42, 43, 44, 45, 46, 47, 48, 49, 50, 51, 52, 53, 54, 55, 56, 57, 58, 134, 135, 136, 137, 138, 65, 139, 140, 141, 142, 143, 144, 114, 5, 6, 8, 9, 10, 11, 12, 13, 14, 115, 116, 117, 118, 119, 120, 121, 122, 100, 101, 153, 154, 155, 156, 157, 158, 159, 160, 161, 162, 163, 164, 165, 166, 167, 168, 169] (by decide +kernel) (by decide +kernel)) (goodIn_sub (fun _ h => List.mem_cons_of_mem _ (List.mem_append_left _ (List.mem_append_right _ h))) (by decide +kernel))) (goodIn_sub (fun _ h => List.mem_cons_of_mem _ (List.mem_append_right _ h)) (by decide +kernel))
set_option maxRecDepth 20000 in
theorem gL_loan_L_move : GoodIn wsL_loan (va_wsS RL 87 yL_move wsL_move) := goodIn_app (goodIn_of _ (by decide +kernel)) ggL_loan_L_move
set_option maxRecDepth 20000 in
theorem ggL_loan_X0_value : GoodIn wsL_loan wsX0_value := goodIn_ca (goodIn_ca (goodIn_r _ [148, 33, 34, 35, 133, 36, 37, 7, 38, 39, 40, 45, 46, 47, 48, 49, 153, 154, 155, 156, 157, 158, 159, 160, 161, 162, 163, 164, 165, 166, 167, 168, 169] (by decide +kernel) (by decide +kernel)) (goodIn_sub (fun _ h => List.mem_cons_of_mem _ (List.mem_append_left _ (List.mem_append_right _ h))) (by decide +kernel))) (goodIn_sub (fun _ h => List.mem_cons_of_mem _ (List.mem_append_right _ h)) (by decide +kernel))
set_option maxRecDepth 20000 in
theorem gL_loan_X0_value : GoodIn wsL_loan (wsV RL 90 RX0 yX0_value wsX0_value) := goodIn_app (goodIn_of _ (by decide +kernel)) ggL_loan_X0_value
set_option maxRecDepth 20000 in
theorem ggL_loan_X0_worth : GoodIn wsL_loan wsX0_worth := goodIn_r _ [152, 133, 153, 154, 155, 156, 157, 158, 159, 160, 161, 162, 163, 164, 165, 166, 167, 168, 169] (by decide +kernel) (by decide +kernel)
set_option maxRecDepth 20000 in
theorem gL_loan_X0_worth : GoodIn wsL_loan (wsV RL 53 RX0 yX0_worth wsX0_worth) := goodIn_app (goodIn_of _ (by decide +kernel)) ggL_loan_X0_worth
theorem dL_loan_0 : decode cL_loan 0 = .ok (.aload_n 0, 1) := by decide +kernel
theorem dL_loan_1 : decode cL_loan 1 = .ok (.invokevirtual 36, 3) := by decide +kernel
theorem dL_loan_4 : decode cL_loan 4 = .ok (.lstore_n 3, 1) := by decide +kernel
theorem dL_loan_5 : decode cL_loan 5 = .ok (.aload_n 0, 1) := by decide +kernel
theorem dL_loan_6 : decode cL_loan 6 = .ok (.invokevirtual 59, 3) := by decide +kernel
theorem dL_loan_9 : decode cL_loan 9 = .ok (.istore 5, 2) := by decide +kernel
theorem dL_loan_11 : decode cL_loan 11 = .ok (.iload_n 2, 1) := by decide +kernel
theorem dL_loan_12 : decode cL_loan 12 = .ok (.iconst 4, 1) := by decide +kernel
theorem dL_loan_13 : decode cL_loan 13 = .ok (.if_icmp .ge 109, 3) := by decide +kernel
theorem dL_loan_16 : decode cL_loan 16 = .ok (.iconst 1, 1) := by decide +kernel
theorem dL_loan_17 : decode cL_loan 17 = .ok (.iload_n 1, 1) := by decide +kernel
theorem dL_loan_18 : decode cL_loan 18 = .ok (.iload_n 1, 1) := by decide +kernel
theorem dL_loan_19 : decode cL_loan 19 = .ok (.bipush 17, 2) := by decide +kernel
theorem dL_loan_21 : decode cL_loan 21 = .ok (.ishr, 1) := by decide +kernel
theorem dL_loan_22 : decode cL_loan 22 = .ok (.iconst 2, 1) := by decide +kernel
theorem dL_loan_23 : decode cL_loan 23 = .ok (.invokestatic 72, 3) := by decide +kernel
theorem dL_loan_26 : decode cL_loan 26 = .ok (.ifCond .ne 8, 3) := by decide +kernel
theorem dL_loan_29 : decode cL_loan 29 = .ok (.ldc 78, 2) := by decide +kernel
theorem dL_loan_31 : decode cL_loan 31 = .ok (.goto 6, 3) := by decide +kernel
theorem dL_loan_34 : decode cL_loan 34 = .ok (.sipush 9000, 3) := by decide +kernel
theorem dL_loan_37 : decode cL_loan 37 = .ok (.invokestatic 72, 3) := by decide +kernel
theorem dL_loan_40 : decode cL_loan 40 = .ok (.iadd, 1) := by decide +kernel
theorem dL_loan_41 : decode cL_loan 41 = .ok (.istore 6, 2) := by decide +kernel
theorem dL_loan_43 : decode cL_loan 43 = .ok (.aload_n 0, 1) := by decide +kernel
theorem dL_loan_44 : decode cL_loan 44 = .ok (.iload 6, 2) := by decide +kernel
theorem dL_loan_46 : decode cL_loan 46 = .ok (.invokestatic 79, 3) := by decide +kernel
theorem dL_loan_49 : decode cL_loan 49 = .ok (.istore 7, 2) := by decide +kernel
theorem dL_loan_51 : decode cL_loan 51 = .ok (.iload 7, 2) := by decide +kernel
theorem dL_loan_53 : decode cL_loan 53 = .ok (.bipush (-3), 2) := by decide +kernel
theorem dL_loan_55 : decode cL_loan 55 = .ok (.if_icmp .ne 29, 3) := by decide +kernel
theorem dL_loan_58 : decode cL_loan 58 = .ok (.aload_n 0, 1) := by decide +kernel
theorem dL_loan_59 : decode cL_loan 59 = .ok (.invokevirtual 59, 3) := by decide +kernel
theorem dL_loan_62 : decode cL_loan 62 = .ok (.iload 5, 2) := by decide +kernel
theorem dL_loan_64 : decode cL_loan 64 = .ok (.if_icmp .ne 16, 3) := by decide +kernel
theorem dL_loan_67 : decode cL_loan 67 = .ok (.aload_n 0, 1) := by decide +kernel
theorem dL_loan_68 : decode cL_loan 68 = .ok (.invokevirtual 36, 3) := by decide +kernel
theorem dL_loan_71 : decode cL_loan 71 = .ok (.lload_n 3, 1) := by decide +kernel
theorem dL_loan_72 : decode cL_loan 72 = .ok (.lcmp, 1) := by decide +kernel
theorem dL_loan_73 : decode cL_loan 73 = .ok (.ifCond .ne 7, 3) := by decide +kernel
theorem dL_loan_76 : decode cL_loan 76 = .ok (.iconst 1, 1) := by decide +kernel
theorem dL_loan_77 : decode cL_loan 77 = .ok (.goto 44, 3) := by decide +kernel
theorem dL_loan_80 : decode cL_loan 80 = .ok (.iconst 0, 1) := by decide +kernel
theorem dL_loan_81 : decode cL_loan 81 = .ok (.goto 40, 3) := by decide +kernel
theorem dL_loan_84 : decode cL_loan 84 = .ok (.iload 7, 2) := by decide +kernel
theorem dL_loan_86 : decode cL_loan 86 = .ok (.iload 5, 2) := by decide +kernel
theorem dL_loan_88 : decode cL_loan 88 = .ok (.iload 6, 2) := by decide +kernel
theorem dL_loan_90 : decode cL_loan 90 = .ok (.isub, 1) := by decide +kernel
theorem dL_loan_91 : decode cL_loan 91 = .ok (.if_icmp .ne 29, 3) := by decide +kernel
theorem dL_loan_94 : decode cL_loan 94 = .ok (.aload_n 0, 1) := by decide +kernel
theorem dL_loan_95 : decode cL_loan 95 = .ok (.invokevirtual 59, 3) := by decide +kernel
theorem dL_loan_98 : decode cL_loan 98 = .ok (.iload 7, 2) := by decide +kernel
theorem dL_loan_100 : decode cL_loan 100 = .ok (.if_icmp .ne 20, 3) := by decide +kernel
theorem dL_loan_103 : decode cL_loan 103 = .ok (.aload_n 0, 1) := by decide +kernel
theorem dL_loan_104 : decode cL_loan 104 = .ok (.invokevirtual 36, 3) := by decide +kernel
theorem dL_loan_107 : decode cL_loan 107 = .ok (.lload_n 3, 1) := by decide +kernel
theorem dL_loan_108 : decode cL_loan 108 = .ok (.iload 6, 2) := by decide +kernel
theorem dL_loan_110 : decode cL_loan 110 = .ok (.i2l, 1) := by decide +kernel
theorem dL_loan_111 : decode cL_loan 111 = .ok (.ladd, 1) := by decide +kernel
theorem dL_loan_112 : decode cL_loan 112 = .ok (.lcmp, 1) := by decide +kernel
theorem dL_loan_113 : decode cL_loan 113 = .ok (.ifCond .ne 7, 3) := by decide +kernel
theorem dL_loan_116 : decode cL_loan 116 = .ok (.iconst 1, 1) := by decide +kernel
theorem dL_loan_117 : decode cL_loan 117 = .ok (.goto 4, 3) := by decide +kernel
theorem dL_loan_120 : decode cL_loan 120 = .ok (.iconst 0, 1) := by decide +kernel
theorem dL_loan_121 : decode cL_loan 121 = .ok (.ireturn, 1) := by decide +kernel
theorem dL_loan_122 : decode cL_loan 122 = .ok (.iload_n 2, 1) := by decide +kernel
theorem dL_loan_123 : decode cL_loan 123 = .ok (.bipush 8, 2) := by decide +kernel
theorem dL_loan_125 : decode cL_loan 125 = .ok (.if_icmp .ge 120, 3) := by decide +kernel
theorem dL_loan_128 : decode cL_loan 128 = .ok (.iconst 1, 1) := by decide +kernel
theorem dL_loan_129 : decode cL_loan 129 = .ok (.iload_n 1, 1) := by decide +kernel
theorem dL_loan_130 : decode cL_loan 130 = .ok (.iload_n 1, 1) := by decide +kernel
theorem dL_loan_131 : decode cL_loan 131 = .ok (.bipush 17, 2) := by decide +kernel
theorem dL_loan_133 : decode cL_loan 133 = .ok (.ishr, 1) := by decide +kernel
theorem dL_loan_134 : decode cL_loan 134 = .ok (.iconst 2, 1) := by decide +kernel
theorem dL_loan_135 : decode cL_loan 135 = .ok (.invokestatic 72, 3) := by decide +kernel
theorem dL_loan_138 : decode cL_loan 138 = .ok (.ifCond .ne 8, 3) := by decide +kernel
theorem dL_loan_141 : decode cL_loan 141 = .ok (.ldc 78, 2) := by decide +kernel
theorem dL_loan_143 : decode cL_loan 143 = .ok (.goto 6, 3) := by decide +kernel
theorem dL_loan_146 : decode cL_loan 146 = .ok (.sipush 3000, 3) := by decide +kernel
theorem dL_loan_149 : decode cL_loan 149 = .ok (.invokestatic 72, 3) := by decide +kernel
theorem dL_loan_152 : decode cL_loan 152 = .ok (.iadd, 1) := by decide +kernel
theorem dL_loan_153 : decode cL_loan 153 = .ok (.istore 6, 2) := by decide +kernel
theorem dL_loan_155 : decode cL_loan 155 = .ok (.aload_n 0, 1) := by decide +kernel
theorem dL_loan_156 : decode cL_loan 156 = .ok (.iload 6, 2) := by decide +kernel
theorem dL_loan_158 : decode cL_loan 158 = .ok (.invokestatic 82, 3) := by decide +kernel
theorem dL_loan_161 : decode cL_loan 161 = .ok (.istore 7, 2) := by decide +kernel
theorem dL_loan_163 : decode cL_loan 163 = .ok (.aload_n 0, 1) := by decide +kernel
theorem dL_loan_164 : decode cL_loan 164 = .ok (.iload 6, 2) := by decide +kernel
theorem dL_loan_166 : decode cL_loan 166 = .ok (.invokestatic 84, 3) := by decide +kernel
theorem dL_loan_169 : decode cL_loan 169 = .ok (.istore 8, 2) := by decide +kernel
theorem dL_loan_171 : decode cL_loan 171 = .ok (.iload 8, 2) := by decide +kernel
theorem dL_loan_173 : decode cL_loan 173 = .ok (.bipush (-3), 2) := by decide +kernel
theorem dL_loan_175 : decode cL_loan 175 = .ok (.if_icmp .ne 20, 3) := by decide +kernel
theorem dL_loan_178 : decode cL_loan 178 = .ok (.aload_n 0, 1) := by decide +kernel
theorem dL_loan_179 : decode cL_loan 179 = .ok (.invokevirtual 36, 3) := by decide +kernel
theorem dL_loan_182 : decode cL_loan 182 = .ok (.lload_n 3, 1) := by decide +kernel
theorem dL_loan_183 : decode cL_loan 183 = .ok (.lcmp, 1) := by decide +kernel
theorem dL_loan_184 : decode cL_loan 184 = .ok (.ifCond .ne 7, 3) := by decide +kernel
theorem dL_loan_187 : decode cL_loan 187 = .ok (.iconst 1, 1) := by decide +kernel
theorem dL_loan_188 : decode cL_loan 188 = .ok (.goto 56, 3) := by decide +kernel
theorem dL_loan_191 : decode cL_loan 191 = .ok (.iconst 0, 1) := by decide +kernel
theorem dL_loan_192 : decode cL_loan 192 = .ok (.goto 52, 3) := by decide +kernel
theorem dL_loan_195 : decode cL_loan 195 = .ok (.iload 8, 2) := by decide +kernel
theorem dL_loan_197 : decode cL_loan 197 = .ok (.iload 7, 2) := by decide +kernel
theorem dL_loan_199 : decode cL_loan 199 = .ok (.if_icmp .ne 44, 3) := by decide +kernel
theorem dL_loan_202 : decode cL_loan 202 = .ok (.iload 8, 2) := by decide +kernel
theorem dL_loan_204 : decode cL_loan 204 = .ok (.ifCond .lt 39, 3) := by decide +kernel
theorem dL_loan_207 : decode cL_loan 207 = .ok (.iload 8, 2) := by decide +kernel
theorem dL_loan_209 : decode cL_loan 209 = .ok (.iload 6, 2) := by decide +kernel
theorem dL_loan_211 : decode cL_loan 211 = .ok (.bipush 10, 2) := by decide +kernel
theorem dL_loan_213 : decode cL_loan 213 = .ok (.idiv, 1) := by decide +kernel
theorem dL_loan_214 : decode cL_loan 214 = .ok (.if_icmp .gt 29, 3) := by decide +kernel
theorem dL_loan_217 : decode cL_loan 217 = .ok (.aload_n 0, 1) := by decide +kernel
theorem dL_loan_218 : decode cL_loan 218 = .ok (.invokevirtual 36, 3) := by decide +kernel
theorem dL_loan_221 : decode cL_loan 221 = .ok (.lload_n 3, 1) := by decide +kernel
theorem dL_loan_222 : decode cL_loan 222 = .ok (.iload 6, 2) := by decide +kernel
theorem dL_loan_224 : decode cL_loan 224 = .ok (.i2l, 1) := by decide +kernel
theorem dL_loan_225 : decode cL_loan 225 = .ok (.lsub, 1) := by decide +kernel
theorem dL_loan_226 : decode cL_loan 226 = .ok (.lcmp, 1) := by decide +kernel
theorem dL_loan_227 : decode cL_loan 227 = .ok (.ifCond .ne 16, 3) := by decide +kernel
theorem dL_loan_230 : decode cL_loan 230 = .ok (.aload_n 0, 1) := by decide +kernel
theorem dL_loan_231 : decode cL_loan 231 = .ok (.invokevirtual 59, 3) := by decide +kernel
theorem dL_loan_234 : decode cL_loan 234 = .ok (.iload 5, 2) := by decide +kernel
theorem dL_loan_236 : decode cL_loan 236 = .ok (.if_icmp .ne 7, 3) := by decide +kernel
theorem dL_loan_239 : decode cL_loan 239 = .ok (.iconst 1, 1) := by decide +kernel
theorem dL_loan_240 : decode cL_loan 240 = .ok (.goto 4, 3) := by decide +kernel
theorem dL_loan_243 : decode cL_loan 243 = .ok (.iconst 0, 1) := by decide +kernel
theorem dL_loan_244 : decode cL_loan 244 = .ok (.ireturn, 1) := by decide +kernel
theorem dL_loan_245 : decode cL_loan 245 = .ok (.iload_n 2, 1) := by decide +kernel
theorem dL_loan_246 : decode cL_loan 246 = .ok (.bipush 9, 2) := by decide +kernel
theorem dL_loan_248 : decode cL_loan 248 = .ok (.if_icmp .ge 89, 3) := by decide +kernel
theorem dL_loan_251 : decode cL_loan 251 = .ok (.aload_n 0, 1) := by decide +kernel
theorem dL_loan_252 : decode cL_loan 252 = .ok (.iload_n 1, 1) := by decide +kernel
theorem dL_loan_253 : decode cL_loan 253 = .ok (.ldc 86, 2) := by decide +kernel
theorem dL_loan_255 : decode cL_loan 255 = .ok (.invokestatic 72, 3) := by decide +kernel
theorem dL_loan_258 : decode cL_loan 258 = .ok (.invokestatic 87, 3) := by decide +kernel
theorem dL_loan_261 : decode cL_loan 261 = .ok (.lstore 6, 2) := by decide +kernel
theorem dL_loan_263 : decode cL_loan 263 = .ok (.lload 6, 2) := by decide +kernel
theorem dL_loan_265 : decode cL_loan 265 = .ok (.ldc2_w 28, 3) := by decide +kernel
theorem dL_loan_268 : decode cL_loan 268 = .ok (.lcmp, 1) := by decide +kernel
theorem dL_loan_269 : decode cL_loan 269 = .ok (.ifCond .ne 29, 3) := by decide +kernel
theorem dL_loan_272 : decode cL_loan 272 = .ok (.aload_n 0, 1) := by decide +kernel
theorem dL_loan_273 : decode cL_loan 273 = .ok (.invokevirtual 36, 3) := by decide +kernel
theorem dL_loan_276 : decode cL_loan 276 = .ok (.lload_n 3, 1) := by decide +kernel
theorem dL_loan_277 : decode cL_loan 277 = .ok (.lcmp, 1) := by decide +kernel
theorem dL_loan_278 : decode cL_loan 278 = .ok (.ifCond .ne 16, 3) := by decide +kernel
theorem dL_loan_281 : decode cL_loan 281 = .ok (.aload_n 0, 1) := by decide +kernel
theorem dL_loan_282 : decode cL_loan 282 = .ok (.invokevirtual 59, 3) := by decide +kernel
theorem dL_loan_285 : decode cL_loan 285 = .ok (.iload 5, 2) := by decide +kernel
theorem dL_loan_287 : decode cL_loan 287 = .ok (.if_icmp .ne 7, 3) := by decide +kernel
theorem dL_loan_290 : decode cL_loan 290 = .ok (.iconst 1, 1) := by decide +kernel
theorem dL_loan_291 : decode cL_loan 291 = .ok (.goto 45, 3) := by decide +kernel
theorem dL_loan_294 : decode cL_loan 294 = .ok (.iconst 0, 1) := by decide +kernel
theorem dL_loan_295 : decode cL_loan 295 = .ok (.goto 41, 3) := by decide +kernel
theorem dL_loan_298 : decode cL_loan 298 = .ok (.lload 6, 2) := by decide +kernel
theorem dL_loan_300 : decode cL_loan 300 = .ok (.lconst 0, 1) := by decide +kernel
theorem dL_loan_301 : decode cL_loan 301 = .ok (.lcmp, 1) := by decide +kernel
theorem dL_loan_302 : decode cL_loan 302 = .ok (.ifCond .lt 33, 3) := by decide +kernel
theorem dL_loan_305 : decode cL_loan 305 = .ok (.aload_n 0, 1) := by decide +kernel
theorem dL_loan_306 : decode cL_loan 306 = .ok (.invokevirtual 36, 3) := by decide +kernel
theorem dL_loan_309 : decode cL_loan 309 = .ok (.lload_n 3, 1) := by decide +kernel
theorem dL_loan_310 : decode cL_loan 310 = .ok (.lload 6, 2) := by decide +kernel
theorem dL_loan_312 : decode cL_loan 312 = .ok (.lsub, 1) := by decide +kernel
theorem dL_loan_313 : decode cL_loan 313 = .ok (.lcmp, 1) := by decide +kernel
theorem dL_loan_314 : decode cL_loan 314 = .ok (.ifCond .ne 21, 3) := by decide +kernel
theorem dL_loan_317 : decode cL_loan 317 = .ok (.lload 6, 2) := by decide +kernel
theorem dL_loan_319 : decode cL_loan 319 = .ok (.lconst 0, 1) := by decide +kernel
theorem dL_loan_320 : decode cL_loan 320 = .ok (.lcmp, 1) := by decide +kernel
theorem dL_loan_321 : decode cL_loan 321 = .ok (.ifCond .eq 10, 3) := by decide +kernel
theorem dL_loan_324 : decode cL_loan 324 = .ok (.aload_n 0, 1) := by decide +kernel
theorem dL_loan_325 : decode cL_loan 325 = .ok (.invokevirtual 59, 3) := by decide +kernel
theorem dL_loan_328 : decode cL_loan 328 = .ok (.ifCond .ne 7, 3) := by decide +kernel
theorem dL_loan_331 : decode cL_loan 331 = .ok (.iconst 1, 1) := by decide +kernel
theorem dL_loan_332 : decode cL_loan 332 = .ok (.goto 4, 3) := by decide +kernel
theorem dL_loan_335 : decode cL_loan 335 = .ok (.iconst 0, 1) := by decide +kernel
theorem dL_loan_336 : decode cL_loan 336 = .ok (.ireturn, 1) := by decide +kernel
theorem dL_loan_337 : decode cL_loan 337 = .ok (.iload_n 1, 1) := by decide +kernel
theorem dL_loan_338 : decode cL_loan 338 = .ok (.iload_n 1, 1) := by decide +kernel
theorem dL_loan_339 : decode cL_loan 339 = .ok (.bipush 17, 2) := by decide +kernel
theorem dL_loan_341 : decode cL_loan 341 = .ok (.ishr, 1) := by decide +kernel
theorem dL_loan_342 : decode cL_loan 342 = .ok (.iconst 2, 1) := by decide +kernel
theorem dL_loan_343 : decode cL_loan 343 = .ok (.invokestatic 72, 3) := by decide +kernel
theorem dL_loan_346 : decode cL_loan 346 = .ok (.ifCond .ne 8, 3) := by decide +kernel
theorem dL_loan_349 : decode cL_loan 349 = .ok (.ldc 86, 2) := by decide +kernel
theorem dL_loan_351 : decode cL_loan 351 = .ok (.goto 6, 3) := by decide +kernel
theorem dL_loan_354 : decode cL_loan 354 = .ok (.sipush 20000, 3) := by decide +kernel
theorem dL_loan_357 : decode cL_loan 357 = .ok (.invokestatic 72, 3) := by decide +kernel
theorem dL_loan_360 : decode cL_loan 360 = .ok (.istore 6, 2) := by decide +kernel
theorem dL_loan_362 : decode cL_loan 362 = .ok (.aload_n 0, 1) := by decide +kernel
theorem dL_loan_363 : decode cL_loan 363 = .ok (.iload 6, 2) := by decide +kernel
theorem dL_loan_365 : decode cL_loan 365 = .ok (.invokevirtual 90, 3) := by decide +kernel
theorem dL_loan_368 : decode cL_loan 368 = .ok (.pop, 1) := by decide +kernel
theorem dL_loan_369 : decode cL_loan 369 = .ok (.aload_n 0, 1) := by decide +kernel
theorem dL_loan_370 : decode cL_loan 370 = .ok (.iload 6, 2) := by decide +kernel
theorem dL_loan_372 : decode cL_loan 372 = .ok (.invokevirtual 90, 3) := by decide +kernel
theorem dL_loan_375 : decode cL_loan 375 = .ok (.iload 6, 2) := by decide +kernel
theorem dL_loan_377 : decode cL_loan 377 = .ok (.if_icmp .ne 34, 3) := by decide +kernel
theorem dL_loan_380 : decode cL_loan 380 = .ok (.aload_n 0, 1) := by decide +kernel
theorem dL_loan_381 : decode cL_loan 381 = .ok (.invokevirtual 53, 3) := by decide +kernel
theorem dL_loan_384 : decode cL_loan 384 = .ok (.iload 6, 2) := by decide +kernel
theorem dL_loan_386 : decode cL_loan 386 = .ok (.if_icmp .ne 25, 3) := by decide +kernel
theorem dL_loan_389 : decode cL_loan 389 = .ok (.aload_n 0, 1) := by decide +kernel
theorem dL_loan_390 : decode cL_loan 390 = .ok (.invokevirtual 36, 3) := by decide +kernel
theorem dL_loan_393 : decode cL_loan 393 = .ok (.lload_n 3, 1) := by decide +kernel
theorem dL_loan_394 : decode cL_loan 394 = .ok (.lcmp, 1) := by decide +kernel
theorem dL_loan_395 : decode cL_loan 395 = .ok (.ifCond .ne 16, 3) := by decide +kernel
theorem dL_loan_398 : decode cL_loan 398 = .ok (.aload_n 0, 1) := by decide +kernel
theorem dL_loan_399 : decode cL_loan 399 = .ok (.invokevirtual 59, 3) := by decide +kernel
theorem dL_loan_402 : decode cL_loan 402 = .ok (.iload 5, 2) := by decide +kernel
theorem dL_loan_404 : decode cL_loan 404 = .ok (.if_icmp .ne 7, 3) := by decide +kernel
theorem dL_loan_407 : decode cL_loan 407 = .ok (.iconst 1, 1) := by decide +kernel
theorem dL_loan_408 : decode cL_loan 408 = .ok (.goto 4, 3) := by decide +kernel
theorem dL_loan_411 : decode cL_loan 411 = .ok (.iconst 0, 1) := by decide +kernel
theorem dL_loan_412 : decode cL_loan 412 = .ok (.ireturn, 1) := by decide +kernel
set_option maxRecDepth 20000 in
theorem ggL_law_X0_init : GoodIn wsL_law wsX0_init := goodIn_r _ [7, 8, 9, 10, 11, 12, 13, 14, 15, 16, 17, 18, 19, 20, 21, 22, 238, 239, 240, 241, 242, 243, 244, 245, 246, 247, 248, 249, 250, 251, 252, 253, 254] (by decide +kernel) (by decide +kernel)
set_option maxRecDepth 20000 in
theorem gL_law_X0_init : GoodIn wsL_law (wsX0_init) := ggL_law_X0_init
set_option maxRecDepth 20000 in
theorem ggL_law_L_holds : GoodIn wsL_law wsL_holds := goodIn_ca (goodIn_r _ [26, 27, 28, 29, 2, 30, 31, 19, 32, 33, 34, 35, 36, 37, 38, 39, 40, 41, 42, 43, 44, 45, 46, 47, 48, 49, 50, 51, 52, 53, 15, 16, 54, 22, 17, 20, 55, 56, 57, 58, 59, 60, 61, 62, 63, 64, 65, 66, 67, 68, 69, 70, 71, 72, 14, 73, 74, 75, 76, 77, 78, 79, 80, 81, 82, 83, 84, 85, 86, 87, 88, 89, 90, 91, 92, 93, 94, 95, 96, 97, 98, 99, 100, 101, 102, 103, 104, 105, 106, 107, 108, 109, 110, 111, 21, 112, 113, 114, 115, 116, 117, 118, 119, 120, 13, 121, 238, 239, 240, 241, 242, 243, 244, 245, 246, 247, 248, 249, 250, 251, 252, 253, 254] (by decide +kernel) (by decide +kernel)) (goodIn_sub (fun _ h => List.mem_append_left _ (List.mem_append_left _ (List.mem_append_right _ h))) (by decide +kernel))
set_option maxRecDepth 20000 in
theorem gL_law_L_holds : GoodIn wsL_law (va_wsS RL 94 yL_holds wsL_holds) := goodIn_app (goodIn_of _ (by decide +kernel)) ggL_law_L_holds
set_option maxRecDepth 20000 in
theorem ggL_law_X0_age : GoodIn wsL_law wsX0_age := goodIn_r _ [120, 68, 14, 13, 55, 238, 239, 240, 241, 242, 243, 244, 245, 246, 247, 248, 249, 250, 251, 252, 253, 254] (by decide +kernel) (by decide +kernel)
set_option maxRecDepth 20000 in
theorem gL_law_X0_age : GoodIn wsL_law (wsV RL 65 RX0 yX0_age wsX0_age) := goodIn_app (goodIn_of _ (by decide +kernel)) ggL_law_X0_age
set_option maxRecDepth 20000 in
theorem ggL_law_X0_worth : GoodIn wsL_law wsX0_worth := goodIn_r _ [93, 85, 238, 239, 240, 241, 242, 243, 244, 245, 246, 247, 248, 249, 250, 251, 252, 253, 254] (by decide +kernel) (by decide +kernel)
set_option maxRecDepth 20000 in
theorem gL_law_X0_worth : GoodIn wsL_law (wsV RL 53 RX0 yX0_worth wsX0_worth) := goodIn_app (goodIn_of _ (by decide +kernel)) ggL_law_X0_worth
set_option maxRecDepth 20000 in
theorem ggL_law_X0_setRate : GoodIn wsL_law wsX0_setRate := goodIn_ca (goodIn_r _ [125, 11, 126, 127, 2, 128, 129, 130, 238, 239, 240, 241, 242, 243, 244, 245, 246, 247, 248, 249, 250, 251, 252, 253, 254] (by decide +kernel) (by decide +kernel)) (goodIn_sub (fun _ h => List.mem_append_left _ (List.mem_append_right _ h)) (by decide +kernel))
set_option maxRecDepth 20000 in
theorem gL_law_X0_setRate : GoodIn wsL_law (wsV RL 98 RX0 yX0_setRate wsX0_setRate) := goodIn_app (goodIn_of _ (by decide +kernel)) ggL_law_X0_setRate
set_option maxRecDepth 20000 in
theorem ggL_law_X0_hasEnded : GoodIn wsL_law wsX0_hasEnded := goodIn_r _ [63, 64, 65, 66, 2, 67, 68, 69, 70, 71, 72, 14, 238, 239, 240, 241, 242, 243, 244, 245, 246, 247, 248, 249, 250, 251, 252, 253, 254] (by decide +kernel) (by decide +kernel)
set_option maxRecDepth 20000 in
theorem gL_law_X0_hasEnded : GoodIn wsL_law (wsV RL 68 RX0 yX0_hasEnded wsX0_hasEnded) := goodIn_app (goodIn_of _ (by decide +kernel)) ggL_law_X0_hasEnded
set_option maxRecDepth 20000 in
theorem ggL_law_L_cell : GoodIn wsL_law wsL_cell := goodIn_r _ [133, 134] (by decide +kernel) (by decide +kernel)
set_option maxRecDepth 20000 in
theorem gL_law_L_cell : GoodIn wsL_law (va_wsS RL 101 yL_cell wsL_cell) := goodIn_app (goodIn_of _ (by decide +kernel)) ggL_law_L_cell
set_option maxRecDepth 20000 in
theorem ggL_law_L_low : GoodIn wsL_law wsL_low := goodIn_r _ [137, 138] (by decide +kernel) (by decide +kernel)
set_option maxRecDepth 20000 in
theorem gL_law_L_low : GoodIn wsL_law (va_wsS RL 72 yL_low wsL_low) := goodIn_app (goodIn_of _ (by decide +kernel)) ggL_law_L_low
set_option maxRecDepth 20000 in
theorem ggL_law_L_begin : GoodIn wsL_law wsL_begin := goodIn_ca (goodIn_ca (goodIn_r _ [141, 142, 143, 144, 145, 2, 146, 147, 148, 149, 150, 151, 79, 152, 55, 116, 85, 103, 126, 127, 128, 129, 130, 153, 154, 155, 64, 65, 66, 67, 68, 156, 157, 158, 159, 13, 14, 160, 161, 162, 163, 31, 15, 16, 17, 11, 19, 35, 238, 239, 240, 241, 242, 243, 244, 245, 246, 247, 248, 249, 250, 251, 252, 253, 254] (by decide +kernel) (by decide +kernel)) (goodIn_sub (fun _ h => List.mem_append_right _ h) (by decide +kernel))) (goodIn_sub (fun _ h => List.mem_append_left _ (List.mem_append_right _ h)) (by decide +kernel))
set_option maxRecDepth 20000 in
theorem gL_law_L_begin : GoodIn wsL_law (va_wsS RL 107 yL_begin wsL_begin) := goodIn_app (goodIn_of _ (by decide +kernel)) ggL_law_L_begin
set_option maxRecDepth 20000 in
theorem ggL_law_X0_drawings : GoodIn wsL_law wsX0_drawings := goodIn_r _ [39, 31, 238, 239, 240, 241, 242, 243, 244, 245, 246, 247, 248, 249, 250, 251, 252, 253, 254] (by decide +kernel) (by decide +kernel)
set_option maxRecDepth 20000 in
theorem gL_law_X0_drawings : GoodIn wsL_law (wsV RL 40 RX0 yX0_drawings wsX0_drawings) := goodIn_app (goodIn_of _ (by decide +kernel)) ggL_law_X0_drawings
set_option maxRecDepth 20000 in
theorem ggL_law_X0_room : GoodIn wsL_law wsX0_room := goodIn_r _ [102, 103, 238, 239, 240, 241, 242, 243, 244, 245, 246, 247, 248, 249, 250, 251, 252, 253, 254] (by decide +kernel) (by decide +kernel)
set_option maxRecDepth 20000 in
theorem gL_law_X0_room : GoodIn wsL_law (wsV RL 59 RX0 yX0_room wsX0_room) := goodIn_app (goodIn_of _ (by decide +kernel)) ggL_law_X0_room
set_option maxRecDepth 20000 in
theorem ggL_law_L_loan : GoodIn wsL_law wsL_loan := goodIn_ca (goodIn_ca (goodIn_r _ [166, 167, 168, 169, 27, 28, 29, 2, 30, 31, 19, 32, 33, 34, 35, 99, 100, 101, 102, 103, 135, 136, 25, 137, 138, 170, 171, 172, 142, 173, 174, 175, 176, 147, 148, 149, 126, 127, 128, 129, 130, 177, 178, 179, 180, 64, 65, 66, 67, 68, 60, 61, 62, 63, 69, 70, 71, 72, 14, 160, 161, 162, 163, 15, 16, 55, 17, 11, 181, 182, 183, 184, 185, 186, 187, 188, 189, 190, 191, 77, 78, 79, 80, 192, 193, 194, 195, 73, 74, 75, 76, 196, 105, 106, 107, 108, 109, 110, 111, 54, 20, 21, 112, 113, 114, 115, 116, 197, 198, 199, 200, 201, 202, 203, 89, 204, 205, 206, 207, 86, 87, 88, 22, 208, 209, 210, 211, 212, 213, 214, 215, 216, 217, 85, 218, 118, 119, 120, 13, 153, 154, 155, 150, 151, 152, 219, 220, 221, 222, 90, 91, 92, 93, 238, 239, 240, 241, 242, 243, 244, 245, 246, 247, 248, 249, 250, 251, 252, 253, 254] (by decide +kernel) (by decide +kernel)) (goodIn_sub (fun _ h => List.mem_append_right _ h) (by decide +kernel))) (goodIn_sub (fun _ h => List.mem_append_left _ (List.mem_append_right _ h)) (by decide +kernel))
set_option maxRecDepth 20000 in
theorem gL_law_L_loan : GoodIn wsL_law (va_wsS RL 110 yL_loan wsL_loan) := goodIn_app (goodIn_of _ (by decide +kernel)) ggL_law_L_loan
set_option maxRecDepth 20000 in
theorem ggL_law_X0_end : GoodIn wsL_law wsX0_end := goodIn_ca (goodIn_ca (goodIn_r _ [226, 44, 45, 147, 148, 68, 14, 55, 69, 70, 71, 2, 72, 238, 239, 240, 241, 242, 243, 244, 245, 246, 247, 248, 249, 250, 251, 252, 253, 254] (by decide +kernel) (by decide +kernel)) (goodIn_sub (fun _ h => List.mem_append_left _ (List.mem_append_left _ (List.mem_append_right _ h))) (by decide +kernel))) (goodIn_sub (fun _ h => List.mem_append_right _ h) (by decide +kernel))
set_option maxRecDepth 20000 in
theorem gL_law_X0_end : GoodIn wsL_law (wsV RL 114 RX0 yX0_end wsX0_end) := goodIn_app (goodIn_of _ (by decide +kernel)) ggL_law_X0_end
set_option maxRecDepth 20000 in
theorem ggL_law_X0_day : GoodIn wsL_law wsX0_day := goodIn_r _ [230, 55, 238, 239, 240, 241, 242, 243, 244, 245, 246, 247, 248, 249, 250, 251, 252, 253, 254] (by decide +kernel) (by decide +kernel)
set_option maxRecDepth 20000 in
theorem gL_law_X0_day : GoodIn wsL_law (wsV RL 117 RX0 yX0_day wsX0_day) := goodIn_app (goodIn_of _ (by decide +kernel)) ggL_law_X0_day
set_option maxRecDepth 20000 in
theorem ggL_law_X0_debt : GoodIn wsL_law wsX0_debt := goodIn_r _ [30, 31, 19, 32, 33, 2, 34, 35, 238, 239, 240, 241, 242, 243, 244, 245, 246, 247, 248, 249, 250, 251, 252, 253, 254] (by decide +kernel) (by decide +kernel)
set_option maxRecDepth 20000 in
theorem gL_law_X0_debt : GoodIn wsL_law (wsV RL 36 RX0 yX0_debt wsX0_debt) := goodIn_app (goodIn_of _ (by decide +kernel)) ggL_law_X0_debt
set_option maxRecDepth 20000 in
theorem ggL_law_L_pass : GoodIn wsL_law wsL_pass := goodIn_ca (goodIn_ca (goodIn_r _ [233, 142, 234, 235, 236, 2, 237, 147, 148, 55, 31, 19, 17, 126, 127, 128, 129, 130, 60, 61, 62, 63, 64, 65, 66, 67, 68, 69, 70, 71, 72, 14, 56, 57, 58, 59, 238, 239, 240, 241, 242, 243, 244, 245, 246, 247, 248, 249, 250, 251, 252, 253, 254] (by decide +kernel) (by decide +kernel)) (goodIn_sub (fun _ h => List.mem_append_right _ h) (by decide +kernel))) (goodIn_sub (fun _ h => List.mem_append_left _ (List.mem_append_right _ h)) (by decide +kernel))
set_option maxRecDepth 20000 in
theorem gL_law_L_pass : GoodIn wsL_law (va_wsS RL 120 yL_pass wsL_pass) := goodIn_app (goodIn_of _ (by decide +kernel)) ggL_law_L_pass
theorem dL_law_0 : decode cL_law 0 = .ok (.new 10, 3) := by decide +kernel
theorem dL_law_3 : decode cL_law 3 = .ok (.dup, 1) := by decide +kernel
theorem dL_law_4 : decode cL_law 4 = .ok (.invokespecial 93, 3) := by decide +kernel
theorem dL_law_7 : decode cL_law 7 = .ok (.astore_n 1, 1) := by decide +kernel
theorem dL_law_8 : decode cL_law 8 = .ok (.iconst 0, 1) := by decide +kernel
theorem dL_law_9 : decode cL_law 9 = .ok (.istore_n 2, 1) := by decide +kernel
theorem dL_law_10 : decode cL_law 10 = .ok (.iconst 0, 1) := by decide +kernel
theorem dL_law_11 : decode cL_law 11 = .ok (.istore_n 3, 1) := by decide +kernel
theorem dL_law_12 : decode cL_law 12 = .ok (.aload_n 1, 1) := by decide +kernel
theorem dL_law_13 : decode cL_law 13 = .ok (.invokestatic 94, 3) := by decide +kernel
theorem dL_law_16 : decode cL_law 16 = .ok (.ifCond .eq 42, 3) := by decide +kernel
theorem dL_law_19 : decode cL_law 19 = .ok (.aload_n 1, 1) := by decide +kernel
theorem dL_law_20 : decode cL_law 20 = .ok (.invokevirtual 65, 3) := by decide +kernel
theorem dL_law_23 : decode cL_law 23 = .ok (.iconst (-1), 1) := by decide +kernel
theorem dL_law_24 : decode cL_law 24 = .ok (.if_icmp .ne 34, 3) := by decide +kernel
theorem dL_law_27 : decode cL_law 27 = .ok (.aload_n 1, 1) := by decide +kernel
theorem dL_law_28 : decode cL_law 28 = .ok (.invokevirtual 53, 3) := by decide +kernel
theorem dL_law_31 : decode cL_law 31 = .ok (.ifCond .ne 27, 3) := by decide +kernel
theorem dL_law_34 : decode cL_law 34 = .ok (.aload_n 1, 1) := by decide +kernel
theorem dL_law_35 : decode cL_law 35 = .ok (.sipush 500, 3) := by decide +kernel
theorem dL_law_38 : decode cL_law 38 = .ok (.invokevirtual 98, 3) := by decide +kernel
theorem dL_law_41 : decode cL_law 41 = .ok (.sipush 500, 3) := by decide +kernel
theorem dL_law_44 : decode cL_law 44 = .ok (.if_icmp .ne 14, 3) := by decide +kernel
theorem dL_law_47 : decode cL_law 47 = .ok (.aload_n 1, 1) := by decide +kernel
theorem dL_law_48 : decode cL_law 48 = .ok (.invokevirtual 68, 3) := by decide +kernel
theorem dL_law_51 : decode cL_law 51 = .ok (.ifCond .ne 7, 3) := by decide +kernel
theorem dL_law_54 : decode cL_law 54 = .ok (.iconst 1, 1) := by decide +kernel
theorem dL_law_55 : decode cL_law 55 = .ok (.goto 4, 3) := by decide +kernel
theorem dL_law_58 : decode cL_law 58 = .ok (.iconst 0, 1) := by decide +kernel
theorem dL_law_59 : decode cL_law 59 = .ok (.istore 4, 2) := by decide +kernel
theorem dL_law_61 : decode cL_law 61 = .ok (.iconst 5, 1) := by decide +kernel
theorem dL_law_62 : decode cL_law 62 = .ok (.aload_n 0, 1) := by decide +kernel
theorem dL_law_63 : decode cL_law 63 = .ok (.iconst 0, 1) := by decide +kernel
theorem dL_law_64 : decode cL_law 64 = .ok (.invokestatic 101, 3) := by decide +kernel
theorem dL_law_67 : decode cL_law 67 = .ok (.bipush 50, 2) := by decide +kernel
theorem dL_law_69 : decode cL_law 69 = .ok (.invokestatic 72, 3) := by decide +kernel
theorem dL_law_72 : decode cL_law 72 = .ok (.iadd, 1) := by decide +kernel
theorem dL_law_73 : decode cL_law 73 = .ok (.istore 5, 2) := by decide +kernel
theorem dL_law_75 : decode cL_law 75 = .ok (.iconst 0, 1) := by decide +kernel
theorem dL_law_76 : decode cL_law 76 = .ok (.istore 6, 2) := by decide +kernel
theorem dL_law_78 : decode cL_law 78 = .ok (.iload 6, 2) := by decide +kernel
theorem dL_law_80 : decode cL_law 80 = .ok (.iload 5, 2) := by decide +kernel
theorem dL_law_82 : decode cL_law 82 = .ok (.if_icmp .ge 526, 3) := by decide +kernel
theorem dL_law_85 : decode cL_law 85 = .ok (.iload 4, 2) := by decide +kernel
theorem dL_law_87 : decode cL_law 87 = .ok (.ifCond .eq 521, 3) := by decide +kernel
theorem dL_law_90 : decode cL_law 90 = .ok (.aload_n 0, 1) := by decide +kernel
theorem dL_law_91 : decode cL_law 91 = .ok (.iconst 1, 1) := by decide +kernel
theorem dL_law_92 : decode cL_law 92 = .ok (.iload 6, 2) := by decide +kernel
theorem dL_law_94 : decode cL_law 94 = .ok (.iadd, 1) := by decide +kernel
theorem dL_law_95 : decode cL_law 95 = .ok (.invokestatic 101, 3) := by decide +kernel
theorem dL_law_98 : decode cL_law 98 = .ok (.istore 7, 2) := by decide +kernel
theorem dL_law_100 : decode cL_law 100 = .ok (.iload 7, 2) := by decide +kernel
theorem dL_law_102 : decode cL_law 102 = .ok (.bipush 20, 2) := by decide +kernel
theorem dL_law_104 : decode cL_law 104 = .ok (.ishr, 1) := by decide +kernel
theorem dL_law_105 : decode cL_law 105 = .ok (.bipush 14, 2) := by decide +kernel
theorem dL_law_107 : decode cL_law 107 = .ok (.invokestatic 72, 3) := by decide +kernel
theorem dL_law_110 : decode cL_law 110 = .ok (.istore 8, 2) := by decide +kernel
theorem dL_law_112 : decode cL_law 112 = .ok (.iload_n 2, 1) := by decide +kernel
theorem dL_law_113 : decode cL_law 113 = .ok (.ifCond .ne 186, 3) := by decide +kernel
theorem dL_law_116 : decode cL_law 116 = .ok (.iload 8, 2) := by decide +kernel
theorem dL_law_118 : decode cL_law 118 = .ok (.bipush 9, 2) := by decide +kernel
theorem dL_law_120 : decode cL_law 120 = .ok (.if_icmp .ge 179, 3) := by decide +kernel
theorem dL_law_123 : decode cL_law 123 = .ok (.iload 7, 2) := by decide +kernel
theorem dL_law_125 : decode cL_law 125 = .ok (.bipush 9, 2) := by decide +kernel
theorem dL_law_127 : decode cL_law 127 = .ok (.ishr, 1) := by decide +kernel
theorem dL_law_128 : decode cL_law 128 = .ok (.iconst 2, 1) := by decide +kernel
theorem dL_law_129 : decode cL_law 129 = .ok (.invokestatic 72, 3) := by decide +kernel
theorem dL_law_132 : decode cL_law 132 = .ok (.ifCond .ne 7, 3) := by decide +kernel
theorem dL_law_135 : decode cL_law 135 = .ok (.iconst 0, 1) := by decide +kernel
theorem dL_law_136 : decode cL_law 136 = .ok (.goto 15, 3) := by decide +kernel
theorem dL_law_139 : decode cL_law 139 = .ok (.bipush 55, 2) := by decide +kernel
theorem dL_law_141 : decode cL_law 141 = .ok (.iload 7, 2) := by decide +kernel
theorem dL_law_143 : decode cL_law 143 = .ok (.iconst 5, 1) := by decide +kernel
theorem dL_law_144 : decode cL_law 144 = .ok (.ishr, 1) := by decide +kernel
theorem dL_law_145 : decode cL_law 145 = .ok (.bipush 41, 2) := by decide +kernel
theorem dL_law_147 : decode cL_law 147 = .ok (.invokestatic 72, 3) := by decide +kernel
theorem dL_law_150 : decode cL_law 150 = .ok (.iadd, 1) := by decide +kernel
theorem dL_law_151 : decode cL_law 151 = .ok (.istore 9, 2) := by decide +kernel
theorem dL_law_153 : decode cL_law 153 = .ok (.sipush 1000, 3) := by decide +kernel
theorem dL_law_156 : decode cL_law 156 = .ok (.iload 7, 2) := by decide +kernel
theorem dL_law_158 : decode cL_law 158 = .ok (.ldc 105, 2) := by decide +kernel
theorem dL_law_160 : decode cL_law 160 = .ok (.invokestatic 72, 3) := by decide +kernel
theorem dL_law_163 : decode cL_law 163 = .ok (.iadd, 1) := by decide +kernel
theorem dL_law_164 : decode cL_law 164 = .ok (.istore 10, 2) := by decide +kernel
theorem dL_law_166 : decode cL_law 166 = .ok (.aload_n 1, 1) := by decide +kernel
theorem dL_law_167 : decode cL_law 167 = .ok (.iload 10, 2) := by decide +kernel
theorem dL_law_169 : decode cL_law 169 = .ok (.bipush 55, 2) := by decide +kernel
theorem dL_law_171 : decode cL_law 171 = .ok (.iload 7, 2) := by decide +kernel
theorem dL_law_173 : decode cL_law 173 = .ok (.iconst 3, 1) := by decide +kernel
theorem dL_law_174 : decode cL_law 174 = .ok (.ishr, 1) := by decide +kernel
theorem dL_law_175 : decode cL_law 175 = .ok (.bipush 41, 2) := by decide +kernel
theorem dL_law_177 : decode cL_law 177 = .ok (.invokestatic 72, 3) := by decide +kernel
theorem dL_law_180 : decode cL_law 180 = .ok (.iadd, 1) := by decide +kernel
theorem dL_law_181 : decode cL_law 181 = .ok (.iload 9, 2) := by decide +kernel
theorem dL_law_183 : decode cL_law 183 = .ok (.iload 7, 2) := by decide +kernel
theorem dL_law_185 : decode cL_law 185 = .ok (.bipush 7, 2) := by decide +kernel
theorem dL_law_187 : decode cL_law 187 = .ok (.ishr, 1) := by decide +kernel
theorem dL_law_188 : decode cL_law 188 = .ok (.ldc 106, 2) := by decide +kernel
theorem dL_law_190 : decode cL_law 190 = .ok (.invokestatic 72, 3) := by decide +kernel
theorem dL_law_193 : decode cL_law 193 = .ok (.invokestatic 107, 3) := by decide +kernel
theorem dL_law_196 : decode cL_law 196 = .ok (.istore 11, 2) := by decide +kernel
theorem dL_law_198 : decode cL_law 198 = .ok (.iload 11, 2) := by decide +kernel
theorem dL_law_200 : decode cL_law 200 = .ok (.bipush (-3), 2) := by decide +kernel
theorem dL_law_202 : decode cL_law 202 = .ok (.if_icmp .eq 7, 3) := by decide +kernel
theorem dL_law_205 : decode cL_law 205 = .ok (.iconst 1, 1) := by decide +kernel
theorem dL_law_206 : decode cL_law 206 = .ok (.goto 4, 3) := by decide +kernel
theorem dL_law_209 : decode cL_law 209 = .ok (.iconst 0, 1) := by decide +kernel
theorem dL_law_210 : decode cL_law 210 = .ok (.istore_n 2, 1) := by decide +kernel
theorem dL_law_211 : decode cL_law 211 = .ok (.iload 11, 2) := by decide +kernel
theorem dL_law_213 : decode cL_law 213 = .ok (.bipush (-3), 2) := by decide +kernel
theorem dL_law_215 : decode cL_law 215 = .ok (.if_icmp .ne 25, 3) := by decide +kernel
theorem dL_law_218 : decode cL_law 218 = .ok (.aload_n 1, 1) := by decide +kernel
theorem dL_law_219 : decode cL_law 219 = .ok (.invokevirtual 53, 3) := by decide +kernel
theorem dL_law_222 : decode cL_law 222 = .ok (.ifCond .ne 14, 3) := by decide +kernel
theorem dL_law_225 : decode cL_law 225 = .ok (.aload_n 1, 1) := by decide +kernel
theorem dL_law_226 : decode cL_law 226 = .ok (.invokevirtual 40, 3) := by decide +kernel
theorem dL_law_229 : decode cL_law 229 = .ok (.ifCond .ne 7, 3) := by decide +kernel
theorem dL_law_232 : decode cL_law 232 = .ok (.iconst 1, 1) := by decide +kernel
theorem dL_law_233 : decode cL_law 233 = .ok (.goto 50, 3) := by decide +kernel
theorem dL_law_236 : decode cL_law 236 = .ok (.iconst 0, 1) := by decide +kernel
theorem dL_law_237 : decode cL_law 237 = .ok (.goto 46, 3) := by decide +kernel
theorem dL_law_240 : decode cL_law 240 = .ok (.iload 11, 2) := by decide +kernel
theorem dL_law_242 : decode cL_law 242 = .ok (.ifCond .lt 40, 3) := by decide +kernel
theorem dL_law_245 : decode cL_law 245 = .ok (.aload_n 1, 1) := by decide +kernel
theorem dL_law_246 : decode cL_law 246 = .ok (.invokevirtual 53, 3) := by decide +kernel
theorem dL_law_249 : decode cL_law 249 = .ok (.iload 10, 2) := by decide +kernel
theorem dL_law_251 : decode cL_law 251 = .ok (.if_icmp .ne 31, 3) := by decide +kernel
theorem dL_law_254 : decode cL_law 254 = .ok (.aload_n 1, 1) := by decide +kernel
theorem dL_law_255 : decode cL_law 255 = .ok (.invokevirtual 59, 3) := by decide +kernel
theorem dL_law_258 : decode cL_law 258 = .ok (.iload 11, 2) := by decide +kernel
theorem dL_law_260 : decode cL_law 260 = .ok (.if_icmp .ne 22, 3) := by decide +kernel
theorem dL_law_263 : decode cL_law 263 = .ok (.aload_n 1, 1) := by decide +kernel
theorem dL_law_264 : decode cL_law 264 = .ok (.iload 10, 2) := by decide +kernel
theorem dL_law_266 : decode cL_law 266 = .ok (.bipush 55, 2) := by decide +kernel
theorem dL_law_268 : decode cL_law 268 = .ok (.iconst 0, 1) := by decide +kernel
theorem dL_law_269 : decode cL_law 269 = .ok (.iconst 0, 1) := by decide +kernel
theorem dL_law_270 : decode cL_law 270 = .ok (.invokestatic 107, 3) := by decide +kernel
theorem dL_law_273 : decode cL_law 273 = .ok (.bipush (-3), 2) := by decide +kernel
theorem dL_law_275 : decode cL_law 275 = .ok (.if_icmp .ne 7, 3) := by decide +kernel
theorem dL_law_278 : decode cL_law 278 = .ok (.iconst 1, 1) := by decide +kernel
theorem dL_law_279 : decode cL_law 279 = .ok (.goto 4, 3) := by decide +kernel
theorem dL_law_282 : decode cL_law 282 = .ok (.iconst 0, 1) := by decide +kernel
theorem dL_law_283 : decode cL_law 283 = .ok (.istore 4, 2) := by decide +kernel
theorem dL_law_285 : decode cL_law 285 = .ok (.iload 9, 2) := by decide +kernel
theorem dL_law_287 : decode cL_law 287 = .ok (.ifCond .ne 7, 3) := by decide +kernel
theorem dL_law_290 : decode cL_law 290 = .ok (.iconst 2, 1) := by decide +kernel
theorem dL_law_291 : decode cL_law 291 = .ok (.goto 4, 3) := by decide +kernel
theorem dL_law_294 : decode cL_law 294 = .ok (.iconst 0, 1) := by decide +kernel
theorem dL_law_295 : decode cL_law 295 = .ok (.istore_n 3, 1) := by decide +kernel
theorem dL_law_296 : decode cL_law 296 = .ok (.goto 287, 3) := by decide +kernel
theorem dL_law_299 : decode cL_law 299 = .ok (.iload_n 2, 1) := by decide +kernel
theorem dL_law_300 : decode cL_law 300 = .ok (.ifCond .eq 23, 3) := by decide +kernel
theorem dL_law_303 : decode cL_law 303 = .ok (.iload 8, 2) := by decide +kernel
theorem dL_law_305 : decode cL_law 305 = .ok (.bipush 10, 2) := by decide +kernel
theorem dL_law_307 : decode cL_law 307 = .ok (.if_icmp .ge 16, 3) := by decide +kernel
theorem dL_law_310 : decode cL_law 310 = .ok (.aload_n 1, 1) := by decide +kernel
theorem dL_law_311 : decode cL_law 311 = .ok (.iload 7, 2) := by decide +kernel
theorem dL_law_313 : decode cL_law 313 = .ok (.iload 8, 2) := by decide +kernel
theorem dL_law_315 : decode cL_law 315 = .ok (.invokestatic 110, 3) := by decide +kernel
theorem dL_law_318 : decode cL_law 318 = .ok (.istore 4, 2) := by decide +kernel
theorem dL_law_320 : decode cL_law 320 = .ok (.goto 263, 3) := by decide +kernel
theorem dL_law_323 : decode cL_law 323 = .ok (.iload_n 2, 1) := by decide +kernel
theorem dL_law_324 : decode cL_law 324 = .ok (.ifCond .eq 91, 3) := by decide +kernel
theorem dL_law_327 : decode cL_law 327 = .ok (.iload 8, 2) := by decide +kernel
theorem dL_law_329 : decode cL_law 329 = .ok (.bipush 11, 2) := by decide +kernel
theorem dL_law_331 : decode cL_law 331 = .ok (.if_icmp .ge 84, 3) := by decide +kernel
theorem dL_law_334 : decode cL_law 334 = .ok (.iload 7, 2) := by decide +kernel
theorem dL_law_336 : decode cL_law 336 = .ok (.iconst 3, 1) := by decide +kernel
theorem dL_law_337 : decode cL_law 337 = .ok (.invokestatic 72, 3) := by decide +kernel
theorem dL_law_340 : decode cL_law 340 = .ok (.ifCond .ne 75, 3) := by decide +kernel
theorem dL_law_343 : decode cL_law 343 = .ok (.iload 7, 2) := by decide +kernel
theorem dL_law_345 : decode cL_law 345 = .ok (.iconst 3, 1) := by decide +kernel
theorem dL_law_346 : decode cL_law 346 = .ok (.ishr, 1) := by decide +kernel
theorem dL_law_347 : decode cL_law 347 = .ok (.iconst 2, 1) := by decide +kernel
theorem dL_law_348 : decode cL_law 348 = .ok (.invokestatic 72, 3) := by decide +kernel
theorem dL_law_351 : decode cL_law 351 = .ok (.istore 9, 2) := by decide +kernel
theorem dL_law_353 : decode cL_law 353 = .ok (.iload_n 3, 1) := by decide +kernel
theorem dL_law_354 : decode cL_law 354 = .ok (.iload 9, 2) := by decide +kernel
theorem dL_law_356 : decode cL_law 356 = .ok (.ishr, 1) := by decide +kernel
theorem dL_law_357 : decode cL_law 357 = .ok (.iconst 1, 1) := by decide +kernel
theorem dL_law_358 : decode cL_law 358 = .ok (.iand, 1) := by decide +kernel
theorem dL_law_359 : decode cL_law 359 = .ok (.ifCond .ne 53, 3) := by decide +kernel
theorem dL_law_362 : decode cL_law 362 = .ok (.iload_n 3, 1) := by decide +kernel
theorem dL_law_363 : decode cL_law 363 = .ok (.iconst 1, 1) := by decide +kernel
theorem dL_law_364 : decode cL_law 364 = .ok (.iload 9, 2) := by decide +kernel
theorem dL_law_366 : decode cL_law 366 = .ok (.ishl, 1) := by decide +kernel
theorem dL_law_367 : decode cL_law 367 = .ok (.ior, 1) := by decide +kernel
theorem dL_law_368 : decode cL_law 368 = .ok (.istore_n 3, 1) := by decide +kernel
theorem dL_law_369 : decode cL_law 369 = .ok (.aload_n 1, 1) := by decide +kernel
theorem dL_law_370 : decode cL_law 370 = .ok (.iload 9, 2) := by decide +kernel
theorem dL_law_372 : decode cL_law 372 = .ok (.invokevirtual 114, 3) := by decide +kernel
theorem dL_law_375 : decode cL_law 375 = .ok (.iload_n 3, 1) := by decide +kernel
theorem dL_law_376 : decode cL_law 376 = .ok (.iconst 3, 1) := by decide +kernel
theorem dL_law_377 : decode cL_law 377 = .ok (.if_icmp .ne 7, 3) := by decide +kernel
theorem dL_law_380 : decode cL_law 380 = .ok (.iconst 0, 1) := by decide +kernel
theorem dL_law_381 : decode cL_law 381 = .ok (.goto 4, 3) := by decide +kernel
theorem dL_law_384 : decode cL_law 384 = .ok (.iconst 1, 1) := by decide +kernel
theorem dL_law_385 : decode cL_law 385 = .ok (.if_icmp .ne 24, 3) := by decide +kernel
theorem dL_law_388 : decode cL_law 388 = .ok (.aload_n 1, 1) := by decide +kernel
theorem dL_law_389 : decode cL_law 389 = .ok (.invokevirtual 68, 3) := by decide +kernel
theorem dL_law_392 : decode cL_law 392 = .ok (.iload_n 3, 1) := by decide +kernel
theorem dL_law_393 : decode cL_law 393 = .ok (.iconst 3, 1) := by decide +kernel
theorem dL_law_394 : decode cL_law 394 = .ok (.if_icmp .ne 7, 3) := by decide +kernel
theorem dL_law_397 : decode cL_law 397 = .ok (.iconst 1, 1) := by decide +kernel
theorem dL_law_398 : decode cL_law 398 = .ok (.goto 4, 3) := by decide +kernel
theorem dL_law_401 : decode cL_law 401 = .ok (.iconst 0, 1) := by decide +kernel
theorem dL_law_402 : decode cL_law 402 = .ok (.if_icmp .ne 7, 3) := by decide +kernel
theorem dL_law_405 : decode cL_law 405 = .ok (.iconst 1, 1) := by decide +kernel
theorem dL_law_406 : decode cL_law 406 = .ok (.goto 4, 3) := by decide +kernel
theorem dL_law_409 : decode cL_law 409 = .ok (.iconst 0, 1) := by decide +kernel
theorem dL_law_410 : decode cL_law 410 = .ok (.istore 4, 2) := by decide +kernel
theorem dL_law_412 : decode cL_law 412 = .ok (.goto 171, 3) := by decide +kernel
theorem dL_law_415 : decode cL_law 415 = .ok (.iload 8, 2) := by decide +kernel
theorem dL_law_417 : decode cL_law 417 = .ok (.bipush 12, 2) := by decide +kernel
theorem dL_law_419 : decode cL_law 419 = .ok (.if_icmp .ge 41, 3) := by decide +kernel
theorem dL_law_422 : decode cL_law 422 = .ok (.iload 7, 2) := by decide +kernel
theorem dL_law_424 : decode cL_law 424 = .ok (.sipush 2001, 3) := by decide +kernel
theorem dL_law_427 : decode cL_law 427 = .ok (.invokestatic 72, 3) := by decide +kernel
theorem dL_law_430 : decode cL_law 430 = .ok (.istore 9, 2) := by decide +kernel
theorem dL_law_432 : decode cL_law 432 = .ok (.aload_n 1, 1) := by decide +kernel
theorem dL_law_433 : decode cL_law 433 = .ok (.iload 9, 2) := by decide +kernel
theorem dL_law_435 : decode cL_law 435 = .ok (.invokevirtual 98, 3) := by decide +kernel
theorem dL_law_438 : decode cL_law 438 = .ok (.pop, 1) := by decide +kernel
theorem dL_law_439 : decode cL_law 439 = .ok (.aload_n 1, 1) := by decide +kernel
theorem dL_law_440 : decode cL_law 440 = .ok (.iload 9, 2) := by decide +kernel
theorem dL_law_442 : decode cL_law 442 = .ok (.invokevirtual 98, 3) := by decide +kernel
theorem dL_law_445 : decode cL_law 445 = .ok (.iload 9, 2) := by decide +kernel
theorem dL_law_447 : decode cL_law 447 = .ok (.if_icmp .ne 7, 3) := by decide +kernel
theorem dL_law_450 : decode cL_law 450 = .ok (.iconst 1, 1) := by decide +kernel
theorem dL_law_451 : decode cL_law 451 = .ok (.goto 4, 3) := by decide +kernel
theorem dL_law_454 : decode cL_law 454 = .ok (.iconst 0, 1) := by decide +kernel
theorem dL_law_455 : decode cL_law 455 = .ok (.istore 4, 2) := by decide +kernel
theorem dL_law_457 : decode cL_law 457 = .ok (.goto 126, 3) := by decide +kernel
theorem dL_law_460 : decode cL_law 460 = .ok (.iconst 1, 1) := by decide +kernel
theorem dL_law_461 : decode cL_law 461 = .ok (.iload 7, 2) := by decide +kernel
theorem dL_law_463 : decode cL_law 463 = .ok (.iload 7, 2) := by decide +kernel
theorem dL_law_465 : decode cL_law 465 = .ok (.bipush 9, 2) := by decide +kernel
theorem dL_law_467 : decode cL_law 467 = .ok (.ishr, 1) := by decide +kernel
theorem dL_law_468 : decode cL_law 468 = .ok (.iconst 3, 1) := by decide +kernel
theorem dL_law_469 : decode cL_law 469 = .ok (.invokestatic 72, 3) := by decide +kernel
theorem dL_law_472 : decode cL_law 472 = .ok (.ifCond .ne 9, 3) := by decide +kernel
theorem dL_law_475 : decode cL_law 475 = .ok (.sipush 900, 3) := by decide +kernel
theorem dL_law_478 : decode cL_law 478 = .ok (.goto 5, 3) := by decide +kernel
theorem dL_law_481 : decode cL_law 481 = .ok (.bipush 60, 2) := by decide +kernel
theorem dL_law_483 : decode cL_law 483 = .ok (.invokestatic 72, 3) := by decide +kernel
theorem dL_law_486 : decode cL_law 486 = .ok (.iadd, 1) := by decide +kernel
theorem dL_law_487 : decode cL_law 487 = .ok (.istore 9, 2) := by decide +kernel
theorem dL_law_489 : decode cL_law 489 = .ok (.aload_n 1, 1) := by decide +kernel
theorem dL_law_490 : decode cL_law 490 = .ok (.invokevirtual 117, 3) := by decide +kernel
theorem dL_law_493 : decode cL_law 493 = .ok (.istore 10, 2) := by decide +kernel
theorem dL_law_495 : decode cL_law 495 = .ok (.aload_n 1, 1) := by decide +kernel
theorem dL_law_496 : decode cL_law 496 = .ok (.invokevirtual 36, 3) := by decide +kernel
theorem dL_law_499 : decode cL_law 499 = .ok (.lstore 11, 2) := by decide +kernel
theorem dL_law_501 : decode cL_law 501 = .ok (.aload_n 1, 1) := by decide +kernel
theorem dL_law_502 : decode cL_law 502 = .ok (.invokevirtual 68, 3) := by decide +kernel
theorem dL_law_505 : decode cL_law 505 = .ok (.istore 13, 2) := by decide +kernel
theorem dL_law_507 : decode cL_law 507 = .ok (.aload_n 1, 1) := by decide +kernel
theorem dL_law_508 : decode cL_law 508 = .ok (.iload 9, 2) := by decide +kernel
theorem dL_law_510 : decode cL_law 510 = .ok (.invokestatic 120, 3) := by decide +kernel
theorem dL_law_513 : decode cL_law 513 = .ok (.istore 14, 2) := by decide +kernel
theorem dL_law_515 : decode cL_law 515 = .ok (.iload 14, 2) := by decide +kernel
theorem dL_law_517 : decode cL_law 517 = .ok (.bipush (-3), 2) := by decide +kernel
theorem dL_law_519 : decode cL_law 519 = .ok (.if_icmp .ne 22, 3) := by decide +kernel
theorem dL_law_522 : decode cL_law 522 = .ok (.iload 10, 2) := by decide +kernel
theorem dL_law_524 : decode cL_law 524 = .ok (.iload 9, 2) := by decide +kernel
theorem dL_law_526 : decode cL_law 526 = .ok (.iadd, 1) := by decide +kernel
theorem dL_law_527 : decode cL_law 527 = .ok (.sipush 15000, 3) := by decide +kernel
theorem dL_law_530 : decode cL_law 530 = .ok (.if_icmp .le 7, 3) := by decide +kernel
theorem dL_law_533 : decode cL_law 533 = .ok (.iconst 1, 1) := by decide +kernel
theorem dL_law_534 : decode cL_law 534 = .ok (.goto 47, 3) := by decide +kernel
theorem dL_law_537 : decode cL_law 537 = .ok (.iconst 0, 1) := by decide +kernel
theorem dL_law_538 : decode cL_law 538 = .ok (.goto 43, 3) := by decide +kernel
theorem dL_law_541 : decode cL_law 541 = .ok (.iload 14, 2) := by decide +kernel
theorem dL_law_543 : decode cL_law 543 = .ok (.iload 10, 2) := by decide +kernel
theorem dL_law_545 : decode cL_law 545 = .ok (.iload 9, 2) := by decide +kernel
theorem dL_law_547 : decode cL_law 547 = .ok (.iadd, 1) := by decide +kernel
theorem dL_law_548 : decode cL_law 548 = .ok (.if_icmp .ne 32, 3) := by decide +kernel
theorem dL_law_551 : decode cL_law 551 = .ok (.aload_n 1, 1) := by decide +kernel
theorem dL_law_552 : decode cL_law 552 = .ok (.invokevirtual 36, 3) := by decide +kernel
theorem dL_law_555 : decode cL_law 555 = .ok (.lload 11, 2) := by decide +kernel
theorem dL_law_557 : decode cL_law 557 = .ok (.lcmp, 1) := by decide +kernel
theorem dL_law_558 : decode cL_law 558 = .ok (.ifCond .lt 22, 3) := by decide +kernel
theorem dL_law_561 : decode cL_law 561 = .ok (.iload 13, 2) := by decide +kernel
theorem dL_law_563 : decode cL_law 563 = .ok (.ifCond .eq 13, 3) := by decide +kernel
theorem dL_law_566 : decode cL_law 566 = .ok (.aload_n 1, 1) := by decide +kernel
theorem dL_law_567 : decode cL_law 567 = .ok (.invokevirtual 36, 3) := by decide +kernel
theorem dL_law_570 : decode cL_law 570 = .ok (.lload 11, 2) := by decide +kernel
theorem dL_law_572 : decode cL_law 572 = .ok (.lcmp, 1) := by decide +kernel
theorem dL_law_573 : decode cL_law 573 = .ok (.ifCond .ne 7, 3) := by decide +kernel
theorem dL_law_576 : decode cL_law 576 = .ok (.iconst 1, 1) := by decide +kernel
theorem dL_law_577 : decode cL_law 577 = .ok (.goto 4, 3) := by decide +kernel
theorem dL_law_580 : decode cL_law 580 = .ok (.iconst 0, 1) := by decide +kernel
theorem dL_law_581 : decode cL_law 581 = .ok (.istore 4, 2) := by decide +kernel
theorem dL_law_583 : decode cL_law 583 = .ok (.iload 4, 2) := by decide +kernel
theorem dL_law_585 : decode cL_law 585 = .ok (.ifCond .eq 14, 3) := by decide +kernel
theorem dL_law_588 : decode cL_law 588 = .ok (.aload_n 1, 1) := by decide +kernel
theorem dL_law_589 : decode cL_law 589 = .ok (.invokestatic 94, 3) := by decide +kernel
theorem dL_law_592 : decode cL_law 592 = .ok (.ifCond .eq 7, 3) := by decide +kernel
theorem dL_law_595 : decode cL_law 595 = .ok (.iconst 1, 1) := by decide +kernel
theorem dL_law_596 : decode cL_law 596 = .ok (.goto 4, 3) := by decide +kernel
theorem dL_law_599 : decode cL_law 599 = .ok (.iconst 0, 1) := by decide +kernel
theorem dL_law_600 : decode cL_law 600 = .ok (.istore 4, 2) := by decide +kernel
theorem dL_law_602 : decode cL_law 602 = .ok (.iinc 6 1, 3) := by decide +kernel
theorem dL_law_605 : decode cL_law 605 = .ok (.goto (-527), 3) := by decide +kernel
theorem dL_law_608 : decode cL_law 608 = .ok (.iload 4, 2) := by decide +kernel
theorem dL_law_610 : decode cL_law 610 = .ok (.ireturn, 1) := by decide +kernel
abbrev vwCl : List vw_C := [(RX0, TX0, 17)]
end
section
/-! rows over natural numbers: ints as nI n, longs as lN n -/
def nF (f : Nat → Nat) : Nat → Int32 := fun j => nI (f j)
def eF (f : Nat → Nat) : Nat → Int32 := fun j => nI (f j) - 1
def lF (f : Nat → Nat) : Nat → Int64 := fun j => lN (f j)
theorem nk_updn {f : Nat → Nat} {i v : Nat} (h : i < 2147483648) : upd (nF f) (nI i).toNatClampNeg (nI v) = nF (va_up f i v) := by
  rw [nI_clamp (by omega)]
  funext j
  by_cases h : j = i
  · subst h; simp [upd, nF, va_up]
  · simp [upd, nF, va_up, h]
theorem nk_upde {f : Nat → Nat} {i v : Nat} {x : Int32} (h : i < 2147483648) (hx : x = nI v - 1) : upd (eF f) (nI i).toNatClampNeg x = eF (va_up f i v) := by
  rw [nI_clamp (by omega)]
  subst hx
  funext j
  by_cases h : j = i
  · subst h; simp [upd, eF, va_up]
  · simp [upd, eF, va_up, h]
theorem nk_updl {f : Nat → Nat} {i v : Nat} (h : i < 2147483648) : vp_updL (lF f) (nI i).toNatClampNeg (lN v) = lF (va_up f i v) := by
  rw [nI_clamp (by omega)]
  funext j
  by_cases h : j = i
  · subst h; simp [vp_updL, lF, va_up]
  · simp [vp_updL, lF, va_up, h]
theorem nk_i0 : (0 : Int32) = nI 0 := nI_0.symm
theorem nk_l0 : (0 : Int64) = lN 0 := by decide +kernel
theorem nk_m1 : (-1 : Int32) = nI 0 - 1 := by decide +kernel
theorem nk_eI {a : Nat} (h : a < 2147483648) : (nI a - 1).toInt = (a : Int) - 1 := by
  have e : (nI a - 1).toInt = ((nI a).toInt - (1 : Int32).toInt).bmod (2 ^ 32) := Int32.toInt_sub _ _
  rw [e, nI_toInt (by omega), show (1 : Int32).toInt = 1 from by decide, Int.bmod_def]
  omega
theorem nk_eEq {a b : Nat} (ha : a < 2147483648) (hb : b < 2147483648) : nI a - 1 = nI b - 1 ↔ a = b := by
  constructor
  · intro h
    have h2 := congrArg Int32.toInt h
    rw [nk_eI ha, nk_eI hb] at h2
    omega
  · intro h; rw [h]
theorem nk_ltE {a b : Nat} (ha : a < 2147483648) (hb : b < 2147483648) : nI a - 1 < nI b - 1 ↔ a < b := by
  rw [Int32.lt_iff_toInt_lt, nk_eI ha, nk_eI hb]; omega
theorem nk_max {a b : Nat} (ha : a < 2147483648) (hb : b < 2147483648) : (if nI a < nI b then nI b else nI a) = nI (max a b) := by
  by_cases h : a < b
  · rw [if_pos ((nI_ltI (by omega) (by omega)).mpr h), Nat.max_eq_right (by omega)]
  · rw [if_neg (fun q => h ((nI_ltI (by omega) (by omega)).mp q)), Nat.max_eq_left (by omega)]
theorem nk_min {a b : Nat} (ha : a < 2147483648) (hb : b < 2147483648) : (if nI b < nI a then nI b else nI a) = nI (min a b) := by
  by_cases h : b < a
  · rw [if_pos ((nI_ltI (by omega) (by omega)).mpr h), Nat.min_eq_right (by omega)]
  · rw [if_neg (fun q => h ((nI_ltI (by omega) (by omega)).mp q)), Nat.min_eq_left (by omega)]
theorem nk_maxE {a b : Nat} (ha : a < 2147483648) (hb : b < 2147483648) : (if nI a - 1 < nI b - 1 then nI b - 1 else nI a - 1) = nI (max a b) - 1 := by
  by_cases h : a < b
  · rw [if_pos ((nk_ltE ha hb).mpr h), Nat.max_eq_right (by omega)]
  · rw [if_neg (fun q => h ((nk_ltE ha hb).mp q)), Nat.max_eq_left (by omega)]
theorem nk_minL {a b : Nat} (ha : a < 9223372036854775808) (hb : b < 9223372036854775808) : (if lN b < lN a then lN b else lN a) = lN (min a b) := by
  by_cases h : b < a
  · rw [if_pos ((pk_lLT (by omega) (by omega)).mpr h), Nat.min_eq_right (by omega)]
  · rw [if_neg (fun q => h ((pk_lLT (by omega) (by omega)).mp q)), Nat.min_eq_left (by omega)]
/-- a difference of two small ints, by its value -/
theorem nk_subI {a b : Nat} (ha : a < 1073741824) (hb : b < 1073741824) : (nI a - nI b).toInt = (a : Int) - b := pk_sub_toInt (by omega) (by omega)
theorem nk_max0 {a b : Nat} (ha : a < 1073741824) (hb : b < 1073741824) : (if nI 0 < nI a - nI b then nI a - nI b else nI 0) = nI (a - b) := by
  by_cases h : b < a
  · have h2 : nI 0 < nI a - nI b := by rw [Int32.lt_iff_toInt_lt, nk_subI ha hb, nI_0]; show (0 : Int) < _; omega
    rw [if_pos h2, pk_sub (by omega)]
  · have h2 : ¬ nI 0 < nI a - nI b := by rw [Int32.lt_iff_toInt_lt, nk_subI ha hb, nI_0]; show ¬ (0 : Int) < _; omega
    rw [if_neg h2, show a - b = 0 by omega]
theorem nk_subL {a b : Nat} (ha : a < 4611686018427387904) (hb : b < 4611686018427387904) : (lN a - lN b).toInt = (a : Int) - b := by
  have e : (lN a - lN b).toInt = ((lN a).toInt - (lN b).toInt).bmod (2 ^ 64) := Int64.toInt_sub _ _
  rw [e, pk_lT (by omega), pk_lT (by omega), Int.bmod_def]
  omega
theorem nk_maxL0 {a b : Nat} (ha : a < 4611686018427387904) (hb : b < 4611686018427387904) : (if lN a - lN b < lN 0 then lN 0 else lN a - lN b) = lN (a - b) := by
  by_cases h : b ≤ a
  · have h2 : ¬ lN a - lN b < lN 0 := by rw [Int64.lt_iff_toInt_lt, nk_subL ha hb, ← nk_l0]; show ¬ _ < (0 : Int); omega
    rw [if_neg h2, lN_sub h]
  · have h2 : lN a - lN b < lN 0 := by rw [Int64.lt_iff_toInt_lt, nk_subL ha hb, ← nk_l0]; show _ < (0 : Int); omega
    rw [if_pos h2, show a - b = 0 by omega]
section NKR
variable {p : Program} {l : Launch} {e : Env} {R : Room} {s : State} {m : MethodId} {args : Array Value} {below : List Frame} {meth : Method} {c : Code} {H : Heap} {locs : List Loc} {cells slots : Nat} {Q : State → Prop}
variable {cc : ByteArray} {pc : Nat} {ls : Array Slot} {rest : List Value}
theorem nk_topi {x y : Int32} (h : x = y) (k : W p l e R s m args below meth c H locs cells slots Q (F0 m pc ls (.int y :: rest))) : W p l e R s m args below meth c H locs cells slots Q (F0 m pc ls (.int x :: rest)) := by subst h; exact k
theorem nk_topl {x y : Int64} (h : x = y) (k : W p l e R s m args below meth c H locs cells slots Q (F0 m pc ls (.long y :: rest))) : W p l e R s m args below meth c H locs cells slots Q (F0 m pc ls (.long x :: rest)) := by subst h; exact k
theorem nk_iadd (hx : p.tables.exec = Jvm.exec) (hb : c.code = cc) {a b : Nat} (hdg : decode cc pc = .ok (.iadd, 1)) (k : W p l e R s m args below meth c H locs cells slots Q (F0 m (pc + 1) ls (.int (nI (a + b)) :: rest))) : W p l e R s m args below meth c H locs cells slots Q (F0 m pc ls (.int (nI b) :: .int (nI a) :: rest)) := lv_iadd hx hb hdg (by rw [nI_add]; exact k)
theorem nk_isub (hx : p.tables.exec = Jvm.exec) (hb : c.code = cc) {a b : Nat} (h : b ≤ a) (hdg : decode cc pc = .ok (.isub, 1)) (k : W p l e R s m args below meth c H locs cells slots Q (F0 m (pc + 1) ls (.int (nI (a - b)) :: rest))) : W p l e R s m args below meth c H locs cells slots Q (F0 m pc ls (.int (nI b) :: .int (nI a) :: rest)) := lv_isub hx hb hdg (by rw [pk_sub h]; exact k)
theorem nk_imul (hx : p.tables.exec = Jvm.exec) (hb : c.code = cc) {a b : Nat} (hdg : decode cc pc = .ok (.imul, 1)) (k : W p l e R s m args below meth c H locs cells slots Q (F0 m (pc + 1) ls (.int (nI (a * b)) :: rest))) : W p l e R s m args below meth c H locs cells slots Q (F0 m pc ls (.int (nI b) :: .int (nI a) :: rest)) := lv_imul hx hb hdg (by rw [pk_mul]; exact k)
theorem nk_idiv (hx : p.tables.exec = Jvm.exec) (hb : c.code = cc) {a b : Nat} (ha : a < 2147483648) (h0 : 0 < b) (hb2 : b < 2147483648) (hdg : decode cc pc = .ok (.idiv, 1)) (k : W p l e R s m args below meth c H locs cells slots Q (F0 m (pc + 1) ls (.int (nI (a / b)) :: rest))) : W p l e R s m args below meth c H locs cells slots Q (F0 m pc ls (.int (nI b) :: .int (nI a) :: rest)) := lv_idiv hx hb hdg (nI_ne0 h0 (by omega)) (by rw [pk_div (by omega) h0 (by omega)]; exact k)
theorem nk_ladd (hx : p.tables.exec = Jvm.exec) (hb : c.code = cc) {a b : Nat} (hdg : decode cc pc = .ok (.ladd, 1)) (k : W p l e R s m args below meth c H locs cells slots Q (F0 m (pc + 1) ls (.long (lN (a + b)) :: rest))) : W p l e R s m args below meth c H locs cells slots Q (F0 m pc ls (.long (lN b) :: .long (lN a) :: rest)) := lv_ladd hx hb hdg (by rw [lN_add]; exact k)
theorem nk_lsub (hx : p.tables.exec = Jvm.exec) (hb : c.code = cc) {a b : Nat} (h : b ≤ a) (hdg : decode cc pc = .ok (.lsub, 1)) (k : W p l e R s m args below meth c H locs cells slots Q (F0 m (pc + 1) ls (.long (lN (a - b)) :: rest))) : W p l e R s m args below meth c H locs cells slots Q (F0 m pc ls (.long (lN b) :: .long (lN a) :: rest)) := lv_lsub hx hb hdg (by rw [lN_sub h]; exact k)
theorem nk_lmul (hx : p.tables.exec = Jvm.exec) (hb : c.code = cc) {a b : Nat} (hdg : decode cc pc = .ok (.lmul, 1)) (k : W p l e R s m args below meth c H locs cells slots Q (F0 m (pc + 1) ls (.long (lN (a * b)) :: rest))) : W p l e R s m args below meth c H locs cells slots Q (F0 m pc ls (.long (lN b) :: .long (lN a) :: rest)) := lv_lmul hx hb hdg (by rw [lN_mul]; exact k)
theorem nk_ldiv (hx : p.tables.exec = Jvm.exec) (hb : c.code = cc) {a b : Nat} (ha : a < 9223372036854775808) (h0 : 0 < b) (hb2 : b < 2147483648) (hdg : decode cc pc = .ok (.ldiv, 1)) (k : W p l e R s m args below meth c H locs cells slots Q (F0 m (pc + 1) ls (.long (lN (a / b)) :: rest))) : W p l e R s m args below meth c H locs cells slots Q (F0 m pc ls (.long (lN b) :: .long (lN a) :: rest)) := lv_ldiv hx hb hdg (fun q => by
    rw [nk_l0] at q
    have := (pk_lEQ (show b < 2 ^ 63 by omega) (by decide)).mp q
    omega) (by rw [pk_lDiv (by omega) h0 (by omega)]; exact k)
theorem nk_i2l (hx : p.tables.exec = Jvm.exec) (hb : c.code = cc) {a : Nat} (ha : a < 2147483648) (hdg : decode cc pc = .ok (.i2l, 1)) (k : W p l e R s m args below meth c H locs cells slots Q (F0 m (pc + 1) ls (.long (lN a) :: rest))) : W p l e R s m args below meth c H locs cells slots Q (F0 m pc ls (.int (nI a) :: rest)) := lv_i2l hx hb hdg (nI_l (by omega)) k
theorem nk_l2i (hx : p.tables.exec = Jvm.exec) (hb : c.code = cc) {a : Nat} (hdg : decode cc pc = .ok (.l2i, 1)) (k : W p l e R s m args below meth c H locs cells slots Q (F0 m (pc + 1) ls (.int (nI a) :: rest))) : W p l e R s m args below meth c H locs cells slots Q (F0 m pc ls (.long (lN a) :: rest)) := lv_l2i hx hb hdg (lN_i a) k
section Cmp
variable {a b : Nat} {off : Int} {tgt : Nat}
theorem nk_icmp_eq (hx : p.tables.exec = Jvm.exec) (hb : c.code = cc) (ha : a < 2147483648) (hb2 : b < 2147483648) (hdg : decode cc pc = .ok (.if_icmp .eq off, 3)) (ht : (pc : Int) + off = (tgt : Int)) (kt : a = b → W p l e R s m args below meth c H locs cells slots Q (F0 m tgt ls rest)) (kf : a ≠ b → W p l e R s m args below meth c H locs cells slots Q (F0 m (pc + 3) ls rest)) : W p l e R s m args below meth c H locs cells slots Q (F0 m pc ls (.int (nI b) :: .int (nI a) :: rest)) := lv_icmp_eq hx hb hdg ht (fun q => kt ((nI_eq (by omega) (by omega)).mp q)) (fun q => kf (fun r => q (by rw [r])))
theorem nk_icmp_ne (hx : p.tables.exec = Jvm.exec) (hb : c.code = cc) (ha : a < 2147483648) (hb2 : b < 2147483648) (hdg : decode cc pc = .ok (.if_icmp .ne off, 3)) (ht : (pc : Int) + off = (tgt : Int)) (kt : a ≠ b → W p l e R s m args below meth c H locs cells slots Q (F0 m tgt ls rest)) (kf : a = b → W p l e R s m args below meth c H locs cells slots Q (F0 m (pc + 3) ls rest)) : W p l e R s m args below meth c H locs cells slots Q (F0 m pc ls (.int (nI b) :: .int (nI a) :: rest)) := lv_icmp_ne hx hb hdg ht (fun q => kt (fun r => q (by rw [r]))) (fun q => kf ((nI_eq (by omega) (by omega)).mp q))
theorem nk_icmp_lt (hx : p.tables.exec = Jvm.exec) (hb : c.code = cc) (ha : a < 2147483648) (hb2 : b < 2147483648) (hdg : decode cc pc = .ok (.if_icmp .lt off, 3)) (ht : (pc : Int) + off = (tgt : Int)) (kt : a < b → W p l e R s m args below meth c H locs cells slots Q (F0 m tgt ls rest)) (kf : b ≤ a → W p l e R s m args below meth c H locs cells slots Q (F0 m (pc + 3) ls rest)) : W p l e R s m args below meth c H locs cells slots Q (F0 m pc ls (.int (nI b) :: .int (nI a) :: rest)) := lv_icmp_lt hx hb hdg ht (fun q => kt ((nI_ltI (by omega) (by omega)).mp q)) (fun q => kf (Nat.not_lt.mp (fun r => q ((nI_ltI (by omega) (by omega)).mpr r))))
theorem nk_icmp_ge (hx : p.tables.exec = Jvm.exec) (hb : c.code = cc) (ha : a < 2147483648) (hb2 : b < 2147483648) (hdg : decode cc pc = .ok (.if_icmp .ge off, 3)) (ht : (pc : Int) + off = (tgt : Int)) (kt : b ≤ a → W p l e R s m args below meth c H locs cells slots Q (F0 m tgt ls rest)) (kf : a < b → W p l e R s m args below meth c H locs cells slots Q (F0 m (pc + 3) ls rest)) : W p l e R s m args below meth c H locs cells slots Q (F0 m pc ls (.int (nI b) :: .int (nI a) :: rest)) := lv_icmp_ge hx hb hdg ht (fun q => kt ((nI_leI (by omega) (by omega)).mp q)) (fun q => kf (Nat.not_le.mp (fun r => q ((nI_leI (by omega) (by omega)).mpr r))))
theorem nk_icmp_gt (hx : p.tables.exec = Jvm.exec) (hb : c.code = cc) (ha : a < 2147483648) (hb2 : b < 2147483648) (hdg : decode cc pc = .ok (.if_icmp .gt off, 3)) (ht : (pc : Int) + off = (tgt : Int)) (kt : b < a → W p l e R s m args below meth c H locs cells slots Q (F0 m tgt ls rest)) (kf : a ≤ b → W p l e R s m args below meth c H locs cells slots Q (F0 m (pc + 3) ls rest)) : W p l e R s m args below meth c H locs cells slots Q (F0 m pc ls (.int (nI b) :: .int (nI a) :: rest)) := lv_icmp_gt hx hb hdg ht (fun q => kt ((nI_ltI (by omega) (by omega)).mp q)) (fun q => kf (Nat.not_lt.mp (fun r => q ((nI_ltI (by omega) (by omega)).mpr r))))
theorem nk_icmp_le (hx : p.tables.exec = Jvm.exec) (hb : c.code = cc) (ha : a < 2147483648) (hb2 : b < 2147483648) (hdg : decode cc pc = .ok (.if_icmp .le off, 3)) (ht : (pc : Int) + off = (tgt : Int)) (kt : a ≤ b → W p l e R s m args below meth c H locs cells slots Q (F0 m tgt ls rest)) (kf : b < a → W p l e R s m args below meth c H locs cells slots Q (F0 m (pc + 3) ls rest)) : W p l e R s m args below meth c H locs cells slots Q (F0 m pc ls (.int (nI b) :: .int (nI a) :: rest)) := lv_icmp_le hx hb hdg ht (fun q => kt ((nI_leI (by omega) (by omega)).mp q)) (fun q => kf (Nat.not_le.mp (fun r => q ((nI_leI (by omega) (by omega)).mpr r))))
theorem nk_if_eq (hx : p.tables.exec = Jvm.exec) (hb : c.code = cc) (ha : a < 2147483648) (hdg : decode cc pc = .ok (.ifCond .eq off, 3)) (ht : (pc : Int) + off = (tgt : Int)) (kt : a = 0 → W p l e R s m args below meth c H locs cells slots Q (F0 m tgt ls rest)) (kf : 0 < a → W p l e R s m args below meth c H locs cells slots Q (F0 m (pc + 3) ls rest)) : W p l e R s m args below meth c H locs cells slots Q (F0 m pc ls (.int (nI a) :: rest)) := lv_if_eq hx hb hdg ht (fun q => kt (by rw [nk_i0] at q; exact (nI_eq (by omega) (by omega)).mp q)) (fun q => kf (Nat.pos_of_ne_zero (fun r => q (by rw [r]; exact nI_0))))
theorem nk_if_ne (hx : p.tables.exec = Jvm.exec) (hb : c.code = cc) (ha : a < 2147483648) (hdg : decode cc pc = .ok (.ifCond .ne off, 3)) (ht : (pc : Int) + off = (tgt : Int)) (kt : 0 < a → W p l e R s m args below meth c H locs cells slots Q (F0 m tgt ls rest)) (kf : a = 0 → W p l e R s m args below meth c H locs cells slots Q (F0 m (pc + 3) ls rest)) : W p l e R s m args below meth c H locs cells slots Q (F0 m pc ls (.int (nI a) :: rest)) := lv_if_ne hx hb hdg ht (fun q => kt (Nat.pos_of_ne_zero (fun r => q (by rw [r]; exact nI_0)))) (fun q => kf (by rw [nk_i0] at q; exact (nI_eq (by omega) (by omega)).mp q))
theorem nk_if_le (hx : p.tables.exec = Jvm.exec) (hb : c.code = cc) (ha : a < 2147483648) (hdg : decode cc pc = .ok (.ifCond .le off, 3)) (ht : (pc : Int) + off = (tgt : Int)) (kt : a = 0 → W p l e R s m args below meth c H locs cells slots Q (F0 m tgt ls rest)) (kf : 0 < a → W p l e R s m args below meth c H locs cells slots Q (F0 m (pc + 3) ls rest)) : W p l e R s m args below meth c H locs cells slots Q (F0 m pc ls (.int (nI a) :: rest)) := lv_if_le hx hb hdg ht (fun q => kt (by rw [nk_i0] at q; have := (nI_leI (by omega) (by omega)).mp q; omega)) (fun q => kf (Nat.pos_of_ne_zero (fun r => q (by rw [r, nI_0]; decide))))
theorem nk_if_gt (hx : p.tables.exec = Jvm.exec) (hb : c.code = cc) (ha : a < 2147483648) (hdg : decode cc pc = .ok (.ifCond .gt off, 3)) (ht : (pc : Int) + off = (tgt : Int)) (kt : 0 < a → W p l e R s m args below meth c H locs cells slots Q (F0 m tgt ls rest)) (kf : a = 0 → W p l e R s m args below meth c H locs cells slots Q (F0 m (pc + 3) ls rest)) : W p l e R s m args below meth c H locs cells slots Q (F0 m pc ls (.int (nI a) :: rest)) := lv_if_gt hx hb hdg ht (fun q => kt (Nat.pos_of_ne_zero (fun r => by rw [r, nI_0] at q; exact absurd q (by decide)))) (fun q => kf (Nat.eq_zero_of_not_pos (fun r => q (by rw [nk_i0]; exact (nI_ltI (by omega) (by omega)).mpr r))))
theorem nk_bif_eq (hx : p.tables.exec = Jvm.exec) (hb : c.code = cc) {P : Prop} {inst : Decidable P} (hdg : decode cc pc = .ok (.ifCond .eq off, 3)) (ht : (pc : Int) + off = (tgt : Int)) (kt : ¬ P → W p l e R s m args below meth c H locs cells slots Q (F0 m tgt ls rest)) (kf : P → W p l e R s m args below meth c H locs cells slots Q (F0 m (pc + 3) ls rest)) : W p l e R s m args below meth c H locs cells slots Q (F0 m pc ls (.int (nI (if P then 1 else 0)) :: rest)) := by
  by_cases h : P
  · rw [if_pos h]; exact nk_if_eq hx hb (by decide) hdg ht (fun q => absurd q (by decide)) (fun _ => kf h)
  · rw [if_neg h]; exact nk_if_eq hx hb (by decide) hdg ht (fun _ => kt h) (fun q => absurd q (by decide))
theorem nk_bif_ne (hx : p.tables.exec = Jvm.exec) (hb : c.code = cc) {P : Prop} {inst : Decidable P} (hdg : decode cc pc = .ok (.ifCond .ne off, 3)) (ht : (pc : Int) + off = (tgt : Int)) (kt : P → W p l e R s m args below meth c H locs cells slots Q (F0 m tgt ls rest)) (kf : ¬ P → W p l e R s m args below meth c H locs cells slots Q (F0 m (pc + 3) ls rest)) : W p l e R s m args below meth c H locs cells slots Q (F0 m pc ls (.int (nI (if P then 1 else 0)) :: rest)) := by
  by_cases h : P
  · rw [if_pos h]; exact nk_if_ne hx hb (by decide) hdg ht (fun _ => kt h) (fun q => absurd q (by decide))
  · rw [if_neg h]; exact nk_if_ne hx hb (by decide) hdg ht (fun q => absurd q (by decide)) (fun _ => kf h)
/-- an int that may be negative, by its value -/
theorem nk_zlt (hx : p.tables.exec = Jvm.exec) (hb : c.code = cc) {x : Int32} {z : Int} (hz : x.toInt = z) (hdg : decode cc pc = .ok (.ifCond .lt off, 3)) (ht : (pc : Int) + off = (tgt : Int)) (kt : z < 0 → W p l e R s m args below meth c H locs cells slots Q (F0 m tgt ls rest)) (kf : 0 ≤ z → W p l e R s m args below meth c H locs cells slots Q (F0 m (pc + 3) ls rest)) : W p l e R s m args below meth c H locs cells slots Q (F0 m pc ls (.int x :: rest)) := lv_if_lt hx hb hdg ht (fun q => kt (by rw [Int32.lt_iff_toInt_lt, hz] at q; exact q)) (fun q => kf (by rw [Int32.lt_iff_toInt_lt, hz] at q; exact Int.not_lt.mp q))
theorem nk_zeq (hx : p.tables.exec = Jvm.exec) (hb : c.code = cc) {x : Int32} {z : Int} (hz : x.toInt = z) (hdg : decode cc pc = .ok (.ifCond .eq off, 3)) (ht : (pc : Int) + off = (tgt : Int)) (kt : z = 0 → W p l e R s m args below meth c H locs cells slots Q (F0 m tgt ls rest)) (kf : z ≠ 0 → W p l e R s m args below meth c H locs cells slots Q (F0 m (pc + 3) ls rest)) : W p l e R s m args below meth c H locs cells slots Q (F0 m pc ls (.int x :: rest)) := lv_if_eq hx hb hdg ht (fun q => kt (by rw [← hz, q]; rfl)) (fun q => kf (fun r => q (Int32.toInt_inj.mp (by rw [hz, r]; rfl))))
theorem nk_zne (hx : p.tables.exec = Jvm.exec) (hb : c.code = cc) {x : Int32} {z : Int} (hz : x.toInt = z) (hdg : decode cc pc = .ok (.ifCond .ne off, 3)) (ht : (pc : Int) + off = (tgt : Int)) (kt : z ≠ 0 → W p l e R s m args below meth c H locs cells slots Q (F0 m tgt ls rest)) (kf : z = 0 → W p l e R s m args below meth c H locs cells slots Q (F0 m (pc + 3) ls rest)) : W p l e R s m args below meth c H locs cells slots Q (F0 m pc ls (.int x :: rest)) := lv_if_ne hx hb hdg ht (fun q => kt (fun r => q (Int32.toInt_inj.mp (by rw [hz, r]; rfl)))) (fun q => kf (by rw [← hz, q]; rfl))
theorem nk_zcmp_lt (hx : p.tables.exec = Jvm.exec) (hb : c.code = cc) {x y : Int32} {z w : Int} (hz : x.toInt = z) (hw : y.toInt = w) (hdg : decode cc pc = .ok (.if_icmp .lt off, 3)) (ht : (pc : Int) + off = (tgt : Int)) (kt : z < w → W p l e R s m args below meth c H locs cells slots Q (F0 m tgt ls rest)) (kf : w ≤ z → W p l e R s m args below meth c H locs cells slots Q (F0 m (pc + 3) ls rest)) : W p l e R s m args below meth c H locs cells slots Q (F0 m pc ls (.int y :: .int x :: rest)) := lv_icmp_lt hx hb hdg ht (fun q => kt (by rw [Int32.lt_iff_toInt_lt, hz, hw] at q; exact q)) (fun q => kf (by rw [Int32.lt_iff_toInt_lt, hz, hw] at q; exact Int.not_lt.mp q))
theorem nk_zcmp_gt (hx : p.tables.exec = Jvm.exec) (hb : c.code = cc) {x y : Int32} {z w : Int} (hz : x.toInt = z) (hw : y.toInt = w) (hdg : decode cc pc = .ok (.if_icmp .gt off, 3)) (ht : (pc : Int) + off = (tgt : Int)) (kt : w < z → W p l e R s m args below meth c H locs cells slots Q (F0 m tgt ls rest)) (kf : z ≤ w → W p l e R s m args below meth c H locs cells slots Q (F0 m (pc + 3) ls rest)) : W p l e R s m args below meth c H locs cells slots Q (F0 m pc ls (.int y :: .int x :: rest)) := lv_icmp_gt hx hb hdg ht (fun q => kt (by rw [Int32.lt_iff_toInt_lt, hz, hw] at q; exact q)) (fun q => kf (by rw [Int32.lt_iff_toInt_lt, hz, hw] at q; exact Int.not_lt.mp q))
theorem nk_zcmp_le (hx : p.tables.exec = Jvm.exec) (hb : c.code = cc) {x y : Int32} {z w : Int} (hz : x.toInt = z) (hw : y.toInt = w) (hdg : decode cc pc = .ok (.if_icmp .le off, 3)) (ht : (pc : Int) + off = (tgt : Int)) (kt : z ≤ w → W p l e R s m args below meth c H locs cells slots Q (F0 m tgt ls rest)) (kf : w < z → W p l e R s m args below meth c H locs cells slots Q (F0 m (pc + 3) ls rest)) : W p l e R s m args below meth c H locs cells slots Q (F0 m pc ls (.int y :: .int x :: rest)) := lv_icmp_le hx hb hdg ht (fun q => kt (by rw [Int32.le_iff_toInt_le, hz, hw] at q; exact q)) (fun q => kf (by rw [Int32.le_iff_toInt_le, hz, hw] at q; exact Int.not_le.mp q))
theorem nk_zcmp_ge (hx : p.tables.exec = Jvm.exec) (hb : c.code = cc) {x y : Int32} {z w : Int} (hz : x.toInt = z) (hw : y.toInt = w) (hdg : decode cc pc = .ok (.if_icmp .ge off, 3)) (ht : (pc : Int) + off = (tgt : Int)) (kt : w ≤ z → W p l e R s m args below meth c H locs cells slots Q (F0 m tgt ls rest)) (kf : z < w → W p l e R s m args below meth c H locs cells slots Q (F0 m (pc + 3) ls rest)) : W p l e R s m args below meth c H locs cells slots Q (F0 m pc ls (.int y :: .int x :: rest)) := lv_icmp_ge hx hb hdg ht (fun q => kt (by rw [Int32.le_iff_toInt_le, hz, hw] at q; exact q)) (fun q => kf (by rw [Int32.le_iff_toInt_le, hz, hw] at q; exact Int.not_le.mp q))
/-- an end day (kept one higher) against -1 -/
theorem nk_ecmp_eq (hx : p.tables.exec = Jvm.exec) (hb : c.code = cc) (ha : a < 2147483648) (hdg : decode cc pc = .ok (.if_icmp .eq off, 3)) (ht : (pc : Int) + off = (tgt : Int)) (kt : a = 0 → W p l e R s m args below meth c H locs cells slots Q (F0 m tgt ls rest)) (kf : 0 < a → W p l e R s m args below meth c H locs cells slots Q (F0 m (pc + 3) ls rest)) : W p l e R s m args below meth c H locs cells slots Q (F0 m pc ls (.int (-1) :: .int (nI a - 1) :: rest)) := lv_icmp_eq hx hb hdg ht (fun q => kt (by rw [nk_m1] at q; exact (nk_eEq ha (by decide)).mp q)) (fun q => kf (Nat.pos_of_ne_zero (fun r => q (by rw [r, nk_m1]))))
theorem nk_ecmp_ne (hx : p.tables.exec = Jvm.exec) (hb : c.code = cc) (ha : a < 2147483648) (hdg : decode cc pc = .ok (.if_icmp .ne off, 3)) (ht : (pc : Int) + off = (tgt : Int)) (kt : 0 < a → W p l e R s m args below meth c H locs cells slots Q (F0 m tgt ls rest)) (kf : a = 0 → W p l e R s m args below meth c H locs cells slots Q (F0 m (pc + 3) ls rest)) : W p l e R s m args below meth c H locs cells slots Q (F0 m pc ls (.int (-1) :: .int (nI a - 1) :: rest)) := lv_icmp_ne hx hb hdg ht (fun q => kt (Nat.pos_of_ne_zero (fun r => q (by rw [r, nk_m1])))) (fun q => kf (by rw [nk_m1] at q; exact (nk_eEq ha (by decide)).mp q))
theorem nk_cmp1 {x y : Int64} : (lg_cmp x y > 0 ↔ y < x) ∧ (lg_cmp x y ≤ 0 ↔ ¬ y < x) ∧ (lg_cmp x y < 0 ↔ (¬ y < x ∧ ¬ x = y)) ∧ (lg_cmp x y ≥ 0 ↔ (y < x ∨ x = y)) ∧ (lg_cmp x y = 0 ↔ (¬ y < x ∧ x = y)) := by
  unfold lg_cmp
  by_cases h1 : y < x
  · simp only [if_pos h1]
    refine ⟨⟨fun _ => h1, fun _ => by decide⟩, ⟨fun h => absurd h (by decide), fun h => absurd h1 h⟩, ⟨fun h => absurd h (by decide), fun h => absurd h1 h.1⟩, ⟨fun _ => Or.inl h1, fun _ => by decide⟩, ⟨fun h => absurd h (by decide), fun h => absurd h1 h.1⟩⟩
  · by_cases h2 : x = y
    · simp only [if_neg h1, if_pos h2]
      refine ⟨⟨fun h => absurd h (by decide), fun h => absurd h h1⟩, ⟨fun _ => h1, fun _ => by decide⟩, ⟨fun h => absurd h (by decide), fun h => absurd h2 h.2⟩, ⟨fun _ => Or.inr h2, fun _ => by decide⟩, ⟨fun _ => ⟨h1, h2⟩, fun _ => (by first | rfl | trivial)⟩⟩
    · simp only [if_neg h1, if_neg h2]
      refine ⟨⟨fun h => absurd h (by decide), fun h => absurd h h1⟩, ⟨fun _ => h1, fun _ => by decide⟩, ⟨fun _ => ⟨h1, h2⟩, fun _ => by decide⟩, ⟨fun h => absurd h (by decide), fun h => h.elim (fun q => absurd q h1) (fun q => absurd q h2)⟩, ⟨fun h => absurd h (by decide), fun h => absurd h.2 h2⟩⟩
theorem nk_lcmp_gt (hx : p.tables.exec = Jvm.exec) (hb : c.code = cc) (ha : a < 9223372036854775808) (hb2 : b < 9223372036854775808) (d1 : decode cc pc = .ok (.lcmp, 1)) (d2 : decode cc (pc + 1) = .ok (.ifCond .gt off, 3)) (ht : ((pc + 1 : Nat) : Int) + off = (tgt : Int)) (kt : b < a → W p l e R s m args below meth c H locs cells slots Q (F0 m tgt ls rest)) (kf : a ≤ b → W p l e R s m args below meth c H locs cells slots Q (F0 m (pc + 1 + 3) ls rest)) : W p l e R s m args below meth c H locs cells slots Q (F0 m pc ls (.long (lN b) :: .long (lN a) :: rest)) := W.lcmp hx hb d1 (lv_if_gt hx hb d2 ht (fun q => kt ((pk_lLT (by omega) (by omega)).mp (nk_cmp1.1.mp q))) (fun q => kf (Nat.not_lt.mp (fun r => q (nk_cmp1.1.mpr ((pk_lLT (by omega) (by omega)).mpr r))))))
theorem nk_lcmp_le (hx : p.tables.exec = Jvm.exec) (hb : c.code = cc) (ha : a < 9223372036854775808) (hb2 : b < 9223372036854775808) (d1 : decode cc pc = .ok (.lcmp, 1)) (d2 : decode cc (pc + 1) = .ok (.ifCond .le off, 3)) (ht : ((pc + 1 : Nat) : Int) + off = (tgt : Int)) (kt : a ≤ b → W p l e R s m args below meth c H locs cells slots Q (F0 m tgt ls rest)) (kf : b < a → W p l e R s m args below meth c H locs cells slots Q (F0 m (pc + 1 + 3) ls rest)) : W p l e R s m args below meth c H locs cells slots Q (F0 m pc ls (.long (lN b) :: .long (lN a) :: rest)) := W.lcmp hx hb d1 (lv_if_le hx hb d2 ht (fun q => kt (Nat.not_lt.mp (fun r => nk_cmp1.2.1.mp q ((pk_lLT (by omega) (by omega)).mpr r)))) (fun q => kf (Nat.not_le.mp (fun r => q (nk_cmp1.2.1.mpr (fun r2 => absurd ((pk_lLT (by omega) (by omega)).mp r2) (by omega)))))))
theorem nk_lcmp_ge (hx : p.tables.exec = Jvm.exec) (hb : c.code = cc) (ha : a < 9223372036854775808) (hb2 : b < 9223372036854775808) (d1 : decode cc pc = .ok (.lcmp, 1)) (d2 : decode cc (pc + 1) = .ok (.ifCond .ge off, 3)) (ht : ((pc + 1 : Nat) : Int) + off = (tgt : Int)) (kt : b ≤ a → W p l e R s m args below meth c H locs cells slots Q (F0 m tgt ls rest)) (kf : a < b → W p l e R s m args below meth c H locs cells slots Q (F0 m (pc + 1 + 3) ls rest)) : W p l e R s m args below meth c H locs cells slots Q (F0 m pc ls (.long (lN b) :: .long (lN a) :: rest)) := W.lcmp hx hb d1 (lv_if_ge hx hb d2 ht (fun q => kt (by
      rcases nk_cmp1.2.2.2.1.mp q with h | h
      · exact Nat.le_of_lt ((pk_lLT (by omega) (by omega)).mp h)
      · exact Nat.le_of_eq ((pk_lEQ (by omega) (by omega)).mp h).symm)) (fun q => kf (Nat.not_le.mp (fun r => q (nk_cmp1.2.2.2.1.mpr (by
      rcases Nat.lt_or_eq_of_le r with h | h
      · exact Or.inl ((pk_lLT (by omega) (by omega)).mpr h)
      · exact Or.inr (by rw [h])))))))
theorem nk_lcmp_ne (hx : p.tables.exec = Jvm.exec) (hb : c.code = cc) (ha : a < 9223372036854775808) (hb2 : b < 9223372036854775808) (d1 : decode cc pc = .ok (.lcmp, 1)) (d2 : decode cc (pc + 1) = .ok (.ifCond .ne off, 3)) (ht : ((pc + 1 : Nat) : Int) + off = (tgt : Int)) (kt : a ≠ b → W p l e R s m args below meth c H locs cells slots Q (F0 m tgt ls rest)) (kf : a = b → W p l e R s m args below meth c H locs cells slots Q (F0 m (pc + 1 + 3) ls rest)) : W p l e R s m args below meth c H locs cells slots Q (F0 m pc ls (.long (lN b) :: .long (lN a) :: rest)) := W.lcmp hx hb d1 (lv_if_ne hx hb d2 ht (fun q => kt (fun r => q (nk_cmp1.2.2.2.2.mpr ⟨fun r2 => absurd ((pk_lLT (by omega) (by omega)).mp r2) (by omega), by rw [r]⟩))) (fun q => kf ((pk_lEQ (by omega) (by omega)).mp (nk_cmp1.2.2.2.2.mp q).2)))
theorem nk_lcmp_eq (hx : p.tables.exec = Jvm.exec) (hb : c.code = cc) (ha : a < 9223372036854775808) (hb2 : b < 9223372036854775808) (d1 : decode cc pc = .ok (.lcmp, 1)) (d2 : decode cc (pc + 1) = .ok (.ifCond .eq off, 3)) (ht : ((pc + 1 : Nat) : Int) + off = (tgt : Int)) (kt : a = b → W p l e R s m args below meth c H locs cells slots Q (F0 m tgt ls rest)) (kf : a ≠ b → W p l e R s m args below meth c H locs cells slots Q (F0 m (pc + 1 + 3) ls rest)) : W p l e R s m args below meth c H locs cells slots Q (F0 m pc ls (.long (lN b) :: .long (lN a) :: rest)) := W.lcmp hx hb d1 (lv_if_eq hx hb d2 ht (fun q => kt ((pk_lEQ (by omega) (by omega)).mp (nk_cmp1.2.2.2.2.mp q).2)) (fun q => kf (fun r => q (nk_cmp1.2.2.2.2.mpr ⟨fun r2 => absurd ((pk_lLT (by omega) (by omega)).mp r2) (by omega), by rw [r]⟩))))
end Cmp
section Arr
variable {D : va_G} {cl : List vw_C} {A : Nat → Prop} {q : Nat} {tys : List (ClassId × FieldType)} {ws : va_W} {H0 : Heap}
theorem nk_iald (hx : p.tables.exec = Jvm.exec) (hb : c.code = cc) (hK : va_K D cl tys s) (hP : va_P D cl ws H) (q0 t0 : Nat) {cA : ClassId} {n : Nat} {f : Nat → Nat} (ha : ws[q0]? = some (q, .inl (cA, n, .inl (nF f)))) (ht : tys[t0]? = some (cA, .int)) {i : Nat} (hi : i < n) (hn : n < 2147483648) (hdg : decode cc pc = .ok (.iaload, 1))
    (kk : W p l e R s m args below meth c H locs cells slots Q (F0 m (pc + 1) ls (.int (nI (f i)) :: rest))) : W p l e R s m args below meth c H locs cells slots Q (F0 m pc ls (.int (nI i) :: .ref q :: rest)) :=
  va_iald hx hb hK hP q0 t0 ha ht (vp_in_nI hi (by omega)) hdg (by rw [nI_clamp (by omega)]; exact kk)
theorem nk_eald (hx : p.tables.exec = Jvm.exec) (hb : c.code = cc) (hK : va_K D cl tys s) (hP : va_P D cl ws H) (q0 t0 : Nat) {cA : ClassId} {n : Nat} {f : Nat → Nat} (ha : ws[q0]? = some (q, .inl (cA, n, .inl (eF f)))) (ht : tys[t0]? = some (cA, .int)) {i : Nat} (hi : i < n) (hn : n < 2147483648) (hdg : decode cc pc = .ok (.iaload, 1))
    (kk : W p l e R s m args below meth c H locs cells slots Q (F0 m (pc + 1) ls (.int (nI (f i) - 1) :: rest))) : W p l e R s m args below meth c H locs cells slots Q (F0 m pc ls (.int (nI i) :: .ref q :: rest)) :=
  va_iald hx hb hK hP q0 t0 ha ht (vp_in_nI hi (by omega)) hdg (by rw [nI_clamp (by omega)]; exact kk)
theorem nk_lald (hx : p.tables.exec = Jvm.exec) (hb : c.code = cc) (hK : va_K D cl tys s) (hP : va_P D cl ws H) (q0 t0 : Nat) {cA : ClassId} {n : Nat} {f : Nat → Nat} (ha : ws[q0]? = some (q, .inl (cA, n, .inr (.inl (lF f))))) (ht : tys[t0]? = some (cA, .long)) {i : Nat} (hi : i < n) (hn : n < 2147483648) (hdg : decode cc pc = .ok (.laload, 1))
    (kk : W p l e R s m args below meth c H locs cells slots Q (F0 m (pc + 1) ls (.long (lN (f i)) :: rest))) : W p l e R s m args below meth c H locs cells slots Q (F0 m pc ls (.int (nI i) :: .ref q :: rest)) :=
  va_lald hx hb hK hP q0 t0 ha ht (vp_in_nI hi (by omega)) hdg (by rw [nI_clamp (by omega)]; exact kk)
theorem nk_iast (hx : p.tables.exec = Jvm.exec) (hb : c.code = cc) (hK : va_K D cl tys s) (hP : va_P D cl ws H) (hD : va_D A ws) (hS : va_S A H0 H locs) (q0 t0 : Nat) {cA : ClassId} {n : Nat} {f : Nat → Nat} (ha : ws[q0]? = some (q, .inl (cA, n, .inl (nF f)))) (ht : tys[t0]? = some (cA, .int)) {i v : Nat} (hi : i < n) (hn : n < 2147483648) (hdg : decode cc pc = .ok (.iastore, 1))
    (kk : ∀ (H1 : Heap) (locs1 : List Loc), va_P D cl (ws.set q0 (q, .inl (cA, n, .inl (nF (va_up f i v))))) H1 → va_D A (ws.set q0 (q, .inl (cA, n, .inl (nF (va_up f i v))))) → va_S A H0 H1 locs1 → W p l e R s m args below meth c H1 locs1 cells slots Q (F0 m (pc + 1) ls rest)) : W p l e R s m args below meth c H locs cells slots Q (F0 m pc ls (.int (nI v) :: .int (nI i) :: .ref q :: rest)) :=
  va_iast hx hb hK hP hD hS q0 t0 ha ht (vp_in_nI hi (by omega)) hdg (fun H1 locs1 h1 h2 h3 => by rw [nk_updn (by omega)] at h1 h2; exact kk H1 locs1 h1 h2 h3)
theorem nk_east (hx : p.tables.exec = Jvm.exec) (hb : c.code = cc) (hK : va_K D cl tys s) (hP : va_P D cl ws H) (hD : va_D A ws) (hS : va_S A H0 H locs) (q0 t0 : Nat) {cA : ClassId} {n : Nat} {f : Nat → Nat} (ha : ws[q0]? = some (q, .inl (cA, n, .inl (eF f)))) (ht : tys[t0]? = some (cA, .int)) {i v : Nat} {x : Int32} (hxv : x = nI v - 1) (hi : i < n) (hn : n < 2147483648) (hdg : decode cc pc = .ok (.iastore, 1))
    (kk : ∀ (H1 : Heap) (locs1 : List Loc), va_P D cl (ws.set q0 (q, .inl (cA, n, .inl (eF (va_up f i v))))) H1 → va_D A (ws.set q0 (q, .inl (cA, n, .inl (eF (va_up f i v))))) → va_S A H0 H1 locs1 → W p l e R s m args below meth c H1 locs1 cells slots Q (F0 m (pc + 1) ls rest)) : W p l e R s m args below meth c H locs cells slots Q (F0 m pc ls (.int x :: .int (nI i) :: .ref q :: rest)) :=
  va_iast hx hb hK hP hD hS q0 t0 ha ht (vp_in_nI hi (by omega)) hdg (fun H1 locs1 h1 h2 h3 => by rw [nk_upde (by omega) hxv] at h1 h2; exact kk H1 locs1 h1 h2 h3)
theorem nk_last (hx : p.tables.exec = Jvm.exec) (hb : c.code = cc) (hK : va_K D cl tys s) (hP : va_P D cl ws H) (hD : va_D A ws) (hS : va_S A H0 H locs) (q0 t0 : Nat) {cA : ClassId} {n : Nat} {f : Nat → Nat} (ha : ws[q0]? = some (q, .inl (cA, n, .inr (.inl (lF f))))) (ht : tys[t0]? = some (cA, .long)) {i v : Nat} (hi : i < n) (hn : n < 2147483648) (hdg : decode cc pc = .ok (.lastore, 1))
    (kk : ∀ (H1 : Heap) (locs1 : List Loc), va_P D cl (ws.set q0 (q, .inl (cA, n, .inr (.inl (lF (va_up f i v)))))) H1 → va_D A (ws.set q0 (q, .inl (cA, n, .inr (.inl (lF (va_up f i v)))))) → va_S A H0 H1 locs1 → W p l e R s m args below meth c H1 locs1 cells slots Q (F0 m (pc + 1) ls rest)) : W p l e R s m args below meth c H locs cells slots Q (F0 m pc ls (.long (lN v) :: .int (nI i) :: .ref q :: rest)) :=
  va_last hx hb hK hP hD hS q0 t0 ha ht (vp_in_nI hi (by omega)) hdg (fun H1 locs1 h1 h2 h3 => by rw [nk_updl (by omega)] at h1 h2; exact kk H1 locs1 h1 h2 h3)
end Arr
end NKR
end
section
/-! contracts of three kinds (read, read or throw, write or throw) and the calls of them -/
def nk_Rd (v : Option Value) : Array Value → State → Outcome → State → Prop := fun _ st o t => o = .returned v ∧ t.heap = st.heap
def nk_RdP (v : Option Value) (post : Prop) : Array Value → State → Outcome → State → Prop := fun _ st o t => o = .returned v ∧ post ∧ t.heap = st.heap
def nk_At (D : va_G) (tys : List (ClassId × FieldType)) (A : Nat → Prop) (ws : va_W) (t : State) : Prop := va_P D vwCl ws t.heap ∧ va_K D vwCl tys t ∧ va_D A ws
def nk_XC (px : String → Prop) (sz : Nat) : String → State → State → Prop := vx_X (S := Unit) (fun _ => True) (fun E _ _ => px E) (fun q => sz ≤ q)
abbrev RIA : String := "java/lang/IllegalArgumentException"
abbrev RIS : String := "java/lang/IllegalStateException"
abbrev RIO : String := "java/lang/IndexOutOfBoundsException"
/-- what a throw needs beside the tables: two statics that nobody writes, what can be cast, the texts -/
def nk_Z (A : Nat → Prop) (U : State) (H : Heap) : Prop :=
  (vx_Zq Bundle.tN "UNASSIGNED_STACK" Bundle.steD A U H ∧ vx_Zq Bundle.tN "SUPPRESSED_SENTINEL" Bundle.listD A U H) ∧
  (va_Nw (.castable RIA RIA) U ∧ va_Nw (.castable RIS RIS) U ∧ va_Nw (.castable RIO RIO) U ∧ va_Nc RIA RIS U ∧ va_Nc RIO RIS U) ∧
  (va_Nw (.declares (Bundle.initS "java/lang/RuntimeException")) U ∧ va_Nw (.declares (Bundle.initS "java/lang/Exception")) U ∧ va_Nw (.declares (Bundle.initS Bundle.tN)) U) ∧
  ∃ f : Nat → Nat, vk_R RX0 65 "a loan was begun, or the amount is above the greatest loan" (f 65) U ∧ vk_R RX0 92 "the amount is above the room, or there are too many drawings" (f 92) U ∧ vk_R RX0 101 "the amount is above the debt, or there are too many payments" (f 101) U ∧ vk_R RX0 111 "the day would be above the last one" (f 111) U ∧ vk_R RX0 125 "there is no such life" (f 125) U ∧ vk_R RX0 128 "the life has ended" (f 128) U ∧ vk_R RX0 134 "there is no loan" (f 134) U ∧ vk_R RX0 136 "there are too many payments" (f 136) U ∧ vk_R RX0 145 "there is no such drawing" (f 145) U ∧ vk_R RX0 167 "a number is out of range" (f 167) U ∧ vk_R RX0 170 "there is no loan, or it has ended" (f 170) U
theorem nk_Z.go {A B : Nat → Prop} {s U : State} {H : Heap} (h : nk_Z A s H) (hW : s.WarmedH U.vm) (hAB : ∀ q, B q → A q) : nk_Z B U H := by
  obtain ⟨⟨z1, z2⟩, ⟨n1, n2, n3, n4, n5⟩, ⟨d1, d2, d3⟩, f, r1, r2, r3, r4, r5, r6, r7, r8, r9, r10, r11⟩ := h
  exact ⟨⟨(z1.moved hW.alike).narrow hAB, (z2.moved hW.alike).narrow hAB⟩, ⟨va_Nw.warmC hW n1, va_Nw.warmC hW n2, va_Nw.warmC hW n3, va_Nc.moved hW.alike n4, va_Nc.moved hW.alike n5⟩, ⟨va_Nw.warmD hW d1, va_Nw.warmD hW d2, va_Nw.warmD hW d3⟩, f, vk_R.warm hW r1, vk_R.warm hW r2, vk_R.warm hW r3, vk_R.warm hW r4, vk_R.warm hW r5, vk_R.warm hW r6, vk_R.warm hW r7, vk_R.warm hW r8, vk_R.warm hW r9, vk_R.warm hW r10, vk_R.warm hW r11⟩
theorem nk_Z.kept {A : Nat → Prop} {s : State} {H H1 : Heap} (h : nk_Z A s H) (hq : ∀ a : Nat, a < H.size → ¬ A a → H1[a]? = H[a]?) : nk_Z A s H1 := ⟨⟨h.1.1.kept hq, h.1.2.kept hq⟩, h.2⟩
/-- the starts -/
def nk_Pr (D : va_G) (ws : va_W) (tys : List (ClassId × FieldType)) (av : List Value) : Array Value → State → Prop := va_Pc av (fun U => va_P D vwCl ws U.heap ∧ va_K D vwCl tys U)
def nk_Pw (D : va_G) (ws : va_W) (tys : List (ClassId × FieldType)) (sz : Nat) (av : List Value) : Array Value → State → Prop := va_Pc av (fun U => U.heap.size = sz ∧ va_P D vwCl ws U.heap ∧ va_K D vwCl tys U ∧ va_D (fun _ => True) ws)
def nk_Px (D : va_G) (ws : va_W) (tys : List (ClassId × FieldType)) (sz : Nat) (av : List Value) : Array Value → State → Prop := va_Pc av (fun U => U.heap.size = sz ∧ va_P D vwCl ws U.heap ∧ va_K D vwCl tys U ∧ va_D (fun _ => True) ws ∧ nk_Z (va_A ws sz) U U.heap)
theorem nk_Pr.blind {D : va_G} {ws : va_W} {tys : List (ClassId × FieldType)} {av : List Value} : FrameBlind (nk_Pr D ws tys av) := fun a U g mk q => ⟨q.1, q.2.1, va_K.moved (u := U) (U := U.calling g mk a) (Vm.Alike.refl U.vm) q.2.2⟩
theorem nk_Pw.blind {D : va_G} {ws : va_W} {tys : List (ClassId × FieldType)} {sz : Nat} {av : List Value} : FrameBlind (nk_Pw D ws tys sz av) := fun a U g mk q => ⟨q.1, q.2.1, q.2.2.1, va_K.moved (u := U) (U := U.calling g mk a) (Vm.Alike.refl U.vm) q.2.2.2.1, q.2.2.2.2⟩
theorem nk_Px.blind {D : va_G} {ws : va_W} {tys : List (ClassId × FieldType)} {sz : Nat} {av : List Value} : FrameBlind (nk_Px D ws tys sz av) := fun a U g mk q => ⟨q.1, q.2.1, q.2.2.1, va_K.moved (u := U) (U := U.calling g mk a) (Vm.Alike.refl U.vm) q.2.2.2.1, q.2.2.2.2.1, q.2.2.2.2.2.go (s := U) (U := U.calling g mk a) (State.WarmedH.refl U) (fun _ h => h)⟩
/-- a static method's start: it reads nothing; .. it may throw -/
def nk_P0 (av : List Value) : Array Value → State → Prop := va_Pc av (fun _ => True)
def nk_Ps (sz : Nat) (av : List Value) : Array Value → State → Prop := va_Pc av (fun U => U.heap.size = sz ∧ nk_Z (fun q => sz ≤ q) U U.heap)
theorem nk_P0.blind {av : List Value} : FrameBlind (nk_P0 av) := fun a U g mk q => q
theorem nk_Ps.blind {sz : Nat} {av : List Value} : FrameBlind (nk_Ps sz av) := fun a U g mk q => ⟨q.1, q.2.1, q.2.2.go (s := U) (U := U.calling g mk a) (State.WarmedH.refl U) (fun _ h => h)⟩
/-- no cell came: the count stays -/
theorem nk_tight {p : Program} {l : Launch} {e : Env} {R : Room} {s : State} {m : MethodId} {args : Array Value} {below : List Frame} {meth : Method} {c : Code} {T T' : State} {L L' : List Loc} {c0 s0 c1 s1 : Nat} (X : Stand p l e R s m args below meth c T L c0 s0) (X' : Stand p l e R s m args below meth c T' L' c1 s1) (hh : T'.heap = T.heap) : Stand p l e R s m args below meth c T' L' c0 s0 := by
  have h3 : (T'.setVm s.vm).heap.size ≤ s.heap.size + c0 := by
    show T'.heap.size ≤ _
    rw [hh]; exact X.same.2.2.1
  have h5 : (((T'.setVm s.vm).heap.toList.drop s.heap.size).map (·.slots.size)).sum ≤ s0 := by
    show ((T'.heap.toList.drop s.heap.size).map (·.slots.size)).sum ≤ s0
    rw [hh]; exact X.same.2.2.2.2.1
  exact { X' with same := ⟨X'.same.1, X'.same.2.1, h3, X'.same.2.2.2.1, h5, X'.same.2.2.2.2.2⟩ }
section NKC
variable {p : Program} {l : Launch} {e : Env} {R : Room} {s : State} {m : MethodId} {args : Array Value} {below : List Frame} {meth : Method} {c : Code} {H : Heap} {locs : List Loc} {cells slots : Nat} {Q : State → Prop}
variable {pc : Nat} {ls : Array Slot} {rest st0 : List Value} {a : Array Value} {A0 : Nat → Prop} {H0 : Heap}
theorem nk_rd {v : Option Value} (hr : CallRun p l e R s m args below meth c H locs cells slots 0 0 (F0 m pc ls st0) rest (nk_Rd v a) (fun _ => False))
    (kk : W p l e R s m args below meth c H locs cells slots Q (F0 m (pc + 3) ls (v.toList ++ rest))) : W p l e R s m args below meth c H locs cells slots Q (F0 m pc ls st0) := by
  intro T hT X
  obtain ⟨v', st₀, t, T', L, h0, X', hL, e1, ⟨hv, hh⟩, st⟩ := hr T hT X
  cases hv
  obtain ⟨t2, a1, b1⟩ := kk T' (by rw [e1, hh, h0]) (Stand.forget X' (fun q h => (hL q h).elim))
  exact ⟨t2, st t2 a1, b1⟩
theorem nk_rdx {v : Option Value} {post : Prop} {px : String → Prop} (hr : vx_Run p l e R s m args below meth c H locs cells slots 1 6 (F0 m pc ls st0) rest (nk_RdP v post a) (nk_XC px H.size) (fun _ => False))
    (hS : va_S A0 H0 H locs) (hA : ∀ q, H0.size ≤ q → A0 q)
    (kx : ∀ (E : String) (ce : Cell) (q9 : Addr) (H1 : Heap), px E → H.size ≤ H1.size → (∀ q : Nat, q < H.size → H1[q]? = H[q]?) → va_S A0 H0 H1 locs → H1[q9]? = some ce → ce.vm = .none → s.vm.findClass E = some ce.cls → vx_W p l e R s m args below meth c H1 locs (cells + 1) (slots + 6) Q (F0 m pc ls rest) q9)
    (kk : post → W p l e R s m args below meth c H locs cells slots Q (F0 m (pc + 3) ls (v.toList ++ rest))) : W p l e R s m args below meth c H locs cells slots Q (F0 m pc ls st0) := by
  intro T hT X
  rcases hr T hT X with ⟨v', st₀, t, T', L, h0, X', hL, e1, e2, ⟨hv, hp, hh⟩, st⟩ | ⟨q, st₀, t, T', L, E, ce, h0, X', hL, e1, e2, ⟨u, -, hp, hz, hk⟩, hce, hcv, hcl, st⟩
  · cases hv
    have e9 : T'.heap = T.heap := by rw [e1, hh, h0, hT]
    have X2 := nk_tight X (Stand.forget (extra := L) X' (fun q h => (hL q h).elim)) e9
    obtain ⟨t2, a1, b1⟩ := kk hp T' (by rw [e9, hT]) X2
    exact ⟨t2, st t2 a1, b1⟩
  · have X2 := Stand.forget (extra := L) X' (fun q h => (hL q h).elim)
    rw [h0] at hz hk
    have hk2 : ∀ q : Nat, q < H.size → T'.heap[q]? = H[q]? := fun q h1 => by rw [e1]; exact hk q h1 (Nat.not_le.mpr h1)
    have hz2 : H.size ≤ T'.heap.size := by rw [e1]; exact hz
    obtain ⟨t2, a1, b1⟩ := kx E ce q T'.heap hp hz2 hk2 ⟨Nat.le_trans hS.1 hz2, fun q h1 h2 => by rw [hk2 q (Nat.lt_of_lt_of_le h1 hS.1)]; exact hS.2.1 q h1 h2, hS.2.2⟩ (by rw [e1]; exact hce) hcv hcl T' rfl X2
    exact ⟨t2, st.trans a1, b1⟩
section Join
variable {D : va_G} {ws wc wr : va_W} {tys : List (ClassId × FieldType)} {mc ms : Nat}
theorem nk_vcall {post : va_W → Prop} (hr : va_Run p l e R s m args below meth c H locs cells slots mc ms (F0 m pc ls st0) rest (va_Qv post (fun w1 t => nk_At D tys (va_A wc H.size) w1 t) (va_A wc H.size) a) (va_A wc H.size))
    (hP : va_P D vwCl ws H) (hD : va_D A0 ws) (hS : va_S A0 H0 H locs) (hA : ∀ q, H0.size ≤ q → A0 q) (isC isR : List Nat) (hC : isC.map (fun i => ws[i]?) = wc.map some) (hR : isR.map (fun i => ws[i]?) = wr.map some) (hn : va_nd isR = true) (hdis : ∀ i ∈ isR, i ∉ isC)
    (kk : ∀ (w1 : va_W) (H1 : Heap) (locs1 : List Loc), post w1 → va_P D vwCl (wr ++ w1) H1 → va_D A0 (wr ++ w1) → va_S A0 H0 H1 locs1 → (∀ q : Nat, q < H.size → ¬ va_A wc H.size q → H1[q]? = H[q]?) → W p l e R s m args below meth c H1 locs1 (cells + mc) (slots + ms) Q (F0 m (pc + 3) ls rest)) : W p l e R s m args below meth c H locs cells slots Q (F0 m pc ls st0) := by
  have hF := va_free hD hS hA isC hC
  refine va_callv hr hS (fun q _ h => hF q h) hF (fun u t H1 locs1 ht hvm hw hB hz1 hk1 hS1 => ?_)
  obtain ⟨hP1, hK1, hD1⟩ := hB
  rw [ht] at hP1
  obtain ⟨hP2, hD2⟩ := va_join hP hD isC isR hC hR hn hdis hk1 hF hP1 hD1
  exact kk u H1 locs1 hw hP2 hD2 hS1 hk1
theorem nk_icall {post : Int32 → va_W → Prop} (hr : va_Run p l e R s m args below meth c H locs cells slots mc ms (F0 m pc ls st0) rest (va_Qi post (fun w1 t => nk_At D tys (va_A wc H.size) w1 t) (va_A wc H.size) a) (va_A wc H.size))
    (hP : va_P D vwCl ws H) (hD : va_D A0 ws) (hS : va_S A0 H0 H locs) (hA : ∀ q, H0.size ≤ q → A0 q) (isC isR : List Nat) (hC : isC.map (fun i => ws[i]?) = wc.map some) (hR : isR.map (fun i => ws[i]?) = wr.map some) (hn : va_nd isR = true) (hdis : ∀ i ∈ isR, i ∉ isC)
    (kk : ∀ (r : Int32) (w1 : va_W) (H1 : Heap) (locs1 : List Loc), post r w1 → va_P D vwCl (wr ++ w1) H1 → va_D A0 (wr ++ w1) → va_S A0 H0 H1 locs1 → (∀ q : Nat, q < H.size → ¬ va_A wc H.size q → H1[q]? = H[q]?) → W p l e R s m args below meth c H1 locs1 (cells + mc) (slots + ms) Q (F0 m (pc + 3) ls (.int r :: rest))) : W p l e R s m args below meth c H locs cells slots Q (F0 m pc ls st0) := by
  have hF := va_free hD hS hA isC hC
  refine va_calli hr hS (fun q _ h => hF q h) hF (fun r u t H1 locs1 ht hvm hw hB hz1 hk1 hS1 => ?_)
  obtain ⟨hP1, hK1, hD1⟩ := hB
  rw [ht] at hP1
  obtain ⟨hP2, hD2⟩ := va_join hP hD isC isR hC hR hn hdis hk1 hF hP1 hD1
  exact kk r u H1 locs1 hw hP2 hD2 hS1 hk1
theorem nk_lcall {post : Int64 → va_W → Prop} (hr : va_Run p l e R s m args below meth c H locs cells slots mc ms (F0 m pc ls st0) rest (va_Ql post (fun w1 t => nk_At D tys (va_A wc H.size) w1 t) (va_A wc H.size) a) (va_A wc H.size))
    (hP : va_P D vwCl ws H) (hD : va_D A0 ws) (hS : va_S A0 H0 H locs) (hA : ∀ q, H0.size ≤ q → A0 q) (isC isR : List Nat) (hC : isC.map (fun i => ws[i]?) = wc.map some) (hR : isR.map (fun i => ws[i]?) = wr.map some) (hn : va_nd isR = true) (hdis : ∀ i ∈ isR, i ∉ isC)
    (kk : ∀ (r : Int64) (w1 : va_W) (H1 : Heap) (locs1 : List Loc), post r w1 → va_P D vwCl (wr ++ w1) H1 → va_D A0 (wr ++ w1) → va_S A0 H0 H1 locs1 → (∀ q : Nat, q < H.size → ¬ va_A wc H.size q → H1[q]? = H[q]?) → W p l e R s m args below meth c H1 locs1 (cells + mc) (slots + ms) Q (F0 m (pc + 3) ls (.long r :: rest))) : W p l e R s m args below meth c H locs cells slots Q (F0 m pc ls st0) := by
  have hF := va_free hD hS hA isC hC
  refine va_calll hr hS (fun q _ h => hF q h) hF (fun r u t H1 locs1 ht hvm hw hB hz1 hk1 hS1 => ?_)
  obtain ⟨hP1, hK1, hD1⟩ := hB
  rw [ht] at hP1
  obtain ⟨hP2, hD2⟩ := va_join hP hD isC isR hC hR hn hdis hk1 hF hP1 hD1
  exact kk r u H1 locs1 hw hP2 hD2 hS1 hk1
theorem nk_icallx {post : Int32 → va_W → Prop} {px : String → Prop} (hr : vx_Run p l e R s m args below meth c H locs cells slots mc ms (F0 m pc ls st0) rest (va_Qi post (fun w1 t => nk_At D tys (va_A wc H.size) w1 t) (va_A wc H.size) a) (nk_XC px H.size) (va_A wc H.size))
    (hP : va_P D vwCl ws H) (hD : va_D A0 ws) (hS : va_S A0 H0 H locs) (hA : ∀ q, H0.size ≤ q → A0 q) (isC isR : List Nat) (hC : isC.map (fun i => ws[i]?) = wc.map some) (hR : isR.map (fun i => ws[i]?) = wr.map some) (hn : va_nd isR = true) (hdis : ∀ i ∈ isR, i ∉ isC)
    (kx : ∀ (E : String) (ce : Cell) (q9 : Addr) (H1 : Heap) (locs1 : List Loc), px E → H.size ≤ H1.size → (∀ q : Nat, q < H.size → H1[q]? = H[q]?) → va_P D vwCl ws H1 → va_S A0 H0 H1 locs1 → H1[q9]? = some ce → ce.vm = .none → s.vm.findClass E = some ce.cls → vx_W p l e R s m args below meth c H1 locs1 (cells + mc) (slots + ms) Q (F0 m pc ls rest) q9)
    (kk : ∀ (r : Int32) (w1 : va_W) (H1 : Heap) (locs1 : List Loc), post r w1 → va_P D vwCl (wr ++ w1) H1 → va_D A0 (wr ++ w1) → va_S A0 H0 H1 locs1 → (∀ q : Nat, q < H.size → ¬ va_A wc H.size q → H1[q]? = H[q]?) → W p l e R s m args below meth c H1 locs1 (cells + mc) (slots + ms) Q (F0 m (pc + 3) ls (.int r :: rest))) : W p l e R s m args below meth c H locs cells slots Q (F0 m pc ls st0) := by
  have hF := va_free hD hS hA isC hC
  refine vx_calli hr hS (fun q _ h => hF q h) hF (fun q h1 h2 => absurd h2 (Nat.not_le.mpr h1)) (fun E ce q9 u t H1 locs1 ht hvm hu hB hz1 hk1 hS1 hce hcv hcl => ?_) (fun r u t H1 locs1 ht hvm hw hB hz1 hk1 hS1 => ?_)
  · have hk2 : ∀ q : Nat, q < H.size → H1[q]? = H[q]? := fun q h1 => hk1 q h1 (Nat.not_le.mpr h1)
    exact kx E ce q9 H1 locs1 hB hz1 hk2 (hP.kept (fun k q hk => hk2 q.1 ((hP k q hk).lt))) hS1 hce hcv hcl
  · obtain ⟨hP1, hK1, hD1⟩ := hB
    rw [ht] at hP1
    obtain ⟨hP2, hD2⟩ := va_join hP hD isC isR hC hR hn hdis hk1 hF hP1 hD1
    exact kk r u H1 locs1 hw hP2 hD2 hS1 hk1
theorem nk_lcallx {post : Int64 → va_W → Prop} {px : String → Prop} (hr : vx_Run p l e R s m args below meth c H locs cells slots mc ms (F0 m pc ls st0) rest (va_Ql post (fun w1 t => nk_At D tys (va_A wc H.size) w1 t) (va_A wc H.size) a) (nk_XC px H.size) (va_A wc H.size))
    (hP : va_P D vwCl ws H) (hD : va_D A0 ws) (hS : va_S A0 H0 H locs) (hA : ∀ q, H0.size ≤ q → A0 q) (isC isR : List Nat) (hC : isC.map (fun i => ws[i]?) = wc.map some) (hR : isR.map (fun i => ws[i]?) = wr.map some) (hn : va_nd isR = true) (hdis : ∀ i ∈ isR, i ∉ isC)
    (kx : ∀ (E : String) (ce : Cell) (q9 : Addr) (H1 : Heap) (locs1 : List Loc), px E → H.size ≤ H1.size → (∀ q : Nat, q < H.size → H1[q]? = H[q]?) → va_P D vwCl ws H1 → va_S A0 H0 H1 locs1 → H1[q9]? = some ce → ce.vm = .none → s.vm.findClass E = some ce.cls → vx_W p l e R s m args below meth c H1 locs1 (cells + mc) (slots + ms) Q (F0 m pc ls rest) q9)
    (kk : ∀ (r : Int64) (w1 : va_W) (H1 : Heap) (locs1 : List Loc), post r w1 → va_P D vwCl (wr ++ w1) H1 → va_D A0 (wr ++ w1) → va_S A0 H0 H1 locs1 → (∀ q : Nat, q < H.size → ¬ va_A wc H.size q → H1[q]? = H[q]?) → W p l e R s m args below meth c H1 locs1 (cells + mc) (slots + ms) Q (F0 m (pc + 3) ls (.long r :: rest))) : W p l e R s m args below meth c H locs cells slots Q (F0 m pc ls st0) := by
  have hF := va_free hD hS hA isC hC
  refine vx_calll hr hS (fun q _ h => hF q h) hF (fun q h1 h2 => absurd h2 (Nat.not_le.mpr h1)) (fun E ce q9 u t H1 locs1 ht hvm hu hB hz1 hk1 hS1 hce hcv hcl => ?_) (fun r u t H1 locs1 ht hvm hw hB hz1 hk1 hS1 => ?_)
  · have hk2 : ∀ q : Nat, q < H.size → H1[q]? = H[q]? := fun q h1 => hk1 q h1 (Nat.not_le.mpr h1)
    exact kx E ce q9 H1 locs1 hB hz1 hk2 (hP.kept (fun k q hk => hk2 q.1 ((hP k q hk).lt))) hS1 hce hcv hcl
  · obtain ⟨hP1, hK1, hD1⟩ := hB
    rw [ht] at hP1
    obtain ⟨hP2, hD2⟩ := va_join hP hD isC isR hC hR hn hdis hk1 hF hP1 hD1
    exact kk r u H1 locs1 hw hP2 hD2 hS1 hk1
end Join
end NKC
end
section
/-! the two systems' worlds, and the numbers that they hold -/
abbrev tX (cI cJ : ClassId) : List (ClassId × FieldType) := [(cI, .int), (cJ, .long)]
def wX (h0 h1 h2 h3 h4 h5 h6 h7 h8 h9 : Nat) (cI cJ : ClassId) (d r lc bg w rm k pn : Nat) (fa e1 am dd rt b pd pt tp : Nat → Nat) : va_W :=
  [(h0, .inr (0, [.int (nI d), .int (nI r), .int (nI lc), .ref h1, .ref h2, .int (nI bg), .int (nI w), .int (nI rm), .int (nI k), .ref h3, .ref h4, .ref h5, .ref h6, .int (nI pn), .ref h7, .ref h8, .ref h9])),
   (h1, .inl (cI, 2, .inl (nF fa))), (h2, .inl (cI, 2, .inl (eF e1))), (h3, .inl (cI, 20, .inl (nF am))), (h4, .inl (cI, 20, .inl (nF dd))), (h5, .inl (cI, 20, .inl (nF rt))), (h6, .inl (cJ, 20, .inr (.inl (lF b)))), (h7, .inl (cI, 40, .inl (nF pd))), (h8, .inl (cI, 40, .inl (nF pt))), (h9, .inl (cJ, 800, .inr (.inl (lF tp))))]
def wM (g0 g1 g2 g3 g4 : Nat) (cI cJ : ClassId) (d r gb w rm lc k dr pn pa pi th : Nat) (ga e2 b rt : Nat → Nat) : va_W :=
  [(g0, .inr (1, [.int (nI d), .int (nI r), .int (nI gb), .int (nI w), .int (nI rm), .int (nI lc), .ref g1, .ref g2, .int (nI k), .ref g3, .ref g4, .long (lN dr), .int (nI pn), .long (lN pa), .int (nI pi), .int (nI th)])),
   (g1, .inl (cI, 2, .inl (nF ga))), (g2, .inl (cI, 2, .inl (nF e2))), (g3, .inl (cJ, 20, .inr (.inl (lF b)))), (g4, .inl (cI, 20, .inl (nF rt)))]
/-- how many of the first n lives have not ended (end days kept one higher; 0: alive) -/
def alive (f : Nat → Nat) : Nat → Nat
  | 0 => 0
  | n + 1 => alive f n + (if f n = 0 then 1 else 0)
def mxE (f : Nat → Nat) : Nat → Nat
  | 0 => 0
  | n + 1 => max (mxE f n) (f n)
/-- the least age of those alive, one higher; 0: none -/
def lstA (a f : Nat → Nat) : Nat → Nat
  | 0 => 0
  | n + 1 => if f n = 0 ∧ (lstA a f n = 0 ∨ a n + 1 < lstA a f n) then a n + 1 else lstA a f n
def sm (f : Nat → Nat) : Nat → Nat
  | 0 => 0
  | n + 1 => sm f n + f n
/-- n days of interest -/
def roll (r : Nat) (x : Nat) : Nat → Nat
  | 0 => x
  | n + 1 => roll r x n + roll r x n * r / 3650000
/-- what is left of an amount behind n drawings -/
def tkR (b : Nat → Nat) (a : Nat) : Nat → Nat
  | 0 => a
  | n + 1 => tkR b a n - b n
def tkP (b : Nat → Nat) (a : Nat) (n : Nat) : Nat := min (tkR b a n) (b n)
def tkB (b : Nat → Nat) (a : Nat) (n : Nat) : Nat → Nat := fun j => if j < n then b j - tkP b a j else b j
def tkT (tp b : Nat → Nat) (a p n : Nat) : Nat → Nat := fun q => if q % 40 = p ∧ q / 40 < n then tkP b a (q / 40) else tp q
def pY (bg : Nat) (pd pt : Nat → Nat) (y : Nat) : Nat → Nat
  | 0 => 0
  | n + 1 => pY bg pd pt y n + (if (pd n - bg) / 365 = y then pt n else 0)
def ceilA (x : Nat) : Nat := (x + 9999) / 10000
theorem alive_le (f : Nat → Nat) : ∀ n, alive f n ≤ n
  | 0 => Nat.le_refl _
  | n + 1 => by have := alive_le f n; simp only [alive]; split <;> omega
theorem alive_s (f : Nat → Nat) (n : Nat) : alive f (n + 1) = alive f n + (if f n = 0 then 1 else 0) := rfl
theorem sm_s (f : Nat → Nat) (n : Nat) : sm f (n + 1) = sm f n + f n := rfl
theorem roll_s (r x n : Nat) : roll r x (n + 1) = roll r x n + roll r x n * r / 3650000 := rfl
theorem sm_le {f : Nat → Nat} {M : Nat} : ∀ n, (∀ i, i < n → f i ≤ M) → sm f n ≤ n * M
  | 0, _ => Nat.zero_le _
  | n + 1, h => by
    have h1 := sm_le n (fun i hi => h i (by omega))
    have h2 := h n (by omega)
    rw [sm_s, Nat.succ_mul]; omega
theorem mxE_le {f : Nat → Nat} {M : Nat} : ∀ n, (∀ j, j < n → f j ≤ M) → mxE f n ≤ M
  | 0, _ => Nat.zero_le _
  | n + 1, h => by
    have h1 := mxE_le n (fun i hi => h i (by omega))
    have h2 := h n (by omega)
    show max (mxE f n) (f n) ≤ M
    omega
theorem mxE_ge {f : Nat → Nat} : ∀ n j, j < n → f j ≤ mxE f n
  | 0, _, h => by omega
  | n + 1, j, h => by
    show f j ≤ max (mxE f n) (f n)
    by_cases q : j = n
    · subst q; omega
    · have := mxE_ge (f := f) n j (by omega); omega
theorem alive_pos {f : Nat → Nat} : ∀ n, alive f n = 0 → ∀ j, j < n → 0 < f j
  | 0, _, _, h => by omega
  | n + 1, h0, j, h => by
    rw [alive_s] at h0
    by_cases q : j = n
    · subst q
      by_cases z : f j = 0
      · rw [if_pos z] at h0; omega
      · omega
    · exact alive_pos n (by omega) j (by omega)
theorem mxE_pos {f : Nat → Nat} {n : Nat} (h : 0 < n) (h0 : alive f n = 0) : 0 < mxE f n := Nat.lt_of_lt_of_le (alive_pos n h0 0 h) (mxE_ge n 0 h)
theorem nk_e1 {L : Nat} (h : 0 < L) : nI L - 1 = nI (L - 1) := by
  rw [show (1 : Int32) = nI 1 from by decide +kernel]; exact pk_sub (by omega)
theorem nk_e2 {L : Nat} : nI (L + 1) - 1 = nI L := nI_pred L
theorem lstA_s (a f : Nat → Nat) (n : Nat) : lstA a f (n + 1) = if f n = 0 ∧ (lstA a f n = 0 ∨ a n + 1 < lstA a f n) then a n + 1 else lstA a f n := rfl
theorem lstA_le {a f : Nat → Nat} : ∀ n, (∀ j, j < n → 55 ≤ a j ∧ a j ≤ 95) → lstA a f n ≤ 96
  | 0, _ => Nat.zero_le _
  | n + 1, h => by
    have h1 := lstA_le (f := f) n (fun i hi => h i (by omega))
    have h2 := h n (by omega)
    rw [lstA_s]; split <;> omega
theorem lstA_pos {a f : Nat → Nat} : ∀ n, 0 < alive f n → 0 < lstA a f n
  | 0, h => by simp [alive] at h
  | n + 1, h => by
    rw [lstA_s]
    by_cases c : f n = 0 ∧ (lstA a f n = 0 ∨ a n + 1 < lstA a f n)
    · rw [if_pos c]; omega
    · rw [if_neg c]
      rw [alive_s] at h
      by_cases z : f n = 0
      · have : ¬ (lstA a f n = 0 ∨ a n + 1 < lstA a f n) := fun q => c ⟨z, q⟩
        omega
      · rw [if_neg z] at h; exact lstA_pos n (by omega)
theorem lstA_ge {a f : Nat → Nat} : ∀ n, (∀ j, j < n → 55 ≤ a j ∧ a j ≤ 95) → 0 < lstA a f n → 56 ≤ lstA a f n
  | 0, _, h => by simp [lstA] at h
  | n + 1, hA, h => by
    have h2 := hA n (by omega)
    rw [lstA_s] at h ⊢
    by_cases c : f n = 0 ∧ (lstA a f n = 0 ∨ a n + 1 < lstA a f n)
    · rw [if_pos c]; omega
    · rw [if_neg c] at h ⊢
      exact lstA_ge n (fun i hi => hA i (by omega)) h
/-- the age that counts on a day, one higher; 0: none -/
def agE (a f : Nat → Nat) (n y : Nat) : Nat := if lstA a f n = 0 then 0 else lstA a f n + y
theorem agE_pos {a f : Nat → Nat} {n y : Nat} (h : 0 < lstA a f n) : agE a f n y = lstA a f n + y := by unfold agE; rw [if_neg (by omega)]
theorem agE_0 {a f : Nat → Nat} {n y : Nat} (h : lstA a f n = 0) : agE a f n y = 0 := by unfold agE; rw [if_pos h]
theorem agE_r {a f : Nat → Nat} {n y : Nat} (h : 0 < lstA a f n) : nI (lstA a f n - 1 + y) = nI (agE a f n y) - 1 := by
  rw [agE_pos h, nk_e1 (by omega)]; congr 1; omega
def gL (w a : Nat) : Nat := w * min 55 (20 + a - 55) / 100
theorem gL_le {w a : Nat} (h : w ≤ 10000000) : gL w a ≤ 5500000 := by
  have h9 : w * min 55 (20 + a - 55) ≤ 10000000 * 55 := Nat.mul_le_mul h (Nat.min_le_left _ _)
  unfold gL; omega
def chg (M d y dr pp a : Nat) : Nat := if 0 < M ∧ d - (M - 1) ≤ 1095 then 0 else (a - (dr / 10 - pp)) * (10 - y) / 100
theorem pY_s (bg : Nat) (pd pt : Nat → Nat) (y n : Nat) : pY bg pd pt y (n + 1) = pY bg pd pt y n + (if (pd n - bg) / 365 = y then pt n else 0) := rfl
theorem pY_le {bg y M : Nat} {pd pt : Nat → Nat} : ∀ n, (∀ i, i < n → pt i ≤ M) → pY bg pd pt y n ≤ n * M
  | 0, _ => Nat.zero_le _
  | n + 1, h => by
    have h1 := pY_le (bg := bg) (y := y) (pd := pd) n (fun i hi => h i (by omega))
    have h2 := h n (by omega)
    rw [pY_s, Nat.succ_mul]; split <;> omega
theorem roll_stop {r x i : Nat} (h : roll r x i * r / 3650000 = 0) : ∀ j, roll r x (i + j) = roll r x i
  | 0 => rfl
  | j + 1 => by
    have h1 := roll_stop h j
    rw [show i + (j + 1) = (i + j) + 1 from rfl, roll_s, h1, h]; rfl
/-- a drawing's balance from its own day on: after n payments, and the day reached -/
def hX (am dd rt pd tp : Nat → Nat) (q : Nat) : Nat → Nat × Nat
  | 0 => (am q * 10000, dd q)
  | n + 1 => if 0 < tp (q * 40 + n) then (roll (rt q) (hX am dd rt pd tp q n).1 (pd n - (hX am dd rt pd tp q n).2) - tp (q * 40 + n), pd n) else hX am dd rt pd tp q n
theorem hX_s (am dd rt pd tp : Nat → Nat) (q n : Nat) : hX am dd rt pd tp q (n + 1) = if 0 < tp (q * 40 + n) then (roll (rt q) (hX am dd rt pd tp q n).1 (pd n - (hX am dd rt pd tp q n).2) - tp (q * 40 + n), pd n) else hX am dd rt pd tp q n := rfl
/-- the day up to which interest counts -/
def dyE (d lc : Nat) (f : Nat → Nat) : Nat := if 0 < lc ∧ alive f lc = 0 then mxE f lc - 1 else d
def anw (am dd rt pd tp : Nat → Nat) (dy pn q : Nat) : Nat := roll (rt q) (hX am dd rt pd tp q pn).1 (dy - (hX am dd rt pd tp q pn).2)
theorem tkR_s (b : Nat → Nat) (a n : Nat) : tkR b a (n + 1) = tkR b a n - b n := rfl
theorem tkR_le (b : Nat → Nat) (a : Nat) : ∀ n, tkR b a n ≤ a
  | 0 => Nat.le_refl _
  | n + 1 => by have := tkR_le b a n; rw [tkR_s]; omega
theorem tkB_self (b : Nat → Nat) (a i : Nat) : tkB b a i i = b i := by simp [tkB]
theorem tkB_s (b : Nat → Nat) (a i : Nat) : va_up (tkB b a i) i (b i - min (tkR b a i) (b i)) = tkB b a (i + 1) := by
  funext j
  by_cases h : j = i
  · subst h; simp [va_up, tkB, tkP]
  · by_cases h2 : j < i
    · simp only [va_up, tkB, if_neg h, if_pos h2, if_pos (show j < i + 1 by omega)]
    · simp only [va_up, tkB, if_neg h, if_neg h2, if_neg (show ¬ j < i + 1 by omega)]
theorem tkB_0 (b : Nat → Nat) (a : Nat) : tkB b a 0 = b := by funext j; simp [tkB]
theorem tkT_0 (tp b : Nat → Nat) (a p : Nat) : tkT tp b a p 0 = tp := by funext j; simp [tkT]
theorem tkT_s (tp b : Nat → Nat) (a p i : Nat) (hp : p < 40) : va_up (tkT tp b a p i) (i * 40 + p) (min (tkR b a i) (b i)) = tkT tp b a p (i + 1) := by
  funext j
  by_cases h : j = i * 40 + p
  · have h1 : j % 40 = p := by omega
    have h2 : j / 40 = i := by omega
    simp only [va_up, tkT, if_pos h, h2]
    rw [if_pos ⟨h1, by omega⟩]; rfl
  · simp only [va_up, tkT, if_neg h]
    by_cases h2 : j % 40 = p ∧ j / 40 < i
    · rw [if_pos h2, if_pos ⟨h2.1, by omega⟩]
    · rw [if_neg h2, if_neg (fun q => by
        obtain ⟨q1, q2⟩ := q
        by_cases h3 : j / 40 = i
        · omega
        · exact h2 ⟨q1, by omega⟩)]
/-- n days of interest for the first i drawings -/
def rlB (rt b : Nat → Nat) (n i : Nat) : Nat → Nat := fun j => if j < i then roll (rt j) (b j) n else b j
theorem rlB_0 (rt b : Nat → Nat) (n : Nat) : rlB rt b n 0 = b := by funext j; simp [rlB]
theorem rlB_self (rt b : Nat → Nat) (n i : Nat) : rlB rt b n i i = b i := by simp [rlB]
theorem rlB_s (rt b : Nat → Nat) (n i : Nat) : va_up (rlB rt b n i) i (roll (rt i) (b i) n) = rlB rt b n (i + 1) := by
  funext j
  by_cases h : j = i
  · subst h; simp [va_up, rlB]
  · by_cases h2 : j < i
    · simp only [va_up, rlB, if_neg h, if_pos h2, if_pos (show j < i + 1 by omega)]
    · simp only [va_up, rlB, if_neg h, if_neg h2, if_neg (show ¬ j < i + 1 by omega)]
theorem sm_mono {f g : Nat → Nat} : ∀ n, (∀ j, j < n → f j ≤ g j) → sm f n ≤ sm g n
  | 0, _ => Nat.le_refl _
  | n + 1, h => by
    have h1 := sm_mono n (fun i hi => h i (by omega))
    have h2 := h n (by omega)
    rw [sm_s, sm_s]; omega
theorem tkB_le (b : Nat → Nat) (a n j : Nat) : tkB b a n j ≤ b j := by
  unfold tkB; split
  · exact Nat.sub_le _ _
  · exact Nat.le_refl _
end
section
set_option maxHeartbeats 4000000 in
set_option maxRecDepth 100000 in
theorem c_X0_isBegun (l : Launch) (D : va_G) (h0 h1 h2 h3 h4 h5 h6 h7 h8 h9 : Nat) (cI cJ : ClassId) (d r lc bg w rm k pn : Nat) (fa e1 am dd rt b pd pt tp : Nat → Nat)  (hlc : lc ≤ 2) : Met l yX0_isBegun wsX0_isBegun { frames := 0, cells := 0, slots := 0, locals := 0 } (nk_Pr D (wX h0 h1 h2 h3 h4 h5 h6 h7 h8 h9 cI cJ d r lc bg w rm k pn fa e1 am dd rt b pd pt tp) (tX cI cJ) [.ref h0]) (nk_Rd (some (.int (nI (if 0 < lc then 1 else 0))))) 0 0 (fun _ => False) := by
  refine Met.ofW (cc := cX0_isBegun) (maxL := 1) (ret := (some .boolean)) (by decide) rfl ?_
  intro p e s m args below meth c s₁ B hml hv
  obtain ⟨hargs, hP, hK⟩ := hv
  have hx := B.exec
  have hb := B.bytes
  have hr := B.returns
  have hts := atoms_spec (ws := wsX0_isBegun) B.pre
  have hown : s.vm.findClass RX0 = some m.cls := findClass_of_methodNamed B.named
  have hlocks := B.notSynchronized
  have hin : ∀ w ∈ wsX00, w ∈ wsX0_isBegun := by decide +kernel
  have f120 := hts (.fieldLink RX0 120 "EquityRelease" "lifeCount" "I") (by decide +kernel)
  have hl := lv_entry ([.ref h0]) (n := 1) (Nat.le_of_ble_eq_true rfl)
  have hEe : entryFrame m args 1 = entryFrame m ([.ref h0] : List Value).toArray 1 := by rw [hargs]
  rw [hEe, lg_entry_eq]
  generalize (lg_sl ([.ref h0]) ++ List.replicate (1 - (lg_sl ([.ref h0])).length) Slot.unset).toArray = ls at hl ⊢
  have hl : lv_has ls 1 [(0, .ref h0)] := hl
  refine lv_aload_n hx hb dX0_isBegun_0 rfl (lv_at hl 0 rfl) ?_
  refine va_get (D := D) (ci := 0) (v := .int (nI lc)) (C := RX0) (T := TX0) (N := 17) hx hb hts hin hown hK hP 0 rfl rfl 2 (by decide) f120 (fun _ h9 => h9) rfl dX0_isBegun_1 ?_
  refine nk_if_le (tgt := 11) hx hb (by omega) dX0_isBegun_4 (by decide) (fun c4 => ?_) (fun c4 => ?_)
  · refine lv_iconst (v := nI 0) hx hb dX0_isBegun_11 (by decide +kernel) ?_
    exact W.zret (ty := .boolean) hx hb hr rfl (fun t ht hW => ⟨by rw [if_neg (by omega)], ht⟩) (fun z h => nomatch h) dX0_isBegun_12
  · refine lv_iconst (v := nI 1) hx hb dX0_isBegun_7 (by decide +kernel) ?_
    refine lv_goto (tgt := 12) hx hb dX0_isBegun_8 (by decide) ?_
    exact W.zret (ty := .boolean) hx hb hr rfl (fun t ht hW => ⟨by rw [if_pos c4], ht⟩) (fun z h => nomatch h) dX0_isBegun_12
set_option maxHeartbeats 4000000 in
set_option maxRecDepth 100000 in
theorem c_X0_livesLeft (l : Launch) (D : va_G) (h0 h1 h2 h3 h4 h5 h6 h7 h8 h9 : Nat) (cI cJ : ClassId) (d r lc bg w rm k pn : Nat) (fa e1 am dd rt b pd pt tp : Nat → Nat)  (hlc : lc ≤ 2) (he : ∀ j, j < lc → e1 j ≤ 15001) : Met l yX0_livesLeft wsX0_livesLeft { frames := 0, cells := 0, slots := 0, locals := 0 } (nk_Pr D (wX h0 h1 h2 h3 h4 h5 h6 h7 h8 h9 cI cJ d r lc bg w rm k pn fa e1 am dd rt b pd pt tp) (tX cI cJ) [.ref h0]) (nk_Rd (some (.int (nI (alive e1 lc))))) 0 0 (fun _ => False) := by
  refine Met.ofW (cc := cX0_livesLeft) (maxL := 3) (ret := (some .int)) (by decide) rfl ?_
  intro p e s m args below meth c s₁ B hml hv
  obtain ⟨hargs, hP, hK⟩ := hv
  have hx := B.exec
  have hb := B.bytes
  have hr := B.returns
  have hts := atoms_spec (ws := wsX0_livesLeft) B.pre
  have hown : s.vm.findClass RX0 = some m.cls := findClass_of_methodNamed B.named
  have hlocks := B.notSynchronized
  have hin : ∀ w ∈ wsX00, w ∈ wsX0_livesLeft := by decide +kernel
  have f120 := hts (.fieldLink RX0 120 "EquityRelease" "lifeCount" "I") (by decide +kernel)
  have f17 := hts (.fieldLink RX0 17 "EquityRelease" "endDays" "[I") (by decide +kernel)
  have hl := lv_entry ([.ref h0]) (n := 3) (Nat.le_of_ble_eq_true rfl)
  have hEe : entryFrame m args 3 = entryFrame m ([.ref h0] : List Value).toArray 3 := by rw [hargs]
  rw [hEe, lg_entry_eq]
  generalize (lg_sl ([.ref h0]) ++ List.replicate (3 - (lg_sl ([.ref h0])).length) Slot.unset).toArray = ls at hl ⊢
  have hl : lv_has ls 3 [(0, .ref h0)] := hl
  refine lv_iconst (v := nI 0) hx hb dX0_livesLeft_0 (by decide +kernel) ?_
  refine lv_istore_n (lv' := [(1, .int (nI 0)), (0, .ref h0)]) hx hb dX0_livesLeft_1 rfl hl (by decide) rfl (fun ls hl => ?_)
  refine lv_iconst (v := nI 0) hx hb dX0_livesLeft_2 (by decide +kernel) ?_
  refine lv_istore_n (lv' := [(2, .int (nI 0)), (1, .int (nI 0)), (0, .ref h0)]) hx hb dX0_livesLeft_3 rfl hl (by decide) rfl (fun ls hl => ?_)
  have loop4 : ∀ (n : Nat) (i : Nat), (i ≤ lc) → lc + 1 ≤ i + n → ∀ ls : Array Slot, lv_has ls 3 [(0, .ref h0), (1, .int (nI (alive e1 i))), (2, .int (nI i))] → W p l e (headSpec wsX0_livesLeft { frames := 0, cells := 0, slots := 0, locals := 0 }).room s m args below meth c s.heap [] 0 0 (MQ below (nk_Rd (some (.int (nI (alive e1 lc))))) args s 0 0 (fun _ => False)) (F0 m 4 ls []) := by
    intro n
    induction n with
    | zero =>
      intro i hi hm
      exfalso; omega
    | succ n ih4 =>
      intro i hi hm ls hl
      refine lv_iload_n hx hb dX0_livesLeft_4 rfl (lv_at hl 2 rfl) ?_
      refine lv_aload_n hx hb dX0_livesLeft_5 rfl (lv_at hl 0 rfl) ?_
      refine va_get (D := D) (ci := 0) (v := .int (nI lc)) (C := RX0) (T := TX0) (N := 17) hx hb hts hin hown hK hP 0 rfl rfl 2 (by decide) f120 (fun _ h9 => h9) rfl dX0_livesLeft_6 ?_
      refine nk_icmp_ge (tgt := 31) hx hb (by omega) (by omega) dX0_livesLeft_9 (by decide) (fun c9 => ?_) (fun c9 => ?_)
      · refine lv_iload_n hx hb dX0_livesLeft_31 rfl (lv_at hl 1 rfl) ?_
        refine nk_topi (y := (nI (alive e1 lc))) (by rw [show i = lc from by omega]) ?_
        exact W.iret hx hb hr (fun t ht hW => ⟨rfl, ht⟩) (fun z h => nomatch h) dX0_livesLeft_32
      · refine lv_aload_n hx hb dX0_livesLeft_12 rfl (lv_at hl 0 rfl) ?_
        refine va_get (D := D) (ci := 0) (v := .ref h2) (C := RX0) (T := TX0) (N := 17) hx hb hts hin hown hK hP 0 rfl rfl 4 (by decide) f17 (fun _ h9 => h9) rfl dX0_livesLeft_13 ?_
        refine lv_iload_n hx hb dX0_livesLeft_16 rfl (lv_at hl 2 rfl) ?_
        refine nk_eald hx hb hK hP 2 0 rfl rfl (by omega) (by decide) dX0_livesLeft_17 ?_
        refine lv_iconst (v := -1) hx hb dX0_livesLeft_18 (by decide) ?_
        have he1 := he i (by omega)
        refine nk_ecmp_ne (tgt := 25) hx hb (by omega) dX0_livesLeft_19 (by decide) (fun c19 => ?_) (fun c19 => ?_)
        · refine lv_iinc (v := (nI (i + 1))) (lv' := [(2, .int (nI (i + 1))), (0, .ref h0), (1, .int (nI (alive e1 i)))]) hx hb dX0_livesLeft_25 hl (k := 2) rfl (nI_1 _) (by decide) rfl (fun ls hl => ?_)
          refine lv_goto (tgt := 4) hx hb dX0_livesLeft_28 (by decide) ?_
          have q9 : ((nI (alive e1 (i + 1)))) = ((nI (alive e1 i))) := (by rw [alive_s, if_neg (by omega), Nat.add_zero])
          have hl : lv_has ls 3 [(0, .ref h0), (1, .int (nI (alive e1 (i + 1)))), (2, .int (nI (i + 1)))] := by
            rw [q9]
            exact lv_sub hl [1, 2, 0] rfl
          exact ih4 (i + 1) (by omega) (by omega) ls hl
        · refine lv_iinc (v := (nI (alive e1 i + 1))) (lv' := [(1, .int (nI (alive e1 i + 1))), (0, .ref h0), (2, .int (nI i))]) hx hb dX0_livesLeft_22 hl (k := 1) rfl (nI_1 _) (by decide) rfl (fun ls hl => ?_)
          refine lv_iinc (v := (nI (i + 1))) (lv' := [(2, .int (nI (i + 1))), (1, .int (nI (alive e1 i + 1))), (0, .ref h0)]) hx hb dX0_livesLeft_25 hl (k := 2) rfl (nI_1 _) (by decide) rfl (fun ls hl => ?_)
          refine lv_goto (tgt := 4) hx hb dX0_livesLeft_28 (by decide) ?_
          have q9 : ((nI (alive e1 (i + 1)))) = ((nI (alive e1 i + 1))) := (by rw [alive_s, if_pos c19])
          have hl : lv_has ls 3 [(0, .ref h0), (1, .int (nI (alive e1 (i + 1)))), (2, .int (nI (i + 1)))] := by
            rw [q9]
            exact lv_sub hl [2, 1, 0] rfl
          exact ih4 (i + 1) (by omega) (by omega) ls hl
  exact loop4 (lc + 1) 0 (by omega) (by omega) ls (lv_sub hl [2, 1, 0] rfl)
set_option maxHeartbeats 4000000 in
set_option maxRecDepth 100000 in
theorem c_X0_hasEnded (l : Launch) (D : va_G) (h0 h1 h2 h3 h4 h5 h6 h7 h8 h9 : Nat) (cI cJ : ClassId) (d r lc bg w rm k pn : Nat) (fa e1 am dd rt b pd pt tp : Nat → Nat)  (hlc : lc ≤ 2) (he : ∀ j, j < lc → e1 j ≤ 15001) : Met l yX0_hasEnded wsX0_hasEnded { frames := 1, cells := 0, slots := 0, locals := 22 } (nk_Pr D (wX h0 h1 h2 h3 h4 h5 h6 h7 h8 h9 cI cJ d r lc bg w rm k pn fa e1 am dd rt b pd pt tp) (tX cI cJ) [.ref h0]) (nk_Rd (some (.int (nI (if 0 < lc ∧ alive e1 lc = 0 then 1 else 0))))) 0 0 (fun _ => False) := by
  refine Met.ofW (cc := cX0_hasEnded) (maxL := 1) (ret := (some .boolean)) (by decide) rfl ?_
  intro p e s m args below meth c s₁ B hml hv
  obtain ⟨hargs, hP, hK⟩ := hv
  have hx := B.exec
  have hb := B.bytes
  have hr := B.returns
  have hts := atoms_spec (ws := wsX0_hasEnded) B.pre
  have hown : s.vm.findClass RX0 = some m.cls := findClass_of_methodNamed B.named
  have hlocks := B.notSynchronized
  have hin : ∀ w ∈ wsX00, w ∈ wsX0_hasEnded := by decide +kernel
  have hl := lv_entry ([.ref h0]) (n := 1) (Nat.le_of_ble_eq_true rfl)
  have hEe : entryFrame m args 1 = entryFrame m ([.ref h0] : List Value).toArray 1 := by rw [hargs]
  rw [hEe, lg_entry_eq]
  generalize (lg_sl ([.ref h0]) ++ List.replicate (1 - (lg_sl ([.ref h0])).length) Slot.unset).toArray = ls at hl ⊢
  have hl : lv_has ls 1 [(0, .ref h0)] := hl
  refine lv_aload_n hx hb dX0_hasEnded_0 rfl (lv_at hl 0 rfl) ?_
  refine nk_rd (W.runV (As := []) (rest := []) ⟨hx, hb, hml, hown, hts⟩ (c_X0_isBegun l D h0 h1 h2 h3 h4 h5 h6 h7 h8 h9 cI cJ d r lc bg w rm k pn fa e1 am dd rt b pd pt tp hlc) (cwV 0 hts gX0_hasEnded_X0_isBegun rfl rfl rfl (by decide +kernel) ⟨Nat.le_of_ble_eq_true rfl, Nat.le_of_ble_eq_true rfl⟩) ⟨nk_Pr.blind, va_recv hK hP (ci := 0) (q0 := 0) rfl rfl, fun U hU hW => ⟨rfl, by rw [hU]; exact hP, va_K.moved hW.alike hK⟩⟩ rfl rfl hl.1 rfl (lv_room (Nat.le_of_ble_eq_true rfl)) dX0_hasEnded_1 ⟨Nat.zero_le _, Nat.zero_le _⟩) ?_
  refine W.eq (g2 := F0 m 4 ls [.int (nI (if 0 < lc then 1 else 0))]) rfl ?_
  refine nk_bif_eq (tgt := 18) hx hb dX0_hasEnded_4 (by decide) (fun c4 => ?_) (fun c4 => ?_)
  · refine lv_iconst (v := nI 0) hx hb dX0_hasEnded_18 (by decide +kernel) ?_
    exact W.zret (ty := .boolean) hx hb hr rfl (fun t ht hW => ⟨by rw [if_neg (by omega)], ht⟩) (fun z h => nomatch h) dX0_hasEnded_19
  · refine lv_aload_n hx hb dX0_hasEnded_7 rfl (lv_at hl 0 rfl) ?_
    refine nk_rd (W.runV (As := []) (rest := []) ⟨hx, hb, hml, hown, hts⟩ (c_X0_livesLeft l D h0 h1 h2 h3 h4 h5 h6 h7 h8 h9 cI cJ d r lc bg w rm k pn fa e1 am dd rt b pd pt tp hlc he) (cwV 0 hts gX0_hasEnded_X0_livesLeft rfl rfl rfl (by decide +kernel) ⟨Nat.le_of_ble_eq_true rfl, Nat.le_of_ble_eq_true rfl⟩) ⟨nk_Pr.blind, va_recv hK hP (ci := 0) (q0 := 0) rfl rfl, fun U hU hW => ⟨rfl, by rw [hU]; exact hP, va_K.moved hW.alike hK⟩⟩ rfl rfl hl.1 rfl (lv_room (Nat.le_of_ble_eq_true rfl)) dX0_hasEnded_8 ⟨Nat.zero_le _, Nat.zero_le _⟩) ?_
    refine W.eq (g2 := F0 m 11 ls [.int (nI (alive e1 lc))]) rfl ?_
    have hal := alive_le e1 lc
    refine nk_if_ne (tgt := 18) hx hb (by omega) dX0_hasEnded_11 (by decide) (fun c11 => ?_) (fun c11 => ?_)
    · refine lv_iconst (v := nI 0) hx hb dX0_hasEnded_18 (by decide +kernel) ?_
      exact W.zret (ty := .boolean) hx hb hr rfl (fun t ht hW => ⟨by rw [if_neg (by omega)], ht⟩) (fun z h => nomatch h) dX0_hasEnded_19
    · refine lv_iconst (v := nI 1) hx hb dX0_hasEnded_14 (by decide +kernel) ?_
      refine lv_goto (tgt := 19) hx hb dX0_hasEnded_15 (by decide) ?_
      exact W.zret (ty := .boolean) hx hb hr rfl (fun t ht hW => ⟨by rw [if_pos ⟨c4, c11⟩], ht⟩) (fun z h => nomatch h) dX0_hasEnded_19
set_option maxHeartbeats 4000000 in
set_option maxRecDepth 100000 in
theorem c_X0_requireWithin (l : Launch) (hfl : l.stackTraces = false) (sz : Nat) (x : Int32) (z : Int) (lo hi : Nat) (hz : x.toInt = z) (hlo : lo < 1000000000) (hhi : hi < 1000000000) : vx_Met l yX0_requireWithin wsX0_requireWithin { frames := 6, cells := 1, slots := 6, locals := 92 } (nk_Ps sz [.int x, .int (nI lo), .int (nI hi)]) (nk_RdP none ((lo : Int) ≤ z ∧ z ≤ (hi : Int))) (nk_XC (fun E => E = RIA ∧ (z < (lo : Int) ∨ (hi : Int) < z)) sz) 1 6 (fun _ => False) := by
  refine vx_ofW (cc := cX0_requireWithin) (maxL := 3) (ret := none) (by decide) rfl ?_
  intro p e s m args below meth c s₁ B hml htab hv
  obtain ⟨hargs, hsz, hZ⟩ := hv
  have hx := B.exec
  have hb := B.bytes
  have hr := B.returns
  have hts := atoms_spec (ws := wsX0_requireWithin) B.pre
  have hown : s.vm.findClass RX0 = some m.cls := findClass_of_methodNamed B.named
  have hlocks := B.notSynchronized
  subst hsz
  have hA : ∀ q : Nat, s.heap.size ≤ q → (fun q => s.heap.size ≤ q) q := fun q h => h
  have hS : va_S (fun q => s.heap.size ≤ q) s.heap s.heap [] := va_S.rf
  have hSz : va_S ((fun q => s.heap.size ≤ q)) s.heap s.heap [] := va_S.rf
  obtain ⟨fx, hr65, hr92, hr101, hr111, hr125, hr128, hr134, hr136, hr145, hr167, hr170⟩ := hZ.2.2.2
  have a169 : ∀ w ∈ vx_atS RX0 169 RIA ["java/lang/RuntimeException", "java/lang/Exception"], w.before args s = true := vx_hat (B := [.castable RIA RIA, .declares (Bundle.initS "java/lang/RuntimeException"), .declares (Bundle.initS "java/lang/Exception"), .declares (Bundle.initS Bundle.tN)]) (fun w h => hts w ((by decide +kernel : ∀ w ∈ (vx_atS RX0 169 RIA ["java/lang/RuntimeException", "java/lang/Exception"]).filter goodWord, w ∈ wsX0_requireWithin) w h)) (by decide +kernel) (vx_c (va_Nw.use (A := args) rfl hZ.2.1.1) (vx_c (va_Nw.use (A := args) rfl hZ.2.2.1.1) (vx_c (va_Nw.use (A := args) rfl hZ.2.2.1.2.1) (vx_c (va_Nw.use (A := args) rfl hZ.2.2.1.2.2) vx_n))))
  have hl := lv_entry ([.int x, .int (nI lo), .int (nI hi)]) (n := 3) (Nat.le_of_ble_eq_true rfl)
  have hEe : entryFrame m args 3 = entryFrame m ([.int x, .int (nI lo), .int (nI hi)] : List Value).toArray 3 := by rw [hargs]
  rw [hEe, lg_entry_eq]
  generalize (lg_sl ([.int x, .int (nI lo), .int (nI hi)]) ++ List.replicate (3 - (lg_sl ([.int x, .int (nI lo), .int (nI hi)])).length) Slot.unset).toArray = ls at hl ⊢
  have hl : lv_has ls 3 [(0, .int x), (1, .int (nI lo)), (2, .int (nI hi))] := hl
  refine lv_iload_n hx hb dX0_requireWithin_0 rfl (lv_at hl 0 rfl) ?_
  refine lv_iload_n hx hb dX0_requireWithin_1 rfl (lv_at hl 1 rfl) ?_
  refine nk_zcmp_lt (tgt := 10) hx hb hz (nI_toInt (by omega)) dX0_requireWithin_2 (by decide) (fun c2 => ?_) (fun c2 => ?_)
  · exact vx_throwS (own := RX0) (cls := RIA) (names := ["java/lang/RuntimeException", "java/lang/Exception"]) (ik := 165) (is := 167) (ic := 169) (A := (fun q => s.heap.size ≤ q)) hx hb hfl hown (by decide +kernel) (by decide +kernel) (hts (.classLink RX0 165 RIA) (by decide +kernel)) (hts (.initialized RIA) (by decide +kernel)) hr167 a169 (by decide +kernel) hZ.1.1 hZ.1.2 hSz (hl.1.trans hml.symm) dX0_requireWithin_10 dX0_requireWithin_13 dX0_requireWithin_14 dX0_requireWithin_16 dX0_requireWithin_19 (fun x h => (htab x h).elim) (Nat.le_of_ble_eq_true rfl) (Nat.le_of_ble_eq_true rfl) (Nat.le_of_ble_eq_true rfl) (Nat.le_of_ble_eq_true rfl) hlocks (fun t hvm hsz9 hk9 => ⟨(), trivial, ⟨rfl, by omega⟩, hsz9, fun q h1 _ => hk9 q h1⟩) (fun z h => nomatch h) (Nat.le_of_ble_eq_true rfl) (Nat.le_of_ble_eq_true rfl)
  · refine lv_iload_n hx hb dX0_requireWithin_5 rfl (lv_at hl 0 rfl) ?_
    refine lv_iload_n hx hb dX0_requireWithin_6 rfl (lv_at hl 2 rfl) ?_
    refine nk_zcmp_le (tgt := 20) hx hb hz (nI_toInt (by omega)) dX0_requireWithin_7 (by decide) (fun c7 => ?_) (fun c7 => ?_)
    · refine vx_ret ?_
      refine W.widen (k := 1) (n := 6) (by decide) (by decide) ?_
      exact W.vret hx hb hr (fun t ht hW => ⟨rfl, ⟨by omega, by omega⟩, ht⟩) (fun z h => nomatch h) dX0_requireWithin_20
    · exact vx_throwS (own := RX0) (cls := RIA) (names := ["java/lang/RuntimeException", "java/lang/Exception"]) (ik := 165) (is := 167) (ic := 169) (A := (fun q => s.heap.size ≤ q)) hx hb hfl hown (by decide +kernel) (by decide +kernel) (hts (.classLink RX0 165 RIA) (by decide +kernel)) (hts (.initialized RIA) (by decide +kernel)) hr167 a169 (by decide +kernel) hZ.1.1 hZ.1.2 hSz (hl.1.trans hml.symm) dX0_requireWithin_10 dX0_requireWithin_13 dX0_requireWithin_14 dX0_requireWithin_16 dX0_requireWithin_19 (fun x h => (htab x h).elim) (Nat.le_of_ble_eq_true rfl) (Nat.le_of_ble_eq_true rfl) (Nat.le_of_ble_eq_true rfl) (Nat.le_of_ble_eq_true rfl) hlocks (fun t hvm hsz9 hk9 => ⟨(), trivial, ⟨rfl, by omega⟩, hsz9, fun q h1 _ => hk9 q h1⟩) (fun z h => nomatch h) (Nat.le_of_ble_eq_true rfl) (Nat.le_of_ble_eq_true rfl)
set_option maxHeartbeats 4000000 in
set_option maxRecDepth 100000 in
theorem c_X0_requireRunning (l : Launch) (hfl : l.stackTraces = false) (D : va_G) (h0 h1 h2 h3 h4 h5 h6 h7 h8 h9 : Nat) (cI cJ : ClassId) (d r lc bg w rm k pn : Nat) (fa e1 am dd rt b pd pt tp : Nat → Nat) (sz : Nat)  (hlc : lc ≤ 2) (he : ∀ j, j < lc → e1 j ≤ 15001) : vx_Met l yX0_requireRunning wsX0_requireRunning { frames := 6, cells := 1, slots := 6, locals := 92 } (nk_Px D (wX h0 h1 h2 h3 h4 h5 h6 h7 h8 h9 cI cJ d r lc bg w rm k pn fa e1 am dd rt b pd pt tp) (tX cI cJ) sz [.ref h0]) (nk_RdP none (0 < lc ∧ 0 < alive e1 lc)) (nk_XC (fun E => E = RIS ∧ ¬ (0 < lc ∧ 0 < alive e1 lc)) sz) 1 6 (fun _ => False) := by
  refine vx_ofW (cc := cX0_requireRunning) (maxL := 1) (ret := none) (by decide) rfl ?_
  intro p e s m args below meth c s₁ B hml htab hv
  obtain ⟨hargs, hsz, hP, hK, hD0, hZ⟩ := hv
  have hx := B.exec
  have hb := B.bytes
  have hr := B.returns
  have hts := atoms_spec (ws := wsX0_requireRunning) B.pre
  have hown : s.vm.findClass RX0 = some m.cls := findClass_of_methodNamed B.named
  have hlocks := B.notSynchronized
  subst hsz
  have hin : ∀ w ∈ wsX00, w ∈ wsX0_requireRunning := by decide +kernel
  have hD := hD0.self (sz := s.heap.size)
  have hA : ∀ q : Nat, s.heap.size ≤ q → (fun q => s.heap.size ≤ q) q := fun q h => h
  have hS : va_S (fun q => s.heap.size ≤ q) s.heap s.heap [] := va_S.rf
  have hSz : va_S (va_A (wX h0 h1 h2 h3 h4 h5 h6 h7 h8 h9 cI cJ d r lc bg w rm k pn fa e1 am dd rt b pd pt tp) s.heap.size) s.heap s.heap [] := va_S.rf
  obtain ⟨fx, hr65, hr92, hr101, hr111, hr125, hr128, hr134, hr136, hr145, hr167, hr170⟩ := hZ.2.2.2
  have a67 : ∀ w ∈ vx_atS RX0 67 RIS ["java/lang/RuntimeException", "java/lang/Exception"], w.before args s = true := vx_hat (B := [.castable RIS RIS, .declares (Bundle.initS "java/lang/RuntimeException"), .declares (Bundle.initS "java/lang/Exception"), .declares (Bundle.initS Bundle.tN)]) (fun w h => hts w ((by decide +kernel : ∀ w ∈ (vx_atS RX0 67 RIS ["java/lang/RuntimeException", "java/lang/Exception"]).filter goodWord, w ∈ wsX0_requireRunning) w h)) (by decide +kernel) (vx_c (va_Nw.use (A := args) rfl hZ.2.1.2.1) (vx_c (va_Nw.use (A := args) rfl hZ.2.2.1.1) (vx_c (va_Nw.use (A := args) rfl hZ.2.2.1.2.1) (vx_c (va_Nw.use (A := args) rfl hZ.2.2.1.2.2) vx_n))))
  have hl := lv_entry ([.ref h0]) (n := 1) (Nat.le_of_ble_eq_true rfl)
  have hEe : entryFrame m args 1 = entryFrame m ([.ref h0] : List Value).toArray 1 := by rw [hargs]
  rw [hEe, lg_entry_eq]
  generalize (lg_sl ([.ref h0]) ++ List.replicate (1 - (lg_sl ([.ref h0])).length) Slot.unset).toArray = ls at hl ⊢
  have hl : lv_has ls 1 [(0, .ref h0)] := hl
  refine lv_aload_n hx hb dX0_requireRunning_0 rfl (lv_at hl 0 rfl) ?_
  refine nk_rd (W.runV (As := []) (rest := []) ⟨hx, hb, hml, hown, hts⟩ (c_X0_isBegun l D h0 h1 h2 h3 h4 h5 h6 h7 h8 h9 cI cJ d r lc bg w rm k pn fa e1 am dd rt b pd pt tp hlc) (cwV 0 hts gX0_requireRunning_X0_isBegun rfl rfl rfl (by decide +kernel) ⟨Nat.le_of_ble_eq_true rfl, Nat.le_of_ble_eq_true rfl⟩) ⟨nk_Pr.blind, va_recv hK hP (ci := 0) (q0 := 0) rfl rfl, fun U hU hW => ⟨rfl, by rw [hU]; exact hP, va_K.moved hW.alike hK⟩⟩ rfl rfl hl.1 rfl (lv_room (Nat.le_of_ble_eq_true rfl)) dX0_requireRunning_1 ⟨Nat.zero_le _, Nat.zero_le _⟩) ?_
  refine W.eq (g2 := F0 m 4 ls [.int (nI (if 0 < lc then 1 else 0))]) rfl ?_
  refine nk_bif_eq (tgt := 14) hx hb dX0_requireRunning_4 (by decide) (fun c4 => ?_) (fun c4 => ?_)
  · exact vx_throwS (own := RX0) (cls := RIS) (names := ["java/lang/RuntimeException", "java/lang/Exception"]) (ik := 63) (is := 170) (ic := 67) (A := va_A (wX h0 h1 h2 h3 h4 h5 h6 h7 h8 h9 cI cJ d r lc bg w rm k pn fa e1 am dd rt b pd pt tp) s.heap.size) hx hb hfl hown (by decide +kernel) (by decide +kernel) (hts (.classLink RX0 63 RIS) (by decide +kernel)) (hts (.initialized RIS) (by decide +kernel)) hr170 a67 (by decide +kernel) hZ.1.1 hZ.1.2 hSz (hl.1.trans hml.symm) dX0_requireRunning_14 dX0_requireRunning_17 dX0_requireRunning_18 dX0_requireRunning_20 dX0_requireRunning_23 (fun x h => (htab x h).elim) (Nat.le_of_ble_eq_true rfl) (Nat.le_of_ble_eq_true rfl) (Nat.le_of_ble_eq_true rfl) (Nat.le_of_ble_eq_true rfl) hlocks (fun t hvm hsz9 hk9 => ⟨(), trivial, ⟨rfl, by omega⟩, hsz9, fun q h1 _ => hk9 q h1⟩) (fun z h => nomatch h) (Nat.le_of_ble_eq_true rfl) (Nat.le_of_ble_eq_true rfl)
  · refine lv_aload_n hx hb dX0_requireRunning_7 rfl (lv_at hl 0 rfl) ?_
    refine nk_rd (W.runV (As := []) (rest := []) ⟨hx, hb, hml, hown, hts⟩ (c_X0_hasEnded l D h0 h1 h2 h3 h4 h5 h6 h7 h8 h9 cI cJ d r lc bg w rm k pn fa e1 am dd rt b pd pt tp hlc he) (cwV 0 hts gX0_requireRunning_X0_hasEnded rfl rfl rfl (by decide +kernel) ⟨Nat.le_of_ble_eq_true rfl, Nat.le_of_ble_eq_true rfl⟩) ⟨nk_Pr.blind, va_recv hK hP (ci := 0) (q0 := 0) rfl rfl, fun U hU hW => ⟨rfl, by rw [hU]; exact hP, va_K.moved hW.alike hK⟩⟩ rfl rfl hl.1 rfl (lv_room (Nat.le_of_ble_eq_true rfl)) dX0_requireRunning_8 ⟨Nat.zero_le _, Nat.zero_le _⟩) ?_
    refine W.eq (g2 := F0 m 11 ls [.int (nI (if 0 < lc ∧ alive e1 lc = 0 then 1 else 0))]) rfl ?_
    refine nk_bif_eq (tgt := 24) hx hb dX0_requireRunning_11 (by decide) (fun c11 => ?_) (fun c11 => ?_)
    · refine vx_ret ?_
      refine W.widen (k := 1) (n := 6) (by decide) (by decide) ?_
      exact W.vret hx hb hr (fun t ht hW => ⟨rfl, ⟨c4, by omega⟩, ht⟩) (fun z h => nomatch h) dX0_requireRunning_24
    · exact vx_throwS (own := RX0) (cls := RIS) (names := ["java/lang/RuntimeException", "java/lang/Exception"]) (ik := 63) (is := 170) (ic := 67) (A := va_A (wX h0 h1 h2 h3 h4 h5 h6 h7 h8 h9 cI cJ d r lc bg w rm k pn fa e1 am dd rt b pd pt tp) s.heap.size) hx hb hfl hown (by decide +kernel) (by decide +kernel) (hts (.classLink RX0 63 RIS) (by decide +kernel)) (hts (.initialized RIS) (by decide +kernel)) hr170 a67 (by decide +kernel) hZ.1.1 hZ.1.2 hSz (hl.1.trans hml.symm) dX0_requireRunning_14 dX0_requireRunning_17 dX0_requireRunning_18 dX0_requireRunning_20 dX0_requireRunning_23 (fun x h => (htab x h).elim) (Nat.le_of_ble_eq_true rfl) (Nat.le_of_ble_eq_true rfl) (Nat.le_of_ble_eq_true rfl) (Nat.le_of_ble_eq_true rfl) hlocks (fun t hvm hsz9 hk9 => ⟨(), trivial, ⟨rfl, by omega⟩, hsz9, fun q h1 _ => hk9 q h1⟩) (fun z h => nomatch h) (Nat.le_of_ble_eq_true rfl) (Nat.le_of_ble_eq_true rfl)
set_option maxHeartbeats 4000000 in
set_option maxRecDepth 100000 in
theorem c_X0_lastEndDay (l : Launch) (D : va_G) (h0 h1 h2 h3 h4 h5 h6 h7 h8 h9 : Nat) (cI cJ : ClassId) (d r lc bg w rm k pn : Nat) (fa e1 am dd rt b pd pt tp : Nat → Nat)  (hlc : lc ≤ 2) (he : ∀ j, j < lc → e1 j ≤ 15001) : Met l yX0_lastEndDay wsX0_lastEndDay { frames := 1, cells := 0, slots := 0, locals := 24 } (nk_Pr D (wX h0 h1 h2 h3 h4 h5 h6 h7 h8 h9 cI cJ d r lc bg w rm k pn fa e1 am dd rt b pd pt tp) (tX cI cJ) [.ref h0]) (nk_Rd (some (.int (nI (mxE e1 lc) - 1)))) 0 0 (fun _ => False) := by
  refine Met.ofW (cc := cX0_lastEndDay) (maxL := 3) (ret := (some .int)) (by decide) rfl ?_
  intro p e s m args below meth c s₁ B hml hv
  obtain ⟨hargs, hP, hK⟩ := hv
  have hx := B.exec
  have hb := B.bytes
  have hr := B.returns
  have hts := atoms_spec (ws := wsX0_lastEndDay) B.pre
  have hown : s.vm.findClass RX0 = some m.cls := findClass_of_methodNamed B.named
  have hlocks := B.notSynchronized
  have hin : ∀ w ∈ wsX00, w ∈ wsX0_lastEndDay := by decide +kernel
  have f120 := hts (.fieldLink RX0 120 "EquityRelease" "lifeCount" "I") (by decide +kernel)
  have f17 := hts (.fieldLink RX0 17 "EquityRelease" "endDays" "[I") (by decide +kernel)
  have hl := lv_entry ([.ref h0]) (n := 3) (Nat.le_of_ble_eq_true rfl)
  have hEe : entryFrame m args 3 = entryFrame m ([.ref h0] : List Value).toArray 3 := by rw [hargs]
  rw [hEe, lg_entry_eq]
  generalize (lg_sl ([.ref h0]) ++ List.replicate (3 - (lg_sl ([.ref h0])).length) Slot.unset).toArray = ls at hl ⊢
  have hl : lv_has ls 3 [(0, .ref h0)] := hl
  refine lv_iconst (v := -1) hx hb dX0_lastEndDay_0 (by decide) ?_
  refine lv_istore_n (lv' := [(1, .int (-1)), (0, .ref h0)]) hx hb dX0_lastEndDay_1 rfl hl (by decide) rfl (fun ls hl => ?_)
  refine lv_iconst (v := nI 0) hx hb dX0_lastEndDay_2 (by decide +kernel) ?_
  refine lv_istore_n (lv' := [(2, .int (nI 0)), (1, .int (-1)), (0, .ref h0)]) hx hb dX0_lastEndDay_3 rfl hl (by decide) rfl (fun ls hl => ?_)
  have loop4 : ∀ (n : Nat) (i : Nat), (i ≤ lc) → lc + 1 ≤ i + n → ∀ ls : Array Slot, lv_has ls 3 [(0, .ref h0), (1, .int (nI (mxE e1 i) - 1)), (2, .int (nI i))] → W p l e (headSpec wsX0_lastEndDay { frames := 1, cells := 0, slots := 0, locals := 24 }).room s m args below meth c s.heap [] 0 0 (MQ below (nk_Rd (some (.int (nI (mxE e1 lc) - 1)))) args s 0 0 (fun _ => False)) (F0 m 4 ls []) := by
    intro n
    induction n with
    | zero =>
      intro i hi hm
      exfalso; omega
    | succ n ih4 =>
      intro i hi hm ls hl
      refine lv_iload_n hx hb dX0_lastEndDay_4 rfl (lv_at hl 2 rfl) ?_
      refine lv_aload_n hx hb dX0_lastEndDay_5 rfl (lv_at hl 0 rfl) ?_
      refine va_get (D := D) (ci := 0) (v := .int (nI lc)) (C := RX0) (T := TX0) (N := 17) hx hb hts hin hown hK hP 0 rfl rfl 2 (by decide) f120 (fun _ h9 => h9) rfl dX0_lastEndDay_6 ?_
      refine nk_icmp_ge (tgt := 29) hx hb (by omega) (by omega) dX0_lastEndDay_9 (by decide) (fun c9 => ?_) (fun c9 => ?_)
      · refine lv_iload_n hx hb dX0_lastEndDay_29 rfl (lv_at hl 1 rfl) ?_
        refine nk_topi (y := (nI (mxE e1 lc) - 1)) (by rw [show i = lc from by omega]) ?_
        exact W.iret hx hb hr (fun t ht hW => ⟨rfl, ht⟩) (fun z h => nomatch h) dX0_lastEndDay_30
      · refine lv_iload_n hx hb dX0_lastEndDay_12 rfl (lv_at hl 1 rfl) ?_
        refine lv_aload_n hx hb dX0_lastEndDay_13 rfl (lv_at hl 0 rfl) ?_
        refine va_get (D := D) (ci := 0) (v := .ref h2) (C := RX0) (T := TX0) (N := 17) hx hb hts hin hown hK hP 0 rfl rfl 4 (by decide) f17 (fun _ h9 => h9) rfl dX0_lastEndDay_14 ?_
        refine lv_iload_n hx hb dX0_lastEndDay_17 rfl (lv_at hl 2 rfl) ?_
        refine nk_eald hx hb hK hP 2 0 rfl rfl (by omega) (by decide) dX0_lastEndDay_18 ?_
        have he1 := he i (by omega)
        have he2 := mxE_le (f := e1) (M := 15001) i (fun j hj => he j (by omega))
        refine va_mmax hx hb (hml.trans hl.1.symm) hown (hts (.methodLink RX0 163 Lib.Math.max.name) (by decide +kernel)) (hts (.static Lib.Math.max.name) (by decide +kernel)) (hts (.initialized "java/lang/Math") (by decide +kernel)) (hts (.code Lib.Math.max.name Lib.Math.max.code 2 (some .int)) (by decide +kernel)) (Nat.le_of_ble_eq_true rfl) (Nat.le_of_ble_eq_true rfl) (Nat.zero_le _) (Nat.zero_le _) dX0_lastEndDay_19 ?_
        refine nk_topi (y := (nI (max (mxE e1 i) (e1 i)) - 1)) (nk_maxE (by omega) (by omega)) ?_
        refine lv_istore_n (lv' := [(1, .int (nI (max (mxE e1 i) (e1 i)) - 1)), (0, .ref h0), (2, .int (nI i))]) hx hb dX0_lastEndDay_22 rfl hl (by decide) rfl (fun ls hl => ?_)
        refine lv_iinc (v := (nI (i + 1))) (lv' := [(2, .int (nI (i + 1))), (1, .int (nI (max (mxE e1 i) (e1 i)) - 1)), (0, .ref h0)]) hx hb dX0_lastEndDay_23 hl (k := 2) rfl (nI_1 _) (by decide) rfl (fun ls hl => ?_)
        refine lv_goto (tgt := 4) hx hb dX0_lastEndDay_26 (by decide) ?_
        have q9 : ((nI (mxE e1 (i + 1)) - 1)) = ((nI (max (mxE e1 i) (e1 i)) - 1)) := rfl
        have hl : lv_has ls 3 [(0, .ref h0), (1, .int (nI (mxE e1 (i + 1)) - 1)), (2, .int (nI (i + 1)))] := by
          rw [q9]
          exact lv_sub hl [2, 1, 0] rfl
        exact ih4 (i + 1) (by omega) (by omega) ls hl
  have hl : lv_has ls 3 [(0, .ref h0), (1, .int (nI (mxE e1 0) - 1)), (2, .int (nI 0))] := by
    rw [show (nI (mxE e1 0) - 1 : Int32) = -1 from nk_m1.symm]
    exact lv_sub hl [2, 1, 0] rfl
  exact loop4 (lc + 1) 0 (by omega) (by omega) ls hl
set_option maxHeartbeats 4000000 in
set_option maxRecDepth 100000 in
theorem c_X0_age (l : Launch) (D : va_G) (h0 h1 h2 h3 h4 h5 h6 h7 h8 h9 : Nat) (cI cJ : ClassId) (d r lc bg w rm k pn : Nat) (fa e1 am dd rt b pd pt tp : Nat → Nat)  (hlc : lc ≤ 2) (he : ∀ j, j < lc → e1 j ≤ 15001) (hfa : ∀ j, j < lc → 55 ≤ fa j ∧ fa j ≤ 95) (hd : d ≤ 15000) : Met l yX0_age wsX0_age { frames := 0, cells := 0, slots := 0, locals := 0 } (nk_Pr D (wX h0 h1 h2 h3 h4 h5 h6 h7 h8 h9 cI cJ d r lc bg w rm k pn fa e1 am dd rt b pd pt tp) (tX cI cJ) [.ref h0]) (nk_Rd (some (.int (nI (agE fa e1 lc (d / 365)) - 1)))) 0 0 (fun _ => False) := by
  refine Met.ofW (cc := cX0_age) (maxL := 3) (ret := (some .int)) (by decide) rfl ?_
  intro p e s m args below meth c s₁ B hml hv
  obtain ⟨hargs, hP, hK⟩ := hv
  have hx := B.exec
  have hb := B.bytes
  have hr := B.returns
  have hts := atoms_spec (ws := wsX0_age) B.pre
  have hown : s.vm.findClass RX0 = some m.cls := findClass_of_methodNamed B.named
  have hlocks := B.notSynchronized
  have hin : ∀ w ∈ wsX00, w ∈ wsX0_age := by decide +kernel
  have f120 := hts (.fieldLink RX0 120 "EquityRelease" "lifeCount" "I") (by decide +kernel)
  have f53 := hts (.fieldLink RX0 53 "EquityRelease" "today" "I") (by decide +kernel)
  have f17 := hts (.fieldLink RX0 17 "EquityRelease" "endDays" "[I") (by decide +kernel)
  have f13 := hts (.fieldLink RX0 13 "EquityRelease" "firstAges" "[I") (by decide +kernel)
  have hl := lv_entry ([.ref h0]) (n := 3) (Nat.le_of_ble_eq_true rfl)
  have hEe : entryFrame m args 3 = entryFrame m ([.ref h0] : List Value).toArray 3 := by rw [hargs]
  rw [hEe, lg_entry_eq]
  generalize (lg_sl ([.ref h0]) ++ List.replicate (3 - (lg_sl ([.ref h0])).length) Slot.unset).toArray = ls at hl ⊢
  have hl : lv_has ls 3 [(0, .ref h0)] := hl
  refine lv_iconst (v := -1) hx hb dX0_age_0 (by decide) ?_
  refine lv_istore_n (lv' := [(1, .int (-1)), (0, .ref h0)]) hx hb dX0_age_1 rfl hl (by decide) rfl (fun ls hl => ?_)
  refine lv_iconst (v := nI 0) hx hb dX0_age_2 (by decide +kernel) ?_
  refine lv_istore_n (lv' := [(2, .int (nI 0)), (1, .int (-1)), (0, .ref h0)]) hx hb dX0_age_3 rfl hl (by decide) rfl (fun ls hl => ?_)
  have loop4 : ∀ (n : Nat) (i : Nat), (i ≤ lc) → lc + 1 ≤ i + n → ∀ ls : Array Slot, lv_has ls 3 [(0, .ref h0), (1, .int (nI (lstA fa e1 i) - 1)), (2, .int (nI i))] → W p l e (headSpec wsX0_age { frames := 0, cells := 0, slots := 0, locals := 0 }).room s m args below meth c s.heap [] 0 0 (MQ below (nk_Rd (some (.int (nI (agE fa e1 lc (d / 365)) - 1)))) args s 0 0 (fun _ => False)) (F0 m 4 ls []) := by
    intro n
    induction n with
    | zero =>
      intro i hi hm
      exfalso; omega
    | succ n ih4 =>
      intro i hi hm ls hl
      refine lv_iload_n hx hb dX0_age_4 rfl (lv_at hl 2 rfl) ?_
      refine lv_aload_n hx hb dX0_age_5 rfl (lv_at hl 0 rfl) ?_
      refine va_get (D := D) (ci := 0) (v := .int (nI lc)) (C := RX0) (T := TX0) (N := 17) hx hb hts hin hown hK hP 0 rfl rfl 2 (by decide) f120 (fun _ h9 => h9) rfl dX0_age_6 ?_
      refine nk_icmp_ge (tgt := 50) hx hb (by omega) (by omega) dX0_age_9 (by decide) (fun c9 => ?_) (fun c9 => ?_)
      · have e9 : i = lc := by omega
        rw [e9] at hl
        have hl1 := lstA_le (f := e1) lc hfa
        refine lv_iload_n hx hb dX0_age_50 rfl (lv_at hl 1 rfl) ?_
        refine lv_iconst (v := -1) hx hb dX0_age_51 (by decide) ?_
        refine nk_ecmp_ne (tgt := 59) hx hb (by omega) dX0_age_52 (by decide) (fun c52 => ?_) (fun c52 => ?_)
        · refine lv_iload_n hx hb dX0_age_59 rfl (lv_at hl 1 rfl) ?_
          refine nk_topi (y := (nI (lstA fa e1 lc - 1))) (nk_e1 c52) ?_
          refine lv_aload_n hx hb dX0_age_60 rfl (lv_at hl 0 rfl) ?_
          refine va_get (D := D) (ci := 0) (v := .int (nI d)) (C := RX0) (T := TX0) (N := 17) hx hb hts hin hown hK hP 0 rfl rfl 0 (by decide) f53 (fun _ h9 => h9) rfl dX0_age_61 ?_
          refine lv_sipush (v := nI 365) hx hb dX0_age_64 (by decide +kernel) ?_
          refine nk_idiv hx hb (by omega) (by decide) (by decide) dX0_age_67 ?_
          refine nk_iadd hx hb dX0_age_68 ?_
          refine nk_topi (y := (nI (agE fa e1 lc (d / 365)) - 1)) (agE_r c52) ?_
          exact W.iret hx hb hr (fun t ht hW => ⟨rfl, ht⟩) (fun z h => nomatch h) dX0_age_69
        · refine lv_iconst (v := -1) hx hb dX0_age_55 (by decide) ?_
          refine lv_goto (tgt := 69) hx hb dX0_age_56 (by decide) ?_
          refine nk_topi (y := (nI (agE fa e1 lc (d / 365)) - 1)) (by rw [agE_0 c52]; exact nk_m1) ?_
          exact W.iret hx hb hr (fun t ht hW => ⟨rfl, ht⟩) (fun z h => nomatch h) dX0_age_69
      · refine lv_aload_n hx hb dX0_age_12 rfl (lv_at hl 0 rfl) ?_
        refine va_get (D := D) (ci := 0) (v := .ref h2) (C := RX0) (T := TX0) (N := 17) hx hb hts hin hown hK hP 0 rfl rfl 4 (by decide) f17 (fun _ h9 => h9) rfl dX0_age_13 ?_
        refine lv_iload_n hx hb dX0_age_16 rfl (lv_at hl 2 rfl) ?_
        refine nk_eald hx hb hK hP 2 0 rfl rfl (by omega) (by decide) dX0_age_17 ?_
        refine lv_iconst (v := -1) hx hb dX0_age_18 (by decide) ?_
        have he1 := he i (by omega)
        have hf1 := hfa i (by omega)
        have hl1 := lstA_le (f := e1) i (fun j hj => hfa j (by omega))
        refine nk_ecmp_ne (tgt := 44) hx hb (by omega) dX0_age_19 (by decide) (fun c19 => ?_) (fun c19 => ?_)
        · refine lv_iinc (v := (nI (i + 1))) (lv' := [(2, .int (nI (i + 1))), (0, .ref h0), (1, .int (nI (lstA fa e1 i) - 1))]) hx hb dX0_age_44 hl (k := 2) rfl (nI_1 _) (by decide) rfl (fun ls hl => ?_)
          refine lv_goto (tgt := 4) hx hb dX0_age_47 (by decide) ?_
          have q9 : ((nI (lstA fa e1 (i + 1)) - 1)) = ((nI (lstA fa e1 i) - 1)) := (by rw [lstA_s, if_neg (by omega)])
          have hl : lv_has ls 3 [(0, .ref h0), (1, .int (nI (lstA fa e1 (i + 1)) - 1)), (2, .int (nI (i + 1)))] := by
            rw [q9]
            exact lv_sub hl [1, 2, 0] rfl
          exact ih4 (i + 1) (by omega) (by omega) ls hl
        · refine lv_iload_n hx hb dX0_age_22 rfl (lv_at hl 1 rfl) ?_
          refine lv_iconst (v := -1) hx hb dX0_age_23 (by decide) ?_
          refine nk_ecmp_eq (tgt := 37) hx hb (by omega) dX0_age_24 (by decide) (fun c24 => ?_) (fun c24 => ?_)
          · refine lv_aload_n hx hb dX0_age_37 rfl (lv_at hl 0 rfl) ?_
            refine va_get (D := D) (ci := 0) (v := .ref h1) (C := RX0) (T := TX0) (N := 17) hx hb hts hin hown hK hP 0 rfl rfl 3 (by decide) f13 (fun _ h9 => h9) rfl dX0_age_38 ?_
            refine lv_iload_n hx hb dX0_age_41 rfl (lv_at hl 2 rfl) ?_
            refine nk_iald hx hb hK hP 1 0 rfl rfl (by omega) (by decide) dX0_age_42 ?_
            refine lv_istore_n (lv' := [(1, .int (nI (fa i))), (0, .ref h0), (2, .int (nI i))]) hx hb dX0_age_43 rfl hl (by decide) rfl (fun ls hl => ?_)
            refine lv_iinc (v := (nI (i + 1))) (lv' := [(2, .int (nI (i + 1))), (1, .int (nI (fa i))), (0, .ref h0)]) hx hb dX0_age_44 hl (k := 2) rfl (nI_1 _) (by decide) rfl (fun ls hl => ?_)
            refine lv_goto (tgt := 4) hx hb dX0_age_47 (by decide) ?_
            have q9 : ((nI (lstA fa e1 (i + 1)) - 1)) = ((nI (fa i))) := (by rw [lstA_s, if_pos ⟨c19, Or.inl c24⟩, nk_e2])
            have hl : lv_has ls 3 [(0, .ref h0), (1, .int (nI (lstA fa e1 (i + 1)) - 1)), (2, .int (nI (i + 1)))] := by
              rw [q9]
              exact lv_sub hl [2, 1, 0] rfl
            exact ih4 (i + 1) (by omega) (by omega) ls hl
          · refine lv_aload_n hx hb dX0_age_27 rfl (lv_at hl 0 rfl) ?_
            refine va_get (D := D) (ci := 0) (v := .ref h1) (C := RX0) (T := TX0) (N := 17) hx hb hts hin hown hK hP 0 rfl rfl 3 (by decide) f13 (fun _ h9 => h9) rfl dX0_age_28 ?_
            refine lv_iload_n hx hb dX0_age_31 rfl (lv_at hl 2 rfl) ?_
            refine nk_iald hx hb hK hP 1 0 rfl rfl (by omega) (by decide) dX0_age_32 ?_
            refine lv_iload_n hx hb dX0_age_33 rfl (lv_at hl 1 rfl) ?_
            refine nk_topi (y := (nI (lstA fa e1 i - 1))) (nk_e1 c24) ?_
            refine nk_icmp_ge (tgt := 44) hx hb (by omega) (by omega) dX0_age_34 (by decide) (fun c34 => ?_) (fun c34 => ?_)
            · refine lv_iinc (v := (nI (i + 1))) (lv' := [(2, .int (nI (i + 1))), (0, .ref h0), (1, .int (nI (lstA fa e1 i) - 1))]) hx hb dX0_age_44 hl (k := 2) rfl (nI_1 _) (by decide) rfl (fun ls hl => ?_)
              refine lv_goto (tgt := 4) hx hb dX0_age_47 (by decide) ?_
              have q9 : ((nI (lstA fa e1 (i + 1)) - 1)) = ((nI (lstA fa e1 i) - 1)) := (by rw [lstA_s, if_neg (by omega)])
              have hl : lv_has ls 3 [(0, .ref h0), (1, .int (nI (lstA fa e1 (i + 1)) - 1)), (2, .int (nI (i + 1)))] := by
                rw [q9]
                exact lv_sub hl [1, 2, 0] rfl
              exact ih4 (i + 1) (by omega) (by omega) ls hl
            · refine lv_aload_n hx hb dX0_age_37 rfl (lv_at hl 0 rfl) ?_
              refine va_get (D := D) (ci := 0) (v := .ref h1) (C := RX0) (T := TX0) (N := 17) hx hb hts hin hown hK hP 0 rfl rfl 3 (by decide) f13 (fun _ h9 => h9) rfl dX0_age_38 ?_
              refine lv_iload_n hx hb dX0_age_41 rfl (lv_at hl 2 rfl) ?_
              refine nk_iald hx hb hK hP 1 0 rfl rfl (by omega) (by decide) dX0_age_42 ?_
              refine lv_istore_n (lv' := [(1, .int (nI (fa i))), (0, .ref h0), (2, .int (nI i))]) hx hb dX0_age_43 rfl hl (by decide) rfl (fun ls hl => ?_)
              refine lv_iinc (v := (nI (i + 1))) (lv' := [(2, .int (nI (i + 1))), (1, .int (nI (fa i))), (0, .ref h0)]) hx hb dX0_age_44 hl (k := 2) rfl (nI_1 _) (by decide) rfl (fun ls hl => ?_)
              refine lv_goto (tgt := 4) hx hb dX0_age_47 (by decide) ?_
              have q9 : ((nI (lstA fa e1 (i + 1)) - 1)) = ((nI (fa i))) := (by rw [lstA_s, if_pos ⟨c19, Or.inr (by omega)⟩, nk_e2])
              have hl : lv_has ls 3 [(0, .ref h0), (1, .int (nI (lstA fa e1 (i + 1)) - 1)), (2, .int (nI (i + 1)))] := by
                rw [q9]
                exact lv_sub hl [2, 1, 0] rfl
              exact ih4 (i + 1) (by omega) (by omega) ls hl
  have hl : lv_has ls 3 [(0, .ref h0), (1, .int (nI (lstA fa e1 0) - 1)), (2, .int (nI 0))] := by
    rw [show (nI (lstA fa e1 0) - 1 : Int32) = -1 from nk_m1.symm]
    exact lv_sub hl [2, 1, 0] rfl
  exact loop4 (lc + 1) 0 (by omega) (by omega) ls hl
set_option maxHeartbeats 4000000 in
set_option maxRecDepth 100000 in
theorem c_X0_greatestLoan (l : Launch) (w9 a9 : Nat) (hw : w9 ≤ 10000000) (ha : 35 ≤ a9) (ha2 : a9 ≤ 1000) : Met l yX0_greatestLoan wsX0_greatestLoan { frames := 1, cells := 0, slots := 0, locals := 24 } (nk_P0 [.int (nI w9), .int (nI a9)]) (nk_Rd (some (.int (nI (gL w9 a9))))) 0 0 (fun _ => False) := by
  refine Met.ofW (cc := cX0_greatestLoan) (maxL := 3) (ret := (some .int)) (by decide) rfl ?_
  intro p e s m args below meth c s₁ B hml hv
  obtain ⟨hargs, -⟩ := hv
  have hx := B.exec
  have hb := B.bytes
  have hr := B.returns
  have hts := atoms_spec (ws := wsX0_greatestLoan) B.pre
  have hown : s.vm.findClass RX0 = some m.cls := findClass_of_methodNamed B.named
  have hlocks := B.notSynchronized
  have hl := lv_entry ([.int (nI w9), .int (nI a9)]) (n := 3) (Nat.le_of_ble_eq_true rfl)
  have hEe : entryFrame m args 3 = entryFrame m ([.int (nI w9), .int (nI a9)] : List Value).toArray 3 := by rw [hargs]
  rw [hEe, lg_entry_eq]
  generalize (lg_sl ([.int (nI w9), .int (nI a9)]) ++ List.replicate (3 - (lg_sl ([.int (nI w9), .int (nI a9)])).length) Slot.unset).toArray = ls at hl ⊢
  have hl : lv_has ls 3 [(0, .int (nI w9)), (1, .int (nI a9))] := hl
  refine lv_bipush (v := nI 55) hx hb dX0_greatestLoan_0 (by decide +kernel) ?_
  refine lv_bipush (v := nI 20) hx hb dX0_greatestLoan_2 (by decide +kernel) ?_
  refine lv_iload_n hx hb dX0_greatestLoan_4 rfl (lv_at hl 1 rfl) ?_
  refine nk_iadd hx hb dX0_greatestLoan_5 ?_
  refine lv_bipush (v := nI 55) hx hb dX0_greatestLoan_6 (by decide +kernel) ?_
  refine nk_isub hx hb (by omega) dX0_greatestLoan_8 ?_
  refine va_mmin hx hb (hml.trans hl.1.symm) hown (hts (.methodLink RX0 47 Lib.Math.min.name) (by decide +kernel)) (hts (.static Lib.Math.min.name) (by decide +kernel)) (hts (.initialized "java/lang/Math") (by decide +kernel)) (hts (.code Lib.Math.min.name Lib.Math.min.code 2 (some .int)) (by decide +kernel)) (Nat.le_of_ble_eq_true rfl) (Nat.le_of_ble_eq_true rfl) (Nat.zero_le _) (Nat.zero_le _) dX0_greatestLoan_9 ?_
  refine nk_topi (y := (nI (min 55 ((20 + a9) - 55)))) (nk_min (by omega) (by omega)) ?_
  refine lv_istore_n (lv' := [(2, .int (nI (min 55 ((20 + a9) - 55)))), (0, .int (nI w9)), (1, .int (nI a9))]) hx hb dX0_greatestLoan_12 rfl hl (by decide) rfl (fun ls hl => ?_)
  refine lv_iload_n hx hb dX0_greatestLoan_13 rfl (lv_at hl 1 rfl) ?_
  refine lv_iload_n hx hb dX0_greatestLoan_14 rfl (lv_at hl 0 rfl) ?_
  refine nk_imul hx hb dX0_greatestLoan_15 ?_
  refine lv_bipush (v := nI 100) hx hb dX0_greatestLoan_16 (by decide +kernel) ?_
  have h9 : w9 * min 55 (20 + a9 - 55) ≤ 10000000 * 55 := Nat.mul_le_mul hw (Nat.min_le_left _ _)
  refine nk_idiv hx hb (by omega) (by decide) (by decide) dX0_greatestLoan_18 ?_
  refine nk_topi (y := (nI (gL w9 a9))) rfl ?_
  exact W.iret hx hb hr (fun t ht hW => ⟨rfl, ht⟩) (fun z h => nomatch h) dX0_greatestLoan_19
set_option maxHeartbeats 4000000 in
set_option maxRecDepth 100000 in
theorem c_X0_wholeAmount (l : Launch) (x9 : Nat) (hx9 : x9 < 4611686018427387904) : Met l yX0_wholeAmount wsX0_wholeAmount { frames := 0, cells := 0, slots := 0, locals := 0 } (nk_P0 [.long (lN x9)]) (nk_Rd (some (.long (lN (ceilA x9))))) 0 0 (fun _ => False) := by
  refine Met.ofW (cc := cX0_wholeAmount) (maxL := 2) (ret := (some .long)) (by decide) rfl ?_
  intro p e s m args below meth c s₁ B hml hv
  obtain ⟨hargs, -⟩ := hv
  have hx := B.exec
  have hb := B.bytes
  have hr := B.returns
  have hts := atoms_spec (ws := wsX0_wholeAmount) B.pre
  have hown : s.vm.findClass RX0 = some m.cls := findClass_of_methodNamed B.named
  have hlocks := B.notSynchronized
  have k172 : (Cond.constantLong RX0 172 (lN 10000)).before args s = true := by
    rw [show (lN 10000 : Int64) = 10000 from by decide +kernel]
    exact hts (.constantLong RX0 172 (10000)) (by decide +kernel)
  have hl := lv_entry ([.long (lN x9)]) (n := 2) (Nat.le_of_ble_eq_true rfl)
  have hEe : entryFrame m args 2 = entryFrame m ([.long (lN x9)] : List Value).toArray 2 := by rw [hargs]
  rw [hEe, lg_entry_eq]
  generalize (lg_sl ([.long (lN x9)]) ++ List.replicate (2 - (lg_sl ([.long (lN x9)])).length) Slot.unset).toArray = ls at hl ⊢
  have hl : lv_has ls 2 [(0, .long (lN x9))] := hl
  refine lv_lload_n hx hb dX0_wholeAmount_0 rfl (lv_at hl 0 rfl) ?_
  refine lv_ldc2 (v := lN 10000) hx hb hown k172 dX0_wholeAmount_1 ?_
  refine nk_ladd hx hb dX0_wholeAmount_4 ?_
  refine lv_lconst (v := lN 1) hx hb dX0_wholeAmount_5 (by decide +kernel) ?_
  refine nk_lsub hx hb (by omega) dX0_wholeAmount_6 ?_
  refine lv_ldc2 (v := lN 10000) hx hb hown k172 dX0_wholeAmount_7 ?_
  refine nk_ldiv hx hb (by omega) (by decide) (by decide) dX0_wholeAmount_10 ?_
  refine nk_topl (y := (lN (ceilA x9))) (by unfold ceilA; rw [show x9 + 10000 - 1 = x9 + 9999 from by omega]) ?_
  exact W.lret hx hb hr (fun t ht hW => ⟨rfl, ht⟩) (fun z h => nomatch h) dX0_wholeAmount_11
set_option maxHeartbeats 4000000 in
set_option maxRecDepth 100000 in
theorem c_X0_debt (l : Launch) (D : va_G) (h0 h1 h2 h3 h4 h5 h6 h7 h8 h9 : Nat) (cI cJ : ClassId) (d r lc bg w rm k pn : Nat) (fa e1 am dd rt b pd pt tp : Nat → Nat)  (hk : k ≤ 20) (hbs : sm b k < 4611686018427387904) : Met l yX0_debt wsX0_debt { frames := 1, cells := 0, slots := 0, locals := 21 } (nk_Pr D (wX h0 h1 h2 h3 h4 h5 h6 h7 h8 h9 cI cJ d r lc bg w rm k pn fa e1 am dd rt b pd pt tp) (tX cI cJ) [.ref h0]) (nk_Rd (some (.long (lN (ceilA (sm b k)))))) 0 0 (fun _ => False) := by
  refine Met.ofW (cc := cX0_debt) (maxL := 4) (ret := (some .long)) (by decide) rfl ?_
  intro p e s m args below meth c s₁ B hml hv
  obtain ⟨hargs, hP, hK⟩ := hv
  have hx := B.exec
  have hb := B.bytes
  have hr := B.returns
  have hts := atoms_spec (ws := wsX0_debt) B.pre
  have hown : s.vm.findClass RX0 = some m.cls := findClass_of_methodNamed B.named
  have hlocks := B.notSynchronized
  have hin : ∀ w ∈ wsX00, w ∈ wsX0_debt := by decide +kernel
  have f89 := hts (.fieldLink RX0 89 "EquityRelease" "drawingCount" "I") (by decide +kernel)
  have f29 := hts (.fieldLink RX0 29 "EquityRelease" "balances" "[J") (by decide +kernel)
  have hl := lv_entry ([.ref h0]) (n := 4) (Nat.le_of_ble_eq_true rfl)
  have hEe : entryFrame m args 4 = entryFrame m ([.ref h0] : List Value).toArray 4 := by rw [hargs]
  rw [hEe, lg_entry_eq]
  generalize (lg_sl ([.ref h0]) ++ List.replicate (4 - (lg_sl ([.ref h0])).length) Slot.unset).toArray = ls at hl ⊢
  have hl : lv_has ls 4 [(0, .ref h0)] := hl
  refine lv_lconst (v := lN 0) hx hb dX0_debt_0 (by decide +kernel) ?_
  refine lv_lstore_n (lv' := [(1, .long (lN 0)), (0, .ref h0)]) hx hb dX0_debt_1 rfl hl (by decide) rfl (fun ls hl => ?_)
  refine lv_iconst (v := nI 0) hx hb dX0_debt_2 (by decide +kernel) ?_
  refine lv_istore_n (lv' := [(3, .int (nI 0)), (1, .long (lN 0)), (0, .ref h0)]) hx hb dX0_debt_3 rfl hl (by decide) rfl (fun ls hl => ?_)
  have loop4 : ∀ (n : Nat) (i : Nat), (i ≤ k) → k + 1 ≤ i + n → ∀ ls : Array Slot, lv_has ls 4 [(0, .ref h0), (1, .long (lN (sm b i))), (3, .int (nI i))] → W p l e (headSpec wsX0_debt { frames := 1, cells := 0, slots := 0, locals := 21 }).room s m args below meth c s.heap [] 0 0 (MQ below (nk_Rd (some (.long (lN (ceilA (sm b k)))))) args s 0 0 (fun _ => False)) (F0 m 4 ls []) := by
    intro n
    induction n with
    | zero =>
      intro i hi hm
      exfalso; omega
    | succ n ih4 =>
      intro i hi hm ls hl
      refine lv_iload_n hx hb dX0_debt_4 rfl (lv_at hl 2 rfl) ?_
      refine lv_aload_n hx hb dX0_debt_5 rfl (lv_at hl 0 rfl) ?_
      refine va_get (D := D) (ci := 0) (v := .int (nI k)) (C := RX0) (T := TX0) (N := 17) hx hb hts hin hown hK hP 0 rfl rfl 8 (by decide) f89 (fun _ h9 => h9) rfl dX0_debt_6 ?_
      refine nk_icmp_ge (tgt := 27) hx hb (by omega) (by omega) dX0_debt_9 (by decide) (fun c9 => ?_) (fun c9 => ?_)
      · have e9 : i = k := by omega
        rw [e9] at hl
        refine lv_lload_n hx hb dX0_debt_27 rfl (lv_at hl 1 rfl) ?_
        refine nk_rd (W.runS (As := [.long (lN (sm b k))]) (rest := []) ⟨hx, hb, hml, hown, hts⟩ (c_X0_wholeAmount l (sm b k) (by omega)) (va_cwS 1 hts gX0_debt_X0_wholeAmount rfl rfl rfl (by decide +kernel) ⟨Nat.le_of_ble_eq_true rfl, Nat.le_of_ble_eq_true rfl⟩) ⟨nk_P0.blind, fun U hU hW => ⟨rfl, trivial⟩⟩ rfl rfl hl.1 rfl (lv_room (Nat.le_of_ble_eq_true rfl)) dX0_debt_28 ⟨Nat.zero_le _, Nat.zero_le _⟩) ?_
        refine W.eq (g2 := F0 m 31 ls [.long (lN (ceilA (sm b k)))]) rfl ?_
        exact W.lret hx hb hr (fun t ht hW => ⟨rfl, ht⟩) (fun z h => nomatch h) dX0_debt_31
      · refine lv_lload_n hx hb dX0_debt_12 rfl (lv_at hl 1 rfl) ?_
        refine lv_aload_n hx hb dX0_debt_13 rfl (lv_at hl 0 rfl) ?_
        refine va_get (D := D) (ci := 0) (v := .ref h6) (C := RX0) (T := TX0) (N := 17) hx hb hts hin hown hK hP 0 rfl rfl 12 (by decide) f29 (fun _ h9 => h9) rfl dX0_debt_14 ?_
        refine lv_iload_n hx hb dX0_debt_17 rfl (lv_at hl 2 rfl) ?_
        refine nk_lald hx hb hK hP 6 1 rfl rfl (by omega) (by decide) dX0_debt_18 ?_
        refine nk_ladd hx hb dX0_debt_19 ?_
        refine lv_lstore_n (lv' := [(1, .long (lN ((sm b i) + (b i)))), (0, .ref h0), (3, .int (nI i))]) hx hb dX0_debt_20 rfl hl (by decide) rfl (fun ls hl => ?_)
        refine lv_iinc (v := (nI (i + 1))) (lv' := [(3, .int (nI (i + 1))), (1, .long (lN ((sm b i) + (b i)))), (0, .ref h0)]) hx hb dX0_debt_21 hl (k := 2) rfl (nI_1 _) (by decide) rfl (fun ls hl => ?_)
        refine lv_goto (tgt := 4) hx hb dX0_debt_24 (by decide) ?_
        have q9 : ((lN (sm b (i + 1)))) = ((lN ((sm b i) + (b i)))) := rfl
        have hl : lv_has ls 4 [(0, .ref h0), (1, .long (lN (sm b (i + 1)))), (3, .int (nI (i + 1)))] := by
          rw [q9]
          exact lv_sub hl [2, 1, 0] rfl
        exact ih4 (i + 1) (by omega) (by omega) ls hl
  exact loop4 (k + 1) 0 (by omega) (by omega) ls (lv_sub hl [2, 1, 0] rfl)
set_option maxHeartbeats 4000000 in
set_option maxRecDepth 100000 in
theorem c_X0_yearOfLoan (l : Launch) (D : va_G) (h0 h1 h2 h3 h4 h5 h6 h7 h8 h9 : Nat) (cI cJ : ClassId) (d r lc bg w rm k pn : Nat) (fa e1 am dd rt b pd pt tp : Nat → Nat) (q9 : Nat) (hq : bg ≤ q9) (hq2 : q9 ≤ 15000) : Met l yX0_yearOfLoan wsX0_yearOfLoan { frames := 0, cells := 0, slots := 0, locals := 0 } (nk_Pr D (wX h0 h1 h2 h3 h4 h5 h6 h7 h8 h9 cI cJ d r lc bg w rm k pn fa e1 am dd rt b pd pt tp) (tX cI cJ) [.ref h0, .int (nI q9)]) (nk_Rd (some (.int (nI ((q9 - bg) / 365))))) 0 0 (fun _ => False) := by
  refine Met.ofW (cc := cX0_yearOfLoan) (maxL := 2) (ret := (some .int)) (by decide) rfl ?_
  intro p e s m args below meth c s₁ B hml hv
  obtain ⟨hargs, hP, hK⟩ := hv
  have hx := B.exec
  have hb := B.bytes
  have hr := B.returns
  have hts := atoms_spec (ws := wsX0_yearOfLoan) B.pre
  have hown : s.vm.findClass RX0 = some m.cls := findClass_of_methodNamed B.named
  have hlocks := B.notSynchronized
  have hin : ∀ w ∈ wsX00, w ∈ wsX0_yearOfLoan := by decide +kernel
  have f74 := hts (.fieldLink RX0 74 "EquityRelease" "beginDay" "I") (by decide +kernel)
  have hl := lv_entry ([.ref h0, .int (nI q9)]) (n := 2) (Nat.le_of_ble_eq_true rfl)
  have hEe : entryFrame m args 2 = entryFrame m ([.ref h0, .int (nI q9)] : List Value).toArray 2 := by rw [hargs]
  rw [hEe, lg_entry_eq]
  generalize (lg_sl ([.ref h0, .int (nI q9)]) ++ List.replicate (2 - (lg_sl ([.ref h0, .int (nI q9)])).length) Slot.unset).toArray = ls at hl ⊢
  have hl : lv_has ls 2 [(0, .ref h0), (1, .int (nI q9))] := hl
  refine lv_iload_n hx hb dX0_yearOfLoan_0 rfl (lv_at hl 1 rfl) ?_
  refine lv_aload_n hx hb dX0_yearOfLoan_1 rfl (lv_at hl 0 rfl) ?_
  refine va_get (D := D) (ci := 0) (v := .int (nI bg)) (C := RX0) (T := TX0) (N := 17) hx hb hts hin hown hK hP 0 rfl rfl 5 (by decide) f74 (fun _ h9 => h9) rfl dX0_yearOfLoan_2 ?_
  refine nk_isub hx hb (by omega) dX0_yearOfLoan_5 ?_
  refine lv_sipush (v := nI 365) hx hb dX0_yearOfLoan_6 (by decide +kernel) ?_
  refine nk_idiv hx hb (by omega) (by decide) (by decide) dX0_yearOfLoan_9 ?_
  exact W.iret hx hb hr (fun t ht hW => ⟨rfl, ht⟩) (fun z h => nomatch h) dX0_yearOfLoan_10
set_option maxHeartbeats 4000000 in
set_option maxRecDepth 100000 in
theorem c_X0_paidThisYear (l : Launch) (D : va_G) (h0 h1 h2 h3 h4 h5 h6 h7 h8 h9 : Nat) (cI cJ : ClassId) (d r lc bg w rm k pn : Nat) (fa e1 am dd rt b pd pt tp : Nat → Nat)  (hpn : pn ≤ 40) (hbg : bg ≤ d) (hd : d ≤ 15000) (hpd : ∀ j, j < pn → bg ≤ pd j ∧ pd j ≤ 15000) (hpt : ∀ j, j < pn → pt j ≤ 10000000) : Met l yX0_paidThisYear wsX0_paidThisYear { frames := 1, cells := 0, slots := 0, locals := 21 } (nk_Pr D (wX h0 h1 h2 h3 h4 h5 h6 h7 h8 h9 cI cJ d r lc bg w rm k pn fa e1 am dd rt b pd pt tp) (tX cI cJ) [.ref h0]) (nk_Rd (some (.int (nI (pY bg pd pt ((d - bg) / 365) pn))))) 0 0 (fun _ => False) := by
  refine Met.ofW (cc := cX0_paidThisYear) (maxL := 3) (ret := (some .int)) (by decide) rfl ?_
  intro p e s m args below meth c s₁ B hml hv
  obtain ⟨hargs, hP, hK⟩ := hv
  have hx := B.exec
  have hb := B.bytes
  have hr := B.returns
  have hts := atoms_spec (ws := wsX0_paidThisYear) B.pre
  have hown : s.vm.findClass RX0 = some m.cls := findClass_of_methodNamed B.named
  have hlocks := B.notSynchronized
  have hin : ∀ w ∈ wsX00, w ∈ wsX0_paidThisYear := by decide +kernel
  have f98 := hts (.fieldLink RX0 98 "EquityRelease" "paymentCount" "I") (by decide +kernel)
  have f33 := hts (.fieldLink RX0 33 "EquityRelease" "paidDays" "[I") (by decide +kernel)
  have f53 := hts (.fieldLink RX0 53 "EquityRelease" "today" "I") (by decide +kernel)
  have f36 := hts (.fieldLink RX0 36 "EquityRelease" "paidByTenth" "[I") (by decide +kernel)
  have hl := lv_entry ([.ref h0]) (n := 3) (Nat.le_of_ble_eq_true rfl)
  have hEe : entryFrame m args 3 = entryFrame m ([.ref h0] : List Value).toArray 3 := by rw [hargs]
  rw [hEe, lg_entry_eq]
  generalize (lg_sl ([.ref h0]) ++ List.replicate (3 - (lg_sl ([.ref h0])).length) Slot.unset).toArray = ls at hl ⊢
  have hl : lv_has ls 3 [(0, .ref h0)] := hl
  refine lv_iconst (v := nI 0) hx hb dX0_paidThisYear_0 (by decide +kernel) ?_
  refine lv_istore_n (lv' := [(1, .int (nI 0)), (0, .ref h0)]) hx hb dX0_paidThisYear_1 rfl hl (by decide) rfl (fun ls hl => ?_)
  refine lv_iconst (v := nI 0) hx hb dX0_paidThisYear_2 (by decide +kernel) ?_
  refine lv_istore_n (lv' := [(2, .int (nI 0)), (1, .int (nI 0)), (0, .ref h0)]) hx hb dX0_paidThisYear_3 rfl hl (by decide) rfl (fun ls hl => ?_)
  have loop4 : ∀ (n : Nat) (i : Nat), (i ≤ pn) → pn + 1 ≤ i + n → ∀ ls : Array Slot, lv_has ls 3 [(0, .ref h0), (1, .int (nI (pY bg pd pt ((d - bg) / 365) i))), (2, .int (nI i))] → W p l e (headSpec wsX0_paidThisYear { frames := 1, cells := 0, slots := 0, locals := 21 }).room s m args below meth c s.heap [] 0 0 (MQ below (nk_Rd (some (.int (nI (pY bg pd pt ((d - bg) / 365) pn))))) args s 0 0 (fun _ => False)) (F0 m 4 ls []) := by
    intro n
    induction n with
    | zero =>
      intro i hi hm
      exfalso; omega
    | succ n ih4 =>
      intro i hi hm ls hl
      refine lv_iload_n hx hb dX0_paidThisYear_4 rfl (lv_at hl 2 rfl) ?_
      refine lv_aload_n hx hb dX0_paidThisYear_5 rfl (lv_at hl 0 rfl) ?_
      refine va_get (D := D) (ci := 0) (v := .int (nI pn)) (C := RX0) (T := TX0) (N := 17) hx hb hts hin hown hK hP 0 rfl rfl 13 (by decide) f98 (fun _ h9 => h9) rfl dX0_paidThisYear_6 ?_
      refine nk_icmp_ge (tgt := 48) hx hb (by omega) (by omega) dX0_paidThisYear_9 (by decide) (fun c9 => ?_) (fun c9 => ?_)
      · refine lv_iload_n hx hb dX0_paidThisYear_48 rfl (lv_at hl 1 rfl) ?_
        refine nk_topi (y := (nI (pY bg pd pt ((d - bg) / 365) pn))) (by rw [show i = pn from by omega]) ?_
        exact W.iret hx hb hr (fun t ht hW => ⟨rfl, ht⟩) (fun z h => nomatch h) dX0_paidThisYear_49
      · have hp1 := hpd i (by omega)
        refine lv_aload_n hx hb dX0_paidThisYear_12 rfl (lv_at hl 0 rfl) ?_
        refine lv_aload_n hx hb dX0_paidThisYear_13 rfl (lv_at hl 0 rfl) ?_
        refine va_get (D := D) (ci := 0) (v := .ref h7) (C := RX0) (T := TX0) (N := 17) hx hb hts hin hown hK hP 0 rfl rfl 14 (by decide) f33 (fun _ h9 => h9) rfl dX0_paidThisYear_14 ?_
        refine lv_iload_n hx hb dX0_paidThisYear_17 rfl (lv_at hl 2 rfl) ?_
        refine nk_iald hx hb hK hP 7 0 rfl rfl (by omega) (by decide) dX0_paidThisYear_18 ?_
        refine nk_rd (W.runV (As := [.int (nI (pd i))]) (rest := []) ⟨hx, hb, hml, hown, hts⟩ (c_X0_yearOfLoan l D h0 h1 h2 h3 h4 h5 h6 h7 h8 h9 cI cJ d r lc bg w rm k pn fa e1 am dd rt b pd pt tp (pd i) (by omega) (by omega)) (cwV 1 hts gX0_paidThisYear_X0_yearOfLoan rfl rfl rfl (by decide +kernel) ⟨Nat.le_of_ble_eq_true rfl, Nat.le_of_ble_eq_true rfl⟩) ⟨nk_Pr.blind, va_recv hK hP (ci := 0) (q0 := 0) rfl rfl, fun U hU hW => ⟨rfl, by rw [hU]; exact hP, va_K.moved hW.alike hK⟩⟩ rfl rfl hl.1 rfl (lv_room (Nat.le_of_ble_eq_true rfl)) dX0_paidThisYear_19 ⟨Nat.zero_le _, Nat.zero_le _⟩) ?_
        refine W.eq (g2 := F0 m 22 ls [.int (nI (((pd i) - bg) / 365))]) rfl ?_
        refine lv_aload_n hx hb dX0_paidThisYear_22 rfl (lv_at hl 0 rfl) ?_
        refine lv_aload_n hx hb dX0_paidThisYear_23 rfl (lv_at hl 0 rfl) ?_
        refine va_get (D := D) (ci := 0) (v := .int (nI d)) (C := RX0) (T := TX0) (N := 17) hx hb hts hin hown hK hP 0 rfl rfl 0 (by decide) f53 (fun _ h9 => h9) rfl dX0_paidThisYear_24 ?_
        refine nk_rd (W.runV (As := [.int (nI d)]) (rest := [.int (nI (((pd i) - bg) / 365))]) ⟨hx, hb, hml, hown, hts⟩ (c_X0_yearOfLoan l D h0 h1 h2 h3 h4 h5 h6 h7 h8 h9 cI cJ d r lc bg w rm k pn fa e1 am dd rt b pd pt tp d (by omega) (by omega)) (cwV 1 hts gX0_paidThisYear_X0_yearOfLoan rfl rfl rfl (by decide +kernel) ⟨Nat.le_of_ble_eq_true rfl, Nat.le_of_ble_eq_true rfl⟩) ⟨nk_Pr.blind, va_recv hK hP (ci := 0) (q0 := 0) rfl rfl, fun U hU hW => ⟨rfl, by rw [hU]; exact hP, va_K.moved hW.alike hK⟩⟩ rfl rfl hl.1 rfl (lv_room (Nat.le_of_ble_eq_true rfl)) dX0_paidThisYear_27 ⟨Nat.zero_le _, Nat.zero_le _⟩) ?_
        refine W.eq (g2 := F0 m 30 ls [.int (nI ((d - bg) / 365)), .int (nI (((pd i) - bg) / 365))]) rfl ?_
        refine nk_icmp_ne (tgt := 42) hx hb (by omega) (by omega) dX0_paidThisYear_30 (by decide) (fun c30 => ?_) (fun c30 => ?_)
        · refine lv_iinc (v := (nI (i + 1))) (lv' := [(2, .int (nI (i + 1))), (0, .ref h0), (1, .int (nI (pY bg pd pt ((d - bg) / 365) i)))]) hx hb dX0_paidThisYear_42 hl (k := 2) rfl (nI_1 _) (by decide) rfl (fun ls hl => ?_)
          refine lv_goto (tgt := 4) hx hb dX0_paidThisYear_45 (by decide) ?_
          have q9 : ((nI (pY bg pd pt ((d - bg) / 365) (i + 1)))) = ((nI (pY bg pd pt ((d - bg) / 365) i))) := (by rw [pY_s, if_neg c30, Nat.add_zero])
          have hl : lv_has ls 3 [(0, .ref h0), (1, .int (nI (pY bg pd pt ((d - bg) / 365) (i + 1)))), (2, .int (nI (i + 1)))] := by
            rw [q9]
            exact lv_sub hl [1, 2, 0] rfl
          exact ih4 (i + 1) (by omega) (by omega) ls hl
        · refine lv_iload_n hx hb dX0_paidThisYear_33 rfl (lv_at hl 1 rfl) ?_
          refine lv_aload_n hx hb dX0_paidThisYear_34 rfl (lv_at hl 0 rfl) ?_
          refine va_get (D := D) (ci := 0) (v := .ref h8) (C := RX0) (T := TX0) (N := 17) hx hb hts hin hown hK hP 0 rfl rfl 15 (by decide) f36 (fun _ h9 => h9) rfl dX0_paidThisYear_35 ?_
          refine lv_iload_n hx hb dX0_paidThisYear_38 rfl (lv_at hl 2 rfl) ?_
          refine nk_iald hx hb hK hP 8 0 rfl rfl (by omega) (by decide) dX0_paidThisYear_39 ?_
          refine nk_iadd hx hb dX0_paidThisYear_40 ?_
          refine lv_istore_n (lv' := [(1, .int (nI ((pY bg pd pt ((d - bg) / 365) i) + (pt i)))), (0, .ref h0), (2, .int (nI i))]) hx hb dX0_paidThisYear_41 rfl hl (by decide) rfl (fun ls hl => ?_)
          refine lv_iinc (v := (nI (i + 1))) (lv' := [(2, .int (nI (i + 1))), (1, .int (nI ((pY bg pd pt ((d - bg) / 365) i) + (pt i)))), (0, .ref h0)]) hx hb dX0_paidThisYear_42 hl (k := 2) rfl (nI_1 _) (by decide) rfl (fun ls hl => ?_)
          refine lv_goto (tgt := 4) hx hb dX0_paidThisYear_45 (by decide) ?_
          have q9 : ((nI (pY bg pd pt ((d - bg) / 365) (i + 1)))) = ((nI ((pY bg pd pt ((d - bg) / 365) i) + (pt i)))) := (by rw [pY_s, if_pos c30])
          have hl : lv_has ls 3 [(0, .ref h0), (1, .int (nI (pY bg pd pt ((d - bg) / 365) (i + 1)))), (2, .int (nI (i + 1)))] := by
            rw [q9]
            exact lv_sub hl [2, 1, 0] rfl
          exact ih4 (i + 1) (by omega) (by omega) ls hl
  exact loop4 (pn + 1) 0 (by omega) (by omega) ls (lv_sub hl [2, 1, 0] rfl)
set_option maxHeartbeats 4000000 in
set_option maxRecDepth 100000 in
theorem c_X0_allowance (l : Launch) (D : va_G) (h0 h1 h2 h3 h4 h5 h6 h7 h8 h9 : Nat) (cI cJ : ClassId) (d r lc bg w rm k pn : Nat) (fa e1 am dd rt b pd pt tp : Nat → Nat)  (hk : k ≤ 20) (ham : ∀ j, j < k → am j ≤ 10000000) (hpn : pn ≤ 40) (hbg : bg ≤ d) (hd : d ≤ 15000) (hpd : ∀ j, j < pn → bg ≤ pd j ∧ pd j ≤ 15000) (hpt : ∀ j, j < pn → pt j ≤ 10000000) : Met l yX0_allowance wsX0_allowance { frames := 2, cells := 0, slots := 0, locals := 43 } (nk_Pr D (wX h0 h1 h2 h3 h4 h5 h6 h7 h8 h9 cI cJ d r lc bg w rm k pn fa e1 am dd rt b pd pt tp) (tX cI cJ) [.ref h0]) (nk_Rd (some (.int (nI (sm am k / 10 - pY bg pd pt ((d - bg) / 365) pn))))) 0 0 (fun _ => False) := by
  refine Met.ofW (cc := cX0_allowance) (maxL := 3) (ret := (some .int)) (by decide) rfl ?_
  intro p e s m args below meth c s₁ B hml hv
  obtain ⟨hargs, hP, hK⟩ := hv
  have hx := B.exec
  have hb := B.bytes
  have hr := B.returns
  have hts := atoms_spec (ws := wsX0_allowance) B.pre
  have hown : s.vm.findClass RX0 = some m.cls := findClass_of_methodNamed B.named
  have hlocks := B.notSynchronized
  have hin : ∀ w ∈ wsX00, w ∈ wsX0_allowance := by decide +kernel
  have f89 := hts (.fieldLink RX0 89 "EquityRelease" "drawingCount" "I") (by decide +kernel)
  have f20 := hts (.fieldLink RX0 20 "EquityRelease" "drawnAmounts" "[I") (by decide +kernel)
  have hl := lv_entry ([.ref h0]) (n := 3) (Nat.le_of_ble_eq_true rfl)
  have hEe : entryFrame m args 3 = entryFrame m ([.ref h0] : List Value).toArray 3 := by rw [hargs]
  rw [hEe, lg_entry_eq]
  generalize (lg_sl ([.ref h0]) ++ List.replicate (3 - (lg_sl ([.ref h0])).length) Slot.unset).toArray = ls at hl ⊢
  have hl : lv_has ls 3 [(0, .ref h0)] := hl
  refine lv_iconst (v := nI 0) hx hb dX0_allowance_0 (by decide +kernel) ?_
  refine lv_istore_n (lv' := [(1, .int (nI 0)), (0, .ref h0)]) hx hb dX0_allowance_1 rfl hl (by decide) rfl (fun ls hl => ?_)
  refine lv_iconst (v := nI 0) hx hb dX0_allowance_2 (by decide +kernel) ?_
  refine lv_istore_n (lv' := [(2, .int (nI 0)), (1, .int (nI 0)), (0, .ref h0)]) hx hb dX0_allowance_3 rfl hl (by decide) rfl (fun ls hl => ?_)
  have loop4 : ∀ (n : Nat) (i : Nat), (i ≤ k) → k + 1 ≤ i + n → ∀ ls : Array Slot, lv_has ls 3 [(0, .ref h0), (1, .int (nI (sm am i))), (2, .int (nI i))] → W p l e (headSpec wsX0_allowance { frames := 2, cells := 0, slots := 0, locals := 43 }).room s m args below meth c s.heap [] 0 0 (MQ below (nk_Rd (some (.int (nI (sm am k / 10 - pY bg pd pt ((d - bg) / 365) pn))))) args s 0 0 (fun _ => False)) (F0 m 4 ls []) := by
    intro n
    induction n with
    | zero =>
      intro i hi hm
      exfalso; omega
    | succ n ih4 =>
      intro i hi hm ls hl
      refine lv_iload_n hx hb dX0_allowance_4 rfl (lv_at hl 2 rfl) ?_
      refine lv_aload_n hx hb dX0_allowance_5 rfl (lv_at hl 0 rfl) ?_
      refine va_get (D := D) (ci := 0) (v := .int (nI k)) (C := RX0) (T := TX0) (N := 17) hx hb hts hin hown hK hP 0 rfl rfl 8 (by decide) f89 (fun _ h9 => h9) rfl dX0_allowance_6 ?_
      refine nk_icmp_ge (tgt := 27) hx hb (by omega) (by omega) dX0_allowance_9 (by decide) (fun c9 => ?_) (fun c9 => ?_)
      · have e9 : i = k := by omega
        rw [e9] at hl
        have hs1 := sm_le k ham
        have hs2 := pY_le (bg := bg) (y := (d - bg) / 365) (pd := pd) pn hpt
        have hs3 : k * 10000000 ≤ 20 * 10000000 := Nat.mul_le_mul_right _ hk
        have hs4 : pn * 10000000 ≤ 40 * 10000000 := Nat.mul_le_mul_right _ hpn
        refine lv_iconst (v := nI 0) hx hb dX0_allowance_27 (by decide +kernel) ?_
        refine lv_iload_n hx hb dX0_allowance_28 rfl (lv_at hl 1 rfl) ?_
        refine lv_bipush (v := nI 10) hx hb dX0_allowance_29 (by decide +kernel) ?_
        refine nk_idiv hx hb (by omega) (by decide) (by decide) dX0_allowance_31 ?_
        refine lv_aload_n hx hb dX0_allowance_32 rfl (lv_at hl 0 rfl) ?_
        refine nk_rd (W.runV (As := []) (rest := [.int (nI ((sm am k) / 10)), .int (nI 0)]) ⟨hx, hb, hml, hown, hts⟩ (c_X0_paidThisYear l D h0 h1 h2 h3 h4 h5 h6 h7 h8 h9 cI cJ d r lc bg w rm k pn fa e1 am dd rt b pd pt tp hpn hbg hd hpd hpt) (cwV 0 hts gX0_allowance_X0_paidThisYear rfl rfl rfl (by decide +kernel) ⟨Nat.le_of_ble_eq_true rfl, Nat.le_of_ble_eq_true rfl⟩) ⟨nk_Pr.blind, va_recv hK hP (ci := 0) (q0 := 0) rfl rfl, fun U hU hW => ⟨rfl, by rw [hU]; exact hP, va_K.moved hW.alike hK⟩⟩ rfl rfl hl.1 rfl (lv_room (Nat.le_of_ble_eq_true rfl)) dX0_allowance_33 ⟨Nat.zero_le _, Nat.zero_le _⟩) ?_
        refine W.eq (g2 := F0 m 36 ls [.int (nI (pY bg pd pt ((d - bg) / 365) pn)), .int (nI ((sm am k) / 10)), .int (nI 0)]) rfl ?_
        refine lv_isub hx hb dX0_allowance_36  ?_
        refine va_mmax hx hb (hml.trans hl.1.symm) hown (hts (.methodLink RX0 163 Lib.Math.max.name) (by decide +kernel)) (hts (.static Lib.Math.max.name) (by decide +kernel)) (hts (.initialized "java/lang/Math") (by decide +kernel)) (hts (.code Lib.Math.max.name Lib.Math.max.code 2 (some .int)) (by decide +kernel)) (Nat.le_of_ble_eq_true rfl) (Nat.le_of_ble_eq_true rfl) (Nat.zero_le _) (Nat.zero_le _) dX0_allowance_37 ?_
        refine nk_topi (y := (nI (sm am k / 10 - pY bg pd pt ((d - bg) / 365) pn))) (nk_max0 (by omega) (by omega)) ?_
        exact W.iret hx hb hr (fun t ht hW => ⟨rfl, ht⟩) (fun z h => nomatch h) dX0_allowance_40
      · refine lv_iload_n hx hb dX0_allowance_12 rfl (lv_at hl 1 rfl) ?_
        refine lv_aload_n hx hb dX0_allowance_13 rfl (lv_at hl 0 rfl) ?_
        refine va_get (D := D) (ci := 0) (v := .ref h3) (C := RX0) (T := TX0) (N := 17) hx hb hts hin hown hK hP 0 rfl rfl 9 (by decide) f20 (fun _ h9 => h9) rfl dX0_allowance_14 ?_
        refine lv_iload_n hx hb dX0_allowance_17 rfl (lv_at hl 2 rfl) ?_
        refine nk_iald hx hb hK hP 3 0 rfl rfl (by omega) (by decide) dX0_allowance_18 ?_
        refine nk_iadd hx hb dX0_allowance_19 ?_
        refine lv_istore_n (lv' := [(1, .int (nI ((sm am i) + (am i)))), (0, .ref h0), (2, .int (nI i))]) hx hb dX0_allowance_20 rfl hl (by decide) rfl (fun ls hl => ?_)
        refine lv_iinc (v := (nI (i + 1))) (lv' := [(2, .int (nI (i + 1))), (1, .int (nI ((sm am i) + (am i)))), (0, .ref h0)]) hx hb dX0_allowance_21 hl (k := 2) rfl (nI_1 _) (by decide) rfl (fun ls hl => ?_)
        refine lv_goto (tgt := 4) hx hb dX0_allowance_24 (by decide) ?_
        have q9 : ((nI (sm am (i + 1)))) = ((nI ((sm am i) + (am i)))) := rfl
        have hl : lv_has ls 3 [(0, .ref h0), (1, .int (nI (sm am (i + 1)))), (2, .int (nI (i + 1)))] := by
          rw [q9]
          exact lv_sub hl [2, 1, 0] rfl
        exact ih4 (i + 1) (by omega) (by omega) ls hl
  exact loop4 (k + 1) 0 (by omega) (by omega) ls (lv_sub hl [2, 1, 0] rfl)
set_option maxHeartbeats 4000000 in
set_option maxRecDepth 100000 in
theorem c_X0_isWaived (l : Launch) (D : va_G) (h0 h1 h2 h3 h4 h5 h6 h7 h8 h9 : Nat) (cI cJ : ClassId) (d r lc bg w rm k pn : Nat) (fa e1 am dd rt b pd pt tp : Nat → Nat)  (hlc : lc ≤ 2) (he : ∀ j, j < lc → e1 j ≤ 15001) (hed : ∀ j, j < lc → e1 j ≤ d + 1) (hd : d ≤ 15000) : Met l yX0_isWaived wsX0_isWaived { frames := 2, cells := 0, slots := 0, locals := 46 } (nk_Pr D (wX h0 h1 h2 h3 h4 h5 h6 h7 h8 h9 cI cJ d r lc bg w rm k pn fa e1 am dd rt b pd pt tp) (tX cI cJ) [.ref h0]) (nk_Rd (some (.int (nI (if 0 < mxE e1 lc ∧ d - (mxE e1 lc - 1) ≤ 1095 then 1 else 0))))) 0 0 (fun _ => False) := by
  refine Met.ofW (cc := cX0_isWaived) (maxL := 2) (ret := (some .boolean)) (by decide) rfl ?_
  intro p e s m args below meth c s₁ B hml hv
  obtain ⟨hargs, hP, hK⟩ := hv
  have hx := B.exec
  have hb := B.bytes
  have hr := B.returns
  have hts := atoms_spec (ws := wsX0_isWaived) B.pre
  have hown : s.vm.findClass RX0 = some m.cls := findClass_of_methodNamed B.named
  have hlocks := B.notSynchronized
  have hin : ∀ w ∈ wsX00, w ∈ wsX0_isWaived := by decide +kernel
  have f53 := hts (.fieldLink RX0 53 "EquityRelease" "today" "I") (by decide +kernel)
  have hl := lv_entry ([.ref h0]) (n := 2) (Nat.le_of_ble_eq_true rfl)
  have hEe : entryFrame m args 2 = entryFrame m ([.ref h0] : List Value).toArray 2 := by rw [hargs]
  rw [hEe, lg_entry_eq]
  generalize (lg_sl ([.ref h0]) ++ List.replicate (2 - (lg_sl ([.ref h0])).length) Slot.unset).toArray = ls at hl ⊢
  have hl : lv_has ls 2 [(0, .ref h0)] := hl
  refine lv_aload_n hx hb dX0_isWaived_0 rfl (lv_at hl 0 rfl) ?_
  refine nk_rd (W.runV (As := []) (rest := []) ⟨hx, hb, hml, hown, hts⟩ (c_X0_lastEndDay l D h0 h1 h2 h3 h4 h5 h6 h7 h8 h9 cI cJ d r lc bg w rm k pn fa e1 am dd rt b pd pt tp hlc he) (cwV 0 hts gX0_isWaived_X0_lastEndDay rfl rfl rfl (by decide +kernel) ⟨Nat.le_of_ble_eq_true rfl, Nat.le_of_ble_eq_true rfl⟩) ⟨nk_Pr.blind, va_recv hK hP (ci := 0) (q0 := 0) rfl rfl, fun U hU hW => ⟨rfl, by rw [hU]; exact hP, va_K.moved hW.alike hK⟩⟩ rfl rfl hl.1 rfl (lv_room (Nat.le_of_ble_eq_true rfl)) dX0_isWaived_1 ⟨Nat.zero_le _, Nat.zero_le _⟩) ?_
  refine W.eq (g2 := F0 m 4 ls [.int (nI (mxE e1 lc) - 1)]) rfl ?_
  refine lv_istore_n (lv' := [(1, .int (nI (mxE e1 lc) - 1)), (0, .ref h0)]) hx hb dX0_isWaived_4 rfl hl (by decide) rfl (fun ls hl => ?_)
  have hm1 := mxE_le (f := e1) (M := d + 1) lc hed
  refine lv_iload_n hx hb dX0_isWaived_5 rfl (lv_at hl 0 rfl) ?_
  refine lv_iconst (v := -1) hx hb dX0_isWaived_6 (by decide) ?_
  refine nk_ecmp_eq (tgt := 26) hx hb (by omega) dX0_isWaived_7 (by decide) (fun c7 => ?_) (fun c7 => ?_)
  · refine lv_iconst (v := nI 0) hx hb dX0_isWaived_26 (by decide +kernel) ?_
    exact W.zret (ty := .boolean) hx hb hr rfl (fun t ht hW => ⟨by rw [if_neg (by omega)], ht⟩) (fun z h => nomatch h) dX0_isWaived_27
  · refine lv_aload_n hx hb dX0_isWaived_10 rfl (lv_at hl 1 rfl) ?_
    refine va_get (D := D) (ci := 0) (v := .int (nI d)) (C := RX0) (T := TX0) (N := 17) hx hb hts hin hown hK hP 0 rfl rfl 0 (by decide) f53 (fun _ h9 => h9) rfl dX0_isWaived_11 ?_
    refine lv_iload_n hx hb dX0_isWaived_14 rfl (lv_at hl 0 rfl) ?_
    refine nk_topi (y := (nI (mxE e1 lc - 1))) (nk_e1 c7) ?_
    refine nk_isub hx hb (by omega) dX0_isWaived_15 ?_
    refine lv_sipush (v := nI 1095) hx hb dX0_isWaived_16 (by decide +kernel) ?_
    refine nk_icmp_gt (tgt := 26) hx hb (by omega) (by omega) dX0_isWaived_19 (by decide) (fun c19 => ?_) (fun c19 => ?_)
    · refine lv_iconst (v := nI 0) hx hb dX0_isWaived_26 (by decide +kernel) ?_
      exact W.zret (ty := .boolean) hx hb hr rfl (fun t ht hW => ⟨by rw [if_neg (by omega)], ht⟩) (fun z h => nomatch h) dX0_isWaived_27
    · refine lv_iconst (v := nI 1) hx hb dX0_isWaived_22 (by decide +kernel) ?_
      refine lv_goto (tgt := 27) hx hb dX0_isWaived_23 (by decide) ?_
      exact W.zret (ty := .boolean) hx hb hr rfl (fun t ht hW => ⟨by rw [if_pos ⟨c7, c19⟩], ht⟩) (fun z h => nomatch h) dX0_isWaived_27
set_option maxHeartbeats 4000000 in
set_option maxRecDepth 100000 in
theorem c_X0_chargeFor (l : Launch) (D : va_G) (h0 h1 h2 h3 h4 h5 h6 h7 h8 h9 : Nat) (cI cJ : ClassId) (d r lc bg w rm k pn : Nat) (fa e1 am dd rt b pd pt tp : Nat → Nat) (a9 : Nat) (ha9 : a9 ≤ 10000000) (hlc : lc ≤ 2) (he : ∀ j, j < lc → e1 j ≤ 15001) (hed : ∀ j, j < lc → e1 j ≤ d + 1) (hk : k ≤ 20) (ham : ∀ j, j < k → am j ≤ 10000000) (hpn : pn ≤ 40) (hbg : bg ≤ d) (hd : d ≤ 15000) (hpd : ∀ j, j < pn → bg ≤ pd j ∧ pd j ≤ 15000) (hpt : ∀ j, j < pn → pt j ≤ 10000000) : Met l yX0_chargeFor wsX0_chargeFor { frames := 3, cells := 0, slots := 0, locals := 67 } (nk_Pr D (wX h0 h1 h2 h3 h4 h5 h6 h7 h8 h9 cI cJ d r lc bg w rm k pn fa e1 am dd rt b pd pt tp) (tX cI cJ) [.ref h0, .int (nI a9)]) (nk_Rd (some (.int (nI (chg (mxE e1 lc) d ((d - bg) / 365) (sm am k) (pY bg pd pt ((d - bg) / 365) pn) a9))))) 0 0 (fun _ => False) := by
  refine Met.ofW (cc := cX0_chargeFor) (maxL := 4) (ret := (some .int)) (by decide) rfl ?_
  intro p e s m args below meth c s₁ B hml hv
  obtain ⟨hargs, hP, hK⟩ := hv
  have hx := B.exec
  have hb := B.bytes
  have hr := B.returns
  have hts := atoms_spec (ws := wsX0_chargeFor) B.pre
  have hown : s.vm.findClass RX0 = some m.cls := findClass_of_methodNamed B.named
  have hlocks := B.notSynchronized
  have hin : ∀ w ∈ wsX00, w ∈ wsX0_chargeFor := by decide +kernel
  have f53 := hts (.fieldLink RX0 53 "EquityRelease" "today" "I") (by decide +kernel)
  have hl := lv_entry ([.ref h0, .int (nI a9)]) (n := 4) (Nat.le_of_ble_eq_true rfl)
  have hEe : entryFrame m args 4 = entryFrame m ([.ref h0, .int (nI a9)] : List Value).toArray 4 := by rw [hargs]
  rw [hEe, lg_entry_eq]
  generalize (lg_sl ([.ref h0, .int (nI a9)]) ++ List.replicate (4 - (lg_sl ([.ref h0, .int (nI a9)])).length) Slot.unset).toArray = ls at hl ⊢
  have hl : lv_has ls 4 [(0, .ref h0), (1, .int (nI a9))] := hl
  refine lv_aload_n hx hb dX0_chargeFor_0 rfl (lv_at hl 0 rfl) ?_
  refine nk_rd (W.runV (As := []) (rest := []) ⟨hx, hb, hml, hown, hts⟩ (c_X0_isWaived l D h0 h1 h2 h3 h4 h5 h6 h7 h8 h9 cI cJ d r lc bg w rm k pn fa e1 am dd rt b pd pt tp hlc he hed hd) (cwV 0 hts gX0_chargeFor_X0_isWaived rfl rfl rfl (by decide +kernel) ⟨Nat.le_of_ble_eq_true rfl, Nat.le_of_ble_eq_true rfl⟩) ⟨nk_Pr.blind, va_recv hK hP (ci := 0) (q0 := 0) rfl rfl, fun U hU hW => ⟨rfl, by rw [hU]; exact hP, va_K.moved hW.alike hK⟩⟩ rfl rfl hl.1 rfl (lv_room (Nat.le_of_ble_eq_true rfl)) dX0_chargeFor_1 ⟨Nat.zero_le _, Nat.zero_le _⟩) ?_
  refine W.eq (g2 := F0 m 4 ls [.int (nI (if 0 < mxE e1 lc ∧ d - (mxE e1 lc - 1) ≤ 1095 then 1 else 0))]) rfl ?_
  refine nk_bif_eq (tgt := 9) hx hb dX0_chargeFor_4 (by decide) (fun c4 => ?_) (fun c4 => ?_)
  · have hs1 := sm_le k ham
    have hs3 : k * 10000000 ≤ 20 * 10000000 := Nat.mul_le_mul_right _ hk
    refine lv_iconst (v := nI 0) hx hb dX0_chargeFor_9 (by decide +kernel) ?_
    refine lv_iload_n hx hb dX0_chargeFor_10 rfl (lv_at hl 1 rfl) ?_
    refine lv_aload_n hx hb dX0_chargeFor_11 rfl (lv_at hl 0 rfl) ?_
    refine nk_rd (W.runV (As := []) (rest := [.int (nI a9), .int (nI 0)]) ⟨hx, hb, hml, hown, hts⟩ (c_X0_allowance l D h0 h1 h2 h3 h4 h5 h6 h7 h8 h9 cI cJ d r lc bg w rm k pn fa e1 am dd rt b pd pt tp hk ham hpn hbg hd hpd hpt) (cwV 0 hts gX0_chargeFor_X0_allowance rfl rfl rfl (by decide +kernel) ⟨Nat.le_of_ble_eq_true rfl, Nat.le_of_ble_eq_true rfl⟩) ⟨nk_Pr.blind, va_recv hK hP (ci := 0) (q0 := 0) rfl rfl, fun U hU hW => ⟨rfl, by rw [hU]; exact hP, va_K.moved hW.alike hK⟩⟩ rfl rfl hl.1 rfl (lv_room (Nat.le_of_ble_eq_true rfl)) dX0_chargeFor_12 ⟨Nat.zero_le _, Nat.zero_le _⟩) ?_
    refine W.eq (g2 := F0 m 15 ls [.int (nI (sm am k / 10 - pY bg pd pt ((d - bg) / 365) pn)), .int (nI a9), .int (nI 0)]) rfl ?_
    refine lv_isub hx hb dX0_chargeFor_15  ?_
    refine va_mmax hx hb (hml.trans hl.1.symm) hown (hts (.methodLink RX0 163 Lib.Math.max.name) (by decide +kernel)) (hts (.static Lib.Math.max.name) (by decide +kernel)) (hts (.initialized "java/lang/Math") (by decide +kernel)) (hts (.code Lib.Math.max.name Lib.Math.max.code 2 (some .int)) (by decide +kernel)) (Nat.le_of_ble_eq_true rfl) (Nat.le_of_ble_eq_true rfl) (Nat.zero_le _) (Nat.zero_le _) dX0_chargeFor_16 ?_
    refine nk_topi (y := (nI (a9 - (sm am k / 10 - pY bg pd pt ((d - bg) / 365) pn)))) (nk_max0 (by omega) (by omega)) ?_
    refine lv_istore_n (lv' := [(2, .int (nI (a9 - (sm am k / 10 - pY bg pd pt ((d - bg) / 365) pn)))), (0, .ref h0), (1, .int (nI a9))]) hx hb dX0_chargeFor_19 rfl hl (by decide) rfl (fun ls hl => ?_)
    refine lv_iconst (v := nI 0) hx hb dX0_chargeFor_20 (by decide +kernel) ?_
    refine lv_bipush (v := nI 10) hx hb dX0_chargeFor_21 (by decide +kernel) ?_
    refine lv_aload_n hx hb dX0_chargeFor_23 rfl (lv_at hl 1 rfl) ?_
    refine lv_aload_n hx hb dX0_chargeFor_24 rfl (lv_at hl 1 rfl) ?_
    refine va_get (D := D) (ci := 0) (v := .int (nI d)) (C := RX0) (T := TX0) (N := 17) hx hb hts hin hown hK hP 0 rfl rfl 0 (by decide) f53 (fun _ h9 => h9) rfl dX0_chargeFor_25 ?_
    refine nk_rd (W.runV (As := [.int (nI d)]) (rest := [.int (nI 10), .int (nI 0)]) ⟨hx, hb, hml, hown, hts⟩ (c_X0_yearOfLoan l D h0 h1 h2 h3 h4 h5 h6 h7 h8 h9 cI cJ d r lc bg w rm k pn fa e1 am dd rt b pd pt tp d (by omega) (by omega)) (cwV 1 hts gX0_chargeFor_X0_yearOfLoan rfl rfl rfl (by decide +kernel) ⟨Nat.le_of_ble_eq_true rfl, Nat.le_of_ble_eq_true rfl⟩) ⟨nk_Pr.blind, va_recv hK hP (ci := 0) (q0 := 0) rfl rfl, fun U hU hW => ⟨rfl, by rw [hU]; exact hP, va_K.moved hW.alike hK⟩⟩ rfl rfl hl.1 rfl (lv_room (Nat.le_of_ble_eq_true rfl)) dX0_chargeFor_28 ⟨Nat.zero_le _, Nat.zero_le _⟩) ?_
    refine W.eq (g2 := F0 m 31 ls [.int (nI ((d - bg) / 365)), .int (nI 10), .int (nI 0)]) rfl ?_
    refine lv_isub hx hb dX0_chargeFor_31  ?_
    refine va_mmax hx hb (hml.trans hl.1.symm) hown (hts (.methodLink RX0 163 Lib.Math.max.name) (by decide +kernel)) (hts (.static Lib.Math.max.name) (by decide +kernel)) (hts (.initialized "java/lang/Math") (by decide +kernel)) (hts (.code Lib.Math.max.name Lib.Math.max.code 2 (some .int)) (by decide +kernel)) (Nat.le_of_ble_eq_true rfl) (Nat.le_of_ble_eq_true rfl) (Nat.zero_le _) (Nat.zero_le _) dX0_chargeFor_32 ?_
    refine nk_topi (y := (nI (10 - (d - bg) / 365))) (nk_max0 (by omega) (by omega)) ?_
    refine lv_istore_n (lv' := [(3, .int (nI (10 - (d - bg) / 365))), (2, .int (nI (a9 - (sm am k / 10 - pY bg pd pt ((d - bg) / 365) pn)))), (0, .ref h0), (1, .int (nI a9))]) hx hb dX0_chargeFor_35 rfl hl (by decide) rfl (fun ls hl => ?_)
    refine lv_iload_n hx hb dX0_chargeFor_36 rfl (lv_at hl 1 rfl) ?_
    refine lv_iload_n hx hb dX0_chargeFor_37 rfl (lv_at hl 0 rfl) ?_
    refine nk_imul hx hb dX0_chargeFor_38 ?_
    have h9 : (a9 - (sm am k / 10 - pY bg pd pt ((d - bg) / 365) pn)) * (10 - (d - bg) / 365) ≤ 10000000 * 10 := Nat.mul_le_mul (by omega) (by omega)
    refine lv_bipush (v := nI 100) hx hb dX0_chargeFor_39 (by decide +kernel) ?_
    refine nk_idiv hx hb (by omega) (by decide) (by decide) dX0_chargeFor_41 ?_
    refine nk_topi (y := (nI (chg (mxE e1 lc) d ((d - bg) / 365) (sm am k) (pY bg pd pt ((d - bg) / 365) pn) a9))) (by unfold chg; rw [if_neg c4]) ?_
    exact W.iret hx hb hr (fun t ht hW => ⟨rfl, ht⟩) (fun z h => nomatch h) dX0_chargeFor_42
  · refine lv_iconst (v := nI 0) hx hb dX0_chargeFor_7 (by decide +kernel) ?_
    refine nk_topi (y := (nI (chg (mxE e1 lc) d ((d - bg) / 365) (sm am k) (pY bg pd pt ((d - bg) / 365) pn) a9))) (by unfold chg; rw [if_pos c4]) ?_
    exact W.iret hx hb hr (fun t ht hW => ⟨rfl, ht⟩) (fun z h => nomatch h) dX0_chargeFor_8
set_option maxHeartbeats 4000000 in
set_option maxRecDepth 100000 in
theorem c_X0_rolledUp (l : Launch) (x9 r9 n9 : Nat) (hr9 : r9 ≤ 2000) (hn9 : n9 ≤ 15000) (hx9 : ∀ j, j ≤ n9 → roll r9 x9 j * r9 < 9223372036854775808) : Met l yX0_rolledUp wsX0_rolledUp { frames := 0, cells := 0, slots := 0, locals := 0 } (nk_P0 [.long (lN x9), .int (nI r9), .int (nI n9)]) (nk_Rd (some (.long (lN (roll r9 x9 n9))))) 0 0 (fun _ => False) := by
  refine Met.ofW (cc := cX0_rolledUp) (maxL := 9) (ret := (some .long)) (by decide) rfl ?_
  intro p e s m args below meth c s₁ B hml hv
  obtain ⟨hargs, -⟩ := hv
  have hx := B.exec
  have hb := B.bytes
  have hr := B.returns
  have hts := atoms_spec (ws := wsX0_rolledUp) B.pre
  have hown : s.vm.findClass RX0 = some m.cls := findClass_of_methodNamed B.named
  have hlocks := B.notSynchronized
  have k174 : (Cond.constantLong RX0 174 (lN 3650000)).before args s = true := by
    rw [show (lN 3650000 : Int64) = 3650000 from by decide +kernel]
    exact hts (.constantLong RX0 174 (3650000)) (by decide +kernel)
  have hl := lv_entry ([.long (lN x9), .int (nI r9), .int (nI n9)]) (n := 9) (Nat.le_of_ble_eq_true rfl)
  have hEe : entryFrame m args 9 = entryFrame m ([.long (lN x9), .int (nI r9), .int (nI n9)] : List Value).toArray 9 := by rw [hargs]
  rw [hEe, lg_entry_eq]
  generalize (lg_sl ([.long (lN x9), .int (nI r9), .int (nI n9)]) ++ List.replicate (9 - (lg_sl ([.long (lN x9), .int (nI r9), .int (nI n9)])).length) Slot.unset).toArray = ls at hl ⊢
  have hl : lv_has ls 9 [(0, .long (lN x9)), (2, .int (nI r9)), (3, .int (nI n9))] := hl
  refine lv_lload_n hx hb dX0_rolledUp_0 rfl (lv_at hl 0 rfl) ?_
  refine lv_lstore (lv' := [(4, .long (lN x9)), (0, .long (lN x9)), (2, .int (nI r9)), (3, .int (nI n9))]) hx hb dX0_rolledUp_1 hl (by decide) rfl (fun ls hl => ?_)
  refine lv_iconst (v := nI 0) hx hb dX0_rolledUp_3 (by decide +kernel) ?_
  refine lv_istore (lv' := [(6, .int (nI 0)), (4, .long (lN x9)), (0, .long (lN x9)), (2, .int (nI r9)), (3, .int (nI n9))]) hx hb dX0_rolledUp_4 hl (by decide) rfl (fun ls hl => ?_)
  have loop6 : ∀ (n : Nat) (i : Nat), (i ≤ n9) → n9 + 1 ≤ i + n → ∀ ls : Array Slot, lv_has ls 9 [(0, .long (lN x9)), (2, .int (nI r9)), (3, .int (nI n9)), (4, .long (lN (roll r9 x9 i))), (6, .int (nI i))] → W p l e (headSpec wsX0_rolledUp { frames := 0, cells := 0, slots := 0, locals := 0 }).room s m args below meth c s.heap [] 0 0 (MQ below (nk_Rd (some (.long (lN (roll r9 x9 n9))))) args s 0 0 (fun _ => False)) (F0 m 6 ls []) := by
    intro n
    induction n with
    | zero =>
      intro i hi hm
      exfalso; omega
    | succ n ih6 =>
      intro i hi hm ls hl
      refine lv_iload hx hb dX0_rolledUp_6 (lv_at hl 4 rfl) ?_
      refine lv_iload_n hx hb dX0_rolledUp_8 rfl (lv_at hl 2 rfl) ?_
      refine nk_icmp_ge (tgt := 46) hx hb (by omega) (by omega) dX0_rolledUp_9 (by decide) (fun c9 => ?_) (fun c9 => ?_)
      · refine lv_lload hx hb dX0_rolledUp_46 (lv_at hl 3 rfl) ?_
        refine nk_topl (y := (lN (roll r9 x9 n9))) (by rw [show i = n9 from by omega]) ?_
        exact W.lret hx hb hr (fun t ht hW => ⟨rfl, ht⟩) (fun z h => nomatch h) dX0_rolledUp_48
      · have hx1 := hx9 i hi
        refine lv_lload hx hb dX0_rolledUp_12 (lv_at hl 3 rfl) ?_
        refine lv_iload_n hx hb dX0_rolledUp_14 rfl (lv_at hl 1 rfl) ?_
        refine nk_i2l hx hb (by omega) dX0_rolledUp_15 ?_
        refine nk_lmul hx hb dX0_rolledUp_16 ?_
        refine lv_ldc2 (v := lN 3650000) hx hb hown k174 dX0_rolledUp_17 ?_
        refine nk_ldiv hx hb (by omega) (by decide) (by decide) dX0_rolledUp_20 ?_
        refine lv_lstore (lv' := [(7, .long (lN (((roll r9 x9 i) * r9) / 3650000))), (0, .long (lN x9)), (2, .int (nI r9)), (3, .int (nI n9)), (4, .long (lN (roll r9 x9 i))), (6, .int (nI i))]) hx hb dX0_rolledUp_21 hl (by decide) rfl (fun ls hl => ?_)
        refine lv_lload hx hb dX0_rolledUp_23 (lv_at hl 0 rfl) ?_
        refine lv_lconst (v := lN 0) hx hb dX0_rolledUp_25 (by decide +kernel) ?_
        refine nk_lcmp_ne (tgt := 33) hx hb (by omega) (by omega) dX0_rolledUp_26 dX0_rolledUp_27 (by decide) (fun c26 => ?_) (fun c26 => ?_)
        · refine lv_lload hx hb dX0_rolledUp_33 (lv_at hl 4 rfl) ?_
          refine lv_lload hx hb dX0_rolledUp_35 (lv_at hl 0 rfl) ?_
          refine nk_ladd hx hb dX0_rolledUp_37 ?_
          refine lv_lstore (lv' := [(4, .long (lN ((roll r9 x9 i) + (((roll r9 x9 i) * r9) / 3650000)))), (7, .long (lN (((roll r9 x9 i) * r9) / 3650000))), (0, .long (lN x9)), (2, .int (nI r9)), (3, .int (nI n9)), (6, .int (nI i))]) hx hb dX0_rolledUp_38 hl (by decide) rfl (fun ls hl => ?_)
          refine lv_iinc (v := (nI (i + 1))) (lv' := [(6, .int (nI (i + 1))), (4, .long (lN ((roll r9 x9 i) + (((roll r9 x9 i) * r9) / 3650000)))), (7, .long (lN (((roll r9 x9 i) * r9) / 3650000))), (0, .long (lN x9)), (2, .int (nI r9)), (3, .int (nI n9))]) hx hb dX0_rolledUp_40 hl (k := 5) rfl (nI_1 _) (by decide) rfl (fun ls hl => ?_)
          refine lv_goto (tgt := 6) hx hb dX0_rolledUp_43 (by decide) ?_
          have q9 : ((lN (roll r9 x9 (i + 1)))) = ((lN ((roll r9 x9 i) + (((roll r9 x9 i) * r9) / 3650000)))) := rfl
          have hl : lv_has ls 9 [(0, .long (lN x9)), (2, .int (nI r9)), (3, .int (nI n9)), (4, .long (lN (roll r9 x9 (i + 1)))), (6, .int (nI (i + 1)))] := by
            rw [q9]
            exact lv_sub hl [3, 4, 5, 1, 0] rfl
          exact ih6 (i + 1) (by omega) (by omega) ls hl
        · refine lv_goto (tgt := 46) hx hb dX0_rolledUp_30 (by decide) ?_
          refine lv_lload hx hb dX0_rolledUp_46 (lv_at hl 4 rfl) ?_
          refine nk_topl (y := (lN (roll r9 x9 n9))) (by rw [show n9 = i + (n9 - i) from by omega, roll_stop c26]) ?_
          exact W.lret hx hb hr (fun t ht hW => ⟨rfl, ht⟩) (fun z h => nomatch h) dX0_rolledUp_48
  exact loop6 (n9 + 1) 0 (by omega) (by omega) ls (lv_sub hl [2, 3, 4, 1, 0] rfl)
set_option maxHeartbeats 4000000 in
set_option maxRecDepth 100000 in
theorem c_X0_balanceAnew (l : Launch) (D : va_G) (h0 h1 h2 h3 h4 h5 h6 h7 h8 h9 : Nat) (cI cJ : ClassId) (d r lc bg w rm k pn : Nat) (fa e1 am dd rt b pd pt tp : Nat → Nat) (q9 : Nat) (hpn : pn ≤ 40) (hq : q9 < 20) (hlc : lc ≤ 2) (he : ∀ j, j < lc → e1 j ≤ 15001) (hd : d ≤ 15000) (ham : am q9 ≤ 10000000) (hrt : rt q9 ≤ 2000) (hdd : dd q9 ≤ 15000) (hpd : ∀ j, j < pn → pd j ≤ 15000) (hh1 : ∀ j, j < pn → 0 < tp (q9 * 40 + j) → (hX am dd rt pd tp q9 j).2 ≤ pd j ∧ tp (q9 * 40 + j) ≤ roll (rt q9) (hX am dd rt pd tp q9 j).1 (pd j - (hX am dd rt pd tp q9 j).2)) (hh2 : (hX am dd rt pd tp q9 pn).2 ≤ dyE d lc e1) (hh3 : ∀ j, j ≤ pn → (hX am dd rt pd tp q9 j).2 ≤ 15000 ∧ ∀ i, (hX am dd rt pd tp q9 j).2 + i ≤ 15000 → roll (rt q9) (hX am dd rt pd tp q9 j).1 i * rt q9 < 9223372036854775808) (htp : ∀ j, j < pn → tp (q9 * 40 + j) < 4611686018427387904) : Met l yX0_balanceAnew wsX0_balanceAnew { frames := 2, cells := 0, slots := 0, locals := 46 } (nk_Pr D (wX h0 h1 h2 h3 h4 h5 h6 h7 h8 h9 cI cJ d r lc bg w rm k pn fa e1 am dd rt b pd pt tp) (tX cI cJ) [.ref h0, .int (nI q9)]) (nk_Rd (some (.long (lN (anw am dd rt pd tp (dyE d lc e1) pn q9))))) 0 0 (fun _ => False) := by
  refine Met.ofW (cc := cX0_balanceAnew) (maxL := 8) (ret := (some .long)) (by decide) rfl ?_
  intro p e s m args below meth c s₁ B hml hv
  obtain ⟨hargs, hP, hK⟩ := hv
  have hx := B.exec
  have hb := B.bytes
  have hr := B.returns
  have hts := atoms_spec (ws := wsX0_balanceAnew) B.pre
  have hown : s.vm.findClass RX0 = some m.cls := findClass_of_methodNamed B.named
  have hlocks := B.notSynchronized
  have hin : ∀ w ∈ wsX00, w ∈ wsX0_balanceAnew := by decide +kernel
  have f20 := hts (.fieldLink RX0 20 "EquityRelease" "drawnAmounts" "[I") (by decide +kernel)
  have k172 : (Cond.constantLong RX0 172 (lN 10000)).before args s = true := by
    rw [show (lN 10000 : Int64) = 10000 from by decide +kernel]
    exact hts (.constantLong RX0 172 (10000)) (by decide +kernel)
  have f23 := hts (.fieldLink RX0 23 "EquityRelease" "drawnDays" "[I") (by decide +kernel)
  have f98 := hts (.fieldLink RX0 98 "EquityRelease" "paymentCount" "I") (by decide +kernel)
  have f53 := hts (.fieldLink RX0 53 "EquityRelease" "today" "I") (by decide +kernel)
  have f26 := hts (.fieldLink RX0 26 "EquityRelease" "drawnRates" "[I") (by decide +kernel)
  have f39 := hts (.fieldLink RX0 39 "EquityRelease" "takenParts" "[J") (by decide +kernel)
  have f33 := hts (.fieldLink RX0 33 "EquityRelease" "paidDays" "[I") (by decide +kernel)
  have hl := lv_entry ([.ref h0, .int (nI q9)]) (n := 8) (Nat.le_of_ble_eq_true rfl)
  have hEe : entryFrame m args 8 = entryFrame m ([.ref h0, .int (nI q9)] : List Value).toArray 8 := by rw [hargs]
  rw [hEe, lg_entry_eq]
  generalize (lg_sl ([.ref h0, .int (nI q9)]) ++ List.replicate (8 - (lg_sl ([.ref h0, .int (nI q9)])).length) Slot.unset).toArray = ls at hl ⊢
  have hl : lv_has ls 8 [(0, .ref h0), (1, .int (nI q9))] := hl
  refine lv_aload_n hx hb dX0_balanceAnew_0 rfl (lv_at hl 0 rfl) ?_
  refine va_get (D := D) (ci := 0) (v := .ref h3) (C := RX0) (T := TX0) (N := 17) hx hb hts hin hown hK hP 0 rfl rfl 9 (by decide) f20 (fun _ h9 => h9) rfl dX0_balanceAnew_1 ?_
  refine lv_iload_n hx hb dX0_balanceAnew_4 rfl (lv_at hl 1 rfl) ?_
  refine nk_iald hx hb hK hP 3 0 rfl rfl (by omega) (by decide) dX0_balanceAnew_5 ?_
  refine nk_i2l hx hb (by omega) dX0_balanceAnew_6 ?_
  refine lv_ldc2 (v := lN 10000) hx hb hown k172 dX0_balanceAnew_7 ?_
  refine nk_lmul hx hb dX0_balanceAnew_10 ?_
  refine lv_lstore_n (lv' := [(2, .long (lN ((am q9) * 10000))), (0, .ref h0), (1, .int (nI q9))]) hx hb dX0_balanceAnew_11 rfl hl (by decide) rfl (fun ls hl => ?_)
  refine lv_aload_n hx hb dX0_balanceAnew_12 rfl (lv_at hl 1 rfl) ?_
  refine va_get (D := D) (ci := 0) (v := .ref h4) (C := RX0) (T := TX0) (N := 17) hx hb hts hin hown hK hP 0 rfl rfl 10 (by decide) f23 (fun _ h9 => h9) rfl dX0_balanceAnew_13 ?_
  refine lv_iload_n hx hb dX0_balanceAnew_16 rfl (lv_at hl 2 rfl) ?_
  refine nk_iald hx hb hK hP 4 0 rfl rfl (by omega) (by decide) dX0_balanceAnew_17 ?_
  refine lv_istore (lv' := [(4, .int (nI (dd q9))), (2, .long (lN ((am q9) * 10000))), (0, .ref h0), (1, .int (nI q9))]) hx hb dX0_balanceAnew_18 hl (by decide) rfl (fun ls hl => ?_)
  refine lv_iconst (v := nI 0) hx hb dX0_balanceAnew_20 (by decide +kernel) ?_
  refine lv_istore (lv' := [(5, .int (nI 0)), (4, .int (nI (dd q9))), (2, .long (lN ((am q9) * 10000))), (0, .ref h0), (1, .int (nI q9))]) hx hb dX0_balanceAnew_21 hl (by decide) rfl (fun ls hl => ?_)
  have loop23 : ∀ (n : Nat) (j : Nat), (j ≤ pn) → pn + 1 ≤ j + n → ∀ ls : Array Slot, lv_has ls 8 [(0, .ref h0), (1, .int (nI q9)), (2, .long (lN ((hX am dd rt pd tp q9 j).1))), (4, .int (nI ((hX am dd rt pd tp q9 j).2))), (5, .int (nI j))] → W p l e (headSpec wsX0_balanceAnew { frames := 2, cells := 0, slots := 0, locals := 46 }).room s m args below meth c s.heap [] 0 0 (MQ below (nk_Rd (some (.long (lN (anw am dd rt pd tp (dyE d lc e1) pn q9))))) args s 0 0 (fun _ => False)) (F0 m 23 ls []) := by
    intro n
    induction n with
    | zero =>
      intro j hj hm
      exfalso; omega
    | succ n ih23 =>
      intro j hj hm ls hl
      refine lv_iload hx hb dX0_balanceAnew_23 (lv_at hl 4 rfl) ?_
      refine lv_aload_n hx hb dX0_balanceAnew_25 rfl (lv_at hl 0 rfl) ?_
      refine va_get (D := D) (ci := 0) (v := .int (nI pn)) (C := RX0) (T := TX0) (N := 17) hx hb hts hin hown hK hP 0 rfl rfl 13 (by decide) f98 (fun _ h9 => h9) rfl dX0_balanceAnew_26 ?_
      refine nk_icmp_ge (tgt := 92) hx hb (by omega) (by omega) dX0_balanceAnew_29 (by decide) (fun c29 => ?_) (fun c29 => ?_)
      · have e9 : j = pn := by omega
        rw [e9] at hl
        have hg2 := hh3 pn (Nat.le_refl _)
        have hm1 := mxE_le (f := e1) (M := 15001) lc he
        refine lv_aload_n hx hb dX0_balanceAnew_92 rfl (lv_at hl 0 rfl) ?_
        refine nk_rd (W.runV (As := []) (rest := []) ⟨hx, hb, hml, hown, hts⟩ (c_X0_hasEnded l D h0 h1 h2 h3 h4 h5 h6 h7 h8 h9 cI cJ d r lc bg w rm k pn fa e1 am dd rt b pd pt tp hlc he) (cwV 0 hts gX0_balanceAnew_X0_hasEnded rfl rfl rfl (by decide +kernel) ⟨Nat.le_of_ble_eq_true rfl, Nat.le_of_ble_eq_true rfl⟩) ⟨nk_Pr.blind, va_recv hK hP (ci := 0) (q0 := 0) rfl rfl, fun U hU hW => ⟨rfl, by rw [hU]; exact hP, va_K.moved hW.alike hK⟩⟩ rfl rfl hl.1 rfl (lv_room (Nat.le_of_ble_eq_true rfl)) dX0_balanceAnew_93 ⟨Nat.zero_le _, Nat.zero_le _⟩) ?_
        refine W.eq (g2 := F0 m 96 ls [.int (nI (if 0 < lc ∧ alive e1 lc = 0 then 1 else 0))]) rfl ?_
        refine nk_bif_eq (tgt := 106) hx hb dX0_balanceAnew_96 (by decide) (fun c96 => ?_) (fun c96 => ?_)
        · refine lv_aload_n hx hb dX0_balanceAnew_106 rfl (lv_at hl 0 rfl) ?_
          refine va_get (D := D) (ci := 0) (v := .int (nI d)) (C := RX0) (T := TX0) (N := 17) hx hb hts hin hown hK hP 0 rfl rfl 0 (by decide) f53 (fun _ h9 => h9) rfl dX0_balanceAnew_107 ?_
          have hdy : dyE d lc e1 = d := by unfold dyE; rw [if_neg c96]
          refine nk_topi (y := nI (dyE d lc e1)) (by rw [hdy]) ?_
          refine lv_istore (lv' := [(5, .int (nI (dyE d lc e1))), (0, .ref h0), (1, .int (nI q9)), (2, .long (lN ((hX am dd rt pd tp q9 pn).1))), (4, .int (nI ((hX am dd rt pd tp q9 pn).2)))]) hx hb dX0_balanceAnew_110 hl (by decide) rfl (fun ls hl => ?_)
          refine lv_lload_n hx hb dX0_balanceAnew_112 rfl (lv_at hl 3 rfl) ?_
          refine lv_aload_n hx hb dX0_balanceAnew_113 rfl (lv_at hl 1 rfl) ?_
          refine va_get (D := D) (ci := 0) (v := .ref h5) (C := RX0) (T := TX0) (N := 17) hx hb hts hin hown hK hP 0 rfl rfl 11 (by decide) f26 (fun _ h9 => h9) rfl dX0_balanceAnew_114 ?_
          refine lv_iload_n hx hb dX0_balanceAnew_117 rfl (lv_at hl 2 rfl) ?_
          refine nk_iald hx hb hK hP 5 0 rfl rfl (by omega) (by decide) dX0_balanceAnew_118 ?_
          refine lv_iload hx hb dX0_balanceAnew_119 (lv_at hl 0 rfl) ?_
          refine lv_iload hx hb dX0_balanceAnew_121 (lv_at hl 4 rfl) ?_
          refine nk_isub hx hb (by omega) dX0_balanceAnew_123 ?_
          refine nk_rd (W.runS (As := [.long (lN ((hX am dd rt pd tp q9 pn).1)), .int (nI (rt q9)), .int (nI ((dyE d lc e1) - ((hX am dd rt pd tp q9 pn).2)))]) (rest := []) ⟨hx, hb, hml, hown, hts⟩ (c_X0_rolledUp l ((hX am dd rt pd tp q9 pn).1) (rt q9) ((dyE d lc e1) - ((hX am dd rt pd tp q9 pn).2)) hrt (by omega) (fun i hi => hg2.2 i (by omega))) (va_cwS 3 hts gX0_balanceAnew_X0_rolledUp rfl rfl rfl (by decide +kernel) ⟨Nat.le_of_ble_eq_true rfl, Nat.le_of_ble_eq_true rfl⟩) ⟨nk_P0.blind, fun U hU hW => ⟨rfl, trivial⟩⟩ rfl rfl hl.1 rfl (lv_room (Nat.le_of_ble_eq_true rfl)) dX0_balanceAnew_124 ⟨Nat.zero_le _, Nat.zero_le _⟩) ?_
          refine W.eq (g2 := F0 m 127 ls [.long (lN (roll (rt q9) ((hX am dd rt pd tp q9 pn).1) ((dyE d lc e1) - ((hX am dd rt pd tp q9 pn).2))))]) rfl ?_
          refine nk_topl (y := (lN (anw am dd rt pd tp (dyE d lc e1) pn q9))) rfl ?_
          exact W.lret hx hb hr (fun t ht hW => ⟨rfl, ht⟩) (fun z h => nomatch h) dX0_balanceAnew_127
        · refine lv_aload_n hx hb dX0_balanceAnew_99 rfl (lv_at hl 0 rfl) ?_
          refine nk_rd (W.runV (As := []) (rest := []) ⟨hx, hb, hml, hown, hts⟩ (c_X0_lastEndDay l D h0 h1 h2 h3 h4 h5 h6 h7 h8 h9 cI cJ d r lc bg w rm k pn fa e1 am dd rt b pd pt tp hlc he) (cwV 0 hts gX0_balanceAnew_X0_lastEndDay rfl rfl rfl (by decide +kernel) ⟨Nat.le_of_ble_eq_true rfl, Nat.le_of_ble_eq_true rfl⟩) ⟨nk_Pr.blind, va_recv hK hP (ci := 0) (q0 := 0) rfl rfl, fun U hU hW => ⟨rfl, by rw [hU]; exact hP, va_K.moved hW.alike hK⟩⟩ rfl rfl hl.1 rfl (lv_room (Nat.le_of_ble_eq_true rfl)) dX0_balanceAnew_100 ⟨Nat.zero_le _, Nat.zero_le _⟩) ?_
          refine W.eq (g2 := F0 m 103 ls [.int (nI (mxE e1 lc) - 1)]) rfl ?_
          have hm2 := mxE_pos c96.1 c96.2
          have hdy : dyE d lc e1 = mxE e1 lc - 1 := by unfold dyE; rw [if_pos c96]
          refine nk_topi (y := nI (dyE d lc e1)) (by rw [hdy]; exact nk_e1 hm2) ?_
          refine lv_goto (tgt := 110) hx hb dX0_balanceAnew_103 (by decide) ?_
          refine lv_istore (lv' := [(5, .int (nI (dyE d lc e1))), (0, .ref h0), (1, .int (nI q9)), (2, .long (lN ((hX am dd rt pd tp q9 pn).1))), (4, .int (nI ((hX am dd rt pd tp q9 pn).2)))]) hx hb dX0_balanceAnew_110 hl (by decide) rfl (fun ls hl => ?_)
          refine lv_lload_n hx hb dX0_balanceAnew_112 rfl (lv_at hl 3 rfl) ?_
          refine lv_aload_n hx hb dX0_balanceAnew_113 rfl (lv_at hl 1 rfl) ?_
          refine va_get (D := D) (ci := 0) (v := .ref h5) (C := RX0) (T := TX0) (N := 17) hx hb hts hin hown hK hP 0 rfl rfl 11 (by decide) f26 (fun _ h9 => h9) rfl dX0_balanceAnew_114 ?_
          refine lv_iload_n hx hb dX0_balanceAnew_117 rfl (lv_at hl 2 rfl) ?_
          refine nk_iald hx hb hK hP 5 0 rfl rfl (by omega) (by decide) dX0_balanceAnew_118 ?_
          refine lv_iload hx hb dX0_balanceAnew_119 (lv_at hl 0 rfl) ?_
          refine lv_iload hx hb dX0_balanceAnew_121 (lv_at hl 4 rfl) ?_
          refine nk_isub hx hb (by omega) dX0_balanceAnew_123 ?_
          refine nk_rd (W.runS (As := [.long (lN ((hX am dd rt pd tp q9 pn).1)), .int (nI (rt q9)), .int (nI ((dyE d lc e1) - ((hX am dd rt pd tp q9 pn).2)))]) (rest := []) ⟨hx, hb, hml, hown, hts⟩ (c_X0_rolledUp l ((hX am dd rt pd tp q9 pn).1) (rt q9) ((dyE d lc e1) - ((hX am dd rt pd tp q9 pn).2)) hrt (by omega) (fun i hi => hg2.2 i (by omega))) (va_cwS 3 hts gX0_balanceAnew_X0_rolledUp rfl rfl rfl (by decide +kernel) ⟨Nat.le_of_ble_eq_true rfl, Nat.le_of_ble_eq_true rfl⟩) ⟨nk_P0.blind, fun U hU hW => ⟨rfl, trivial⟩⟩ rfl rfl hl.1 rfl (lv_room (Nat.le_of_ble_eq_true rfl)) dX0_balanceAnew_124 ⟨Nat.zero_le _, Nat.zero_le _⟩) ?_
          refine W.eq (g2 := F0 m 127 ls [.long (lN (roll (rt q9) ((hX am dd rt pd tp q9 pn).1) ((dyE d lc e1) - ((hX am dd rt pd tp q9 pn).2))))]) rfl ?_
          refine nk_topl (y := (lN (anw am dd rt pd tp (dyE d lc e1) pn q9))) rfl ?_
          exact W.lret hx hb hr (fun t ht hW => ⟨rfl, ht⟩) (fun z h => nomatch h) dX0_balanceAnew_127
      · have ht1 := htp j (by omega)
        refine lv_aload_n hx hb dX0_balanceAnew_32 rfl (lv_at hl 0 rfl) ?_
        refine va_get (D := D) (ci := 0) (v := .ref h9) (C := RX0) (T := TX0) (N := 17) hx hb hts hin hown hK hP 0 rfl rfl 16 (by decide) f39 (fun _ h9 => h9) rfl dX0_balanceAnew_33 ?_
        refine lv_iload_n hx hb dX0_balanceAnew_36 rfl (lv_at hl 1 rfl) ?_
        refine lv_bipush (v := nI 40) hx hb dX0_balanceAnew_37 (by decide +kernel) ?_
        refine nk_imul hx hb dX0_balanceAnew_39 ?_
        refine lv_iload hx hb dX0_balanceAnew_40 (lv_at hl 4 rfl) ?_
        refine nk_iadd hx hb dX0_balanceAnew_42 ?_
        refine nk_lald hx hb hK hP 9 1 rfl rfl (by omega) (by decide) dX0_balanceAnew_43 ?_
        refine lv_lstore (lv' := [(6, .long (lN (tp ((q9 * 40) + j)))), (0, .ref h0), (1, .int (nI q9)), (2, .long (lN ((hX am dd rt pd tp q9 j).1))), (4, .int (nI ((hX am dd rt pd tp q9 j).2))), (5, .int (nI j))]) hx hb dX0_balanceAnew_44 hl (by decide) rfl (fun ls hl => ?_)
        refine lv_lload hx hb dX0_balanceAnew_46 (lv_at hl 0 rfl) ?_
        refine lv_lconst (v := lN 0) hx hb dX0_balanceAnew_48 (by decide +kernel) ?_
        refine nk_lcmp_le (tgt := 86) hx hb (by omega) (by omega) dX0_balanceAnew_49 dX0_balanceAnew_50 (by decide) (fun c49 => ?_) (fun c49 => ?_)
        · refine lv_iinc (v := (nI (j + 1))) (lv' := [(5, .int (nI (j + 1))), (6, .long (lN (tp ((q9 * 40) + j)))), (0, .ref h0), (1, .int (nI q9)), (2, .long (lN ((hX am dd rt pd tp q9 j).1))), (4, .int (nI ((hX am dd rt pd tp q9 j).2)))]) hx hb dX0_balanceAnew_86 hl (k := 5) rfl (nI_1 _) (by decide) rfl (fun ls hl => ?_)
          refine lv_goto (tgt := 23) hx hb dX0_balanceAnew_89 (by decide) ?_
          have q90 : ((lN ((hX am dd rt pd tp q9 (j + 1)).1))) = ((lN ((hX am dd rt pd tp q9 j).1))) := (by rw [hX_s, if_neg (by omega)])
          have q91 : ((nI ((hX am dd rt pd tp q9 (j + 1)).2))) = ((nI ((hX am dd rt pd tp q9 j).2))) := (by rw [hX_s, if_neg (by omega)])
          have hl : lv_has ls 8 [(0, .ref h0), (1, .int (nI q9)), (2, .long (lN ((hX am dd rt pd tp q9 (j + 1)).1))), (4, .int (nI ((hX am dd rt pd tp q9 (j + 1)).2))), (5, .int (nI (j + 1)))] := by
            rw [q90, q91]
            exact lv_sub hl [2, 3, 4, 5, 0] rfl
          exact ih23 (j + 1) (by omega) (by omega) ls hl
        · have hg1 := hh1 j (by omega) c49
          have hg2 := hh3 j (by omega)
          have hg3 := hpd j (by omega)
          refine lv_lload_n hx hb dX0_balanceAnew_53 rfl (lv_at hl 3 rfl) ?_
          refine lv_aload_n hx hb dX0_balanceAnew_54 rfl (lv_at hl 1 rfl) ?_
          refine va_get (D := D) (ci := 0) (v := .ref h5) (C := RX0) (T := TX0) (N := 17) hx hb hts hin hown hK hP 0 rfl rfl 11 (by decide) f26 (fun _ h9 => h9) rfl dX0_balanceAnew_55 ?_
          refine lv_iload_n hx hb dX0_balanceAnew_58 rfl (lv_at hl 2 rfl) ?_
          refine nk_iald hx hb hK hP 5 0 rfl rfl (by omega) (by decide) dX0_balanceAnew_59 ?_
          refine lv_aload_n hx hb dX0_balanceAnew_60 rfl (lv_at hl 1 rfl) ?_
          refine va_get (D := D) (ci := 0) (v := .ref h7) (C := RX0) (T := TX0) (N := 17) hx hb hts hin hown hK hP 0 rfl rfl 14 (by decide) f33 (fun _ h9 => h9) rfl dX0_balanceAnew_61 ?_
          refine lv_iload hx hb dX0_balanceAnew_64 (lv_at hl 5 rfl) ?_
          refine nk_iald hx hb hK hP 7 0 rfl rfl (by omega) (by decide) dX0_balanceAnew_66 ?_
          refine lv_iload hx hb dX0_balanceAnew_67 (lv_at hl 4 rfl) ?_
          refine nk_isub hx hb (by omega) dX0_balanceAnew_69 ?_
          refine nk_rd (W.runS (As := [.long (lN ((hX am dd rt pd tp q9 j).1)), .int (nI (rt q9)), .int (nI ((pd j) - ((hX am dd rt pd tp q9 j).2)))]) (rest := []) ⟨hx, hb, hml, hown, hts⟩ (c_X0_rolledUp l ((hX am dd rt pd tp q9 j).1) (rt q9) ((pd j) - ((hX am dd rt pd tp q9 j).2)) hrt (by omega) (fun i hi => hg2.2 i (by omega))) (va_cwS 3 hts gX0_balanceAnew_X0_rolledUp rfl rfl rfl (by decide +kernel) ⟨Nat.le_of_ble_eq_true rfl, Nat.le_of_ble_eq_true rfl⟩) ⟨nk_P0.blind, fun U hU hW => ⟨rfl, trivial⟩⟩ rfl rfl hl.1 rfl (lv_room (Nat.le_of_ble_eq_true rfl)) dX0_balanceAnew_70 ⟨Nat.zero_le _, Nat.zero_le _⟩) ?_
          refine W.eq (g2 := F0 m 73 ls [.long (lN (roll (rt q9) ((hX am dd rt pd tp q9 j).1) ((pd j) - ((hX am dd rt pd tp q9 j).2))))]) rfl ?_
          refine lv_lload hx hb dX0_balanceAnew_73 (lv_at hl 0 rfl) ?_
          refine nk_lsub hx hb hg1.2 dX0_balanceAnew_75 ?_
          refine lv_lstore_n (lv' := [(2, .long (lN ((roll (rt q9) ((hX am dd rt pd tp q9 j).1) ((pd j) - ((hX am dd rt pd tp q9 j).2))) - (tp ((q9 * 40) + j))))), (6, .long (lN (tp ((q9 * 40) + j)))), (0, .ref h0), (1, .int (nI q9)), (4, .int (nI ((hX am dd rt pd tp q9 j).2))), (5, .int (nI j))]) hx hb dX0_balanceAnew_76 rfl hl (by decide) rfl (fun ls hl => ?_)
          refine lv_aload_n hx hb dX0_balanceAnew_77 rfl (lv_at hl 2 rfl) ?_
          refine va_get (D := D) (ci := 0) (v := .ref h7) (C := RX0) (T := TX0) (N := 17) hx hb hts hin hown hK hP 0 rfl rfl 14 (by decide) f33 (fun _ h9 => h9) rfl dX0_balanceAnew_78 ?_
          refine lv_iload hx hb dX0_balanceAnew_81 (lv_at hl 5 rfl) ?_
          refine nk_iald hx hb hK hP 7 0 rfl rfl (by omega) (by decide) dX0_balanceAnew_83 ?_
          refine lv_istore (lv' := [(4, .int (nI (pd j))), (2, .long (lN ((roll (rt q9) ((hX am dd rt pd tp q9 j).1) ((pd j) - ((hX am dd rt pd tp q9 j).2))) - (tp ((q9 * 40) + j))))), (6, .long (lN (tp ((q9 * 40) + j)))), (0, .ref h0), (1, .int (nI q9)), (5, .int (nI j))]) hx hb dX0_balanceAnew_84 hl (by decide) rfl (fun ls hl => ?_)
          refine lv_iinc (v := (nI (j + 1))) (lv' := [(5, .int (nI (j + 1))), (4, .int (nI (pd j))), (2, .long (lN ((roll (rt q9) ((hX am dd rt pd tp q9 j).1) ((pd j) - ((hX am dd rt pd tp q9 j).2))) - (tp ((q9 * 40) + j))))), (6, .long (lN (tp ((q9 * 40) + j)))), (0, .ref h0), (1, .int (nI q9))]) hx hb dX0_balanceAnew_86 hl (k := 5) rfl (nI_1 _) (by decide) rfl (fun ls hl => ?_)
          refine lv_goto (tgt := 23) hx hb dX0_balanceAnew_89 (by decide) ?_
          have q90 : ((lN ((hX am dd rt pd tp q9 (j + 1)).1))) = ((lN ((roll (rt q9) ((hX am dd rt pd tp q9 j).1) ((pd j) - ((hX am dd rt pd tp q9 j).2))) - (tp ((q9 * 40) + j))))) := (by rw [hX_s, if_pos c49])
          have q91 : ((nI ((hX am dd rt pd tp q9 (j + 1)).2))) = ((nI (pd j))) := (by rw [hX_s, if_pos c49])
          have hl : lv_has ls 8 [(0, .ref h0), (1, .int (nI q9)), (2, .long (lN ((hX am dd rt pd tp q9 (j + 1)).1))), (4, .int (nI ((hX am dd rt pd tp q9 (j + 1)).2))), (5, .int (nI (j + 1)))] := by
            rw [q90, q91]
            exact lv_sub hl [4, 5, 2, 1, 0] rfl
          exact ih23 (j + 1) (by omega) (by omega) ls hl
  exact loop23 (pn + 1) 0 (by omega) (by omega) ls (lv_sub hl [3, 4, 2, 1, 0] rfl)
set_option maxHeartbeats 4000000 in
set_option maxRecDepth 100000 in
theorem c_X0_debtAnew (l : Launch) (D : va_G) (h0 h1 h2 h3 h4 h5 h6 h7 h8 h9 : Nat) (cI cJ : ClassId) (d r lc bg w rm k pn : Nat) (fa e1 am dd rt b pd pt tp : Nat → Nat)  (hpn : pn ≤ 40) (hk : k ≤ 20) (hlc : lc ≤ 2) (he : ∀ j, j < lc → e1 j ≤ 15001) (hd : d ≤ 15000) (ham : ∀ j, j < k → am j ≤ 10000000) (hrt : ∀ j, j < k → rt j ≤ 2000) (hdd : ∀ j, j < k → dd j ≤ 15000) (hpd : ∀ j, j < pn → pd j ≤ 15000) (hh1 : ∀ q9, q9 < k → ∀ j, j < pn → 0 < tp (q9 * 40 + j) → (hX am dd rt pd tp q9 j).2 ≤ pd j ∧ tp (q9 * 40 + j) ≤ roll (rt q9) (hX am dd rt pd tp q9 j).1 (pd j - (hX am dd rt pd tp q9 j).2)) (hh2 : ∀ q9, q9 < k → (hX am dd rt pd tp q9 pn).2 ≤ dyE d lc e1) (hh3 : ∀ q9, q9 < k → ∀ j, j ≤ pn → (hX am dd rt pd tp q9 j).2 ≤ 15000 ∧ ∀ i, (hX am dd rt pd tp q9 j).2 + i ≤ 15000 → roll (rt q9) (hX am dd rt pd tp q9 j).1 i * rt q9 < 9223372036854775808) (htp : ∀ q9, q9 < k → ∀ j, j < pn → tp (q9 * 40 + j) < 4611686018427387904) (hsa : sm (anw am dd rt pd tp (dyE d lc e1) pn) k < 4611686018427387904) : Met l yX0_debtAnew wsX0_debtAnew { frames := 3, cells := 0, slots := 0, locals := 73 } (nk_Pr D (wX h0 h1 h2 h3 h4 h5 h6 h7 h8 h9 cI cJ d r lc bg w rm k pn fa e1 am dd rt b pd pt tp) (tX cI cJ) [.ref h0]) (nk_Rd (some (.long (lN (ceilA (sm (anw am dd rt pd tp (dyE d lc e1) pn) k)))))) 0 0 (fun _ => False) := by
  refine Met.ofW (cc := cX0_debtAnew) (maxL := 4) (ret := (some .long)) (by decide) rfl ?_
  intro p e s m args below meth c s₁ B hml hv
  obtain ⟨hargs, hP, hK⟩ := hv
  have hx := B.exec
  have hb := B.bytes
  have hr := B.returns
  have hts := atoms_spec (ws := wsX0_debtAnew) B.pre
  have hown : s.vm.findClass RX0 = some m.cls := findClass_of_methodNamed B.named
  have hlocks := B.notSynchronized
  have hin : ∀ w ∈ wsX00, w ∈ wsX0_debtAnew := by decide +kernel
  have f89 := hts (.fieldLink RX0 89 "EquityRelease" "drawingCount" "I") (by decide +kernel)
  have hl := lv_entry ([.ref h0]) (n := 4) (Nat.le_of_ble_eq_true rfl)
  have hEe : entryFrame m args 4 = entryFrame m ([.ref h0] : List Value).toArray 4 := by rw [hargs]
  rw [hEe, lg_entry_eq]
  generalize (lg_sl ([.ref h0]) ++ List.replicate (4 - (lg_sl ([.ref h0])).length) Slot.unset).toArray = ls at hl ⊢
  have hl : lv_has ls 4 [(0, .ref h0)] := hl
  refine lv_lconst (v := lN 0) hx hb dX0_debtAnew_0 (by decide +kernel) ?_
  refine lv_lstore_n (lv' := [(1, .long (lN 0)), (0, .ref h0)]) hx hb dX0_debtAnew_1 rfl hl (by decide) rfl (fun ls hl => ?_)
  refine lv_iconst (v := nI 0) hx hb dX0_debtAnew_2 (by decide +kernel) ?_
  refine lv_istore_n (lv' := [(3, .int (nI 0)), (1, .long (lN 0)), (0, .ref h0)]) hx hb dX0_debtAnew_3 rfl hl (by decide) rfl (fun ls hl => ?_)
  have loop4 : ∀ (n : Nat) (i : Nat), (i ≤ k) → k + 1 ≤ i + n → ∀ ls : Array Slot, lv_has ls 4 [(0, .ref h0), (1, .long (lN (sm (anw am dd rt pd tp (dyE d lc e1) pn) i))), (3, .int (nI i))] → W p l e (headSpec wsX0_debtAnew { frames := 3, cells := 0, slots := 0, locals := 73 }).room s m args below meth c s.heap [] 0 0 (MQ below (nk_Rd (some (.long (lN (ceilA (sm (anw am dd rt pd tp (dyE d lc e1) pn) k)))))) args s 0 0 (fun _ => False)) (F0 m 4 ls []) := by
    intro n
    induction n with
    | zero =>
      intro i hi hm
      exfalso; omega
    | succ n ih4 =>
      intro i hi hm ls hl
      refine lv_iload_n hx hb dX0_debtAnew_4 rfl (lv_at hl 2 rfl) ?_
      refine lv_aload_n hx hb dX0_debtAnew_5 rfl (lv_at hl 0 rfl) ?_
      refine va_get (D := D) (ci := 0) (v := .int (nI k)) (C := RX0) (T := TX0) (N := 17) hx hb hts hin hown hK hP 0 rfl rfl 8 (by decide) f89 (fun _ h9 => h9) rfl dX0_debtAnew_6 ?_
      refine nk_icmp_ge (tgt := 26) hx hb (by omega) (by omega) dX0_debtAnew_9 (by decide) (fun c9 => ?_) (fun c9 => ?_)
      · have e9 : i = k := by omega
        rw [e9] at hl
        refine lv_lload_n hx hb dX0_debtAnew_26 rfl (lv_at hl 1 rfl) ?_
        refine nk_rd (W.runS (As := [.long (lN (sm (anw am dd rt pd tp (dyE d lc e1) pn) k))]) (rest := []) ⟨hx, hb, hml, hown, hts⟩ (c_X0_wholeAmount l (sm (anw am dd rt pd tp (dyE d lc e1) pn) k) (by omega)) (va_cwS 1 hts gX0_debtAnew_X0_wholeAmount rfl rfl rfl (by decide +kernel) ⟨Nat.le_of_ble_eq_true rfl, Nat.le_of_ble_eq_true rfl⟩) ⟨nk_P0.blind, fun U hU hW => ⟨rfl, trivial⟩⟩ rfl rfl hl.1 rfl (lv_room (Nat.le_of_ble_eq_true rfl)) dX0_debtAnew_27 ⟨Nat.zero_le _, Nat.zero_le _⟩) ?_
        refine W.eq (g2 := F0 m 30 ls [.long (lN (ceilA (sm (anw am dd rt pd tp (dyE d lc e1) pn) k)))]) rfl ?_
        exact W.lret hx hb hr (fun t ht hW => ⟨rfl, ht⟩) (fun z h => nomatch h) dX0_debtAnew_30
      · refine lv_lload_n hx hb dX0_debtAnew_12 rfl (lv_at hl 1 rfl) ?_
        refine lv_aload_n hx hb dX0_debtAnew_13 rfl (lv_at hl 0 rfl) ?_
        refine lv_iload_n hx hb dX0_debtAnew_14 rfl (lv_at hl 2 rfl) ?_
        refine nk_rd (W.runV (As := [.int (nI i)]) (rest := [.long (lN (sm (anw am dd rt pd tp (dyE d lc e1) pn) i))]) ⟨hx, hb, hml, hown, hts⟩ (c_X0_balanceAnew l D h0 h1 h2 h3 h4 h5 h6 h7 h8 h9 cI cJ d r lc bg w rm k pn fa e1 am dd rt b pd pt tp i hpn (by omega) hlc he hd (ham i (by omega)) (hrt i (by omega)) (hdd i (by omega)) hpd (hh1 i (by omega)) (hh2 i (by omega)) (hh3 i (by omega)) (htp i (by omega))) (cwV 1 hts gX0_debtAnew_X0_balanceAnew rfl rfl rfl (by decide +kernel) ⟨Nat.le_of_ble_eq_true rfl, Nat.le_of_ble_eq_true rfl⟩) ⟨nk_Pr.blind, va_recv hK hP (ci := 0) (q0 := 0) rfl rfl, fun U hU hW => ⟨rfl, by rw [hU]; exact hP, va_K.moved hW.alike hK⟩⟩ rfl rfl hl.1 rfl (lv_room (Nat.le_of_ble_eq_true rfl)) dX0_debtAnew_15 ⟨Nat.zero_le _, Nat.zero_le _⟩) ?_
        refine W.eq (g2 := F0 m 18 ls [.long (lN (anw am dd rt pd tp (dyE d lc e1) pn i)), .long (lN (sm (anw am dd rt pd tp (dyE d lc e1) pn) i))]) rfl ?_
        refine nk_ladd hx hb dX0_debtAnew_18 ?_
        refine lv_lstore_n (lv' := [(1, .long (lN ((sm (anw am dd rt pd tp (dyE d lc e1) pn) i) + (anw am dd rt pd tp (dyE d lc e1) pn i)))), (0, .ref h0), (3, .int (nI i))]) hx hb dX0_debtAnew_19 rfl hl (by decide) rfl (fun ls hl => ?_)
        refine lv_iinc (v := (nI (i + 1))) (lv' := [(3, .int (nI (i + 1))), (1, .long (lN ((sm (anw am dd rt pd tp (dyE d lc e1) pn) i) + (anw am dd rt pd tp (dyE d lc e1) pn i)))), (0, .ref h0)]) hx hb dX0_debtAnew_20 hl (k := 2) rfl (nI_1 _) (by decide) rfl (fun ls hl => ?_)
        refine lv_goto (tgt := 4) hx hb dX0_debtAnew_23 (by decide) ?_
        have q9 : ((lN (sm (anw am dd rt pd tp (dyE d lc e1) pn) (i + 1)))) = ((lN ((sm (anw am dd rt pd tp (dyE d lc e1) pn) i) + (anw am dd rt pd tp (dyE d lc e1) pn i)))) := rfl
        have hl : lv_has ls 4 [(0, .ref h0), (1, .long (lN (sm (anw am dd rt pd tp (dyE d lc e1) pn) (i + 1)))), (3, .int (nI (i + 1)))] := by
          rw [q9]
          exact lv_sub hl [2, 1, 0] rfl
        exact ih4 (i + 1) (by omega) (by omega) ls hl
  exact loop4 (k + 1) 0 (by omega) (by omega) ls (lv_sub hl [2, 1, 0] rfl)
set_option maxHeartbeats 4000000 in
set_option maxRecDepth 100000 in
theorem c_X0_owed (l : Launch) (D : va_G) (h0 h1 h2 h3 h4 h5 h6 h7 h8 h9 : Nat) (cI cJ : ClassId) (d r lc bg w rm k pn : Nat) (fa e1 am dd rt b pd pt tp : Nat → Nat)  (hk : k ≤ 20) (hbs : sm b k < 4611686018427387904) (hw : w ≤ 10000000) : Met l yX0_owed wsX0_owed { frames := 2, cells := 0, slots := 0, locals := 44 } (nk_Pr D (wX h0 h1 h2 h3 h4 h5 h6 h7 h8 h9 cI cJ d r lc bg w rm k pn fa e1 am dd rt b pd pt tp) (tX cI cJ) [.ref h0]) (nk_Rd (some (.long (lN (min (ceilA (sm b k)) w))))) 0 0 (fun _ => False) := by
  refine Met.ofW (cc := cX0_owed) (maxL := 1) (ret := (some .long)) (by decide) rfl ?_
  intro p e s m args below meth c s₁ B hml hv
  obtain ⟨hargs, hP, hK⟩ := hv
  have hx := B.exec
  have hb := B.bytes
  have hr := B.returns
  have hts := atoms_spec (ws := wsX0_owed) B.pre
  have hown : s.vm.findClass RX0 = some m.cls := findClass_of_methodNamed B.named
  have hlocks := B.notSynchronized
  have hin : ∀ w ∈ wsX00, w ∈ wsX0_owed := by decide +kernel
  have f77 := hts (.fieldLink RX0 77 "EquityRelease" "houseWorth" "I") (by decide +kernel)
  have hl := lv_entry ([.ref h0]) (n := 1) (Nat.le_of_ble_eq_true rfl)
  have hEe : entryFrame m args 1 = entryFrame m ([.ref h0] : List Value).toArray 1 := by rw [hargs]
  rw [hEe, lg_entry_eq]
  generalize (lg_sl ([.ref h0]) ++ List.replicate (1 - (lg_sl ([.ref h0])).length) Slot.unset).toArray = ls at hl ⊢
  have hl : lv_has ls 1 [(0, .ref h0)] := hl
  refine lv_aload_n hx hb dX0_owed_0 rfl (lv_at hl 0 rfl) ?_
  refine nk_rd (W.runV (As := []) (rest := []) ⟨hx, hb, hml, hown, hts⟩ (c_X0_debt l D h0 h1 h2 h3 h4 h5 h6 h7 h8 h9 cI cJ d r lc bg w rm k pn fa e1 am dd rt b pd pt tp hk hbs) (cwV 0 hts gX0_owed_X0_debt rfl rfl rfl (by decide +kernel) ⟨Nat.le_of_ble_eq_true rfl, Nat.le_of_ble_eq_true rfl⟩) ⟨nk_Pr.blind, va_recv hK hP (ci := 0) (q0 := 0) rfl rfl, fun U hU hW => ⟨rfl, by rw [hU]; exact hP, va_K.moved hW.alike hK⟩⟩ rfl rfl hl.1 rfl (lv_room (Nat.le_of_ble_eq_true rfl)) dX0_owed_1 ⟨Nat.zero_le _, Nat.zero_le _⟩) ?_
  refine W.eq (g2 := F0 m 4 ls [.long (lN (ceilA (sm b k)))]) rfl ?_
  refine lv_aload_n hx hb dX0_owed_4 rfl (lv_at hl 0 rfl) ?_
  refine va_get (D := D) (ci := 0) (v := .int (nI w)) (C := RX0) (T := TX0) (N := 17) hx hb hts hin hown hK hP 0 rfl rfl 6 (by decide) f77 (fun _ h9 => h9) rfl dX0_owed_5 ?_
  refine nk_i2l hx hb (by omega) dX0_owed_8 ?_
  have hc9 : ceilA (sm b k) < 4611686018427387904 := by unfold ceilA; omega
  refine va_mmin_long hx hb (hml.trans hl.1.symm) hown (hts (.methodLink RX0 155 Lib.MathLoose.min_long.x) (by decide +kernel)) (hts (.static Lib.MathLoose.min_long.x) (by decide +kernel)) (hts (.initialized "java/lang/Math") (by decide +kernel)) (hts (.code Lib.MathLoose.min_long.x Lib.MathLoose.min_long.code 4 (some .long)) (by decide +kernel)) (Nat.le_of_ble_eq_true rfl) (Nat.le_of_ble_eq_true rfl) (Nat.zero_le _) (Nat.zero_le _) dX0_owed_9 ?_
  refine nk_topl (y := (lN (min (ceilA (sm b k)) w))) (nk_minL (by omega) (by omega)) ?_
  exact W.lret hx hb hr (fun t ht hW => ⟨rfl, ht⟩) (fun z h => nomatch h) dX0_owed_12
set_option maxHeartbeats 4000000 in
set_option maxRecDepth 100000 in
theorem c_X0_spared (l : Launch) (D : va_G) (h0 h1 h2 h3 h4 h5 h6 h7 h8 h9 : Nat) (cI cJ : ClassId) (d r lc bg w rm k pn : Nat) (fa e1 am dd rt b pd pt tp : Nat → Nat)  (hk : k ≤ 20) (hbs : sm b k < 4611686018427387904) (hw : w ≤ 10000000) : Met l yX0_spared wsX0_spared { frames := 3, cells := 0, slots := 0, locals := 64 } (nk_Pr D (wX h0 h1 h2 h3 h4 h5 h6 h7 h8 h9 cI cJ d r lc bg w rm k pn fa e1 am dd rt b pd pt tp) (tX cI cJ) [.ref h0]) (nk_Rd (some (.long (lN (ceilA (sm b k) - min (ceilA (sm b k)) w))))) 0 0 (fun _ => False) := by
  refine Met.ofW (cc := cX0_spared) (maxL := 1) (ret := (some .long)) (by decide) rfl ?_
  intro p e s m args below meth c s₁ B hml hv
  obtain ⟨hargs, hP, hK⟩ := hv
  have hx := B.exec
  have hb := B.bytes
  have hr := B.returns
  have hts := atoms_spec (ws := wsX0_spared) B.pre
  have hown : s.vm.findClass RX0 = some m.cls := findClass_of_methodNamed B.named
  have hlocks := B.notSynchronized
  have hin : ∀ w ∈ wsX00, w ∈ wsX0_spared := by decide +kernel
  have hl := lv_entry ([.ref h0]) (n := 1) (Nat.le_of_ble_eq_true rfl)
  have hEe : entryFrame m args 1 = entryFrame m ([.ref h0] : List Value).toArray 1 := by rw [hargs]
  rw [hEe, lg_entry_eq]
  generalize (lg_sl ([.ref h0]) ++ List.replicate (1 - (lg_sl ([.ref h0])).length) Slot.unset).toArray = ls at hl ⊢
  have hl : lv_has ls 1 [(0, .ref h0)] := hl
  refine lv_aload_n hx hb dX0_spared_0 rfl (lv_at hl 0 rfl) ?_
  refine nk_rd (W.runV (As := []) (rest := []) ⟨hx, hb, hml, hown, hts⟩ (c_X0_debt l D h0 h1 h2 h3 h4 h5 h6 h7 h8 h9 cI cJ d r lc bg w rm k pn fa e1 am dd rt b pd pt tp hk hbs) (cwV 0 hts gX0_spared_X0_debt rfl rfl rfl (by decide +kernel) ⟨Nat.le_of_ble_eq_true rfl, Nat.le_of_ble_eq_true rfl⟩) ⟨nk_Pr.blind, va_recv hK hP (ci := 0) (q0 := 0) rfl rfl, fun U hU hW => ⟨rfl, by rw [hU]; exact hP, va_K.moved hW.alike hK⟩⟩ rfl rfl hl.1 rfl (lv_room (Nat.le_of_ble_eq_true rfl)) dX0_spared_1 ⟨Nat.zero_le _, Nat.zero_le _⟩) ?_
  refine W.eq (g2 := F0 m 4 ls [.long (lN (ceilA (sm b k)))]) rfl ?_
  refine lv_aload_n hx hb dX0_spared_4 rfl (lv_at hl 0 rfl) ?_
  refine nk_rd (W.runV (As := []) (rest := [.long (lN (ceilA (sm b k)))]) ⟨hx, hb, hml, hown, hts⟩ (c_X0_owed l D h0 h1 h2 h3 h4 h5 h6 h7 h8 h9 cI cJ d r lc bg w rm k pn fa e1 am dd rt b pd pt tp hk hbs hw) (cwV 0 hts gX0_spared_X0_owed rfl rfl rfl (by decide +kernel) ⟨Nat.le_of_ble_eq_true rfl, Nat.le_of_ble_eq_true rfl⟩) ⟨nk_Pr.blind, va_recv hK hP (ci := 0) (q0 := 0) rfl rfl, fun U hU hW => ⟨rfl, by rw [hU]; exact hP, va_K.moved hW.alike hK⟩⟩ rfl rfl hl.1 rfl (lv_room (Nat.le_of_ble_eq_true rfl)) dX0_spared_5 ⟨Nat.zero_le _, Nat.zero_le _⟩) ?_
  refine W.eq (g2 := F0 m 8 ls [.long (lN (min (ceilA (sm b k)) w)), .long (lN (ceilA (sm b k)))]) rfl ?_
  refine nk_lsub hx hb (Nat.min_le_left _ _) dX0_spared_8 ?_
  refine nk_topl (y := (lN (ceilA (sm b k) - min (ceilA (sm b k)) w))) rfl ?_
  exact W.lret hx hb hr (fun t ht hW => ⟨rfl, ht⟩) (fun z h => nomatch h) dX0_spared_9
set_option maxHeartbeats 4000000 in
set_option maxRecDepth 100000 in
theorem c_X0_day (l : Launch) (D : va_G) (h0 h1 h2 h3 h4 h5 h6 h7 h8 h9 : Nat) (cI cJ : ClassId) (d r lc bg w rm k pn : Nat) (fa e1 am dd rt b pd pt tp : Nat → Nat)   : Met l yX0_day wsX0_day { frames := 0, cells := 0, slots := 0, locals := 0 } (nk_Pr D (wX h0 h1 h2 h3 h4 h5 h6 h7 h8 h9 cI cJ d r lc bg w rm k pn fa e1 am dd rt b pd pt tp) (tX cI cJ) [.ref h0]) (nk_Rd (some (.int (nI d)))) 0 0 (fun _ => False) := by
  refine Met.ofW (cc := cX0_day) (maxL := 1) (ret := (some .int)) (by decide) rfl ?_
  intro p e s m args below meth c s₁ B hml hv
  obtain ⟨hargs, hP, hK⟩ := hv
  have hx := B.exec
  have hb := B.bytes
  have hr := B.returns
  have hts := atoms_spec (ws := wsX0_day) B.pre
  have hown : s.vm.findClass RX0 = some m.cls := findClass_of_methodNamed B.named
  have hlocks := B.notSynchronized
  have hin : ∀ w ∈ wsX00, w ∈ wsX0_day := by decide +kernel
  have f53 := hts (.fieldLink RX0 53 "EquityRelease" "today" "I") (by decide +kernel)
  have hl := lv_entry ([.ref h0]) (n := 1) (Nat.le_of_ble_eq_true rfl)
  have hEe : entryFrame m args 1 = entryFrame m ([.ref h0] : List Value).toArray 1 := by rw [hargs]
  rw [hEe, lg_entry_eq]
  generalize (lg_sl ([.ref h0]) ++ List.replicate (1 - (lg_sl ([.ref h0])).length) Slot.unset).toArray = ls at hl ⊢
  have hl : lv_has ls 1 [(0, .ref h0)] := hl
  refine lv_aload_n hx hb dX0_day_0 rfl (lv_at hl 0 rfl) ?_
  refine va_get (D := D) (ci := 0) (v := .int (nI d)) (C := RX0) (T := TX0) (N := 17) hx hb hts hin hown hK hP 0 rfl rfl 0 (by decide) f53 (fun _ h9 => h9) rfl dX0_day_1 ?_
  exact W.iret hx hb hr (fun t ht hW => ⟨rfl, ht⟩) (fun z h => nomatch h) dX0_day_4
set_option maxHeartbeats 4000000 in
set_option maxRecDepth 100000 in
theorem c_X0_worth (l : Launch) (D : va_G) (h0 h1 h2 h3 h4 h5 h6 h7 h8 h9 : Nat) (cI cJ : ClassId) (d r lc bg w rm k pn : Nat) (fa e1 am dd rt b pd pt tp : Nat → Nat)   : Met l yX0_worth wsX0_worth { frames := 0, cells := 0, slots := 0, locals := 0 } (nk_Pr D (wX h0 h1 h2 h3 h4 h5 h6 h7 h8 h9 cI cJ d r lc bg w rm k pn fa e1 am dd rt b pd pt tp) (tX cI cJ) [.ref h0]) (nk_Rd (some (.int (nI w)))) 0 0 (fun _ => False) := by
  refine Met.ofW (cc := cX0_worth) (maxL := 1) (ret := (some .int)) (by decide) rfl ?_
  intro p e s m args below meth c s₁ B hml hv
  obtain ⟨hargs, hP, hK⟩ := hv
  have hx := B.exec
  have hb := B.bytes
  have hr := B.returns
  have hts := atoms_spec (ws := wsX0_worth) B.pre
  have hown : s.vm.findClass RX0 = some m.cls := findClass_of_methodNamed B.named
  have hlocks := B.notSynchronized
  have hin : ∀ w ∈ wsX00, w ∈ wsX0_worth := by decide +kernel
  have f77 := hts (.fieldLink RX0 77 "EquityRelease" "houseWorth" "I") (by decide +kernel)
  have hl := lv_entry ([.ref h0]) (n := 1) (Nat.le_of_ble_eq_true rfl)
  have hEe : entryFrame m args 1 = entryFrame m ([.ref h0] : List Value).toArray 1 := by rw [hargs]
  rw [hEe, lg_entry_eq]
  generalize (lg_sl ([.ref h0]) ++ List.replicate (1 - (lg_sl ([.ref h0])).length) Slot.unset).toArray = ls at hl ⊢
  have hl : lv_has ls 1 [(0, .ref h0)] := hl
  refine lv_aload_n hx hb dX0_worth_0 rfl (lv_at hl 0 rfl) ?_
  refine va_get (D := D) (ci := 0) (v := .int (nI w)) (C := RX0) (T := TX0) (N := 17) hx hb hts hin hown hK hP 0 rfl rfl 6 (by decide) f77 (fun _ h9 => h9) rfl dX0_worth_1 ?_
  exact W.iret hx hb hr (fun t ht hW => ⟨rfl, ht⟩) (fun z h => nomatch h) dX0_worth_4
set_option maxHeartbeats 4000000 in
set_option maxRecDepth 100000 in
theorem c_X0_room (l : Launch) (D : va_G) (h0 h1 h2 h3 h4 h5 h6 h7 h8 h9 : Nat) (cI cJ : ClassId) (d r lc bg w rm k pn : Nat) (fa e1 am dd rt b pd pt tp : Nat → Nat)   : Met l yX0_room wsX0_room { frames := 0, cells := 0, slots := 0, locals := 0 } (nk_Pr D (wX h0 h1 h2 h3 h4 h5 h6 h7 h8 h9 cI cJ d r lc bg w rm k pn fa e1 am dd rt b pd pt tp) (tX cI cJ) [.ref h0]) (nk_Rd (some (.int (nI rm)))) 0 0 (fun _ => False) := by
  refine Met.ofW (cc := cX0_room) (maxL := 1) (ret := (some .int)) (by decide) rfl ?_
  intro p e s m args below meth c s₁ B hml hv
  obtain ⟨hargs, hP, hK⟩ := hv
  have hx := B.exec
  have hb := B.bytes
  have hr := B.returns
  have hts := atoms_spec (ws := wsX0_room) B.pre
  have hown : s.vm.findClass RX0 = some m.cls := findClass_of_methodNamed B.named
  have hlocks := B.notSynchronized
  have hin : ∀ w ∈ wsX00, w ∈ wsX0_room := by decide +kernel
  have f80 := hts (.fieldLink RX0 80 "EquityRelease" "roomLeft" "I") (by decide +kernel)
  have hl := lv_entry ([.ref h0]) (n := 1) (Nat.le_of_ble_eq_true rfl)
  have hEe : entryFrame m args 1 = entryFrame m ([.ref h0] : List Value).toArray 1 := by rw [hargs]
  rw [hEe, lg_entry_eq]
  generalize (lg_sl ([.ref h0]) ++ List.replicate (1 - (lg_sl ([.ref h0])).length) Slot.unset).toArray = ls at hl ⊢
  have hl : lv_has ls 1 [(0, .ref h0)] := hl
  refine lv_aload_n hx hb dX0_room_0 rfl (lv_at hl 0 rfl) ?_
  refine va_get (D := D) (ci := 0) (v := .int (nI rm)) (C := RX0) (T := TX0) (N := 17) hx hb hts hin hown hK hP 0 rfl rfl 7 (by decide) f80 (fun _ h9 => h9) rfl dX0_room_1 ?_
  exact W.iret hx hb hr (fun t ht hW => ⟨rfl, ht⟩) (fun z h => nomatch h) dX0_room_4
set_option maxHeartbeats 4000000 in
set_option maxRecDepth 100000 in
theorem c_X0_drawings (l : Launch) (D : va_G) (h0 h1 h2 h3 h4 h5 h6 h7 h8 h9 : Nat) (cI cJ : ClassId) (d r lc bg w rm k pn : Nat) (fa e1 am dd rt b pd pt tp : Nat → Nat)   : Met l yX0_drawings wsX0_drawings { frames := 0, cells := 0, slots := 0, locals := 0 } (nk_Pr D (wX h0 h1 h2 h3 h4 h5 h6 h7 h8 h9 cI cJ d r lc bg w rm k pn fa e1 am dd rt b pd pt tp) (tX cI cJ) [.ref h0]) (nk_Rd (some (.int (nI k)))) 0 0 (fun _ => False) := by
  refine Met.ofW (cc := cX0_drawings) (maxL := 1) (ret := (some .int)) (by decide) rfl ?_
  intro p e s m args below meth c s₁ B hml hv
  obtain ⟨hargs, hP, hK⟩ := hv
  have hx := B.exec
  have hb := B.bytes
  have hr := B.returns
  have hts := atoms_spec (ws := wsX0_drawings) B.pre
  have hown : s.vm.findClass RX0 = some m.cls := findClass_of_methodNamed B.named
  have hlocks := B.notSynchronized
  have hin : ∀ w ∈ wsX00, w ∈ wsX0_drawings := by decide +kernel
  have f89 := hts (.fieldLink RX0 89 "EquityRelease" "drawingCount" "I") (by decide +kernel)
  have hl := lv_entry ([.ref h0]) (n := 1) (Nat.le_of_ble_eq_true rfl)
  have hEe : entryFrame m args 1 = entryFrame m ([.ref h0] : List Value).toArray 1 := by rw [hargs]
  rw [hEe, lg_entry_eq]
  generalize (lg_sl ([.ref h0]) ++ List.replicate (1 - (lg_sl ([.ref h0])).length) Slot.unset).toArray = ls at hl ⊢
  have hl : lv_has ls 1 [(0, .ref h0)] := hl
  refine lv_aload_n hx hb dX0_drawings_0 rfl (lv_at hl 0 rfl) ?_
  refine va_get (D := D) (ci := 0) (v := .int (nI k)) (C := RX0) (T := TX0) (N := 17) hx hb hts hin hown hK hP 0 rfl rfl 8 (by decide) f89 (fun _ h9 => h9) rfl dX0_drawings_1 ?_
  exact W.iret hx hb hr (fun t ht hW => ⟨rfl, ht⟩) (fun z h => nomatch h) dX0_drawings_4
end
section
set_option maxHeartbeats 4000000 in
set_option maxRecDepth 100000 in
theorem c_X0_addLife (l : Launch) (D : va_G) (h0 h1 h2 h3 h4 h5 h6 h7 h8 h9 : Nat) (cI cJ : ClassId) (d r lc bg w rm k pn : Nat) (fa e1 am dd rt b pd pt tp : Nat → Nat) (sz : Nat) (a9 : Nat) (hlc1 : lc ≤ 1) : Met l yX0_addLife wsX0_addLife { frames := 0, cells := 0, slots := 0, locals := 0 } (nk_Pw D (wX h0 h1 h2 h3 h4 h5 h6 h7 h8 h9 cI cJ d r lc bg w rm k pn fa e1 am dd rt b pd pt tp) (tX cI cJ) sz [.ref h0, .int (nI a9)]) (va_Qv (fun w1 => w1 = wX h0 h1 h2 h3 h4 h5 h6 h7 h8 h9 cI cJ d r (lc + 1) bg w rm k pn (va_up fa lc a9) (va_up e1 lc 0) am dd rt b pd pt tp) (fun w1 t => nk_At D (tX cI cJ) (va_A (wX h0 h1 h2 h3 h4 h5 h6 h7 h8 h9 cI cJ d r lc bg w rm k pn fa e1 am dd rt b pd pt tp) sz) w1 t) (va_A (wX h0 h1 h2 h3 h4 h5 h6 h7 h8 h9 cI cJ d r lc bg w rm k pn fa e1 am dd rt b pd pt tp) sz)) 0 0 (va_A (wX h0 h1 h2 h3 h4 h5 h6 h7 h8 h9 cI cJ d r lc bg w rm k pn fa e1 am dd rt b pd pt tp) sz) := by
  refine Met.ofW (cc := cX0_addLife) (maxL := 2) (ret := none) (by decide) rfl ?_
  intro p e s m args below meth c s₁ B hml hv
  obtain ⟨hargs, hsz, hP, hK, hD0⟩ := hv
  have hx := B.exec
  have hb := B.bytes
  have hr := B.returns
  have hts := atoms_spec (ws := wsX0_addLife) B.pre
  have hown : s.vm.findClass RX0 = some m.cls := findClass_of_methodNamed B.named
  have hlocks := B.notSynchronized
  subst hsz
  have hin : ∀ w ∈ wsX00, w ∈ wsX0_addLife := by decide +kernel
  have hD := hD0.self (sz := s.heap.size)
  generalize hAe : va_A (wX h0 h1 h2 h3 h4 h5 h6 h7 h8 h9 cI cJ d r lc bg w rm k pn fa e1 am dd rt b pd pt tp) s.heap.size = A at hD ⊢
  have hA : ∀ q : Nat, s.heap.size ≤ q → A q := fun q h => by rw [← hAe]; exact Or.inr h
  have hS : va_S A s.heap s.heap [] := va_S.rf
  have f120 := hts (.fieldLink RX0 120 "EquityRelease" "lifeCount" "I") (by decide +kernel)
  have f13 := hts (.fieldLink RX0 13 "EquityRelease" "firstAges" "[I") (by decide +kernel)
  have f17 := hts (.fieldLink RX0 17 "EquityRelease" "endDays" "[I") (by decide +kernel)
  have hl := lv_entry ([.ref h0, .int (nI a9)]) (n := 2) (Nat.le_of_ble_eq_true rfl)
  have hEe : entryFrame m args 2 = entryFrame m ([.ref h0, .int (nI a9)] : List Value).toArray 2 := by rw [hargs]
  rw [hEe, lg_entry_eq]
  generalize (lg_sl ([.ref h0, .int (nI a9)]) ++ List.replicate (2 - (lg_sl ([.ref h0, .int (nI a9)])).length) Slot.unset).toArray = ls at hl ⊢
  have hl : lv_has ls 2 [(0, .ref h0), (1, .int (nI a9))] := hl
  refine lv_aload_n hx hb dX0_addLife_0 rfl (lv_at hl 0 rfl) ?_
  refine va_get (D := D) (ci := 0) (v := .int (nI lc)) (C := RX0) (T := TX0) (N := 17) hx hb hts hin hown hK hP 0 rfl rfl 2 (by decide) f120 (fun _ h9 => h9) rfl dX0_addLife_1 ?_
  refine lv_iconst (v := nI 2) hx hb dX0_addLife_4 (by decide +kernel) ?_
  refine nk_icmp_ge (tgt := 38) hx hb (by omega) (by omega) dX0_addLife_5 (by decide) (fun c5 => ?_) (fun c5 => ?_)
  · exfalso; omega
  · refine lv_aload_n hx hb dX0_addLife_8 rfl (lv_at hl 0 rfl) ?_
    refine va_get (D := D) (ci := 0) (v := .ref h1) (C := RX0) (T := TX0) (N := 17) hx hb hts hin hown hK hP 0 rfl rfl 3 (by decide) f13 (fun _ h9 => h9) rfl dX0_addLife_9 ?_
    refine lv_aload_n hx hb dX0_addLife_12 rfl (lv_at hl 0 rfl) ?_
    refine va_get (D := D) (ci := 0) (v := .int (nI lc)) (C := RX0) (T := TX0) (N := 17) hx hb hts hin hown hK hP 0 rfl rfl 2 (by decide) f120 (fun _ h9 => h9) rfl dX0_addLife_13 ?_
    refine lv_iload_n hx hb dX0_addLife_16 rfl (lv_at hl 1 rfl) ?_
    refine nk_iast hx hb hK hP hD hS 1 0 rfl rfl (by omega) (by decide) dX0_addLife_17 (fun H locs hP hD hS => ?_)
    have hP : va_P D vwCl (wX h0 h1 h2 h3 h4 h5 h6 h7 h8 h9 cI cJ d r lc bg w rm k pn (va_up fa lc a9) e1 am dd rt b pd pt tp) H := hP
    have hD : va_D A (wX h0 h1 h2 h3 h4 h5 h6 h7 h8 h9 cI cJ d r lc bg w rm k pn (va_up fa lc a9) e1 am dd rt b pd pt tp) := hD
    refine lv_aload_n hx hb dX0_addLife_18 rfl (lv_at hl 0 rfl) ?_
    refine va_get (D := D) (ci := 0) (v := .ref h2) (C := RX0) (T := TX0) (N := 17) hx hb hts hin hown hK hP 0 rfl rfl 4 (by decide) f17 (fun _ h9 => h9) rfl dX0_addLife_19 ?_
    refine lv_aload_n hx hb dX0_addLife_22 rfl (lv_at hl 0 rfl) ?_
    refine va_get (D := D) (ci := 0) (v := .int (nI lc)) (C := RX0) (T := TX0) (N := 17) hx hb hts hin hown hK hP 0 rfl rfl 2 (by decide) f120 (fun _ h9 => h9) rfl dX0_addLife_23 ?_
    refine lv_iconst (v := -1) hx hb dX0_addLife_26 (by decide) ?_
    refine nk_east hx hb hK hP hD hS 2 0 rfl rfl nk_m1 (by omega) (by decide) dX0_addLife_27 (fun H locs hP hD hS => ?_)
    have hP : va_P D vwCl (wX h0 h1 h2 h3 h4 h5 h6 h7 h8 h9 cI cJ d r lc bg w rm k pn (va_up fa lc a9) (va_up e1 lc 0) am dd rt b pd pt tp) H := hP
    have hD : va_D A (wX h0 h1 h2 h3 h4 h5 h6 h7 h8 h9 cI cJ d r lc bg w rm k pn (va_up fa lc a9) (va_up e1 lc 0) am dd rt b pd pt tp) := hD
    refine lv_aload_n hx hb dX0_addLife_28 rfl (lv_at hl 0 rfl) ?_
    refine lv_dup hx hb dX0_addLife_29 rfl ?_
    refine va_get (D := D) (ci := 0) (v := .int (nI lc)) (C := RX0) (T := TX0) (N := 17) hx hb hts hin hown hK hP 0 rfl rfl 2 (by decide) f120 (fun _ h9 => h9) rfl dX0_addLife_30 ?_
    refine lv_iconst (v := nI 1) hx hb dX0_addLife_33 (by decide +kernel) ?_
    refine nk_iadd hx hb dX0_addLife_34 ?_
    refine va_put (D := D) (ci := 0) (v := .int (nI (lc + 1))) (ty := .int) (C := RX0) (T := TX0) (N := 17) hx hb hts hin tyX0 tyX0_ok nmX0 hown hK hP hD hS 0 rfl rfl 2 (by decide) f120 (fun _ h9 => h9) rfl (by decide +kernel) rfl rfl (Nat.le_of_ble_eq_true rfl) dX0_addLife_35 (fun H locs hP hD hS => ?_)
    have hP : va_P D vwCl (wX h0 h1 h2 h3 h4 h5 h6 h7 h8 h9 cI cJ d r (lc + 1) bg w rm k pn (va_up fa lc a9) (va_up e1 lc 0) am dd rt b pd pt tp) H := hP
    have hD : va_D A (wX h0 h1 h2 h3 h4 h5 h6 h7 h8 h9 cI cJ d r (lc + 1) bg w rm k pn (va_up fa lc a9) (va_up e1 lc 0) am dd rt b pd pt tp) := hD
    exact W.vret hx hb hr (fun t ht hW => ⟨⟨wX h0 h1 h2 h3 h4 h5 h6 h7 h8 h9 cI cJ d r (lc + 1) bg w rm k pn (va_up fa lc a9) (va_up e1 lc 0) am dd rt b pd pt tp, rfl, rfl, by rw [ht]; exact hP, va_K.moved hW.alike hK, hD⟩, hS.F ht⟩) hS.2.2 dX0_addLife_38
set_option maxHeartbeats 4000000 in
set_option maxRecDepth 100000 in
theorem c_X0_addDrawing (l : Launch) (D : va_G) (h0 h1 h2 h3 h4 h5 h6 h7 h8 h9 : Nat) (cI cJ : ClassId) (d r lc bg w rm k pn : Nat) (fa e1 am dd rt b pd pt tp : Nat → Nat) (sz : Nat) (a9 : Nat) (hk1 : k < 20) (ha9 : a9 ≤ rm) (hrm : rm ≤ 10000000) : Met l yX0_addDrawing wsX0_addDrawing { frames := 0, cells := 0, slots := 0, locals := 0 } (nk_Pw D (wX h0 h1 h2 h3 h4 h5 h6 h7 h8 h9 cI cJ d r lc bg w rm k pn fa e1 am dd rt b pd pt tp) (tX cI cJ) sz [.ref h0, .int (nI a9)]) (va_Qv (fun w1 => w1 = wX h0 h1 h2 h3 h4 h5 h6 h7 h8 h9 cI cJ d r lc bg w (rm - a9) (k + 1) pn fa e1 (va_up am k a9) (va_up dd k d) (va_up rt k r) (va_up b k (a9 * 10000)) pd pt tp) (fun w1 t => nk_At D (tX cI cJ) (va_A (wX h0 h1 h2 h3 h4 h5 h6 h7 h8 h9 cI cJ d r lc bg w rm k pn fa e1 am dd rt b pd pt tp) sz) w1 t) (va_A (wX h0 h1 h2 h3 h4 h5 h6 h7 h8 h9 cI cJ d r lc bg w rm k pn fa e1 am dd rt b pd pt tp) sz)) 0 0 (va_A (wX h0 h1 h2 h3 h4 h5 h6 h7 h8 h9 cI cJ d r lc bg w rm k pn fa e1 am dd rt b pd pt tp) sz) := by
  refine Met.ofW (cc := cX0_addDrawing) (maxL := 2) (ret := none) (by decide) rfl ?_
  intro p e s m args below meth c s₁ B hml hv
  obtain ⟨hargs, hsz, hP, hK, hD0⟩ := hv
  have hx := B.exec
  have hb := B.bytes
  have hr := B.returns
  have hts := atoms_spec (ws := wsX0_addDrawing) B.pre
  have hown : s.vm.findClass RX0 = some m.cls := findClass_of_methodNamed B.named
  have hlocks := B.notSynchronized
  subst hsz
  have hin : ∀ w ∈ wsX00, w ∈ wsX0_addDrawing := by decide +kernel
  have hD := hD0.self (sz := s.heap.size)
  generalize hAe : va_A (wX h0 h1 h2 h3 h4 h5 h6 h7 h8 h9 cI cJ d r lc bg w rm k pn fa e1 am dd rt b pd pt tp) s.heap.size = A at hD ⊢
  have hA : ∀ q : Nat, s.heap.size ≤ q → A q := fun q h => by rw [← hAe]; exact Or.inr h
  have hS : va_S A s.heap s.heap [] := va_S.rf
  have f89 := hts (.fieldLink RX0 89 "EquityRelease" "drawingCount" "I") (by decide +kernel)
  have f20 := hts (.fieldLink RX0 20 "EquityRelease" "drawnAmounts" "[I") (by decide +kernel)
  have f23 := hts (.fieldLink RX0 23 "EquityRelease" "drawnDays" "[I") (by decide +kernel)
  have f53 := hts (.fieldLink RX0 53 "EquityRelease" "today" "I") (by decide +kernel)
  have f26 := hts (.fieldLink RX0 26 "EquityRelease" "drawnRates" "[I") (by decide +kernel)
  have f9 := hts (.fieldLink RX0 9 "EquityRelease" "rateNow" "I") (by decide +kernel)
  have f29 := hts (.fieldLink RX0 29 "EquityRelease" "balances" "[J") (by decide +kernel)
  have k172 : (Cond.constantLong RX0 172 (lN 10000)).before args s = true := by
    rw [show (lN 10000 : Int64) = 10000 from by decide +kernel]
    exact hts (.constantLong RX0 172 (10000)) (by decide +kernel)
  have f80 := hts (.fieldLink RX0 80 "EquityRelease" "roomLeft" "I") (by decide +kernel)
  have hl := lv_entry ([.ref h0, .int (nI a9)]) (n := 2) (Nat.le_of_ble_eq_true rfl)
  have hEe : entryFrame m args 2 = entryFrame m ([.ref h0, .int (nI a9)] : List Value).toArray 2 := by rw [hargs]
  rw [hEe, lg_entry_eq]
  generalize (lg_sl ([.ref h0, .int (nI a9)]) ++ List.replicate (2 - (lg_sl ([.ref h0, .int (nI a9)])).length) Slot.unset).toArray = ls at hl ⊢
  have hl : lv_has ls 2 [(0, .ref h0), (1, .int (nI a9))] := hl
  refine lv_aload_n hx hb dX0_addDrawing_0 rfl (lv_at hl 0 rfl) ?_
  refine va_get (D := D) (ci := 0) (v := .int (nI k)) (C := RX0) (T := TX0) (N := 17) hx hb hts hin hown hK hP 0 rfl rfl 8 (by decide) f89 (fun _ h9 => h9) rfl dX0_addDrawing_1 ?_
  refine lv_bipush (v := nI 20) hx hb dX0_addDrawing_4 (by decide +kernel) ?_
  refine nk_icmp_ge (tgt := 80) hx hb (by omega) (by omega) dX0_addDrawing_6 (by decide) (fun c6 => ?_) (fun c6 => ?_)
  · exfalso; omega
  · refine lv_aload_n hx hb dX0_addDrawing_9 rfl (lv_at hl 0 rfl) ?_
    refine va_get (D := D) (ci := 0) (v := .ref h3) (C := RX0) (T := TX0) (N := 17) hx hb hts hin hown hK hP 0 rfl rfl 9 (by decide) f20 (fun _ h9 => h9) rfl dX0_addDrawing_10 ?_
    refine lv_aload_n hx hb dX0_addDrawing_13 rfl (lv_at hl 0 rfl) ?_
    refine va_get (D := D) (ci := 0) (v := .int (nI k)) (C := RX0) (T := TX0) (N := 17) hx hb hts hin hown hK hP 0 rfl rfl 8 (by decide) f89 (fun _ h9 => h9) rfl dX0_addDrawing_14 ?_
    refine lv_iload_n hx hb dX0_addDrawing_17 rfl (lv_at hl 1 rfl) ?_
    refine nk_iast hx hb hK hP hD hS 3 0 rfl rfl (by omega) (by decide) dX0_addDrawing_18 (fun H locs hP hD hS => ?_)
    have hP : va_P D vwCl (wX h0 h1 h2 h3 h4 h5 h6 h7 h8 h9 cI cJ d r lc bg w rm k pn fa e1 (va_up am k a9) dd rt b pd pt tp) H := hP
    have hD : va_D A (wX h0 h1 h2 h3 h4 h5 h6 h7 h8 h9 cI cJ d r lc bg w rm k pn fa e1 (va_up am k a9) dd rt b pd pt tp) := hD
    refine lv_aload_n hx hb dX0_addDrawing_19 rfl (lv_at hl 0 rfl) ?_
    refine va_get (D := D) (ci := 0) (v := .ref h4) (C := RX0) (T := TX0) (N := 17) hx hb hts hin hown hK hP 0 rfl rfl 10 (by decide) f23 (fun _ h9 => h9) rfl dX0_addDrawing_20 ?_
    refine lv_aload_n hx hb dX0_addDrawing_23 rfl (lv_at hl 0 rfl) ?_
    refine va_get (D := D) (ci := 0) (v := .int (nI k)) (C := RX0) (T := TX0) (N := 17) hx hb hts hin hown hK hP 0 rfl rfl 8 (by decide) f89 (fun _ h9 => h9) rfl dX0_addDrawing_24 ?_
    refine lv_aload_n hx hb dX0_addDrawing_27 rfl (lv_at hl 0 rfl) ?_
    refine va_get (D := D) (ci := 0) (v := .int (nI d)) (C := RX0) (T := TX0) (N := 17) hx hb hts hin hown hK hP 0 rfl rfl 0 (by decide) f53 (fun _ h9 => h9) rfl dX0_addDrawing_28 ?_
    refine nk_iast hx hb hK hP hD hS 4 0 rfl rfl (by omega) (by decide) dX0_addDrawing_31 (fun H locs hP hD hS => ?_)
    have hP : va_P D vwCl (wX h0 h1 h2 h3 h4 h5 h6 h7 h8 h9 cI cJ d r lc bg w rm k pn fa e1 (va_up am k a9) (va_up dd k d) rt b pd pt tp) H := hP
    have hD : va_D A (wX h0 h1 h2 h3 h4 h5 h6 h7 h8 h9 cI cJ d r lc bg w rm k pn fa e1 (va_up am k a9) (va_up dd k d) rt b pd pt tp) := hD
    refine lv_aload_n hx hb dX0_addDrawing_32 rfl (lv_at hl 0 rfl) ?_
    refine va_get (D := D) (ci := 0) (v := .ref h5) (C := RX0) (T := TX0) (N := 17) hx hb hts hin hown hK hP 0 rfl rfl 11 (by decide) f26 (fun _ h9 => h9) rfl dX0_addDrawing_33 ?_
    refine lv_aload_n hx hb dX0_addDrawing_36 rfl (lv_at hl 0 rfl) ?_
    refine va_get (D := D) (ci := 0) (v := .int (nI k)) (C := RX0) (T := TX0) (N := 17) hx hb hts hin hown hK hP 0 rfl rfl 8 (by decide) f89 (fun _ h9 => h9) rfl dX0_addDrawing_37 ?_
    refine lv_aload_n hx hb dX0_addDrawing_40 rfl (lv_at hl 0 rfl) ?_
    refine va_get (D := D) (ci := 0) (v := .int (nI r)) (C := RX0) (T := TX0) (N := 17) hx hb hts hin hown hK hP 0 rfl rfl 1 (by decide) f9 (fun _ h9 => h9) rfl dX0_addDrawing_41 ?_
    refine nk_iast hx hb hK hP hD hS 5 0 rfl rfl (by omega) (by decide) dX0_addDrawing_44 (fun H locs hP hD hS => ?_)
    have hP : va_P D vwCl (wX h0 h1 h2 h3 h4 h5 h6 h7 h8 h9 cI cJ d r lc bg w rm k pn fa e1 (va_up am k a9) (va_up dd k d) (va_up rt k r) b pd pt tp) H := hP
    have hD : va_D A (wX h0 h1 h2 h3 h4 h5 h6 h7 h8 h9 cI cJ d r lc bg w rm k pn fa e1 (va_up am k a9) (va_up dd k d) (va_up rt k r) b pd pt tp) := hD
    refine lv_aload_n hx hb dX0_addDrawing_45 rfl (lv_at hl 0 rfl) ?_
    refine va_get (D := D) (ci := 0) (v := .ref h6) (C := RX0) (T := TX0) (N := 17) hx hb hts hin hown hK hP 0 rfl rfl 12 (by decide) f29 (fun _ h9 => h9) rfl dX0_addDrawing_46 ?_
    refine lv_aload_n hx hb dX0_addDrawing_49 rfl (lv_at hl 0 rfl) ?_
    refine va_get (D := D) (ci := 0) (v := .int (nI k)) (C := RX0) (T := TX0) (N := 17) hx hb hts hin hown hK hP 0 rfl rfl 8 (by decide) f89 (fun _ h9 => h9) rfl dX0_addDrawing_50 ?_
    refine lv_iload_n hx hb dX0_addDrawing_53 rfl (lv_at hl 1 rfl) ?_
    refine nk_i2l hx hb (by omega) dX0_addDrawing_54 ?_
    refine lv_ldc2 (v := lN 10000) hx hb hown k172 dX0_addDrawing_55 ?_
    refine nk_lmul hx hb dX0_addDrawing_58 ?_
    refine nk_last hx hb hK hP hD hS 6 1 rfl rfl (by omega) (by decide) dX0_addDrawing_59 (fun H locs hP hD hS => ?_)
    have hP : va_P D vwCl (wX h0 h1 h2 h3 h4 h5 h6 h7 h8 h9 cI cJ d r lc bg w rm k pn fa e1 (va_up am k a9) (va_up dd k d) (va_up rt k r) (va_up b k (a9 * 10000)) pd pt tp) H := hP
    have hD : va_D A (wX h0 h1 h2 h3 h4 h5 h6 h7 h8 h9 cI cJ d r lc bg w rm k pn fa e1 (va_up am k a9) (va_up dd k d) (va_up rt k r) (va_up b k (a9 * 10000)) pd pt tp) := hD
    refine lv_aload_n hx hb dX0_addDrawing_60 rfl (lv_at hl 0 rfl) ?_
    refine lv_dup hx hb dX0_addDrawing_61 rfl ?_
    refine va_get (D := D) (ci := 0) (v := .int (nI k)) (C := RX0) (T := TX0) (N := 17) hx hb hts hin hown hK hP 0 rfl rfl 8 (by decide) f89 (fun _ h9 => h9) rfl dX0_addDrawing_62 ?_
    refine lv_iconst (v := nI 1) hx hb dX0_addDrawing_65 (by decide +kernel) ?_
    refine nk_iadd hx hb dX0_addDrawing_66 ?_
    refine va_put (D := D) (ci := 0) (v := .int (nI (k + 1))) (ty := .int) (C := RX0) (T := TX0) (N := 17) hx hb hts hin tyX0 tyX0_ok nmX0 hown hK hP hD hS 0 rfl rfl 8 (by decide) f89 (fun _ h9 => h9) rfl (by decide +kernel) rfl rfl (Nat.le_of_ble_eq_true rfl) dX0_addDrawing_67 (fun H locs hP hD hS => ?_)
    have hP : va_P D vwCl (wX h0 h1 h2 h3 h4 h5 h6 h7 h8 h9 cI cJ d r lc bg w rm (k + 1) pn fa e1 (va_up am k a9) (va_up dd k d) (va_up rt k r) (va_up b k (a9 * 10000)) pd pt tp) H := hP
    have hD : va_D A (wX h0 h1 h2 h3 h4 h5 h6 h7 h8 h9 cI cJ d r lc bg w rm (k + 1) pn fa e1 (va_up am k a9) (va_up dd k d) (va_up rt k r) (va_up b k (a9 * 10000)) pd pt tp) := hD
    refine lv_aload_n hx hb dX0_addDrawing_70 rfl (lv_at hl 0 rfl) ?_
    refine lv_dup hx hb dX0_addDrawing_71 rfl ?_
    refine va_get (D := D) (ci := 0) (v := .int (nI rm)) (C := RX0) (T := TX0) (N := 17) hx hb hts hin hown hK hP 0 rfl rfl 7 (by decide) f80 (fun _ h9 => h9) rfl dX0_addDrawing_72 ?_
    refine lv_iload_n hx hb dX0_addDrawing_75 rfl (lv_at hl 1 rfl) ?_
    refine nk_isub hx hb (by omega) dX0_addDrawing_76 ?_
    refine va_put (D := D) (ci := 0) (v := .int (nI (rm - a9))) (ty := .int) (C := RX0) (T := TX0) (N := 17) hx hb hts hin tyX0 tyX0_ok nmX0 hown hK hP hD hS 0 rfl rfl 7 (by decide) f80 (fun _ h9 => h9) rfl (by decide +kernel) rfl rfl (Nat.le_of_ble_eq_true rfl) dX0_addDrawing_77 (fun H locs hP hD hS => ?_)
    have hP : va_P D vwCl (wX h0 h1 h2 h3 h4 h5 h6 h7 h8 h9 cI cJ d r lc bg w (rm - a9) (k + 1) pn fa e1 (va_up am k a9) (va_up dd k d) (va_up rt k r) (va_up b k (a9 * 10000)) pd pt tp) H := hP
    have hD : va_D A (wX h0 h1 h2 h3 h4 h5 h6 h7 h8 h9 cI cJ d r lc bg w (rm - a9) (k + 1) pn fa e1 (va_up am k a9) (va_up dd k d) (va_up rt k r) (va_up b k (a9 * 10000)) pd pt tp) := hD
    exact W.vret hx hb hr (fun t ht hW => ⟨⟨wX h0 h1 h2 h3 h4 h5 h6 h7 h8 h9 cI cJ d r lc bg w (rm - a9) (k + 1) pn fa e1 (va_up am k a9) (va_up dd k d) (va_up rt k r) (va_up b k (a9 * 10000)) pd pt tp, rfl, rfl, by rw [ht]; exact hP, va_K.moved hW.alike hK, hD⟩, hS.F ht⟩) hS.2.2 dX0_addDrawing_80
set_option maxHeartbeats 4000000 in
set_option maxRecDepth 100000 in
theorem c_X0_takeBack (l : Launch) (D : va_G) (h0 h1 h2 h3 h4 h5 h6 h7 h8 h9 : Nat) (cI cJ : ClassId) (d r lc bg w rm k pn : Nat) (fa e1 am dd rt b pd pt tp : Nat → Nat) (sz : Nat) (a9 t9 : Nat) (hp40 : pn < 40) (hk : k ≤ 20) (ha9 : a9 < 400000000000000) (hb9 : ∀ j, j < k → b j < 4611686018427387904) : Met l yX0_takeBack wsX0_takeBack { frames := 1, cells := 0, slots := 0, locals := 24 } (nk_Pw D (wX h0 h1 h2 h3 h4 h5 h6 h7 h8 h9 cI cJ d r lc bg w rm k pn fa e1 am dd rt b pd pt tp) (tX cI cJ) sz [.ref h0, .long (lN a9), .int (nI t9)]) (va_Qv (fun w1 => w1 = wX h0 h1 h2 h3 h4 h5 h6 h7 h8 h9 cI cJ d r lc bg w rm k (pn + 1) fa e1 am dd rt (tkB b (a9 * 10000) k) (va_up pd pn d) (va_up pt pn t9) (tkT tp b (a9 * 10000) pn k)) (fun w1 t => nk_At D (tX cI cJ) (va_A (wX h0 h1 h2 h3 h4 h5 h6 h7 h8 h9 cI cJ d r lc bg w rm k pn fa e1 am dd rt b pd pt tp) sz) w1 t) (va_A (wX h0 h1 h2 h3 h4 h5 h6 h7 h8 h9 cI cJ d r lc bg w rm k pn fa e1 am dd rt b pd pt tp) sz)) 0 0 (va_A (wX h0 h1 h2 h3 h4 h5 h6 h7 h8 h9 cI cJ d r lc bg w rm k pn fa e1 am dd rt b pd pt tp) sz) := by
  refine Met.ofW (cc := cX0_takeBack) (maxL := 9) (ret := none) (by decide) rfl ?_
  intro p e s m args below meth c s₁ B hml hv
  obtain ⟨hargs, hsz, hP, hK, hD0⟩ := hv
  have hx := B.exec
  have hb := B.bytes
  have hr := B.returns
  have hts := atoms_spec (ws := wsX0_takeBack) B.pre
  have hown : s.vm.findClass RX0 = some m.cls := findClass_of_methodNamed B.named
  have hlocks := B.notSynchronized
  subst hsz
  have hin : ∀ w ∈ wsX00, w ∈ wsX0_takeBack := by decide +kernel
  have hD := hD0.self (sz := s.heap.size)
  generalize hAe : va_A (wX h0 h1 h2 h3 h4 h5 h6 h7 h8 h9 cI cJ d r lc bg w rm k pn fa e1 am dd rt b pd pt tp) s.heap.size = A at hD ⊢
  have hA : ∀ q : Nat, s.heap.size ≤ q → A q := fun q h => by rw [← hAe]; exact Or.inr h
  have hS : va_S A s.heap s.heap [] := va_S.rf
  have f98 := hts (.fieldLink RX0 98 "EquityRelease" "paymentCount" "I") (by decide +kernel)
  have k172 : (Cond.constantLong RX0 172 (lN 10000)).before args s = true := by
    rw [show (lN 10000 : Int64) = 10000 from by decide +kernel]
    exact hts (.constantLong RX0 172 (10000)) (by decide +kernel)
  have f89 := hts (.fieldLink RX0 89 "EquityRelease" "drawingCount" "I") (by decide +kernel)
  have f33 := hts (.fieldLink RX0 33 "EquityRelease" "paidDays" "[I") (by decide +kernel)
  have f53 := hts (.fieldLink RX0 53 "EquityRelease" "today" "I") (by decide +kernel)
  have f36 := hts (.fieldLink RX0 36 "EquityRelease" "paidByTenth" "[I") (by decide +kernel)
  have f29 := hts (.fieldLink RX0 29 "EquityRelease" "balances" "[J") (by decide +kernel)
  have f39 := hts (.fieldLink RX0 39 "EquityRelease" "takenParts" "[J") (by decide +kernel)
  have hl := lv_entry ([.ref h0, .long (lN a9), .int (nI t9)]) (n := 9) (Nat.le_of_ble_eq_true rfl)
  have hEe : entryFrame m args 9 = entryFrame m ([.ref h0, .long (lN a9), .int (nI t9)] : List Value).toArray 9 := by rw [hargs]
  rw [hEe, lg_entry_eq]
  generalize (lg_sl ([.ref h0, .long (lN a9), .int (nI t9)]) ++ List.replicate (9 - (lg_sl ([.ref h0, .long (lN a9), .int (nI t9)])).length) Slot.unset).toArray = ls at hl ⊢
  have hl : lv_has ls 9 [(0, .ref h0), (1, .long (lN a9)), (3, .int (nI t9))] := hl
  refine lv_aload_n hx hb dX0_takeBack_0 rfl (lv_at hl 0 rfl) ?_
  refine va_get (D := D) (ci := 0) (v := .int (nI pn)) (C := RX0) (T := TX0) (N := 17) hx hb hts hin hown hK hP 0 rfl rfl 13 (by decide) f98 (fun _ h9 => h9) rfl dX0_takeBack_1 ?_
  refine lv_bipush (v := nI 40) hx hb dX0_takeBack_4 (by decide +kernel) ?_
  refine nk_icmp_ge (tgt := 117) hx hb (by omega) (by omega) dX0_takeBack_6 (by decide) (fun c6 => ?_) (fun c6 => ?_)
  · exfalso; omega
  · refine lv_lload_n hx hb dX0_takeBack_9 rfl (lv_at hl 1 rfl) ?_
    refine lv_ldc2 (v := lN 10000) hx hb hown k172 dX0_takeBack_10 ?_
    refine nk_lmul hx hb dX0_takeBack_13 ?_
    refine lv_lstore (lv' := [(4, .long (lN (a9 * 10000))), (0, .ref h0), (1, .long (lN a9)), (3, .int (nI t9))]) hx hb dX0_takeBack_14 hl (by decide) rfl (fun ls hl => ?_)
    refine lv_iconst (v := nI 0) hx hb dX0_takeBack_16 (by decide +kernel) ?_
    refine lv_istore (lv' := [(6, .int (nI 0)), (4, .long (lN (a9 * 10000))), (0, .ref h0), (1, .long (lN a9)), (3, .int (nI t9))]) hx hb dX0_takeBack_17 hl (by decide) rfl (fun ls hl => ?_)
    have loop19 : ∀ (n : Nat) (i : Nat), (i ≤ k) → k + 1 ≤ i + n → ∀ (H : Heap) (locs : List Loc), va_P D vwCl (wX h0 h1 h2 h3 h4 h5 h6 h7 h8 h9 cI cJ d r lc bg w rm k pn fa e1 am dd rt (tkB b (a9 * 10000) i) pd pt (tkT tp b (a9 * 10000) pn i)) H → va_D A (wX h0 h1 h2 h3 h4 h5 h6 h7 h8 h9 cI cJ d r lc bg w rm k pn fa e1 am dd rt (tkB b (a9 * 10000) i) pd pt (tkT tp b (a9 * 10000) pn i)) → va_S A s.heap H locs → ∀ ls : Array Slot, lv_has ls 9 [(0, .ref h0), (1, .long (lN a9)), (3, .int (nI t9)), (4, .long (lN (tkR b (a9 * 10000) i))), (6, .int (nI i))] → W p l e (headSpec wsX0_takeBack { frames := 1, cells := 0, slots := 0, locals := 24 }).room s m args below meth c H locs 0 0 (MQ below (va_Qv (fun w1 => w1 = wX h0 h1 h2 h3 h4 h5 h6 h7 h8 h9 cI cJ d r lc bg w rm k (pn + 1) fa e1 am dd rt (tkB b (a9 * 10000) k) (va_up pd pn d) (va_up pt pn t9) (tkT tp b (a9 * 10000) pn k)) (fun w1 t => nk_At D (tX cI cJ) A w1 t) A) args s 0 0 A) (F0 m 19 ls []) := by
      intro n
      induction n with
      | zero =>
        intro i hi hm
        exfalso; omega
      | succ n ih19 =>
        intro i hi hm H locs hP hD hS ls hl
        refine lv_iload hx hb dX0_takeBack_19 (lv_at hl 4 rfl) ?_
        refine lv_aload_n hx hb dX0_takeBack_21 rfl (lv_at hl 0 rfl) ?_
        refine va_get (D := D) (ci := 0) (v := .int (nI k)) (C := RX0) (T := TX0) (N := 17) hx hb hts hin hown hK hP 0 rfl rfl 8 (by decide) f89 (fun _ h9 => h9) rfl dX0_takeBack_22 ?_
        refine nk_icmp_ge (tgt := 84) hx hb (by omega) (by omega) dX0_takeBack_25 (by decide) (fun c25 => ?_) (fun c25 => ?_)
        · have e9 : i = k := by omega
          rw [e9] at hP hD
          refine lv_aload_n hx hb dX0_takeBack_84 rfl (lv_at hl 0 rfl) ?_
          refine va_get (D := D) (ci := 0) (v := .ref h7) (C := RX0) (T := TX0) (N := 17) hx hb hts hin hown hK hP 0 rfl rfl 14 (by decide) f33 (fun _ h9 => h9) rfl dX0_takeBack_85 ?_
          refine lv_aload_n hx hb dX0_takeBack_88 rfl (lv_at hl 0 rfl) ?_
          refine va_get (D := D) (ci := 0) (v := .int (nI pn)) (C := RX0) (T := TX0) (N := 17) hx hb hts hin hown hK hP 0 rfl rfl 13 (by decide) f98 (fun _ h9 => h9) rfl dX0_takeBack_89 ?_
          refine lv_aload_n hx hb dX0_takeBack_92 rfl (lv_at hl 0 rfl) ?_
          refine va_get (D := D) (ci := 0) (v := .int (nI d)) (C := RX0) (T := TX0) (N := 17) hx hb hts hin hown hK hP 0 rfl rfl 0 (by decide) f53 (fun _ h9 => h9) rfl dX0_takeBack_93 ?_
          refine nk_iast hx hb hK hP hD hS 7 0 rfl rfl (by omega) (by decide) dX0_takeBack_96 (fun H locs hP hD hS => ?_)
          have hP : va_P D vwCl (wX h0 h1 h2 h3 h4 h5 h6 h7 h8 h9 cI cJ d r lc bg w rm k pn fa e1 am dd rt (tkB b (a9 * 10000) k) (va_up pd pn d) pt (tkT tp b (a9 * 10000) pn k)) H := hP
          have hD : va_D A (wX h0 h1 h2 h3 h4 h5 h6 h7 h8 h9 cI cJ d r lc bg w rm k pn fa e1 am dd rt (tkB b (a9 * 10000) k) (va_up pd pn d) pt (tkT tp b (a9 * 10000) pn k)) := hD
          refine lv_aload_n hx hb dX0_takeBack_97 rfl (lv_at hl 0 rfl) ?_
          refine va_get (D := D) (ci := 0) (v := .ref h8) (C := RX0) (T := TX0) (N := 17) hx hb hts hin hown hK hP 0 rfl rfl 15 (by decide) f36 (fun _ h9 => h9) rfl dX0_takeBack_98 ?_
          refine lv_aload_n hx hb dX0_takeBack_101 rfl (lv_at hl 0 rfl) ?_
          refine va_get (D := D) (ci := 0) (v := .int (nI pn)) (C := RX0) (T := TX0) (N := 17) hx hb hts hin hown hK hP 0 rfl rfl 13 (by decide) f98 (fun _ h9 => h9) rfl dX0_takeBack_102 ?_
          refine lv_iload_n hx hb dX0_takeBack_105 rfl (lv_at hl 2 rfl) ?_
          refine nk_iast hx hb hK hP hD hS 8 0 rfl rfl (by omega) (by decide) dX0_takeBack_106 (fun H locs hP hD hS => ?_)
          have hP : va_P D vwCl (wX h0 h1 h2 h3 h4 h5 h6 h7 h8 h9 cI cJ d r lc bg w rm k pn fa e1 am dd rt (tkB b (a9 * 10000) k) (va_up pd pn d) (va_up pt pn t9) (tkT tp b (a9 * 10000) pn k)) H := hP
          have hD : va_D A (wX h0 h1 h2 h3 h4 h5 h6 h7 h8 h9 cI cJ d r lc bg w rm k pn fa e1 am dd rt (tkB b (a9 * 10000) k) (va_up pd pn d) (va_up pt pn t9) (tkT tp b (a9 * 10000) pn k)) := hD
          refine lv_aload_n hx hb dX0_takeBack_107 rfl (lv_at hl 0 rfl) ?_
          refine lv_dup hx hb dX0_takeBack_108 rfl ?_
          refine va_get (D := D) (ci := 0) (v := .int (nI pn)) (C := RX0) (T := TX0) (N := 17) hx hb hts hin hown hK hP 0 rfl rfl 13 (by decide) f98 (fun _ h9 => h9) rfl dX0_takeBack_109 ?_
          refine lv_iconst (v := nI 1) hx hb dX0_takeBack_112 (by decide +kernel) ?_
          refine nk_iadd hx hb dX0_takeBack_113 ?_
          refine va_put (D := D) (ci := 0) (v := .int (nI (pn + 1))) (ty := .int) (C := RX0) (T := TX0) (N := 17) hx hb hts hin tyX0 tyX0_ok nmX0 hown hK hP hD hS 0 rfl rfl 13 (by decide) f98 (fun _ h9 => h9) rfl (by decide +kernel) rfl rfl (Nat.le_of_ble_eq_true rfl) dX0_takeBack_114 (fun H locs hP hD hS => ?_)
          have hP : va_P D vwCl (wX h0 h1 h2 h3 h4 h5 h6 h7 h8 h9 cI cJ d r lc bg w rm k (pn + 1) fa e1 am dd rt (tkB b (a9 * 10000) k) (va_up pd pn d) (va_up pt pn t9) (tkT tp b (a9 * 10000) pn k)) H := hP
          have hD : va_D A (wX h0 h1 h2 h3 h4 h5 h6 h7 h8 h9 cI cJ d r lc bg w rm k (pn + 1) fa e1 am dd rt (tkB b (a9 * 10000) k) (va_up pd pn d) (va_up pt pn t9) (tkT tp b (a9 * 10000) pn k)) := hD
          exact W.vret hx hb hr (fun t ht hW => ⟨⟨wX h0 h1 h2 h3 h4 h5 h6 h7 h8 h9 cI cJ d r lc bg w rm k (pn + 1) fa e1 am dd rt (tkB b (a9 * 10000) k) (va_up pd pn d) (va_up pt pn t9) (tkT tp b (a9 * 10000) pn k), rfl, rfl, by rw [ht]; exact hP, va_K.moved hW.alike hK, hD⟩, hS.F ht⟩) hS.2.2 dX0_takeBack_117
        · refine lv_lload hx hb dX0_takeBack_28 (lv_at hl 3 rfl) ?_
          refine lv_aload_n hx hb dX0_takeBack_30 rfl (lv_at hl 0 rfl) ?_
          refine va_get (D := D) (ci := 0) (v := .ref h6) (C := RX0) (T := TX0) (N := 17) hx hb hts hin hown hK hP 0 rfl rfl 12 (by decide) f29 (fun _ h9 => h9) rfl dX0_takeBack_31 ?_
          refine lv_iload hx hb dX0_takeBack_34 (lv_at hl 4 rfl) ?_
          refine nk_lald hx hb hK hP 6 1 rfl rfl (by omega) (by decide) dX0_takeBack_36 ?_
          refine nk_topl (y := (lN (b i))) (congrArg lN (tkB_self _ _ _)) ?_
          have hr1 := tkR_le b (a9 * 10000) i
          have hb1 := hb9 i (by omega)
          refine va_mmin_long hx hb (hml.trans hl.1.symm) hown (hts (.methodLink RX0 155 Lib.MathLoose.min_long.x) (by decide +kernel)) (hts (.static Lib.MathLoose.min_long.x) (by decide +kernel)) (hts (.initialized "java/lang/Math") (by decide +kernel)) (hts (.code Lib.MathLoose.min_long.x Lib.MathLoose.min_long.code 4 (some .long)) (by decide +kernel)) (Nat.le_of_ble_eq_true rfl) (Nat.le_of_ble_eq_true rfl) (Nat.zero_le _) (Nat.zero_le _) dX0_takeBack_37 ?_
          refine nk_topl (y := (lN (min (tkR b (a9 * 10000) i) (b i)))) (nk_minL (by omega) (by omega)) ?_
          refine lv_lstore (lv' := [(7, .long (lN (min (tkR b (a9 * 10000) i) (b i)))), (0, .ref h0), (1, .long (lN a9)), (3, .int (nI t9)), (4, .long (lN (tkR b (a9 * 10000) i))), (6, .int (nI i))]) hx hb dX0_takeBack_40 hl (by decide) rfl (fun ls hl => ?_)
          refine lv_aload_n hx hb dX0_takeBack_42 rfl (lv_at hl 1 rfl) ?_
          refine va_get (D := D) (ci := 0) (v := .ref h6) (C := RX0) (T := TX0) (N := 17) hx hb hts hin hown hK hP 0 rfl rfl 12 (by decide) f29 (fun _ h9 => h9) rfl dX0_takeBack_43 ?_
          refine lv_iload hx hb dX0_takeBack_46 (lv_at hl 5 rfl) ?_
          refine lv_dup2_11 hx hb dX0_takeBack_48 rfl rfl ?_
          refine nk_lald hx hb hK hP 6 1 rfl rfl (by omega) (by decide) dX0_takeBack_49 ?_
          refine nk_topl (y := (lN (b i))) (congrArg lN (tkB_self _ _ _)) ?_
          refine lv_lload hx hb dX0_takeBack_50 (lv_at hl 0 rfl) ?_
          refine nk_lsub hx hb (Nat.min_le_right _ _) dX0_takeBack_52 ?_
          refine nk_last hx hb hK hP hD hS 6 1 rfl rfl (by omega) (by decide) dX0_takeBack_53 (fun H locs hP hD hS => ?_)
          have hP : va_P D vwCl (wX h0 h1 h2 h3 h4 h5 h6 h7 h8 h9 cI cJ d r lc bg w rm k pn fa e1 am dd rt (va_up (tkB b (a9 * 10000) i) i ((b i) - (min (tkR b (a9 * 10000) i) (b i)))) pd pt (tkT tp b (a9 * 10000) pn i)) H := hP
          have hD : va_D A (wX h0 h1 h2 h3 h4 h5 h6 h7 h8 h9 cI cJ d r lc bg w rm k pn fa e1 am dd rt (va_up (tkB b (a9 * 10000) i) i ((b i) - (min (tkR b (a9 * 10000) i) (b i)))) pd pt (tkT tp b (a9 * 10000) pn i)) := hD
          rw [tkB_s] at hP hD
          refine lv_lload hx hb dX0_takeBack_54 (lv_at hl 4 rfl) ?_
          refine lv_lload hx hb dX0_takeBack_56 (lv_at hl 0 rfl) ?_
          refine nk_lsub hx hb (Nat.min_le_left _ _) dX0_takeBack_58 ?_
          refine lv_lstore (lv' := [(4, .long (lN ((tkR b (a9 * 10000) i) - (min (tkR b (a9 * 10000) i) (b i))))), (7, .long (lN (min (tkR b (a9 * 10000) i) (b i)))), (0, .ref h0), (1, .long (lN a9)), (3, .int (nI t9)), (6, .int (nI i))]) hx hb dX0_takeBack_59 hl (by decide) rfl (fun ls hl => ?_)
          refine lv_aload_n hx hb dX0_takeBack_61 rfl (lv_at hl 2 rfl) ?_
          refine va_get (D := D) (ci := 0) (v := .ref h9) (C := RX0) (T := TX0) (N := 17) hx hb hts hin hown hK hP 0 rfl rfl 16 (by decide) f39 (fun _ h9 => h9) rfl dX0_takeBack_62 ?_
          refine lv_iload hx hb dX0_takeBack_65 (lv_at hl 5 rfl) ?_
          refine lv_bipush (v := nI 40) hx hb dX0_takeBack_67 (by decide +kernel) ?_
          refine nk_imul hx hb dX0_takeBack_69 ?_
          refine lv_aload_n hx hb dX0_takeBack_70 rfl (lv_at hl 2 rfl) ?_
          refine va_get (D := D) (ci := 0) (v := .int (nI pn)) (C := RX0) (T := TX0) (N := 17) hx hb hts hin hown hK hP 0 rfl rfl 13 (by decide) f98 (fun _ h9 => h9) rfl dX0_takeBack_71 ?_
          refine nk_iadd hx hb dX0_takeBack_74 ?_
          refine lv_lload hx hb dX0_takeBack_75 (lv_at hl 1 rfl) ?_
          refine nk_last hx hb hK hP hD hS 9 1 rfl rfl (by omega) (by decide) dX0_takeBack_77 (fun H locs hP hD hS => ?_)
          have hP : va_P D vwCl (wX h0 h1 h2 h3 h4 h5 h6 h7 h8 h9 cI cJ d r lc bg w rm k pn fa e1 am dd rt (tkB b (a9 * 10000) (i + 1)) pd pt (va_up (tkT tp b (a9 * 10000) pn i) ((i * 40) + pn) (min (tkR b (a9 * 10000) i) (b i)))) H := hP
          have hD : va_D A (wX h0 h1 h2 h3 h4 h5 h6 h7 h8 h9 cI cJ d r lc bg w rm k pn fa e1 am dd rt (tkB b (a9 * 10000) (i + 1)) pd pt (va_up (tkT tp b (a9 * 10000) pn i) ((i * 40) + pn) (min (tkR b (a9 * 10000) i) (b i)))) := hD
          rw [tkT_s _ _ _ _ _ hp40] at hP hD
          refine lv_iinc (v := (nI (i + 1))) (lv' := [(6, .int (nI (i + 1))), (4, .long (lN ((tkR b (a9 * 10000) i) - (min (tkR b (a9 * 10000) i) (b i))))), (7, .long (lN (min (tkR b (a9 * 10000) i) (b i)))), (0, .ref h0), (1, .long (lN a9)), (3, .int (nI t9))]) hx hb dX0_takeBack_78 hl (k := 5) rfl (nI_1 _) (by decide) rfl (fun ls hl => ?_)
          refine lv_goto (tgt := 19) hx hb dX0_takeBack_81 (by decide) ?_
          have q9 : ((lN (tkR b (a9 * 10000) (i + 1)))) = ((lN ((tkR b (a9 * 10000) i) - (min (tkR b (a9 * 10000) i) (b i))))) := (by rw [tkR_s]; congr 1; omega)
          have hl : lv_has ls 9 [(0, .ref h0), (1, .long (lN a9)), (3, .int (nI t9)), (4, .long (lN (tkR b (a9 * 10000) (i + 1)))), (6, .int (nI (i + 1)))] := by
            rw [q9]
            exact lv_sub hl [3, 4, 5, 1, 0] rfl
          exact ih19 (i + 1) (by omega) (by omega) H locs hP hD hS ls hl
    have hP : va_P D vwCl (wX h0 h1 h2 h3 h4 h5 h6 h7 h8 h9 cI cJ d r lc bg w rm k pn fa e1 am dd rt (tkB b (a9 * 10000) 0) pd pt (tkT tp b (a9 * 10000) pn 0)) s.heap := by rw [tkB_0, tkT_0]; exact hP
    have hD : va_D A (wX h0 h1 h2 h3 h4 h5 h6 h7 h8 h9 cI cJ d r lc bg w rm k pn fa e1 am dd rt (tkB b (a9 * 10000) 0) pd pt (tkT tp b (a9 * 10000) pn 0)) := by rw [tkB_0, tkT_0]; exact hD
    exact loop19 (k + 1) 0 (by omega) (by omega) s.heap [] hP hD hS ls (lv_sub hl [2, 3, 4, 1, 0] rfl)
set_option maxHeartbeats 4000000 in
set_option maxRecDepth 100000 in
theorem c_X0_setRate (l : Launch) (hfl : l.stackTraces = false) (D : va_G) (h0 h1 h2 h3 h4 h5 h6 h7 h8 h9 : Nat) (cI cJ : ClassId) (d r lc bg w rm k pn : Nat) (fa e1 am dd rt b pd pt tp : Nat → Nat) (sz : Nat) (p0 : Int32) (z : Int) (a9 : Nat)  (hz : p0.toInt = z) (hpa : 0 ≤ z → p0 = nI a9 ∧ a9 < 2147483648)  : vx_Met l yX0_setRate wsX0_setRate { frames := 7, cells := 1, slots := 6, locals := 114 } (nk_Px D (wX h0 h1 h2 h3 h4 h5 h6 h7 h8 h9 cI cJ d r lc bg w rm k pn fa e1 am dd rt b pd pt tp) (tX cI cJ) sz [.ref h0, .int p0]) (va_Qi (fun r9 w1 => (0 ≤ z ∧ z ≤ 2000) ∧ r9 = nI r ∧ w1 = wX h0 h1 h2 h3 h4 h5 h6 h7 h8 h9 cI cJ d a9 lc bg w rm k pn fa e1 am dd rt b pd pt tp) (fun w1 t => nk_At D (tX cI cJ) (va_A (wX h0 h1 h2 h3 h4 h5 h6 h7 h8 h9 cI cJ d r lc bg w rm k pn fa e1 am dd rt b pd pt tp) sz) w1 t) (va_A (wX h0 h1 h2 h3 h4 h5 h6 h7 h8 h9 cI cJ d r lc bg w rm k pn fa e1 am dd rt b pd pt tp) sz)) (nk_XC (fun E => E = RIA ∧ ¬ (0 ≤ z ∧ z ≤ 2000)) sz) 1 6 (va_A (wX h0 h1 h2 h3 h4 h5 h6 h7 h8 h9 cI cJ d r lc bg w rm k pn fa e1 am dd rt b pd pt tp) sz) := by
  refine vx_ofW (cc := cX0_setRate) (maxL := 3) (ret := (some .int)) (by decide) rfl ?_
  intro p e s m args below meth c s₁ B hml htab hv
  obtain ⟨hargs, hsz, hP, hK, hD0, hZ⟩ := hv
  have hx := B.exec
  have hb := B.bytes
  have hr := B.returns
  have hts := atoms_spec (ws := wsX0_setRate) B.pre
  have hown : s.vm.findClass RX0 = some m.cls := findClass_of_methodNamed B.named
  have hlocks := B.notSynchronized
  subst hsz
  have hin : ∀ w ∈ wsX00, w ∈ wsX0_setRate := by decide +kernel
  have hD := hD0.self (sz := s.heap.size)
  generalize hAe : va_A (wX h0 h1 h2 h3 h4 h5 h6 h7 h8 h9 cI cJ d r lc bg w rm k pn fa e1 am dd rt b pd pt tp) s.heap.size = A at hD ⊢
  have hA : ∀ q : Nat, s.heap.size ≤ q → A q := fun q h => by rw [← hAe]; exact Or.inr h
  have hS : va_S A s.heap s.heap [] := va_S.rf
  have hSz : va_S (va_A (wX h0 h1 h2 h3 h4 h5 h6 h7 h8 h9 cI cJ d r lc bg w rm k pn fa e1 am dd rt b pd pt tp) s.heap.size) s.heap s.heap [] := va_S.rf
  have f9 := hts (.fieldLink RX0 9 "EquityRelease" "rateNow" "I") (by decide +kernel)
  have hl := lv_entry ([.ref h0, .int p0]) (n := 3) (Nat.le_of_ble_eq_true rfl)
  have hEe : entryFrame m args 3 = entryFrame m ([.ref h0, .int p0] : List Value).toArray 3 := by rw [hargs]
  rw [hEe, lg_entry_eq]
  generalize (lg_sl ([.ref h0, .int p0]) ++ List.replicate (3 - (lg_sl ([.ref h0, .int p0])).length) Slot.unset).toArray = ls at hl ⊢
  have hl : lv_has ls 3 [(0, .ref h0), (1, .int p0)] := hl
  refine lv_iload_n hx hb dX0_setRate_0 rfl (lv_at hl 1 rfl) ?_
  refine lv_iconst (v := nI 0) hx hb dX0_setRate_1 (by decide +kernel) ?_
  refine lv_sipush (v := nI 2000) hx hb dX0_setRate_2 (by decide +kernel) ?_
  refine nk_rdx (vx_runS (As := [.int p0, .int (nI 0), .int (nI 2000)]) (rest := []) ⟨hx, hb, hml, hown, hts⟩ (c_X0_requireWithin l hfl s.heap.size p0 z 0 2000 hz (by decide) (by decide)) (va_cwS 3 hts gX0_setRate_X0_requireWithin rfl rfl rfl (by decide +kernel) ⟨Nat.le_of_ble_eq_true rfl, Nat.le_of_ble_eq_true rfl⟩) ⟨nk_Ps.blind, fun U hU hW => ⟨rfl, by rw [hU], by rw [hU]; exact nk_Z.go hZ hW (fun q h => Or.inr h)⟩⟩ rfl rfl hl.1 rfl (lv_room (Nat.le_of_ble_eq_true rfl)) dX0_setRate_5 ⟨Nat.le_of_ble_eq_true rfl, Nat.le_of_ble_eq_true rfl⟩) hS hA (fun E ce q9 H1 hE hz hk9 hS1 hce hcv hcl => ?_) (fun hok5 => ?_)
  · exact vx_out (fun x h => (htab x h).elim) hlocks hce hcv hcl (fun t ht hW => ⟨(), trivial, ⟨hE.1, by have := hE.2; omega⟩, by rw [ht]; exact hz, fun q h1 _ => by rw [ht]; exact hk9 q h1⟩) (fun z h => nomatch h) (Nat.le_of_ble_eq_true rfl) (Nat.le_of_ble_eq_true rfl)
  refine W.eq (g2 := F0 m 8 ls []) rfl ?_
  obtain ⟨rfl, ha9⟩ := hpa (by omega)
  have za : z = (a9 : Int) := by rw [← hz]; exact nI_toInt (by omega)
  refine lv_aload_n hx hb dX0_setRate_8 rfl (lv_at hl 0 rfl) ?_
  refine va_get (D := D) (ci := 0) (v := .int (nI r)) (C := RX0) (T := TX0) (N := 17) hx hb hts hin hown hK hP 0 rfl rfl 1 (by decide) f9 (fun _ h9 => h9) rfl dX0_setRate_9 ?_
  refine lv_istore_n (lv' := [(2, .int (nI r)), (0, .ref h0), (1, .int (nI a9))]) hx hb dX0_setRate_12 rfl hl (by decide) rfl (fun ls hl => ?_)
  refine lv_aload_n hx hb dX0_setRate_13 rfl (lv_at hl 1 rfl) ?_
  refine lv_iload_n hx hb dX0_setRate_14 rfl (lv_at hl 2 rfl) ?_
  refine va_put (D := D) (ci := 0) (v := .int (nI a9)) (ty := .int) (C := RX0) (T := TX0) (N := 17) hx hb hts hin tyX0 tyX0_ok nmX0 hown hK hP hD hS 0 rfl rfl 1 (by decide) f9 (fun _ h9 => h9) rfl (by decide +kernel) rfl rfl (Nat.le_of_ble_eq_true rfl) dX0_setRate_15 (fun H locs hP hD hS => ?_)
  have hP : va_P D vwCl (wX h0 h1 h2 h3 h4 h5 h6 h7 h8 h9 cI cJ d a9 lc bg w rm k pn fa e1 am dd rt b pd pt tp) H := hP
  have hD : va_D A (wX h0 h1 h2 h3 h4 h5 h6 h7 h8 h9 cI cJ d a9 lc bg w rm k pn fa e1 am dd rt b pd pt tp) := hD
  refine lv_iload_n hx hb dX0_setRate_18 rfl (lv_at hl 0 rfl) ?_
  refine vx_ret ?_
  refine W.widen (k := 1) (n := 6) (by decide) (by decide) ?_
  exact W.iret (v := (nI r)) hx hb hr (fun t ht hW => ⟨⟨(nI r), wX h0 h1 h2 h3 h4 h5 h6 h7 h8 h9 cI cJ d a9 lc bg w rm k pn fa e1 am dd rt b pd pt tp, rfl, ⟨by omega, rfl, rfl⟩, by rw [ht]; exact hP, va_K.moved hW.alike hK, hD⟩, hS.F ht⟩) hS.2.2 dX0_setRate_19
set_option maxHeartbeats 4000000 in
set_option maxRecDepth 100000 in
theorem c_X0_draw (l : Launch) (hfl : l.stackTraces = false) (D : va_G) (h0 h1 h2 h3 h4 h5 h6 h7 h8 h9 : Nat) (cI cJ : ClassId) (d r lc bg w rm k pn : Nat) (fa e1 am dd rt b pd pt tp : Nat → Nat) (sz : Nat) (p0 : Int32) (z : Int) (a9 : Nat)  (hz : p0.toInt = z) (hpa : 0 ≤ z → p0 = nI a9 ∧ a9 < 2147483648) (hlc : lc ≤ 2) (he : ∀ j, j < lc → e1 j ≤ 15001) (hk : k ≤ 20) (hrm : rm ≤ 10000000) : vx_Met l yX0_draw wsX0_draw { frames := 7, cells := 1, slots := 6, locals := 114 } (nk_Px D (wX h0 h1 h2 h3 h4 h5 h6 h7 h8 h9 cI cJ d r lc bg w rm k pn fa e1 am dd rt b pd pt tp) (tX cI cJ) sz [.ref h0, .int p0]) (va_Qi (fun r9 w1 => (1 ≤ z ∧ z ≤ 10000000) ∧ (0 < lc ∧ 0 < alive e1 lc) ∧ (a9 ≤ rm ∧ k < 20) ∧ r9 = nI (rm - a9) ∧ w1 = wX h0 h1 h2 h3 h4 h5 h6 h7 h8 h9 cI cJ d r lc bg w (rm - a9) (k + 1) pn fa e1 (va_up am k a9) (va_up dd k d) (va_up rt k r) (va_up b k (a9 * 10000)) pd pt tp) (fun w1 t => nk_At D (tX cI cJ) (va_A (wX h0 h1 h2 h3 h4 h5 h6 h7 h8 h9 cI cJ d r lc bg w rm k pn fa e1 am dd rt b pd pt tp) sz) w1 t) (va_A (wX h0 h1 h2 h3 h4 h5 h6 h7 h8 h9 cI cJ d r lc bg w rm k pn fa e1 am dd rt b pd pt tp) sz)) (nk_XC (fun E => (E = RIA ∧ ¬ (1 ≤ z ∧ z ≤ 10000000)) ∨ (E = RIS ∧ (1 ≤ z ∧ z ≤ 10000000) ∧ ¬ ((0 < lc ∧ 0 < alive e1 lc) ∧ (a9 ≤ rm ∧ k < 20)))) sz) 1 6 (va_A (wX h0 h1 h2 h3 h4 h5 h6 h7 h8 h9 cI cJ d r lc bg w rm k pn fa e1 am dd rt b pd pt tp) sz) := by
  refine vx_ofW (cc := cX0_draw) (maxL := 2) (ret := (some .int)) (by decide) rfl ?_
  intro p e s m args below meth c s₁ B hml htab hv
  obtain ⟨hargs, hsz, hP, hK, hD0, hZ⟩ := hv
  have hx := B.exec
  have hb := B.bytes
  have hr := B.returns
  have hts := atoms_spec (ws := wsX0_draw) B.pre
  have hown : s.vm.findClass RX0 = some m.cls := findClass_of_methodNamed B.named
  have hlocks := B.notSynchronized
  subst hsz
  have hin : ∀ w ∈ wsX00, w ∈ wsX0_draw := by decide +kernel
  have hD := hD0.self (sz := s.heap.size)
  generalize hAe : va_A (wX h0 h1 h2 h3 h4 h5 h6 h7 h8 h9 cI cJ d r lc bg w rm k pn fa e1 am dd rt b pd pt tp) s.heap.size = A at hD ⊢
  have hA : ∀ q : Nat, s.heap.size ≤ q → A q := fun q h => by rw [← hAe]; exact Or.inr h
  have hS : va_S A s.heap s.heap [] := va_S.rf
  have hSz : va_S (va_A (wX h0 h1 h2 h3 h4 h5 h6 h7 h8 h9 cI cJ d r lc bg w rm k pn fa e1 am dd rt b pd pt tp) s.heap.size) s.heap s.heap [] := va_S.rf
  obtain ⟨fx, hr65, hr92, hr101, hr111, hr125, hr128, hr134, hr136, hr145, hr167, hr170⟩ := hZ.2.2.2
  have k42 : (Cond.constant RX0 42 (nI 10000000)).before args s = true := by
    rw [show (nI 10000000 : Int32) = 10000000 from by decide +kernel]
    exact hts (.constant RX0 42 (10000000)) (by decide +kernel)
  have f80 := hts (.fieldLink RX0 80 "EquityRelease" "roomLeft" "I") (by decide +kernel)
  have a67 : ∀ w ∈ vx_atS RX0 67 RIS ["java/lang/RuntimeException", "java/lang/Exception"], w.before args s = true := vx_hat (B := [.castable RIS RIS, .declares (Bundle.initS "java/lang/RuntimeException"), .declares (Bundle.initS "java/lang/Exception"), .declares (Bundle.initS Bundle.tN)]) (fun w h => hts w ((by decide +kernel : ∀ w ∈ (vx_atS RX0 67 RIS ["java/lang/RuntimeException", "java/lang/Exception"]).filter goodWord, w ∈ wsX0_draw) w h)) (by decide +kernel) (vx_c (va_Nw.use (A := args) rfl hZ.2.1.2.1) (vx_c (va_Nw.use (A := args) rfl hZ.2.2.1.1) (vx_c (va_Nw.use (A := args) rfl hZ.2.2.1.2.1) (vx_c (va_Nw.use (A := args) rfl hZ.2.2.1.2.2) vx_n))))
  have f89 := hts (.fieldLink RX0 89 "EquityRelease" "drawingCount" "I") (by decide +kernel)
  have hl := lv_entry ([.ref h0, .int p0]) (n := 2) (Nat.le_of_ble_eq_true rfl)
  have hEe : entryFrame m args 2 = entryFrame m ([.ref h0, .int p0] : List Value).toArray 2 := by rw [hargs]
  rw [hEe, lg_entry_eq]
  generalize (lg_sl ([.ref h0, .int p0]) ++ List.replicate (2 - (lg_sl ([.ref h0, .int p0])).length) Slot.unset).toArray = ls at hl ⊢
  have hl : lv_has ls 2 [(0, .ref h0), (1, .int p0)] := hl
  refine lv_iload_n hx hb dX0_draw_0 rfl (lv_at hl 1 rfl) ?_
  refine lv_iconst (v := nI 1) hx hb dX0_draw_1 (by decide +kernel) ?_
  refine lv_ldc (v := nI 10000000) hx hb hown k42 dX0_draw_2 ?_
  refine nk_rdx (vx_runS (As := [.int p0, .int (nI 1), .int (nI 10000000)]) (rest := []) ⟨hx, hb, hml, hown, hts⟩ (c_X0_requireWithin l hfl s.heap.size p0 z 1 10000000 hz (by decide) (by decide)) (va_cwS 3 hts gX0_draw_X0_requireWithin rfl rfl rfl (by decide +kernel) ⟨Nat.le_of_ble_eq_true rfl, Nat.le_of_ble_eq_true rfl⟩) ⟨nk_Ps.blind, fun U hU hW => ⟨rfl, by rw [hU], by rw [hU]; exact nk_Z.go hZ hW (fun q h => Or.inr h)⟩⟩ rfl rfl hl.1 rfl (lv_room (Nat.le_of_ble_eq_true rfl)) dX0_draw_4 ⟨Nat.le_of_ble_eq_true rfl, Nat.le_of_ble_eq_true rfl⟩) hS hA (fun E ce q9 H1 hE hz hk9 hS1 hce hcv hcl => ?_) (fun hok4 => ?_)
  · exact vx_out (fun x h => (htab x h).elim) hlocks hce hcv hcl (fun t ht hW => ⟨(), trivial, Or.inl ⟨hE.1, by have := hE.2; omega⟩, by rw [ht]; exact hz, fun q h1 _ => by rw [ht]; exact hk9 q h1⟩) (fun z h => nomatch h) (Nat.le_of_ble_eq_true rfl) (Nat.le_of_ble_eq_true rfl)
  refine W.eq (g2 := F0 m 7 ls []) rfl ?_
  obtain ⟨rfl, ha9⟩ := hpa (by omega)
  have za : z = (a9 : Int) := by rw [← hz]; exact nI_toInt (by omega)
  refine lv_aload_n hx hb dX0_draw_7 rfl (lv_at hl 0 rfl) ?_
  refine nk_rdx (vx_runV (As := []) (rest := []) ⟨hx, hb, hml, hown, hts⟩ (c_X0_requireRunning l hfl D h0 h1 h2 h3 h4 h5 h6 h7 h8 h9 cI cJ d r lc bg w rm k pn fa e1 am dd rt b pd pt tp s.heap.size hlc he) (cwV 0 hts gX0_draw_X0_requireRunning rfl rfl rfl (by decide +kernel) ⟨Nat.le_of_ble_eq_true rfl, Nat.le_of_ble_eq_true rfl⟩) ⟨nk_Px.blind, va_recv hK hP (ci := 0) (q0 := 0) rfl rfl, fun U hU hW => ⟨rfl, by rw [hU], by rw [hU]; exact hP, va_K.moved hW.alike hK, hD.weaken (fun _ _ _ _ => trivial), by rw [hU]; exact nk_Z.go hZ hW (fun _ h => h)⟩⟩ rfl rfl hl.1 rfl (lv_room (Nat.le_of_ble_eq_true rfl)) dX0_draw_8 ⟨Nat.le_of_ble_eq_true rfl, Nat.le_of_ble_eq_true rfl⟩) hS hA (fun E ce q9 H1 hE hz hk9 hS1 hce hcv hcl => ?_) (fun hok8 => ?_)
  · exact vx_out (fun x h => (htab x h).elim) hlocks hce hcv hcl (fun t ht hW => ⟨(), trivial, Or.inr ⟨hE.1, by omega, fun q => hE.2 q.1⟩, by rw [ht]; exact hz, fun q h1 _ => by rw [ht]; exact hk9 q h1⟩) (fun z h => nomatch h) (Nat.le_of_ble_eq_true rfl) (Nat.le_of_ble_eq_true rfl)
  refine W.eq (g2 := F0 m 11 ls []) rfl ?_
  refine lv_iload_n hx hb dX0_draw_11 rfl (lv_at hl 1 rfl) ?_
  refine lv_aload_n hx hb dX0_draw_12 rfl (lv_at hl 0 rfl) ?_
  refine va_get (D := D) (ci := 0) (v := .int (nI rm)) (C := RX0) (T := TX0) (N := 17) hx hb hts hin hown hK hP 0 rfl rfl 7 (by decide) f80 (fun _ h9 => h9) rfl dX0_draw_13 ?_
  refine nk_icmp_gt (tgt := 28) hx hb (by omega) (by omega) dX0_draw_16 (by decide) (fun c16 => ?_) (fun c16 => ?_)
  · exact vx_throwS (own := RX0) (cls := RIS) (names := ["java/lang/RuntimeException", "java/lang/Exception"]) (ik := 63) (is := 92) (ic := 67) (A := va_A (wX h0 h1 h2 h3 h4 h5 h6 h7 h8 h9 cI cJ d r lc bg w rm k pn fa e1 am dd rt b pd pt tp) s.heap.size) hx hb hfl hown (by decide +kernel) (by decide +kernel) (hts (.classLink RX0 63 RIS) (by decide +kernel)) (hts (.initialized RIS) (by decide +kernel)) hr92 a67 (by decide +kernel) hZ.1.1 hZ.1.2 hSz (hl.1.trans hml.symm) dX0_draw_28 dX0_draw_31 dX0_draw_32 dX0_draw_34 dX0_draw_37 (fun x h => (htab x h).elim) (Nat.le_of_ble_eq_true rfl) (Nat.le_of_ble_eq_true rfl) (Nat.le_of_ble_eq_true rfl) (Nat.le_of_ble_eq_true rfl) hlocks (fun t hvm hsz9 hk9 => ⟨(), trivial, Or.inr ⟨rfl, by omega, fun q => by omega⟩, hsz9, fun q h1 _ => hk9 q h1⟩) (fun z h => nomatch h) (Nat.le_of_ble_eq_true rfl) (Nat.le_of_ble_eq_true rfl)
  · refine lv_aload_n hx hb dX0_draw_19 rfl (lv_at hl 0 rfl) ?_
    refine va_get (D := D) (ci := 0) (v := .int (nI k)) (C := RX0) (T := TX0) (N := 17) hx hb hts hin hown hK hP 0 rfl rfl 8 (by decide) f89 (fun _ h9 => h9) rfl dX0_draw_20 ?_
    refine lv_bipush (v := nI 20) hx hb dX0_draw_23 (by decide +kernel) ?_
    refine nk_icmp_lt (tgt := 38) hx hb (by omega) (by omega) dX0_draw_25 (by decide) (fun c25 => ?_) (fun c25 => ?_)
    · refine lv_aload_n hx hb dX0_draw_38 rfl (lv_at hl 0 rfl) ?_
      refine lv_iload_n hx hb dX0_draw_39 rfl (lv_at hl 1 rfl) ?_
      refine nk_vcall (wr := []) (va_runV (As := [.int (nI a9)]) (rest := []) ⟨hx, hb, hml, hown, hts⟩ (c_X0_addDrawing l D h0 h1 h2 h3 h4 h5 h6 h7 h8 h9 cI cJ d r lc bg w rm k pn fa e1 am dd rt b pd pt tp s.heap.size a9 (by omega) (by omega) (by omega)) (cwV 1 hts gX0_draw_X0_addDrawing rfl rfl rfl (by decide +kernel) ⟨Nat.le_of_ble_eq_true rfl, Nat.le_of_ble_eq_true rfl⟩) ⟨nk_Pw.blind, va_recv hK hP (ci := 0) (q0 := 0) rfl rfl, fun U hU hW => ⟨rfl, by rw [hU], by rw [hU]; exact hP, va_K.moved hW.alike hK, hD.weaken (fun _ _ _ _ => trivial)⟩⟩ rfl rfl hl.1 rfl (lv_room (Nat.le_of_ble_eq_true rfl)) dX0_draw_40 ⟨Nat.zero_le _, Nat.zero_le _⟩) hP hD hS hA [0, 1, 2, 3, 4, 5, 6, 7, 8, 9] [] rfl rfl rfl (by decide) (fun w1 H locs hw hP hD hS hk9 => ?_)
      subst hw
      have hP : va_P D vwCl (wX h0 h1 h2 h3 h4 h5 h6 h7 h8 h9 cI cJ d r lc bg w (rm - a9) (k + 1) pn fa e1 (va_up am k a9) (va_up dd k d) (va_up rt k r) (va_up b k (a9 * 10000)) pd pt tp) H := hP
      have hD : va_D A (wX h0 h1 h2 h3 h4 h5 h6 h7 h8 h9 cI cJ d r lc bg w (rm - a9) (k + 1) pn fa e1 (va_up am k a9) (va_up dd k d) (va_up rt k r) (va_up b k (a9 * 10000)) pd pt tp) := hD
      refine lv_aload_n hx hb dX0_draw_43 rfl (lv_at hl 0 rfl) ?_
      refine va_get (D := D) (ci := 0) (v := .int (nI (rm - a9))) (C := RX0) (T := TX0) (N := 17) hx hb hts hin hown hK hP 0 rfl rfl 7 (by decide) f80 (fun _ h9 => h9) rfl dX0_draw_44 ?_
      refine vx_ret ?_
      refine W.widen (k := 1) (n := 6) (by decide) (by decide) ?_
      exact W.iret (v := (nI (rm - a9))) hx hb hr (fun t ht hW => ⟨⟨(nI (rm - a9)), wX h0 h1 h2 h3 h4 h5 h6 h7 h8 h9 cI cJ d r lc bg w (rm - a9) (k + 1) pn fa e1 (va_up am k a9) (va_up dd k d) (va_up rt k r) (va_up b k (a9 * 10000)) pd pt tp, rfl, ⟨by omega, hok8, ⟨by omega, by omega⟩, rfl, rfl⟩, by rw [ht]; exact hP, va_K.moved hW.alike hK, hD⟩, hS.F ht⟩) hS.2.2 dX0_draw_47
    · exact vx_throwS (own := RX0) (cls := RIS) (names := ["java/lang/RuntimeException", "java/lang/Exception"]) (ik := 63) (is := 92) (ic := 67) (A := va_A (wX h0 h1 h2 h3 h4 h5 h6 h7 h8 h9 cI cJ d r lc bg w rm k pn fa e1 am dd rt b pd pt tp) s.heap.size) hx hb hfl hown (by decide +kernel) (by decide +kernel) (hts (.classLink RX0 63 RIS) (by decide +kernel)) (hts (.initialized RIS) (by decide +kernel)) hr92 a67 (by decide +kernel) hZ.1.1 hZ.1.2 hSz (hl.1.trans hml.symm) dX0_draw_28 dX0_draw_31 dX0_draw_32 dX0_draw_34 dX0_draw_37 (fun x h => (htab x h).elim) (Nat.le_of_ble_eq_true rfl) (Nat.le_of_ble_eq_true rfl) (Nat.le_of_ble_eq_true rfl) (Nat.le_of_ble_eq_true rfl) hlocks (fun t hvm hsz9 hk9 => ⟨(), trivial, Or.inr ⟨rfl, by omega, fun q => by omega⟩, hsz9, fun q h1 _ => hk9 q h1⟩) (fun z h => nomatch h) (Nat.le_of_ble_eq_true rfl) (Nat.le_of_ble_eq_true rfl)
set_option maxHeartbeats 4000000 in
set_option maxRecDepth 100000 in
theorem c_X0_pay (l : Launch) (hfl : l.stackTraces = false) (D : va_G) (h0 h1 h2 h3 h4 h5 h6 h7 h8 h9 : Nat) (cI cJ : ClassId) (d r lc bg w rm k pn : Nat) (fa e1 am dd rt b pd pt tp : Nat → Nat) (sz : Nat) (p0 : Int32) (z : Int) (a9 : Nat)  (hz : p0.toInt = z) (hpa : 0 ≤ z → p0 = nI a9 ∧ a9 < 2147483648) (hlc : lc ≤ 2) (he : ∀ j, j < lc → e1 j ≤ 15001) (hed : ∀ j, j < lc → e1 j ≤ d + 1) (hk : k ≤ 20) (ham : ∀ j, j < k → am j ≤ 10000000) (hpn : pn ≤ 40) (hbg : bg ≤ d) (hd : d ≤ 15000) (hpd : ∀ j, j < pn → bg ≤ pd j ∧ pd j ≤ 15000) (hpt : ∀ j, j < pn → pt j ≤ 10000000) (hbs : sm b k < 4611686018427387904) (hb9 : ∀ j, j < k → b j < 4611686018427387904) : vx_Met l yX0_pay wsX0_pay { frames := 7, cells := 1, slots := 6, locals := 114 } (nk_Px D (wX h0 h1 h2 h3 h4 h5 h6 h7 h8 h9 cI cJ d r lc bg w rm k pn fa e1 am dd rt b pd pt tp) (tX cI cJ) sz [.ref h0, .int p0]) (va_Qi (fun r9 w1 => (1 ≤ z ∧ z ≤ 10000000) ∧ (0 < lc ∧ 0 < alive e1 lc) ∧ (a9 ≤ ceilA (sm b k) ∧ pn < 40) ∧ r9 = nI (chg (mxE e1 lc) d ((d - bg) / 365) (sm am k) (pY bg pd pt ((d - bg) / 365) pn) a9) ∧ w1 = wX h0 h1 h2 h3 h4 h5 h6 h7 h8 h9 cI cJ d r lc bg w rm k (pn + 1) fa e1 am dd rt (tkB b (a9 * 10000) k) (va_up pd pn d) (va_up pt pn a9) (tkT tp b (a9 * 10000) pn k)) (fun w1 t => nk_At D (tX cI cJ) (va_A (wX h0 h1 h2 h3 h4 h5 h6 h7 h8 h9 cI cJ d r lc bg w rm k pn fa e1 am dd rt b pd pt tp) sz) w1 t) (va_A (wX h0 h1 h2 h3 h4 h5 h6 h7 h8 h9 cI cJ d r lc bg w rm k pn fa e1 am dd rt b pd pt tp) sz)) (nk_XC (fun E => (E = RIA ∧ ¬ (1 ≤ z ∧ z ≤ 10000000)) ∨ (E = RIS ∧ (1 ≤ z ∧ z ≤ 10000000) ∧ ¬ ((0 < lc ∧ 0 < alive e1 lc) ∧ (a9 ≤ ceilA (sm b k) ∧ pn < 40)))) sz) 1 6 (va_A (wX h0 h1 h2 h3 h4 h5 h6 h7 h8 h9 cI cJ d r lc bg w rm k pn fa e1 am dd rt b pd pt tp) sz) := by
  refine vx_ofW (cc := cX0_pay) (maxL := 3) (ret := (some .int)) (by decide) rfl ?_
  intro p e s m args below meth c s₁ B hml htab hv
  obtain ⟨hargs, hsz, hP, hK, hD0, hZ⟩ := hv
  have hx := B.exec
  have hb := B.bytes
  have hr := B.returns
  have hts := atoms_spec (ws := wsX0_pay) B.pre
  have hown : s.vm.findClass RX0 = some m.cls := findClass_of_methodNamed B.named
  have hlocks := B.notSynchronized
  subst hsz
  have hin : ∀ w ∈ wsX00, w ∈ wsX0_pay := by decide +kernel
  have hD := hD0.self (sz := s.heap.size)
  generalize hAe : va_A (wX h0 h1 h2 h3 h4 h5 h6 h7 h8 h9 cI cJ d r lc bg w rm k pn fa e1 am dd rt b pd pt tp) s.heap.size = A at hD ⊢
  have hA : ∀ q : Nat, s.heap.size ≤ q → A q := fun q h => by rw [← hAe]; exact Or.inr h
  have hS : va_S A s.heap s.heap [] := va_S.rf
  have hSz : va_S (va_A (wX h0 h1 h2 h3 h4 h5 h6 h7 h8 h9 cI cJ d r lc bg w rm k pn fa e1 am dd rt b pd pt tp) s.heap.size) s.heap s.heap [] := va_S.rf
  obtain ⟨fx, hr65, hr92, hr101, hr111, hr125, hr128, hr134, hr136, hr145, hr167, hr170⟩ := hZ.2.2.2
  have k42 : (Cond.constant RX0 42 (nI 10000000)).before args s = true := by
    rw [show (nI 10000000 : Int32) = 10000000 from by decide +kernel]
    exact hts (.constant RX0 42 (10000000)) (by decide +kernel)
  have a67 : ∀ w ∈ vx_atS RX0 67 RIS ["java/lang/RuntimeException", "java/lang/Exception"], w.before args s = true := vx_hat (B := [.castable RIS RIS, .declares (Bundle.initS "java/lang/RuntimeException"), .declares (Bundle.initS "java/lang/Exception"), .declares (Bundle.initS Bundle.tN)]) (fun w h => hts w ((by decide +kernel : ∀ w ∈ (vx_atS RX0 67 RIS ["java/lang/RuntimeException", "java/lang/Exception"]).filter goodWord, w ∈ wsX0_pay) w h)) (by decide +kernel) (vx_c (va_Nw.use (A := args) rfl hZ.2.1.2.1) (vx_c (va_Nw.use (A := args) rfl hZ.2.2.1.1) (vx_c (va_Nw.use (A := args) rfl hZ.2.2.1.2.1) (vx_c (va_Nw.use (A := args) rfl hZ.2.2.1.2.2) vx_n))))
  have f98 := hts (.fieldLink RX0 98 "EquityRelease" "paymentCount" "I") (by decide +kernel)
  have hl := lv_entry ([.ref h0, .int p0]) (n := 3) (Nat.le_of_ble_eq_true rfl)
  have hEe : entryFrame m args 3 = entryFrame m ([.ref h0, .int p0] : List Value).toArray 3 := by rw [hargs]
  rw [hEe, lg_entry_eq]
  generalize (lg_sl ([.ref h0, .int p0]) ++ List.replicate (3 - (lg_sl ([.ref h0, .int p0])).length) Slot.unset).toArray = ls at hl ⊢
  have hl : lv_has ls 3 [(0, .ref h0), (1, .int p0)] := hl
  refine lv_iload_n hx hb dX0_pay_0 rfl (lv_at hl 1 rfl) ?_
  refine lv_iconst (v := nI 1) hx hb dX0_pay_1 (by decide +kernel) ?_
  refine lv_ldc (v := nI 10000000) hx hb hown k42 dX0_pay_2 ?_
  refine nk_rdx (vx_runS (As := [.int p0, .int (nI 1), .int (nI 10000000)]) (rest := []) ⟨hx, hb, hml, hown, hts⟩ (c_X0_requireWithin l hfl s.heap.size p0 z 1 10000000 hz (by decide) (by decide)) (va_cwS 3 hts gX0_pay_X0_requireWithin rfl rfl rfl (by decide +kernel) ⟨Nat.le_of_ble_eq_true rfl, Nat.le_of_ble_eq_true rfl⟩) ⟨nk_Ps.blind, fun U hU hW => ⟨rfl, by rw [hU], by rw [hU]; exact nk_Z.go hZ hW (fun q h => Or.inr h)⟩⟩ rfl rfl hl.1 rfl (lv_room (Nat.le_of_ble_eq_true rfl)) dX0_pay_4 ⟨Nat.le_of_ble_eq_true rfl, Nat.le_of_ble_eq_true rfl⟩) hS hA (fun E ce q9 H1 hE hz hk9 hS1 hce hcv hcl => ?_) (fun hok4 => ?_)
  · exact vx_out (fun x h => (htab x h).elim) hlocks hce hcv hcl (fun t ht hW => ⟨(), trivial, Or.inl ⟨hE.1, by have := hE.2; omega⟩, by rw [ht]; exact hz, fun q h1 _ => by rw [ht]; exact hk9 q h1⟩) (fun z h => nomatch h) (Nat.le_of_ble_eq_true rfl) (Nat.le_of_ble_eq_true rfl)
  refine W.eq (g2 := F0 m 7 ls []) rfl ?_
  obtain ⟨rfl, ha9⟩ := hpa (by omega)
  have za : z = (a9 : Int) := by rw [← hz]; exact nI_toInt (by omega)
  refine lv_aload_n hx hb dX0_pay_7 rfl (lv_at hl 0 rfl) ?_
  refine nk_rdx (vx_runV (As := []) (rest := []) ⟨hx, hb, hml, hown, hts⟩ (c_X0_requireRunning l hfl D h0 h1 h2 h3 h4 h5 h6 h7 h8 h9 cI cJ d r lc bg w rm k pn fa e1 am dd rt b pd pt tp s.heap.size hlc he) (cwV 0 hts gX0_pay_X0_requireRunning rfl rfl rfl (by decide +kernel) ⟨Nat.le_of_ble_eq_true rfl, Nat.le_of_ble_eq_true rfl⟩) ⟨nk_Px.blind, va_recv hK hP (ci := 0) (q0 := 0) rfl rfl, fun U hU hW => ⟨rfl, by rw [hU], by rw [hU]; exact hP, va_K.moved hW.alike hK, hD.weaken (fun _ _ _ _ => trivial), by rw [hU]; exact nk_Z.go hZ hW (fun _ h => h)⟩⟩ rfl rfl hl.1 rfl (lv_room (Nat.le_of_ble_eq_true rfl)) dX0_pay_8 ⟨Nat.le_of_ble_eq_true rfl, Nat.le_of_ble_eq_true rfl⟩) hS hA (fun E ce q9 H1 hE hz hk9 hS1 hce hcv hcl => ?_) (fun hok8 => ?_)
  · exact vx_out (fun x h => (htab x h).elim) hlocks hce hcv hcl (fun t ht hW => ⟨(), trivial, Or.inr ⟨hE.1, by omega, fun q => hE.2 q.1⟩, by rw [ht]; exact hz, fun q h1 _ => by rw [ht]; exact hk9 q h1⟩) (fun z h => nomatch h) (Nat.le_of_ble_eq_true rfl) (Nat.le_of_ble_eq_true rfl)
  refine W.eq (g2 := F0 m 11 ls []) rfl ?_
  refine lv_iload_n hx hb dX0_pay_11 rfl (lv_at hl 1 rfl) ?_
  refine nk_i2l hx hb (by omega) dX0_pay_12 ?_
  refine lv_aload_n hx hb dX0_pay_13 rfl (lv_at hl 0 rfl) ?_
  refine nk_rd (W.runV (As := []) (rest := [.long (lN a9)]) ⟨hx, hb, hml, hown, hts⟩ (c_X0_debt l D h0 h1 h2 h3 h4 h5 h6 h7 h8 h9 cI cJ d r lc bg w rm k pn fa e1 am dd rt b pd pt tp hk hbs) (cwV 0 hts gX0_pay_X0_debt rfl rfl rfl (by decide +kernel) ⟨Nat.le_of_ble_eq_true rfl, Nat.le_of_ble_eq_true rfl⟩) ⟨nk_Pr.blind, va_recv hK hP (ci := 0) (q0 := 0) rfl rfl, fun U hU hW => ⟨rfl, by rw [hU]; exact hP, va_K.moved hW.alike hK⟩⟩ rfl rfl hl.1 rfl (lv_room (Nat.le_of_ble_eq_true rfl)) dX0_pay_14 ⟨Nat.zero_le _, Nat.zero_le _⟩) ?_
  refine W.eq (g2 := F0 m 17 ls [.long (lN (ceilA (sm b k))), .long (lN a9)]) rfl ?_
  have hc9 : ceilA (sm b k) < 4611686018427387904 := by unfold ceilA; omega
  refine nk_lcmp_gt (tgt := 30) hx hb (by omega) (by omega) dX0_pay_17 dX0_pay_18 (by decide) (fun c17 => ?_) (fun c17 => ?_)
  · exact vx_throwS (own := RX0) (cls := RIS) (names := ["java/lang/RuntimeException", "java/lang/Exception"]) (ik := 63) (is := 101) (ic := 67) (A := va_A (wX h0 h1 h2 h3 h4 h5 h6 h7 h8 h9 cI cJ d r lc bg w rm k pn fa e1 am dd rt b pd pt tp) s.heap.size) hx hb hfl hown (by decide +kernel) (by decide +kernel) (hts (.classLink RX0 63 RIS) (by decide +kernel)) (hts (.initialized RIS) (by decide +kernel)) hr101 a67 (by decide +kernel) hZ.1.1 hZ.1.2 hSz (hl.1.trans hml.symm) dX0_pay_30 dX0_pay_33 dX0_pay_34 dX0_pay_36 dX0_pay_39 (fun x h => (htab x h).elim) (Nat.le_of_ble_eq_true rfl) (Nat.le_of_ble_eq_true rfl) (Nat.le_of_ble_eq_true rfl) (Nat.le_of_ble_eq_true rfl) hlocks (fun t hvm hsz9 hk9 => ⟨(), trivial, Or.inr ⟨rfl, by omega, fun q => by omega⟩, hsz9, fun q h1 _ => hk9 q h1⟩) (fun z h => nomatch h) (Nat.le_of_ble_eq_true rfl) (Nat.le_of_ble_eq_true rfl)
  · refine lv_aload_n hx hb dX0_pay_21 rfl (lv_at hl 0 rfl) ?_
    refine va_get (D := D) (ci := 0) (v := .int (nI pn)) (C := RX0) (T := TX0) (N := 17) hx hb hts hin hown hK hP 0 rfl rfl 13 (by decide) f98 (fun _ h9 => h9) rfl dX0_pay_22 ?_
    refine lv_bipush (v := nI 40) hx hb dX0_pay_25 (by decide +kernel) ?_
    refine nk_icmp_lt (tgt := 40) hx hb (by omega) (by omega) dX0_pay_27 (by decide) (fun c27 => ?_) (fun c27 => ?_)
    · refine lv_aload_n hx hb dX0_pay_40 rfl (lv_at hl 0 rfl) ?_
      refine lv_iload_n hx hb dX0_pay_41 rfl (lv_at hl 1 rfl) ?_
      refine nk_rd (W.runV (As := [.int (nI a9)]) (rest := []) ⟨hx, hb, hml, hown, hts⟩ (c_X0_chargeFor l D h0 h1 h2 h3 h4 h5 h6 h7 h8 h9 cI cJ d r lc bg w rm k pn fa e1 am dd rt b pd pt tp a9 (by omega) hlc he hed hk ham hpn hbg hd hpd hpt) (cwV 1 hts gX0_pay_X0_chargeFor rfl rfl rfl (by decide +kernel) ⟨Nat.le_of_ble_eq_true rfl, Nat.le_of_ble_eq_true rfl⟩) ⟨nk_Pr.blind, va_recv hK hP (ci := 0) (q0 := 0) rfl rfl, fun U hU hW => ⟨rfl, by rw [hU]; exact hP, va_K.moved hW.alike hK⟩⟩ rfl rfl hl.1 rfl (lv_room (Nat.le_of_ble_eq_true rfl)) dX0_pay_42 ⟨Nat.zero_le _, Nat.zero_le _⟩) ?_
      refine W.eq (g2 := F0 m 45 ls [.int (nI (chg (mxE e1 lc) d ((d - bg) / 365) (sm am k) (pY bg pd pt ((d - bg) / 365) pn) a9))]) rfl ?_
      refine lv_istore_n (lv' := [(2, .int (nI (chg (mxE e1 lc) d ((d - bg) / 365) (sm am k) (pY bg pd pt ((d - bg) / 365) pn) a9))), (0, .ref h0), (1, .int (nI a9))]) hx hb dX0_pay_45 rfl hl (by decide) rfl (fun ls hl => ?_)
      refine lv_aload_n hx hb dX0_pay_46 rfl (lv_at hl 1 rfl) ?_
      refine lv_iload_n hx hb dX0_pay_47 rfl (lv_at hl 2 rfl) ?_
      refine nk_i2l hx hb (by omega) dX0_pay_48 ?_
      refine lv_iload_n hx hb dX0_pay_49 rfl (lv_at hl 2 rfl) ?_
      refine nk_vcall (wr := []) (va_runV (As := [.long (lN a9), .int (nI a9)]) (rest := []) ⟨hx, hb, hml, hown, hts⟩ (c_X0_takeBack l D h0 h1 h2 h3 h4 h5 h6 h7 h8 h9 cI cJ d r lc bg w rm k pn fa e1 am dd rt b pd pt tp s.heap.size a9 a9 (by omega) hk (by omega) hb9) (cwV 2 hts gX0_pay_X0_takeBack rfl rfl rfl (by decide +kernel) ⟨Nat.le_of_ble_eq_true rfl, Nat.le_of_ble_eq_true rfl⟩) ⟨nk_Pw.blind, va_recv hK hP (ci := 0) (q0 := 0) rfl rfl, fun U hU hW => ⟨rfl, by rw [hU], by rw [hU]; exact hP, va_K.moved hW.alike hK, hD.weaken (fun _ _ _ _ => trivial)⟩⟩ rfl rfl hl.1 rfl (lv_room (Nat.le_of_ble_eq_true rfl)) dX0_pay_50 ⟨Nat.zero_le _, Nat.zero_le _⟩) hP hD hS hA [0, 1, 2, 3, 4, 5, 6, 7, 8, 9] [] rfl rfl rfl (by decide) (fun w1 H locs hw hP hD hS hk9 => ?_)
      subst hw
      have hP : va_P D vwCl (wX h0 h1 h2 h3 h4 h5 h6 h7 h8 h9 cI cJ d r lc bg w rm k (pn + 1) fa e1 am dd rt (tkB b (a9 * 10000) k) (va_up pd pn d) (va_up pt pn a9) (tkT tp b (a9 * 10000) pn k)) H := hP
      have hD : va_D A (wX h0 h1 h2 h3 h4 h5 h6 h7 h8 h9 cI cJ d r lc bg w rm k (pn + 1) fa e1 am dd rt (tkB b (a9 * 10000) k) (va_up pd pn d) (va_up pt pn a9) (tkT tp b (a9 * 10000) pn k)) := hD
      refine lv_iload_n hx hb dX0_pay_53 rfl (lv_at hl 0 rfl) ?_
      refine vx_ret ?_
      refine W.widen (k := 1) (n := 6) (by decide) (by decide) ?_
      exact W.iret (v := (nI (chg (mxE e1 lc) d ((d - bg) / 365) (sm am k) (pY bg pd pt ((d - bg) / 365) pn) a9))) hx hb hr (fun t ht hW => ⟨⟨(nI (chg (mxE e1 lc) d ((d - bg) / 365) (sm am k) (pY bg pd pt ((d - bg) / 365) pn) a9)), wX h0 h1 h2 h3 h4 h5 h6 h7 h8 h9 cI cJ d r lc bg w rm k (pn + 1) fa e1 am dd rt (tkB b (a9 * 10000) k) (va_up pd pn d) (va_up pt pn a9) (tkT tp b (a9 * 10000) pn k), rfl, ⟨by omega, hok8, ⟨by omega, by omega⟩, rfl, rfl⟩, by rw [ht]; exact hP, va_K.moved hW.alike hK, hD⟩, hS.F ht⟩) hS.2.2 dX0_pay_54
    · exact vx_throwS (own := RX0) (cls := RIS) (names := ["java/lang/RuntimeException", "java/lang/Exception"]) (ik := 63) (is := 101) (ic := 67) (A := va_A (wX h0 h1 h2 h3 h4 h5 h6 h7 h8 h9 cI cJ d r lc bg w rm k pn fa e1 am dd rt b pd pt tp) s.heap.size) hx hb hfl hown (by decide +kernel) (by decide +kernel) (hts (.classLink RX0 63 RIS) (by decide +kernel)) (hts (.initialized RIS) (by decide +kernel)) hr101 a67 (by decide +kernel) hZ.1.1 hZ.1.2 hSz (hl.1.trans hml.symm) dX0_pay_30 dX0_pay_33 dX0_pay_34 dX0_pay_36 dX0_pay_39 (fun x h => (htab x h).elim) (Nat.le_of_ble_eq_true rfl) (Nat.le_of_ble_eq_true rfl) (Nat.le_of_ble_eq_true rfl) (Nat.le_of_ble_eq_true rfl) hlocks (fun t hvm hsz9 hk9 => ⟨(), trivial, Or.inr ⟨rfl, by omega, fun q => by omega⟩, hsz9, fun q h1 _ => hk9 q h1⟩) (fun z h => nomatch h) (Nat.le_of_ble_eq_true rfl) (Nat.le_of_ble_eq_true rfl)
set_option maxHeartbeats 4000000 in
set_option maxRecDepth 100000 in
theorem c_X0_pass (l : Launch) (hfl : l.stackTraces = false) (D : va_G) (h0 h1 h2 h3 h4 h5 h6 h7 h8 h9 : Nat) (cI cJ : ClassId) (d r lc bg w rm k pn : Nat) (fa e1 am dd rt b pd pt tp : Nat → Nat) (sz : Nat) (p0 : Int32) (z : Int) (a9 : Nat)  (hz : p0.toInt = z) (hpa : 0 ≤ z → p0 = nI a9 ∧ a9 < 2147483648) (hlc : lc ≤ 2) (he : ∀ j, j < lc → e1 j ≤ 15001) (hk : k ≤ 20) (hd : d ≤ 15000) (hroll : ∀ q, q < k → ∀ j, d + j ≤ 15000 → roll (rt q) (b q) j * rt q < 9223372036854775808) (hrt : ∀ q, q < k → rt q ≤ 2000)  : vx_Met l yX0_pass wsX0_pass { frames := 7, cells := 1, slots := 6, locals := 114 } (nk_Px D (wX h0 h1 h2 h3 h4 h5 h6 h7 h8 h9 cI cJ d r lc bg w rm k pn fa e1 am dd rt b pd pt tp) (tX cI cJ) sz [.ref h0, .int p0]) (va_Qi (fun r9 w1 => (1 ≤ z ∧ z ≤ 3650) ∧ d + a9 ≤ 15000 ∧ r9 = nI (d + a9) ∧ (((0 < lc ∧ alive e1 lc = 0) ∧ w1 = wX h0 h1 h2 h3 h4 h5 h6 h7 h8 h9 cI cJ (d + a9) r lc bg w rm k pn fa e1 am dd rt b pd pt tp) ∨ (¬ (0 < lc ∧ alive e1 lc = 0) ∧ w1 = wX h0 h1 h2 h3 h4 h5 h6 h7 h8 h9 cI cJ (d + a9) r lc bg w rm k pn fa e1 am dd rt (rlB rt b a9 k) pd pt tp))) (fun w1 t => nk_At D (tX cI cJ) (va_A (wX h0 h1 h2 h3 h4 h5 h6 h7 h8 h9 cI cJ d r lc bg w rm k pn fa e1 am dd rt b pd pt tp) sz) w1 t) (va_A (wX h0 h1 h2 h3 h4 h5 h6 h7 h8 h9 cI cJ d r lc bg w rm k pn fa e1 am dd rt b pd pt tp) sz)) (nk_XC (fun E => (E = RIA ∧ ¬ (1 ≤ z ∧ z ≤ 3650)) ∨ (E = RIS ∧ (1 ≤ z ∧ z ≤ 3650) ∧ ¬ (d + a9 ≤ 15000))) sz) 1 6 (va_A (wX h0 h1 h2 h3 h4 h5 h6 h7 h8 h9 cI cJ d r lc bg w rm k pn fa e1 am dd rt b pd pt tp) sz) := by
  refine vx_ofW (cc := cX0_pass) (maxL := 3) (ret := (some .int)) (by decide) rfl ?_
  intro p e s m args below meth c s₁ B hml htab hv
  obtain ⟨hargs, hsz, hP, hK, hD0, hZ⟩ := hv
  have hx := B.exec
  have hb := B.bytes
  have hr := B.returns
  have hts := atoms_spec (ws := wsX0_pass) B.pre
  have hown : s.vm.findClass RX0 = some m.cls := findClass_of_methodNamed B.named
  have hlocks := B.notSynchronized
  subst hsz
  have hin : ∀ w ∈ wsX00, w ∈ wsX0_pass := by decide +kernel
  have hD := hD0.self (sz := s.heap.size)
  generalize hAe : va_A (wX h0 h1 h2 h3 h4 h5 h6 h7 h8 h9 cI cJ d r lc bg w rm k pn fa e1 am dd rt b pd pt tp) s.heap.size = A at hD ⊢
  have hA : ∀ q : Nat, s.heap.size ≤ q → A q := fun q h => by rw [← hAe]; exact Or.inr h
  have hS : va_S A s.heap s.heap [] := va_S.rf
  have hSz : va_S (va_A (wX h0 h1 h2 h3 h4 h5 h6 h7 h8 h9 cI cJ d r lc bg w rm k pn fa e1 am dd rt b pd pt tp) s.heap.size) s.heap s.heap [] := va_S.rf
  obtain ⟨fx, hr65, hr92, hr101, hr111, hr125, hr128, hr134, hr136, hr145, hr167, hr170⟩ := hZ.2.2.2
  have f53 := hts (.fieldLink RX0 53 "EquityRelease" "today" "I") (by decide +kernel)
  have f89 := hts (.fieldLink RX0 89 "EquityRelease" "drawingCount" "I") (by decide +kernel)
  have f29 := hts (.fieldLink RX0 29 "EquityRelease" "balances" "[J") (by decide +kernel)
  have f26 := hts (.fieldLink RX0 26 "EquityRelease" "drawnRates" "[I") (by decide +kernel)
  have a67 : ∀ w ∈ vx_atS RX0 67 RIS ["java/lang/RuntimeException", "java/lang/Exception"], w.before args s = true := vx_hat (B := [.castable RIS RIS, .declares (Bundle.initS "java/lang/RuntimeException"), .declares (Bundle.initS "java/lang/Exception"), .declares (Bundle.initS Bundle.tN)]) (fun w h => hts w ((by decide +kernel : ∀ w ∈ (vx_atS RX0 67 RIS ["java/lang/RuntimeException", "java/lang/Exception"]).filter goodWord, w ∈ wsX0_pass) w h)) (by decide +kernel) (vx_c (va_Nw.use (A := args) rfl hZ.2.1.2.1) (vx_c (va_Nw.use (A := args) rfl hZ.2.2.1.1) (vx_c (va_Nw.use (A := args) rfl hZ.2.2.1.2.1) (vx_c (va_Nw.use (A := args) rfl hZ.2.2.1.2.2) vx_n))))
  have hl := lv_entry ([.ref h0, .int p0]) (n := 3) (Nat.le_of_ble_eq_true rfl)
  have hEe : entryFrame m args 3 = entryFrame m ([.ref h0, .int p0] : List Value).toArray 3 := by rw [hargs]
  rw [hEe, lg_entry_eq]
  generalize (lg_sl ([.ref h0, .int p0]) ++ List.replicate (3 - (lg_sl ([.ref h0, .int p0])).length) Slot.unset).toArray = ls at hl ⊢
  have hl : lv_has ls 3 [(0, .ref h0), (1, .int p0)] := hl
  refine lv_iload_n hx hb dX0_pass_0 rfl (lv_at hl 1 rfl) ?_
  refine lv_iconst (v := nI 1) hx hb dX0_pass_1 (by decide +kernel) ?_
  refine lv_sipush (v := nI 3650) hx hb dX0_pass_2 (by decide +kernel) ?_
  refine nk_rdx (vx_runS (As := [.int p0, .int (nI 1), .int (nI 3650)]) (rest := []) ⟨hx, hb, hml, hown, hts⟩ (c_X0_requireWithin l hfl s.heap.size p0 z 1 3650 hz (by decide) (by decide)) (va_cwS 3 hts gX0_pass_X0_requireWithin rfl rfl rfl (by decide +kernel) ⟨Nat.le_of_ble_eq_true rfl, Nat.le_of_ble_eq_true rfl⟩) ⟨nk_Ps.blind, fun U hU hW => ⟨rfl, by rw [hU], by rw [hU]; exact nk_Z.go hZ hW (fun q h => Or.inr h)⟩⟩ rfl rfl hl.1 rfl (lv_room (Nat.le_of_ble_eq_true rfl)) dX0_pass_5 ⟨Nat.le_of_ble_eq_true rfl, Nat.le_of_ble_eq_true rfl⟩) hS hA (fun E ce q9 H1 hE hz hk9 hS1 hce hcv hcl => ?_) (fun hok5 => ?_)
  · exact vx_out (fun x h => (htab x h).elim) hlocks hce hcv hcl (fun t ht hW => ⟨(), trivial, Or.inl ⟨hE.1, by have := hE.2; omega⟩, by rw [ht]; exact hz, fun q h1 _ => by rw [ht]; exact hk9 q h1⟩) (fun z h => nomatch h) (Nat.le_of_ble_eq_true rfl) (Nat.le_of_ble_eq_true rfl)
  refine W.eq (g2 := F0 m 8 ls []) rfl ?_
  obtain ⟨rfl, ha9⟩ := hpa (by omega)
  have za : z = (a9 : Int) := by rw [← hz]; exact nI_toInt (by omega)
  refine lv_iload_n hx hb dX0_pass_8 rfl (lv_at hl 1 rfl) ?_
  refine lv_sipush (v := nI 15000) hx hb dX0_pass_9 (by decide +kernel) ?_
  refine lv_aload_n hx hb dX0_pass_12 rfl (lv_at hl 0 rfl) ?_
  refine va_get (D := D) (ci := 0) (v := .int (nI d)) (C := RX0) (T := TX0) (N := 17) hx hb hts hin hown hK hP 0 rfl rfl 0 (by decide) f53 (fun _ h9 => h9) rfl dX0_pass_13 ?_
  refine nk_isub hx hb (by omega) dX0_pass_16 ?_
  refine nk_icmp_le (tgt := 30) hx hb (by omega) (by omega) dX0_pass_17 (by decide) (fun c17 => ?_) (fun c17 => ?_)
  · refine lv_aload_n hx hb dX0_pass_30 rfl (lv_at hl 0 rfl) ?_
    refine lv_dup hx hb dX0_pass_31 rfl ?_
    refine va_get (D := D) (ci := 0) (v := .int (nI d)) (C := RX0) (T := TX0) (N := 17) hx hb hts hin hown hK hP 0 rfl rfl 0 (by decide) f53 (fun _ h9 => h9) rfl dX0_pass_32 ?_
    refine lv_iload_n hx hb dX0_pass_35 rfl (lv_at hl 1 rfl) ?_
    refine nk_iadd hx hb dX0_pass_36 ?_
    refine va_put (D := D) (ci := 0) (v := .int (nI (d + a9))) (ty := .int) (C := RX0) (T := TX0) (N := 17) hx hb hts hin tyX0 tyX0_ok nmX0 hown hK hP hD hS 0 rfl rfl 0 (by decide) f53 (fun _ h9 => h9) rfl (by decide +kernel) rfl rfl (Nat.le_of_ble_eq_true rfl) dX0_pass_37 (fun H locs hP hD hS => ?_)
    have hP : va_P D vwCl (wX h0 h1 h2 h3 h4 h5 h6 h7 h8 h9 cI cJ (d + a9) r lc bg w rm k pn fa e1 am dd rt b pd pt tp) H := hP
    have hD : va_D A (wX h0 h1 h2 h3 h4 h5 h6 h7 h8 h9 cI cJ (d + a9) r lc bg w rm k pn fa e1 am dd rt b pd pt tp) := hD
    refine lv_aload_n hx hb dX0_pass_40 rfl (lv_at hl 0 rfl) ?_
    refine nk_rd (W.runV (As := []) (rest := []) ⟨hx, hb, hml, hown, hts⟩ (c_X0_hasEnded l D h0 h1 h2 h3 h4 h5 h6 h7 h8 h9 cI cJ (d + a9) r lc bg w rm k pn fa e1 am dd rt b pd pt tp hlc he) (cwV 0 hts gX0_pass_X0_hasEnded rfl rfl rfl (by decide +kernel) ⟨Nat.le_of_ble_eq_true rfl, Nat.le_of_ble_eq_true rfl⟩) ⟨nk_Pr.blind, va_recv hK hP (ci := 0) (q0 := 0) rfl rfl, fun U hU hW => ⟨rfl, by rw [hU]; exact hP, va_K.moved hW.alike hK⟩⟩ rfl rfl hl.1 rfl (lv_room (Nat.le_of_ble_eq_true rfl)) dX0_pass_41 ⟨Nat.zero_le _, Nat.zero_le _⟩) ?_
    refine W.eq (g2 := F0 m 44 ls [.int (nI (if 0 < lc ∧ alive e1 lc = 0 then 1 else 0))]) rfl ?_
    refine nk_bif_ne (tgt := 85) hx hb dX0_pass_44 (by decide) (fun c44 => ?_) (fun c44 => ?_)
    · refine lv_aload_n hx hb dX0_pass_85 rfl (lv_at hl 0 rfl) ?_
      refine va_get (D := D) (ci := 0) (v := .int (nI (d + a9))) (C := RX0) (T := TX0) (N := 17) hx hb hts hin hown hK hP 0 rfl rfl 0 (by decide) f53 (fun _ h9 => h9) rfl dX0_pass_86 ?_
      refine vx_ret ?_
      refine W.widen (k := 1) (n := 6) (by decide) (by decide) ?_
      exact W.iret (v := (nI (d + a9))) hx hb hr (fun t ht hW => ⟨⟨(nI (d + a9)), wX h0 h1 h2 h3 h4 h5 h6 h7 h8 h9 cI cJ (d + a9) r lc bg w rm k pn fa e1 am dd rt b pd pt tp, rfl, ⟨by omega, by omega, rfl, Or.inl ⟨c44, rfl⟩⟩, by rw [ht]; exact hP, va_K.moved hW.alike hK, hD⟩, hS.F ht⟩) hS.2.2 dX0_pass_89
    · refine lv_iconst (v := nI 0) hx hb dX0_pass_47 (by decide +kernel) ?_
      refine lv_istore_n (lv' := [(2, .int (nI 0)), (0, .ref h0), (1, .int (nI a9))]) hx hb dX0_pass_48 rfl hl (by decide) rfl (fun ls hl => ?_)
      have loop49 : ∀ (n : Nat) (i : Nat), (i ≤ k) → k + 1 ≤ i + n → ∀ (H : Heap) (locs : List Loc), va_P D vwCl (wX h0 h1 h2 h3 h4 h5 h6 h7 h8 h9 cI cJ (d + a9) r lc bg w rm k pn fa e1 am dd rt (rlB rt b a9 i) pd pt tp) H → va_D A (wX h0 h1 h2 h3 h4 h5 h6 h7 h8 h9 cI cJ (d + a9) r lc bg w rm k pn fa e1 am dd rt (rlB rt b a9 i) pd pt tp) → va_S A s.heap H locs → ∀ ls : Array Slot, lv_has ls 3 [(0, .ref h0), (1, .int (nI a9)), (2, .int (nI i))] → W p l e (headSpec wsX0_pass { frames := 7, cells := 1, slots := 6, locals := 114 }).room s m args below meth c H locs 0 0 (vx_MQ below (va_Qi (fun r9 w1 => (1 ≤ z ∧ z ≤ 3650) ∧ d + a9 ≤ 15000 ∧ r9 = nI (d + a9) ∧ (((0 < lc ∧ alive e1 lc = 0) ∧ w1 = wX h0 h1 h2 h3 h4 h5 h6 h7 h8 h9 cI cJ (d + a9) r lc bg w rm k pn fa e1 am dd rt b pd pt tp) ∨ (¬ (0 < lc ∧ alive e1 lc = 0) ∧ w1 = wX h0 h1 h2 h3 h4 h5 h6 h7 h8 h9 cI cJ (d + a9) r lc bg w rm k pn fa e1 am dd rt (rlB rt b a9 k) pd pt tp))) (fun w1 t => nk_At D (tX cI cJ) A w1 t) A) (nk_XC (fun E => (E = RIA ∧ ¬ (1 ≤ z ∧ z ≤ 3650)) ∨ (E = RIS ∧ (1 ≤ z ∧ z ≤ 3650) ∧ ¬ (d + a9 ≤ 15000))) s.heap.size) args s 1 6 A) (F0 m 49 ls []) := by
        intro n
        induction n with
        | zero =>
          intro i hi hm
          exfalso; omega
        | succ n ih49 =>
          intro i hi hm H locs hP hD hS ls hl
          refine lv_iload_n hx hb dX0_pass_49 rfl (lv_at hl 2 rfl) ?_
          refine lv_aload_n hx hb dX0_pass_50 rfl (lv_at hl 0 rfl) ?_
          refine va_get (D := D) (ci := 0) (v := .int (nI k)) (C := RX0) (T := TX0) (N := 17) hx hb hts hin hown hK hP 0 rfl rfl 8 (by decide) f89 (fun _ h9 => h9) rfl dX0_pass_51 ?_
          refine nk_icmp_ge (tgt := 85) hx hb (by omega) (by omega) dX0_pass_54 (by decide) (fun c54 => ?_) (fun c54 => ?_)
          · have e9 : i = k := by omega
            rw [e9] at hP hD
            refine lv_aload_n hx hb dX0_pass_85 rfl (lv_at hl 0 rfl) ?_
            refine va_get (D := D) (ci := 0) (v := .int (nI (d + a9))) (C := RX0) (T := TX0) (N := 17) hx hb hts hin hown hK hP 0 rfl rfl 0 (by decide) f53 (fun _ h9 => h9) rfl dX0_pass_86 ?_
            refine vx_ret ?_
            refine W.widen (k := 1) (n := 6) (by decide) (by decide) ?_
            exact W.iret (v := (nI (d + a9))) hx hb hr (fun t ht hW => ⟨⟨(nI (d + a9)), wX h0 h1 h2 h3 h4 h5 h6 h7 h8 h9 cI cJ (d + a9) r lc bg w rm k pn fa e1 am dd rt (rlB rt b a9 k) pd pt tp, rfl, ⟨by omega, by omega, rfl, Or.inr ⟨c44, rfl⟩⟩, by rw [ht]; exact hP, va_K.moved hW.alike hK, hD⟩, hS.F ht⟩) hS.2.2 dX0_pass_89
          · refine lv_aload_n hx hb dX0_pass_57 rfl (lv_at hl 0 rfl) ?_
            refine va_get (D := D) (ci := 0) (v := .ref h6) (C := RX0) (T := TX0) (N := 17) hx hb hts hin hown hK hP 0 rfl rfl 12 (by decide) f29 (fun _ h9 => h9) rfl dX0_pass_58 ?_
            refine lv_iload_n hx hb dX0_pass_61 rfl (lv_at hl 2 rfl) ?_
            refine lv_aload_n hx hb dX0_pass_62 rfl (lv_at hl 0 rfl) ?_
            refine va_get (D := D) (ci := 0) (v := .ref h6) (C := RX0) (T := TX0) (N := 17) hx hb hts hin hown hK hP 0 rfl rfl 12 (by decide) f29 (fun _ h9 => h9) rfl dX0_pass_63 ?_
            refine lv_iload_n hx hb dX0_pass_66 rfl (lv_at hl 2 rfl) ?_
            refine nk_lald hx hb hK hP 6 1 rfl rfl (by omega) (by decide) dX0_pass_67 ?_
            refine nk_topl (y := (lN (b i))) (congrArg lN (rlB_self _ _ _ _)) ?_
            refine lv_aload_n hx hb dX0_pass_68 rfl (lv_at hl 0 rfl) ?_
            refine va_get (D := D) (ci := 0) (v := .ref h5) (C := RX0) (T := TX0) (N := 17) hx hb hts hin hown hK hP 0 rfl rfl 11 (by decide) f26 (fun _ h9 => h9) rfl dX0_pass_69 ?_
            refine lv_iload_n hx hb dX0_pass_72 rfl (lv_at hl 2 rfl) ?_
            refine nk_iald hx hb hK hP 5 0 rfl rfl (by omega) (by decide) dX0_pass_73 ?_
            refine lv_iload_n hx hb dX0_pass_74 rfl (lv_at hl 1 rfl) ?_
            refine nk_rd (W.runS (As := [.long (lN (b i)), .int (nI (rt i)), .int (nI a9)]) (rest := [.int (nI i), .ref h6]) ⟨hx, hb, hml, hown, hts⟩ (c_X0_rolledUp l (b i) (rt i) a9 (hrt i (by omega)) (by omega) (fun j hj => hroll i (by omega) j (by omega))) (va_cwS 3 hts gX0_pass_X0_rolledUp rfl rfl rfl (by decide +kernel) ⟨Nat.le_of_ble_eq_true rfl, Nat.le_of_ble_eq_true rfl⟩) ⟨nk_P0.blind, fun U hU hW => ⟨rfl, trivial⟩⟩ rfl rfl hl.1 rfl (lv_room (Nat.le_of_ble_eq_true rfl)) dX0_pass_75 ⟨Nat.zero_le _, Nat.zero_le _⟩) ?_
            refine W.eq (g2 := F0 m 78 ls [.long (lN (roll (rt i) (b i) a9)), .int (nI i), .ref h6]) rfl ?_
            refine nk_last hx hb hK hP hD hS 6 1 rfl rfl (by omega) (by decide) dX0_pass_78 (fun H locs hP hD hS => ?_)
            have hP : va_P D vwCl (wX h0 h1 h2 h3 h4 h5 h6 h7 h8 h9 cI cJ (d + a9) r lc bg w rm k pn fa e1 am dd rt (va_up (rlB rt b a9 i) i (roll (rt i) (b i) a9)) pd pt tp) H := hP
            have hD : va_D A (wX h0 h1 h2 h3 h4 h5 h6 h7 h8 h9 cI cJ (d + a9) r lc bg w rm k pn fa e1 am dd rt (va_up (rlB rt b a9 i) i (roll (rt i) (b i) a9)) pd pt tp) := hD
            rw [rlB_s] at hP hD
            refine lv_iinc (v := (nI (i + 1))) (lv' := [(2, .int (nI (i + 1))), (0, .ref h0), (1, .int (nI a9))]) hx hb dX0_pass_79 hl (k := 2) rfl (nI_1 _) (by decide) rfl (fun ls hl => ?_)
            refine lv_goto (tgt := 49) hx hb dX0_pass_82 (by decide) ?_
            exact ih49 (i + 1) (by omega) (by omega) H locs hP hD hS ls (lv_sub hl [1, 2, 0] rfl)
      have hP : va_P D vwCl (wX h0 h1 h2 h3 h4 h5 h6 h7 h8 h9 cI cJ (d + a9) r lc bg w rm k pn fa e1 am dd rt (rlB rt b a9 0) pd pt tp) H := by rw [rlB_0]; exact hP
      have hD : va_D A (wX h0 h1 h2 h3 h4 h5 h6 h7 h8 h9 cI cJ (d + a9) r lc bg w rm k pn fa e1 am dd rt (rlB rt b a9 0) pd pt tp) := by rw [rlB_0]; exact hD
      exact loop49 (k + 1) 0 (by omega) (by omega) H locs hP hD hS ls (lv_sub hl [1, 2, 0] rfl)
  · exact vx_throwS (own := RX0) (cls := RIS) (names := ["java/lang/RuntimeException", "java/lang/Exception"]) (ik := 63) (is := 111) (ic := 67) (A := va_A (wX h0 h1 h2 h3 h4 h5 h6 h7 h8 h9 cI cJ d r lc bg w rm k pn fa e1 am dd rt b pd pt tp) s.heap.size) hx hb hfl hown (by decide +kernel) (by decide +kernel) (hts (.classLink RX0 63 RIS) (by decide +kernel)) (hts (.initialized RIS) (by decide +kernel)) hr111 a67 (by decide +kernel) hZ.1.1 hZ.1.2 hSz (hl.1.trans hml.symm) dX0_pass_20 dX0_pass_23 dX0_pass_24 dX0_pass_26 dX0_pass_29 (fun x h => (htab x h).elim) (Nat.le_of_ble_eq_true rfl) (Nat.le_of_ble_eq_true rfl) (Nat.le_of_ble_eq_true rfl) (Nat.le_of_ble_eq_true rfl) hlocks (fun t hvm hsz9 hk9 => ⟨(), trivial, Or.inr ⟨rfl, by omega, fun q => by omega⟩, hsz9, fun q h1 _ => hk9 q h1⟩) (fun z h => nomatch h) (Nat.le_of_ble_eq_true rfl) (Nat.le_of_ble_eq_true rfl)
set_option maxHeartbeats 4000000 in
set_option maxRecDepth 100000 in
theorem c_X0_end (l : Launch) (hfl : l.stackTraces = false) (D : va_G) (h0 h1 h2 h3 h4 h5 h6 h7 h8 h9 : Nat) (cI cJ : ClassId) (d r lc bg w rm k pn : Nat) (fa e1 am dd rt b pd pt tp : Nat → Nat) (sz : Nat) (p0 : Int32) (z : Int) (a9 : Nat)  (hz : p0.toInt = z) (hpa : 0 ≤ z → p0 = nI a9 ∧ a9 < 2147483648) (hlc : lc ≤ 2) (he : ∀ j, j < lc → e1 j ≤ 15001) (hd : d ≤ 15000) : vx_Met l yX0_end wsX0_end { frames := 6, cells := 1, slots := 6, locals := 92 } (nk_Px D (wX h0 h1 h2 h3 h4 h5 h6 h7 h8 h9 cI cJ d r lc bg w rm k pn fa e1 am dd rt b pd pt tp) (tX cI cJ) sz [.ref h0, .int p0]) (va_Qi (fun r9 w1 => (0 ≤ z ∧ z < (lc : Int)) ∧ e1 a9 = 0 ∧ r9 = nI (alive (va_up e1 a9 (d + 1)) lc) ∧ w1 = wX h0 h1 h2 h3 h4 h5 h6 h7 h8 h9 cI cJ d r lc bg w rm k pn fa (va_up e1 a9 (d + 1)) am dd rt b pd pt tp) (fun w1 t => nk_At D (tX cI cJ) (va_A (wX h0 h1 h2 h3 h4 h5 h6 h7 h8 h9 cI cJ d r lc bg w rm k pn fa e1 am dd rt b pd pt tp) sz) w1 t) (va_A (wX h0 h1 h2 h3 h4 h5 h6 h7 h8 h9 cI cJ d r lc bg w rm k pn fa e1 am dd rt b pd pt tp) sz)) (nk_XC (fun E => (E = RIO ∧ ¬ (0 ≤ z ∧ z < (lc : Int))) ∨ (E = RIS ∧ (0 ≤ z ∧ z < (lc : Int)) ∧ 0 < e1 a9)) sz) 1 6 (va_A (wX h0 h1 h2 h3 h4 h5 h6 h7 h8 h9 cI cJ d r lc bg w rm k pn fa e1 am dd rt b pd pt tp) sz) := by
  refine vx_ofW (cc := cX0_end) (maxL := 2) (ret := (some .int)) (by decide) rfl ?_
  intro p e s m args below meth c s₁ B hml htab hv
  obtain ⟨hargs, hsz, hP, hK, hD0, hZ⟩ := hv
  have hx := B.exec
  have hb := B.bytes
  have hr := B.returns
  have hts := atoms_spec (ws := wsX0_end) B.pre
  have hown : s.vm.findClass RX0 = some m.cls := findClass_of_methodNamed B.named
  have hlocks := B.notSynchronized
  subst hsz
  have hin : ∀ w ∈ wsX00, w ∈ wsX0_end := by decide +kernel
  have hD := hD0.self (sz := s.heap.size)
  generalize hAe : va_A (wX h0 h1 h2 h3 h4 h5 h6 h7 h8 h9 cI cJ d r lc bg w rm k pn fa e1 am dd rt b pd pt tp) s.heap.size = A at hD ⊢
  have hA : ∀ q : Nat, s.heap.size ≤ q → A q := fun q h => by rw [← hAe]; exact Or.inr h
  have hS : va_S A s.heap s.heap [] := va_S.rf
  have hSz : va_S (va_A (wX h0 h1 h2 h3 h4 h5 h6 h7 h8 h9 cI cJ d r lc bg w rm k pn fa e1 am dd rt b pd pt tp) s.heap.size) s.heap s.heap [] := va_S.rf
  obtain ⟨fx, hr65, hr92, hr101, hr111, hr125, hr128, hr134, hr136, hr145, hr167, hr170⟩ := hZ.2.2.2
  have a127 : ∀ w ∈ vx_atS RX0 127 RIO ["java/lang/RuntimeException", "java/lang/Exception"], w.before args s = true := vx_hat (B := [.castable RIO RIO, .declares (Bundle.initS "java/lang/RuntimeException"), .declares (Bundle.initS "java/lang/Exception"), .declares (Bundle.initS Bundle.tN)]) (fun w h => hts w ((by decide +kernel : ∀ w ∈ (vx_atS RX0 127 RIO ["java/lang/RuntimeException", "java/lang/Exception"]).filter goodWord, w ∈ wsX0_end) w h)) (by decide +kernel) (vx_c (va_Nw.use (A := args) rfl hZ.2.1.2.2.1) (vx_c (va_Nw.use (A := args) rfl hZ.2.2.1.1) (vx_c (va_Nw.use (A := args) rfl hZ.2.2.1.2.1) (vx_c (va_Nw.use (A := args) rfl hZ.2.2.1.2.2) vx_n))))
  have f120 := hts (.fieldLink RX0 120 "EquityRelease" "lifeCount" "I") (by decide +kernel)
  have f17 := hts (.fieldLink RX0 17 "EquityRelease" "endDays" "[I") (by decide +kernel)
  have f53 := hts (.fieldLink RX0 53 "EquityRelease" "today" "I") (by decide +kernel)
  have a67 : ∀ w ∈ vx_atS RX0 67 RIS ["java/lang/RuntimeException", "java/lang/Exception"], w.before args s = true := vx_hat (B := [.castable RIS RIS, .declares (Bundle.initS "java/lang/RuntimeException"), .declares (Bundle.initS "java/lang/Exception"), .declares (Bundle.initS Bundle.tN)]) (fun w h => hts w ((by decide +kernel : ∀ w ∈ (vx_atS RX0 67 RIS ["java/lang/RuntimeException", "java/lang/Exception"]).filter goodWord, w ∈ wsX0_end) w h)) (by decide +kernel) (vx_c (va_Nw.use (A := args) rfl hZ.2.1.2.1) (vx_c (va_Nw.use (A := args) rfl hZ.2.2.1.1) (vx_c (va_Nw.use (A := args) rfl hZ.2.2.1.2.1) (vx_c (va_Nw.use (A := args) rfl hZ.2.2.1.2.2) vx_n))))
  have hl := lv_entry ([.ref h0, .int p0]) (n := 2) (Nat.le_of_ble_eq_true rfl)
  have hEe : entryFrame m args 2 = entryFrame m ([.ref h0, .int p0] : List Value).toArray 2 := by rw [hargs]
  rw [hEe, lg_entry_eq]
  generalize (lg_sl ([.ref h0, .int p0]) ++ List.replicate (2 - (lg_sl ([.ref h0, .int p0])).length) Slot.unset).toArray = ls at hl ⊢
  have hl : lv_has ls 2 [(0, .ref h0), (1, .int p0)] := hl
  refine lv_iload_n hx hb dX0_end_0 rfl (lv_at hl 1 rfl) ?_
  refine nk_zlt (tgt := 12) hx hb hz dX0_end_1 (by decide) (fun c1 => ?_) (fun c1 => ?_)
  · exact vx_throwS (own := RX0) (cls := RIO) (names := ["java/lang/RuntimeException", "java/lang/Exception"]) (ik := 123) (is := 125) (ic := 127) (A := va_A (wX h0 h1 h2 h3 h4 h5 h6 h7 h8 h9 cI cJ d r lc bg w rm k pn fa e1 am dd rt b pd pt tp) s.heap.size) hx hb hfl hown (by decide +kernel) (by decide +kernel) (hts (.classLink RX0 123 RIO) (by decide +kernel)) (hts (.initialized RIO) (by decide +kernel)) hr125 a127 (by decide +kernel) hZ.1.1 hZ.1.2 hSz (hl.1.trans hml.symm) dX0_end_12 dX0_end_15 dX0_end_16 dX0_end_18 dX0_end_21 (fun x h => (htab x h).elim) (Nat.le_of_ble_eq_true rfl) (Nat.le_of_ble_eq_true rfl) (Nat.le_of_ble_eq_true rfl) (Nat.le_of_ble_eq_true rfl) hlocks (fun t hvm hsz9 hk9 => ⟨(), trivial, Or.inl ⟨rfl, by omega⟩, hsz9, fun q h1 _ => hk9 q h1⟩) (fun z h => nomatch h) (Nat.le_of_ble_eq_true rfl) (Nat.le_of_ble_eq_true rfl)
  · refine lv_iload_n hx hb dX0_end_4 rfl (lv_at hl 1 rfl) ?_
    refine lv_aload_n hx hb dX0_end_5 rfl (lv_at hl 0 rfl) ?_
    refine va_get (D := D) (ci := 0) (v := .int (nI lc)) (C := RX0) (T := TX0) (N := 17) hx hb hts hin hown hK hP 0 rfl rfl 2 (by decide) f120 (fun _ h9 => h9) rfl dX0_end_6 ?_
    refine nk_zcmp_lt (tgt := 22) hx hb hz (nI_toInt (by omega)) dX0_end_9 (by decide) (fun c9 => ?_) (fun c9 => ?_)
    · obtain ⟨rfl, ha9⟩ := hpa (by omega)
      have za : z = (a9 : Int) := by rw [← hz]; exact nI_toInt (by omega)
      refine lv_aload_n hx hb dX0_end_22 rfl (lv_at hl 0 rfl) ?_
      refine va_get (D := D) (ci := 0) (v := .ref h2) (C := RX0) (T := TX0) (N := 17) hx hb hts hin hown hK hP 0 rfl rfl 4 (by decide) f17 (fun _ h9 => h9) rfl dX0_end_23 ?_
      refine lv_iload_n hx hb dX0_end_26 rfl (lv_at hl 1 rfl) ?_
      refine nk_eald hx hb hK hP 2 0 rfl rfl (by omega) (by decide) dX0_end_27 ?_
      refine lv_iconst (v := -1) hx hb dX0_end_28 (by decide) ?_
      have he1 := he a9 (by omega)
      refine nk_ecmp_eq (tgt := 42) hx hb (by omega) dX0_end_29 (by decide) (fun c29 => ?_) (fun c29 => ?_)
      · refine lv_aload_n hx hb dX0_end_42 rfl (lv_at hl 0 rfl) ?_
        refine va_get (D := D) (ci := 0) (v := .ref h2) (C := RX0) (T := TX0) (N := 17) hx hb hts hin hown hK hP 0 rfl rfl 4 (by decide) f17 (fun _ h9 => h9) rfl dX0_end_43 ?_
        refine lv_iload_n hx hb dX0_end_46 rfl (lv_at hl 1 rfl) ?_
        refine lv_aload_n hx hb dX0_end_47 rfl (lv_at hl 0 rfl) ?_
        refine va_get (D := D) (ci := 0) (v := .int (nI d)) (C := RX0) (T := TX0) (N := 17) hx hb hts hin hown hK hP 0 rfl rfl 0 (by decide) f53 (fun _ h9 => h9) rfl dX0_end_48 ?_
        refine nk_east hx hb hK hP hD hS 2 0 rfl rfl nk_e2.symm (by omega) (by decide) dX0_end_51 (fun H locs hP hD hS => ?_)
        have hP : va_P D vwCl (wX h0 h1 h2 h3 h4 h5 h6 h7 h8 h9 cI cJ d r lc bg w rm k pn fa (va_up e1 a9 (d + 1)) am dd rt b pd pt tp) H := hP
        have hD : va_D A (wX h0 h1 h2 h3 h4 h5 h6 h7 h8 h9 cI cJ d r lc bg w rm k pn fa (va_up e1 a9 (d + 1)) am dd rt b pd pt tp) := hD
        refine lv_aload_n hx hb dX0_end_52 rfl (lv_at hl 0 rfl) ?_
        refine nk_rd (W.runV (As := []) (rest := []) ⟨hx, hb, hml, hown, hts⟩ (c_X0_livesLeft l D h0 h1 h2 h3 h4 h5 h6 h7 h8 h9 cI cJ d r lc bg w rm k pn fa (va_up e1 a9 (d + 1)) am dd rt b pd pt tp hlc (fun j hj => by show (if j = a9 then d + 1 else e1 j) ≤ 15001; split; omega; exact he j hj)) (cwV 0 hts gX0_end_X0_livesLeft rfl rfl rfl (by decide +kernel) ⟨Nat.le_of_ble_eq_true rfl, Nat.le_of_ble_eq_true rfl⟩) ⟨nk_Pr.blind, va_recv hK hP (ci := 0) (q0 := 0) rfl rfl, fun U hU hW => ⟨rfl, by rw [hU]; exact hP, va_K.moved hW.alike hK⟩⟩ rfl rfl hl.1 rfl (lv_room (Nat.le_of_ble_eq_true rfl)) dX0_end_53 ⟨Nat.zero_le _, Nat.zero_le _⟩) ?_
        refine W.eq (g2 := F0 m 56 ls [.int (nI (alive (va_up e1 a9 (d + 1)) lc))]) rfl ?_
        refine vx_ret ?_
        refine W.widen (k := 1) (n := 6) (by decide) (by decide) ?_
        exact W.iret (v := (nI (alive (va_up e1 a9 (d + 1)) lc))) hx hb hr (fun t ht hW => ⟨⟨(nI (alive (va_up e1 a9 (d + 1)) lc)), wX h0 h1 h2 h3 h4 h5 h6 h7 h8 h9 cI cJ d r lc bg w rm k pn fa (va_up e1 a9 (d + 1)) am dd rt b pd pt tp, rfl, ⟨by omega, c29, rfl, rfl⟩, by rw [ht]; exact hP, va_K.moved hW.alike hK, hD⟩, hS.F ht⟩) hS.2.2 dX0_end_56
      · exact vx_throwS (own := RX0) (cls := RIS) (names := ["java/lang/RuntimeException", "java/lang/Exception"]) (ik := 63) (is := 128) (ic := 67) (A := va_A (wX h0 h1 h2 h3 h4 h5 h6 h7 h8 h9 cI cJ d r lc bg w rm k pn fa e1 am dd rt b pd pt tp) s.heap.size) hx hb hfl hown (by decide +kernel) (by decide +kernel) (hts (.classLink RX0 63 RIS) (by decide +kernel)) (hts (.initialized RIS) (by decide +kernel)) hr128 a67 (by decide +kernel) hZ.1.1 hZ.1.2 hSz (hl.1.trans hml.symm) dX0_end_32 dX0_end_35 dX0_end_36 dX0_end_38 dX0_end_41 (fun x h => (htab x h).elim) (Nat.le_of_ble_eq_true rfl) (Nat.le_of_ble_eq_true rfl) (Nat.le_of_ble_eq_true rfl) (Nat.le_of_ble_eq_true rfl) hlocks (fun t hvm hsz9 hk9 => ⟨(), trivial, Or.inr ⟨rfl, by omega, c29⟩, hsz9, fun q h1 _ => hk9 q h1⟩) (fun z h => nomatch h) (Nat.le_of_ble_eq_true rfl) (Nat.le_of_ble_eq_true rfl)
    · exact vx_throwS (own := RX0) (cls := RIO) (names := ["java/lang/RuntimeException", "java/lang/Exception"]) (ik := 123) (is := 125) (ic := 127) (A := va_A (wX h0 h1 h2 h3 h4 h5 h6 h7 h8 h9 cI cJ d r lc bg w rm k pn fa e1 am dd rt b pd pt tp) s.heap.size) hx hb hfl hown (by decide +kernel) (by decide +kernel) (hts (.classLink RX0 123 RIO) (by decide +kernel)) (hts (.initialized RIO) (by decide +kernel)) hr125 a127 (by decide +kernel) hZ.1.1 hZ.1.2 hSz (hl.1.trans hml.symm) dX0_end_12 dX0_end_15 dX0_end_16 dX0_end_18 dX0_end_21 (fun x h => (htab x h).elim) (Nat.le_of_ble_eq_true rfl) (Nat.le_of_ble_eq_true rfl) (Nat.le_of_ble_eq_true rfl) (Nat.le_of_ble_eq_true rfl) hlocks (fun t hvm hsz9 hk9 => ⟨(), trivial, Or.inl ⟨rfl, by omega⟩, hsz9, fun q h1 _ => hk9 q h1⟩) (fun z h => nomatch h) (Nat.le_of_ble_eq_true rfl) (Nat.le_of_ble_eq_true rfl)
set_option maxHeartbeats 4000000 in
set_option maxRecDepth 100000 in
theorem c_X0_value (l : Launch) (hfl : l.stackTraces = false) (D : va_G) (h0 h1 h2 h3 h4 h5 h6 h7 h8 h9 : Nat) (cI cJ : ClassId) (d r lc bg w rm k pn : Nat) (fa e1 am dd rt b pd pt tp : Nat → Nat) (sz : Nat) (p0 : Int32) (z : Int) (a9 : Nat)  (hz : p0.toInt = z) (hpa : 0 ≤ z → p0 = nI a9 ∧ a9 < 2147483648) (hlc : lc ≤ 2) : vx_Met l yX0_value wsX0_value { frames := 7, cells := 1, slots := 6, locals := 114 } (nk_Px D (wX h0 h1 h2 h3 h4 h5 h6 h7 h8 h9 cI cJ d r lc bg w rm k pn fa e1 am dd rt b pd pt tp) (tX cI cJ) sz [.ref h0, .int p0]) (va_Qi (fun r9 w1 => (0 ≤ z ∧ z ≤ 10000000) ∧ 0 < lc ∧ r9 = nI w ∧ w1 = wX h0 h1 h2 h3 h4 h5 h6 h7 h8 h9 cI cJ d r lc bg a9 rm k pn fa e1 am dd rt b pd pt tp) (fun w1 t => nk_At D (tX cI cJ) (va_A (wX h0 h1 h2 h3 h4 h5 h6 h7 h8 h9 cI cJ d r lc bg w rm k pn fa e1 am dd rt b pd pt tp) sz) w1 t) (va_A (wX h0 h1 h2 h3 h4 h5 h6 h7 h8 h9 cI cJ d r lc bg w rm k pn fa e1 am dd rt b pd pt tp) sz)) (nk_XC (fun E => (E = RIA ∧ ¬ (0 ≤ z ∧ z ≤ 10000000)) ∨ (E = RIS ∧ (0 ≤ z ∧ z ≤ 10000000) ∧ ¬ 0 < lc)) sz) 1 6 (va_A (wX h0 h1 h2 h3 h4 h5 h6 h7 h8 h9 cI cJ d r lc bg w rm k pn fa e1 am dd rt b pd pt tp) sz) := by
  refine vx_ofW (cc := cX0_value) (maxL := 3) (ret := (some .int)) (by decide) rfl ?_
  intro p e s m args below meth c s₁ B hml htab hv
  obtain ⟨hargs, hsz, hP, hK, hD0, hZ⟩ := hv
  have hx := B.exec
  have hb := B.bytes
  have hr := B.returns
  have hts := atoms_spec (ws := wsX0_value) B.pre
  have hown : s.vm.findClass RX0 = some m.cls := findClass_of_methodNamed B.named
  have hlocks := B.notSynchronized
  subst hsz
  have hin : ∀ w ∈ wsX00, w ∈ wsX0_value := by decide +kernel
  have hD := hD0.self (sz := s.heap.size)
  generalize hAe : va_A (wX h0 h1 h2 h3 h4 h5 h6 h7 h8 h9 cI cJ d r lc bg w rm k pn fa e1 am dd rt b pd pt tp) s.heap.size = A at hD ⊢
  have hA : ∀ q : Nat, s.heap.size ≤ q → A q := fun q h => by rw [← hAe]; exact Or.inr h
  have hS : va_S A s.heap s.heap [] := va_S.rf
  have hSz : va_S (va_A (wX h0 h1 h2 h3 h4 h5 h6 h7 h8 h9 cI cJ d r lc bg w rm k pn fa e1 am dd rt b pd pt tp) s.heap.size) s.heap s.heap [] := va_S.rf
  obtain ⟨fx, hr65, hr92, hr101, hr111, hr125, hr128, hr134, hr136, hr145, hr167, hr170⟩ := hZ.2.2.2
  have k42 : (Cond.constant RX0 42 (nI 10000000)).before args s = true := by
    rw [show (nI 10000000 : Int32) = 10000000 from by decide +kernel]
    exact hts (.constant RX0 42 (10000000)) (by decide +kernel)
  have f77 := hts (.fieldLink RX0 77 "EquityRelease" "houseWorth" "I") (by decide +kernel)
  have a67 : ∀ w ∈ vx_atS RX0 67 RIS ["java/lang/RuntimeException", "java/lang/Exception"], w.before args s = true := vx_hat (B := [.castable RIS RIS, .declares (Bundle.initS "java/lang/RuntimeException"), .declares (Bundle.initS "java/lang/Exception"), .declares (Bundle.initS Bundle.tN)]) (fun w h => hts w ((by decide +kernel : ∀ w ∈ (vx_atS RX0 67 RIS ["java/lang/RuntimeException", "java/lang/Exception"]).filter goodWord, w ∈ wsX0_value) w h)) (by decide +kernel) (vx_c (va_Nw.use (A := args) rfl hZ.2.1.2.1) (vx_c (va_Nw.use (A := args) rfl hZ.2.2.1.1) (vx_c (va_Nw.use (A := args) rfl hZ.2.2.1.2.1) (vx_c (va_Nw.use (A := args) rfl hZ.2.2.1.2.2) vx_n))))
  have hl := lv_entry ([.ref h0, .int p0]) (n := 3) (Nat.le_of_ble_eq_true rfl)
  have hEe : entryFrame m args 3 = entryFrame m ([.ref h0, .int p0] : List Value).toArray 3 := by rw [hargs]
  rw [hEe, lg_entry_eq]
  generalize (lg_sl ([.ref h0, .int p0]) ++ List.replicate (3 - (lg_sl ([.ref h0, .int p0])).length) Slot.unset).toArray = ls at hl ⊢
  have hl : lv_has ls 3 [(0, .ref h0), (1, .int p0)] := hl
  refine lv_iload_n hx hb dX0_value_0 rfl (lv_at hl 1 rfl) ?_
  refine lv_iconst (v := nI 0) hx hb dX0_value_1 (by decide +kernel) ?_
  refine lv_ldc (v := nI 10000000) hx hb hown k42 dX0_value_2 ?_
  refine nk_rdx (vx_runS (As := [.int p0, .int (nI 0), .int (nI 10000000)]) (rest := []) ⟨hx, hb, hml, hown, hts⟩ (c_X0_requireWithin l hfl s.heap.size p0 z 0 10000000 hz (by decide) (by decide)) (va_cwS 3 hts gX0_value_X0_requireWithin rfl rfl rfl (by decide +kernel) ⟨Nat.le_of_ble_eq_true rfl, Nat.le_of_ble_eq_true rfl⟩) ⟨nk_Ps.blind, fun U hU hW => ⟨rfl, by rw [hU], by rw [hU]; exact nk_Z.go hZ hW (fun q h => Or.inr h)⟩⟩ rfl rfl hl.1 rfl (lv_room (Nat.le_of_ble_eq_true rfl)) dX0_value_4 ⟨Nat.le_of_ble_eq_true rfl, Nat.le_of_ble_eq_true rfl⟩) hS hA (fun E ce q9 H1 hE hz hk9 hS1 hce hcv hcl => ?_) (fun hok4 => ?_)
  · exact vx_out (fun x h => (htab x h).elim) hlocks hce hcv hcl (fun t ht hW => ⟨(), trivial, Or.inl ⟨hE.1, by have := hE.2; omega⟩, by rw [ht]; exact hz, fun q h1 _ => by rw [ht]; exact hk9 q h1⟩) (fun z h => nomatch h) (Nat.le_of_ble_eq_true rfl) (Nat.le_of_ble_eq_true rfl)
  refine W.eq (g2 := F0 m 7 ls []) rfl ?_
  obtain ⟨rfl, ha9⟩ := hpa (by omega)
  have za : z = (a9 : Int) := by rw [← hz]; exact nI_toInt (by omega)
  refine lv_aload_n hx hb dX0_value_7 rfl (lv_at hl 0 rfl) ?_
  refine nk_rd (W.runV (As := []) (rest := []) ⟨hx, hb, hml, hown, hts⟩ (c_X0_isBegun l D h0 h1 h2 h3 h4 h5 h6 h7 h8 h9 cI cJ d r lc bg w rm k pn fa e1 am dd rt b pd pt tp hlc) (cwV 0 hts gX0_value_X0_isBegun rfl rfl rfl (by decide +kernel) ⟨Nat.le_of_ble_eq_true rfl, Nat.le_of_ble_eq_true rfl⟩) ⟨nk_Pr.blind, va_recv hK hP (ci := 0) (q0 := 0) rfl rfl, fun U hU hW => ⟨rfl, by rw [hU]; exact hP, va_K.moved hW.alike hK⟩⟩ rfl rfl hl.1 rfl (lv_room (Nat.le_of_ble_eq_true rfl)) dX0_value_8 ⟨Nat.zero_le _, Nat.zero_le _⟩) ?_
  refine W.eq (g2 := F0 m 11 ls [.int (nI (if 0 < lc then 1 else 0))]) rfl ?_
  refine nk_bif_ne (tgt := 24) hx hb dX0_value_11 (by decide) (fun c11 => ?_) (fun c11 => ?_)
  · refine lv_aload_n hx hb dX0_value_24 rfl (lv_at hl 0 rfl) ?_
    refine va_get (D := D) (ci := 0) (v := .int (nI w)) (C := RX0) (T := TX0) (N := 17) hx hb hts hin hown hK hP 0 rfl rfl 6 (by decide) f77 (fun _ h9 => h9) rfl dX0_value_25 ?_
    refine lv_istore_n (lv' := [(2, .int (nI w)), (0, .ref h0), (1, .int (nI a9))]) hx hb dX0_value_28 rfl hl (by decide) rfl (fun ls hl => ?_)
    refine lv_aload_n hx hb dX0_value_29 rfl (lv_at hl 1 rfl) ?_
    refine lv_iload_n hx hb dX0_value_30 rfl (lv_at hl 2 rfl) ?_
    refine va_put (D := D) (ci := 0) (v := .int (nI a9)) (ty := .int) (C := RX0) (T := TX0) (N := 17) hx hb hts hin tyX0 tyX0_ok nmX0 hown hK hP hD hS 0 rfl rfl 6 (by decide) f77 (fun _ h9 => h9) rfl (by decide +kernel) rfl rfl (Nat.le_of_ble_eq_true rfl) dX0_value_31 (fun H locs hP hD hS => ?_)
    have hP : va_P D vwCl (wX h0 h1 h2 h3 h4 h5 h6 h7 h8 h9 cI cJ d r lc bg a9 rm k pn fa e1 am dd rt b pd pt tp) H := hP
    have hD : va_D A (wX h0 h1 h2 h3 h4 h5 h6 h7 h8 h9 cI cJ d r lc bg a9 rm k pn fa e1 am dd rt b pd pt tp) := hD
    refine lv_iload_n hx hb dX0_value_34 rfl (lv_at hl 0 rfl) ?_
    refine vx_ret ?_
    refine W.widen (k := 1) (n := 6) (by decide) (by decide) ?_
    exact W.iret (v := (nI w)) hx hb hr (fun t ht hW => ⟨⟨(nI w), wX h0 h1 h2 h3 h4 h5 h6 h7 h8 h9 cI cJ d r lc bg a9 rm k pn fa e1 am dd rt b pd pt tp, rfl, ⟨by omega, c11, rfl, rfl⟩, by rw [ht]; exact hP, va_K.moved hW.alike hK, hD⟩, hS.F ht⟩) hS.2.2 dX0_value_35
  · exact vx_throwS (own := RX0) (cls := RIS) (names := ["java/lang/RuntimeException", "java/lang/Exception"]) (ik := 63) (is := 134) (ic := 67) (A := va_A (wX h0 h1 h2 h3 h4 h5 h6 h7 h8 h9 cI cJ d r lc bg w rm k pn fa e1 am dd rt b pd pt tp) s.heap.size) hx hb hfl hown (by decide +kernel) (by decide +kernel) (hts (.classLink RX0 63 RIS) (by decide +kernel)) (hts (.initialized RIS) (by decide +kernel)) hr134 a67 (by decide +kernel) hZ.1.1 hZ.1.2 hSz (hl.1.trans hml.symm) dX0_value_14 dX0_value_17 dX0_value_18 dX0_value_20 dX0_value_23 (fun x h => (htab x h).elim) (Nat.le_of_ble_eq_true rfl) (Nat.le_of_ble_eq_true rfl) (Nat.le_of_ble_eq_true rfl) (Nat.le_of_ble_eq_true rfl) hlocks (fun t hvm hsz9 hk9 => ⟨(), trivial, Or.inr ⟨rfl, by omega, c11⟩, hsz9, fun q h1 _ => hk9 q h1⟩) (fun z h => nomatch h) (Nat.le_of_ble_eq_true rfl) (Nat.le_of_ble_eq_true rfl)
set_option maxHeartbeats 4000000 in
set_option maxRecDepth 100000 in
theorem c_X0_move (l : Launch) (hfl : l.stackTraces = false) (D : va_G) (h0 h1 h2 h3 h4 h5 h6 h7 h8 h9 : Nat) (cI cJ : ClassId) (d r lc bg w rm k pn : Nat) (fa e1 am dd rt b pd pt tp : Nat → Nat) (sz : Nat) (p0 : Int32) (z : Int) (a9 : Nat)  (hz : p0.toInt = z) (hpa : 0 ≤ z → p0 = nI a9 ∧ a9 < 2147483648) (hlc : lc ≤ 2) (he : ∀ j, j < lc → e1 j ≤ 15001) (hfa : ∀ j, j < lc → 55 ≤ fa j ∧ fa j ≤ 95) (hd : d ≤ 15000) (hk : k ≤ 20) (hpn : pn ≤ 40) (hbs : sm b k < 1000000000000000000) (hb9 : ∀ j, j < k → b j < 4611686018427387904) : vx_Met l yX0_move wsX0_move { frames := 7, cells := 1, slots := 6, locals := 114 } (nk_Px D (wX h0 h1 h2 h3 h4 h5 h6 h7 h8 h9 cI cJ d r lc bg w rm k pn fa e1 am dd rt b pd pt tp) (tX cI cJ) sz [.ref h0, .int p0]) (va_Ql (fun r9 w1 => (0 ≤ z ∧ z ≤ 10000000) ∧ (0 < lc ∧ 0 < alive e1 lc) ∧ pn < 40 ∧ r9 = lN (ceilA (sm b k) - gL a9 (lstA fa e1 lc - 1 + d / 365)) ∧ ((ceilA (sm b k) ≤ gL a9 (lstA fa e1 lc - 1 + d / 365) ∧ w1 = wX h0 h1 h2 h3 h4 h5 h6 h7 h8 h9 cI cJ d r lc bg a9 (gL a9 (lstA fa e1 lc - 1 + d / 365) - ceilA (sm b k)) k pn fa e1 am dd rt b pd pt tp) ∨ (gL a9 (lstA fa e1 lc - 1 + d / 365) < ceilA (sm b k) ∧ w1 = wX h0 h1 h2 h3 h4 h5 h6 h7 h8 h9 cI cJ d r lc bg a9 (gL a9 (lstA fa e1 lc - 1 + d / 365) - ceilA (sm (tkB b ((ceilA (sm b k) - gL a9 (lstA fa e1 lc - 1 + d / 365)) * 10000) k) k)) k (pn + 1) fa e1 am dd rt (tkB b ((ceilA (sm b k) - gL a9 (lstA fa e1 lc - 1 + d / 365)) * 10000) k) (va_up pd pn d) (va_up pt pn 0) (tkT tp b ((ceilA (sm b k) - gL a9 (lstA fa e1 lc - 1 + d / 365)) * 10000) pn k)))) (fun w1 t => nk_At D (tX cI cJ) (va_A (wX h0 h1 h2 h3 h4 h5 h6 h7 h8 h9 cI cJ d r lc bg w rm k pn fa e1 am dd rt b pd pt tp) sz) w1 t) (va_A (wX h0 h1 h2 h3 h4 h5 h6 h7 h8 h9 cI cJ d r lc bg w rm k pn fa e1 am dd rt b pd pt tp) sz)) (nk_XC (fun E => (E = RIA ∧ ¬ (0 ≤ z ∧ z ≤ 10000000)) ∨ (E = RIS ∧ (0 ≤ z ∧ z ≤ 10000000) ∧ ¬ ((0 < lc ∧ 0 < alive e1 lc) ∧ pn < 40))) sz) 1 6 (va_A (wX h0 h1 h2 h3 h4 h5 h6 h7 h8 h9 cI cJ d r lc bg w rm k pn fa e1 am dd rt b pd pt tp) sz) := by
  refine vx_ofW (cc := cX0_move) (maxL := 5) (ret := (some .long)) (by decide) rfl ?_
  intro p e s m args below meth c s₁ B hml htab hv
  obtain ⟨hargs, hsz, hP, hK, hD0, hZ⟩ := hv
  have hx := B.exec
  have hb := B.bytes
  have hr := B.returns
  have hts := atoms_spec (ws := wsX0_move) B.pre
  have hown : s.vm.findClass RX0 = some m.cls := findClass_of_methodNamed B.named
  have hlocks := B.notSynchronized
  subst hsz
  have hin : ∀ w ∈ wsX00, w ∈ wsX0_move := by decide +kernel
  have hD := hD0.self (sz := s.heap.size)
  generalize hAe : va_A (wX h0 h1 h2 h3 h4 h5 h6 h7 h8 h9 cI cJ d r lc bg w rm k pn fa e1 am dd rt b pd pt tp) s.heap.size = A at hD ⊢
  have hA : ∀ q : Nat, s.heap.size ≤ q → A q := fun q h => by rw [← hAe]; exact Or.inr h
  have hS : va_S A s.heap s.heap [] := va_S.rf
  have hSz : va_S (va_A (wX h0 h1 h2 h3 h4 h5 h6 h7 h8 h9 cI cJ d r lc bg w rm k pn fa e1 am dd rt b pd pt tp) s.heap.size) s.heap s.heap [] := va_S.rf
  obtain ⟨fx, hr65, hr92, hr101, hr111, hr125, hr128, hr134, hr136, hr145, hr167, hr170⟩ := hZ.2.2.2
  have k42 : (Cond.constant RX0 42 (nI 10000000)).before args s = true := by
    rw [show (nI 10000000 : Int32) = 10000000 from by decide +kernel]
    exact hts (.constant RX0 42 (10000000)) (by decide +kernel)
  have f98 := hts (.fieldLink RX0 98 "EquityRelease" "paymentCount" "I") (by decide +kernel)
  have f77 := hts (.fieldLink RX0 77 "EquityRelease" "houseWorth" "I") (by decide +kernel)
  have f80 := hts (.fieldLink RX0 80 "EquityRelease" "roomLeft" "I") (by decide +kernel)
  have a67 : ∀ w ∈ vx_atS RX0 67 RIS ["java/lang/RuntimeException", "java/lang/Exception"], w.before args s = true := vx_hat (B := [.castable RIS RIS, .declares (Bundle.initS "java/lang/RuntimeException"), .declares (Bundle.initS "java/lang/Exception"), .declares (Bundle.initS Bundle.tN)]) (fun w h => hts w ((by decide +kernel : ∀ w ∈ (vx_atS RX0 67 RIS ["java/lang/RuntimeException", "java/lang/Exception"]).filter goodWord, w ∈ wsX0_move) w h)) (by decide +kernel) (vx_c (va_Nw.use (A := args) rfl hZ.2.1.2.1) (vx_c (va_Nw.use (A := args) rfl hZ.2.2.1.1) (vx_c (va_Nw.use (A := args) rfl hZ.2.2.1.2.1) (vx_c (va_Nw.use (A := args) rfl hZ.2.2.1.2.2) vx_n))))
  have hl := lv_entry ([.ref h0, .int p0]) (n := 5) (Nat.le_of_ble_eq_true rfl)
  have hEe : entryFrame m args 5 = entryFrame m ([.ref h0, .int p0] : List Value).toArray 5 := by rw [hargs]
  rw [hEe, lg_entry_eq]
  generalize (lg_sl ([.ref h0, .int p0]) ++ List.replicate (5 - (lg_sl ([.ref h0, .int p0])).length) Slot.unset).toArray = ls at hl ⊢
  have hl : lv_has ls 5 [(0, .ref h0), (1, .int p0)] := hl
  refine lv_iload_n hx hb dX0_move_0 rfl (lv_at hl 1 rfl) ?_
  refine lv_iconst (v := nI 0) hx hb dX0_move_1 (by decide +kernel) ?_
  refine lv_ldc (v := nI 10000000) hx hb hown k42 dX0_move_2 ?_
  refine nk_rdx (vx_runS (As := [.int p0, .int (nI 0), .int (nI 10000000)]) (rest := []) ⟨hx, hb, hml, hown, hts⟩ (c_X0_requireWithin l hfl s.heap.size p0 z 0 10000000 hz (by decide) (by decide)) (va_cwS 3 hts gX0_move_X0_requireWithin rfl rfl rfl (by decide +kernel) ⟨Nat.le_of_ble_eq_true rfl, Nat.le_of_ble_eq_true rfl⟩) ⟨nk_Ps.blind, fun U hU hW => ⟨rfl, by rw [hU], by rw [hU]; exact nk_Z.go hZ hW (fun q h => Or.inr h)⟩⟩ rfl rfl hl.1 rfl (lv_room (Nat.le_of_ble_eq_true rfl)) dX0_move_4 ⟨Nat.le_of_ble_eq_true rfl, Nat.le_of_ble_eq_true rfl⟩) hS hA (fun E ce q9 H1 hE hz hk9 hS1 hce hcv hcl => ?_) (fun hok4 => ?_)
  · exact vx_out (fun x h => (htab x h).elim) hlocks hce hcv hcl (fun t ht hW => ⟨(), trivial, Or.inl ⟨hE.1, by have := hE.2; omega⟩, by rw [ht]; exact hz, fun q h1 _ => by rw [ht]; exact hk9 q h1⟩) (fun z h => nomatch h) (Nat.le_of_ble_eq_true rfl) (Nat.le_of_ble_eq_true rfl)
  refine W.eq (g2 := F0 m 7 ls []) rfl ?_
  obtain ⟨rfl, ha9⟩ := hpa (by omega)
  have za : z = (a9 : Int) := by rw [← hz]; exact nI_toInt (by omega)
  refine lv_aload_n hx hb dX0_move_7 rfl (lv_at hl 0 rfl) ?_
  refine nk_rdx (vx_runV (As := []) (rest := []) ⟨hx, hb, hml, hown, hts⟩ (c_X0_requireRunning l hfl D h0 h1 h2 h3 h4 h5 h6 h7 h8 h9 cI cJ d r lc bg w rm k pn fa e1 am dd rt b pd pt tp s.heap.size hlc he) (cwV 0 hts gX0_move_X0_requireRunning rfl rfl rfl (by decide +kernel) ⟨Nat.le_of_ble_eq_true rfl, Nat.le_of_ble_eq_true rfl⟩) ⟨nk_Px.blind, va_recv hK hP (ci := 0) (q0 := 0) rfl rfl, fun U hU hW => ⟨rfl, by rw [hU], by rw [hU]; exact hP, va_K.moved hW.alike hK, hD.weaken (fun _ _ _ _ => trivial), by rw [hU]; exact nk_Z.go hZ hW (fun _ h => h)⟩⟩ rfl rfl hl.1 rfl (lv_room (Nat.le_of_ble_eq_true rfl)) dX0_move_8 ⟨Nat.le_of_ble_eq_true rfl, Nat.le_of_ble_eq_true rfl⟩) hS hA (fun E ce q9 H1 hE hz hk9 hS1 hce hcv hcl => ?_) (fun hok8 => ?_)
  · exact vx_out (fun x h => (htab x h).elim) hlocks hce hcv hcl (fun t ht hW => ⟨(), trivial, Or.inr ⟨hE.1, by omega, fun q => hE.2 q.1⟩, by rw [ht]; exact hz, fun q h1 _ => by rw [ht]; exact hk9 q h1⟩) (fun z h => nomatch h) (Nat.le_of_ble_eq_true rfl) (Nat.le_of_ble_eq_true rfl)
  refine W.eq (g2 := F0 m 11 ls []) rfl ?_
  refine lv_aload_n hx hb dX0_move_11 rfl (lv_at hl 0 rfl) ?_
  refine va_get (D := D) (ci := 0) (v := .int (nI pn)) (C := RX0) (T := TX0) (N := 17) hx hb hts hin hown hK hP 0 rfl rfl 13 (by decide) f98 (fun _ h9 => h9) rfl dX0_move_12 ?_
  refine lv_bipush (v := nI 40) hx hb dX0_move_15 (by decide +kernel) ?_
  refine nk_icmp_lt (tgt := 30) hx hb (by omega) (by omega) dX0_move_17 (by decide) (fun c17 => ?_) (fun c17 => ?_)
  · refine lv_iload_n hx hb dX0_move_30 rfl (lv_at hl 1 rfl) ?_
    refine lv_aload_n hx hb dX0_move_31 rfl (lv_at hl 0 rfl) ?_
    have hl2 := lstA_pos (a := fa) lc hok8.2
    have hl3 := lstA_le (f := e1) lc hfa
    have hl4 := lstA_ge (f := e1) lc hfa hl2
    have hg9 : gL a9 (lstA fa e1 lc - 1 + d / 365) ≤ 5500000 := gL_le (by omega)
    have hc9 : ceilA (sm b k) < 200000000000000 := by unfold ceilA; omega
    refine nk_rd (W.runV (As := []) (rest := [.int (nI a9)]) ⟨hx, hb, hml, hown, hts⟩ (c_X0_age l D h0 h1 h2 h3 h4 h5 h6 h7 h8 h9 cI cJ d r lc bg w rm k pn fa e1 am dd rt b pd pt tp hlc he hfa hd) (cwV 0 hts gX0_move_X0_age rfl rfl rfl (by decide +kernel) ⟨Nat.le_of_ble_eq_true rfl, Nat.le_of_ble_eq_true rfl⟩) ⟨nk_Pr.blind, va_recv hK hP (ci := 0) (q0 := 0) rfl rfl, fun U hU hW => ⟨rfl, by rw [hU]; exact hP, va_K.moved hW.alike hK⟩⟩ rfl rfl hl.1 rfl (lv_room (Nat.le_of_ble_eq_true rfl)) dX0_move_32 ⟨Nat.zero_le _, Nat.zero_le _⟩) ?_
    refine W.eq (g2 := F0 m 35 ls [.int (nI (agE fa e1 lc (d / 365)) - 1), .int (nI a9)]) rfl ?_
    refine nk_topi (y := (nI (lstA fa e1 lc - 1 + d / 365))) (agE_r hl2).symm ?_
    refine nk_rd (W.runS (As := [.int (nI a9), .int (nI (lstA fa e1 lc - 1 + d / 365))]) (rest := []) ⟨hx, hb, hml, hown, hts⟩ (c_X0_greatestLoan l a9 (lstA fa e1 lc - 1 + d / 365) (by omega) (by omega) (by omega)) (va_cwS 2 hts gX0_move_X0_greatestLoan rfl rfl rfl (by decide +kernel) ⟨Nat.le_of_ble_eq_true rfl, Nat.le_of_ble_eq_true rfl⟩) ⟨nk_P0.blind, fun U hU hW => ⟨rfl, trivial⟩⟩ rfl rfl hl.1 rfl (lv_room (Nat.le_of_ble_eq_true rfl)) dX0_move_35 ⟨Nat.zero_le _, Nat.zero_le _⟩) ?_
    refine W.eq (g2 := F0 m 38 ls [.int (nI (gL a9 (lstA fa e1 lc - 1 + d / 365)))]) rfl ?_
    refine lv_istore_n (lv' := [(2, .int (nI (gL a9 (lstA fa e1 lc - 1 + d / 365)))), (0, .ref h0), (1, .int (nI a9))]) hx hb dX0_move_38 rfl hl (by decide) rfl (fun ls hl => ?_)
    refine lv_lconst (v := lN 0) hx hb dX0_move_39 (by decide +kernel) ?_
    refine lv_aload_n hx hb dX0_move_40 rfl (lv_at hl 1 rfl) ?_
    refine nk_rd (W.runV (As := []) (rest := [.long (lN 0)]) ⟨hx, hb, hml, hown, hts⟩ (c_X0_debt l D h0 h1 h2 h3 h4 h5 h6 h7 h8 h9 cI cJ d r lc bg w rm k pn fa e1 am dd rt b pd pt tp hk (by omega)) (cwV 0 hts gX0_move_X0_debt rfl rfl rfl (by decide +kernel) ⟨Nat.le_of_ble_eq_true rfl, Nat.le_of_ble_eq_true rfl⟩) ⟨nk_Pr.blind, va_recv hK hP (ci := 0) (q0 := 0) rfl rfl, fun U hU hW => ⟨rfl, by rw [hU]; exact hP, va_K.moved hW.alike hK⟩⟩ rfl rfl hl.1 rfl (lv_room (Nat.le_of_ble_eq_true rfl)) dX0_move_41 ⟨Nat.zero_le _, Nat.zero_le _⟩) ?_
    refine W.eq (g2 := F0 m 44 ls [.long (lN (ceilA (sm b k))), .long (lN 0)]) rfl ?_
    refine lv_iload_n hx hb dX0_move_44 rfl (lv_at hl 0 rfl) ?_
    refine nk_i2l hx hb (by omega) dX0_move_45 ?_
    refine lv_lsub hx hb dX0_move_46  ?_
    refine va_mmax_long hx hb (hml.trans hl.1.symm) hown (hts (.methodLink RX0 141 Lib.MathLoose.max_long.x) (by decide +kernel)) (hts (.static Lib.MathLoose.max_long.x) (by decide +kernel)) (hts (.initialized "java/lang/Math") (by decide +kernel)) (hts (.code Lib.MathLoose.max_long.x Lib.MathLoose.max_long.code 4 (some .long)) (by decide +kernel)) (Nat.le_of_ble_eq_true rfl) (Nat.le_of_ble_eq_true rfl) (Nat.zero_le _) (Nat.zero_le _) dX0_move_47 ?_
    refine nk_topl (y := (lN (ceilA (sm b k) - gL a9 (lstA fa e1 lc - 1 + d / 365)))) (nk_maxL0 (by omega) (by omega)) ?_
    refine lv_lstore_n (lv' := [(3, .long (lN (ceilA (sm b k) - gL a9 (lstA fa e1 lc - 1 + d / 365)))), (2, .int (nI (gL a9 (lstA fa e1 lc - 1 + d / 365)))), (0, .ref h0), (1, .int (nI a9))]) hx hb dX0_move_50 rfl hl (by decide) rfl (fun ls hl => ?_)
    refine lv_lload_n hx hb dX0_move_51 rfl (lv_at hl 0 rfl) ?_
    refine lv_lconst (v := lN 0) hx hb dX0_move_52 (by decide +kernel) ?_
    refine nk_lcmp_le (tgt := 63) hx hb (by omega) (by omega) dX0_move_53 dX0_move_54 (by decide) (fun c53 => ?_) (fun c53 => ?_)
    · refine lv_aload_n hx hb dX0_move_63 rfl (lv_at hl 2 rfl) ?_
      refine lv_iload_n hx hb dX0_move_64 rfl (lv_at hl 3 rfl) ?_
      refine va_put (D := D) (ci := 0) (v := .int (nI a9)) (ty := .int) (C := RX0) (T := TX0) (N := 17) hx hb hts hin tyX0 tyX0_ok nmX0 hown hK hP hD hS 0 rfl rfl 6 (by decide) f77 (fun _ h9 => h9) rfl (by decide +kernel) rfl rfl (Nat.le_of_ble_eq_true rfl) dX0_move_65 (fun H locs hP hD hS => ?_)
      have hP : va_P D vwCl (wX h0 h1 h2 h3 h4 h5 h6 h7 h8 h9 cI cJ d r lc bg a9 rm k pn fa e1 am dd rt b pd pt tp) H := hP
      have hD : va_D A (wX h0 h1 h2 h3 h4 h5 h6 h7 h8 h9 cI cJ d r lc bg a9 rm k pn fa e1 am dd rt b pd pt tp) := hD
      refine lv_aload_n hx hb dX0_move_68 rfl (lv_at hl 2 rfl) ?_
      refine lv_lconst (v := lN 0) hx hb dX0_move_69 (by decide +kernel) ?_
      refine lv_iload_n hx hb dX0_move_70 rfl (lv_at hl 1 rfl) ?_
      refine nk_i2l hx hb (by omega) dX0_move_71 ?_
      refine lv_aload_n hx hb dX0_move_72 rfl (lv_at hl 2 rfl) ?_
      refine nk_rd (W.runV (As := []) (rest := [.long (lN (gL a9 (lstA fa e1 lc - 1 + d / 365))), .long (lN 0), .ref h0]) ⟨hx, hb, hml, hown, hts⟩ (c_X0_debt l D h0 h1 h2 h3 h4 h5 h6 h7 h8 h9 cI cJ d r lc bg a9 rm k pn fa e1 am dd rt b pd pt tp hk (by omega)) (cwV 0 hts gX0_move_X0_debt rfl rfl rfl (by decide +kernel) ⟨Nat.le_of_ble_eq_true rfl, Nat.le_of_ble_eq_true rfl⟩) ⟨nk_Pr.blind, va_recv hK hP (ci := 0) (q0 := 0) rfl rfl, fun U hU hW => ⟨rfl, by rw [hU]; exact hP, va_K.moved hW.alike hK⟩⟩ rfl rfl hl.1 rfl (lv_room (Nat.le_of_ble_eq_true rfl)) dX0_move_73 ⟨Nat.zero_le _, Nat.zero_le _⟩) ?_
      refine W.eq (g2 := F0 m 76 ls [.long (lN (ceilA (sm b k))), .long (lN (gL a9 (lstA fa e1 lc - 1 + d / 365))), .long (lN 0), .ref h0]) rfl ?_
      refine lv_lsub hx hb dX0_move_76  ?_
      refine va_mmax_long hx hb (hml.trans hl.1.symm) hown (hts (.methodLink RX0 141 Lib.MathLoose.max_long.x) (by decide +kernel)) (hts (.static Lib.MathLoose.max_long.x) (by decide +kernel)) (hts (.initialized "java/lang/Math") (by decide +kernel)) (hts (.code Lib.MathLoose.max_long.x Lib.MathLoose.max_long.code 4 (some .long)) (by decide +kernel)) (Nat.le_of_ble_eq_true rfl) (Nat.le_of_ble_eq_true rfl) (Nat.zero_le _) (Nat.zero_le _) dX0_move_77 ?_
      refine nk_topl (y := (lN (gL a9 (lstA fa e1 lc - 1 + d / 365) - ceilA (sm b k)))) (nk_maxL0 (by omega) (by omega)) ?_
      refine nk_l2i hx hb dX0_move_80 ?_
      refine va_put (D := D) (ci := 0) (v := .int (nI (gL a9 (lstA fa e1 lc - 1 + d / 365) - ceilA (sm b k)))) (ty := .int) (C := RX0) (T := TX0) (N := 17) hx hb hts hin tyX0 tyX0_ok nmX0 hown hK hP hD hS 0 rfl rfl 7 (by decide) f80 (fun _ h9 => h9) rfl (by decide +kernel) rfl rfl (Nat.le_of_ble_eq_true rfl) dX0_move_81 (fun H locs hP hD hS => ?_)
      have hP : va_P D vwCl (wX h0 h1 h2 h3 h4 h5 h6 h7 h8 h9 cI cJ d r lc bg a9 (gL a9 (lstA fa e1 lc - 1 + d / 365) - ceilA (sm b k)) k pn fa e1 am dd rt b pd pt tp) H := hP
      have hD : va_D A (wX h0 h1 h2 h3 h4 h5 h6 h7 h8 h9 cI cJ d r lc bg a9 (gL a9 (lstA fa e1 lc - 1 + d / 365) - ceilA (sm b k)) k pn fa e1 am dd rt b pd pt tp) := hD
      refine lv_lload_n hx hb dX0_move_84 rfl (lv_at hl 0 rfl) ?_
      refine vx_ret ?_
      refine W.widen (k := 1) (n := 6) (by decide) (by decide) ?_
      exact W.lret (v := (lN (ceilA (sm b k) - gL a9 (lstA fa e1 lc - 1 + d / 365)))) hx hb hr (fun t ht hW => ⟨⟨(lN (ceilA (sm b k) - gL a9 (lstA fa e1 lc - 1 + d / 365))), wX h0 h1 h2 h3 h4 h5 h6 h7 h8 h9 cI cJ d r lc bg a9 (gL a9 (lstA fa e1 lc - 1 + d / 365) - ceilA (sm b k)) k pn fa e1 am dd rt b pd pt tp, rfl, ⟨by omega, hok8, by omega, rfl, Or.inl ⟨by omega, rfl⟩⟩, by rw [ht]; exact hP, va_K.moved hW.alike hK, hD⟩, hS.F ht⟩) hS.2.2 dX0_move_85
    · refine lv_aload_n hx hb dX0_move_57 rfl (lv_at hl 2 rfl) ?_
      refine lv_lload_n hx hb dX0_move_58 rfl (lv_at hl 0 rfl) ?_
      refine lv_iconst (v := nI 0) hx hb dX0_move_59 (by decide +kernel) ?_
      refine nk_vcall (wr := []) (va_runV (As := [.long (lN (ceilA (sm b k) - gL a9 (lstA fa e1 lc - 1 + d / 365))), .int (nI 0)]) (rest := []) ⟨hx, hb, hml, hown, hts⟩ (c_X0_takeBack l D h0 h1 h2 h3 h4 h5 h6 h7 h8 h9 cI cJ d r lc bg w rm k pn fa e1 am dd rt b pd pt tp s.heap.size (ceilA (sm b k) - gL a9 (lstA fa e1 lc - 1 + d / 365)) 0 (by omega) hk (by omega) hb9) (cwV 2 hts gX0_move_X0_takeBack rfl rfl rfl (by decide +kernel) ⟨Nat.le_of_ble_eq_true rfl, Nat.le_of_ble_eq_true rfl⟩) ⟨nk_Pw.blind, va_recv hK hP (ci := 0) (q0 := 0) rfl rfl, fun U hU hW => ⟨rfl, by rw [hU], by rw [hU]; exact hP, va_K.moved hW.alike hK, hD.weaken (fun _ _ _ _ => trivial)⟩⟩ rfl rfl hl.1 rfl (lv_room (Nat.le_of_ble_eq_true rfl)) dX0_move_60 ⟨Nat.zero_le _, Nat.zero_le _⟩) hP hD hS hA [0, 1, 2, 3, 4, 5, 6, 7, 8, 9] [] rfl rfl rfl (by decide) (fun w1 H locs hw hP hD hS hk9 => ?_)
      subst hw
      have hP : va_P D vwCl (wX h0 h1 h2 h3 h4 h5 h6 h7 h8 h9 cI cJ d r lc bg w rm k (pn + 1) fa e1 am dd rt (tkB b ((ceilA (sm b k) - gL a9 (lstA fa e1 lc - 1 + d / 365)) * 10000) k) (va_up pd pn d) (va_up pt pn 0) (tkT tp b ((ceilA (sm b k) - gL a9 (lstA fa e1 lc - 1 + d / 365)) * 10000) pn k)) H := hP
      have hD : va_D A (wX h0 h1 h2 h3 h4 h5 h6 h7 h8 h9 cI cJ d r lc bg w rm k (pn + 1) fa e1 am dd rt (tkB b ((ceilA (sm b k) - gL a9 (lstA fa e1 lc - 1 + d / 365)) * 10000) k) (va_up pd pn d) (va_up pt pn 0) (tkT tp b ((ceilA (sm b k) - gL a9 (lstA fa e1 lc - 1 + d / 365)) * 10000) pn k)) := hD
      refine lv_aload_n hx hb dX0_move_63 rfl (lv_at hl 2 rfl) ?_
      refine lv_iload_n hx hb dX0_move_64 rfl (lv_at hl 3 rfl) ?_
      refine va_put (D := D) (ci := 0) (v := .int (nI a9)) (ty := .int) (C := RX0) (T := TX0) (N := 17) hx hb hts hin tyX0 tyX0_ok nmX0 hown hK hP hD hS 0 rfl rfl 6 (by decide) f77 (fun _ h9 => h9) rfl (by decide +kernel) rfl rfl (Nat.le_of_ble_eq_true rfl) dX0_move_65 (fun H locs hP hD hS => ?_)
      have hP : va_P D vwCl (wX h0 h1 h2 h3 h4 h5 h6 h7 h8 h9 cI cJ d r lc bg a9 rm k (pn + 1) fa e1 am dd rt (tkB b ((ceilA (sm b k) - gL a9 (lstA fa e1 lc - 1 + d / 365)) * 10000) k) (va_up pd pn d) (va_up pt pn 0) (tkT tp b ((ceilA (sm b k) - gL a9 (lstA fa e1 lc - 1 + d / 365)) * 10000) pn k)) H := hP
      have hD : va_D A (wX h0 h1 h2 h3 h4 h5 h6 h7 h8 h9 cI cJ d r lc bg a9 rm k (pn + 1) fa e1 am dd rt (tkB b ((ceilA (sm b k) - gL a9 (lstA fa e1 lc - 1 + d / 365)) * 10000) k) (va_up pd pn d) (va_up pt pn 0) (tkT tp b ((ceilA (sm b k) - gL a9 (lstA fa e1 lc - 1 + d / 365)) * 10000) pn k)) := hD
      refine lv_aload_n hx hb dX0_move_68 rfl (lv_at hl 2 rfl) ?_
      refine lv_lconst (v := lN 0) hx hb dX0_move_69 (by decide +kernel) ?_
      refine lv_iload_n hx hb dX0_move_70 rfl (lv_at hl 1 rfl) ?_
      refine nk_i2l hx hb (by omega) dX0_move_71 ?_
      refine lv_aload_n hx hb dX0_move_72 rfl (lv_at hl 2 rfl) ?_
      refine nk_rd (W.runV (As := []) (rest := [.long (lN (gL a9 (lstA fa e1 lc - 1 + d / 365))), .long (lN 0), .ref h0]) ⟨hx, hb, hml, hown, hts⟩ (c_X0_debt l D h0 h1 h2 h3 h4 h5 h6 h7 h8 h9 cI cJ d r lc bg a9 rm k (pn + 1) fa e1 am dd rt (tkB b ((ceilA (sm b k) - gL a9 (lstA fa e1 lc - 1 + d / 365)) * 10000) k) (va_up pd pn d) (va_up pt pn 0) (tkT tp b ((ceilA (sm b k) - gL a9 (lstA fa e1 lc - 1 + d / 365)) * 10000) pn k) hk (Nat.lt_of_le_of_lt (sm_mono k (fun j _ => tkB_le b ((ceilA (sm b k) - gL a9 (lstA fa e1 lc - 1 + d / 365)) * 10000) k j)) (by omega))) (cwV 0 hts gX0_move_X0_debt rfl rfl rfl (by decide +kernel) ⟨Nat.le_of_ble_eq_true rfl, Nat.le_of_ble_eq_true rfl⟩) ⟨nk_Pr.blind, va_recv hK hP (ci := 0) (q0 := 0) rfl rfl, fun U hU hW => ⟨rfl, by rw [hU]; exact hP, va_K.moved hW.alike hK⟩⟩ rfl rfl hl.1 rfl (lv_room (Nat.le_of_ble_eq_true rfl)) dX0_move_73 ⟨Nat.zero_le _, Nat.zero_le _⟩) ?_
      refine W.eq (g2 := F0 m 76 ls [.long (lN (ceilA (sm (tkB b ((ceilA (sm b k) - gL a9 (lstA fa e1 lc - 1 + d / 365)) * 10000) k) k))), .long (lN (gL a9 (lstA fa e1 lc - 1 + d / 365))), .long (lN 0), .ref h0]) rfl ?_
      refine lv_lsub hx hb dX0_move_76  ?_
      have hm9 : sm (tkB b ((ceilA (sm b k) - gL a9 (lstA fa e1 lc - 1 + d / 365)) * 10000) k) k ≤ sm b k := sm_mono k (fun j _ => tkB_le b ((ceilA (sm b k) - gL a9 (lstA fa e1 lc - 1 + d / 365)) * 10000) k j)
      have hc8 : ceilA (sm (tkB b ((ceilA (sm b k) - gL a9 (lstA fa e1 lc - 1 + d / 365)) * 10000) k) k) < 200000000000000 := by show (_ + 9999) / 10000 < _; omega
      refine va_mmax_long hx hb (hml.trans hl.1.symm) hown (hts (.methodLink RX0 141 Lib.MathLoose.max_long.x) (by decide +kernel)) (hts (.static Lib.MathLoose.max_long.x) (by decide +kernel)) (hts (.initialized "java/lang/Math") (by decide +kernel)) (hts (.code Lib.MathLoose.max_long.x Lib.MathLoose.max_long.code 4 (some .long)) (by decide +kernel)) (Nat.le_of_ble_eq_true rfl) (Nat.le_of_ble_eq_true rfl) (Nat.zero_le _) (Nat.zero_le _) dX0_move_77 ?_
      refine nk_topl (y := (lN (gL a9 (lstA fa e1 lc - 1 + d / 365) - ceilA (sm (tkB b ((ceilA (sm b k) - gL a9 (lstA fa e1 lc - 1 + d / 365)) * 10000) k) k)))) (nk_maxL0 (by omega) (by omega)) ?_
      refine nk_l2i hx hb dX0_move_80 ?_
      refine va_put (D := D) (ci := 0) (v := .int (nI (gL a9 (lstA fa e1 lc - 1 + d / 365) - ceilA (sm (tkB b ((ceilA (sm b k) - gL a9 (lstA fa e1 lc - 1 + d / 365)) * 10000) k) k)))) (ty := .int) (C := RX0) (T := TX0) (N := 17) hx hb hts hin tyX0 tyX0_ok nmX0 hown hK hP hD hS 0 rfl rfl 7 (by decide) f80 (fun _ h9 => h9) rfl (by decide +kernel) rfl rfl (Nat.le_of_ble_eq_true rfl) dX0_move_81 (fun H locs hP hD hS => ?_)
      have hP : va_P D vwCl (wX h0 h1 h2 h3 h4 h5 h6 h7 h8 h9 cI cJ d r lc bg a9 (gL a9 (lstA fa e1 lc - 1 + d / 365) - ceilA (sm (tkB b ((ceilA (sm b k) - gL a9 (lstA fa e1 lc - 1 + d / 365)) * 10000) k) k)) k (pn + 1) fa e1 am dd rt (tkB b ((ceilA (sm b k) - gL a9 (lstA fa e1 lc - 1 + d / 365)) * 10000) k) (va_up pd pn d) (va_up pt pn 0) (tkT tp b ((ceilA (sm b k) - gL a9 (lstA fa e1 lc - 1 + d / 365)) * 10000) pn k)) H := hP
      have hD : va_D A (wX h0 h1 h2 h3 h4 h5 h6 h7 h8 h9 cI cJ d r lc bg a9 (gL a9 (lstA fa e1 lc - 1 + d / 365) - ceilA (sm (tkB b ((ceilA (sm b k) - gL a9 (lstA fa e1 lc - 1 + d / 365)) * 10000) k) k)) k (pn + 1) fa e1 am dd rt (tkB b ((ceilA (sm b k) - gL a9 (lstA fa e1 lc - 1 + d / 365)) * 10000) k) (va_up pd pn d) (va_up pt pn 0) (tkT tp b ((ceilA (sm b k) - gL a9 (lstA fa e1 lc - 1 + d / 365)) * 10000) pn k)) := hD
      refine lv_lload_n hx hb dX0_move_84 rfl (lv_at hl 0 rfl) ?_
      refine vx_ret ?_
      refine W.widen (k := 1) (n := 6) (by decide) (by decide) ?_
      exact W.lret (v := (lN (ceilA (sm b k) - gL a9 (lstA fa e1 lc - 1 + d / 365)))) hx hb hr (fun t ht hW => ⟨⟨(lN (ceilA (sm b k) - gL a9 (lstA fa e1 lc - 1 + d / 365))), wX h0 h1 h2 h3 h4 h5 h6 h7 h8 h9 cI cJ d r lc bg a9 (gL a9 (lstA fa e1 lc - 1 + d / 365) - ceilA (sm (tkB b ((ceilA (sm b k) - gL a9 (lstA fa e1 lc - 1 + d / 365)) * 10000) k) k)) k (pn + 1) fa e1 am dd rt (tkB b ((ceilA (sm b k) - gL a9 (lstA fa e1 lc - 1 + d / 365)) * 10000) k) (va_up pd pn d) (va_up pt pn 0) (tkT tp b ((ceilA (sm b k) - gL a9 (lstA fa e1 lc - 1 + d / 365)) * 10000) pn k), rfl, ⟨by omega, hok8, by omega, rfl, Or.inr ⟨by omega, rfl⟩⟩, by rw [ht]; exact hP, va_K.moved hW.alike hK, hD⟩, hS.F ht⟩) hS.2.2 dX0_move_85
  · exact vx_throwS (own := RX0) (cls := RIS) (names := ["java/lang/RuntimeException", "java/lang/Exception"]) (ik := 63) (is := 136) (ic := 67) (A := va_A (wX h0 h1 h2 h3 h4 h5 h6 h7 h8 h9 cI cJ d r lc bg w rm k pn fa e1 am dd rt b pd pt tp) s.heap.size) hx hb hfl hown (by decide +kernel) (by decide +kernel) (hts (.classLink RX0 63 RIS) (by decide +kernel)) (hts (.initialized RIS) (by decide +kernel)) hr136 a67 (by decide +kernel) hZ.1.1 hZ.1.2 hSz (hl.1.trans hml.symm) dX0_move_20 dX0_move_23 dX0_move_24 dX0_move_26 dX0_move_29 (fun x h => (htab x h).elim) (Nat.le_of_ble_eq_true rfl) (Nat.le_of_ble_eq_true rfl) (Nat.le_of_ble_eq_true rfl) (Nat.le_of_ble_eq_true rfl) hlocks (fun t hvm hsz9 hk9 => ⟨(), trivial, Or.inr ⟨rfl, by omega, fun q => by omega⟩, hsz9, fun q h1 _ => hk9 q h1⟩) (fun z h => nomatch h) (Nat.le_of_ble_eq_true rfl) (Nat.le_of_ble_eq_true rfl)
set_option maxHeartbeats 4000000 in
set_option maxRecDepth 100000 in
theorem c_X0_balance (l : Launch) (hfl : l.stackTraces = false) (D : va_G) (h0 h1 h2 h3 h4 h5 h6 h7 h8 h9 : Nat) (cI cJ : ClassId) (d r lc bg w rm k pn : Nat) (fa e1 am dd rt b pd pt tp : Nat → Nat) (sz : Nat) (p0 : Int32) (z : Int) (a9 : Nat)  (hz : p0.toInt = z) (hpa : 0 ≤ z → p0 = nI a9 ∧ a9 < 2147483648) (hk : k ≤ 20) (hb9 : ∀ j, j < k → b j < 4611686018427387904) : vx_Met l yX0_balance wsX0_balance { frames := 6, cells := 1, slots := 6, locals := 92 } (nk_Px D (wX h0 h1 h2 h3 h4 h5 h6 h7 h8 h9 cI cJ d r lc bg w rm k pn fa e1 am dd rt b pd pt tp) (tX cI cJ) sz [.ref h0, .int p0]) (nk_RdP (some (.long (lN (ceilA (b a9))))) (0 ≤ z ∧ z < (k : Int))) (nk_XC (fun E => E = RIO ∧ ¬ (0 ≤ z ∧ z < (k : Int))) sz) 1 6 (fun _ => False) := by
  refine vx_ofW (cc := cX0_balance) (maxL := 2) (ret := (some .long)) (by decide) rfl ?_
  intro p e s m args below meth c s₁ B hml htab hv
  obtain ⟨hargs, hsz, hP, hK, hD0, hZ⟩ := hv
  have hx := B.exec
  have hb := B.bytes
  have hr := B.returns
  have hts := atoms_spec (ws := wsX0_balance) B.pre
  have hown : s.vm.findClass RX0 = some m.cls := findClass_of_methodNamed B.named
  have hlocks := B.notSynchronized
  subst hsz
  have hin : ∀ w ∈ wsX00, w ∈ wsX0_balance := by decide +kernel
  have hD := hD0.self (sz := s.heap.size)
  have hA : ∀ q : Nat, s.heap.size ≤ q → (fun q => s.heap.size ≤ q) q := fun q h => h
  have hS : va_S (fun q => s.heap.size ≤ q) s.heap s.heap [] := va_S.rf
  have hSz : va_S (va_A (wX h0 h1 h2 h3 h4 h5 h6 h7 h8 h9 cI cJ d r lc bg w rm k pn fa e1 am dd rt b pd pt tp) s.heap.size) s.heap s.heap [] := va_S.rf
  obtain ⟨fx, hr65, hr92, hr101, hr111, hr125, hr128, hr134, hr136, hr145, hr167, hr170⟩ := hZ.2.2.2
  have a127 : ∀ w ∈ vx_atS RX0 127 RIO ["java/lang/RuntimeException", "java/lang/Exception"], w.before args s = true := vx_hat (B := [.castable RIO RIO, .declares (Bundle.initS "java/lang/RuntimeException"), .declares (Bundle.initS "java/lang/Exception"), .declares (Bundle.initS Bundle.tN)]) (fun w h => hts w ((by decide +kernel : ∀ w ∈ (vx_atS RX0 127 RIO ["java/lang/RuntimeException", "java/lang/Exception"]).filter goodWord, w ∈ wsX0_balance) w h)) (by decide +kernel) (vx_c (va_Nw.use (A := args) rfl hZ.2.1.2.2.1) (vx_c (va_Nw.use (A := args) rfl hZ.2.2.1.1) (vx_c (va_Nw.use (A := args) rfl hZ.2.2.1.2.1) (vx_c (va_Nw.use (A := args) rfl hZ.2.2.1.2.2) vx_n))))
  have f89 := hts (.fieldLink RX0 89 "EquityRelease" "drawingCount" "I") (by decide +kernel)
  have f29 := hts (.fieldLink RX0 29 "EquityRelease" "balances" "[J") (by decide +kernel)
  have hl := lv_entry ([.ref h0, .int p0]) (n := 2) (Nat.le_of_ble_eq_true rfl)
  have hEe : entryFrame m args 2 = entryFrame m ([.ref h0, .int p0] : List Value).toArray 2 := by rw [hargs]
  rw [hEe, lg_entry_eq]
  generalize (lg_sl ([.ref h0, .int p0]) ++ List.replicate (2 - (lg_sl ([.ref h0, .int p0])).length) Slot.unset).toArray = ls at hl ⊢
  have hl : lv_has ls 2 [(0, .ref h0), (1, .int p0)] := hl
  refine lv_iload_n hx hb dX0_balance_0 rfl (lv_at hl 1 rfl) ?_
  refine nk_zlt (tgt := 12) hx hb hz dX0_balance_1 (by decide) (fun c1 => ?_) (fun c1 => ?_)
  · exact vx_throwS (own := RX0) (cls := RIO) (names := ["java/lang/RuntimeException", "java/lang/Exception"]) (ik := 123) (is := 145) (ic := 127) (A := va_A (wX h0 h1 h2 h3 h4 h5 h6 h7 h8 h9 cI cJ d r lc bg w rm k pn fa e1 am dd rt b pd pt tp) s.heap.size) hx hb hfl hown (by decide +kernel) (by decide +kernel) (hts (.classLink RX0 123 RIO) (by decide +kernel)) (hts (.initialized RIO) (by decide +kernel)) hr145 a127 (by decide +kernel) hZ.1.1 hZ.1.2 hSz (hl.1.trans hml.symm) dX0_balance_12 dX0_balance_15 dX0_balance_16 dX0_balance_18 dX0_balance_21 (fun x h => (htab x h).elim) (Nat.le_of_ble_eq_true rfl) (Nat.le_of_ble_eq_true rfl) (Nat.le_of_ble_eq_true rfl) (Nat.le_of_ble_eq_true rfl) hlocks (fun t hvm hsz9 hk9 => ⟨(), trivial, ⟨rfl, by omega⟩, hsz9, fun q h1 _ => hk9 q h1⟩) (fun z h => nomatch h) (Nat.le_of_ble_eq_true rfl) (Nat.le_of_ble_eq_true rfl)
  · refine lv_iload_n hx hb dX0_balance_4 rfl (lv_at hl 1 rfl) ?_
    refine lv_aload_n hx hb dX0_balance_5 rfl (lv_at hl 0 rfl) ?_
    refine va_get (D := D) (ci := 0) (v := .int (nI k)) (C := RX0) (T := TX0) (N := 17) hx hb hts hin hown hK hP 0 rfl rfl 8 (by decide) f89 (fun _ h9 => h9) rfl dX0_balance_6 ?_
    refine nk_zcmp_lt (tgt := 22) hx hb hz (nI_toInt (by omega)) dX0_balance_9 (by decide) (fun c9 => ?_) (fun c9 => ?_)
    · obtain ⟨rfl, ha9⟩ := hpa (by omega)
      have za : z = (a9 : Int) := by rw [← hz]; exact nI_toInt (by omega)
      refine lv_aload_n hx hb dX0_balance_22 rfl (lv_at hl 0 rfl) ?_
      refine va_get (D := D) (ci := 0) (v := .ref h6) (C := RX0) (T := TX0) (N := 17) hx hb hts hin hown hK hP 0 rfl rfl 12 (by decide) f29 (fun _ h9 => h9) rfl dX0_balance_23 ?_
      refine lv_iload_n hx hb dX0_balance_26 rfl (lv_at hl 1 rfl) ?_
      refine nk_lald hx hb hK hP 6 1 rfl rfl (by omega) (by decide) dX0_balance_27 ?_
      refine nk_rd (W.runS (As := [.long (lN (b a9))]) (rest := []) ⟨hx, hb, hml, hown, hts⟩ (c_X0_wholeAmount l (b a9) (hb9 a9 (by omega))) (va_cwS 1 hts gX0_balance_X0_wholeAmount rfl rfl rfl (by decide +kernel) ⟨Nat.le_of_ble_eq_true rfl, Nat.le_of_ble_eq_true rfl⟩) ⟨nk_P0.blind, fun U hU hW => ⟨rfl, trivial⟩⟩ rfl rfl hl.1 rfl (lv_room (Nat.le_of_ble_eq_true rfl)) dX0_balance_28 ⟨Nat.zero_le _, Nat.zero_le _⟩) ?_
      refine W.eq (g2 := F0 m 31 ls [.long (lN (ceilA (b a9)))]) rfl ?_
      refine vx_ret ?_
      refine W.widen (k := 1) (n := 6) (by decide) (by decide) ?_
      exact W.lret hx hb hr (fun t ht hW => ⟨rfl, ⟨by omega, by omega⟩, ht⟩) (fun z h => nomatch h) dX0_balance_31
    · exact vx_throwS (own := RX0) (cls := RIO) (names := ["java/lang/RuntimeException", "java/lang/Exception"]) (ik := 123) (is := 145) (ic := 127) (A := va_A (wX h0 h1 h2 h3 h4 h5 h6 h7 h8 h9 cI cJ d r lc bg w rm k pn fa e1 am dd rt b pd pt tp) s.heap.size) hx hb hfl hown (by decide +kernel) (by decide +kernel) (hts (.classLink RX0 123 RIO) (by decide +kernel)) (hts (.initialized RIO) (by decide +kernel)) hr145 a127 (by decide +kernel) hZ.1.1 hZ.1.2 hSz (hl.1.trans hml.symm) dX0_balance_12 dX0_balance_15 dX0_balance_16 dX0_balance_18 dX0_balance_21 (fun x h => (htab x h).elim) (Nat.le_of_ble_eq_true rfl) (Nat.le_of_ble_eq_true rfl) (Nat.le_of_ble_eq_true rfl) (Nat.le_of_ble_eq_true rfl) hlocks (fun t hvm hsz9 hk9 => ⟨(), trivial, ⟨rfl, by omega⟩, hsz9, fun q h1 _ => hk9 q h1⟩) (fun z h => nomatch h) (Nat.le_of_ble_eq_true rfl) (Nat.le_of_ble_eq_true rfl)
set_option maxHeartbeats 4000000 in
set_option maxRecDepth 100000 in
theorem c_X0_charge (l : Launch) (hfl : l.stackTraces = false) (D : va_G) (h0 h1 h2 h3 h4 h5 h6 h7 h8 h9 : Nat) (cI cJ : ClassId) (d r lc bg w rm k pn : Nat) (fa e1 am dd rt b pd pt tp : Nat → Nat) (sz : Nat) (p0 : Int32) (z : Int) (a9 : Nat)  (hz : p0.toInt = z) (hpa : 0 ≤ z → p0 = nI a9 ∧ a9 < 2147483648) (hlc : lc ≤ 2) (he : ∀ j, j < lc → e1 j ≤ 15001) (hed : ∀ j, j < lc → e1 j ≤ d + 1) (hk : k ≤ 20) (ham : ∀ j, j < k → am j ≤ 10000000) (hpn : pn ≤ 40) (hbg : bg ≤ d) (hd : d ≤ 15000) (hpd : ∀ j, j < pn → bg ≤ pd j ∧ pd j ≤ 15000) (hpt : ∀ j, j < pn → pt j ≤ 10000000) : vx_Met l yX0_charge wsX0_charge { frames := 7, cells := 1, slots := 6, locals := 114 } (nk_Px D (wX h0 h1 h2 h3 h4 h5 h6 h7 h8 h9 cI cJ d r lc bg w rm k pn fa e1 am dd rt b pd pt tp) (tX cI cJ) sz [.ref h0, .int p0]) (nk_RdP (some (.int (nI (chg (mxE e1 lc) d ((d - bg) / 365) (sm am k) (pY bg pd pt ((d - bg) / 365) pn) a9)))) ((1 ≤ z ∧ z ≤ 10000000) ∧ (0 < lc ∧ 0 < alive e1 lc))) (nk_XC (fun E => (E = RIA ∧ ¬ (1 ≤ z ∧ z ≤ 10000000)) ∨ (E = RIS ∧ (1 ≤ z ∧ z ≤ 10000000) ∧ ¬ (0 < lc ∧ 0 < alive e1 lc))) sz) 1 6 (fun _ => False) := by
  refine vx_ofW (cc := cX0_charge) (maxL := 2) (ret := (some .int)) (by decide) rfl ?_
  intro p e s m args below meth c s₁ B hml htab hv
  obtain ⟨hargs, hsz, hP, hK, hD0, hZ⟩ := hv
  have hx := B.exec
  have hb := B.bytes
  have hr := B.returns
  have hts := atoms_spec (ws := wsX0_charge) B.pre
  have hown : s.vm.findClass RX0 = some m.cls := findClass_of_methodNamed B.named
  have hlocks := B.notSynchronized
  subst hsz
  have hin : ∀ w ∈ wsX00, w ∈ wsX0_charge := by decide +kernel
  have hD := hD0.self (sz := s.heap.size)
  have hA : ∀ q : Nat, s.heap.size ≤ q → (fun q => s.heap.size ≤ q) q := fun q h => h
  have hS : va_S (fun q => s.heap.size ≤ q) s.heap s.heap [] := va_S.rf
  have hSz : va_S (va_A (wX h0 h1 h2 h3 h4 h5 h6 h7 h8 h9 cI cJ d r lc bg w rm k pn fa e1 am dd rt b pd pt tp) s.heap.size) s.heap s.heap [] := va_S.rf
  have k42 : (Cond.constant RX0 42 (nI 10000000)).before args s = true := by
    rw [show (nI 10000000 : Int32) = 10000000 from by decide +kernel]
    exact hts (.constant RX0 42 (10000000)) (by decide +kernel)
  have hl := lv_entry ([.ref h0, .int p0]) (n := 2) (Nat.le_of_ble_eq_true rfl)
  have hEe : entryFrame m args 2 = entryFrame m ([.ref h0, .int p0] : List Value).toArray 2 := by rw [hargs]
  rw [hEe, lg_entry_eq]
  generalize (lg_sl ([.ref h0, .int p0]) ++ List.replicate (2 - (lg_sl ([.ref h0, .int p0])).length) Slot.unset).toArray = ls at hl ⊢
  have hl : lv_has ls 2 [(0, .ref h0), (1, .int p0)] := hl
  refine lv_iload_n hx hb dX0_charge_0 rfl (lv_at hl 1 rfl) ?_
  refine lv_iconst (v := nI 1) hx hb dX0_charge_1 (by decide +kernel) ?_
  refine lv_ldc (v := nI 10000000) hx hb hown k42 dX0_charge_2 ?_
  refine nk_rdx (vx_runS (As := [.int p0, .int (nI 1), .int (nI 10000000)]) (rest := []) ⟨hx, hb, hml, hown, hts⟩ (c_X0_requireWithin l hfl s.heap.size p0 z 1 10000000 hz (by decide) (by decide)) (va_cwS 3 hts gX0_charge_X0_requireWithin rfl rfl rfl (by decide +kernel) ⟨Nat.le_of_ble_eq_true rfl, Nat.le_of_ble_eq_true rfl⟩) ⟨nk_Ps.blind, fun U hU hW => ⟨rfl, by rw [hU], by rw [hU]; exact nk_Z.go hZ hW (fun q h => Or.inr h)⟩⟩ rfl rfl hl.1 rfl (lv_room (Nat.le_of_ble_eq_true rfl)) dX0_charge_4 ⟨Nat.le_of_ble_eq_true rfl, Nat.le_of_ble_eq_true rfl⟩) hS hA (fun E ce q9 H1 hE hz hk9 hS1 hce hcv hcl => ?_) (fun hok4 => ?_)
  · exact vx_out (fun x h => (htab x h).elim) hlocks hce hcv hcl (fun t ht hW => ⟨(), trivial, Or.inl ⟨hE.1, by have := hE.2; omega⟩, by rw [ht]; exact hz, fun q h1 _ => by rw [ht]; exact hk9 q h1⟩) (fun z h => nomatch h) (Nat.le_of_ble_eq_true rfl) (Nat.le_of_ble_eq_true rfl)
  refine W.eq (g2 := F0 m 7 ls []) rfl ?_
  obtain ⟨rfl, ha9⟩ := hpa (by omega)
  have za : z = (a9 : Int) := by rw [← hz]; exact nI_toInt (by omega)
  refine lv_aload_n hx hb dX0_charge_7 rfl (lv_at hl 0 rfl) ?_
  refine nk_rdx (vx_runV (As := []) (rest := []) ⟨hx, hb, hml, hown, hts⟩ (c_X0_requireRunning l hfl D h0 h1 h2 h3 h4 h5 h6 h7 h8 h9 cI cJ d r lc bg w rm k pn fa e1 am dd rt b pd pt tp s.heap.size hlc he) (cwV 0 hts gX0_charge_X0_requireRunning rfl rfl rfl (by decide +kernel) ⟨Nat.le_of_ble_eq_true rfl, Nat.le_of_ble_eq_true rfl⟩) ⟨nk_Px.blind, va_recv hK hP (ci := 0) (q0 := 0) rfl rfl, fun U hU hW => ⟨rfl, by rw [hU], by rw [hU]; exact hP, va_K.moved hW.alike hK, hD.weaken (fun _ _ _ _ => trivial), by rw [hU]; exact nk_Z.go hZ hW (fun _ h => h)⟩⟩ rfl rfl hl.1 rfl (lv_room (Nat.le_of_ble_eq_true rfl)) dX0_charge_8 ⟨Nat.le_of_ble_eq_true rfl, Nat.le_of_ble_eq_true rfl⟩) hS hA (fun E ce q9 H1 hE hz hk9 hS1 hce hcv hcl => ?_) (fun hok8 => ?_)
  · exact vx_out (fun x h => (htab x h).elim) hlocks hce hcv hcl (fun t ht hW => ⟨(), trivial, Or.inr ⟨hE.1, by omega, hE.2⟩, by rw [ht]; exact hz, fun q h1 _ => by rw [ht]; exact hk9 q h1⟩) (fun z h => nomatch h) (Nat.le_of_ble_eq_true rfl) (Nat.le_of_ble_eq_true rfl)
  refine W.eq (g2 := F0 m 11 ls []) rfl ?_
  refine lv_aload_n hx hb dX0_charge_11 rfl (lv_at hl 0 rfl) ?_
  refine lv_iload_n hx hb dX0_charge_12 rfl (lv_at hl 1 rfl) ?_
  refine nk_rd (W.runV (As := [.int (nI a9)]) (rest := []) ⟨hx, hb, hml, hown, hts⟩ (c_X0_chargeFor l D h0 h1 h2 h3 h4 h5 h6 h7 h8 h9 cI cJ d r lc bg w rm k pn fa e1 am dd rt b pd pt tp a9 (by omega) hlc he hed hk ham hpn hbg hd hpd hpt) (cwV 1 hts gX0_charge_X0_chargeFor rfl rfl rfl (by decide +kernel) ⟨Nat.le_of_ble_eq_true rfl, Nat.le_of_ble_eq_true rfl⟩) ⟨nk_Pr.blind, va_recv hK hP (ci := 0) (q0 := 0) rfl rfl, fun U hU hW => ⟨rfl, by rw [hU]; exact hP, va_K.moved hW.alike hK⟩⟩ rfl rfl hl.1 rfl (lv_room (Nat.le_of_ble_eq_true rfl)) dX0_charge_13 ⟨Nat.zero_le _, Nat.zero_le _⟩) ?_
  refine W.eq (g2 := F0 m 16 ls [.int (nI (chg (mxE e1 lc) d ((d - bg) / 365) (sm am k) (pY bg pd pt ((d - bg) / 365) pn) a9))]) rfl ?_
  refine vx_ret ?_
  refine W.widen (k := 1) (n := 6) (by decide) (by decide) ?_
  exact W.iret hx hb hr (fun t ht hW => ⟨rfl, ⟨by omega, hok8⟩, ht⟩) (fun z h => nomatch h) dX0_charge_16
set_option maxHeartbeats 4000000 in
set_option maxRecDepth 100000 in
theorem c_X0_begin (l : Launch) (hfl : l.stackTraces = false) (D : va_G) (h0 h1 h2 h3 h4 h5 h6 h7 h8 h9 : Nat) (cI cJ : ClassId) (d r lc bg w rm k pn : Nat) (fa e1 am dd rt b pd pt tp : Nat → Nat) (sz : Nat) (p1 p2 p3 p4 : Int32) (z1 z2 z3 z4 : Int) (a1 a2 a3 a4 : Nat) (hz1 : p1.toInt = z1) (hpa1 : 0 ≤ z1 → p1 = nI a1 ∧ a1 < 2147483648) (hz2 : p2.toInt = z2) (hpa2 : 0 ≤ z2 → p2 = nI a2 ∧ a2 < 2147483648) (hz3 : p3.toInt = z3) (hpa3 : 0 ≤ z3 → p3 = nI a3 ∧ a3 < 2147483648) (hz4 : p4.toInt = z4) (hpa4 : 0 ≤ z4 → p4 = nI a4 ∧ a4 < 2147483648) (hlc : lc ≤ 2) (hd : d ≤ 15000) (hk0 : lc = 0 → k = 0) : vx_Met l yX0_begin wsX0_begin { frames := 7, cells := 1, slots := 6, locals := 114 } (nk_Px D (wX h0 h1 h2 h3 h4 h5 h6 h7 h8 h9 cI cJ d r lc bg w rm k pn fa e1 am dd rt b pd pt tp) (tX cI cJ) sz [.ref h0, .int p1, .int p2, .int p3, .int p4]) (va_Qi (fun r9 w1 => ((1000 ≤ z1 ∧ z1 ≤ 10000000) ∧ (55 ≤ z2 ∧ z2 ≤ 95) ∧ (z3 = 0 ∨ (55 ≤ z3 ∧ z3 ≤ 95)) ∧ (0 ≤ z4 ∧ z4 ≤ 10000000)) ∧ lc = 0 ∧ ((a3 = 0 ∧ a4 = 0 ∧ a4 ≤ gL a1 (a2 + d / 365) ∧ r9 = nI (gL a1 (a2 + d / 365)) ∧ w1 = wX h0 h1 h2 h3 h4 h5 h6 h7 h8 h9 cI cJ d r (lc + 1) d a1 (gL a1 (a2 + d / 365)) k pn (va_up fa lc a2) (va_up e1 lc 0) am dd rt b pd pt tp) ∨ (a3 = 0 ∧ 0 < a4 ∧ a4 ≤ gL a1 (a2 + d / 365) ∧ r9 = nI (gL a1 (a2 + d / 365) - a4) ∧ w1 = wX h0 h1 h2 h3 h4 h5 h6 h7 h8 h9 cI cJ d r (lc + 1) d a1 (gL a1 (a2 + d / 365) - a4) (k + 1) pn (va_up fa lc a2) (va_up e1 lc 0) (va_up am k a4) (va_up dd k d) (va_up rt k r) (va_up b k (a4 * 10000)) pd pt tp) ∨ (0 < a3 ∧ a4 = 0 ∧ a4 ≤ gL a1 (min a2 a3 + d / 365) ∧ r9 = nI (gL a1 (min a2 a3 + d / 365)) ∧ w1 = wX h0 h1 h2 h3 h4 h5 h6 h7 h8 h9 cI cJ d r (lc + 1 + 1) d a1 (gL a1 (min a2 a3 + d / 365)) k pn (va_up (va_up fa lc a2) (lc + 1) a3) (va_up (va_up e1 lc 0) (lc + 1) 0) am dd rt b pd pt tp) ∨ (0 < a3 ∧ 0 < a4 ∧ a4 ≤ gL a1 (min a2 a3 + d / 365) ∧ r9 = nI (gL a1 (min a2 a3 + d / 365) - a4) ∧ w1 = wX h0 h1 h2 h3 h4 h5 h6 h7 h8 h9 cI cJ d r (lc + 1 + 1) d a1 (gL a1 (min a2 a3 + d / 365) - a4) (k + 1) pn (va_up (va_up fa lc a2) (lc + 1) a3) (va_up (va_up e1 lc 0) (lc + 1) 0) (va_up am k a4) (va_up dd k d) (va_up rt k r) (va_up b k (a4 * 10000)) pd pt tp))) (fun w1 t => nk_At D (tX cI cJ) (va_A (wX h0 h1 h2 h3 h4 h5 h6 h7 h8 h9 cI cJ d r lc bg w rm k pn fa e1 am dd rt b pd pt tp) sz) w1 t) (va_A (wX h0 h1 h2 h3 h4 h5 h6 h7 h8 h9 cI cJ d r lc bg w rm k pn fa e1 am dd rt b pd pt tp) sz)) (nk_XC (fun E => (E = RIA ∧ ¬ ((1000 ≤ z1 ∧ z1 ≤ 10000000) ∧ (55 ≤ z2 ∧ z2 ≤ 95) ∧ (z3 = 0 ∨ (55 ≤ z3 ∧ z3 ≤ 95)) ∧ (0 ≤ z4 ∧ z4 ≤ 10000000))) ∨ (E = RIS ∧ ((1000 ≤ z1 ∧ z1 ≤ 10000000) ∧ (55 ≤ z2 ∧ z2 ≤ 95) ∧ (z3 = 0 ∨ (55 ≤ z3 ∧ z3 ≤ 95)) ∧ (0 ≤ z4 ∧ z4 ≤ 10000000)) ∧ (0 < lc ∨ (a3 = 0 ∧ gL a1 (a2 + d / 365) < a4) ∨ (0 < a3 ∧ gL a1 (min a2 a3 + d / 365) < a4)))) sz) 1 6 (va_A (wX h0 h1 h2 h3 h4 h5 h6 h7 h8 h9 cI cJ d r lc bg w rm k pn fa e1 am dd rt b pd pt tp) sz) := by
  refine vx_ofW (cc := cX0_begin) (maxL := 7) (ret := (some .int)) (by decide) rfl ?_
  intro p e s m args below meth c s₁ B hml htab hv
  obtain ⟨hargs, hsz, hP, hK, hD0, hZ⟩ := hv
  have hx := B.exec
  have hb := B.bytes
  have hr := B.returns
  have hts := atoms_spec (ws := wsX0_begin) B.pre
  have hown : s.vm.findClass RX0 = some m.cls := findClass_of_methodNamed B.named
  have hlocks := B.notSynchronized
  subst hsz
  have hin : ∀ w ∈ wsX00, w ∈ wsX0_begin := by decide +kernel
  have hD := hD0.self (sz := s.heap.size)
  generalize hAe : va_A (wX h0 h1 h2 h3 h4 h5 h6 h7 h8 h9 cI cJ d r lc bg w rm k pn fa e1 am dd rt b pd pt tp) s.heap.size = A at hD ⊢
  have hA : ∀ q : Nat, s.heap.size ≤ q → A q := fun q h => by rw [← hAe]; exact Or.inr h
  have hS : va_S A s.heap s.heap [] := va_S.rf
  have hSz : va_S (va_A (wX h0 h1 h2 h3 h4 h5 h6 h7 h8 h9 cI cJ d r lc bg w rm k pn fa e1 am dd rt b pd pt tp) s.heap.size) s.heap s.heap [] := va_S.rf
  obtain ⟨fx, hr65, hr92, hr101, hr111, hr125, hr128, hr134, hr136, hr145, hr167, hr170⟩ := hZ.2.2.2
  have k42 : (Cond.constant RX0 42 (nI 10000000)).before args s = true := by
    rw [show (nI 10000000 : Int32) = 10000000 from by decide +kernel]
    exact hts (.constant RX0 42 (10000000)) (by decide +kernel)
  have f53 := hts (.fieldLink RX0 53 "EquityRelease" "today" "I") (by decide +kernel)
  have a67 : ∀ w ∈ vx_atS RX0 67 RIS ["java/lang/RuntimeException", "java/lang/Exception"], w.before args s = true := vx_hat (B := [.castable RIS RIS, .declares (Bundle.initS "java/lang/RuntimeException"), .declares (Bundle.initS "java/lang/Exception"), .declares (Bundle.initS Bundle.tN)]) (fun w h => hts w ((by decide +kernel : ∀ w ∈ (vx_atS RX0 67 RIS ["java/lang/RuntimeException", "java/lang/Exception"]).filter goodWord, w ∈ wsX0_begin) w h)) (by decide +kernel) (vx_c (va_Nw.use (A := args) rfl hZ.2.1.2.1) (vx_c (va_Nw.use (A := args) rfl hZ.2.2.1.1) (vx_c (va_Nw.use (A := args) rfl hZ.2.2.1.2.1) (vx_c (va_Nw.use (A := args) rfl hZ.2.2.1.2.2) vx_n))))
  have f74 := hts (.fieldLink RX0 74 "EquityRelease" "beginDay" "I") (by decide +kernel)
  have f77 := hts (.fieldLink RX0 77 "EquityRelease" "houseWorth" "I") (by decide +kernel)
  have f80 := hts (.fieldLink RX0 80 "EquityRelease" "roomLeft" "I") (by decide +kernel)
  have hl := lv_entry ([.ref h0, .int p1, .int p2, .int p3, .int p4]) (n := 7) (Nat.le_of_ble_eq_true rfl)
  have hEe : entryFrame m args 7 = entryFrame m ([.ref h0, .int p1, .int p2, .int p3, .int p4] : List Value).toArray 7 := by rw [hargs]
  rw [hEe, lg_entry_eq]
  generalize (lg_sl ([.ref h0, .int p1, .int p2, .int p3, .int p4]) ++ List.replicate (7 - (lg_sl ([.ref h0, .int p1, .int p2, .int p3, .int p4])).length) Slot.unset).toArray = ls at hl ⊢
  have hl : lv_has ls 7 [(0, .ref h0), (1, .int p1), (2, .int p2), (3, .int p3), (4, .int p4)] := hl
  refine lv_iload_n hx hb dX0_begin_0 rfl (lv_at hl 1 rfl) ?_
  refine lv_sipush (v := nI 1000) hx hb dX0_begin_1 (by decide +kernel) ?_
  refine lv_ldc (v := nI 10000000) hx hb hown k42 dX0_begin_4 ?_
  refine nk_rdx (vx_runS (As := [.int p1, .int (nI 1000), .int (nI 10000000)]) (rest := []) ⟨hx, hb, hml, hown, hts⟩ (c_X0_requireWithin l hfl s.heap.size p1 z1 1000 10000000 hz1 (by decide) (by decide)) (va_cwS 3 hts gX0_begin_X0_requireWithin rfl rfl rfl (by decide +kernel) ⟨Nat.le_of_ble_eq_true rfl, Nat.le_of_ble_eq_true rfl⟩) ⟨nk_Ps.blind, fun U hU hW => ⟨rfl, by rw [hU], by rw [hU]; exact nk_Z.go hZ hW (fun q h => Or.inr h)⟩⟩ rfl rfl hl.1 rfl (lv_room (Nat.le_of_ble_eq_true rfl)) dX0_begin_6 ⟨Nat.le_of_ble_eq_true rfl, Nat.le_of_ble_eq_true rfl⟩) hS hA (fun E ce q9 H1 hE hz hk9 hS1 hce hcv hcl => ?_) (fun hok6 => ?_)
  · exact vx_out (fun x h => (htab x h).elim) hlocks hce hcv hcl (fun t ht hW => ⟨(), trivial, Or.inl ⟨hE.1, by have := hE.2; omega⟩, by rw [ht]; exact hz, fun q h1 _ => by rw [ht]; exact hk9 q h1⟩) (fun z h => nomatch h) (Nat.le_of_ble_eq_true rfl) (Nat.le_of_ble_eq_true rfl)
  refine W.eq (g2 := F0 m 9 ls []) rfl ?_
  refine lv_iload_n hx hb dX0_begin_9 rfl (lv_at hl 2 rfl) ?_
  refine lv_bipush (v := nI 55) hx hb dX0_begin_10 (by decide +kernel) ?_
  refine lv_bipush (v := nI 95) hx hb dX0_begin_12 (by decide +kernel) ?_
  refine nk_rdx (vx_runS (As := [.int p2, .int (nI 55), .int (nI 95)]) (rest := []) ⟨hx, hb, hml, hown, hts⟩ (c_X0_requireWithin l hfl s.heap.size p2 z2 55 95 hz2 (by decide) (by decide)) (va_cwS 3 hts gX0_begin_X0_requireWithin rfl rfl rfl (by decide +kernel) ⟨Nat.le_of_ble_eq_true rfl, Nat.le_of_ble_eq_true rfl⟩) ⟨nk_Ps.blind, fun U hU hW => ⟨rfl, by rw [hU], by rw [hU]; exact nk_Z.go hZ hW (fun q h => Or.inr h)⟩⟩ rfl rfl hl.1 rfl (lv_room (Nat.le_of_ble_eq_true rfl)) dX0_begin_14 ⟨Nat.le_of_ble_eq_true rfl, Nat.le_of_ble_eq_true rfl⟩) hS hA (fun E ce q9 H1 hE hz hk9 hS1 hce hcv hcl => ?_) (fun hok14 => ?_)
  · exact vx_out (fun x h => (htab x h).elim) hlocks hce hcv hcl (fun t ht hW => ⟨(), trivial, Or.inl ⟨hE.1, by have := hE.2; omega⟩, by rw [ht]; exact hz, fun q h1 _ => by rw [ht]; exact hk9 q h1⟩) (fun z h => nomatch h) (Nat.le_of_ble_eq_true rfl) (Nat.le_of_ble_eq_true rfl)
  refine W.eq (g2 := F0 m 17 ls []) rfl ?_
  refine lv_iload_n hx hb dX0_begin_17 rfl (lv_at hl 3 rfl) ?_
  refine nk_zeq (tgt := 29) hx hb hz3 dX0_begin_18 (by decide) (fun c18 => ?_) (fun c18 => ?_)
  · refine lv_iload hx hb dX0_begin_29 (lv_at hl 4 rfl) ?_
    refine lv_iconst (v := nI 0) hx hb dX0_begin_31 (by decide +kernel) ?_
    refine lv_ldc (v := nI 10000000) hx hb hown k42 dX0_begin_32 ?_
    refine nk_rdx (vx_runS (As := [.int p4, .int (nI 0), .int (nI 10000000)]) (rest := []) ⟨hx, hb, hml, hown, hts⟩ (c_X0_requireWithin l hfl s.heap.size p4 z4 0 10000000 hz4 (by decide) (by decide)) (va_cwS 3 hts gX0_begin_X0_requireWithin rfl rfl rfl (by decide +kernel) ⟨Nat.le_of_ble_eq_true rfl, Nat.le_of_ble_eq_true rfl⟩) ⟨nk_Ps.blind, fun U hU hW => ⟨rfl, by rw [hU], by rw [hU]; exact nk_Z.go hZ hW (fun q h => Or.inr h)⟩⟩ rfl rfl hl.1 rfl (lv_room (Nat.le_of_ble_eq_true rfl)) dX0_begin_34 ⟨Nat.le_of_ble_eq_true rfl, Nat.le_of_ble_eq_true rfl⟩) hS hA (fun E ce q9 H1 hE hz hk9 hS1 hce hcv hcl => ?_) (fun hok34 => ?_)
    · exact vx_out (fun x h => (htab x h).elim) hlocks hce hcv hcl (fun t ht hW => ⟨(), trivial, Or.inl ⟨hE.1, by have := hE.2; omega⟩, by rw [ht]; exact hz, fun q h1 _ => by rw [ht]; exact hk9 q h1⟩) (fun z h => nomatch h) (Nat.le_of_ble_eq_true rfl) (Nat.le_of_ble_eq_true rfl)
    refine W.eq (g2 := F0 m 37 ls []) rfl ?_
    obtain ⟨rfl, ha1⟩ := hpa1 (by omega)
    have z1a : z1 = (a1 : Int) := by rw [← hz1]; exact nI_toInt (by omega)
    obtain ⟨rfl, ha2⟩ := hpa2 (by omega)
    have z2a : z2 = (a2 : Int) := by rw [← hz2]; exact nI_toInt (by omega)
    obtain ⟨rfl, ha3⟩ := hpa3 (by omega)
    have z3a : z3 = (a3 : Int) := by rw [← hz3]; exact nI_toInt (by omega)
    obtain ⟨rfl, ha4⟩ := hpa4 (by omega)
    have z4a : z4 = (a4 : Int) := by rw [← hz4]; exact nI_toInt (by omega)
    refine lv_iload_n hx hb dX0_begin_37 rfl (lv_at hl 3 rfl) ?_
    refine nk_if_ne (tgt := 45) hx hb (by omega) dX0_begin_38 (by decide) (fun c38 => ?_) (fun c38 => ?_)
    · exfalso; omega
    · refine lv_iload_n hx hb dX0_begin_41 rfl (lv_at hl 2 rfl) ?_
      refine lv_goto (tgt := 50) hx hb dX0_begin_42 (by decide) ?_
      refine lv_istore (lv' := [(5, .int (nI a2)), (0, .ref h0), (1, .int (nI a1)), (2, .int (nI a2)), (3, .int (nI a3)), (4, .int (nI a4))]) hx hb dX0_begin_50 hl (by decide) rfl (fun ls hl => ?_)
      refine lv_iload_n hx hb dX0_begin_52 rfl (lv_at hl 2 rfl) ?_
      refine lv_iload hx hb dX0_begin_53 (lv_at hl 0 rfl) ?_
      refine lv_aload_n hx hb dX0_begin_55 rfl (lv_at hl 1 rfl) ?_
      refine va_get (D := D) (ci := 0) (v := .int (nI d)) (C := RX0) (T := TX0) (N := 17) hx hb hts hin hown hK hP 0 rfl rfl 0 (by decide) f53 (fun _ h9 => h9) rfl dX0_begin_56 ?_
      refine lv_sipush (v := nI 365) hx hb dX0_begin_59 (by decide +kernel) ?_
      refine nk_idiv hx hb (by omega) (by decide) (by decide) dX0_begin_62 ?_
      refine nk_iadd hx hb dX0_begin_63 ?_
      refine nk_rd (W.runS (As := [.int (nI a1), .int (nI (a2 + (d / 365)))]) (rest := []) ⟨hx, hb, hml, hown, hts⟩ (c_X0_greatestLoan l a1 (a2 + (d / 365)) (by omega) (by omega) (by omega)) (va_cwS 2 hts gX0_begin_X0_greatestLoan rfl rfl rfl (by decide +kernel) ⟨Nat.le_of_ble_eq_true rfl, Nat.le_of_ble_eq_true rfl⟩) ⟨nk_P0.blind, fun U hU hW => ⟨rfl, trivial⟩⟩ rfl rfl hl.1 rfl (lv_room (Nat.le_of_ble_eq_true rfl)) dX0_begin_64 ⟨Nat.zero_le _, Nat.zero_le _⟩) ?_
      refine W.eq (g2 := F0 m 67 ls [.int (nI (gL a1 (a2 + (d / 365))))]) rfl ?_
      refine lv_istore (lv' := [(6, .int (nI (gL a1 (a2 + (d / 365))))), (5, .int (nI a2)), (0, .ref h0), (1, .int (nI a1)), (2, .int (nI a2)), (3, .int (nI a3)), (4, .int (nI a4))]) hx hb dX0_begin_67 hl (by decide) rfl (fun ls hl => ?_)
      have hg9 : gL a1 (a2 + d / 365) ≤ 5500000 := gL_le (by omega)
      refine lv_aload_n hx hb dX0_begin_69 rfl (lv_at hl 2 rfl) ?_
      refine nk_rd (W.runV (As := []) (rest := []) ⟨hx, hb, hml, hown, hts⟩ (c_X0_isBegun l D h0 h1 h2 h3 h4 h5 h6 h7 h8 h9 cI cJ d r lc bg w rm k pn fa e1 am dd rt b pd pt tp hlc) (cwV 0 hts gX0_begin_X0_isBegun rfl rfl rfl (by decide +kernel) ⟨Nat.le_of_ble_eq_true rfl, Nat.le_of_ble_eq_true rfl⟩) ⟨nk_Pr.blind, va_recv hK hP (ci := 0) (q0 := 0) rfl rfl, fun U hU hW => ⟨rfl, by rw [hU]; exact hP, va_K.moved hW.alike hK⟩⟩ rfl rfl hl.1 rfl (lv_room (Nat.le_of_ble_eq_true rfl)) dX0_begin_70 ⟨Nat.zero_le _, Nat.zero_le _⟩) ?_
      refine W.eq (g2 := F0 m 73 ls [.int (nI (if 0 < lc then 1 else 0))]) rfl ?_
      refine nk_bif_ne (tgt := 83) hx hb dX0_begin_73 (by decide) (fun c73 => ?_) (fun c73 => ?_)
      · exact vx_throwS (own := RX0) (cls := RIS) (names := ["java/lang/RuntimeException", "java/lang/Exception"]) (ik := 63) (is := 65) (ic := 67) (A := va_A (wX h0 h1 h2 h3 h4 h5 h6 h7 h8 h9 cI cJ d r lc bg w rm k pn fa e1 am dd rt b pd pt tp) s.heap.size) hx hb hfl hown (by decide +kernel) (by decide +kernel) (hts (.classLink RX0 63 RIS) (by decide +kernel)) (hts (.initialized RIS) (by decide +kernel)) hr65 a67 (by decide +kernel) hZ.1.1 hZ.1.2 hSz (hl.1.trans hml.symm) dX0_begin_83 dX0_begin_86 dX0_begin_87 dX0_begin_89 dX0_begin_92 (fun x h => (htab x h).elim) (Nat.le_of_ble_eq_true rfl) (Nat.le_of_ble_eq_true rfl) (Nat.le_of_ble_eq_true rfl) (Nat.le_of_ble_eq_true rfl) hlocks (fun t hvm hsz9 hk9 => ⟨(), trivial, Or.inr ⟨rfl, by omega, by omega⟩, hsz9, fun q h1 _ => hk9 q h1⟩) (fun z h => nomatch h) (Nat.le_of_ble_eq_true rfl) (Nat.le_of_ble_eq_true rfl)
      · refine lv_iload hx hb dX0_begin_76 (lv_at hl 6 rfl) ?_
        refine lv_iload hx hb dX0_begin_78 (lv_at hl 0 rfl) ?_
        refine nk_icmp_le (tgt := 93) hx hb (by omega) (by omega) dX0_begin_80 (by decide) (fun c80 => ?_) (fun c80 => ?_)
        · refine lv_aload_n hx hb dX0_begin_93 rfl (lv_at hl 2 rfl) ?_
          refine lv_iload_n hx hb dX0_begin_94 rfl (lv_at hl 4 rfl) ?_
          refine nk_vcall (wr := []) (va_runV (As := [.int (nI a2)]) (rest := []) ⟨hx, hb, hml, hown, hts⟩ (c_X0_addLife l D h0 h1 h2 h3 h4 h5 h6 h7 h8 h9 cI cJ d r lc bg w rm k pn fa e1 am dd rt b pd pt tp s.heap.size a2 (by omega)) (cwV 1 hts gX0_begin_X0_addLife rfl rfl rfl (by decide +kernel) ⟨Nat.le_of_ble_eq_true rfl, Nat.le_of_ble_eq_true rfl⟩) ⟨nk_Pw.blind, va_recv hK hP (ci := 0) (q0 := 0) rfl rfl, fun U hU hW => ⟨rfl, by rw [hU], by rw [hU]; exact hP, va_K.moved hW.alike hK, hD.weaken (fun _ _ _ _ => trivial)⟩⟩ rfl rfl hl.1 rfl (lv_room (Nat.le_of_ble_eq_true rfl)) dX0_begin_95 ⟨Nat.zero_le _, Nat.zero_le _⟩) hP hD hS hA [0, 1, 2, 3, 4, 5, 6, 7, 8, 9] [] rfl rfl rfl (by decide) (fun w1 H locs hw hP hD hS hk9 => ?_)
          subst hw
          have hP : va_P D vwCl (wX h0 h1 h2 h3 h4 h5 h6 h7 h8 h9 cI cJ d r (lc + 1) bg w rm k pn (va_up fa lc a2) (va_up e1 lc 0) am dd rt b pd pt tp) H := hP
          have hD : va_D A (wX h0 h1 h2 h3 h4 h5 h6 h7 h8 h9 cI cJ d r (lc + 1) bg w rm k pn (va_up fa lc a2) (va_up e1 lc 0) am dd rt b pd pt tp) := hD
          refine lv_iload_n hx hb dX0_begin_98 rfl (lv_at hl 5 rfl) ?_
          refine nk_if_eq (tgt := 107) hx hb (by omega) dX0_begin_99 (by decide) (fun c99 => ?_) (fun c99 => ?_)
          · refine lv_aload_n hx hb dX0_begin_107 rfl (lv_at hl 2 rfl) ?_
            refine lv_aload_n hx hb dX0_begin_108 rfl (lv_at hl 2 rfl) ?_
            refine va_get (D := D) (ci := 0) (v := .int (nI d)) (C := RX0) (T := TX0) (N := 17) hx hb hts hin hown hK hP 0 rfl rfl 0 (by decide) f53 (fun _ h9 => h9) rfl dX0_begin_109 ?_
            refine va_put (D := D) (ci := 0) (v := .int (nI d)) (ty := .int) (C := RX0) (T := TX0) (N := 17) hx hb hts hin tyX0 tyX0_ok nmX0 hown hK hP hD hS 0 rfl rfl 5 (by decide) f74 (fun _ h9 => h9) rfl (by decide +kernel) rfl rfl (Nat.le_of_ble_eq_true rfl) dX0_begin_112 (fun H locs hP hD hS => ?_)
            have hP : va_P D vwCl (wX h0 h1 h2 h3 h4 h5 h6 h7 h8 h9 cI cJ d r (lc + 1) d w rm k pn (va_up fa lc a2) (va_up e1 lc 0) am dd rt b pd pt tp) H := hP
            have hD : va_D A (wX h0 h1 h2 h3 h4 h5 h6 h7 h8 h9 cI cJ d r (lc + 1) d w rm k pn (va_up fa lc a2) (va_up e1 lc 0) am dd rt b pd pt tp) := hD
            refine lv_aload_n hx hb dX0_begin_115 rfl (lv_at hl 2 rfl) ?_
            refine lv_iload_n hx hb dX0_begin_116 rfl (lv_at hl 3 rfl) ?_
            refine va_put (D := D) (ci := 0) (v := .int (nI a1)) (ty := .int) (C := RX0) (T := TX0) (N := 17) hx hb hts hin tyX0 tyX0_ok nmX0 hown hK hP hD hS 0 rfl rfl 6 (by decide) f77 (fun _ h9 => h9) rfl (by decide +kernel) rfl rfl (Nat.le_of_ble_eq_true rfl) dX0_begin_117 (fun H locs hP hD hS => ?_)
            have hP : va_P D vwCl (wX h0 h1 h2 h3 h4 h5 h6 h7 h8 h9 cI cJ d r (lc + 1) d a1 rm k pn (va_up fa lc a2) (va_up e1 lc 0) am dd rt b pd pt tp) H := hP
            have hD : va_D A (wX h0 h1 h2 h3 h4 h5 h6 h7 h8 h9 cI cJ d r (lc + 1) d a1 rm k pn (va_up fa lc a2) (va_up e1 lc 0) am dd rt b pd pt tp) := hD
            refine lv_aload_n hx hb dX0_begin_120 rfl (lv_at hl 2 rfl) ?_
            refine lv_iload hx hb dX0_begin_121 (lv_at hl 0 rfl) ?_
            refine va_put (D := D) (ci := 0) (v := .int (nI (gL a1 (a2 + (d / 365))))) (ty := .int) (C := RX0) (T := TX0) (N := 17) hx hb hts hin tyX0 tyX0_ok nmX0 hown hK hP hD hS 0 rfl rfl 7 (by decide) f80 (fun _ h9 => h9) rfl (by decide +kernel) rfl rfl (Nat.le_of_ble_eq_true rfl) dX0_begin_123 (fun H locs hP hD hS => ?_)
            have hP : va_P D vwCl (wX h0 h1 h2 h3 h4 h5 h6 h7 h8 h9 cI cJ d r (lc + 1) d a1 (gL a1 (a2 + (d / 365))) k pn (va_up fa lc a2) (va_up e1 lc 0) am dd rt b pd pt tp) H := hP
            have hD : va_D A (wX h0 h1 h2 h3 h4 h5 h6 h7 h8 h9 cI cJ d r (lc + 1) d a1 (gL a1 (a2 + (d / 365))) k pn (va_up fa lc a2) (va_up e1 lc 0) am dd rt b pd pt tp) := hD
            refine lv_iload hx hb dX0_begin_126 (lv_at hl 6 rfl) ?_
            refine nk_if_le (tgt := 137) hx hb (by omega) dX0_begin_128 (by decide) (fun c128 => ?_) (fun c128 => ?_)
            · refine lv_aload_n hx hb dX0_begin_137 rfl (lv_at hl 2 rfl) ?_
              refine va_get (D := D) (ci := 0) (v := .int (nI (gL a1 (a2 + (d / 365))))) (C := RX0) (T := TX0) (N := 17) hx hb hts hin hown hK hP 0 rfl rfl 7 (by decide) f80 (fun _ h9 => h9) rfl dX0_begin_138 ?_
              refine vx_ret ?_
              refine W.widen (k := 1) (n := 6) (by decide) (by decide) ?_
              exact W.iret (v := (nI (gL a1 (a2 + (d / 365))))) hx hb hr (fun t ht hW => ⟨⟨(nI (gL a1 (a2 + (d / 365)))), wX h0 h1 h2 h3 h4 h5 h6 h7 h8 h9 cI cJ d r (lc + 1) d a1 (gL a1 (a2 + (d / 365))) k pn (va_up fa lc a2) (va_up e1 lc 0) am dd rt b pd pt tp, rfl, ⟨by omega, by omega, Or.inl ⟨by omega, by omega, by omega, rfl, rfl⟩⟩, by rw [ht]; exact hP, va_K.moved hW.alike hK, hD⟩, hS.F ht⟩) hS.2.2 dX0_begin_141
            · refine lv_aload_n hx hb dX0_begin_131 rfl (lv_at hl 2 rfl) ?_
              refine lv_iload hx hb dX0_begin_132 (lv_at hl 6 rfl) ?_
              refine nk_vcall (wr := []) (va_runV (As := [.int (nI a4)]) (rest := []) ⟨hx, hb, hml, hown, hts⟩ (c_X0_addDrawing l D h0 h1 h2 h3 h4 h5 h6 h7 h8 h9 cI cJ d r (lc + 1) d a1 (gL a1 (a2 + (d / 365))) k pn (va_up fa lc a2) (va_up e1 lc 0) am dd rt b pd pt tp H.size a4 (by omega) (by omega) (by omega)) (cwV 1 hts gX0_begin_X0_addDrawing rfl rfl rfl (by decide +kernel) ⟨Nat.le_of_ble_eq_true rfl, Nat.le_of_ble_eq_true rfl⟩) ⟨nk_Pw.blind, va_recv hK hP (ci := 0) (q0 := 0) rfl rfl, fun U hU hW => ⟨rfl, by rw [hU], by rw [hU]; exact hP, va_K.moved hW.alike hK, hD.weaken (fun _ _ _ _ => trivial)⟩⟩ rfl rfl hl.1 rfl (lv_room (Nat.le_of_ble_eq_true rfl)) dX0_begin_134 ⟨Nat.zero_le _, Nat.zero_le _⟩) hP hD hS hA [0, 1, 2, 3, 4, 5, 6, 7, 8, 9] [] rfl rfl rfl (by decide) (fun w1 H locs hw hP hD hS hk9 => ?_)
              subst hw
              have hP : va_P D vwCl (wX h0 h1 h2 h3 h4 h5 h6 h7 h8 h9 cI cJ d r (lc + 1) d a1 ((gL a1 (a2 + (d / 365))) - a4) (k + 1) pn (va_up fa lc a2) (va_up e1 lc 0) (va_up am k a4) (va_up dd k d) (va_up rt k r) (va_up b k (a4 * 10000)) pd pt tp) H := hP
              have hD : va_D A (wX h0 h1 h2 h3 h4 h5 h6 h7 h8 h9 cI cJ d r (lc + 1) d a1 ((gL a1 (a2 + (d / 365))) - a4) (k + 1) pn (va_up fa lc a2) (va_up e1 lc 0) (va_up am k a4) (va_up dd k d) (va_up rt k r) (va_up b k (a4 * 10000)) pd pt tp) := hD
              refine lv_aload_n hx hb dX0_begin_137 rfl (lv_at hl 2 rfl) ?_
              refine va_get (D := D) (ci := 0) (v := .int (nI ((gL a1 (a2 + (d / 365))) - a4))) (C := RX0) (T := TX0) (N := 17) hx hb hts hin hown hK hP 0 rfl rfl 7 (by decide) f80 (fun _ h9 => h9) rfl dX0_begin_138 ?_
              refine vx_ret ?_
              refine W.widen (k := 1) (n := 6) (by decide) (by decide) ?_
              exact W.iret (v := (nI ((gL a1 (a2 + (d / 365))) - a4))) hx hb hr (fun t ht hW => ⟨⟨(nI ((gL a1 (a2 + (d / 365))) - a4)), wX h0 h1 h2 h3 h4 h5 h6 h7 h8 h9 cI cJ d r (lc + 1) d a1 ((gL a1 (a2 + (d / 365))) - a4) (k + 1) pn (va_up fa lc a2) (va_up e1 lc 0) (va_up am k a4) (va_up dd k d) (va_up rt k r) (va_up b k (a4 * 10000)) pd pt tp, rfl, ⟨by omega, by omega, Or.inr (Or.inl ⟨by omega, by omega, by omega, rfl, rfl⟩)⟩, by rw [ht]; exact hP, va_K.moved hW.alike hK, hD⟩, hS.F ht⟩) hS.2.2 dX0_begin_141
          · exfalso; omega
        · exact vx_throwS (own := RX0) (cls := RIS) (names := ["java/lang/RuntimeException", "java/lang/Exception"]) (ik := 63) (is := 65) (ic := 67) (A := va_A (wX h0 h1 h2 h3 h4 h5 h6 h7 h8 h9 cI cJ d r lc bg w rm k pn fa e1 am dd rt b pd pt tp) s.heap.size) hx hb hfl hown (by decide +kernel) (by decide +kernel) (hts (.classLink RX0 63 RIS) (by decide +kernel)) (hts (.initialized RIS) (by decide +kernel)) hr65 a67 (by decide +kernel) hZ.1.1 hZ.1.2 hSz (hl.1.trans hml.symm) dX0_begin_83 dX0_begin_86 dX0_begin_87 dX0_begin_89 dX0_begin_92 (fun x h => (htab x h).elim) (Nat.le_of_ble_eq_true rfl) (Nat.le_of_ble_eq_true rfl) (Nat.le_of_ble_eq_true rfl) (Nat.le_of_ble_eq_true rfl) hlocks (fun t hvm hsz9 hk9 => ⟨(), trivial, Or.inr ⟨rfl, by omega, by omega⟩, hsz9, fun q h1 _ => hk9 q h1⟩) (fun z h => nomatch h) (Nat.le_of_ble_eq_true rfl) (Nat.le_of_ble_eq_true rfl)
  · refine lv_iload_n hx hb dX0_begin_21 rfl (lv_at hl 3 rfl) ?_
    refine lv_bipush (v := nI 55) hx hb dX0_begin_22 (by decide +kernel) ?_
    refine lv_bipush (v := nI 95) hx hb dX0_begin_24 (by decide +kernel) ?_
    refine nk_rdx (vx_runS (As := [.int p3, .int (nI 55), .int (nI 95)]) (rest := []) ⟨hx, hb, hml, hown, hts⟩ (c_X0_requireWithin l hfl s.heap.size p3 z3 55 95 hz3 (by decide) (by decide)) (va_cwS 3 hts gX0_begin_X0_requireWithin rfl rfl rfl (by decide +kernel) ⟨Nat.le_of_ble_eq_true rfl, Nat.le_of_ble_eq_true rfl⟩) ⟨nk_Ps.blind, fun U hU hW => ⟨rfl, by rw [hU], by rw [hU]; exact nk_Z.go hZ hW (fun q h => Or.inr h)⟩⟩ rfl rfl hl.1 rfl (lv_room (Nat.le_of_ble_eq_true rfl)) dX0_begin_26 ⟨Nat.le_of_ble_eq_true rfl, Nat.le_of_ble_eq_true rfl⟩) hS hA (fun E ce q9 H1 hE hz hk9 hS1 hce hcv hcl => ?_) (fun hok26 => ?_)
    · exact vx_out (fun x h => (htab x h).elim) hlocks hce hcv hcl (fun t ht hW => ⟨(), trivial, Or.inl ⟨hE.1, by have := hE.2; omega⟩, by rw [ht]; exact hz, fun q h1 _ => by rw [ht]; exact hk9 q h1⟩) (fun z h => nomatch h) (Nat.le_of_ble_eq_true rfl) (Nat.le_of_ble_eq_true rfl)
    refine W.eq (g2 := F0 m 29 ls []) rfl ?_
    refine lv_iload hx hb dX0_begin_29 (lv_at hl 4 rfl) ?_
    refine lv_iconst (v := nI 0) hx hb dX0_begin_31 (by decide +kernel) ?_
    refine lv_ldc (v := nI 10000000) hx hb hown k42 dX0_begin_32 ?_
    refine nk_rdx (vx_runS (As := [.int p4, .int (nI 0), .int (nI 10000000)]) (rest := []) ⟨hx, hb, hml, hown, hts⟩ (c_X0_requireWithin l hfl s.heap.size p4 z4 0 10000000 hz4 (by decide) (by decide)) (va_cwS 3 hts gX0_begin_X0_requireWithin rfl rfl rfl (by decide +kernel) ⟨Nat.le_of_ble_eq_true rfl, Nat.le_of_ble_eq_true rfl⟩) ⟨nk_Ps.blind, fun U hU hW => ⟨rfl, by rw [hU], by rw [hU]; exact nk_Z.go hZ hW (fun q h => Or.inr h)⟩⟩ rfl rfl hl.1 rfl (lv_room (Nat.le_of_ble_eq_true rfl)) dX0_begin_34 ⟨Nat.le_of_ble_eq_true rfl, Nat.le_of_ble_eq_true rfl⟩) hS hA (fun E ce q9 H1 hE hz hk9 hS1 hce hcv hcl => ?_) (fun hok34 => ?_)
    · exact vx_out (fun x h => (htab x h).elim) hlocks hce hcv hcl (fun t ht hW => ⟨(), trivial, Or.inl ⟨hE.1, by have := hE.2; omega⟩, by rw [ht]; exact hz, fun q h1 _ => by rw [ht]; exact hk9 q h1⟩) (fun z h => nomatch h) (Nat.le_of_ble_eq_true rfl) (Nat.le_of_ble_eq_true rfl)
    refine W.eq (g2 := F0 m 37 ls []) rfl ?_
    obtain ⟨rfl, ha1⟩ := hpa1 (by omega)
    have z1a : z1 = (a1 : Int) := by rw [← hz1]; exact nI_toInt (by omega)
    obtain ⟨rfl, ha2⟩ := hpa2 (by omega)
    have z2a : z2 = (a2 : Int) := by rw [← hz2]; exact nI_toInt (by omega)
    obtain ⟨rfl, ha3⟩ := hpa3 (by omega)
    have z3a : z3 = (a3 : Int) := by rw [← hz3]; exact nI_toInt (by omega)
    obtain ⟨rfl, ha4⟩ := hpa4 (by omega)
    have z4a : z4 = (a4 : Int) := by rw [← hz4]; exact nI_toInt (by omega)
    refine lv_iload_n hx hb dX0_begin_37 rfl (lv_at hl 3 rfl) ?_
    refine nk_if_ne (tgt := 45) hx hb (by omega) dX0_begin_38 (by decide) (fun c38 => ?_) (fun c38 => ?_)
    · refine lv_iload_n hx hb dX0_begin_45 rfl (lv_at hl 2 rfl) ?_
      refine lv_iload_n hx hb dX0_begin_46 rfl (lv_at hl 3 rfl) ?_
      refine va_mmin hx hb (hml.trans hl.1.symm) hown (hts (.methodLink RX0 47 Lib.Math.min.name) (by decide +kernel)) (hts (.static Lib.Math.min.name) (by decide +kernel)) (hts (.initialized "java/lang/Math") (by decide +kernel)) (hts (.code Lib.Math.min.name Lib.Math.min.code 2 (some .int)) (by decide +kernel)) (Nat.le_of_ble_eq_true rfl) (Nat.le_of_ble_eq_true rfl) (Nat.zero_le _) (Nat.zero_le _) dX0_begin_47 ?_
      refine nk_topi (y := (nI (min a2 a3))) (nk_min (by omega) (by omega)) ?_
      refine lv_istore (lv' := [(5, .int (nI (min a2 a3))), (0, .ref h0), (1, .int (nI a1)), (2, .int (nI a2)), (3, .int (nI a3)), (4, .int (nI a4))]) hx hb dX0_begin_50 hl (by decide) rfl (fun ls hl => ?_)
      refine lv_iload_n hx hb dX0_begin_52 rfl (lv_at hl 2 rfl) ?_
      refine lv_iload hx hb dX0_begin_53 (lv_at hl 0 rfl) ?_
      refine lv_aload_n hx hb dX0_begin_55 rfl (lv_at hl 1 rfl) ?_
      refine va_get (D := D) (ci := 0) (v := .int (nI d)) (C := RX0) (T := TX0) (N := 17) hx hb hts hin hown hK hP 0 rfl rfl 0 (by decide) f53 (fun _ h9 => h9) rfl dX0_begin_56 ?_
      refine lv_sipush (v := nI 365) hx hb dX0_begin_59 (by decide +kernel) ?_
      refine nk_idiv hx hb (by omega) (by decide) (by decide) dX0_begin_62 ?_
      refine nk_iadd hx hb dX0_begin_63 ?_
      refine nk_rd (W.runS (As := [.int (nI a1), .int (nI ((min a2 a3) + (d / 365)))]) (rest := []) ⟨hx, hb, hml, hown, hts⟩ (c_X0_greatestLoan l a1 ((min a2 a3) + (d / 365)) (by omega) (by omega) (by omega)) (va_cwS 2 hts gX0_begin_X0_greatestLoan rfl rfl rfl (by decide +kernel) ⟨Nat.le_of_ble_eq_true rfl, Nat.le_of_ble_eq_true rfl⟩) ⟨nk_P0.blind, fun U hU hW => ⟨rfl, trivial⟩⟩ rfl rfl hl.1 rfl (lv_room (Nat.le_of_ble_eq_true rfl)) dX0_begin_64 ⟨Nat.zero_le _, Nat.zero_le _⟩) ?_
      refine W.eq (g2 := F0 m 67 ls [.int (nI (gL a1 ((min a2 a3) + (d / 365))))]) rfl ?_
      refine lv_istore (lv' := [(6, .int (nI (gL a1 ((min a2 a3) + (d / 365))))), (5, .int (nI (min a2 a3))), (0, .ref h0), (1, .int (nI a1)), (2, .int (nI a2)), (3, .int (nI a3)), (4, .int (nI a4))]) hx hb dX0_begin_67 hl (by decide) rfl (fun ls hl => ?_)
      have hg9 : gL a1 (min a2 a3 + d / 365) ≤ 5500000 := gL_le (by omega)
      refine lv_aload_n hx hb dX0_begin_69 rfl (lv_at hl 2 rfl) ?_
      refine nk_rd (W.runV (As := []) (rest := []) ⟨hx, hb, hml, hown, hts⟩ (c_X0_isBegun l D h0 h1 h2 h3 h4 h5 h6 h7 h8 h9 cI cJ d r lc bg w rm k pn fa e1 am dd rt b pd pt tp hlc) (cwV 0 hts gX0_begin_X0_isBegun rfl rfl rfl (by decide +kernel) ⟨Nat.le_of_ble_eq_true rfl, Nat.le_of_ble_eq_true rfl⟩) ⟨nk_Pr.blind, va_recv hK hP (ci := 0) (q0 := 0) rfl rfl, fun U hU hW => ⟨rfl, by rw [hU]; exact hP, va_K.moved hW.alike hK⟩⟩ rfl rfl hl.1 rfl (lv_room (Nat.le_of_ble_eq_true rfl)) dX0_begin_70 ⟨Nat.zero_le _, Nat.zero_le _⟩) ?_
      refine W.eq (g2 := F0 m 73 ls [.int (nI (if 0 < lc then 1 else 0))]) rfl ?_
      refine nk_bif_ne (tgt := 83) hx hb dX0_begin_73 (by decide) (fun c73 => ?_) (fun c73 => ?_)
      · exact vx_throwS (own := RX0) (cls := RIS) (names := ["java/lang/RuntimeException", "java/lang/Exception"]) (ik := 63) (is := 65) (ic := 67) (A := va_A (wX h0 h1 h2 h3 h4 h5 h6 h7 h8 h9 cI cJ d r lc bg w rm k pn fa e1 am dd rt b pd pt tp) s.heap.size) hx hb hfl hown (by decide +kernel) (by decide +kernel) (hts (.classLink RX0 63 RIS) (by decide +kernel)) (hts (.initialized RIS) (by decide +kernel)) hr65 a67 (by decide +kernel) hZ.1.1 hZ.1.2 hSz (hl.1.trans hml.symm) dX0_begin_83 dX0_begin_86 dX0_begin_87 dX0_begin_89 dX0_begin_92 (fun x h => (htab x h).elim) (Nat.le_of_ble_eq_true rfl) (Nat.le_of_ble_eq_true rfl) (Nat.le_of_ble_eq_true rfl) (Nat.le_of_ble_eq_true rfl) hlocks (fun t hvm hsz9 hk9 => ⟨(), trivial, Or.inr ⟨rfl, by omega, by omega⟩, hsz9, fun q h1 _ => hk9 q h1⟩) (fun z h => nomatch h) (Nat.le_of_ble_eq_true rfl) (Nat.le_of_ble_eq_true rfl)
      · refine lv_iload hx hb dX0_begin_76 (lv_at hl 6 rfl) ?_
        refine lv_iload hx hb dX0_begin_78 (lv_at hl 0 rfl) ?_
        refine nk_icmp_le (tgt := 93) hx hb (by omega) (by omega) dX0_begin_80 (by decide) (fun c80 => ?_) (fun c80 => ?_)
        · refine lv_aload_n hx hb dX0_begin_93 rfl (lv_at hl 2 rfl) ?_
          refine lv_iload_n hx hb dX0_begin_94 rfl (lv_at hl 4 rfl) ?_
          refine nk_vcall (wr := []) (va_runV (As := [.int (nI a2)]) (rest := []) ⟨hx, hb, hml, hown, hts⟩ (c_X0_addLife l D h0 h1 h2 h3 h4 h5 h6 h7 h8 h9 cI cJ d r lc bg w rm k pn fa e1 am dd rt b pd pt tp s.heap.size a2 (by omega)) (cwV 1 hts gX0_begin_X0_addLife rfl rfl rfl (by decide +kernel) ⟨Nat.le_of_ble_eq_true rfl, Nat.le_of_ble_eq_true rfl⟩) ⟨nk_Pw.blind, va_recv hK hP (ci := 0) (q0 := 0) rfl rfl, fun U hU hW => ⟨rfl, by rw [hU], by rw [hU]; exact hP, va_K.moved hW.alike hK, hD.weaken (fun _ _ _ _ => trivial)⟩⟩ rfl rfl hl.1 rfl (lv_room (Nat.le_of_ble_eq_true rfl)) dX0_begin_95 ⟨Nat.zero_le _, Nat.zero_le _⟩) hP hD hS hA [0, 1, 2, 3, 4, 5, 6, 7, 8, 9] [] rfl rfl rfl (by decide) (fun w1 H locs hw hP hD hS hk9 => ?_)
          subst hw
          have hP : va_P D vwCl (wX h0 h1 h2 h3 h4 h5 h6 h7 h8 h9 cI cJ d r (lc + 1) bg w rm k pn (va_up fa lc a2) (va_up e1 lc 0) am dd rt b pd pt tp) H := hP
          have hD : va_D A (wX h0 h1 h2 h3 h4 h5 h6 h7 h8 h9 cI cJ d r (lc + 1) bg w rm k pn (va_up fa lc a2) (va_up e1 lc 0) am dd rt b pd pt tp) := hD
          refine lv_iload_n hx hb dX0_begin_98 rfl (lv_at hl 5 rfl) ?_
          refine nk_if_eq (tgt := 107) hx hb (by omega) dX0_begin_99 (by decide) (fun c99 => ?_) (fun c99 => ?_)
          · exfalso; omega
          · refine lv_aload_n hx hb dX0_begin_102 rfl (lv_at hl 2 rfl) ?_
            refine lv_iload_n hx hb dX0_begin_103 rfl (lv_at hl 5 rfl) ?_
            refine nk_vcall (wr := []) (va_runV (As := [.int (nI a3)]) (rest := []) ⟨hx, hb, hml, hown, hts⟩ (c_X0_addLife l D h0 h1 h2 h3 h4 h5 h6 h7 h8 h9 cI cJ d r (lc + 1) bg w rm k pn (va_up fa lc a2) (va_up e1 lc 0) am dd rt b pd pt tp H.size a3 (by omega)) (cwV 1 hts gX0_begin_X0_addLife rfl rfl rfl (by decide +kernel) ⟨Nat.le_of_ble_eq_true rfl, Nat.le_of_ble_eq_true rfl⟩) ⟨nk_Pw.blind, va_recv hK hP (ci := 0) (q0 := 0) rfl rfl, fun U hU hW => ⟨rfl, by rw [hU], by rw [hU]; exact hP, va_K.moved hW.alike hK, hD.weaken (fun _ _ _ _ => trivial)⟩⟩ rfl rfl hl.1 rfl (lv_room (Nat.le_of_ble_eq_true rfl)) dX0_begin_104 ⟨Nat.zero_le _, Nat.zero_le _⟩) hP hD hS hA [0, 1, 2, 3, 4, 5, 6, 7, 8, 9] [] rfl rfl rfl (by decide) (fun w1 H locs hw hP hD hS hk9 => ?_)
            subst hw
            have hP : va_P D vwCl (wX h0 h1 h2 h3 h4 h5 h6 h7 h8 h9 cI cJ d r (lc + 1 + 1) bg w rm k pn (va_up (va_up fa lc a2) (lc + 1) a3) (va_up (va_up e1 lc 0) (lc + 1) 0) am dd rt b pd pt tp) H := hP
            have hD : va_D A (wX h0 h1 h2 h3 h4 h5 h6 h7 h8 h9 cI cJ d r (lc + 1 + 1) bg w rm k pn (va_up (va_up fa lc a2) (lc + 1) a3) (va_up (va_up e1 lc 0) (lc + 1) 0) am dd rt b pd pt tp) := hD
            refine lv_aload_n hx hb dX0_begin_107 rfl (lv_at hl 2 rfl) ?_
            refine lv_aload_n hx hb dX0_begin_108 rfl (lv_at hl 2 rfl) ?_
            refine va_get (D := D) (ci := 0) (v := .int (nI d)) (C := RX0) (T := TX0) (N := 17) hx hb hts hin hown hK hP 0 rfl rfl 0 (by decide) f53 (fun _ h9 => h9) rfl dX0_begin_109 ?_
            refine va_put (D := D) (ci := 0) (v := .int (nI d)) (ty := .int) (C := RX0) (T := TX0) (N := 17) hx hb hts hin tyX0 tyX0_ok nmX0 hown hK hP hD hS 0 rfl rfl 5 (by decide) f74 (fun _ h9 => h9) rfl (by decide +kernel) rfl rfl (Nat.le_of_ble_eq_true rfl) dX0_begin_112 (fun H locs hP hD hS => ?_)
            have hP : va_P D vwCl (wX h0 h1 h2 h3 h4 h5 h6 h7 h8 h9 cI cJ d r (lc + 1 + 1) d w rm k pn (va_up (va_up fa lc a2) (lc + 1) a3) (va_up (va_up e1 lc 0) (lc + 1) 0) am dd rt b pd pt tp) H := hP
            have hD : va_D A (wX h0 h1 h2 h3 h4 h5 h6 h7 h8 h9 cI cJ d r (lc + 1 + 1) d w rm k pn (va_up (va_up fa lc a2) (lc + 1) a3) (va_up (va_up e1 lc 0) (lc + 1) 0) am dd rt b pd pt tp) := hD
            refine lv_aload_n hx hb dX0_begin_115 rfl (lv_at hl 2 rfl) ?_
            refine lv_iload_n hx hb dX0_begin_116 rfl (lv_at hl 3 rfl) ?_
            refine va_put (D := D) (ci := 0) (v := .int (nI a1)) (ty := .int) (C := RX0) (T := TX0) (N := 17) hx hb hts hin tyX0 tyX0_ok nmX0 hown hK hP hD hS 0 rfl rfl 6 (by decide) f77 (fun _ h9 => h9) rfl (by decide +kernel) rfl rfl (Nat.le_of_ble_eq_true rfl) dX0_begin_117 (fun H locs hP hD hS => ?_)
            have hP : va_P D vwCl (wX h0 h1 h2 h3 h4 h5 h6 h7 h8 h9 cI cJ d r (lc + 1 + 1) d a1 rm k pn (va_up (va_up fa lc a2) (lc + 1) a3) (va_up (va_up e1 lc 0) (lc + 1) 0) am dd rt b pd pt tp) H := hP
            have hD : va_D A (wX h0 h1 h2 h3 h4 h5 h6 h7 h8 h9 cI cJ d r (lc + 1 + 1) d a1 rm k pn (va_up (va_up fa lc a2) (lc + 1) a3) (va_up (va_up e1 lc 0) (lc + 1) 0) am dd rt b pd pt tp) := hD
            refine lv_aload_n hx hb dX0_begin_120 rfl (lv_at hl 2 rfl) ?_
            refine lv_iload hx hb dX0_begin_121 (lv_at hl 0 rfl) ?_
            refine va_put (D := D) (ci := 0) (v := .int (nI (gL a1 ((min a2 a3) + (d / 365))))) (ty := .int) (C := RX0) (T := TX0) (N := 17) hx hb hts hin tyX0 tyX0_ok nmX0 hown hK hP hD hS 0 rfl rfl 7 (by decide) f80 (fun _ h9 => h9) rfl (by decide +kernel) rfl rfl (Nat.le_of_ble_eq_true rfl) dX0_begin_123 (fun H locs hP hD hS => ?_)
            have hP : va_P D vwCl (wX h0 h1 h2 h3 h4 h5 h6 h7 h8 h9 cI cJ d r (lc + 1 + 1) d a1 (gL a1 ((min a2 a3) + (d / 365))) k pn (va_up (va_up fa lc a2) (lc + 1) a3) (va_up (va_up e1 lc 0) (lc + 1) 0) am dd rt b pd pt tp) H := hP
            have hD : va_D A (wX h0 h1 h2 h3 h4 h5 h6 h7 h8 h9 cI cJ d r (lc + 1 + 1) d a1 (gL a1 ((min a2 a3) + (d / 365))) k pn (va_up (va_up fa lc a2) (lc + 1) a3) (va_up (va_up e1 lc 0) (lc + 1) 0) am dd rt b pd pt tp) := hD
            refine lv_iload hx hb dX0_begin_126 (lv_at hl 6 rfl) ?_
            refine nk_if_le (tgt := 137) hx hb (by omega) dX0_begin_128 (by decide) (fun c128 => ?_) (fun c128 => ?_)
            · refine lv_aload_n hx hb dX0_begin_137 rfl (lv_at hl 2 rfl) ?_
              refine va_get (D := D) (ci := 0) (v := .int (nI (gL a1 ((min a2 a3) + (d / 365))))) (C := RX0) (T := TX0) (N := 17) hx hb hts hin hown hK hP 0 rfl rfl 7 (by decide) f80 (fun _ h9 => h9) rfl dX0_begin_138 ?_
              refine vx_ret ?_
              refine W.widen (k := 1) (n := 6) (by decide) (by decide) ?_
              exact W.iret (v := (nI (gL a1 ((min a2 a3) + (d / 365))))) hx hb hr (fun t ht hW => ⟨⟨(nI (gL a1 ((min a2 a3) + (d / 365)))), wX h0 h1 h2 h3 h4 h5 h6 h7 h8 h9 cI cJ d r (lc + 1 + 1) d a1 (gL a1 ((min a2 a3) + (d / 365))) k pn (va_up (va_up fa lc a2) (lc + 1) a3) (va_up (va_up e1 lc 0) (lc + 1) 0) am dd rt b pd pt tp, rfl, ⟨by omega, by omega, Or.inr (Or.inr (Or.inl ⟨by omega, by omega, by omega, rfl, rfl⟩))⟩, by rw [ht]; exact hP, va_K.moved hW.alike hK, hD⟩, hS.F ht⟩) hS.2.2 dX0_begin_141
            · refine lv_aload_n hx hb dX0_begin_131 rfl (lv_at hl 2 rfl) ?_
              refine lv_iload hx hb dX0_begin_132 (lv_at hl 6 rfl) ?_
              refine nk_vcall (wr := []) (va_runV (As := [.int (nI a4)]) (rest := []) ⟨hx, hb, hml, hown, hts⟩ (c_X0_addDrawing l D h0 h1 h2 h3 h4 h5 h6 h7 h8 h9 cI cJ d r (lc + 1 + 1) d a1 (gL a1 ((min a2 a3) + (d / 365))) k pn (va_up (va_up fa lc a2) (lc + 1) a3) (va_up (va_up e1 lc 0) (lc + 1) 0) am dd rt b pd pt tp H.size a4 (by omega) (by omega) (by omega)) (cwV 1 hts gX0_begin_X0_addDrawing rfl rfl rfl (by decide +kernel) ⟨Nat.le_of_ble_eq_true rfl, Nat.le_of_ble_eq_true rfl⟩) ⟨nk_Pw.blind, va_recv hK hP (ci := 0) (q0 := 0) rfl rfl, fun U hU hW => ⟨rfl, by rw [hU], by rw [hU]; exact hP, va_K.moved hW.alike hK, hD.weaken (fun _ _ _ _ => trivial)⟩⟩ rfl rfl hl.1 rfl (lv_room (Nat.le_of_ble_eq_true rfl)) dX0_begin_134 ⟨Nat.zero_le _, Nat.zero_le _⟩) hP hD hS hA [0, 1, 2, 3, 4, 5, 6, 7, 8, 9] [] rfl rfl rfl (by decide) (fun w1 H locs hw hP hD hS hk9 => ?_)
              subst hw
              have hP : va_P D vwCl (wX h0 h1 h2 h3 h4 h5 h6 h7 h8 h9 cI cJ d r (lc + 1 + 1) d a1 ((gL a1 ((min a2 a3) + (d / 365))) - a4) (k + 1) pn (va_up (va_up fa lc a2) (lc + 1) a3) (va_up (va_up e1 lc 0) (lc + 1) 0) (va_up am k a4) (va_up dd k d) (va_up rt k r) (va_up b k (a4 * 10000)) pd pt tp) H := hP
              have hD : va_D A (wX h0 h1 h2 h3 h4 h5 h6 h7 h8 h9 cI cJ d r (lc + 1 + 1) d a1 ((gL a1 ((min a2 a3) + (d / 365))) - a4) (k + 1) pn (va_up (va_up fa lc a2) (lc + 1) a3) (va_up (va_up e1 lc 0) (lc + 1) 0) (va_up am k a4) (va_up dd k d) (va_up rt k r) (va_up b k (a4 * 10000)) pd pt tp) := hD
              refine lv_aload_n hx hb dX0_begin_137 rfl (lv_at hl 2 rfl) ?_
              refine va_get (D := D) (ci := 0) (v := .int (nI ((gL a1 ((min a2 a3) + (d / 365))) - a4))) (C := RX0) (T := TX0) (N := 17) hx hb hts hin hown hK hP 0 rfl rfl 7 (by decide) f80 (fun _ h9 => h9) rfl dX0_begin_138 ?_
              refine vx_ret ?_
              refine W.widen (k := 1) (n := 6) (by decide) (by decide) ?_
              exact W.iret (v := (nI ((gL a1 ((min a2 a3) + (d / 365))) - a4))) hx hb hr (fun t ht hW => ⟨⟨(nI ((gL a1 ((min a2 a3) + (d / 365))) - a4)), wX h0 h1 h2 h3 h4 h5 h6 h7 h8 h9 cI cJ d r (lc + 1 + 1) d a1 ((gL a1 ((min a2 a3) + (d / 365))) - a4) (k + 1) pn (va_up (va_up fa lc a2) (lc + 1) a3) (va_up (va_up e1 lc 0) (lc + 1) 0) (va_up am k a4) (va_up dd k d) (va_up rt k r) (va_up b k (a4 * 10000)) pd pt tp, rfl, ⟨by omega, by omega, Or.inr (Or.inr (Or.inr (⟨by omega, by omega, by omega, rfl, rfl⟩)))⟩, by rw [ht]; exact hP, va_K.moved hW.alike hK, hD⟩, hS.F ht⟩) hS.2.2 dX0_begin_141
        · exact vx_throwS (own := RX0) (cls := RIS) (names := ["java/lang/RuntimeException", "java/lang/Exception"]) (ik := 63) (is := 65) (ic := 67) (A := va_A (wX h0 h1 h2 h3 h4 h5 h6 h7 h8 h9 cI cJ d r lc bg w rm k pn fa e1 am dd rt b pd pt tp) s.heap.size) hx hb hfl hown (by decide +kernel) (by decide +kernel) (hts (.classLink RX0 63 RIS) (by decide +kernel)) (hts (.initialized RIS) (by decide +kernel)) hr65 a67 (by decide +kernel) hZ.1.1 hZ.1.2 hSz (hl.1.trans hml.symm) dX0_begin_83 dX0_begin_86 dX0_begin_87 dX0_begin_89 dX0_begin_92 (fun x h => (htab x h).elim) (Nat.le_of_ble_eq_true rfl) (Nat.le_of_ble_eq_true rfl) (Nat.le_of_ble_eq_true rfl) (Nat.le_of_ble_eq_true rfl) hlocks (fun t hvm hsz9 hk9 => ⟨(), trivial, Or.inr ⟨rfl, by omega, by omega⟩, hsz9, fun q h1 _ => hk9 q h1⟩) (fun z h => nomatch h) (Nat.le_of_ble_eq_true rfl) (Nat.le_of_ble_eq_true rfl)
    · exfalso; omega
end
section
/-! rows that this law wants beside: a draw of the script, -3, what is read at the price of a throw -/
def lwV (x : Int32) (n : Nat) : Nat := (x.toBitVec.toNat % 2 ^ 31) % n
theorem lwV_lt {x : Int32} {n : Nat} (h : 0 < n) : lwV x n < n := Nat.mod_lt _ h
def cellV (L : Nat) (xs : Nat → Int32) (k : Nat) : Int32 := if k < L then xs k else nI (40503 * k + 977)
theorem nk_n3 {a : Nat} (h : a < 2147483648) : ¬ nI a = -3 := fun q => by
  have h2 := congrArg Int32.toInt q
  rw [nI_toInt (by omega), show (-3 : Int32).toInt = -3 from by decide +kernel] at h2
  omega
theorem nk_n3l {a : Nat} (h : a < 9223372036854775808) : ¬ lN a = -3 := fun q => by
  have h2 := congrArg Int64.toInt q
  rw [pk_lT (by omega), show (-3 : Int64).toInt = -3 from by decide +kernel] at h2
  omega
theorem nk_and31 (x : Int32) : x &&& nI 2147483647 = nI (x.toBitVec.toNat % 2 ^ 31) := pk_and x 31 (by decide +kernel)
def nk_Psc (b L : Nat) (xs : Nat → Int32) (av : List Value) : Array Value → State → Prop := va_Pc av (fun U => va_X b L xs U U.heap ∧ b < U.heap.size)
theorem nk_Psc.blind {b L : Nat} {xs : Nat → Int32} {av : List Value} : FrameBlind (nk_Psc b L xs av) := fun a U g mk q => ⟨q.1, va_X.moved (u := U) (U := U.calling g mk a) (Vm.Alike.refl U.vm) q.2.1, q.2.2⟩
section NKL
variable {p : Program} {l : Launch} {e : Env} {R : Room} {s : State} {m : MethodId} {args : Array Value} {below : List Frame} {meth : Method} {c : Code} {H : Heap} {locs : List Loc} {cells slots : Nat} {Q : State → Prop}
variable {cc : ByteArray} {pc : Nat} {ls : Array Slot} {rest st0 : List Value} {a : Array Value} {off : Int} {tgt : Nat}
theorem nk_rdt {mc ms : Nat} {v : Option Value} (hr : CallRun p l e R s m args below meth c H locs cells slots mc ms (F0 m pc ls st0) rest (nk_Rd v a) (fun _ => False))
    (kk : W p l e R s m args below meth c H locs cells slots Q (F0 m (pc + 3) ls (v.toList ++ rest))) : W p l e R s m args below meth c H locs cells slots Q (F0 m pc ls st0) := by
  intro T hT X
  obtain ⟨v', st₀, t, T', L, h0, X', hL, e1, ⟨hv, hh⟩, st⟩ := hr T hT X
  cases hv
  have e9 : T'.heap = T.heap := by rw [e1, hh, h0, hT]
  have X2 := nk_tight X (Stand.forget (extra := L) X' (fun q h => (hL q h).elim)) e9
  obtain ⟨t2, a1, b1⟩ := kk T' (by rw [e9, hT]) X2
  exact ⟨t2, st t2 a1, b1⟩
theorem nk_irem (hx : p.tables.exec = Jvm.exec) (hb : c.code = cc) {a b : Nat} (ha : a < 2147483648) (h0 : 0 < b) (hb2 : b < 2147483648) (hdg : decode cc pc = .ok (.irem, 1)) (k : W p l e R s m args below meth c H locs cells slots Q (F0 m (pc + 1) ls (.int (nI (a % b)) :: rest))) : W p l e R s m args below meth c H locs cells slots Q (F0 m pc ls (.int (nI b) :: .int (nI a) :: rest)) := lv_irem hx hb hdg (nI_ne0 h0 (by omega)) (by rw [pk_rem (by omega) h0 (by omega)]; exact k)
theorem nk_if_ltN (hx : p.tables.exec = Jvm.exec) (hb : c.code = cc) {a : Nat} (ha : a < 2147483648) (hdg : decode cc pc = .ok (.ifCond .lt off, 3)) (ht : (pc : Int) + off = (tgt : Int)) (k : W p l e R s m args below meth c H locs cells slots Q (F0 m (pc + 3) ls rest)) : W p l e R s m args below meth c H locs cells slots Q (F0 m pc ls (.int (nI a) :: rest)) := lv_if_lt hx hb hdg ht (fun q => absurd q (by rw [Int32.lt_iff_toInt_lt, nI_toInt (by omega)]; show ¬ _ < (0 : Int); omega)) (fun _ => k)
theorem nk_lcmp_lt (hx : p.tables.exec = Jvm.exec) (hb : c.code = cc) {a b : Nat} (ha : a < 9223372036854775808) (hb2 : b < 9223372036854775808) (d1 : decode cc pc = .ok (.lcmp, 1)) (d2 : decode cc (pc + 1) = .ok (.ifCond .lt off, 3)) (ht : ((pc + 1 : Nat) : Int) + off = (tgt : Int)) (kt : a < b → W p l e R s m args below meth c H locs cells slots Q (F0 m tgt ls rest)) (kf : b ≤ a → W p l e R s m args below meth c H locs cells slots Q (F0 m (pc + 1 + 3) ls rest)) : W p l e R s m args below meth c H locs cells slots Q (F0 m pc ls (.long (lN b) :: .long (lN a) :: rest)) := W.lcmp hx hb d1 (lv_if_lt hx hb d2 ht (fun q => kt (by
      obtain ⟨h1, h2⟩ := nk_cmp1.2.2.1.mp q
      rcases Nat.lt_or_ge a b with h | h
      · exact h
      · rcases Nat.lt_or_eq_of_le h with h | h
        · exact absurd ((pk_lLT (by omega) (by omega)).mpr h) h1
        · exact absurd (by rw [h]) h2)) (fun q => kf (Nat.not_lt.mp (fun r => q (nk_cmp1.2.2.1.mpr ⟨fun r2 => absurd ((pk_lLT (by omega) (by omega)).mp r2) (by omega), fun r2 => absurd ((pk_lEQ (by omega) (by omega)).mp r2) (by omega)⟩)))))
theorem nk_lcmpR_ne (hx : p.tables.exec = Jvm.exec) (hb : c.code = cc) {x y : Int64} (d1 : decode cc pc = .ok (.lcmp, 1)) (d2 : decode cc (pc + 1) = .ok (.ifCond .ne off, 3)) (ht : ((pc + 1 : Nat) : Int) + off = (tgt : Int)) (kt : ¬ x = y → W p l e R s m args below meth c H locs cells slots Q (F0 m tgt ls rest)) (kf : x = y → W p l e R s m args below meth c H locs cells slots Q (F0 m (pc + 1 + 3) ls rest)) : W p l e R s m args below meth c H locs cells slots Q (F0 m pc ls (.long y :: .long x :: rest)) := W.lcmp hx hb d1 (lv_if_ne hx hb d2 ht (fun q => kt (fun r => q (nk_cmp1.2.2.2.2.mpr ⟨by rw [r]; exact Int64.lt_irrefl, r⟩))) (fun q => kf (nk_cmp1.2.2.2.2.mp q).2))
theorem nk_ZL_le (hx : p.tables.exec = Jvm.exec) (hb : c.code = cc) {x y : Int64} {z w : Int} (hz : x.toInt = z) (hw : y.toInt = w) (d1 : decode cc pc = .ok (.lcmp, 1)) (d2 : decode cc (pc + 1) = .ok (.ifCond .le off, 3)) (ht : ((pc + 1 : Nat) : Int) + off = (tgt : Int)) (kt : z ≤ w → W p l e R s m args below meth c H locs cells slots Q (F0 m tgt ls rest)) (kf : w < z → W p l e R s m args below meth c H locs cells slots Q (F0 m (pc + 1 + 3) ls rest)) : W p l e R s m args below meth c H locs cells slots Q (F0 m pc ls (.long y :: .long x :: rest)) := W.lcmp hx hb d1 (lv_if_le hx hb d2 ht (fun q => kt (by
      have h1 := nk_cmp1.2.1.mp q
      rw [Int64.lt_iff_toInt_lt, hz, hw] at h1; omega)) (fun q => kf (Int.not_le.mp (fun r => q (nk_cmp1.2.1.mpr (by rw [Int64.lt_iff_toInt_lt, hz, hw]; omega))))))
theorem nk_sub2L {a b d : Nat} (ha : a < 1152921504606846976) (hb : b < 1152921504606846976) (hd : d < 1152921504606846976) : (lN a - lN b - lN d).toInt = (a : Int) - b - d := by
  have e : (lN a - lN b - lN d).toInt = ((lN a - lN b).toInt - (lN d).toInt).bmod (2 ^ 64) := Int64.toInt_sub _ _
  rw [e, nk_subL (by omega) (by omega), pk_lT (by omega), Int.bmod_def]
  omega
theorem nk_ecmp_lt (hx : p.tables.exec = Jvm.exec) (hb : c.code = cc) {a b : Nat} (ha : a < 2147483648) (hb2 : b < 1073741824) (hdg : decode cc pc = .ok (.if_icmp .lt off, 3)) (ht : (pc : Int) + off = (tgt : Int)) (kt : a < b + 1 → W p l e R s m args below meth c H locs cells slots Q (F0 m tgt ls rest)) (kf : b + 1 ≤ a → W p l e R s m args below meth c H locs cells slots Q (F0 m (pc + 3) ls rest)) : W p l e R s m args below meth c H locs cells slots Q (F0 m pc ls (.int (nI b) :: .int (nI a - 1) :: rest)) := lv_icmp_lt hx hb hdg ht (fun q => kt (by rw [Int32.lt_iff_toInt_lt, nk_eI ha, nI_toInt (by omega)] at q; omega)) (fun q => kf (Nat.not_lt.mp (fun r => q (by rw [Int32.lt_iff_toInt_lt, nk_eI ha, nI_toInt (by omega)]; omega))))
end NKL
end
section
set_option maxHeartbeats 4000000 in
set_option maxRecDepth 100000 in
theorem c_X0_init (l : Launch) (D : va_G) (h0 : Nat) (sz : Nat) : Met l yX0_init wsX0_init { frames := 1, cells := 9, slots := 964, locals := 24 } (nk_Pw D [(h0, .inr (0, [.int (nI 0), .int (nI 0), .int (nI 0), .null, .null, .int (nI 0), .int (nI 0), .int (nI 0), .int (nI 0), .null, .null, .null, .null, .int (nI 0), .null, .null, .null]))] [] sz [.ref h0]) (va_Qv (fun _ : Unit => True) (fun _ t => ∃ (h1 h2 h3 h4 h5 h6 h7 h8 h9 : Nat) (cI cJ : ClassId), nk_At D (tX cI cJ) (va_A [(h0, .inr (0, [.int (nI 0), .int (nI 0), .int (nI 0), .null, .null, .int (nI 0), .int (nI 0), .int (nI 0), .int (nI 0), .null, .null, .null, .null, .int (nI 0), .null, .null, .null]))] sz) (wX h0 h1 h2 h3 h4 h5 h6 h7 h8 h9 cI cJ 0 500 0 0 0 0 0 0 (fun _ => 0) (fun _ => 1) (fun _ => 0) (fun _ => 0) (fun _ => 0) (fun _ => 0) (fun _ => 0) (fun _ => 0) (fun _ => 0)) t) (va_A [(h0, .inr (0, [.int (nI 0), .int (nI 0), .int (nI 0), .null, .null, .int (nI 0), .int (nI 0), .int (nI 0), .int (nI 0), .null, .null, .null, .null, .int (nI 0), .null, .null, .null]))] sz)) 9 964 (va_A [(h0, .inr (0, [.int (nI 0), .int (nI 0), .int (nI 0), .null, .null, .int (nI 0), .int (nI 0), .int (nI 0), .int (nI 0), .null, .null, .null, .null, .int (nI 0), .null, .null, .null]))] sz) := by
  refine Met.ofW (cc := cX0_init) (maxL := 1) (ret := none) (by decide) rfl ?_
  intro p e s m args below meth c s₁ B hml hv
  obtain ⟨hargs, hsz, hP, hK, hD0⟩ := hv
  have hx := B.exec
  have hb := B.bytes
  have hr := B.returns
  have hts := atoms_spec (ws := wsX0_init) B.pre
  have hown : s.vm.findClass RX0 = some m.cls := findClass_of_methodNamed B.named
  have hlocks := B.notSynchronized
  have hnm : meth.name = "<init>" := (name_of_methodNamed B.named B.method).1
  subst hsz
  have hin : ∀ w ∈ wsX00, w ∈ wsX0_init := by decide +kernel
  have hD := hD0.self (sz := s.heap.size)
  generalize hAe : va_A [(h0, .inr (0, [.int (nI 0), .int (nI 0), .int (nI 0), .null, .null, .int (nI 0), .int (nI 0), .int (nI 0), .int (nI 0), .null, .null, .null, .null, .int (nI 0), .null, .null, .null]))] s.heap.size = A at hD ⊢
  have hA : ∀ q : Nat, s.heap.size ≤ q → A q := fun q h => by rw [← hAe]; exact Or.inr h
  have hS : va_S A s.heap s.heap [] := va_S.rf
  have hl := lv_entry ([.ref h0]) (n := 1) (Nat.le_of_ble_eq_true rfl)
  have hEe : entryFrame m args 1 = entryFrame m ([.ref h0] : List Value).toArray 1 := by rw [hargs]
  rw [hEe, lg_entry_eq]
  generalize (lg_sl ([.ref h0]) ++ List.replicate (1 - (lg_sl ([.ref h0])).length) Slot.unset).toArray = ls at hl ⊢
  have hl : lv_has ls 1 [(0, .ref h0)] := hl
  refine lv_aload_n hx hb dX0_init_0 rfl (lv_at hl 0 rfl) ?_
  refine W.objInit hx hb hown (hts (.methodLink RX0 1 objectInit) (by decide +kernel)) (hts (.instanceMethod objectInit) (by decide +kernel)) (hts _ (List.mem_cons_of_mem _ (List.mem_append_left _ (List.mem_of_getElem? (i := 2) rfl)))) rfl (by rw [hml]; exact hl.1) rfl dX0_init_1 (Nat.le_of_ble_eq_true rfl) (Nat.le_of_ble_eq_true rfl) ?_
  refine W.eq (g2 := F0 m 4 ls []) rfl ?_
  refine lv_aload_n hx hb dX0_init_4 rfl (lv_at hl 0 rfl) ?_
  refine lv_sipush (v := nI 500) hx hb dX0_init_5 (by decide +kernel) ?_
  refine va_put (D := D) (ci := 0) (v := .int (nI 500)) (ty := .int) (C := RX0) (T := TX0) (N := 17) hx hb hts hin tyX0 tyX0_ok nmX0 hown hK hP hD hS 0 rfl rfl 1 (by decide) (hts (.fieldLink RX0 9 "EquityRelease" "rateNow" "I") (by decide +kernel)) (fun _ h9 => h9) rfl (by decide +kernel) rfl rfl (Nat.le_of_ble_eq_true rfl) dX0_init_8 (fun H locs hP hD hS => ?_)
  have hP : va_P D vwCl ([(h0, .inr (0, [.int (nI 0), .int (nI 500), .int (nI 0), .null, .null, .int (nI 0), .int (nI 0), .int (nI 0), .int (nI 0), .null, .null, .null, .null, .int (nI 0), .null, .null, .null]))]) H := hP
  have hD : va_D A ([(h0, .inr (0, [.int (nI 0), .int (nI 500), .int (nI 0), .null, .null, .int (nI 0), .int (nI 0), .int (nI 0), .int (nI 0), .null, .null, .null, .null, .int (nI 0), .null, .null, .null]))]) := hD
  refine lv_aload_n hx hb dX0_init_11 rfl (lv_at hl 0 rfl) ?_
  refine lv_iconst (v := nI 2) hx hb dX0_init_12 (by decide +kernel) ?_
  refine va_newa (atype := .int) (a0 := (2, .inl (nF (fun _ => 0)))) hx hb (hts (.arrayClass .int) (by decide +kernel)) rfl hK hP hD hS hA (fun cA => rfl) (by decide) (by decide +kernel) (Nat.le_of_ble_eq_true rfl) (Nat.le_of_ble_eq_true rfl) (Nat.le_of_ble_eq_true rfl) dX0_init_13 (fun h1 c1 H hK hP hD hS => ?_)
  refine W.widen (k := 1) (n := 2) (Nat.le_refl _) (Nat.le_refl _) ?_
  have hK : va_K D vwCl [(c1, .int)] s := hK
  have hP : va_P D vwCl ([(h0, .inr (0, [.int (nI 0), .int (nI 500), .int (nI 0), .null, .null, .int (nI 0), .int (nI 0), .int (nI 0), .int (nI 0), .null, .null, .null, .null, .int (nI 0), .null, .null, .null])), (h1, .inl (c1, 2, .inl (nF (fun _ => 0))))]) H := hP
  have hD : va_D A ([(h0, .inr (0, [.int (nI 0), .int (nI 500), .int (nI 0), .null, .null, .int (nI 0), .int (nI 0), .int (nI 0), .int (nI 0), .null, .null, .null, .null, .int (nI 0), .null, .null, .null])), (h1, .inl (c1, 2, .inl (nF (fun _ => 0))))]) := hD
  refine va_putF (D := D) (ci := 0) (v := .ref h1) (ty := (.array .int)) (C := RX0) (T := TX0) (N := 17) hx hb hts hin tyX0 tyX0_ok nmX0 hown hK hP hD hS 0 rfl rfl 3 (by decide) (hts (.fieldLink RX0 13 "EquityRelease" "firstAges" "[I") (by decide +kernel)) (fun _ h9 => h9) rfl hnm rfl (by decide +kernel) rfl rfl (Nat.le_of_ble_eq_true rfl) dX0_init_15 (fun H locs hP hD hS => ?_)
  have hP : va_P D vwCl ([(h0, .inr (0, [.int (nI 0), .int (nI 500), .int (nI 0), .ref h1, .null, .int (nI 0), .int (nI 0), .int (nI 0), .int (nI 0), .null, .null, .null, .null, .int (nI 0), .null, .null, .null])), (h1, .inl (c1, 2, .inl (nF (fun _ => 0))))]) H := hP
  have hD : va_D A ([(h0, .inr (0, [.int (nI 0), .int (nI 500), .int (nI 0), .ref h1, .null, .int (nI 0), .int (nI 0), .int (nI 0), .int (nI 0), .null, .null, .null, .null, .int (nI 0), .null, .null, .null])), (h1, .inl (c1, 2, .inl (nF (fun _ => 0))))]) := hD
  refine lv_aload_n hx hb dX0_init_18 rfl (lv_at hl 0 rfl) ?_
  refine lv_iconst (v := nI 2) hx hb dX0_init_19 (by decide +kernel) ?_
  refine va_newa (atype := .int) (a0 := (2, .inl (eF (fun _ => 1)))) hx hb (hts (.arrayClass .int) (by decide +kernel)) rfl hK hP hD hS hA (fun cA => by show arrV cA 2 (fun j => .int (nI 1 - 1)) = _; rw [show (nI 1 - 1 : Int32) = 0 from by decide +kernel]; rfl) (by decide) (by decide +kernel) (Nat.le_of_ble_eq_true rfl) (Nat.le_of_ble_eq_true rfl) (Nat.le_of_ble_eq_true rfl) dX0_init_20 (fun h2 c2 H hK hP hD hS => ?_)
  refine W.widen (k := 2) (n := 4) (Nat.le_refl _) (Nat.le_refl _) ?_
  have hK : va_K D vwCl [(c1, .int), (c2, .int)] s := hK
  have hP : va_P D vwCl ([(h0, .inr (0, [.int (nI 0), .int (nI 500), .int (nI 0), .ref h1, .null, .int (nI 0), .int (nI 0), .int (nI 0), .int (nI 0), .null, .null, .null, .null, .int (nI 0), .null, .null, .null])), (h1, .inl (c1, 2, .inl (nF (fun _ => 0)))), (h2, .inl (c2, 2, .inl (eF (fun _ => 1))))]) H := hP
  have hD : va_D A ([(h0, .inr (0, [.int (nI 0), .int (nI 500), .int (nI 0), .ref h1, .null, .int (nI 0), .int (nI 0), .int (nI 0), .int (nI 0), .null, .null, .null, .null, .int (nI 0), .null, .null, .null])), (h1, .inl (c1, 2, .inl (nF (fun _ => 0)))), (h2, .inl (c2, 2, .inl (eF (fun _ => 1))))]) := hD
  refine va_putF (D := D) (ci := 0) (v := .ref h2) (ty := (.array .int)) (C := RX0) (T := TX0) (N := 17) hx hb hts hin tyX0 tyX0_ok nmX0 hown hK hP hD hS 0 rfl rfl 4 (by decide) (hts (.fieldLink RX0 17 "EquityRelease" "endDays" "[I") (by decide +kernel)) (fun _ h9 => h9) rfl hnm rfl (by decide +kernel) rfl rfl (Nat.le_of_ble_eq_true rfl) dX0_init_22 (fun H locs hP hD hS => ?_)
  have hP : va_P D vwCl ([(h0, .inr (0, [.int (nI 0), .int (nI 500), .int (nI 0), .ref h1, .ref h2, .int (nI 0), .int (nI 0), .int (nI 0), .int (nI 0), .null, .null, .null, .null, .int (nI 0), .null, .null, .null])), (h1, .inl (c1, 2, .inl (nF (fun _ => 0)))), (h2, .inl (c2, 2, .inl (eF (fun _ => 1))))]) H := hP
  have hD : va_D A ([(h0, .inr (0, [.int (nI 0), .int (nI 500), .int (nI 0), .ref h1, .ref h2, .int (nI 0), .int (nI 0), .int (nI 0), .int (nI 0), .null, .null, .null, .null, .int (nI 0), .null, .null, .null])), (h1, .inl (c1, 2, .inl (nF (fun _ => 0)))), (h2, .inl (c2, 2, .inl (eF (fun _ => 1))))]) := hD
  refine lv_aload_n hx hb dX0_init_25 rfl (lv_at hl 0 rfl) ?_
  refine lv_bipush (v := nI 20) hx hb dX0_init_26 (by decide +kernel) ?_
  refine va_newa (atype := .int) (a0 := (20, .inl (nF (fun _ => 0)))) hx hb (hts (.arrayClass .int) (by decide +kernel)) rfl hK hP hD hS hA (fun cA => rfl) (by decide) (by decide +kernel) (Nat.le_of_ble_eq_true rfl) (Nat.le_of_ble_eq_true rfl) (Nat.le_of_ble_eq_true rfl) dX0_init_28 (fun h3 c3 H hK hP hD hS => ?_)
  refine W.widen (k := 3) (n := 24) (Nat.le_refl _) (Nat.le_refl _) ?_
  have hK : va_K D vwCl [(c1, .int), (c2, .int), (c3, .int)] s := hK
  have hP : va_P D vwCl ([(h0, .inr (0, [.int (nI 0), .int (nI 500), .int (nI 0), .ref h1, .ref h2, .int (nI 0), .int (nI 0), .int (nI 0), .int (nI 0), .null, .null, .null, .null, .int (nI 0), .null, .null, .null])), (h1, .inl (c1, 2, .inl (nF (fun _ => 0)))), (h2, .inl (c2, 2, .inl (eF (fun _ => 1)))), (h3, .inl (c3, 20, .inl (nF (fun _ => 0))))]) H := hP
  have hD : va_D A ([(h0, .inr (0, [.int (nI 0), .int (nI 500), .int (nI 0), .ref h1, .ref h2, .int (nI 0), .int (nI 0), .int (nI 0), .int (nI 0), .null, .null, .null, .null, .int (nI 0), .null, .null, .null])), (h1, .inl (c1, 2, .inl (nF (fun _ => 0)))), (h2, .inl (c2, 2, .inl (eF (fun _ => 1)))), (h3, .inl (c3, 20, .inl (nF (fun _ => 0))))]) := hD
  refine va_putF (D := D) (ci := 0) (v := .ref h3) (ty := (.array .int)) (C := RX0) (T := TX0) (N := 17) hx hb hts hin tyX0 tyX0_ok nmX0 hown hK hP hD hS 0 rfl rfl 9 (by decide) (hts (.fieldLink RX0 20 "EquityRelease" "drawnAmounts" "[I") (by decide +kernel)) (fun _ h9 => h9) rfl hnm rfl (by decide +kernel) rfl rfl (Nat.le_of_ble_eq_true rfl) dX0_init_30 (fun H locs hP hD hS => ?_)
  have hP : va_P D vwCl ([(h0, .inr (0, [.int (nI 0), .int (nI 500), .int (nI 0), .ref h1, .ref h2, .int (nI 0), .int (nI 0), .int (nI 0), .int (nI 0), .ref h3, .null, .null, .null, .int (nI 0), .null, .null, .null])), (h1, .inl (c1, 2, .inl (nF (fun _ => 0)))), (h2, .inl (c2, 2, .inl (eF (fun _ => 1)))), (h3, .inl (c3, 20, .inl (nF (fun _ => 0))))]) H := hP
  have hD : va_D A ([(h0, .inr (0, [.int (nI 0), .int (nI 500), .int (nI 0), .ref h1, .ref h2, .int (nI 0), .int (nI 0), .int (nI 0), .int (nI 0), .ref h3, .null, .null, .null, .int (nI 0), .null, .null, .null])), (h1, .inl (c1, 2, .inl (nF (fun _ => 0)))), (h2, .inl (c2, 2, .inl (eF (fun _ => 1)))), (h3, .inl (c3, 20, .inl (nF (fun _ => 0))))]) := hD
  refine lv_aload_n hx hb dX0_init_33 rfl (lv_at hl 0 rfl) ?_
  refine lv_bipush (v := nI 20) hx hb dX0_init_34 (by decide +kernel) ?_
  refine va_newa (atype := .int) (a0 := (20, .inl (nF (fun _ => 0)))) hx hb (hts (.arrayClass .int) (by decide +kernel)) rfl hK hP hD hS hA (fun cA => rfl) (by decide) (by decide +kernel) (Nat.le_of_ble_eq_true rfl) (Nat.le_of_ble_eq_true rfl) (Nat.le_of_ble_eq_true rfl) dX0_init_36 (fun h4 c4 H hK hP hD hS => ?_)
  refine W.widen (k := 4) (n := 44) (Nat.le_refl _) (Nat.le_refl _) ?_
  have hK : va_K D vwCl [(c1, .int), (c2, .int), (c3, .int), (c4, .int)] s := hK
  have hP : va_P D vwCl ([(h0, .inr (0, [.int (nI 0), .int (nI 500), .int (nI 0), .ref h1, .ref h2, .int (nI 0), .int (nI 0), .int (nI 0), .int (nI 0), .ref h3, .null, .null, .null, .int (nI 0), .null, .null, .null])), (h1, .inl (c1, 2, .inl (nF (fun _ => 0)))), (h2, .inl (c2, 2, .inl (eF (fun _ => 1)))), (h3, .inl (c3, 20, .inl (nF (fun _ => 0)))), (h4, .inl (c4, 20, .inl (nF (fun _ => 0))))]) H := hP
  have hD : va_D A ([(h0, .inr (0, [.int (nI 0), .int (nI 500), .int (nI 0), .ref h1, .ref h2, .int (nI 0), .int (nI 0), .int (nI 0), .int (nI 0), .ref h3, .null, .null, .null, .int (nI 0), .null, .null, .null])), (h1, .inl (c1, 2, .inl (nF (fun _ => 0)))), (h2, .inl (c2, 2, .inl (eF (fun _ => 1)))), (h3, .inl (c3, 20, .inl (nF (fun _ => 0)))), (h4, .inl (c4, 20, .inl (nF (fun _ => 0))))]) := hD
  refine va_putF (D := D) (ci := 0) (v := .ref h4) (ty := (.array .int)) (C := RX0) (T := TX0) (N := 17) hx hb hts hin tyX0 tyX0_ok nmX0 hown hK hP hD hS 0 rfl rfl 10 (by decide) (hts (.fieldLink RX0 23 "EquityRelease" "drawnDays" "[I") (by decide +kernel)) (fun _ h9 => h9) rfl hnm rfl (by decide +kernel) rfl rfl (Nat.le_of_ble_eq_true rfl) dX0_init_38 (fun H locs hP hD hS => ?_)
  have hP : va_P D vwCl ([(h0, .inr (0, [.int (nI 0), .int (nI 500), .int (nI 0), .ref h1, .ref h2, .int (nI 0), .int (nI 0), .int (nI 0), .int (nI 0), .ref h3, .ref h4, .null, .null, .int (nI 0), .null, .null, .null])), (h1, .inl (c1, 2, .inl (nF (fun _ => 0)))), (h2, .inl (c2, 2, .inl (eF (fun _ => 1)))), (h3, .inl (c3, 20, .inl (nF (fun _ => 0)))), (h4, .inl (c4, 20, .inl (nF (fun _ => 0))))]) H := hP
  have hD : va_D A ([(h0, .inr (0, [.int (nI 0), .int (nI 500), .int (nI 0), .ref h1, .ref h2, .int (nI 0), .int (nI 0), .int (nI 0), .int (nI 0), .ref h3, .ref h4, .null, .null, .int (nI 0), .null, .null, .null])), (h1, .inl (c1, 2, .inl (nF (fun _ => 0)))), (h2, .inl (c2, 2, .inl (eF (fun _ => 1)))), (h3, .inl (c3, 20, .inl (nF (fun _ => 0)))), (h4, .inl (c4, 20, .inl (nF (fun _ => 0))))]) := hD
  refine lv_aload_n hx hb dX0_init_41 rfl (lv_at hl 0 rfl) ?_
  refine lv_bipush (v := nI 20) hx hb dX0_init_42 (by decide +kernel) ?_
  refine va_newa (atype := .int) (a0 := (20, .inl (nF (fun _ => 0)))) hx hb (hts (.arrayClass .int) (by decide +kernel)) rfl hK hP hD hS hA (fun cA => rfl) (by decide) (by decide +kernel) (Nat.le_of_ble_eq_true rfl) (Nat.le_of_ble_eq_true rfl) (Nat.le_of_ble_eq_true rfl) dX0_init_44 (fun h5 c5 H hK hP hD hS => ?_)
  refine W.widen (k := 5) (n := 64) (Nat.le_refl _) (Nat.le_refl _) ?_
  have hK : va_K D vwCl [(c1, .int), (c2, .int), (c3, .int), (c4, .int), (c5, .int)] s := hK
  have hP : va_P D vwCl ([(h0, .inr (0, [.int (nI 0), .int (nI 500), .int (nI 0), .ref h1, .ref h2, .int (nI 0), .int (nI 0), .int (nI 0), .int (nI 0), .ref h3, .ref h4, .null, .null, .int (nI 0), .null, .null, .null])), (h1, .inl (c1, 2, .inl (nF (fun _ => 0)))), (h2, .inl (c2, 2, .inl (eF (fun _ => 1)))), (h3, .inl (c3, 20, .inl (nF (fun _ => 0)))), (h4, .inl (c4, 20, .inl (nF (fun _ => 0)))), (h5, .inl (c5, 20, .inl (nF (fun _ => 0))))]) H := hP
  have hD : va_D A ([(h0, .inr (0, [.int (nI 0), .int (nI 500), .int (nI 0), .ref h1, .ref h2, .int (nI 0), .int (nI 0), .int (nI 0), .int (nI 0), .ref h3, .ref h4, .null, .null, .int (nI 0), .null, .null, .null])), (h1, .inl (c1, 2, .inl (nF (fun _ => 0)))), (h2, .inl (c2, 2, .inl (eF (fun _ => 1)))), (h3, .inl (c3, 20, .inl (nF (fun _ => 0)))), (h4, .inl (c4, 20, .inl (nF (fun _ => 0)))), (h5, .inl (c5, 20, .inl (nF (fun _ => 0))))]) := hD
  refine va_putF (D := D) (ci := 0) (v := .ref h5) (ty := (.array .int)) (C := RX0) (T := TX0) (N := 17) hx hb hts hin tyX0 tyX0_ok nmX0 hown hK hP hD hS 0 rfl rfl 11 (by decide) (hts (.fieldLink RX0 26 "EquityRelease" "drawnRates" "[I") (by decide +kernel)) (fun _ h9 => h9) rfl hnm rfl (by decide +kernel) rfl rfl (Nat.le_of_ble_eq_true rfl) dX0_init_46 (fun H locs hP hD hS => ?_)
  have hP : va_P D vwCl ([(h0, .inr (0, [.int (nI 0), .int (nI 500), .int (nI 0), .ref h1, .ref h2, .int (nI 0), .int (nI 0), .int (nI 0), .int (nI 0), .ref h3, .ref h4, .ref h5, .null, .int (nI 0), .null, .null, .null])), (h1, .inl (c1, 2, .inl (nF (fun _ => 0)))), (h2, .inl (c2, 2, .inl (eF (fun _ => 1)))), (h3, .inl (c3, 20, .inl (nF (fun _ => 0)))), (h4, .inl (c4, 20, .inl (nF (fun _ => 0)))), (h5, .inl (c5, 20, .inl (nF (fun _ => 0))))]) H := hP
  have hD : va_D A ([(h0, .inr (0, [.int (nI 0), .int (nI 500), .int (nI 0), .ref h1, .ref h2, .int (nI 0), .int (nI 0), .int (nI 0), .int (nI 0), .ref h3, .ref h4, .ref h5, .null, .int (nI 0), .null, .null, .null])), (h1, .inl (c1, 2, .inl (nF (fun _ => 0)))), (h2, .inl (c2, 2, .inl (eF (fun _ => 1)))), (h3, .inl (c3, 20, .inl (nF (fun _ => 0)))), (h4, .inl (c4, 20, .inl (nF (fun _ => 0)))), (h5, .inl (c5, 20, .inl (nF (fun _ => 0))))]) := hD
  refine lv_aload_n hx hb dX0_init_49 rfl (lv_at hl 0 rfl) ?_
  refine lv_bipush (v := nI 20) hx hb dX0_init_50 (by decide +kernel) ?_
  refine va_newa (atype := .long) (a0 := (20, .inr (.inl (lF (fun _ => 0))))) hx hb (hts (.arrayClass .long) (by decide +kernel)) rfl hK hP hD hS hA (fun cA => rfl) (by decide) (by decide +kernel) (Nat.le_of_ble_eq_true rfl) (Nat.le_of_ble_eq_true rfl) (Nat.le_of_ble_eq_true rfl) dX0_init_52 (fun h6 c6 H hK hP hD hS => ?_)
  refine W.widen (k := 6) (n := 84) (Nat.le_refl _) (Nat.le_refl _) ?_
  have hK : va_K D vwCl [(c1, .int), (c2, .int), (c3, .int), (c4, .int), (c5, .int), (c6, .long)] s := hK
  have hP : va_P D vwCl ([(h0, .inr (0, [.int (nI 0), .int (nI 500), .int (nI 0), .ref h1, .ref h2, .int (nI 0), .int (nI 0), .int (nI 0), .int (nI 0), .ref h3, .ref h4, .ref h5, .null, .int (nI 0), .null, .null, .null])), (h1, .inl (c1, 2, .inl (nF (fun _ => 0)))), (h2, .inl (c2, 2, .inl (eF (fun _ => 1)))), (h3, .inl (c3, 20, .inl (nF (fun _ => 0)))), (h4, .inl (c4, 20, .inl (nF (fun _ => 0)))), (h5, .inl (c5, 20, .inl (nF (fun _ => 0)))), (h6, .inl (c6, 20, .inr (.inl (lF (fun _ => 0)))))]) H := hP
  have hD : va_D A ([(h0, .inr (0, [.int (nI 0), .int (nI 500), .int (nI 0), .ref h1, .ref h2, .int (nI 0), .int (nI 0), .int (nI 0), .int (nI 0), .ref h3, .ref h4, .ref h5, .null, .int (nI 0), .null, .null, .null])), (h1, .inl (c1, 2, .inl (nF (fun _ => 0)))), (h2, .inl (c2, 2, .inl (eF (fun _ => 1)))), (h3, .inl (c3, 20, .inl (nF (fun _ => 0)))), (h4, .inl (c4, 20, .inl (nF (fun _ => 0)))), (h5, .inl (c5, 20, .inl (nF (fun _ => 0)))), (h6, .inl (c6, 20, .inr (.inl (lF (fun _ => 0)))))]) := hD
  refine va_putF (D := D) (ci := 0) (v := .ref h6) (ty := (.array .long)) (C := RX0) (T := TX0) (N := 17) hx hb hts hin tyX0 tyX0_ok nmX0 hown hK hP hD hS 0 rfl rfl 12 (by decide) (hts (.fieldLink RX0 29 "EquityRelease" "balances" "[J") (by decide +kernel)) (fun _ h9 => h9) rfl hnm rfl (by decide +kernel) rfl rfl (Nat.le_of_ble_eq_true rfl) dX0_init_54 (fun H locs hP hD hS => ?_)
  have hP : va_P D vwCl ([(h0, .inr (0, [.int (nI 0), .int (nI 500), .int (nI 0), .ref h1, .ref h2, .int (nI 0), .int (nI 0), .int (nI 0), .int (nI 0), .ref h3, .ref h4, .ref h5, .ref h6, .int (nI 0), .null, .null, .null])), (h1, .inl (c1, 2, .inl (nF (fun _ => 0)))), (h2, .inl (c2, 2, .inl (eF (fun _ => 1)))), (h3, .inl (c3, 20, .inl (nF (fun _ => 0)))), (h4, .inl (c4, 20, .inl (nF (fun _ => 0)))), (h5, .inl (c5, 20, .inl (nF (fun _ => 0)))), (h6, .inl (c6, 20, .inr (.inl (lF (fun _ => 0)))))]) H := hP
  have hD : va_D A ([(h0, .inr (0, [.int (nI 0), .int (nI 500), .int (nI 0), .ref h1, .ref h2, .int (nI 0), .int (nI 0), .int (nI 0), .int (nI 0), .ref h3, .ref h4, .ref h5, .ref h6, .int (nI 0), .null, .null, .null])), (h1, .inl (c1, 2, .inl (nF (fun _ => 0)))), (h2, .inl (c2, 2, .inl (eF (fun _ => 1)))), (h3, .inl (c3, 20, .inl (nF (fun _ => 0)))), (h4, .inl (c4, 20, .inl (nF (fun _ => 0)))), (h5, .inl (c5, 20, .inl (nF (fun _ => 0)))), (h6, .inl (c6, 20, .inr (.inl (lF (fun _ => 0)))))]) := hD
  refine lv_aload_n hx hb dX0_init_57 rfl (lv_at hl 0 rfl) ?_
  refine lv_bipush (v := nI 40) hx hb dX0_init_58 (by decide +kernel) ?_
  refine va_newa (atype := .int) (a0 := (40, .inl (nF (fun _ => 0)))) hx hb (hts (.arrayClass .int) (by decide +kernel)) rfl hK hP hD hS hA (fun cA => rfl) (by decide) (by decide +kernel) (Nat.le_of_ble_eq_true rfl) (Nat.le_of_ble_eq_true rfl) (Nat.le_of_ble_eq_true rfl) dX0_init_60 (fun h7 c7 H hK hP hD hS => ?_)
  refine W.widen (k := 7) (n := 124) (Nat.le_refl _) (Nat.le_refl _) ?_
  have hK : va_K D vwCl [(c1, .int), (c2, .int), (c3, .int), (c4, .int), (c5, .int), (c6, .long), (c7, .int)] s := hK
  have hP : va_P D vwCl ([(h0, .inr (0, [.int (nI 0), .int (nI 500), .int (nI 0), .ref h1, .ref h2, .int (nI 0), .int (nI 0), .int (nI 0), .int (nI 0), .ref h3, .ref h4, .ref h5, .ref h6, .int (nI 0), .null, .null, .null])), (h1, .inl (c1, 2, .inl (nF (fun _ => 0)))), (h2, .inl (c2, 2, .inl (eF (fun _ => 1)))), (h3, .inl (c3, 20, .inl (nF (fun _ => 0)))), (h4, .inl (c4, 20, .inl (nF (fun _ => 0)))), (h5, .inl (c5, 20, .inl (nF (fun _ => 0)))), (h6, .inl (c6, 20, .inr (.inl (lF (fun _ => 0))))), (h7, .inl (c7, 40, .inl (nF (fun _ => 0))))]) H := hP
  have hD : va_D A ([(h0, .inr (0, [.int (nI 0), .int (nI 500), .int (nI 0), .ref h1, .ref h2, .int (nI 0), .int (nI 0), .int (nI 0), .int (nI 0), .ref h3, .ref h4, .ref h5, .ref h6, .int (nI 0), .null, .null, .null])), (h1, .inl (c1, 2, .inl (nF (fun _ => 0)))), (h2, .inl (c2, 2, .inl (eF (fun _ => 1)))), (h3, .inl (c3, 20, .inl (nF (fun _ => 0)))), (h4, .inl (c4, 20, .inl (nF (fun _ => 0)))), (h5, .inl (c5, 20, .inl (nF (fun _ => 0)))), (h6, .inl (c6, 20, .inr (.inl (lF (fun _ => 0))))), (h7, .inl (c7, 40, .inl (nF (fun _ => 0))))]) := hD
  refine va_putF (D := D) (ci := 0) (v := .ref h7) (ty := (.array .int)) (C := RX0) (T := TX0) (N := 17) hx hb hts hin tyX0 tyX0_ok nmX0 hown hK hP hD hS 0 rfl rfl 14 (by decide) (hts (.fieldLink RX0 33 "EquityRelease" "paidDays" "[I") (by decide +kernel)) (fun _ h9 => h9) rfl hnm rfl (by decide +kernel) rfl rfl (Nat.le_of_ble_eq_true rfl) dX0_init_62 (fun H locs hP hD hS => ?_)
  have hP : va_P D vwCl ([(h0, .inr (0, [.int (nI 0), .int (nI 500), .int (nI 0), .ref h1, .ref h2, .int (nI 0), .int (nI 0), .int (nI 0), .int (nI 0), .ref h3, .ref h4, .ref h5, .ref h6, .int (nI 0), .ref h7, .null, .null])), (h1, .inl (c1, 2, .inl (nF (fun _ => 0)))), (h2, .inl (c2, 2, .inl (eF (fun _ => 1)))), (h3, .inl (c3, 20, .inl (nF (fun _ => 0)))), (h4, .inl (c4, 20, .inl (nF (fun _ => 0)))), (h5, .inl (c5, 20, .inl (nF (fun _ => 0)))), (h6, .inl (c6, 20, .inr (.inl (lF (fun _ => 0))))), (h7, .inl (c7, 40, .inl (nF (fun _ => 0))))]) H := hP
  have hD : va_D A ([(h0, .inr (0, [.int (nI 0), .int (nI 500), .int (nI 0), .ref h1, .ref h2, .int (nI 0), .int (nI 0), .int (nI 0), .int (nI 0), .ref h3, .ref h4, .ref h5, .ref h6, .int (nI 0), .ref h7, .null, .null])), (h1, .inl (c1, 2, .inl (nF (fun _ => 0)))), (h2, .inl (c2, 2, .inl (eF (fun _ => 1)))), (h3, .inl (c3, 20, .inl (nF (fun _ => 0)))), (h4, .inl (c4, 20, .inl (nF (fun _ => 0)))), (h5, .inl (c5, 20, .inl (nF (fun _ => 0)))), (h6, .inl (c6, 20, .inr (.inl (lF (fun _ => 0))))), (h7, .inl (c7, 40, .inl (nF (fun _ => 0))))]) := hD
  refine lv_aload_n hx hb dX0_init_65 rfl (lv_at hl 0 rfl) ?_
  refine lv_bipush (v := nI 40) hx hb dX0_init_66 (by decide +kernel) ?_
  refine va_newa (atype := .int) (a0 := (40, .inl (nF (fun _ => 0)))) hx hb (hts (.arrayClass .int) (by decide +kernel)) rfl hK hP hD hS hA (fun cA => rfl) (by decide) (by decide +kernel) (Nat.le_of_ble_eq_true rfl) (Nat.le_of_ble_eq_true rfl) (Nat.le_of_ble_eq_true rfl) dX0_init_68 (fun h8 c8 H hK hP hD hS => ?_)
  refine W.widen (k := 8) (n := 164) (Nat.le_refl _) (Nat.le_refl _) ?_
  have hK : va_K D vwCl [(c1, .int), (c2, .int), (c3, .int), (c4, .int), (c5, .int), (c6, .long), (c7, .int), (c8, .int)] s := hK
  have hP : va_P D vwCl ([(h0, .inr (0, [.int (nI 0), .int (nI 500), .int (nI 0), .ref h1, .ref h2, .int (nI 0), .int (nI 0), .int (nI 0), .int (nI 0), .ref h3, .ref h4, .ref h5, .ref h6, .int (nI 0), .ref h7, .null, .null])), (h1, .inl (c1, 2, .inl (nF (fun _ => 0)))), (h2, .inl (c2, 2, .inl (eF (fun _ => 1)))), (h3, .inl (c3, 20, .inl (nF (fun _ => 0)))), (h4, .inl (c4, 20, .inl (nF (fun _ => 0)))), (h5, .inl (c5, 20, .inl (nF (fun _ => 0)))), (h6, .inl (c6, 20, .inr (.inl (lF (fun _ => 0))))), (h7, .inl (c7, 40, .inl (nF (fun _ => 0)))), (h8, .inl (c8, 40, .inl (nF (fun _ => 0))))]) H := hP
  have hD : va_D A ([(h0, .inr (0, [.int (nI 0), .int (nI 500), .int (nI 0), .ref h1, .ref h2, .int (nI 0), .int (nI 0), .int (nI 0), .int (nI 0), .ref h3, .ref h4, .ref h5, .ref h6, .int (nI 0), .ref h7, .null, .null])), (h1, .inl (c1, 2, .inl (nF (fun _ => 0)))), (h2, .inl (c2, 2, .inl (eF (fun _ => 1)))), (h3, .inl (c3, 20, .inl (nF (fun _ => 0)))), (h4, .inl (c4, 20, .inl (nF (fun _ => 0)))), (h5, .inl (c5, 20, .inl (nF (fun _ => 0)))), (h6, .inl (c6, 20, .inr (.inl (lF (fun _ => 0))))), (h7, .inl (c7, 40, .inl (nF (fun _ => 0)))), (h8, .inl (c8, 40, .inl (nF (fun _ => 0))))]) := hD
  refine va_putF (D := D) (ci := 0) (v := .ref h8) (ty := (.array .int)) (C := RX0) (T := TX0) (N := 17) hx hb hts hin tyX0 tyX0_ok nmX0 hown hK hP hD hS 0 rfl rfl 15 (by decide) (hts (.fieldLink RX0 36 "EquityRelease" "paidByTenth" "[I") (by decide +kernel)) (fun _ h9 => h9) rfl hnm rfl (by decide +kernel) rfl rfl (Nat.le_of_ble_eq_true rfl) dX0_init_70 (fun H locs hP hD hS => ?_)
  have hP : va_P D vwCl ([(h0, .inr (0, [.int (nI 0), .int (nI 500), .int (nI 0), .ref h1, .ref h2, .int (nI 0), .int (nI 0), .int (nI 0), .int (nI 0), .ref h3, .ref h4, .ref h5, .ref h6, .int (nI 0), .ref h7, .ref h8, .null])), (h1, .inl (c1, 2, .inl (nF (fun _ => 0)))), (h2, .inl (c2, 2, .inl (eF (fun _ => 1)))), (h3, .inl (c3, 20, .inl (nF (fun _ => 0)))), (h4, .inl (c4, 20, .inl (nF (fun _ => 0)))), (h5, .inl (c5, 20, .inl (nF (fun _ => 0)))), (h6, .inl (c6, 20, .inr (.inl (lF (fun _ => 0))))), (h7, .inl (c7, 40, .inl (nF (fun _ => 0)))), (h8, .inl (c8, 40, .inl (nF (fun _ => 0))))]) H := hP
  have hD : va_D A ([(h0, .inr (0, [.int (nI 0), .int (nI 500), .int (nI 0), .ref h1, .ref h2, .int (nI 0), .int (nI 0), .int (nI 0), .int (nI 0), .ref h3, .ref h4, .ref h5, .ref h6, .int (nI 0), .ref h7, .ref h8, .null])), (h1, .inl (c1, 2, .inl (nF (fun _ => 0)))), (h2, .inl (c2, 2, .inl (eF (fun _ => 1)))), (h3, .inl (c3, 20, .inl (nF (fun _ => 0)))), (h4, .inl (c4, 20, .inl (nF (fun _ => 0)))), (h5, .inl (c5, 20, .inl (nF (fun _ => 0)))), (h6, .inl (c6, 20, .inr (.inl (lF (fun _ => 0))))), (h7, .inl (c7, 40, .inl (nF (fun _ => 0)))), (h8, .inl (c8, 40, .inl (nF (fun _ => 0))))]) := hD
  refine lv_aload_n hx hb dX0_init_73 rfl (lv_at hl 0 rfl) ?_
  refine lv_sipush (v := nI 800) hx hb dX0_init_74 (by decide +kernel) ?_
  refine va_newa (atype := .long) (a0 := (800, .inr (.inl (lF (fun _ => 0))))) hx hb (hts (.arrayClass .long) (by decide +kernel)) rfl hK hP hD hS hA (fun cA => rfl) (by decide) (by decide +kernel) (Nat.le_of_ble_eq_true rfl) (Nat.le_of_ble_eq_true rfl) (Nat.le_of_ble_eq_true rfl) dX0_init_77 (fun h9 c9 H hK hP hD hS => ?_)
  refine W.widen (k := 9) (n := 964) (Nat.le_refl _) (Nat.le_refl _) ?_
  have hK : va_K D vwCl [(c1, .int), (c2, .int), (c3, .int), (c4, .int), (c5, .int), (c6, .long), (c7, .int), (c8, .int), (c9, .long)] s := hK
  have hP : va_P D vwCl ([(h0, .inr (0, [.int (nI 0), .int (nI 500), .int (nI 0), .ref h1, .ref h2, .int (nI 0), .int (nI 0), .int (nI 0), .int (nI 0), .ref h3, .ref h4, .ref h5, .ref h6, .int (nI 0), .ref h7, .ref h8, .null])), (h1, .inl (c1, 2, .inl (nF (fun _ => 0)))), (h2, .inl (c2, 2, .inl (eF (fun _ => 1)))), (h3, .inl (c3, 20, .inl (nF (fun _ => 0)))), (h4, .inl (c4, 20, .inl (nF (fun _ => 0)))), (h5, .inl (c5, 20, .inl (nF (fun _ => 0)))), (h6, .inl (c6, 20, .inr (.inl (lF (fun _ => 0))))), (h7, .inl (c7, 40, .inl (nF (fun _ => 0)))), (h8, .inl (c8, 40, .inl (nF (fun _ => 0)))), (h9, .inl (c9, 800, .inr (.inl (lF (fun _ => 0)))))]) H := hP
  have hD : va_D A ([(h0, .inr (0, [.int (nI 0), .int (nI 500), .int (nI 0), .ref h1, .ref h2, .int (nI 0), .int (nI 0), .int (nI 0), .int (nI 0), .ref h3, .ref h4, .ref h5, .ref h6, .int (nI 0), .ref h7, .ref h8, .null])), (h1, .inl (c1, 2, .inl (nF (fun _ => 0)))), (h2, .inl (c2, 2, .inl (eF (fun _ => 1)))), (h3, .inl (c3, 20, .inl (nF (fun _ => 0)))), (h4, .inl (c4, 20, .inl (nF (fun _ => 0)))), (h5, .inl (c5, 20, .inl (nF (fun _ => 0)))), (h6, .inl (c6, 20, .inr (.inl (lF (fun _ => 0))))), (h7, .inl (c7, 40, .inl (nF (fun _ => 0)))), (h8, .inl (c8, 40, .inl (nF (fun _ => 0)))), (h9, .inl (c9, 800, .inr (.inl (lF (fun _ => 0)))))]) := hD
  refine va_putF (D := D) (ci := 0) (v := .ref h9) (ty := (.array .long)) (C := RX0) (T := TX0) (N := 17) hx hb hts hin tyX0 tyX0_ok nmX0 hown hK hP hD hS 0 rfl rfl 16 (by decide) (hts (.fieldLink RX0 39 "EquityRelease" "takenParts" "[J") (by decide +kernel)) (fun _ h9 => h9) rfl hnm rfl (by decide +kernel) rfl rfl (Nat.le_of_ble_eq_true rfl) dX0_init_79 (fun H locs hP hD hS => ?_)
  have hP : va_P D vwCl ([(h0, .inr (0, [.int (nI 0), .int (nI 500), .int (nI 0), .ref h1, .ref h2, .int (nI 0), .int (nI 0), .int (nI 0), .int (nI 0), .ref h3, .ref h4, .ref h5, .ref h6, .int (nI 0), .ref h7, .ref h8, .ref h9])), (h1, .inl (c1, 2, .inl (nF (fun _ => 0)))), (h2, .inl (c2, 2, .inl (eF (fun _ => 1)))), (h3, .inl (c3, 20, .inl (nF (fun _ => 0)))), (h4, .inl (c4, 20, .inl (nF (fun _ => 0)))), (h5, .inl (c5, 20, .inl (nF (fun _ => 0)))), (h6, .inl (c6, 20, .inr (.inl (lF (fun _ => 0))))), (h7, .inl (c7, 40, .inl (nF (fun _ => 0)))), (h8, .inl (c8, 40, .inl (nF (fun _ => 0)))), (h9, .inl (c9, 800, .inr (.inl (lF (fun _ => 0)))))]) H := hP
  have hD : va_D A ([(h0, .inr (0, [.int (nI 0), .int (nI 500), .int (nI 0), .ref h1, .ref h2, .int (nI 0), .int (nI 0), .int (nI 0), .int (nI 0), .ref h3, .ref h4, .ref h5, .ref h6, .int (nI 0), .ref h7, .ref h8, .ref h9])), (h1, .inl (c1, 2, .inl (nF (fun _ => 0)))), (h2, .inl (c2, 2, .inl (eF (fun _ => 1)))), (h3, .inl (c3, 20, .inl (nF (fun _ => 0)))), (h4, .inl (c4, 20, .inl (nF (fun _ => 0)))), (h5, .inl (c5, 20, .inl (nF (fun _ => 0)))), (h6, .inl (c6, 20, .inr (.inl (lF (fun _ => 0))))), (h7, .inl (c7, 40, .inl (nF (fun _ => 0)))), (h8, .inl (c8, 40, .inl (nF (fun _ => 0)))), (h9, .inl (c9, 800, .inr (.inl (lF (fun _ => 0)))))]) := hD
  have e2 : c2 = c1 := Option.some.inj (Eq.trans (Eq.symm (show s.vm.findClass ("[" ++ FieldType.int.toString) = some c2 from (hK.2 1 _ rfl).2)) (show s.vm.findClass ("[" ++ FieldType.int.toString) = some c1 from (hK.2 0 _ rfl).2))
  have e3 : c3 = c1 := Option.some.inj (Eq.trans (Eq.symm (show s.vm.findClass ("[" ++ FieldType.int.toString) = some c3 from (hK.2 2 _ rfl).2)) (show s.vm.findClass ("[" ++ FieldType.int.toString) = some c1 from (hK.2 0 _ rfl).2))
  have e4 : c4 = c1 := Option.some.inj (Eq.trans (Eq.symm (show s.vm.findClass ("[" ++ FieldType.int.toString) = some c4 from (hK.2 3 _ rfl).2)) (show s.vm.findClass ("[" ++ FieldType.int.toString) = some c1 from (hK.2 0 _ rfl).2))
  have e5 : c5 = c1 := Option.some.inj (Eq.trans (Eq.symm (show s.vm.findClass ("[" ++ FieldType.int.toString) = some c5 from (hK.2 4 _ rfl).2)) (show s.vm.findClass ("[" ++ FieldType.int.toString) = some c1 from (hK.2 0 _ rfl).2))
  have e7 : c7 = c1 := Option.some.inj (Eq.trans (Eq.symm (show s.vm.findClass ("[" ++ FieldType.int.toString) = some c7 from (hK.2 6 _ rfl).2)) (show s.vm.findClass ("[" ++ FieldType.int.toString) = some c1 from (hK.2 0 _ rfl).2))
  have e8 : c8 = c1 := Option.some.inj (Eq.trans (Eq.symm (show s.vm.findClass ("[" ++ FieldType.int.toString) = some c8 from (hK.2 7 _ rfl).2)) (show s.vm.findClass ("[" ++ FieldType.int.toString) = some c1 from (hK.2 0 _ rfl).2))
  have e9 : c9 = c6 := Option.some.inj (Eq.trans (Eq.symm (show s.vm.findClass ("[" ++ FieldType.long.toString) = some c9 from (hK.2 8 _ rfl).2)) (show s.vm.findClass ("[" ++ FieldType.long.toString) = some c6 from (hK.2 5 _ rfl).2))
  subst e2
  subst e3
  subst e4
  subst e5
  subst e7
  subst e8
  subst e9
  have hK9 := hK.sub (tys' := tX _ _) [7, 8] rfl
  exact W.vret hx hb hr (fun t ht hW => ⟨⟨(), rfl, trivial, h1, h2, h3, h4, h5, h6, h7, h8, h9, _, _, by rw [ht]; exact hP, va_K.moved hW.alike hK9, hD⟩, hS.F ht⟩) hS.2.2 dX0_init_82
end
section
set_option maxHeartbeats 4000000 in
set_option maxRecDepth 100000 in
theorem c_L_begin (l : Launch) (hfl : l.stackTraces = false) (D : va_G) (h0 h1 h2 h3 h4 h5 h6 h7 h8 h9 : Nat) (cI cJ : ClassId) (d r lc bg w rm k pn : Nat) (fa e1 am dd rt b pd pt tp : Nat → Nat) (sz : Nat) (p1 p2 p3 p4 : Int32) (z1 z2 z3 z4 : Int) (a1 a2 a3 a4 : Nat) (hz1 : p1.toInt = z1) (hpa1 : 0 ≤ z1 → p1 = nI a1 ∧ a1 < 2147483648) (hz2 : p2.toInt = z2) (hpa2 : 0 ≤ z2 → p2 = nI a2 ∧ a2 < 2147483648) (hz3 : p3.toInt = z3) (hpa3 : 0 ≤ z3 → p3 = nI a3 ∧ a3 < 2147483648) (hz4 : p4.toInt = z4) (hpa4 : 0 ≤ z4 → p4 = nI a4 ∧ a4 < 2147483648) (hlc : lc ≤ 2) (hd : d ≤ 15000) (hk0 : lc = 0 → k = 0) (hrg : ((1000 ≤ z1 ∧ z1 ≤ 10000000) ∧ (55 ≤ z2 ∧ z2 ≤ 95) ∧ (z3 = 0 ∨ (55 ≤ z3 ∧ z3 ≤ 95)) ∧ (0 ≤ z4 ∧ z4 ≤ 10000000))) : Met l yL_begin wsL_begin { frames := 8, cells := 1, slots := 6, locals := 140 } (nk_Px D (wX h0 h1 h2 h3 h4 h5 h6 h7 h8 h9 cI cJ d r lc bg w rm k pn fa e1 am dd rt b pd pt tp) (tX cI cJ) sz [.ref h0, .int p1, .int p2, .int p3, .int p4]) (va_Qi (fun r9 w1 => ((fun r9 w1 => ((1000 ≤ z1 ∧ z1 ≤ 10000000) ∧ (55 ≤ z2 ∧ z2 ≤ 95) ∧ (z3 = 0 ∨ (55 ≤ z3 ∧ z3 ≤ 95)) ∧ (0 ≤ z4 ∧ z4 ≤ 10000000)) ∧ lc = 0 ∧ ((a3 = 0 ∧ a4 = 0 ∧ a4 ≤ gL a1 (a2 + d / 365) ∧ r9 = nI (gL a1 (a2 + d / 365)) ∧ w1 = wX h0 h1 h2 h3 h4 h5 h6 h7 h8 h9 cI cJ d r (lc + 1) d a1 (gL a1 (a2 + d / 365)) k pn (va_up fa lc a2) (va_up e1 lc 0) am dd rt b pd pt tp) ∨ (a3 = 0 ∧ 0 < a4 ∧ a4 ≤ gL a1 (a2 + d / 365) ∧ r9 = nI (gL a1 (a2 + d / 365) - a4) ∧ w1 = wX h0 h1 h2 h3 h4 h5 h6 h7 h8 h9 cI cJ d r (lc + 1) d a1 (gL a1 (a2 + d / 365) - a4) (k + 1) pn (va_up fa lc a2) (va_up e1 lc 0) (va_up am k a4) (va_up dd k d) (va_up rt k r) (va_up b k (a4 * 10000)) pd pt tp) ∨ (0 < a3 ∧ a4 = 0 ∧ a4 ≤ gL a1 (min a2 a3 + d / 365) ∧ r9 = nI (gL a1 (min a2 a3 + d / 365)) ∧ w1 = wX h0 h1 h2 h3 h4 h5 h6 h7 h8 h9 cI cJ d r (lc + 1 + 1) d a1 (gL a1 (min a2 a3 + d / 365)) k pn (va_up (va_up fa lc a2) (lc + 1) a3) (va_up (va_up e1 lc 0) (lc + 1) 0) am dd rt b pd pt tp) ∨ (0 < a3 ∧ 0 < a4 ∧ a4 ≤ gL a1 (min a2 a3 + d / 365) ∧ r9 = nI (gL a1 (min a2 a3 + d / 365) - a4) ∧ w1 = wX h0 h1 h2 h3 h4 h5 h6 h7 h8 h9 cI cJ d r (lc + 1 + 1) d a1 (gL a1 (min a2 a3 + d / 365) - a4) (k + 1) pn (va_up (va_up fa lc a2) (lc + 1) a3) (va_up (va_up e1 lc 0) (lc + 1) 0) (va_up am k a4) (va_up dd k d) (va_up rt k r) (va_up b k (a4 * 10000)) pd pt tp))) r9 w1) ∨ (r9 = -3 ∧ (((1000 ≤ z1 ∧ z1 ≤ 10000000) ∧ (55 ≤ z2 ∧ z2 ≤ 95) ∧ (z3 = 0 ∨ (55 ≤ z3 ∧ z3 ≤ 95)) ∧ (0 ≤ z4 ∧ z4 ≤ 10000000)) ∧ (0 < lc ∨ (a3 = 0 ∧ gL a1 (a2 + d / 365) < a4) ∨ (0 < a3 ∧ gL a1 (min a2 a3 + d / 365) < a4))) ∧ w1 = wX h0 h1 h2 h3 h4 h5 h6 h7 h8 h9 cI cJ d r lc bg w rm k pn fa e1 am dd rt b pd pt tp)) (fun w1 t => nk_At D (tX cI cJ) (va_A (wX h0 h1 h2 h3 h4 h5 h6 h7 h8 h9 cI cJ d r lc bg w rm k pn fa e1 am dd rt b pd pt tp) sz) w1 t) (va_A (wX h0 h1 h2 h3 h4 h5 h6 h7 h8 h9 cI cJ d r lc bg w rm k pn fa e1 am dd rt b pd pt tp) sz)) 1 6 (va_A (wX h0 h1 h2 h3 h4 h5 h6 h7 h8 h9 cI cJ d r lc bg w rm k pn fa e1 am dd rt b pd pt tp) sz) := by
  refine va_MetW (cc := cL_begin) (maxL := 6) (ret := (some .int)) (hh := [(0, 9, 10, 15)]) (by decide) rfl ?_
  intro p e s m args below meth c s₁ B hml hv
  obtain ⟨hargs, hsz, hP, hK, hD0, hZ⟩ := hv
  have hx := B.exec
  have hb := B.bytes
  have hr := B.returns
  have hts := atoms_spec (ws := wsL_begin) B.pre
  have hown : s.vm.findClass RL = some m.cls := findClass_of_methodNamed B.named
  have hlocks := B.notSynchronized
  have htb : c.exceptionTable.toList = tableOf [(0, 9, 10, 15)] := vx_table (x := yL_begin) B (hts (.codeWith yL_begin cL_begin 6 (some .int) [(0, 9, 10, 15)]) (by unfold wsL_begin; exact List.mem_cons_self))
  subst hsz
  have hD := hD0.self (sz := s.heap.size)
  have hZn : ∀ q, va_A (wX h0 h1 h2 h3 h4 h5 h6 h7 h8 h9 cI cJ d r lc bg w rm k pn fa e1 am dd rt b pd pt tp) s.heap.size q → va_A (wX h0 h1 h2 h3 h4 h5 h6 h7 h8 h9 cI cJ d r lc bg w rm k pn fa e1 am dd rt b pd pt tp) s.heap.size q := fun q h => h
  generalize hAe : va_A (wX h0 h1 h2 h3 h4 h5 h6 h7 h8 h9 cI cJ d r lc bg w rm k pn fa e1 am dd rt b pd pt tp) s.heap.size = A at hD ⊢
  have hA : ∀ q : Nat, s.heap.size ≤ q → A q := fun q h => by rw [← hAe]; exact Or.inr h
  have hS : va_S A s.heap s.heap [] := va_S.rf
  have hl := lv_entry ([.ref h0, .int p1, .int p2, .int p3, .int p4]) (n := 6) (Nat.le_of_ble_eq_true rfl)
  have hEe : entryFrame m args 6 = entryFrame m ([.ref h0, .int p1, .int p2, .int p3, .int p4] : List Value).toArray 6 := by rw [hargs]
  rw [hEe, lg_entry_eq]
  generalize (lg_sl ([.ref h0, .int p1, .int p2, .int p3, .int p4]) ++ List.replicate (6 - (lg_sl ([.ref h0, .int p1, .int p2, .int p3, .int p4])).length) Slot.unset).toArray = ls at hl ⊢
  have hl : lv_has ls 6 [(0, .ref h0), (1, .int p1), (2, .int p2), (3, .int p3), (4, .int p4)] := hl
  refine lv_aload_n hx hb dL_begin_0 rfl (lv_at hl 0 rfl) ?_
  refine lv_iload_n hx hb dL_begin_1 rfl (lv_at hl 1 rfl) ?_
  refine lv_iload_n hx hb dL_begin_2 rfl (lv_at hl 2 rfl) ?_
  refine lv_iload_n hx hb dL_begin_3 rfl (lv_at hl 3 rfl) ?_
  refine lv_iload hx hb dL_begin_4 (lv_at hl 4 rfl) ?_
  refine nk_icallx (wr := []) (vx_runV (As := [.int p1, .int p2, .int p3, .int p4]) (rest := []) ⟨hx, hb, hml, hown, hts⟩ (c_X0_begin l hfl D h0 h1 h2 h3 h4 h5 h6 h7 h8 h9 cI cJ d r lc bg w rm k pn fa e1 am dd rt b pd pt tp s.heap.size p1 p2 p3 p4 z1 z2 z3 z4 a1 a2 a3 a4 hz1 hpa1 hz2 hpa2 hz3 hpa3 hz4 hpa4 hlc hd hk0) (cwV 4 hts gL_begin_X0_begin rfl rfl rfl (by decide +kernel) ⟨Nat.le_of_ble_eq_true rfl, Nat.le_of_ble_eq_true rfl⟩) ⟨nk_Px.blind, va_recv hK hP (ci := 0) (q0 := 0) rfl rfl, fun U hU hW => ⟨rfl, by rw [hU], by rw [hU]; exact hP, va_K.moved hW.alike hK, hD.weaken (fun _ _ _ _ => trivial), by rw [hU]; exact nk_Z.go hZ hW hZn⟩⟩ rfl rfl hl.1 rfl (lv_room (Nat.le_of_ble_eq_true rfl)) dL_begin_6 ⟨Nat.le_of_ble_eq_true rfl, Nat.le_of_ble_eq_true rfl⟩) hP hD hS hA [0, 1, 2, 3, 4, 5, 6, 7, 8, 9] [] rfl rfl rfl (by decide) (fun E9 ce q9 H locs hE hz hk9 hP hS hce hcv hcl => ?_) (fun r8 w2 H locs hw hP hD hS hk9 => ?_)
  · rcases hE with ⟨rfl, hc⟩ | ⟨rfl, hc⟩
    · exact absurd hrg hc
    · refine vx_catch (own := RL) (name := RIS) hown [] ⟨0, 9, 10, 15⟩ [] (by rw [htb]; rfl) (fun z h => nomatch h) rfl (by decide) (hts (.classLink RL 15 RIS) (by decide +kernel)) (va_Nw.use (A := args) rfl hZ.2.1.2.1) hce hcv hcl ?_
      refine lv_astore (lv' := [(5, .ref q9), (0, .ref h0), (1, .int p1), (2, .int p2), (3, .int p3), (4, .int p4)]) hx hb dL_begin_10 hl (by decide) rfl (fun ls hl => ?_)
      refine lv_bipush (v := -3) hx hb dL_begin_12 (by decide +kernel) ?_
      exact W.iret (v := -3) hx hb hr (fun t ht hW => ⟨⟨-3, wX h0 h1 h2 h3 h4 h5 h6 h7 h8 h9 cI cJ d r lc bg w rm k pn fa e1 am dd rt b pd pt tp, rfl, Or.inr ⟨rfl, hc, rfl⟩, by rw [ht]; exact hP, va_K.moved hW.alike hK, hD⟩, hS.F ht⟩) hS.2.2 dL_begin_14
  · exact W.iret (v := r8) hx hb hr (fun t ht hW => ⟨⟨r8, w2, rfl, Or.inl hw, by rw [ht]; exact hP, va_K.moved hW.alike hK, hD⟩, hS.F ht⟩) hS.2.2 dL_begin_9
set_option maxHeartbeats 4000000 in
set_option maxRecDepth 100000 in
theorem c_L_draw (l : Launch) (hfl : l.stackTraces = false) (D : va_G) (h0 h1 h2 h3 h4 h5 h6 h7 h8 h9 : Nat) (cI cJ : ClassId) (d r lc bg w rm k pn : Nat) (fa e1 am dd rt b pd pt tp : Nat → Nat) (sz : Nat) (p0 : Int32) (z : Int) (a9 : Nat)  (hz : p0.toInt = z) (hpa : 0 ≤ z → p0 = nI a9 ∧ a9 < 2147483648) (hlc : lc ≤ 2) (he : ∀ j, j < lc → e1 j ≤ 15001) (hk : k ≤ 20) (hrm : rm ≤ 10000000) (hrg : (1 ≤ z ∧ z ≤ 10000000)) : Met l yL_draw wsL_draw { frames := 8, cells := 1, slots := 6, locals := 135 } (nk_Px D (wX h0 h1 h2 h3 h4 h5 h6 h7 h8 h9 cI cJ d r lc bg w rm k pn fa e1 am dd rt b pd pt tp) (tX cI cJ) sz [.ref h0, .int p0]) (va_Qi (fun r9 w1 => ((fun r9 w1 => (1 ≤ z ∧ z ≤ 10000000) ∧ (0 < lc ∧ 0 < alive e1 lc) ∧ (a9 ≤ rm ∧ k < 20) ∧ r9 = nI (rm - a9) ∧ w1 = wX h0 h1 h2 h3 h4 h5 h6 h7 h8 h9 cI cJ d r lc bg w (rm - a9) (k + 1) pn fa e1 (va_up am k a9) (va_up dd k d) (va_up rt k r) (va_up b k (a9 * 10000)) pd pt tp) r9 w1) ∨ (r9 = -3 ∧ ((1 ≤ z ∧ z ≤ 10000000) ∧ ¬ ((0 < lc ∧ 0 < alive e1 lc) ∧ (a9 ≤ rm ∧ k < 20))) ∧ w1 = wX h0 h1 h2 h3 h4 h5 h6 h7 h8 h9 cI cJ d r lc bg w rm k pn fa e1 am dd rt b pd pt tp)) (fun w1 t => nk_At D (tX cI cJ) (va_A (wX h0 h1 h2 h3 h4 h5 h6 h7 h8 h9 cI cJ d r lc bg w rm k pn fa e1 am dd rt b pd pt tp) sz) w1 t) (va_A (wX h0 h1 h2 h3 h4 h5 h6 h7 h8 h9 cI cJ d r lc bg w rm k pn fa e1 am dd rt b pd pt tp) sz)) 1 6 (va_A (wX h0 h1 h2 h3 h4 h5 h6 h7 h8 h9 cI cJ d r lc bg w rm k pn fa e1 am dd rt b pd pt tp) sz) := by
  refine va_MetW (cc := cL_draw) (maxL := 3) (ret := (some .int)) (hh := [(0, 5, 6, 15)]) (by decide) rfl ?_
  intro p e s m args below meth c s₁ B hml hv
  obtain ⟨hargs, hsz, hP, hK, hD0, hZ⟩ := hv
  have hx := B.exec
  have hb := B.bytes
  have hr := B.returns
  have hts := atoms_spec (ws := wsL_draw) B.pre
  have hown : s.vm.findClass RL = some m.cls := findClass_of_methodNamed B.named
  have hlocks := B.notSynchronized
  have htb : c.exceptionTable.toList = tableOf [(0, 5, 6, 15)] := vx_table (x := yL_draw) B (hts (.codeWith yL_draw cL_draw 3 (some .int) [(0, 5, 6, 15)]) (by unfold wsL_draw; exact List.mem_cons_self))
  subst hsz
  have hD := hD0.self (sz := s.heap.size)
  have hZn : ∀ q, va_A (wX h0 h1 h2 h3 h4 h5 h6 h7 h8 h9 cI cJ d r lc bg w rm k pn fa e1 am dd rt b pd pt tp) s.heap.size q → va_A (wX h0 h1 h2 h3 h4 h5 h6 h7 h8 h9 cI cJ d r lc bg w rm k pn fa e1 am dd rt b pd pt tp) s.heap.size q := fun q h => h
  generalize hAe : va_A (wX h0 h1 h2 h3 h4 h5 h6 h7 h8 h9 cI cJ d r lc bg w rm k pn fa e1 am dd rt b pd pt tp) s.heap.size = A at hD ⊢
  have hA : ∀ q : Nat, s.heap.size ≤ q → A q := fun q h => by rw [← hAe]; exact Or.inr h
  have hS : va_S A s.heap s.heap [] := va_S.rf
  have hl := lv_entry ([.ref h0, .int p0]) (n := 3) (Nat.le_of_ble_eq_true rfl)
  have hEe : entryFrame m args 3 = entryFrame m ([.ref h0, .int p0] : List Value).toArray 3 := by rw [hargs]
  rw [hEe, lg_entry_eq]
  generalize (lg_sl ([.ref h0, .int p0]) ++ List.replicate (3 - (lg_sl ([.ref h0, .int p0])).length) Slot.unset).toArray = ls at hl ⊢
  have hl : lv_has ls 3 [(0, .ref h0), (1, .int p0)] := hl
  refine lv_aload_n hx hb dL_draw_0 rfl (lv_at hl 0 rfl) ?_
  refine lv_iload_n hx hb dL_draw_1 rfl (lv_at hl 1 rfl) ?_
  refine nk_icallx (wr := []) (vx_runV (As := [.int p0]) (rest := []) ⟨hx, hb, hml, hown, hts⟩ (c_X0_draw l hfl D h0 h1 h2 h3 h4 h5 h6 h7 h8 h9 cI cJ d r lc bg w rm k pn fa e1 am dd rt b pd pt tp s.heap.size p0 z a9 hz hpa hlc he hk hrm) (cwV 1 hts gL_draw_X0_draw rfl rfl rfl (by decide +kernel) ⟨Nat.le_of_ble_eq_true rfl, Nat.le_of_ble_eq_true rfl⟩) ⟨nk_Px.blind, va_recv hK hP (ci := 0) (q0 := 0) rfl rfl, fun U hU hW => ⟨rfl, by rw [hU], by rw [hU]; exact hP, va_K.moved hW.alike hK, hD.weaken (fun _ _ _ _ => trivial), by rw [hU]; exact nk_Z.go hZ hW hZn⟩⟩ rfl rfl hl.1 rfl (lv_room (Nat.le_of_ble_eq_true rfl)) dL_draw_2 ⟨Nat.le_of_ble_eq_true rfl, Nat.le_of_ble_eq_true rfl⟩) hP hD hS hA [0, 1, 2, 3, 4, 5, 6, 7, 8, 9] [] rfl rfl rfl (by decide) (fun E9 ce q9 H locs hE hz hk9 hP hS hce hcv hcl => ?_) (fun r8 w2 H locs hw hP hD hS hk9 => ?_)
  · rcases hE with ⟨rfl, hc⟩ | ⟨rfl, hc⟩
    · exact absurd hrg hc
    · refine vx_catch (own := RL) (name := RIS) hown [] ⟨0, 5, 6, 15⟩ [] (by rw [htb]; rfl) (fun z h => nomatch h) rfl (by decide) (hts (.classLink RL 15 RIS) (by decide +kernel)) (va_Nw.use (A := args) rfl hZ.2.1.2.1) hce hcv hcl ?_
      refine lv_astore_n (lv' := [(2, .ref q9), (0, .ref h0), (1, .int p0)]) hx hb dL_draw_6 rfl hl (by decide) rfl (fun ls hl => ?_)
      refine lv_bipush (v := -3) hx hb dL_draw_7 (by decide +kernel) ?_
      exact W.iret (v := -3) hx hb hr (fun t ht hW => ⟨⟨-3, wX h0 h1 h2 h3 h4 h5 h6 h7 h8 h9 cI cJ d r lc bg w rm k pn fa e1 am dd rt b pd pt tp, rfl, Or.inr ⟨rfl, hc, rfl⟩, by rw [ht]; exact hP, va_K.moved hW.alike hK, hD⟩, hS.F ht⟩) hS.2.2 dL_draw_9
  · exact W.iret (v := r8) hx hb hr (fun t ht hW => ⟨⟨r8, w2, rfl, Or.inl hw, by rw [ht]; exact hP, va_K.moved hW.alike hK, hD⟩, hS.F ht⟩) hS.2.2 dL_draw_5
set_option maxHeartbeats 4000000 in
set_option maxRecDepth 100000 in
theorem c_L_pay (l : Launch) (hfl : l.stackTraces = false) (D : va_G) (h0 h1 h2 h3 h4 h5 h6 h7 h8 h9 : Nat) (cI cJ : ClassId) (d r lc bg w rm k pn : Nat) (fa e1 am dd rt b pd pt tp : Nat → Nat) (sz : Nat) (p0 : Int32) (z : Int) (a9 : Nat)  (hz : p0.toInt = z) (hpa : 0 ≤ z → p0 = nI a9 ∧ a9 < 2147483648) (hlc : lc ≤ 2) (he : ∀ j, j < lc → e1 j ≤ 15001) (hed : ∀ j, j < lc → e1 j ≤ d + 1) (hk : k ≤ 20) (ham : ∀ j, j < k → am j ≤ 10000000) (hpn : pn ≤ 40) (hbg : bg ≤ d) (hd : d ≤ 15000) (hpd : ∀ j, j < pn → bg ≤ pd j ∧ pd j ≤ 15000) (hpt : ∀ j, j < pn → pt j ≤ 10000000) (hbs : sm b k < 4611686018427387904) (hb9 : ∀ j, j < k → b j < 4611686018427387904) (hrg : (1 ≤ z ∧ z ≤ 10000000)) : Met l yL_pay wsL_pay { frames := 8, cells := 1, slots := 6, locals := 136 } (nk_Px D (wX h0 h1 h2 h3 h4 h5 h6 h7 h8 h9 cI cJ d r lc bg w rm k pn fa e1 am dd rt b pd pt tp) (tX cI cJ) sz [.ref h0, .int p0]) (va_Qi (fun r9 w1 => ((fun r9 w1 => (1 ≤ z ∧ z ≤ 10000000) ∧ (0 < lc ∧ 0 < alive e1 lc) ∧ (a9 ≤ ceilA (sm b k) ∧ pn < 40) ∧ r9 = nI (chg (mxE e1 lc) d ((d - bg) / 365) (sm am k) (pY bg pd pt ((d - bg) / 365) pn) a9) ∧ w1 = wX h0 h1 h2 h3 h4 h5 h6 h7 h8 h9 cI cJ d r lc bg w rm k (pn + 1) fa e1 am dd rt (tkB b (a9 * 10000) k) (va_up pd pn d) (va_up pt pn a9) (tkT tp b (a9 * 10000) pn k)) r9 w1) ∨ (r9 = -3 ∧ ((1 ≤ z ∧ z ≤ 10000000) ∧ ¬ ((0 < lc ∧ 0 < alive e1 lc) ∧ (a9 ≤ ceilA (sm b k) ∧ pn < 40))) ∧ w1 = wX h0 h1 h2 h3 h4 h5 h6 h7 h8 h9 cI cJ d r lc bg w rm k pn fa e1 am dd rt b pd pt tp)) (fun w1 t => nk_At D (tX cI cJ) (va_A (wX h0 h1 h2 h3 h4 h5 h6 h7 h8 h9 cI cJ d r lc bg w rm k pn fa e1 am dd rt b pd pt tp) sz) w1 t) (va_A (wX h0 h1 h2 h3 h4 h5 h6 h7 h8 h9 cI cJ d r lc bg w rm k pn fa e1 am dd rt b pd pt tp) sz)) 1 6 (va_A (wX h0 h1 h2 h3 h4 h5 h6 h7 h8 h9 cI cJ d r lc bg w rm k pn fa e1 am dd rt b pd pt tp) sz) := by
  refine va_MetW (cc := cL_pay) (maxL := 3) (ret := (some .int)) (hh := [(0, 5, 6, 15)]) (by decide) rfl ?_
  intro p e s m args below meth c s₁ B hml hv
  obtain ⟨hargs, hsz, hP, hK, hD0, hZ⟩ := hv
  have hx := B.exec
  have hb := B.bytes
  have hr := B.returns
  have hts := atoms_spec (ws := wsL_pay) B.pre
  have hown : s.vm.findClass RL = some m.cls := findClass_of_methodNamed B.named
  have hlocks := B.notSynchronized
  have htb : c.exceptionTable.toList = tableOf [(0, 5, 6, 15)] := vx_table (x := yL_pay) B (hts (.codeWith yL_pay cL_pay 3 (some .int) [(0, 5, 6, 15)]) (by unfold wsL_pay; exact List.mem_cons_self))
  subst hsz
  have hD := hD0.self (sz := s.heap.size)
  have hZn : ∀ q, va_A (wX h0 h1 h2 h3 h4 h5 h6 h7 h8 h9 cI cJ d r lc bg w rm k pn fa e1 am dd rt b pd pt tp) s.heap.size q → va_A (wX h0 h1 h2 h3 h4 h5 h6 h7 h8 h9 cI cJ d r lc bg w rm k pn fa e1 am dd rt b pd pt tp) s.heap.size q := fun q h => h
  generalize hAe : va_A (wX h0 h1 h2 h3 h4 h5 h6 h7 h8 h9 cI cJ d r lc bg w rm k pn fa e1 am dd rt b pd pt tp) s.heap.size = A at hD ⊢
  have hA : ∀ q : Nat, s.heap.size ≤ q → A q := fun q h => by rw [← hAe]; exact Or.inr h
  have hS : va_S A s.heap s.heap [] := va_S.rf
  have hl := lv_entry ([.ref h0, .int p0]) (n := 3) (Nat.le_of_ble_eq_true rfl)
  have hEe : entryFrame m args 3 = entryFrame m ([.ref h0, .int p0] : List Value).toArray 3 := by rw [hargs]
  rw [hEe, lg_entry_eq]
  generalize (lg_sl ([.ref h0, .int p0]) ++ List.replicate (3 - (lg_sl ([.ref h0, .int p0])).length) Slot.unset).toArray = ls at hl ⊢
  have hl : lv_has ls 3 [(0, .ref h0), (1, .int p0)] := hl
  refine lv_aload_n hx hb dL_pay_0 rfl (lv_at hl 0 rfl) ?_
  refine lv_iload_n hx hb dL_pay_1 rfl (lv_at hl 1 rfl) ?_
  refine nk_icallx (wr := []) (vx_runV (As := [.int p0]) (rest := []) ⟨hx, hb, hml, hown, hts⟩ (c_X0_pay l hfl D h0 h1 h2 h3 h4 h5 h6 h7 h8 h9 cI cJ d r lc bg w rm k pn fa e1 am dd rt b pd pt tp s.heap.size p0 z a9 hz hpa hlc he hed hk ham hpn hbg hd hpd hpt hbs hb9) (cwV 1 hts gL_pay_X0_pay rfl rfl rfl (by decide +kernel) ⟨Nat.le_of_ble_eq_true rfl, Nat.le_of_ble_eq_true rfl⟩) ⟨nk_Px.blind, va_recv hK hP (ci := 0) (q0 := 0) rfl rfl, fun U hU hW => ⟨rfl, by rw [hU], by rw [hU]; exact hP, va_K.moved hW.alike hK, hD.weaken (fun _ _ _ _ => trivial), by rw [hU]; exact nk_Z.go hZ hW hZn⟩⟩ rfl rfl hl.1 rfl (lv_room (Nat.le_of_ble_eq_true rfl)) dL_pay_2 ⟨Nat.le_of_ble_eq_true rfl, Nat.le_of_ble_eq_true rfl⟩) hP hD hS hA [0, 1, 2, 3, 4, 5, 6, 7, 8, 9] [] rfl rfl rfl (by decide) (fun E9 ce q9 H locs hE hz hk9 hP hS hce hcv hcl => ?_) (fun r8 w2 H locs hw hP hD hS hk9 => ?_)
  · rcases hE with ⟨rfl, hc⟩ | ⟨rfl, hc⟩
    · exact absurd hrg hc
    · refine vx_catch (own := RL) (name := RIS) hown [] ⟨0, 5, 6, 15⟩ [] (by rw [htb]; rfl) (fun z h => nomatch h) rfl (by decide) (hts (.classLink RL 15 RIS) (by decide +kernel)) (va_Nw.use (A := args) rfl hZ.2.1.2.1) hce hcv hcl ?_
      refine lv_astore_n (lv' := [(2, .ref q9), (0, .ref h0), (1, .int p0)]) hx hb dL_pay_6 rfl hl (by decide) rfl (fun ls hl => ?_)
      refine lv_bipush (v := -3) hx hb dL_pay_7 (by decide +kernel) ?_
      exact W.iret (v := -3) hx hb hr (fun t ht hW => ⟨⟨-3, wX h0 h1 h2 h3 h4 h5 h6 h7 h8 h9 cI cJ d r lc bg w rm k pn fa e1 am dd rt b pd pt tp, rfl, Or.inr ⟨rfl, hc, rfl⟩, by rw [ht]; exact hP, va_K.moved hW.alike hK, hD⟩, hS.F ht⟩) hS.2.2 dL_pay_9
  · exact W.iret (v := r8) hx hb hr (fun t ht hW => ⟨⟨r8, w2, rfl, Or.inl hw, by rw [ht]; exact hP, va_K.moved hW.alike hK, hD⟩, hS.F ht⟩) hS.2.2 dL_pay_5
set_option maxHeartbeats 4000000 in
set_option maxRecDepth 100000 in
theorem c_L_move (l : Launch) (hfl : l.stackTraces = false) (D : va_G) (h0 h1 h2 h3 h4 h5 h6 h7 h8 h9 : Nat) (cI cJ : ClassId) (d r lc bg w rm k pn : Nat) (fa e1 am dd rt b pd pt tp : Nat → Nat) (sz : Nat) (p0 : Int32) (z : Int) (a9 : Nat)  (hz : p0.toInt = z) (hpa : 0 ≤ z → p0 = nI a9 ∧ a9 < 2147483648) (hlc : lc ≤ 2) (he : ∀ j, j < lc → e1 j ≤ 15001) (hfa : ∀ j, j < lc → 55 ≤ fa j ∧ fa j ≤ 95) (hd : d ≤ 15000) (hk : k ≤ 20) (hpn : pn ≤ 40) (hbs : sm b k < 1000000000000000000) (hb9 : ∀ j, j < k → b j < 4611686018427387904) (hrg : (0 ≤ z ∧ z ≤ 10000000)) : Met l yL_move wsL_move { frames := 8, cells := 1, slots := 6, locals := 138 } (nk_Px D (wX h0 h1 h2 h3 h4 h5 h6 h7 h8 h9 cI cJ d r lc bg w rm k pn fa e1 am dd rt b pd pt tp) (tX cI cJ) sz [.ref h0, .int p0]) (va_Ql (fun r9 w1 => ((fun r9 w1 => (0 ≤ z ∧ z ≤ 10000000) ∧ (0 < lc ∧ 0 < alive e1 lc) ∧ pn < 40 ∧ r9 = lN (ceilA (sm b k) - gL a9 (lstA fa e1 lc - 1 + d / 365)) ∧ ((ceilA (sm b k) ≤ gL a9 (lstA fa e1 lc - 1 + d / 365) ∧ w1 = wX h0 h1 h2 h3 h4 h5 h6 h7 h8 h9 cI cJ d r lc bg a9 (gL a9 (lstA fa e1 lc - 1 + d / 365) - ceilA (sm b k)) k pn fa e1 am dd rt b pd pt tp) ∨ (gL a9 (lstA fa e1 lc - 1 + d / 365) < ceilA (sm b k) ∧ w1 = wX h0 h1 h2 h3 h4 h5 h6 h7 h8 h9 cI cJ d r lc bg a9 (gL a9 (lstA fa e1 lc - 1 + d / 365) - ceilA (sm (tkB b ((ceilA (sm b k) - gL a9 (lstA fa e1 lc - 1 + d / 365)) * 10000) k) k)) k (pn + 1) fa e1 am dd rt (tkB b ((ceilA (sm b k) - gL a9 (lstA fa e1 lc - 1 + d / 365)) * 10000) k) (va_up pd pn d) (va_up pt pn 0) (tkT tp b ((ceilA (sm b k) - gL a9 (lstA fa e1 lc - 1 + d / 365)) * 10000) pn k)))) r9 w1) ∨ (r9 = -3 ∧ ((0 ≤ z ∧ z ≤ 10000000) ∧ ¬ ((0 < lc ∧ 0 < alive e1 lc) ∧ pn < 40)) ∧ w1 = wX h0 h1 h2 h3 h4 h5 h6 h7 h8 h9 cI cJ d r lc bg w rm k pn fa e1 am dd rt b pd pt tp)) (fun w1 t => nk_At D (tX cI cJ) (va_A (wX h0 h1 h2 h3 h4 h5 h6 h7 h8 h9 cI cJ d r lc bg w rm k pn fa e1 am dd rt b pd pt tp) sz) w1 t) (va_A (wX h0 h1 h2 h3 h4 h5 h6 h7 h8 h9 cI cJ d r lc bg w rm k pn fa e1 am dd rt b pd pt tp) sz)) 1 6 (va_A (wX h0 h1 h2 h3 h4 h5 h6 h7 h8 h9 cI cJ d r lc bg w rm k pn fa e1 am dd rt b pd pt tp) sz) := by
  refine va_MetW (cc := cL_move) (maxL := 3) (ret := (some .long)) (hh := [(0, 5, 6, 15)]) (by decide) rfl ?_
  intro p e s m args below meth c s₁ B hml hv
  obtain ⟨hargs, hsz, hP, hK, hD0, hZ⟩ := hv
  have hx := B.exec
  have hb := B.bytes
  have hr := B.returns
  have hts := atoms_spec (ws := wsL_move) B.pre
  have hown : s.vm.findClass RL = some m.cls := findClass_of_methodNamed B.named
  have hlocks := B.notSynchronized
  have htb : c.exceptionTable.toList = tableOf [(0, 5, 6, 15)] := vx_table (x := yL_move) B (hts (.codeWith yL_move cL_move 3 (some .long) [(0, 5, 6, 15)]) (by unfold wsL_move; exact List.mem_cons_self))
  subst hsz
  have hD := hD0.self (sz := s.heap.size)
  have hZn : ∀ q, va_A (wX h0 h1 h2 h3 h4 h5 h6 h7 h8 h9 cI cJ d r lc bg w rm k pn fa e1 am dd rt b pd pt tp) s.heap.size q → va_A (wX h0 h1 h2 h3 h4 h5 h6 h7 h8 h9 cI cJ d r lc bg w rm k pn fa e1 am dd rt b pd pt tp) s.heap.size q := fun q h => h
  generalize hAe : va_A (wX h0 h1 h2 h3 h4 h5 h6 h7 h8 h9 cI cJ d r lc bg w rm k pn fa e1 am dd rt b pd pt tp) s.heap.size = A at hD ⊢
  have hA : ∀ q : Nat, s.heap.size ≤ q → A q := fun q h => by rw [← hAe]; exact Or.inr h
  have hS : va_S A s.heap s.heap [] := va_S.rf
  have hl := lv_entry ([.ref h0, .int p0]) (n := 3) (Nat.le_of_ble_eq_true rfl)
  have hEe : entryFrame m args 3 = entryFrame m ([.ref h0, .int p0] : List Value).toArray 3 := by rw [hargs]
  rw [hEe, lg_entry_eq]
  generalize (lg_sl ([.ref h0, .int p0]) ++ List.replicate (3 - (lg_sl ([.ref h0, .int p0])).length) Slot.unset).toArray = ls at hl ⊢
  have hl : lv_has ls 3 [(0, .ref h0), (1, .int p0)] := hl
  refine lv_aload_n hx hb dL_move_0 rfl (lv_at hl 0 rfl) ?_
  refine lv_iload_n hx hb dL_move_1 rfl (lv_at hl 1 rfl) ?_
  refine nk_lcallx (wr := []) (vx_runV (As := [.int p0]) (rest := []) ⟨hx, hb, hml, hown, hts⟩ (c_X0_move l hfl D h0 h1 h2 h3 h4 h5 h6 h7 h8 h9 cI cJ d r lc bg w rm k pn fa e1 am dd rt b pd pt tp s.heap.size p0 z a9 hz hpa hlc he hfa hd hk hpn hbs hb9) (cwV 1 hts gL_move_X0_move rfl rfl rfl (by decide +kernel) ⟨Nat.le_of_ble_eq_true rfl, Nat.le_of_ble_eq_true rfl⟩) ⟨nk_Px.blind, va_recv hK hP (ci := 0) (q0 := 0) rfl rfl, fun U hU hW => ⟨rfl, by rw [hU], by rw [hU]; exact hP, va_K.moved hW.alike hK, hD.weaken (fun _ _ _ _ => trivial), by rw [hU]; exact nk_Z.go hZ hW hZn⟩⟩ rfl rfl hl.1 rfl (lv_room (Nat.le_of_ble_eq_true rfl)) dL_move_2 ⟨Nat.le_of_ble_eq_true rfl, Nat.le_of_ble_eq_true rfl⟩) hP hD hS hA [0, 1, 2, 3, 4, 5, 6, 7, 8, 9] [] rfl rfl rfl (by decide) (fun E9 ce q9 H locs hE hz hk9 hP hS hce hcv hcl => ?_) (fun r8 w2 H locs hw hP hD hS hk9 => ?_)
  · rcases hE with ⟨rfl, hc⟩ | ⟨rfl, hc⟩
    · exact absurd hrg hc
    · refine vx_catch (own := RL) (name := RIS) hown [] ⟨0, 5, 6, 15⟩ [] (by rw [htb]; rfl) (fun z h => nomatch h) rfl (by decide) (hts (.classLink RL 15 RIS) (by decide +kernel)) (va_Nw.use (A := args) rfl hZ.2.1.2.1) hce hcv hcl ?_
      refine lv_astore_n (lv' := [(2, .ref q9), (0, .ref h0), (1, .int p0)]) hx hb dL_move_6 rfl hl (by decide) rfl (fun ls hl => ?_)
      refine lv_ldc2 (v := -3) hx hb hown (hts (.constantLong RL 28 (-3)) (by decide +kernel)) dL_move_7 ?_
      exact W.lret (v := -3) hx hb hr (fun t ht hW => ⟨⟨-3, wX h0 h1 h2 h3 h4 h5 h6 h7 h8 h9 cI cJ d r lc bg w rm k pn fa e1 am dd rt b pd pt tp, rfl, Or.inr ⟨rfl, hc, rfl⟩, by rw [ht]; exact hP, va_K.moved hW.alike hK, hD⟩, hS.F ht⟩) hS.2.2 dL_move_10
  · exact W.lret (v := r8) hx hb hr (fun t ht hW => ⟨⟨r8, w2, rfl, Or.inl hw, by rw [ht]; exact hP, va_K.moved hW.alike hK, hD⟩, hS.F ht⟩) hS.2.2 dL_move_5
set_option maxHeartbeats 4000000 in
set_option maxRecDepth 100000 in
theorem c_L_pass (l : Launch) (hfl : l.stackTraces = false) (D : va_G) (h0 h1 h2 h3 h4 h5 h6 h7 h8 h9 : Nat) (cI cJ : ClassId) (d r lc bg w rm k pn : Nat) (fa e1 am dd rt b pd pt tp : Nat → Nat) (sz : Nat) (p0 : Int32) (z : Int) (a9 : Nat)  (hz : p0.toInt = z) (hpa : 0 ≤ z → p0 = nI a9 ∧ a9 < 2147483648) (hlc : lc ≤ 2) (he : ∀ j, j < lc → e1 j ≤ 15001) (hk : k ≤ 20) (hd : d ≤ 15000) (hroll : ∀ q, q < k → ∀ j, d + j ≤ 15000 → roll (rt q) (b q) j * rt q < 9223372036854775808) (hrt : ∀ q, q < k → rt q ≤ 2000)  (hrg : (1 ≤ z ∧ z ≤ 3650)) : Met l yL_pass wsL_pass { frames := 8, cells := 1, slots := 6, locals := 136 } (nk_Px D (wX h0 h1 h2 h3 h4 h5 h6 h7 h8 h9 cI cJ d r lc bg w rm k pn fa e1 am dd rt b pd pt tp) (tX cI cJ) sz [.ref h0, .int p0]) (va_Qi (fun r9 w1 => ((fun r9 w1 => (1 ≤ z ∧ z ≤ 3650) ∧ d + a9 ≤ 15000 ∧ r9 = nI (d + a9) ∧ (((0 < lc ∧ alive e1 lc = 0) ∧ w1 = wX h0 h1 h2 h3 h4 h5 h6 h7 h8 h9 cI cJ (d + a9) r lc bg w rm k pn fa e1 am dd rt b pd pt tp) ∨ (¬ (0 < lc ∧ alive e1 lc = 0) ∧ w1 = wX h0 h1 h2 h3 h4 h5 h6 h7 h8 h9 cI cJ (d + a9) r lc bg w rm k pn fa e1 am dd rt (rlB rt b a9 k) pd pt tp))) r9 w1) ∨ (r9 = -3 ∧ ((1 ≤ z ∧ z ≤ 3650) ∧ ¬ (d + a9 ≤ 15000)) ∧ w1 = wX h0 h1 h2 h3 h4 h5 h6 h7 h8 h9 cI cJ d r lc bg w rm k pn fa e1 am dd rt b pd pt tp)) (fun w1 t => nk_At D (tX cI cJ) (va_A (wX h0 h1 h2 h3 h4 h5 h6 h7 h8 h9 cI cJ d r lc bg w rm k pn fa e1 am dd rt b pd pt tp) sz) w1 t) (va_A (wX h0 h1 h2 h3 h4 h5 h6 h7 h8 h9 cI cJ d r lc bg w rm k pn fa e1 am dd rt b pd pt tp) sz)) 1 6 (va_A (wX h0 h1 h2 h3 h4 h5 h6 h7 h8 h9 cI cJ d r lc bg w rm k pn fa e1 am dd rt b pd pt tp) sz) := by
  refine va_MetW (cc := cL_pass) (maxL := 3) (ret := (some .int)) (hh := [(0, 5, 6, 15)]) (by decide) rfl ?_
  intro p e s m args below meth c s₁ B hml hv
  obtain ⟨hargs, hsz, hP, hK, hD0, hZ⟩ := hv
  have hx := B.exec
  have hb := B.bytes
  have hr := B.returns
  have hts := atoms_spec (ws := wsL_pass) B.pre
  have hown : s.vm.findClass RL = some m.cls := findClass_of_methodNamed B.named
  have hlocks := B.notSynchronized
  have htb : c.exceptionTable.toList = tableOf [(0, 5, 6, 15)] := vx_table (x := yL_pass) B (hts (.codeWith yL_pass cL_pass 3 (some .int) [(0, 5, 6, 15)]) (by unfold wsL_pass; exact List.mem_cons_self))
  subst hsz
  have hD := hD0.self (sz := s.heap.size)
  have hZn : ∀ q, va_A (wX h0 h1 h2 h3 h4 h5 h6 h7 h8 h9 cI cJ d r lc bg w rm k pn fa e1 am dd rt b pd pt tp) s.heap.size q → va_A (wX h0 h1 h2 h3 h4 h5 h6 h7 h8 h9 cI cJ d r lc bg w rm k pn fa e1 am dd rt b pd pt tp) s.heap.size q := fun q h => h
  generalize hAe : va_A (wX h0 h1 h2 h3 h4 h5 h6 h7 h8 h9 cI cJ d r lc bg w rm k pn fa e1 am dd rt b pd pt tp) s.heap.size = A at hD ⊢
  have hA : ∀ q : Nat, s.heap.size ≤ q → A q := fun q h => by rw [← hAe]; exact Or.inr h
  have hS : va_S A s.heap s.heap [] := va_S.rf
  have hl := lv_entry ([.ref h0, .int p0]) (n := 3) (Nat.le_of_ble_eq_true rfl)
  have hEe : entryFrame m args 3 = entryFrame m ([.ref h0, .int p0] : List Value).toArray 3 := by rw [hargs]
  rw [hEe, lg_entry_eq]
  generalize (lg_sl ([.ref h0, .int p0]) ++ List.replicate (3 - (lg_sl ([.ref h0, .int p0])).length) Slot.unset).toArray = ls at hl ⊢
  have hl : lv_has ls 3 [(0, .ref h0), (1, .int p0)] := hl
  refine lv_aload_n hx hb dL_pass_0 rfl (lv_at hl 0 rfl) ?_
  refine lv_iload_n hx hb dL_pass_1 rfl (lv_at hl 1 rfl) ?_
  refine nk_icallx (wr := []) (vx_runV (As := [.int p0]) (rest := []) ⟨hx, hb, hml, hown, hts⟩ (c_X0_pass l hfl D h0 h1 h2 h3 h4 h5 h6 h7 h8 h9 cI cJ d r lc bg w rm k pn fa e1 am dd rt b pd pt tp s.heap.size p0 z a9 hz hpa hlc he hk hd hroll hrt) (cwV 1 hts gL_pass_X0_pass rfl rfl rfl (by decide +kernel) ⟨Nat.le_of_ble_eq_true rfl, Nat.le_of_ble_eq_true rfl⟩) ⟨nk_Px.blind, va_recv hK hP (ci := 0) (q0 := 0) rfl rfl, fun U hU hW => ⟨rfl, by rw [hU], by rw [hU]; exact hP, va_K.moved hW.alike hK, hD.weaken (fun _ _ _ _ => trivial), by rw [hU]; exact nk_Z.go hZ hW hZn⟩⟩ rfl rfl hl.1 rfl (lv_room (Nat.le_of_ble_eq_true rfl)) dL_pass_2 ⟨Nat.le_of_ble_eq_true rfl, Nat.le_of_ble_eq_true rfl⟩) hP hD hS hA [0, 1, 2, 3, 4, 5, 6, 7, 8, 9] [] rfl rfl rfl (by decide) (fun E9 ce q9 H locs hE hz hk9 hP hS hce hcv hcl => ?_) (fun r8 w2 H locs hw hP hD hS hk9 => ?_)
  · rcases hE with ⟨rfl, hc⟩ | ⟨rfl, hc⟩
    · exact absurd hrg hc
    · refine vx_catch (own := RL) (name := RIS) hown [] ⟨0, 5, 6, 15⟩ [] (by rw [htb]; rfl) (fun z h => nomatch h) rfl (by decide) (hts (.classLink RL 15 RIS) (by decide +kernel)) (va_Nw.use (A := args) rfl hZ.2.1.2.1) hce hcv hcl ?_
      refine lv_astore_n (lv' := [(2, .ref q9), (0, .ref h0), (1, .int p0)]) hx hb dL_pass_6 rfl hl (by decide) rfl (fun ls hl => ?_)
      refine lv_bipush (v := -3) hx hb dL_pass_7 (by decide +kernel) ?_
      exact W.iret (v := -3) hx hb hr (fun t ht hW => ⟨⟨-3, wX h0 h1 h2 h3 h4 h5 h6 h7 h8 h9 cI cJ d r lc bg w rm k pn fa e1 am dd rt b pd pt tp, rfl, Or.inr ⟨rfl, hc, rfl⟩, by rw [ht]; exact hP, va_K.moved hW.alike hK, hD⟩, hS.F ht⟩) hS.2.2 dL_pass_9
  · exact W.iret (v := r8) hx hb hr (fun t ht hW => ⟨⟨r8, w2, rfl, Or.inl hw, by rw [ht]; exact hP, va_K.moved hW.alike hK, hD⟩, hS.F ht⟩) hS.2.2 dL_pass_5
set_option maxHeartbeats 4000000 in
set_option maxRecDepth 100000 in
theorem c_L_charge (l : Launch) (hfl : l.stackTraces = false) (D : va_G) (h0 h1 h2 h3 h4 h5 h6 h7 h8 h9 : Nat) (cI cJ : ClassId) (d r lc bg w rm k pn : Nat) (fa e1 am dd rt b pd pt tp : Nat → Nat) (sz : Nat) (p0 : Int32) (z : Int) (a9 : Nat)  (hz : p0.toInt = z) (hpa : 0 ≤ z → p0 = nI a9 ∧ a9 < 2147483648) (hlc : lc ≤ 2) (he : ∀ j, j < lc → e1 j ≤ 15001) (hed : ∀ j, j < lc → e1 j ≤ d + 1) (hk : k ≤ 20) (ham : ∀ j, j < k → am j ≤ 10000000) (hpn : pn ≤ 40) (hbg : bg ≤ d) (hd : d ≤ 15000) (hpd : ∀ j, j < pn → bg ≤ pd j ∧ pd j ≤ 15000) (hpt : ∀ j, j < pn → pt j ≤ 10000000) (hrg : (1 ≤ z ∧ z ≤ 10000000)) : Met l yL_charge wsL_charge { frames := 8, cells := 1, slots := 6, locals := 135 } (nk_Px D (wX h0 h1 h2 h3 h4 h5 h6 h7 h8 h9 cI cJ d r lc bg w rm k pn fa e1 am dd rt b pd pt tp) (tX cI cJ) sz [.ref h0, .int p0]) (va_Qi (fun r9 w1 => (((1 ≤ z ∧ z ≤ 10000000) ∧ (0 < lc ∧ 0 < alive e1 lc)) ∧ r9 = (nI (chg (mxE e1 lc) d ((d - bg) / 365) (sm am k) (pY bg pd pt ((d - bg) / 365) pn) a9)) ∧ w1 = wX h0 h1 h2 h3 h4 h5 h6 h7 h8 h9 cI cJ d r lc bg w rm k pn fa e1 am dd rt b pd pt tp) ∨ (r9 = -3 ∧ ((1 ≤ z ∧ z ≤ 10000000) ∧ ¬ (0 < lc ∧ 0 < alive e1 lc)) ∧ w1 = wX h0 h1 h2 h3 h4 h5 h6 h7 h8 h9 cI cJ d r lc bg w rm k pn fa e1 am dd rt b pd pt tp)) (fun w1 t => nk_At D (tX cI cJ) (va_A (wX h0 h1 h2 h3 h4 h5 h6 h7 h8 h9 cI cJ d r lc bg w rm k pn fa e1 am dd rt b pd pt tp) sz) w1 t) (va_A (wX h0 h1 h2 h3 h4 h5 h6 h7 h8 h9 cI cJ d r lc bg w rm k pn fa e1 am dd rt b pd pt tp) sz)) 1 6 (va_A (wX h0 h1 h2 h3 h4 h5 h6 h7 h8 h9 cI cJ d r lc bg w rm k pn fa e1 am dd rt b pd pt tp) sz) := by
  refine va_MetW (cc := cL_charge) (maxL := 3) (ret := (some .int)) (hh := [(0, 5, 6, 15)]) (by decide) rfl ?_
  intro p e s m args below meth c s₁ B hml hv
  obtain ⟨hargs, hsz, hP, hK, hD0, hZ⟩ := hv
  have hx := B.exec
  have hb := B.bytes
  have hr := B.returns
  have hts := atoms_spec (ws := wsL_charge) B.pre
  have hown : s.vm.findClass RL = some m.cls := findClass_of_methodNamed B.named
  have hlocks := B.notSynchronized
  have htb : c.exceptionTable.toList = tableOf [(0, 5, 6, 15)] := vx_table (x := yL_charge) B (hts (.codeWith yL_charge cL_charge 3 (some .int) [(0, 5, 6, 15)]) (by unfold wsL_charge; exact List.mem_cons_self))
  subst hsz
  have hD := hD0.self (sz := s.heap.size)
  have hZn : ∀ q, va_A (wX h0 h1 h2 h3 h4 h5 h6 h7 h8 h9 cI cJ d r lc bg w rm k pn fa e1 am dd rt b pd pt tp) s.heap.size q → va_A (wX h0 h1 h2 h3 h4 h5 h6 h7 h8 h9 cI cJ d r lc bg w rm k pn fa e1 am dd rt b pd pt tp) s.heap.size q := fun q h => h
  generalize hAe : va_A (wX h0 h1 h2 h3 h4 h5 h6 h7 h8 h9 cI cJ d r lc bg w rm k pn fa e1 am dd rt b pd pt tp) s.heap.size = A at hD ⊢
  have hA : ∀ q : Nat, s.heap.size ≤ q → A q := fun q h => by rw [← hAe]; exact Or.inr h
  have hS : va_S A s.heap s.heap [] := va_S.rf
  have hl := lv_entry ([.ref h0, .int p0]) (n := 3) (Nat.le_of_ble_eq_true rfl)
  have hEe : entryFrame m args 3 = entryFrame m ([.ref h0, .int p0] : List Value).toArray 3 := by rw [hargs]
  rw [hEe, lg_entry_eq]
  generalize (lg_sl ([.ref h0, .int p0]) ++ List.replicate (3 - (lg_sl ([.ref h0, .int p0])).length) Slot.unset).toArray = ls at hl ⊢
  have hl : lv_has ls 3 [(0, .ref h0), (1, .int p0)] := hl
  refine lv_aload_n hx hb dL_charge_0 rfl (lv_at hl 0 rfl) ?_
  refine lv_iload_n hx hb dL_charge_1 rfl (lv_at hl 1 rfl) ?_
  refine nk_rdx (vx_runV (As := [.int p0]) (rest := []) ⟨hx, hb, hml, hown, hts⟩ (c_X0_charge l hfl D h0 h1 h2 h3 h4 h5 h6 h7 h8 h9 cI cJ d r lc bg w rm k pn fa e1 am dd rt b pd pt tp s.heap.size p0 z a9 hz hpa hlc he hed hk ham hpn hbg hd hpd hpt) (cwV 1 hts gL_charge_X0_charge rfl rfl rfl (by decide +kernel) ⟨Nat.le_of_ble_eq_true rfl, Nat.le_of_ble_eq_true rfl⟩) ⟨nk_Px.blind, va_recv hK hP (ci := 0) (q0 := 0) rfl rfl, fun U hU hW => ⟨rfl, by rw [hU], by rw [hU]; exact hP, va_K.moved hW.alike hK, hD.weaken (fun _ _ _ _ => trivial), by rw [hU]; exact nk_Z.go hZ hW hZn⟩⟩ rfl rfl hl.1 rfl (lv_room (Nat.le_of_ble_eq_true rfl)) dL_charge_2 ⟨Nat.le_of_ble_eq_true rfl, Nat.le_of_ble_eq_true rfl⟩) hS hA (fun E9 ce q9 H hE hz hk9 hS hce hcv hcl => ?_) (fun hw => ?_)
  · rcases hE with ⟨rfl, hc⟩ | ⟨rfl, hc⟩
    · exact absurd hrg hc
    · have hP := hP.kept (fun k q hk => hk9 q.1 ((hP k q hk).lt))
      refine vx_catch (own := RL) (name := RIS) hown [] ⟨0, 5, 6, 15⟩ [] (by rw [htb]; rfl) (fun z h => nomatch h) rfl (by decide) (hts (.classLink RL 15 RIS) (by decide +kernel)) (va_Nw.use (A := args) rfl hZ.2.1.2.1) hce hcv hcl ?_
      refine lv_astore_n (lv' := [(2, .ref q9), (0, .ref h0), (1, .int p0)]) hx hb dL_charge_6 rfl hl (by decide) rfl (fun ls hl => ?_)
      refine lv_bipush (v := -3) hx hb dL_charge_7 (by decide +kernel) ?_
      exact W.iret (v := -3) hx hb hr (fun t ht hW => ⟨⟨-3, wX h0 h1 h2 h3 h4 h5 h6 h7 h8 h9 cI cJ d r lc bg w rm k pn fa e1 am dd rt b pd pt tp, rfl, Or.inr ⟨rfl, hc, rfl⟩, by rw [ht]; exact hP, va_K.moved hW.alike hK, hD⟩, hS.F ht⟩) hS.2.2 dL_charge_9
  · refine W.widen (k := 1) (n := 6) (by decide) (by decide) ?_
    refine W.eq (g2 := F0 m 5 ls [.int (nI (chg (mxE e1 lc) d ((d - bg) / 365) (sm am k) (pY bg pd pt ((d - bg) / 365) pn) a9))]) rfl ?_
    exact W.iret (v := (nI (chg (mxE e1 lc) d ((d - bg) / 365) (sm am k) (pY bg pd pt ((d - bg) / 365) pn) a9))) hx hb hr (fun t ht hW => ⟨⟨(nI (chg (mxE e1 lc) d ((d - bg) / 365) (sm am k) (pY bg pd pt ((d - bg) / 365) pn) a9)), wX h0 h1 h2 h3 h4 h5 h6 h7 h8 h9 cI cJ d r lc bg w rm k pn fa e1 am dd rt b pd pt tp, rfl, Or.inl ⟨hw, rfl, rfl⟩, by rw [ht]; exact hP, va_K.moved hW.alike hK, hD⟩, hS.F ht⟩) hS.2.2 dL_charge_5
end
section
/-! what holds between the calls, and that each call keeps it -/
def okB (x t : Nat) : Prop := x * 1825 ^ t ≤ 55000000000 * 1826 ^ t
theorem okB_0 {x t : Nat} (h : x ≤ 55000000000) : okB x t := Nat.mul_le_mul h (Nat.pow_le_pow_left (by decide) t)
theorem okB_step {x t r : Nat} (h : okB x t) (hr : r ≤ 2000) : okB (x + x * r / 3650000) (t + 1) := by
  unfold okB at *
  have h1 : x * r / 3650000 ≤ x / 1825 := by
    have h2 : x * r / 3650000 ≤ x * 2000 / 3650000 := Nat.div_le_div_right (Nat.mul_le_mul_left x hr)
    have h3 : x * 2000 / 3650000 = x / 1825 := by rw [show 3650000 = 1825 * 2000 from rfl, Nat.mul_div_mul_right _ _ (by decide)]
    rw [h3] at h2; exact h2
  generalize x * r / 3650000 = y at h1 ⊢
  have h2 : (x + y) * 1825 ≤ x * 1826 := by omega
  have e1 : (x + y) * 1825 ^ (t + 1) = ((x + y) * 1825) * 1825 ^ t := by rw [Nat.pow_succ, Nat.mul_comm (1825 ^ t), Nat.mul_assoc]
  have e2 : 55000000000 * 1826 ^ (t + 1) = 1826 * (55000000000 * 1826 ^ t) := by rw [Nat.pow_succ, ← Nat.mul_assoc, Nat.mul_comm]
  have e3 : (x * 1826) * 1825 ^ t = 1826 * (x * 1825 ^ t) := by rw [Nat.mul_comm x 1826, Nat.mul_assoc]
  rw [e1, e2]
  exact Nat.le_trans (Nat.mul_le_mul_right _ h2) (by rw [e3]; exact Nat.mul_le_mul_left _ h)
theorem okB_roll {x t r : Nat} (h : okB x t) (hr : r ≤ 2000) : ∀ n, okB (roll r x n) (t + n)
  | 0 => h
  | n + 1 => okB_step (okB_roll h hr n) hr
theorem okB_mono {x y t : Nat} (hxy : y ≤ x) (h : okB x t) : okB y t := Nat.le_trans (Nat.mul_le_mul_right _ hxy) h
theorem okB_up {x t : Nat} (h : okB x t) : ∀ n, okB x (t + n)
  | 0 => h
  | n + 1 => by
    have h1 := okB_up h n
    unfold okB at *
    rw [show t + (n + 1) = (t + n) + 1 from rfl, Nat.pow_succ, Nat.pow_succ, ← Nat.mul_assoc, ← Nat.mul_assoc]
    exact Nat.mul_le_mul h1 (by decide)
theorem okB_pow : 1826 ^ 15000 ≤ 4000 * 1825 ^ 15000 := by decide +kernel
theorem okB_lim {x t : Nat} (h : okB x t) (ht : t ≤ 15000) : x ≤ 220000000000000 := by
  have h1 := okB_up h (15000 - t)
  rw [show t + (15000 - t) = 15000 by omega] at h1
  have h2 := okB_pow
  have h3 : 0 < 1825 ^ 15000 := Nat.pow_pos (by decide)
  unfold okB at h1
  generalize 1826 ^ 15000 = A at h1 h2
  generalize 1825 ^ 15000 = B at h1 h2 h3
  have h4 : x * B ≤ 220000000000000 * B := by
    have h5 : 55000000000 * A ≤ 55000000000 * (4000 * B) := Nat.mul_le_mul_left _ h2
    omega
  exact Nat.le_of_mul_le_mul_right h4 h3
theorem roll_add (r x m : Nat) : ∀ n, roll r x (m + n) = roll r (roll r x m) n
  | 0 => rfl
  | n + 1 => by
    have h := roll_add r x m n
    show roll r x ((m + n) + 1) = _
    rw [roll_s, roll_s, h]
theorem hX_congr {am dd rt pd tp am' dd' rt' pd' tp' : Nat → Nat} {q : Nat} (h1 : am' q = am q) (h2 : dd' q = dd q) (h3 : rt' q = rt q) : ∀ n, (∀ j, j < n → pd' j = pd j) → (∀ j, j < n → tp' (q * 40 + j) = tp (q * 40 + j)) → hX am' dd' rt' pd' tp' q n = hX am dd rt pd tp q n
  | 0, _, _ => by show (am' q * 10000, dd' q) = (am q * 10000, dd q); rw [h1, h2]
  | n + 1, h4, h5 => by
    have ih := hX_congr (am := am) (dd := dd) (rt := rt) (pd := pd) (tp := tp) (am' := am') (dd' := dd') (rt' := rt') (pd' := pd') (tp' := tp') h1 h2 h3 n (fun j hj => h4 j (by omega)) (fun j hj => h5 j (by omega))
    rw [hX_s, hX_s, ih, h3, h4 n (by omega), h5 n (by omega)]
theorem hX_none {am dd rt pd tp : Nat → Nat} {q : Nat} : ∀ n, (∀ j, j < n → tp (q * 40 + j) = 0) → hX am dd rt pd tp q n = (am q * 10000, dd q)
  | 0, _ => rfl
  | n + 1, h => by
    rw [hX_s, if_neg (by rw [h n (by omega)]; omega)]
    exact hX_none n (fun j hj => h j (by omega))
theorem hX_ok {am dd rt pd tp : Nat → Nat} {q pn : Nat} (ha : am q ≤ 5500000) (hr : rt q ≤ 2000) (hd : dd q ≤ 15000) (hp : ∀ j, j < pn → pd j ≤ 15000) (hh : ∀ j, j < pn → 0 < tp (q * 40 + j) → (hX am dd rt pd tp q j).2 ≤ pd j) : ∀ j, j ≤ pn → okB (hX am dd rt pd tp q j).1 (hX am dd rt pd tp q j).2 ∧ (hX am dd rt pd tp q j).2 ≤ 15000
  | 0, _ => ⟨okB_0 (show am q * 10000 ≤ _ by omega), hd⟩
  | j + 1, hj => by
    have ih := hX_ok ha hr hd hp hh j (by omega)
    rw [hX_s]
    by_cases h : 0 < tp (q * 40 + j)
    · rw [if_pos h]
      have h1 := hh j (by omega) h
      refine ⟨okB_mono (Nat.sub_le _ _) ?_, hp j (by omega)⟩
      have h2 := okB_roll ih.1 hr (pd j - (hX am dd rt pd tp q j).2)
      rw [show (hX am dd rt pd tp q j).2 + (pd j - (hX am dd rt pd tp q j).2) = pd j by omega] at h2
      exact h2
    · rw [if_neg h]; exact ih
theorem alive_congr {f g : Nat → Nat} : ∀ n, (∀ j, j < n → f j = g j) → alive f n = alive g n
  | 0, _ => rfl
  | n + 1, h => by rw [alive_s, alive_s, alive_congr n (fun j hj => h j (by omega)), h n (by omega)]
theorem mxE_congr {f g : Nat → Nat} : ∀ n, (∀ j, j < n → f j = g j) → mxE f n = mxE g n
  | 0, _ => rfl
  | n + 1, h => by show max (mxE f n) (f n) = max (mxE g n) (g n); rw [mxE_congr n (fun j hj => h j (by omega)), h n (by omega)]
theorem lstA_congr {a a' f g : Nat → Nat} : ∀ n, (∀ j, j < n → f j = g j ∧ a j = a' j) → lstA a f n = lstA a' g n
  | 0, _ => rfl
  | n + 1, h => by rw [lstA_s, lstA_s, lstA_congr n (fun j hj => h j (by omega)), (h n (by omega)).1, (h n (by omega)).2]
theorem sm_congr {f g : Nat → Nat} : ∀ n, (∀ j, j < n → f j = g j) → sm f n = sm g n
  | 0, _ => rfl
  | n + 1, h => by rw [sm_s, sm_s, sm_congr n (fun j hj => h j (by omega)), h n (by omega)]
theorem pY_congr {bg y : Nat} {pd pt pd' pt' : Nat → Nat} : ∀ n, (∀ j, j < n → pd' j = pd j ∧ pt' j = pt j) → pY bg pd' pt' y n = pY bg pd pt y n
  | 0, _ => rfl
  | n + 1, h => by rw [pY_s, pY_s, pY_congr n (fun j hj => h j (by omega)), (h n (by omega)).1, (h n (by omega)).2]
theorem up_s {f : Nat → Nat} {k v : Nat} : va_up f k v k = v := by simp [va_up]
theorem up_n {f : Nat → Nat} {k v j : Nat} (h : j ≠ k) : va_up f k v j = f j := by simp [va_up, h]
theorem tk_sum (b : Nat → Nat) (a : Nat) : ∀ n, sm (fun j => b j - tkP b a j) n + (a - tkR b a n) = sm b n
  | 0 => by show 0 + (a - a) = 0; omega
  | n + 1 => by
    have h1 := tk_sum b a n
    have h2 := tkR_le b a n
    rw [sm_s, sm_s, tkR_s]
    show sm (fun j => b j - tkP b a j) n + (b n - min (tkR b a n) (b n)) + (a - (tkR b a n - b n)) = sm b n + b n
    omega
theorem tk_sum2 (b : Nat → Nat) (a n : Nat) : sm b n ≤ sm (tkB b a n) n + a := by
  have h1 := tk_sum b a n
  have h2 : sm (tkB b a n) n = sm (fun j => b j - tkP b a j) n := sm_congr n (fun j hj => by unfold tkB; rw [if_pos hj])
  omega
theorem nk_room0 {b : Nat → Nat} {k G : Nat} (h : G < ceilA (sm b k)) : G - ceilA (sm (tkB b ((ceilA (sm b k) - G) * 10000) k) k) = 0 := by
  have h1 := tk_sum2 b ((ceilA (sm b k) - G) * 10000) k
  have e1 : ceilA (sm b k) = (sm b k + 9999) / 10000 := rfl
  have e2 : ceilA (sm (tkB b ((ceilA (sm b k) - G) * 10000) k) k) = (sm (tkB b ((ceilA (sm b k) - G) * 10000) k) k + 9999) / 10000 := rfl
  rw [e2]
  generalize sm (tkB b ((ceilA (sm b k) - G) * 10000) k) k = T at h1
  omega
theorem dyE_run {d lc : Nat} {e : Nat → Nat} (h : 0 < alive e lc) : dyE d lc e = d := by unfold dyE; rw [if_neg (by omega)]
theorem dyE_none {d lc : Nat} {e : Nat → Nat} (h : lc = 0) : dyE d lc e = d := by unfold dyE; rw [if_neg (by omega)]
theorem dyE_le {d lc : Nat} {e : Nat → Nat} (h : ∀ j, j < lc → e j ≤ d + 1) : dyE d lc e ≤ d := by
  unfold dyE; split
  · have := mxE_le (f := e) (M := d + 1) lc h; omega
  · exact Nat.le_refl _
theorem alive_up {e : Nat → Nat} {a v : Nat} : ∀ n, a < n → e a = 0 → 0 < alive e n
  | 0, h, _ => by omega
  | n + 1, h, h0 => by
    rw [alive_s]
    by_cases q : a = n
    · subst q; rw [if_pos h0]; omega
    · have := alive_up (e := e) (v := v) n (by omega) h0; omega
theorem dyE_end {d lc a : Nat} {e : Nat → Nat} (h : ∀ j, j < lc → e j ≤ d + 1) (ha : a < lc) : dyE d lc (va_up e a (d + 1)) = d := by
  unfold dyE; split
  · have h1 := mxE_le (f := va_up e a (d + 1)) (M := d + 1) lc (fun j hj => by
      by_cases q : j = a
      · subst q; rw [up_s]; exact Nat.le_refl _
      · rw [up_n q]; exact h j hj)
    have h2 := mxE_ge (f := va_up e a (d + 1)) lc a ha
    rw [up_s] at h2
    omega
  · rfl
def InvA (d r lc bg w rm k pn : Nat) : Prop := d ≤ 15000 ∧ r ≤ 2000 ∧ lc ≤ 2 ∧ bg ≤ d ∧ w ≤ 10000000 ∧ rm ≤ 5500000 ∧ k ≤ 20 ∧ pn ≤ 40
def InvL (d lc : Nat) (fa e1 ga e2 : Nat → Nat) : Prop := ∀ j, j < lc → (55 ≤ fa j ∧ fa j ≤ 95) ∧ fa j = ga j ∧ e1 j = e2 j ∧ e1 j ≤ d + 1
def InvG (lc bg k pn gb pi : Nat) (e2 : Nat → Nat) : Prop := gb = (if lc = 0 then 0 else bg + 1) ∧ (lc = 0 → k = 0 ∧ pn = 0 ∧ pi = 0 ∧ bg = 0) ∧ (lc = 0 → e2 0 = 0 ∧ e2 1 = 0) ∧ e2 0 ≤ 15001 ∧ e2 1 ≤ 15001
def InvD (d k : Nat) (am dd rt : Nat → Nat) : Prop := ∀ q, q < k → am q ≤ 5500000 ∧ rt q ≤ 2000 ∧ dd q ≤ d
def InvB (d k : Nat) (b : Nat → Nat) : Prop := ∀ q, q < k → okB (b q) d
def InvP (d bg pn : Nat) (pd pt : Nat → Nat) : Prop := ∀ j, j < pn → bg ≤ pd j ∧ pd j ≤ d ∧ pt j ≤ 10000000
def InvH (dy k pn : Nat) (am dd rt b pd tp : Nat → Nat) : Prop := ∀ q, q < k → (∀ j, j < pn → 0 < tp (q * 40 + j) → (hX am dd rt pd tp q j).2 ≤ pd j ∧ tp (q * 40 + j) ≤ roll (rt q) (hX am dd rt pd tp q j).1 (pd j - (hX am dd rt pd tp q j).2)) ∧ (hX am dd rt pd tp q pn).2 ≤ dy ∧ b q = anw am dd rt pd tp dy pn q
def InvT (k pn : Nat) (tp : Nat → Nat) : Prop := ∀ q j, j < 40 → (k ≤ q ∨ pn ≤ j) → tp (q * 40 + j) = 0
def InvY (d bg k pn dr pa pi : Nat) (am pd pt : Nat → Nat) : Prop := dr = sm am k ∧ pi ≤ (d - bg) / 365 ∧ ∀ y, pi ≤ y → pY bg pd pt y pn = (if y = pi then pa else 0)
def Inv (d r lc bg w rm k pn : Nat) (fa e1 am dd rt b pd pt tp : Nat → Nat) (gb dr pa pi : Nat) (ga e2 : Nat → Nat) : Prop :=
  InvA d r lc bg w rm k pn ∧ InvL d lc fa e1 ga e2 ∧ InvG lc bg k pn gb pi e2 ∧ InvD d k am dd rt ∧ InvB d k b ∧ InvP d bg pn pd pt ∧ InvH (dyE d lc e1) k pn am dd rt b pd tp ∧ InvT k pn tp ∧ InvY d bg k pn dr pa pi am pd pt
section KeepH
variable {d dy k pn : Nat} {am dd rt b pd tp : Nat → Nat}
theorem InvH_pass {n : Nat} (h : InvH d k pn am dd rt b pd tp) : InvH (d + n) k pn am dd rt (rlB rt b n k) pd tp := by
  intro q hq
  obtain ⟨h1, h2, h3⟩ := h q hq
  refine ⟨h1, by omega, ?_⟩
  show (if q < k then roll (rt q) (b q) n else b q) = _
  rw [if_pos hq, h3]
  unfold anw
  rw [← roll_add]
  congr 1; omega
theorem InvH_draw {a r : Nat} (h : InvH d k pn am dd rt b pd tp) (hT : InvT k pn tp) (hp : pn ≤ 40) : InvH d (k + 1) pn (va_up am k a) (va_up dd k d) (va_up rt k r) (va_up b k (a * 10000)) pd tp := by
  intro q hq
  by_cases e : q = k
  · subst e
    have h0 : ∀ j, j < pn → tp (q * 40 + j) = 0 := fun j hj => hT q j (by omega) (Or.inl (Nat.le_refl _))
    have h1 : ∀ n, n ≤ pn → hX (va_up am q a) (va_up dd q d) (va_up rt q r) pd tp q n = (a * 10000, d) := fun n hn => by rw [hX_none n (fun j hj => h0 j (by omega)), up_s, up_s]
    refine ⟨fun j hj hp => absurd hp (by rw [h0 j hj]; omega), by rw [h1 pn (Nat.le_refl _)]; exact Nat.le_refl _, ?_⟩
    unfold anw
    rw [h1 pn (Nat.le_refl _), up_s]
    show a * 10000 = roll _ (a * 10000) (d - d)
    rw [Nat.sub_self]; rfl
  · obtain ⟨h1, h2, h3⟩ := h q (by omega)
    have hc : ∀ n, hX (va_up am k a) (va_up dd k d) (va_up rt k r) pd tp q n = hX am dd rt pd tp q n := fun n => hX_congr (up_n e) (up_n e) (up_n e) n (fun _ _ => rfl) (fun _ _ => rfl)
    refine ⟨fun j hj hp => by rw [hc, up_n e]; exact h1 j hj hp, by rw [hc]; exact h2, ?_⟩
    rw [up_n e, h3]
    unfold anw
    rw [hc, up_n e]
theorem tkT_o {a q j : Nat} (hj : j < 40) (h : j ≠ pn) : tkT tp b a pn k (q * 40 + j) = tp (q * 40 + j) := by
  unfold tkT; rw [if_neg (fun x => h (by omega))]
theorem tkT_h {a q : Nat} (hp : pn < 40) (h : q < k) : tkT tp b a pn k (q * 40 + pn) = tkP b a q := by
  have e1 : (q * 40 + pn) / 40 = q := by omega
  unfold tkT; rw [e1, if_pos ⟨by omega, h⟩]
theorem InvH_take {a : Nat} (h : InvH d k pn am dd rt b pd tp) (hp : pn < 40) : InvH d k (pn + 1) am dd rt (tkB b a k) (va_up pd pn d) (tkT tp b a pn k) := by
  intro q hq
  obtain ⟨h1, h2, h3⟩ := h q hq
  have hc : ∀ n, n ≤ pn → hX am dd rt (va_up pd pn d) (tkT tp b a pn k) q n = hX am dd rt pd tp q n := fun n hn => hX_congr rfl rfl rfl n (fun j hj => up_n (by omega)) (fun j hj => tkT_o (by omega) (by omega))
  have hP : tkP b a q ≤ b q := Nat.min_le_right _ _
  have hb : b q = roll (rt q) (hX am dd rt pd tp q pn).1 (d - (hX am dd rt pd tp q pn).2) := h3
  have hB : tkB b a k q = b q - tkP b a q := by unfold tkB; rw [if_pos hq]
  refine ⟨fun j hj hpos => ?_, ?_, ?_⟩
  · by_cases e : j = pn
    · subst e
      rw [tkT_h hp hq] at hpos ⊢
      rw [hc j (Nat.le_refl _), up_s]
      exact ⟨h2, by rw [← hb]; exact hP⟩
    · rw [tkT_o (by omega) e] at hpos ⊢
      rw [hc j (by omega), up_n e]
      exact h1 j (by omega) hpos
  · rw [hX_s, tkT_h hp hq, hc pn (Nat.le_refl _), up_s]
    split
    · exact Nat.le_refl _
    · exact h2
  · unfold anw
    rw [hX_s, tkT_h hp hq, hc pn (Nat.le_refl _), up_s, hB]
    by_cases z : 0 < tkP b a q
    · rw [if_pos z]
      show b q - tkP b a q = roll (rt q) (roll (rt q) (hX am dd rt pd tp q pn).1 (d - (hX am dd rt pd tp q pn).2) - tkP b a q) (d - d)
      rw [Nat.sub_self, ← hb]; rfl
    · rw [if_neg z, ← hb]; omega
theorem InvT_take {a : Nat} (h : InvT k pn tp) : InvT k (pn + 1) (tkT tp b a pn k) := by
  intro q j hj hc
  have h0 := h q j hj (by omega)
  have e1 : (q * 40 + j) / 40 = q := by omega
  have e2 : (q * 40 + j) % 40 = j := by omega
  unfold tkT; rw [e1, e2, if_neg (by omega)]; exact h0
end KeepH
end
section
/-! each call keeps what holds -/
section Keep
variable {d r lc bg w rm k pn : Nat} {fa e1 am dd rt b pd pt tp : Nat → Nat} {gb dr pa pi : Nat} {ga e2 : Nat → Nat}
theorem Inv_setRate (h : Inv d r lc bg w rm k pn fa e1 am dd rt b pd pt tp gb dr pa pi ga e2) {v : Nat} (hv : v ≤ 2000) : Inv d v lc bg w rm k pn fa e1 am dd rt b pd pt tp gb dr pa pi ga e2 := by
  obtain ⟨⟨a1, a2, a3, a4, a5, a6, a7, a8⟩, hL, ⟨g1, g2, g3, g4, g5⟩, hD, hB, hP, hH, hT, hY⟩ := h
  exact ⟨⟨a1, hv, a3, a4, a5, a6, a7, a8⟩, hL, ⟨g1, g2, g3, g4, g5⟩, hD, hB, hP, hH, hT, hY⟩
theorem Inv_value (h : Inv d r lc bg w rm k pn fa e1 am dd rt b pd pt tp gb dr pa pi ga e2) {v : Nat} (hv : v ≤ 10000000) : Inv d r lc bg v rm k pn fa e1 am dd rt b pd pt tp gb dr pa pi ga e2 := by
  obtain ⟨⟨a1, a2, a3, a4, a5, a6, a7, a8⟩, hL, ⟨g1, g2, g3, g4, g5⟩, hD, hB, hP, hH, hT, hY⟩ := h
  exact ⟨⟨a1, a2, a3, a4, hv, a6, a7, a8⟩, hL, ⟨g1, g2, g3, g4, g5⟩, hD, hB, hP, hH, hT, hY⟩
theorem Inv_room (h : Inv d r lc bg w rm k pn fa e1 am dd rt b pd pt tp gb dr pa pi ga e2) {v x : Nat} (hv : v ≤ 10000000) (hx : x ≤ 5500000) : Inv d r lc bg v x k pn fa e1 am dd rt b pd pt tp gb dr pa pi ga e2 := by
  obtain ⟨⟨a1, a2, a3, a4, a5, a6, a7, a8⟩, hL, ⟨g1, g2, g3, g4, g5⟩, hD, hB, hP, hH, hT, hY⟩ := h
  exact ⟨⟨a1, a2, a3, a4, hv, hx, a7, a8⟩, hL, ⟨g1, g2, g3, g4, g5⟩, hD, hB, hP, hH, hT, hY⟩
theorem Inv_ga (h : Inv d r 0 bg w rm k pn fa e1 am dd rt b pd pt tp gb dr pa pi ga e2) {ga' : Nat → Nat} : Inv d r 0 bg w rm k pn fa e1 am dd rt b pd pt tp gb dr pa pi ga' e2 := by
  obtain ⟨⟨a1, a2, a3, a4, a5, a6, a7, a8⟩, hL, ⟨g1, g2, g3, g4, g5⟩, hD, hB, hP, hH, hT, hY⟩ := h
  exact ⟨⟨a1, a2, a3, a4, a5, a6, a7, a8⟩, fun j hj => absurd hj (by omega), ⟨g1, g2, g3, g4, g5⟩, hD, hB, hP, hH, hT, hY⟩
theorem Inv_end (h : Inv d r lc bg w rm k pn fa e1 am dd rt b pd pt tp gb dr pa pi ga e2) {a : Nat} (ha : a < lc) (h0 : e1 a = 0) : Inv d r lc bg w rm k pn fa (va_up e1 a (d + 1)) am dd rt b pd pt tp gb dr pa pi ga (va_up e2 a (d + 1)) := by
  obtain ⟨⟨a1, a2, a3, a4, a5, a6, a7, a8⟩, hL, ⟨g1, g2, g3, g4, g5⟩, hD, hB, hP, hH, hT, hY⟩ := h
  have hb : ∀ j, e2 j ≤ 15001 → va_up e2 a (d + 1) j ≤ 15001 := fun j hj => by
    by_cases q : j = a
    · subst q; rw [up_s]; omega
    · rw [up_n q]; exact hj
  refine ⟨⟨a1, a2, a3, a4, a5, a6, a7, a8⟩, fun j hj => ?_, ⟨g1, g2, fun z => absurd ha (by omega), hb 0 g4, hb 1 g5⟩, hD, hB, hP, ?_, hT, hY⟩
  · obtain ⟨l1, l2, l3, l4⟩ := hL j hj
    refine ⟨l1, l2, ?_, ?_⟩
    · by_cases q : j = a
      · subst q; rw [up_s, up_s]
      · rw [up_n q, up_n q]; exact l3
    · by_cases q : j = a
      · subst q; rw [up_s]; exact Nat.le_refl _
      · rw [up_n q]; exact l4
  · rw [dyE_end (fun j hj => (hL j hj).2.2.2) ha]
    rw [dyE_run (alive_up (v := 0) lc ha h0)] at hH
    exact hH
theorem Inv_passE (h : Inv d r lc bg w rm k pn fa e1 am dd rt b pd pt tp gb dr pa pi ga e2) {n : Nat} (hn : d + n ≤ 15000) (hE : 0 < lc ∧ alive e1 lc = 0) : Inv (d + n) r lc bg w rm k pn fa e1 am dd rt b pd pt tp gb dr pa pi ga e2 := by
  obtain ⟨⟨a1, a2, a3, a4, a5, a6, a7, a8⟩, hL, ⟨g1, g2, g3, g4, g5⟩, hD, hB, hP, hH, hT, hY⟩ := h
  refine ⟨⟨hn, a2, a3, by omega, a5, a6, a7, a8⟩, fun j hj => ?_, ⟨g1, g2, g3, g4, g5⟩, fun q hq => ?_, fun q hq => okB_up (hB q hq) n, fun j hj => ?_, ?_, hT, ⟨hY.1, Nat.le_trans hY.2.1 (Nat.div_le_div_right (by omega)), hY.2.2⟩⟩
  · obtain ⟨l1, l2, l3, l4⟩ := hL j hj; exact ⟨l1, l2, l3, by omega⟩
  · obtain ⟨l1, l2, l3⟩ := hD q hq; exact ⟨l1, l2, by omega⟩
  · obtain ⟨l1, l2, l3⟩ := hP j hj; exact ⟨l1, by omega, l3⟩
  · have e : dyE (d + n) lc e1 = dyE d lc e1 := by unfold dyE; rw [if_pos hE, if_pos hE]
    rw [e]; exact hH
theorem Inv_passR (h : Inv d r lc bg w rm k pn fa e1 am dd rt b pd pt tp gb dr pa pi ga e2) {n : Nat} (hn : d + n ≤ 15000) (hE : ¬ (0 < lc ∧ alive e1 lc = 0)) : Inv (d + n) r lc bg w rm k pn fa e1 am dd rt (rlB rt b n k) pd pt tp gb dr pa pi ga e2 := by
  obtain ⟨⟨a1, a2, a3, a4, a5, a6, a7, a8⟩, hL, ⟨g1, g2, g3, g4, g5⟩, hD, hB, hP, hH, hT, hY⟩ := h
  have e0 : dyE d lc e1 = d := by unfold dyE; rw [if_neg hE]
  have e1' : dyE (d + n) lc e1 = d + n := by unfold dyE; rw [if_neg hE]
  refine ⟨⟨hn, a2, a3, by omega, a5, a6, a7, a8⟩, fun j hj => ?_, ⟨g1, g2, g3, g4, g5⟩, fun q hq => ?_, fun q hq => ?_, fun j hj => ?_, ?_, hT, ⟨hY.1, Nat.le_trans hY.2.1 (Nat.div_le_div_right (by omega)), hY.2.2⟩⟩
  · obtain ⟨l1, l2, l3, l4⟩ := hL j hj; exact ⟨l1, l2, l3, by omega⟩
  · obtain ⟨l1, l2, l3⟩ := hD q hq; exact ⟨l1, l2, by omega⟩
  · show okB (if q < k then roll (rt q) (b q) n else b q) (d + n)
    rw [if_pos hq]; exact okB_roll (hB q hq) (hD q hq).2.1 n
  · obtain ⟨l1, l2, l3⟩ := hP j hj; exact ⟨l1, by omega, l3⟩
  · rw [e1']; rw [e0] at hH; exact InvH_pass hH
theorem Inv_draw (h : Inv d r lc bg w rm k pn fa e1 am dd rt b pd pt tp gb dr pa pi ga e2) {a : Nat} (ha : a ≤ rm) (hk : k < 20) (hlc : 0 < lc) (hal : 0 < alive e1 lc) : Inv d r lc bg w (rm - a) (k + 1) pn fa e1 (va_up am k a) (va_up dd k d) (va_up rt k r) (va_up b k (a * 10000)) pd pt tp gb (dr + a) pa pi ga e2 := by
  obtain ⟨⟨a1, a2, a3, a4, a5, a6, a7, a8⟩, hL, ⟨g1, g2, g3, g4, g5⟩, hD, hB, hP, hH, hT, hY⟩ := h
  rw [dyE_run hal] at hH
  refine ⟨⟨a1, a2, a3, a4, a5, by omega, by omega, a8⟩, hL, ⟨g1, fun z => absurd hlc (by omega), g3, g4, g5⟩, fun q hq => ?_, fun q hq => ?_, hP, ?_, fun q j hj hc => hT q j hj (by omega), ⟨?_, hY.2.1, hY.2.2⟩⟩
  · by_cases e : q = k
    · subst e; rw [up_s, up_s, up_s]; exact ⟨by omega, a2, Nat.le_refl _⟩
    · rw [up_n e, up_n e, up_n e]; exact hD q (by omega)
  · by_cases e : q = k
    · subst e; rw [up_s]; exact okB_0 (by omega)
    · rw [up_n e]; exact hB q (by omega)
  · rw [dyE_run hal]; exact InvH_draw hH hT a8
  · rw [sm_s, up_s, hY.1, sm_congr k (fun j hj => (up_n (show j ≠ k by omega) : va_up am k a j = am j))]
theorem Inv_take (h : Inv d r lc bg w rm k pn fa e1 am dd rt b pd pt tp gb dr pa pi ga e2) {A t9 pa' pi' w' rm' : Nat} (hlc : 0 < lc) (hal : 0 < alive e1 lc) (hp : pn < 40) (ht : t9 ≤ 10000000) (hw : w' ≤ 10000000) (hrm : rm' ≤ 5500000) (hY' : InvY d bg k (pn + 1) dr pa' pi' am (va_up pd pn d) (va_up pt pn t9)) : Inv d r lc bg w' rm' k (pn + 1) fa e1 am dd rt (tkB b A k) (va_up pd pn d) (va_up pt pn t9) (tkT tp b A pn k) gb dr pa' pi' ga e2 := by
  obtain ⟨⟨a1, a2, a3, a4, a5, a6, a7, a8⟩, hL, ⟨g1, g2, g3, g4, g5⟩, hD, hB, hP, hH, hT, hY⟩ := h
  rw [dyE_run hal] at hH
  refine ⟨⟨a1, a2, a3, a4, hw, hrm, a7, by omega⟩, hL, ⟨g1, fun z => absurd hlc (by omega), g3, g4, g5⟩, hD, fun q hq => okB_mono (tkB_le b A k q) (hB q hq), fun j hj => ?_, ?_, InvT_take hT, hY'⟩
  · by_cases e : j = pn
    · subst e; rw [up_s, up_s]; exact ⟨a4, Nat.le_refl _, ht⟩
    · rw [up_n e, up_n e]; exact hP j (by omega)
  · rw [dyE_run hal]; exact InvH_take hH hp
theorem InvY_pay (hY : InvY d bg k pn dr pa pi am pd pt) {a : Nat} : InvY d bg k (pn + 1) dr ((if pi = (d - bg) / 365 then pa else 0) + a) ((d - bg) / 365) am (va_up pd pn d) (va_up pt pn a) := by
  refine ⟨hY.1, Nat.le_refl _, fun y hy => ?_⟩
  rw [pY_s, up_s, up_s, pY_congr pn (fun j hj => ⟨(up_n (show j ≠ pn by omega) : va_up pd pn d j = pd j), (up_n (show j ≠ pn by omega) : va_up pt pn a j = pt j)⟩), hY.2.2 y (Nat.le_trans hY.2.1 hy)]
  by_cases e : y = (d - bg) / 365
  · subst e
    rw [if_pos rfl, if_pos rfl]
    by_cases e2 : pi = (d - bg) / 365
    · rw [if_pos e2.symm, if_pos e2]
    · rw [if_neg (fun x => e2 x.symm), if_neg e2]
  · have := hY.2.1
    rw [if_neg (show ¬ y = pi by omega), if_neg (fun x => e x.symm), if_neg e]
theorem InvY_move (hY : InvY d bg k pn dr pa pi am pd pt) : InvY d bg k (pn + 1) dr pa pi am (va_up pd pn d) (va_up pt pn 0) := by
  refine ⟨hY.1, hY.2.1, fun y hy => ?_⟩
  rw [pY_s, up_s, up_s, pY_congr pn (fun j hj => ⟨(up_n (show j ≠ pn by omega) : va_up pd pn d j = pd j), (up_n (show j ≠ pn by omega) : va_up pt pn 0 j = pt j)⟩), hY.2.2 y hy]
  by_cases e : (d - bg) / 365 = y
  · rw [if_pos e, Nat.add_zero]
  · rw [if_neg e, Nat.add_zero]
theorem Inv_begin1 (h : Inv d r 0 bg w rm 0 0 fa e1 am dd rt b pd pt tp gb dr pa pi ga e2) {a1 a2 a3 G : Nat} (h1 : a1 ≤ 10000000) (h2 : 55 ≤ a2 ∧ a2 ≤ 95) (hG : G ≤ 5500000) : Inv d r 1 d a1 G 0 0 (va_up fa 0 a2) (va_up e1 0 0) am dd rt b pd pt tp (d + 1) dr pa pi (va_up (va_up ga 0 a2) 1 a3) e2 := by
  obtain ⟨⟨x1, x2, x3, x4, x5, x6, x7, x8⟩, hL, ⟨g1, g2, g3, g4, g5⟩, hD, hB, hP, hH, hT, hY⟩ := h
  obtain ⟨-, -, hpi, -⟩ := g2 rfl
  obtain ⟨z0, z1⟩ := g3 rfl
  refine ⟨⟨x1, x2, by omega, Nat.le_refl _, h1, hG, x7, x8⟩, fun j hj => ?_, ⟨rfl, fun z => absurd z (by decide), fun _ => ⟨z0, z1⟩, g4, g5⟩, hD, hB, fun j hj => absurd hj (by omega), fun q hq => absurd hq (by omega), hT, ⟨hY.1, by rw [hpi]; exact Nat.zero_le _, fun y hy => hY.2.2 y hy⟩⟩
  have hj2 : j = 0 := by omega
  subst hj2
  refine ⟨?_, ?_, ?_, ?_⟩
  · show 55 ≤ a2 ∧ a2 ≤ 95
    exact h2
  · rfl
  · show 0 = e2 0
    exact z0.symm
  · exact Nat.zero_le _
theorem Inv_begin2 (h : Inv d r 0 bg w rm 0 0 fa e1 am dd rt b pd pt tp gb dr pa pi ga e2) {a1 a2 a3 G : Nat} (h1 : a1 ≤ 10000000) (h2 : 55 ≤ a2 ∧ a2 ≤ 95) (h3 : 55 ≤ a3 ∧ a3 ≤ 95) (hG : G ≤ 5500000) : Inv d r 2 d a1 G 0 0 (va_up (va_up fa 0 a2) 1 a3) (va_up (va_up e1 0 0) 1 0) am dd rt b pd pt tp (d + 1) dr pa pi (va_up (va_up ga 0 a2) 1 a3) e2 := by
  obtain ⟨⟨x1, x2, x3, x4, x5, x6, x7, x8⟩, hL, ⟨g1, g2, g3, g4, g5⟩, hD, hB, hP, hH, hT, hY⟩ := h
  obtain ⟨-, -, hpi, -⟩ := g2 rfl
  obtain ⟨z0, z1⟩ := g3 rfl
  refine ⟨⟨x1, x2, by omega, Nat.le_refl _, h1, hG, x7, x8⟩, fun j hj => ?_, ⟨rfl, fun z => absurd z (by decide), fun _ => ⟨z0, z1⟩, g4, g5⟩, hD, hB, fun j hj => absurd hj (by omega), fun q hq => absurd hq (by omega), hT, ⟨hY.1, by rw [hpi]; exact Nat.zero_le _, fun y hy => hY.2.2 y hy⟩⟩
  have hj2 : j = 0 ∨ j = 1 := by omega
  rcases hj2 with rfl | rfl
  · refine ⟨?_, ?_, ?_, ?_⟩
    · show 55 ≤ a2 ∧ a2 ≤ 95
      exact h2
    · rfl
    · show 0 = e2 0
      exact z0.symm
    · exact Nat.zero_le _
  · refine ⟨?_, ?_, ?_, ?_⟩
    · show 55 ≤ a3 ∧ a3 ≤ 95
      exact h3
    · rfl
    · show 0 = e2 1
      exact z1.symm
    · exact Nat.zero_le _
theorem Inv_0 : Inv 0 500 0 0 0 0 0 0 (fun _ => 0) (fun _ => 1) (fun _ => 0) (fun _ => 0) (fun _ => 0) (fun _ => 0) (fun _ => 0) (fun _ => 0) (fun _ => 0) 0 0 0 0 (fun _ => 0) (fun _ => 0) := by
  refine ⟨⟨by decide, by decide, by decide, by decide, by decide, by decide, by decide, by decide⟩, fun j hj => absurd hj (by omega), ⟨rfl, fun _ => ⟨rfl, rfl, rfl, rfl⟩, fun _ => ⟨rfl, rfl⟩, Nat.zero_le _, Nat.zero_le _⟩, fun j hj => absurd hj (by omega), fun j hj => absurd hj (by omega), fun j hj => absurd hj (by omega), fun j hj => absurd hj (by omega), fun _ _ _ _ => rfl, ⟨rfl, Nat.zero_le _, fun y _ => ?_⟩⟩
  show 0 = if y = 0 then 0 else 0
  split <;> rfl
theorem Inv_f (h : Inv d r lc bg w rm k pn fa e1 am dd rt b pd pt tp gb dr pa pi ga e2) : (lc ≤ 2) ∧ (d ≤ 15000) ∧ (k ≤ 20) ∧ (pn ≤ 40) ∧ (bg ≤ d) ∧ (w ≤ 10000000) ∧ (rm ≤ 10000000) ∧ (∀ j, j < lc → e1 j ≤ 15001) ∧ (∀ j, j < lc → e1 j ≤ d + 1) ∧ (∀ j, j < lc → 55 ≤ fa j ∧ fa j ≤ 95) ∧ (∀ j, j < k → am j ≤ 10000000) ∧ (∀ j, j < pn → bg ≤ pd j ∧ pd j ≤ 15000) ∧ (∀ j, j < pn → pd j ≤ 15000) ∧ (∀ j, j < pn → pt j ≤ 10000000) ∧ (sm b k < 1000000000000000000) ∧ (∀ j, j < k → b j < 4611686018427387904) ∧ (∀ q, q < k → rt q ≤ 2000) ∧ (∀ q, q < k → dd q ≤ 15000) ∧ (∀ q, q < k → ∀ j, d + j ≤ 15000 → roll (rt q) (b q) j * rt q < 9223372036854775808) ∧ (∀ q9, q9 < k → ∀ j, j < pn → 0 < tp (q9 * 40 + j) → (hX am dd rt pd tp q9 j).2 ≤ pd j ∧ tp (q9 * 40 + j) ≤ roll (rt q9) (hX am dd rt pd tp q9 j).1 (pd j - (hX am dd rt pd tp q9 j).2)) ∧ (∀ q9, q9 < k → (hX am dd rt pd tp q9 pn).2 ≤ dyE d lc e1) ∧ (∀ q9, q9 < k → ∀ j, j ≤ pn → (hX am dd rt pd tp q9 j).2 ≤ 15000 ∧ ∀ i, (hX am dd rt pd tp q9 j).2 + i ≤ 15000 → roll (rt q9) (hX am dd rt pd tp q9 j).1 i * rt q9 < 9223372036854775808) ∧ (∀ q9, q9 < k → ∀ j, j < pn → tp (q9 * 40 + j) < 4611686018427387904) ∧ (sm (anw am dd rt pd tp (dyE d lc e1) pn) k = sm b k) ∧ (lc = 0 → k = 0) ∧ (∀ j, j < lc → e2 j ≤ 15001) ∧ (∀ j, j < lc → e2 j ≤ d + 1) ∧ (∀ j, j < lc → 55 ≤ ga j ∧ ga j ≤ 95) ∧ (gb ≤ d + 1) ∧ (gb ≤ 15001) ∧ (pi ≤ 15000) ∧ (dr ≤ 1000000000) ∧ (pa ≤ 1000000000) ∧ (gb = 0 → e2 0 = 0) ∧ (gb = 0 → e2 1 = 0) ∧ (gb = 0 → k = 0) ∧ (∀ j, j < 2 → e2 j ≤ 15001) ∧ ((gb = 0 ↔ lc = 0) ∧ (0 < lc → gb = bg + 1)) ∧ (alive e2 lc = alive e1 lc) ∧ (mxE e2 lc = mxE e1 lc) ∧ (lstA ga e2 lc = lstA fa e1 lc) := by
  obtain ⟨⟨a1, a2, a3, a4, a5, a6, a7, a8⟩, hL, ⟨g1, g2, g3, g4, g5⟩, hD, hB, hP, hH, hT, hY⟩ := h
  have hgz : (gb = 0 ↔ lc = 0) ∧ (0 < lc → gb = bg + 1) := by
    by_cases z : lc = 0
    · rw [if_pos z] at g1; exact ⟨⟨fun _ => z, fun _ => g1⟩, fun x => absurd x (by omega)⟩
    · rw [if_neg z] at g1; exact ⟨⟨fun x => absurd x (by omega), fun x => absurd x z⟩, fun _ => g1⟩
  have hgl : gb ≤ d + 1 := by
    by_cases z : lc = 0
    · have := hgz.1.mpr z; omega
    · have := hgz.2 (by omega); omega
  have hbl : ∀ q, q < k → b q ≤ 220000000000000 := fun q hq => okB_lim (hB q hq) a1
  have hsl := sm_le k hbl
  have hsk : k * 220000000000000 ≤ 20 * 220000000000000 := Nat.mul_le_mul_right _ a7
  have hdy : dyE d lc e1 ≤ d := dyE_le (fun j hj => (hL j hj).2.2.2)
  have hroll : ∀ x r t j : Nat, okB x t → r ≤ 2000 → t + j ≤ 15000 → roll r x j * r < 9223372036854775808 := fun x r t j h1 h2 h3 => by
    have h4 := okB_lim (okB_roll h1 h2 j) h3
    have h5 : roll r x j * r ≤ 220000000000000 * 2000 := Nat.mul_le_mul h4 h2
    omega
  have hok : ∀ q, q < k → ∀ j, j ≤ pn → okB (hX am dd rt pd tp q j).1 (hX am dd rt pd tp q j).2 ∧ (hX am dd rt pd tp q j).2 ≤ 15000 := fun q hq => hX_ok (hD q hq).1 (hD q hq).2.1 (by have := (hD q hq).2.2; omega) (fun j hj => by have := (hP j hj).2.1; omega) (fun j hj hp => ((hH q hq).1 j hj hp).1)
  have hpa : pa = pY bg pd pt pi pn := by have := hY.2.2 pi (Nat.le_refl _); rw [if_pos rfl] at this; exact this.symm
  have hpl := pY_le (bg := bg) (y := pi) (pd := pd) pn (fun j hj => (hP j hj).2.2)
  have hpk : pn * 10000000 ≤ 40 * 10000000 := Nat.mul_le_mul_right _ a8
  have hdl := sm_le k (fun q hq => (hD q hq).1)
  have hdk : k * 5500000 ≤ 20 * 5500000 := Nat.mul_le_mul_right _ a7
  have hy1 := hY.1
  have hy2 := hY.2.1
  refine ⟨a3, a1, a7, a8, a4, a5, by omega, fun j hj => by have := (hL j hj).2.2.2; omega, fun j hj => (hL j hj).2.2.2, fun j hj => (hL j hj).1, fun j hj => by have := (hD j hj).1; omega, fun j hj => ⟨(hP j hj).1, by have := (hP j hj).2.1; omega⟩, fun j hj => by have := (hP j hj).2.1; omega, fun j hj => (hP j hj).2.2, by omega, fun j hj => by have := hbl j hj; omega, fun q hq => (hD q hq).2.1, fun q hq => by have := (hD q hq).2.2; omega, fun q hq j hj => hroll _ _ d j (hB q hq) (hD q hq).2.1 hj, fun q hq => (hH q hq).1, fun q hq => (hH q hq).2.1, fun q hq j hj => ⟨(hok q hq j hj).2, fun i hi => hroll _ _ _ i (hok q hq j hj).1 (hD q hq).2.1 hi⟩, fun q hq j hj => ?_, sm_congr k (fun q hq => (hH q hq).2.2.symm), fun z => (g2 z).1, fun j hj => by have := hL j hj; omega, fun j hj => by have := hL j hj; omega, fun j hj => by have := hL j hj; omega, hgl, by omega, by omega, by omega, by omega, fun z => (g3 (hgz.1.mp z)).1, fun z => (g3 (hgz.1.mp z)).2, fun z => (g2 (hgz.1.mp z)).1, fun j hj => ?_, hgz, alive_congr lc (fun j hj => (hL j hj).2.2.1.symm), mxE_congr lc (fun j hj => (hL j hj).2.2.1.symm), lstA_congr lc (fun j hj => ⟨(hL j hj).2.2.1.symm, (hL j hj).2.1.symm⟩)⟩
  · by_cases z : 0 < tp (q * 40 + j)
    · have h1 := (hH q hq).1 j hj z
      have h2 := okB_lim (okB_roll (hok q hq j (by omega)).1 (hD q hq).2.1 (pd j - (hX am dd rt pd tp q j).2)) (by have := (hP j hj).2.1; omega)
      omega
    · omega
  · have hj2 : j = 0 ∨ j = 1 := by omega
    rcases hj2 with rfl | rfl
    · exact g4
    · exact g5
theorem Inv_charge (h : Inv d r lc bg w rm k pn fa e1 am dd rt b pd pt tp gb dr pa pi ga e2) (hlc : 0 < lc) (a : Nat) : chg (mxE e2 lc) d ((d + 1 - gb) / 365) dr (if pi = (d + 1 - gb) / 365 then pa else 0) a = chg (mxE e1 lc) d ((d - bg) / 365) (sm am k) (pY bg pd pt ((d - bg) / 365) pn) a := by
  have hL := h.2.1
  have g1 := h.2.2.1.1
  have hY := h.2.2.2.2.2.2.2.2
  rw [if_neg (show ¬ lc = 0 by omega)] at g1
  rw [mxE_congr (f := e2) (g := e1) lc (fun j hj => (hL j hj).2.2.1.symm), g1, Nat.add_sub_add_right, hY.1, hY.2.2 _ hY.2.1]
  by_cases e : pi = (d - bg) / 365
  · rw [if_pos e, if_pos e.symm]
  · rw [if_neg e, if_neg (fun x => e x.symm)]
theorem Inv_allow (h : Inv d r lc bg w rm k pn fa e1 am dd rt b pd pt tp gb dr pa pi ga e2) : (if gb = 0 then 0 else dr / 10 - (if pi = (d + 1 - gb) / 365 then pa else 0)) = sm am k / 10 - pY bg pd pt ((d - bg) / 365) pn := by
  have g1 := h.2.2.1.1
  have g2 := h.2.2.1.2.1
  have hY := h.2.2.2.2.2.2.2.2
  by_cases z : lc = 0
  · rw [if_pos z] at g1
    obtain ⟨k0, -⟩ := g2 z
    rw [if_pos g1, k0]
    show 0 = 0 / 10 - _
    omega
  · rw [if_neg z] at g1
    rw [if_neg (show ¬ gb = 0 by omega), g1, Nat.add_sub_add_right, hY.1, hY.2.2 _ hY.2.1]
    by_cases e : pi = (d - bg) / 365
    · rw [if_pos e, if_pos e.symm]
    · rw [if_neg e, if_neg (fun x => e x.symm)]
end Keep
end
section
/-! numbers that this law's comparisons want -/
theorem ceilA_add (x a : Nat) : ceilA (x + a * 10000) = ceilA x + a := by unfold ceilA; omega
theorem ceilA_mono {x y : Nat} (h : x ≤ y) : ceilA x ≤ ceilA y := by unfold ceilA; omega
theorem sm_up (b : Nat → Nat) (k v : Nat) : sm (va_up b k v) (k + 1) = sm b k + v := by
  rw [sm_s, up_s, sm_congr k (fun j hj => (up_n (show j ≠ k by omega) : va_up b k v j = b j))]
theorem tkR_sm (b : Nat → Nat) (A : Nat) : ∀ n, tkR b A n = A - sm b n
  | 0 => rfl
  | n + 1 => by rw [tkR_s, tkR_sm b A n, sm_s]; omega
theorem tk_debt {b : Nat → Nat} {k a : Nat} (h : a ≤ ceilA (sm b k)) : ceilA (sm (tkB b (a * 10000) k) k) = ceilA (sm b k) - a := by
  have h1 := tk_sum b (a * 10000) k
  have h2 : sm (tkB b (a * 10000) k) k = sm (fun j => b j - tkP b (a * 10000) j) k := sm_congr k (fun j hj => by unfold tkB; rw [if_pos hj])
  rw [tkR_sm] at h1
  rw [h2]
  generalize sm (fun j => b j - tkP b (a * 10000) j) k = T at h1
  generalize sm b k = S at h1 h
  unfold ceilA at h ⊢
  omega
theorem chg_le {M d y dr pp a : Nat} : chg M d y dr pp a ≤ a / 10 := by
  unfold chg
  split
  · exact Nat.zero_le _
  · have h1 : (a - (dr / 10 - pp)) * (10 - y) ≤ a * 10 := Nat.mul_le_mul (Nat.sub_le _ _) (Nat.sub_le _ _)
    generalize (a - (dr / 10 - pp)) * (10 - y) = q at h1
    omega
/-- the balances' own ceilings, added -/
def scA (b : Nat → Nat) (n : Nat) : Nat := sm (fun j => ceilA (b j)) n
theorem scA_s (b : Nat → Nat) (n : Nat) : scA b (n + 1) = scA b n + ceilA (b n) := rfl
theorem scA_ge (b : Nat → Nat) : ∀ n, ceilA (sm b n) ≤ scA b n
  | 0 => by show ceilA 0 ≤ 0; unfold ceilA; omega
  | n + 1 => by
    have h := scA_ge b n
    rw [scA_s, sm_s]
    unfold ceilA at *
    omega
theorem scA_le (b : Nat → Nat) : ∀ n, 10000 * scA b n ≤ sm b n + 9999 * n
  | 0 => Nat.le_refl _
  | n + 1 => by
    have h := scA_le b n
    rw [scA_s, sm_s]
    unfold ceilA
    omega
theorem scA_lt (b : Nat → Nat) (n : Nat) (h : 0 < n) : scA b n < ceilA (sm b n) + n := by
  have h1 := scA_le b n
  unfold ceilA
  omega
theorem scA_0 {b : Nat → Nat} {n : Nat} (h : n = 0) : scA b n = 0 ∧ sm b n = 0 := by subst h; exact ⟨rfl, rfl⟩
theorem lstA_0 {a f : Nat → Nat} : ∀ n, alive f n = 0 → lstA a f n = 0
  | 0, _ => rfl
  | n + 1, h => by
    rw [alive_s] at h
    have h1 := lstA_0 (a := a) (f := f) n (by omega)
    rw [lstA_s]
    by_cases z : f n = 0
    · rw [if_pos z] at h; omega
    · rw [if_neg (fun q => z q.1)]; exact h1
theorem agE_in {a f : Nat → Nat} {n y : Nat} (h : ∀ j, j < n → 55 ≤ a j ∧ a j ≤ 95) (hy : y ≤ 100) : agE a f n y = 0 ∨ (56 ≤ agE a f n y ∧ agE a f n y ≤ 200) := by
  by_cases z : 0 < lstA a f n
  · have h1 := lstA_ge (f := f) n h z
    have h2 := lstA_le (f := f) n h
    rw [agE_pos z]; omega
  · exact Or.inl (agE_0 (by omega))
theorem agE_end {a f : Nat → Nat} {n y : Nat} (h : alive f n = 0) : agE a f n y = 0 := agE_0 (lstA_0 n h)
theorem roll_ge (r x : Nat) : ∀ n, x ≤ roll r x n
  | 0 => Nat.le_refl _
  | n + 1 => by have := roll_ge r x n; rw [roll_s]; omega
theorem rl_debt (rt b : Nat → Nat) (n k : Nat) : ceilA (sm b k) ≤ ceilA (sm (rlB rt b n k) k) := ceilA_mono (sm_mono k (fun j hj => by
  show b j ≤ if j < k then roll (rt j) (b j) n else b j
  rw [if_pos hj]; exact roll_ge _ _ _))
/-- the law's own word of the lives: a bit for a life that has ended, or is none -/
def enOK (E lc : Nat) (e1 : Nat → Nat) : Prop := E < 4 ∧ (E % 2 = 0 ↔ e1 0 = 0) ∧ (E / 2 = 0 ↔ (1 < lc ∧ e1 1 = 0))
theorem en_bit {E t : Nat} (hE : E < 4) (ht : t < 2) : (nI E >>> (nI t &&& 31)) &&& nI 1 = nI (E / 2 ^ t % 2) := by
  have h1 : E = 0 ∨ E = 1 ∨ E = 2 ∨ E = 3 := by omega
  have h2 : t = 0 ∨ t = 1 := by omega
  rcases h1 with rfl | rfl | rfl | rfl <;> rcases h2 with rfl | rfl <;> decide +kernel
theorem en_set {E t : Nat} (hE : E < 4) (ht : t < 2) (h0 : E / 2 ^ t % 2 = 0) : nI E ||| (nI 1 <<< (nI t &&& 31)) = nI (E + 2 ^ t) := by
  have h1 : E = 0 ∨ E = 1 ∨ E = 2 ∨ E = 3 := by omega
  have h2 : t = 0 ∨ t = 1 := by omega
  rcases h1 with rfl | rfl | rfl | rfl <;> rcases h2 with rfl | rfl <;> first | (exfalso; revert h0; decide) | decide +kernel
theorem en_end {E lc t d : Nat} {e1 : Nat → Nat} (h : enOK E lc e1) (hlc : 0 < lc) (hlc2 : lc ≤ 2) (ht : t < 2) (h0 : E / 2 ^ t % 2 = 0) : t < lc ∧ e1 t = 0 ∧ enOK (E + 2 ^ t) lc (va_up e1 t (d + 1)) ∧ alive (va_up e1 t (d + 1)) lc = (if E + 2 ^ t = 3 then 0 else 1) := by
  obtain ⟨hE, ha, hb⟩ := h
  have u0 : va_up e1 0 (d + 1) 0 = d + 1 := up_s
  have u1 : va_up e1 1 (d + 1) 1 = d + 1 := up_s
  have u2 : va_up e1 0 (d + 1) 1 = e1 1 := up_n (by decide)
  have u3 : va_up e1 1 (d + 1) 0 = e1 0 := up_n (by decide)
  have h2 : t = 0 ∨ t = 1 := by omega
  rcases h2 with rfl | rfl
  · have h0' : E % 2 = 0 := by simpa using h0
    have he := ha.mp h0'
    refine ⟨hlc, he, ⟨by show E + 1 < 4; omega, ?_, ?_⟩, ?_⟩
    · rw [u0]; show (E + 1) % 2 = 0 ↔ _; omega
    · rw [u2, ← hb]; show (E + 1) / 2 = 0 ↔ _; omega
    · have h3 : lc = 1 ∨ lc = 2 := by omega
      show _ = if E + 1 = 3 then 0 else 1
      rcases h3 with rfl | rfl
      · have h4 : ¬ E / 2 = 0 := fun q => absurd (hb.mp q).1 (by decide)
        rw [alive_s, u0, if_neg (by omega), if_pos (by omega)]; rfl
      · rw [alive_s, alive_s, u0, u2, if_neg (show ¬ d + 1 = 0 by omega)]
        by_cases z : e1 1 = 0
        · have h4 := hb.mpr ⟨by decide, z⟩
          rw [if_pos z, if_neg (by omega)]; rfl
        · have h4 : ¬ E / 2 = 0 := fun q => z (hb.mp q).2
          rw [if_neg z, if_pos (by omega)]; rfl
  · have h0' : E / 2 % 2 = 0 := by simpa using h0
    have h5 : E / 2 = 0 := by omega
    have he := hb.mp h5
    have h3 : lc = 2 := by omega
    subst h3
    refine ⟨by decide, he.2, ⟨by show E + 2 < 4; omega, ?_, ?_⟩, ?_⟩
    · rw [u3, ← ha]; show (E + 2) % 2 = 0 ↔ _; omega
    · rw [u1]; show (E + 2) / 2 = 0 ↔ _; omega
    · show _ = if E + 2 = 3 then 0 else 1
      rw [alive_s, alive_s, u1, u3, if_neg (show ¬ d + 1 = 0 by omega)]
      by_cases z : e1 0 = 0
      · have h4 := ha.mpr z
        rw [if_pos z, if_neg (by omega)]; rfl
      · have h4 : ¬ E % 2 = 0 := fun q => z (ha.mp q)
        rw [if_neg z, if_pos (by omega)]; rfl
end
section
set_option maxHeartbeats 4000000 in
set_option maxRecDepth 100000 in
theorem c_L_low (l : Launch) (x9 : Int32) (n9 : Nat) (hn0 : 0 < n9) (hn1 : n9 < 2147483648) : Met l yL_low wsL_low { frames := 0, cells := 0, slots := 0, locals := 0 } (nk_P0 [.int x9, .int (nI n9)]) (nk_Rd (some (.int (nI (lwV x9 n9))))) 0 0 (fun _ => False) := by
  refine Met.ofW (cc := cL_low) (maxL := 2) (ret := (some .int)) (by decide) rfl ?_
  intro p e s m args below meth c s₁ B hml hv
  obtain ⟨hargs, -⟩ := hv
  have hx := B.exec
  have hb := B.bytes
  have hr := B.returns
  have hts := atoms_spec (ws := wsL_low) B.pre
  have hown : s.vm.findClass RL = some m.cls := findClass_of_methodNamed B.named
  have hlocks := B.notSynchronized
  have k7 : (Cond.constant RL 7 (nI 2147483647)).before args s = true := by
    rw [show (nI 2147483647 : Int32) = 2147483647 from by decide +kernel]
    exact hts (.constant RL 7 (2147483647)) (by decide +kernel)
  have hl := lv_entry ([.int x9, .int (nI n9)]) (n := 2) (Nat.le_of_ble_eq_true rfl)
  have hEe : entryFrame m args 2 = entryFrame m ([.int x9, .int (nI n9)] : List Value).toArray 2 := by rw [hargs]
  rw [hEe, lg_entry_eq]
  generalize (lg_sl ([.int x9, .int (nI n9)]) ++ List.replicate (2 - (lg_sl ([.int x9, .int (nI n9)])).length) Slot.unset).toArray = ls at hl ⊢
  have hl : lv_has ls 2 [(0, .int x9), (1, .int (nI n9))] := hl
  refine lv_iload_n hx hb dL_low_0 rfl (lv_at hl 0 rfl) ?_
  refine lv_ldc (v := nI 2147483647) hx hb hown k7 dL_low_1 ?_
  refine lv_iand hx hb dL_low_3 ?_
  refine nk_topi (y := nI (x9.toBitVec.toNat % 2 ^ 31)) (nk_and31 x9) ?_
  refine lv_iload_n hx hb dL_low_4 rfl (lv_at hl 1 rfl) ?_
  refine nk_irem hx hb (by omega) (by omega) (by omega) dL_low_5 ?_
  refine nk_topi (y := (nI (lwV x9 n9))) rfl ?_
  exact W.iret hx hb hr (fun t ht hW => ⟨rfl, ht⟩) (fun z h => nomatch h) dL_low_6
set_option maxHeartbeats 4000000 in
set_option maxRecDepth 100000 in
theorem c_L_cell (l : Launch) (b L : Nat) (xs : Nat → Int32) (k : Nat) (hL : L ≤ 260) (hk : k ≤ 1000) : Met l yL_cell wsL_cell { frames := 0, cells := 0, slots := 0, locals := 0 } (nk_Psc b L xs [.ref b, .int (nI k)]) (nk_Rd (some (.int (cellV L xs k)))) 0 0 (fun _ => False) := by
  refine Met.ofW (cc := cL_cell) (maxL := 2) (ret := (some .int)) (by decide) rfl ?_
  intro p e s m args below meth c s₁ B hml hv
  obtain ⟨hargs, hX, hbl⟩ := hv
  have hx := B.exec
  have hb := B.bytes
  have hr := B.returns
  have hts := atoms_spec (ws := wsL_cell) B.pre
  have hown : s.vm.findClass RL = some m.cls := findClass_of_methodNamed B.named
  have hlocks := B.notSynchronized
  have hS : va_S (fun _ => False) s.heap s.heap [] := va_S.rf
  have hl := lv_entry ([.ref b, .int (nI k)]) (n := 2) (Nat.le_of_ble_eq_true rfl)
  have hEe : entryFrame m args 2 = entryFrame m ([.ref b, .int (nI k)] : List Value).toArray 2 := by rw [hargs]
  rw [hEe, lg_entry_eq]
  generalize (lg_sl ([.ref b, .int (nI k)]) ++ List.replicate (2 - (lg_sl ([.ref b, .int (nI k)])).length) Slot.unset).toArray = ls at hl ⊢
  have hl : lv_has ls 2 [(0, .ref b), (1, .int (nI k))] := hl
  have k8 : (Cond.constant RL 8 (nI 40503)).before args s = true := by
    rw [show (nI 40503 : Int32) = 40503 from by decide +kernel]
    exact hts (.constant RL 8 (40503)) (by decide +kernel)
  refine lv_iload_n hx hb dL_cell_0 rfl (lv_at hl 1 rfl) ?_
  refine lv_aload_n hx hb dL_cell_1 rfl (lv_at hl 0 rfl) ?_
  refine va_slen hx hb hX hbl (fun q => q) hS dL_cell_2 ?_
  refine nk_topi (y := nI L) rfl ?_
  refine nk_icmp_ge (tgt := 12) hx hb (by omega) (by omega) dL_cell_3 (by decide) (fun c3 => ?_) (fun c3 => ?_)
  · refine lv_ldc (v := nI 40503) hx hb hown k8 dL_cell_12 ?_
    refine lv_iload_n hx hb dL_cell_14 rfl (lv_at hl 1 rfl) ?_
    refine nk_imul hx hb dL_cell_15 ?_
    refine lv_sipush (v := nI 977) hx hb dL_cell_16 (by decide +kernel) ?_
    refine nk_iadd hx hb dL_cell_19 ?_
    refine nk_topi (y := cellV L xs k) (by unfold cellV; rw [if_neg (by omega)]) ?_
    exact W.iret hx hb hr (fun t ht hW => ⟨rfl, ht⟩) (fun z h => nomatch h) dL_cell_20
  · refine lv_aload_n hx hb dL_cell_6 rfl (lv_at hl 0 rfl) ?_
    refine lv_iload_n hx hb dL_cell_7 rfl (lv_at hl 1 rfl) ?_
    refine va_sld hx hb hX hbl (fun q => q) hS (vp_in_nI (by omega) (by omega)) dL_cell_8 ?_
    refine nk_topi (y := cellV L xs k) (by rw [nI_clamp (by omega)]; unfold cellV; rw [if_pos c3]) ?_
    refine lv_goto (tgt := 20) hx hb dL_cell_9 (by decide) ?_
    exact W.iret hx hb hr (fun t ht hW => ⟨rfl, ht⟩) (fun z h => nomatch h) dL_cell_20
set_option maxHeartbeats 8000000 in
set_option maxRecDepth 100000 in
theorem c_L_holds (l : Launch) (hfl : l.stackTraces = false) (D : va_G) (h0 h1 h2 h3 h4 h5 h6 h7 h8 h9 : Nat) (cI cJ : ClassId) (d r lc bg w rm k pn : Nat) (fa e1 am dd rt b pd pt tp : Nat → Nat) (sz : Nat) (gb dr pa pi : Nat) (ga e2 : Nat → Nat)  (hI : Inv d r lc bg w rm k pn fa e1 am dd rt b pd pt tp gb dr pa pi ga e2) : Met l yL_holds wsL_holds { frames := 7, cells := 1, slots := 6, locals := 113 } (nk_Px D (wX h0 h1 h2 h3 h4 h5 h6 h7 h8 h9 cI cJ d r lc bg w rm k pn fa e1 am dd rt b pd pt tp) (tX cI cJ) sz [.ref h0]) (nk_Rd (some (.int (nI 1)))) 1 6 (fun _ => False) := by
  refine Met.ofW (cc := cL_holds) (maxL := 6) (ret := (some .boolean)) (by decide) rfl ?_
  intro p e s m args below meth c s₁ B hml hv
  obtain ⟨hargs, hsz, hP, hK, hD0, hZ⟩ := hv
  have hx := B.exec
  have hb := B.bytes
  have hr := B.returns
  have hts := atoms_spec (ws := wsL_holds) B.pre
  have hown : s.vm.findClass RL = some m.cls := findClass_of_methodNamed B.named
  have hlocks := B.notSynchronized
  subst hsz
  have hD := hD0.self (sz := s.heap.size)
  have hA : ∀ q : Nat, s.heap.size ≤ q → (fun q => s.heap.size ≤ q) q := fun q h => h
  have hS : va_S (fun q => s.heap.size ≤ q) s.heap s.heap [] := va_S.rf
  have hl := lv_entry ([.ref h0]) (n := 6) (Nat.le_of_ble_eq_true rfl)
  have hEe : entryFrame m args 6 = entryFrame m ([.ref h0] : List Value).toArray 6 := by rw [hargs]
  rw [hEe, lg_entry_eq]
  generalize (lg_sl ([.ref h0]) ++ List.replicate (6 - (lg_sl ([.ref h0])).length) Slot.unset).toArray = ls at hl ⊢
  have hl : lv_has ls 6 [(0, .ref h0)] := hl
  obtain ⟨hlc, hd, hk, hpn, hbg, hw, hrm, he, hed, hfa, ham, hpd, hpd2, hpt, hbs, hb9, hrt, hdd, hroll, hh1, hh2, hh3, htp, hsa, hk0, he2, he2d, hga, hgb, hgb2, hpi, hdr, hpa1, he20, he21, hk0m, he28, hgbz, halE, hmxE, hlsE⟩ := Inv_f hI
  have hbs9 := hbs
  have hbs : sm _ _ < 4611686018427387904 := Nat.lt_trans hbs9 (by decide)
  have hD9 : ceilA (sm b k) < 200000000000000 := by unfold ceilA; omega
  have hs1 := scA_ge b k
  have hs2 := scA_le b k
  have hs3 := scA_lt b k
  have hs4 : k = 0 → scA b k = 0 ∧ sm b k = 0 := scA_0
  have hs5 := sm_le k ham
  have hag := agE_in (f := e1) (y := d / 365) hfa (by omega)
  refine lv_aload_n hx hb dL_holds_0 rfl (lv_at hl 0 rfl) ?_
  refine nk_rd (W.runV (As := []) (rest := []) ⟨hx, hb, hml, hown, hts⟩ (c_X0_debt l D h0 h1 h2 h3 h4 h5 h6 h7 h8 h9 cI cJ d r lc bg w rm k pn fa e1 am dd rt b pd pt tp hk hbs) (cwV 0 hts gL_holds_X0_debt rfl rfl rfl (by decide +kernel) ⟨Nat.le_of_ble_eq_true rfl, Nat.le_of_ble_eq_true rfl⟩) ⟨nk_Pr.blind, va_recv hK hP (ci := 0) (q0 := 0) rfl rfl, fun U hU hW => ⟨rfl, by rw [hU]; exact hP, va_K.moved hW.alike hK⟩⟩ rfl rfl hl.1 rfl (lv_room (Nat.le_of_ble_eq_true rfl)) dL_holds_1 ⟨Nat.le_of_ble_eq_true rfl, Nat.le_of_ble_eq_true rfl⟩) ?_
  refine W.eq (g2 := F0 m 4 ls [.long (lN (ceilA (sm b k)))]) rfl ?_
  refine lv_lstore_n (lv' := [(1, .long (lN (ceilA (sm b k)))), (0, .ref h0)]) hx hb dL_holds_4 rfl hl (by decide) rfl (fun ls hl => ?_)
  refine lv_lconst (v := lN 0) hx hb dL_holds_5 (by decide +kernel) ?_
  refine lv_lstore_n (lv' := [(3, .long (lN 0)), (1, .long (lN (ceilA (sm b k)))), (0, .ref h0)]) hx hb dL_holds_6 rfl hl (by decide) rfl (fun ls hl => ?_)
  refine lv_iconst (v := nI 0) hx hb dL_holds_7 (by decide +kernel) ?_
  refine lv_istore (lv' := [(5, .int (nI 0)), (3, .long (lN 0)), (1, .long (lN (ceilA (sm b k)))), (0, .ref h0)]) hx hb dL_holds_8 hl (by decide) rfl (fun ls hl => ?_)
  have loop10 : ∀ (n : Nat) (i : Nat), (i ≤ k) → k + 1 ≤ i + n → ∀ ls : Array Slot, lv_has ls 6 [(0, .ref h0), (1, .long (lN (ceilA (sm b k)))), (3, .long (lN (scA b i))), (5, .int (nI i))] → W p l e (headSpec wsL_holds { frames := 7, cells := 1, slots := 6, locals := 113 }).room s m args below meth c s.heap [] (0) (0) (MQ below (nk_Rd (some (.int (nI 1)))) args s 1 6 (fun _ => False)) (F0 m 10 ls []) := by
    intro n
    induction n with
    | zero =>
      intro i hi hm
      exfalso; omega
    | succ n ih10 =>
      intro i hi hm ls hl
      refine lv_iload hx hb dL_holds_10 (lv_at hl 3 rfl) ?_
      refine lv_aload_n hx hb dL_holds_12 rfl (lv_at hl 0 rfl) ?_
      refine nk_rd (W.runV (As := []) (rest := [.int (nI i)]) ⟨hx, hb, hml, hown, hts⟩ (c_X0_drawings l D h0 h1 h2 h3 h4 h5 h6 h7 h8 h9 cI cJ d r lc bg w rm k pn fa e1 am dd rt b pd pt tp) (cwV 0 hts gL_holds_X0_drawings rfl rfl rfl (by decide +kernel) ⟨Nat.le_of_ble_eq_true rfl, Nat.le_of_ble_eq_true rfl⟩) ⟨nk_Pr.blind, va_recv hK hP (ci := 0) (q0 := 0) rfl rfl, fun U hU hW => ⟨rfl, by rw [hU]; exact hP, va_K.moved hW.alike hK⟩⟩ rfl rfl hl.1 rfl (lv_room (Nat.le_of_ble_eq_true rfl)) dL_holds_13 ⟨Nat.le_of_ble_eq_true rfl, Nat.le_of_ble_eq_true rfl⟩) ?_
      refine W.eq (g2 := F0 m 16 ls [.int (nI k), .int (nI i)]) rfl ?_
      refine nk_icmp_ge (tgt := 34) hx hb (by omega) (by omega) dL_holds_16 (by decide) (fun c16 => ?_) (fun c16 => ?_)
      · have e9 : i = k := by omega
        rw [e9] at hl
        refine lv_lload_n hx hb dL_holds_34 rfl (lv_at hl 1 rfl) ?_
        refine lv_aload_n hx hb dL_holds_35 rfl (lv_at hl 0 rfl) ?_
        refine nk_rd (W.runV (As := []) (rest := [.long (lN (ceilA (sm b k)))]) ⟨hx, hb, hml, hown, hts⟩ (c_X0_debtAnew l D h0 h1 h2 h3 h4 h5 h6 h7 h8 h9 cI cJ d r lc bg w rm k pn fa e1 am dd rt b pd pt tp hpn hk hlc he hd ham hrt hdd hpd2 hh1 hh2 hh3 htp (by rw [hsa]; omega)) (cwV 0 hts gL_holds_X0_debtAnew rfl rfl rfl (by decide +kernel) ⟨Nat.le_of_ble_eq_true rfl, Nat.le_of_ble_eq_true rfl⟩) ⟨nk_Pr.blind, va_recv hK hP (ci := 0) (q0 := 0) rfl rfl, fun U hU hW => ⟨rfl, by rw [hU]; exact hP, va_K.moved hW.alike hK⟩⟩ rfl rfl hl.1 rfl (lv_room (Nat.le_of_ble_eq_true rfl)) dL_holds_36 ⟨Nat.le_of_ble_eq_true rfl, Nat.le_of_ble_eq_true rfl⟩) ?_
        refine W.eq (g2 := F0 m 39 ls [.long (lN (ceilA (sm (anw am dd rt pd tp (dyE d lc e1) pn) k))), .long (lN (ceilA (sm b k)))]) rfl ?_
        refine nk_topl (y := (lN (ceilA (sm b k)))) (by rw [hsa]) ?_
        refine nk_lcmp_ne (tgt := 85) hx hb (by omega) (by omega) dL_holds_39 dL_holds_40 (by decide) (fun c39 => ?_) (fun c39 => ?_)
        · exfalso; omega
        · refine lv_lload_n hx hb dL_holds_43 rfl (lv_at hl 1 rfl) ?_
          refine lv_lconst (v := lN 0) hx hb dL_holds_44 (by decide +kernel) ?_
          refine nk_lcmp_lt (tgt := 85) hx hb (by omega) (by omega) dL_holds_45 dL_holds_46 (by decide) (fun c45 => ?_) (fun c45 => ?_)
          · exfalso; omega
          · refine lv_lload_n hx hb dL_holds_49 rfl (lv_at hl 1 rfl) ?_
            refine lv_lload_n hx hb dL_holds_50 rfl (lv_at hl 2 rfl) ?_
            refine nk_lcmp_gt (tgt := 85) hx hb (by omega) (by omega) dL_holds_51 dL_holds_52 (by decide) (fun c51 => ?_) (fun c51 => ?_)
            · exfalso; omega
            · refine lv_lload_n hx hb dL_holds_55 rfl (lv_at hl 1 rfl) ?_
              refine lv_lload_n hx hb dL_holds_56 rfl (lv_at hl 2 rfl) ?_
              refine lv_aload_n hx hb dL_holds_57 rfl (lv_at hl 0 rfl) ?_
              refine nk_rd (W.runV (As := []) (rest := [.long (lN (scA b k)), .long (lN (ceilA (sm b k)))]) ⟨hx, hb, hml, hown, hts⟩ (c_X0_drawings l D h0 h1 h2 h3 h4 h5 h6 h7 h8 h9 cI cJ d r lc bg w rm k pn fa e1 am dd rt b pd pt tp) (cwV 0 hts gL_holds_X0_drawings rfl rfl rfl (by decide +kernel) ⟨Nat.le_of_ble_eq_true rfl, Nat.le_of_ble_eq_true rfl⟩) ⟨nk_Pr.blind, va_recv hK hP (ci := 0) (q0 := 0) rfl rfl, fun U hU hW => ⟨rfl, by rw [hU]; exact hP, va_K.moved hW.alike hK⟩⟩ rfl rfl hl.1 rfl (lv_room (Nat.le_of_ble_eq_true rfl)) dL_holds_58 ⟨Nat.le_of_ble_eq_true rfl, Nat.le_of_ble_eq_true rfl⟩) ?_
              refine W.eq (g2 := F0 m 61 ls [.int (nI k), .long (lN (scA b k)), .long (lN (ceilA (sm b k)))]) rfl ?_
              refine nk_i2l hx hb (by omega) dL_holds_61 ?_
              refine lv_lsub hx hb dL_holds_62  ?_
              refine lv_aload_n hx hb dL_holds_63 rfl (lv_at hl 0 rfl) ?_
              refine nk_rd (W.runV (As := []) (rest := [.long ((lN (scA b k)) - (lN k)), .long (lN (ceilA (sm b k)))]) ⟨hx, hb, hml, hown, hts⟩ (c_X0_drawings l D h0 h1 h2 h3 h4 h5 h6 h7 h8 h9 cI cJ d r lc bg w rm k pn fa e1 am dd rt b pd pt tp) (cwV 0 hts gL_holds_X0_drawings rfl rfl rfl (by decide +kernel) ⟨Nat.le_of_ble_eq_true rfl, Nat.le_of_ble_eq_true rfl⟩) ⟨nk_Pr.blind, va_recv hK hP (ci := 0) (q0 := 0) rfl rfl, fun U hU hW => ⟨rfl, by rw [hU]; exact hP, va_K.moved hW.alike hK⟩⟩ rfl rfl hl.1 rfl (lv_room (Nat.le_of_ble_eq_true rfl)) dL_holds_64 ⟨Nat.le_of_ble_eq_true rfl, Nat.le_of_ble_eq_true rfl⟩) ?_
              refine W.eq (g2 := F0 m 67 ls [.int (nI k), .long ((lN (scA b k)) - (lN k)), .long (lN (ceilA (sm b k)))]) rfl ?_
              have kj75 : ∀ (q9 : Nat), ((q9 = 1 ∧ k = 0) ∨ (q9 = 0 ∧ 0 < k)) → W p l e (headSpec wsL_holds { frames := 7, cells := 1, slots := 6, locals := 113 }).room s m args below meth c s.heap [] (0) (0) (MQ below (nk_Rd (some (.int (nI 1)))) args s 1 6 (fun _ => False)) (F0 m 75 ls [.int (nI q9), .long ((lN (scA b k)) - (lN k)), .long (lN (ceilA (sm b k)))]) := by
                intro q9 hq9
                refine nk_i2l hx hb (by omega) dL_holds_75 ?_
                refine lv_lsub hx hb dL_holds_76  ?_
                refine nk_ZL_le (tgt := 85) hx hb (pk_lT (by omega)) (nk_sub2L (by omega) (by omega) (by omega)) dL_holds_77 dL_holds_78 (by decide) (fun c77 => ?_) (fun c77 => ?_)
                · exfalso; omega
                · refine lv_iconst (v := nI 1) hx hb dL_holds_81 (by decide +kernel) ?_
                  refine lv_goto (tgt := 86) hx hb dL_holds_82 (by decide) ?_
                  refine lv_istore (lv' := [(5, .int (nI 1)), (0, .ref h0), (1, .long (lN (ceilA (sm b k)))), (3, .long (lN (scA b k)))]) hx hb dL_holds_86 hl (by decide) rfl (fun ls hl => ?_)
                  refine lv_iload hx hb dL_holds_88 (lv_at hl 0 rfl) ?_
                  refine nk_if_eq (tgt := 152) hx hb (by omega) dL_holds_90 (by decide) (fun c90 => ?_) (fun c90 => ?_)
                  · exfalso; omega
                  · refine lv_aload_n hx hb dL_holds_93 rfl (lv_at hl 1 rfl) ?_
                    refine nk_rd (W.runV (As := []) (rest := []) ⟨hx, hb, hml, hown, hts⟩ (c_X0_owed l D h0 h1 h2 h3 h4 h5 h6 h7 h8 h9 cI cJ d r lc bg w rm k pn fa e1 am dd rt b pd pt tp hk hbs hw) (cwV 0 hts gL_holds_X0_owed rfl rfl rfl (by decide +kernel) ⟨Nat.le_of_ble_eq_true rfl, Nat.le_of_ble_eq_true rfl⟩) ⟨nk_Pr.blind, va_recv hK hP (ci := 0) (q0 := 0) rfl rfl, fun U hU hW => ⟨rfl, by rw [hU]; exact hP, va_K.moved hW.alike hK⟩⟩ rfl rfl hl.1 rfl (lv_room (Nat.le_of_ble_eq_true rfl)) dL_holds_94 ⟨Nat.le_of_ble_eq_true rfl, Nat.le_of_ble_eq_true rfl⟩) ?_
                    refine W.eq (g2 := F0 m 97 ls [.long (lN (min (ceilA (sm b k)) w))]) rfl ?_
                    refine lv_lload_n hx hb dL_holds_97 rfl (lv_at hl 2 rfl) ?_
                    refine lv_aload_n hx hb dL_holds_98 rfl (lv_at hl 1 rfl) ?_
                    refine nk_rd (W.runV (As := []) (rest := [.long (lN (ceilA (sm b k))), .long (lN (min (ceilA (sm b k)) w))]) ⟨hx, hb, hml, hown, hts⟩ (c_X0_worth l D h0 h1 h2 h3 h4 h5 h6 h7 h8 h9 cI cJ d r lc bg w rm k pn fa e1 am dd rt b pd pt tp) (cwV 0 hts gL_holds_X0_worth rfl rfl rfl (by decide +kernel) ⟨Nat.le_of_ble_eq_true rfl, Nat.le_of_ble_eq_true rfl⟩) ⟨nk_Pr.blind, va_recv hK hP (ci := 0) (q0 := 0) rfl rfl, fun U hU hW => ⟨rfl, by rw [hU]; exact hP, va_K.moved hW.alike hK⟩⟩ rfl rfl hl.1 rfl (lv_room (Nat.le_of_ble_eq_true rfl)) dL_holds_99 ⟨Nat.le_of_ble_eq_true rfl, Nat.le_of_ble_eq_true rfl⟩) ?_
                    refine W.eq (g2 := F0 m 102 ls [.int (nI w), .long (lN (ceilA (sm b k))), .long (lN (min (ceilA (sm b k)) w))]) rfl ?_
                    refine nk_i2l hx hb (by omega) dL_holds_102 ?_
                    have kj116 : W p l e (headSpec wsL_holds { frames := 7, cells := 1, slots := 6, locals := 113 }).room s m args below meth c s.heap [] (0) (0) (MQ below (nk_Rd (some (.int (nI 1)))) args s 1 6 (fun _ => False)) (F0 m 116 ls [.long (lN (min (ceilA (sm b k)) w)), .long (lN (min (ceilA (sm b k)) w))]) := by
                      refine nk_lcmp_ne (tgt := 152) hx hb (by omega) (by omega) dL_holds_116 dL_holds_117 (by decide) (fun c116 => ?_) (fun c116 => ?_)
                      · exfalso; omega
                      · refine lv_aload_n hx hb dL_holds_120 rfl (lv_at hl 1 rfl) ?_
                        refine nk_rd (W.runV (As := []) (rest := []) ⟨hx, hb, hml, hown, hts⟩ (c_X0_spared l D h0 h1 h2 h3 h4 h5 h6 h7 h8 h9 cI cJ d r lc bg w rm k pn fa e1 am dd rt b pd pt tp hk hbs hw) (cwV 0 hts gL_holds_X0_spared rfl rfl rfl (by decide +kernel) ⟨Nat.le_of_ble_eq_true rfl, Nat.le_of_ble_eq_true rfl⟩) ⟨nk_Pr.blind, va_recv hK hP (ci := 0) (q0 := 0) rfl rfl, fun U hU hW => ⟨rfl, by rw [hU]; exact hP, va_K.moved hW.alike hK⟩⟩ rfl rfl hl.1 rfl (lv_room (Nat.le_of_ble_eq_true rfl)) dL_holds_121 ⟨Nat.le_of_ble_eq_true rfl, Nat.le_of_ble_eq_true rfl⟩) ?_
                        refine W.eq (g2 := F0 m 124 ls [.long (lN (ceilA (sm b k) - min (ceilA (sm b k)) w))]) rfl ?_
                        refine lv_lload_n hx hb dL_holds_124 rfl (lv_at hl 2 rfl) ?_
                        refine lv_aload_n hx hb dL_holds_125 rfl (lv_at hl 1 rfl) ?_
                        refine nk_rd (W.runV (As := []) (rest := [.long (lN (ceilA (sm b k))), .long (lN (ceilA (sm b k) - min (ceilA (sm b k)) w))]) ⟨hx, hb, hml, hown, hts⟩ (c_X0_owed l D h0 h1 h2 h3 h4 h5 h6 h7 h8 h9 cI cJ d r lc bg w rm k pn fa e1 am dd rt b pd pt tp hk hbs hw) (cwV 0 hts gL_holds_X0_owed rfl rfl rfl (by decide +kernel) ⟨Nat.le_of_ble_eq_true rfl, Nat.le_of_ble_eq_true rfl⟩) ⟨nk_Pr.blind, va_recv hK hP (ci := 0) (q0 := 0) rfl rfl, fun U hU hW => ⟨rfl, by rw [hU]; exact hP, va_K.moved hW.alike hK⟩⟩ rfl rfl hl.1 rfl (lv_room (Nat.le_of_ble_eq_true rfl)) dL_holds_126 ⟨Nat.le_of_ble_eq_true rfl, Nat.le_of_ble_eq_true rfl⟩) ?_
                        refine W.eq (g2 := F0 m 129 ls [.long (lN (min (ceilA (sm b k)) w)), .long (lN (ceilA (sm b k))), .long (lN (ceilA (sm b k) - min (ceilA (sm b k)) w))]) rfl ?_
                        refine nk_lsub hx hb (Nat.min_le_left _ _) dL_holds_129 ?_
                        refine nk_lcmp_ne (tgt := 152) hx hb (by omega) (by omega) dL_holds_130 dL_holds_131 (by decide) (fun c130 => ?_) (fun c130 => ?_)
                        · exfalso; omega
                        · refine lv_aload_n hx hb dL_holds_134 rfl (lv_at hl 1 rfl) ?_
                          refine nk_rd (W.runV (As := []) (rest := []) ⟨hx, hb, hml, hown, hts⟩ (c_X0_room l D h0 h1 h2 h3 h4 h5 h6 h7 h8 h9 cI cJ d r lc bg w rm k pn fa e1 am dd rt b pd pt tp) (cwV 0 hts gL_holds_X0_room rfl rfl rfl (by decide +kernel) ⟨Nat.le_of_ble_eq_true rfl, Nat.le_of_ble_eq_true rfl⟩) ⟨nk_Pr.blind, va_recv hK hP (ci := 0) (q0 := 0) rfl rfl, fun U hU hW => ⟨rfl, by rw [hU]; exact hP, va_K.moved hW.alike hK⟩⟩ rfl rfl hl.1 rfl (lv_room (Nat.le_of_ble_eq_true rfl)) dL_holds_135 ⟨Nat.le_of_ble_eq_true rfl, Nat.le_of_ble_eq_true rfl⟩) ?_
                          refine W.eq (g2 := F0 m 138 ls [.int (nI rm)]) rfl ?_
                          refine nk_if_ltN (tgt := 152) hx hb (by omega) dL_holds_138 (by decide) ?_
                          refine lv_aload_n hx hb dL_holds_141 rfl (lv_at hl 1 rfl) ?_
                          refine nk_rd (W.runV (As := []) (rest := []) ⟨hx, hb, hml, hown, hts⟩ (c_X0_allowance l D h0 h1 h2 h3 h4 h5 h6 h7 h8 h9 cI cJ d r lc bg w rm k pn fa e1 am dd rt b pd pt tp hk ham hpn hbg hd hpd hpt) (cwV 0 hts gL_holds_X0_allowance rfl rfl rfl (by decide +kernel) ⟨Nat.le_of_ble_eq_true rfl, Nat.le_of_ble_eq_true rfl⟩) ⟨nk_Pr.blind, va_recv hK hP (ci := 0) (q0 := 0) rfl rfl, fun U hU hW => ⟨rfl, by rw [hU]; exact hP, va_K.moved hW.alike hK⟩⟩ rfl rfl hl.1 rfl (lv_room (Nat.le_of_ble_eq_true rfl)) dL_holds_142 ⟨Nat.le_of_ble_eq_true rfl, Nat.le_of_ble_eq_true rfl⟩) ?_
                          refine W.eq (g2 := F0 m 145 ls [.int (nI (sm am k / 10 - pY bg pd pt ((d - bg) / 365) pn))]) rfl ?_
                          have hs9 : sm am k / 10 ≤ 20000000 := by omega
                          refine nk_if_ltN (tgt := 152) hx hb (by omega) dL_holds_145 (by decide) ?_
                          refine lv_iconst (v := nI 1) hx hb dL_holds_148 (by decide +kernel) ?_
                          refine lv_goto (tgt := 153) hx hb dL_holds_149 (by decide) ?_
                          refine lv_istore (lv' := [(5, .int (nI 1)), (0, .ref h0), (1, .long (lN (ceilA (sm b k)))), (3, .long (lN (scA b k)))]) hx hb dL_holds_153 hl (by decide) rfl (fun ls hl => ?_)
                          refine lv_iload hx hb dL_holds_155 (lv_at hl 0 rfl) ?_
                          refine nk_if_eq (tgt := 196) hx hb (by omega) dL_holds_157 (by decide) (fun c157 => ?_) (fun c157 => ?_)
                          · exfalso; omega
                          · refine lv_aload_n hx hb dL_holds_160 rfl (lv_at hl 1 rfl) ?_
                            refine nk_rd (W.runV (As := []) (rest := []) ⟨hx, hb, hml, hown, hts⟩ (c_X0_age l D h0 h1 h2 h3 h4 h5 h6 h7 h8 h9 cI cJ d r lc bg w rm k pn fa e1 am dd rt b pd pt tp hlc he hfa hd) (cwV 0 hts gL_holds_X0_age rfl rfl rfl (by decide +kernel) ⟨Nat.le_of_ble_eq_true rfl, Nat.le_of_ble_eq_true rfl⟩) ⟨nk_Pr.blind, va_recv hK hP (ci := 0) (q0 := 0) rfl rfl, fun U hU hW => ⟨rfl, by rw [hU]; exact hP, va_K.moved hW.alike hK⟩⟩ rfl rfl hl.1 rfl (lv_room (Nat.le_of_ble_eq_true rfl)) dL_holds_161 ⟨Nat.le_of_ble_eq_true rfl, Nat.le_of_ble_eq_true rfl⟩) ?_
                            refine W.eq (g2 := F0 m 164 ls [.int (nI (agE fa e1 lc (d / 365)) - 1)]) rfl ?_
                            refine lv_iconst (v := -1) hx hb dL_holds_164 (by decide) ?_
                            have kj177 : W p l e (headSpec wsL_holds { frames := 7, cells := 1, slots := 6, locals := 113 }).room s m args below meth c s.heap [] (0) (0) (MQ below (nk_Rd (some (.int (nI 1)))) args s 1 6 (fun _ => False)) (F0 m 177 ls []) := by
                              refine lv_aload_n hx hb dL_holds_177 rfl (lv_at hl 1 rfl) ?_
                              refine nk_rd (W.runV (As := []) (rest := []) ⟨hx, hb, hml, hown, hts⟩ (c_X0_hasEnded l D h0 h1 h2 h3 h4 h5 h6 h7 h8 h9 cI cJ d r lc bg w rm k pn fa e1 am dd rt b pd pt tp hlc he) (cwV 0 hts gL_holds_X0_hasEnded rfl rfl rfl (by decide +kernel) ⟨Nat.le_of_ble_eq_true rfl, Nat.le_of_ble_eq_true rfl⟩) ⟨nk_Pr.blind, va_recv hK hP (ci := 0) (q0 := 0) rfl rfl, fun U hU hW => ⟨rfl, by rw [hU]; exact hP, va_K.moved hW.alike hK⟩⟩ rfl rfl hl.1 rfl (lv_room (Nat.le_of_ble_eq_true rfl)) dL_holds_178 ⟨Nat.le_of_ble_eq_true rfl, Nat.le_of_ble_eq_true rfl⟩) ?_
                              refine W.eq (g2 := F0 m 181 ls [.int (nI (if 0 < lc ∧ alive e1 lc = 0 then 1 else 0))]) rfl ?_
                              refine nk_bif_eq (tgt := 192) hx hb dL_holds_181 (by decide) (fun c181 => ?_) (fun c181 => ?_)
                              · refine lv_iconst (v := nI 1) hx hb dL_holds_192 (by decide +kernel) ?_
                                refine lv_goto (tgt := 197) hx hb dL_holds_193 (by decide) ?_
                                refine W.widen (k := 1) (n := 6) (by decide) (by decide) ?_
                                exact W.zret (ty := .boolean) hx hb hr rfl (fun t ht hW => ⟨rfl, ht⟩) (fun z h => nomatch h) dL_holds_197
                              · have hae : agE fa e1 lc (d / 365) = 0 := agE_end c181.2
                                refine lv_aload_n hx hb dL_holds_184 rfl (lv_at hl 1 rfl) ?_
                                refine nk_rd (W.runV (As := []) (rest := []) ⟨hx, hb, hml, hown, hts⟩ (c_X0_age l D h0 h1 h2 h3 h4 h5 h6 h7 h8 h9 cI cJ d r lc bg w rm k pn fa e1 am dd rt b pd pt tp hlc he hfa hd) (cwV 0 hts gL_holds_X0_age rfl rfl rfl (by decide +kernel) ⟨Nat.le_of_ble_eq_true rfl, Nat.le_of_ble_eq_true rfl⟩) ⟨nk_Pr.blind, va_recv hK hP (ci := 0) (q0 := 0) rfl rfl, fun U hU hW => ⟨rfl, by rw [hU]; exact hP, va_K.moved hW.alike hK⟩⟩ rfl rfl hl.1 rfl (lv_room (Nat.le_of_ble_eq_true rfl)) dL_holds_185 ⟨Nat.le_of_ble_eq_true rfl, Nat.le_of_ble_eq_true rfl⟩) ?_
                                refine W.eq (g2 := F0 m 188 ls [.int (nI (agE fa e1 lc (d / 365)) - 1)]) rfl ?_
                                refine lv_iconst (v := -1) hx hb dL_holds_188 (by decide) ?_
                                refine nk_ecmp_ne (tgt := 196) hx hb (by omega) dL_holds_189 (by decide) (fun c189 => ?_) (fun c189 => ?_)
                                · exfalso; omega
                                · refine lv_iconst (v := nI 1) hx hb dL_holds_192 (by decide +kernel) ?_
                                  refine lv_goto (tgt := 197) hx hb dL_holds_193 (by decide) ?_
                                  refine W.widen (k := 1) (n := 6) (by decide) (by decide) ?_
                                  exact W.zret (ty := .boolean) hx hb hr rfl (fun t ht hW => ⟨rfl, ht⟩) (fun z h => nomatch h) dL_holds_197
                            refine nk_ecmp_eq (tgt := 177) hx hb (by omega) dL_holds_165 (by decide) (fun c165 => ?_) (fun c165 => ?_)
                            · exact kj177
                            · refine lv_aload_n hx hb dL_holds_168 rfl (lv_at hl 1 rfl) ?_
                              refine nk_rd (W.runV (As := []) (rest := []) ⟨hx, hb, hml, hown, hts⟩ (c_X0_age l D h0 h1 h2 h3 h4 h5 h6 h7 h8 h9 cI cJ d r lc bg w rm k pn fa e1 am dd rt b pd pt tp hlc he hfa hd) (cwV 0 hts gL_holds_X0_age rfl rfl rfl (by decide +kernel) ⟨Nat.le_of_ble_eq_true rfl, Nat.le_of_ble_eq_true rfl⟩) ⟨nk_Pr.blind, va_recv hK hP (ci := 0) (q0 := 0) rfl rfl, fun U hU hW => ⟨rfl, by rw [hU]; exact hP, va_K.moved hW.alike hK⟩⟩ rfl rfl hl.1 rfl (lv_room (Nat.le_of_ble_eq_true rfl)) dL_holds_169 ⟨Nat.le_of_ble_eq_true rfl, Nat.le_of_ble_eq_true rfl⟩) ?_
                              refine W.eq (g2 := F0 m 172 ls [.int (nI (agE fa e1 lc (d / 365)) - 1)]) rfl ?_
                              refine lv_bipush (v := nI 55) hx hb dL_holds_172 (by decide +kernel) ?_
                              refine nk_ecmp_lt (tgt := 196) hx hb (by omega) (by omega) dL_holds_174 (by decide) (fun c174 => ?_) (fun c174 => ?_)
                              · exfalso; omega
                              · exact kj177
                    refine nk_lcmp_ge (tgt := 111) hx hb (by omega) (by omega) dL_holds_103 dL_holds_104 (by decide) (fun c103 => ?_) (fun c103 => ?_)
                    · refine lv_aload_n hx hb dL_holds_111 rfl (lv_at hl 1 rfl) ?_
                      refine nk_rd (W.runV (As := []) (rest := [.long (lN (min (ceilA (sm b k)) w))]) ⟨hx, hb, hml, hown, hts⟩ (c_X0_worth l D h0 h1 h2 h3 h4 h5 h6 h7 h8 h9 cI cJ d r lc bg w rm k pn fa e1 am dd rt b pd pt tp) (cwV 0 hts gL_holds_X0_worth rfl rfl rfl (by decide +kernel) ⟨Nat.le_of_ble_eq_true rfl, Nat.le_of_ble_eq_true rfl⟩) ⟨nk_Pr.blind, va_recv hK hP (ci := 0) (q0 := 0) rfl rfl, fun U hU hW => ⟨rfl, by rw [hU]; exact hP, va_K.moved hW.alike hK⟩⟩ rfl rfl hl.1 rfl (lv_room (Nat.le_of_ble_eq_true rfl)) dL_holds_112 ⟨Nat.le_of_ble_eq_true rfl, Nat.le_of_ble_eq_true rfl⟩) ?_
                      refine W.eq (g2 := F0 m 115 ls [.int (nI w), .long (lN (min (ceilA (sm b k)) w))]) rfl ?_
                      refine nk_i2l hx hb (by omega) dL_holds_115 ?_
                      refine nk_topl (y := lN (min (ceilA (sm b k)) w)) (by rw [Nat.min_eq_right (by omega)]) ?_
                      exact kj116
                    · refine lv_lload_n hx hb dL_holds_107 rfl (lv_at hl 2 rfl) ?_
                      refine lv_goto (tgt := 116) hx hb dL_holds_108 (by decide) ?_
                      refine nk_topl (y := lN (min (ceilA (sm b k)) w)) (by rw [Nat.min_eq_left (by omega)]) ?_
                      exact kj116
              refine nk_if_ne (tgt := 74) hx hb (by omega) dL_holds_67 (by decide) (fun c67 => ?_) (fun c67 => ?_)
              · refine lv_iconst (v := nI 0) hx hb dL_holds_74 (by decide +kernel) ?_
                exact kj75 0 (Or.inr ⟨rfl, by omega⟩)
              · refine lv_iconst (v := nI 1) hx hb dL_holds_70 (by decide +kernel) ?_
                refine lv_goto (tgt := 75) hx hb dL_holds_71 (by decide) ?_
                exact kj75 1 (Or.inl ⟨rfl, by omega⟩)
      · refine lv_lload_n hx hb dL_holds_19 rfl (lv_at hl 2 rfl) ?_
        refine lv_aload_n hx hb dL_holds_20 rfl (lv_at hl 0 rfl) ?_
        refine lv_iload hx hb dL_holds_21 (lv_at hl 3 rfl) ?_
        refine nk_rdx (vx_runV (As := [.int (nI i)]) (rest := [.long (lN (scA b i))]) ⟨hx, hb, hml, hown, hts⟩ (c_X0_balance l hfl D h0 h1 h2 h3 h4 h5 h6 h7 h8 h9 cI cJ d r lc bg w rm k pn fa e1 am dd rt b pd pt tp s.heap.size (nI i) ((i : Nat) : Int) i (nI_toInt (by omega)) (fun _ => ⟨rfl, by omega⟩) hk hb9) (cwV 1 hts gL_holds_X0_balance rfl rfl rfl (by decide +kernel) ⟨Nat.le_of_ble_eq_true rfl, Nat.le_of_ble_eq_true rfl⟩) ⟨nk_Px.blind, va_recv hK hP (ci := 0) (q0 := 0) rfl rfl, fun U hU hW => ⟨rfl, by rw [hU], by rw [hU]; exact hP, va_K.moved hW.alike hK, hD.weaken (fun _ _ _ _ => trivial), by rw [hU]; exact nk_Z.go hZ hW (fun _ h => h)⟩⟩ rfl rfl hl.1 rfl (lv_room (Nat.le_of_ble_eq_true rfl)) dL_holds_23 ⟨Nat.le_of_ble_eq_true rfl, Nat.le_of_ble_eq_true rfl⟩) hS hA (fun E ce q9 H1 hE hz hk9 hS1 hce hcv hcl => ?_) (fun hok23 => ?_)
        · exfalso; have h9 := hE.2; omega
        refine W.eq (g2 := F0 m 26 ls [.long (lN (ceilA (b i))), .long (lN (scA b i))]) rfl ?_
        refine nk_ladd hx hb dL_holds_26 ?_
        refine lv_lstore_n (lv' := [(3, .long (lN ((scA b i) + (ceilA (b i))))), (0, .ref h0), (1, .long (lN (ceilA (sm b k)))), (5, .int (nI i))]) hx hb dL_holds_27 rfl hl (by decide) rfl (fun ls hl => ?_)
        refine lv_iinc (v := (nI (i + 1))) (lv' := [(5, .int (nI (i + 1))), (3, .long (lN ((scA b i) + (ceilA (b i))))), (0, .ref h0), (1, .long (lN (ceilA (sm b k))))]) hx hb dL_holds_28 hl (k := 3) rfl (nI_1 _) (by decide) rfl (fun ls hl => ?_)
        refine lv_goto (tgt := 10) hx hb dL_holds_31 (by decide) ?_
        have q9 : ((lN (scA b (i + 1)))) = ((lN ((scA b i) + (ceilA (b i))))) := rfl
        have hl : lv_has ls 6 [(0, .ref h0), (1, .long (lN (ceilA (sm b k)))), (3, .long (lN (scA b (i + 1)))), (5, .int (nI (i + 1)))] := by
          rw [q9]
          exact lv_sub hl [2, 3, 1, 0] rfl
        exact ih10 (i + 1) (by omega) (by omega) ls hl
  exact loop10 (k + 1) 0 (by omega) (by omega) ls (lv_sub hl [3, 2, 1, 0] rfl)
end
section
/-- a world of the class in which what holds between the calls holds, lives as they were -/
def nk_LW (h0 h1 h2 h3 h4 h5 h6 h7 h8 h9 : Nat) (cI cJ : ClassId) (lc : Nat) (e1 : Nat → Nat) (w1 : va_W) : Prop :=
  ∃ (d r bg w rm k pn : Nat) (fa am dd rt b pd pt tp : Nat → Nat) (gb dr pa pi : Nat) (ga e2 : Nat → Nat), Inv d r lc bg w rm k pn fa e1 am dd rt b pd pt tp gb dr pa pi ga e2 ∧ w1 = wX h0 h1 h2 h3 h4 h5 h6 h7 h8 h9 cI cJ d r lc bg w rm k pn fa e1 am dd rt b pd pt tp
theorem lwV_i {x : Int32} {n : Nat} (h : 0 < n) (h2 : n ≤ 2147483648) : lwV x n < 2147483648 := Nat.lt_of_lt_of_le (lwV_lt h) h2
set_option maxHeartbeats 8000000 in
set_option maxRecDepth 100000 in
theorem c_L_loan (l : Launch) (hfl : l.stackTraces = false) (D : va_G) (h0 h1 h2 h3 h4 h5 h6 h7 h8 h9 : Nat) (cI cJ : ClassId) (d r lc bg w rm k pn : Nat) (fa e1 am dd rt b pd pt tp : Nat → Nat) (sz : Nat) (gb dr pa pi : Nat) (ga e2 : Nat → Nat) (v9 : Int32) (q9 : Nat) (hI : Inv d r lc bg w rm k pn fa e1 am dd rt b pd pt tp gb dr pa pi ga e2) (hlc1 : 0 < lc) (hq9 : q9 < 10) : Met l yL_loan wsL_loan { frames := 9, cells := 2, slots := 12, locals := 160 } (nk_Px D (wX h0 h1 h2 h3 h4 h5 h6 h7 h8 h9 cI cJ d r lc bg w rm k pn fa e1 am dd rt b pd pt tp) (tX cI cJ) sz [.ref h0, .int v9, .int (nI q9)]) (va_Qi (fun r9 w1 => r9 = nI 1 ∧ nk_LW h0 h1 h2 h3 h4 h5 h6 h7 h8 h9 cI cJ lc e1 w1) (fun w1 t => nk_At D (tX cI cJ) (va_A (wX h0 h1 h2 h3 h4 h5 h6 h7 h8 h9 cI cJ d r lc bg w rm k pn fa e1 am dd rt b pd pt tp) sz) w1 t) (va_A (wX h0 h1 h2 h3 h4 h5 h6 h7 h8 h9 cI cJ d r lc bg w rm k pn fa e1 am dd rt b pd pt tp) sz)) 2 12 (va_A (wX h0 h1 h2 h3 h4 h5 h6 h7 h8 h9 cI cJ d r lc bg w rm k pn fa e1 am dd rt b pd pt tp) sz) := by
  refine Met.ofW (cc := cL_loan) (maxL := 9) (ret := (some .boolean)) (by decide) rfl ?_
  intro p e s m args below meth c s₁ B hml hv
  obtain ⟨hargs, hsz, hP, hK, hD0, hZ⟩ := hv
  have hx := B.exec
  have hb := B.bytes
  have hr := B.returns
  have hts := atoms_spec (ws := wsL_loan) B.pre
  have hown : s.vm.findClass RL = some m.cls := findClass_of_methodNamed B.named
  have hlocks := B.notSynchronized
  subst hsz
  have hD := hD0.self (sz := s.heap.size)
  generalize hAe : va_A (wX h0 h1 h2 h3 h4 h5 h6 h7 h8 h9 cI cJ d r lc bg w rm k pn fa e1 am dd rt b pd pt tp) s.heap.size = A at hD hZ ⊢
  have hA : ∀ q : Nat, s.heap.size ≤ q → A q := fun q h => by rw [← hAe]; exact Or.inr h
  have hS : va_S A s.heap s.heap [] := va_S.rf
  have k86 : (Cond.constant RL 86 (nI 10000001)).before args s = true := by
    rw [show (nI 10000001 : Int32) = 10000001 from by decide +kernel]
    exact hts (.constant RL 86 (10000001)) (by decide +kernel)
  have k78 : (Cond.constant RL 78 (nI 10000000)).before args s = true := by
    rw [show (nI 10000000 : Int32) = 10000000 from by decide +kernel]
    exact hts (.constant RL 78 (10000000)) (by decide +kernel)
  have hl := lv_entry ([.ref h0, .int v9, .int (nI q9)]) (n := 9) (Nat.le_of_ble_eq_true rfl)
  have hEe : entryFrame m args 9 = entryFrame m ([.ref h0, .int v9, .int (nI q9)] : List Value).toArray 9 := by rw [hargs]
  rw [hEe, lg_entry_eq]
  generalize (lg_sl ([.ref h0, .int v9, .int (nI q9)]) ++ List.replicate (9 - (lg_sl ([.ref h0, .int v9, .int (nI q9)])).length) Slot.unset).toArray = ls at hl ⊢
  have hl : lv_has ls 9 [(0, .ref h0), (1, .int v9), (2, .int (nI q9))] := hl
  obtain ⟨hlc, hd, hk, hpn, hbg, hw, hrm, he, hed, hfa, ham, hpd, hpd2, hpt, hbs, hb9, hrt, hdd, hroll, hh1, hh2, hh3, htp, hsa, hk0, he2, he2d, hga, hgb, hgb2, hpi, hdr, hpa1, he20, he21, hk0m, he28, hgbz, halE, hmxE, hlsE⟩ := Inv_f hI
  have hbs9 := hbs
  have hbs : sm _ _ < 4611686018427387904 := Nat.lt_trans hbs9 (by decide)
  have hD9 : ceilA (sm b k) < 200000000000000 := by unfold ceilA; omega
  refine lv_aload_n hx hb dL_loan_0 rfl (lv_at hl 0 rfl) ?_
  refine nk_rd (W.runV (As := []) (rest := []) ⟨hx, hb, hml, hown, hts⟩ (c_X0_debt l D h0 h1 h2 h3 h4 h5 h6 h7 h8 h9 cI cJ d r lc bg w rm k pn fa e1 am dd rt b pd pt tp hk hbs) (cwV 0 hts gL_loan_X0_debt rfl rfl rfl (by decide +kernel) ⟨Nat.le_of_ble_eq_true rfl, Nat.le_of_ble_eq_true rfl⟩) ⟨nk_Pr.blind, va_recv hK hP (ci := 0) (q0 := 0) rfl rfl, fun U hU hW => ⟨rfl, by rw [hU]; exact hP, va_K.moved hW.alike hK⟩⟩ rfl rfl hl.1 rfl (lv_room (Nat.le_of_ble_eq_true rfl)) dL_loan_1 ⟨Nat.le_of_ble_eq_true rfl, Nat.le_of_ble_eq_true rfl⟩) ?_
  refine W.eq (g2 := F0 m 4 ls [.long (lN (ceilA (sm b k)))]) rfl ?_
  refine lv_lstore_n (lv' := [(3, .long (lN (ceilA (sm b k)))), (0, .ref h0), (1, .int v9), (2, .int (nI q9))]) hx hb dL_loan_4 rfl hl (by decide) rfl (fun ls hl => ?_)
  refine lv_aload_n hx hb dL_loan_5 rfl (lv_at hl 1 rfl) ?_
  refine nk_rd (W.runV (As := []) (rest := []) ⟨hx, hb, hml, hown, hts⟩ (c_X0_room l D h0 h1 h2 h3 h4 h5 h6 h7 h8 h9 cI cJ d r lc bg w rm k pn fa e1 am dd rt b pd pt tp) (cwV 0 hts gL_loan_X0_room rfl rfl rfl (by decide +kernel) ⟨Nat.le_of_ble_eq_true rfl, Nat.le_of_ble_eq_true rfl⟩) ⟨nk_Pr.blind, va_recv hK hP (ci := 0) (q0 := 0) rfl rfl, fun U hU hW => ⟨rfl, by rw [hU]; exact hP, va_K.moved hW.alike hK⟩⟩ rfl rfl hl.1 rfl (lv_room (Nat.le_of_ble_eq_true rfl)) dL_loan_6 ⟨Nat.le_of_ble_eq_true rfl, Nat.le_of_ble_eq_true rfl⟩) ?_
  refine W.eq (g2 := F0 m 9 ls [.int (nI rm)]) rfl ?_
  refine lv_istore (lv' := [(5, .int (nI rm)), (3, .long (lN (ceilA (sm b k)))), (0, .ref h0), (1, .int v9), (2, .int (nI q9))]) hx hb dL_loan_9 hl (by decide) rfl (fun ls hl => ?_)
  refine lv_iload_n hx hb dL_loan_11 rfl (lv_at hl 4 rfl) ?_
  refine lv_iconst (v := nI 4) hx hb dL_loan_12 (by decide +kernel) ?_
  refine nk_icmp_ge (tgt := 122) hx hb (by omega) (by omega) dL_loan_13 (by decide) (fun c13 => ?_) (fun c13 => ?_)
  · refine lv_iload_n hx hb dL_loan_122 rfl (lv_at hl 4 rfl) ?_
    refine lv_bipush (v := nI 8) hx hb dL_loan_123 (by decide +kernel) ?_
    refine nk_icmp_ge (tgt := 245) hx hb (by omega) (by omega) dL_loan_125 (by decide) (fun c125 => ?_) (fun c125 => ?_)
    · refine lv_iload_n hx hb dL_loan_245 rfl (lv_at hl 4 rfl) ?_
      refine lv_bipush (v := nI 9) hx hb dL_loan_246 (by decide +kernel) ?_
      refine nk_icmp_ge (tgt := 337) hx hb (by omega) (by omega) dL_loan_248 (by decide) (fun c248 => ?_) (fun c248 => ?_)
      · refine lv_iload_n hx hb dL_loan_337 rfl (lv_at hl 3 rfl) ?_
        refine lv_iload_n hx hb dL_loan_338 rfl (lv_at hl 3 rfl) ?_
        refine lv_bipush (v := nI 17) hx hb dL_loan_339 (by decide +kernel) ?_
        refine lv_ishr hx hb dL_loan_341 ?_
        refine lv_iconst (v := nI 2) hx hb dL_loan_342 (by decide +kernel) ?_
        refine nk_rd (W.runS (As := [.int (v9 >>> ((nI 17) &&& 31)), .int (nI 2)]) (rest := [.int v9]) ⟨hx, hb, hml, hown, hts⟩ (c_L_low l (v9 >>> ((nI 17) &&& 31)) 2 (by omega) (by omega)) (va_cwS 2 hts gL_loan_L_low rfl rfl rfl (by decide +kernel) ⟨Nat.le_of_ble_eq_true rfl, Nat.le_of_ble_eq_true rfl⟩) ⟨nk_P0.blind, fun U hU hW => ⟨rfl, trivial⟩⟩ rfl rfl hl.1 rfl (lv_room (Nat.le_of_ble_eq_true rfl)) dL_loan_343 ⟨Nat.le_of_ble_eq_true rfl, Nat.le_of_ble_eq_true rfl⟩) ?_
        refine W.eq (g2 := F0 m 346 ls [.int (nI (lwV (v9 >>> ((nI 17) &&& 31)) 2)), .int v9]) rfl ?_
        have kj357 : ∀ (n9 : Nat), (0 < n9 ∧ n9 ≤ 10000001) → W p l e (headSpec wsL_loan { frames := 9, cells := 2, slots := 12, locals := 160 }).room s m args below meth c s.heap [] (0) (0) (MQ below (va_Qi (fun r9 w1 => r9 = nI 1 ∧ nk_LW h0 h1 h2 h3 h4 h5 h6 h7 h8 h9 cI cJ lc e1 w1) (fun w1 t => nk_At D (tX cI cJ) A w1 t) A) args s 2 12 A) (F0 m 357 ls [.int (nI n9), .int v9]) := by
          intro n9 hn9
          refine nk_rd (W.runS (As := [.int v9, .int (nI n9)]) (rest := []) ⟨hx, hb, hml, hown, hts⟩ (c_L_low l v9 n9 (by omega) (by omega)) (va_cwS 2 hts gL_loan_L_low rfl rfl rfl (by decide +kernel) ⟨Nat.le_of_ble_eq_true rfl, Nat.le_of_ble_eq_true rfl⟩) ⟨nk_P0.blind, fun U hU hW => ⟨rfl, trivial⟩⟩ rfl rfl hl.1 rfl (lv_room (Nat.le_of_ble_eq_true rfl)) dL_loan_357 ⟨Nat.le_of_ble_eq_true rfl, Nat.le_of_ble_eq_true rfl⟩) ?_
          refine W.eq (g2 := F0 m 360 ls [.int (nI (lwV v9 n9))]) rfl ?_
          have hlw := lwV_lt (x := v9) (n := n9) hn9.1
          obtain ⟨a1, ha1⟩ : ∃ a1 : Nat, a1 = lwV v9 n9 := ⟨_, rfl⟩
          refine nk_topi (y := nI a1) (by rw [ha1]) ?_
          refine lv_istore (lv' := [(6, .int (nI a1)), (5, .int (nI rm)), (3, .long (lN (ceilA (sm b k)))), (0, .ref h0), (1, .int v9), (2, .int (nI q9))]) hx hb dL_loan_360 hl (by decide) rfl (fun ls hl => ?_)
          refine lv_aload_n hx hb dL_loan_362 rfl (lv_at hl 3 rfl) ?_
          refine lv_iload hx hb dL_loan_363 (lv_at hl 0 rfl) ?_
          have hZH := hZ.kept hS.2.1
          have hFc := va_free (wc := wX h0 h1 h2 h3 h4 h5 h6 h7 h8 h9 cI cJ d r lc bg w rm k pn fa e1 am dd rt b pd pt tp) hD hS hA [0, 1, 2, 3, 4, 5, 6, 7, 8, 9] rfl
          refine nk_icallx (wr := []) (mc := 1) (ms := 6) (vx_runV (As := [.int (nI a1)]) (rest := []) ⟨hx, hb, hml, hown, hts⟩ (c_X0_value l hfl D h0 h1 h2 h3 h4 h5 h6 h7 h8 h9 cI cJ d r lc bg w rm k pn fa e1 am dd rt b pd pt tp s.heap.size (nI a1) ((a1 : Nat) : Int) a1 (nI_toInt (by omega)) (fun _ => ⟨rfl, by omega⟩) hlc) (cwV 1 hts gL_loan_X0_value rfl rfl rfl (by decide +kernel) ⟨Nat.le_of_ble_eq_true rfl, Nat.le_of_ble_eq_true rfl⟩) ⟨nk_Px.blind, va_recv hK hP (ci := 0) (q0 := 0) rfl rfl, fun U hU hW => ⟨rfl, by rw [hU], by rw [hU]; exact hP, va_K.moved hW.alike hK, hD.weaken (fun _ _ _ _ => trivial), by rw [hU]; exact nk_Z.go hZH hW (fun q h => hFc q h)⟩⟩ rfl rfl hl.1 rfl (lv_room (Nat.le_of_ble_eq_true rfl)) dL_loan_365 ⟨Nat.le_of_ble_eq_true rfl, Nat.le_of_ble_eq_true rfl⟩) hP hD hS hA [0, 1, 2, 3, 4, 5, 6, 7, 8, 9] [] rfl rfl rfl (by decide) (fun E9 ce q9 H9 locs9 hE hz9 hk9 hP9 hS9 hce hcv hcl => ?_) (fun r365 w1 H locs hw365 hP hD hS hk9 => ?_)
          · exfalso; rcases hE with ⟨-, h9⟩ | ⟨-, -, h9⟩ <;> omega
          rcases hw365 with ⟨x1, x2, rfl, rfl⟩
          · have hP : va_P D vwCl (wX h0 h1 h2 h3 h4 h5 h6 h7 h8 h9 cI cJ d r lc bg a1 rm k pn fa e1 am dd rt b pd pt tp) H := hP
            have hD : va_D A (wX h0 h1 h2 h3 h4 h5 h6 h7 h8 h9 cI cJ d r lc bg a1 rm k pn fa e1 am dd rt b pd pt tp) := hD
            have hI2 := Inv_value (v := a1) hI (by omega)
            obtain ⟨hlc, hd, hk, hpn, hbg, hw, hrm, he, hed, hfa, ham, hpd, hpd2, hpt, hbs, hb9, hrt, hdd, hroll, hh1, hh2, hh3, htp, hsa, hk0, he2, he2d, hga, hgb, hgb2, hpi, hdr, hpa1, he20, he21, hk0m, he28, hgbz, halE, hmxE, hlsE⟩ := Inv_f hI2
            have hbs9 := hbs
            have hbs : sm _ _ < 4611686018427387904 := Nat.lt_trans hbs9 (by decide)
            refine lv_pop hx hb dL_loan_368 rfl ?_
            refine lv_aload_n hx hb dL_loan_369 rfl (lv_at hl 3 rfl) ?_
            refine lv_iload hx hb dL_loan_370 (lv_at hl 0 rfl) ?_
            have hZH := hZ.kept hS.2.1
            have hFc := va_free (wc := wX h0 h1 h2 h3 h4 h5 h6 h7 h8 h9 cI cJ d r lc bg a1 rm k pn fa e1 am dd rt b pd pt tp) hD hS hA [0, 1, 2, 3, 4, 5, 6, 7, 8, 9] rfl
            refine nk_icallx (wr := []) (mc := 1) (ms := 6) (vx_runV (As := [.int (nI a1)]) (rest := []) ⟨hx, hb, hml, hown, hts⟩ (c_X0_value l hfl D h0 h1 h2 h3 h4 h5 h6 h7 h8 h9 cI cJ d r lc bg a1 rm k pn fa e1 am dd rt b pd pt tp H.size (nI a1) ((a1 : Nat) : Int) a1 (nI_toInt (by omega)) (fun _ => ⟨rfl, by omega⟩) hlc) (cwV 1 hts gL_loan_X0_value rfl rfl rfl (by decide +kernel) ⟨Nat.le_of_ble_eq_true rfl, Nat.le_of_ble_eq_true rfl⟩) ⟨nk_Px.blind, va_recv hK hP (ci := 0) (q0 := 0) rfl rfl, fun U hU hW => ⟨rfl, by rw [hU], by rw [hU]; exact hP, va_K.moved hW.alike hK, hD.weaken (fun _ _ _ _ => trivial), by rw [hU]; exact nk_Z.go hZH hW (fun q h => hFc q h)⟩⟩ rfl rfl hl.1 rfl (lv_room (Nat.le_of_ble_eq_true rfl)) dL_loan_372 ⟨Nat.le_of_ble_eq_true rfl, Nat.le_of_ble_eq_true rfl⟩) hP hD hS hA [0, 1, 2, 3, 4, 5, 6, 7, 8, 9] [] rfl rfl rfl (by decide) (fun E9 ce q9 H9 locs9 hE hz9 hk9 hP9 hS9 hce hcv hcl => ?_) (fun r372 w1 H locs hw372 hP hD hS hk9 => ?_)
            · exfalso; rcases hE with ⟨-, h9⟩ | ⟨-, -, h9⟩ <;> omega
            rcases hw372 with ⟨y1, y2, rfl, rfl⟩
            · have hP : va_P D vwCl (wX h0 h1 h2 h3 h4 h5 h6 h7 h8 h9 cI cJ d r lc bg a1 rm k pn fa e1 am dd rt b pd pt tp) H := hP
              have hD : va_D A (wX h0 h1 h2 h3 h4 h5 h6 h7 h8 h9 cI cJ d r lc bg a1 rm k pn fa e1 am dd rt b pd pt tp) := hD
              refine lv_iload hx hb dL_loan_375 (lv_at hl 0 rfl) ?_
              refine nk_icmp_ne (tgt := 411) hx hb (by omega) (by omega) dL_loan_377 (by decide) (fun c377 => ?_) (fun c377 => ?_)
              · exfalso; omega
              · refine lv_aload_n hx hb dL_loan_380 rfl (lv_at hl 3 rfl) ?_
                refine nk_rd (W.runV (As := []) (rest := []) ⟨hx, hb, hml, hown, hts⟩ (c_X0_worth l D h0 h1 h2 h3 h4 h5 h6 h7 h8 h9 cI cJ d r lc bg a1 rm k pn fa e1 am dd rt b pd pt tp) (cwV 0 hts gL_loan_X0_worth rfl rfl rfl (by decide +kernel) ⟨Nat.le_of_ble_eq_true rfl, Nat.le_of_ble_eq_true rfl⟩) ⟨nk_Pr.blind, va_recv hK hP (ci := 0) (q0 := 0) rfl rfl, fun U hU hW => ⟨rfl, by rw [hU]; exact hP, va_K.moved hW.alike hK⟩⟩ rfl rfl hl.1 rfl (lv_room (Nat.le_of_ble_eq_true rfl)) dL_loan_381 ⟨Nat.le_of_ble_eq_true rfl, Nat.le_of_ble_eq_true rfl⟩) ?_
                refine W.eq (g2 := F0 m 384 ls [.int (nI a1)]) rfl ?_
                refine lv_iload hx hb dL_loan_384 (lv_at hl 0 rfl) ?_
                refine nk_icmp_ne (tgt := 411) hx hb (by omega) (by omega) dL_loan_386 (by decide) (fun c386 => ?_) (fun c386 => ?_)
                · exfalso; omega
                · refine lv_aload_n hx hb dL_loan_389 rfl (lv_at hl 3 rfl) ?_
                  refine nk_rd (W.runV (As := []) (rest := []) ⟨hx, hb, hml, hown, hts⟩ (c_X0_debt l D h0 h1 h2 h3 h4 h5 h6 h7 h8 h9 cI cJ d r lc bg a1 rm k pn fa e1 am dd rt b pd pt tp hk hbs) (cwV 0 hts gL_loan_X0_debt rfl rfl rfl (by decide +kernel) ⟨Nat.le_of_ble_eq_true rfl, Nat.le_of_ble_eq_true rfl⟩) ⟨nk_Pr.blind, va_recv hK hP (ci := 0) (q0 := 0) rfl rfl, fun U hU hW => ⟨rfl, by rw [hU]; exact hP, va_K.moved hW.alike hK⟩⟩ rfl rfl hl.1 rfl (lv_room (Nat.le_of_ble_eq_true rfl)) dL_loan_390 ⟨Nat.le_of_ble_eq_true rfl, Nat.le_of_ble_eq_true rfl⟩) ?_
                  refine W.eq (g2 := F0 m 393 ls [.long (lN (ceilA (sm b k)))]) rfl ?_
                  refine lv_lload_n hx hb dL_loan_393 rfl (lv_at hl 2 rfl) ?_
                  refine nk_lcmp_ne (tgt := 411) hx hb (by omega) (by omega) dL_loan_394 dL_loan_395 (by decide) (fun c394 => ?_) (fun c394 => ?_)
                  · exfalso; omega
                  · refine lv_aload_n hx hb dL_loan_398 rfl (lv_at hl 3 rfl) ?_
                    refine nk_rd (W.runV (As := []) (rest := []) ⟨hx, hb, hml, hown, hts⟩ (c_X0_room l D h0 h1 h2 h3 h4 h5 h6 h7 h8 h9 cI cJ d r lc bg a1 rm k pn fa e1 am dd rt b pd pt tp) (cwV 0 hts gL_loan_X0_room rfl rfl rfl (by decide +kernel) ⟨Nat.le_of_ble_eq_true rfl, Nat.le_of_ble_eq_true rfl⟩) ⟨nk_Pr.blind, va_recv hK hP (ci := 0) (q0 := 0) rfl rfl, fun U hU hW => ⟨rfl, by rw [hU]; exact hP, va_K.moved hW.alike hK⟩⟩ rfl rfl hl.1 rfl (lv_room (Nat.le_of_ble_eq_true rfl)) dL_loan_399 ⟨Nat.le_of_ble_eq_true rfl, Nat.le_of_ble_eq_true rfl⟩) ?_
                    refine W.eq (g2 := F0 m 402 ls [.int (nI rm)]) rfl ?_
                    refine lv_iload hx hb dL_loan_402 (lv_at hl 1 rfl) ?_
                    refine nk_icmp_ne (tgt := 411) hx hb (by omega) (by omega) dL_loan_404 (by decide) (fun c404 => ?_) (fun c404 => ?_)
                    · exfalso; omega
                    · refine lv_iconst (v := nI 1) hx hb dL_loan_407 (by decide +kernel) ?_
                      refine lv_goto (tgt := 412) hx hb dL_loan_408 (by decide) ?_
                      refine W.widen (k := 2) (n := 12) (by decide) (by decide) ?_
                      exact W.zret (ty := .boolean) (v := nI 1) hx hb hr rfl (fun t ht hW => ⟨⟨nI 1, wX h0 h1 h2 h3 h4 h5 h6 h7 h8 h9 cI cJ d r lc bg a1 rm k pn fa e1 am dd rt b pd pt tp, rfl, ⟨rfl, _, _, _, _, _, _, _, _, _, _, _, _, _, _, _, _, _, _, _, _, _, hI2, rfl⟩, by rw [ht]; exact hP, va_K.moved hW.alike hK, hD⟩, hS.F ht⟩) hS.2.2 dL_loan_412
        refine nk_if_ne (tgt := 354) hx hb (lwV_i (by decide) (by decide)) dL_loan_346 (by decide) (fun c346 => ?_) (fun c346 => ?_)
        · refine lv_sipush (v := nI 20000) hx hb dL_loan_354 (by decide +kernel) ?_
          exact kj357 20000 (by decide)
        · refine lv_ldc (v := nI 10000001) hx hb hown k86 dL_loan_349 ?_
          refine lv_goto (tgt := 357) hx hb dL_loan_351 (by decide) ?_
          exact kj357 10000001 (by decide)
      · refine lv_aload_n hx hb dL_loan_251 rfl (lv_at hl 2 rfl) ?_
        refine lv_iload_n hx hb dL_loan_252 rfl (lv_at hl 3 rfl) ?_
        refine lv_ldc (v := nI 10000001) hx hb hown k86 dL_loan_253 ?_
        refine nk_rd (W.runS (As := [.int v9, .int (nI 10000001)]) (rest := [.ref h0]) ⟨hx, hb, hml, hown, hts⟩ (c_L_low l v9 10000001 (by omega) (by omega)) (va_cwS 2 hts gL_loan_L_low rfl rfl rfl (by decide +kernel) ⟨Nat.le_of_ble_eq_true rfl, Nat.le_of_ble_eq_true rfl⟩) ⟨nk_P0.blind, fun U hU hW => ⟨rfl, trivial⟩⟩ rfl rfl hl.1 rfl (lv_room (Nat.le_of_ble_eq_true rfl)) dL_loan_255 ⟨Nat.le_of_ble_eq_true rfl, Nat.le_of_ble_eq_true rfl⟩) ?_
        refine W.eq (g2 := F0 m 258 ls [.int (nI (lwV v9 10000001)), .ref h0]) rfl ?_
        obtain ⟨a1, ha1⟩ : ∃ a1 : Nat, a1 = lwV v9 10000001 := ⟨_, rfl⟩
        have hlw := lwV_lt (x := v9) (n := 10000001) (by decide)
        refine nk_topi (y := nI a1) (by rw [ha1]) ?_
        have hZH := hZ.kept hS.2.1
        have hFc := va_free (wc := wX h0 h1 h2 h3 h4 h5 h6 h7 h8 h9 cI cJ d r lc bg w rm k pn fa e1 am dd rt b pd pt tp) hD hS hA [0, 1, 2, 3, 4, 5, 6, 7, 8, 9] rfl
        refine nk_lcall (wr := []) (mc := 1) (ms := 6) (vx_runSW (As := [.ref h0, .int (nI a1)]) (rest := []) ⟨hx, hb, hml, hown, hts⟩ (c_L_move l hfl D h0 h1 h2 h3 h4 h5 h6 h7 h8 h9 cI cJ d r lc bg w rm k pn fa e1 am dd rt b pd pt tp s.heap.size (nI a1) ((a1 : Nat) : Int) a1 (nI_toInt (by omega)) (fun _ => ⟨rfl, by omega⟩) hlc he hfa hd hk hpn hbs9 hb9 (by omega)) (vx_cwSW 2 hts gL_loan_L_move rfl rfl rfl (by decide +kernel) ⟨Nat.le_of_ble_eq_true rfl, Nat.le_of_ble_eq_true rfl⟩) ⟨nk_Px.blind, fun U hU hW => ⟨rfl, by rw [hU], by rw [hU]; exact hP, va_K.moved hW.alike hK, hD.weaken (fun _ _ _ _ => trivial), by rw [hU]; exact nk_Z.go hZH hW (fun q h => hFc q h)⟩⟩ rfl rfl hl.1 rfl (lv_room (Nat.le_of_ble_eq_true rfl)) dL_loan_258 ⟨Nat.le_of_ble_eq_true rfl, Nat.le_of_ble_eq_true rfl⟩) hP hD hS hA [0, 1, 2, 3, 4, 5, 6, 7, 8, 9] [] rfl rfl rfl (by decide) (fun r258 w1 H locs hw258 hP hD hS hk9 => ?_)
        rcases hw258 with ⟨x1, x2, x3, rfl, (⟨x4, rfl⟩ | ⟨x4, rfl⟩)⟩ | ⟨rfl, x1, rfl⟩
        · have hP : va_P D vwCl (wX h0 h1 h2 h3 h4 h5 h6 h7 h8 h9 cI cJ d r lc bg a1 (gL a1 (lstA fa e1 lc - 1 + d / 365) - ceilA (sm b k)) k pn fa e1 am dd rt b pd pt tp) H := hP
          have hD : va_D A (wX h0 h1 h2 h3 h4 h5 h6 h7 h8 h9 cI cJ d r lc bg a1 (gL a1 (lstA fa e1 lc - 1 + d / 365) - ceilA (sm b k)) k pn fa e1 am dd rt b pd pt tp) := hD
          have hg9 : gL a1 (lstA fa e1 lc - 1 + d / 365) ≤ 5500000 := gL_le (by omega)
          have hI2 := Inv_room (v := a1) (x := gL a1 (lstA fa e1 lc - 1 + d / 365) - ceilA (sm b k)) hI (by omega) (by omega)
          obtain ⟨hlc, hd, hk, hpn, hbg, hw, hrm, he, hed, hfa, ham, hpd, hpd2, hpt, hbs, hb9, hrt, hdd, hroll, hh1, hh2, hh3, htp, hsa, hk0, he2, he2d, hga, hgb, hgb2, hpi, hdr, hpa1, he20, he21, hk0m, he28, hgbz, halE, hmxE, hlsE⟩ := Inv_f hI2
          have hbs9 := hbs
          have hbs : sm _ _ < 4611686018427387904 := Nat.lt_trans hbs9 (by decide)
          refine lv_lstore (lv' := [(6, .long (lN (ceilA (sm b k) - gL a1 (lstA fa e1 lc - 1 + d / 365)))), (5, .int (nI rm)), (3, .long (lN (ceilA (sm b k)))), (0, .ref h0), (1, .int v9), (2, .int (nI q9))]) hx hb dL_loan_261 hl (by decide) rfl (fun ls hl => ?_)
          refine lv_lload hx hb dL_loan_263 (lv_at hl 0 rfl) ?_
          refine lv_ldc2 (v := -3) hx hb hown (hts (.constantLong RL 28 (-3)) (by decide +kernel)) dL_loan_265 ?_
          refine nk_lcmpR_ne (tgt := 298) hx hb dL_loan_268 dL_loan_269 (by decide) (fun c268 => ?_) (fun c268 => ?_)
          · refine lv_lload hx hb dL_loan_298 (lv_at hl 0 rfl) ?_
            refine lv_lconst (v := lN 0) hx hb dL_loan_300 (by decide +kernel) ?_
            refine nk_lcmp_lt (tgt := 335) hx hb (by omega) (by omega) dL_loan_301 dL_loan_302 (by decide) (fun c301 => ?_) (fun c301 => ?_)
            · exfalso; omega
            · refine lv_aload_n hx hb dL_loan_305 rfl (lv_at hl 3 rfl) ?_
              refine nk_rd (W.runV (As := []) (rest := []) ⟨hx, hb, hml, hown, hts⟩ (c_X0_debt l D h0 h1 h2 h3 h4 h5 h6 h7 h8 h9 cI cJ d r lc bg a1 (gL a1 (lstA fa e1 lc - 1 + d / 365) - ceilA (sm b k)) k pn fa e1 am dd rt b pd pt tp hk hbs) (cwV 0 hts gL_loan_X0_debt rfl rfl rfl (by decide +kernel) ⟨Nat.le_of_ble_eq_true rfl, Nat.le_of_ble_eq_true rfl⟩) ⟨nk_Pr.blind, va_recv hK hP (ci := 0) (q0 := 0) rfl rfl, fun U hU hW => ⟨rfl, by rw [hU]; exact hP, va_K.moved hW.alike hK⟩⟩ rfl rfl hl.1 rfl (lv_room (Nat.le_of_ble_eq_true rfl)) dL_loan_306 ⟨Nat.le_of_ble_eq_true rfl, Nat.le_of_ble_eq_true rfl⟩) ?_
              refine W.eq (g2 := F0 m 309 ls [.long (lN (ceilA (sm b k)))]) rfl ?_
              refine lv_lload_n hx hb dL_loan_309 rfl (lv_at hl 2 rfl) ?_
              refine lv_lload hx hb dL_loan_310 (lv_at hl 0 rfl) ?_
              refine nk_lsub hx hb (Nat.sub_le _ _) dL_loan_312 ?_
              refine nk_lcmp_ne (tgt := 335) hx hb (by omega) (by omega) dL_loan_313 dL_loan_314 (by decide) (fun c313 => ?_) (fun c313 => ?_)
              · exfalso; omega
              · refine lv_lload hx hb dL_loan_317 (lv_at hl 0 rfl) ?_
                refine lv_lconst (v := lN 0) hx hb dL_loan_319 (by decide +kernel) ?_
                refine nk_lcmp_eq (tgt := 331) hx hb (by omega) (by omega) dL_loan_320 dL_loan_321 (by decide) (fun c320 => ?_) (fun c320 => ?_)
                · refine lv_iconst (v := nI 1) hx hb dL_loan_331 (by decide +kernel) ?_
                  refine lv_goto (tgt := 336) hx hb dL_loan_332 (by decide) ?_
                  refine W.widen (k := 2) (n := 12) (by decide) (by decide) ?_
                  exact W.zret (ty := .boolean) (v := nI 1) hx hb hr rfl (fun t ht hW => ⟨⟨nI 1, wX h0 h1 h2 h3 h4 h5 h6 h7 h8 h9 cI cJ d r lc bg a1 (gL a1 (lstA fa e1 lc - 1 + d / 365) - ceilA (sm b k)) k pn fa e1 am dd rt b pd pt tp, rfl, ⟨rfl, _, _, _, _, _, _, _, _, _, _, _, _, _, _, _, _, _, _, _, _, _, hI2, rfl⟩, by rw [ht]; exact hP, va_K.moved hW.alike hK, hD⟩, hS.F ht⟩) hS.2.2 dL_loan_336
                · exfalso; omega
          · exact absurd c268 (nk_n3l (by omega))
        · have hr0 := nk_room0 x4
          rw [hr0] at hP hD
          have hP : va_P D vwCl (wX h0 h1 h2 h3 h4 h5 h6 h7 h8 h9 cI cJ d r lc bg a1 0 k (pn + 1) fa e1 am dd rt (tkB b ((ceilA (sm b k) - gL a1 (lstA fa e1 lc - 1 + d / 365)) * 10000) k) (va_up pd pn d) (va_up pt pn 0) (tkT tp b ((ceilA (sm b k) - gL a1 (lstA fa e1 lc - 1 + d / 365)) * 10000) pn k)) H := hP
          have hD : va_D A (wX h0 h1 h2 h3 h4 h5 h6 h7 h8 h9 cI cJ d r lc bg a1 0 k (pn + 1) fa e1 am dd rt (tkB b ((ceilA (sm b k) - gL a1 (lstA fa e1 lc - 1 + d / 365)) * 10000) k) (va_up pd pn d) (va_up pt pn 0) (tkT tp b ((ceilA (sm b k) - gL a1 (lstA fa e1 lc - 1 + d / 365)) * 10000) pn k)) := hD
          have hdE := tk_debt (b := b) (k := k) (a := ceilA (sm b k) - gL a1 (lstA fa e1 lc - 1 + d / 365)) (Nat.sub_le _ _)
          have hI2 := Inv_take (A := (ceilA (sm b k) - gL a1 (lstA fa e1 lc - 1 + d / 365)) * 10000) (t9 := 0) (w' := a1) (rm' := 0) hI x2.1 x2.2 x3 (Nat.zero_le _) (by omega) (Nat.zero_le _) (InvY_move hI.2.2.2.2.2.2.2.2)
          obtain ⟨hlc, hd, hk, hpn, hbg, hw, hrm, he, hed, hfa, ham, hpd, hpd2, hpt, hbs, hb9, hrt, hdd, hroll, hh1, hh2, hh3, htp, hsa, hk0, he2, he2d, hga, hgb, hgb2, hpi, hdr, hpa1, he20, he21, hk0m, he28, hgbz, halE, hmxE, hlsE⟩ := Inv_f hI2
          have hbs9 := hbs
          have hbs : sm _ _ < 4611686018427387904 := Nat.lt_trans hbs9 (by decide)
          refine lv_lstore (lv' := [(6, .long (lN (ceilA (sm b k) - gL a1 (lstA fa e1 lc - 1 + d / 365)))), (5, .int (nI rm)), (3, .long (lN (ceilA (sm b k)))), (0, .ref h0), (1, .int v9), (2, .int (nI q9))]) hx hb dL_loan_261 hl (by decide) rfl (fun ls hl => ?_)
          refine lv_lload hx hb dL_loan_263 (lv_at hl 0 rfl) ?_
          refine lv_ldc2 (v := -3) hx hb hown (hts (.constantLong RL 28 (-3)) (by decide +kernel)) dL_loan_265 ?_
          refine nk_lcmpR_ne (tgt := 298) hx hb dL_loan_268 dL_loan_269 (by decide) (fun c268 => ?_) (fun c268 => ?_)
          · refine lv_lload hx hb dL_loan_298 (lv_at hl 0 rfl) ?_
            refine lv_lconst (v := lN 0) hx hb dL_loan_300 (by decide +kernel) ?_
            refine nk_lcmp_lt (tgt := 335) hx hb (by omega) (by omega) dL_loan_301 dL_loan_302 (by decide) (fun c301 => ?_) (fun c301 => ?_)
            · exfalso; omega
            · refine lv_aload_n hx hb dL_loan_305 rfl (lv_at hl 3 rfl) ?_
              refine nk_rd (W.runV (As := []) (rest := []) ⟨hx, hb, hml, hown, hts⟩ (c_X0_debt l D h0 h1 h2 h3 h4 h5 h6 h7 h8 h9 cI cJ d r lc bg a1 0 k (pn + 1) fa e1 am dd rt (tkB b ((ceilA (sm b k) - gL a1 (lstA fa e1 lc - 1 + d / 365)) * 10000) k) (va_up pd pn d) (va_up pt pn 0) (tkT tp b ((ceilA (sm b k) - gL a1 (lstA fa e1 lc - 1 + d / 365)) * 10000) pn k) hk hbs) (cwV 0 hts gL_loan_X0_debt rfl rfl rfl (by decide +kernel) ⟨Nat.le_of_ble_eq_true rfl, Nat.le_of_ble_eq_true rfl⟩) ⟨nk_Pr.blind, va_recv hK hP (ci := 0) (q0 := 0) rfl rfl, fun U hU hW => ⟨rfl, by rw [hU]; exact hP, va_K.moved hW.alike hK⟩⟩ rfl rfl hl.1 rfl (lv_room (Nat.le_of_ble_eq_true rfl)) dL_loan_306 ⟨Nat.le_of_ble_eq_true rfl, Nat.le_of_ble_eq_true rfl⟩) ?_
              refine W.eq (g2 := F0 m 309 ls [.long (lN (ceilA (sm (tkB b ((ceilA (sm b k) - gL a1 (lstA fa e1 lc - 1 + d / 365)) * 10000) k) k)))]) rfl ?_
              refine lv_lload_n hx hb dL_loan_309 rfl (lv_at hl 2 rfl) ?_
              refine lv_lload hx hb dL_loan_310 (lv_at hl 0 rfl) ?_
              refine nk_lsub hx hb (Nat.sub_le _ _) dL_loan_312 ?_
              refine nk_lcmp_ne (tgt := 335) hx hb (by omega) (by omega) dL_loan_313 dL_loan_314 (by decide) (fun c313 => ?_) (fun c313 => ?_)
              · exfalso; omega
              · refine lv_lload hx hb dL_loan_317 (lv_at hl 0 rfl) ?_
                refine lv_lconst (v := lN 0) hx hb dL_loan_319 (by decide +kernel) ?_
                refine nk_lcmp_eq (tgt := 331) hx hb (by omega) (by omega) dL_loan_320 dL_loan_321 (by decide) (fun c320 => ?_) (fun c320 => ?_)
                · exfalso; omega
                · refine lv_aload_n hx hb dL_loan_324 rfl (lv_at hl 3 rfl) ?_
                  refine nk_rd (W.runV (As := []) (rest := []) ⟨hx, hb, hml, hown, hts⟩ (c_X0_room l D h0 h1 h2 h3 h4 h5 h6 h7 h8 h9 cI cJ d r lc bg a1 0 k (pn + 1) fa e1 am dd rt (tkB b ((ceilA (sm b k) - gL a1 (lstA fa e1 lc - 1 + d / 365)) * 10000) k) (va_up pd pn d) (va_up pt pn 0) (tkT tp b ((ceilA (sm b k) - gL a1 (lstA fa e1 lc - 1 + d / 365)) * 10000) pn k)) (cwV 0 hts gL_loan_X0_room rfl rfl rfl (by decide +kernel) ⟨Nat.le_of_ble_eq_true rfl, Nat.le_of_ble_eq_true rfl⟩) ⟨nk_Pr.blind, va_recv hK hP (ci := 0) (q0 := 0) rfl rfl, fun U hU hW => ⟨rfl, by rw [hU]; exact hP, va_K.moved hW.alike hK⟩⟩ rfl rfl hl.1 rfl (lv_room (Nat.le_of_ble_eq_true rfl)) dL_loan_325 ⟨Nat.le_of_ble_eq_true rfl, Nat.le_of_ble_eq_true rfl⟩) ?_
                  refine W.eq (g2 := F0 m 328 ls [.int (nI 0)]) rfl ?_
                  refine nk_if_ne (tgt := 335) hx hb (by omega) dL_loan_328 (by decide) (fun c328 => ?_) (fun c328 => ?_)
                  · exfalso; omega
                  · refine lv_iconst (v := nI 1) hx hb dL_loan_331 (by decide +kernel) ?_
                    refine lv_goto (tgt := 336) hx hb dL_loan_332 (by decide) ?_
                    refine W.widen (k := 2) (n := 12) (by decide) (by decide) ?_
                    exact W.zret (ty := .boolean) (v := nI 1) hx hb hr rfl (fun t ht hW => ⟨⟨nI 1, wX h0 h1 h2 h3 h4 h5 h6 h7 h8 h9 cI cJ d r lc bg a1 0 k (pn + 1) fa e1 am dd rt (tkB b ((ceilA (sm b k) - gL a1 (lstA fa e1 lc - 1 + d / 365)) * 10000) k) (va_up pd pn d) (va_up pt pn 0) (tkT tp b ((ceilA (sm b k) - gL a1 (lstA fa e1 lc - 1 + d / 365)) * 10000) pn k), rfl, ⟨rfl, _, _, _, _, _, _, _, _, _, _, _, _, _, _, _, _, _, _, _, _, _, hI2, rfl⟩, by rw [ht]; exact hP, va_K.moved hW.alike hK, hD⟩, hS.F ht⟩) hS.2.2 dL_loan_336
          · exact absurd c268 (nk_n3l (by omega))
        · have hP : va_P D vwCl (wX h0 h1 h2 h3 h4 h5 h6 h7 h8 h9 cI cJ d r lc bg w rm k pn fa e1 am dd rt b pd pt tp) H := hP
          have hD : va_D A (wX h0 h1 h2 h3 h4 h5 h6 h7 h8 h9 cI cJ d r lc bg w rm k pn fa e1 am dd rt b pd pt tp) := hD
          refine lv_lstore (lv' := [(6, .long (-3)), (5, .int (nI rm)), (3, .long (lN (ceilA (sm b k)))), (0, .ref h0), (1, .int v9), (2, .int (nI q9))]) hx hb dL_loan_261 hl (by decide) rfl (fun ls hl => ?_)
          refine lv_lload hx hb dL_loan_263 (lv_at hl 0 rfl) ?_
          refine lv_ldc2 (v := -3) hx hb hown (hts (.constantLong RL 28 (-3)) (by decide +kernel)) dL_loan_265 ?_
          refine nk_lcmpR_ne (tgt := 298) hx hb dL_loan_268 dL_loan_269 (by decide) (fun c268 => ?_) (fun c268 => ?_)
          · exact absurd rfl c268
          · refine lv_aload_n hx hb dL_loan_272 rfl (lv_at hl 3 rfl) ?_
            refine nk_rd (W.runV (As := []) (rest := []) ⟨hx, hb, hml, hown, hts⟩ (c_X0_debt l D h0 h1 h2 h3 h4 h5 h6 h7 h8 h9 cI cJ d r lc bg w rm k pn fa e1 am dd rt b pd pt tp hk hbs) (cwV 0 hts gL_loan_X0_debt rfl rfl rfl (by decide +kernel) ⟨Nat.le_of_ble_eq_true rfl, Nat.le_of_ble_eq_true rfl⟩) ⟨nk_Pr.blind, va_recv hK hP (ci := 0) (q0 := 0) rfl rfl, fun U hU hW => ⟨rfl, by rw [hU]; exact hP, va_K.moved hW.alike hK⟩⟩ rfl rfl hl.1 rfl (lv_room (Nat.le_of_ble_eq_true rfl)) dL_loan_273 ⟨Nat.le_of_ble_eq_true rfl, Nat.le_of_ble_eq_true rfl⟩) ?_
            refine W.eq (g2 := F0 m 276 ls [.long (lN (ceilA (sm b k)))]) rfl ?_
            refine lv_lload_n hx hb dL_loan_276 rfl (lv_at hl 2 rfl) ?_
            refine nk_lcmp_ne (tgt := 294) hx hb (by omega) (by omega) dL_loan_277 dL_loan_278 (by decide) (fun c277 => ?_) (fun c277 => ?_)
            · exfalso; omega
            · refine lv_aload_n hx hb dL_loan_281 rfl (lv_at hl 3 rfl) ?_
              refine nk_rd (W.runV (As := []) (rest := []) ⟨hx, hb, hml, hown, hts⟩ (c_X0_room l D h0 h1 h2 h3 h4 h5 h6 h7 h8 h9 cI cJ d r lc bg w rm k pn fa e1 am dd rt b pd pt tp) (cwV 0 hts gL_loan_X0_room rfl rfl rfl (by decide +kernel) ⟨Nat.le_of_ble_eq_true rfl, Nat.le_of_ble_eq_true rfl⟩) ⟨nk_Pr.blind, va_recv hK hP (ci := 0) (q0 := 0) rfl rfl, fun U hU hW => ⟨rfl, by rw [hU]; exact hP, va_K.moved hW.alike hK⟩⟩ rfl rfl hl.1 rfl (lv_room (Nat.le_of_ble_eq_true rfl)) dL_loan_282 ⟨Nat.le_of_ble_eq_true rfl, Nat.le_of_ble_eq_true rfl⟩) ?_
              refine W.eq (g2 := F0 m 285 ls [.int (nI rm)]) rfl ?_
              refine lv_iload hx hb dL_loan_285 (lv_at hl 1 rfl) ?_
              refine nk_icmp_ne (tgt := 294) hx hb (by omega) (by omega) dL_loan_287 (by decide) (fun c287 => ?_) (fun c287 => ?_)
              · exfalso; omega
              · refine lv_iconst (v := nI 1) hx hb dL_loan_290 (by decide +kernel) ?_
                refine lv_goto (tgt := 336) hx hb dL_loan_291 (by decide) ?_
                refine W.widen (k := 2) (n := 12) (by decide) (by decide) ?_
                exact W.zret (ty := .boolean) (v := nI 1) hx hb hr rfl (fun t ht hW => ⟨⟨nI 1, wX h0 h1 h2 h3 h4 h5 h6 h7 h8 h9 cI cJ d r lc bg w rm k pn fa e1 am dd rt b pd pt tp, rfl, ⟨rfl, _, _, _, _, _, _, _, _, _, _, _, _, _, _, _, _, _, _, _, _, _, hI, rfl⟩, by rw [ht]; exact hP, va_K.moved hW.alike hK, hD⟩, hS.F ht⟩) hS.2.2 dL_loan_336
    · refine lv_iconst (v := nI 1) hx hb dL_loan_128 (by decide +kernel) ?_
      refine lv_iload_n hx hb dL_loan_129 rfl (lv_at hl 3 rfl) ?_
      refine lv_iload_n hx hb dL_loan_130 rfl (lv_at hl 3 rfl) ?_
      refine lv_bipush (v := nI 17) hx hb dL_loan_131 (by decide +kernel) ?_
      refine lv_ishr hx hb dL_loan_133 ?_
      refine lv_iconst (v := nI 2) hx hb dL_loan_134 (by decide +kernel) ?_
      refine nk_rd (W.runS (As := [.int (v9 >>> ((nI 17) &&& 31)), .int (nI 2)]) (rest := [.int v9, .int (nI 1)]) ⟨hx, hb, hml, hown, hts⟩ (c_L_low l (v9 >>> ((nI 17) &&& 31)) 2 (by omega) (by omega)) (va_cwS 2 hts gL_loan_L_low rfl rfl rfl (by decide +kernel) ⟨Nat.le_of_ble_eq_true rfl, Nat.le_of_ble_eq_true rfl⟩) ⟨nk_P0.blind, fun U hU hW => ⟨rfl, trivial⟩⟩ rfl rfl hl.1 rfl (lv_room (Nat.le_of_ble_eq_true rfl)) dL_loan_135 ⟨Nat.le_of_ble_eq_true rfl, Nat.le_of_ble_eq_true rfl⟩) ?_
      refine W.eq (g2 := F0 m 138 ls [.int (nI (lwV (v9 >>> ((nI 17) &&& 31)) 2)), .int v9, .int (nI 1)]) rfl ?_
      have kj149 : ∀ (n9 : Nat), (0 < n9 ∧ n9 ≤ 10000000) → W p l e (headSpec wsL_loan { frames := 9, cells := 2, slots := 12, locals := 160 }).room s m args below meth c s.heap [] (0) (0) (MQ below (va_Qi (fun r9 w1 => r9 = nI 1 ∧ nk_LW h0 h1 h2 h3 h4 h5 h6 h7 h8 h9 cI cJ lc e1 w1) (fun w1 t => nk_At D (tX cI cJ) A w1 t) A) args s 2 12 A) (F0 m 149 ls [.int (nI n9), .int v9, .int (nI 1)]) := by
        intro n9 hn9
        refine nk_rd (W.runS (As := [.int v9, .int (nI n9)]) (rest := [.int (nI 1)]) ⟨hx, hb, hml, hown, hts⟩ (c_L_low l v9 n9 (by omega) (by omega)) (va_cwS 2 hts gL_loan_L_low rfl rfl rfl (by decide +kernel) ⟨Nat.le_of_ble_eq_true rfl, Nat.le_of_ble_eq_true rfl⟩) ⟨nk_P0.blind, fun U hU hW => ⟨rfl, trivial⟩⟩ rfl rfl hl.1 rfl (lv_room (Nat.le_of_ble_eq_true rfl)) dL_loan_149 ⟨Nat.le_of_ble_eq_true rfl, Nat.le_of_ble_eq_true rfl⟩) ?_
        refine W.eq (g2 := F0 m 152 ls [.int (nI (lwV v9 n9)), .int (nI 1)]) rfl ?_
        refine nk_iadd hx hb dL_loan_152 ?_
        have hlw := lwV_lt (x := v9) (n := n9) hn9.1
        obtain ⟨a1, ha1⟩ : ∃ a1 : Nat, a1 = 1 + (lwV v9 n9) := ⟨_, rfl⟩
        refine nk_topi (y := nI a1) (by rw [ha1]) ?_
        refine lv_istore (lv' := [(6, .int (nI a1)), (5, .int (nI rm)), (3, .long (lN (ceilA (sm b k)))), (0, .ref h0), (1, .int v9), (2, .int (nI q9))]) hx hb dL_loan_153 hl (by decide) rfl (fun ls hl => ?_)
        refine lv_aload_n hx hb dL_loan_155 rfl (lv_at hl 3 rfl) ?_
        refine lv_iload hx hb dL_loan_156 (lv_at hl 0 rfl) ?_
        have hZH := hZ.kept hS.2.1
        have hFc := va_free (wc := wX h0 h1 h2 h3 h4 h5 h6 h7 h8 h9 cI cJ d r lc bg w rm k pn fa e1 am dd rt b pd pt tp) hD hS hA [0, 1, 2, 3, 4, 5, 6, 7, 8, 9] rfl
        refine nk_icall (wr := []) (mc := 1) (ms := 6) (vx_runSW (As := [.ref h0, .int (nI a1)]) (rest := []) ⟨hx, hb, hml, hown, hts⟩ (c_L_charge l hfl D h0 h1 h2 h3 h4 h5 h6 h7 h8 h9 cI cJ d r lc bg w rm k pn fa e1 am dd rt b pd pt tp s.heap.size (nI a1) ((a1 : Nat) : Int) a1 (nI_toInt (by omega)) (fun _ => ⟨rfl, by omega⟩) hlc he hed hk ham hpn hbg hd hpd hpt (by omega)) (vx_cwSW 2 hts gL_loan_L_charge rfl rfl rfl (by decide +kernel) ⟨Nat.le_of_ble_eq_true rfl, Nat.le_of_ble_eq_true rfl⟩) ⟨nk_Px.blind, fun U hU hW => ⟨rfl, by rw [hU], by rw [hU]; exact hP, va_K.moved hW.alike hK, hD.weaken (fun _ _ _ _ => trivial), by rw [hU]; exact nk_Z.go hZH hW (fun q h => hFc q h)⟩⟩ rfl rfl hl.1 rfl (lv_room (Nat.le_of_ble_eq_true rfl)) dL_loan_158 ⟨Nat.le_of_ble_eq_true rfl, Nat.le_of_ble_eq_true rfl⟩) hP hD hS hA [0, 1, 2, 3, 4, 5, 6, 7, 8, 9] [] rfl rfl rfl (by decide) (fun r158 w1 H locs hw158 hP hD hS hk9 => ?_)
        rcases hw158 with ⟨⟨x1, x2⟩, rfl, rfl⟩ | ⟨rfl, x1, rfl⟩
        · have hP : va_P D vwCl (wX h0 h1 h2 h3 h4 h5 h6 h7 h8 h9 cI cJ d r lc bg w rm k pn fa e1 am dd rt b pd pt tp) H := hP
          have hD : va_D A (wX h0 h1 h2 h3 h4 h5 h6 h7 h8 h9 cI cJ d r lc bg w rm k pn fa e1 am dd rt b pd pt tp) := hD
          refine lv_istore (lv' := [(7, .int (nI (chg (mxE e1 lc) d ((d - bg) / 365) (sm am k) (pY bg pd pt ((d - bg) / 365) pn) a1))), (6, .int (nI a1)), (5, .int (nI rm)), (3, .long (lN (ceilA (sm b k)))), (0, .ref h0), (1, .int v9), (2, .int (nI q9))]) hx hb dL_loan_161 hl (by decide) rfl (fun ls hl => ?_)
          refine lv_aload_n hx hb dL_loan_163 rfl (lv_at hl 4 rfl) ?_
          refine lv_iload hx hb dL_loan_164 (lv_at hl 1 rfl) ?_
          have hZH := hZ.kept hS.2.1
          have hFc := va_free (wc := wX h0 h1 h2 h3 h4 h5 h6 h7 h8 h9 cI cJ d r lc bg w rm k pn fa e1 am dd rt b pd pt tp) hD hS hA [0, 1, 2, 3, 4, 5, 6, 7, 8, 9] rfl
          refine nk_icall (wr := []) (mc := 1) (ms := 6) (vx_runSW (As := [.ref h0, .int (nI a1)]) (rest := []) ⟨hx, hb, hml, hown, hts⟩ (c_L_pay l hfl D h0 h1 h2 h3 h4 h5 h6 h7 h8 h9 cI cJ d r lc bg w rm k pn fa e1 am dd rt b pd pt tp H.size (nI a1) ((a1 : Nat) : Int) a1 (nI_toInt (by omega)) (fun _ => ⟨rfl, by omega⟩) hlc he hed hk ham hpn hbg hd hpd hpt hbs hb9 (by omega)) (vx_cwSW 2 hts gL_loan_L_pay rfl rfl rfl (by decide +kernel) ⟨Nat.le_of_ble_eq_true rfl, Nat.le_of_ble_eq_true rfl⟩) ⟨nk_Px.blind, fun U hU hW => ⟨rfl, by rw [hU], by rw [hU]; exact hP, va_K.moved hW.alike hK, hD.weaken (fun _ _ _ _ => trivial), by rw [hU]; exact nk_Z.go hZH hW (fun q h => hFc q h)⟩⟩ rfl rfl hl.1 rfl (lv_room (Nat.le_of_ble_eq_true rfl)) dL_loan_166 ⟨Nat.le_of_ble_eq_true rfl, Nat.le_of_ble_eq_true rfl⟩) hP hD hS hA [0, 1, 2, 3, 4, 5, 6, 7, 8, 9] [] rfl rfl rfl (by decide) (fun r166 w1 H locs hw166 hP hD hS hk9 => ?_)
          rcases hw166 with ⟨y1, y2, y3, rfl, rfl⟩ | ⟨rfl, y1, rfl⟩
          · have hP : va_P D vwCl (wX h0 h1 h2 h3 h4 h5 h6 h7 h8 h9 cI cJ d r lc bg w rm k (pn + 1) fa e1 am dd rt (tkB b (a1 * 10000) k) (va_up pd pn d) (va_up pt pn a1) (tkT tp b (a1 * 10000) pn k)) H := hP
            have hD : va_D A (wX h0 h1 h2 h3 h4 h5 h6 h7 h8 h9 cI cJ d r lc bg w rm k (pn + 1) fa e1 am dd rt (tkB b (a1 * 10000) k) (va_up pd pn d) (va_up pt pn a1) (tkT tp b (a1 * 10000) pn k)) := hD
            have hI2 := Inv_take (A := a1 * 10000) (t9 := a1) hI y2.1 y2.2 y3.2 (by omega) hw hI.1.2.2.2.2.2.1 (InvY_pay hI.2.2.2.2.2.2.2.2)
            have hdE := tk_debt y3.1
            have hch : chg (mxE e1 lc) d ((d - bg) / 365) (sm am k) (pY bg pd pt ((d - bg) / 365) pn) a1 ≤ a1 / 10 := chg_le
            obtain ⟨hlc, hd, hk, hpn, hbg, hw, hrm, he, hed, hfa, ham, hpd, hpd2, hpt, hbs, hb9, hrt, hdd, hroll, hh1, hh2, hh3, htp, hsa, hk0, he2, he2d, hga, hgb, hgb2, hpi, hdr, hpa1, he20, he21, hk0m, he28, hgbz, halE, hmxE, hlsE⟩ := Inv_f hI2
            have hbs9 := hbs
            have hbs : sm _ _ < 4611686018427387904 := Nat.lt_trans hbs9 (by decide)
            refine lv_istore (lv' := [(8, .int (nI (chg (mxE e1 lc) d ((d - bg) / 365) (sm am k) (pY bg pd pt ((d - bg) / 365) pn) a1))), (7, .int (nI (chg (mxE e1 lc) d ((d - bg) / 365) (sm am k) (pY bg pd pt ((d - bg) / 365) pn) a1))), (6, .int (nI a1)), (5, .int (nI rm)), (3, .long (lN (ceilA (sm b k)))), (0, .ref h0), (1, .int v9), (2, .int (nI q9))]) hx hb dL_loan_169 hl (by decide) rfl (fun ls hl => ?_)
            refine lv_iload hx hb dL_loan_171 (lv_at hl 0 rfl) ?_
            refine lv_bipush (v := -3) hx hb dL_loan_173 (by decide +kernel) ?_
            refine lv_icmp_ne (tgt := 195) hx hb dL_loan_175 (by decide) (fun c175 => ?_) (fun c175 => ?_)
            · refine lv_iload hx hb dL_loan_195 (lv_at hl 0 rfl) ?_
              refine lv_iload hx hb dL_loan_197 (lv_at hl 1 rfl) ?_
              refine nk_icmp_ne (tgt := 243) hx hb (by omega) (by omega) dL_loan_199 (by decide) (fun c199 => ?_) (fun c199 => ?_)
              · exfalso; omega
              · refine lv_iload hx hb dL_loan_202 (lv_at hl 0 rfl) ?_
                refine nk_if_ltN (tgt := 243) hx hb (by omega) dL_loan_204 (by decide) ?_
                refine lv_iload hx hb dL_loan_207 (lv_at hl 0 rfl) ?_
                refine lv_iload hx hb dL_loan_209 (lv_at hl 2 rfl) ?_
                refine lv_bipush (v := nI 10) hx hb dL_loan_211 (by decide +kernel) ?_
                refine nk_idiv hx hb (by omega) (by decide) (by decide) dL_loan_213 ?_
                refine nk_icmp_gt (tgt := 243) hx hb (by omega) (by omega) dL_loan_214 (by decide) (fun c214 => ?_) (fun c214 => ?_)
                · exfalso; omega
                · refine lv_aload_n hx hb dL_loan_217 rfl (lv_at hl 5 rfl) ?_
                  refine nk_rd (W.runV (As := []) (rest := []) ⟨hx, hb, hml, hown, hts⟩ (c_X0_debt l D h0 h1 h2 h3 h4 h5 h6 h7 h8 h9 cI cJ d r lc bg w rm k (pn + 1) fa e1 am dd rt (tkB b (a1 * 10000) k) (va_up pd pn d) (va_up pt pn a1) (tkT tp b (a1 * 10000) pn k) hk hbs) (cwV 0 hts gL_loan_X0_debt rfl rfl rfl (by decide +kernel) ⟨Nat.le_of_ble_eq_true rfl, Nat.le_of_ble_eq_true rfl⟩) ⟨nk_Pr.blind, va_recv hK hP (ci := 0) (q0 := 0) rfl rfl, fun U hU hW => ⟨rfl, by rw [hU]; exact hP, va_K.moved hW.alike hK⟩⟩ rfl rfl hl.1 rfl (lv_room (Nat.le_of_ble_eq_true rfl)) dL_loan_218 ⟨Nat.le_of_ble_eq_true rfl, Nat.le_of_ble_eq_true rfl⟩) ?_
                  refine W.eq (g2 := F0 m 221 ls [.long (lN (ceilA (sm (tkB b (a1 * 10000) k) k)))]) rfl ?_
                  refine lv_lload_n hx hb dL_loan_221 rfl (lv_at hl 4 rfl) ?_
                  refine lv_iload hx hb dL_loan_222 (lv_at hl 2 rfl) ?_
                  refine nk_i2l hx hb (by omega) dL_loan_224 ?_
                  refine nk_lsub hx hb (by omega) dL_loan_225 ?_
                  refine nk_lcmp_ne (tgt := 243) hx hb (by omega) (by omega) dL_loan_226 dL_loan_227 (by decide) (fun c226 => ?_) (fun c226 => ?_)
                  · exfalso; omega
                  · refine lv_aload_n hx hb dL_loan_230 rfl (lv_at hl 5 rfl) ?_
                    refine nk_rd (W.runV (As := []) (rest := []) ⟨hx, hb, hml, hown, hts⟩ (c_X0_room l D h0 h1 h2 h3 h4 h5 h6 h7 h8 h9 cI cJ d r lc bg w rm k (pn + 1) fa e1 am dd rt (tkB b (a1 * 10000) k) (va_up pd pn d) (va_up pt pn a1) (tkT tp b (a1 * 10000) pn k)) (cwV 0 hts gL_loan_X0_room rfl rfl rfl (by decide +kernel) ⟨Nat.le_of_ble_eq_true rfl, Nat.le_of_ble_eq_true rfl⟩) ⟨nk_Pr.blind, va_recv hK hP (ci := 0) (q0 := 0) rfl rfl, fun U hU hW => ⟨rfl, by rw [hU]; exact hP, va_K.moved hW.alike hK⟩⟩ rfl rfl hl.1 rfl (lv_room (Nat.le_of_ble_eq_true rfl)) dL_loan_231 ⟨Nat.le_of_ble_eq_true rfl, Nat.le_of_ble_eq_true rfl⟩) ?_
                    refine W.eq (g2 := F0 m 234 ls [.int (nI rm)]) rfl ?_
                    refine lv_iload hx hb dL_loan_234 (lv_at hl 3 rfl) ?_
                    refine nk_icmp_ne (tgt := 243) hx hb (by omega) (by omega) dL_loan_236 (by decide) (fun c236 => ?_) (fun c236 => ?_)
                    · exfalso; omega
                    · refine lv_iconst (v := nI 1) hx hb dL_loan_239 (by decide +kernel) ?_
                      refine lv_goto (tgt := 244) hx hb dL_loan_240 (by decide) ?_
                      refine W.widen (k := 2) (n := 12) (by decide) (by decide) ?_
                      exact W.zret (ty := .boolean) (v := nI 1) hx hb hr rfl (fun t ht hW => ⟨⟨nI 1, wX h0 h1 h2 h3 h4 h5 h6 h7 h8 h9 cI cJ d r lc bg w rm k (pn + 1) fa e1 am dd rt (tkB b (a1 * 10000) k) (va_up pd pn d) (va_up pt pn a1) (tkT tp b (a1 * 10000) pn k), rfl, ⟨rfl, _, _, _, _, _, _, _, _, _, _, _, _, _, _, _, _, _, _, _, _, _, hI2, rfl⟩, by rw [ht]; exact hP, va_K.moved hW.alike hK, hD⟩, hS.F ht⟩) hS.2.2 dL_loan_244
            · exact absurd c175 (nk_n3 (by omega))
          · have hP : va_P D vwCl (wX h0 h1 h2 h3 h4 h5 h6 h7 h8 h9 cI cJ d r lc bg w rm k pn fa e1 am dd rt b pd pt tp) H := hP
            have hD : va_D A (wX h0 h1 h2 h3 h4 h5 h6 h7 h8 h9 cI cJ d r lc bg w rm k pn fa e1 am dd rt b pd pt tp) := hD
            refine lv_istore (lv' := [(8, .int (-3)), (7, .int (nI (chg (mxE e1 lc) d ((d - bg) / 365) (sm am k) (pY bg pd pt ((d - bg) / 365) pn) a1))), (6, .int (nI a1)), (5, .int (nI rm)), (3, .long (lN (ceilA (sm b k)))), (0, .ref h0), (1, .int v9), (2, .int (nI q9))]) hx hb dL_loan_169 hl (by decide) rfl (fun ls hl => ?_)
            refine lv_iload hx hb dL_loan_171 (lv_at hl 0 rfl) ?_
            refine lv_bipush (v := -3) hx hb dL_loan_173 (by decide +kernel) ?_
            refine lv_icmp_ne (tgt := 195) hx hb dL_loan_175 (by decide) (fun c175 => ?_) (fun c175 => ?_)
            · exact absurd rfl c175
            · refine lv_aload_n hx hb dL_loan_178 rfl (lv_at hl 5 rfl) ?_
              refine nk_rd (W.runV (As := []) (rest := []) ⟨hx, hb, hml, hown, hts⟩ (c_X0_debt l D h0 h1 h2 h3 h4 h5 h6 h7 h8 h9 cI cJ d r lc bg w rm k pn fa e1 am dd rt b pd pt tp hk hbs) (cwV 0 hts gL_loan_X0_debt rfl rfl rfl (by decide +kernel) ⟨Nat.le_of_ble_eq_true rfl, Nat.le_of_ble_eq_true rfl⟩) ⟨nk_Pr.blind, va_recv hK hP (ci := 0) (q0 := 0) rfl rfl, fun U hU hW => ⟨rfl, by rw [hU]; exact hP, va_K.moved hW.alike hK⟩⟩ rfl rfl hl.1 rfl (lv_room (Nat.le_of_ble_eq_true rfl)) dL_loan_179 ⟨Nat.le_of_ble_eq_true rfl, Nat.le_of_ble_eq_true rfl⟩) ?_
              refine W.eq (g2 := F0 m 182 ls [.long (lN (ceilA (sm b k)))]) rfl ?_
              refine lv_lload_n hx hb dL_loan_182 rfl (lv_at hl 4 rfl) ?_
              refine nk_lcmp_ne (tgt := 191) hx hb (by omega) (by omega) dL_loan_183 dL_loan_184 (by decide) (fun c183 => ?_) (fun c183 => ?_)
              · exfalso; omega
              · refine lv_iconst (v := nI 1) hx hb dL_loan_187 (by decide +kernel) ?_
                refine lv_goto (tgt := 244) hx hb dL_loan_188 (by decide) ?_
                refine W.widen (k := 2) (n := 12) (by decide) (by decide) ?_
                exact W.zret (ty := .boolean) (v := nI 1) hx hb hr rfl (fun t ht hW => ⟨⟨nI 1, wX h0 h1 h2 h3 h4 h5 h6 h7 h8 h9 cI cJ d r lc bg w rm k pn fa e1 am dd rt b pd pt tp, rfl, ⟨rfl, _, _, _, _, _, _, _, _, _, _, _, _, _, _, _, _, _, _, _, _, _, hI, rfl⟩, by rw [ht]; exact hP, va_K.moved hW.alike hK, hD⟩, hS.F ht⟩) hS.2.2 dL_loan_244
        · have hP : va_P D vwCl (wX h0 h1 h2 h3 h4 h5 h6 h7 h8 h9 cI cJ d r lc bg w rm k pn fa e1 am dd rt b pd pt tp) H := hP
          have hD : va_D A (wX h0 h1 h2 h3 h4 h5 h6 h7 h8 h9 cI cJ d r lc bg w rm k pn fa e1 am dd rt b pd pt tp) := hD
          refine lv_istore (lv' := [(7, .int (-3)), (6, .int (nI a1)), (5, .int (nI rm)), (3, .long (lN (ceilA (sm b k)))), (0, .ref h0), (1, .int v9), (2, .int (nI q9))]) hx hb dL_loan_161 hl (by decide) rfl (fun ls hl => ?_)
          refine lv_aload_n hx hb dL_loan_163 rfl (lv_at hl 4 rfl) ?_
          refine lv_iload hx hb dL_loan_164 (lv_at hl 1 rfl) ?_
          have hZH := hZ.kept hS.2.1
          have hFc := va_free (wc := wX h0 h1 h2 h3 h4 h5 h6 h7 h8 h9 cI cJ d r lc bg w rm k pn fa e1 am dd rt b pd pt tp) hD hS hA [0, 1, 2, 3, 4, 5, 6, 7, 8, 9] rfl
          refine nk_icall (wr := []) (mc := 1) (ms := 6) (vx_runSW (As := [.ref h0, .int (nI a1)]) (rest := []) ⟨hx, hb, hml, hown, hts⟩ (c_L_pay l hfl D h0 h1 h2 h3 h4 h5 h6 h7 h8 h9 cI cJ d r lc bg w rm k pn fa e1 am dd rt b pd pt tp H.size (nI a1) ((a1 : Nat) : Int) a1 (nI_toInt (by omega)) (fun _ => ⟨rfl, by omega⟩) hlc he hed hk ham hpn hbg hd hpd hpt hbs hb9 (by omega)) (vx_cwSW 2 hts gL_loan_L_pay rfl rfl rfl (by decide +kernel) ⟨Nat.le_of_ble_eq_true rfl, Nat.le_of_ble_eq_true rfl⟩) ⟨nk_Px.blind, fun U hU hW => ⟨rfl, by rw [hU], by rw [hU]; exact hP, va_K.moved hW.alike hK, hD.weaken (fun _ _ _ _ => trivial), by rw [hU]; exact nk_Z.go hZH hW (fun q h => hFc q h)⟩⟩ rfl rfl hl.1 rfl (lv_room (Nat.le_of_ble_eq_true rfl)) dL_loan_166 ⟨Nat.le_of_ble_eq_true rfl, Nat.le_of_ble_eq_true rfl⟩) hP hD hS hA [0, 1, 2, 3, 4, 5, 6, 7, 8, 9] [] rfl rfl rfl (by decide) (fun r166 w1 H locs hw166 hP hD hS hk9 => ?_)
          rcases hw166 with ⟨y1, y2, y3, rfl, rfl⟩ | ⟨rfl, y1, rfl⟩
          · exact absurd y2 x1.2
          · have hP : va_P D vwCl (wX h0 h1 h2 h3 h4 h5 h6 h7 h8 h9 cI cJ d r lc bg w rm k pn fa e1 am dd rt b pd pt tp) H := hP
            have hD : va_D A (wX h0 h1 h2 h3 h4 h5 h6 h7 h8 h9 cI cJ d r lc bg w rm k pn fa e1 am dd rt b pd pt tp) := hD
            refine lv_istore (lv' := [(8, .int (-3)), (7, .int (-3)), (6, .int (nI a1)), (5, .int (nI rm)), (3, .long (lN (ceilA (sm b k)))), (0, .ref h0), (1, .int v9), (2, .int (nI q9))]) hx hb dL_loan_169 hl (by decide) rfl (fun ls hl => ?_)
            refine lv_iload hx hb dL_loan_171 (lv_at hl 0 rfl) ?_
            refine lv_bipush (v := -3) hx hb dL_loan_173 (by decide +kernel) ?_
            refine lv_icmp_ne (tgt := 195) hx hb dL_loan_175 (by decide) (fun c175 => ?_) (fun c175 => ?_)
            · exact absurd rfl c175
            · refine lv_aload_n hx hb dL_loan_178 rfl (lv_at hl 5 rfl) ?_
              refine nk_rd (W.runV (As := []) (rest := []) ⟨hx, hb, hml, hown, hts⟩ (c_X0_debt l D h0 h1 h2 h3 h4 h5 h6 h7 h8 h9 cI cJ d r lc bg w rm k pn fa e1 am dd rt b pd pt tp hk hbs) (cwV 0 hts gL_loan_X0_debt rfl rfl rfl (by decide +kernel) ⟨Nat.le_of_ble_eq_true rfl, Nat.le_of_ble_eq_true rfl⟩) ⟨nk_Pr.blind, va_recv hK hP (ci := 0) (q0 := 0) rfl rfl, fun U hU hW => ⟨rfl, by rw [hU]; exact hP, va_K.moved hW.alike hK⟩⟩ rfl rfl hl.1 rfl (lv_room (Nat.le_of_ble_eq_true rfl)) dL_loan_179 ⟨Nat.le_of_ble_eq_true rfl, Nat.le_of_ble_eq_true rfl⟩) ?_
              refine W.eq (g2 := F0 m 182 ls [.long (lN (ceilA (sm b k)))]) rfl ?_
              refine lv_lload_n hx hb dL_loan_182 rfl (lv_at hl 4 rfl) ?_
              refine nk_lcmp_ne (tgt := 191) hx hb (by omega) (by omega) dL_loan_183 dL_loan_184 (by decide) (fun c183 => ?_) (fun c183 => ?_)
              · exfalso; omega
              · refine lv_iconst (v := nI 1) hx hb dL_loan_187 (by decide +kernel) ?_
                refine lv_goto (tgt := 244) hx hb dL_loan_188 (by decide) ?_
                refine W.widen (k := 2) (n := 12) (by decide) (by decide) ?_
                exact W.zret (ty := .boolean) (v := nI 1) hx hb hr rfl (fun t ht hW => ⟨⟨nI 1, wX h0 h1 h2 h3 h4 h5 h6 h7 h8 h9 cI cJ d r lc bg w rm k pn fa e1 am dd rt b pd pt tp, rfl, ⟨rfl, _, _, _, _, _, _, _, _, _, _, _, _, _, _, _, _, _, _, _, _, _, hI, rfl⟩, by rw [ht]; exact hP, va_K.moved hW.alike hK, hD⟩, hS.F ht⟩) hS.2.2 dL_loan_244
      refine nk_if_ne (tgt := 146) hx hb (lwV_i (by decide) (by decide)) dL_loan_138 (by decide) (fun c138 => ?_) (fun c138 => ?_)
      · refine lv_sipush (v := nI 3000) hx hb dL_loan_146 (by decide +kernel) ?_
        exact kj149 3000 (by decide)
      · refine lv_ldc (v := nI 10000000) hx hb hown k78 dL_loan_141 ?_
        refine lv_goto (tgt := 149) hx hb dL_loan_143 (by decide) ?_
        exact kj149 10000000 (by decide)
  · refine lv_iconst (v := nI 1) hx hb dL_loan_16 (by decide +kernel) ?_
    refine lv_iload_n hx hb dL_loan_17 rfl (lv_at hl 3 rfl) ?_
    refine lv_iload_n hx hb dL_loan_18 rfl (lv_at hl 3 rfl) ?_
    refine lv_bipush (v := nI 17) hx hb dL_loan_19 (by decide +kernel) ?_
    refine lv_ishr hx hb dL_loan_21 ?_
    refine lv_iconst (v := nI 2) hx hb dL_loan_22 (by decide +kernel) ?_
    refine nk_rd (W.runS (As := [.int (v9 >>> ((nI 17) &&& 31)), .int (nI 2)]) (rest := [.int v9, .int (nI 1)]) ⟨hx, hb, hml, hown, hts⟩ (c_L_low l (v9 >>> ((nI 17) &&& 31)) 2 (by omega) (by omega)) (va_cwS 2 hts gL_loan_L_low rfl rfl rfl (by decide +kernel) ⟨Nat.le_of_ble_eq_true rfl, Nat.le_of_ble_eq_true rfl⟩) ⟨nk_P0.blind, fun U hU hW => ⟨rfl, trivial⟩⟩ rfl rfl hl.1 rfl (lv_room (Nat.le_of_ble_eq_true rfl)) dL_loan_23 ⟨Nat.le_of_ble_eq_true rfl, Nat.le_of_ble_eq_true rfl⟩) ?_
    refine W.eq (g2 := F0 m 26 ls [.int (nI (lwV (v9 >>> ((nI 17) &&& 31)) 2)), .int v9, .int (nI 1)]) rfl ?_
    have kj37 : ∀ (n9 : Nat), (0 < n9 ∧ n9 ≤ 10000000) → W p l e (headSpec wsL_loan { frames := 9, cells := 2, slots := 12, locals := 160 }).room s m args below meth c s.heap [] (0) (0) (MQ below (va_Qi (fun r9 w1 => r9 = nI 1 ∧ nk_LW h0 h1 h2 h3 h4 h5 h6 h7 h8 h9 cI cJ lc e1 w1) (fun w1 t => nk_At D (tX cI cJ) A w1 t) A) args s 2 12 A) (F0 m 37 ls [.int (nI n9), .int v9, .int (nI 1)]) := by
      intro n9 hn9
      refine nk_rd (W.runS (As := [.int v9, .int (nI n9)]) (rest := [.int (nI 1)]) ⟨hx, hb, hml, hown, hts⟩ (c_L_low l v9 n9 (by omega) (by omega)) (va_cwS 2 hts gL_loan_L_low rfl rfl rfl (by decide +kernel) ⟨Nat.le_of_ble_eq_true rfl, Nat.le_of_ble_eq_true rfl⟩) ⟨nk_P0.blind, fun U hU hW => ⟨rfl, trivial⟩⟩ rfl rfl hl.1 rfl (lv_room (Nat.le_of_ble_eq_true rfl)) dL_loan_37 ⟨Nat.le_of_ble_eq_true rfl, Nat.le_of_ble_eq_true rfl⟩) ?_
      refine W.eq (g2 := F0 m 40 ls [.int (nI (lwV v9 n9)), .int (nI 1)]) rfl ?_
      refine nk_iadd hx hb dL_loan_40 ?_
      have hlw := lwV_lt (x := v9) (n := n9) hn9.1
      obtain ⟨a1, ha1⟩ : ∃ a1 : Nat, a1 = 1 + (lwV v9 n9) := ⟨_, rfl⟩
      refine nk_topi (y := nI a1) (by rw [ha1]) ?_
      refine lv_istore (lv' := [(6, .int (nI a1)), (5, .int (nI rm)), (3, .long (lN (ceilA (sm b k)))), (0, .ref h0), (1, .int v9), (2, .int (nI q9))]) hx hb dL_loan_41 hl (by decide) rfl (fun ls hl => ?_)
      refine lv_aload_n hx hb dL_loan_43 rfl (lv_at hl 3 rfl) ?_
      refine lv_iload hx hb dL_loan_44 (lv_at hl 0 rfl) ?_
      have hZH := hZ.kept hS.2.1
      have hFc := va_free (wc := wX h0 h1 h2 h3 h4 h5 h6 h7 h8 h9 cI cJ d r lc bg w rm k pn fa e1 am dd rt b pd pt tp) hD hS hA [0, 1, 2, 3, 4, 5, 6, 7, 8, 9] rfl
      refine nk_icall (wr := []) (mc := 1) (ms := 6) (vx_runSW (As := [.ref h0, .int (nI a1)]) (rest := []) ⟨hx, hb, hml, hown, hts⟩ (c_L_draw l hfl D h0 h1 h2 h3 h4 h5 h6 h7 h8 h9 cI cJ d r lc bg w rm k pn fa e1 am dd rt b pd pt tp s.heap.size (nI a1) ((a1 : Nat) : Int) a1 (nI_toInt (by omega)) (fun _ => ⟨rfl, by omega⟩) hlc he hk hrm (by omega)) (vx_cwSW 2 hts gL_loan_L_draw rfl rfl rfl (by decide +kernel) ⟨Nat.le_of_ble_eq_true rfl, Nat.le_of_ble_eq_true rfl⟩) ⟨nk_Px.blind, fun U hU hW => ⟨rfl, by rw [hU], by rw [hU]; exact hP, va_K.moved hW.alike hK, hD.weaken (fun _ _ _ _ => trivial), by rw [hU]; exact nk_Z.go hZH hW (fun q h => hFc q h)⟩⟩ rfl rfl hl.1 rfl (lv_room (Nat.le_of_ble_eq_true rfl)) dL_loan_46 ⟨Nat.le_of_ble_eq_true rfl, Nat.le_of_ble_eq_true rfl⟩) hP hD hS hA [0, 1, 2, 3, 4, 5, 6, 7, 8, 9] [] rfl rfl rfl (by decide) (fun r46 w1 H locs hw46 hP hD hS hk9 => ?_)
      rcases hw46 with ⟨x1, x2, x3, rfl, rfl⟩ | ⟨rfl, x1, rfl⟩
      · have hP : va_P D vwCl (wX h0 h1 h2 h3 h4 h5 h6 h7 h8 h9 cI cJ d r lc bg w (rm - a1) (k + 1) pn fa e1 (va_up am k a1) (va_up dd k d) (va_up rt k r) (va_up b k (a1 * 10000)) pd pt tp) H := hP
        have hD : va_D A (wX h0 h1 h2 h3 h4 h5 h6 h7 h8 h9 cI cJ d r lc bg w (rm - a1) (k + 1) pn fa e1 (va_up am k a1) (va_up dd k d) (va_up rt k r) (va_up b k (a1 * 10000)) pd pt tp) := hD
        have hI2 := Inv_draw hI x3.1 x3.2 x2.1 x2.2
        have hdE : ceilA (sm (va_up b k (a1 * 10000)) (k + 1)) = ceilA (sm b k) + a1 := by rw [sm_up, ceilA_add]
        obtain ⟨hlc, hd, hk, hpn, hbg, hw, hrm, he, hed, hfa, ham, hpd, hpd2, hpt, hbs, hb9, hrt, hdd, hroll, hh1, hh2, hh3, htp, hsa, hk0, he2, he2d, hga, hgb, hgb2, hpi, hdr, hpa1, he20, he21, hk0m, he28, hgbz, halE, hmxE, hlsE⟩ := Inv_f hI2
        have hbs9 := hbs
        have hbs : sm _ _ < 4611686018427387904 := Nat.lt_trans hbs9 (by decide)
        refine lv_istore (lv' := [(7, .int (nI (rm - a1))), (6, .int (nI a1)), (5, .int (nI rm)), (3, .long (lN (ceilA (sm b k)))), (0, .ref h0), (1, .int v9), (2, .int (nI q9))]) hx hb dL_loan_49 hl (by decide) rfl (fun ls hl => ?_)
        refine lv_iload hx hb dL_loan_51 (lv_at hl 0 rfl) ?_
        refine lv_bipush (v := -3) hx hb dL_loan_53 (by decide +kernel) ?_
        refine lv_icmp_ne (tgt := 84) hx hb dL_loan_55 (by decide) (fun c55 => ?_) (fun c55 => ?_)
        · refine lv_iload hx hb dL_loan_84 (lv_at hl 0 rfl) ?_
          refine lv_iload hx hb dL_loan_86 (lv_at hl 2 rfl) ?_
          refine lv_iload hx hb dL_loan_88 (lv_at hl 1 rfl) ?_
          refine nk_isub hx hb (by omega) dL_loan_90 ?_
          refine nk_icmp_ne (tgt := 120) hx hb (by omega) (by omega) dL_loan_91 (by decide) (fun c91 => ?_) (fun c91 => ?_)
          · exfalso; omega
          · refine lv_aload_n hx hb dL_loan_94 rfl (lv_at hl 4 rfl) ?_
            refine nk_rd (W.runV (As := []) (rest := []) ⟨hx, hb, hml, hown, hts⟩ (c_X0_room l D h0 h1 h2 h3 h4 h5 h6 h7 h8 h9 cI cJ d r lc bg w (rm - a1) (k + 1) pn fa e1 (va_up am k a1) (va_up dd k d) (va_up rt k r) (va_up b k (a1 * 10000)) pd pt tp) (cwV 0 hts gL_loan_X0_room rfl rfl rfl (by decide +kernel) ⟨Nat.le_of_ble_eq_true rfl, Nat.le_of_ble_eq_true rfl⟩) ⟨nk_Pr.blind, va_recv hK hP (ci := 0) (q0 := 0) rfl rfl, fun U hU hW => ⟨rfl, by rw [hU]; exact hP, va_K.moved hW.alike hK⟩⟩ rfl rfl hl.1 rfl (lv_room (Nat.le_of_ble_eq_true rfl)) dL_loan_95 ⟨Nat.le_of_ble_eq_true rfl, Nat.le_of_ble_eq_true rfl⟩) ?_
            refine W.eq (g2 := F0 m 98 ls [.int (nI (rm - a1))]) rfl ?_
            refine lv_iload hx hb dL_loan_98 (lv_at hl 0 rfl) ?_
            refine nk_icmp_ne (tgt := 120) hx hb (by omega) (by omega) dL_loan_100 (by decide) (fun c100 => ?_) (fun c100 => ?_)
            · exfalso; omega
            · refine lv_aload_n hx hb dL_loan_103 rfl (lv_at hl 4 rfl) ?_
              refine nk_rd (W.runV (As := []) (rest := []) ⟨hx, hb, hml, hown, hts⟩ (c_X0_debt l D h0 h1 h2 h3 h4 h5 h6 h7 h8 h9 cI cJ d r lc bg w (rm - a1) (k + 1) pn fa e1 (va_up am k a1) (va_up dd k d) (va_up rt k r) (va_up b k (a1 * 10000)) pd pt tp hk hbs) (cwV 0 hts gL_loan_X0_debt rfl rfl rfl (by decide +kernel) ⟨Nat.le_of_ble_eq_true rfl, Nat.le_of_ble_eq_true rfl⟩) ⟨nk_Pr.blind, va_recv hK hP (ci := 0) (q0 := 0) rfl rfl, fun U hU hW => ⟨rfl, by rw [hU]; exact hP, va_K.moved hW.alike hK⟩⟩ rfl rfl hl.1 rfl (lv_room (Nat.le_of_ble_eq_true rfl)) dL_loan_104 ⟨Nat.le_of_ble_eq_true rfl, Nat.le_of_ble_eq_true rfl⟩) ?_
              refine W.eq (g2 := F0 m 107 ls [.long (lN (ceilA (sm (va_up b k (a1 * 10000)) (k + 1))))]) rfl ?_
              refine lv_lload_n hx hb dL_loan_107 rfl (lv_at hl 3 rfl) ?_
              refine lv_iload hx hb dL_loan_108 (lv_at hl 1 rfl) ?_
              refine nk_i2l hx hb (by omega) dL_loan_110 ?_
              refine nk_ladd hx hb dL_loan_111 ?_
              refine nk_lcmp_ne (tgt := 120) hx hb (by omega) (by omega) dL_loan_112 dL_loan_113 (by decide) (fun c112 => ?_) (fun c112 => ?_)
              · exfalso; omega
              · refine lv_iconst (v := nI 1) hx hb dL_loan_116 (by decide +kernel) ?_
                refine lv_goto (tgt := 121) hx hb dL_loan_117 (by decide) ?_
                refine W.widen (k := 2) (n := 12) (by decide) (by decide) ?_
                exact W.zret (ty := .boolean) (v := nI 1) hx hb hr rfl (fun t ht hW => ⟨⟨nI 1, wX h0 h1 h2 h3 h4 h5 h6 h7 h8 h9 cI cJ d r lc bg w (rm - a1) (k + 1) pn fa e1 (va_up am k a1) (va_up dd k d) (va_up rt k r) (va_up b k (a1 * 10000)) pd pt tp, rfl, ⟨rfl, _, _, _, _, _, _, _, _, _, _, _, _, _, _, _, _, _, _, _, _, _, hI2, rfl⟩, by rw [ht]; exact hP, va_K.moved hW.alike hK, hD⟩, hS.F ht⟩) hS.2.2 dL_loan_121
        · exact absurd c55 (nk_n3 (by omega))
      · have hP : va_P D vwCl (wX h0 h1 h2 h3 h4 h5 h6 h7 h8 h9 cI cJ d r lc bg w rm k pn fa e1 am dd rt b pd pt tp) H := hP
        have hD : va_D A (wX h0 h1 h2 h3 h4 h5 h6 h7 h8 h9 cI cJ d r lc bg w rm k pn fa e1 am dd rt b pd pt tp) := hD
        refine lv_istore (lv' := [(7, .int (-3)), (6, .int (nI a1)), (5, .int (nI rm)), (3, .long (lN (ceilA (sm b k)))), (0, .ref h0), (1, .int v9), (2, .int (nI q9))]) hx hb dL_loan_49 hl (by decide) rfl (fun ls hl => ?_)
        refine lv_iload hx hb dL_loan_51 (lv_at hl 0 rfl) ?_
        refine lv_bipush (v := -3) hx hb dL_loan_53 (by decide +kernel) ?_
        refine lv_icmp_ne (tgt := 84) hx hb dL_loan_55 (by decide) (fun c55 => ?_) (fun c55 => ?_)
        · exact absurd rfl c55
        · refine lv_aload_n hx hb dL_loan_58 rfl (lv_at hl 4 rfl) ?_
          refine nk_rd (W.runV (As := []) (rest := []) ⟨hx, hb, hml, hown, hts⟩ (c_X0_room l D h0 h1 h2 h3 h4 h5 h6 h7 h8 h9 cI cJ d r lc bg w rm k pn fa e1 am dd rt b pd pt tp) (cwV 0 hts gL_loan_X0_room rfl rfl rfl (by decide +kernel) ⟨Nat.le_of_ble_eq_true rfl, Nat.le_of_ble_eq_true rfl⟩) ⟨nk_Pr.blind, va_recv hK hP (ci := 0) (q0 := 0) rfl rfl, fun U hU hW => ⟨rfl, by rw [hU]; exact hP, va_K.moved hW.alike hK⟩⟩ rfl rfl hl.1 rfl (lv_room (Nat.le_of_ble_eq_true rfl)) dL_loan_59 ⟨Nat.le_of_ble_eq_true rfl, Nat.le_of_ble_eq_true rfl⟩) ?_
          refine W.eq (g2 := F0 m 62 ls [.int (nI rm)]) rfl ?_
          refine lv_iload hx hb dL_loan_62 (lv_at hl 2 rfl) ?_
          refine nk_icmp_ne (tgt := 80) hx hb (by omega) (by omega) dL_loan_64 (by decide) (fun c64 => ?_) (fun c64 => ?_)
          · exfalso; omega
          · refine lv_aload_n hx hb dL_loan_67 rfl (lv_at hl 4 rfl) ?_
            refine nk_rd (W.runV (As := []) (rest := []) ⟨hx, hb, hml, hown, hts⟩ (c_X0_debt l D h0 h1 h2 h3 h4 h5 h6 h7 h8 h9 cI cJ d r lc bg w rm k pn fa e1 am dd rt b pd pt tp hk hbs) (cwV 0 hts gL_loan_X0_debt rfl rfl rfl (by decide +kernel) ⟨Nat.le_of_ble_eq_true rfl, Nat.le_of_ble_eq_true rfl⟩) ⟨nk_Pr.blind, va_recv hK hP (ci := 0) (q0 := 0) rfl rfl, fun U hU hW => ⟨rfl, by rw [hU]; exact hP, va_K.moved hW.alike hK⟩⟩ rfl rfl hl.1 rfl (lv_room (Nat.le_of_ble_eq_true rfl)) dL_loan_68 ⟨Nat.le_of_ble_eq_true rfl, Nat.le_of_ble_eq_true rfl⟩) ?_
            refine W.eq (g2 := F0 m 71 ls [.long (lN (ceilA (sm b k)))]) rfl ?_
            refine lv_lload_n hx hb dL_loan_71 rfl (lv_at hl 3 rfl) ?_
            refine nk_lcmp_ne (tgt := 80) hx hb (by omega) (by omega) dL_loan_72 dL_loan_73 (by decide) (fun c72 => ?_) (fun c72 => ?_)
            · exfalso; omega
            · refine lv_iconst (v := nI 1) hx hb dL_loan_76 (by decide +kernel) ?_
              refine lv_goto (tgt := 121) hx hb dL_loan_77 (by decide) ?_
              refine W.widen (k := 2) (n := 12) (by decide) (by decide) ?_
              exact W.zret (ty := .boolean) (v := nI 1) hx hb hr rfl (fun t ht hW => ⟨⟨nI 1, wX h0 h1 h2 h3 h4 h5 h6 h7 h8 h9 cI cJ d r lc bg w rm k pn fa e1 am dd rt b pd pt tp, rfl, ⟨rfl, _, _, _, _, _, _, _, _, _, _, _, _, _, _, _, _, _, _, _, _, _, hI, rfl⟩, by rw [ht]; exact hP, va_K.moved hW.alike hK, hD⟩, hS.F ht⟩) hS.2.2 dL_loan_121
    refine nk_if_ne (tgt := 34) hx hb (lwV_i (by decide) (by decide)) dL_loan_26 (by decide) (fun c26 => ?_) (fun c26 => ?_)
    · refine lv_sipush (v := nI 9000) hx hb dL_loan_34 (by decide +kernel) ?_
      exact kj37 9000 (by decide)
    · refine lv_ldc (v := nI 10000000) hx hb hown k78 dL_loan_29 ?_
      refine lv_goto (tgt := 37) hx hb dL_loan_31 (by decide) ?_
      exact kj37 10000000 (by decide)
end
