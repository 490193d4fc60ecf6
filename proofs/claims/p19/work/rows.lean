section
/-! the library's laws of numbers, named once -/
theorem fl_good : FP.Core.Good FP.Core.b64 := FP.Core.good_b64
end
section
-- ===== PART A: goes FIRST, ahead of the names: the tables' words, and 'selects' of the private methods out of them =====
/-- a private method of a class that the tables say can be made, by its rows of tables_1 -/
def lw_okq (q : MethodName × Nat) : Prop := (q.1.cls ≠ "java/lang/invoke/MethodHandle" ∧ q.1.cls ≠ "java/lang/invoke/VarHandle") ∧ Cond.instantiable q.1.cls q.2 ∈ tables_1 ∧ Cond.privateMethod q.1 ∈ tables_1 ∧ Cond.instanceMethod q.1 ∈ tables_1
theorem lw_p0 : lw_okq (⟨"java/lang/Throwable", "fillInStackTrace", "(I)Ljava/lang/Throwable;"⟩, 6) := ⟨⟨by decide +kernel, by decide +kernel⟩, List.mem_of_getElem? (i := 167) (by decide +kernel), List.mem_of_getElem? (i := 165) (by decide +kernel), List.mem_of_getElem? (i := 166) (by decide +kernel)⟩
theorem lw_p1 : lw_okq (⟨"GridCommons", "sumOfShares", "()I"⟩, 12) := ⟨⟨by decide +kernel, by decide +kernel⟩, List.mem_of_getElem? (i := 11) (by decide +kernel), List.mem_of_getElem? (i := 201) (by decide +kernel), List.mem_of_getElem? (i := 202) (by decide +kernel)⟩
theorem lw_p2 : lw_okq (⟨"GridCommons", "writeUses", "(I)V"⟩, 12) := ⟨⟨by decide +kernel, by decide +kernel⟩, List.mem_of_getElem? (i := 11) (by decide +kernel), List.mem_of_getElem? (i := 234) (by decide +kernel), List.mem_of_getElem? (i := 235) (by decide +kernel)⟩
theorem lw_p3 : lw_okq (⟨"GridCommons", "shedUntilCarried", "()V"⟩, 12) := ⟨⟨by decide +kernel, by decide +kernel⟩, List.mem_of_getElem? (i := 11) (by decide +kernel), List.mem_of_getElem? (i := 247) (by decide +kernel), List.mem_of_getElem? (i := 248) (by decide +kernel)⟩
theorem lw_p4 : lw_okq (⟨"GridCommons", "nextToShed", "()I"⟩, 12) := ⟨⟨by decide +kernel, by decide +kernel⟩, List.mem_of_getElem? (i := 11) (by decide +kernel), List.mem_of_getElem? (i := 251) (by decide +kernel), List.mem_of_getElem? (i := 252) (by decide +kernel)⟩
theorem lw_p5 : lw_okq (⟨"GridCommons", "isOverLine", "()Z"⟩, 12) := ⟨⟨by decide +kernel, by decide +kernel⟩, List.mem_of_getElem? (i := 11) (by decide +kernel), List.mem_of_getElem? (i := 255) (by decide +kernel), List.mem_of_getElem? (i := 256) (by decide +kernel)⟩
theorem lw_p6 : lw_okq (⟨"GridCommons", "sumOfNeeds", "()D"⟩, 12) := ⟨⟨by decide +kernel, by decide +kernel⟩, List.mem_of_getElem? (i := 11) (by decide +kernel), List.mem_of_getElem? (i := 259) (by decide +kernel), List.mem_of_getElem? (i := 260) (by decide +kernel)⟩
theorem lw_p7 : lw_okq (⟨"GridCommons", "writeUsed", "(I)V"⟩, 12) := ⟨⟨by decide +kernel, by decide +kernel⟩, List.mem_of_getElem? (i := 11) (by decide +kernel), List.mem_of_getElem? (i := 264) (by decide +kernel), List.mem_of_getElem? (i := 265) (by decide +kernel)⟩
theorem lw_p8 : lw_okq (⟨"GridCommons", "giveByShare", "(II)V"⟩, 12) := ⟨⟨by decide +kernel, by decide +kernel⟩, List.mem_of_getElem? (i := 11) (by decide +kernel), List.mem_of_getElem? (i := 268) (by decide +kernel), List.mem_of_getElem? (i := 269) (by decide +kernel)⟩
theorem lw_p9 : lw_okq (⟨"GridCommons", "giveSun", "(IID)V"⟩, 12) := ⟨⟨by decide +kernel, by decide +kernel⟩, List.mem_of_getElem? (i := 11) (by decide +kernel), List.mem_of_getElem? (i := 276) (by decide +kernel), List.mem_of_getElem? (i := 277) (by decide +kernel)⟩
theorem lw_p10 : lw_okq (⟨"GridCommons", "giveByNeed", "(I)V"⟩, 12) := ⟨⟨by decide +kernel, by decide +kernel⟩, List.mem_of_getElem? (i := 11) (by decide +kernel), List.mem_of_getElem? (i := 280) (by decide +kernel), List.mem_of_getElem? (i := 281) (by decide +kernel)⟩
theorem lw_p11 : lw_okq (⟨"GridCommons", "storeOrSell", "(I)V"⟩, 12) := ⟨⟨by decide +kernel, by decide +kernel⟩, List.mem_of_getElem? (i := 11) (by decide +kernel), List.mem_of_getElem? (i := 284) (by decide +kernel), List.mem_of_getElem? (i := 285) (by decide +kernel)⟩
theorem lw_p12 : lw_okq (⟨"GridCommons", "giveFromBattery", "(I)V"⟩, 12) := ⟨⟨by decide +kernel, by decide +kernel⟩, List.mem_of_getElem? (i := 11) (by decide +kernel), List.mem_of_getElem? (i := 289) (by decide +kernel), List.mem_of_getElem? (i := 290) (by decide +kernel)⟩
theorem lw_p13 : lw_okq (⟨"GridCommons", "writeBills", "(I)V"⟩, 12) := ⟨⟨by decide +kernel, by decide +kernel⟩, List.mem_of_getElem? (i := 11) (by decide +kernel), List.mem_of_getElem? (i := 299) (by decide +kernel), List.mem_of_getElem? (i := 300) (by decide +kernel)⟩
theorem lw_p14 : lw_okq (⟨"GridCommons", "requireQuarter", "(I)V"⟩, 12) := ⟨⟨by decide +kernel, by decide +kernel⟩, List.mem_of_getElem? (i := 11) (by decide +kernel), List.mem_of_getElem? (i := 321) (by decide +kernel), List.mem_of_getElem? (i := 322) (by decide +kernel)⟩
theorem lw_p15 : lw_okq (⟨"GridCommons", "closedSlot", "(II)I"⟩, 12) := ⟨⟨by decide +kernel, by decide +kernel⟩, List.mem_of_getElem? (i := 11) (by decide +kernel), List.mem_of_getElem? (i := 346) (by decide +kernel), List.mem_of_getElem? (i := 347) (by decide +kernel)⟩
def lw_privs_1 : List (MethodName × Nat) := [(⟨"java/lang/Throwable", "fillInStackTrace", "(I)Ljava/lang/Throwable;"⟩, 6), (⟨"GridCommons", "sumOfShares", "()I"⟩, 12), (⟨"GridCommons", "writeUses", "(I)V"⟩, 12), (⟨"GridCommons", "shedUntilCarried", "()V"⟩, 12), (⟨"GridCommons", "nextToShed", "()I"⟩, 12), (⟨"GridCommons", "isOverLine", "()Z"⟩, 12), (⟨"GridCommons", "sumOfNeeds", "()D"⟩, 12), (⟨"GridCommons", "writeUsed", "(I)V"⟩, 12), (⟨"GridCommons", "giveByShare", "(II)V"⟩, 12), (⟨"GridCommons", "giveSun", "(IID)V"⟩, 12), (⟨"GridCommons", "giveByNeed", "(I)V"⟩, 12), (⟨"GridCommons", "storeOrSell", "(I)V"⟩, 12), (⟨"GridCommons", "giveFromBattery", "(I)V"⟩, 12), (⟨"GridCommons", "writeBills", "(I)V"⟩, 12), (⟨"GridCommons", "requireQuarter", "(I)V"⟩, 12), (⟨"GridCommons", "closedSlot", "(II)I"⟩, 12)]
theorem lw_r1 : ∀ q ∈ lw_privs_1, lw_okq q := List.forall_mem_cons.mpr ⟨lw_p0, List.forall_mem_cons.mpr ⟨lw_p1, List.forall_mem_cons.mpr ⟨lw_p2, List.forall_mem_cons.mpr ⟨lw_p3, List.forall_mem_cons.mpr ⟨lw_p4, List.forall_mem_cons.mpr ⟨lw_p5, List.forall_mem_cons.mpr ⟨lw_p6, List.forall_mem_cons.mpr ⟨lw_p7, List.forall_mem_cons.mpr ⟨lw_p8, List.forall_mem_cons.mpr ⟨lw_p9, List.forall_mem_cons.mpr ⟨lw_p10, List.forall_mem_cons.mpr ⟨lw_p11, List.forall_mem_cons.mpr ⟨lw_p12, List.forall_mem_cons.mpr ⟨lw_p13, List.forall_mem_cons.mpr ⟨lw_p14, List.forall_mem_cons.mpr ⟨lw_p15, fun _ h => absurd h List.not_mem_nil⟩⟩⟩⟩⟩⟩⟩⟩⟩⟩⟩⟩⟩⟩⟩⟩
def lw_privs : List (MethodName × Nat) := lw_privs_1
def lw_tbl : List Cond := k2_sels lw_privs ++ tables_1
theorem lw_privs_ok : ∀ q ∈ lw_privs, lw_okq q := lw_r1
/-- the streams that the claim lets the run draw from -/
abbrev lw_cs : List Choice := [Jvm.Choice.named "NaN.bits"]
theorem lw_bits : nanBits ∈ lw_cs := by first | decide | exact List.mem_cons_self | simp [lw_cs, nanBits]
/-! ===== BEGIN words of one list among another's, by their places ===== -/
theorem goodIn_r {big : List Cond} (ws : List Cond) (ps : List Nat) (hp : ws = ps.filterMap (fun i => big[i]?)) (h : ws.all goodWord = true) : GoodIn big ws := by
  intro w hw
  have h1 := List.all_eq_true.mp h w hw
  rw [hp] at hw
  obtain ⟨i, -, hi⟩ := List.mem_filterMap.mp hw
  have hm : w ∈ big := by first | exact List.mem_of_getElem? hi | exact List.getElem?_mem hi
  exact ⟨hm, good_of_word h1⟩
theorem goodIn_app {big a b : List Cond} (ha : GoodIn big a) (hb : GoodIn big b) : GoodIn big (a ++ b) := fun w h => (List.mem_append.mp h).elim (ha w) (hb w)
theorem goodIn_ca {big a b : List Cond} {c : Cond} (ha : GoodIn big (c :: a)) (hb : GoodIn big b) : GoodIn big (c :: (a ++ b)) := fun w h => (List.mem_cons.mp h).elim (fun e => ha w (List.mem_cons.mpr (Or.inl e))) (fun h => (List.mem_append.mp h).elim (fun h => ha w (List.mem_cons.mpr (Or.inr h))) (hb w))
theorem goodIn_sub {big ws : List Cond} (hm : ∀ w ∈ ws, w ∈ big) (h : ws.all goodWord = true) : GoodIn big ws := fun w hw => ⟨hm w hw, good_of_word (List.all_eq_true.mp h w hw)⟩
/-! ===== END ===== -/

/-! ===== BEGIN exceptions that leave a method, and their catching by the caller (launches without stack traces) ===== -/
section VXA
/-! The laws vx_back, vx_callV, vx_callS, vx_callSW, vx_throw0, vx_throwS follow proofs of the library, with one case more: JvmDerived/Free/Laws.lean (Back.of_free), Shelf42/LK1.lean (callV, callS), Shelf/KitTraced.lean (throwNew0V, throwNewS). -/
/-- where a method has thrown q: the class by its name, the cell, what was written, the world -/
def vx_T (XC : String → State → State → Prop) (st : State) (q : Addr) (t : State) (mc ms : Nat) (free : Addr → Prop) : Prop :=
  ∃ (E : String) (ce : Cell) (L : List Loc), XC E st t ∧ t.heap[q]? = some ce ∧ ce.vm = .none ∧ st.vm.findClass E = some ce.cls ∧ st.WarmedH t.vm ∧ st.sameButNew ({ t with vm := st.vm } : State) L mc ms ∧ ∀ z ∈ L, free z.base
def vx_Q (Qc : Array Value → State → Outcome → State → Prop) (XC : String → State → State → Prop) (mc ms : Nat) (free : Addr → Prop) : Array Value → State → Outcome → State → Prop := fun a st o t =>
  (Qc a st o t ∧ ∃ L, FrameEnd st o t L mc ms ∧ ∀ q ∈ L, free q.base) ∨ ∃ q, o = .threw q ∧ vx_T XC st q t mc ms free
/-- a callee that returns or throws -/
def vx_Met (l : Launch) (y : MethodName) (ws : List Cond) (rm : Room) (Pc : Array Value → State → Prop) (Qc : Array Value → State → Outcome → State → Prop) (XC : String → State → State → Prop) (mc ms : Nat) (free : Addr → Prop) : Prop :=
  MetFree l y (headSpec ws rm) Pc (fun _ _ _ _ _ => True) (vx_Q Qc XC mc ms free)
def vx_Post (XC : String → State → State → Prop) (mc ms : Nat) (free : Addr → Prop) : Pt → Array Value → Addr → Pt → Prop := fun A a q B =>
  ∃ (g : JFrame) (mk : MethodId) (t : State) (L : List Loc) (E : String) (ce : Cell), B.U.heap = t.heap ∧ B.U.vm = t.vm ∧ XC E (A.U.calling g mk a) t ∧ t.heap[q]? = some ce ∧ ce.vm = .none ∧ A.U.vm.findClass E = some ce.cls ∧ B.locs = A.locs ++ L ∧ (∀ z ∈ L, free z.base) ∧ B.cells = A.cells + mc ∧ B.slots = A.slots + ms
def vx_Back (l : Launch) (R : Room) (p : Program) (e : Env) (below : List Frame) (s : State) (sargs : Array Value) (y : MethodName) (len W9 : Nat)
    (Pre : Pt → Array Value → Prop) (Post : Pt → Array Value → Option Value → Pt → Prop) (PostX : Pt → Array Value → Addr → Pt → Prop) : Prop :=
  ∀ (m : MethodId) (meth : Method) (c : Code) (A : Pt) (g : JFrame) (ig : Instr) (mk : MethodId) (a : Array Value),
    Stand p l e R s m sargs below meth c A.U A.locs A.cells A.slots → g.method = m → g.locals.size = c.maxLocals → decode c.code g.pc = .ok (ig, len) →
    2 * g.monitorRoom + (g.stack.map fun v => v.category).sum ≤ W9 → A.U.methodNamed? y = some mk → Pre A a →
    (∃ (v : Option Value) (B : Pt), Stand p l e R s m sargs below meth c B.U B.locs B.cells B.slots ∧ Post A a v B ∧
      Steps p.tables e below (doInvoke e (A.U.setTop g) [] mk a).1 (B.U.setTop { g with pc := g.pc + len, stack := v.toList ++ g.stack })) ∨
    (∃ (q : Addr) (B : Pt), Stand p l e R s m sargs below meth c B.U B.locs B.cells B.slots ∧ PostX A a q B ∧
      Steps p.tables e below (doInvoke e (A.U.setTop g) [] mk a).1 ((B.U.setTop g).pushFrame (.throwing q)))
section Payer
variable {l : Launch} {R : Room} {p : Program} {e : Env} {below : List Frame} {s : State} {sargs : Array Value} {y : MethodName} {len W9 : Nat}
theorem vx_back {ws : List Cond} {rm : Room} {Pc : Array Value → State → Prop} {Qc : Array Value → State → Outcome → State → Prop} {XC : String → State → State → Prop} {mc ms : Nat} {free : Addr → Prop} {bytes : ByteArray} {maxL : Nat} {ret : Option FieldType}
    (hM : vx_Met l y ws rm Pc Qc XC mc ms free) (hblind : FrameBlind Pc) (hrc : rm.cells = mc) (hrs : rm.slots = ms)
    (hframes : rm.frames + 1 ≤ R.frames) (hlocals : W9 + (maxL + 11) + rm.locals ≤ R.locals)
    (hws : ∀ w ∈ ws, ∀ a' U, s.WarmedH U.vm → w.before a' U = true) (hcode : Cond.code y bytes maxL ret ∈ ws) (hinit : ∀ a' U, s.WarmedH U.vm → (Cond.initialized y.cls).before a' U = true) :
    vx_Back l R p e below s sargs y len W9 (PreOf R mc ms Pc) (PostOf Qc mc ms free) (vx_Post XC mc ms free) := by
  intro m meth c A g ig mk a X hg hsize hdg hW hn hp
  have h1 : (headSpec ws rm).pre.before a A.U = true := atoms_intro fun w hw => hws w hw _ _ X.warmed
  have h2 : (Cond.code y bytes maxL ret).before a A.U = true := hws _ hcode _ _ X.warmed
  have h3 : (Cond.initialized y.cls).before a A.U = true := hinit _ _ X.warmed
  have h4 : A.cells + (headSpec ws rm).room.cells ≤ R.cells := by rw [show (headSpec ws rm).room.cells = mc from hrc]; exact hp.1
  have h5 : A.slots + (headSpec ws rm).room.slots ≤ R.slots := by rw [show (headSpec ws rm).room.slots = ms from hrs]; exact hp.2.1
  have hPc : Pc a (A.U.calling g mk a) := hblind _ _ _ _ hp.2.2
  obtain ⟨U, Ls, c0, s0⟩ := A
  dsimp only [Pt.U, Pt.locs, Pt.cells, Pt.slots] at h1 h2 h3 h4 h5 X hn hPc ⊢
  obtain ⟨methY, cY, hmY, hcY, -, hlY, -, -, -, -⟩ := Cond.code_spec hn h2
  obtain ⟨kY, hkY, -⟩ := className_of_methodNamed hn
  have hinitY : kY.init = .initialized := Cond.initialized_spec (findClass_of_methodNamed hn) hkY h3
  have h : At U g.method c below := by rw [hg]; exact X.here
  have hlocals9 : W9 + (maxL + 11) + (headSpec ws rm).room.locals ≤ R.locals := hlocals
  have happ : (headSpec ws rm).appliesLoose y e.platform (U.calling g mk a) = true :=
    Spec.appliesLoose_calling (g := g) h hdg hn hkY hinitY
      (X.room_calling (g := g) (R' := (headSpec ws rm).room) hsize hmY hcY hframes (by rw [hlY]; omega) h4 h5) h1
  obtain ⟨mid, hmid⟩ := h.above
  have hfr : (U.setTop g).frames = (.java g :: mid) ++ below := by rw [State.frames_setTop' g h.top, hmid]; rfl
  obtain ⟨o, s₂, hsteps, -, hend, hq⟩ := Steps.callFree hM p X.admits X.cas X.clock (acts := []) hfr happ hPc trivial
  have hq' : vx_Q Qc XC mc ms free a (U.calling g mk a) o s₂ := hq
  rw [State.frames_setTop' g h.top] at hend
  obtain ⟨g₀, hg0⟩ := Option.isSome_iff_exists.mp h.top
  obtain ⟨r, hr⟩ := State.topJava?_eq_some.mp hg0
  have hr' : (({ U with heap := s₂.heap, slotsUsed := s₂.slotsUsed } : State).setVm s₂.vm).frames = .java g₀ :: r := hr
  rcases hq' with ⟨hqc, L, hfe, hL⟩ | ⟨q, rfl, E, ce, L, hx, hce, hcv, hcl, hW₂, hsm, hL⟩
  · obtain ⟨⟨v, rfl⟩, hW₂, e2, q2, q3, q4, q5, q6⟩ := id hfe
    have e3 : s₂ = ({ (U.calling g mk a).setFrames s₂.frames with heap := s₂.heap, slotsUsed := s₂.slotsUsed } : State).setVm s₂.vm := by
      have : s₂ = ({ s₂ with vm := (U.calling g mk a).vm } : State).setVm s₂.vm := rfl
      rw [e2] at this
      exact this
    obtain ⟨c₂, i₂, len₂, hc₂, hd₂, hf₂⟩ := hend
    have hW' : U.WarmedH s₂.vm := hW₂
    have hcc : c₂ = c := by
      have h1 : s₂.code? g.method = U.code? g.method := by
        rw [State.code?_eq, State.code?_eq, hW'.alike.method?]
      exact Option.some.inj (hc₂.symm.trans (h1.trans h.code))
    subst hcc
    have hlen : len₂ = len := by rw [hdg] at hd₂; cases hd₂; rfl
    subst hlen
    have hs₂ : s₂ = (({ U with heap := s₂.heap, slotsUsed := s₂.slotsUsed } : State).setVm s₂.vm).setTop { g with pc := g.pc + len₂, stack := v.toList ++ g.stack } := by
      refine e3.trans ?_
      rw [hf₂, State.calling_eq h.top, State.setFrames_setFrames, State.setTop_of_frames _ hr', hr]
      rfl
    have hsame : U.sameButNew ({ U with heap := s₂.heap, slotsUsed := s₂.slotsUsed } : State) L mc ms := by
      refine ⟨?_, q2, q3, q4, q5, q6⟩
      obtain ⟨t, ht, -⟩ := State.frames_cons hr
      show ({ U with heap := s₂.heap, slotsUsed := s₂.slotsUsed } : State) = { U.setFrames U.frames with heap := s₂.heap, slotsUsed := s₂.slotsUsed }
      rw [State.setFrames_self ht]
    subst hg
    refine Or.inl ⟨v, ⟨(({ U with heap := s₂.heap, slotsUsed := s₂.slotsUsed } : State).setVm s₂.vm), Ls ++ L, c0 + mc, s0 + ms⟩,
      ⟨X.admits, X.cas, X.clock, X.frames, X.room, X.hears, X.method, X.code, (X.here.setHeapUsed s₂.heap s₂.slotsUsed).setVm hW'.alike, X.tail, State.WarmedH.trans X.warmed hW', X.limits, X.bytes, X.same.trans (hsame.setVm s.vm)⟩,
      ⟨g, mk, s₂, L, rfl, rfl, hqc, rfl, hL, rfl, rfl⟩, ?_⟩
    show Steps p.tables e below _ ((({ U with heap := s₂.heap, slotsUsed := s₂.slotsUsed } : State).setVm s₂.vm).setTop { g with pc := g.pc + len₂, stack := v.toList ++ g.stack })
    rw [← hs₂]
    exact hsteps
  · obtain ⟨e2, q2, q3, q4, q5, q6⟩ := id hsm
    have e3 : s₂ = ({ (U.calling g mk a).setFrames s₂.frames with heap := s₂.heap, slotsUsed := s₂.slotsUsed } : State).setVm s₂.vm := by
      have : s₂ = ({ s₂ with vm := (U.calling g mk a).vm } : State).setVm s₂.vm := rfl
      rw [e2] at this
      exact this
    have hf₂ : s₂.frames = .throwing q :: .java g :: U.frames.tail := hend
    have hW' : U.WarmedH s₂.vm := hW₂
    have hs₂ : s₂ = ((({ U with heap := s₂.heap, slotsUsed := s₂.slotsUsed } : State).setVm s₂.vm).setTop g).pushFrame (.throwing q) := by
      refine e3.trans ?_
      rw [hf₂, State.calling_eq h.top, State.setFrames_setFrames, State.pushFrame, State.frames_setTop _ hr', State.setTop_of_frames _ hr', State.setFrames_setFrames, hr]
      rfl
    have hsame : U.sameButNew ({ U with heap := s₂.heap, slotsUsed := s₂.slotsUsed } : State) L mc ms := by
      refine ⟨?_, q2, q3, q4, q5, q6⟩
      obtain ⟨t, ht, -⟩ := State.frames_cons hr
      show ({ U with heap := s₂.heap, slotsUsed := s₂.slotsUsed } : State) = { U.setFrames U.frames with heap := s₂.heap, slotsUsed := s₂.slotsUsed }
      rw [State.setFrames_self ht]
    subst hg
    refine Or.inr ⟨q, ⟨(({ U with heap := s₂.heap, slotsUsed := s₂.slotsUsed } : State).setVm s₂.vm), Ls ++ L, c0 + mc, s0 + ms⟩,
      ⟨X.admits, X.cas, X.clock, X.frames, X.room, X.hears, X.method, X.code, (X.here.setHeapUsed s₂.heap s₂.slotsUsed).setVm hW'.alike, X.tail, State.WarmedH.trans X.warmed hW', X.limits, X.bytes, X.same.trans (hsame.setVm s.vm)⟩,
      ⟨g, mk, s₂, L, E, ce, rfl, rfl, hx, hce, hcv, hcl, rfl, hL, rfl, rfl⟩, ?_⟩
    show Steps p.tables e below _ (((({ U with heap := s₂.heap, slotsUsed := s₂.slotsUsed } : State).setVm s₂.vm).setTop g).pushFrame (.throwing q))
    rw [← hs₂]
    exact hsteps
end Payer
section Calls
variable {p : Program} {l : Launch} {e : Env} {R : Room} {s : State} {m : MethodId} {args : Array Value} {below : List Frame} {meth : Method} {c : Code} {T : State} {locs : List Loc} {cells slots : Nat}
theorem vx_callV (X : Stand p l e R s m args below meth c T locs cells slots) (hexec : p.tables.exec = Jvm.exec) {own C : String} {index : Nat} {y : MethodName} {bytes : ByteArray} {maxL : Nat} {ret : Option FieldType}
    (hown : s.vm.findClass own = some m.cls) (hlink : (Cond.methodLink own index y).before args s = true) (hinst : (Cond.instanceMethod y).before args s = true) (hsel : (Cond.selects C y y).before args s = true)
    (hcode : (Cond.code y bytes maxL ret).before args s = true) (hy : y.cls ≠ "java/lang/invoke/MethodHandle" ∧ y.cls ≠ "java/lang/invoke/VarHandle")
    {W9 : Nat} {Pre : Pt → Array Value → Prop} {Post : Pt → Array Value → Option Value → Pt → Prop} {PostX : Pt → Array Value → Addr → Pt → Prop} (hK : vx_Back l R p e below s args y 3 W9 Pre Post PostX)
    {b : Addr} {cellB : Cell} (hcell : T.heap[b]? = some cellB) (hobj : cellB.vm.isStatics = false) (hcls : s.vm.findClass C = some cellB.cls)
    {g : JFrame} (hg : g.method = m) (hsize : g.locals.size = c.maxLocals) {argsL rest : List Value} (hlen : ∀ sig, parseMethodDescriptor y.desc = some sig → argsL.length = sig.parameters.length)
    (hstack : g.stack = argsL.reverse ++ .ref b :: rest) (hW : 2 * g.monitorRoom + (rest.map fun v => v.category).sum ≤ W9) (hdg : decode c.code g.pc = .ok (.invokevirtual index, 3))
    (hpre : ∀ vm₁, s.WarmedH vm₁ → Pre ⟨T.setVm vm₁, locs, cells, slots⟩ (Value.ref b :: argsL).toArray) :
    (∃ (v : Option Value) (vm₁ : Vm) (B : Pt), s.WarmedH vm₁ ∧ Stand p l e R s m args below meth c B.U B.locs B.cells B.slots ∧ Post ⟨T.setVm vm₁, locs, cells, slots⟩ (Value.ref b :: argsL).toArray v B ∧
      ∀ target, Steps p.tables e below (B.U.setTop { g with pc := g.pc + 3, stack := v.toList ++ rest }) target → Steps p.tables e below (T.setTop g) target) ∨
    (∃ (q : Addr) (vm₁ : Vm) (B : Pt), s.WarmedH vm₁ ∧ Stand p l e R s m args below meth c B.U B.locs B.cells B.slots ∧ PostX ⟨T.setVm vm₁, locs, cells, slots⟩ (Value.ref b :: argsL).toArray q B ∧
      Steps p.tables e below (T.setTop g) ((B.U.setTop { g with stack := rest }).pushFrame (.throwing q))) := by
  obtain ⟨mk, methM, hnamed, hmethM, hstM, habM⟩ := Cond.instanceMethod_spec hinst
  obtain ⟨methM', cM, hmethM', -, -, -, -, -, -, hsigM⟩ := Cond.code_spec hnamed hcode
  cases hmethM.symm.trans hmethM'
  obtain ⟨c2, r2, m2, q1, q2, q3, q4, kP, hkP, hkPi⟩ := Cond.selects_spec hsel
  cases hcls.symm.trans q1
  cases (State.methodFound?_of_named hnamed hy).symm.trans q2
  cases hnamed.symm.trans q3
  have hselP : selectMethod e.platform s.vm cellB.cls mk = .method mk := by rw [Launch.admits_selectMethod X.admits]; exact q4
  obtain ⟨vm₁, X₁, hstep₁⟩ := X.invokevirtual hexec hown hlink hnamed hmethM hstM hkP hkPi hy (a := b) (cell := cellB) hcell
    (fun z h => by rw [h] at hobj; cases hobj) hselP hmethM habM hkP hkPi (g := g) hg (argsL := argsL) (rest := rest) (hlen _ hsigM) hstack hdg
  rcases hK m meth c ⟨T.setVm vm₁, locs, cells, slots⟩ { g with stack := rest } (.invokevirtual index) mk (Value.ref b :: argsL).toArray X₁ hg hsize hdg hW (X₁.named hnamed) (hpre vm₁ X₁.warmed) with ⟨v, B, X', hpost, hsteps⟩ | ⟨q, B, X', hpost, hsteps⟩
  · exact Or.inl ⟨v, vm₁, B, X₁.warmed, X', hpost, fun target h => hstep₁ _ fun acts => by rw [doInvoke_state]; exact hsteps.trans h⟩
  · exact Or.inr ⟨q, vm₁, B, X₁.warmed, X', hpost, hstep₁ _ fun acts => by rw [doInvoke_state]; exact hsteps⟩
theorem vx_callS (X : Stand p l e R s m args below meth c T locs cells slots) (hexec : p.tables.exec = Jvm.exec) {own : String} {index : Nat} {y : MethodName} {bytes : ByteArray} {maxL : Nat} {ret : Option FieldType}
    (hown : s.vm.findClass own = some m.cls) (hlink : (Cond.methodLink own index y).before args s = true) (hstat : (Cond.static y).before args s = true) (hinit : (Cond.initialized y.cls).before args s = true)
    (hcode : (Cond.code y bytes maxL ret).before args s = true) (hy : y.cls ≠ "java/lang/invoke/MethodHandle" ∧ y.cls ≠ "java/lang/invoke/VarHandle")
    {W9 : Nat} {Pre : Pt → Array Value → Prop} {Post : Pt → Array Value → Option Value → Pt → Prop} {PostX : Pt → Array Value → Addr → Pt → Prop} (hK : vx_Back l R p e below s args y 3 W9 Pre Post PostX)
    {g : JFrame} (hg : g.method = m) (hsize : g.locals.size = c.maxLocals) {argsL rest : List Value} (hlen : ∀ sig, parseMethodDescriptor y.desc = some sig → argsL.length = sig.parameters.length)
    (hstack : g.stack = argsL.reverse ++ rest) (hW : 2 * g.monitorRoom + (rest.map fun v => v.category).sum ≤ W9) (hdg : decode c.code g.pc = .ok (.invokestatic index, 3))
    (hpre : ∀ vm₁, s.WarmedH vm₁ → Pre ⟨T.setVm vm₁, locs, cells, slots⟩ argsL.toArray) :
    (∃ (v : Option Value) (vm₁ : Vm) (B : Pt), s.WarmedH vm₁ ∧ Stand p l e R s m args below meth c B.U B.locs B.cells B.slots ∧ Post ⟨T.setVm vm₁, locs, cells, slots⟩ argsL.toArray v B ∧
      ∀ target, Steps p.tables e below (B.U.setTop { g with pc := g.pc + 3, stack := v.toList ++ rest }) target → Steps p.tables e below (T.setTop g) target) ∨
    (∃ (q : Addr) (vm₁ : Vm) (B : Pt), s.WarmedH vm₁ ∧ Stand p l e R s m args below meth c B.U B.locs B.cells B.slots ∧ PostX ⟨T.setVm vm₁, locs, cells, slots⟩ argsL.toArray q B ∧
      Steps p.tables e below (T.setTop g) ((B.U.setTop { g with stack := rest }).pushFrame (.throwing q))) := by
  obtain ⟨mk, hnamed⟩ := Cond.code_named hcode
  obtain ⟨methM, cM, hmethM, -, -, -, -, -, -, hsigM⟩ := Cond.code_spec hnamed hcode
  have hstatic : methM.isStatic = true := Cond.static_spec hnamed hmethM hstat
  obtain ⟨kP, hkP, -⟩ := className_of_methodNamed hnamed
  have hinitP : kP.init = .initialized := Cond.initialized_spec (findClass_of_methodNamed hnamed) hkP hinit
  obtain ⟨vm₁, X₁, hstep₁⟩ := X.invokestatic hexec hown hlink hnamed hmethM hstatic hkP hinitP hy (g := g) hg (argsL := argsL) (rest := rest) (hlen _ hsigM) hstack hdg
  rcases hK m meth c ⟨T.setVm vm₁, locs, cells, slots⟩ { g with stack := rest } (.invokestatic index) mk argsL.toArray X₁ hg hsize hdg hW (X₁.named hnamed) (hpre vm₁ X₁.warmed) with ⟨v, B, X', hpost, hsteps⟩ | ⟨q, B, X', hpost, hsteps⟩
  · exact Or.inl ⟨v, vm₁, B, X₁.warmed, X', hpost, fun target h => hstep₁ _ fun acts => by rw [doInvoke_state]; exact hsteps.trans h⟩
  · exact Or.inr ⟨q, vm₁, B, X₁.warmed, X', hpost, hstep₁ _ fun acts => by rw [doInvoke_state]; exact hsteps⟩
end Calls
theorem vx_cls {s : State} {T : State} {vm₁ : Vm} {E : String} {k : ClassId} (hW : s.WarmedH vm₁) (h : (T.setVm vm₁).vm.findClass E = some k) : s.vm.findClass E = some k := by
  have h1 : vm₁.findClass E = some k := h
  rw [hW.alike.findClass] at h1
  exact h1
/-- the method's frame g, with q thrown over it -/
def vx_W (p : Program) (l : Launch) (e : Env) (R : Room) (s : State) (m : MethodId) (args : Array Value) (below : List Frame) (meth : Method) (c : Code) (H : Heap) (locs : List Loc) (cells slots : Nat) (Q : State → Prop) (g : JFrame) (q : Addr) : Prop :=
  ∀ T : State, T.heap = H → Stand p l e R s m args below meth c T locs cells slots → ∃ t, Steps p.tables e below ((T.setTop g).pushFrame (.throwing q)) t ∧ Q t
def vx_Run (p : Program) (l : Launch) (e : Env) (R : Room) (s : State) (m : MethodId) (args : Array Value) (below : List Frame) (meth : Method) (c : Code) (H : Heap) (locs : List Loc) (cells slots mc ms : Nat) (g : JFrame) (rest : List Value) (Qa : State → Outcome → State → Prop) (XC : String → State → State → Prop) (free : Addr → Prop) : Prop :=
  ∀ T : State, T.heap = H → Stand p l e R s m args below meth c T locs cells slots →
    (∃ (v : Option Value) (st₀ t T' : State) (L : List Loc), st₀.heap = H ∧ Stand p l e R s m args below meth c T' (locs ++ L) (cells + mc) (slots + ms) ∧ (∀ q ∈ L, free q.base) ∧ T'.heap = t.heap ∧ T'.vm = t.vm ∧ Qa st₀ (.returned v) t ∧
      Goes p e below T g T' { g with pc := g.pc + 3, stack := v.toList ++ rest }) ∨
    (∃ (q : Addr) (st₀ t T' : State) (L : List Loc) (E : String) (ce : Cell), st₀.heap = H ∧ Stand p l e R s m args below meth c T' (locs ++ L) (cells + mc) (slots + ms) ∧ (∀ z ∈ L, free z.base) ∧ T'.heap = t.heap ∧ T'.vm = t.vm ∧ XC E st₀ t ∧ t.heap[q]? = some ce ∧ ce.vm = .none ∧ s.vm.findClass E = some ce.cls ∧
      Steps p.tables e below (T.setTop g) ((T'.setTop { g with stack := rest }).pushFrame (.throwing q)))
def vx_X {S : Type} (px : S → Prop) (B : String → S → State → Prop) (A : Nat → Prop) : String → State → State → Prop := fun E st t => ∃ u : S, px u ∧ B E u t ∧ va_F A st t
section Runs
variable {p : Program} {l : Launch} {e : Env} {R : Room} {s : State} {m : MethodId} {args : Array Value} {below : List Frame} {meth : Method} {c : Code} {H : Heap} {locs : List Loc} {cells slots : Nat}
variable {y : MethodName} {bytes cc : ByteArray} {maxL nL mc ms n index : Nat} {ret : Option FieldType} {ws : List Cond} {rm : Room} {Pc : Array Value → State → Prop} {Qc : Array Value → State → Outcome → State → Prop} {XC : String → State → State → Prop} {free : Addr → Prop} {Ts : List Cond} {own C : String} {b : Addr} {As rest : List Value} {g : JFrame}
theorem vx_callBack (cb : CallB R s args own index y bytes maxL ret ws rm mc ms n) (hM : vx_Met l y ws rm Pc Qc XC mc ms free) (hbl : FrameBlind Pc) : vx_Back l R p e below s args y 3 8 (PreOf R mc ms Pc) (PostOf Qc mc ms free) (vx_Post XC mc ms free) := by
  obtain ⟨hrc, hrs, hfr, hlo, hws, hcw, -, hini, -⟩ := cb
  exact vx_back (bytes := bytes) (maxL := maxL) (ret := ret) hM hbl hrc hrs hfr hlo hws hcw (fun a' U hW => word_at hW (Or.inl (by first | rfl | simp [Cond.onTables, Cond.keeps, Cond.steady])) hini)
theorem vx_runV (S : CallFix p m c cc nL s args Ts own) (hM : vx_Met l y ws rm Pc Qc XC mc ms free) (cw : CallW R s args own C index y bytes maxL ret ws rm mc ms n) (hp : PreV s H C b Pc As)
    (hg : g.method = m) (hn : As.length = n) (hsize : g.locals.size = nL) (hstack : g.stack = As.reverse ++ .ref b :: rest) (hW : 2 * g.monitorRoom + (rest.map fun v => v.category).sum ≤ 8) (hdg : decode cc g.pc = .ok (.invokevirtual index, 3)) (hf : cells + mc ≤ R.cells ∧ slots + ms ≤ R.slots) :
    vx_Run p l e R s m args below meth c H locs cells slots mc ms g rest (Qc (Value.ref b :: As).toArray) XC free := by
  have hK : vx_Back l R p e below s args y 3 8 (PreOf R mc ms Pc) (PostOf Qc mc ms free) (vx_Post XC mc ms free) := vx_callBack cw.1 hM hp.1
  obtain ⟨⟨-, -, -, -, -, -, hcode, -, hy, hlen, hl⟩, hin, hse⟩ := cw
  obtain ⟨hx, hb, hml, ho, -⟩ := S
  obtain ⟨-, ⟨cellB, hcB, hoB, hclB⟩, hPc⟩ := hp
  intro T hT X
  rcases vx_callV X hx (C := C) (bytes := bytes) (maxL := maxL) (ret := ret) ho hl hin hse hcode hy hK (by rw [hT]; exact hcB) hoB hclB hg (hsize.trans hml.symm) (argsL := As) (rest := rest) (fun sig h => hn.trans (hlen sig h)) hstack hW (by rw [hb]; exact hdg)
    (fun vm₁ hW₁ => ⟨hf.1, hf.2, hPc (T.setVm vm₁) hT hW₁⟩) with ⟨v, vm₁, ⟨U', l2, c2, s2⟩, hW₁, X', ⟨g', mk, t, L, e1, e2, hq, h1, hL, h2, h3⟩, st⟩ | ⟨q, vm₁, ⟨U', l2, c2, s2⟩, hW₁, X', ⟨g', mk, t, L, E, ce, e1, e2, hq, hce, hcv, hcl, h1, hL, h2, h3⟩, st⟩
  · dsimp only [Pt.U, Pt.locs, Pt.cells, Pt.slots] at X' e1 e2 h1 h2 h3 st
    subst h1; subst h2; subst h3
    exact Or.inl ⟨v, (T.setVm vm₁).calling g' mk (Value.ref b :: As).toArray, t, U', L, hT, X', hL, e1, e2, hq, st⟩
  · dsimp only [Pt.U, Pt.locs, Pt.cells, Pt.slots] at X' e1 e2 h1 h2 h3 st hcl
    subst h1; subst h2; subst h3
    exact Or.inr ⟨q, (T.setVm vm₁).calling g' mk (Value.ref b :: As).toArray, t, U', L, E, ce, hT, X', hL, e1, e2, hq, hce, hcv, vx_cls hW₁ hcl, st⟩
theorem vx_runS (S : CallFix p m c cc nL s args Ts own) (hM : vx_Met l y ws rm Pc Qc XC mc ms free) (cw : CallB R s args own index y bytes maxL ret ws rm mc ms n ∧ (Cond.static y).before args s = true) (hp : PreS s H Pc As)
    (hg : g.method = m) (hn : As.length = n) (hsize : g.locals.size = nL) (hstack : g.stack = As.reverse ++ rest) (hW : 2 * g.monitorRoom + (rest.map fun v => v.category).sum ≤ 8) (hdg : decode cc g.pc = .ok (.invokestatic index, 3)) (hf : cells + mc ≤ R.cells ∧ slots + ms ≤ R.slots) :
    vx_Run p l e R s m args below meth c H locs cells slots mc ms g rest (Qc As.toArray) XC free := by
  have hK : vx_Back l R p e below s args y 3 8 (PreOf R mc ms Pc) (PostOf Qc mc ms free) (vx_Post XC mc ms free) := vx_callBack cw.1 hM hp.1
  obtain ⟨⟨-, -, -, -, -, -, hcode, hini, hy, hlen, hl⟩, hstt⟩ := cw
  obtain ⟨hx, hb, hml, ho, -⟩ := S
  intro T hT X
  rcases vx_callS X hx (bytes := bytes) (maxL := maxL) (ret := ret) ho hl hstt hini hcode hy hK hg (hsize.trans hml.symm) (argsL := As) (rest := rest) (fun sig h => hn.trans (hlen sig h)) hstack hW (by rw [hb]; exact hdg)
    (fun vm₁ hW₁ => ⟨hf.1, hf.2, hp.2 (T.setVm vm₁) hT hW₁⟩) with ⟨v, vm₁, ⟨U', l2, c2, s2⟩, hW₁, X', ⟨g', mk, t, L, e1, e2, hq, h1, hL, h2, h3⟩, st⟩ | ⟨q, vm₁, ⟨U', l2, c2, s2⟩, hW₁, X', ⟨g', mk, t, L, E, ce, e1, e2, hq, hce, hcv, hcl, h1, hL, h2, h3⟩, st⟩
  · dsimp only [Pt.U, Pt.locs, Pt.cells, Pt.slots] at X' e1 e2 h1 h2 h3 st
    subst h1; subst h2; subst h3
    exact Or.inl ⟨v, (T.setVm vm₁).calling g' mk As.toArray, t, U', L, hT, X', hL, e1, e2, hq, st⟩
  · dsimp only [Pt.U, Pt.locs, Pt.cells, Pt.slots] at X' e1 e2 h1 h2 h3 st hcl
    subst h1; subst h2; subst h3
    exact Or.inr ⟨q, (T.setVm vm₁).calling g' mk As.toArray, t, U', L, E, ce, hT, X', hL, e1, e2, hq, hce, hcv, vx_cls hW₁ hcl, st⟩
end Runs
section Rows
variable {p : Program} {l : Launch} {e : Env} {R : Room} {s : State} {m : MethodId} {args : Array Value} {below : List Frame} {meth : Method} {c : Code} {H : Heap} {locs : List Loc} {cells slots : Nat} {Q : State → Prop}
variable {mc ms : Nat} {free : Addr → Prop} {A0 A1 : Nat → Prop} {H0 : Heap} {a : Array Value} {pc : Nat} {ls : Array Slot} {st0 rest : List Value}
theorem vx_keep {st₀ t T' : State} {L : List Loc} (h0 : st₀.heap = H) (e1 : T'.heap = t.heap) (hS : va_S A0 H0 H locs) (hA : ∀ q, q < H.size → A1 q → A0 q) (hf : ∀ q, free q → A0 q) (hL : ∀ q ∈ L, free q.base) (hF : va_F A1 st₀ t) :
    H.size ≤ T'.heap.size ∧ (∀ q : Nat, q < H.size → ¬ A1 q → T'.heap[q]? = H[q]?) ∧ va_S A0 H0 T'.heap (locs ++ L) := by
  obtain ⟨hz, hk⟩ := hF
  rw [h0] at hz hk
  exact ⟨by rw [e1]; exact hz, fun q h1 h2 => by rw [e1]; exact hk q h1 h2,
    ⟨Nat.le_trans hS.1 (by rw [e1]; exact hz), fun q h1 h2 => by rw [e1, hk q (Nat.lt_of_lt_of_le h1 hS.1) (fun z => h2 (hA q (Nat.lt_of_lt_of_le h1 hS.1) z))]; exact hS.2.1 q h1 h2, fun q hq => by
      rcases List.mem_append.mp hq with h | h
      · exact hS.2.2 q h
      · exact hf _ (hL q h)⟩⟩
theorem vx_calli {S SX : Type} {post : Int32 → S → Prop} {px : SX → Prop} {B : S → State → Prop} {BX : String → SX → State → Prop} {AX : Nat → Prop} (hr : vx_Run p l e R s m args below meth c H locs cells slots mc ms (F0 m pc ls st0) rest (va_Qi post B A1 a) (vx_X px BX AX) free) (hS : va_S A0 H0 H locs) (hA : ∀ q, q < H.size → A1 q → A0 q) (hf : ∀ q, free q → A0 q) (hAX : ∀ q, q < H.size → AX q → A0 q)
    (kx : ∀ (E : String) (ce : Cell) (q9 : Addr) (u : SX) (t : State) (H1 : Heap) (locs1 : List Loc), t.heap = H1 → s.vm.Alike t.vm → px u → BX E u t → H.size ≤ H1.size → (∀ q : Nat, q < H.size → ¬ AX q → H1[q]? = H[q]?) → va_S A0 H0 H1 locs1 → H1[q9]? = some ce → ce.vm = .none → s.vm.findClass E = some ce.cls → vx_W p l e R s m args below meth c H1 locs1 (cells + mc) (slots + ms) Q (F0 m pc ls rest) q9)
    (kk : ∀ (r : Int32) (u : S) (t : State) (H1 : Heap) (locs1 : List Loc), t.heap = H1 → s.vm.Alike t.vm → post r u → B u t → H.size ≤ H1.size → (∀ q : Nat, q < H.size → ¬ A1 q → H1[q]? = H[q]?) → va_S A0 H0 H1 locs1 → W p l e R s m args below meth c H1 locs1 (cells + mc) (slots + ms) Q (F0 m (pc + 3) ls (.int r :: rest))) : W p l e R s m args below meth c H locs cells slots Q (F0 m pc ls st0) := by
  intro T hT X
  rcases hr T hT X with ⟨v, st₀, t, T', L, h0, X', hL, e1, e2, ⟨⟨r, u, hv, hp, hb⟩, hF⟩, st⟩ | ⟨q, st₀, t, T', L, E, ce, h0, X', hL, e1, e2, ⟨u, hp, hb, hF⟩, hce, hcv, hcl, st⟩
  · cases hv
    obtain ⟨k1, k2, k3⟩ := vx_keep h0 e1 hS hA hf hL hF
    obtain ⟨t2, a1, b1⟩ := kk r u t T'.heap (locs ++ L) e1.symm (by rw [← e2]; exact X'.warmed.alike) hp hb k1 k2 k3 T' rfl X'
    exact ⟨t2, st t2 a1, b1⟩
  · obtain ⟨k1, k2, k3⟩ := vx_keep h0 e1 hS hAX hf hL hF
    obtain ⟨t2, a1, b1⟩ := kx E ce q u t T'.heap (locs ++ L) e1.symm (by rw [← e2]; exact X'.warmed.alike) hp hb k1 k2 k3 (by rw [e1]; exact hce) hcv hcl T' rfl X'
    exact ⟨t2, st.trans a1, b1⟩
theorem vx_calll {S SX : Type} {post : Int64 → S → Prop} {px : SX → Prop} {B : S → State → Prop} {BX : String → SX → State → Prop} {AX : Nat → Prop} (hr : vx_Run p l e R s m args below meth c H locs cells slots mc ms (F0 m pc ls st0) rest (va_Ql post B A1 a) (vx_X px BX AX) free) (hS : va_S A0 H0 H locs) (hA : ∀ q, q < H.size → A1 q → A0 q) (hf : ∀ q, free q → A0 q) (hAX : ∀ q, q < H.size → AX q → A0 q)
    (kx : ∀ (E : String) (ce : Cell) (q9 : Addr) (u : SX) (t : State) (H1 : Heap) (locs1 : List Loc), t.heap = H1 → s.vm.Alike t.vm → px u → BX E u t → H.size ≤ H1.size → (∀ q : Nat, q < H.size → ¬ AX q → H1[q]? = H[q]?) → va_S A0 H0 H1 locs1 → H1[q9]? = some ce → ce.vm = .none → s.vm.findClass E = some ce.cls → vx_W p l e R s m args below meth c H1 locs1 (cells + mc) (slots + ms) Q (F0 m pc ls rest) q9)
    (kk : ∀ (r : Int64) (u : S) (t : State) (H1 : Heap) (locs1 : List Loc), t.heap = H1 → s.vm.Alike t.vm → post r u → B u t → H.size ≤ H1.size → (∀ q : Nat, q < H.size → ¬ A1 q → H1[q]? = H[q]?) → va_S A0 H0 H1 locs1 → W p l e R s m args below meth c H1 locs1 (cells + mc) (slots + ms) Q (F0 m (pc + 3) ls (.long r :: rest))) : W p l e R s m args below meth c H locs cells slots Q (F0 m pc ls st0) := by
  intro T hT X
  rcases hr T hT X with ⟨v, st₀, t, T', L, h0, X', hL, e1, e2, ⟨⟨r, u, hv, hp, hb⟩, hF⟩, st⟩ | ⟨q, st₀, t, T', L, E, ce, h0, X', hL, e1, e2, ⟨u, hp, hb, hF⟩, hce, hcv, hcl, st⟩
  · cases hv
    obtain ⟨k1, k2, k3⟩ := vx_keep h0 e1 hS hA hf hL hF
    obtain ⟨t2, a1, b1⟩ := kk r u t T'.heap (locs ++ L) e1.symm (by rw [← e2]; exact X'.warmed.alike) hp hb k1 k2 k3 T' rfl X'
    exact ⟨t2, st t2 a1, b1⟩
  · obtain ⟨k1, k2, k3⟩ := vx_keep h0 e1 hS hAX hf hL hF
    obtain ⟨t2, a1, b1⟩ := kx E ce q u t T'.heap (locs ++ L) e1.symm (by rw [← e2]; exact X'.warmed.alike) hp hb k1 k2 k3 (by rw [e1]; exact hce) hcv hcl T' rfl X'
    exact ⟨t2, st.trans a1, b1⟩
theorem vx_callf {S SX : Type} {post : UInt32 → S → Prop} {px : SX → Prop} {B : S → State → Prop} {BX : String → SX → State → Prop} {AX : Nat → Prop} (hr : vx_Run p l e R s m args below meth c H locs cells slots mc ms (F0 m pc ls st0) rest (va_Qf post B A1 a) (vx_X px BX AX) free) (hS : va_S A0 H0 H locs) (hA : ∀ q, q < H.size → A1 q → A0 q) (hf : ∀ q, free q → A0 q) (hAX : ∀ q, q < H.size → AX q → A0 q)
    (kx : ∀ (E : String) (ce : Cell) (q9 : Addr) (u : SX) (t : State) (H1 : Heap) (locs1 : List Loc), t.heap = H1 → s.vm.Alike t.vm → px u → BX E u t → H.size ≤ H1.size → (∀ q : Nat, q < H.size → ¬ AX q → H1[q]? = H[q]?) → va_S A0 H0 H1 locs1 → H1[q9]? = some ce → ce.vm = .none → s.vm.findClass E = some ce.cls → vx_W p l e R s m args below meth c H1 locs1 (cells + mc) (slots + ms) Q (F0 m pc ls rest) q9)
    (kk : ∀ (r : UInt32) (u : S) (t : State) (H1 : Heap) (locs1 : List Loc), t.heap = H1 → s.vm.Alike t.vm → post r u → B u t → H.size ≤ H1.size → (∀ q : Nat, q < H.size → ¬ A1 q → H1[q]? = H[q]?) → va_S A0 H0 H1 locs1 → W p l e R s m args below meth c H1 locs1 (cells + mc) (slots + ms) Q (F0 m (pc + 3) ls (.float r :: rest))) : W p l e R s m args below meth c H locs cells slots Q (F0 m pc ls st0) := by
  intro T hT X
  rcases hr T hT X with ⟨v, st₀, t, T', L, h0, X', hL, e1, e2, ⟨⟨r, u, hv, hp, hb⟩, hF⟩, st⟩ | ⟨q, st₀, t, T', L, E, ce, h0, X', hL, e1, e2, ⟨u, hp, hb, hF⟩, hce, hcv, hcl, st⟩
  · cases hv
    obtain ⟨k1, k2, k3⟩ := vx_keep h0 e1 hS hA hf hL hF
    obtain ⟨t2, a1, b1⟩ := kk r u t T'.heap (locs ++ L) e1.symm (by rw [← e2]; exact X'.warmed.alike) hp hb k1 k2 k3 T' rfl X'
    exact ⟨t2, st t2 a1, b1⟩
  · obtain ⟨k1, k2, k3⟩ := vx_keep h0 e1 hS hAX hf hL hF
    obtain ⟨t2, a1, b1⟩ := kx E ce q u t T'.heap (locs ++ L) e1.symm (by rw [← e2]; exact X'.warmed.alike) hp hb k1 k2 k3 (by rw [e1]; exact hce) hcv hcl T' rfl X'
    exact ⟨t2, st.trans a1, b1⟩
theorem vx_calld {S SX : Type} {post : UInt64 → S → Prop} {px : SX → Prop} {B : S → State → Prop} {BX : String → SX → State → Prop} {AX : Nat → Prop} (hr : vx_Run p l e R s m args below meth c H locs cells slots mc ms (F0 m pc ls st0) rest (va_Qd post B A1 a) (vx_X px BX AX) free) (hS : va_S A0 H0 H locs) (hA : ∀ q, q < H.size → A1 q → A0 q) (hf : ∀ q, free q → A0 q) (hAX : ∀ q, q < H.size → AX q → A0 q)
    (kx : ∀ (E : String) (ce : Cell) (q9 : Addr) (u : SX) (t : State) (H1 : Heap) (locs1 : List Loc), t.heap = H1 → s.vm.Alike t.vm → px u → BX E u t → H.size ≤ H1.size → (∀ q : Nat, q < H.size → ¬ AX q → H1[q]? = H[q]?) → va_S A0 H0 H1 locs1 → H1[q9]? = some ce → ce.vm = .none → s.vm.findClass E = some ce.cls → vx_W p l e R s m args below meth c H1 locs1 (cells + mc) (slots + ms) Q (F0 m pc ls rest) q9)
    (kk : ∀ (r : UInt64) (u : S) (t : State) (H1 : Heap) (locs1 : List Loc), t.heap = H1 → s.vm.Alike t.vm → post r u → B u t → H.size ≤ H1.size → (∀ q : Nat, q < H.size → ¬ A1 q → H1[q]? = H[q]?) → va_S A0 H0 H1 locs1 → W p l e R s m args below meth c H1 locs1 (cells + mc) (slots + ms) Q (F0 m (pc + 3) ls (.double r :: rest))) : W p l e R s m args below meth c H locs cells slots Q (F0 m pc ls st0) := by
  intro T hT X
  rcases hr T hT X with ⟨v, st₀, t, T', L, h0, X', hL, e1, e2, ⟨⟨r, u, hv, hp, hb⟩, hF⟩, st⟩ | ⟨q, st₀, t, T', L, E, ce, h0, X', hL, e1, e2, ⟨u, hp, hb, hF⟩, hce, hcv, hcl, st⟩
  · cases hv
    obtain ⟨k1, k2, k3⟩ := vx_keep h0 e1 hS hA hf hL hF
    obtain ⟨t2, a1, b1⟩ := kk r u t T'.heap (locs ++ L) e1.symm (by rw [← e2]; exact X'.warmed.alike) hp hb k1 k2 k3 T' rfl X'
    exact ⟨t2, st t2 a1, b1⟩
  · obtain ⟨k1, k2, k3⟩ := vx_keep h0 e1 hS hAX hf hL hF
    obtain ⟨t2, a1, b1⟩ := kx E ce q u t T'.heap (locs ++ L) e1.symm (by rw [← e2]; exact X'.warmed.alike) hp hb k1 k2 k3 (by rw [e1]; exact hce) hcv hcl T' rfl X'
    exact ⟨t2, st.trans a1, b1⟩
theorem vx_callv {S SX : Type} {post : S → Prop} {px : SX → Prop} {B : S → State → Prop} {BX : String → SX → State → Prop} {AX : Nat → Prop} (hr : vx_Run p l e R s m args below meth c H locs cells slots mc ms (F0 m pc ls st0) rest (va_Qv post B A1 a) (vx_X px BX AX) free) (hS : va_S A0 H0 H locs) (hA : ∀ q, q < H.size → A1 q → A0 q) (hf : ∀ q, free q → A0 q) (hAX : ∀ q, q < H.size → AX q → A0 q)
    (kx : ∀ (E : String) (ce : Cell) (q9 : Addr) (u : SX) (t : State) (H1 : Heap) (locs1 : List Loc), t.heap = H1 → s.vm.Alike t.vm → px u → BX E u t → H.size ≤ H1.size → (∀ q : Nat, q < H.size → ¬ AX q → H1[q]? = H[q]?) → va_S A0 H0 H1 locs1 → H1[q9]? = some ce → ce.vm = .none → s.vm.findClass E = some ce.cls → vx_W p l e R s m args below meth c H1 locs1 (cells + mc) (slots + ms) Q (F0 m pc ls rest) q9)
    (kk : ∀ (u : S) (t : State) (H1 : Heap) (locs1 : List Loc), t.heap = H1 → s.vm.Alike t.vm → post u → B u t → H.size ≤ H1.size → (∀ q : Nat, q < H.size → ¬ A1 q → H1[q]? = H[q]?) → va_S A0 H0 H1 locs1 → W p l e R s m args below meth c H1 locs1 (cells + mc) (slots + ms) Q (F0 m (pc + 3) ls (rest))) : W p l e R s m args below meth c H locs cells slots Q (F0 m pc ls st0) := by
  intro T hT X
  rcases hr T hT X with ⟨v, st₀, t, T', L, h0, X', hL, e1, e2, ⟨⟨u, hv, hp, hb⟩, hF⟩, st⟩ | ⟨q, st₀, t, T', L, E, ce, h0, X', hL, e1, e2, ⟨u, hp, hb, hF⟩, hce, hcv, hcl, st⟩
  · cases hv
    obtain ⟨k1, k2, k3⟩ := vx_keep h0 e1 hS hA hf hL hF
    obtain ⟨t2, a1, b1⟩ := kk u t T'.heap (locs ++ L) e1.symm (by rw [← e2]; exact X'.warmed.alike) hp hb k1 k2 k3 T' rfl X'
    exact ⟨t2, st t2 a1, b1⟩
  · obtain ⟨k1, k2, k3⟩ := vx_keep h0 e1 hS hAX hf hL hF
    obtain ⟨t2, a1, b1⟩ := kx E ce q u t T'.heap (locs ++ L) e1.symm (by rw [← e2]; exact X'.warmed.alike) hp hb k1 k2 k3 (by rw [e1]; exact hce) hcv hcl T' rfl X'
    exact ⟨t2, st.trans a1, b1⟩
/-- caught by the row x of this method's table; the rows ahead don't take it -/
theorem vx_catch {own name : String} {E : String} {ce : Cell} {q : Addr} (hown : s.vm.findClass own = some m.cls) (pre : List ExceptionTableEntry) (x : ExceptionTableEntry) (suf : List ExceptionTableEntry) (hsplit : c.exceptionTable.toList = pre ++ x :: suf)
    (hpass : ∀ z ∈ pre, covers z pc = false ∨ (z.catchType ≠ 0 ∧ ∃ nm : String, (Cond.classLink own z.catchType nm).before args s = true ∧ va_Nc E nm s)) (hx : covers x pc = true) (h0 : x.catchType ≠ 0)
    (hlink : (Cond.classLink own x.catchType name).before args s = true) (hcast : (Cond.castable E name).before args s = true) (hcell : H[q]? = some ce) (hv : ce.vm = .none) (hcl : s.vm.findClass E = some ce.cls)
    (kk : W p l e R s m args below meth c H locs cells slots Q (F0 m x.handlerPc ls [.ref q])) : vx_W p l e R s m args below meth c H locs cells slots Q (F0 m pc ls rest) q := by
  intro T hT X
  have hpl : e.platform.magicAccessors = ({} : Platform).magicAccessors := by rw [X.admits.platform]
  obtain ⟨c3, c4, hc3, hc4, hasg⟩ := Cond.castable_spec hcast
  cases Option.some.inj (hc3.symm.trans hcl)
  obtain ⟨c5, hc5, hcl5⟩ := Cond.classLink_spec hown hlink e.platform hpl
  cases Option.some.inj (hc4.symm.trans hc5)
  obtain ⟨vm', X', st⟩ := X.thenCaughtThrough q (g := F0 m pc ls rest) rfl (Steps.refl _) (by rw [hT]; exact hcell) (by rw [hv]; rfl) (by obtain ⟨k9, h9, -⟩ := Vm.findClass_spec hcl; exact ⟨k9, h9⟩) pre x suf hsplit
    (fun z hz => by
      rcases hpass z hz with h | ⟨hz0, nm, hl1, hn1⟩
      · exact Or.inl h
      · obtain ⟨c6, hc6, hcl6⟩ := Cond.classLink_spec hown hl1 e.platform hpl
        obtain ⟨a8, b8, h1, h2, h3⟩ := hn1
        cases Option.some.inj (h1.symm.trans hcl)
        cases Option.some.inj (h2.symm.trans hc6)
        exact Or.inr ⟨hz0, _, hcl6, h3⟩) hx (Or.inr ⟨h0, c4, hcl5, hasg⟩)
  obtain ⟨t, a1, b1⟩ := kk (T.setVm vm') hT X'
  exact ⟨t, st.trans a1, b1⟩
end Rows
section Ends
variable {p : Program} {l : Launch} {e : Env} {R : Room} {s : State} {m : MethodId} {args : Array Value} {below : List Frame} {meth : Method} {c : Code} {H : Heap} {locs : List Loc} {cells slots : Nat} {Q : State → Prop}
variable {mc ms : Nat} {free : Addr → Prop} {A0 A1 : Nat → Prop} {H0 : Heap} {a : Array Value} {ls : Array Slot} {st0 rest : List Value}
variable {Qc : Array Value → State → Outcome → State → Prop} {XC : String → State → State → Prop}
/-- what a body that may throw owes at its end -/
def vx_MQ (below : List Frame) (Qc : Array Value → State → Outcome → State → Prop) (XC : String → State → State → Prop) (a : Array Value) (s : State) (mc ms : Nat) (free : Addr → Prop) : State → Prop := fun t =>
  ∃ o, t.status = .running ∧ Ended t below o ∧ vx_Q Qc XC mc ms free a s o t
theorem vx_ret {g : JFrame} {mc ms : Nat} (k : W p l e R s m args below meth c H locs cells slots (MQ below Qc args s mc ms free) g) : W p l e R s m args below meth c H locs cells slots (vx_MQ below Qc XC args s mc ms free) g := by
  intro T hT X
  obtain ⟨t, a1, o, b1, b2, b3, b4⟩ := k T hT X
  exact ⟨t, a1, o, b1, b2, Or.inl ⟨b3, b4⟩⟩
/-- not caught here: it goes on to the caller -/
theorem vx_widen {g : JFrame} {q : Addr} {k n : Nat} (h1 : cells ≤ k) (h2 : slots ≤ n) (kk : vx_W p l e R s m args below meth c H locs k n Q g q) : vx_W p l e R s m args below meth c H locs cells slots Q g q := fun T hT X => kk T hT (stand_widen X h1 h2)
theorem vx_out {pc : Nat} {E : String} {ce : Cell} {q : Addr} {mc ms : Nat} (hout : ∀ x ∈ c.exceptionTable.toList, covers x pc = false) (hlocks : meth.locks = false) (hcell : H[q]? = some ce) (hv : ce.vm = .none) (hcl : s.vm.findClass E = some ce.cls)
    (hx : ∀ t : State, t.heap = H → s.vm.Alike t.vm → XC E s t) (hf : ∀ z ∈ locs, free z.base) (hc : cells ≤ mc) (hs : slots ≤ ms) :
    vx_W p l e R s m args below meth c H locs cells slots (vx_MQ below Qc XC args s mc ms free) (F0 m pc ls rest) q := by
  intro T hT X
  obtain ⟨st1, hrun, hend, hW, hsm⟩ := X.leaveThrown q (g := F0 m pc ls rest) rfl rfl rfl hout hlocks
  have hcell9 : (T.setFrames (.throwing q :: below)).heap[q]? = some ce := by
    show T.heap[q]? = some ce
    rw [hT]; exact hcell
  exact ⟨_, st1, .threw q, hrun, hend, Or.inr ⟨q, rfl, E, ce, locs, hx _ hT hW.alike, hcell9, hv, hcl, hW, hsm.mono hc hs, hf⟩⟩
theorem vx_frame {U : State} {k n : Nat} (h : s.sameButNew ({ U with vm := s.vm } : State) locs k n) : s.heap.size ≤ U.heap.size ∧ ∀ q : Nat, q < s.heap.size → (∀ z ∈ locs, z.base ≠ q) → U.heap[q]? = s.heap[q]? := by
  obtain ⟨-, h2, -, -, -, h6⟩ := h
  refine ⟨h2, fun q hq hz => ?_⟩
  obtain ⟨c9, e1, e2, e3, e4⟩ := h6 q _ (Array.getElem?_eq_getElem hq)
  have hs : c9.slots = (s.heap[q]).slots := Array.ext_getElem? fun i => e4 i fun hm => hz _ hm rfl
  have h9 : c9 = s.heap[q] := by
    rw [hs] at e2
    exact e2
  have e5 : U.heap[q]? = some c9 := e1
  rw [e5, h9, Array.getElem?_eq_getElem hq]
/-- the words of a throw but the four that speak of the heap -/
def vx_no (w : Cond) : Bool := decide (w ≠ .isRef (.static Bundle.tN "UNASSIGNED_STACK" Bundle.steD)) && decide (w ≠ .isRef (.static Bundle.tN "SUPPRESSED_SENTINEL" Bundle.listD)) && decide (w ≠ .laysStatic Bundle.tN "UNASSIGNED_STACK" Bundle.steD) && decide (w ≠ .laysStatic Bundle.tN "SUPPRESSED_SENTINEL" Bundle.listD)
def vx_at0 (own : String) (ic : Nat) (X : String) (names : List String) : List Cond := (Bundle.ownAtoms0 own ic X names).filter vx_no
def vx_atS (own : String) (ic : Nat) (X : String) (names : List String) : List Cond := (Bundle.ownAtoms own ic X names).filter vx_no
/-- a word that the tables alone decide, or a good one -/
def vx_ot (w : Cond) : Bool := w.onTables || goodWord w
theorem vx_ot_at {args a' : Array Value} {s U : State} {w : Cond} (hW : s.WarmedH U.vm) (hvm : s.vm = U.vm) (hg : vx_ot w = true) (h : w.before args s = true) : w.before a' U = true := by
  simp only [vx_ot, Bool.or_eq_true] at hg
  rcases hg with hg | hg
  · exact va_tabs hg hvm h
  · exact word_at hW (good_of_word hg) h
/-- a list's words: the good ones out of the method's own list, the others by premises of their own -/
theorem vx_hat {args : Array Value} {s : State} {L B : List Cond} (h1 : ∀ w ∈ L.filter goodWord, w.before args s = true) (h2 : ∀ w ∈ L.filter (fun w => !goodWord w), w ∈ B) (h3 : ∀ w ∈ B, w.before args s = true) : ∀ w ∈ L, w.before args s = true := by
  intro w hw
  by_cases g : goodWord w = true
  · exact h1 w (List.mem_filter.mpr ⟨hw, g⟩)
  · refine h3 w (h2 w (List.mem_filter.mpr ⟨hw, ?_⟩))
    show (!goodWord w) = true
    cases hgw : goodWord w
    · rfl
    · exact absurd hgw g
theorem vx_c {args : Array Value} {s : State} {w : Cond} {B : List Cond} (h : w.before args s = true) (t : ∀ w ∈ B, w.before args s = true) : ∀ w' ∈ w :: B, w'.before args s = true := fun w' h' => (List.mem_cons.mp h').elim (fun e => by rw [e]; exact h) (t w')
theorem vx_n {args : Array Value} {s : State} : ∀ w ∈ ([] : List Cond), w.before args s = true := fun _ h => nomatch h
theorem vx_own {args : Array Value} {s : State} {L : List Cond} (h1 : ∀ w ∈ L.filter vx_no, w.before args s = true)
    (hU : (Cond.isRef (.static Bundle.tN "UNASSIGNED_STACK" Bundle.steD)).before args s = true) (hN : (Cond.isRef (.static Bundle.tN "SUPPRESSED_SENTINEL" Bundle.listD)).before args s = true)
    (lU : (Cond.laysStatic Bundle.tN "UNASSIGNED_STACK" Bundle.steD).before args s = true) (lN : (Cond.laysStatic Bundle.tN "SUPPRESSED_SENTINEL" Bundle.listD).before args s = true) : ∀ w ∈ L, w.before args s = true := by
  intro w hw
  by_cases e1 : w = .isRef (.static Bundle.tN "UNASSIGNED_STACK" Bundle.steD)
  · rw [e1]; exact hU
  · by_cases e2 : w = .isRef (.static Bundle.tN "SUPPRESSED_SENTINEL" Bundle.listD)
    · rw [e2]; exact hN
    · by_cases e3 : w = .laysStatic Bundle.tN "UNASSIGNED_STACK" Bundle.steD
      · rw [e3]; exact lU
      · by_cases e4 : w = .laysStatic Bundle.tN "SUPPRESSED_SENTINEL" Bundle.listD
        · rw [e4]; exact lN
        · exact h1 w (List.mem_filter.mpr ⟨hw, by unfold vx_no; rw [decide_eq_true e1, decide_eq_true e2, decide_eq_true e3, decide_eq_true e4]; rfl⟩)
/-- where a static field lies, its class's statics cell in H -/
def vx_L (C n d : String) (A : Nat → Prop) (U : State) (H : Heap) : Prop := ∃ (c : ClassId) (k : Class) (i : Nat) (f : Field) (a : Nat) (cell : Cell), U.vm.findClass C = some c ∧ U.fieldFound? C n d = some (c, k, i, f) ∧ f.isStatic = true ∧ k.statics = some a ∧ H[a]? = some cell ∧ cell.vm.isStatics = true ∧ cell.cls = c ∧ f.slot < cell.slots.size ∧ k.staticTypes[f.slot]? = some f.type ∧ ¬ A a
theorem vx_L.moved {C n d : String} {A : Nat → Prop} {u U : State} {H : Heap} (hvm : u.vm.Alike U.vm) (h : vx_L C n d A u H) : vx_L C n d A U H := by
  obtain ⟨c, k, i, f, a, cell, h1, h2, h3, h4, h5, h6, h7, h8, h9, h10⟩ := h
  obtain ⟨k', hi', he⟩ := State.fieldFound?_setVm hvm h2
  exact ⟨c, k', i, f, a, cell, by rw [hvm.findClass]; exact h1, hi', h3, by rw [he]; exact h4, h5, h6, h7, h8, by rw [he]; exact h9, h10⟩
theorem vx_L.kept {C n d : String} {A : Nat → Prop} {U : State} {H H1 : Heap} (h : vx_L C n d A U H) (hq : ∀ a : Nat, a < H.size → ¬ A a → H1[a]? = H[a]?) : vx_L C n d A U H1 := by
  obtain ⟨c, k, i, f, a, cell, h1, h2, h3, h4, h5, h6, h7, h8, h9, h10⟩ := h
  exact ⟨c, k, i, f, a, cell, h1, h2, h3, h4, by rw [hq a (Array.getElem?_eq_some_iff.mp h5).1 h10]; exact h5, h6, h7, h8, h9, h10⟩
theorem vx_L.narrow {C n d : String} {A B : Nat → Prop} {U : State} {H : Heap} (h : vx_L C n d A U H) (hAB : ∀ q, B q → A q) : vx_L C n d B U H := by
  obtain ⟨c, k, i, f, a, cell, h1, h2, h3, h4, h5, h6, h7, h8, h9, h10⟩ := h
  exact ⟨c, k, i, f, a, cell, h1, h2, h3, h4, h5, h6, h7, h8, h9, fun z => h10 (hAB _ z)⟩
theorem vx_L.word {C n d : String} {A : Nat → Prop} {s : State} {args : Array Value} (h : vx_L C n d A s s.heap) : (Cond.laysStatic C n d).before args s = true := by
  obtain ⟨c, k, i, f, a, cell, h1, h2, h3, h4, h5, h6, h7, h8, h9, -⟩ := h
  show (Cond.laysStatic C n d).holds args s none s [] = true
  exact Cond.laysStatic_of h1 h2 h3 h4 h5 h6 h7 h8 h9
/-- .. and what it holds: null or some reference -/
def vx_Zq (C n d : String) (A : Nat → Prop) (U : State) (H : Heap) : Prop := va_Zq C n d A U H ∧ vx_L C n d A U H
theorem vx_Zq.moved {C n d : String} {A : Nat → Prop} {u U : State} {H : Heap} (hvm : u.vm.Alike U.vm) (h : vx_Zq C n d A u H) : vx_Zq C n d A U H := ⟨va_Zq.moved hvm h.1, vx_L.moved hvm h.2⟩
theorem vx_Zq.kept {C n d : String} {A : Nat → Prop} {U : State} {H H1 : Heap} (h : vx_Zq C n d A U H) (hq : ∀ a : Nat, a < H.size → ¬ A a → H1[a]? = H[a]?) : vx_Zq C n d A U H1 := ⟨va_Zq.kept h.1 hq, vx_L.kept h.2 hq⟩
theorem vx_Zq.narrow {C n d : String} {A B : Nat → Prop} {U : State} {H : Heap} (h : vx_Zq C n d A U H) (hAB : ∀ q, B q → A q) : vx_Zq C n d B U H := ⟨va_Zq.narrow h.1 hAB, vx_L.narrow h.2 hAB⟩
theorem vx_Zqof {args : Array Value} {s : State} {C n d : String} {A : Nat → Prop} (hl : (Cond.laysStatic C n d).before args s = true) (hini : (Cond.initialized C).before args s = true) (h : (Cond.isRef (.static C n d)).before args s = true) (hA : ∀ a : Nat, a < s.heap.size → ¬ A a) : vx_Zq C n d A s s.heap := by
  refine ⟨va_Zqof hl hini h hA, ?_⟩
  obtain ⟨c, k, i, f, a, cell, h1, h2, h3, h4, h5, h6, h7, h8, h9⟩ := Cond.laysStatic_spec hl
  exact ⟨c, k, i, f, a, cell, h1, h2, h3, h4, h5, h6, h7, h8, h9, hA a (Array.getElem?_eq_some_iff.mp h5).1⟩
theorem vx_isRef {C n d : String} {v : Value} {A : Nat → Prop} {s : State} {args : Array Value} (h : va_Z C n d v A s s.heap) (hv : v.isRef = true) : (Cond.isRef (.static C n d)).before args s = true := by
  obtain ⟨cf, kf, fi, f, a, cell, h1, h2, h3, h4, h5, h6, h7, -⟩ := h
  have he : (Term.static C n d).eval args s none [] s = some v := by
    simp [Term.eval, State.fieldNamed?, h1, h2, h4, h5, h6, h7]
  simp only [Cond.before, Cond.holds, Cond.value, he]
  cases v <;> simp_all [Value.isRef]
theorem vx_isRefq {C n d : String} {A : Nat → Prop} {s : State} {args : Array Value} (h : va_Zq C n d A s s.heap) : (Cond.isRef (.static C n d)).before args s = true := by
  rcases h with h | ⟨t, h⟩
  · exact vx_isRef h rfl
  · exact vx_isRef h rfl
/-- the same frame, seen from here: as if the method were called anew in this heap -/
theorem vx_rebase {T : State} (X : Stand p l e R s m args below meth c T locs cells slots) {R' : Room} (hf : R'.frames ≤ R.frames) (hl : R'.locals ≤ R.locals) (hc : cells + R'.cells ≤ R.cells) (hs : slots + R'.slots ≤ R.slots) :
    Stand p l e R' ((T.setVm s.vm).setFrames (.invoking m args :: below)) m args below meth c T [] 0 0 := by
  have htop : (T.setVm s.vm).topJava?.isSome := X.here.top
  have hF : ((T.setVm s.vm).setFrames (.invoking m args :: below)).frames = .invoking m args :: below := State.frames_setFrames _ (State.cur_lt_of_top htop)
  obtain ⟨g₀, hg0⟩ := Option.isSome_iff_exists.mp htop
  obtain ⟨r, hr⟩ := State.topJava?_eq_some.mp hg0
  have hl9 : e.platform.stackLimits (T.setVm s.vm).me = e.platform.stackLimits s.me := X.limits
  have hb9 : (T.setVm s.vm).me.stackBytes = s.me.stackBytes := X.bytes
  refine ⟨X.admits, X.cas, X.clock, hF, ?_, X.hears, X.method, X.code, X.here, X.tail, X.warmed, ?_, ?_, ?_⟩
  · have h := X.room
    have hU : ((T.setVm s.vm).setFrames (.invoking m args :: below)).localsInUse = s.localsInUse := by
      rw [State.localsInUse_invoking hF (meth := meth) (c := c) X.method X.code, State.localsInUse_invoking X.frames X.method X.code]
    simp only [State.hasRoom, Bool.and_eq_true, decide_eq_true_eq] at h ⊢
    obtain ⟨⟨⟨⟨h1, h2, h3, h4, h5, h6⟩, h7⟩, h8⟩, h9⟩ := h
    rw [X.frames, List.length_cons] at h2 h3
    have q1 := X.heapSize
    have q2 := X.used
    simp only [hF, hU, List.length_cons, State.stackLimits_setFrames, State.stackBytes_setFrames, hl9, hb9]
    refine ⟨⟨⟨⟨by omega, by omega, by omega, by omega, by omega, h6⟩, ?_⟩, ?_⟩, X.book⟩
    · show T.heap.size + R'.cells ≤ e.platform.maxCells
      omega
    · show T.slotsUsed + R'.slots ≤ e.platform.maxSlots
      omega
  · rw [State.stackLimits_setFrames]; rfl
  · rw [State.stackBytes_setFrames]; rfl
  · refine ⟨?_, Nat.le_refl _, Nat.le_refl _, ?_, ?_, fun a c9 h9 => ⟨c9, h9, rfl, rfl, fun _ _ => rfl⟩⟩
    · obtain ⟨t, ht, -⟩ := State.frames_cons hr
      show T.setVm s.vm = { ((T.setVm s.vm).setFrames (.invoking m args :: below)).setFrames (T.setVm s.vm).frames with heap := T.heap, slotsUsed := T.slotsUsed }
      rw [State.setFrames_setFrames, State.setFrames_self ht]
      rfl
    · show T.slotsUsed = T.slotsUsed + ((T.heap.toList.drop T.heap.size).map (·.slots.size)).sum
      rw [List.drop_eq_nil_of_le (Nat.le_of_eq Array.length_toList)]
      rfl
    · show ((T.heap.toList.drop T.heap.size).map (·.slots.size)).sum ≤ 0
      rw [List.drop_eq_nil_of_le (Nat.le_of_eq Array.length_toList)]
      exact Nat.le_refl _
/-- 'throw new E()': new; dup; invokespecial; athrow -/
theorem vx_throw0 {cc : ByteArray} {pc : Nat} (hexec : p.tables.exec = Jvm.exec) (hb : c.code = cc) (hl : l.stackTraces = false) {own cls : String} {names : List String} {ik ic mc ms : Nat} {A : Nat → Prop}
    (hown : s.vm.findClass own = some m.cls) (hcls : Bundle.fit cls = true) (hnames : ∀ n ∈ names, Bundle.fit n = true)
    (hk : (Cond.classLink own ik cls).before args s = true) (hini : (Cond.initialized cls).before args s = true) (hat : ∀ w ∈ vx_at0 own ic cls names, w.before args s = true)
    (hgood : ∀ w ∈ Cond.classLink own ik cls :: Cond.initialized cls :: vx_at0 own ic cls names, vx_ot w = true)
    (hU : vx_Zq Bundle.tN "UNASSIGNED_STACK" Bundle.steD A s s.heap) (hN : vx_Zq Bundle.tN "SUPPRESSED_SENTINEL" Bundle.listD A s s.heap) (hS : va_S A s.heap H locs) (hsize : ls.size = c.maxLocals)
    (d0 : decode cc pc = .ok (.new ik, 3)) (d3 : decode cc (pc + 3) = .ok (.dup, 1)) (d4 : decode cc (pc + 4) = .ok (.invokespecial ic, 3)) (d7 : decode cc (pc + 7) = .ok (.athrow, 1))
    (hout : ∀ x ∈ c.exceptionTable.toList, covers x (pc + 7) = false)
    (hRframes : names.length + 3 < R.frames) (hRlocals : (rest.map fun v => v.category).sum + (13 * (names.length + 1) + 42) ≤ R.locals) (hRcells : cells + 1 ≤ R.cells) (hRslots : slots + 6 ≤ R.slots) (hlocks : meth.locks = false)
    (hx : ∀ t : State, s.vm.Alike t.vm → H.size ≤ t.heap.size → (∀ q : Nat, q < H.size → t.heap[q]? = H[q]?) → XC cls s t)
    (hf : ∀ z ∈ locs, free z.base) (hc : cells + 1 ≤ mc) (hs : slots + 6 ≤ ms) :
    W p l e R s m args below meth c H locs cells slots (vx_MQ below Qc XC args s mc ms free) (F0 m pc ls rest) := by
  intro T hT X
  have htr : e.platform.stackTraces = false := (show e.platform.stackTraces = l.stackTraces by rw [X.admits.platform]).trans hl
  have Y := vx_rebase X (R' := { frames := R.frames, locals := R.locals, cells := 1, slots := 6 }) (Nat.le_refl _) (Nat.le_refl _) hRcells hRslots
  obtain ⟨s', hA⟩ : ∃ z, z = (T.setVm s.vm).setFrames (.invoking m args :: below) := ⟨_, rfl⟩
  rw [← hA] at Y
  have hvm : s'.vm = s.vm := by rw [hA]; rfl
  have hhp : s'.heap = H := by rw [hA]; exact hT
  have hW0 : s.WarmedH s'.vm := by rw [hvm]; exact State.WarmedH.refl s
  have hat' : ∀ w ∈ vx_at0 own ic cls names, w.before args s' = true := fun w hw => vx_ot_at hW0 hvm.symm (hgood w (List.mem_cons_of_mem _ (List.mem_cons_of_mem _ hw))) (hat w hw)
  have hk' : (Cond.classLink own ik cls).before args s' = true := vx_ot_at hW0 hvm.symm (hgood _ List.mem_cons_self) hk
  have hini' : (Cond.initialized cls).before args s' = true := vx_ot_at hW0 hvm.symm (hgood _ (List.mem_cons_of_mem _ List.mem_cons_self)) hini
  have hU' : vx_Zq Bundle.tN "UNASSIGNED_STACK" Bundle.steD A s' s'.heap := by rw [hhp]; exact vx_Zq.moved hW0.alike (hU.kept hS.2.1)
  have hN' : vx_Zq Bundle.tN "SUPPRESSED_SENTINEL" Bundle.listD A s' s'.heap := by rw [hhp]; exact vx_Zq.moved hW0.alike (hN.kept hS.2.1)
  have h : ∀ w ∈ Bundle.ownAtoms0 own ic cls names, w.before args s' = true := vx_own hat' (vx_isRefq hU'.1) (vx_isRefq hN'.1) hU'.2.word hN'.2.word
  have hown' : s'.vm.findClass own = some m.cls := by rw [hvm]; exact hown
  have hins : (Cond.instantiable cls 6).before args s' = true := h _ (by simp [Bundle.ownAtoms0])
  obtain ⟨vm₁, cX, kX, hfX, hkX, -, -, X₁, st1⟩ := Y.newCold hexec (own := own) (C := cls) (index := ik) (n := 6) hown' hk' hins hini'
    (g := F0 m pc ls rest) rfl (by rw [hb]; exact d0) (Nat.le_refl _) (Nat.le_refl _)
  generalize hT1 : (T.setVm vm₁).pushCell { cls := cX, slots := kX.instanceTypes.map defaultValue, vm := .none } = T1 at X₁ st1
  have hcat : (Value.ref T.heap.size).category = 1 := rfl
  have hcellA : T1.heap[T.heap.size]? = some (freshCell cX kX) := by rw [← hT1]; exact State.heap_pushCell_size _ _
  have d3' : decode c.code (pc + 3) = .ok (.dup, 1) := by rw [hb]; exact d3
  obtain ⟨U, hsteps, hrun, hend, hW, hsame, ce, hce, hO⟩ := X₁.ctorThrow0 hexec htr (own := own) (cls := cls) (names := names) (ic := ic) hown' hcls hnames h (fun x hx => nomatch hx) hfX hkX hcellA (by rw [hhp, hT]; exact Nat.le_refl _)
    (g := { method := m, pc := pc + 4, locals := ls, stack := .ref T.heap.size :: .ref T.heap.size :: rest, locked := none }) rfl hsize rfl rfl (rest := rest) rfl
    (by rw [hb]; exact d4) (by rw [hb]; exact d7) hout hRframes (by simp only [List.map_cons, List.sum_cons, hcat]; omega) hlocks
  obtain ⟨f1, f2⟩ := vx_frame hsame
  rw [hhp] at f1 f2
  have hWs : s.WarmedH U.vm := State.WarmedH.trans hW0 hW
  have hcl : s.vm.findClass cls = some ce.cls := by
    have h9 := hO.cls
    rw [hvm] at h9
    exact h9
  have hall : s.sameButNew ({ U with vm := s.vm } : State) locs mc ms := by
    subst hA
    obtain ⟨e1, e2⟩ := hsame
    rw [State.setFrames_setFrames] at e1
    have h2 : (T.setVm s.vm).sameButNew ({ U with vm := s.vm } : State) [] (0 + 1) (0 + 6) := ⟨e1, e2⟩
    have h3 := X.same.trans h2
    rw [List.append_nil] at h3
    exact h3.mono hc hs
  refine ⟨U, ?_, .threw T.heap.size, hrun, hend, Or.inr ⟨T.heap.size, rfl, cls, ce, locs, hx U hWs.alike f1 (fun q hq => f2 q hq (fun z hz => nomatch hz)), hce, hO.vm, hcl, hWs, hall, hf⟩⟩
  refine st1 _ ?_
  show Steps p.tables e below (T1.setTop { method := m, pc := pc + 3, locals := ls, stack := .ref T.heap.size :: rest, locked := none }) _
  jvm_step X₁.here [X₁.here.top, hexec, d3', Value.category]
  exact hsteps
/-- 'throw new E("text")': new; dup; ldc; invokespecial; athrow -/
theorem vx_throwS {cc : ByteArray} {pc : Nat} (hexec : p.tables.exec = Jvm.exec) (hb : c.code = cc) (hl : l.stackTraces = false) {own cls text : String} {names : List String} {ik is ic mc ms sa : Nat} {A : Nat → Prop}
    (hown : s.vm.findClass own = some m.cls) (hcls : Bundle.fit cls = true) (hnames : ∀ n ∈ names, Bundle.fit n = true)
    (hk : (Cond.classLink own ik cls).before args s = true) (hini : (Cond.initialized cls).before args s = true) (hstr : vk_R own is text sa s) (hat : ∀ w ∈ vx_atS own ic cls names, w.before args s = true)
    (hgood : ∀ w ∈ Cond.classLink own ik cls :: Cond.initialized cls :: vx_atS own ic cls names, vx_ot w = true)
    (hU : vx_Zq Bundle.tN "UNASSIGNED_STACK" Bundle.steD A s s.heap) (hN : vx_Zq Bundle.tN "SUPPRESSED_SENTINEL" Bundle.listD A s s.heap) (hS : va_S A s.heap H locs) (hsize : ls.size = c.maxLocals)
    (d0 : decode cc pc = .ok (.new ik, 3)) (d3 : decode cc (pc + 3) = .ok (.dup, 1)) (d4 : decode cc (pc + 4) = .ok (.ldc is, 2)) (d6 : decode cc (pc + 6) = .ok (.invokespecial ic, 3)) (d9 : decode cc (pc + 9) = .ok (.athrow, 1))
    (hout : ∀ x ∈ c.exceptionTable.toList, covers x (pc + 9) = false)
    (hRframes : names.length + 3 < R.frames) (hRlocals : (rest.map fun v => v.category).sum + (13 * (names.length + 1) + 43) ≤ R.locals) (hRcells : cells + 1 ≤ R.cells) (hRslots : slots + 6 ≤ R.slots) (hlocks : meth.locks = false)
    (hx : ∀ t : State, s.vm.Alike t.vm → H.size ≤ t.heap.size → (∀ q : Nat, q < H.size → t.heap[q]? = H[q]?) → XC cls s t)
    (hf : ∀ z ∈ locs, free z.base) (hc : cells + 1 ≤ mc) (hs : slots + 6 ≤ ms) :
    W p l e R s m args below meth c H locs cells slots (vx_MQ below Qc XC args s mc ms free) (F0 m pc ls rest) := by
  intro T hT X
  have htr : e.platform.stackTraces = false := (show e.platform.stackTraces = l.stackTraces by rw [X.admits.platform]).trans hl
  have Y := vx_rebase X (R' := { frames := R.frames, locals := R.locals, cells := 1, slots := 6 }) (Nat.le_refl _) (Nat.le_refl _) hRcells hRslots
  obtain ⟨s', hA⟩ : ∃ z, z = (T.setVm s.vm).setFrames (.invoking m args :: below) := ⟨_, rfl⟩
  rw [← hA] at Y
  have hvm : s'.vm = s.vm := by rw [hA]; rfl
  have hhp : s'.heap = H := by rw [hA]; exact hT
  have hW0 : s.WarmedH s'.vm := by rw [hvm]; exact State.WarmedH.refl s
  have hat' : ∀ w ∈ vx_atS own ic cls names, w.before args s' = true := fun w hw => vx_ot_at hW0 hvm.symm (hgood w (List.mem_cons_of_mem _ (List.mem_cons_of_mem _ hw))) (hat w hw)
  have hk' : (Cond.classLink own ik cls).before args s' = true := vx_ot_at hW0 hvm.symm (hgood _ List.mem_cons_self) hk
  have hini' : (Cond.initialized cls).before args s' = true := vx_ot_at hW0 hvm.symm (hgood _ (List.mem_cons_of_mem _ List.mem_cons_self)) hini
  have hU' : vx_Zq Bundle.tN "UNASSIGNED_STACK" Bundle.steD A s' s'.heap := by rw [hhp]; exact vx_Zq.moved hW0.alike (hU.kept hS.2.1)
  have hN' : vx_Zq Bundle.tN "SUPPRESSED_SENTINEL" Bundle.listD A s' s'.heap := by rw [hhp]; exact vx_Zq.moved hW0.alike (hN.kept hS.2.1)
  have h : ∀ w ∈ Bundle.ownAtoms own ic cls names, w.before args s' = true := vx_own hat' (vx_isRefq hU'.1) (vx_isRefq hN'.1) hU'.2.word hN'.2.word
  have hown' : s'.vm.findClass own = some m.cls := by rw [hvm]; exact hown
  have hins : (Cond.instantiable cls 6).before args s' = true := h _ (by simp [Bundle.ownAtoms])
  obtain ⟨vm₁, cX, kX, hfX, hkX, -, -, X₁, st1⟩ := Y.newCold hexec (own := own) (C := cls) (index := ik) (n := 6) hown' hk' hins hini'
    (g := F0 m pc ls rest) rfl (by rw [hb]; exact d0) (Nat.le_refl _) (Nat.le_refl _)
  generalize hT1 : (T.setVm vm₁).pushCell { cls := cX, slots := kX.instanceTypes.map defaultValue, vm := .none } = T1 at X₁ st1
  have hcat : (Value.ref T.heap.size).category = 1 := rfl
  have hcellA : T1.heap[T.heap.size]? = some (freshCell cX kX) := by rw [← hT1]; exact State.heap_pushCell_size _ _
  have d3' : decode c.code (pc + 3) = .ok (.dup, 1) := by rw [hb]; exact d3
  have d4' : decode c.code (pc + 4) = .ok (.ldc is, 2) := by rw [hb]; exact d4
  have hstr' : vk_R own is text sa s' := vk_R.warm hW0 hstr
  obtain ⟨U, hsteps, hrun, hend, hW, hsame, ce, hce, hO⟩ := X₁.ctorThrowS hexec htr (own := own) (cls := cls) (names := names) (ic := ic) hown' hcls hnames h (fun x hx => nomatch hx) hfX hkX hcellA (by rw [hhp, hT]; exact Nat.le_refl _) (msg := .ref sa) rfl
    (g := { method := m, pc := pc + 6, locals := ls, stack := .ref sa :: .ref T.heap.size :: .ref T.heap.size :: rest, locked := none }) rfl hsize rfl rfl (rest := rest) rfl
    (by rw [hb]; exact d6) (by rw [hb]; exact d9) hout hRframes (by simp only [List.map_cons, List.sum_cons, hcat]; omega) hlocks
  obtain ⟨f1, f2⟩ := vx_frame hsame
  rw [hhp] at f1 f2
  have hWs : s.WarmedH U.vm := State.WarmedH.trans hW0 hW
  have hcl : s.vm.findClass cls = some ce.cls := by
    have h9 := hO.cls
    rw [hvm] at h9
    exact h9
  have hall : s.sameButNew ({ U with vm := s.vm } : State) locs mc ms := by
    subst hA
    obtain ⟨e1, e2⟩ := hsame
    rw [State.setFrames_setFrames] at e1
    have h2 : (T.setVm s.vm).sameButNew ({ U with vm := s.vm } : State) [] (0 + 1) (0 + 6) := ⟨e1, e2⟩
    have h3 := X.same.trans h2
    rw [List.append_nil] at h3
    exact h3.mono hc hs
  refine ⟨U, ?_, .threw T.heap.size, hrun, hend, Or.inr ⟨T.heap.size, rfl, cls, ce, locs, hx U hWs.alike f1 (fun q hq => f2 q hq (fun z hz => nomatch hz)), hce, hO.vm, hcl, hWs, hall, hf⟩⟩
  refine st1 _ ?_
  show Steps p.tables e below (T1.setTop { method := m, pc := pc + 3, locals := ls, stack := .ref T.heap.size :: rest, locked := none }) _
  jvm_step X₁.here [X₁.here.top, hexec, d3', Value.category]
  exact X₁.ldcString hexec (own := own) (text := text) (index := is) (a := sa) hown' hstr'.1 hstr'.2
    (g := { method := m, pc := pc + 4, locals := ls, stack := .ref T.heap.size :: .ref T.heap.size :: rest, locked := none }) rfl d4' _ hsteps
/-- 'throw new E("text")', the text by a wide index -/
theorem vx_throwSW {cc : ByteArray} {pc : Nat} (hexec : p.tables.exec = Jvm.exec) (hb : c.code = cc) (hl : l.stackTraces = false) {own cls text : String} {names : List String} {ik is ic mc ms sa : Nat} {A : Nat → Prop}
    (hown : s.vm.findClass own = some m.cls) (hcls : Bundle.fit cls = true) (hnames : ∀ n ∈ names, Bundle.fit n = true)
    (hk : (Cond.classLink own ik cls).before args s = true) (hini : (Cond.initialized cls).before args s = true) (hstr : vk_R own is text sa s) (hat : ∀ w ∈ vx_atS own ic cls names, w.before args s = true)
    (hgood : ∀ w ∈ Cond.classLink own ik cls :: Cond.initialized cls :: vx_atS own ic cls names, vx_ot w = true)
    (hU : vx_Zq Bundle.tN "UNASSIGNED_STACK" Bundle.steD A s s.heap) (hN : vx_Zq Bundle.tN "SUPPRESSED_SENTINEL" Bundle.listD A s s.heap) (hS : va_S A s.heap H locs) (hsize : ls.size = c.maxLocals)
    (d0 : decode cc pc = .ok (.new ik, 3)) (d3 : decode cc (pc + 3) = .ok (.dup, 1)) (d4 : decode cc (pc + 4) = .ok (.ldc_w is, 3)) (d7 : decode cc (pc + 7) = .ok (.invokespecial ic, 3)) (d10 : decode cc (pc + 10) = .ok (.athrow, 1))
    (hout : ∀ x ∈ c.exceptionTable.toList, covers x (pc + 10) = false)
    (hRframes : names.length + 3 < R.frames) (hRlocals : (rest.map fun v => v.category).sum + (13 * (names.length + 1) + 43) ≤ R.locals) (hRcells : cells + 1 ≤ R.cells) (hRslots : slots + 6 ≤ R.slots) (hlocks : meth.locks = false)
    (hx : ∀ t : State, s.vm.Alike t.vm → H.size ≤ t.heap.size → (∀ q : Nat, q < H.size → t.heap[q]? = H[q]?) → XC cls s t)
    (hf : ∀ z ∈ locs, free z.base) (hc : cells + 1 ≤ mc) (hs : slots + 6 ≤ ms) :
    W p l e R s m args below meth c H locs cells slots (vx_MQ below Qc XC args s mc ms free) (F0 m pc ls rest) := by
  intro T hT X
  have htr : e.platform.stackTraces = false := (show e.platform.stackTraces = l.stackTraces by rw [X.admits.platform]).trans hl
  have Y := vx_rebase X (R' := { frames := R.frames, locals := R.locals, cells := 1, slots := 6 }) (Nat.le_refl _) (Nat.le_refl _) hRcells hRslots
  obtain ⟨s', hA⟩ : ∃ z, z = (T.setVm s.vm).setFrames (.invoking m args :: below) := ⟨_, rfl⟩
  rw [← hA] at Y
  have hvm : s'.vm = s.vm := by rw [hA]; rfl
  have hhp : s'.heap = H := by rw [hA]; exact hT
  have hW0 : s.WarmedH s'.vm := by rw [hvm]; exact State.WarmedH.refl s
  have hat' : ∀ w ∈ vx_atS own ic cls names, w.before args s' = true := fun w hw => vx_ot_at hW0 hvm.symm (hgood w (List.mem_cons_of_mem _ (List.mem_cons_of_mem _ hw))) (hat w hw)
  have hk' : (Cond.classLink own ik cls).before args s' = true := vx_ot_at hW0 hvm.symm (hgood _ List.mem_cons_self) hk
  have hini' : (Cond.initialized cls).before args s' = true := vx_ot_at hW0 hvm.symm (hgood _ (List.mem_cons_of_mem _ List.mem_cons_self)) hini
  have hU' : vx_Zq Bundle.tN "UNASSIGNED_STACK" Bundle.steD A s' s'.heap := by rw [hhp]; exact vx_Zq.moved hW0.alike (hU.kept hS.2.1)
  have hN' : vx_Zq Bundle.tN "SUPPRESSED_SENTINEL" Bundle.listD A s' s'.heap := by rw [hhp]; exact vx_Zq.moved hW0.alike (hN.kept hS.2.1)
  have h : ∀ w ∈ Bundle.ownAtoms own ic cls names, w.before args s' = true := vx_own hat' (vx_isRefq hU'.1) (vx_isRefq hN'.1) hU'.2.word hN'.2.word
  have hown' : s'.vm.findClass own = some m.cls := by rw [hvm]; exact hown
  have hins : (Cond.instantiable cls 6).before args s' = true := h _ (by simp [Bundle.ownAtoms])
  obtain ⟨vm₁, cX, kX, hfX, hkX, -, -, X₁, st1⟩ := Y.newCold hexec (own := own) (C := cls) (index := ik) (n := 6) hown' hk' hins hini'
    (g := F0 m pc ls rest) rfl (by rw [hb]; exact d0) (Nat.le_refl _) (Nat.le_refl _)
  generalize hT1 : (T.setVm vm₁).pushCell { cls := cX, slots := kX.instanceTypes.map defaultValue, vm := .none } = T1 at X₁ st1
  have hcat : (Value.ref T.heap.size).category = 1 := rfl
  have hcellA : T1.heap[T.heap.size]? = some (freshCell cX kX) := by rw [← hT1]; exact State.heap_pushCell_size _ _
  have d3' : decode c.code (pc + 3) = .ok (.dup, 1) := by rw [hb]; exact d3
  have d4' : decode c.code (pc + 4) = .ok (.ldc_w is, 3) := by rw [hb]; exact d4
  have hstr' : vk_R own is text sa s' := vk_R.warm hW0 hstr
  obtain ⟨U, hsteps, hrun, hend, hW, hsame, ce, hce, hO⟩ := X₁.ctorThrowS hexec htr (own := own) (cls := cls) (names := names) (ic := ic) hown' hcls hnames h (fun x hx => nomatch hx) hfX hkX hcellA (by rw [hhp, hT]; exact Nat.le_refl _) (msg := .ref sa) rfl
    (g := { method := m, pc := pc + 7, locals := ls, stack := .ref sa :: .ref T.heap.size :: .ref T.heap.size :: rest, locked := none }) rfl hsize rfl rfl (rest := rest) rfl
    (by rw [hb]; exact d7) (by rw [hb]; exact d10) hout hRframes (by simp only [List.map_cons, List.sum_cons, hcat]; omega) hlocks
  obtain ⟨f1, f2⟩ := vx_frame hsame
  rw [hhp] at f1 f2
  have hWs : s.WarmedH U.vm := State.WarmedH.trans hW0 hW
  have hcl : s.vm.findClass cls = some ce.cls := by
    have h9 := hO.cls
    rw [hvm] at h9
    exact h9
  have hall : s.sameButNew ({ U with vm := s.vm } : State) locs mc ms := by
    subst hA
    obtain ⟨e1, e2⟩ := hsame
    rw [State.setFrames_setFrames] at e1
    have h2 : (T.setVm s.vm).sameButNew ({ U with vm := s.vm } : State) [] (0 + 1) (0 + 6) := ⟨e1, e2⟩
    have h3 := X.same.trans h2
    rw [List.append_nil] at h3
    exact h3.mono hc hs
  refine ⟨U, ?_, .threw T.heap.size, hrun, hend, Or.inr ⟨T.heap.size, rfl, cls, ce, locs, hx U hWs.alike f1 (fun q hq => f2 q hq (fun z hz => nomatch hz)), hce, hO.vm, hcl, hWs, hall, hf⟩⟩
  refine st1 _ ?_
  show Steps p.tables e below (T1.setTop { method := m, pc := pc + 3, locals := ls, stack := .ref T.heap.size :: rest, locked := none }) _
  jvm_step X₁.here [X₁.here.top, hexec, d3', Value.category]
  exact X₁.ldcStringW hexec (own := own) (text := text) (index := is) (a := sa) hown' hstr'.1 hstr'.2
    (g := { method := m, pc := pc + 4, locals := ls, stack := .ref T.heap.size :: .ref T.heap.size :: rest, locked := none }) rfl d4' _ hsteps
end Ends
section Bodies
variable {l : Launch}
theorem vx_ofW {y : MethodName} {ws ws' : List Cond} {rm : Room} {Pc : Array Value → State → Prop} {Qc : Array Value → State → Outcome → State → Prop} {XC : String → State → State → Prop} {mc ms : Nat} {free : Addr → Prop} {cc : ByteArray} {maxL : Nat} {ret : Option FieldType}
    (hy : plainName y.cls = true) (hw : ws = Cond.code y cc maxL ret :: ws')
    (body : ∀ p e s m args below meth c s₁, BodyLoose p l y (headSpec ws rm) cc maxL ret e s m args below meth c s₁ → c.maxLocals = maxL → (∀ x ∈ c.exceptionTable.toList, False) → Pc args s →
      W p l e (headSpec ws rm).room s m args below meth c s.heap [] 0 0 (vx_MQ below Qc XC args s mc ms free) (entryFrame m args maxL)) : vx_Met l y ws rm Pc Qc XC mc ms free := by
  refine MetFree.of_bodyS (code := cc) (maxLocals := maxL) (ret := ret) hy ?_ ?_
  · intro args s m h hn
    obtain ⟨meth, c, h1, h2, h3, h4, h5, h6, -, -⟩ := Cond.code_spec hn (atoms_spec (ws := ws) h _ (by rw [hw]; exact List.mem_cons_self))
    exact ⟨meth, c, h1, h2, h3, h4, h5, h6⟩
  · intro p e s m args below meth c s₁ B hml hP _
    have hh0 : s₁.heap = s.heap := by rw [B.state]; rfl
    have ht : ∀ x ∈ c.exceptionTable.toList, False := by
      obtain ⟨meth9, c9, h1, h2, -, -, -, -, h7, -⟩ := Cond.code_spec B.named (atoms_spec (ws := ws) B.pre _ (by rw [hw]; exact List.mem_cons_self))
      cases Option.some.inj (h1.symm.trans B.method)
      cases Option.some.inj (h2.symm.trans (Stand.of_body B).code)
      intro x hx
      rw [Array.isEmpty_iff.mp h7] at hx
      cases hx
    obtain ⟨t, a1, o, b1, b2, b3⟩ := body p e s m args below meth c s₁ B hml ht hP s₁ hh0 (Stand.of_body B)
    exact ⟨t, o, a1, b1, b2, b3⟩
/-- the table of a body with handlers -/
theorem vx_table {p : Program} {x y : MethodName} {S : Spec} {cc bytes : ByteArray} {maxL maxL' : Nat} {ret ret' : Option FieldType} {e : Env} {s s₁ : State} {m : MethodId} {args : Array Value} {below : List Frame} {meth : Method} {c : Code} {hh : List (Nat × Nat × Nat × Nat)}
    (B : BodyLoose p l y S cc maxL ret e s m args below meth c s₁) (h : (Cond.codeWith y bytes maxL' ret' hh).before args s = true) : c.exceptionTable.toList = tableOf hh := by
  obtain ⟨m9, meth9, c9, hn9, h1, h2, -, -, h6, -⟩ := Cond.codeWith_spec h
  cases Option.some.inj (hn9.symm.trans B.named)
  cases Option.some.inj (h1.symm.trans B.method)
  cases Option.some.inj (h2.symm.trans (Stand.of_body B).code)
  rw [← h6, table_eq]
end Bodies
end VXA
/-! ===== END ===== -/
/-! ===== BEGIN a static call of a method with an exception table ===== -/
section VXS
variable {p : Program} {l : Launch} {e : Env} {R : Room} {s : State} {m : MethodId} {args : Array Value} {below : List Frame} {meth : Method} {c : Code} {T : State} {H : Heap} {locs : List Loc} {cells slots : Nat}
abbrev vx_CSW (R : Room) (s : State) (args : Array Value) (own : String) (index : Nat) (y : MethodName) (bytes : ByteArray) (maxL : Nat) (ret : Option FieldType) (hh : List (Nat × Nat × Nat × Nat)) (ws : List Cond) (rm : Room) (mc ms n : Nat) : Prop :=
  (rm.cells = mc ∧ rm.slots = ms ∧ rm.frames + 1 ≤ R.frames ∧ 8 + (maxL + 11) + rm.locals ≤ R.locals ∧ (∀ w ∈ ws, ∀ (a' : Array Value) (U : State), s.WarmedH U.vm → w.before a' U = true) ∧ Cond.codeWith y bytes maxL ret hh ∈ ws) ∧
  (Cond.codeWith y bytes maxL ret hh).before args s = true ∧ (Cond.initialized y.cls).before args s = true ∧ (y.cls ≠ "java/lang/invoke/MethodHandle" ∧ y.cls ≠ "java/lang/invoke/VarHandle") ∧
  (∀ sig, parseMethodDescriptor y.desc = some sig → n = sig.parameters.length) ∧ (Cond.methodLink own index y).before args s = true ∧ (Cond.static y).before args s = true
theorem vx_cwSW {own : String} {index maxL mc ms : Nat} {y : MethodName} {bytes : ByteArray} {ret : Option FieldType} {hh : List (Nat × Nat × Nat × Nat)} {Ts ws ws' : List Cond} {rm : Room} (n : Nat) (ht : ∀ w ∈ Ts, w.before args s = true) (hT : GoodIn Ts (va_wsS own index y ws)) (hw : ws = Cond.codeWith y bytes maxL ret hh :: ws') (hrc : rm.cells = mc) (hrs : rm.slots = ms)
    (hd : y.cls ≠ "java/lang/invoke/MethodHandle" ∧ y.cls ≠ "java/lang/invoke/VarHandle" ∧ (parseMethodDescriptor y.desc).map (fun d => d.parameters.length) = some n) (hR : rm.frames + 1 ≤ R.frames ∧ 8 + (maxL + 11) + rm.locals ≤ R.locals) :
    vx_CSW R s args own index y bytes maxL ret hh ws rm mc ms n := by
  have ok : ∀ w ∈ va_wsS own index y ws, w.before args s = true := fun w h => ht w (hT w h).1
  have hG : GoodIn Ts ws := fun w h => hT w (by unfold va_wsS; exact List.mem_append_right _ h)
  have hc : Cond.codeWith y bytes maxL ret hh ∈ ws := by rw [hw]; exact List.mem_cons_self
  refine ⟨⟨hrc, hrs, hR.1, hR.2, pay_in ht hG, hc⟩, ht _ (hG _ hc).1, ok _ (by simp [va_wsS]), ⟨hd.1, hd.2.1⟩, fun sig h => ?_, ok _ (by simp [va_wsS]), ok _ (by simp [va_wsS])⟩
  have h2 := hd.2.2
  rw [h] at h2
  exact (Option.some.inj h2).symm
theorem vx_callSW (X : Stand p l e R s m args below meth c T locs cells slots) (hexec : p.tables.exec = Jvm.exec) {own : String} {index : Nat} {y : MethodName} {bytes : ByteArray} {maxL : Nat} {ret : Option FieldType} {hh : List (Nat × Nat × Nat × Nat)}
    (hown : s.vm.findClass own = some m.cls) (hlink : (Cond.methodLink own index y).before args s = true) (hstat : (Cond.static y).before args s = true) (hinit : (Cond.initialized y.cls).before args s = true)
    (hcode : (Cond.codeWith y bytes maxL ret hh).before args s = true) (hy : y.cls ≠ "java/lang/invoke/MethodHandle" ∧ y.cls ≠ "java/lang/invoke/VarHandle")
    {W9 : Nat} {Pre : Pt → Array Value → Prop} {Post : Pt → Array Value → Option Value → Pt → Prop} (hK : Back l R p e below s args y 3 W9 Pre Post)
    {g : JFrame} (hg : g.method = m) (hsize : g.locals.size = c.maxLocals) {argsL rest : List Value} (hlen : ∀ sig, parseMethodDescriptor y.desc = some sig → argsL.length = sig.parameters.length)
    (hstack : g.stack = argsL.reverse ++ rest) (hW : 2 * g.monitorRoom + (rest.map fun v => v.category).sum ≤ W9) (hdg : decode c.code g.pc = .ok (.invokestatic index, 3))
    (hpre : ∀ vm₁, s.WarmedH vm₁ → Pre ⟨T.setVm vm₁, locs, cells, slots⟩ argsL.toArray) :
    ∃ (v : Option Value) (vm₁ : Vm) (B : Pt), s.WarmedH vm₁ ∧ Stand p l e R s m args below meth c B.U B.locs B.cells B.slots ∧ Post ⟨T.setVm vm₁, locs, cells, slots⟩ argsL.toArray v B ∧
      ∀ target, Steps p.tables e below (B.U.setTop { g with pc := g.pc + 3, stack := v.toList ++ rest }) target → Steps p.tables e below (T.setTop g) target := by
  obtain ⟨mk, methM, cM, hnamed, hmethM, -, -, -, -, -, -, hsigM⟩ := Cond.codeWith_spec hcode
  have hstatic : methM.isStatic = true := Cond.static_spec hnamed hmethM hstat
  obtain ⟨kP, hkP, -⟩ := className_of_methodNamed hnamed
  have hinitP : kP.init = .initialized := Cond.initialized_spec (findClass_of_methodNamed hnamed) hkP hinit
  obtain ⟨vm₁, X₁, hstep₁⟩ := X.invokestatic hexec hown hlink hnamed hmethM hstatic hkP hinitP hy (g := g) hg (argsL := argsL) (rest := rest) (hlen _ hsigM) hstack hdg
  obtain ⟨v, B, X', hpost, hsteps⟩ := hK m meth c ⟨T.setVm vm₁, locs, cells, slots⟩ { g with stack := rest } (.invokestatic index) mk argsL.toArray X₁ hg hsize hdg hW (X₁.named hnamed) (hpre vm₁ X₁.warmed)
  exact ⟨v, vm₁, B, X₁.warmed, X', hpost, fun target h => hstep₁ _ fun acts => by rw [doInvoke_state]; exact hsteps.trans h⟩
theorem vx_runSW {y : MethodName} {bytes cc : ByteArray} {maxL nL mc ms n index : Nat} {ret : Option FieldType} {hh : List (Nat × Nat × Nat × Nat)} {ws : List Cond} {rm : Room} {Pc : Array Value → State → Prop} {Qc : Array Value → State → Outcome → State → Prop} {free : Addr → Prop} {Ts : List Cond} {own : String} {As rest : List Value} {g : JFrame}
    (S : CallFix p m c cc nL s args Ts own) (hM : Met l y ws rm Pc Qc mc ms free) (cw : vx_CSW R s args own index y bytes maxL ret hh ws rm mc ms n) (hp : PreS s H Pc As)
    (hg : g.method = m) (hn : As.length = n) (hsize : g.locals.size = nL) (hstack : g.stack = As.reverse ++ rest) (hW : 2 * g.monitorRoom + (rest.map fun v => v.category).sum ≤ 8) (hdg : decode cc g.pc = .ok (.invokestatic index, 3)) (hf : cells + mc ≤ R.cells ∧ slots + ms ≤ R.slots) :
    va_Run p l e R s m args below meth c H locs cells slots mc ms g rest (Qc As.toArray) (free) := by
  obtain ⟨⟨hrc, hrs, hfr, hlo, hws, hcw⟩, hcode, hini, hy, hlen, hl, hstt⟩ := cw
  have hK : Back l R p e below s args y 3 8 (PreOf R mc ms Pc) (PostOf Qc mc ms free) := va_backW (hh := hh) (bytes := bytes) (maxL := maxL) (ret := ret) hM hp.1 hrc hrs hfr hlo hws hcw (fun a' U hW => word_at hW (Or.inl (by first | rfl | simp [Cond.onTables, Cond.keeps, Cond.steady])) hini)
  obtain ⟨hx, hb, hml, ho, -⟩ := S
  intro T hT X
  obtain ⟨v, vm₁, ⟨U', l2, c2, s2⟩, hW₁, X', ⟨g', mk, t, L, e1, e2, hq, h1, hL, h2, h3⟩, st⟩ := vx_callSW X hx (hh := hh) (bytes := bytes) (maxL := maxL) (ret := ret) ho hl hstt hini hcode hy hK hg (hsize.trans hml.symm) (argsL := As) (rest := rest) (fun sig h => hn.trans (hlen sig h)) hstack hW (by rw [hb]; exact hdg)
    (fun vm₁ hW₁ => ⟨hf.1, hf.2, hp.2 (T.setVm vm₁) hT hW₁⟩)
  dsimp only [Pt.U, Pt.locs, Pt.cells, Pt.slots] at X' e1 e2 h1 h2 h3 st
  subst h1; subst h2; subst h3
  exact ⟨v, (T.setVm vm₁).calling g' mk As.toArray, t, U', L, hT, X', hL, e1, e2, hq, st⟩
/-- not caught here, past rows that name other classes: it goes on to the caller -/
theorem vx_outP {p : Program} {l : Launch} {e : Env} {R : Room} {s : State} {m : MethodId} {args : Array Value} {below : List Frame} {meth : Method} {c : Code} {H : Heap} {locs : List Loc} {cells slots : Nat} {free : Addr → Prop} {ls : Array Slot} {rest : List Value} {Qc : Array Value → State → Outcome → State → Prop} {XC : String → State → State → Prop}
    {pc : Nat} {own E : String} {ce : Cell} {q : Addr} {mc ms : Nat} (hown : s.vm.findClass own = some m.cls) (hlocks : meth.locks = false)
    (hpass : ∀ z ∈ c.exceptionTable.toList, covers z pc = false ∨ (z.catchType ≠ 0 ∧ ∃ nm : String, (Cond.classLink own z.catchType nm).before args s = true ∧ va_Nc E nm s)) (hcell : H[q]? = some ce) (hv : ce.vm = .none) (hcl : s.vm.findClass E = some ce.cls)
    (hx : ∀ t : State, t.heap = H → s.vm.Alike t.vm → XC E s t) (hf : ∀ z ∈ locs, free z.base) (hc : cells ≤ mc) (hs : slots ≤ ms) :
    vx_W p l e R s m args below meth c H locs cells slots (vx_MQ below Qc XC args s mc ms free) (F0 m pc ls rest) q := by
  intro T hT X
  have hpl : e.platform.magicAccessors = ({} : Platform).magicAccessors := by rw [X.admits.platform]
  obtain ⟨vm', hW', X', st⟩ := X.outThrough hlocks q (g := F0 m pc ls rest) rfl rfl rfl (cell := ce) (by rw [hT]; exact hcell) (by rw [hv]; rfl)
    (by obtain ⟨k9, h9, -⟩ := Vm.findClass_spec hcl; exact ⟨k9, h9⟩) (fun z hz => by
      rcases hpass z hz with h | ⟨hz0, nm, hl1, hn1⟩
      · exact Or.inl h
      · obtain ⟨c6, hc6, hcl6⟩ := Cond.classLink_spec hown hl1 e.platform hpl
        obtain ⟨a8, b8, h1, h2, h3⟩ := hn1
        cases Option.some.inj (h1.symm.trans hcl)
        cases Option.some.inj (h2.symm.trans hc6)
        exact Or.inr ⟨hz0, _, hcl6, h3⟩)
  obtain ⟨g₀, hfr⟩ := X'.frames_eq
  have hcell9 : ((T.setVm vm').setFrames (.throwing q :: below)).heap[q]? = some ce := by
    show T.heap[q]? = some ce
    rw [hT]; exact hcell
  have hend : Ended ((T.setVm vm').setFrames (.throwing q :: below)) below (.threw q) := State.frames_setFrames _ (State.cur_lt_of_frames hfr)
  refine ⟨(T.setVm vm').setFrames (.throwing q :: below), ?_, .threw q, X'.here.running, hend, Or.inr ⟨q, rfl, E, ce, locs, hx _ hT (X'.ends _).1.alike, hcell9, hv, hcl, (X'.ends _).1, (X'.ends _).2.mono hc hs, hf⟩⟩
  rw [X.pushThrowing_eq]
  exact st
/-- a thing of a world lies in the heap -/
theorem vx_lt {D : va_G} {cl : List vw_C} {ws : va_W} {H1 : Heap} (h : va_P D cl ws H1) {k : Nat} {q : Nat × va_E} (hk : ws[k]? = some q) : q.1 < H1.size := (h k q hk).lt
end VXS
/-! ===== END ===== -/
/-! ===== BEGIN methods with a table of their own: called by a name, returning or throwing ===== -/
section VXH
/-! vx_backW, vx_callVX, vx_callSX, vx_callVW, vx_runVW, vx_runVX, vx_runSX, vx_ofWH follow the same proofs as their sisters above (Free/Laws.lean, Shelf42/LK1.lean); vx_outP calls Shelf42/NT130.lean (outThrough). -/
section
variable {l : Launch} {R : Room} {p : Program} {e : Env} {below : List Frame} {s : State} {sargs : Array Value} {y : MethodName} {len W9 : Nat}
theorem vx_backW {ws : List Cond} {rm : Room} {Pc : Array Value → State → Prop} {Qc : Array Value → State → Outcome → State → Prop} {XC : String → State → State → Prop} {mc ms : Nat} {free : Addr → Prop} {bytes : ByteArray} {maxL : Nat} {ret : Option FieldType} {hh : List (Nat × Nat × Nat × Nat)}
    (hM : vx_Met l y ws rm Pc Qc XC mc ms free) (hblind : FrameBlind Pc) (hrc : rm.cells = mc) (hrs : rm.slots = ms)
    (hframes : rm.frames + 1 ≤ R.frames) (hlocals : W9 + (maxL + 11) + rm.locals ≤ R.locals)
    (hws : ∀ w ∈ ws, ∀ a' U, s.WarmedH U.vm → w.before a' U = true) (hcode : Cond.codeWith y bytes maxL ret hh ∈ ws) (hinit : ∀ a' U, s.WarmedH U.vm → (Cond.initialized y.cls).before a' U = true) :
    vx_Back l R p e below s sargs y len W9 (PreOf R mc ms Pc) (PostOf Qc mc ms free) (vx_Post XC mc ms free) := by
  intro m meth c A g ig mk a X hg hsize hdg hW hn hp
  have h1 : (headSpec ws rm).pre.before a A.U = true := atoms_intro fun w hw => hws w hw _ _ X.warmed
  have h2 : (Cond.codeWith y bytes maxL ret hh).before a A.U = true := hws _ hcode _ _ X.warmed
  have h3 : (Cond.initialized y.cls).before a A.U = true := hinit _ _ X.warmed
  have h4 : A.cells + (headSpec ws rm).room.cells ≤ R.cells := by rw [show (headSpec ws rm).room.cells = mc from hrc]; exact hp.1
  have h5 : A.slots + (headSpec ws rm).room.slots ≤ R.slots := by rw [show (headSpec ws rm).room.slots = ms from hrs]; exact hp.2.1
  have hPc : Pc a (A.U.calling g mk a) := hblind _ _ _ _ hp.2.2
  obtain ⟨U, Ls, c0, s0⟩ := A
  dsimp only [Pt.U, Pt.locs, Pt.cells, Pt.slots] at h1 h2 h3 h4 h5 X hn hPc ⊢
  obtain ⟨m9, methY, cY, hn9, hmY, hcY, -, hlY, -⟩ := Cond.codeWith_spec h2
  cases Option.some.inj (hn9.symm.trans hn)
  obtain ⟨kY, hkY, -⟩ := className_of_methodNamed hn
  have hinitY : kY.init = .initialized := Cond.initialized_spec (findClass_of_methodNamed hn) hkY h3
  have h : At U g.method c below := by rw [hg]; exact X.here
  have hlocals9 : W9 + (maxL + 11) + (headSpec ws rm).room.locals ≤ R.locals := hlocals
  have happ : (headSpec ws rm).appliesLoose y e.platform (U.calling g mk a) = true :=
    Spec.appliesLoose_calling (g := g) h hdg hn hkY hinitY
      (X.room_calling (g := g) (R' := (headSpec ws rm).room) hsize hmY hcY hframes (by rw [hlY]; omega) h4 h5) h1
  obtain ⟨mid, hmid⟩ := h.above
  have hfr : (U.setTop g).frames = (.java g :: mid) ++ below := by rw [State.frames_setTop' g h.top, hmid]; rfl
  obtain ⟨o, s₂, hsteps, -, hend, hq⟩ := Steps.callFree hM p X.admits X.cas X.clock (acts := []) hfr happ hPc trivial
  have hq' : vx_Q Qc XC mc ms free a (U.calling g mk a) o s₂ := hq
  rw [State.frames_setTop' g h.top] at hend
  obtain ⟨g₀, hg0⟩ := Option.isSome_iff_exists.mp h.top
  obtain ⟨r, hr⟩ := State.topJava?_eq_some.mp hg0
  have hr' : (({ U with heap := s₂.heap, slotsUsed := s₂.slotsUsed } : State).setVm s₂.vm).frames = .java g₀ :: r := hr
  rcases hq' with ⟨hqc, L, hfe, hL⟩ | ⟨q, rfl, E, ce, L, hx, hce, hcv, hcl, hW₂, hsm, hL⟩
  · obtain ⟨⟨v, rfl⟩, hW₂, e2, q2, q3, q4, q5, q6⟩ := id hfe
    have e3 : s₂ = ({ (U.calling g mk a).setFrames s₂.frames with heap := s₂.heap, slotsUsed := s₂.slotsUsed } : State).setVm s₂.vm := by
      have : s₂ = ({ s₂ with vm := (U.calling g mk a).vm } : State).setVm s₂.vm := rfl
      rw [e2] at this
      exact this
    obtain ⟨c₂, i₂, len₂, hc₂, hd₂, hf₂⟩ := hend
    have hW' : U.WarmedH s₂.vm := hW₂
    have hcc : c₂ = c := by
      have h1 : s₂.code? g.method = U.code? g.method := by
        rw [State.code?_eq, State.code?_eq, hW'.alike.method?]
      exact Option.some.inj (hc₂.symm.trans (h1.trans h.code))
    subst hcc
    have hlen : len₂ = len := by rw [hdg] at hd₂; cases hd₂; rfl
    subst hlen
    have hs₂ : s₂ = (({ U with heap := s₂.heap, slotsUsed := s₂.slotsUsed } : State).setVm s₂.vm).setTop { g with pc := g.pc + len₂, stack := v.toList ++ g.stack } := by
      refine e3.trans ?_
      rw [hf₂, State.calling_eq h.top, State.setFrames_setFrames, State.setTop_of_frames _ hr', hr]
      rfl
    have hsame : U.sameButNew ({ U with heap := s₂.heap, slotsUsed := s₂.slotsUsed } : State) L mc ms := by
      refine ⟨?_, q2, q3, q4, q5, q6⟩
      obtain ⟨t, ht, -⟩ := State.frames_cons hr
      show ({ U with heap := s₂.heap, slotsUsed := s₂.slotsUsed } : State) = { U.setFrames U.frames with heap := s₂.heap, slotsUsed := s₂.slotsUsed }
      rw [State.setFrames_self ht]
    subst hg
    refine Or.inl ⟨v, ⟨(({ U with heap := s₂.heap, slotsUsed := s₂.slotsUsed } : State).setVm s₂.vm), Ls ++ L, c0 + mc, s0 + ms⟩,
      ⟨X.admits, X.cas, X.clock, X.frames, X.room, X.hears, X.method, X.code, (X.here.setHeapUsed s₂.heap s₂.slotsUsed).setVm hW'.alike, X.tail, State.WarmedH.trans X.warmed hW', X.limits, X.bytes, X.same.trans (hsame.setVm s.vm)⟩,
      ⟨g, mk, s₂, L, rfl, rfl, hqc, rfl, hL, rfl, rfl⟩, ?_⟩
    show Steps p.tables e below _ ((({ U with heap := s₂.heap, slotsUsed := s₂.slotsUsed } : State).setVm s₂.vm).setTop { g with pc := g.pc + len₂, stack := v.toList ++ g.stack })
    rw [← hs₂]
    exact hsteps
  · obtain ⟨e2, q2, q3, q4, q5, q6⟩ := id hsm
    have e3 : s₂ = ({ (U.calling g mk a).setFrames s₂.frames with heap := s₂.heap, slotsUsed := s₂.slotsUsed } : State).setVm s₂.vm := by
      have : s₂ = ({ s₂ with vm := (U.calling g mk a).vm } : State).setVm s₂.vm := rfl
      rw [e2] at this
      exact this
    have hf₂ : s₂.frames = .throwing q :: .java g :: U.frames.tail := hend
    have hW' : U.WarmedH s₂.vm := hW₂
    have hs₂ : s₂ = ((({ U with heap := s₂.heap, slotsUsed := s₂.slotsUsed } : State).setVm s₂.vm).setTop g).pushFrame (.throwing q) := by
      refine e3.trans ?_
      rw [hf₂, State.calling_eq h.top, State.setFrames_setFrames, State.pushFrame, State.frames_setTop _ hr', State.setTop_of_frames _ hr', State.setFrames_setFrames, hr]
      rfl
    have hsame : U.sameButNew ({ U with heap := s₂.heap, slotsUsed := s₂.slotsUsed } : State) L mc ms := by
      refine ⟨?_, q2, q3, q4, q5, q6⟩
      obtain ⟨t, ht, -⟩ := State.frames_cons hr
      show ({ U with heap := s₂.heap, slotsUsed := s₂.slotsUsed } : State) = { U.setFrames U.frames with heap := s₂.heap, slotsUsed := s₂.slotsUsed }
      rw [State.setFrames_self ht]
    subst hg
    refine Or.inr ⟨q, ⟨(({ U with heap := s₂.heap, slotsUsed := s₂.slotsUsed } : State).setVm s₂.vm), Ls ++ L, c0 + mc, s0 + ms⟩,
      ⟨X.admits, X.cas, X.clock, X.frames, X.room, X.hears, X.method, X.code, (X.here.setHeapUsed s₂.heap s₂.slotsUsed).setVm hW'.alike, X.tail, State.WarmedH.trans X.warmed hW', X.limits, X.bytes, X.same.trans (hsame.setVm s.vm)⟩,
      ⟨g, mk, s₂, L, E, ce, rfl, rfl, hx, hce, hcv, hcl, rfl, hL, rfl, rfl⟩, ?_⟩
    show Steps p.tables e below _ (((({ U with heap := s₂.heap, slotsUsed := s₂.slotsUsed } : State).setVm s₂.vm).setTop g).pushFrame (.throwing q))
    rw [← hs₂]
    exact hsteps
end
variable {p : Program} {l : Launch} {e : Env} {R : Room} {s : State} {m : MethodId} {args : Array Value} {below : List Frame} {meth : Method} {c : Code} {T : State} {H : Heap} {locs : List Loc} {cells slots : Nat}
theorem vx_callVX (X : Stand p l e R s m args below meth c T locs cells slots) (hexec : p.tables.exec = Jvm.exec) {own C : String} {index : Nat} {y : MethodName} {bytes : ByteArray} {maxL : Nat} {ret : Option FieldType} {hh : List (Nat × Nat × Nat × Nat)}
    (hown : s.vm.findClass own = some m.cls) (hlink : (Cond.methodLink own index y).before args s = true) (hinst : (Cond.instanceMethod y).before args s = true) (hsel : (Cond.selects C y y).before args s = true)
    (hcode : (Cond.codeWith y bytes maxL ret hh).before args s = true) (hy : y.cls ≠ "java/lang/invoke/MethodHandle" ∧ y.cls ≠ "java/lang/invoke/VarHandle")
    {W9 : Nat} {Pre : Pt → Array Value → Prop} {Post : Pt → Array Value → Option Value → Pt → Prop} {PostX : Pt → Array Value → Addr → Pt → Prop} (hK : vx_Back l R p e below s args y 3 W9 Pre Post PostX)
    {b : Addr} {cellB : Cell} (hcell : T.heap[b]? = some cellB) (hobj : cellB.vm.isStatics = false) (hcls : s.vm.findClass C = some cellB.cls)
    {g : JFrame} (hg : g.method = m) (hsize : g.locals.size = c.maxLocals) {argsL rest : List Value} (hlen : ∀ sig, parseMethodDescriptor y.desc = some sig → argsL.length = sig.parameters.length)
    (hstack : g.stack = argsL.reverse ++ .ref b :: rest) (hW : 2 * g.monitorRoom + (rest.map fun v => v.category).sum ≤ W9) (hdg : decode c.code g.pc = .ok (.invokevirtual index, 3))
    (hpre : ∀ vm₁, s.WarmedH vm₁ → Pre ⟨T.setVm vm₁, locs, cells, slots⟩ (Value.ref b :: argsL).toArray) :
    (∃ (v : Option Value) (vm₁ : Vm) (B : Pt), s.WarmedH vm₁ ∧ Stand p l e R s m args below meth c B.U B.locs B.cells B.slots ∧ Post ⟨T.setVm vm₁, locs, cells, slots⟩ (Value.ref b :: argsL).toArray v B ∧
      ∀ target, Steps p.tables e below (B.U.setTop { g with pc := g.pc + 3, stack := v.toList ++ rest }) target → Steps p.tables e below (T.setTop g) target) ∨
    (∃ (q : Addr) (vm₁ : Vm) (B : Pt), s.WarmedH vm₁ ∧ Stand p l e R s m args below meth c B.U B.locs B.cells B.slots ∧ PostX ⟨T.setVm vm₁, locs, cells, slots⟩ (Value.ref b :: argsL).toArray q B ∧
      Steps p.tables e below (T.setTop g) ((B.U.setTop { g with stack := rest }).pushFrame (.throwing q))) := by
  obtain ⟨mk, methM, hnamed, hmethM, hstM, habM⟩ := Cond.instanceMethod_spec hinst
  obtain ⟨m8, methM', cM, hn8, hmethM', -, -, -, -, -, -, hsigM⟩ := Cond.codeWith_spec hcode
  cases Option.some.inj (hn8.symm.trans hnamed)
  cases hmethM.symm.trans hmethM'
  obtain ⟨c2, r2, m2, q1, q2, q3, q4, kP, hkP, hkPi⟩ := Cond.selects_spec hsel
  cases hcls.symm.trans q1
  cases (State.methodFound?_of_named hnamed hy).symm.trans q2
  cases hnamed.symm.trans q3
  have hselP : selectMethod e.platform s.vm cellB.cls mk = .method mk := by rw [Launch.admits_selectMethod X.admits]; exact q4
  obtain ⟨vm₁, X₁, hstep₁⟩ := X.invokevirtual hexec hown hlink hnamed hmethM hstM hkP hkPi hy (a := b) (cell := cellB) hcell
    (fun z h => by rw [h] at hobj; cases hobj) hselP hmethM habM hkP hkPi (g := g) hg (argsL := argsL) (rest := rest) (hlen _ hsigM) hstack hdg
  rcases hK m meth c ⟨T.setVm vm₁, locs, cells, slots⟩ { g with stack := rest } (.invokevirtual index) mk (Value.ref b :: argsL).toArray X₁ hg hsize hdg hW (X₁.named hnamed) (hpre vm₁ X₁.warmed) with ⟨v, B, X', hpost, hsteps⟩ | ⟨q, B, X', hpost, hsteps⟩
  · exact Or.inl ⟨v, vm₁, B, X₁.warmed, X', hpost, fun target h => hstep₁ _ fun acts => by rw [doInvoke_state]; exact hsteps.trans h⟩
  · exact Or.inr ⟨q, vm₁, B, X₁.warmed, X', hpost, hstep₁ _ fun acts => by rw [doInvoke_state]; exact hsteps⟩
theorem vx_callSX (X : Stand p l e R s m args below meth c T locs cells slots) (hexec : p.tables.exec = Jvm.exec) {own : String} {index : Nat} {y : MethodName} {bytes : ByteArray} {maxL : Nat} {ret : Option FieldType} {hh : List (Nat × Nat × Nat × Nat)}
    (hown : s.vm.findClass own = some m.cls) (hlink : (Cond.methodLink own index y).before args s = true) (hstat : (Cond.static y).before args s = true) (hinit : (Cond.initialized y.cls).before args s = true)
    (hcode : (Cond.codeWith y bytes maxL ret hh).before args s = true) (hy : y.cls ≠ "java/lang/invoke/MethodHandle" ∧ y.cls ≠ "java/lang/invoke/VarHandle")
    {W9 : Nat} {Pre : Pt → Array Value → Prop} {Post : Pt → Array Value → Option Value → Pt → Prop} {PostX : Pt → Array Value → Addr → Pt → Prop} (hK : vx_Back l R p e below s args y 3 W9 Pre Post PostX)
    {g : JFrame} (hg : g.method = m) (hsize : g.locals.size = c.maxLocals) {argsL rest : List Value} (hlen : ∀ sig, parseMethodDescriptor y.desc = some sig → argsL.length = sig.parameters.length)
    (hstack : g.stack = argsL.reverse ++ rest) (hW : 2 * g.monitorRoom + (rest.map fun v => v.category).sum ≤ W9) (hdg : decode c.code g.pc = .ok (.invokestatic index, 3))
    (hpre : ∀ vm₁, s.WarmedH vm₁ → Pre ⟨T.setVm vm₁, locs, cells, slots⟩ argsL.toArray) :
    (∃ (v : Option Value) (vm₁ : Vm) (B : Pt), s.WarmedH vm₁ ∧ Stand p l e R s m args below meth c B.U B.locs B.cells B.slots ∧ Post ⟨T.setVm vm₁, locs, cells, slots⟩ argsL.toArray v B ∧
      ∀ target, Steps p.tables e below (B.U.setTop { g with pc := g.pc + 3, stack := v.toList ++ rest }) target → Steps p.tables e below (T.setTop g) target) ∨
    (∃ (q : Addr) (vm₁ : Vm) (B : Pt), s.WarmedH vm₁ ∧ Stand p l e R s m args below meth c B.U B.locs B.cells B.slots ∧ PostX ⟨T.setVm vm₁, locs, cells, slots⟩ argsL.toArray q B ∧
      Steps p.tables e below (T.setTop g) ((B.U.setTop { g with stack := rest }).pushFrame (.throwing q))) := by
  obtain ⟨mk, methM, cM, hnamed, hmethM, -, -, -, -, -, -, hsigM⟩ := Cond.codeWith_spec hcode
  have hstatic : methM.isStatic = true := Cond.static_spec hnamed hmethM hstat
  obtain ⟨kP, hkP, -⟩ := className_of_methodNamed hnamed
  have hinitP : kP.init = .initialized := Cond.initialized_spec (findClass_of_methodNamed hnamed) hkP hinit
  obtain ⟨vm₁, X₁, hstep₁⟩ := X.invokestatic hexec hown hlink hnamed hmethM hstatic hkP hinitP hy (g := g) hg (argsL := argsL) (rest := rest) (hlen _ hsigM) hstack hdg
  rcases hK m meth c ⟨T.setVm vm₁, locs, cells, slots⟩ { g with stack := rest } (.invokestatic index) mk argsL.toArray X₁ hg hsize hdg hW (X₁.named hnamed) (hpre vm₁ X₁.warmed) with ⟨v, B, X', hpost, hsteps⟩ | ⟨q, B, X', hpost, hsteps⟩
  · exact Or.inl ⟨v, vm₁, B, X₁.warmed, X', hpost, fun target h => hstep₁ _ fun acts => by rw [doInvoke_state]; exact hsteps.trans h⟩
  · exact Or.inr ⟨q, vm₁, B, X₁.warmed, X', hpost, hstep₁ _ fun acts => by rw [doInvoke_state]; exact hsteps⟩
theorem vx_callVW (X : Stand p l e R s m args below meth c T locs cells slots) (hexec : p.tables.exec = Jvm.exec) {own C : String} {index : Nat} {y : MethodName} {bytes : ByteArray} {maxL : Nat} {ret : Option FieldType} {hh : List (Nat × Nat × Nat × Nat)}
    (hown : s.vm.findClass own = some m.cls) (hlink : (Cond.methodLink own index y).before args s = true) (hinst : (Cond.instanceMethod y).before args s = true) (hsel : (Cond.selects C y y).before args s = true)
    (hcode : (Cond.codeWith y bytes maxL ret hh).before args s = true) (hy : y.cls ≠ "java/lang/invoke/MethodHandle" ∧ y.cls ≠ "java/lang/invoke/VarHandle")
    {W9 : Nat} {Pre : Pt → Array Value → Prop} {Post : Pt → Array Value → Option Value → Pt → Prop} (hK : Back l R p e below s args y 3 W9 Pre Post)
    {b : Addr} {cellB : Cell} (hcell : T.heap[b]? = some cellB) (hobj : cellB.vm.isStatics = false) (hcls : s.vm.findClass C = some cellB.cls)
    {g : JFrame} (hg : g.method = m) (hsize : g.locals.size = c.maxLocals) {argsL rest : List Value} (hlen : ∀ sig, parseMethodDescriptor y.desc = some sig → argsL.length = sig.parameters.length)
    (hstack : g.stack = argsL.reverse ++ .ref b :: rest) (hW : 2 * g.monitorRoom + (rest.map fun v => v.category).sum ≤ W9) (hdg : decode c.code g.pc = .ok (.invokevirtual index, 3))
    (hpre : ∀ vm₁, s.WarmedH vm₁ → Pre ⟨T.setVm vm₁, locs, cells, slots⟩ (Value.ref b :: argsL).toArray) :
    ∃ (v : Option Value) (vm₁ : Vm) (B : Pt), s.WarmedH vm₁ ∧ Stand p l e R s m args below meth c B.U B.locs B.cells B.slots ∧ Post ⟨T.setVm vm₁, locs, cells, slots⟩ (Value.ref b :: argsL).toArray v B ∧
      ∀ target, Steps p.tables e below (B.U.setTop { g with pc := g.pc + 3, stack := v.toList ++ rest }) target → Steps p.tables e below (T.setTop g) target := by
  obtain ⟨mk, methM, hnamed, hmethM, hstM, habM⟩ := Cond.instanceMethod_spec hinst
  obtain ⟨m8, methM', cM, hn8, hmethM', -, -, -, -, -, -, hsigM⟩ := Cond.codeWith_spec hcode
  cases Option.some.inj (hn8.symm.trans hnamed)
  cases hmethM.symm.trans hmethM'
  obtain ⟨c2, r2, m2, q1, q2, q3, q4, kP, hkP, hkPi⟩ := Cond.selects_spec hsel
  cases hcls.symm.trans q1
  cases (State.methodFound?_of_named hnamed hy).symm.trans q2
  cases hnamed.symm.trans q3
  have hselP : selectMethod e.platform s.vm cellB.cls mk = .method mk := by rw [Launch.admits_selectMethod X.admits]; exact q4
  obtain ⟨vm₁, X₁, hstep₁⟩ := X.invokevirtual hexec hown hlink hnamed hmethM hstM hkP hkPi hy (a := b) (cell := cellB) hcell
    (fun z h => by rw [h] at hobj; cases hobj) hselP hmethM habM hkP hkPi (g := g) hg (argsL := argsL) (rest := rest) (hlen _ hsigM) hstack hdg
  obtain ⟨v, B, X', hpost, hsteps⟩ := hK m meth c ⟨T.setVm vm₁, locs, cells, slots⟩ { g with stack := rest } (.invokevirtual index) mk (Value.ref b :: argsL).toArray X₁ hg hsize hdg hW (X₁.named hnamed) (hpre vm₁ X₁.warmed)
  exact ⟨v, vm₁, B, X₁.warmed, X', hpost, fun target h => hstep₁ _ fun acts => by rw [doInvoke_state]; exact hsteps.trans h⟩
abbrev vx_CVW (R : Room) (s : State) (args : Array Value) (own C : String) (index : Nat) (y : MethodName) (bytes : ByteArray) (maxL : Nat) (ret : Option FieldType) (hh : List (Nat × Nat × Nat × Nat)) (ws : List Cond) (rm : Room) (mc ms n : Nat) : Prop :=
  (rm.cells = mc ∧ rm.slots = ms ∧ rm.frames + 1 ≤ R.frames ∧ 8 + (maxL + 11) + rm.locals ≤ R.locals ∧ (∀ w ∈ ws, ∀ (a' : Array Value) (U : State), s.WarmedH U.vm → w.before a' U = true) ∧ Cond.codeWith y bytes maxL ret hh ∈ ws) ∧
  (Cond.codeWith y bytes maxL ret hh).before args s = true ∧ (Cond.initialized y.cls).before args s = true ∧ (y.cls ≠ "java/lang/invoke/MethodHandle" ∧ y.cls ≠ "java/lang/invoke/VarHandle") ∧
  (∀ sig, parseMethodDescriptor y.desc = some sig → n = sig.parameters.length) ∧ (Cond.methodLink own index y).before args s = true ∧ (Cond.instanceMethod y).before args s = true ∧ (Cond.selects C y y).before args s = true
theorem vx_cwVW {own C : String} {index maxL mc ms : Nat} {y : MethodName} {bytes : ByteArray} {ret : Option FieldType} {hh : List (Nat × Nat × Nat × Nat)} {Ts ws ws' : List Cond} {rm : Room} (n : Nat) (ht : ∀ w ∈ Ts, w.before args s = true) (hT : GoodIn Ts (wsV own index C y ws)) (hw : ws = Cond.codeWith y bytes maxL ret hh :: ws') (hrc : rm.cells = mc) (hrs : rm.slots = ms)
    (hd : y.cls = C ∧ y.cls ≠ "java/lang/invoke/MethodHandle" ∧ y.cls ≠ "java/lang/invoke/VarHandle" ∧ (parseMethodDescriptor y.desc).map (fun d => d.parameters.length) = some n) (hR : rm.frames + 1 ≤ R.frames ∧ 8 + (maxL + 11) + rm.locals ≤ R.locals) :
    vx_CVW R s args own C index y bytes maxL ret hh ws rm mc ms n := by
  obtain ⟨hC, hd⟩ := hd
  subst hC
  have ok : ∀ w ∈ wsV own index y.cls y ws, w.before args s = true := fun w h => ht w (hT w h).1
  have hG : GoodIn Ts ws := fun w h => hT w (by unfold wsV; exact List.mem_append_right _ h)
  have hc : Cond.codeWith y bytes maxL ret hh ∈ ws := by rw [hw]; exact List.mem_cons_self
  refine ⟨⟨hrc, hrs, hR.1, hR.2, pay_in ht hG, hc⟩, ht _ (hG _ hc).1, ok _ (by simp [wsV]), ⟨hd.1, hd.2.1⟩, fun sig h => ?_, ok _ (by simp [wsV]), ok _ (by simp [wsV]), ok _ (by simp [wsV])⟩
  have h2 := hd.2.2
  rw [h] at h2
  exact (Option.some.inj h2).symm
theorem vx_runVW {y : MethodName} {bytes cc : ByteArray} {maxL nL mc ms n index : Nat} {ret : Option FieldType} {hh : List (Nat × Nat × Nat × Nat)} {ws : List Cond} {rm : Room} {Pc : Array Value → State → Prop} {Qc : Array Value → State → Outcome → State → Prop} {free : Addr → Prop} {Ts : List Cond} {own C : String} {b : Addr} {As rest : List Value} {g : JFrame}
    (S : CallFix p m c cc nL s args Ts own) (hM : Met l y ws rm Pc Qc mc ms free) (cw : vx_CVW R s args own C index y bytes maxL ret hh ws rm mc ms n) (hp : PreV s H C b Pc As)
    (hg : g.method = m) (hn : As.length = n) (hsize : g.locals.size = nL) (hstack : g.stack = As.reverse ++ .ref b :: rest) (hW : 2 * g.monitorRoom + (rest.map fun v => v.category).sum ≤ 8) (hdg : decode cc g.pc = .ok (.invokevirtual index, 3)) (hf : cells + mc ≤ R.cells ∧ slots + ms ≤ R.slots) :
    va_Run p l e R s m args below meth c H locs cells slots mc ms g rest (Qc (Value.ref b :: As).toArray) free := by
  obtain ⟨⟨hrc, hrs, hfr, hlo, hws, hcw⟩, hcode, hini, hy, hlen, hl, hin, hse⟩ := cw
  have hK : Back l R p e below s args y 3 8 (PreOf R mc ms Pc) (PostOf Qc mc ms free) := va_backW (hh := hh) (bytes := bytes) (maxL := maxL) (ret := ret) hM hp.1 hrc hrs hfr hlo hws hcw (fun a' U hW => word_at hW (Or.inl (by first | rfl | simp [Cond.onTables, Cond.keeps, Cond.steady])) hini)
  obtain ⟨hx, hb, hml, ho, -⟩ := S
  obtain ⟨-, ⟨cellB, hcB, hoB, hclB⟩, hPc⟩ := hp
  intro T hT X
  obtain ⟨v, vm₁, ⟨U', l2, c2, s2⟩, hW₁, X', ⟨g', mk, t, L, e1, e2, hq, h1, hL, h2, h3⟩, st⟩ := vx_callVW X hx (C := C) (hh := hh) (bytes := bytes) (maxL := maxL) (ret := ret) ho hl hin hse hcode hy hK (by rw [hT]; exact hcB) hoB hclB hg (hsize.trans hml.symm) (argsL := As) (rest := rest) (fun sig h => hn.trans (hlen sig h)) hstack hW (by rw [hb]; exact hdg)
    (fun vm₁ hW₁ => ⟨hf.1, hf.2, hPc (T.setVm vm₁) hT hW₁⟩)
  dsimp only [Pt.U, Pt.locs, Pt.cells, Pt.slots] at X' e1 e2 h1 h2 h3 st
  subst h1; subst h2; subst h3
  exact ⟨v, (T.setVm vm₁).calling g' mk (Value.ref b :: As).toArray, t, U', L, hT, X', hL, e1, e2, hq, st⟩
section
variable {y : MethodName} {bytes cc : ByteArray} {maxL nL mc ms n index : Nat} {ret : Option FieldType} {ws : List Cond} {rm : Room} {Pc : Array Value → State → Prop} {Qc : Array Value → State → Outcome → State → Prop} {XC : String → State → State → Prop} {free : Addr → Prop} {Ts : List Cond} {own C : String} {b : Addr} {As rest : List Value} {g : JFrame}
theorem vx_runVX {hh : List (Nat × Nat × Nat × Nat)} (S : CallFix p m c cc nL s args Ts own) (hM : vx_Met l y ws rm Pc Qc XC mc ms free) (cw : vx_CVW R s args own C index y bytes maxL ret hh ws rm mc ms n) (hp : PreV s H C b Pc As)
    (hg : g.method = m) (hn : As.length = n) (hsize : g.locals.size = nL) (hstack : g.stack = As.reverse ++ .ref b :: rest) (hW : 2 * g.monitorRoom + (rest.map fun v => v.category).sum ≤ 8) (hdg : decode cc g.pc = .ok (.invokevirtual index, 3)) (hf : cells + mc ≤ R.cells ∧ slots + ms ≤ R.slots) :
    vx_Run p l e R s m args below meth c H locs cells slots mc ms g rest (Qc (Value.ref b :: As).toArray) XC free := by
  obtain ⟨⟨hrc, hrs, hfr, hlo, hws, hcw⟩, hcode, hini, hy, hlen, hl, hin, hse⟩ := cw
  have hK : vx_Back l R p e below s args y 3 8 (PreOf R mc ms Pc) (PostOf Qc mc ms free) (vx_Post XC mc ms free) := vx_backW (hh := hh) (bytes := bytes) (maxL := maxL) (ret := ret) hM hp.1 hrc hrs hfr hlo hws hcw (fun a' U hW => word_at hW (Or.inl (by first | rfl | simp [Cond.onTables, Cond.keeps, Cond.steady])) hini)
  obtain ⟨hx, hb, hml, ho, -⟩ := S
  obtain ⟨-, ⟨cellB, hcB, hoB, hclB⟩, hPc⟩ := hp
  intro T hT X
  rcases vx_callVX X hx (C := C) (hh := hh) (bytes := bytes) (maxL := maxL) (ret := ret) ho hl hin hse hcode hy hK (by rw [hT]; exact hcB) hoB hclB hg (hsize.trans hml.symm) (argsL := As) (rest := rest) (fun sig h => hn.trans (hlen sig h)) hstack hW (by rw [hb]; exact hdg)
    (fun vm₁ hW₁ => ⟨hf.1, hf.2, hPc (T.setVm vm₁) hT hW₁⟩) with ⟨v, vm₁, ⟨U', l2, c2, s2⟩, hW₁, X', ⟨g', mk, t, L, e1, e2, hq, h1, hL, h2, h3⟩, st⟩ | ⟨q, vm₁, ⟨U', l2, c2, s2⟩, hW₁, X', ⟨g', mk, t, L, E, ce, e1, e2, hq, hce, hcv, hcl, h1, hL, h2, h3⟩, st⟩
  · dsimp only [Pt.U, Pt.locs, Pt.cells, Pt.slots] at X' e1 e2 h1 h2 h3 st
    subst h1; subst h2; subst h3
    exact Or.inl ⟨v, (T.setVm vm₁).calling g' mk (Value.ref b :: As).toArray, t, U', L, hT, X', hL, e1, e2, hq, st⟩
  · dsimp only [Pt.U, Pt.locs, Pt.cells, Pt.slots] at X' e1 e2 h1 h2 h3 st hcl
    subst h1; subst h2; subst h3
    exact Or.inr ⟨q, (T.setVm vm₁).calling g' mk (Value.ref b :: As).toArray, t, U', L, E, ce, hT, X', hL, e1, e2, hq, hce, hcv, vx_cls hW₁ hcl, st⟩
theorem vx_runSX {hh : List (Nat × Nat × Nat × Nat)} (S : CallFix p m c cc nL s args Ts own) (hM : vx_Met l y ws rm Pc Qc XC mc ms free) (cw : vx_CSW R s args own index y bytes maxL ret hh ws rm mc ms n) (hp : PreS s H Pc As)
    (hg : g.method = m) (hn : As.length = n) (hsize : g.locals.size = nL) (hstack : g.stack = As.reverse ++ rest) (hW : 2 * g.monitorRoom + (rest.map fun v => v.category).sum ≤ 8) (hdg : decode cc g.pc = .ok (.invokestatic index, 3)) (hf : cells + mc ≤ R.cells ∧ slots + ms ≤ R.slots) :
    vx_Run p l e R s m args below meth c H locs cells slots mc ms g rest (Qc As.toArray) XC free := by
  obtain ⟨⟨hrc, hrs, hfr, hlo, hws, hcw⟩, hcode, hini, hy, hlen, hl, hstt⟩ := cw
  have hK : vx_Back l R p e below s args y 3 8 (PreOf R mc ms Pc) (PostOf Qc mc ms free) (vx_Post XC mc ms free) := vx_backW (hh := hh) (bytes := bytes) (maxL := maxL) (ret := ret) hM hp.1 hrc hrs hfr hlo hws hcw (fun a' U hW => word_at hW (Or.inl (by first | rfl | simp [Cond.onTables, Cond.keeps, Cond.steady])) hini)
  obtain ⟨hx, hb, hml, ho, -⟩ := S
  intro T hT X
  rcases vx_callSX X hx (hh := hh) (bytes := bytes) (maxL := maxL) (ret := ret) ho hl hstt hini hcode hy hK hg (hsize.trans hml.symm) (argsL := As) (rest := rest) (fun sig h => hn.trans (hlen sig h)) hstack hW (by rw [hb]; exact hdg)
    (fun vm₁ hW₁ => ⟨hf.1, hf.2, hp.2 (T.setVm vm₁) hT hW₁⟩) with ⟨v, vm₁, ⟨U', l2, c2, s2⟩, hW₁, X', ⟨g', mk, t, L, e1, e2, hq, h1, hL, h2, h3⟩, st⟩ | ⟨q, vm₁, ⟨U', l2, c2, s2⟩, hW₁, X', ⟨g', mk, t, L, E, ce, e1, e2, hq, hce, hcv, hcl, h1, hL, h2, h3⟩, st⟩
  · dsimp only [Pt.U, Pt.locs, Pt.cells, Pt.slots] at X' e1 e2 h1 h2 h3 st
    subst h1; subst h2; subst h3
    exact Or.inl ⟨v, (T.setVm vm₁).calling g' mk As.toArray, t, U', L, hT, X', hL, e1, e2, hq, st⟩
  · dsimp only [Pt.U, Pt.locs, Pt.cells, Pt.slots] at X' e1 e2 h1 h2 h3 st hcl
    subst h1; subst h2; subst h3
    exact Or.inr ⟨q, (T.setVm vm₁).calling g' mk As.toArray, t, U', L, E, ce, hT, X', hL, e1, e2, hq, hce, hcv, vx_cls hW₁ hcl, st⟩
end
end VXH
theorem vx_ofWH {l : Launch} {y : MethodName} {ws ws' : List Cond} {rm : Room} {Pc : Array Value → State → Prop} {Qc : Array Value → State → Outcome → State → Prop} {XC : String → State → State → Prop} {mc ms : Nat} {free : Addr → Prop} {cc : ByteArray} {maxL : Nat} {ret : Option FieldType} {hh : List (Nat × Nat × Nat × Nat)}
    (hy : plainName y.cls = true) (hw : ws = Cond.codeWith y cc maxL ret hh :: ws')
    (body : ∀ p e s m args below meth c s₁, BodyLoose p l y (headSpec ws rm) cc maxL ret e s m args below meth c s₁ → c.maxLocals = maxL → Pc args s →
      W p l e (headSpec ws rm).room s m args below meth c s.heap [] 0 0 (vx_MQ below Qc XC args s mc ms free) (entryFrame m args maxL)) : vx_Met l y ws rm Pc Qc XC mc ms free := by
  refine MetFree.of_bodyS (code := cc) (maxLocals := maxL) (ret := ret) hy ?_ ?_
  · intro args s m h hn
    obtain ⟨m9, meth, c, hn9, h1, h2, h3, h4, -, h5, h6, -⟩ := Cond.codeWith_spec (atoms_spec (ws := ws) h _ (by rw [hw]; exact List.mem_cons_self))
    cases hn.symm.trans hn9
    exact ⟨meth, c, h1, h2, h3, h4, h5, h6⟩
  · intro p e s m args below meth c s₁ B hml hP _
    have hh0 : s₁.heap = s.heap := by rw [B.state]; rfl
    obtain ⟨t, a1, o, b1, b2, b3⟩ := body p e s m args below meth c s₁ B hml hP s₁ hh0 (Stand.of_body B)
    exact ⟨t, o, a1, b1, b2, b3⟩
/-! ===== END ===== -/

/-! ===== BEGIN printed: names, fields, word lists, decode rows ===== -/
def RX0 : String := "GridCommons$Ledger"
def TX0 : u_T := fun k => match k with
  | 0 => ("GridCommons$Ledger", "count", "I", false)
  | 1 => ("GridCommons$Ledger", "price", "[D", true)
  | 2 => ("GridCommons$Ledger", "sold", "[D", true)
  | 3 => ("GridCommons$Ledger", "use", "[D", true)
  | 4 => ("GridCommons$Ledger", "known", "[Z", true)
  | 5 => ("GridCommons$Ledger", "used", "[D", true)
  | 6 => ("GridCommons$Ledger", "fromSun", "[D", true)
  | 7 => ("GridCommons$Ledger", "fromBattery", "[D", true)
  | _ => ("GridCommons$Ledger", "bought", "[D", true)
def tyX0 : Nat → FieldType := fun k => match k with
  | 0 => .int
  | 1 => .array .double
  | 2 => .array .double
  | 3 => .array .double
  | 4 => .array .boolean
  | 5 => .array .double
  | 6 => .array .double
  | 7 => .array .double
  | _ => .array .double
abbrev wsX00 : List Cond := u_ws RX0 TX0 9
theorem nmX0 : ∀ a, a < 9 → ∀ b, b < 9 → a ≠ b → (TX0 a).2.1 ≠ (TX0 b).2.1 := by decide +kernel
theorem tyX0_ok : ∀ k, k < 9 → parseFieldDescriptor (TX0 k).2.2.1 = some (tyX0 k) := by decide +kernel
abbrev cX0_init : ByteArray := prog_2_method_1_code
def yX0_init : MethodName := ⟨RX0, "<init>", "()V"⟩
abbrev cX0_slot : ByteArray := prog_2_method_2_code
def yX0_slot : MethodName := ⟨RX0, "slot", "(II)I"⟩
abbrev cX0_guess : ByteArray := prog_2_method_3_code
def yX0_guess : MethodName := ⟨RX0, "guess", "(I)D"⟩
def RX1 : String := "GridCommons"
def TX1 : u_T := fun k => match k with
  | 0 => ("GridCommons", "shares", "[I", true)
  | 1 => ("GridCommons", "switches", "[Z", true)
  | 2 => ("GridCommons", "timesShed", "[I", true)
  | 3 => ("GridCommons", "bills", "[D", true)
  | 4 => ("GridCommons", "isTold", "[Z", true)
  | 5 => ("GridCommons", "toldUse", "[I", true)
  | 6 => ("GridCommons", "ledger", "LGridCommons$Ledger;", true)
  | 7 => ("GridCommons", "price", "D", false)
  | 8 => ("GridCommons", "stored", "D", false)
  | 9 => ("GridCommons", "whoseTurn", "I", false)
  | 10 => ("GridCommons", "needs", "[D", true)
  | _ => ("GridCommons", "leftOver", "D", false)
def tyX1 : Nat → FieldType := fun k => match k with
  | 0 => .array .int
  | 1 => .array .boolean
  | 2 => .array .int
  | 3 => .array .double
  | 4 => .array .boolean
  | 5 => .array .int
  | 6 => .object "GridCommons$Ledger"
  | 7 => .double
  | 8 => .double
  | 9 => .int
  | 10 => .array .double
  | _ => .double
abbrev wsX10 : List Cond := u_ws RX1 TX1 12
theorem nmX1 : ∀ a, a < 12 → ∀ b, b < 12 → a ≠ b → (TX1 a).2.1 ≠ (TX1 b).2.1 := by decide +kernel
theorem tyX1_ok : ∀ k, k < 12 → parseFieldDescriptor (TX1 k).2.2.1 = some (tyX1 k) := by decide +kernel
abbrev cX1_init : ByteArray := prog_1_method_1_code
def yX1_init : MethodName := ⟨RX1, "<init>", "()V"⟩
abbrev cX1_setShare : ByteArray := prog_1_method_2_code
def yX1_setShare : MethodName := ⟨RX1, "setShare", "(II)I"⟩
abbrev cX1_setSwitch : ByteArray := prog_1_method_3_code
def yX1_setSwitch : MethodName := ⟨RX1, "setSwitch", "(IZ)Z"⟩
abbrev cX1_setPrice : ByteArray := prog_1_method_4_code
def yX1_setPrice : MethodName := ⟨RX1, "setPrice", "(I)D"⟩
abbrev cX1_tell : ByteArray := prog_1_method_5_code
def yX1_tell : MethodName := ⟨RX1, "tell", "(II)Z"⟩
abbrev cX1_close : ByteArray := prog_1_method_6_code
def yX1_close : MethodName := ⟨RX1, "close", "(I)Z"⟩
abbrev cX1_closed : ByteArray := prog_1_method_7_code
def yX1_closed : MethodName := ⟨RX1, "closed", "()I"⟩
abbrev cX1_replace : ByteArray := prog_1_method_8_code
def yX1_replace : MethodName := ⟨RX1, "replace", "(III)D"⟩
abbrev cX1_use : ByteArray := prog_1_method_9_code
def yX1_use : MethodName := ⟨RX1, "use", "(II)D"⟩
abbrev cX1_fromSun : ByteArray := prog_1_method_10_code
def yX1_fromSun : MethodName := ⟨RX1, "fromSun", "(II)D"⟩
abbrev cX1_fromBattery : ByteArray := prog_1_method_11_code
def yX1_fromBattery : MethodName := ⟨RX1, "fromBattery", "(II)D"⟩
abbrev cX1_bought : ByteArray := prog_1_method_12_code
def yX1_bought : MethodName := ⟨RX1, "bought", "(II)D"⟩
abbrev cX1_sold : ByteArray := prog_1_method_13_code
def yX1_sold : MethodName := ⟨RX1, "sold", "(I)D"⟩
abbrev cX1_battery : ByteArray := prog_1_method_14_code
def yX1_battery : MethodName := ⟨RX1, "battery", "()D"⟩
abbrev cX1_turn : ByteArray := prog_1_method_15_code
def yX1_turn : MethodName := ⟨RX1, "turn", "()I"⟩
abbrev cX1_sheds : ByteArray := prog_1_method_16_code
def yX1_sheds : MethodName := ⟨RX1, "sheds", "(I)I"⟩
abbrev cX1_bill : ByteArray := prog_1_method_17_code
def yX1_bill : MethodName := ⟨RX1, "bill", "(I)D"⟩
abbrev cX1_requireWithin : ByteArray := prog_1_method_18_code
def yX1_requireWithin : MethodName := ⟨RX1, "requireWithin", "(III)V"⟩
abbrev cX1_requireOwner : ByteArray := prog_1_method_19_code
def yX1_requireOwner : MethodName := ⟨RX1, "requireOwner", "(I)V"⟩
abbrev cX1_requireQuarter : ByteArray := prog_1_method_20_code
def yX1_requireQuarter : MethodName := ⟨RX1, "requireQuarter", "(I)V"⟩
abbrev cX1_closedSlot : ByteArray := prog_1_method_21_code
def yX1_closedSlot : MethodName := ⟨RX1, "closedSlot", "(II)I"⟩
abbrev cX1_writeUses : ByteArray := prog_1_method_22_code
def yX1_writeUses : MethodName := ⟨RX1, "writeUses", "(I)V"⟩
abbrev cX1_shedUntilCarried : ByteArray := prog_1_method_23_code
def yX1_shedUntilCarried : MethodName := ⟨RX1, "shedUntilCarried", "()V"⟩
abbrev cX1_isOverLine : ByteArray := prog_1_method_24_code
def yX1_isOverLine : MethodName := ⟨RX1, "isOverLine", "()Z"⟩
abbrev cX1_nextToShed : ByteArray := prog_1_method_25_code
def yX1_nextToShed : MethodName := ⟨RX1, "nextToShed", "()I"⟩
abbrev cX1_writeUsed : ByteArray := prog_1_method_26_code
def yX1_writeUsed : MethodName := ⟨RX1, "writeUsed", "(I)V"⟩
abbrev cX1_giveByShare : ByteArray := prog_1_method_27_code
def yX1_giveByShare : MethodName := ⟨RX1, "giveByShare", "(II)V"⟩
abbrev cX1_giveByNeed : ByteArray := prog_1_method_28_code
def yX1_giveByNeed : MethodName := ⟨RX1, "giveByNeed", "(I)V"⟩
abbrev cX1_giveSun : ByteArray := prog_1_method_29_code
def yX1_giveSun : MethodName := ⟨RX1, "giveSun", "(IID)V"⟩
abbrev cX1_storeOrSell : ByteArray := prog_1_method_30_code
def yX1_storeOrSell : MethodName := ⟨RX1, "storeOrSell", "(I)V"⟩
abbrev cX1_giveFromBattery : ByteArray := prog_1_method_31_code
def yX1_giveFromBattery : MethodName := ⟨RX1, "giveFromBattery", "(I)V"⟩
abbrev cX1_writeBills : ByteArray := prog_1_method_32_code
def yX1_writeBills : MethodName := ⟨RX1, "writeBills", "(I)V"⟩
abbrev cX1_sumOfShares : ByteArray := prog_1_method_33_code
def yX1_sumOfShares : MethodName := ⟨RX1, "sumOfShares", "()I"⟩
abbrev cX1_sumOfNeeds : ByteArray := prog_1_method_34_code
def yX1_sumOfNeeds : MethodName := ⟨RX1, "sumOfNeeds", "()D"⟩
abbrev cX1_behind : ByteArray := prog_1_method_35_code
def yX1_behind : MethodName := ⟨RX1, "behind", "(I)I"⟩
abbrev cX1_lesser : ByteArray := prog_1_method_36_code
def yX1_lesser : MethodName := ⟨RX1, "lesser", "(DD)D"⟩
def RX2 : String := "GridCommonsModel"
def TX2 : u_T := fun k => match k with
  | _ => ("", "", "", false)
def tyX2 : Nat → FieldType := fun k => match k with
  | _ => .int
abbrev wsX20 : List Cond := u_ws RX2 TX2 0
theorem nmX2 : ∀ a, a < 0 → ∀ b, b < 0 → a ≠ b → (TX2 a).2.1 ≠ (TX2 b).2.1 := by decide +kernel
theorem tyX2_ok : ∀ k, k < 0 → parseFieldDescriptor (TX2 k).2.2.1 = some (tyX2 k) := by decide +kernel
def RJ9 : String := "java/lang/Math"
def TJ9 : u_T := fun k => match k with
  | _ => ("", "", "", false)
def tyJ9 : Nat → FieldType := fun k => match k with
  | _ => .int
abbrev wsJ90 : List Cond := u_ws RJ9 TJ9 0
theorem nmJ9 : ∀ a, a < 0 → ∀ b, b < 0 → a ≠ b → (TJ9 a).2.1 ≠ (TJ9 b).2.1 := by decide +kernel
theorem tyJ9_ok : ∀ k, k < 0 → parseFieldDescriptor (TJ9 k).2.2.1 = some (tyJ9 k) := by decide +kernel
abbrev cJ9_floorMod_7cf53 : ByteArray := prog_9_method_50_code
def yJ9_floorMod_7cf53 : MethodName := ⟨RJ9, "floorMod", "(II)I"⟩
def RJ0 : String := "java/lang/String"
def TJ0 : u_T := fun k => match k with
  | _ => ("", "", "", false)
def tyJ0 : Nat → FieldType := fun k => match k with
  | _ => .int
abbrev wsJ00 : List Cond := u_ws RJ0 TJ0 0
theorem nmJ0 : ∀ a, a < 0 → ∀ b, b < 0 → a ≠ b → (TJ0 a).2.1 ≠ (TJ0 b).2.1 := by decide +kernel
theorem tyJ0_ok : ∀ k, k < 0 → parseFieldDescriptor (TJ0 k).2.2.1 = some (tyJ0 k) := by decide +kernel
def RL : String := "GridCommonsLaw"
abbrev cL_cell : ByteArray := method_2_code
def yL_cell : MethodName := ⟨RL, "cell", "([II)I"⟩
abbrev cL_low : ByteArray := method_3_code
def yL_low : MethodName := ⟨RL, "low", "(II)I"⟩
abbrev cL_does : ByteArray := method_4_code
def yL_does : MethodName := ⟨RL, "does", "(LGridCommons;III)I"⟩
abbrev cL_looks : ByteArray := method_5_code
def yL_looks : MethodName := ⟨RL, "looks", "(LGridCommons;IIII)D"⟩
abbrev cL_isNear : ByteArray := method_6_code
def yL_isNear : MethodName := ⟨RL, "isNear", "(DD)Z"⟩
abbrev cL_act : ByteArray := method_7_code
def yL_act : MethodName := ⟨RL, "act", "(LGridCommons;I)D"⟩
abbrev cL_areAlike : ByteArray := method_8_code
def yL_areAlike : MethodName := ⟨RL, "areAlike", "(LGridCommons;LGridCommons;I)Z"⟩
abbrev cL_isClosedSo : ByteArray := method_9_code
def yL_isClosedSo : MethodName := ⟨RL, "isClosedSo", "(LGridCommons;LGridCommons;II)Z"⟩
abbrev cL_isReplacedSo : ByteArray := method_10_code
def yL_isReplacedSo : MethodName := ⟨RL, "isReplacedSo", "(LGridCommons;LGridCommons;III)Z"⟩
abbrev cL_law : ByteArray := code
def yL_law : MethodName := ⟨RL, "law", "([I)Z"⟩
def wsX0_init : List Cond := .code yX0_init cX0_init 1 none :: ([.methodLink RX0 3 objectInit, .instanceMethod objectInit, .code objectInit ⟨#[0xb1]⟩ 1 none, .fieldLink RX0 9 "GridCommons$Ledger" "count" "I", .arrayClass .double, .fieldLink RX0 15 "GridCommons$Ledger" "price" "[D", .fieldLink RX0 19 "GridCommons$Ledger" "sold" "[D", .fieldLink RX0 22 "GridCommons$Ledger" "use" "[D", .arrayClass .boolean, .fieldLink RX0 25 "GridCommons$Ledger" "known" "[Z", .fieldLink RX0 29 "GridCommons$Ledger" "used" "[D", .fieldLink RX0 32 "GridCommons$Ledger" "fromSun" "[D", .fieldLink RX0 35 "GridCommons$Ledger" "fromBattery" "[D", .fieldLink RX0 38 "GridCommons$Ledger" "bought" "[D"] ++ wsX00)
def wsX0_slot : List Cond := .code yX0_slot cX0_slot 2 (some .int) :: ([])
def wsX0_guess : List Cond := .code yX0_guess cX0_guess 7 (some .double) :: ([.fieldLink RX0 9 "GridCommons$Ledger" "count" "I", .fieldLink RX0 25 "GridCommons$Ledger" "known" "[Z", .fieldLink RX0 22 "GridCommons$Ledger" "use" "[D", .constantDouble RX0 45 (4611686018427387904), .methodLink RX0 41 yX0_slot, .static yX0_slot, .initialized RX0, .code yX0_slot cX0_slot 2 (some .int)] ++ wsX00)
def wsX1_init_r1 : List Cond := [Cond.methodLink RX1 1 objectInit, Cond.instanceMethod objectInit, Cond.code objectInit ⟨#[0xb1]⟩ 1 none, Cond.arrayClass .int, Cond.fieldLink RX1 9 "GridCommons" "shares" "[I", Cond.arrayClass .boolean, Cond.fieldLink RX1 13 "GridCommons" "switches" "[Z", Cond.fieldLink RX1 17 "GridCommons" "timesShed" "[I", Cond.arrayClass .double, Cond.fieldLink RX1 20 "GridCommons" "bills" "[D", Cond.fieldLink RX1 24 "GridCommons" "isTold" "[Z", Cond.fieldLink RX1 27 "GridCommons" "toldUse" "[I", Cond.classLink RX1 30 RX0, Cond.instantiable RX0 9, Cond.initialized RX0, Cond.fieldLink RX1 33 "GridCommons" "ledger" "LGridCommons$Ledger;", Cond.constantDouble RX1 37 (4602678819172646912), Cond.fieldLink RX1 39 "GridCommons" "price" "D", Cond.fieldLink RX1 43 "GridCommons" "stored" "D", Cond.fieldLink RX1 46 "GridCommons" "whoseTurn" "I", Cond.fieldLink RX1 50 "GridCommons" "needs" "[D", Cond.fieldLink RX1 53 "GridCommons" "leftOver" "D", Cond.instanceMethod yX0_init, Cond.code yX0_init cX0_init 1 none]
def wsX1_init_r2 : List Cond := [Cond.methodLink RX0 3 objectInit, Cond.fieldLink RX0 9 "GridCommons$Ledger" "count" "I", Cond.fieldLink RX0 15 "GridCommons$Ledger" "price" "[D", Cond.fieldLink RX0 19 "GridCommons$Ledger" "sold" "[D", Cond.fieldLink RX0 22 "GridCommons$Ledger" "use" "[D", Cond.fieldLink RX0 25 "GridCommons$Ledger" "known" "[Z", Cond.fieldLink RX0 29 "GridCommons$Ledger" "used" "[D", Cond.fieldLink RX0 32 "GridCommons$Ledger" "fromSun" "[D", Cond.fieldLink RX0 35 "GridCommons$Ledger" "fromBattery" "[D", Cond.fieldLink RX0 38 "GridCommons$Ledger" "bought" "[D"]
def wsX1_init : List Cond := .code yX1_init cX1_init 2 none :: ((wsX1_init_r1 ++ wsX1_init_r2) ++ wsX10 ++ wsX00)
def wsX1_requireOwner : List Cond := .code yX1_requireOwner cX1_requireOwner 1 none :: ([.classLink RX1 146 "java/lang/IllegalArgumentException", .initialized "java/lang/IllegalArgumentException"] ++ (vx_atS RX1 150 "java/lang/IllegalArgumentException" ["java/lang/RuntimeException", "java/lang/Exception"]).filter goodWord)
def wsX1_requireWithin : List Cond := .code yX1_requireWithin cX1_requireWithin 3 none :: ([.classLink RX1 146 "java/lang/IllegalArgumentException", .initialized "java/lang/IllegalArgumentException"] ++ (vx_atS RX1 150 "java/lang/IllegalArgumentException" ["java/lang/RuntimeException", "java/lang/Exception"]).filter goodWord)
def wsX1_sumOfShares : List Cond := .code yX1_sumOfShares cX1_sumOfShares 3 (some .int) :: ([.fieldLink RX1 9 "GridCommons" "shares" "[I"] ++ wsX10)
def wsX1_setShare : List Cond := .code yX1_setShare cX1_setShare 4 (some .int) :: ([.classLink RX1 68 "java/lang/IllegalStateException", .initialized "java/lang/IllegalStateException", .fieldLink RX1 9 "GridCommons" "shares" "[I", .methodLink RX1 56 yX1_requireOwner, .static yX1_requireOwner, .initialized RX1, .code yX1_requireOwner cX1_requireOwner 1 none, .classLink RX1 146 "java/lang/IllegalArgumentException", .initialized "java/lang/IllegalArgumentException", .methodLink RX1 60 yX1_requireWithin, .static yX1_requireWithin, .code yX1_requireWithin cX1_requireWithin 3 none, .methodLink RX1 64 yX1_sumOfShares, .instanceMethod yX1_sumOfShares, .selects RX1 yX1_sumOfShares yX1_sumOfShares, .code yX1_sumOfShares cX1_sumOfShares 3 (some .int)] ++ wsX10 ++ (vx_atS RX1 72 "java/lang/IllegalStateException" ["java/lang/RuntimeException", "java/lang/Exception"]).filter goodWord ++ (vx_atS RX1 150 "java/lang/IllegalArgumentException" ["java/lang/RuntimeException", "java/lang/Exception"]).filter goodWord)
def wsX1_setSwitch : List Cond := .code yX1_setSwitch cX1_setSwitch 4 (some .boolean) :: ([.fieldLink RX1 13 "GridCommons" "switches" "[Z", .methodLink RX1 56 yX1_requireOwner, .static yX1_requireOwner, .initialized RX1, .code yX1_requireOwner cX1_requireOwner 1 none, .classLink RX1 146 "java/lang/IllegalArgumentException", .initialized "java/lang/IllegalArgumentException"] ++ wsX10 ++ (vx_atS RX1 150 "java/lang/IllegalArgumentException" ["java/lang/RuntimeException", "java/lang/Exception"]).filter goodWord)
def wsX1_setPrice : List Cond := .code yX1_setPrice cX1_setPrice 2 (some .double) :: ([.constantDouble RX1 75 (4616189618054758400), .fieldLink RX1 39 "GridCommons" "price" "D", .methodLink RX1 60 yX1_requireWithin, .static yX1_requireWithin, .initialized RX1, .code yX1_requireWithin cX1_requireWithin 3 none, .classLink RX1 146 "java/lang/IllegalArgumentException", .initialized "java/lang/IllegalArgumentException"] ++ wsX10 ++ (vx_atS RX1 150 "java/lang/IllegalArgumentException" ["java/lang/RuntimeException", "java/lang/Exception"]).filter goodWord)
def wsX1_tell : List Cond := .code yX1_tell cX1_tell 4 (some .boolean) :: ([.fieldLink RX1 24 "GridCommons" "isTold" "[Z", .fieldLink RX1 27 "GridCommons" "toldUse" "[I", .methodLink RX1 56 yX1_requireOwner, .static yX1_requireOwner, .initialized RX1, .code yX1_requireOwner cX1_requireOwner 1 none, .classLink RX1 146 "java/lang/IllegalArgumentException", .initialized "java/lang/IllegalArgumentException", .methodLink RX1 60 yX1_requireWithin, .static yX1_requireWithin, .code yX1_requireWithin cX1_requireWithin 3 none] ++ wsX10 ++ (vx_atS RX1 150 "java/lang/IllegalArgumentException" ["java/lang/RuntimeException", "java/lang/Exception"]).filter goodWord)
def wsX1_writeUses : List Cond := .code yX1_writeUses cX1_writeUses 6 none :: ([.fieldLink RX1 24 "GridCommons" "isTold" "[Z", .fieldLink RX1 27 "GridCommons" "toldUse" "[I", .fieldLink RX1 33 "GridCommons" "ledger" "LGridCommons$Ledger;", .fieldLink RX1 120 "GridCommons$Ledger" "known" "[Z", .fieldLink RX1 125 "GridCommons$Ledger" "use" "[D", .fieldLink RX1 50 "GridCommons" "needs" "[D", .methodLink RX1 116 yX0_slot, .static yX0_slot, .initialized RX0, .code yX0_slot cX0_slot 2 (some .int), .methodLink RX1 158 yX0_guess, .instanceMethod yX0_guess, .selects RX0 yX0_guess yX0_guess, .code yX0_guess cX0_guess 7 (some .double), .fieldLink RX0 9 "GridCommons$Ledger" "count" "I", .fieldLink RX0 25 "GridCommons$Ledger" "known" "[Z", .fieldLink RX0 22 "GridCommons$Ledger" "use" "[D", .constantDouble RX0 45 (4611686018427387904), .methodLink RX0 41 yX0_slot] ++ wsX10 ++ wsX00)
def wsX1_nextToShed : List Cond := .code yX1_nextToShed cX1_nextToShed 4 (some .int) :: ([.fieldLink RX1 13 "GridCommons" "switches" "[Z", .fieldLink RX1 50 "GridCommons" "needs" "[D", .fieldLink RX1 17 "GridCommons" "timesShed" "[I"] ++ wsX10)
def wsX1_sumOfNeeds : List Cond := .code yX1_sumOfNeeds cX1_sumOfNeeds 4 (some .double) :: ([.fieldLink RX1 50 "GridCommons" "needs" "[D"] ++ wsX10)
def wsX1_isOverLine : List Cond := .code yX1_isOverLine cX1_isOverLine 1 (some .boolean) :: ([.constantDouble RX1 169 (4636737291354636288), .methodLink RX1 165 yX1_sumOfNeeds, .instanceMethod yX1_sumOfNeeds, .selects RX1 yX1_sumOfNeeds yX1_sumOfNeeds, .initialized RX1, .code yX1_sumOfNeeds cX1_sumOfNeeds 4 (some .double), .fieldLink RX1 50 "GridCommons" "needs" "[D"] ++ wsX10)
def wsX1_shedUntilCarried : List Cond := .code yX1_shedUntilCarried cX1_shedUntilCarried 3 none :: ([.fieldLink RX1 50 "GridCommons" "needs" "[D", .fieldLink RX1 17 "GridCommons" "timesShed" "[I", .methodLink RX1 162 yX1_nextToShed, .instanceMethod yX1_nextToShed, .selects RX1 yX1_nextToShed yX1_nextToShed, .initialized RX1, .code yX1_nextToShed cX1_nextToShed 4 (some .int), .fieldLink RX1 13 "GridCommons" "switches" "[Z", .methodLink RX1 90 yX1_isOverLine, .instanceMethod yX1_isOverLine, .selects RX1 yX1_isOverLine yX1_isOverLine, .code yX1_isOverLine cX1_isOverLine 1 (some .boolean), .constantDouble RX1 169 (4636737291354636288), .methodLink RX1 165 yX1_sumOfNeeds, .instanceMethod yX1_sumOfNeeds, .selects RX1 yX1_sumOfNeeds yX1_sumOfNeeds, .code yX1_sumOfNeeds cX1_sumOfNeeds 4 (some .double)] ++ wsX10)
def wsX1_writeUsed : List Cond := .code yX1_writeUsed cX1_writeUsed 3 none :: ([.fieldLink RX1 33 "GridCommons" "ledger" "LGridCommons$Ledger;", .fieldLink RX1 128 "GridCommons$Ledger" "used" "[D", .fieldLink RX1 50 "GridCommons" "needs" "[D", .methodLink RX1 116 yX0_slot, .static yX0_slot, .initialized RX0, .code yX0_slot cX0_slot 2 (some .int)] ++ wsX10 ++ wsX00)
def wsX1_lesser : List Cond := .code yX1_lesser cX1_lesser 4 (some .double) :: ([])
def wsX1_giveSun : List Cond := .code yX1_giveSun cX1_giveSun 5 none :: ([.fieldLink RX1 33 "GridCommons" "ledger" "LGridCommons$Ledger;", .fieldLink RX1 134 "GridCommons$Ledger" "fromSun" "[D", .fieldLink RX1 50 "GridCommons" "needs" "[D", .methodLink RX1 116 yX0_slot, .static yX0_slot, .initialized RX0, .code yX0_slot cX0_slot 2 (some .int)] ++ wsX10 ++ wsX00)
def wsX1_giveByShare : List Cond := .code yX1_giveByShare cX1_giveByShare 6 none :: ([.fieldLink RX1 9 "GridCommons" "shares" "[I", .constantDouble RX1 75 (4616189618054758400), .fieldLink RX1 50 "GridCommons" "needs" "[D", .fieldLink RX1 53 "GridCommons" "leftOver" "D", .methodLink RX1 171 yX1_lesser, .static yX1_lesser, .initialized RX1, .code yX1_lesser cX1_lesser 4 (some .double), .methodLink RX1 175 yX1_giveSun, .instanceMethod yX1_giveSun, .selects RX1 yX1_giveSun yX1_giveSun, .code yX1_giveSun cX1_giveSun 5 none, .fieldLink RX1 33 "GridCommons" "ledger" "LGridCommons$Ledger;", .fieldLink RX1 134 "GridCommons$Ledger" "fromSun" "[D", .methodLink RX1 116 yX0_slot, .static yX0_slot, .initialized RX0, .code yX0_slot cX0_slot 2 (some .int)] ++ wsX10 ++ wsX00)
def wsX1_giveByNeed : List Cond := .code yX1_giveByNeed cX1_giveByNeed 5 none :: ([.fieldLink RX1 53 "GridCommons" "leftOver" "D", .fieldLink RX1 50 "GridCommons" "needs" "[D", .methodLink RX1 165 yX1_sumOfNeeds, .instanceMethod yX1_sumOfNeeds, .selects RX1 yX1_sumOfNeeds yX1_sumOfNeeds, .initialized RX1, .code yX1_sumOfNeeds cX1_sumOfNeeds 4 (some .double), .methodLink RX1 175 yX1_giveSun, .instanceMethod yX1_giveSun, .selects RX1 yX1_giveSun yX1_giveSun, .code yX1_giveSun cX1_giveSun 5 none, .fieldLink RX1 33 "GridCommons" "ledger" "LGridCommons$Ledger;", .fieldLink RX1 134 "GridCommons$Ledger" "fromSun" "[D", .methodLink RX1 116 yX0_slot, .static yX0_slot, .initialized RX0, .code yX0_slot cX0_slot 2 (some .int)] ++ wsX10 ++ wsX00)
def wsX1_storeOrSell : List Cond := .code yX1_storeOrSell cX1_storeOrSell 4 none :: ([.constantDouble RX1 179 (4630826316843712512), .fieldLink RX1 43 "GridCommons" "stored" "D", .fieldLink RX1 53 "GridCommons" "leftOver" "D", .fieldLink RX1 33 "GridCommons" "ledger" "LGridCommons$Ledger;", .fieldLink RX1 143 "GridCommons$Ledger" "sold" "[D"] ++ wsX10 ++ wsX00)
def wsJ9_floorMod_7cf53 : List Cond := .code yJ9_floorMod_7cf53 cJ9_floorMod_7cf53 3 (some .int) :: ([])
def wsX1_behind : List Cond := .code yX1_behind cX1_behind 1 (some .int) :: ([.methodLink RX1 187 yJ9_floorMod_7cf53, .static yJ9_floorMod_7cf53, .initialized RJ9, .code yJ9_floorMod_7cf53 cJ9_floorMod_7cf53 3 (some .int)])
def wsX1_giveFromBattery : List Cond := .code yX1_giveFromBattery cX1_giveFromBattery 7 none :: ([.fieldLink RX1 46 "GridCommons" "whoseTurn" "I", .fieldLink RX1 50 "GridCommons" "needs" "[D", .fieldLink RX1 43 "GridCommons" "stored" "D", .fieldLink RX1 33 "GridCommons" "ledger" "LGridCommons$Ledger;", .fieldLink RX1 137 "GridCommons$Ledger" "fromBattery" "[D", .methodLink RX1 171 yX1_lesser, .static yX1_lesser, .initialized RX1, .code yX1_lesser cX1_lesser 4 (some .double), .methodLink RX1 116 yX0_slot, .static yX0_slot, .initialized RX0, .code yX0_slot cX0_slot 2 (some .int), .methodLink RX1 181 yX1_behind, .static yX1_behind, .code yX1_behind cX1_behind 1 (some .int), .methodLink RX1 187 yJ9_floorMod_7cf53, .static yJ9_floorMod_7cf53, .initialized RJ9, .code yJ9_floorMod_7cf53 cJ9_floorMod_7cf53 3 (some .int)] ++ wsX10 ++ wsX00)
def wsX1_writeBills : List Cond := .code yX1_writeBills cX1_writeBills 5 none :: ([.fieldLink RX1 33 "GridCommons" "ledger" "LGridCommons$Ledger;", .fieldLink RX1 143 "GridCommons$Ledger" "sold" "[D", .fieldLink RX1 39 "GridCommons" "price" "D", .constantDouble RX1 185 (4621819117588971520), .fieldLink RX1 140 "GridCommons$Ledger" "bought" "[D", .fieldLink RX1 50 "GridCommons" "needs" "[D", .fieldLink RX1 20 "GridCommons" "bills" "[D", .methodLink RX1 116 yX0_slot, .static yX0_slot, .initialized RX0, .code yX0_slot cX0_slot 2 (some .int)] ++ wsX10 ++ wsX00)
def wsX1_close_r1 : List Cond := [Cond.classLink RX1 68 "java/lang/IllegalStateException", Cond.initialized "java/lang/IllegalStateException", Cond.fieldLink RX1 33 "GridCommons" "ledger" "LGridCommons$Ledger;", Cond.fieldLink RX1 77 "GridCommons$Ledger" "count" "I", Cond.fieldLink RX1 82 "GridCommons$Ledger" "price" "[D", Cond.fieldLink RX1 39 "GridCommons" "price" "D", Cond.fieldLink RX1 53 "GridCommons" "leftOver" "D", Cond.methodLink RX1 60 yX1_requireWithin, Cond.static yX1_requireWithin, Cond.initialized RX1, Cond.code yX1_requireWithin cX1_requireWithin 3 none, Cond.classLink RX1 146 "java/lang/IllegalArgumentException", Cond.initialized "java/lang/IllegalArgumentException", Cond.methodLink RX1 84 yX1_writeUses, Cond.instanceMethod yX1_writeUses, Cond.selects RX1 yX1_writeUses yX1_writeUses, Cond.code yX1_writeUses cX1_writeUses 6 none, Cond.fieldLink RX1 24 "GridCommons" "isTold" "[Z", Cond.fieldLink RX1 27 "GridCommons" "toldUse" "[I", Cond.fieldLink RX1 120 "GridCommons$Ledger" "known" "[Z", Cond.fieldLink RX1 125 "GridCommons$Ledger" "use" "[D", Cond.fieldLink RX1 50 "GridCommons" "needs" "[D", Cond.methodLink RX1 116 yX0_slot, Cond.static yX0_slot]
def wsX1_close_r2 : List Cond := [Cond.initialized RX0, Cond.code yX0_slot cX0_slot 2 (some .int), Cond.methodLink RX1 158 yX0_guess, Cond.instanceMethod yX0_guess, Cond.selects RX0 yX0_guess yX0_guess, Cond.code yX0_guess cX0_guess 7 (some .double), Cond.fieldLink RX0 9 "GridCommons$Ledger" "count" "I", Cond.fieldLink RX0 25 "GridCommons$Ledger" "known" "[Z", Cond.fieldLink RX0 22 "GridCommons$Ledger" "use" "[D", Cond.constantDouble RX0 45 (4611686018427387904), Cond.methodLink RX0 41 yX0_slot, Cond.methodLink RX1 87 yX1_shedUntilCarried, Cond.instanceMethod yX1_shedUntilCarried, Cond.selects RX1 yX1_shedUntilCarried yX1_shedUntilCarried, Cond.code yX1_shedUntilCarried cX1_shedUntilCarried 3 none, Cond.fieldLink RX1 17 "GridCommons" "timesShed" "[I", Cond.methodLink RX1 162 yX1_nextToShed, Cond.instanceMethod yX1_nextToShed, Cond.selects RX1 yX1_nextToShed yX1_nextToShed, Cond.code yX1_nextToShed cX1_nextToShed 4 (some .int), Cond.fieldLink RX1 13 "GridCommons" "switches" "[Z", Cond.methodLink RX1 90 yX1_isOverLine, Cond.instanceMethod yX1_isOverLine, Cond.selects RX1 yX1_isOverLine yX1_isOverLine]
def wsX1_close_r3 : List Cond := [Cond.code yX1_isOverLine cX1_isOverLine 1 (some .boolean), Cond.constantDouble RX1 169 (4636737291354636288), Cond.methodLink RX1 165 yX1_sumOfNeeds, Cond.instanceMethod yX1_sumOfNeeds, Cond.selects RX1 yX1_sumOfNeeds yX1_sumOfNeeds, Cond.code yX1_sumOfNeeds cX1_sumOfNeeds 4 (some .double), Cond.methodLink RX1 94 yX1_writeUsed, Cond.instanceMethod yX1_writeUsed, Cond.selects RX1 yX1_writeUsed yX1_writeUsed, Cond.code yX1_writeUsed cX1_writeUsed 3 none, Cond.fieldLink RX1 128 "GridCommons$Ledger" "used" "[D", Cond.methodLink RX1 97 yX1_giveByShare, Cond.instanceMethod yX1_giveByShare, Cond.selects RX1 yX1_giveByShare yX1_giveByShare, Cond.code yX1_giveByShare cX1_giveByShare 6 none, Cond.fieldLink RX1 9 "GridCommons" "shares" "[I", Cond.constantDouble RX1 75 (4616189618054758400), Cond.methodLink RX1 171 yX1_lesser, Cond.static yX1_lesser, Cond.code yX1_lesser cX1_lesser 4 (some .double), Cond.methodLink RX1 175 yX1_giveSun, Cond.instanceMethod yX1_giveSun, Cond.selects RX1 yX1_giveSun yX1_giveSun, Cond.code yX1_giveSun cX1_giveSun 5 none]
def wsX1_close_r4 : List Cond := [Cond.fieldLink RX1 134 "GridCommons$Ledger" "fromSun" "[D", Cond.methodLink RX1 101 yX1_giveByNeed, Cond.instanceMethod yX1_giveByNeed, Cond.selects RX1 yX1_giveByNeed yX1_giveByNeed, Cond.code yX1_giveByNeed cX1_giveByNeed 5 none, Cond.methodLink RX1 104 yX1_storeOrSell, Cond.instanceMethod yX1_storeOrSell, Cond.selects RX1 yX1_storeOrSell yX1_storeOrSell, Cond.code yX1_storeOrSell cX1_storeOrSell 4 none, Cond.constantDouble RX1 179 (4630826316843712512), Cond.fieldLink RX1 43 "GridCommons" "stored" "D", Cond.fieldLink RX1 143 "GridCommons$Ledger" "sold" "[D", Cond.methodLink RX1 107 yX1_giveFromBattery, Cond.instanceMethod yX1_giveFromBattery, Cond.selects RX1 yX1_giveFromBattery yX1_giveFromBattery, Cond.code yX1_giveFromBattery cX1_giveFromBattery 7 none, Cond.fieldLink RX1 46 "GridCommons" "whoseTurn" "I", Cond.fieldLink RX1 137 "GridCommons$Ledger" "fromBattery" "[D", Cond.methodLink RX1 181 yX1_behind, Cond.static yX1_behind, Cond.code yX1_behind cX1_behind 1 (some .int), Cond.methodLink RX1 187 yJ9_floorMod_7cf53, Cond.static yJ9_floorMod_7cf53, Cond.initialized RJ9]
def wsX1_close_r5 : List Cond := [Cond.code yJ9_floorMod_7cf53 cJ9_floorMod_7cf53 3 (some .int), Cond.methodLink RX1 110 yX1_writeBills, Cond.instanceMethod yX1_writeBills, Cond.selects RX1 yX1_writeBills yX1_writeBills, Cond.code yX1_writeBills cX1_writeBills 5 none, Cond.constantDouble RX1 185 (4621819117588971520), Cond.fieldLink RX1 140 "GridCommons$Ledger" "bought" "[D", Cond.fieldLink RX1 20 "GridCommons" "bills" "[D"]
def wsX1_close : List Cond := .code yX1_close cX1_close 4 (some .boolean) :: ((wsX1_close_r1 ++ (wsX1_close_r2 ++ (wsX1_close_r3 ++ (wsX1_close_r4 ++ wsX1_close_r5)))) ++ wsX10 ++ wsX00 ++ (vx_atS RX1 72 "java/lang/IllegalStateException" ["java/lang/RuntimeException", "java/lang/Exception"]).filter goodWord ++ (vx_atS RX1 150 "java/lang/IllegalArgumentException" ["java/lang/RuntimeException", "java/lang/Exception"]).filter goodWord)
def wsX1_closed : List Cond := .code yX1_closed cX1_closed 1 (some .int) :: ([.fieldLink RX1 33 "GridCommons" "ledger" "LGridCommons$Ledger;", .fieldLink RX1 77 "GridCommons$Ledger" "count" "I"] ++ wsX10 ++ wsX00)
def wsX1_requireQuarter : List Cond := .code yX1_requireQuarter cX1_requireQuarter 2 none :: ([.classLink RX1 153 "java/lang/IndexOutOfBoundsException", .initialized "java/lang/IndexOutOfBoundsException", .fieldLink RX1 33 "GridCommons" "ledger" "LGridCommons$Ledger;", .fieldLink RX1 77 "GridCommons$Ledger" "count" "I"] ++ wsX10 ++ wsX00 ++ (vx_atS RX1 157 "java/lang/IndexOutOfBoundsException" ["java/lang/RuntimeException", "java/lang/Exception"]).filter goodWord)
def wsX1_replace_r1 : List Cond := [Cond.classLink RX1 68 "java/lang/IllegalStateException", Cond.initialized "java/lang/IllegalStateException", Cond.fieldLink RX1 33 "GridCommons" "ledger" "LGridCommons$Ledger;", Cond.fieldLink RX1 120 "GridCommons$Ledger" "known" "[Z", Cond.fieldLink RX1 125 "GridCommons$Ledger" "use" "[D", Cond.fieldLink RX1 128 "GridCommons$Ledger" "used" "[D", Cond.fieldLink RX1 82 "GridCommons$Ledger" "price" "[D", Cond.fieldLink RX1 20 "GridCommons" "bills" "[D", Cond.methodLink RX1 56 yX1_requireOwner, Cond.static yX1_requireOwner, Cond.initialized RX1, Cond.code yX1_requireOwner cX1_requireOwner 1 none, Cond.classLink RX1 146 "java/lang/IllegalArgumentException", Cond.initialized "java/lang/IllegalArgumentException", Cond.methodLink RX1 60 yX1_requireWithin, Cond.static yX1_requireWithin, Cond.code yX1_requireWithin cX1_requireWithin 3 none, Cond.methodLink RX1 113 yX1_requireQuarter, Cond.instanceMethod yX1_requireQuarter, Cond.selects RX1 yX1_requireQuarter yX1_requireQuarter, Cond.code yX1_requireQuarter cX1_requireQuarter 2 none, Cond.classLink RX1 153 "java/lang/IndexOutOfBoundsException", Cond.initialized "java/lang/IndexOutOfBoundsException", Cond.fieldLink RX1 77 "GridCommons$Ledger" "count" "I"]
def wsX1_replace_r2 : List Cond := [Cond.methodLink RX1 116 yX0_slot, Cond.static yX0_slot, Cond.initialized RX0, Cond.code yX0_slot cX0_slot 2 (some .int)]
def wsX1_replace : List Cond := .code yX1_replace cX1_replace 7 (some .double) :: ((wsX1_replace_r1 ++ wsX1_replace_r2) ++ wsX10 ++ wsX00 ++ (vx_atS RX1 72 "java/lang/IllegalStateException" ["java/lang/RuntimeException", "java/lang/Exception"]).filter goodWord ++ (vx_atS RX1 150 "java/lang/IllegalArgumentException" ["java/lang/RuntimeException", "java/lang/Exception"]).filter goodWord ++ (vx_atS RX1 157 "java/lang/IndexOutOfBoundsException" ["java/lang/RuntimeException", "java/lang/Exception"]).filter goodWord)
def wsX1_closedSlot : List Cond := .code yX1_closedSlot cX1_closedSlot 3 (some .int) :: ([.methodLink RX1 56 yX1_requireOwner, .static yX1_requireOwner, .initialized RX1, .code yX1_requireOwner cX1_requireOwner 1 none, .classLink RX1 146 "java/lang/IllegalArgumentException", .initialized "java/lang/IllegalArgumentException", .methodLink RX1 113 yX1_requireQuarter, .instanceMethod yX1_requireQuarter, .selects RX1 yX1_requireQuarter yX1_requireQuarter, .code yX1_requireQuarter cX1_requireQuarter 2 none, .classLink RX1 153 "java/lang/IndexOutOfBoundsException", .initialized "java/lang/IndexOutOfBoundsException", .fieldLink RX1 33 "GridCommons" "ledger" "LGridCommons$Ledger;", .fieldLink RX1 77 "GridCommons$Ledger" "count" "I", .methodLink RX1 116 yX0_slot, .static yX0_slot, .initialized RX0, .code yX0_slot cX0_slot 2 (some .int)] ++ wsX10 ++ wsX00 ++ (vx_atS RX1 150 "java/lang/IllegalArgumentException" ["java/lang/RuntimeException", "java/lang/Exception"]).filter goodWord ++ (vx_atS RX1 157 "java/lang/IndexOutOfBoundsException" ["java/lang/RuntimeException", "java/lang/Exception"]).filter goodWord)
def wsX1_use : List Cond := .code yX1_use cX1_use 3 (some .double) :: ([.fieldLink RX1 33 "GridCommons" "ledger" "LGridCommons$Ledger;", .fieldLink RX1 125 "GridCommons$Ledger" "use" "[D", .methodLink RX1 131 yX1_closedSlot, .instanceMethod yX1_closedSlot, .selects RX1 yX1_closedSlot yX1_closedSlot, .initialized RX1, .code yX1_closedSlot cX1_closedSlot 3 (some .int), .methodLink RX1 56 yX1_requireOwner, .static yX1_requireOwner, .code yX1_requireOwner cX1_requireOwner 1 none, .classLink RX1 146 "java/lang/IllegalArgumentException", .initialized "java/lang/IllegalArgumentException", .methodLink RX1 113 yX1_requireQuarter, .instanceMethod yX1_requireQuarter, .selects RX1 yX1_requireQuarter yX1_requireQuarter, .code yX1_requireQuarter cX1_requireQuarter 2 none, .classLink RX1 153 "java/lang/IndexOutOfBoundsException", .initialized "java/lang/IndexOutOfBoundsException", .fieldLink RX1 77 "GridCommons$Ledger" "count" "I", .methodLink RX1 116 yX0_slot, .static yX0_slot, .initialized RX0, .code yX0_slot cX0_slot 2 (some .int)] ++ wsX10 ++ wsX00 ++ (vx_atS RX1 150 "java/lang/IllegalArgumentException" ["java/lang/RuntimeException", "java/lang/Exception"]).filter goodWord ++ (vx_atS RX1 157 "java/lang/IndexOutOfBoundsException" ["java/lang/RuntimeException", "java/lang/Exception"]).filter goodWord)
def wsX1_fromSun : List Cond := .code yX1_fromSun cX1_fromSun 3 (some .double) :: ([.fieldLink RX1 33 "GridCommons" "ledger" "LGridCommons$Ledger;", .fieldLink RX1 134 "GridCommons$Ledger" "fromSun" "[D", .methodLink RX1 131 yX1_closedSlot, .instanceMethod yX1_closedSlot, .selects RX1 yX1_closedSlot yX1_closedSlot, .initialized RX1, .code yX1_closedSlot cX1_closedSlot 3 (some .int), .methodLink RX1 56 yX1_requireOwner, .static yX1_requireOwner, .code yX1_requireOwner cX1_requireOwner 1 none, .classLink RX1 146 "java/lang/IllegalArgumentException", .initialized "java/lang/IllegalArgumentException", .methodLink RX1 113 yX1_requireQuarter, .instanceMethod yX1_requireQuarter, .selects RX1 yX1_requireQuarter yX1_requireQuarter, .code yX1_requireQuarter cX1_requireQuarter 2 none, .classLink RX1 153 "java/lang/IndexOutOfBoundsException", .initialized "java/lang/IndexOutOfBoundsException", .fieldLink RX1 77 "GridCommons$Ledger" "count" "I", .methodLink RX1 116 yX0_slot, .static yX0_slot, .initialized RX0, .code yX0_slot cX0_slot 2 (some .int)] ++ wsX10 ++ wsX00 ++ (vx_atS RX1 150 "java/lang/IllegalArgumentException" ["java/lang/RuntimeException", "java/lang/Exception"]).filter goodWord ++ (vx_atS RX1 157 "java/lang/IndexOutOfBoundsException" ["java/lang/RuntimeException", "java/lang/Exception"]).filter goodWord)
def wsX1_fromBattery : List Cond := .code yX1_fromBattery cX1_fromBattery 3 (some .double) :: ([.fieldLink RX1 33 "GridCommons" "ledger" "LGridCommons$Ledger;", .fieldLink RX1 137 "GridCommons$Ledger" "fromBattery" "[D", .methodLink RX1 131 yX1_closedSlot, .instanceMethod yX1_closedSlot, .selects RX1 yX1_closedSlot yX1_closedSlot, .initialized RX1, .code yX1_closedSlot cX1_closedSlot 3 (some .int), .methodLink RX1 56 yX1_requireOwner, .static yX1_requireOwner, .code yX1_requireOwner cX1_requireOwner 1 none, .classLink RX1 146 "java/lang/IllegalArgumentException", .initialized "java/lang/IllegalArgumentException", .methodLink RX1 113 yX1_requireQuarter, .instanceMethod yX1_requireQuarter, .selects RX1 yX1_requireQuarter yX1_requireQuarter, .code yX1_requireQuarter cX1_requireQuarter 2 none, .classLink RX1 153 "java/lang/IndexOutOfBoundsException", .initialized "java/lang/IndexOutOfBoundsException", .fieldLink RX1 77 "GridCommons$Ledger" "count" "I", .methodLink RX1 116 yX0_slot, .static yX0_slot, .initialized RX0, .code yX0_slot cX0_slot 2 (some .int)] ++ wsX10 ++ wsX00 ++ (vx_atS RX1 150 "java/lang/IllegalArgumentException" ["java/lang/RuntimeException", "java/lang/Exception"]).filter goodWord ++ (vx_atS RX1 157 "java/lang/IndexOutOfBoundsException" ["java/lang/RuntimeException", "java/lang/Exception"]).filter goodWord)
def wsX1_bought : List Cond := .code yX1_bought cX1_bought 3 (some .double) :: ([.fieldLink RX1 33 "GridCommons" "ledger" "LGridCommons$Ledger;", .fieldLink RX1 140 "GridCommons$Ledger" "bought" "[D", .methodLink RX1 131 yX1_closedSlot, .instanceMethod yX1_closedSlot, .selects RX1 yX1_closedSlot yX1_closedSlot, .initialized RX1, .code yX1_closedSlot cX1_closedSlot 3 (some .int), .methodLink RX1 56 yX1_requireOwner, .static yX1_requireOwner, .code yX1_requireOwner cX1_requireOwner 1 none, .classLink RX1 146 "java/lang/IllegalArgumentException", .initialized "java/lang/IllegalArgumentException", .methodLink RX1 113 yX1_requireQuarter, .instanceMethod yX1_requireQuarter, .selects RX1 yX1_requireQuarter yX1_requireQuarter, .code yX1_requireQuarter cX1_requireQuarter 2 none, .classLink RX1 153 "java/lang/IndexOutOfBoundsException", .initialized "java/lang/IndexOutOfBoundsException", .fieldLink RX1 77 "GridCommons$Ledger" "count" "I", .methodLink RX1 116 yX0_slot, .static yX0_slot, .initialized RX0, .code yX0_slot cX0_slot 2 (some .int)] ++ wsX10 ++ wsX00 ++ (vx_atS RX1 150 "java/lang/IllegalArgumentException" ["java/lang/RuntimeException", "java/lang/Exception"]).filter goodWord ++ (vx_atS RX1 157 "java/lang/IndexOutOfBoundsException" ["java/lang/RuntimeException", "java/lang/Exception"]).filter goodWord)
def wsX1_sold : List Cond := .code yX1_sold cX1_sold 2 (some .double) :: ([.fieldLink RX1 33 "GridCommons" "ledger" "LGridCommons$Ledger;", .fieldLink RX1 143 "GridCommons$Ledger" "sold" "[D", .methodLink RX1 113 yX1_requireQuarter, .instanceMethod yX1_requireQuarter, .selects RX1 yX1_requireQuarter yX1_requireQuarter, .initialized RX1, .code yX1_requireQuarter cX1_requireQuarter 2 none, .classLink RX1 153 "java/lang/IndexOutOfBoundsException", .initialized "java/lang/IndexOutOfBoundsException", .fieldLink RX1 77 "GridCommons$Ledger" "count" "I"] ++ wsX10 ++ wsX00 ++ (vx_atS RX1 157 "java/lang/IndexOutOfBoundsException" ["java/lang/RuntimeException", "java/lang/Exception"]).filter goodWord)
def wsX1_battery : List Cond := .code yX1_battery cX1_battery 1 (some .double) :: ([.fieldLink RX1 43 "GridCommons" "stored" "D"] ++ wsX10)
def wsX1_turn : List Cond := .code yX1_turn cX1_turn 1 (some .int) :: ([.fieldLink RX1 46 "GridCommons" "whoseTurn" "I"] ++ wsX10)
def wsX1_sheds : List Cond := .code yX1_sheds cX1_sheds 2 (some .int) :: ([.fieldLink RX1 17 "GridCommons" "timesShed" "[I", .methodLink RX1 56 yX1_requireOwner, .static yX1_requireOwner, .initialized RX1, .code yX1_requireOwner cX1_requireOwner 1 none, .classLink RX1 146 "java/lang/IllegalArgumentException", .initialized "java/lang/IllegalArgumentException"] ++ wsX10 ++ (vx_atS RX1 150 "java/lang/IllegalArgumentException" ["java/lang/RuntimeException", "java/lang/Exception"]).filter goodWord)
def wsX1_bill : List Cond := .code yX1_bill cX1_bill 2 (some .double) :: ([.fieldLink RX1 20 "GridCommons" "bills" "[D", .methodLink RX1 56 yX1_requireOwner, .static yX1_requireOwner, .initialized RX1, .code yX1_requireOwner cX1_requireOwner 1 none, .classLink RX1 146 "java/lang/IllegalArgumentException", .initialized "java/lang/IllegalArgumentException"] ++ wsX10 ++ (vx_atS RX1 150 "java/lang/IllegalArgumentException" ["java/lang/RuntimeException", "java/lang/Exception"]).filter goodWord)
def wsL_cell : List Cond := .code yL_cell cL_cell 2 (some .int) :: ([])
def wsL_low : List Cond := .code yL_low cL_low 2 (some .int) :: ([.constant RL 7 (2147483647)])
def wsL_does_r1 : List Cond := [Cond.classLink RL 30 "java/lang/IllegalArgumentException", Cond.classLink RL 33 "java/lang/IllegalStateException", Cond.constant RL 32 (-99999), Cond.methodLink RL 8 yX1_setShare, Cond.instanceMethod yX1_setShare, Cond.selects RX1 yX1_setShare yX1_setShare, Cond.initialized RX1, Cond.code yX1_setShare cX1_setShare 4 (some .int), Cond.classLink RX1 68 "java/lang/IllegalStateException", Cond.initialized "java/lang/IllegalStateException", Cond.fieldLink RX1 9 "GridCommons" "shares" "[I", Cond.methodLink RX1 56 yX1_requireOwner, Cond.static yX1_requireOwner, Cond.code yX1_requireOwner cX1_requireOwner 1 none, Cond.classLink RX1 146 "java/lang/IllegalArgumentException", Cond.initialized "java/lang/IllegalArgumentException", Cond.methodLink RX1 60 yX1_requireWithin, Cond.static yX1_requireWithin, Cond.code yX1_requireWithin cX1_requireWithin 3 none, Cond.methodLink RX1 64 yX1_sumOfShares, Cond.instanceMethod yX1_sumOfShares, Cond.selects RX1 yX1_sumOfShares yX1_sumOfShares, Cond.code yX1_sumOfShares cX1_sumOfShares 3 (some .int), Cond.methodLink RL 14 yX1_setSwitch]
def wsL_does_r2 : List Cond := [Cond.instanceMethod yX1_setSwitch, Cond.selects RX1 yX1_setSwitch yX1_setSwitch, Cond.code yX1_setSwitch cX1_setSwitch 4 (some .boolean), Cond.fieldLink RX1 13 "GridCommons" "switches" "[Z", Cond.methodLink RL 18 yX1_tell, Cond.instanceMethod yX1_tell, Cond.selects RX1 yX1_tell yX1_tell, Cond.code yX1_tell cX1_tell 4 (some .boolean), Cond.fieldLink RX1 24 "GridCommons" "isTold" "[Z", Cond.fieldLink RX1 27 "GridCommons" "toldUse" "[I", Cond.methodLink RL 22 yX1_close, Cond.instanceMethod yX1_close, Cond.selects RX1 yX1_close yX1_close, Cond.code yX1_close cX1_close 4 (some .boolean), Cond.fieldLink RX1 33 "GridCommons" "ledger" "LGridCommons$Ledger;", Cond.fieldLink RX1 77 "GridCommons$Ledger" "count" "I", Cond.fieldLink RX1 82 "GridCommons$Ledger" "price" "[D", Cond.fieldLink RX1 39 "GridCommons" "price" "D", Cond.fieldLink RX1 53 "GridCommons" "leftOver" "D", Cond.methodLink RX1 84 yX1_writeUses, Cond.instanceMethod yX1_writeUses, Cond.selects RX1 yX1_writeUses yX1_writeUses, Cond.code yX1_writeUses cX1_writeUses 6 none, Cond.fieldLink RX1 120 "GridCommons$Ledger" "known" "[Z"]
def wsL_does_r3 : List Cond := [Cond.fieldLink RX1 125 "GridCommons$Ledger" "use" "[D", Cond.fieldLink RX1 50 "GridCommons" "needs" "[D", Cond.methodLink RX1 116 yX0_slot, Cond.static yX0_slot, Cond.initialized RX0, Cond.code yX0_slot cX0_slot 2 (some .int), Cond.methodLink RX1 158 yX0_guess, Cond.instanceMethod yX0_guess, Cond.selects RX0 yX0_guess yX0_guess, Cond.code yX0_guess cX0_guess 7 (some .double), Cond.fieldLink RX0 9 "GridCommons$Ledger" "count" "I", Cond.fieldLink RX0 25 "GridCommons$Ledger" "known" "[Z", Cond.fieldLink RX0 22 "GridCommons$Ledger" "use" "[D", Cond.constantDouble RX0 45 (4611686018427387904), Cond.methodLink RX0 41 yX0_slot, Cond.methodLink RX1 87 yX1_shedUntilCarried, Cond.instanceMethod yX1_shedUntilCarried, Cond.selects RX1 yX1_shedUntilCarried yX1_shedUntilCarried, Cond.code yX1_shedUntilCarried cX1_shedUntilCarried 3 none, Cond.fieldLink RX1 17 "GridCommons" "timesShed" "[I", Cond.methodLink RX1 162 yX1_nextToShed, Cond.instanceMethod yX1_nextToShed, Cond.selects RX1 yX1_nextToShed yX1_nextToShed, Cond.code yX1_nextToShed cX1_nextToShed 4 (some .int)]
def wsL_does_r4 : List Cond := [Cond.methodLink RX1 90 yX1_isOverLine, Cond.instanceMethod yX1_isOverLine, Cond.selects RX1 yX1_isOverLine yX1_isOverLine, Cond.code yX1_isOverLine cX1_isOverLine 1 (some .boolean), Cond.constantDouble RX1 169 (4636737291354636288), Cond.methodLink RX1 165 yX1_sumOfNeeds, Cond.instanceMethod yX1_sumOfNeeds, Cond.selects RX1 yX1_sumOfNeeds yX1_sumOfNeeds, Cond.code yX1_sumOfNeeds cX1_sumOfNeeds 4 (some .double), Cond.methodLink RX1 94 yX1_writeUsed, Cond.instanceMethod yX1_writeUsed, Cond.selects RX1 yX1_writeUsed yX1_writeUsed, Cond.code yX1_writeUsed cX1_writeUsed 3 none, Cond.fieldLink RX1 128 "GridCommons$Ledger" "used" "[D", Cond.methodLink RX1 97 yX1_giveByShare, Cond.instanceMethod yX1_giveByShare, Cond.selects RX1 yX1_giveByShare yX1_giveByShare, Cond.code yX1_giveByShare cX1_giveByShare 6 none, Cond.constantDouble RX1 75 (4616189618054758400), Cond.methodLink RX1 171 yX1_lesser, Cond.static yX1_lesser, Cond.code yX1_lesser cX1_lesser 4 (some .double), Cond.methodLink RX1 175 yX1_giveSun, Cond.instanceMethod yX1_giveSun]
def wsL_does_r5 : List Cond := [Cond.selects RX1 yX1_giveSun yX1_giveSun, Cond.code yX1_giveSun cX1_giveSun 5 none, Cond.fieldLink RX1 134 "GridCommons$Ledger" "fromSun" "[D", Cond.methodLink RX1 101 yX1_giveByNeed, Cond.instanceMethod yX1_giveByNeed, Cond.selects RX1 yX1_giveByNeed yX1_giveByNeed, Cond.code yX1_giveByNeed cX1_giveByNeed 5 none, Cond.methodLink RX1 104 yX1_storeOrSell, Cond.instanceMethod yX1_storeOrSell, Cond.selects RX1 yX1_storeOrSell yX1_storeOrSell, Cond.code yX1_storeOrSell cX1_storeOrSell 4 none, Cond.constantDouble RX1 179 (4630826316843712512), Cond.fieldLink RX1 43 "GridCommons" "stored" "D", Cond.fieldLink RX1 143 "GridCommons$Ledger" "sold" "[D", Cond.methodLink RX1 107 yX1_giveFromBattery, Cond.instanceMethod yX1_giveFromBattery, Cond.selects RX1 yX1_giveFromBattery yX1_giveFromBattery, Cond.code yX1_giveFromBattery cX1_giveFromBattery 7 none, Cond.fieldLink RX1 46 "GridCommons" "whoseTurn" "I", Cond.fieldLink RX1 137 "GridCommons$Ledger" "fromBattery" "[D", Cond.methodLink RX1 181 yX1_behind, Cond.static yX1_behind, Cond.code yX1_behind cX1_behind 1 (some .int), Cond.methodLink RX1 187 yJ9_floorMod_7cf53]
def wsL_does_r6 : List Cond := [Cond.static yJ9_floorMod_7cf53, Cond.initialized RJ9, Cond.code yJ9_floorMod_7cf53 cJ9_floorMod_7cf53 3 (some .int), Cond.methodLink RX1 110 yX1_writeBills, Cond.instanceMethod yX1_writeBills, Cond.selects RX1 yX1_writeBills yX1_writeBills, Cond.code yX1_writeBills cX1_writeBills 5 none, Cond.constantDouble RX1 185 (4621819117588971520), Cond.fieldLink RX1 140 "GridCommons$Ledger" "bought" "[D", Cond.fieldLink RX1 20 "GridCommons" "bills" "[D", Cond.methodLink RL 26 yX1_sheds, Cond.instanceMethod yX1_sheds, Cond.selects RX1 yX1_sheds yX1_sheds, Cond.code yX1_sheds cX1_sheds 2 (some .int)]
def wsL_does : List Cond := .codeWith yL_does cL_does 5 (some .int) [(0, 92, 93, 30), (0, 92, 98, 33)] :: ((wsL_does_r1 ++ (wsL_does_r2 ++ (wsL_does_r3 ++ (wsL_does_r4 ++ (wsL_does_r5 ++ wsL_does_r6))))) ++ wsX10 ++ wsX00 ++ (vx_atS RX1 72 "java/lang/IllegalStateException" ["java/lang/RuntimeException", "java/lang/Exception"]).filter goodWord ++ (vx_atS RX1 150 "java/lang/IllegalArgumentException" ["java/lang/RuntimeException", "java/lang/Exception"]).filter goodWord)
def wsL_looks_r1 : List Cond := [Cond.classLink RL 59 "java/lang/IndexOutOfBoundsException", Cond.classLink RL 30 "java/lang/IllegalArgumentException", Cond.classLink RL 33 "java/lang/IllegalStateException", Cond.constantDouble RL 61 (13904980329019473920), Cond.methodLink RL 35 yX1_setPrice, Cond.instanceMethod yX1_setPrice, Cond.selects RX1 yX1_setPrice yX1_setPrice, Cond.initialized RX1, Cond.code yX1_setPrice cX1_setPrice 2 (some .double), Cond.constantDouble RX1 75 (4616189618054758400), Cond.fieldLink RX1 39 "GridCommons" "price" "D", Cond.methodLink RX1 60 yX1_requireWithin, Cond.static yX1_requireWithin, Cond.code yX1_requireWithin cX1_requireWithin 3 none, Cond.classLink RX1 146 "java/lang/IllegalArgumentException", Cond.initialized "java/lang/IllegalArgumentException", Cond.methodLink RL 39 yX1_replace, Cond.instanceMethod yX1_replace, Cond.selects RX1 yX1_replace yX1_replace, Cond.code yX1_replace cX1_replace 7 (some .double), Cond.classLink RX1 68 "java/lang/IllegalStateException", Cond.initialized "java/lang/IllegalStateException", Cond.fieldLink RX1 33 "GridCommons" "ledger" "LGridCommons$Ledger;", Cond.fieldLink RX1 120 "GridCommons$Ledger" "known" "[Z"]
def wsL_looks_r2 : List Cond := [Cond.fieldLink RX1 125 "GridCommons$Ledger" "use" "[D", Cond.fieldLink RX1 128 "GridCommons$Ledger" "used" "[D", Cond.fieldLink RX1 82 "GridCommons$Ledger" "price" "[D", Cond.fieldLink RX1 20 "GridCommons" "bills" "[D", Cond.methodLink RX1 56 yX1_requireOwner, Cond.static yX1_requireOwner, Cond.code yX1_requireOwner cX1_requireOwner 1 none, Cond.methodLink RX1 113 yX1_requireQuarter, Cond.instanceMethod yX1_requireQuarter, Cond.selects RX1 yX1_requireQuarter yX1_requireQuarter, Cond.code yX1_requireQuarter cX1_requireQuarter 2 none, Cond.classLink RX1 153 "java/lang/IndexOutOfBoundsException", Cond.initialized "java/lang/IndexOutOfBoundsException", Cond.fieldLink RX1 77 "GridCommons$Ledger" "count" "I", Cond.methodLink RX1 116 yX0_slot, Cond.static yX0_slot, Cond.initialized RX0, Cond.code yX0_slot cX0_slot 2 (some .int), Cond.methodLink RL 43 yX1_use, Cond.instanceMethod yX1_use, Cond.selects RX1 yX1_use yX1_use, Cond.code yX1_use cX1_use 3 (some .double), Cond.methodLink RX1 131 yX1_closedSlot, Cond.instanceMethod yX1_closedSlot]
def wsL_looks_r3 : List Cond := [Cond.selects RX1 yX1_closedSlot yX1_closedSlot, Cond.code yX1_closedSlot cX1_closedSlot 3 (some .int), Cond.methodLink RL 47 yX1_fromSun, Cond.instanceMethod yX1_fromSun, Cond.selects RX1 yX1_fromSun yX1_fromSun, Cond.code yX1_fromSun cX1_fromSun 3 (some .double), Cond.fieldLink RX1 134 "GridCommons$Ledger" "fromSun" "[D", Cond.methodLink RL 50 yX1_fromBattery, Cond.instanceMethod yX1_fromBattery, Cond.selects RX1 yX1_fromBattery yX1_fromBattery, Cond.code yX1_fromBattery cX1_fromBattery 3 (some .double), Cond.fieldLink RX1 137 "GridCommons$Ledger" "fromBattery" "[D", Cond.methodLink RL 53 yX1_bought, Cond.instanceMethod yX1_bought, Cond.selects RX1 yX1_bought yX1_bought, Cond.code yX1_bought cX1_bought 3 (some .double), Cond.fieldLink RX1 140 "GridCommons$Ledger" "bought" "[D", Cond.methodLink RL 56 yX1_sold, Cond.instanceMethod yX1_sold, Cond.selects RX1 yX1_sold yX1_sold, Cond.code yX1_sold cX1_sold 2 (some .double), Cond.fieldLink RX1 143 "GridCommons$Ledger" "sold" "[D"]
def wsL_looks : List Cond := .codeWith yL_looks cL_looks 6 (some .double) [(0, 89, 90, 59), (0, 89, 96, 30), (0, 89, 102, 33)] :: ((wsL_looks_r1 ++ (wsL_looks_r2 ++ wsL_looks_r3)) ++ wsX10 ++ wsX00 ++ (vx_atS RX1 150 "java/lang/IllegalArgumentException" ["java/lang/RuntimeException", "java/lang/Exception"]).filter goodWord ++ (vx_atS RX1 72 "java/lang/IllegalStateException" ["java/lang/RuntimeException", "java/lang/Exception"]).filter goodWord ++ (vx_atS RX1 157 "java/lang/IndexOutOfBoundsException" ["java/lang/RuntimeException", "java/lang/Exception"]).filter goodWord)
def wsL_isNear : List Cond := .code yL_isNear cL_isNear 4 (some .boolean) :: ([.constantDouble RL 63 (4517329193108106637)])
def wsL_act_r1 : List Cond := [Cond.methodLink RL 65 yL_low, Cond.static yL_low, Cond.initialized RL, Cond.code yL_low cL_low 2 (some .int), Cond.constant RL 7 (2147483647), Cond.methodLink RL 70 yL_does, Cond.static yL_does, Cond.codeWith yL_does cL_does 5 (some .int) [(0, 92, 93, 30), (0, 92, 98, 33)], Cond.classLink RL 30 "java/lang/IllegalArgumentException", Cond.classLink RL 33 "java/lang/IllegalStateException", Cond.constant RL 32 (-99999), Cond.methodLink RL 8 yX1_setShare, Cond.instanceMethod yX1_setShare, Cond.selects RX1 yX1_setShare yX1_setShare, Cond.initialized RX1, Cond.code yX1_setShare cX1_setShare 4 (some .int), Cond.classLink RX1 68 "java/lang/IllegalStateException", Cond.initialized "java/lang/IllegalStateException", Cond.fieldLink RX1 9 "GridCommons" "shares" "[I", Cond.methodLink RX1 56 yX1_requireOwner, Cond.static yX1_requireOwner, Cond.code yX1_requireOwner cX1_requireOwner 1 none, Cond.classLink RX1 146 "java/lang/IllegalArgumentException", Cond.initialized "java/lang/IllegalArgumentException"]
def wsL_act_r2 : List Cond := [Cond.methodLink RX1 60 yX1_requireWithin, Cond.static yX1_requireWithin, Cond.code yX1_requireWithin cX1_requireWithin 3 none, Cond.methodLink RX1 64 yX1_sumOfShares, Cond.instanceMethod yX1_sumOfShares, Cond.selects RX1 yX1_sumOfShares yX1_sumOfShares, Cond.code yX1_sumOfShares cX1_sumOfShares 3 (some .int), Cond.methodLink RL 14 yX1_setSwitch, Cond.instanceMethod yX1_setSwitch, Cond.selects RX1 yX1_setSwitch yX1_setSwitch, Cond.code yX1_setSwitch cX1_setSwitch 4 (some .boolean), Cond.fieldLink RX1 13 "GridCommons" "switches" "[Z", Cond.methodLink RL 18 yX1_tell, Cond.instanceMethod yX1_tell, Cond.selects RX1 yX1_tell yX1_tell, Cond.code yX1_tell cX1_tell 4 (some .boolean), Cond.fieldLink RX1 24 "GridCommons" "isTold" "[Z", Cond.fieldLink RX1 27 "GridCommons" "toldUse" "[I", Cond.methodLink RL 22 yX1_close, Cond.instanceMethod yX1_close, Cond.selects RX1 yX1_close yX1_close, Cond.code yX1_close cX1_close 4 (some .boolean), Cond.fieldLink RX1 33 "GridCommons" "ledger" "LGridCommons$Ledger;", Cond.fieldLink RX1 77 "GridCommons$Ledger" "count" "I"]
def wsL_act_r3 : List Cond := [Cond.fieldLink RX1 82 "GridCommons$Ledger" "price" "[D", Cond.fieldLink RX1 39 "GridCommons" "price" "D", Cond.fieldLink RX1 53 "GridCommons" "leftOver" "D", Cond.methodLink RX1 84 yX1_writeUses, Cond.instanceMethod yX1_writeUses, Cond.selects RX1 yX1_writeUses yX1_writeUses, Cond.code yX1_writeUses cX1_writeUses 6 none, Cond.fieldLink RX1 120 "GridCommons$Ledger" "known" "[Z", Cond.fieldLink RX1 125 "GridCommons$Ledger" "use" "[D", Cond.fieldLink RX1 50 "GridCommons" "needs" "[D", Cond.methodLink RX1 116 yX0_slot, Cond.static yX0_slot, Cond.initialized RX0, Cond.code yX0_slot cX0_slot 2 (some .int), Cond.methodLink RX1 158 yX0_guess, Cond.instanceMethod yX0_guess, Cond.selects RX0 yX0_guess yX0_guess, Cond.code yX0_guess cX0_guess 7 (some .double), Cond.fieldLink RX0 9 "GridCommons$Ledger" "count" "I", Cond.fieldLink RX0 25 "GridCommons$Ledger" "known" "[Z", Cond.fieldLink RX0 22 "GridCommons$Ledger" "use" "[D", Cond.constantDouble RX0 45 (4611686018427387904), Cond.methodLink RX0 41 yX0_slot, Cond.methodLink RX1 87 yX1_shedUntilCarried]
def wsL_act_r4 : List Cond := [Cond.instanceMethod yX1_shedUntilCarried, Cond.selects RX1 yX1_shedUntilCarried yX1_shedUntilCarried, Cond.code yX1_shedUntilCarried cX1_shedUntilCarried 3 none, Cond.fieldLink RX1 17 "GridCommons" "timesShed" "[I", Cond.methodLink RX1 162 yX1_nextToShed, Cond.instanceMethod yX1_nextToShed, Cond.selects RX1 yX1_nextToShed yX1_nextToShed, Cond.code yX1_nextToShed cX1_nextToShed 4 (some .int), Cond.methodLink RX1 90 yX1_isOverLine, Cond.instanceMethod yX1_isOverLine, Cond.selects RX1 yX1_isOverLine yX1_isOverLine, Cond.code yX1_isOverLine cX1_isOverLine 1 (some .boolean), Cond.constantDouble RX1 169 (4636737291354636288), Cond.methodLink RX1 165 yX1_sumOfNeeds, Cond.instanceMethod yX1_sumOfNeeds, Cond.selects RX1 yX1_sumOfNeeds yX1_sumOfNeeds, Cond.code yX1_sumOfNeeds cX1_sumOfNeeds 4 (some .double), Cond.methodLink RX1 94 yX1_writeUsed, Cond.instanceMethod yX1_writeUsed, Cond.selects RX1 yX1_writeUsed yX1_writeUsed, Cond.code yX1_writeUsed cX1_writeUsed 3 none, Cond.fieldLink RX1 128 "GridCommons$Ledger" "used" "[D", Cond.methodLink RX1 97 yX1_giveByShare, Cond.instanceMethod yX1_giveByShare]
def wsL_act_r5 : List Cond := [Cond.selects RX1 yX1_giveByShare yX1_giveByShare, Cond.code yX1_giveByShare cX1_giveByShare 6 none, Cond.constantDouble RX1 75 (4616189618054758400), Cond.methodLink RX1 171 yX1_lesser, Cond.static yX1_lesser, Cond.code yX1_lesser cX1_lesser 4 (some .double), Cond.methodLink RX1 175 yX1_giveSun, Cond.instanceMethod yX1_giveSun, Cond.selects RX1 yX1_giveSun yX1_giveSun, Cond.code yX1_giveSun cX1_giveSun 5 none, Cond.fieldLink RX1 134 "GridCommons$Ledger" "fromSun" "[D", Cond.methodLink RX1 101 yX1_giveByNeed, Cond.instanceMethod yX1_giveByNeed, Cond.selects RX1 yX1_giveByNeed yX1_giveByNeed, Cond.code yX1_giveByNeed cX1_giveByNeed 5 none, Cond.methodLink RX1 104 yX1_storeOrSell, Cond.instanceMethod yX1_storeOrSell, Cond.selects RX1 yX1_storeOrSell yX1_storeOrSell, Cond.code yX1_storeOrSell cX1_storeOrSell 4 none, Cond.constantDouble RX1 179 (4630826316843712512), Cond.fieldLink RX1 43 "GridCommons" "stored" "D", Cond.fieldLink RX1 143 "GridCommons$Ledger" "sold" "[D", Cond.methodLink RX1 107 yX1_giveFromBattery, Cond.instanceMethod yX1_giveFromBattery]
def wsL_act_r6 : List Cond := [Cond.selects RX1 yX1_giveFromBattery yX1_giveFromBattery, Cond.code yX1_giveFromBattery cX1_giveFromBattery 7 none, Cond.fieldLink RX1 46 "GridCommons" "whoseTurn" "I", Cond.fieldLink RX1 137 "GridCommons$Ledger" "fromBattery" "[D", Cond.methodLink RX1 181 yX1_behind, Cond.static yX1_behind, Cond.code yX1_behind cX1_behind 1 (some .int), Cond.methodLink RX1 187 yJ9_floorMod_7cf53, Cond.static yJ9_floorMod_7cf53, Cond.initialized RJ9, Cond.code yJ9_floorMod_7cf53 cJ9_floorMod_7cf53 3 (some .int), Cond.methodLink RX1 110 yX1_writeBills, Cond.instanceMethod yX1_writeBills, Cond.selects RX1 yX1_writeBills yX1_writeBills, Cond.code yX1_writeBills cX1_writeBills 5 none, Cond.constantDouble RX1 185 (4621819117588971520), Cond.fieldLink RX1 140 "GridCommons$Ledger" "bought" "[D", Cond.fieldLink RX1 20 "GridCommons" "bills" "[D", Cond.methodLink RL 26 yX1_sheds, Cond.instanceMethod yX1_sheds, Cond.selects RX1 yX1_sheds yX1_sheds, Cond.code yX1_sheds cX1_sheds 2 (some .int), Cond.methodLink RL 74 yX1_closed, Cond.instanceMethod yX1_closed]
def wsL_act_r7 : List Cond := [Cond.selects RX1 yX1_closed yX1_closed, Cond.code yX1_closed cX1_closed 1 (some .int), Cond.methodLink RL 78 yL_looks, Cond.static yL_looks, Cond.codeWith yL_looks cL_looks 6 (some .double) [(0, 89, 90, 59), (0, 89, 96, 30), (0, 89, 102, 33)], Cond.classLink RL 59 "java/lang/IndexOutOfBoundsException", Cond.constantDouble RL 61 (13904980329019473920), Cond.methodLink RL 35 yX1_setPrice, Cond.instanceMethod yX1_setPrice, Cond.selects RX1 yX1_setPrice yX1_setPrice, Cond.code yX1_setPrice cX1_setPrice 2 (some .double), Cond.methodLink RL 39 yX1_replace, Cond.instanceMethod yX1_replace, Cond.selects RX1 yX1_replace yX1_replace, Cond.code yX1_replace cX1_replace 7 (some .double), Cond.methodLink RX1 113 yX1_requireQuarter, Cond.instanceMethod yX1_requireQuarter, Cond.selects RX1 yX1_requireQuarter yX1_requireQuarter, Cond.code yX1_requireQuarter cX1_requireQuarter 2 none, Cond.classLink RX1 153 "java/lang/IndexOutOfBoundsException", Cond.initialized "java/lang/IndexOutOfBoundsException", Cond.methodLink RL 43 yX1_use, Cond.instanceMethod yX1_use, Cond.selects RX1 yX1_use yX1_use]
def wsL_act_r8 : List Cond := [Cond.code yX1_use cX1_use 3 (some .double), Cond.methodLink RX1 131 yX1_closedSlot, Cond.instanceMethod yX1_closedSlot, Cond.selects RX1 yX1_closedSlot yX1_closedSlot, Cond.code yX1_closedSlot cX1_closedSlot 3 (some .int), Cond.methodLink RL 47 yX1_fromSun, Cond.instanceMethod yX1_fromSun, Cond.selects RX1 yX1_fromSun yX1_fromSun, Cond.code yX1_fromSun cX1_fromSun 3 (some .double), Cond.methodLink RL 50 yX1_fromBattery, Cond.instanceMethod yX1_fromBattery, Cond.selects RX1 yX1_fromBattery yX1_fromBattery, Cond.code yX1_fromBattery cX1_fromBattery 3 (some .double), Cond.methodLink RL 53 yX1_bought, Cond.instanceMethod yX1_bought, Cond.selects RX1 yX1_bought yX1_bought, Cond.code yX1_bought cX1_bought 3 (some .double), Cond.methodLink RL 56 yX1_sold, Cond.instanceMethod yX1_sold, Cond.selects RX1 yX1_sold yX1_sold, Cond.code yX1_sold cX1_sold 2 (some .double)]
def wsL_act : List Cond := .code yL_act cL_act 6 (some .double) :: ((wsL_act_r1 ++ (wsL_act_r2 ++ (wsL_act_r3 ++ (wsL_act_r4 ++ (wsL_act_r5 ++ (wsL_act_r6 ++ (wsL_act_r7 ++ wsL_act_r8))))))) ++ wsX10 ++ wsX00 ++ (vx_atS RX1 72 "java/lang/IllegalStateException" ["java/lang/RuntimeException", "java/lang/Exception"]).filter goodWord ++ (vx_atS RX1 150 "java/lang/IllegalArgumentException" ["java/lang/RuntimeException", "java/lang/Exception"]).filter goodWord ++ (vx_atS RX1 157 "java/lang/IndexOutOfBoundsException" ["java/lang/RuntimeException", "java/lang/Exception"]).filter goodWord)
def wsL_areAlike_r1 : List Cond := [Cond.methodLink RL 74 yX1_closed, Cond.instanceMethod yX1_closed, Cond.selects RX1 yX1_closed yX1_closed, Cond.initialized RX1, Cond.code yX1_closed cX1_closed 1 (some .int), Cond.fieldLink RX1 33 "GridCommons" "ledger" "LGridCommons$Ledger;", Cond.fieldLink RX1 77 "GridCommons$Ledger" "count" "I", Cond.methodLink RL 82 yX1_battery, Cond.instanceMethod yX1_battery, Cond.selects RX1 yX1_battery yX1_battery, Cond.code yX1_battery cX1_battery 1 (some .double), Cond.fieldLink RX1 43 "GridCommons" "stored" "D", Cond.methodLink RL 86 yX1_turn, Cond.instanceMethod yX1_turn, Cond.selects RX1 yX1_turn yX1_turn, Cond.code yX1_turn cX1_turn 1 (some .int), Cond.fieldLink RX1 46 "GridCommons" "whoseTurn" "I", Cond.methodLink RL 78 yL_looks, Cond.static yL_looks, Cond.initialized RL, Cond.codeWith yL_looks cL_looks 6 (some .double) [(0, 89, 90, 59), (0, 89, 96, 30), (0, 89, 102, 33)], Cond.classLink RL 59 "java/lang/IndexOutOfBoundsException", Cond.classLink RL 30 "java/lang/IllegalArgumentException", Cond.classLink RL 33 "java/lang/IllegalStateException"]
def wsL_areAlike_r2 : List Cond := [Cond.constantDouble RL 61 (13904980329019473920), Cond.methodLink RL 35 yX1_setPrice, Cond.instanceMethod yX1_setPrice, Cond.selects RX1 yX1_setPrice yX1_setPrice, Cond.code yX1_setPrice cX1_setPrice 2 (some .double), Cond.constantDouble RX1 75 (4616189618054758400), Cond.fieldLink RX1 39 "GridCommons" "price" "D", Cond.methodLink RX1 60 yX1_requireWithin, Cond.static yX1_requireWithin, Cond.code yX1_requireWithin cX1_requireWithin 3 none, Cond.classLink RX1 146 "java/lang/IllegalArgumentException", Cond.initialized "java/lang/IllegalArgumentException", Cond.methodLink RL 39 yX1_replace, Cond.instanceMethod yX1_replace, Cond.selects RX1 yX1_replace yX1_replace, Cond.code yX1_replace cX1_replace 7 (some .double), Cond.classLink RX1 68 "java/lang/IllegalStateException", Cond.initialized "java/lang/IllegalStateException", Cond.fieldLink RX1 120 "GridCommons$Ledger" "known" "[Z", Cond.fieldLink RX1 125 "GridCommons$Ledger" "use" "[D", Cond.fieldLink RX1 128 "GridCommons$Ledger" "used" "[D", Cond.fieldLink RX1 82 "GridCommons$Ledger" "price" "[D", Cond.fieldLink RX1 20 "GridCommons" "bills" "[D", Cond.methodLink RX1 56 yX1_requireOwner]
def wsL_areAlike_r3 : List Cond := [Cond.static yX1_requireOwner, Cond.code yX1_requireOwner cX1_requireOwner 1 none, Cond.methodLink RX1 113 yX1_requireQuarter, Cond.instanceMethod yX1_requireQuarter, Cond.selects RX1 yX1_requireQuarter yX1_requireQuarter, Cond.code yX1_requireQuarter cX1_requireQuarter 2 none, Cond.classLink RX1 153 "java/lang/IndexOutOfBoundsException", Cond.initialized "java/lang/IndexOutOfBoundsException", Cond.methodLink RX1 116 yX0_slot, Cond.static yX0_slot, Cond.initialized RX0, Cond.code yX0_slot cX0_slot 2 (some .int), Cond.methodLink RL 43 yX1_use, Cond.instanceMethod yX1_use, Cond.selects RX1 yX1_use yX1_use, Cond.code yX1_use cX1_use 3 (some .double), Cond.methodLink RX1 131 yX1_closedSlot, Cond.instanceMethod yX1_closedSlot, Cond.selects RX1 yX1_closedSlot yX1_closedSlot, Cond.code yX1_closedSlot cX1_closedSlot 3 (some .int), Cond.methodLink RL 47 yX1_fromSun, Cond.instanceMethod yX1_fromSun, Cond.selects RX1 yX1_fromSun yX1_fromSun, Cond.code yX1_fromSun cX1_fromSun 3 (some .double)]
def wsL_areAlike_r4 : List Cond := [Cond.fieldLink RX1 134 "GridCommons$Ledger" "fromSun" "[D", Cond.methodLink RL 50 yX1_fromBattery, Cond.instanceMethod yX1_fromBattery, Cond.selects RX1 yX1_fromBattery yX1_fromBattery, Cond.code yX1_fromBattery cX1_fromBattery 3 (some .double), Cond.fieldLink RX1 137 "GridCommons$Ledger" "fromBattery" "[D", Cond.methodLink RL 53 yX1_bought, Cond.instanceMethod yX1_bought, Cond.selects RX1 yX1_bought yX1_bought, Cond.code yX1_bought cX1_bought 3 (some .double), Cond.fieldLink RX1 140 "GridCommons$Ledger" "bought" "[D", Cond.methodLink RL 56 yX1_sold, Cond.instanceMethod yX1_sold, Cond.selects RX1 yX1_sold yX1_sold, Cond.code yX1_sold cX1_sold 2 (some .double), Cond.fieldLink RX1 143 "GridCommons$Ledger" "sold" "[D", Cond.methodLink RL 89 yX1_bill, Cond.instanceMethod yX1_bill, Cond.selects RX1 yX1_bill yX1_bill, Cond.code yX1_bill cX1_bill 2 (some .double), Cond.methodLink RL 26 yX1_sheds, Cond.instanceMethod yX1_sheds, Cond.selects RX1 yX1_sheds yX1_sheds, Cond.code yX1_sheds cX1_sheds 2 (some .int)]
def wsL_areAlike_r5 : List Cond := [Cond.fieldLink RX1 17 "GridCommons" "timesShed" "[I"]
def wsL_areAlike : List Cond := .code yL_areAlike cL_areAlike 5 (some .boolean) :: ((wsL_areAlike_r1 ++ (wsL_areAlike_r2 ++ (wsL_areAlike_r3 ++ (wsL_areAlike_r4 ++ wsL_areAlike_r5)))) ++ wsX10 ++ wsX00 ++ (vx_atS RX1 150 "java/lang/IllegalArgumentException" ["java/lang/RuntimeException", "java/lang/Exception"]).filter goodWord ++ (vx_atS RX1 72 "java/lang/IllegalStateException" ["java/lang/RuntimeException", "java/lang/Exception"]).filter goodWord ++ (vx_atS RX1 157 "java/lang/IndexOutOfBoundsException" ["java/lang/RuntimeException", "java/lang/Exception"]).filter goodWord)
def wsL_isClosedSo_r1 : List Cond := [Cond.arrayClass .int, Cond.arrayClass .double, Cond.constantDouble RL 92 (4616189618054758400), Cond.constant RL 32 (-99999), Cond.constantDouble RL 98 (4621819117588971520), Cond.constantDouble RL 100 (4636737291354636288), Cond.methodLink RL 35 yX1_setPrice, Cond.instanceMethod yX1_setPrice, Cond.selects RX1 yX1_setPrice yX1_setPrice, Cond.initialized RX1, Cond.code yX1_setPrice cX1_setPrice 2 (some .double), Cond.constantDouble RX1 75 (4616189618054758400), Cond.fieldLink RX1 39 "GridCommons" "price" "D", Cond.methodLink RX1 60 yX1_requireWithin, Cond.static yX1_requireWithin, Cond.code yX1_requireWithin cX1_requireWithin 3 none, Cond.classLink RX1 146 "java/lang/IllegalArgumentException", Cond.initialized "java/lang/IllegalArgumentException", Cond.methodLink RL 82 yX1_battery, Cond.instanceMethod yX1_battery, Cond.selects RX1 yX1_battery yX1_battery, Cond.code yX1_battery cX1_battery 1 (some .double), Cond.fieldLink RX1 43 "GridCommons" "stored" "D", Cond.methodLink RL 74 yX1_closed]
def wsL_isClosedSo_r2 : List Cond := [Cond.instanceMethod yX1_closed, Cond.selects RX1 yX1_closed yX1_closed, Cond.code yX1_closed cX1_closed 1 (some .int), Cond.fieldLink RX1 33 "GridCommons" "ledger" "LGridCommons$Ledger;", Cond.fieldLink RX1 77 "GridCommons$Ledger" "count" "I", Cond.methodLink RL 26 yX1_sheds, Cond.instanceMethod yX1_sheds, Cond.selects RX1 yX1_sheds yX1_sheds, Cond.code yX1_sheds cX1_sheds 2 (some .int), Cond.fieldLink RX1 17 "GridCommons" "timesShed" "[I", Cond.methodLink RX1 56 yX1_requireOwner, Cond.static yX1_requireOwner, Cond.code yX1_requireOwner cX1_requireOwner 1 none, Cond.methodLink RL 89 yX1_bill, Cond.instanceMethod yX1_bill, Cond.selects RX1 yX1_bill yX1_bill, Cond.code yX1_bill cX1_bill 2 (some .double), Cond.fieldLink RX1 20 "GridCommons" "bills" "[D", Cond.methodLink RL 70 yL_does, Cond.static yL_does, Cond.initialized RL, Cond.codeWith yL_does cL_does 5 (some .int) [(0, 92, 93, 30), (0, 92, 98, 33)], Cond.classLink RL 30 "java/lang/IllegalArgumentException", Cond.classLink RL 33 "java/lang/IllegalStateException"]
def wsL_isClosedSo_r3 : List Cond := [Cond.methodLink RL 8 yX1_setShare, Cond.instanceMethod yX1_setShare, Cond.selects RX1 yX1_setShare yX1_setShare, Cond.code yX1_setShare cX1_setShare 4 (some .int), Cond.classLink RX1 68 "java/lang/IllegalStateException", Cond.initialized "java/lang/IllegalStateException", Cond.fieldLink RX1 9 "GridCommons" "shares" "[I", Cond.methodLink RX1 64 yX1_sumOfShares, Cond.instanceMethod yX1_sumOfShares, Cond.selects RX1 yX1_sumOfShares yX1_sumOfShares, Cond.code yX1_sumOfShares cX1_sumOfShares 3 (some .int), Cond.methodLink RL 14 yX1_setSwitch, Cond.instanceMethod yX1_setSwitch, Cond.selects RX1 yX1_setSwitch yX1_setSwitch, Cond.code yX1_setSwitch cX1_setSwitch 4 (some .boolean), Cond.fieldLink RX1 13 "GridCommons" "switches" "[Z", Cond.methodLink RL 18 yX1_tell, Cond.instanceMethod yX1_tell, Cond.selects RX1 yX1_tell yX1_tell, Cond.code yX1_tell cX1_tell 4 (some .boolean), Cond.fieldLink RX1 24 "GridCommons" "isTold" "[Z", Cond.fieldLink RX1 27 "GridCommons" "toldUse" "[I", Cond.methodLink RL 22 yX1_close, Cond.instanceMethod yX1_close]
def wsL_isClosedSo_r4 : List Cond := [Cond.selects RX1 yX1_close yX1_close, Cond.code yX1_close cX1_close 4 (some .boolean), Cond.fieldLink RX1 82 "GridCommons$Ledger" "price" "[D", Cond.fieldLink RX1 53 "GridCommons" "leftOver" "D", Cond.methodLink RX1 84 yX1_writeUses, Cond.instanceMethod yX1_writeUses, Cond.selects RX1 yX1_writeUses yX1_writeUses, Cond.code yX1_writeUses cX1_writeUses 6 none, Cond.fieldLink RX1 120 "GridCommons$Ledger" "known" "[Z", Cond.fieldLink RX1 125 "GridCommons$Ledger" "use" "[D", Cond.fieldLink RX1 50 "GridCommons" "needs" "[D", Cond.methodLink RX1 116 yX0_slot, Cond.static yX0_slot, Cond.initialized RX0, Cond.code yX0_slot cX0_slot 2 (some .int), Cond.methodLink RX1 158 yX0_guess, Cond.instanceMethod yX0_guess, Cond.selects RX0 yX0_guess yX0_guess, Cond.code yX0_guess cX0_guess 7 (some .double), Cond.fieldLink RX0 9 "GridCommons$Ledger" "count" "I", Cond.fieldLink RX0 25 "GridCommons$Ledger" "known" "[Z", Cond.fieldLink RX0 22 "GridCommons$Ledger" "use" "[D", Cond.constantDouble RX0 45 (4611686018427387904), Cond.methodLink RX0 41 yX0_slot]
def wsL_isClosedSo_r5 : List Cond := [Cond.methodLink RX1 87 yX1_shedUntilCarried, Cond.instanceMethod yX1_shedUntilCarried, Cond.selects RX1 yX1_shedUntilCarried yX1_shedUntilCarried, Cond.code yX1_shedUntilCarried cX1_shedUntilCarried 3 none, Cond.methodLink RX1 162 yX1_nextToShed, Cond.instanceMethod yX1_nextToShed, Cond.selects RX1 yX1_nextToShed yX1_nextToShed, Cond.code yX1_nextToShed cX1_nextToShed 4 (some .int), Cond.methodLink RX1 90 yX1_isOverLine, Cond.instanceMethod yX1_isOverLine, Cond.selects RX1 yX1_isOverLine yX1_isOverLine, Cond.code yX1_isOverLine cX1_isOverLine 1 (some .boolean), Cond.constantDouble RX1 169 (4636737291354636288), Cond.methodLink RX1 165 yX1_sumOfNeeds, Cond.instanceMethod yX1_sumOfNeeds, Cond.selects RX1 yX1_sumOfNeeds yX1_sumOfNeeds, Cond.code yX1_sumOfNeeds cX1_sumOfNeeds 4 (some .double), Cond.methodLink RX1 94 yX1_writeUsed, Cond.instanceMethod yX1_writeUsed, Cond.selects RX1 yX1_writeUsed yX1_writeUsed, Cond.code yX1_writeUsed cX1_writeUsed 3 none, Cond.fieldLink RX1 128 "GridCommons$Ledger" "used" "[D", Cond.methodLink RX1 97 yX1_giveByShare, Cond.instanceMethod yX1_giveByShare]
def wsL_isClosedSo_r6 : List Cond := [Cond.selects RX1 yX1_giveByShare yX1_giveByShare, Cond.code yX1_giveByShare cX1_giveByShare 6 none, Cond.methodLink RX1 171 yX1_lesser, Cond.static yX1_lesser, Cond.code yX1_lesser cX1_lesser 4 (some .double), Cond.methodLink RX1 175 yX1_giveSun, Cond.instanceMethod yX1_giveSun, Cond.selects RX1 yX1_giveSun yX1_giveSun, Cond.code yX1_giveSun cX1_giveSun 5 none, Cond.fieldLink RX1 134 "GridCommons$Ledger" "fromSun" "[D", Cond.methodLink RX1 101 yX1_giveByNeed, Cond.instanceMethod yX1_giveByNeed, Cond.selects RX1 yX1_giveByNeed yX1_giveByNeed, Cond.code yX1_giveByNeed cX1_giveByNeed 5 none, Cond.methodLink RX1 104 yX1_storeOrSell, Cond.instanceMethod yX1_storeOrSell, Cond.selects RX1 yX1_storeOrSell yX1_storeOrSell, Cond.code yX1_storeOrSell cX1_storeOrSell 4 none, Cond.constantDouble RX1 179 (4630826316843712512), Cond.fieldLink RX1 143 "GridCommons$Ledger" "sold" "[D", Cond.methodLink RX1 107 yX1_giveFromBattery, Cond.instanceMethod yX1_giveFromBattery, Cond.selects RX1 yX1_giveFromBattery yX1_giveFromBattery, Cond.code yX1_giveFromBattery cX1_giveFromBattery 7 none]
def wsL_isClosedSo_r7 : List Cond := [Cond.fieldLink RX1 46 "GridCommons" "whoseTurn" "I", Cond.fieldLink RX1 137 "GridCommons$Ledger" "fromBattery" "[D", Cond.methodLink RX1 181 yX1_behind, Cond.static yX1_behind, Cond.code yX1_behind cX1_behind 1 (some .int), Cond.methodLink RX1 187 yJ9_floorMod_7cf53, Cond.static yJ9_floorMod_7cf53, Cond.initialized RJ9, Cond.code yJ9_floorMod_7cf53 cJ9_floorMod_7cf53 3 (some .int), Cond.methodLink RX1 110 yX1_writeBills, Cond.instanceMethod yX1_writeBills, Cond.selects RX1 yX1_writeBills yX1_writeBills, Cond.code yX1_writeBills cX1_writeBills 5 none, Cond.constantDouble RX1 185 (4621819117588971520), Cond.fieldLink RX1 140 "GridCommons$Ledger" "bought" "[D", Cond.methodLink RL 56 yX1_sold, Cond.instanceMethod yX1_sold, Cond.selects RX1 yX1_sold yX1_sold, Cond.code yX1_sold cX1_sold 2 (some .double), Cond.methodLink RX1 113 yX1_requireQuarter, Cond.instanceMethod yX1_requireQuarter, Cond.selects RX1 yX1_requireQuarter yX1_requireQuarter, Cond.code yX1_requireQuarter cX1_requireQuarter 2 none, Cond.classLink RX1 153 "java/lang/IndexOutOfBoundsException"]
def wsL_isClosedSo_r8 : List Cond := [Cond.initialized "java/lang/IndexOutOfBoundsException", Cond.methodLink RL 43 yX1_use, Cond.instanceMethod yX1_use, Cond.selects RX1 yX1_use yX1_use, Cond.code yX1_use cX1_use 3 (some .double), Cond.methodLink RX1 131 yX1_closedSlot, Cond.instanceMethod yX1_closedSlot, Cond.selects RX1 yX1_closedSlot yX1_closedSlot, Cond.code yX1_closedSlot cX1_closedSlot 3 (some .int), Cond.methodLink RL 47 yX1_fromSun, Cond.instanceMethod yX1_fromSun, Cond.selects RX1 yX1_fromSun yX1_fromSun, Cond.code yX1_fromSun cX1_fromSun 3 (some .double), Cond.methodLink RL 50 yX1_fromBattery, Cond.instanceMethod yX1_fromBattery, Cond.selects RX1 yX1_fromBattery yX1_fromBattery, Cond.code yX1_fromBattery cX1_fromBattery 3 (some .double), Cond.methodLink RL 53 yX1_bought, Cond.instanceMethod yX1_bought, Cond.selects RX1 yX1_bought yX1_bought, Cond.code yX1_bought cX1_bought 3 (some .double), Cond.methodLink RL 94 yL_isNear, Cond.static yL_isNear, Cond.code yL_isNear cL_isNear 4 (some .boolean)]
def wsL_isClosedSo_r9 : List Cond := [Cond.constantDouble RL 63 (4517329193108106637)]
def wsL_isClosedSo : List Cond := .code yL_isClosedSo cL_isClosedSo 23 (some .boolean) :: ((wsL_isClosedSo_r1 ++ (wsL_isClosedSo_r2 ++ (wsL_isClosedSo_r3 ++ (wsL_isClosedSo_r4 ++ (wsL_isClosedSo_r5 ++ (wsL_isClosedSo_r6 ++ (wsL_isClosedSo_r7 ++ (wsL_isClosedSo_r8 ++ wsL_isClosedSo_r9)))))))) ++ wsX10 ++ wsX00 ++ (vx_atS RX1 150 "java/lang/IllegalArgumentException" ["java/lang/RuntimeException", "java/lang/Exception"]).filter goodWord ++ (vx_atS RX1 72 "java/lang/IllegalStateException" ["java/lang/RuntimeException", "java/lang/Exception"]).filter goodWord ++ (vx_atS RX1 157 "java/lang/IndexOutOfBoundsException" ["java/lang/RuntimeException", "java/lang/Exception"]).filter goodWord)
def wsL_isReplacedSo_r1 : List Cond := [Cond.constantDouble RL 61 (13904980329019473920), Cond.constantDouble RL 102 (4632233691727265792), Cond.constantDouble RL 104 (13855605728582041600), Cond.methodLink RL 89 yX1_bill, Cond.instanceMethod yX1_bill, Cond.selects RX1 yX1_bill yX1_bill, Cond.initialized RX1, Cond.code yX1_bill cX1_bill 2 (some .double), Cond.fieldLink RX1 20 "GridCommons" "bills" "[D", Cond.methodLink RX1 56 yX1_requireOwner, Cond.static yX1_requireOwner, Cond.code yX1_requireOwner cX1_requireOwner 1 none, Cond.classLink RX1 146 "java/lang/IllegalArgumentException", Cond.initialized "java/lang/IllegalArgumentException", Cond.methodLink RL 78 yL_looks, Cond.static yL_looks, Cond.initialized RL, Cond.codeWith yL_looks cL_looks 6 (some .double) [(0, 89, 90, 59), (0, 89, 96, 30), (0, 89, 102, 33)], Cond.classLink RL 59 "java/lang/IndexOutOfBoundsException", Cond.classLink RL 30 "java/lang/IllegalArgumentException", Cond.classLink RL 33 "java/lang/IllegalStateException", Cond.methodLink RL 35 yX1_setPrice, Cond.instanceMethod yX1_setPrice, Cond.selects RX1 yX1_setPrice yX1_setPrice]
def wsL_isReplacedSo_r2 : List Cond := [Cond.code yX1_setPrice cX1_setPrice 2 (some .double), Cond.constantDouble RX1 75 (4616189618054758400), Cond.fieldLink RX1 39 "GridCommons" "price" "D", Cond.methodLink RX1 60 yX1_requireWithin, Cond.static yX1_requireWithin, Cond.code yX1_requireWithin cX1_requireWithin 3 none, Cond.methodLink RL 39 yX1_replace, Cond.instanceMethod yX1_replace, Cond.selects RX1 yX1_replace yX1_replace, Cond.code yX1_replace cX1_replace 7 (some .double), Cond.classLink RX1 68 "java/lang/IllegalStateException", Cond.initialized "java/lang/IllegalStateException", Cond.fieldLink RX1 33 "GridCommons" "ledger" "LGridCommons$Ledger;", Cond.fieldLink RX1 120 "GridCommons$Ledger" "known" "[Z", Cond.fieldLink RX1 125 "GridCommons$Ledger" "use" "[D", Cond.fieldLink RX1 128 "GridCommons$Ledger" "used" "[D", Cond.fieldLink RX1 82 "GridCommons$Ledger" "price" "[D", Cond.methodLink RX1 113 yX1_requireQuarter, Cond.instanceMethod yX1_requireQuarter, Cond.selects RX1 yX1_requireQuarter yX1_requireQuarter, Cond.code yX1_requireQuarter cX1_requireQuarter 2 none, Cond.classLink RX1 153 "java/lang/IndexOutOfBoundsException", Cond.initialized "java/lang/IndexOutOfBoundsException", Cond.fieldLink RX1 77 "GridCommons$Ledger" "count" "I"]
def wsL_isReplacedSo_r3 : List Cond := [Cond.methodLink RX1 116 yX0_slot, Cond.static yX0_slot, Cond.initialized RX0, Cond.code yX0_slot cX0_slot 2 (some .int), Cond.methodLink RL 43 yX1_use, Cond.instanceMethod yX1_use, Cond.selects RX1 yX1_use yX1_use, Cond.code yX1_use cX1_use 3 (some .double), Cond.methodLink RX1 131 yX1_closedSlot, Cond.instanceMethod yX1_closedSlot, Cond.selects RX1 yX1_closedSlot yX1_closedSlot, Cond.code yX1_closedSlot cX1_closedSlot 3 (some .int), Cond.methodLink RL 47 yX1_fromSun, Cond.instanceMethod yX1_fromSun, Cond.selects RX1 yX1_fromSun yX1_fromSun, Cond.code yX1_fromSun cX1_fromSun 3 (some .double), Cond.fieldLink RX1 134 "GridCommons$Ledger" "fromSun" "[D", Cond.methodLink RL 50 yX1_fromBattery, Cond.instanceMethod yX1_fromBattery, Cond.selects RX1 yX1_fromBattery yX1_fromBattery, Cond.code yX1_fromBattery cX1_fromBattery 3 (some .double), Cond.fieldLink RX1 137 "GridCommons$Ledger" "fromBattery" "[D", Cond.methodLink RL 53 yX1_bought, Cond.instanceMethod yX1_bought]
def wsL_isReplacedSo_r4 : List Cond := [Cond.selects RX1 yX1_bought yX1_bought, Cond.code yX1_bought cX1_bought 3 (some .double), Cond.fieldLink RX1 140 "GridCommons$Ledger" "bought" "[D", Cond.methodLink RL 56 yX1_sold, Cond.instanceMethod yX1_sold, Cond.selects RX1 yX1_sold yX1_sold, Cond.code yX1_sold cX1_sold 2 (some .double), Cond.fieldLink RX1 143 "GridCommons$Ledger" "sold" "[D"]
def wsL_isReplacedSo : List Cond := .code yL_isReplacedSo cL_isReplacedSo 14 (some .boolean) :: ((wsL_isReplacedSo_r1 ++ (wsL_isReplacedSo_r2 ++ (wsL_isReplacedSo_r3 ++ wsL_isReplacedSo_r4))) ++ wsX10 ++ wsX00 ++ (vx_atS RX1 150 "java/lang/IllegalArgumentException" ["java/lang/RuntimeException", "java/lang/Exception"]).filter goodWord ++ (vx_atS RX1 72 "java/lang/IllegalStateException" ["java/lang/RuntimeException", "java/lang/Exception"]).filter goodWord ++ (vx_atS RX1 157 "java/lang/IndexOutOfBoundsException" ["java/lang/RuntimeException", "java/lang/Exception"]).filter goodWord)
def wsL_law0_r1 : List Cond := [Cond.classLink RL 9 RX1, Cond.instantiable RX1 12, Cond.initialized RX1, Cond.constantDouble RL 61 (13904980329019473920), Cond.methodLink RL 106 yX1_init, Cond.instanceMethod yX1_init, Cond.code yX1_init cX1_init 2 none, Cond.methodLink RX1 1 objectInit, Cond.instanceMethod objectInit, Cond.code objectInit ⟨#[0xb1]⟩ 1 none, Cond.arrayClass .int, Cond.fieldLink RX1 9 "GridCommons" "shares" "[I", Cond.arrayClass .boolean, Cond.fieldLink RX1 13 "GridCommons" "switches" "[Z", Cond.fieldLink RX1 17 "GridCommons" "timesShed" "[I", Cond.arrayClass .double, Cond.fieldLink RX1 20 "GridCommons" "bills" "[D", Cond.fieldLink RX1 24 "GridCommons" "isTold" "[Z", Cond.fieldLink RX1 27 "GridCommons" "toldUse" "[I", Cond.classLink RX1 30 RX0, Cond.instantiable RX0 9, Cond.initialized RX0, Cond.fieldLink RX1 33 "GridCommons" "ledger" "LGridCommons$Ledger;", Cond.constantDouble RX1 37 (4602678819172646912)]
def wsL_law0_r2 : List Cond := [Cond.fieldLink RX1 39 "GridCommons" "price" "D", Cond.fieldLink RX1 43 "GridCommons" "stored" "D", Cond.fieldLink RX1 46 "GridCommons" "whoseTurn" "I", Cond.fieldLink RX1 50 "GridCommons" "needs" "[D", Cond.fieldLink RX1 53 "GridCommons" "leftOver" "D", Cond.instanceMethod yX0_init, Cond.code yX0_init cX0_init 1 none, Cond.methodLink RX0 3 objectInit, Cond.fieldLink RX0 9 "GridCommons$Ledger" "count" "I", Cond.fieldLink RX0 15 "GridCommons$Ledger" "price" "[D", Cond.fieldLink RX0 19 "GridCommons$Ledger" "sold" "[D", Cond.fieldLink RX0 22 "GridCommons$Ledger" "use" "[D", Cond.fieldLink RX0 25 "GridCommons$Ledger" "known" "[Z", Cond.fieldLink RX0 29 "GridCommons$Ledger" "used" "[D", Cond.fieldLink RX0 32 "GridCommons$Ledger" "fromSun" "[D", Cond.fieldLink RX0 35 "GridCommons$Ledger" "fromBattery" "[D", Cond.fieldLink RX0 38 "GridCommons$Ledger" "bought" "[D", Cond.methodLink RL 107 yL_cell, Cond.static yL_cell, Cond.initialized RL, Cond.code yL_cell cL_cell 2 (some .int), Cond.methodLink RL 111 yL_act, Cond.static yL_act, Cond.code yL_act cL_act 6 (some .double)]
def wsL_law0_r3 : List Cond := [Cond.methodLink RL 65 yL_low, Cond.static yL_low, Cond.code yL_low cL_low 2 (some .int), Cond.constant RL 7 (2147483647), Cond.methodLink RL 70 yL_does, Cond.static yL_does, Cond.codeWith yL_does cL_does 5 (some .int) [(0, 92, 93, 30), (0, 92, 98, 33)], Cond.classLink RL 30 "java/lang/IllegalArgumentException", Cond.classLink RL 33 "java/lang/IllegalStateException", Cond.constant RL 32 (-99999), Cond.methodLink RL 8 yX1_setShare, Cond.instanceMethod yX1_setShare, Cond.selects RX1 yX1_setShare yX1_setShare, Cond.code yX1_setShare cX1_setShare 4 (some .int), Cond.classLink RX1 68 "java/lang/IllegalStateException", Cond.initialized "java/lang/IllegalStateException", Cond.methodLink RX1 56 yX1_requireOwner, Cond.static yX1_requireOwner, Cond.code yX1_requireOwner cX1_requireOwner 1 none, Cond.classLink RX1 146 "java/lang/IllegalArgumentException", Cond.initialized "java/lang/IllegalArgumentException", Cond.methodLink RX1 60 yX1_requireWithin, Cond.static yX1_requireWithin, Cond.code yX1_requireWithin cX1_requireWithin 3 none]
def wsL_law0_r4 : List Cond := [Cond.methodLink RX1 64 yX1_sumOfShares, Cond.instanceMethod yX1_sumOfShares, Cond.selects RX1 yX1_sumOfShares yX1_sumOfShares, Cond.code yX1_sumOfShares cX1_sumOfShares 3 (some .int), Cond.methodLink RL 14 yX1_setSwitch, Cond.instanceMethod yX1_setSwitch, Cond.selects RX1 yX1_setSwitch yX1_setSwitch, Cond.code yX1_setSwitch cX1_setSwitch 4 (some .boolean), Cond.methodLink RL 18 yX1_tell, Cond.instanceMethod yX1_tell, Cond.selects RX1 yX1_tell yX1_tell, Cond.code yX1_tell cX1_tell 4 (some .boolean), Cond.methodLink RL 22 yX1_close, Cond.instanceMethod yX1_close, Cond.selects RX1 yX1_close yX1_close, Cond.code yX1_close cX1_close 4 (some .boolean), Cond.fieldLink RX1 77 "GridCommons$Ledger" "count" "I", Cond.fieldLink RX1 82 "GridCommons$Ledger" "price" "[D", Cond.methodLink RX1 84 yX1_writeUses, Cond.instanceMethod yX1_writeUses, Cond.selects RX1 yX1_writeUses yX1_writeUses, Cond.code yX1_writeUses cX1_writeUses 6 none, Cond.fieldLink RX1 120 "GridCommons$Ledger" "known" "[Z", Cond.fieldLink RX1 125 "GridCommons$Ledger" "use" "[D"]
def wsL_law0_r5 : List Cond := [Cond.methodLink RX1 116 yX0_slot, Cond.static yX0_slot, Cond.code yX0_slot cX0_slot 2 (some .int), Cond.methodLink RX1 158 yX0_guess, Cond.instanceMethod yX0_guess, Cond.selects RX0 yX0_guess yX0_guess, Cond.code yX0_guess cX0_guess 7 (some .double), Cond.constantDouble RX0 45 (4611686018427387904), Cond.methodLink RX0 41 yX0_slot, Cond.methodLink RX1 87 yX1_shedUntilCarried, Cond.instanceMethod yX1_shedUntilCarried, Cond.selects RX1 yX1_shedUntilCarried yX1_shedUntilCarried, Cond.code yX1_shedUntilCarried cX1_shedUntilCarried 3 none, Cond.methodLink RX1 162 yX1_nextToShed, Cond.instanceMethod yX1_nextToShed, Cond.selects RX1 yX1_nextToShed yX1_nextToShed, Cond.code yX1_nextToShed cX1_nextToShed 4 (some .int), Cond.methodLink RX1 90 yX1_isOverLine, Cond.instanceMethod yX1_isOverLine, Cond.selects RX1 yX1_isOverLine yX1_isOverLine, Cond.code yX1_isOverLine cX1_isOverLine 1 (some .boolean), Cond.constantDouble RX1 169 (4636737291354636288), Cond.methodLink RX1 165 yX1_sumOfNeeds, Cond.instanceMethod yX1_sumOfNeeds]
def wsL_law0_r6 : List Cond := [Cond.selects RX1 yX1_sumOfNeeds yX1_sumOfNeeds, Cond.code yX1_sumOfNeeds cX1_sumOfNeeds 4 (some .double), Cond.methodLink RX1 94 yX1_writeUsed, Cond.instanceMethod yX1_writeUsed, Cond.selects RX1 yX1_writeUsed yX1_writeUsed, Cond.code yX1_writeUsed cX1_writeUsed 3 none, Cond.fieldLink RX1 128 "GridCommons$Ledger" "used" "[D", Cond.methodLink RX1 97 yX1_giveByShare, Cond.instanceMethod yX1_giveByShare, Cond.selects RX1 yX1_giveByShare yX1_giveByShare, Cond.code yX1_giveByShare cX1_giveByShare 6 none, Cond.constantDouble RX1 75 (4616189618054758400), Cond.methodLink RX1 171 yX1_lesser, Cond.static yX1_lesser, Cond.code yX1_lesser cX1_lesser 4 (some .double), Cond.methodLink RX1 175 yX1_giveSun, Cond.instanceMethod yX1_giveSun, Cond.selects RX1 yX1_giveSun yX1_giveSun, Cond.code yX1_giveSun cX1_giveSun 5 none, Cond.fieldLink RX1 134 "GridCommons$Ledger" "fromSun" "[D", Cond.methodLink RX1 101 yX1_giveByNeed, Cond.instanceMethod yX1_giveByNeed, Cond.selects RX1 yX1_giveByNeed yX1_giveByNeed, Cond.code yX1_giveByNeed cX1_giveByNeed 5 none]
def wsL_law0_r7 : List Cond := [Cond.methodLink RX1 104 yX1_storeOrSell, Cond.instanceMethod yX1_storeOrSell, Cond.selects RX1 yX1_storeOrSell yX1_storeOrSell, Cond.code yX1_storeOrSell cX1_storeOrSell 4 none, Cond.constantDouble RX1 179 (4630826316843712512), Cond.fieldLink RX1 143 "GridCommons$Ledger" "sold" "[D", Cond.methodLink RX1 107 yX1_giveFromBattery, Cond.instanceMethod yX1_giveFromBattery, Cond.selects RX1 yX1_giveFromBattery yX1_giveFromBattery, Cond.code yX1_giveFromBattery cX1_giveFromBattery 7 none, Cond.fieldLink RX1 137 "GridCommons$Ledger" "fromBattery" "[D", Cond.methodLink RX1 181 yX1_behind, Cond.static yX1_behind, Cond.code yX1_behind cX1_behind 1 (some .int), Cond.methodLink RX1 187 yJ9_floorMod_7cf53, Cond.static yJ9_floorMod_7cf53, Cond.initialized RJ9, Cond.code yJ9_floorMod_7cf53 cJ9_floorMod_7cf53 3 (some .int), Cond.methodLink RX1 110 yX1_writeBills, Cond.instanceMethod yX1_writeBills, Cond.selects RX1 yX1_writeBills yX1_writeBills, Cond.code yX1_writeBills cX1_writeBills 5 none, Cond.constantDouble RX1 185 (4621819117588971520), Cond.fieldLink RX1 140 "GridCommons$Ledger" "bought" "[D"]
def wsL_law0_r8 : List Cond := [Cond.methodLink RL 26 yX1_sheds, Cond.instanceMethod yX1_sheds, Cond.selects RX1 yX1_sheds yX1_sheds, Cond.code yX1_sheds cX1_sheds 2 (some .int), Cond.methodLink RL 74 yX1_closed, Cond.instanceMethod yX1_closed, Cond.selects RX1 yX1_closed yX1_closed, Cond.code yX1_closed cX1_closed 1 (some .int), Cond.methodLink RL 78 yL_looks, Cond.static yL_looks, Cond.codeWith yL_looks cL_looks 6 (some .double) [(0, 89, 90, 59), (0, 89, 96, 30), (0, 89, 102, 33)], Cond.classLink RL 59 "java/lang/IndexOutOfBoundsException", Cond.methodLink RL 35 yX1_setPrice, Cond.instanceMethod yX1_setPrice, Cond.selects RX1 yX1_setPrice yX1_setPrice, Cond.code yX1_setPrice cX1_setPrice 2 (some .double), Cond.methodLink RL 39 yX1_replace, Cond.instanceMethod yX1_replace, Cond.selects RX1 yX1_replace yX1_replace, Cond.code yX1_replace cX1_replace 7 (some .double), Cond.methodLink RX1 113 yX1_requireQuarter, Cond.instanceMethod yX1_requireQuarter, Cond.selects RX1 yX1_requireQuarter yX1_requireQuarter, Cond.code yX1_requireQuarter cX1_requireQuarter 2 none]
def wsL_law0_r9 : List Cond := [Cond.classLink RX1 153 "java/lang/IndexOutOfBoundsException", Cond.initialized "java/lang/IndexOutOfBoundsException", Cond.methodLink RL 43 yX1_use, Cond.instanceMethod yX1_use, Cond.selects RX1 yX1_use yX1_use, Cond.code yX1_use cX1_use 3 (some .double), Cond.methodLink RX1 131 yX1_closedSlot, Cond.instanceMethod yX1_closedSlot, Cond.selects RX1 yX1_closedSlot yX1_closedSlot, Cond.code yX1_closedSlot cX1_closedSlot 3 (some .int), Cond.methodLink RL 47 yX1_fromSun, Cond.instanceMethod yX1_fromSun, Cond.selects RX1 yX1_fromSun yX1_fromSun, Cond.code yX1_fromSun cX1_fromSun 3 (some .double), Cond.methodLink RL 50 yX1_fromBattery, Cond.instanceMethod yX1_fromBattery, Cond.selects RX1 yX1_fromBattery yX1_fromBattery, Cond.code yX1_fromBattery cX1_fromBattery 3 (some .double), Cond.methodLink RL 53 yX1_bought, Cond.instanceMethod yX1_bought, Cond.selects RX1 yX1_bought yX1_bought, Cond.code yX1_bought cX1_bought 3 (some .double), Cond.methodLink RL 56 yX1_sold, Cond.instanceMethod yX1_sold]
def wsL_law0_r10 : List Cond := [Cond.selects RX1 yX1_sold yX1_sold, Cond.code yX1_sold cX1_sold 2 (some .double), Cond.methodLink RL 115 yL_areAlike, Cond.static yL_areAlike, Cond.code yL_areAlike cL_areAlike 5 (some .boolean), Cond.methodLink RL 82 yX1_battery, Cond.instanceMethod yX1_battery, Cond.selects RX1 yX1_battery yX1_battery, Cond.code yX1_battery cX1_battery 1 (some .double), Cond.methodLink RL 86 yX1_turn, Cond.instanceMethod yX1_turn, Cond.selects RX1 yX1_turn yX1_turn, Cond.code yX1_turn cX1_turn 1 (some .int), Cond.methodLink RL 89 yX1_bill, Cond.instanceMethod yX1_bill, Cond.selects RX1 yX1_bill yX1_bill, Cond.code yX1_bill cX1_bill 2 (some .double), Cond.methodLink RL 119 yL_isClosedSo, Cond.static yL_isClosedSo, Cond.code yL_isClosedSo cL_isClosedSo 23 (some .boolean), Cond.constantDouble RL 92 (4616189618054758400), Cond.constantDouble RL 98 (4621819117588971520), Cond.constantDouble RL 100 (4636737291354636288), Cond.methodLink RL 94 yL_isNear]
def wsL_law0_r11 : List Cond := [Cond.static yL_isNear, Cond.code yL_isNear cL_isNear 4 (some .boolean), Cond.constantDouble RL 63 (4517329193108106637), Cond.methodLink RL 123 yL_isReplacedSo, Cond.static yL_isReplacedSo, Cond.code yL_isReplacedSo cL_isReplacedSo 14 (some .boolean), Cond.constantDouble RL 102 (4632233691727265792), Cond.constantDouble RL 104 (13855605728582041600)]
def wsL_law0 : List Cond := (wsL_law0_r1 ++ (wsL_law0_r2 ++ (wsL_law0_r3 ++ (wsL_law0_r4 ++ (wsL_law0_r5 ++ (wsL_law0_r6 ++ (wsL_law0_r7 ++ (wsL_law0_r8 ++ (wsL_law0_r9 ++ (wsL_law0_r10 ++ wsL_law0_r11)))))))))) ++ wsX10 ++ wsX00 ++ ([] : List Cond)
def wsL_law : List Cond := wsL_law0 ++ (vx_atS RX1 72 "java/lang/IllegalStateException" ["java/lang/RuntimeException", "java/lang/Exception"]).filter goodWord ++ (vx_atS RX1 150 "java/lang/IllegalArgumentException" ["java/lang/RuntimeException", "java/lang/Exception"]).filter goodWord ++ (vx_atS RX1 157 "java/lang/IndexOutOfBoundsException" ["java/lang/RuntimeException", "java/lang/Exception"]).filter goodWord
end
section
set_option maxRecDepth 20000 in
theorem wsL_law_in0_1 : ∀ w ∈ wsL_law0_r1, w ∈ lw_tbl := fun w h => (goodIn_p wsL_law0_r1 [30, 33] (by decide +kernel) (by decide +kernel) w h).1
set_option maxRecDepth 20000 in
theorem wsL_law_in0_2 : ∀ w ∈ wsL_law0_r2, w ∈ lw_tbl := fun w h => (goodIn_p wsL_law0_r2 [38, 124, 131] (by decide +kernel) (by decide +kernel) w h).1
set_option maxRecDepth 20000 in
theorem wsL_law_in0_3 : ∀ w ∈ wsL_law0_r3, w ∈ lw_tbl := fun w h => (goodIn_p wsL_law0_r3 [127, 140, 143, 214] (by decide +kernel) (by decide +kernel) w h).1
set_option maxRecDepth 20000 in
theorem wsL_law_in0_4 : ∀ w ∈ wsL_law0_r4, w ∈ lw_tbl := fun w h => (goodIn_p wsL_law0_r4 [219, 239, 243, 247, 252] (by decide +kernel) (by decide +kernel) w h).1
set_option maxRecDepth 20000 in
theorem wsL_law_in0_5 : ∀ w ∈ wsL_law0_r5, w ∈ lw_tbl := fun w h => (goodIn_p wsL_law0_r5 [255, 259, 265, 269, 273] (by decide +kernel) (by decide +kernel) w h).1
set_option maxRecDepth 20000 in
theorem wsL_law_in0_6 : ∀ w ∈ wsL_law0_r6, w ∈ lw_tbl := fun w h => (goodIn_p wsL_law0_r6 [277, 282, 286, 290, 294, 298] (by decide +kernel) (by decide +kernel) w h).1
set_option maxRecDepth 20000 in
theorem wsL_law_in0_7 : ∀ w ∈ wsL_law0_r7, w ∈ lw_tbl := fun w h => (goodIn_p wsL_law0_r7 [302, 307, 310, 313, 317] (by decide +kernel) (by decide +kernel) w h).1
set_option maxRecDepth 20000 in
theorem wsL_law_in0_8 : ∀ w ∈ wsL_law0_r8, w ∈ lw_tbl := fun w h => (goodIn_p wsL_law0_r8 [322, 121, 331, 335, 339] (by decide +kernel) (by decide +kernel) w h).1
set_option maxRecDepth 20000 in
theorem wsL_law_in0_9 : ∀ w ∈ wsL_law0_r9, w ∈ lw_tbl := fun w h => (goodIn_p wsL_law0_r9 [360, 364, 368, 372, 376] (by decide +kernel) (by decide +kernel) w h).1
set_option maxRecDepth 20000 in
theorem wsL_law_in0_10 : ∀ w ∈ wsL_law0_r10, w ∈ lw_tbl := fun w h => (goodIn_p wsL_law0_r10 [380, 384, 388, 392, 396, 399] (by decide +kernel) (by decide +kernel) w h).1
set_option maxRecDepth 20000 in
theorem wsL_law_in0_11 : ∀ w ∈ wsL_law0_r11, w ∈ lw_tbl := fun w h => (goodIn_p wsL_law0_r11 [403, 409] (by decide +kernel) (by decide +kernel) w h).1
set_option maxRecDepth 20000 in
theorem wsL_law_in0_wsX10 : ∀ w ∈ wsX10, w ∈ lw_tbl := by decide +kernel
set_option maxRecDepth 20000 in
theorem wsL_law_in0_wsX00 : ∀ w ∈ wsX00, w ∈ lw_tbl := by decide +kernel
theorem wsL_law_in0 : ∀ w ∈ wsL_law0, w ∈ lw_tbl := (List.forall_mem_append.mpr ⟨(List.forall_mem_append.mpr ⟨(List.forall_mem_append.mpr ⟨(List.forall_mem_append.mpr ⟨wsL_law_in0_1, (List.forall_mem_append.mpr ⟨wsL_law_in0_2, (List.forall_mem_append.mpr ⟨wsL_law_in0_3, (List.forall_mem_append.mpr ⟨wsL_law_in0_4, (List.forall_mem_append.mpr ⟨wsL_law_in0_5, (List.forall_mem_append.mpr ⟨wsL_law_in0_6, (List.forall_mem_append.mpr ⟨wsL_law_in0_7, (List.forall_mem_append.mpr ⟨wsL_law_in0_8, (List.forall_mem_append.mpr ⟨wsL_law_in0_9, (List.forall_mem_append.mpr ⟨wsL_law_in0_10, wsL_law_in0_11⟩)⟩)⟩)⟩)⟩)⟩)⟩)⟩)⟩)⟩), wsL_law_in0_wsX10⟩), wsL_law_in0_wsX00⟩), fun _ h => nomatch h⟩)
theorem wsL_law_x0 : ∀ w ∈ (vx_atS RX1 72 "java/lang/IllegalStateException" ["java/lang/RuntimeException", "java/lang/Exception"]).filter goodWord, w ∈ lw_tbl := by decide +kernel
theorem wsL_law_x1 : ∀ w ∈ (vx_atS RX1 150 "java/lang/IllegalArgumentException" ["java/lang/RuntimeException", "java/lang/Exception"]).filter goodWord, w ∈ lw_tbl := by decide +kernel
theorem wsL_law_x2 : ∀ w ∈ (vx_atS RX1 157 "java/lang/IndexOutOfBoundsException" ["java/lang/RuntimeException", "java/lang/Exception"]).filter goodWord, w ∈ lw_tbl := by decide +kernel
theorem wsL_law_in : ∀ w ∈ wsL_law, w ∈ lw_tbl := fun w h => (List.mem_append.mp h).elim (fun h => (List.mem_append.mp h).elim (fun h => (List.mem_append.mp h).elim (fun h => wsL_law_in0 w h) (fun h => wsL_law_x0 w h)) (fun h => wsL_law_x1 w h)) (fun h => wsL_law_x2 w h)
theorem inlX0 : ∀ w ∈ wsX00, w ∈ wsL_law := fun _ h => List.mem_append_left _ (List.mem_append_left _ (List.mem_append_left _ (List.mem_append_left _ (List.mem_append_right _ h))))
theorem inX0 : ∀ w ∈ wsX00, w ∈ lw_tbl := fun w h => wsL_law_in w (inlX0 w h)
theorem inlX1 : ∀ w ∈ wsX10, w ∈ wsL_law := fun _ h => List.mem_append_left _ (List.mem_append_left _ (List.mem_append_left _ (List.mem_append_left _ (List.mem_append_left _ (List.mem_append_right _ h)))))
theorem inX1 : ∀ w ∈ wsX10, w ∈ lw_tbl := fun w h => wsL_law_in w (inlX1 w h)
theorem inX2 : ∀ w ∈ wsX20, w ∈ lw_tbl := by decide +kernel
end
section
theorem inJ9 : ∀ w ∈ wsJ90, w ∈ lw_tbl := by decide +kernel
theorem inJ0 : ∀ w ∈ wsJ00, w ∈ lw_tbl := by decide +kernel
theorem dX0_init_0 : decode cX0_init 0 = .ok (.aload_n 0, 1) := by decide +kernel
theorem dX0_init_1 : decode cX0_init 1 = .ok (.invokespecial 3, 3) := by decide +kernel
theorem dX0_init_4 : decode cX0_init 4 = .ok (.aload_n 0, 1) := by decide +kernel
theorem dX0_init_5 : decode cX0_init 5 = .ok (.iconst 0, 1) := by decide +kernel
theorem dX0_init_6 : decode cX0_init 6 = .ok (.putfield 9, 3) := by decide +kernel
theorem dX0_init_9 : decode cX0_init 9 = .ok (.aload_n 0, 1) := by decide +kernel
theorem dX0_init_10 : decode cX0_init 10 = .ok (.bipush 60, 2) := by decide +kernel
theorem dX0_init_12 : decode cX0_init 12 = .ok (.newarray .double, 2) := by decide +kernel
theorem dX0_init_14 : decode cX0_init 14 = .ok (.putfield 15, 3) := by decide +kernel
theorem dX0_init_17 : decode cX0_init 17 = .ok (.aload_n 0, 1) := by decide +kernel
theorem dX0_init_18 : decode cX0_init 18 = .ok (.bipush 60, 2) := by decide +kernel
theorem dX0_init_20 : decode cX0_init 20 = .ok (.newarray .double, 2) := by decide +kernel
theorem dX0_init_22 : decode cX0_init 22 = .ok (.putfield 19, 3) := by decide +kernel
theorem dX0_init_25 : decode cX0_init 25 = .ok (.aload_n 0, 1) := by decide +kernel
theorem dX0_init_26 : decode cX0_init 26 = .ok (.sipush 300, 3) := by decide +kernel
theorem dX0_init_29 : decode cX0_init 29 = .ok (.newarray .double, 2) := by decide +kernel
theorem dX0_init_31 : decode cX0_init 31 = .ok (.putfield 22, 3) := by decide +kernel
theorem dX0_init_34 : decode cX0_init 34 = .ok (.aload_n 0, 1) := by decide +kernel
theorem dX0_init_35 : decode cX0_init 35 = .ok (.sipush 300, 3) := by decide +kernel
theorem dX0_init_38 : decode cX0_init 38 = .ok (.newarray .boolean, 2) := by decide +kernel
theorem dX0_init_40 : decode cX0_init 40 = .ok (.putfield 25, 3) := by decide +kernel
theorem dX0_init_43 : decode cX0_init 43 = .ok (.aload_n 0, 1) := by decide +kernel
theorem dX0_init_44 : decode cX0_init 44 = .ok (.sipush 300, 3) := by decide +kernel
theorem dX0_init_47 : decode cX0_init 47 = .ok (.newarray .double, 2) := by decide +kernel
theorem dX0_init_49 : decode cX0_init 49 = .ok (.putfield 29, 3) := by decide +kernel
theorem dX0_init_52 : decode cX0_init 52 = .ok (.aload_n 0, 1) := by decide +kernel
theorem dX0_init_53 : decode cX0_init 53 = .ok (.sipush 300, 3) := by decide +kernel
theorem dX0_init_56 : decode cX0_init 56 = .ok (.newarray .double, 2) := by decide +kernel
theorem dX0_init_58 : decode cX0_init 58 = .ok (.putfield 32, 3) := by decide +kernel
theorem dX0_init_61 : decode cX0_init 61 = .ok (.aload_n 0, 1) := by decide +kernel
theorem dX0_init_62 : decode cX0_init 62 = .ok (.sipush 300, 3) := by decide +kernel
theorem dX0_init_65 : decode cX0_init 65 = .ok (.newarray .double, 2) := by decide +kernel
theorem dX0_init_67 : decode cX0_init 67 = .ok (.putfield 35, 3) := by decide +kernel
theorem dX0_init_70 : decode cX0_init 70 = .ok (.aload_n 0, 1) := by decide +kernel
theorem dX0_init_71 : decode cX0_init 71 = .ok (.sipush 300, 3) := by decide +kernel
theorem dX0_init_74 : decode cX0_init 74 = .ok (.newarray .double, 2) := by decide +kernel
theorem dX0_init_76 : decode cX0_init 76 = .ok (.putfield 38, 3) := by decide +kernel
theorem dX0_init_79 : decode cX0_init 79 = .ok (.return_, 1) := by decide +kernel
theorem dX0_slot_0 : decode cX0_slot 0 = .ok (.iload_n 1, 1) := by decide +kernel
theorem dX0_slot_1 : decode cX0_slot 1 = .ok (.iconst 5, 1) := by decide +kernel
theorem dX0_slot_2 : decode cX0_slot 2 = .ok (.imul, 1) := by decide +kernel
theorem dX0_slot_3 : decode cX0_slot 3 = .ok (.iload_n 0, 1) := by decide +kernel
theorem dX0_slot_4 : decode cX0_slot 4 = .ok (.iadd, 1) := by decide +kernel
theorem dX0_slot_5 : decode cX0_slot 5 = .ok (.ireturn, 1) := by decide +kernel
set_option maxRecDepth 20000 in
theorem ggX0_guess_X0_slot : GoodIn wsX0_guess wsX0_slot := goodIn_r _ [8] (by decide +kernel) (by decide +kernel)
set_option maxRecDepth 20000 in
theorem gX0_guess_X0_slot : GoodIn wsX0_guess (va_wsS RX0 41 yX0_slot wsX0_slot) := goodIn_app (goodIn_of _ (by decide +kernel)) ggX0_guess_X0_slot
theorem dX0_guess_0 : decode cX0_guess 0 = .ok (.dconst 0, 1) := by decide +kernel
theorem dX0_guess_1 : decode cX0_guess 1 = .ok (.dstore_n 2, 1) := by decide +kernel
theorem dX0_guess_2 : decode cX0_guess 2 = .ok (.iconst 0, 1) := by decide +kernel
theorem dX0_guess_3 : decode cX0_guess 3 = .ok (.istore 4, 2) := by decide +kernel
theorem dX0_guess_5 : decode cX0_guess 5 = .ok (.aload_n 0, 1) := by decide +kernel
theorem dX0_guess_6 : decode cX0_guess 6 = .ok (.getfield 9, 3) := by decide +kernel
theorem dX0_guess_9 : decode cX0_guess 9 = .ok (.iconst 1, 1) := by decide +kernel
theorem dX0_guess_10 : decode cX0_guess 10 = .ok (.isub, 1) := by decide +kernel
theorem dX0_guess_11 : decode cX0_guess 11 = .ok (.istore 5, 2) := by decide +kernel
theorem dX0_guess_13 : decode cX0_guess 13 = .ok (.iload 5, 2) := by decide +kernel
theorem dX0_guess_15 : decode cX0_guess 15 = .ok (.ifCond .lt 46, 3) := by decide +kernel
theorem dX0_guess_18 : decode cX0_guess 18 = .ok (.iload 4, 2) := by decide +kernel
theorem dX0_guess_20 : decode cX0_guess 20 = .ok (.iconst 2, 1) := by decide +kernel
theorem dX0_guess_21 : decode cX0_guess 21 = .ok (.if_icmp .ge 40, 3) := by decide +kernel
theorem dX0_guess_24 : decode cX0_guess 24 = .ok (.iload_n 1, 1) := by decide +kernel
theorem dX0_guess_25 : decode cX0_guess 25 = .ok (.iload 5, 2) := by decide +kernel
theorem dX0_guess_27 : decode cX0_guess 27 = .ok (.invokestatic 41, 3) := by decide +kernel
theorem dX0_guess_30 : decode cX0_guess 30 = .ok (.istore 6, 2) := by decide +kernel
theorem dX0_guess_32 : decode cX0_guess 32 = .ok (.aload_n 0, 1) := by decide +kernel
theorem dX0_guess_33 : decode cX0_guess 33 = .ok (.getfield 25, 3) := by decide +kernel
theorem dX0_guess_36 : decode cX0_guess 36 = .ok (.iload 6, 2) := by decide +kernel
theorem dX0_guess_38 : decode cX0_guess 38 = .ok (.baload, 1) := by decide +kernel
theorem dX0_guess_39 : decode cX0_guess 39 = .ok (.ifCond .eq 16, 3) := by decide +kernel
theorem dX0_guess_42 : decode cX0_guess 42 = .ok (.dload_n 2, 1) := by decide +kernel
theorem dX0_guess_43 : decode cX0_guess 43 = .ok (.aload_n 0, 1) := by decide +kernel
theorem dX0_guess_44 : decode cX0_guess 44 = .ok (.getfield 22, 3) := by decide +kernel
theorem dX0_guess_47 : decode cX0_guess 47 = .ok (.iload 6, 2) := by decide +kernel
theorem dX0_guess_49 : decode cX0_guess 49 = .ok (.daload, 1) := by decide +kernel
theorem dX0_guess_50 : decode cX0_guess 50 = .ok (.dadd, 1) := by decide +kernel
theorem dX0_guess_51 : decode cX0_guess 51 = .ok (.dstore_n 2, 1) := by decide +kernel
theorem dX0_guess_52 : decode cX0_guess 52 = .ok (.iinc 4 1, 3) := by decide +kernel
theorem dX0_guess_55 : decode cX0_guess 55 = .ok (.iinc 5 (-1), 3) := by decide +kernel
theorem dX0_guess_58 : decode cX0_guess 58 = .ok (.goto (-45), 3) := by decide +kernel
theorem dX0_guess_61 : decode cX0_guess 61 = .ok (.iload 4, 2) := by decide +kernel
theorem dX0_guess_63 : decode cX0_guess 63 = .ok (.iconst 2, 1) := by decide +kernel
theorem dX0_guess_64 : decode cX0_guess 64 = .ok (.if_icmp .ne 11, 3) := by decide +kernel
theorem dX0_guess_67 : decode cX0_guess 67 = .ok (.dload_n 2, 1) := by decide +kernel
theorem dX0_guess_68 : decode cX0_guess 68 = .ok (.ldc2_w 45, 3) := by decide +kernel
theorem dX0_guess_71 : decode cX0_guess 71 = .ok (.ddiv, 1) := by decide +kernel
theorem dX0_guess_72 : decode cX0_guess 72 = .ok (.goto 4, 3) := by decide +kernel
theorem dX0_guess_75 : decode cX0_guess 75 = .ok (.dload_n 2, 1) := by decide +kernel
theorem dX0_guess_76 : decode cX0_guess 76 = .ok (.dreturn, 1) := by decide +kernel
set_option maxRecDepth 20000 in
theorem ggX1_init_X0_init : GoodIn wsX1_init wsX0_init := goodIn_r _ [24, 25, 2, 3, 26, 9, 27, 28, 29, 6, 30, 31, 32, 33, 34, 47, 48, 49, 50, 51, 52, 53, 54, 55] (by decide +kernel) (by decide +kernel)
set_option maxRecDepth 20000 in
theorem gX1_init_X0_init_n32 : GoodIn wsX1_init (wsX0_init) := ggX1_init_X0_init
theorem dX1_init_0 : decode cX1_init 0 = .ok (.aload_n 0, 1) := by decide +kernel
theorem dX1_init_1 : decode cX1_init 1 = .ok (.invokespecial 1, 3) := by decide +kernel
theorem dX1_init_4 : decode cX1_init 4 = .ok (.aload_n 0, 1) := by decide +kernel
theorem dX1_init_5 : decode cX1_init 5 = .ok (.iconst 5, 1) := by decide +kernel
theorem dX1_init_6 : decode cX1_init 6 = .ok (.newarray .int, 2) := by decide +kernel
theorem dX1_init_8 : decode cX1_init 8 = .ok (.putfield 9, 3) := by decide +kernel
theorem dX1_init_11 : decode cX1_init 11 = .ok (.aload_n 0, 1) := by decide +kernel
theorem dX1_init_12 : decode cX1_init 12 = .ok (.iconst 5, 1) := by decide +kernel
theorem dX1_init_13 : decode cX1_init 13 = .ok (.newarray .boolean, 2) := by decide +kernel
theorem dX1_init_15 : decode cX1_init 15 = .ok (.putfield 13, 3) := by decide +kernel
theorem dX1_init_18 : decode cX1_init 18 = .ok (.aload_n 0, 1) := by decide +kernel
theorem dX1_init_19 : decode cX1_init 19 = .ok (.iconst 5, 1) := by decide +kernel
theorem dX1_init_20 : decode cX1_init 20 = .ok (.newarray .int, 2) := by decide +kernel
theorem dX1_init_22 : decode cX1_init 22 = .ok (.putfield 17, 3) := by decide +kernel
theorem dX1_init_25 : decode cX1_init 25 = .ok (.aload_n 0, 1) := by decide +kernel
theorem dX1_init_26 : decode cX1_init 26 = .ok (.iconst 5, 1) := by decide +kernel
theorem dX1_init_27 : decode cX1_init 27 = .ok (.newarray .double, 2) := by decide +kernel
theorem dX1_init_29 : decode cX1_init 29 = .ok (.putfield 20, 3) := by decide +kernel
theorem dX1_init_32 : decode cX1_init 32 = .ok (.aload_n 0, 1) := by decide +kernel
theorem dX1_init_33 : decode cX1_init 33 = .ok (.iconst 5, 1) := by decide +kernel
theorem dX1_init_34 : decode cX1_init 34 = .ok (.newarray .boolean, 2) := by decide +kernel
theorem dX1_init_36 : decode cX1_init 36 = .ok (.putfield 24, 3) := by decide +kernel
theorem dX1_init_39 : decode cX1_init 39 = .ok (.aload_n 0, 1) := by decide +kernel
theorem dX1_init_40 : decode cX1_init 40 = .ok (.iconst 5, 1) := by decide +kernel
theorem dX1_init_41 : decode cX1_init 41 = .ok (.newarray .int, 2) := by decide +kernel
theorem dX1_init_43 : decode cX1_init 43 = .ok (.putfield 27, 3) := by decide +kernel
theorem dX1_init_46 : decode cX1_init 46 = .ok (.aload_n 0, 1) := by decide +kernel
theorem dX1_init_47 : decode cX1_init 47 = .ok (.new 30, 3) := by decide +kernel
theorem dX1_init_50 : decode cX1_init 50 = .ok (.dup, 1) := by decide +kernel
theorem dX1_init_51 : decode cX1_init 51 = .ok (.invokespecial 32, 3) := by decide +kernel
theorem dX1_init_54 : decode cX1_init 54 = .ok (.putfield 33, 3) := by decide +kernel
theorem dX1_init_57 : decode cX1_init 57 = .ok (.aload_n 0, 1) := by decide +kernel
theorem dX1_init_58 : decode cX1_init 58 = .ok (.ldc2_w 37, 3) := by decide +kernel
theorem dX1_init_61 : decode cX1_init 61 = .ok (.putfield 39, 3) := by decide +kernel
theorem dX1_init_64 : decode cX1_init 64 = .ok (.aload_n 0, 1) := by decide +kernel
theorem dX1_init_65 : decode cX1_init 65 = .ok (.dconst 0, 1) := by decide +kernel
theorem dX1_init_66 : decode cX1_init 66 = .ok (.putfield 43, 3) := by decide +kernel
theorem dX1_init_69 : decode cX1_init 69 = .ok (.aload_n 0, 1) := by decide +kernel
theorem dX1_init_70 : decode cX1_init 70 = .ok (.iconst 0, 1) := by decide +kernel
theorem dX1_init_71 : decode cX1_init 71 = .ok (.putfield 46, 3) := by decide +kernel
theorem dX1_init_74 : decode cX1_init 74 = .ok (.aload_n 0, 1) := by decide +kernel
theorem dX1_init_75 : decode cX1_init 75 = .ok (.iconst 5, 1) := by decide +kernel
theorem dX1_init_76 : decode cX1_init 76 = .ok (.newarray .double, 2) := by decide +kernel
theorem dX1_init_78 : decode cX1_init 78 = .ok (.putfield 50, 3) := by decide +kernel
theorem dX1_init_81 : decode cX1_init 81 = .ok (.aload_n 0, 1) := by decide +kernel
theorem dX1_init_82 : decode cX1_init 82 = .ok (.dconst 0, 1) := by decide +kernel
theorem dX1_init_83 : decode cX1_init 83 = .ok (.putfield 53, 3) := by decide +kernel
theorem dX1_init_86 : decode cX1_init 86 = .ok (.iconst 0, 1) := by decide +kernel
theorem dX1_init_87 : decode cX1_init 87 = .ok (.istore_n 1, 1) := by decide +kernel
theorem dX1_init_88 : decode cX1_init 88 = .ok (.iload_n 1, 1) := by decide +kernel
theorem dX1_init_89 : decode cX1_init 89 = .ok (.iconst 5, 1) := by decide +kernel
theorem dX1_init_90 : decode cX1_init 90 = .ok (.if_icmp .ge 16, 3) := by decide +kernel
theorem dX1_init_93 : decode cX1_init 93 = .ok (.aload_n 0, 1) := by decide +kernel
theorem dX1_init_94 : decode cX1_init 94 = .ok (.getfield 13, 3) := by decide +kernel
theorem dX1_init_97 : decode cX1_init 97 = .ok (.iload_n 1, 1) := by decide +kernel
theorem dX1_init_98 : decode cX1_init 98 = .ok (.iconst 1, 1) := by decide +kernel
theorem dX1_init_99 : decode cX1_init 99 = .ok (.bastore, 1) := by decide +kernel
theorem dX1_init_100 : decode cX1_init 100 = .ok (.iinc 1 1, 3) := by decide +kernel
theorem dX1_init_103 : decode cX1_init 103 = .ok (.goto (-15), 3) := by decide +kernel
theorem dX1_init_106 : decode cX1_init 106 = .ok (.return_, 1) := by decide +kernel
set_option maxRecDepth 20000 in
theorem ggX1_setShare_X1_requireOwner : GoodIn wsX1_setShare wsX1_requireOwner := goodIn_ca (goodIn_r _ [7, 8, 9] (by decide +kernel) (by decide +kernel)) (goodIn_sub (fun _ h => List.mem_cons_of_mem _ (List.mem_append_right _ h)) (by decide +kernel))
set_option maxRecDepth 20000 in
theorem gX1_setShare_X1_requireOwner : GoodIn wsX1_setShare (va_wsS RX1 56 yX1_requireOwner wsX1_requireOwner) := goodIn_app (goodIn_of _ (by decide +kernel)) ggX1_setShare_X1_requireOwner
set_option maxRecDepth 20000 in
theorem ggX1_setShare_X1_requireWithin : GoodIn wsX1_setShare wsX1_requireWithin := goodIn_ca (goodIn_r _ [12, 8, 9] (by decide +kernel) (by decide +kernel)) (goodIn_sub (fun _ h => List.mem_cons_of_mem _ (List.mem_append_right _ h)) (by decide +kernel))
set_option maxRecDepth 20000 in
theorem gX1_setShare_X1_requireWithin : GoodIn wsX1_setShare (va_wsS RX1 60 yX1_requireWithin wsX1_requireWithin) := goodIn_app (goodIn_of _ (by decide +kernel)) ggX1_setShare_X1_requireWithin
set_option maxRecDepth 20000 in
theorem ggX1_setShare_X1_sumOfShares : GoodIn wsX1_setShare wsX1_sumOfShares := goodIn_r _ [16, 3, 17, 18, 19, 20, 21, 22, 23, 24, 25, 26, 27, 28] (by decide +kernel) (by decide +kernel)
set_option maxRecDepth 20000 in
theorem gX1_setShare_X1_sumOfShares : GoodIn wsX1_setShare (wsV RX1 64 RX1 yX1_sumOfShares wsX1_sumOfShares) := goodIn_app (goodIn_of _ (by decide +kernel)) ggX1_setShare_X1_sumOfShares
theorem dX1_setShare_0 : decode cX1_setShare 0 = .ok (.iload_n 1, 1) := by decide +kernel
theorem dX1_setShare_1 : decode cX1_setShare 1 = .ok (.invokestatic 56, 3) := by decide +kernel
theorem dX1_setShare_4 : decode cX1_setShare 4 = .ok (.iload_n 2, 1) := by decide +kernel
theorem dX1_setShare_5 : decode cX1_setShare 5 = .ok (.iconst 0, 1) := by decide +kernel
theorem dX1_setShare_6 : decode cX1_setShare 6 = .ok (.iconst 4, 1) := by decide +kernel
theorem dX1_setShare_7 : decode cX1_setShare 7 = .ok (.invokestatic 60, 3) := by decide +kernel
theorem dX1_setShare_10 : decode cX1_setShare 10 = .ok (.aload_n 0, 1) := by decide +kernel
theorem dX1_setShare_11 : decode cX1_setShare 11 = .ok (.getfield 9, 3) := by decide +kernel
theorem dX1_setShare_14 : decode cX1_setShare 14 = .ok (.iload_n 1, 1) := by decide +kernel
theorem dX1_setShare_15 : decode cX1_setShare 15 = .ok (.iaload, 1) := by decide +kernel
theorem dX1_setShare_16 : decode cX1_setShare 16 = .ok (.istore_n 3, 1) := by decide +kernel
theorem dX1_setShare_17 : decode cX1_setShare 17 = .ok (.aload_n 0, 1) := by decide +kernel
theorem dX1_setShare_18 : decode cX1_setShare 18 = .ok (.invokevirtual 64, 3) := by decide +kernel
theorem dX1_setShare_21 : decode cX1_setShare 21 = .ok (.iload_n 3, 1) := by decide +kernel
theorem dX1_setShare_22 : decode cX1_setShare 22 = .ok (.isub, 1) := by decide +kernel
theorem dX1_setShare_23 : decode cX1_setShare 23 = .ok (.iload_n 2, 1) := by decide +kernel
theorem dX1_setShare_24 : decode cX1_setShare 24 = .ok (.iadd, 1) := by decide +kernel
theorem dX1_setShare_25 : decode cX1_setShare 25 = .ok (.iconst 4, 1) := by decide +kernel
theorem dX1_setShare_26 : decode cX1_setShare 26 = .ok (.if_icmp .le 13, 3) := by decide +kernel
theorem dX1_setShare_29 : decode cX1_setShare 29 = .ok (.new 68, 3) := by decide +kernel
theorem dX1_setShare_32 : decode cX1_setShare 32 = .ok (.dup, 1) := by decide +kernel
theorem dX1_setShare_33 : decode cX1_setShare 33 = .ok (.ldc 70, 2) := by decide +kernel
theorem dX1_setShare_35 : decode cX1_setShare 35 = .ok (.invokespecial 72, 3) := by decide +kernel
theorem dX1_setShare_38 : decode cX1_setShare 38 = .ok (.athrow, 1) := by decide +kernel
theorem dX1_setShare_39 : decode cX1_setShare 39 = .ok (.aload_n 0, 1) := by decide +kernel
theorem dX1_setShare_40 : decode cX1_setShare 40 = .ok (.getfield 9, 3) := by decide +kernel
theorem dX1_setShare_43 : decode cX1_setShare 43 = .ok (.iload_n 1, 1) := by decide +kernel
theorem dX1_setShare_44 : decode cX1_setShare 44 = .ok (.iload_n 2, 1) := by decide +kernel
theorem dX1_setShare_45 : decode cX1_setShare 45 = .ok (.iastore, 1) := by decide +kernel
theorem dX1_setShare_46 : decode cX1_setShare 46 = .ok (.iload_n 3, 1) := by decide +kernel
theorem dX1_setShare_47 : decode cX1_setShare 47 = .ok (.ireturn, 1) := by decide +kernel
set_option maxRecDepth 20000 in
theorem ggX1_setSwitch_X1_requireOwner : GoodIn wsX1_setSwitch wsX1_requireOwner := goodIn_ca (goodIn_r _ [5, 6, 7] (by decide +kernel) (by decide +kernel)) (goodIn_sub (fun _ h => List.mem_cons_of_mem _ (List.mem_append_right _ h)) (by decide +kernel))
set_option maxRecDepth 20000 in
theorem gX1_setSwitch_X1_requireOwner : GoodIn wsX1_setSwitch (va_wsS RX1 56 yX1_requireOwner wsX1_requireOwner) := goodIn_app (goodIn_of _ (by decide +kernel)) ggX1_setSwitch_X1_requireOwner
theorem dX1_setSwitch_0 : decode cX1_setSwitch 0 = .ok (.iload_n 1, 1) := by decide +kernel
theorem dX1_setSwitch_1 : decode cX1_setSwitch 1 = .ok (.invokestatic 56, 3) := by decide +kernel
theorem dX1_setSwitch_4 : decode cX1_setSwitch 4 = .ok (.aload_n 0, 1) := by decide +kernel
theorem dX1_setSwitch_5 : decode cX1_setSwitch 5 = .ok (.getfield 13, 3) := by decide +kernel
theorem dX1_setSwitch_8 : decode cX1_setSwitch 8 = .ok (.iload_n 1, 1) := by decide +kernel
theorem dX1_setSwitch_9 : decode cX1_setSwitch 9 = .ok (.baload, 1) := by decide +kernel
theorem dX1_setSwitch_10 : decode cX1_setSwitch 10 = .ok (.istore_n 3, 1) := by decide +kernel
theorem dX1_setSwitch_11 : decode cX1_setSwitch 11 = .ok (.aload_n 0, 1) := by decide +kernel
theorem dX1_setSwitch_12 : decode cX1_setSwitch 12 = .ok (.getfield 13, 3) := by decide +kernel
theorem dX1_setSwitch_15 : decode cX1_setSwitch 15 = .ok (.iload_n 1, 1) := by decide +kernel
theorem dX1_setSwitch_16 : decode cX1_setSwitch 16 = .ok (.iload_n 2, 1) := by decide +kernel
theorem dX1_setSwitch_17 : decode cX1_setSwitch 17 = .ok (.bastore, 1) := by decide +kernel
theorem dX1_setSwitch_18 : decode cX1_setSwitch 18 = .ok (.iload_n 3, 1) := by decide +kernel
theorem dX1_setSwitch_19 : decode cX1_setSwitch 19 = .ok (.ireturn, 1) := by decide +kernel
set_option maxRecDepth 20000 in
theorem ggX1_setPrice_X1_requireWithin : GoodIn wsX1_setPrice wsX1_requireWithin := goodIn_ca (goodIn_r _ [6, 7, 8] (by decide +kernel) (by decide +kernel)) (goodIn_sub (fun _ h => List.mem_cons_of_mem _ (List.mem_append_right _ h)) (by decide +kernel))
set_option maxRecDepth 20000 in
theorem gX1_setPrice_X1_requireWithin : GoodIn wsX1_setPrice (va_wsS RX1 60 yX1_requireWithin wsX1_requireWithin) := goodIn_app (goodIn_of _ (by decide +kernel)) ggX1_setPrice_X1_requireWithin
theorem dX1_setPrice_0 : decode cX1_setPrice 0 = .ok (.iload_n 1, 1) := by decide +kernel
theorem dX1_setPrice_1 : decode cX1_setPrice 1 = .ok (.iconst 1, 1) := by decide +kernel
theorem dX1_setPrice_2 : decode cX1_setPrice 2 = .ok (.iconst 4, 1) := by decide +kernel
theorem dX1_setPrice_3 : decode cX1_setPrice 3 = .ok (.invokestatic 60, 3) := by decide +kernel
theorem dX1_setPrice_6 : decode cX1_setPrice 6 = .ok (.aload_n 0, 1) := by decide +kernel
theorem dX1_setPrice_7 : decode cX1_setPrice 7 = .ok (.iload_n 1, 1) := by decide +kernel
theorem dX1_setPrice_8 : decode cX1_setPrice 8 = .ok (.i2d, 1) := by decide +kernel
theorem dX1_setPrice_9 : decode cX1_setPrice 9 = .ok (.ldc2_w 75, 3) := by decide +kernel
theorem dX1_setPrice_12 : decode cX1_setPrice 12 = .ok (.ddiv, 1) := by decide +kernel
theorem dX1_setPrice_13 : decode cX1_setPrice 13 = .ok (.putfield 39, 3) := by decide +kernel
theorem dX1_setPrice_16 : decode cX1_setPrice 16 = .ok (.aload_n 0, 1) := by decide +kernel
theorem dX1_setPrice_17 : decode cX1_setPrice 17 = .ok (.getfield 39, 3) := by decide +kernel
theorem dX1_setPrice_20 : decode cX1_setPrice 20 = .ok (.dreturn, 1) := by decide +kernel
set_option maxRecDepth 20000 in
theorem ggX1_tell_X1_requireOwner : GoodIn wsX1_tell wsX1_requireOwner := goodIn_ca (goodIn_r _ [6, 7, 8] (by decide +kernel) (by decide +kernel)) (goodIn_sub (fun _ h => List.mem_cons_of_mem _ (List.mem_append_right _ h)) (by decide +kernel))
set_option maxRecDepth 20000 in
theorem gX1_tell_X1_requireOwner : GoodIn wsX1_tell (va_wsS RX1 56 yX1_requireOwner wsX1_requireOwner) := goodIn_app (goodIn_of _ (by decide +kernel)) ggX1_tell_X1_requireOwner
set_option maxRecDepth 20000 in
theorem ggX1_tell_X1_requireWithin : GoodIn wsX1_tell wsX1_requireWithin := goodIn_ca (goodIn_r _ [11, 7, 8] (by decide +kernel) (by decide +kernel)) (goodIn_sub (fun _ h => List.mem_cons_of_mem _ (List.mem_append_right _ h)) (by decide +kernel))
set_option maxRecDepth 20000 in
theorem gX1_tell_X1_requireWithin : GoodIn wsX1_tell (va_wsS RX1 60 yX1_requireWithin wsX1_requireWithin) := goodIn_app (goodIn_of _ (by decide +kernel)) ggX1_tell_X1_requireWithin
theorem dX1_tell_0 : decode cX1_tell 0 = .ok (.iload_n 1, 1) := by decide +kernel
theorem dX1_tell_1 : decode cX1_tell 1 = .ok (.invokestatic 56, 3) := by decide +kernel
theorem dX1_tell_4 : decode cX1_tell 4 = .ok (.iload_n 2, 1) := by decide +kernel
theorem dX1_tell_5 : decode cX1_tell 5 = .ok (.iconst 0, 1) := by decide +kernel
theorem dX1_tell_6 : decode cX1_tell 6 = .ok (.bipush 50, 2) := by decide +kernel
theorem dX1_tell_8 : decode cX1_tell 8 = .ok (.invokestatic 60, 3) := by decide +kernel
theorem dX1_tell_11 : decode cX1_tell 11 = .ok (.aload_n 0, 1) := by decide +kernel
theorem dX1_tell_12 : decode cX1_tell 12 = .ok (.getfield 24, 3) := by decide +kernel
theorem dX1_tell_15 : decode cX1_tell 15 = .ok (.iload_n 1, 1) := by decide +kernel
theorem dX1_tell_16 : decode cX1_tell 16 = .ok (.baload, 1) := by decide +kernel
theorem dX1_tell_17 : decode cX1_tell 17 = .ok (.istore_n 3, 1) := by decide +kernel
theorem dX1_tell_18 : decode cX1_tell 18 = .ok (.aload_n 0, 1) := by decide +kernel
theorem dX1_tell_19 : decode cX1_tell 19 = .ok (.getfield 24, 3) := by decide +kernel
theorem dX1_tell_22 : decode cX1_tell 22 = .ok (.iload_n 1, 1) := by decide +kernel
theorem dX1_tell_23 : decode cX1_tell 23 = .ok (.iconst 1, 1) := by decide +kernel
theorem dX1_tell_24 : decode cX1_tell 24 = .ok (.bastore, 1) := by decide +kernel
theorem dX1_tell_25 : decode cX1_tell 25 = .ok (.aload_n 0, 1) := by decide +kernel
theorem dX1_tell_26 : decode cX1_tell 26 = .ok (.getfield 27, 3) := by decide +kernel
theorem dX1_tell_29 : decode cX1_tell 29 = .ok (.iload_n 1, 1) := by decide +kernel
theorem dX1_tell_30 : decode cX1_tell 30 = .ok (.iload_n 2, 1) := by decide +kernel
theorem dX1_tell_31 : decode cX1_tell 31 = .ok (.iastore, 1) := by decide +kernel
theorem dX1_tell_32 : decode cX1_tell 32 = .ok (.iload_n 3, 1) := by decide +kernel
theorem dX1_tell_33 : decode cX1_tell 33 = .ok (.ireturn, 1) := by decide +kernel
set_option maxRecDepth 20000 in
theorem ggX1_close_X1_requireWithin : GoodIn wsX1_close wsX1_requireWithin := goodIn_ca (goodIn_r _ [11, 12, 13] (by decide +kernel) (by decide +kernel)) (goodIn_sub (fun _ h => List.mem_cons_of_mem _ (List.mem_append_right _ h)) (by decide +kernel))
set_option maxRecDepth 20000 in
theorem gX1_close_X1_requireWithin : GoodIn wsX1_close (va_wsS RX1 60 yX1_requireWithin wsX1_requireWithin) := goodIn_app (goodIn_of _ (by decide +kernel)) ggX1_close_X1_requireWithin
set_option maxRecDepth 20000 in
theorem ggX1_close_X1_writeUses : GoodIn wsX1_close wsX1_writeUses := goodIn_r _ [17, 18, 19, 3, 20, 21, 22, 23, 24, 25, 26, 27, 28, 29, 30, 31, 32, 33, 34, 35, 105, 106, 107, 108, 109, 110, 111, 112, 113, 114, 115, 116, 117, 118, 119, 120, 121, 122, 123, 124, 125] (by decide +kernel) (by decide +kernel)
set_option maxRecDepth 20000 in
theorem gX1_close_X1_writeUses : GoodIn wsX1_close (wsV RX1 84 RX1 yX1_writeUses wsX1_writeUses) := goodIn_app (goodIn_of _ (by decide +kernel)) ggX1_close_X1_writeUses
set_option maxRecDepth 20000 in
theorem ggX1_close_X1_shedUntilCarried : GoodIn wsX1_close wsX1_shedUntilCarried := goodIn_r _ [39, 22, 40, 41, 42, 43, 10, 44, 45, 46, 47, 48, 49, 50, 51, 52, 53, 54, 105, 106, 107, 108, 109, 110, 111, 112, 113, 114, 115, 116] (by decide +kernel) (by decide +kernel)
set_option maxRecDepth 20000 in
theorem gX1_close_X1_shedUntilCarried : GoodIn wsX1_close (wsV RX1 87 RX1 yX1_shedUntilCarried wsX1_shedUntilCarried) := goodIn_app (goodIn_of _ (by decide +kernel)) ggX1_close_X1_shedUntilCarried
set_option maxRecDepth 20000 in
theorem ggX1_close_X1_isOverLine : GoodIn wsX1_close wsX1_isOverLine := goodIn_r _ [49, 50, 51, 52, 53, 10, 54, 22, 105, 106, 107, 108, 109, 110, 111, 112, 113, 114, 115, 116] (by decide +kernel) (by decide +kernel)
set_option maxRecDepth 20000 in
theorem gX1_close_X1_isOverLine : GoodIn wsX1_close (wsV RX1 90 RX1 yX1_isOverLine wsX1_isOverLine) := goodIn_app (goodIn_of _ (by decide +kernel)) ggX1_close_X1_isOverLine
set_option maxRecDepth 20000 in
theorem ggX1_close_X1_writeUsed : GoodIn wsX1_close wsX1_writeUsed := goodIn_r _ [58, 3, 59, 22, 23, 24, 25, 26, 105, 106, 107, 108, 109, 110, 111, 112, 113, 114, 115, 116, 117, 118, 119, 120, 121, 122, 123, 124, 125] (by decide +kernel) (by decide +kernel)
set_option maxRecDepth 20000 in
theorem gX1_close_X1_writeUsed : GoodIn wsX1_close (wsV RX1 94 RX1 yX1_writeUsed wsX1_writeUsed) := goodIn_app (goodIn_of _ (by decide +kernel)) ggX1_close_X1_writeUsed
set_option maxRecDepth 20000 in
theorem ggX1_close_X1_giveByShare : GoodIn wsX1_close wsX1_giveByShare := goodIn_r _ [63, 64, 65, 22, 7, 66, 67, 10, 68, 69, 70, 71, 72, 3, 73, 23, 24, 25, 26, 105, 106, 107, 108, 109, 110, 111, 112, 113, 114, 115, 116, 117, 118, 119, 120, 121, 122, 123, 124, 125] (by decide +kernel) (by decide +kernel)
set_option maxRecDepth 20000 in
theorem gX1_close_X1_giveByShare : GoodIn wsX1_close (wsV RX1 97 RX1 yX1_giveByShare wsX1_giveByShare) := goodIn_app (goodIn_of _ (by decide +kernel)) ggX1_close_X1_giveByShare
set_option maxRecDepth 20000 in
theorem ggX1_close_X1_giveByNeed : GoodIn wsX1_close wsX1_giveByNeed := goodIn_r _ [77, 7, 22, 51, 52, 53, 10, 54, 69, 70, 71, 72, 3, 73, 23, 24, 25, 26, 105, 106, 107, 108, 109, 110, 111, 112, 113, 114, 115, 116, 117, 118, 119, 120, 121, 122, 123, 124, 125] (by decide +kernel) (by decide +kernel)
set_option maxRecDepth 20000 in
theorem gX1_close_X1_giveByNeed : GoodIn wsX1_close (wsV RX1 101 RX1 yX1_giveByNeed wsX1_giveByNeed) := goodIn_app (goodIn_of _ (by decide +kernel)) ggX1_close_X1_giveByNeed
set_option maxRecDepth 20000 in
theorem ggX1_close_X1_storeOrSell : GoodIn wsX1_close wsX1_storeOrSell := goodIn_r _ [81, 82, 83, 7, 3, 84, 105, 106, 107, 108, 109, 110, 111, 112, 113, 114, 115, 116, 117, 118, 119, 120, 121, 122, 123, 124, 125] (by decide +kernel) (by decide +kernel)
set_option maxRecDepth 20000 in
theorem gX1_close_X1_storeOrSell : GoodIn wsX1_close (wsV RX1 104 RX1 yX1_storeOrSell wsX1_storeOrSell) := goodIn_app (goodIn_of _ (by decide +kernel)) ggX1_close_X1_storeOrSell
set_option maxRecDepth 20000 in
theorem ggX1_close_X1_giveFromBattery : GoodIn wsX1_close wsX1_giveFromBattery := goodIn_r _ [88, 89, 22, 83, 3, 90, 66, 67, 10, 68, 23, 24, 25, 26, 91, 92, 93, 94, 95, 96, 97, 105, 106, 107, 108, 109, 110, 111, 112, 113, 114, 115, 116, 117, 118, 119, 120, 121, 122, 123, 124, 125] (by decide +kernel) (by decide +kernel)
set_option maxRecDepth 20000 in
theorem gX1_close_X1_giveFromBattery : GoodIn wsX1_close (wsV RX1 107 RX1 yX1_giveFromBattery wsX1_giveFromBattery) := goodIn_app (goodIn_of _ (by decide +kernel)) ggX1_close_X1_giveFromBattery
set_option maxRecDepth 20000 in
theorem ggX1_close_X1_writeBills : GoodIn wsX1_close wsX1_writeBills := goodIn_r _ [101, 3, 84, 6, 102, 103, 22, 104, 23, 24, 25, 26, 105, 106, 107, 108, 109, 110, 111, 112, 113, 114, 115, 116, 117, 118, 119, 120, 121, 122, 123, 124, 125] (by decide +kernel) (by decide +kernel)
set_option maxRecDepth 20000 in
theorem gX1_close_X1_writeBills : GoodIn wsX1_close (wsV RX1 110 RX1 yX1_writeBills wsX1_writeBills) := goodIn_app (goodIn_of _ (by decide +kernel)) ggX1_close_X1_writeBills
theorem dX1_close_0 : decode cX1_close 0 = .ok (.iload_n 1, 1) := by decide +kernel
theorem dX1_close_1 : decode cX1_close 1 = .ok (.iconst 0, 1) := by decide +kernel
theorem dX1_close_2 : decode cX1_close 2 = .ok (.bipush 100, 2) := by decide +kernel
theorem dX1_close_4 : decode cX1_close 4 = .ok (.invokestatic 60, 3) := by decide +kernel
theorem dX1_close_7 : decode cX1_close 7 = .ok (.aload_n 0, 1) := by decide +kernel
theorem dX1_close_8 : decode cX1_close 8 = .ok (.getfield 33, 3) := by decide +kernel
theorem dX1_close_11 : decode cX1_close 11 = .ok (.getfield 77, 3) := by decide +kernel
theorem dX1_close_14 : decode cX1_close 14 = .ok (.istore_n 2, 1) := by decide +kernel
theorem dX1_close_15 : decode cX1_close 15 = .ok (.iload_n 2, 1) := by decide +kernel
theorem dX1_close_16 : decode cX1_close 16 = .ok (.bipush 60, 2) := by decide +kernel
theorem dX1_close_18 : decode cX1_close 18 = .ok (.if_icmp .lt 13, 3) := by decide +kernel
theorem dX1_close_21 : decode cX1_close 21 = .ok (.new 68, 3) := by decide +kernel
theorem dX1_close_24 : decode cX1_close 24 = .ok (.dup, 1) := by decide +kernel
theorem dX1_close_25 : decode cX1_close 25 = .ok (.ldc 80, 2) := by decide +kernel
theorem dX1_close_27 : decode cX1_close 27 = .ok (.invokespecial 72, 3) := by decide +kernel
theorem dX1_close_30 : decode cX1_close 30 = .ok (.athrow, 1) := by decide +kernel
theorem dX1_close_31 : decode cX1_close 31 = .ok (.aload_n 0, 1) := by decide +kernel
theorem dX1_close_32 : decode cX1_close 32 = .ok (.getfield 33, 3) := by decide +kernel
theorem dX1_close_35 : decode cX1_close 35 = .ok (.getfield 82, 3) := by decide +kernel
theorem dX1_close_38 : decode cX1_close 38 = .ok (.iload_n 2, 1) := by decide +kernel
theorem dX1_close_39 : decode cX1_close 39 = .ok (.aload_n 0, 1) := by decide +kernel
theorem dX1_close_40 : decode cX1_close 40 = .ok (.getfield 39, 3) := by decide +kernel
theorem dX1_close_43 : decode cX1_close 43 = .ok (.dastore, 1) := by decide +kernel
theorem dX1_close_44 : decode cX1_close 44 = .ok (.aload_n 0, 1) := by decide +kernel
theorem dX1_close_45 : decode cX1_close 45 = .ok (.iload_n 2, 1) := by decide +kernel
theorem dX1_close_46 : decode cX1_close 46 = .ok (.invokevirtual 84, 3) := by decide +kernel
theorem dX1_close_49 : decode cX1_close 49 = .ok (.aload_n 0, 1) := by decide +kernel
theorem dX1_close_50 : decode cX1_close 50 = .ok (.invokevirtual 87, 3) := by decide +kernel
theorem dX1_close_53 : decode cX1_close 53 = .ok (.aload_n 0, 1) := by decide +kernel
theorem dX1_close_54 : decode cX1_close 54 = .ok (.invokevirtual 90, 3) := by decide +kernel
theorem dX1_close_57 : decode cX1_close 57 = .ok (.istore_n 3, 1) := by decide +kernel
theorem dX1_close_58 : decode cX1_close 58 = .ok (.aload_n 0, 1) := by decide +kernel
theorem dX1_close_59 : decode cX1_close 59 = .ok (.iload_n 2, 1) := by decide +kernel
theorem dX1_close_60 : decode cX1_close 60 = .ok (.invokevirtual 94, 3) := by decide +kernel
theorem dX1_close_63 : decode cX1_close 63 = .ok (.aload_n 0, 1) := by decide +kernel
theorem dX1_close_64 : decode cX1_close 64 = .ok (.iload_n 1, 1) := by decide +kernel
theorem dX1_close_65 : decode cX1_close 65 = .ok (.i2d, 1) := by decide +kernel
theorem dX1_close_66 : decode cX1_close 66 = .ok (.putfield 53, 3) := by decide +kernel
theorem dX1_close_69 : decode cX1_close 69 = .ok (.aload_n 0, 1) := by decide +kernel
theorem dX1_close_70 : decode cX1_close 70 = .ok (.iload_n 2, 1) := by decide +kernel
theorem dX1_close_71 : decode cX1_close 71 = .ok (.iload_n 1, 1) := by decide +kernel
theorem dX1_close_72 : decode cX1_close 72 = .ok (.invokevirtual 97, 3) := by decide +kernel
theorem dX1_close_75 : decode cX1_close 75 = .ok (.aload_n 0, 1) := by decide +kernel
theorem dX1_close_76 : decode cX1_close 76 = .ok (.iload_n 2, 1) := by decide +kernel
theorem dX1_close_77 : decode cX1_close 77 = .ok (.invokevirtual 101, 3) := by decide +kernel
theorem dX1_close_80 : decode cX1_close 80 = .ok (.aload_n 0, 1) := by decide +kernel
theorem dX1_close_81 : decode cX1_close 81 = .ok (.iload_n 2, 1) := by decide +kernel
theorem dX1_close_82 : decode cX1_close 82 = .ok (.invokevirtual 104, 3) := by decide +kernel
theorem dX1_close_85 : decode cX1_close 85 = .ok (.aload_n 0, 1) := by decide +kernel
theorem dX1_close_86 : decode cX1_close 86 = .ok (.getfield 53, 3) := by decide +kernel
theorem dX1_close_89 : decode cX1_close 89 = .ok (.dconst 0, 1) := by decide +kernel
theorem dX1_close_90 : decode cX1_close 90 = .ok (.dcmp .l, 1) := by decide +kernel
theorem dX1_close_91 : decode cX1_close 91 = .ok (.ifCond .ne 8, 3) := by decide +kernel
theorem dX1_close_94 : decode cX1_close 94 = .ok (.aload_n 0, 1) := by decide +kernel
theorem dX1_close_95 : decode cX1_close 95 = .ok (.iload_n 2, 1) := by decide +kernel
theorem dX1_close_96 : decode cX1_close 96 = .ok (.invokevirtual 107, 3) := by decide +kernel
theorem dX1_close_99 : decode cX1_close 99 = .ok (.aload_n 0, 1) := by decide +kernel
theorem dX1_close_100 : decode cX1_close 100 = .ok (.iload_n 2, 1) := by decide +kernel
theorem dX1_close_101 : decode cX1_close 101 = .ok (.invokevirtual 110, 3) := by decide +kernel
theorem dX1_close_104 : decode cX1_close 104 = .ok (.aload_n 0, 1) := by decide +kernel
theorem dX1_close_105 : decode cX1_close 105 = .ok (.getfield 33, 3) := by decide +kernel
theorem dX1_close_108 : decode cX1_close 108 = .ok (.iload_n 2, 1) := by decide +kernel
theorem dX1_close_109 : decode cX1_close 109 = .ok (.iconst 1, 1) := by decide +kernel
theorem dX1_close_110 : decode cX1_close 110 = .ok (.iadd, 1) := by decide +kernel
theorem dX1_close_111 : decode cX1_close 111 = .ok (.putfield 77, 3) := by decide +kernel
theorem dX1_close_114 : decode cX1_close 114 = .ok (.iload_n 3, 1) := by decide +kernel
theorem dX1_close_115 : decode cX1_close 115 = .ok (.ireturn, 1) := by decide +kernel
theorem dX1_closed_0 : decode cX1_closed 0 = .ok (.aload_n 0, 1) := by decide +kernel
theorem dX1_closed_1 : decode cX1_closed 1 = .ok (.getfield 33, 3) := by decide +kernel
theorem dX1_closed_4 : decode cX1_closed 4 = .ok (.getfield 77, 3) := by decide +kernel
theorem dX1_closed_7 : decode cX1_closed 7 = .ok (.ireturn, 1) := by decide +kernel
set_option maxRecDepth 20000 in
theorem ggX1_replace_X1_requireOwner : GoodIn wsX1_replace wsX1_requireOwner := goodIn_ca (goodIn_r _ [12, 13, 14] (by decide +kernel) (by decide +kernel)) (goodIn_sub (fun _ h => List.mem_cons_of_mem _ (List.mem_append_left _ (List.mem_append_right _ h))) (by decide +kernel))
set_option maxRecDepth 20000 in
theorem gX1_replace_X1_requireOwner : GoodIn wsX1_replace (va_wsS RX1 56 yX1_requireOwner wsX1_requireOwner) := goodIn_app (goodIn_of _ (by decide +kernel)) ggX1_replace_X1_requireOwner
set_option maxRecDepth 20000 in
theorem ggX1_replace_X1_requireWithin : GoodIn wsX1_replace wsX1_requireWithin := goodIn_ca (goodIn_r _ [17, 13, 14] (by decide +kernel) (by decide +kernel)) (goodIn_sub (fun _ h => List.mem_cons_of_mem _ (List.mem_append_left _ (List.mem_append_right _ h))) (by decide +kernel))
set_option maxRecDepth 20000 in
theorem gX1_replace_X1_requireWithin : GoodIn wsX1_replace (va_wsS RX1 60 yX1_requireWithin wsX1_requireWithin) := goodIn_app (goodIn_of _ (by decide +kernel)) ggX1_replace_X1_requireWithin
set_option maxRecDepth 20000 in
theorem ggX1_replace_X1_requireQuarter : GoodIn wsX1_replace wsX1_requireQuarter := goodIn_ca (goodIn_r _ [21, 22, 23, 3, 24, 29, 30, 31, 32, 33, 34, 35, 36, 37, 38, 39, 40, 41, 42, 43, 44, 45, 46, 47, 48, 49] (by decide +kernel) (by decide +kernel)) (goodIn_sub (fun _ h => List.mem_cons_of_mem _ (List.mem_append_right _ h)) (by decide +kernel))
set_option maxRecDepth 20000 in
theorem gX1_replace_X1_requireQuarter : GoodIn wsX1_replace (wsV RX1 113 RX1 yX1_requireQuarter wsX1_requireQuarter) := goodIn_app (goodIn_of _ (by decide +kernel)) ggX1_replace_X1_requireQuarter
set_option maxRecDepth 20000 in
theorem ggX1_replace_X0_slot : GoodIn wsX1_replace wsX0_slot := goodIn_r _ [28] (by decide +kernel) (by decide +kernel)
set_option maxRecDepth 20000 in
theorem gX1_replace_X0_slot : GoodIn wsX1_replace (va_wsS RX1 116 yX0_slot wsX0_slot) := goodIn_app (goodIn_of _ (by decide +kernel)) ggX1_replace_X0_slot
theorem dX1_replace_0 : decode cX1_replace 0 = .ok (.iload_n 1, 1) := by decide +kernel
theorem dX1_replace_1 : decode cX1_replace 1 = .ok (.invokestatic 56, 3) := by decide +kernel
theorem dX1_replace_4 : decode cX1_replace 4 = .ok (.iload_n 3, 1) := by decide +kernel
theorem dX1_replace_5 : decode cX1_replace 5 = .ok (.iconst 0, 1) := by decide +kernel
theorem dX1_replace_6 : decode cX1_replace 6 = .ok (.bipush 50, 2) := by decide +kernel
theorem dX1_replace_8 : decode cX1_replace 8 = .ok (.invokestatic 60, 3) := by decide +kernel
theorem dX1_replace_11 : decode cX1_replace 11 = .ok (.aload_n 0, 1) := by decide +kernel
theorem dX1_replace_12 : decode cX1_replace 12 = .ok (.iload_n 2, 1) := by decide +kernel
theorem dX1_replace_13 : decode cX1_replace 13 = .ok (.invokevirtual 113, 3) := by decide +kernel
theorem dX1_replace_16 : decode cX1_replace 16 = .ok (.iload_n 1, 1) := by decide +kernel
theorem dX1_replace_17 : decode cX1_replace 17 = .ok (.iload_n 2, 1) := by decide +kernel
theorem dX1_replace_18 : decode cX1_replace 18 = .ok (.invokestatic 116, 3) := by decide +kernel
theorem dX1_replace_21 : decode cX1_replace 21 = .ok (.istore 4, 2) := by decide +kernel
theorem dX1_replace_23 : decode cX1_replace 23 = .ok (.aload_n 0, 1) := by decide +kernel
theorem dX1_replace_24 : decode cX1_replace 24 = .ok (.getfield 33, 3) := by decide +kernel
theorem dX1_replace_27 : decode cX1_replace 27 = .ok (.getfield 120, 3) := by decide +kernel
theorem dX1_replace_30 : decode cX1_replace 30 = .ok (.iload 4, 2) := by decide +kernel
theorem dX1_replace_32 : decode cX1_replace 32 = .ok (.baload, 1) := by decide +kernel
theorem dX1_replace_33 : decode cX1_replace 33 = .ok (.ifCond .eq 13, 3) := by decide +kernel
theorem dX1_replace_36 : decode cX1_replace 36 = .ok (.new 68, 3) := by decide +kernel
theorem dX1_replace_39 : decode cX1_replace 39 = .ok (.dup, 1) := by decide +kernel
theorem dX1_replace_40 : decode cX1_replace 40 = .ok (.ldc 123, 2) := by decide +kernel
theorem dX1_replace_42 : decode cX1_replace 42 = .ok (.invokespecial 72, 3) := by decide +kernel
theorem dX1_replace_45 : decode cX1_replace 45 = .ok (.athrow, 1) := by decide +kernel
theorem dX1_replace_46 : decode cX1_replace 46 = .ok (.aload_n 0, 1) := by decide +kernel
theorem dX1_replace_47 : decode cX1_replace 47 = .ok (.getfield 33, 3) := by decide +kernel
theorem dX1_replace_50 : decode cX1_replace 50 = .ok (.getfield 120, 3) := by decide +kernel
theorem dX1_replace_53 : decode cX1_replace 53 = .ok (.iload 4, 2) := by decide +kernel
theorem dX1_replace_55 : decode cX1_replace 55 = .ok (.iconst 1, 1) := by decide +kernel
theorem dX1_replace_56 : decode cX1_replace 56 = .ok (.bastore, 1) := by decide +kernel
theorem dX1_replace_57 : decode cX1_replace 57 = .ok (.aload_n 0, 1) := by decide +kernel
theorem dX1_replace_58 : decode cX1_replace 58 = .ok (.getfield 33, 3) := by decide +kernel
theorem dX1_replace_61 : decode cX1_replace 61 = .ok (.getfield 125, 3) := by decide +kernel
theorem dX1_replace_64 : decode cX1_replace 64 = .ok (.iload 4, 2) := by decide +kernel
theorem dX1_replace_66 : decode cX1_replace 66 = .ok (.iload_n 3, 1) := by decide +kernel
theorem dX1_replace_67 : decode cX1_replace 67 = .ok (.i2d, 1) := by decide +kernel
theorem dX1_replace_68 : decode cX1_replace 68 = .ok (.dastore, 1) := by decide +kernel
theorem dX1_replace_69 : decode cX1_replace 69 = .ok (.iload_n 3, 1) := by decide +kernel
theorem dX1_replace_70 : decode cX1_replace 70 = .ok (.i2d, 1) := by decide +kernel
theorem dX1_replace_71 : decode cX1_replace 71 = .ok (.aload_n 0, 1) := by decide +kernel
theorem dX1_replace_72 : decode cX1_replace 72 = .ok (.getfield 33, 3) := by decide +kernel
theorem dX1_replace_75 : decode cX1_replace 75 = .ok (.getfield 128, 3) := by decide +kernel
theorem dX1_replace_78 : decode cX1_replace 78 = .ok (.iload 4, 2) := by decide +kernel
theorem dX1_replace_80 : decode cX1_replace 80 = .ok (.daload, 1) := by decide +kernel
theorem dX1_replace_81 : decode cX1_replace 81 = .ok (.dsub, 1) := by decide +kernel
theorem dX1_replace_82 : decode cX1_replace 82 = .ok (.aload_n 0, 1) := by decide +kernel
theorem dX1_replace_83 : decode cX1_replace 83 = .ok (.getfield 33, 3) := by decide +kernel
theorem dX1_replace_86 : decode cX1_replace 86 = .ok (.getfield 82, 3) := by decide +kernel
theorem dX1_replace_89 : decode cX1_replace 89 = .ok (.iload_n 2, 1) := by decide +kernel
theorem dX1_replace_90 : decode cX1_replace 90 = .ok (.daload, 1) := by decide +kernel
theorem dX1_replace_91 : decode cX1_replace 91 = .ok (.dmul, 1) := by decide +kernel
theorem dX1_replace_92 : decode cX1_replace 92 = .ok (.dstore 5, 2) := by decide +kernel
theorem dX1_replace_94 : decode cX1_replace 94 = .ok (.aload_n 0, 1) := by decide +kernel
theorem dX1_replace_95 : decode cX1_replace 95 = .ok (.getfield 20, 3) := by decide +kernel
theorem dX1_replace_98 : decode cX1_replace 98 = .ok (.iload_n 1, 1) := by decide +kernel
theorem dX1_replace_99 : decode cX1_replace 99 = .ok (.dup2, 1) := by decide +kernel
theorem dX1_replace_100 : decode cX1_replace 100 = .ok (.daload, 1) := by decide +kernel
theorem dX1_replace_101 : decode cX1_replace 101 = .ok (.dload 5, 2) := by decide +kernel
theorem dX1_replace_103 : decode cX1_replace 103 = .ok (.dadd, 1) := by decide +kernel
theorem dX1_replace_104 : decode cX1_replace 104 = .ok (.dastore, 1) := by decide +kernel
theorem dX1_replace_105 : decode cX1_replace 105 = .ok (.dload 5, 2) := by decide +kernel
theorem dX1_replace_107 : decode cX1_replace 107 = .ok (.dreturn, 1) := by decide +kernel
set_option maxRecDepth 20000 in
theorem ggX1_use_X1_closedSlot : GoodIn wsX1_use wsX1_closedSlot := goodIn_ca (goodIn_ca (goodIn_r _ [7, 8, 9, 6, 10, 11, 12, 13, 14, 15, 16, 17, 18, 1, 19, 20, 21, 22, 23, 24, 25, 26, 27, 28, 29, 30, 31, 32, 33, 34, 35, 36, 37, 38, 39, 40, 41, 42, 43, 44] (by decide +kernel) (by decide +kernel)) (goodIn_sub (fun _ h => List.mem_cons_of_mem _ (List.mem_append_left _ (List.mem_append_right _ h))) (by decide +kernel))) (goodIn_sub (fun _ h => List.mem_cons_of_mem _ (List.mem_append_right _ h)) (by decide +kernel))
set_option maxRecDepth 20000 in
theorem gX1_use_X1_closedSlot : GoodIn wsX1_use (wsV RX1 131 RX1 yX1_closedSlot wsX1_closedSlot) := goodIn_app (goodIn_of _ (by decide +kernel)) ggX1_use_X1_closedSlot
theorem dX1_use_0 : decode cX1_use 0 = .ok (.aload_n 0, 1) := by decide +kernel
theorem dX1_use_1 : decode cX1_use 1 = .ok (.getfield 33, 3) := by decide +kernel
theorem dX1_use_4 : decode cX1_use 4 = .ok (.getfield 125, 3) := by decide +kernel
theorem dX1_use_7 : decode cX1_use 7 = .ok (.aload_n 0, 1) := by decide +kernel
theorem dX1_use_8 : decode cX1_use 8 = .ok (.iload_n 1, 1) := by decide +kernel
theorem dX1_use_9 : decode cX1_use 9 = .ok (.iload_n 2, 1) := by decide +kernel
theorem dX1_use_10 : decode cX1_use 10 = .ok (.invokevirtual 131, 3) := by decide +kernel
theorem dX1_use_13 : decode cX1_use 13 = .ok (.daload, 1) := by decide +kernel
theorem dX1_use_14 : decode cX1_use 14 = .ok (.dreturn, 1) := by decide +kernel
set_option maxRecDepth 20000 in
theorem ggX1_fromSun_X1_closedSlot : GoodIn wsX1_fromSun wsX1_closedSlot := goodIn_ca (goodIn_ca (goodIn_r _ [7, 8, 9, 6, 10, 11, 12, 13, 14, 15, 16, 17, 18, 1, 19, 20, 21, 22, 23, 24, 25, 26, 27, 28, 29, 30, 31, 32, 33, 34, 35, 36, 37, 38, 39, 40, 41, 42, 43, 44] (by decide +kernel) (by decide +kernel)) (goodIn_sub (fun _ h => List.mem_cons_of_mem _ (List.mem_append_left _ (List.mem_append_right _ h))) (by decide +kernel))) (goodIn_sub (fun _ h => List.mem_cons_of_mem _ (List.mem_append_right _ h)) (by decide +kernel))
set_option maxRecDepth 20000 in
theorem gX1_fromSun_X1_closedSlot : GoodIn wsX1_fromSun (wsV RX1 131 RX1 yX1_closedSlot wsX1_closedSlot) := goodIn_app (goodIn_of _ (by decide +kernel)) ggX1_fromSun_X1_closedSlot
theorem dX1_fromSun_0 : decode cX1_fromSun 0 = .ok (.aload_n 0, 1) := by decide +kernel
theorem dX1_fromSun_1 : decode cX1_fromSun 1 = .ok (.getfield 33, 3) := by decide +kernel
theorem dX1_fromSun_4 : decode cX1_fromSun 4 = .ok (.getfield 134, 3) := by decide +kernel
theorem dX1_fromSun_7 : decode cX1_fromSun 7 = .ok (.aload_n 0, 1) := by decide +kernel
theorem dX1_fromSun_8 : decode cX1_fromSun 8 = .ok (.iload_n 1, 1) := by decide +kernel
theorem dX1_fromSun_9 : decode cX1_fromSun 9 = .ok (.iload_n 2, 1) := by decide +kernel
theorem dX1_fromSun_10 : decode cX1_fromSun 10 = .ok (.invokevirtual 131, 3) := by decide +kernel
theorem dX1_fromSun_13 : decode cX1_fromSun 13 = .ok (.daload, 1) := by decide +kernel
theorem dX1_fromSun_14 : decode cX1_fromSun 14 = .ok (.dreturn, 1) := by decide +kernel
set_option maxRecDepth 20000 in
theorem ggX1_fromBattery_X1_closedSlot : GoodIn wsX1_fromBattery wsX1_closedSlot := goodIn_ca (goodIn_ca (goodIn_r _ [7, 8, 9, 6, 10, 11, 12, 13, 14, 15, 16, 17, 18, 1, 19, 20, 21, 22, 23, 24, 25, 26, 27, 28, 29, 30, 31, 32, 33, 34, 35, 36, 37, 38, 39, 40, 41, 42, 43, 44] (by decide +kernel) (by decide +kernel)) (goodIn_sub (fun _ h => List.mem_cons_of_mem _ (List.mem_append_left _ (List.mem_append_right _ h))) (by decide +kernel))) (goodIn_sub (fun _ h => List.mem_cons_of_mem _ (List.mem_append_right _ h)) (by decide +kernel))
set_option maxRecDepth 20000 in
theorem gX1_fromBattery_X1_closedSlot : GoodIn wsX1_fromBattery (wsV RX1 131 RX1 yX1_closedSlot wsX1_closedSlot) := goodIn_app (goodIn_of _ (by decide +kernel)) ggX1_fromBattery_X1_closedSlot
theorem dX1_fromBattery_0 : decode cX1_fromBattery 0 = .ok (.aload_n 0, 1) := by decide +kernel
theorem dX1_fromBattery_1 : decode cX1_fromBattery 1 = .ok (.getfield 33, 3) := by decide +kernel
theorem dX1_fromBattery_4 : decode cX1_fromBattery 4 = .ok (.getfield 137, 3) := by decide +kernel
theorem dX1_fromBattery_7 : decode cX1_fromBattery 7 = .ok (.aload_n 0, 1) := by decide +kernel
theorem dX1_fromBattery_8 : decode cX1_fromBattery 8 = .ok (.iload_n 1, 1) := by decide +kernel
theorem dX1_fromBattery_9 : decode cX1_fromBattery 9 = .ok (.iload_n 2, 1) := by decide +kernel
theorem dX1_fromBattery_10 : decode cX1_fromBattery 10 = .ok (.invokevirtual 131, 3) := by decide +kernel
theorem dX1_fromBattery_13 : decode cX1_fromBattery 13 = .ok (.daload, 1) := by decide +kernel
theorem dX1_fromBattery_14 : decode cX1_fromBattery 14 = .ok (.dreturn, 1) := by decide +kernel
set_option maxRecDepth 20000 in
theorem ggX1_bought_X1_closedSlot : GoodIn wsX1_bought wsX1_closedSlot := goodIn_ca (goodIn_ca (goodIn_r _ [7, 8, 9, 6, 10, 11, 12, 13, 14, 15, 16, 17, 18, 1, 19, 20, 21, 22, 23, 24, 25, 26, 27, 28, 29, 30, 31, 32, 33, 34, 35, 36, 37, 38, 39, 40, 41, 42, 43, 44] (by decide +kernel) (by decide +kernel)) (goodIn_sub (fun _ h => List.mem_cons_of_mem _ (List.mem_append_left _ (List.mem_append_right _ h))) (by decide +kernel))) (goodIn_sub (fun _ h => List.mem_cons_of_mem _ (List.mem_append_right _ h)) (by decide +kernel))
set_option maxRecDepth 20000 in
theorem gX1_bought_X1_closedSlot : GoodIn wsX1_bought (wsV RX1 131 RX1 yX1_closedSlot wsX1_closedSlot) := goodIn_app (goodIn_of _ (by decide +kernel)) ggX1_bought_X1_closedSlot
theorem dX1_bought_0 : decode cX1_bought 0 = .ok (.aload_n 0, 1) := by decide +kernel
theorem dX1_bought_1 : decode cX1_bought 1 = .ok (.getfield 33, 3) := by decide +kernel
theorem dX1_bought_4 : decode cX1_bought 4 = .ok (.getfield 140, 3) := by decide +kernel
theorem dX1_bought_7 : decode cX1_bought 7 = .ok (.aload_n 0, 1) := by decide +kernel
theorem dX1_bought_8 : decode cX1_bought 8 = .ok (.iload_n 1, 1) := by decide +kernel
theorem dX1_bought_9 : decode cX1_bought 9 = .ok (.iload_n 2, 1) := by decide +kernel
theorem dX1_bought_10 : decode cX1_bought 10 = .ok (.invokevirtual 131, 3) := by decide +kernel
theorem dX1_bought_13 : decode cX1_bought 13 = .ok (.daload, 1) := by decide +kernel
theorem dX1_bought_14 : decode cX1_bought 14 = .ok (.dreturn, 1) := by decide +kernel
set_option maxRecDepth 20000 in
theorem ggX1_sold_X1_requireQuarter : GoodIn wsX1_sold wsX1_requireQuarter := goodIn_ca (goodIn_r _ [7, 8, 9, 1, 10, 11, 12, 13, 14, 15, 16, 17, 18, 19, 20, 21, 22, 23, 24, 25, 26, 27, 28, 29, 30, 31] (by decide +kernel) (by decide +kernel)) (goodIn_sub (fun _ h => List.mem_cons_of_mem _ (List.mem_append_right _ h)) (by decide +kernel))
set_option maxRecDepth 20000 in
theorem gX1_sold_X1_requireQuarter : GoodIn wsX1_sold (wsV RX1 113 RX1 yX1_requireQuarter wsX1_requireQuarter) := goodIn_app (goodIn_of _ (by decide +kernel)) ggX1_sold_X1_requireQuarter
theorem dX1_sold_0 : decode cX1_sold 0 = .ok (.aload_n 0, 1) := by decide +kernel
theorem dX1_sold_1 : decode cX1_sold 1 = .ok (.iload_n 1, 1) := by decide +kernel
theorem dX1_sold_2 : decode cX1_sold 2 = .ok (.invokevirtual 113, 3) := by decide +kernel
theorem dX1_sold_5 : decode cX1_sold 5 = .ok (.aload_n 0, 1) := by decide +kernel
theorem dX1_sold_6 : decode cX1_sold 6 = .ok (.getfield 33, 3) := by decide +kernel
theorem dX1_sold_9 : decode cX1_sold 9 = .ok (.getfield 143, 3) := by decide +kernel
theorem dX1_sold_12 : decode cX1_sold 12 = .ok (.iload_n 1, 1) := by decide +kernel
theorem dX1_sold_13 : decode cX1_sold 13 = .ok (.daload, 1) := by decide +kernel
theorem dX1_sold_14 : decode cX1_sold 14 = .ok (.dreturn, 1) := by decide +kernel
theorem dX1_battery_0 : decode cX1_battery 0 = .ok (.aload_n 0, 1) := by decide +kernel
theorem dX1_battery_1 : decode cX1_battery 1 = .ok (.getfield 43, 3) := by decide +kernel
theorem dX1_battery_4 : decode cX1_battery 4 = .ok (.dreturn, 1) := by decide +kernel
theorem dX1_turn_0 : decode cX1_turn 0 = .ok (.aload_n 0, 1) := by decide +kernel
theorem dX1_turn_1 : decode cX1_turn 1 = .ok (.getfield 46, 3) := by decide +kernel
theorem dX1_turn_4 : decode cX1_turn 4 = .ok (.ireturn, 1) := by decide +kernel
set_option maxRecDepth 20000 in
theorem ggX1_sheds_X1_requireOwner : GoodIn wsX1_sheds wsX1_requireOwner := goodIn_ca (goodIn_r _ [5, 6, 7] (by decide +kernel) (by decide +kernel)) (goodIn_sub (fun _ h => List.mem_cons_of_mem _ (List.mem_append_right _ h)) (by decide +kernel))
set_option maxRecDepth 20000 in
theorem gX1_sheds_X1_requireOwner : GoodIn wsX1_sheds (va_wsS RX1 56 yX1_requireOwner wsX1_requireOwner) := goodIn_app (goodIn_of _ (by decide +kernel)) ggX1_sheds_X1_requireOwner
theorem dX1_sheds_0 : decode cX1_sheds 0 = .ok (.iload_n 1, 1) := by decide +kernel
theorem dX1_sheds_1 : decode cX1_sheds 1 = .ok (.invokestatic 56, 3) := by decide +kernel
theorem dX1_sheds_4 : decode cX1_sheds 4 = .ok (.aload_n 0, 1) := by decide +kernel
theorem dX1_sheds_5 : decode cX1_sheds 5 = .ok (.getfield 17, 3) := by decide +kernel
theorem dX1_sheds_8 : decode cX1_sheds 8 = .ok (.iload_n 1, 1) := by decide +kernel
theorem dX1_sheds_9 : decode cX1_sheds 9 = .ok (.iaload, 1) := by decide +kernel
theorem dX1_sheds_10 : decode cX1_sheds 10 = .ok (.ireturn, 1) := by decide +kernel
set_option maxRecDepth 20000 in
theorem ggX1_bill_X1_requireOwner : GoodIn wsX1_bill wsX1_requireOwner := goodIn_ca (goodIn_r _ [5, 6, 7] (by decide +kernel) (by decide +kernel)) (goodIn_sub (fun _ h => List.mem_cons_of_mem _ (List.mem_append_right _ h)) (by decide +kernel))
set_option maxRecDepth 20000 in
theorem gX1_bill_X1_requireOwner : GoodIn wsX1_bill (va_wsS RX1 56 yX1_requireOwner wsX1_requireOwner) := goodIn_app (goodIn_of _ (by decide +kernel)) ggX1_bill_X1_requireOwner
theorem dX1_bill_0 : decode cX1_bill 0 = .ok (.iload_n 1, 1) := by decide +kernel
theorem dX1_bill_1 : decode cX1_bill 1 = .ok (.invokestatic 56, 3) := by decide +kernel
theorem dX1_bill_4 : decode cX1_bill 4 = .ok (.aload_n 0, 1) := by decide +kernel
theorem dX1_bill_5 : decode cX1_bill 5 = .ok (.getfield 20, 3) := by decide +kernel
theorem dX1_bill_8 : decode cX1_bill 8 = .ok (.iload_n 1, 1) := by decide +kernel
theorem dX1_bill_9 : decode cX1_bill 9 = .ok (.daload, 1) := by decide +kernel
theorem dX1_bill_10 : decode cX1_bill 10 = .ok (.dreturn, 1) := by decide +kernel
theorem dX1_requireWithin_0 : decode cX1_requireWithin 0 = .ok (.iload_n 0, 1) := by decide +kernel
theorem dX1_requireWithin_1 : decode cX1_requireWithin 1 = .ok (.iload_n 1, 1) := by decide +kernel
theorem dX1_requireWithin_2 : decode cX1_requireWithin 2 = .ok (.if_icmp .lt 8, 3) := by decide +kernel
theorem dX1_requireWithin_5 : decode cX1_requireWithin 5 = .ok (.iload_n 0, 1) := by decide +kernel
theorem dX1_requireWithin_6 : decode cX1_requireWithin 6 = .ok (.iload_n 2, 1) := by decide +kernel
theorem dX1_requireWithin_7 : decode cX1_requireWithin 7 = .ok (.if_icmp .le 13, 3) := by decide +kernel
theorem dX1_requireWithin_10 : decode cX1_requireWithin 10 = .ok (.new 146, 3) := by decide +kernel
theorem dX1_requireWithin_13 : decode cX1_requireWithin 13 = .ok (.dup, 1) := by decide +kernel
theorem dX1_requireWithin_14 : decode cX1_requireWithin 14 = .ok (.ldc 148, 2) := by decide +kernel
theorem dX1_requireWithin_16 : decode cX1_requireWithin 16 = .ok (.invokespecial 150, 3) := by decide +kernel
theorem dX1_requireWithin_19 : decode cX1_requireWithin 19 = .ok (.athrow, 1) := by decide +kernel
theorem dX1_requireWithin_20 : decode cX1_requireWithin 20 = .ok (.return_, 1) := by decide +kernel
theorem dX1_requireOwner_0 : decode cX1_requireOwner 0 = .ok (.iload_n 0, 1) := by decide +kernel
theorem dX1_requireOwner_1 : decode cX1_requireOwner 1 = .ok (.ifCond .lt 8, 3) := by decide +kernel
theorem dX1_requireOwner_4 : decode cX1_requireOwner 4 = .ok (.iload_n 0, 1) := by decide +kernel
theorem dX1_requireOwner_5 : decode cX1_requireOwner 5 = .ok (.iconst 5, 1) := by decide +kernel
theorem dX1_requireOwner_6 : decode cX1_requireOwner 6 = .ok (.if_icmp .lt 13, 3) := by decide +kernel
theorem dX1_requireOwner_9 : decode cX1_requireOwner 9 = .ok (.new 146, 3) := by decide +kernel
theorem dX1_requireOwner_12 : decode cX1_requireOwner 12 = .ok (.dup, 1) := by decide +kernel
theorem dX1_requireOwner_13 : decode cX1_requireOwner 13 = .ok (.ldc 151, 2) := by decide +kernel
theorem dX1_requireOwner_15 : decode cX1_requireOwner 15 = .ok (.invokespecial 150, 3) := by decide +kernel
theorem dX1_requireOwner_18 : decode cX1_requireOwner 18 = .ok (.athrow, 1) := by decide +kernel
theorem dX1_requireOwner_19 : decode cX1_requireOwner 19 = .ok (.return_, 1) := by decide +kernel
theorem dX1_requireQuarter_0 : decode cX1_requireQuarter 0 = .ok (.iload_n 1, 1) := by decide +kernel
theorem dX1_requireQuarter_1 : decode cX1_requireQuarter 1 = .ok (.ifCond .lt 14, 3) := by decide +kernel
theorem dX1_requireQuarter_4 : decode cX1_requireQuarter 4 = .ok (.iload_n 1, 1) := by decide +kernel
theorem dX1_requireQuarter_5 : decode cX1_requireQuarter 5 = .ok (.aload_n 0, 1) := by decide +kernel
theorem dX1_requireQuarter_6 : decode cX1_requireQuarter 6 = .ok (.getfield 33, 3) := by decide +kernel
theorem dX1_requireQuarter_9 : decode cX1_requireQuarter 9 = .ok (.getfield 77, 3) := by decide +kernel
theorem dX1_requireQuarter_12 : decode cX1_requireQuarter 12 = .ok (.if_icmp .lt 13, 3) := by decide +kernel
theorem dX1_requireQuarter_15 : decode cX1_requireQuarter 15 = .ok (.new 153, 3) := by decide +kernel
theorem dX1_requireQuarter_18 : decode cX1_requireQuarter 18 = .ok (.dup, 1) := by decide +kernel
theorem dX1_requireQuarter_19 : decode cX1_requireQuarter 19 = .ok (.ldc 155, 2) := by decide +kernel
theorem dX1_requireQuarter_21 : decode cX1_requireQuarter 21 = .ok (.invokespecial 157, 3) := by decide +kernel
theorem dX1_requireQuarter_24 : decode cX1_requireQuarter 24 = .ok (.athrow, 1) := by decide +kernel
theorem dX1_requireQuarter_25 : decode cX1_requireQuarter 25 = .ok (.return_, 1) := by decide +kernel
set_option maxRecDepth 20000 in
theorem ggX1_closedSlot_X1_requireOwner : GoodIn wsX1_closedSlot wsX1_requireOwner := goodIn_ca (goodIn_r _ [4, 5, 6] (by decide +kernel) (by decide +kernel)) (goodIn_sub (fun _ h => List.mem_cons_of_mem _ (List.mem_append_left _ (List.mem_append_right _ h))) (by decide +kernel))
set_option maxRecDepth 20000 in
theorem gX1_closedSlot_X1_requireOwner : GoodIn wsX1_closedSlot (va_wsS RX1 56 yX1_requireOwner wsX1_requireOwner) := goodIn_app (goodIn_of _ (by decide +kernel)) ggX1_closedSlot_X1_requireOwner
set_option maxRecDepth 20000 in
theorem ggX1_closedSlot_X1_requireQuarter : GoodIn wsX1_closedSlot wsX1_requireQuarter := goodIn_ca (goodIn_r _ [10, 11, 12, 13, 14, 19, 20, 21, 22, 23, 24, 25, 26, 27, 28, 29, 30, 31, 32, 33, 34, 35, 36, 37, 38, 39] (by decide +kernel) (by decide +kernel)) (goodIn_sub (fun _ h => List.mem_cons_of_mem _ (List.mem_append_right _ h)) (by decide +kernel))
set_option maxRecDepth 20000 in
theorem gX1_closedSlot_X1_requireQuarter : GoodIn wsX1_closedSlot (wsV RX1 113 RX1 yX1_requireQuarter wsX1_requireQuarter) := goodIn_app (goodIn_of _ (by decide +kernel)) ggX1_closedSlot_X1_requireQuarter
set_option maxRecDepth 20000 in
theorem ggX1_closedSlot_X0_slot : GoodIn wsX1_closedSlot wsX0_slot := goodIn_r _ [18] (by decide +kernel) (by decide +kernel)
set_option maxRecDepth 20000 in
theorem gX1_closedSlot_X0_slot : GoodIn wsX1_closedSlot (va_wsS RX1 116 yX0_slot wsX0_slot) := goodIn_app (goodIn_of _ (by decide +kernel)) ggX1_closedSlot_X0_slot
theorem dX1_closedSlot_0 : decode cX1_closedSlot 0 = .ok (.iload_n 1, 1) := by decide +kernel
theorem dX1_closedSlot_1 : decode cX1_closedSlot 1 = .ok (.invokestatic 56, 3) := by decide +kernel
theorem dX1_closedSlot_4 : decode cX1_closedSlot 4 = .ok (.aload_n 0, 1) := by decide +kernel
theorem dX1_closedSlot_5 : decode cX1_closedSlot 5 = .ok (.iload_n 2, 1) := by decide +kernel
theorem dX1_closedSlot_6 : decode cX1_closedSlot 6 = .ok (.invokevirtual 113, 3) := by decide +kernel
theorem dX1_closedSlot_9 : decode cX1_closedSlot 9 = .ok (.iload_n 1, 1) := by decide +kernel
theorem dX1_closedSlot_10 : decode cX1_closedSlot 10 = .ok (.iload_n 2, 1) := by decide +kernel
theorem dX1_closedSlot_11 : decode cX1_closedSlot 11 = .ok (.invokestatic 116, 3) := by decide +kernel
theorem dX1_closedSlot_14 : decode cX1_closedSlot 14 = .ok (.ireturn, 1) := by decide +kernel
set_option maxRecDepth 20000 in
theorem ggX1_writeUses_X0_slot : GoodIn wsX1_writeUses wsX0_slot := goodIn_r _ [10] (by decide +kernel) (by decide +kernel)
set_option maxRecDepth 20000 in
theorem gX1_writeUses_X0_slot : GoodIn wsX1_writeUses (va_wsS RX1 116 yX0_slot wsX0_slot) := goodIn_app (goodIn_of _ (by decide +kernel)) ggX1_writeUses_X0_slot
set_option maxRecDepth 20000 in
theorem ggX1_writeUses_X0_guess : GoodIn wsX1_writeUses wsX0_guess := goodIn_r _ [14, 15, 16, 17, 18, 19, 8, 9, 10, 32, 33, 34, 35, 36, 37, 38, 39, 40] (by decide +kernel) (by decide +kernel)
set_option maxRecDepth 20000 in
theorem gX1_writeUses_X0_guess : GoodIn wsX1_writeUses (wsV RX1 158 RX0 yX0_guess wsX0_guess) := goodIn_app (goodIn_of _ (by decide +kernel)) ggX1_writeUses_X0_guess
theorem dX1_writeUses_0 : decode cX1_writeUses 0 = .ok (.iconst 0, 1) := by decide +kernel
theorem dX1_writeUses_1 : decode cX1_writeUses 1 = .ok (.istore_n 2, 1) := by decide +kernel
theorem dX1_writeUses_2 : decode cX1_writeUses 2 = .ok (.iload_n 2, 1) := by decide +kernel
theorem dX1_writeUses_3 : decode cX1_writeUses 3 = .ok (.iconst 5, 1) := by decide +kernel
theorem dX1_writeUses_4 : decode cX1_writeUses 4 = .ok (.if_icmp .ge 85, 3) := by decide +kernel
theorem dX1_writeUses_7 : decode cX1_writeUses 7 = .ok (.iload_n 2, 1) := by decide +kernel
theorem dX1_writeUses_8 : decode cX1_writeUses 8 = .ok (.iload_n 1, 1) := by decide +kernel
theorem dX1_writeUses_9 : decode cX1_writeUses 9 = .ok (.invokestatic 116, 3) := by decide +kernel
theorem dX1_writeUses_12 : decode cX1_writeUses 12 = .ok (.istore_n 3, 1) := by decide +kernel
theorem dX1_writeUses_13 : decode cX1_writeUses 13 = .ok (.aload_n 0, 1) := by decide +kernel
theorem dX1_writeUses_14 : decode cX1_writeUses 14 = .ok (.getfield 24, 3) := by decide +kernel
theorem dX1_writeUses_17 : decode cX1_writeUses 17 = .ok (.iload_n 2, 1) := by decide +kernel
theorem dX1_writeUses_18 : decode cX1_writeUses 18 = .ok (.baload, 1) := by decide +kernel
theorem dX1_writeUses_19 : decode cX1_writeUses 19 = .ok (.ifCond .eq 13, 3) := by decide +kernel
theorem dX1_writeUses_22 : decode cX1_writeUses 22 = .ok (.aload_n 0, 1) := by decide +kernel
theorem dX1_writeUses_23 : decode cX1_writeUses 23 = .ok (.getfield 27, 3) := by decide +kernel
theorem dX1_writeUses_26 : decode cX1_writeUses 26 = .ok (.iload_n 2, 1) := by decide +kernel
theorem dX1_writeUses_27 : decode cX1_writeUses 27 = .ok (.iaload, 1) := by decide +kernel
theorem dX1_writeUses_28 : decode cX1_writeUses 28 = .ok (.i2d, 1) := by decide +kernel
theorem dX1_writeUses_29 : decode cX1_writeUses 29 = .ok (.goto 11, 3) := by decide +kernel
theorem dX1_writeUses_32 : decode cX1_writeUses 32 = .ok (.aload_n 0, 1) := by decide +kernel
theorem dX1_writeUses_33 : decode cX1_writeUses 33 = .ok (.getfield 33, 3) := by decide +kernel
theorem dX1_writeUses_36 : decode cX1_writeUses 36 = .ok (.iload_n 2, 1) := by decide +kernel
theorem dX1_writeUses_37 : decode cX1_writeUses 37 = .ok (.invokevirtual 158, 3) := by decide +kernel
theorem dX1_writeUses_40 : decode cX1_writeUses 40 = .ok (.dstore 4, 2) := by decide +kernel
theorem dX1_writeUses_42 : decode cX1_writeUses 42 = .ok (.aload_n 0, 1) := by decide +kernel
theorem dX1_writeUses_43 : decode cX1_writeUses 43 = .ok (.getfield 33, 3) := by decide +kernel
theorem dX1_writeUses_46 : decode cX1_writeUses 46 = .ok (.getfield 120, 3) := by decide +kernel
theorem dX1_writeUses_49 : decode cX1_writeUses 49 = .ok (.iload_n 3, 1) := by decide +kernel
theorem dX1_writeUses_50 : decode cX1_writeUses 50 = .ok (.aload_n 0, 1) := by decide +kernel
theorem dX1_writeUses_51 : decode cX1_writeUses 51 = .ok (.getfield 24, 3) := by decide +kernel
theorem dX1_writeUses_54 : decode cX1_writeUses 54 = .ok (.iload_n 2, 1) := by decide +kernel
theorem dX1_writeUses_55 : decode cX1_writeUses 55 = .ok (.baload, 1) := by decide +kernel
theorem dX1_writeUses_56 : decode cX1_writeUses 56 = .ok (.bastore, 1) := by decide +kernel
theorem dX1_writeUses_57 : decode cX1_writeUses 57 = .ok (.aload_n 0, 1) := by decide +kernel
theorem dX1_writeUses_58 : decode cX1_writeUses 58 = .ok (.getfield 33, 3) := by decide +kernel
theorem dX1_writeUses_61 : decode cX1_writeUses 61 = .ok (.getfield 125, 3) := by decide +kernel
theorem dX1_writeUses_64 : decode cX1_writeUses 64 = .ok (.iload_n 3, 1) := by decide +kernel
theorem dX1_writeUses_65 : decode cX1_writeUses 65 = .ok (.dload 4, 2) := by decide +kernel
theorem dX1_writeUses_67 : decode cX1_writeUses 67 = .ok (.dastore, 1) := by decide +kernel
theorem dX1_writeUses_68 : decode cX1_writeUses 68 = .ok (.aload_n 0, 1) := by decide +kernel
theorem dX1_writeUses_69 : decode cX1_writeUses 69 = .ok (.getfield 50, 3) := by decide +kernel
theorem dX1_writeUses_72 : decode cX1_writeUses 72 = .ok (.iload_n 2, 1) := by decide +kernel
theorem dX1_writeUses_73 : decode cX1_writeUses 73 = .ok (.dload 4, 2) := by decide +kernel
theorem dX1_writeUses_75 : decode cX1_writeUses 75 = .ok (.dastore, 1) := by decide +kernel
theorem dX1_writeUses_76 : decode cX1_writeUses 76 = .ok (.aload_n 0, 1) := by decide +kernel
theorem dX1_writeUses_77 : decode cX1_writeUses 77 = .ok (.getfield 24, 3) := by decide +kernel
theorem dX1_writeUses_80 : decode cX1_writeUses 80 = .ok (.iload_n 2, 1) := by decide +kernel
theorem dX1_writeUses_81 : decode cX1_writeUses 81 = .ok (.iconst 0, 1) := by decide +kernel
theorem dX1_writeUses_82 : decode cX1_writeUses 82 = .ok (.bastore, 1) := by decide +kernel
theorem dX1_writeUses_83 : decode cX1_writeUses 83 = .ok (.iinc 2 1, 3) := by decide +kernel
theorem dX1_writeUses_86 : decode cX1_writeUses 86 = .ok (.goto (-84), 3) := by decide +kernel
theorem dX1_writeUses_89 : decode cX1_writeUses 89 = .ok (.return_, 1) := by decide +kernel
set_option maxRecDepth 20000 in
theorem ggX1_shedUntilCarried_X1_nextToShed : GoodIn wsX1_shedUntilCarried wsX1_nextToShed := goodIn_r _ [7, 8, 1, 2, 18, 19, 20, 21, 22, 23, 24, 25, 26, 27, 28, 29] (by decide +kernel) (by decide +kernel)
set_option maxRecDepth 20000 in
theorem gX1_shedUntilCarried_X1_nextToShed : GoodIn wsX1_shedUntilCarried (wsV RX1 162 RX1 yX1_nextToShed wsX1_nextToShed) := goodIn_app (goodIn_of _ (by decide +kernel)) ggX1_shedUntilCarried_X1_nextToShed
set_option maxRecDepth 20000 in
theorem ggX1_shedUntilCarried_X1_isOverLine : GoodIn wsX1_shedUntilCarried wsX1_isOverLine := goodIn_r _ [12, 13, 14, 15, 16, 6, 17, 1, 18, 19, 20, 21, 22, 23, 24, 25, 26, 27, 28, 29] (by decide +kernel) (by decide +kernel)
set_option maxRecDepth 20000 in
theorem gX1_shedUntilCarried_X1_isOverLine : GoodIn wsX1_shedUntilCarried (wsV RX1 90 RX1 yX1_isOverLine wsX1_isOverLine) := goodIn_app (goodIn_of _ (by decide +kernel)) ggX1_shedUntilCarried_X1_isOverLine
theorem dX1_shedUntilCarried_0 : decode cX1_shedUntilCarried 0 = .ok (.aload_n 0, 1) := by decide +kernel
theorem dX1_shedUntilCarried_1 : decode cX1_shedUntilCarried 1 = .ok (.invokevirtual 162, 3) := by decide +kernel
theorem dX1_shedUntilCarried_4 : decode cX1_shedUntilCarried 4 = .ok (.istore_n 1, 1) := by decide +kernel
theorem dX1_shedUntilCarried_5 : decode cX1_shedUntilCarried 5 = .ok (.iconst 0, 1) := by decide +kernel
theorem dX1_shedUntilCarried_6 : decode cX1_shedUntilCarried 6 = .ok (.istore_n 2, 1) := by decide +kernel
theorem dX1_shedUntilCarried_7 : decode cX1_shedUntilCarried 7 = .ok (.iload_n 2, 1) := by decide +kernel
theorem dX1_shedUntilCarried_8 : decode cX1_shedUntilCarried 8 = .ok (.iconst 5, 1) := by decide +kernel
theorem dX1_shedUntilCarried_9 : decode cX1_shedUntilCarried 9 = .ok (.if_icmp .ge 43, 3) := by decide +kernel
theorem dX1_shedUntilCarried_12 : decode cX1_shedUntilCarried 12 = .ok (.iload_n 1, 1) := by decide +kernel
theorem dX1_shedUntilCarried_13 : decode cX1_shedUntilCarried 13 = .ok (.iconst (-1), 1) := by decide +kernel
theorem dX1_shedUntilCarried_14 : decode cX1_shedUntilCarried 14 = .ok (.if_icmp .eq 38, 3) := by decide +kernel
theorem dX1_shedUntilCarried_17 : decode cX1_shedUntilCarried 17 = .ok (.aload_n 0, 1) := by decide +kernel
theorem dX1_shedUntilCarried_18 : decode cX1_shedUntilCarried 18 = .ok (.invokevirtual 90, 3) := by decide +kernel
theorem dX1_shedUntilCarried_21 : decode cX1_shedUntilCarried 21 = .ok (.ifCond .eq 31, 3) := by decide +kernel
theorem dX1_shedUntilCarried_24 : decode cX1_shedUntilCarried 24 = .ok (.aload_n 0, 1) := by decide +kernel
theorem dX1_shedUntilCarried_25 : decode cX1_shedUntilCarried 25 = .ok (.getfield 50, 3) := by decide +kernel
theorem dX1_shedUntilCarried_28 : decode cX1_shedUntilCarried 28 = .ok (.iload_n 1, 1) := by decide +kernel
theorem dX1_shedUntilCarried_29 : decode cX1_shedUntilCarried 29 = .ok (.dconst 0, 1) := by decide +kernel
theorem dX1_shedUntilCarried_30 : decode cX1_shedUntilCarried 30 = .ok (.dastore, 1) := by decide +kernel
theorem dX1_shedUntilCarried_31 : decode cX1_shedUntilCarried 31 = .ok (.aload_n 0, 1) := by decide +kernel
theorem dX1_shedUntilCarried_32 : decode cX1_shedUntilCarried 32 = .ok (.getfield 17, 3) := by decide +kernel
theorem dX1_shedUntilCarried_35 : decode cX1_shedUntilCarried 35 = .ok (.iload_n 1, 1) := by decide +kernel
theorem dX1_shedUntilCarried_36 : decode cX1_shedUntilCarried 36 = .ok (.dup2, 1) := by decide +kernel
theorem dX1_shedUntilCarried_37 : decode cX1_shedUntilCarried 37 = .ok (.iaload, 1) := by decide +kernel
theorem dX1_shedUntilCarried_38 : decode cX1_shedUntilCarried 38 = .ok (.iconst 1, 1) := by decide +kernel
theorem dX1_shedUntilCarried_39 : decode cX1_shedUntilCarried 39 = .ok (.iadd, 1) := by decide +kernel
theorem dX1_shedUntilCarried_40 : decode cX1_shedUntilCarried 40 = .ok (.iastore, 1) := by decide +kernel
theorem dX1_shedUntilCarried_41 : decode cX1_shedUntilCarried 41 = .ok (.aload_n 0, 1) := by decide +kernel
theorem dX1_shedUntilCarried_42 : decode cX1_shedUntilCarried 42 = .ok (.invokevirtual 162, 3) := by decide +kernel
theorem dX1_shedUntilCarried_45 : decode cX1_shedUntilCarried 45 = .ok (.istore_n 1, 1) := by decide +kernel
theorem dX1_shedUntilCarried_46 : decode cX1_shedUntilCarried 46 = .ok (.iinc 2 1, 3) := by decide +kernel
theorem dX1_shedUntilCarried_49 : decode cX1_shedUntilCarried 49 = .ok (.goto (-42), 3) := by decide +kernel
theorem dX1_shedUntilCarried_52 : decode cX1_shedUntilCarried 52 = .ok (.return_, 1) := by decide +kernel
set_option maxRecDepth 20000 in
theorem ggX1_isOverLine_X1_sumOfNeeds : GoodIn wsX1_isOverLine wsX1_sumOfNeeds := goodIn_r _ [6, 7, 8, 9, 10, 11, 12, 13, 14, 15, 16, 17, 18, 19] (by decide +kernel) (by decide +kernel)
set_option maxRecDepth 20000 in
theorem gX1_isOverLine_X1_sumOfNeeds : GoodIn wsX1_isOverLine (wsV RX1 165 RX1 yX1_sumOfNeeds wsX1_sumOfNeeds) := goodIn_app (goodIn_of _ (by decide +kernel)) ggX1_isOverLine_X1_sumOfNeeds
theorem dX1_isOverLine_0 : decode cX1_isOverLine 0 = .ok (.aload_n 0, 1) := by decide +kernel
theorem dX1_isOverLine_1 : decode cX1_isOverLine 1 = .ok (.invokevirtual 165, 3) := by decide +kernel
theorem dX1_isOverLine_4 : decode cX1_isOverLine 4 = .ok (.ldc2_w 169, 3) := by decide +kernel
theorem dX1_isOverLine_7 : decode cX1_isOverLine 7 = .ok (.dcmp .l, 1) := by decide +kernel
theorem dX1_isOverLine_8 : decode cX1_isOverLine 8 = .ok (.ifCond .le 7, 3) := by decide +kernel
theorem dX1_isOverLine_11 : decode cX1_isOverLine 11 = .ok (.iconst 1, 1) := by decide +kernel
theorem dX1_isOverLine_12 : decode cX1_isOverLine 12 = .ok (.goto 4, 3) := by decide +kernel
theorem dX1_isOverLine_15 : decode cX1_isOverLine 15 = .ok (.iconst 0, 1) := by decide +kernel
theorem dX1_isOverLine_16 : decode cX1_isOverLine 16 = .ok (.ireturn, 1) := by decide +kernel
theorem dX1_nextToShed_0 : decode cX1_nextToShed 0 = .ok (.iconst (-1), 1) := by decide +kernel
theorem dX1_nextToShed_1 : decode cX1_nextToShed 1 = .ok (.istore_n 1, 1) := by decide +kernel
theorem dX1_nextToShed_2 : decode cX1_nextToShed 2 = .ok (.iconst 0, 1) := by decide +kernel
theorem dX1_nextToShed_3 : decode cX1_nextToShed 3 = .ok (.istore_n 2, 1) := by decide +kernel
theorem dX1_nextToShed_4 : decode cX1_nextToShed 4 = .ok (.iload_n 2, 1) := by decide +kernel
theorem dX1_nextToShed_5 : decode cX1_nextToShed 5 = .ok (.iconst 5, 1) := by decide +kernel
theorem dX1_nextToShed_6 : decode cX1_nextToShed 6 = .ok (.if_icmp .ge 61, 3) := by decide +kernel
theorem dX1_nextToShed_9 : decode cX1_nextToShed 9 = .ok (.aload_n 0, 1) := by decide +kernel
theorem dX1_nextToShed_10 : decode cX1_nextToShed 10 = .ok (.getfield 13, 3) := by decide +kernel
theorem dX1_nextToShed_13 : decode cX1_nextToShed 13 = .ok (.iload_n 2, 1) := by decide +kernel
theorem dX1_nextToShed_14 : decode cX1_nextToShed 14 = .ok (.baload, 1) := by decide +kernel
theorem dX1_nextToShed_15 : decode cX1_nextToShed 15 = .ok (.ifCond .eq 18, 3) := by decide +kernel
theorem dX1_nextToShed_18 : decode cX1_nextToShed 18 = .ok (.aload_n 0, 1) := by decide +kernel
theorem dX1_nextToShed_19 : decode cX1_nextToShed 19 = .ok (.getfield 50, 3) := by decide +kernel
theorem dX1_nextToShed_22 : decode cX1_nextToShed 22 = .ok (.iload_n 2, 1) := by decide +kernel
theorem dX1_nextToShed_23 : decode cX1_nextToShed 23 = .ok (.daload, 1) := by decide +kernel
theorem dX1_nextToShed_24 : decode cX1_nextToShed 24 = .ok (.dconst 0, 1) := by decide +kernel
theorem dX1_nextToShed_25 : decode cX1_nextToShed 25 = .ok (.dcmp .l, 1) := by decide +kernel
theorem dX1_nextToShed_26 : decode cX1_nextToShed 26 = .ok (.ifCond .le 7, 3) := by decide +kernel
theorem dX1_nextToShed_29 : decode cX1_nextToShed 29 = .ok (.iconst 1, 1) := by decide +kernel
theorem dX1_nextToShed_30 : decode cX1_nextToShed 30 = .ok (.goto 4, 3) := by decide +kernel
theorem dX1_nextToShed_33 : decode cX1_nextToShed 33 = .ok (.iconst 0, 1) := by decide +kernel
theorem dX1_nextToShed_34 : decode cX1_nextToShed 34 = .ok (.istore_n 3, 1) := by decide +kernel
theorem dX1_nextToShed_35 : decode cX1_nextToShed 35 = .ok (.iload_n 3, 1) := by decide +kernel
theorem dX1_nextToShed_36 : decode cX1_nextToShed 36 = .ok (.ifCond .eq 25, 3) := by decide +kernel
theorem dX1_nextToShed_39 : decode cX1_nextToShed 39 = .ok (.iload_n 1, 1) := by decide +kernel
theorem dX1_nextToShed_40 : decode cX1_nextToShed 40 = .ok (.iconst (-1), 1) := by decide +kernel
theorem dX1_nextToShed_41 : decode cX1_nextToShed 41 = .ok (.if_icmp .eq 18, 3) := by decide +kernel
theorem dX1_nextToShed_44 : decode cX1_nextToShed 44 = .ok (.aload_n 0, 1) := by decide +kernel
theorem dX1_nextToShed_45 : decode cX1_nextToShed 45 = .ok (.getfield 17, 3) := by decide +kernel
theorem dX1_nextToShed_48 : decode cX1_nextToShed 48 = .ok (.iload_n 2, 1) := by decide +kernel
theorem dX1_nextToShed_49 : decode cX1_nextToShed 49 = .ok (.iaload, 1) := by decide +kernel
theorem dX1_nextToShed_50 : decode cX1_nextToShed 50 = .ok (.aload_n 0, 1) := by decide +kernel
theorem dX1_nextToShed_51 : decode cX1_nextToShed 51 = .ok (.getfield 17, 3) := by decide +kernel
theorem dX1_nextToShed_54 : decode cX1_nextToShed 54 = .ok (.iload_n 1, 1) := by decide +kernel
theorem dX1_nextToShed_55 : decode cX1_nextToShed 55 = .ok (.iaload, 1) := by decide +kernel
theorem dX1_nextToShed_56 : decode cX1_nextToShed 56 = .ok (.if_icmp .ge 5, 3) := by decide +kernel
theorem dX1_nextToShed_59 : decode cX1_nextToShed 59 = .ok (.iload_n 2, 1) := by decide +kernel
theorem dX1_nextToShed_60 : decode cX1_nextToShed 60 = .ok (.istore_n 1, 1) := by decide +kernel
theorem dX1_nextToShed_61 : decode cX1_nextToShed 61 = .ok (.iinc 2 1, 3) := by decide +kernel
theorem dX1_nextToShed_64 : decode cX1_nextToShed 64 = .ok (.goto (-60), 3) := by decide +kernel
theorem dX1_nextToShed_67 : decode cX1_nextToShed 67 = .ok (.iload_n 1, 1) := by decide +kernel
theorem dX1_nextToShed_68 : decode cX1_nextToShed 68 = .ok (.ireturn, 1) := by decide +kernel
set_option maxRecDepth 20000 in
theorem ggX1_writeUsed_X0_slot : GoodIn wsX1_writeUsed wsX0_slot := goodIn_r _ [7] (by decide +kernel) (by decide +kernel)
set_option maxRecDepth 20000 in
theorem gX1_writeUsed_X0_slot : GoodIn wsX1_writeUsed (va_wsS RX1 116 yX0_slot wsX0_slot) := goodIn_app (goodIn_of _ (by decide +kernel)) ggX1_writeUsed_X0_slot
theorem dX1_writeUsed_0 : decode cX1_writeUsed 0 = .ok (.iconst 0, 1) := by decide +kernel
theorem dX1_writeUsed_1 : decode cX1_writeUsed 1 = .ok (.istore_n 2, 1) := by decide +kernel
theorem dX1_writeUsed_2 : decode cX1_writeUsed 2 = .ok (.iload_n 2, 1) := by decide +kernel
theorem dX1_writeUsed_3 : decode cX1_writeUsed 3 = .ok (.iconst 5, 1) := by decide +kernel
theorem dX1_writeUsed_4 : decode cX1_writeUsed 4 = .ok (.if_icmp .ge 28, 3) := by decide +kernel
theorem dX1_writeUsed_7 : decode cX1_writeUsed 7 = .ok (.aload_n 0, 1) := by decide +kernel
theorem dX1_writeUsed_8 : decode cX1_writeUsed 8 = .ok (.getfield 33, 3) := by decide +kernel
theorem dX1_writeUsed_11 : decode cX1_writeUsed 11 = .ok (.getfield 128, 3) := by decide +kernel
theorem dX1_writeUsed_14 : decode cX1_writeUsed 14 = .ok (.iload_n 2, 1) := by decide +kernel
theorem dX1_writeUsed_15 : decode cX1_writeUsed 15 = .ok (.iload_n 1, 1) := by decide +kernel
theorem dX1_writeUsed_16 : decode cX1_writeUsed 16 = .ok (.invokestatic 116, 3) := by decide +kernel
theorem dX1_writeUsed_19 : decode cX1_writeUsed 19 = .ok (.aload_n 0, 1) := by decide +kernel
theorem dX1_writeUsed_20 : decode cX1_writeUsed 20 = .ok (.getfield 50, 3) := by decide +kernel
theorem dX1_writeUsed_23 : decode cX1_writeUsed 23 = .ok (.iload_n 2, 1) := by decide +kernel
theorem dX1_writeUsed_24 : decode cX1_writeUsed 24 = .ok (.daload, 1) := by decide +kernel
theorem dX1_writeUsed_25 : decode cX1_writeUsed 25 = .ok (.dastore, 1) := by decide +kernel
theorem dX1_writeUsed_26 : decode cX1_writeUsed 26 = .ok (.iinc 2 1, 3) := by decide +kernel
theorem dX1_writeUsed_29 : decode cX1_writeUsed 29 = .ok (.goto (-27), 3) := by decide +kernel
theorem dX1_writeUsed_32 : decode cX1_writeUsed 32 = .ok (.return_, 1) := by decide +kernel
set_option maxRecDepth 20000 in
theorem ggX1_giveByShare_X1_lesser : GoodIn wsX1_giveByShare wsX1_lesser := goodIn_r _ [8] (by decide +kernel) (by decide +kernel)
set_option maxRecDepth 20000 in
theorem gX1_giveByShare_X1_lesser : GoodIn wsX1_giveByShare (va_wsS RX1 171 yX1_lesser wsX1_lesser) := goodIn_app (goodIn_of _ (by decide +kernel)) ggX1_giveByShare_X1_lesser
set_option maxRecDepth 20000 in
theorem ggX1_giveByShare_X1_giveSun : GoodIn wsX1_giveByShare wsX1_giveSun := goodIn_r _ [12, 13, 14, 3, 15, 16, 17, 18, 19, 20, 21, 22, 23, 24, 25, 26, 27, 28, 29, 30, 31, 32, 33, 34, 35, 36, 37, 38, 39] (by decide +kernel) (by decide +kernel)
set_option maxRecDepth 20000 in
theorem gX1_giveByShare_X1_giveSun : GoodIn wsX1_giveByShare (wsV RX1 175 RX1 yX1_giveSun wsX1_giveSun) := goodIn_app (goodIn_of _ (by decide +kernel)) ggX1_giveByShare_X1_giveSun
theorem dX1_giveByShare_0 : decode cX1_giveByShare 0 = .ok (.iconst 0, 1) := by decide +kernel
theorem dX1_giveByShare_1 : decode cX1_giveByShare 1 = .ok (.istore_n 3, 1) := by decide +kernel
theorem dX1_giveByShare_2 : decode cX1_giveByShare 2 = .ok (.iload_n 3, 1) := by decide +kernel
theorem dX1_giveByShare_3 : decode cX1_giveByShare 3 = .ok (.iconst 5, 1) := by decide +kernel
theorem dX1_giveByShare_4 : decode cX1_giveByShare 4 = .ok (.if_icmp .ge 53, 3) := by decide +kernel
theorem dX1_giveByShare_7 : decode cX1_giveByShare 7 = .ok (.iload_n 2, 1) := by decide +kernel
theorem dX1_giveByShare_8 : decode cX1_giveByShare 8 = .ok (.i2d, 1) := by decide +kernel
theorem dX1_giveByShare_9 : decode cX1_giveByShare 9 = .ok (.aload_n 0, 1) := by decide +kernel
theorem dX1_giveByShare_10 : decode cX1_giveByShare 10 = .ok (.getfield 9, 3) := by decide +kernel
theorem dX1_giveByShare_13 : decode cX1_giveByShare 13 = .ok (.iload_n 3, 1) := by decide +kernel
theorem dX1_giveByShare_14 : decode cX1_giveByShare 14 = .ok (.iaload, 1) := by decide +kernel
theorem dX1_giveByShare_15 : decode cX1_giveByShare 15 = .ok (.i2d, 1) := by decide +kernel
theorem dX1_giveByShare_16 : decode cX1_giveByShare 16 = .ok (.dmul, 1) := by decide +kernel
theorem dX1_giveByShare_17 : decode cX1_giveByShare 17 = .ok (.ldc2_w 75, 3) := by decide +kernel
theorem dX1_giveByShare_20 : decode cX1_giveByShare 20 = .ok (.ddiv, 1) := by decide +kernel
theorem dX1_giveByShare_21 : decode cX1_giveByShare 21 = .ok (.aload_n 0, 1) := by decide +kernel
theorem dX1_giveByShare_22 : decode cX1_giveByShare 22 = .ok (.getfield 50, 3) := by decide +kernel
theorem dX1_giveByShare_25 : decode cX1_giveByShare 25 = .ok (.iload_n 3, 1) := by decide +kernel
theorem dX1_giveByShare_26 : decode cX1_giveByShare 26 = .ok (.daload, 1) := by decide +kernel
theorem dX1_giveByShare_27 : decode cX1_giveByShare 27 = .ok (.invokestatic 171, 3) := by decide +kernel
theorem dX1_giveByShare_30 : decode cX1_giveByShare 30 = .ok (.dstore 4, 2) := by decide +kernel
theorem dX1_giveByShare_32 : decode cX1_giveByShare 32 = .ok (.aload_n 0, 1) := by decide +kernel
theorem dX1_giveByShare_33 : decode cX1_giveByShare 33 = .ok (.iload_n 3, 1) := by decide +kernel
theorem dX1_giveByShare_34 : decode cX1_giveByShare 34 = .ok (.iload_n 1, 1) := by decide +kernel
theorem dX1_giveByShare_35 : decode cX1_giveByShare 35 = .ok (.dload 4, 2) := by decide +kernel
theorem dX1_giveByShare_37 : decode cX1_giveByShare 37 = .ok (.invokevirtual 175, 3) := by decide +kernel
theorem dX1_giveByShare_40 : decode cX1_giveByShare 40 = .ok (.aload_n 0, 1) := by decide +kernel
theorem dX1_giveByShare_41 : decode cX1_giveByShare 41 = .ok (.dup, 1) := by decide +kernel
theorem dX1_giveByShare_42 : decode cX1_giveByShare 42 = .ok (.getfield 53, 3) := by decide +kernel
theorem dX1_giveByShare_45 : decode cX1_giveByShare 45 = .ok (.dload 4, 2) := by decide +kernel
theorem dX1_giveByShare_47 : decode cX1_giveByShare 47 = .ok (.dsub, 1) := by decide +kernel
theorem dX1_giveByShare_48 : decode cX1_giveByShare 48 = .ok (.putfield 53, 3) := by decide +kernel
theorem dX1_giveByShare_51 : decode cX1_giveByShare 51 = .ok (.iinc 3 1, 3) := by decide +kernel
theorem dX1_giveByShare_54 : decode cX1_giveByShare 54 = .ok (.goto (-52), 3) := by decide +kernel
theorem dX1_giveByShare_57 : decode cX1_giveByShare 57 = .ok (.return_, 1) := by decide +kernel
set_option maxRecDepth 20000 in
theorem ggX1_giveByNeed_X1_sumOfNeeds : GoodIn wsX1_giveByNeed wsX1_sumOfNeeds := goodIn_r _ [7, 2, 18, 19, 20, 21, 22, 23, 24, 25, 26, 27, 28, 29] (by decide +kernel) (by decide +kernel)
set_option maxRecDepth 20000 in
theorem gX1_giveByNeed_X1_sumOfNeeds : GoodIn wsX1_giveByNeed (wsV RX1 165 RX1 yX1_sumOfNeeds wsX1_sumOfNeeds) := goodIn_app (goodIn_of _ (by decide +kernel)) ggX1_giveByNeed_X1_sumOfNeeds
set_option maxRecDepth 20000 in
theorem ggX1_giveByNeed_X1_giveSun : GoodIn wsX1_giveByNeed wsX1_giveSun := goodIn_r _ [11, 12, 13, 2, 14, 15, 16, 17, 18, 19, 20, 21, 22, 23, 24, 25, 26, 27, 28, 29, 30, 31, 32, 33, 34, 35, 36, 37, 38] (by decide +kernel) (by decide +kernel)
set_option maxRecDepth 20000 in
theorem gX1_giveByNeed_X1_giveSun : GoodIn wsX1_giveByNeed (wsV RX1 175 RX1 yX1_giveSun wsX1_giveSun) := goodIn_app (goodIn_of _ (by decide +kernel)) ggX1_giveByNeed_X1_giveSun
theorem dX1_giveByNeed_0 : decode cX1_giveByNeed 0 = .ok (.aload_n 0, 1) := by decide +kernel
theorem dX1_giveByNeed_1 : decode cX1_giveByNeed 1 = .ok (.invokevirtual 165, 3) := by decide +kernel
theorem dX1_giveByNeed_4 : decode cX1_giveByNeed 4 = .ok (.dstore_n 2, 1) := by decide +kernel
theorem dX1_giveByNeed_5 : decode cX1_giveByNeed 5 = .ok (.dload_n 2, 1) := by decide +kernel
theorem dX1_giveByNeed_6 : decode cX1_giveByNeed 6 = .ok (.dconst 0, 1) := by decide +kernel
theorem dX1_giveByNeed_7 : decode cX1_giveByNeed 7 = .ok (.dcmp .l, 1) := by decide +kernel
theorem dX1_giveByNeed_8 : decode cX1_giveByNeed 8 = .ok (.ifCond .ne 4, 3) := by decide +kernel
theorem dX1_giveByNeed_11 : decode cX1_giveByNeed 11 = .ok (.return_, 1) := by decide +kernel
theorem dX1_giveByNeed_12 : decode cX1_giveByNeed 12 = .ok (.dload_n 2, 1) := by decide +kernel
theorem dX1_giveByNeed_13 : decode cX1_giveByNeed 13 = .ok (.aload_n 0, 1) := by decide +kernel
theorem dX1_giveByNeed_14 : decode cX1_giveByNeed 14 = .ok (.getfield 53, 3) := by decide +kernel
theorem dX1_giveByNeed_17 : decode cX1_giveByNeed 17 = .ok (.dcmp .g, 1) := by decide +kernel
theorem dX1_giveByNeed_18 : decode cX1_giveByNeed 18 = .ok (.ifCond .gt 43, 3) := by decide +kernel
theorem dX1_giveByNeed_21 : decode cX1_giveByNeed 21 = .ok (.aload_n 0, 1) := by decide +kernel
theorem dX1_giveByNeed_22 : decode cX1_giveByNeed 22 = .ok (.dup, 1) := by decide +kernel
theorem dX1_giveByNeed_23 : decode cX1_giveByNeed 23 = .ok (.getfield 53, 3) := by decide +kernel
theorem dX1_giveByNeed_26 : decode cX1_giveByNeed 26 = .ok (.dload_n 2, 1) := by decide +kernel
theorem dX1_giveByNeed_27 : decode cX1_giveByNeed 27 = .ok (.dsub, 1) := by decide +kernel
theorem dX1_giveByNeed_28 : decode cX1_giveByNeed 28 = .ok (.putfield 53, 3) := by decide +kernel
theorem dX1_giveByNeed_31 : decode cX1_giveByNeed 31 = .ok (.iconst 0, 1) := by decide +kernel
theorem dX1_giveByNeed_32 : decode cX1_giveByNeed 32 = .ok (.istore 4, 2) := by decide +kernel
theorem dX1_giveByNeed_34 : decode cX1_giveByNeed 34 = .ok (.iload 4, 2) := by decide +kernel
theorem dX1_giveByNeed_36 : decode cX1_giveByNeed 36 = .ok (.iconst 5, 1) := by decide +kernel
theorem dX1_giveByNeed_37 : decode cX1_giveByNeed 37 = .ok (.if_icmp .ge 23, 3) := by decide +kernel
theorem dX1_giveByNeed_40 : decode cX1_giveByNeed 40 = .ok (.aload_n 0, 1) := by decide +kernel
theorem dX1_giveByNeed_41 : decode cX1_giveByNeed 41 = .ok (.iload 4, 2) := by decide +kernel
theorem dX1_giveByNeed_43 : decode cX1_giveByNeed 43 = .ok (.iload_n 1, 1) := by decide +kernel
theorem dX1_giveByNeed_44 : decode cX1_giveByNeed 44 = .ok (.aload_n 0, 1) := by decide +kernel
theorem dX1_giveByNeed_45 : decode cX1_giveByNeed 45 = .ok (.getfield 50, 3) := by decide +kernel
theorem dX1_giveByNeed_48 : decode cX1_giveByNeed 48 = .ok (.iload 4, 2) := by decide +kernel
theorem dX1_giveByNeed_50 : decode cX1_giveByNeed 50 = .ok (.daload, 1) := by decide +kernel
theorem dX1_giveByNeed_51 : decode cX1_giveByNeed 51 = .ok (.invokevirtual 175, 3) := by decide +kernel
theorem dX1_giveByNeed_54 : decode cX1_giveByNeed 54 = .ok (.iinc 4 1, 3) := by decide +kernel
theorem dX1_giveByNeed_57 : decode cX1_giveByNeed 57 = .ok (.goto (-23), 3) := by decide +kernel
theorem dX1_giveByNeed_60 : decode cX1_giveByNeed 60 = .ok (.return_, 1) := by decide +kernel
theorem dX1_giveByNeed_61 : decode cX1_giveByNeed 61 = .ok (.iconst 0, 1) := by decide +kernel
theorem dX1_giveByNeed_62 : decode cX1_giveByNeed 62 = .ok (.istore 4, 2) := by decide +kernel
theorem dX1_giveByNeed_64 : decode cX1_giveByNeed 64 = .ok (.iload 4, 2) := by decide +kernel
theorem dX1_giveByNeed_66 : decode cX1_giveByNeed 66 = .ok (.iconst 5, 1) := by decide +kernel
theorem dX1_giveByNeed_67 : decode cX1_giveByNeed 67 = .ok (.if_icmp .ge 30, 3) := by decide +kernel
theorem dX1_giveByNeed_70 : decode cX1_giveByNeed 70 = .ok (.aload_n 0, 1) := by decide +kernel
theorem dX1_giveByNeed_71 : decode cX1_giveByNeed 71 = .ok (.iload 4, 2) := by decide +kernel
theorem dX1_giveByNeed_73 : decode cX1_giveByNeed 73 = .ok (.iload_n 1, 1) := by decide +kernel
theorem dX1_giveByNeed_74 : decode cX1_giveByNeed 74 = .ok (.aload_n 0, 1) := by decide +kernel
theorem dX1_giveByNeed_75 : decode cX1_giveByNeed 75 = .ok (.getfield 53, 3) := by decide +kernel
theorem dX1_giveByNeed_78 : decode cX1_giveByNeed 78 = .ok (.aload_n 0, 1) := by decide +kernel
theorem dX1_giveByNeed_79 : decode cX1_giveByNeed 79 = .ok (.getfield 50, 3) := by decide +kernel
theorem dX1_giveByNeed_82 : decode cX1_giveByNeed 82 = .ok (.iload 4, 2) := by decide +kernel
theorem dX1_giveByNeed_84 : decode cX1_giveByNeed 84 = .ok (.daload, 1) := by decide +kernel
theorem dX1_giveByNeed_85 : decode cX1_giveByNeed 85 = .ok (.dmul, 1) := by decide +kernel
theorem dX1_giveByNeed_86 : decode cX1_giveByNeed 86 = .ok (.dload_n 2, 1) := by decide +kernel
theorem dX1_giveByNeed_87 : decode cX1_giveByNeed 87 = .ok (.ddiv, 1) := by decide +kernel
theorem dX1_giveByNeed_88 : decode cX1_giveByNeed 88 = .ok (.invokevirtual 175, 3) := by decide +kernel
theorem dX1_giveByNeed_91 : decode cX1_giveByNeed 91 = .ok (.iinc 4 1, 3) := by decide +kernel
theorem dX1_giveByNeed_94 : decode cX1_giveByNeed 94 = .ok (.goto (-30), 3) := by decide +kernel
theorem dX1_giveByNeed_97 : decode cX1_giveByNeed 97 = .ok (.aload_n 0, 1) := by decide +kernel
theorem dX1_giveByNeed_98 : decode cX1_giveByNeed 98 = .ok (.dconst 0, 1) := by decide +kernel
theorem dX1_giveByNeed_99 : decode cX1_giveByNeed 99 = .ok (.putfield 53, 3) := by decide +kernel
theorem dX1_giveByNeed_102 : decode cX1_giveByNeed 102 = .ok (.return_, 1) := by decide +kernel
set_option maxRecDepth 20000 in
theorem ggX1_giveSun_X0_slot : GoodIn wsX1_giveSun wsX0_slot := goodIn_r _ [7] (by decide +kernel) (by decide +kernel)
set_option maxRecDepth 20000 in
theorem gX1_giveSun_X0_slot : GoodIn wsX1_giveSun (va_wsS RX1 116 yX0_slot wsX0_slot) := goodIn_app (goodIn_of _ (by decide +kernel)) ggX1_giveSun_X0_slot
theorem dX1_giveSun_0 : decode cX1_giveSun 0 = .ok (.aload_n 0, 1) := by decide +kernel
theorem dX1_giveSun_1 : decode cX1_giveSun 1 = .ok (.getfield 33, 3) := by decide +kernel
theorem dX1_giveSun_4 : decode cX1_giveSun 4 = .ok (.getfield 134, 3) := by decide +kernel
theorem dX1_giveSun_7 : decode cX1_giveSun 7 = .ok (.iload_n 1, 1) := by decide +kernel
theorem dX1_giveSun_8 : decode cX1_giveSun 8 = .ok (.iload_n 2, 1) := by decide +kernel
theorem dX1_giveSun_9 : decode cX1_giveSun 9 = .ok (.invokestatic 116, 3) := by decide +kernel
theorem dX1_giveSun_12 : decode cX1_giveSun 12 = .ok (.dup2, 1) := by decide +kernel
theorem dX1_giveSun_13 : decode cX1_giveSun 13 = .ok (.daload, 1) := by decide +kernel
theorem dX1_giveSun_14 : decode cX1_giveSun 14 = .ok (.dload_n 3, 1) := by decide +kernel
theorem dX1_giveSun_15 : decode cX1_giveSun 15 = .ok (.dadd, 1) := by decide +kernel
theorem dX1_giveSun_16 : decode cX1_giveSun 16 = .ok (.dastore, 1) := by decide +kernel
theorem dX1_giveSun_17 : decode cX1_giveSun 17 = .ok (.aload_n 0, 1) := by decide +kernel
theorem dX1_giveSun_18 : decode cX1_giveSun 18 = .ok (.getfield 50, 3) := by decide +kernel
theorem dX1_giveSun_21 : decode cX1_giveSun 21 = .ok (.iload_n 1, 1) := by decide +kernel
theorem dX1_giveSun_22 : decode cX1_giveSun 22 = .ok (.dup2, 1) := by decide +kernel
theorem dX1_giveSun_23 : decode cX1_giveSun 23 = .ok (.daload, 1) := by decide +kernel
theorem dX1_giveSun_24 : decode cX1_giveSun 24 = .ok (.dload_n 3, 1) := by decide +kernel
theorem dX1_giveSun_25 : decode cX1_giveSun 25 = .ok (.dsub, 1) := by decide +kernel
theorem dX1_giveSun_26 : decode cX1_giveSun 26 = .ok (.dastore, 1) := by decide +kernel
theorem dX1_giveSun_27 : decode cX1_giveSun 27 = .ok (.return_, 1) := by decide +kernel
theorem dX1_storeOrSell_0 : decode cX1_storeOrSell 0 = .ok (.ldc2_w 179, 3) := by decide +kernel
theorem dX1_storeOrSell_3 : decode cX1_storeOrSell 3 = .ok (.aload_n 0, 1) := by decide +kernel
theorem dX1_storeOrSell_4 : decode cX1_storeOrSell 4 = .ok (.getfield 43, 3) := by decide +kernel
theorem dX1_storeOrSell_7 : decode cX1_storeOrSell 7 = .ok (.dsub, 1) := by decide +kernel
theorem dX1_storeOrSell_8 : decode cX1_storeOrSell 8 = .ok (.dstore_n 2, 1) := by decide +kernel
theorem dX1_storeOrSell_9 : decode cX1_storeOrSell 9 = .ok (.aload_n 0, 1) := by decide +kernel
theorem dX1_storeOrSell_10 : decode cX1_storeOrSell 10 = .ok (.getfield 53, 3) := by decide +kernel
theorem dX1_storeOrSell_13 : decode cX1_storeOrSell 13 = .ok (.dload_n 2, 1) := by decide +kernel
theorem dX1_storeOrSell_14 : decode cX1_storeOrSell 14 = .ok (.dcmp .g, 1) := by decide +kernel
theorem dX1_storeOrSell_15 : decode cX1_storeOrSell 15 = .ok (.ifCond .ge 29, 3) := by decide +kernel
theorem dX1_storeOrSell_18 : decode cX1_storeOrSell 18 = .ok (.aload_n 0, 1) := by decide +kernel
theorem dX1_storeOrSell_19 : decode cX1_storeOrSell 19 = .ok (.dup, 1) := by decide +kernel
theorem dX1_storeOrSell_20 : decode cX1_storeOrSell 20 = .ok (.getfield 43, 3) := by decide +kernel
theorem dX1_storeOrSell_23 : decode cX1_storeOrSell 23 = .ok (.aload_n 0, 1) := by decide +kernel
theorem dX1_storeOrSell_24 : decode cX1_storeOrSell 24 = .ok (.getfield 53, 3) := by decide +kernel
theorem dX1_storeOrSell_27 : decode cX1_storeOrSell 27 = .ok (.dadd, 1) := by decide +kernel
theorem dX1_storeOrSell_28 : decode cX1_storeOrSell 28 = .ok (.putfield 43, 3) := by decide +kernel
theorem dX1_storeOrSell_31 : decode cX1_storeOrSell 31 = .ok (.aload_n 0, 1) := by decide +kernel
theorem dX1_storeOrSell_32 : decode cX1_storeOrSell 32 = .ok (.getfield 33, 3) := by decide +kernel
theorem dX1_storeOrSell_35 : decode cX1_storeOrSell 35 = .ok (.getfield 143, 3) := by decide +kernel
theorem dX1_storeOrSell_38 : decode cX1_storeOrSell 38 = .ok (.iload_n 1, 1) := by decide +kernel
theorem dX1_storeOrSell_39 : decode cX1_storeOrSell 39 = .ok (.dconst 0, 1) := by decide +kernel
theorem dX1_storeOrSell_40 : decode cX1_storeOrSell 40 = .ok (.dastore, 1) := by decide +kernel
theorem dX1_storeOrSell_41 : decode cX1_storeOrSell 41 = .ok (.goto 25, 3) := by decide +kernel
theorem dX1_storeOrSell_44 : decode cX1_storeOrSell 44 = .ok (.aload_n 0, 1) := by decide +kernel
theorem dX1_storeOrSell_45 : decode cX1_storeOrSell 45 = .ok (.ldc2_w 179, 3) := by decide +kernel
theorem dX1_storeOrSell_48 : decode cX1_storeOrSell 48 = .ok (.putfield 43, 3) := by decide +kernel
theorem dX1_storeOrSell_51 : decode cX1_storeOrSell 51 = .ok (.aload_n 0, 1) := by decide +kernel
theorem dX1_storeOrSell_52 : decode cX1_storeOrSell 52 = .ok (.getfield 33, 3) := by decide +kernel
theorem dX1_storeOrSell_55 : decode cX1_storeOrSell 55 = .ok (.getfield 143, 3) := by decide +kernel
theorem dX1_storeOrSell_58 : decode cX1_storeOrSell 58 = .ok (.iload_n 1, 1) := by decide +kernel
theorem dX1_storeOrSell_59 : decode cX1_storeOrSell 59 = .ok (.aload_n 0, 1) := by decide +kernel
theorem dX1_storeOrSell_60 : decode cX1_storeOrSell 60 = .ok (.getfield 53, 3) := by decide +kernel
theorem dX1_storeOrSell_63 : decode cX1_storeOrSell 63 = .ok (.dload_n 2, 1) := by decide +kernel
theorem dX1_storeOrSell_64 : decode cX1_storeOrSell 64 = .ok (.dsub, 1) := by decide +kernel
theorem dX1_storeOrSell_65 : decode cX1_storeOrSell 65 = .ok (.dastore, 1) := by decide +kernel
theorem dX1_storeOrSell_66 : decode cX1_storeOrSell 66 = .ok (.return_, 1) := by decide +kernel
set_option maxRecDepth 20000 in
theorem ggX1_giveFromBattery_X1_lesser : GoodIn wsX1_giveFromBattery wsX1_lesser := goodIn_r _ [9] (by decide +kernel) (by decide +kernel)
set_option maxRecDepth 20000 in
theorem gX1_giveFromBattery_X1_lesser : GoodIn wsX1_giveFromBattery (va_wsS RX1 171 yX1_lesser wsX1_lesser) := goodIn_app (goodIn_of _ (by decide +kernel)) ggX1_giveFromBattery_X1_lesser
set_option maxRecDepth 20000 in
theorem ggX1_giveFromBattery_X0_slot : GoodIn wsX1_giveFromBattery wsX0_slot := goodIn_r _ [13] (by decide +kernel) (by decide +kernel)
set_option maxRecDepth 20000 in
theorem gX1_giveFromBattery_X0_slot : GoodIn wsX1_giveFromBattery (va_wsS RX1 116 yX0_slot wsX0_slot) := goodIn_app (goodIn_of _ (by decide +kernel)) ggX1_giveFromBattery_X0_slot
set_option maxRecDepth 20000 in
theorem ggX1_giveFromBattery_X1_behind : GoodIn wsX1_giveFromBattery wsX1_behind := goodIn_r _ [16, 17, 18, 19, 20] (by decide +kernel) (by decide +kernel)
set_option maxRecDepth 20000 in
theorem gX1_giveFromBattery_X1_behind : GoodIn wsX1_giveFromBattery (va_wsS RX1 181 yX1_behind wsX1_behind) := goodIn_app (goodIn_of _ (by decide +kernel)) ggX1_giveFromBattery_X1_behind
theorem dX1_giveFromBattery_0 : decode cX1_giveFromBattery 0 = .ok (.iconst (-1), 1) := by decide +kernel
theorem dX1_giveFromBattery_1 : decode cX1_giveFromBattery 1 = .ok (.istore_n 2, 1) := by decide +kernel
theorem dX1_giveFromBattery_2 : decode cX1_giveFromBattery 2 = .ok (.aload_n 0, 1) := by decide +kernel
theorem dX1_giveFromBattery_3 : decode cX1_giveFromBattery 3 = .ok (.getfield 46, 3) := by decide +kernel
theorem dX1_giveFromBattery_6 : decode cX1_giveFromBattery 6 = .ok (.istore_n 3, 1) := by decide +kernel
theorem dX1_giveFromBattery_7 : decode cX1_giveFromBattery 7 = .ok (.iconst 0, 1) := by decide +kernel
theorem dX1_giveFromBattery_8 : decode cX1_giveFromBattery 8 = .ok (.istore 4, 2) := by decide +kernel
theorem dX1_giveFromBattery_10 : decode cX1_giveFromBattery 10 = .ok (.iload 4, 2) := by decide +kernel
theorem dX1_giveFromBattery_12 : decode cX1_giveFromBattery 12 = .ok (.iconst 5, 1) := by decide +kernel
theorem dX1_giveFromBattery_13 : decode cX1_giveFromBattery 13 = .ok (.if_icmp .ge 75, 3) := by decide +kernel
theorem dX1_giveFromBattery_16 : decode cX1_giveFromBattery 16 = .ok (.aload_n 0, 1) := by decide +kernel
theorem dX1_giveFromBattery_17 : decode cX1_giveFromBattery 17 = .ok (.getfield 50, 3) := by decide +kernel
theorem dX1_giveFromBattery_20 : decode cX1_giveFromBattery 20 = .ok (.iload_n 3, 1) := by decide +kernel
theorem dX1_giveFromBattery_21 : decode cX1_giveFromBattery 21 = .ok (.daload, 1) := by decide +kernel
theorem dX1_giveFromBattery_22 : decode cX1_giveFromBattery 22 = .ok (.aload_n 0, 1) := by decide +kernel
theorem dX1_giveFromBattery_23 : decode cX1_giveFromBattery 23 = .ok (.getfield 43, 3) := by decide +kernel
theorem dX1_giveFromBattery_26 : decode cX1_giveFromBattery 26 = .ok (.invokestatic 171, 3) := by decide +kernel
theorem dX1_giveFromBattery_29 : decode cX1_giveFromBattery 29 = .ok (.dstore 5, 2) := by decide +kernel
theorem dX1_giveFromBattery_31 : decode cX1_giveFromBattery 31 = .ok (.aload_n 0, 1) := by decide +kernel
theorem dX1_giveFromBattery_32 : decode cX1_giveFromBattery 32 = .ok (.getfield 33, 3) := by decide +kernel
theorem dX1_giveFromBattery_35 : decode cX1_giveFromBattery 35 = .ok (.getfield 137, 3) := by decide +kernel
theorem dX1_giveFromBattery_38 : decode cX1_giveFromBattery 38 = .ok (.iload_n 3, 1) := by decide +kernel
theorem dX1_giveFromBattery_39 : decode cX1_giveFromBattery 39 = .ok (.iload_n 1, 1) := by decide +kernel
theorem dX1_giveFromBattery_40 : decode cX1_giveFromBattery 40 = .ok (.invokestatic 116, 3) := by decide +kernel
theorem dX1_giveFromBattery_43 : decode cX1_giveFromBattery 43 = .ok (.dload 5, 2) := by decide +kernel
theorem dX1_giveFromBattery_45 : decode cX1_giveFromBattery 45 = .ok (.dastore, 1) := by decide +kernel
theorem dX1_giveFromBattery_46 : decode cX1_giveFromBattery 46 = .ok (.aload_n 0, 1) := by decide +kernel
theorem dX1_giveFromBattery_47 : decode cX1_giveFromBattery 47 = .ok (.getfield 50, 3) := by decide +kernel
theorem dX1_giveFromBattery_50 : decode cX1_giveFromBattery 50 = .ok (.iload_n 3, 1) := by decide +kernel
theorem dX1_giveFromBattery_51 : decode cX1_giveFromBattery 51 = .ok (.dup2, 1) := by decide +kernel
theorem dX1_giveFromBattery_52 : decode cX1_giveFromBattery 52 = .ok (.daload, 1) := by decide +kernel
theorem dX1_giveFromBattery_53 : decode cX1_giveFromBattery 53 = .ok (.dload 5, 2) := by decide +kernel
theorem dX1_giveFromBattery_55 : decode cX1_giveFromBattery 55 = .ok (.dsub, 1) := by decide +kernel
theorem dX1_giveFromBattery_56 : decode cX1_giveFromBattery 56 = .ok (.dastore, 1) := by decide +kernel
theorem dX1_giveFromBattery_57 : decode cX1_giveFromBattery 57 = .ok (.aload_n 0, 1) := by decide +kernel
theorem dX1_giveFromBattery_58 : decode cX1_giveFromBattery 58 = .ok (.dup, 1) := by decide +kernel
theorem dX1_giveFromBattery_59 : decode cX1_giveFromBattery 59 = .ok (.getfield 43, 3) := by decide +kernel
theorem dX1_giveFromBattery_62 : decode cX1_giveFromBattery 62 = .ok (.dload 5, 2) := by decide +kernel
theorem dX1_giveFromBattery_64 : decode cX1_giveFromBattery 64 = .ok (.dsub, 1) := by decide +kernel
theorem dX1_giveFromBattery_65 : decode cX1_giveFromBattery 65 = .ok (.putfield 43, 3) := by decide +kernel
theorem dX1_giveFromBattery_68 : decode cX1_giveFromBattery 68 = .ok (.dload 5, 2) := by decide +kernel
theorem dX1_giveFromBattery_70 : decode cX1_giveFromBattery 70 = .ok (.dconst 0, 1) := by decide +kernel
theorem dX1_giveFromBattery_71 : decode cX1_giveFromBattery 71 = .ok (.dcmp .l, 1) := by decide +kernel
theorem dX1_giveFromBattery_72 : decode cX1_giveFromBattery 72 = .ok (.ifCond .le 5, 3) := by decide +kernel
theorem dX1_giveFromBattery_75 : decode cX1_giveFromBattery 75 = .ok (.iload_n 3, 1) := by decide +kernel
theorem dX1_giveFromBattery_76 : decode cX1_giveFromBattery 76 = .ok (.istore_n 2, 1) := by decide +kernel
theorem dX1_giveFromBattery_77 : decode cX1_giveFromBattery 77 = .ok (.iload_n 3, 1) := by decide +kernel
theorem dX1_giveFromBattery_78 : decode cX1_giveFromBattery 78 = .ok (.invokestatic 181, 3) := by decide +kernel
theorem dX1_giveFromBattery_81 : decode cX1_giveFromBattery 81 = .ok (.istore_n 3, 1) := by decide +kernel
theorem dX1_giveFromBattery_82 : decode cX1_giveFromBattery 82 = .ok (.iinc 4 1, 3) := by decide +kernel
theorem dX1_giveFromBattery_85 : decode cX1_giveFromBattery 85 = .ok (.goto (-75), 3) := by decide +kernel
theorem dX1_giveFromBattery_88 : decode cX1_giveFromBattery 88 = .ok (.iload_n 2, 1) := by decide +kernel
theorem dX1_giveFromBattery_89 : decode cX1_giveFromBattery 89 = .ok (.iconst (-1), 1) := by decide +kernel
theorem dX1_giveFromBattery_90 : decode cX1_giveFromBattery 90 = .ok (.if_icmp .eq 11, 3) := by decide +kernel
theorem dX1_giveFromBattery_93 : decode cX1_giveFromBattery 93 = .ok (.aload_n 0, 1) := by decide +kernel
theorem dX1_giveFromBattery_94 : decode cX1_giveFromBattery 94 = .ok (.iload_n 2, 1) := by decide +kernel
theorem dX1_giveFromBattery_95 : decode cX1_giveFromBattery 95 = .ok (.invokestatic 181, 3) := by decide +kernel
theorem dX1_giveFromBattery_98 : decode cX1_giveFromBattery 98 = .ok (.putfield 46, 3) := by decide +kernel
theorem dX1_giveFromBattery_101 : decode cX1_giveFromBattery 101 = .ok (.return_, 1) := by decide +kernel
set_option maxRecDepth 20000 in
theorem ggX1_writeBills_X0_slot : GoodIn wsX1_writeBills wsX0_slot := goodIn_r _ [11] (by decide +kernel) (by decide +kernel)
set_option maxRecDepth 20000 in
theorem gX1_writeBills_X0_slot : GoodIn wsX1_writeBills (va_wsS RX1 116 yX0_slot wsX0_slot) := goodIn_app (goodIn_of _ (by decide +kernel)) ggX1_writeBills_X0_slot
theorem dX1_writeBills_0 : decode cX1_writeBills 0 = .ok (.aload_n 0, 1) := by decide +kernel
theorem dX1_writeBills_1 : decode cX1_writeBills 1 = .ok (.getfield 33, 3) := by decide +kernel
theorem dX1_writeBills_4 : decode cX1_writeBills 4 = .ok (.getfield 143, 3) := by decide +kernel
theorem dX1_writeBills_7 : decode cX1_writeBills 7 = .ok (.iload_n 1, 1) := by decide +kernel
theorem dX1_writeBills_8 : decode cX1_writeBills 8 = .ok (.daload, 1) := by decide +kernel
theorem dX1_writeBills_9 : decode cX1_writeBills 9 = .ok (.aload_n 0, 1) := by decide +kernel
theorem dX1_writeBills_10 : decode cX1_writeBills 10 = .ok (.getfield 39, 3) := by decide +kernel
theorem dX1_writeBills_13 : decode cX1_writeBills 13 = .ok (.dmul, 1) := by decide +kernel
theorem dX1_writeBills_14 : decode cX1_writeBills 14 = .ok (.ldc2_w 185, 3) := by decide +kernel
theorem dX1_writeBills_17 : decode cX1_writeBills 17 = .ok (.ddiv, 1) := by decide +kernel
theorem dX1_writeBills_18 : decode cX1_writeBills 18 = .ok (.dstore_n 2, 1) := by decide +kernel
theorem dX1_writeBills_19 : decode cX1_writeBills 19 = .ok (.iconst 0, 1) := by decide +kernel
theorem dX1_writeBills_20 : decode cX1_writeBills 20 = .ok (.istore 4, 2) := by decide +kernel
theorem dX1_writeBills_22 : decode cX1_writeBills 22 = .ok (.iload 4, 2) := by decide +kernel
theorem dX1_writeBills_24 : decode cX1_writeBills 24 = .ok (.iconst 5, 1) := by decide +kernel
theorem dX1_writeBills_25 : decode cX1_writeBills 25 = .ok (.if_icmp .ge 63, 3) := by decide +kernel
theorem dX1_writeBills_28 : decode cX1_writeBills 28 = .ok (.aload_n 0, 1) := by decide +kernel
theorem dX1_writeBills_29 : decode cX1_writeBills 29 = .ok (.getfield 33, 3) := by decide +kernel
theorem dX1_writeBills_32 : decode cX1_writeBills 32 = .ok (.getfield 140, 3) := by decide +kernel
theorem dX1_writeBills_35 : decode cX1_writeBills 35 = .ok (.iload 4, 2) := by decide +kernel
theorem dX1_writeBills_37 : decode cX1_writeBills 37 = .ok (.iload_n 1, 1) := by decide +kernel
theorem dX1_writeBills_38 : decode cX1_writeBills 38 = .ok (.invokestatic 116, 3) := by decide +kernel
theorem dX1_writeBills_41 : decode cX1_writeBills 41 = .ok (.aload_n 0, 1) := by decide +kernel
theorem dX1_writeBills_42 : decode cX1_writeBills 42 = .ok (.getfield 50, 3) := by decide +kernel
theorem dX1_writeBills_45 : decode cX1_writeBills 45 = .ok (.iload 4, 2) := by decide +kernel
theorem dX1_writeBills_47 : decode cX1_writeBills 47 = .ok (.daload, 1) := by decide +kernel
theorem dX1_writeBills_48 : decode cX1_writeBills 48 = .ok (.dastore, 1) := by decide +kernel
theorem dX1_writeBills_49 : decode cX1_writeBills 49 = .ok (.aload_n 0, 1) := by decide +kernel
theorem dX1_writeBills_50 : decode cX1_writeBills 50 = .ok (.getfield 20, 3) := by decide +kernel
theorem dX1_writeBills_53 : decode cX1_writeBills 53 = .ok (.iload 4, 2) := by decide +kernel
theorem dX1_writeBills_55 : decode cX1_writeBills 55 = .ok (.dup2, 1) := by decide +kernel
theorem dX1_writeBills_56 : decode cX1_writeBills 56 = .ok (.daload, 1) := by decide +kernel
theorem dX1_writeBills_57 : decode cX1_writeBills 57 = .ok (.aload_n 0, 1) := by decide +kernel
theorem dX1_writeBills_58 : decode cX1_writeBills 58 = .ok (.getfield 50, 3) := by decide +kernel
theorem dX1_writeBills_61 : decode cX1_writeBills 61 = .ok (.iload 4, 2) := by decide +kernel
theorem dX1_writeBills_63 : decode cX1_writeBills 63 = .ok (.daload, 1) := by decide +kernel
theorem dX1_writeBills_64 : decode cX1_writeBills 64 = .ok (.aload_n 0, 1) := by decide +kernel
theorem dX1_writeBills_65 : decode cX1_writeBills 65 = .ok (.getfield 39, 3) := by decide +kernel
theorem dX1_writeBills_68 : decode cX1_writeBills 68 = .ok (.dmul, 1) := by decide +kernel
theorem dX1_writeBills_69 : decode cX1_writeBills 69 = .ok (.dadd, 1) := by decide +kernel
theorem dX1_writeBills_70 : decode cX1_writeBills 70 = .ok (.dastore, 1) := by decide +kernel
theorem dX1_writeBills_71 : decode cX1_writeBills 71 = .ok (.aload_n 0, 1) := by decide +kernel
theorem dX1_writeBills_72 : decode cX1_writeBills 72 = .ok (.getfield 20, 3) := by decide +kernel
theorem dX1_writeBills_75 : decode cX1_writeBills 75 = .ok (.iload 4, 2) := by decide +kernel
theorem dX1_writeBills_77 : decode cX1_writeBills 77 = .ok (.dup2, 1) := by decide +kernel
theorem dX1_writeBills_78 : decode cX1_writeBills 78 = .ok (.daload, 1) := by decide +kernel
theorem dX1_writeBills_79 : decode cX1_writeBills 79 = .ok (.dload_n 2, 1) := by decide +kernel
theorem dX1_writeBills_80 : decode cX1_writeBills 80 = .ok (.dsub, 1) := by decide +kernel
theorem dX1_writeBills_81 : decode cX1_writeBills 81 = .ok (.dastore, 1) := by decide +kernel
theorem dX1_writeBills_82 : decode cX1_writeBills 82 = .ok (.iinc 4 1, 3) := by decide +kernel
theorem dX1_writeBills_85 : decode cX1_writeBills 85 = .ok (.goto (-63), 3) := by decide +kernel
theorem dX1_writeBills_88 : decode cX1_writeBills 88 = .ok (.return_, 1) := by decide +kernel
theorem dX1_sumOfShares_0 : decode cX1_sumOfShares 0 = .ok (.iconst 0, 1) := by decide +kernel
theorem dX1_sumOfShares_1 : decode cX1_sumOfShares 1 = .ok (.istore_n 1, 1) := by decide +kernel
theorem dX1_sumOfShares_2 : decode cX1_sumOfShares 2 = .ok (.iconst 0, 1) := by decide +kernel
theorem dX1_sumOfShares_3 : decode cX1_sumOfShares 3 = .ok (.istore_n 2, 1) := by decide +kernel
theorem dX1_sumOfShares_4 : decode cX1_sumOfShares 4 = .ok (.iload_n 2, 1) := by decide +kernel
theorem dX1_sumOfShares_5 : decode cX1_sumOfShares 5 = .ok (.iconst 5, 1) := by decide +kernel
theorem dX1_sumOfShares_6 : decode cX1_sumOfShares 6 = .ok (.if_icmp .ge 18, 3) := by decide +kernel
theorem dX1_sumOfShares_9 : decode cX1_sumOfShares 9 = .ok (.iload_n 1, 1) := by decide +kernel
theorem dX1_sumOfShares_10 : decode cX1_sumOfShares 10 = .ok (.aload_n 0, 1) := by decide +kernel
theorem dX1_sumOfShares_11 : decode cX1_sumOfShares 11 = .ok (.getfield 9, 3) := by decide +kernel
theorem dX1_sumOfShares_14 : decode cX1_sumOfShares 14 = .ok (.iload_n 2, 1) := by decide +kernel
theorem dX1_sumOfShares_15 : decode cX1_sumOfShares 15 = .ok (.iaload, 1) := by decide +kernel
theorem dX1_sumOfShares_16 : decode cX1_sumOfShares 16 = .ok (.iadd, 1) := by decide +kernel
theorem dX1_sumOfShares_17 : decode cX1_sumOfShares 17 = .ok (.istore_n 1, 1) := by decide +kernel
theorem dX1_sumOfShares_18 : decode cX1_sumOfShares 18 = .ok (.iinc 2 1, 3) := by decide +kernel
theorem dX1_sumOfShares_21 : decode cX1_sumOfShares 21 = .ok (.goto (-17), 3) := by decide +kernel
theorem dX1_sumOfShares_24 : decode cX1_sumOfShares 24 = .ok (.iload_n 1, 1) := by decide +kernel
theorem dX1_sumOfShares_25 : decode cX1_sumOfShares 25 = .ok (.ireturn, 1) := by decide +kernel
theorem dX1_sumOfNeeds_0 : decode cX1_sumOfNeeds 0 = .ok (.dconst 0, 1) := by decide +kernel
theorem dX1_sumOfNeeds_1 : decode cX1_sumOfNeeds 1 = .ok (.dstore_n 1, 1) := by decide +kernel
theorem dX1_sumOfNeeds_2 : decode cX1_sumOfNeeds 2 = .ok (.iconst 0, 1) := by decide +kernel
theorem dX1_sumOfNeeds_3 : decode cX1_sumOfNeeds 3 = .ok (.istore_n 3, 1) := by decide +kernel
theorem dX1_sumOfNeeds_4 : decode cX1_sumOfNeeds 4 = .ok (.iload_n 3, 1) := by decide +kernel
theorem dX1_sumOfNeeds_5 : decode cX1_sumOfNeeds 5 = .ok (.iconst 5, 1) := by decide +kernel
theorem dX1_sumOfNeeds_6 : decode cX1_sumOfNeeds 6 = .ok (.if_icmp .ge 18, 3) := by decide +kernel
theorem dX1_sumOfNeeds_9 : decode cX1_sumOfNeeds 9 = .ok (.dload_n 1, 1) := by decide +kernel
theorem dX1_sumOfNeeds_10 : decode cX1_sumOfNeeds 10 = .ok (.aload_n 0, 1) := by decide +kernel
theorem dX1_sumOfNeeds_11 : decode cX1_sumOfNeeds 11 = .ok (.getfield 50, 3) := by decide +kernel
theorem dX1_sumOfNeeds_14 : decode cX1_sumOfNeeds 14 = .ok (.iload_n 3, 1) := by decide +kernel
theorem dX1_sumOfNeeds_15 : decode cX1_sumOfNeeds 15 = .ok (.daload, 1) := by decide +kernel
theorem dX1_sumOfNeeds_16 : decode cX1_sumOfNeeds 16 = .ok (.dadd, 1) := by decide +kernel
theorem dX1_sumOfNeeds_17 : decode cX1_sumOfNeeds 17 = .ok (.dstore_n 1, 1) := by decide +kernel
theorem dX1_sumOfNeeds_18 : decode cX1_sumOfNeeds 18 = .ok (.iinc 3 1, 3) := by decide +kernel
theorem dX1_sumOfNeeds_21 : decode cX1_sumOfNeeds 21 = .ok (.goto (-17), 3) := by decide +kernel
theorem dX1_sumOfNeeds_24 : decode cX1_sumOfNeeds 24 = .ok (.dload_n 1, 1) := by decide +kernel
theorem dX1_sumOfNeeds_25 : decode cX1_sumOfNeeds 25 = .ok (.dreturn, 1) := by decide +kernel
set_option maxRecDepth 20000 in
theorem ggX1_behind_J9_floorMod_7cf53 : GoodIn wsX1_behind wsJ9_floorMod_7cf53 := goodIn_r _ [4] (by decide +kernel) (by decide +kernel)
set_option maxRecDepth 20000 in
theorem gX1_behind_J9_floorMod_7cf53 : GoodIn wsX1_behind (va_wsS RX1 187 yJ9_floorMod_7cf53 wsJ9_floorMod_7cf53) := goodIn_app (goodIn_of _ (by decide +kernel)) ggX1_behind_J9_floorMod_7cf53
theorem dX1_behind_0 : decode cX1_behind 0 = .ok (.iload_n 0, 1) := by decide +kernel
theorem dX1_behind_1 : decode cX1_behind 1 = .ok (.iconst 1, 1) := by decide +kernel
theorem dX1_behind_2 : decode cX1_behind 2 = .ok (.iadd, 1) := by decide +kernel
theorem dX1_behind_3 : decode cX1_behind 3 = .ok (.iconst 5, 1) := by decide +kernel
theorem dX1_behind_4 : decode cX1_behind 4 = .ok (.invokestatic 187, 3) := by decide +kernel
theorem dX1_behind_7 : decode cX1_behind 7 = .ok (.ireturn, 1) := by decide +kernel
theorem dX1_lesser_0 : decode cX1_lesser 0 = .ok (.dload_n 0, 1) := by decide +kernel
theorem dX1_lesser_1 : decode cX1_lesser 1 = .ok (.dload_n 2, 1) := by decide +kernel
theorem dX1_lesser_2 : decode cX1_lesser 2 = .ok (.dcmp .g, 1) := by decide +kernel
theorem dX1_lesser_3 : decode cX1_lesser 3 = .ok (.ifCond .ge 7, 3) := by decide +kernel
theorem dX1_lesser_6 : decode cX1_lesser 6 = .ok (.dload_n 0, 1) := by decide +kernel
theorem dX1_lesser_7 : decode cX1_lesser 7 = .ok (.goto 4, 3) := by decide +kernel
theorem dX1_lesser_10 : decode cX1_lesser 10 = .ok (.dload_n 2, 1) := by decide +kernel
theorem dX1_lesser_11 : decode cX1_lesser 11 = .ok (.dreturn, 1) := by decide +kernel
theorem dJ9_floorMod_7cf53_0 : decode cJ9_floorMod_7cf53 0 = .ok (.iload_n 0, 1) := by decide +kernel
theorem dJ9_floorMod_7cf53_1 : decode cJ9_floorMod_7cf53 1 = .ok (.iload_n 1, 1) := by decide +kernel
theorem dJ9_floorMod_7cf53_2 : decode cJ9_floorMod_7cf53 2 = .ok (.irem, 1) := by decide +kernel
theorem dJ9_floorMod_7cf53_3 : decode cJ9_floorMod_7cf53 3 = .ok (.istore_n 2, 1) := by decide +kernel
theorem dJ9_floorMod_7cf53_4 : decode cJ9_floorMod_7cf53 4 = .ok (.iload_n 0, 1) := by decide +kernel
theorem dJ9_floorMod_7cf53_5 : decode cJ9_floorMod_7cf53 5 = .ok (.iload_n 1, 1) := by decide +kernel
theorem dJ9_floorMod_7cf53_6 : decode cJ9_floorMod_7cf53 6 = .ok (.ixor, 1) := by decide +kernel
theorem dJ9_floorMod_7cf53_7 : decode cJ9_floorMod_7cf53 7 = .ok (.ifCond .ge 11, 3) := by decide +kernel
theorem dJ9_floorMod_7cf53_10 : decode cJ9_floorMod_7cf53 10 = .ok (.iload_n 2, 1) := by decide +kernel
theorem dJ9_floorMod_7cf53_11 : decode cJ9_floorMod_7cf53 11 = .ok (.ifCond .eq 7, 3) := by decide +kernel
theorem dJ9_floorMod_7cf53_14 : decode cJ9_floorMod_7cf53 14 = .ok (.iload_n 2, 1) := by decide +kernel
theorem dJ9_floorMod_7cf53_15 : decode cJ9_floorMod_7cf53 15 = .ok (.iload_n 1, 1) := by decide +kernel
theorem dJ9_floorMod_7cf53_16 : decode cJ9_floorMod_7cf53 16 = .ok (.iadd, 1) := by decide +kernel
theorem dJ9_floorMod_7cf53_17 : decode cJ9_floorMod_7cf53 17 = .ok (.ireturn, 1) := by decide +kernel
theorem dJ9_floorMod_7cf53_18 : decode cJ9_floorMod_7cf53 18 = .ok (.iload_n 2, 1) := by decide +kernel
theorem dJ9_floorMod_7cf53_19 : decode cJ9_floorMod_7cf53 19 = .ok (.ireturn, 1) := by decide +kernel
theorem dL_cell_0 : decode cL_cell 0 = .ok (.iload_n 1, 1) := by decide +kernel
theorem dL_cell_1 : decode cL_cell 1 = .ok (.aload_n 0, 1) := by decide +kernel
theorem dL_cell_2 : decode cL_cell 2 = .ok (.arraylength, 1) := by decide +kernel
theorem dL_cell_3 : decode cL_cell 3 = .ok (.if_icmp .ge 9, 3) := by decide +kernel
theorem dL_cell_6 : decode cL_cell 6 = .ok (.aload_n 0, 1) := by decide +kernel
theorem dL_cell_7 : decode cL_cell 7 = .ok (.iload_n 1, 1) := by decide +kernel
theorem dL_cell_8 : decode cL_cell 8 = .ok (.iaload, 1) := by decide +kernel
theorem dL_cell_9 : decode cL_cell 9 = .ok (.goto 18, 3) := by decide +kernel
theorem dL_cell_12 : decode cL_cell 12 = .ok (.sipush 7919, 3) := by decide +kernel
theorem dL_cell_15 : decode cL_cell 15 = .ok (.iload_n 1, 1) := by decide +kernel
theorem dL_cell_16 : decode cL_cell 16 = .ok (.sipush 937, 3) := by decide +kernel
theorem dL_cell_19 : decode cL_cell 19 = .ok (.iadd, 1) := by decide +kernel
theorem dL_cell_20 : decode cL_cell 20 = .ok (.imul, 1) := by decide +kernel
theorem dL_cell_21 : decode cL_cell 21 = .ok (.iload_n 1, 1) := by decide +kernel
theorem dL_cell_22 : decode cL_cell 22 = .ok (.sipush 3347, 3) := by decide +kernel
theorem dL_cell_25 : decode cL_cell 25 = .ok (.iadd, 1) := by decide +kernel
theorem dL_cell_26 : decode cL_cell 26 = .ok (.imul, 1) := by decide +kernel
theorem dL_cell_27 : decode cL_cell 27 = .ok (.ireturn, 1) := by decide +kernel
theorem dL_low_0 : decode cL_low 0 = .ok (.iload_n 0, 1) := by decide +kernel
theorem dL_low_1 : decode cL_low 1 = .ok (.ldc 7, 2) := by decide +kernel
theorem dL_low_3 : decode cL_low 3 = .ok (.iand, 1) := by decide +kernel
theorem dL_low_4 : decode cL_low 4 = .ok (.iload_n 1, 1) := by decide +kernel
theorem dL_low_5 : decode cL_low 5 = .ok (.irem, 1) := by decide +kernel
theorem dL_low_6 : decode cL_low 6 = .ok (.ireturn, 1) := by decide +kernel
set_option maxRecDepth 20000 in
theorem ggL_does_X1_setShare : GoodIn wsL_does wsX1_setShare := goodIn_ca (goodIn_ca (goodIn_r _ [8, 9, 10, 11, 12, 13, 7, 14, 15, 16, 17, 18, 19, 20, 21, 22, 23, 135, 136, 137, 138, 139, 140, 141, 142, 143, 144, 145, 146] (by decide +kernel) (by decide +kernel)) (goodIn_sub (fun _ h => List.mem_cons_of_mem _ (List.mem_append_left _ (List.mem_append_right _ h))) (by decide +kernel))) (goodIn_sub (fun _ h => List.mem_cons_of_mem _ (List.mem_append_right _ h)) (by decide +kernel))
set_option maxRecDepth 20000 in
theorem gL_does_X1_setShare : GoodIn wsL_does (wsV RL 8 RX1 yX1_setShare wsX1_setShare) := goodIn_app (goodIn_of _ (by decide +kernel)) ggL_does_X1_setShare
set_option maxRecDepth 20000 in
theorem ggL_does_X1_setSwitch : GoodIn wsL_does wsX1_setSwitch := goodIn_ca (goodIn_r _ [27, 28, 12, 13, 7, 14, 15, 16, 135, 136, 137, 138, 139, 140, 141, 142, 143, 144, 145, 146] (by decide +kernel) (by decide +kernel)) (goodIn_sub (fun _ h => List.mem_cons_of_mem _ (List.mem_append_right _ h)) (by decide +kernel))
set_option maxRecDepth 20000 in
theorem gL_does_X1_setSwitch : GoodIn wsL_does (wsV RL 14 RX1 yX1_setSwitch wsX1_setSwitch) := goodIn_app (goodIn_of _ (by decide +kernel)) ggL_does_X1_setSwitch
set_option maxRecDepth 20000 in
theorem ggL_does_X1_tell : GoodIn wsL_does wsX1_tell := goodIn_ca (goodIn_r _ [32, 33, 34, 12, 13, 7, 14, 15, 16, 17, 18, 19, 135, 136, 137, 138, 139, 140, 141, 142, 143, 144, 145, 146] (by decide +kernel) (by decide +kernel)) (goodIn_sub (fun _ h => List.mem_cons_of_mem _ (List.mem_append_right _ h)) (by decide +kernel))
set_option maxRecDepth 20000 in
theorem gL_does_X1_tell : GoodIn wsL_does (wsV RL 18 RX1 yX1_tell wsX1_tell) := goodIn_app (goodIn_of _ (by decide +kernel)) ggL_does_X1_tell
set_option maxRecDepth 20000 in
theorem ggL_does_X1_close : GoodIn wsL_does wsX1_close := goodIn_ca (goodIn_ca (goodIn_r _ [38, 9, 10, 39, 40, 41, 42, 43, 17, 18, 7, 19, 15, 16, 44, 45, 46, 47, 33, 34, 48, 49, 50, 51, 52, 53, 54, 55, 56, 57, 58, 59, 60, 61, 62, 63, 64, 65, 66, 67, 68, 69, 70, 71, 72, 28, 73, 74, 75, 76, 77, 78, 79, 80, 81, 82, 83, 84, 85, 86, 87, 88, 89, 90, 11, 91, 92, 93, 94, 95, 96, 97, 98, 99, 100, 101, 102, 103, 104, 105, 106, 107, 108, 109, 110, 111, 112, 113, 114, 115, 116, 117, 118, 119, 120, 121, 122, 123, 124, 125, 126, 127, 128, 129, 130, 135, 136, 137, 138, 139, 140, 141, 142, 143, 144, 145, 146, 147, 148, 149, 150, 151, 152, 153, 154, 155] (by decide +kernel) (by decide +kernel)) (goodIn_sub (fun _ h => List.mem_cons_of_mem _ (List.mem_append_left _ (List.mem_append_right _ h))) (by decide +kernel))) (goodIn_sub (fun _ h => List.mem_cons_of_mem _ (List.mem_append_right _ h)) (by decide +kernel))
set_option maxRecDepth 20000 in
theorem gL_does_X1_close : GoodIn wsL_does (wsV RL 22 RX1 yX1_close wsX1_close) := goodIn_app (goodIn_of _ (by decide +kernel)) ggL_does_X1_close
set_option maxRecDepth 20000 in
theorem ggL_does_X1_sheds : GoodIn wsL_does wsX1_sheds := goodIn_ca (goodIn_r _ [134, 68, 12, 13, 7, 14, 15, 16, 135, 136, 137, 138, 139, 140, 141, 142, 143, 144, 145, 146] (by decide +kernel) (by decide +kernel)) (goodIn_sub (fun _ h => List.mem_cons_of_mem _ (List.mem_append_right _ h)) (by decide +kernel))
set_option maxRecDepth 20000 in
theorem gL_does_X1_sheds : GoodIn wsL_does (wsV RL 26 RX1 yX1_sheds wsX1_sheds) := goodIn_app (goodIn_of _ (by decide +kernel)) ggL_does_X1_sheds
theorem dL_does_0 : decode cL_does 0 = .ok (.iload_n 1, 1) := by decide +kernel
theorem dL_does_1 : decode cL_does 1 = .ok (.ifCond .ne 12, 3) := by decide +kernel
theorem dL_does_4 : decode cL_does 4 = .ok (.aload_n 0, 1) := by decide +kernel
theorem dL_does_5 : decode cL_does 5 = .ok (.iload_n 2, 1) := by decide +kernel
theorem dL_does_6 : decode cL_does 6 = .ok (.iload_n 3, 1) := by decide +kernel
theorem dL_does_7 : decode cL_does 7 = .ok (.invokevirtual 8, 3) := by decide +kernel
theorem dL_does_10 : decode cL_does 10 = .ok (.goto 82, 3) := by decide +kernel
theorem dL_does_13 : decode cL_does 13 = .ok (.iload_n 1, 1) := by decide +kernel
theorem dL_does_14 : decode cL_does 14 = .ok (.iconst 1, 1) := by decide +kernel
theorem dL_does_15 : decode cL_does 15 = .ok (.if_icmp .ne 29, 3) := by decide +kernel
theorem dL_does_18 : decode cL_does 18 = .ok (.aload_n 0, 1) := by decide +kernel
theorem dL_does_19 : decode cL_does 19 = .ok (.iload_n 2, 1) := by decide +kernel
theorem dL_does_20 : decode cL_does 20 = .ok (.iload_n 3, 1) := by decide +kernel
theorem dL_does_21 : decode cL_does 21 = .ok (.iconst 1, 1) := by decide +kernel
theorem dL_does_22 : decode cL_does 22 = .ok (.if_icmp .ne 7, 3) := by decide +kernel
theorem dL_does_25 : decode cL_does 25 = .ok (.iconst 1, 1) := by decide +kernel
theorem dL_does_26 : decode cL_does 26 = .ok (.goto 4, 3) := by decide +kernel
theorem dL_does_29 : decode cL_does 29 = .ok (.iconst 0, 1) := by decide +kernel
theorem dL_does_30 : decode cL_does 30 = .ok (.invokevirtual 14, 3) := by decide +kernel
theorem dL_does_33 : decode cL_does 33 = .ok (.ifCond .eq 7, 3) := by decide +kernel
theorem dL_does_36 : decode cL_does 36 = .ok (.iconst 1, 1) := by decide +kernel
theorem dL_does_37 : decode cL_does 37 = .ok (.goto 55, 3) := by decide +kernel
theorem dL_does_40 : decode cL_does 40 = .ok (.iconst 0, 1) := by decide +kernel
theorem dL_does_41 : decode cL_does 41 = .ok (.goto 51, 3) := by decide +kernel
theorem dL_does_44 : decode cL_does 44 = .ok (.iload_n 1, 1) := by decide +kernel
theorem dL_does_45 : decode cL_does 45 = .ok (.iconst 2, 1) := by decide +kernel
theorem dL_does_46 : decode cL_does 46 = .ok (.if_icmp .ne 20, 3) := by decide +kernel
theorem dL_does_49 : decode cL_does 49 = .ok (.aload_n 0, 1) := by decide +kernel
theorem dL_does_50 : decode cL_does 50 = .ok (.iload_n 2, 1) := by decide +kernel
theorem dL_does_51 : decode cL_does 51 = .ok (.iload_n 3, 1) := by decide +kernel
theorem dL_does_52 : decode cL_does 52 = .ok (.invokevirtual 18, 3) := by decide +kernel
theorem dL_does_55 : decode cL_does 55 = .ok (.ifCond .eq 7, 3) := by decide +kernel
theorem dL_does_58 : decode cL_does 58 = .ok (.iconst 1, 1) := by decide +kernel
theorem dL_does_59 : decode cL_does 59 = .ok (.goto 33, 3) := by decide +kernel
theorem dL_does_62 : decode cL_does 62 = .ok (.iconst 0, 1) := by decide +kernel
theorem dL_does_63 : decode cL_does 63 = .ok (.goto 29, 3) := by decide +kernel
theorem dL_does_66 : decode cL_does 66 = .ok (.iload_n 1, 1) := by decide +kernel
theorem dL_does_67 : decode cL_does 67 = .ok (.iconst 3, 1) := by decide +kernel
theorem dL_does_68 : decode cL_does 68 = .ok (.if_icmp .ne 19, 3) := by decide +kernel
theorem dL_does_71 : decode cL_does 71 = .ok (.aload_n 0, 1) := by decide +kernel
theorem dL_does_72 : decode cL_does 72 = .ok (.iload_n 2, 1) := by decide +kernel
theorem dL_does_73 : decode cL_does 73 = .ok (.invokevirtual 22, 3) := by decide +kernel
theorem dL_does_76 : decode cL_does 76 = .ok (.ifCond .eq 7, 3) := by decide +kernel
theorem dL_does_79 : decode cL_does 79 = .ok (.iconst 1, 1) := by decide +kernel
theorem dL_does_80 : decode cL_does 80 = .ok (.goto 12, 3) := by decide +kernel
theorem dL_does_83 : decode cL_does 83 = .ok (.iconst 0, 1) := by decide +kernel
theorem dL_does_84 : decode cL_does 84 = .ok (.goto 8, 3) := by decide +kernel
theorem dL_does_87 : decode cL_does 87 = .ok (.aload_n 0, 1) := by decide +kernel
theorem dL_does_88 : decode cL_does 88 = .ok (.iload_n 2, 1) := by decide +kernel
theorem dL_does_89 : decode cL_does 89 = .ok (.invokevirtual 26, 3) := by decide +kernel
theorem dL_does_92 : decode cL_does 92 = .ok (.ireturn, 1) := by decide +kernel
theorem dL_does_93 : decode cL_does 93 = .ok (.astore 4, 2) := by decide +kernel
theorem dL_does_95 : decode cL_does 95 = .ok (.ldc 32, 2) := by decide +kernel
theorem dL_does_97 : decode cL_does 97 = .ok (.ireturn, 1) := by decide +kernel
theorem dL_does_98 : decode cL_does 98 = .ok (.astore 4, 2) := by decide +kernel
theorem dL_does_100 : decode cL_does 100 = .ok (.ldc 32, 2) := by decide +kernel
theorem dL_does_102 : decode cL_does 102 = .ok (.ireturn, 1) := by decide +kernel
set_option maxRecDepth 20000 in
theorem ggL_looks_X1_setPrice : GoodIn wsL_looks wsX1_setPrice := goodIn_ca (goodIn_r _ [9, 10, 11, 12, 13, 8, 14, 15, 16, 71, 72, 73, 74, 75, 76, 77, 78, 79, 80, 81, 82] (by decide +kernel) (by decide +kernel)) (goodIn_sub (fun _ h => List.mem_cons_of_mem _ (List.mem_append_left _ (List.mem_append_left _ (List.mem_append_right _ h)))) (by decide +kernel))
set_option maxRecDepth 20000 in
theorem gL_looks_X1_setPrice : GoodIn wsL_looks (wsV RL 35 RX1 yX1_setPrice wsX1_setPrice) := goodIn_app (goodIn_of _ (by decide +kernel)) ggL_looks_X1_setPrice
set_option maxRecDepth 20000 in
theorem ggL_looks_X1_replace : GoodIn wsL_looks wsX1_replace := goodIn_ca (goodIn_ca (goodIn_ca (goodIn_r _ [20, 21, 22, 23, 24, 25, 26, 27, 28, 29, 30, 8, 31, 15, 16, 12, 13, 14, 32, 33, 34, 35, 36, 37, 38, 39, 40, 41, 42, 71, 72, 73, 74, 75, 76, 77, 78, 79, 80, 81, 82, 83, 84, 85, 86, 87, 88, 89, 90, 91] (by decide +kernel) (by decide +kernel)) (goodIn_sub (fun _ h => List.mem_cons_of_mem _ (List.mem_append_left _ (List.mem_append_right _ h))) (by decide +kernel))) (goodIn_sub (fun _ h => List.mem_cons_of_mem _ (List.mem_append_left _ (List.mem_append_left _ (List.mem_append_right _ h)))) (by decide +kernel))) (goodIn_sub (fun _ h => List.mem_cons_of_mem _ (List.mem_append_right _ h)) (by decide +kernel))
set_option maxRecDepth 20000 in
theorem gL_looks_X1_replace : GoodIn wsL_looks (wsV RL 39 RX1 yX1_replace wsX1_replace) := goodIn_app (goodIn_of _ (by decide +kernel)) ggL_looks_X1_replace
set_option maxRecDepth 20000 in
theorem ggL_looks_X1_use : GoodIn wsL_looks wsX1_use := goodIn_ca (goodIn_ca (goodIn_r _ [46, 23, 25, 47, 48, 49, 8, 50, 29, 30, 31, 15, 16, 32, 33, 34, 35, 36, 37, 38, 39, 40, 41, 42, 71, 72, 73, 74, 75, 76, 77, 78, 79, 80, 81, 82, 83, 84, 85, 86, 87, 88, 89, 90, 91] (by decide +kernel) (by decide +kernel)) (goodIn_sub (fun _ h => List.mem_cons_of_mem _ (List.mem_append_left _ (List.mem_append_left _ (List.mem_append_right _ h)))) (by decide +kernel))) (goodIn_sub (fun _ h => List.mem_cons_of_mem _ (List.mem_append_right _ h)) (by decide +kernel))
set_option maxRecDepth 20000 in
theorem gL_looks_X1_use : GoodIn wsL_looks (wsV RL 43 RX1 yX1_use wsX1_use) := goodIn_app (goodIn_of _ (by decide +kernel)) ggL_looks_X1_use
set_option maxRecDepth 20000 in
theorem ggL_looks_X1_fromSun : GoodIn wsL_looks wsX1_fromSun := goodIn_ca (goodIn_ca (goodIn_r _ [54, 23, 55, 47, 48, 49, 8, 50, 29, 30, 31, 15, 16, 32, 33, 34, 35, 36, 37, 38, 39, 40, 41, 42, 71, 72, 73, 74, 75, 76, 77, 78, 79, 80, 81, 82, 83, 84, 85, 86, 87, 88, 89, 90, 91] (by decide +kernel) (by decide +kernel)) (goodIn_sub (fun _ h => List.mem_cons_of_mem _ (List.mem_append_left _ (List.mem_append_left _ (List.mem_append_right _ h)))) (by decide +kernel))) (goodIn_sub (fun _ h => List.mem_cons_of_mem _ (List.mem_append_right _ h)) (by decide +kernel))
set_option maxRecDepth 20000 in
theorem gL_looks_X1_fromSun : GoodIn wsL_looks (wsV RL 47 RX1 yX1_fromSun wsX1_fromSun) := goodIn_app (goodIn_of _ (by decide +kernel)) ggL_looks_X1_fromSun
set_option maxRecDepth 20000 in
theorem ggL_looks_X1_fromBattery : GoodIn wsL_looks wsX1_fromBattery := goodIn_ca (goodIn_ca (goodIn_r _ [59, 23, 60, 47, 48, 49, 8, 50, 29, 30, 31, 15, 16, 32, 33, 34, 35, 36, 37, 38, 39, 40, 41, 42, 71, 72, 73, 74, 75, 76, 77, 78, 79, 80, 81, 82, 83, 84, 85, 86, 87, 88, 89, 90, 91] (by decide +kernel) (by decide +kernel)) (goodIn_sub (fun _ h => List.mem_cons_of_mem _ (List.mem_append_left _ (List.mem_append_left _ (List.mem_append_right _ h)))) (by decide +kernel))) (goodIn_sub (fun _ h => List.mem_cons_of_mem _ (List.mem_append_right _ h)) (by decide +kernel))
set_option maxRecDepth 20000 in
theorem gL_looks_X1_fromBattery : GoodIn wsL_looks (wsV RL 50 RX1 yX1_fromBattery wsX1_fromBattery) := goodIn_app (goodIn_of _ (by decide +kernel)) ggL_looks_X1_fromBattery
set_option maxRecDepth 20000 in
theorem ggL_looks_X1_bought : GoodIn wsL_looks wsX1_bought := goodIn_ca (goodIn_ca (goodIn_r _ [64, 23, 65, 47, 48, 49, 8, 50, 29, 30, 31, 15, 16, 32, 33, 34, 35, 36, 37, 38, 39, 40, 41, 42, 71, 72, 73, 74, 75, 76, 77, 78, 79, 80, 81, 82, 83, 84, 85, 86, 87, 88, 89, 90, 91] (by decide +kernel) (by decide +kernel)) (goodIn_sub (fun _ h => List.mem_cons_of_mem _ (List.mem_append_left _ (List.mem_append_left _ (List.mem_append_right _ h)))) (by decide +kernel))) (goodIn_sub (fun _ h => List.mem_cons_of_mem _ (List.mem_append_right _ h)) (by decide +kernel))
set_option maxRecDepth 20000 in
theorem gL_looks_X1_bought : GoodIn wsL_looks (wsV RL 53 RX1 yX1_bought wsX1_bought) := goodIn_app (goodIn_of _ (by decide +kernel)) ggL_looks_X1_bought
set_option maxRecDepth 20000 in
theorem ggL_looks_X1_sold : GoodIn wsL_looks wsX1_sold := goodIn_ca (goodIn_r _ [69, 23, 70, 32, 33, 34, 8, 35, 36, 37, 38, 71, 72, 73, 74, 75, 76, 77, 78, 79, 80, 81, 82, 83, 84, 85, 86, 87, 88, 89, 90, 91] (by decide +kernel) (by decide +kernel)) (goodIn_sub (fun _ h => List.mem_cons_of_mem _ (List.mem_append_right _ h)) (by decide +kernel))
set_option maxRecDepth 20000 in
theorem gL_looks_X1_sold : GoodIn wsL_looks (wsV RL 56 RX1 yX1_sold wsX1_sold) := goodIn_app (goodIn_of _ (by decide +kernel)) ggL_looks_X1_sold
theorem dL_looks_0 : decode cL_looks 0 = .ok (.iload_n 1, 1) := by decide +kernel
theorem dL_looks_1 : decode cL_looks 1 = .ok (.ifCond .ne 11, 3) := by decide +kernel
theorem dL_looks_4 : decode cL_looks 4 = .ok (.aload_n 0, 1) := by decide +kernel
theorem dL_looks_5 : decode cL_looks 5 = .ok (.iload_n 2, 1) := by decide +kernel
theorem dL_looks_6 : decode cL_looks 6 = .ok (.invokevirtual 35, 3) := by decide +kernel
theorem dL_looks_9 : decode cL_looks 9 = .ok (.goto 80, 3) := by decide +kernel
theorem dL_looks_12 : decode cL_looks 12 = .ok (.iload_n 1, 1) := by decide +kernel
theorem dL_looks_13 : decode cL_looks 13 = .ok (.iconst 1, 1) := by decide +kernel
theorem dL_looks_14 : decode cL_looks 14 = .ok (.if_icmp .ne 14, 3) := by decide +kernel
theorem dL_looks_17 : decode cL_looks 17 = .ok (.aload_n 0, 1) := by decide +kernel
theorem dL_looks_18 : decode cL_looks 18 = .ok (.iload_n 2, 1) := by decide +kernel
theorem dL_looks_19 : decode cL_looks 19 = .ok (.iload_n 3, 1) := by decide +kernel
theorem dL_looks_20 : decode cL_looks 20 = .ok (.iload 4, 2) := by decide +kernel
theorem dL_looks_22 : decode cL_looks 22 = .ok (.invokevirtual 39, 3) := by decide +kernel
theorem dL_looks_25 : decode cL_looks 25 = .ok (.goto 64, 3) := by decide +kernel
theorem dL_looks_28 : decode cL_looks 28 = .ok (.iload_n 1, 1) := by decide +kernel
theorem dL_looks_29 : decode cL_looks 29 = .ok (.iconst 2, 1) := by decide +kernel
theorem dL_looks_30 : decode cL_looks 30 = .ok (.if_icmp .ne 12, 3) := by decide +kernel
theorem dL_looks_33 : decode cL_looks 33 = .ok (.aload_n 0, 1) := by decide +kernel
theorem dL_looks_34 : decode cL_looks 34 = .ok (.iload_n 2, 1) := by decide +kernel
theorem dL_looks_35 : decode cL_looks 35 = .ok (.iload_n 3, 1) := by decide +kernel
theorem dL_looks_36 : decode cL_looks 36 = .ok (.invokevirtual 43, 3) := by decide +kernel
theorem dL_looks_39 : decode cL_looks 39 = .ok (.goto 50, 3) := by decide +kernel
theorem dL_looks_42 : decode cL_looks 42 = .ok (.iload_n 1, 1) := by decide +kernel
theorem dL_looks_43 : decode cL_looks 43 = .ok (.iconst 3, 1) := by decide +kernel
theorem dL_looks_44 : decode cL_looks 44 = .ok (.if_icmp .ne 12, 3) := by decide +kernel
theorem dL_looks_47 : decode cL_looks 47 = .ok (.aload_n 0, 1) := by decide +kernel
theorem dL_looks_48 : decode cL_looks 48 = .ok (.iload_n 2, 1) := by decide +kernel
theorem dL_looks_49 : decode cL_looks 49 = .ok (.iload_n 3, 1) := by decide +kernel
theorem dL_looks_50 : decode cL_looks 50 = .ok (.invokevirtual 47, 3) := by decide +kernel
theorem dL_looks_53 : decode cL_looks 53 = .ok (.goto 36, 3) := by decide +kernel
theorem dL_looks_56 : decode cL_looks 56 = .ok (.iload_n 1, 1) := by decide +kernel
theorem dL_looks_57 : decode cL_looks 57 = .ok (.iconst 4, 1) := by decide +kernel
theorem dL_looks_58 : decode cL_looks 58 = .ok (.if_icmp .ne 12, 3) := by decide +kernel
theorem dL_looks_61 : decode cL_looks 61 = .ok (.aload_n 0, 1) := by decide +kernel
theorem dL_looks_62 : decode cL_looks 62 = .ok (.iload_n 2, 1) := by decide +kernel
theorem dL_looks_63 : decode cL_looks 63 = .ok (.iload_n 3, 1) := by decide +kernel
theorem dL_looks_64 : decode cL_looks 64 = .ok (.invokevirtual 50, 3) := by decide +kernel
theorem dL_looks_67 : decode cL_looks 67 = .ok (.goto 22, 3) := by decide +kernel
theorem dL_looks_70 : decode cL_looks 70 = .ok (.iload_n 1, 1) := by decide +kernel
theorem dL_looks_71 : decode cL_looks 71 = .ok (.iconst 5, 1) := by decide +kernel
theorem dL_looks_72 : decode cL_looks 72 = .ok (.if_icmp .ne 12, 3) := by decide +kernel
theorem dL_looks_75 : decode cL_looks 75 = .ok (.aload_n 0, 1) := by decide +kernel
theorem dL_looks_76 : decode cL_looks 76 = .ok (.iload_n 2, 1) := by decide +kernel
theorem dL_looks_77 : decode cL_looks 77 = .ok (.iload_n 3, 1) := by decide +kernel
theorem dL_looks_78 : decode cL_looks 78 = .ok (.invokevirtual 53, 3) := by decide +kernel
theorem dL_looks_81 : decode cL_looks 81 = .ok (.goto 8, 3) := by decide +kernel
theorem dL_looks_84 : decode cL_looks 84 = .ok (.aload_n 0, 1) := by decide +kernel
theorem dL_looks_85 : decode cL_looks 85 = .ok (.iload_n 2, 1) := by decide +kernel
theorem dL_looks_86 : decode cL_looks 86 = .ok (.invokevirtual 56, 3) := by decide +kernel
theorem dL_looks_89 : decode cL_looks 89 = .ok (.dreturn, 1) := by decide +kernel
theorem dL_looks_90 : decode cL_looks 90 = .ok (.astore 5, 2) := by decide +kernel
theorem dL_looks_92 : decode cL_looks 92 = .ok (.ldc2_w 61, 3) := by decide +kernel
theorem dL_looks_95 : decode cL_looks 95 = .ok (.dreturn, 1) := by decide +kernel
theorem dL_looks_96 : decode cL_looks 96 = .ok (.astore 5, 2) := by decide +kernel
theorem dL_looks_98 : decode cL_looks 98 = .ok (.ldc2_w 61, 3) := by decide +kernel
theorem dL_looks_101 : decode cL_looks 101 = .ok (.dreturn, 1) := by decide +kernel
theorem dL_looks_102 : decode cL_looks 102 = .ok (.astore 5, 2) := by decide +kernel
theorem dL_looks_104 : decode cL_looks 104 = .ok (.ldc2_w 61, 3) := by decide +kernel
theorem dL_looks_107 : decode cL_looks 107 = .ok (.dreturn, 1) := by decide +kernel
theorem dL_isNear_0 : decode cL_isNear 0 = .ok (.dload_n 0, 1) := by decide +kernel
theorem dL_isNear_1 : decode cL_isNear 1 = .ok (.dload_n 2, 1) := by decide +kernel
theorem dL_isNear_2 : decode cL_isNear 2 = .ok (.dsub, 1) := by decide +kernel
theorem dL_isNear_3 : decode cL_isNear 3 = .ok (.ldc2_w 63, 3) := by decide +kernel
theorem dL_isNear_6 : decode cL_isNear 6 = .ok (.dcmp .g, 1) := by decide +kernel
theorem dL_isNear_7 : decode cL_isNear 7 = .ok (.ifCond .ge 17, 3) := by decide +kernel
theorem dL_isNear_10 : decode cL_isNear 10 = .ok (.dload_n 2, 1) := by decide +kernel
theorem dL_isNear_11 : decode cL_isNear 11 = .ok (.dload_n 0, 1) := by decide +kernel
theorem dL_isNear_12 : decode cL_isNear 12 = .ok (.dsub, 1) := by decide +kernel
theorem dL_isNear_13 : decode cL_isNear 13 = .ok (.ldc2_w 63, 3) := by decide +kernel
theorem dL_isNear_16 : decode cL_isNear 16 = .ok (.dcmp .g, 1) := by decide +kernel
theorem dL_isNear_17 : decode cL_isNear 17 = .ok (.ifCond .ge 7, 3) := by decide +kernel
theorem dL_isNear_20 : decode cL_isNear 20 = .ok (.iconst 1, 1) := by decide +kernel
theorem dL_isNear_21 : decode cL_isNear 21 = .ok (.goto 4, 3) := by decide +kernel
theorem dL_isNear_24 : decode cL_isNear 24 = .ok (.iconst 0, 1) := by decide +kernel
theorem dL_isNear_25 : decode cL_isNear 25 = .ok (.ireturn, 1) := by decide +kernel
set_option maxRecDepth 20000 in
theorem ggL_act_L_low : GoodIn wsL_act wsL_low := goodIn_r _ [4, 5] (by decide +kernel) (by decide +kernel)
set_option maxRecDepth 20000 in
theorem gL_act_L_low : GoodIn wsL_act (va_wsS RL 65 yL_low wsL_low) := goodIn_app (goodIn_of _ (by decide +kernel)) ggL_act_L_low
set_option maxRecDepth 20000 in
theorem ggL_act_L_does : GoodIn wsL_act wsL_does := goodIn_ca (goodIn_ca (goodIn_r _ [8, 9, 10, 11, 12, 13, 14, 15, 16, 17, 18, 19, 20, 21, 22, 23, 24, 25, 26, 27, 28, 29, 30, 31, 32, 33, 34, 35, 36, 37, 38, 39, 40, 41, 42, 43, 44, 45, 46, 47, 48, 49, 50, 51, 52, 53, 54, 55, 56, 57, 58, 59, 60, 61, 62, 63, 64, 65, 66, 67, 68, 69, 70, 71, 72, 73, 74, 75, 76, 77, 78, 79, 80, 81, 82, 83, 84, 85, 86, 87, 88, 89, 90, 91, 92, 93, 94, 95, 96, 97, 98, 99, 100, 101, 102, 103, 104, 105, 106, 107, 108, 109, 110, 111, 112, 113, 114, 115, 116, 117, 118, 119, 120, 121, 122, 123, 124, 125, 126, 127, 128, 129, 130, 131, 132, 133, 134, 135, 136, 137, 138, 139, 140, 141, 142, 190, 191, 192, 193, 194, 195, 196, 197, 198, 199, 200, 201, 202, 203, 204, 205, 206, 207, 208, 209, 210] (by decide +kernel) (by decide +kernel)) (goodIn_sub (fun _ h => List.mem_cons_of_mem _ (List.mem_append_left _ (List.mem_append_left _ (List.mem_append_right _ h)))) (by decide +kernel))) (goodIn_sub (fun _ h => List.mem_cons_of_mem _ (List.mem_append_left _ (List.mem_append_right _ h))) (by decide +kernel))
set_option maxRecDepth 20000 in
theorem gL_act_L_does : GoodIn wsL_act (va_wsS RL 70 yL_does wsL_does) := goodIn_app (goodIn_of _ (by decide +kernel)) ggL_act_L_does
set_option maxRecDepth 20000 in
theorem ggL_act_X1_closed : GoodIn wsL_act wsX1_closed := goodIn_r _ [146, 47, 48, 190, 191, 192, 193, 194, 195, 196, 197, 198, 199, 200, 201, 202, 203, 204, 205, 206, 207, 208, 209, 210] (by decide +kernel) (by decide +kernel)
set_option maxRecDepth 20000 in
theorem gL_act_X1_closed : GoodIn wsL_act (wsV RL 74 RX1 yX1_closed wsX1_closed) := goodIn_app (goodIn_of _ (by decide +kernel)) ggL_act_X1_closed
set_option maxRecDepth 20000 in
theorem ggL_act_L_looks : GoodIn wsL_act wsL_looks := goodIn_ca (goodIn_ca (goodIn_ca (goodIn_r _ [149, 150, 9, 10, 151, 152, 153, 154, 15, 155, 99, 50, 25, 26, 27, 23, 24, 156, 157, 158, 159, 17, 18, 47, 56, 57, 94, 49, 138, 20, 21, 22, 160, 161, 162, 163, 164, 165, 48, 59, 60, 61, 62, 166, 167, 168, 169, 170, 171, 172, 173, 174, 175, 176, 177, 107, 178, 179, 180, 181, 124, 182, 183, 184, 185, 137, 186, 187, 188, 189, 118, 190, 191, 192, 193, 194, 195, 196, 197, 198, 199, 200, 201, 202, 203, 204, 205, 206, 207, 208, 209, 210] (by decide +kernel) (by decide +kernel)) (goodIn_sub (fun _ h => List.mem_cons_of_mem _ (List.mem_append_left _ (List.mem_append_right _ h))) (by decide +kernel))) (goodIn_sub (fun _ h => List.mem_cons_of_mem _ (List.mem_append_left _ (List.mem_append_left _ (List.mem_append_right _ h)))) (by decide +kernel))) (goodIn_sub (fun _ h => List.mem_cons_of_mem _ (List.mem_append_right _ h)) (by decide +kernel))
set_option maxRecDepth 20000 in
theorem gL_act_L_looks : GoodIn wsL_act (va_wsS RL 78 yL_looks wsL_looks) := goodIn_app (goodIn_of _ (by decide +kernel)) ggL_act_L_looks
theorem dL_act_0 : decode cL_act 0 = .ok (.iload_n 1, 1) := by decide +kernel
theorem dL_act_1 : decode cL_act 1 = .ok (.bipush 18, 2) := by decide +kernel
theorem dL_act_3 : decode cL_act 3 = .ok (.ishr, 1) := by decide +kernel
theorem dL_act_4 : decode cL_act 4 = .ok (.bipush 7, 2) := by decide +kernel
theorem dL_act_6 : decode cL_act 6 = .ok (.iand, 1) := by decide +kernel
theorem dL_act_7 : decode cL_act 7 = .ok (.bipush 7, 2) := by decide +kernel
theorem dL_act_9 : decode cL_act 9 = .ok (.if_icmp .ne 7, 3) := by decide +kernel
theorem dL_act_12 : decode cL_act 12 = .ok (.iconst 1, 1) := by decide +kernel
theorem dL_act_13 : decode cL_act 13 = .ok (.goto 4, 3) := by decide +kernel
theorem dL_act_16 : decode cL_act 16 = .ok (.iconst 0, 1) := by decide +kernel
theorem dL_act_17 : decode cL_act 17 = .ok (.istore_n 2, 1) := by decide +kernel
theorem dL_act_18 : decode cL_act 18 = .ok (.iload_n 1, 1) := by decide +kernel
theorem dL_act_19 : decode cL_act 19 = .ok (.bipush 30, 2) := by decide +kernel
theorem dL_act_21 : decode cL_act 21 = .ok (.invokestatic 65, 3) := by decide +kernel
theorem dL_act_24 : decode cL_act 24 = .ok (.istore_n 3, 1) := by decide +kernel
theorem dL_act_25 : decode cL_act 25 = .ok (.iload_n 2, 1) := by decide +kernel
theorem dL_act_26 : decode cL_act 26 = .ok (.ifCond .eq 17, 3) := by decide +kernel
theorem dL_act_29 : decode cL_act 29 = .ok (.iload_n 1, 1) := by decide +kernel
theorem dL_act_30 : decode cL_act 30 = .ok (.bipush 6, 2) := by decide +kernel
theorem dL_act_32 : decode cL_act 32 = .ok (.ishr, 1) := by decide +kernel
theorem dL_act_33 : decode cL_act 33 = .ok (.bipush 8, 2) := by decide +kernel
theorem dL_act_35 : decode cL_act 35 = .ok (.invokestatic 65, 3) := by decide +kernel
theorem dL_act_38 : decode cL_act 38 = .ok (.iconst 1, 1) := by decide +kernel
theorem dL_act_39 : decode cL_act 39 = .ok (.isub, 1) := by decide +kernel
theorem dL_act_40 : decode cL_act 40 = .ok (.goto 11, 3) := by decide +kernel
theorem dL_act_43 : decode cL_act 43 = .ok (.iload_n 1, 1) := by decide +kernel
theorem dL_act_44 : decode cL_act 44 = .ok (.bipush 6, 2) := by decide +kernel
theorem dL_act_46 : decode cL_act 46 = .ok (.ishr, 1) := by decide +kernel
theorem dL_act_47 : decode cL_act 47 = .ok (.iconst 5, 1) := by decide +kernel
theorem dL_act_48 : decode cL_act 48 = .ok (.invokestatic 65, 3) := by decide +kernel
theorem dL_act_51 : decode cL_act 51 = .ok (.istore 4, 2) := by decide +kernel
theorem dL_act_53 : decode cL_act 53 = .ok (.iload_n 3, 1) := by decide +kernel
theorem dL_act_54 : decode cL_act 54 = .ok (.bipush 7, 2) := by decide +kernel
theorem dL_act_56 : decode cL_act 56 = .ok (.if_icmp .ge 60, 3) := by decide +kernel
theorem dL_act_59 : decode cL_act 59 = .ok (.iload_n 3, 1) := by decide +kernel
theorem dL_act_60 : decode cL_act 60 = .ok (.iconst 5, 1) := by decide +kernel
theorem dL_act_61 : decode cL_act 61 = .ok (.if_icmp .ge 40, 3) := by decide +kernel
theorem dL_act_64 : decode cL_act 64 = .ok (.aload_n 0, 1) := by decide +kernel
theorem dL_act_65 : decode cL_act 65 = .ok (.iconst 0, 1) := by decide +kernel
theorem dL_act_66 : decode cL_act 66 = .ok (.iload 4, 2) := by decide +kernel
theorem dL_act_68 : decode cL_act 68 = .ok (.iload_n 2, 1) := by decide +kernel
theorem dL_act_69 : decode cL_act 69 = .ok (.ifCond .eq 17, 3) := by decide +kernel
theorem dL_act_72 : decode cL_act 72 = .ok (.iload_n 1, 1) := by decide +kernel
theorem dL_act_73 : decode cL_act 73 = .ok (.bipush 9, 2) := by decide +kernel
theorem dL_act_75 : decode cL_act 75 = .ok (.ishr, 1) := by decide +kernel
theorem dL_act_76 : decode cL_act 76 = .ok (.bipush 9, 2) := by decide +kernel
theorem dL_act_78 : decode cL_act 78 = .ok (.invokestatic 65, 3) := by decide +kernel
theorem dL_act_81 : decode cL_act 81 = .ok (.iconst 2, 1) := by decide +kernel
theorem dL_act_82 : decode cL_act 82 = .ok (.isub, 1) := by decide +kernel
theorem dL_act_83 : decode cL_act 83 = .ok (.goto 11, 3) := by decide +kernel
theorem dL_act_86 : decode cL_act 86 = .ok (.iload_n 1, 1) := by decide +kernel
theorem dL_act_87 : decode cL_act 87 = .ok (.bipush 9, 2) := by decide +kernel
theorem dL_act_89 : decode cL_act 89 = .ok (.ishr, 1) := by decide +kernel
theorem dL_act_90 : decode cL_act 90 = .ok (.iconst 4, 1) := by decide +kernel
theorem dL_act_91 : decode cL_act 91 = .ok (.invokestatic 65, 3) := by decide +kernel
theorem dL_act_94 : decode cL_act 94 = .ok (.invokestatic 70, 3) := by decide +kernel
theorem dL_act_97 : decode cL_act 97 = .ok (.i2d, 1) := by decide +kernel
theorem dL_act_98 : decode cL_act 98 = .ok (.goto 17, 3) := by decide +kernel
theorem dL_act_101 : decode cL_act 101 = .ok (.aload_n 0, 1) := by decide +kernel
theorem dL_act_102 : decode cL_act 102 = .ok (.iconst 1, 1) := by decide +kernel
theorem dL_act_103 : decode cL_act 103 = .ok (.iload 4, 2) := by decide +kernel
theorem dL_act_105 : decode cL_act 105 = .ok (.iload_n 1, 1) := by decide +kernel
theorem dL_act_106 : decode cL_act 106 = .ok (.bipush 9, 2) := by decide +kernel
theorem dL_act_108 : decode cL_act 108 = .ok (.ishr, 1) := by decide +kernel
theorem dL_act_109 : decode cL_act 109 = .ok (.iconst 1, 1) := by decide +kernel
theorem dL_act_110 : decode cL_act 110 = .ok (.iand, 1) := by decide +kernel
theorem dL_act_111 : decode cL_act 111 = .ok (.invokestatic 70, 3) := by decide +kernel
theorem dL_act_114 : decode cL_act 114 = .ok (.i2d, 1) := by decide +kernel
theorem dL_act_115 : decode cL_act 115 = .ok (.dreturn, 1) := by decide +kernel
theorem dL_act_116 : decode cL_act 116 = .ok (.iload_n 3, 1) := by decide +kernel
theorem dL_act_117 : decode cL_act 117 = .ok (.bipush 23, 2) := by decide +kernel
theorem dL_act_119 : decode cL_act 119 = .ok (.if_icmp .ge 40, 3) := by decide +kernel
theorem dL_act_122 : decode cL_act 122 = .ok (.aload_n 0, 1) := by decide +kernel
theorem dL_act_123 : decode cL_act 123 = .ok (.iconst 2, 1) := by decide +kernel
theorem dL_act_124 : decode cL_act 124 = .ok (.iload 4, 2) := by decide +kernel
theorem dL_act_126 : decode cL_act 126 = .ok (.iload_n 2, 1) := by decide +kernel
theorem dL_act_127 : decode cL_act 127 = .ok (.ifCond .eq 18, 3) := by decide +kernel
theorem dL_act_130 : decode cL_act 130 = .ok (.iload_n 1, 1) := by decide +kernel
theorem dL_act_131 : decode cL_act 131 = .ok (.bipush 9, 2) := by decide +kernel
theorem dL_act_133 : decode cL_act 133 = .ok (.ishr, 1) := by decide +kernel
theorem dL_act_134 : decode cL_act 134 = .ok (.bipush 70, 2) := by decide +kernel
theorem dL_act_136 : decode cL_act 136 = .ok (.invokestatic 65, 3) := by decide +kernel
theorem dL_act_139 : decode cL_act 139 = .ok (.bipush 9, 2) := by decide +kernel
theorem dL_act_141 : decode cL_act 141 = .ok (.isub, 1) := by decide +kernel
theorem dL_act_142 : decode cL_act 142 = .ok (.goto 12, 3) := by decide +kernel
theorem dL_act_145 : decode cL_act 145 = .ok (.iload_n 1, 1) := by decide +kernel
theorem dL_act_146 : decode cL_act 146 = .ok (.bipush 9, 2) := by decide +kernel
theorem dL_act_148 : decode cL_act 148 = .ok (.ishr, 1) := by decide +kernel
theorem dL_act_149 : decode cL_act 149 = .ok (.bipush 51, 2) := by decide +kernel
theorem dL_act_151 : decode cL_act 151 = .ok (.invokestatic 65, 3) := by decide +kernel
theorem dL_act_154 : decode cL_act 154 = .ok (.invokestatic 70, 3) := by decide +kernel
theorem dL_act_157 : decode cL_act 157 = .ok (.i2d, 1) := by decide +kernel
theorem dL_act_158 : decode cL_act 158 = .ok (.dreturn, 1) := by decide +kernel
theorem dL_act_159 : decode cL_act 159 = .ok (.iload_n 3, 1) := by decide +kernel
theorem dL_act_160 : decode cL_act 160 = .ok (.bipush 26, 2) := by decide +kernel
theorem dL_act_162 : decode cL_act 162 = .ok (.if_icmp .ge 116, 3) := by decide +kernel
theorem dL_act_165 : decode cL_act 165 = .ok (.iload_n 2, 1) := by decide +kernel
theorem dL_act_166 : decode cL_act 166 = .ok (.ifCond .eq 17, 3) := by decide +kernel
theorem dL_act_169 : decode cL_act 169 = .ok (.iload_n 1, 1) := by decide +kernel
theorem dL_act_170 : decode cL_act 170 = .ok (.bipush 9, 2) := by decide +kernel
theorem dL_act_172 : decode cL_act 172 = .ok (.ishr, 1) := by decide +kernel
theorem dL_act_173 : decode cL_act 173 = .ok (.bipush 70, 2) := by decide +kernel
theorem dL_act_175 : decode cL_act 175 = .ok (.invokestatic 65, 3) := by decide +kernel
theorem dL_act_178 : decode cL_act 178 = .ok (.iconst 3, 1) := by decide +kernel
theorem dL_act_179 : decode cL_act 179 = .ok (.isub, 1) := by decide +kernel
theorem dL_act_180 : decode cL_act 180 = .ok (.goto 16, 3) := by decide +kernel
theorem dL_act_183 : decode cL_act 183 = .ok (.iload_n 1, 1) := by decide +kernel
theorem dL_act_184 : decode cL_act 184 = .ok (.bipush 9, 2) := by decide +kernel
theorem dL_act_186 : decode cL_act 186 = .ok (.ishr, 1) := by decide +kernel
theorem dL_act_187 : decode cL_act 187 = .ok (.aload_n 0, 1) := by decide +kernel
theorem dL_act_188 : decode cL_act 188 = .ok (.invokevirtual 74, 3) := by decide +kernel
theorem dL_act_191 : decode cL_act 191 = .ok (.iconst 1, 1) := by decide +kernel
theorem dL_act_192 : decode cL_act 192 = .ok (.iadd, 1) := by decide +kernel
theorem dL_act_193 : decode cL_act 193 = .ok (.invokestatic 65, 3) := by decide +kernel
theorem dL_act_196 : decode cL_act 196 = .ok (.istore 5, 2) := by decide +kernel
theorem dL_act_198 : decode cL_act 198 = .ok (.iload_n 3, 1) := by decide +kernel
theorem dL_act_199 : decode cL_act 199 = .ok (.bipush 25, 2) := by decide +kernel
theorem dL_act_201 : decode cL_act 201 = .ok (.if_icmp .ge 43, 3) := by decide +kernel
theorem dL_act_204 : decode cL_act 204 = .ok (.aload_n 0, 1) := by decide +kernel
theorem dL_act_205 : decode cL_act 205 = .ok (.iconst 1, 1) := by decide +kernel
theorem dL_act_206 : decode cL_act 206 = .ok (.iload 4, 2) := by decide +kernel
theorem dL_act_208 : decode cL_act 208 = .ok (.iload 5, 2) := by decide +kernel
theorem dL_act_210 : decode cL_act 210 = .ok (.iload_n 2, 1) := by decide +kernel
theorem dL_act_211 : decode cL_act 211 = .ok (.ifCond .eq 18, 3) := by decide +kernel
theorem dL_act_214 : decode cL_act 214 = .ok (.iload_n 1, 1) := by decide +kernel
theorem dL_act_215 : decode cL_act 215 = .ok (.bipush 12, 2) := by decide +kernel
theorem dL_act_217 : decode cL_act 217 = .ok (.ishr, 1) := by decide +kernel
theorem dL_act_218 : decode cL_act 218 = .ok (.bipush 70, 2) := by decide +kernel
theorem dL_act_220 : decode cL_act 220 = .ok (.invokestatic 65, 3) := by decide +kernel
theorem dL_act_223 : decode cL_act 223 = .ok (.bipush 9, 2) := by decide +kernel
theorem dL_act_225 : decode cL_act 225 = .ok (.isub, 1) := by decide +kernel
theorem dL_act_226 : decode cL_act 226 = .ok (.goto 12, 3) := by decide +kernel
theorem dL_act_229 : decode cL_act 229 = .ok (.iload_n 1, 1) := by decide +kernel
theorem dL_act_230 : decode cL_act 230 = .ok (.bipush 12, 2) := by decide +kernel
theorem dL_act_232 : decode cL_act 232 = .ok (.ishr, 1) := by decide +kernel
theorem dL_act_233 : decode cL_act 233 = .ok (.bipush 51, 2) := by decide +kernel
theorem dL_act_235 : decode cL_act 235 = .ok (.invokestatic 65, 3) := by decide +kernel
theorem dL_act_238 : decode cL_act 238 = .ok (.invokestatic 78, 3) := by decide +kernel
theorem dL_act_241 : decode cL_act 241 = .ok (.goto 36, 3) := by decide +kernel
theorem dL_act_244 : decode cL_act 244 = .ok (.aload_n 0, 1) := by decide +kernel
theorem dL_act_245 : decode cL_act 245 = .ok (.iconst 0, 1) := by decide +kernel
theorem dL_act_246 : decode cL_act 246 = .ok (.iload_n 2, 1) := by decide +kernel
theorem dL_act_247 : decode cL_act 247 = .ok (.ifCond .eq 17, 3) := by decide +kernel
theorem dL_act_250 : decode cL_act 250 = .ok (.iload_n 1, 1) := by decide +kernel
theorem dL_act_251 : decode cL_act 251 = .ok (.bipush 9, 2) := by decide +kernel
theorem dL_act_253 : decode cL_act 253 = .ok (.ishr, 1) := by decide +kernel
theorem dL_act_254 : decode cL_act 254 = .ok (.bipush 8, 2) := by decide +kernel
theorem dL_act_256 : decode cL_act 256 = .ok (.invokestatic 65, 3) := by decide +kernel
theorem dL_act_259 : decode cL_act 259 = .ok (.iconst 1, 1) := by decide +kernel
theorem dL_act_260 : decode cL_act 260 = .ok (.isub, 1) := by decide +kernel
theorem dL_act_261 : decode cL_act 261 = .ok (.goto 11, 3) := by decide +kernel
theorem dL_act_264 : decode cL_act 264 = .ok (.iconst 1, 1) := by decide +kernel
theorem dL_act_265 : decode cL_act 265 = .ok (.iload_n 1, 1) := by decide +kernel
theorem dL_act_266 : decode cL_act 266 = .ok (.bipush 9, 2) := by decide +kernel
theorem dL_act_268 : decode cL_act 268 = .ok (.ishr, 1) := by decide +kernel
theorem dL_act_269 : decode cL_act 269 = .ok (.iconst 3, 1) := by decide +kernel
theorem dL_act_270 : decode cL_act 270 = .ok (.iand, 1) := by decide +kernel
theorem dL_act_271 : decode cL_act 271 = .ok (.iadd, 1) := by decide +kernel
theorem dL_act_272 : decode cL_act 272 = .ok (.iconst 0, 1) := by decide +kernel
theorem dL_act_273 : decode cL_act 273 = .ok (.iconst 0, 1) := by decide +kernel
theorem dL_act_274 : decode cL_act 274 = .ok (.invokestatic 78, 3) := by decide +kernel
theorem dL_act_277 : decode cL_act 277 = .ok (.dreturn, 1) := by decide +kernel
theorem dL_act_278 : decode cL_act 278 = .ok (.aload_n 0, 1) := by decide +kernel
theorem dL_act_279 : decode cL_act 279 = .ok (.iconst 3, 1) := by decide +kernel
theorem dL_act_280 : decode cL_act 280 = .ok (.iload_n 2, 1) := by decide +kernel
theorem dL_act_281 : decode cL_act 281 = .ok (.ifCond .eq 19, 3) := by decide +kernel
theorem dL_act_284 : decode cL_act 284 = .ok (.iload_n 1, 1) := by decide +kernel
theorem dL_act_285 : decode cL_act 285 = .ok (.bipush 6, 2) := by decide +kernel
theorem dL_act_287 : decode cL_act 287 = .ok (.ishr, 1) := by decide +kernel
theorem dL_act_288 : decode cL_act 288 = .ok (.sipush 130, 3) := by decide +kernel
theorem dL_act_291 : decode cL_act 291 = .ok (.invokestatic 65, 3) := by decide +kernel
theorem dL_act_294 : decode cL_act 294 = .ok (.bipush 9, 2) := by decide +kernel
theorem dL_act_296 : decode cL_act 296 = .ok (.isub, 1) := by decide +kernel
theorem dL_act_297 : decode cL_act 297 = .ok (.goto 12, 3) := by decide +kernel
theorem dL_act_300 : decode cL_act 300 = .ok (.iload_n 1, 1) := by decide +kernel
theorem dL_act_301 : decode cL_act 301 = .ok (.bipush 6, 2) := by decide +kernel
theorem dL_act_303 : decode cL_act 303 = .ok (.ishr, 1) := by decide +kernel
theorem dL_act_304 : decode cL_act 304 = .ok (.bipush 101, 2) := by decide +kernel
theorem dL_act_306 : decode cL_act 306 = .ok (.invokestatic 65, 3) := by decide +kernel
theorem dL_act_309 : decode cL_act 309 = .ok (.iconst 0, 1) := by decide +kernel
theorem dL_act_310 : decode cL_act 310 = .ok (.invokestatic 70, 3) := by decide +kernel
theorem dL_act_313 : decode cL_act 313 = .ok (.i2d, 1) := by decide +kernel
theorem dL_act_314 : decode cL_act 314 = .ok (.dreturn, 1) := by decide +kernel
set_option maxRecDepth 20000 in
theorem ggL_areAlike_X1_closed : GoodIn wsL_areAlike wsX1_closed := goodIn_r _ [5, 6, 7, 98, 99, 100, 101, 102, 103, 104, 105, 106, 107, 108, 109, 110, 111, 112, 113, 114, 115, 116, 117, 118] (by decide +kernel) (by decide +kernel)
set_option maxRecDepth 20000 in
theorem gL_areAlike_X1_closed : GoodIn wsL_areAlike (wsV RL 74 RX1 yX1_closed wsX1_closed) := goodIn_app (goodIn_of _ (by decide +kernel)) ggL_areAlike_X1_closed
set_option maxRecDepth 20000 in
theorem ggL_areAlike_X1_battery : GoodIn wsL_areAlike wsX1_battery := goodIn_r _ [11, 12, 98, 99, 100, 101, 102, 103, 104, 105, 106, 107, 108, 109] (by decide +kernel) (by decide +kernel)
set_option maxRecDepth 20000 in
theorem gL_areAlike_X1_battery : GoodIn wsL_areAlike (wsV RL 82 RX1 yX1_battery wsX1_battery) := goodIn_app (goodIn_of _ (by decide +kernel)) ggL_areAlike_X1_battery
set_option maxRecDepth 20000 in
theorem ggL_areAlike_X1_turn : GoodIn wsL_areAlike wsX1_turn := goodIn_r _ [16, 17, 98, 99, 100, 101, 102, 103, 104, 105, 106, 107, 108, 109] (by decide +kernel) (by decide +kernel)
set_option maxRecDepth 20000 in
theorem gL_areAlike_X1_turn : GoodIn wsL_areAlike (wsV RL 86 RX1 yX1_turn wsX1_turn) := goodIn_app (goodIn_of _ (by decide +kernel)) ggL_areAlike_X1_turn
set_option maxRecDepth 20000 in
theorem ggL_areAlike_L_looks : GoodIn wsL_areAlike wsL_looks := goodIn_ca (goodIn_ca (goodIn_ca (goodIn_r _ [21, 22, 23, 24, 25, 26, 27, 28, 4, 29, 30, 31, 32, 33, 34, 35, 36, 37, 38, 39, 40, 41, 42, 6, 43, 44, 45, 46, 47, 48, 49, 50, 51, 52, 53, 54, 55, 56, 7, 57, 58, 59, 60, 61, 62, 63, 64, 65, 66, 67, 68, 69, 70, 71, 72, 73, 74, 75, 76, 77, 78, 79, 80, 81, 82, 83, 84, 85, 86, 87, 88, 98, 99, 100, 101, 102, 103, 104, 105, 106, 107, 108, 109, 110, 111, 112, 113, 114, 115, 116, 117, 118] (by decide +kernel) (by decide +kernel)) (goodIn_sub (fun _ h => List.mem_cons_of_mem _ (List.mem_append_left _ (List.mem_append_left _ (List.mem_append_right _ h)))) (by decide +kernel))) (goodIn_sub (fun _ h => List.mem_cons_of_mem _ (List.mem_append_left _ (List.mem_append_right _ h))) (by decide +kernel))) (goodIn_sub (fun _ h => List.mem_cons_of_mem _ (List.mem_append_right _ h)) (by decide +kernel))
set_option maxRecDepth 20000 in
theorem gL_areAlike_L_looks : GoodIn wsL_areAlike (va_wsS RL 78 yL_looks wsL_looks) := goodIn_app (goodIn_of _ (by decide +kernel)) ggL_areAlike_L_looks
set_option maxRecDepth 20000 in
theorem ggL_areAlike_X1_bill : GoodIn wsL_areAlike wsX1_bill := goodIn_ca (goodIn_r _ [92, 47, 48, 49, 4, 50, 35, 36, 98, 99, 100, 101, 102, 103, 104, 105, 106, 107, 108, 109] (by decide +kernel) (by decide +kernel)) (goodIn_sub (fun _ h => List.mem_cons_of_mem _ (List.mem_append_left _ (List.mem_append_left _ (List.mem_append_right _ h)))) (by decide +kernel))
set_option maxRecDepth 20000 in
theorem gL_areAlike_X1_bill : GoodIn wsL_areAlike (wsV RL 89 RX1 yX1_bill wsX1_bill) := goodIn_app (goodIn_of _ (by decide +kernel)) ggL_areAlike_X1_bill
set_option maxRecDepth 20000 in
theorem ggL_areAlike_X1_sheds : GoodIn wsL_areAlike wsX1_sheds := goodIn_ca (goodIn_r _ [96, 97, 48, 49, 4, 50, 35, 36, 98, 99, 100, 101, 102, 103, 104, 105, 106, 107, 108, 109] (by decide +kernel) (by decide +kernel)) (goodIn_sub (fun _ h => List.mem_cons_of_mem _ (List.mem_append_left _ (List.mem_append_left _ (List.mem_append_right _ h)))) (by decide +kernel))
set_option maxRecDepth 20000 in
theorem gL_areAlike_X1_sheds : GoodIn wsL_areAlike (wsV RL 26 RX1 yX1_sheds wsX1_sheds) := goodIn_app (goodIn_of _ (by decide +kernel)) ggL_areAlike_X1_sheds
theorem dL_areAlike_0 : decode cL_areAlike 0 = .ok (.aload_n 0, 1) := by decide +kernel
theorem dL_areAlike_1 : decode cL_areAlike 1 = .ok (.invokevirtual 74, 3) := by decide +kernel
theorem dL_areAlike_4 : decode cL_areAlike 4 = .ok (.aload_n 1, 1) := by decide +kernel
theorem dL_areAlike_5 : decode cL_areAlike 5 = .ok (.invokevirtual 74, 3) := by decide +kernel
theorem dL_areAlike_8 : decode cL_areAlike 8 = .ok (.if_icmp .ne 52, 3) := by decide +kernel
theorem dL_areAlike_11 : decode cL_areAlike 11 = .ok (.aload_n 0, 1) := by decide +kernel
theorem dL_areAlike_12 : decode cL_areAlike 12 = .ok (.invokevirtual 82, 3) := by decide +kernel
theorem dL_areAlike_15 : decode cL_areAlike 15 = .ok (.aload_n 1, 1) := by decide +kernel
theorem dL_areAlike_16 : decode cL_areAlike 16 = .ok (.invokevirtual 82, 3) := by decide +kernel
theorem dL_areAlike_19 : decode cL_areAlike 19 = .ok (.dcmp .l, 1) := by decide +kernel
theorem dL_areAlike_20 : decode cL_areAlike 20 = .ok (.ifCond .ne 40, 3) := by decide +kernel
theorem dL_areAlike_23 : decode cL_areAlike 23 = .ok (.aload_n 0, 1) := by decide +kernel
theorem dL_areAlike_24 : decode cL_areAlike 24 = .ok (.invokevirtual 86, 3) := by decide +kernel
theorem dL_areAlike_27 : decode cL_areAlike 27 = .ok (.aload_n 1, 1) := by decide +kernel
theorem dL_areAlike_28 : decode cL_areAlike 28 = .ok (.invokevirtual 86, 3) := by decide +kernel
theorem dL_areAlike_31 : decode cL_areAlike 31 = .ok (.if_icmp .ne 29, 3) := by decide +kernel
theorem dL_areAlike_34 : decode cL_areAlike 34 = .ok (.aload_n 0, 1) := by decide +kernel
theorem dL_areAlike_35 : decode cL_areAlike 35 = .ok (.bipush 6, 2) := by decide +kernel
theorem dL_areAlike_37 : decode cL_areAlike 37 = .ok (.iload_n 2, 1) := by decide +kernel
theorem dL_areAlike_38 : decode cL_areAlike 38 = .ok (.iconst 0, 1) := by decide +kernel
theorem dL_areAlike_39 : decode cL_areAlike 39 = .ok (.iconst 0, 1) := by decide +kernel
theorem dL_areAlike_40 : decode cL_areAlike 40 = .ok (.invokestatic 78, 3) := by decide +kernel
theorem dL_areAlike_43 : decode cL_areAlike 43 = .ok (.aload_n 1, 1) := by decide +kernel
theorem dL_areAlike_44 : decode cL_areAlike 44 = .ok (.bipush 6, 2) := by decide +kernel
theorem dL_areAlike_46 : decode cL_areAlike 46 = .ok (.iload_n 2, 1) := by decide +kernel
theorem dL_areAlike_47 : decode cL_areAlike 47 = .ok (.iconst 0, 1) := by decide +kernel
theorem dL_areAlike_48 : decode cL_areAlike 48 = .ok (.iconst 0, 1) := by decide +kernel
theorem dL_areAlike_49 : decode cL_areAlike 49 = .ok (.invokestatic 78, 3) := by decide +kernel
theorem dL_areAlike_52 : decode cL_areAlike 52 = .ok (.dcmp .l, 1) := by decide +kernel
theorem dL_areAlike_53 : decode cL_areAlike 53 = .ok (.ifCond .ne 7, 3) := by decide +kernel
theorem dL_areAlike_56 : decode cL_areAlike 56 = .ok (.iconst 1, 1) := by decide +kernel
theorem dL_areAlike_57 : decode cL_areAlike 57 = .ok (.goto 4, 3) := by decide +kernel
theorem dL_areAlike_60 : decode cL_areAlike 60 = .ok (.iconst 0, 1) := by decide +kernel
theorem dL_areAlike_61 : decode cL_areAlike 61 = .ok (.istore_n 3, 1) := by decide +kernel
theorem dL_areAlike_62 : decode cL_areAlike 62 = .ok (.iconst 0, 1) := by decide +kernel
theorem dL_areAlike_63 : decode cL_areAlike 63 = .ok (.istore 4, 2) := by decide +kernel
theorem dL_areAlike_65 : decode cL_areAlike 65 = .ok (.iload 4, 2) := by decide +kernel
theorem dL_areAlike_67 : decode cL_areAlike 67 = .ok (.iconst 5, 1) := by decide +kernel
theorem dL_areAlike_68 : decode cL_areAlike 68 = .ok (.if_icmp .ge 116, 3) := by decide +kernel
theorem dL_areAlike_71 : decode cL_areAlike 71 = .ok (.iload_n 3, 1) := by decide +kernel
theorem dL_areAlike_72 : decode cL_areAlike 72 = .ok (.ifCond .eq 112, 3) := by decide +kernel
theorem dL_areAlike_75 : decode cL_areAlike 75 = .ok (.aload_n 0, 1) := by decide +kernel
theorem dL_areAlike_76 : decode cL_areAlike 76 = .ok (.iload 4, 2) := by decide +kernel
theorem dL_areAlike_78 : decode cL_areAlike 78 = .ok (.invokevirtual 89, 3) := by decide +kernel
theorem dL_areAlike_81 : decode cL_areAlike 81 = .ok (.aload_n 1, 1) := by decide +kernel
theorem dL_areAlike_82 : decode cL_areAlike 82 = .ok (.iload 4, 2) := by decide +kernel
theorem dL_areAlike_84 : decode cL_areAlike 84 = .ok (.invokevirtual 89, 3) := by decide +kernel
theorem dL_areAlike_87 : decode cL_areAlike 87 = .ok (.dcmp .l, 1) := by decide +kernel
theorem dL_areAlike_88 : decode cL_areAlike 88 = .ok (.ifCond .ne 88, 3) := by decide +kernel
theorem dL_areAlike_91 : decode cL_areAlike 91 = .ok (.aload_n 0, 1) := by decide +kernel
theorem dL_areAlike_92 : decode cL_areAlike 92 = .ok (.iload 4, 2) := by decide +kernel
theorem dL_areAlike_94 : decode cL_areAlike 94 = .ok (.invokevirtual 26, 3) := by decide +kernel
theorem dL_areAlike_97 : decode cL_areAlike 97 = .ok (.aload_n 1, 1) := by decide +kernel
theorem dL_areAlike_98 : decode cL_areAlike 98 = .ok (.iload 4, 2) := by decide +kernel
theorem dL_areAlike_100 : decode cL_areAlike 100 = .ok (.invokevirtual 26, 3) := by decide +kernel
theorem dL_areAlike_103 : decode cL_areAlike 103 = .ok (.if_icmp .ne 73, 3) := by decide +kernel
theorem dL_areAlike_106 : decode cL_areAlike 106 = .ok (.aload_n 0, 1) := by decide +kernel
theorem dL_areAlike_107 : decode cL_areAlike 107 = .ok (.iconst 2, 1) := by decide +kernel
theorem dL_areAlike_108 : decode cL_areAlike 108 = .ok (.iload 4, 2) := by decide +kernel
theorem dL_areAlike_110 : decode cL_areAlike 110 = .ok (.iload_n 2, 1) := by decide +kernel
theorem dL_areAlike_111 : decode cL_areAlike 111 = .ok (.iconst 0, 1) := by decide +kernel
theorem dL_areAlike_112 : decode cL_areAlike 112 = .ok (.invokestatic 78, 3) := by decide +kernel
theorem dL_areAlike_115 : decode cL_areAlike 115 = .ok (.aload_n 1, 1) := by decide +kernel
theorem dL_areAlike_116 : decode cL_areAlike 116 = .ok (.iconst 2, 1) := by decide +kernel
theorem dL_areAlike_117 : decode cL_areAlike 117 = .ok (.iload 4, 2) := by decide +kernel
theorem dL_areAlike_119 : decode cL_areAlike 119 = .ok (.iload_n 2, 1) := by decide +kernel
theorem dL_areAlike_120 : decode cL_areAlike 120 = .ok (.iconst 0, 1) := by decide +kernel
theorem dL_areAlike_121 : decode cL_areAlike 121 = .ok (.invokestatic 78, 3) := by decide +kernel
theorem dL_areAlike_124 : decode cL_areAlike 124 = .ok (.dcmp .l, 1) := by decide +kernel
theorem dL_areAlike_125 : decode cL_areAlike 125 = .ok (.ifCond .ne 51, 3) := by decide +kernel
theorem dL_areAlike_128 : decode cL_areAlike 128 = .ok (.aload_n 0, 1) := by decide +kernel
theorem dL_areAlike_129 : decode cL_areAlike 129 = .ok (.iconst 3, 1) := by decide +kernel
theorem dL_areAlike_130 : decode cL_areAlike 130 = .ok (.iload 4, 2) := by decide +kernel
theorem dL_areAlike_132 : decode cL_areAlike 132 = .ok (.iload_n 2, 1) := by decide +kernel
theorem dL_areAlike_133 : decode cL_areAlike 133 = .ok (.iconst 0, 1) := by decide +kernel
theorem dL_areAlike_134 : decode cL_areAlike 134 = .ok (.invokestatic 78, 3) := by decide +kernel
theorem dL_areAlike_137 : decode cL_areAlike 137 = .ok (.aload_n 1, 1) := by decide +kernel
theorem dL_areAlike_138 : decode cL_areAlike 138 = .ok (.iconst 3, 1) := by decide +kernel
theorem dL_areAlike_139 : decode cL_areAlike 139 = .ok (.iload 4, 2) := by decide +kernel
theorem dL_areAlike_141 : decode cL_areAlike 141 = .ok (.iload_n 2, 1) := by decide +kernel
theorem dL_areAlike_142 : decode cL_areAlike 142 = .ok (.iconst 0, 1) := by decide +kernel
theorem dL_areAlike_143 : decode cL_areAlike 143 = .ok (.invokestatic 78, 3) := by decide +kernel
theorem dL_areAlike_146 : decode cL_areAlike 146 = .ok (.dcmp .l, 1) := by decide +kernel
theorem dL_areAlike_147 : decode cL_areAlike 147 = .ok (.ifCond .ne 29, 3) := by decide +kernel
theorem dL_areAlike_150 : decode cL_areAlike 150 = .ok (.aload_n 0, 1) := by decide +kernel
theorem dL_areAlike_151 : decode cL_areAlike 151 = .ok (.iconst 5, 1) := by decide +kernel
theorem dL_areAlike_152 : decode cL_areAlike 152 = .ok (.iload 4, 2) := by decide +kernel
theorem dL_areAlike_154 : decode cL_areAlike 154 = .ok (.iload_n 2, 1) := by decide +kernel
theorem dL_areAlike_155 : decode cL_areAlike 155 = .ok (.iconst 0, 1) := by decide +kernel
theorem dL_areAlike_156 : decode cL_areAlike 156 = .ok (.invokestatic 78, 3) := by decide +kernel
theorem dL_areAlike_159 : decode cL_areAlike 159 = .ok (.aload_n 1, 1) := by decide +kernel
theorem dL_areAlike_160 : decode cL_areAlike 160 = .ok (.iconst 5, 1) := by decide +kernel
theorem dL_areAlike_161 : decode cL_areAlike 161 = .ok (.iload 4, 2) := by decide +kernel
theorem dL_areAlike_163 : decode cL_areAlike 163 = .ok (.iload_n 2, 1) := by decide +kernel
theorem dL_areAlike_164 : decode cL_areAlike 164 = .ok (.iconst 0, 1) := by decide +kernel
theorem dL_areAlike_165 : decode cL_areAlike 165 = .ok (.invokestatic 78, 3) := by decide +kernel
theorem dL_areAlike_168 : decode cL_areAlike 168 = .ok (.dcmp .l, 1) := by decide +kernel
theorem dL_areAlike_169 : decode cL_areAlike 169 = .ok (.ifCond .ne 7, 3) := by decide +kernel
theorem dL_areAlike_172 : decode cL_areAlike 172 = .ok (.iconst 1, 1) := by decide +kernel
theorem dL_areAlike_173 : decode cL_areAlike 173 = .ok (.goto 4, 3) := by decide +kernel
theorem dL_areAlike_176 : decode cL_areAlike 176 = .ok (.iconst 0, 1) := by decide +kernel
theorem dL_areAlike_177 : decode cL_areAlike 177 = .ok (.istore_n 3, 1) := by decide +kernel
theorem dL_areAlike_178 : decode cL_areAlike 178 = .ok (.iinc 4 1, 3) := by decide +kernel
theorem dL_areAlike_181 : decode cL_areAlike 181 = .ok (.goto (-116), 3) := by decide +kernel
theorem dL_areAlike_184 : decode cL_areAlike 184 = .ok (.iload_n 3, 1) := by decide +kernel
theorem dL_areAlike_185 : decode cL_areAlike 185 = .ok (.ireturn, 1) := by decide +kernel
set_option maxRecDepth 20000 in
theorem ggL_isClosedSo_X1_setPrice : GoodIn wsL_isClosedSo wsX1_setPrice := goodIn_ca (goodIn_r _ [11, 12, 13, 14, 15, 10, 16, 17, 18, 194, 195, 196, 197, 198, 199, 200, 201, 202, 203, 204, 205] (by decide +kernel) (by decide +kernel)) (goodIn_sub (fun _ h => List.mem_cons_of_mem _ (List.mem_append_left _ (List.mem_append_left _ (List.mem_append_right _ h)))) (by decide +kernel))
set_option maxRecDepth 20000 in
theorem gL_isClosedSo_X1_setPrice : GoodIn wsL_isClosedSo (wsV RL 35 RX1 yX1_setPrice wsX1_setPrice) := goodIn_app (goodIn_of _ (by decide +kernel)) ggL_isClosedSo_X1_setPrice
set_option maxRecDepth 20000 in
theorem ggL_isClosedSo_X1_battery : GoodIn wsL_isClosedSo wsX1_battery := goodIn_r _ [22, 23, 194, 195, 196, 197, 198, 199, 200, 201, 202, 203, 204, 205] (by decide +kernel) (by decide +kernel)
set_option maxRecDepth 20000 in
theorem gL_isClosedSo_X1_battery : GoodIn wsL_isClosedSo (wsV RL 82 RX1 yX1_battery wsX1_battery) := goodIn_app (goodIn_of _ (by decide +kernel)) ggL_isClosedSo_X1_battery
set_option maxRecDepth 20000 in
theorem ggL_isClosedSo_X1_closed : GoodIn wsL_isClosedSo wsX1_closed := goodIn_r _ [27, 28, 29, 194, 195, 196, 197, 198, 199, 200, 201, 202, 203, 204, 205, 206, 207, 208, 209, 210, 211, 212, 213, 214] (by decide +kernel) (by decide +kernel)
set_option maxRecDepth 20000 in
theorem gL_isClosedSo_X1_closed : GoodIn wsL_isClosedSo (wsV RL 74 RX1 yX1_closed wsX1_closed) := goodIn_app (goodIn_of _ (by decide +kernel)) ggL_isClosedSo_X1_closed
set_option maxRecDepth 20000 in
theorem ggL_isClosedSo_X1_sheds : GoodIn wsL_isClosedSo wsX1_sheds := goodIn_ca (goodIn_r _ [33, 34, 35, 36, 10, 37, 17, 18, 194, 195, 196, 197, 198, 199, 200, 201, 202, 203, 204, 205] (by decide +kernel) (by decide +kernel)) (goodIn_sub (fun _ h => List.mem_cons_of_mem _ (List.mem_append_left _ (List.mem_append_left _ (List.mem_append_right _ h)))) (by decide +kernel))
set_option maxRecDepth 20000 in
theorem gL_isClosedSo_X1_sheds : GoodIn wsL_isClosedSo (wsV RL 26 RX1 yX1_sheds wsX1_sheds) := goodIn_app (goodIn_of _ (by decide +kernel)) ggL_isClosedSo_X1_sheds
set_option maxRecDepth 20000 in
theorem ggL_isClosedSo_X1_bill : GoodIn wsL_isClosedSo wsX1_bill := goodIn_ca (goodIn_r _ [41, 42, 35, 36, 10, 37, 17, 18, 194, 195, 196, 197, 198, 199, 200, 201, 202, 203, 204, 205] (by decide +kernel) (by decide +kernel)) (goodIn_sub (fun _ h => List.mem_cons_of_mem _ (List.mem_append_left _ (List.mem_append_left _ (List.mem_append_right _ h)))) (by decide +kernel))
set_option maxRecDepth 20000 in
theorem gL_isClosedSo_X1_bill : GoodIn wsL_isClosedSo (wsV RL 89 RX1 yX1_bill wsX1_bill) := goodIn_app (goodIn_of _ (by decide +kernel)) ggL_isClosedSo_X1_bill
set_option maxRecDepth 20000 in
theorem ggL_isClosedSo_L_does : GoodIn wsL_isClosedSo wsL_does := goodIn_ca (goodIn_ca (goodIn_r _ [46, 47, 48, 4, 49, 50, 51, 10, 52, 53, 54, 55, 35, 36, 37, 17, 18, 14, 15, 16, 56, 57, 58, 59, 60, 61, 62, 63, 64, 65, 66, 67, 68, 69, 70, 71, 72, 73, 74, 28, 29, 75, 13, 76, 77, 78, 79, 80, 81, 82, 83, 84, 85, 86, 87, 88, 89, 90, 91, 92, 93, 94, 95, 96, 97, 98, 99, 100, 34, 101, 102, 103, 104, 105, 106, 107, 108, 109, 110, 111, 112, 113, 114, 115, 116, 117, 118, 119, 120, 121, 122, 12, 123, 124, 125, 126, 127, 128, 129, 130, 131, 132, 133, 134, 135, 136, 137, 138, 139, 23, 140, 141, 142, 143, 144, 145, 146, 147, 148, 149, 150, 151, 152, 153, 154, 155, 156, 157, 158, 159, 42, 30, 31, 32, 33, 194, 195, 196, 197, 198, 199, 200, 201, 202, 203, 204, 205, 206, 207, 208, 209, 210, 211, 212, 213, 214] (by decide +kernel) (by decide +kernel)) (goodIn_sub (fun _ h => List.mem_cons_of_mem _ (List.mem_append_left _ (List.mem_append_right _ h))) (by decide +kernel))) (goodIn_sub (fun _ h => List.mem_cons_of_mem _ (List.mem_append_left _ (List.mem_append_left _ (List.mem_append_right _ h)))) (by decide +kernel))
set_option maxRecDepth 20000 in
theorem gL_isClosedSo_L_does : GoodIn wsL_isClosedSo (va_wsS RL 70 yL_does wsL_does) := goodIn_app (goodIn_of _ (by decide +kernel)) ggL_isClosedSo_L_does
set_option maxRecDepth 20000 in
theorem ggL_isClosedSo_X1_sold : GoodIn wsL_isClosedSo wsX1_sold := goodIn_ca (goodIn_r _ [163, 28, 140, 164, 165, 166, 10, 167, 168, 169, 29, 194, 195, 196, 197, 198, 199, 200, 201, 202, 203, 204, 205, 206, 207, 208, 209, 210, 211, 212, 213, 214] (by decide +kernel) (by decide +kernel)) (goodIn_sub (fun _ h => List.mem_cons_of_mem _ (List.mem_append_right _ h)) (by decide +kernel))
set_option maxRecDepth 20000 in
theorem gL_isClosedSo_X1_sold : GoodIn wsL_isClosedSo (wsV RL 56 RX1 yX1_sold wsX1_sold) := goodIn_app (goodIn_of _ (by decide +kernel)) ggL_isClosedSo_X1_sold
set_option maxRecDepth 20000 in
theorem ggL_isClosedSo_X1_use : GoodIn wsL_isClosedSo wsX1_use := goodIn_ca (goodIn_ca (goodIn_r _ [173, 28, 82, 174, 175, 176, 10, 177, 35, 36, 37, 17, 18, 164, 165, 166, 167, 168, 169, 29, 84, 85, 86, 87, 194, 195, 196, 197, 198, 199, 200, 201, 202, 203, 204, 205, 206, 207, 208, 209, 210, 211, 212, 213, 214] (by decide +kernel) (by decide +kernel)) (goodIn_sub (fun _ h => List.mem_cons_of_mem _ (List.mem_append_left _ (List.mem_append_left _ (List.mem_append_right _ h)))) (by decide +kernel))) (goodIn_sub (fun _ h => List.mem_cons_of_mem _ (List.mem_append_right _ h)) (by decide +kernel))
set_option maxRecDepth 20000 in
theorem gL_isClosedSo_X1_use : GoodIn wsL_isClosedSo (wsV RL 43 RX1 yX1_use wsX1_use) := goodIn_app (goodIn_of _ (by decide +kernel)) ggL_isClosedSo_X1_use
set_option maxRecDepth 20000 in
theorem ggL_isClosedSo_X1_fromSun : GoodIn wsL_isClosedSo wsX1_fromSun := goodIn_ca (goodIn_ca (goodIn_r _ [181, 28, 130, 174, 175, 176, 10, 177, 35, 36, 37, 17, 18, 164, 165, 166, 167, 168, 169, 29, 84, 85, 86, 87, 194, 195, 196, 197, 198, 199, 200, 201, 202, 203, 204, 205, 206, 207, 208, 209, 210, 211, 212, 213, 214] (by decide +kernel) (by decide +kernel)) (goodIn_sub (fun _ h => List.mem_cons_of_mem _ (List.mem_append_left _ (List.mem_append_left _ (List.mem_append_right _ h)))) (by decide +kernel))) (goodIn_sub (fun _ h => List.mem_cons_of_mem _ (List.mem_append_right _ h)) (by decide +kernel))
set_option maxRecDepth 20000 in
theorem gL_isClosedSo_X1_fromSun : GoodIn wsL_isClosedSo (wsV RL 47 RX1 yX1_fromSun wsX1_fromSun) := goodIn_app (goodIn_of _ (by decide +kernel)) ggL_isClosedSo_X1_fromSun
set_option maxRecDepth 20000 in
theorem ggL_isClosedSo_X1_fromBattery : GoodIn wsL_isClosedSo wsX1_fromBattery := goodIn_ca (goodIn_ca (goodIn_r _ [185, 28, 146, 174, 175, 176, 10, 177, 35, 36, 37, 17, 18, 164, 165, 166, 167, 168, 169, 29, 84, 85, 86, 87, 194, 195, 196, 197, 198, 199, 200, 201, 202, 203, 204, 205, 206, 207, 208, 209, 210, 211, 212, 213, 214] (by decide +kernel) (by decide +kernel)) (goodIn_sub (fun _ h => List.mem_cons_of_mem _ (List.mem_append_left _ (List.mem_append_left _ (List.mem_append_right _ h)))) (by decide +kernel))) (goodIn_sub (fun _ h => List.mem_cons_of_mem _ (List.mem_append_right _ h)) (by decide +kernel))
set_option maxRecDepth 20000 in
theorem gL_isClosedSo_X1_fromBattery : GoodIn wsL_isClosedSo (wsV RL 50 RX1 yX1_fromBattery wsX1_fromBattery) := goodIn_app (goodIn_of _ (by decide +kernel)) ggL_isClosedSo_X1_fromBattery
set_option maxRecDepth 20000 in
theorem ggL_isClosedSo_X1_bought : GoodIn wsL_isClosedSo wsX1_bought := goodIn_ca (goodIn_ca (goodIn_r _ [189, 28, 159, 174, 175, 176, 10, 177, 35, 36, 37, 17, 18, 164, 165, 166, 167, 168, 169, 29, 84, 85, 86, 87, 194, 195, 196, 197, 198, 199, 200, 201, 202, 203, 204, 205, 206, 207, 208, 209, 210, 211, 212, 213, 214] (by decide +kernel) (by decide +kernel)) (goodIn_sub (fun _ h => List.mem_cons_of_mem _ (List.mem_append_left _ (List.mem_append_left _ (List.mem_append_right _ h)))) (by decide +kernel))) (goodIn_sub (fun _ h => List.mem_cons_of_mem _ (List.mem_append_right _ h)) (by decide +kernel))
set_option maxRecDepth 20000 in
theorem gL_isClosedSo_X1_bought : GoodIn wsL_isClosedSo (wsV RL 53 RX1 yX1_bought wsX1_bought) := goodIn_app (goodIn_of _ (by decide +kernel)) ggL_isClosedSo_X1_bought
set_option maxRecDepth 20000 in
theorem ggL_isClosedSo_L_isNear : GoodIn wsL_isClosedSo wsL_isNear := goodIn_r _ [192, 193] (by decide +kernel) (by decide +kernel)
set_option maxRecDepth 20000 in
theorem gL_isClosedSo_L_isNear : GoodIn wsL_isClosedSo (va_wsS RL 94 yL_isNear wsL_isNear) := goodIn_app (goodIn_of _ (by decide +kernel)) ggL_isClosedSo_L_isNear
theorem dL_isClosedSo_0 : decode cL_isClosedSo 0 = .ok (.aload_n 0, 1) := by decide +kernel
theorem dL_isClosedSo_1 : decode cL_isClosedSo 1 = .ok (.iload_n 2, 1) := by decide +kernel
theorem dL_isClosedSo_2 : decode cL_isClosedSo 2 = .ok (.invokevirtual 35, 3) := by decide +kernel
theorem dL_isClosedSo_5 : decode cL_isClosedSo 5 = .ok (.dstore 4, 2) := by decide +kernel
theorem dL_isClosedSo_7 : decode cL_isClosedSo 7 = .ok (.aload_n 0, 1) := by decide +kernel
theorem dL_isClosedSo_8 : decode cL_isClosedSo 8 = .ok (.invokevirtual 82, 3) := by decide +kernel
theorem dL_isClosedSo_11 : decode cL_isClosedSo 11 = .ok (.dstore 6, 2) := by decide +kernel
theorem dL_isClosedSo_13 : decode cL_isClosedSo 13 = .ok (.aload_n 0, 1) := by decide +kernel
theorem dL_isClosedSo_14 : decode cL_isClosedSo 14 = .ok (.invokevirtual 74, 3) := by decide +kernel
theorem dL_isClosedSo_17 : decode cL_isClosedSo 17 = .ok (.istore 8, 2) := by decide +kernel
theorem dL_isClosedSo_19 : decode cL_isClosedSo 19 = .ok (.iconst 5, 1) := by decide +kernel
theorem dL_isClosedSo_20 : decode cL_isClosedSo 20 = .ok (.newarray .int, 2) := by decide +kernel
theorem dL_isClosedSo_22 : decode cL_isClosedSo 22 = .ok (.astore 9, 2) := by decide +kernel
theorem dL_isClosedSo_24 : decode cL_isClosedSo 24 = .ok (.iconst 5, 1) := by decide +kernel
theorem dL_isClosedSo_25 : decode cL_isClosedSo 25 = .ok (.newarray .double, 2) := by decide +kernel
theorem dL_isClosedSo_27 : decode cL_isClosedSo 27 = .ok (.astore 10, 2) := by decide +kernel
theorem dL_isClosedSo_29 : decode cL_isClosedSo 29 = .ok (.iconst 0, 1) := by decide +kernel
theorem dL_isClosedSo_30 : decode cL_isClosedSo 30 = .ok (.istore 11, 2) := by decide +kernel
theorem dL_isClosedSo_32 : decode cL_isClosedSo 32 = .ok (.iload 11, 2) := by decide +kernel
theorem dL_isClosedSo_34 : decode cL_isClosedSo 34 = .ok (.iconst 5, 1) := by decide +kernel
theorem dL_isClosedSo_35 : decode cL_isClosedSo 35 = .ok (.if_icmp .ge 31, 3) := by decide +kernel
theorem dL_isClosedSo_38 : decode cL_isClosedSo 38 = .ok (.aload 9, 2) := by decide +kernel
theorem dL_isClosedSo_40 : decode cL_isClosedSo 40 = .ok (.iload 11, 2) := by decide +kernel
theorem dL_isClosedSo_42 : decode cL_isClosedSo 42 = .ok (.aload_n 0, 1) := by decide +kernel
theorem dL_isClosedSo_43 : decode cL_isClosedSo 43 = .ok (.iload 11, 2) := by decide +kernel
theorem dL_isClosedSo_45 : decode cL_isClosedSo 45 = .ok (.invokevirtual 26, 3) := by decide +kernel
theorem dL_isClosedSo_48 : decode cL_isClosedSo 48 = .ok (.iastore, 1) := by decide +kernel
theorem dL_isClosedSo_49 : decode cL_isClosedSo 49 = .ok (.aload 10, 2) := by decide +kernel
theorem dL_isClosedSo_51 : decode cL_isClosedSo 51 = .ok (.iload 11, 2) := by decide +kernel
theorem dL_isClosedSo_53 : decode cL_isClosedSo 53 = .ok (.aload_n 0, 1) := by decide +kernel
theorem dL_isClosedSo_54 : decode cL_isClosedSo 54 = .ok (.iload 11, 2) := by decide +kernel
theorem dL_isClosedSo_56 : decode cL_isClosedSo 56 = .ok (.invokevirtual 89, 3) := by decide +kernel
theorem dL_isClosedSo_59 : decode cL_isClosedSo 59 = .ok (.dastore, 1) := by decide +kernel
theorem dL_isClosedSo_60 : decode cL_isClosedSo 60 = .ok (.iinc 11 1, 3) := by decide +kernel
theorem dL_isClosedSo_63 : decode cL_isClosedSo 63 = .ok (.goto (-31), 3) := by decide +kernel
theorem dL_isClosedSo_66 : decode cL_isClosedSo 66 = .ok (.aload_n 0, 1) := by decide +kernel
theorem dL_isClosedSo_67 : decode cL_isClosedSo 67 = .ok (.iconst 3, 1) := by decide +kernel
theorem dL_isClosedSo_68 : decode cL_isClosedSo 68 = .ok (.iload_n 3, 1) := by decide +kernel
theorem dL_isClosedSo_69 : decode cL_isClosedSo 69 = .ok (.iconst 0, 1) := by decide +kernel
theorem dL_isClosedSo_70 : decode cL_isClosedSo 70 = .ok (.invokestatic 70, 3) := by decide +kernel
theorem dL_isClosedSo_73 : decode cL_isClosedSo 73 = .ok (.istore 11, 2) := by decide +kernel
theorem dL_isClosedSo_75 : decode cL_isClosedSo 75 = .ok (.aload_n 1, 1) := by decide +kernel
theorem dL_isClosedSo_76 : decode cL_isClosedSo 76 = .ok (.iload_n 2, 1) := by decide +kernel
theorem dL_isClosedSo_77 : decode cL_isClosedSo 77 = .ok (.invokevirtual 35, 3) := by decide +kernel
theorem dL_isClosedSo_80 : decode cL_isClosedSo 80 = .ok (.dload 4, 2) := by decide +kernel
theorem dL_isClosedSo_82 : decode cL_isClosedSo 82 = .ok (.dcmp .l, 1) := by decide +kernel
theorem dL_isClosedSo_83 : decode cL_isClosedSo 83 = .ok (.ifCond .ne 58, 3) := by decide +kernel
theorem dL_isClosedSo_86 : decode cL_isClosedSo 86 = .ok (.aload_n 1, 1) := by decide +kernel
theorem dL_isClosedSo_87 : decode cL_isClosedSo 87 = .ok (.iconst 3, 1) := by decide +kernel
theorem dL_isClosedSo_88 : decode cL_isClosedSo 88 = .ok (.iload_n 3, 1) := by decide +kernel
theorem dL_isClosedSo_89 : decode cL_isClosedSo 89 = .ok (.iconst 0, 1) := by decide +kernel
theorem dL_isClosedSo_90 : decode cL_isClosedSo 90 = .ok (.invokestatic 70, 3) := by decide +kernel
theorem dL_isClosedSo_93 : decode cL_isClosedSo 93 = .ok (.iload 11, 2) := by decide +kernel
theorem dL_isClosedSo_95 : decode cL_isClosedSo 95 = .ok (.if_icmp .ne 46, 3) := by decide +kernel
theorem dL_isClosedSo_98 : decode cL_isClosedSo 98 = .ok (.dload 4, 2) := by decide +kernel
theorem dL_isClosedSo_100 : decode cL_isClosedSo 100 = .ok (.ldc2_w 92, 3) := by decide +kernel
theorem dL_isClosedSo_103 : decode cL_isClosedSo 103 = .ok (.dmul, 1) := by decide +kernel
theorem dL_isClosedSo_104 : decode cL_isClosedSo 104 = .ok (.iload_n 2, 1) := by decide +kernel
theorem dL_isClosedSo_105 : decode cL_isClosedSo 105 = .ok (.i2d, 1) := by decide +kernel
theorem dL_isClosedSo_106 : decode cL_isClosedSo 106 = .ok (.dcmp .l, 1) := by decide +kernel
theorem dL_isClosedSo_107 : decode cL_isClosedSo 107 = .ok (.ifCond .ne 34, 3) := by decide +kernel
theorem dL_isClosedSo_110 : decode cL_isClosedSo 110 = .ok (.iload 11, 2) := by decide +kernel
theorem dL_isClosedSo_112 : decode cL_isClosedSo 112 = .ok (.ldc 32, 2) := by decide +kernel
theorem dL_isClosedSo_114 : decode cL_isClosedSo 114 = .ok (.if_icmp .ne 7, 3) := by decide +kernel
theorem dL_isClosedSo_117 : decode cL_isClosedSo 117 = .ok (.iconst 1, 1) := by decide +kernel
theorem dL_isClosedSo_118 : decode cL_isClosedSo 118 = .ok (.goto 4, 3) := by decide +kernel
theorem dL_isClosedSo_121 : decode cL_isClosedSo 121 = .ok (.iconst 0, 1) := by decide +kernel
theorem dL_isClosedSo_122 : decode cL_isClosedSo 122 = .ok (.iload 8, 2) := by decide +kernel
theorem dL_isClosedSo_124 : decode cL_isClosedSo 124 = .ok (.bipush 60, 2) := by decide +kernel
theorem dL_isClosedSo_126 : decode cL_isClosedSo 126 = .ok (.if_icmp .ne 7, 3) := by decide +kernel
theorem dL_isClosedSo_129 : decode cL_isClosedSo 129 = .ok (.iconst 1, 1) := by decide +kernel
theorem dL_isClosedSo_130 : decode cL_isClosedSo 130 = .ok (.goto 4, 3) := by decide +kernel
theorem dL_isClosedSo_133 : decode cL_isClosedSo 133 = .ok (.iconst 0, 1) := by decide +kernel
theorem dL_isClosedSo_134 : decode cL_isClosedSo 134 = .ok (.if_icmp .ne 7, 3) := by decide +kernel
theorem dL_isClosedSo_137 : decode cL_isClosedSo 137 = .ok (.iconst 1, 1) := by decide +kernel
theorem dL_isClosedSo_138 : decode cL_isClosedSo 138 = .ok (.goto 4, 3) := by decide +kernel
theorem dL_isClosedSo_141 : decode cL_isClosedSo 141 = .ok (.iconst 0, 1) := by decide +kernel
theorem dL_isClosedSo_142 : decode cL_isClosedSo 142 = .ok (.istore 12, 2) := by decide +kernel
theorem dL_isClosedSo_144 : decode cL_isClosedSo 144 = .ok (.iload 11, 2) := by decide +kernel
theorem dL_isClosedSo_146 : decode cL_isClosedSo 146 = .ok (.ldc 32, 2) := by decide +kernel
theorem dL_isClosedSo_148 : decode cL_isClosedSo 148 = .ok (.if_icmp .ne 33, 3) := by decide +kernel
theorem dL_isClosedSo_151 : decode cL_isClosedSo 151 = .ok (.iload 12, 2) := by decide +kernel
theorem dL_isClosedSo_153 : decode cL_isClosedSo 153 = .ok (.ifCond .eq 26, 3) := by decide +kernel
theorem dL_isClosedSo_156 : decode cL_isClosedSo 156 = .ok (.aload_n 0, 1) := by decide +kernel
theorem dL_isClosedSo_157 : decode cL_isClosedSo 157 = .ok (.invokevirtual 82, 3) := by decide +kernel
theorem dL_isClosedSo_160 : decode cL_isClosedSo 160 = .ok (.dload 6, 2) := by decide +kernel
theorem dL_isClosedSo_162 : decode cL_isClosedSo 162 = .ok (.dcmp .l, 1) := by decide +kernel
theorem dL_isClosedSo_163 : decode cL_isClosedSo 163 = .ok (.ifCond .ne 16, 3) := by decide +kernel
theorem dL_isClosedSo_166 : decode cL_isClosedSo 166 = .ok (.aload_n 0, 1) := by decide +kernel
theorem dL_isClosedSo_167 : decode cL_isClosedSo 167 = .ok (.invokevirtual 74, 3) := by decide +kernel
theorem dL_isClosedSo_170 : decode cL_isClosedSo 170 = .ok (.bipush 60, 2) := by decide +kernel
theorem dL_isClosedSo_172 : decode cL_isClosedSo 172 = .ok (.if_icmp .ne 7, 3) := by decide +kernel
theorem dL_isClosedSo_175 : decode cL_isClosedSo 175 = .ok (.iconst 1, 1) := by decide +kernel
theorem dL_isClosedSo_176 : decode cL_isClosedSo 176 = .ok (.goto 4, 3) := by decide +kernel
theorem dL_isClosedSo_179 : decode cL_isClosedSo 179 = .ok (.iconst 0, 1) := by decide +kernel
theorem dL_isClosedSo_180 : decode cL_isClosedSo 180 = .ok (.ireturn, 1) := by decide +kernel
theorem dL_isClosedSo_181 : decode cL_isClosedSo 181 = .ok (.iload_n 3, 1) := by decide +kernel
theorem dL_isClosedSo_182 : decode cL_isClosedSo 182 = .ok (.i2d, 1) := by decide +kernel
theorem dL_isClosedSo_183 : decode cL_isClosedSo 183 = .ok (.aload_n 0, 1) := by decide +kernel
theorem dL_isClosedSo_184 : decode cL_isClosedSo 184 = .ok (.iload 8, 2) := by decide +kernel
theorem dL_isClosedSo_186 : decode cL_isClosedSo 186 = .ok (.invokevirtual 56, 3) := by decide +kernel
theorem dL_isClosedSo_189 : decode cL_isClosedSo 189 = .ok (.dsub, 1) := by decide +kernel
theorem dL_isClosedSo_190 : decode cL_isClosedSo 190 = .ok (.aload_n 0, 1) := by decide +kernel
theorem dL_isClosedSo_191 : decode cL_isClosedSo 191 = .ok (.invokevirtual 82, 3) := by decide +kernel
theorem dL_isClosedSo_194 : decode cL_isClosedSo 194 = .ok (.dload 6, 2) := by decide +kernel
theorem dL_isClosedSo_196 : decode cL_isClosedSo 196 = .ok (.dsub, 1) := by decide +kernel
theorem dL_isClosedSo_197 : decode cL_isClosedSo 197 = .ok (.dsub, 1) := by decide +kernel
theorem dL_isClosedSo_198 : decode cL_isClosedSo 198 = .ok (.dstore 13, 2) := by decide +kernel
theorem dL_isClosedSo_200 : decode cL_isClosedSo 200 = .ok (.dconst 0, 1) := by decide +kernel
theorem dL_isClosedSo_201 : decode cL_isClosedSo 201 = .ok (.dstore 15, 2) := by decide +kernel
theorem dL_isClosedSo_203 : decode cL_isClosedSo 203 = .ok (.iconst 0, 1) := by decide +kernel
theorem dL_isClosedSo_204 : decode cL_isClosedSo 204 = .ok (.istore 17, 2) := by decide +kernel
theorem dL_isClosedSo_206 : decode cL_isClosedSo 206 = .ok (.iload 17, 2) := by decide +kernel
theorem dL_isClosedSo_208 : decode cL_isClosedSo 208 = .ok (.iconst 5, 1) := by decide +kernel
theorem dL_isClosedSo_209 : decode cL_isClosedSo 209 = .ok (.if_icmp .ge 174, 3) := by decide +kernel
theorem dL_isClosedSo_212 : decode cL_isClosedSo 212 = .ok (.iload 12, 2) := by decide +kernel
theorem dL_isClosedSo_214 : decode cL_isClosedSo 214 = .ok (.ifCond .eq 169, 3) := by decide +kernel
theorem dL_isClosedSo_217 : decode cL_isClosedSo 217 = .ok (.aload_n 0, 1) := by decide +kernel
theorem dL_isClosedSo_218 : decode cL_isClosedSo 218 = .ok (.iload 17, 2) := by decide +kernel
theorem dL_isClosedSo_220 : decode cL_isClosedSo 220 = .ok (.invokevirtual 26, 3) := by decide +kernel
theorem dL_isClosedSo_223 : decode cL_isClosedSo 223 = .ok (.aload 9, 2) := by decide +kernel
theorem dL_isClosedSo_225 : decode cL_isClosedSo 225 = .ok (.iload 17, 2) := by decide +kernel
theorem dL_isClosedSo_227 : decode cL_isClosedSo 227 = .ok (.iaload, 1) := by decide +kernel
theorem dL_isClosedSo_228 : decode cL_isClosedSo 228 = .ok (.isub, 1) := by decide +kernel
theorem dL_isClosedSo_229 : decode cL_isClosedSo 229 = .ok (.istore 18, 2) := by decide +kernel
theorem dL_isClosedSo_231 : decode cL_isClosedSo 231 = .ok (.iload 18, 2) := by decide +kernel
theorem dL_isClosedSo_233 : decode cL_isClosedSo 233 = .ok (.iconst 1, 1) := by decide +kernel
theorem dL_isClosedSo_234 : decode cL_isClosedSo 234 = .ok (.if_icmp .ne 7, 3) := by decide +kernel
theorem dL_isClosedSo_237 : decode cL_isClosedSo 237 = .ok (.dconst 0, 1) := by decide +kernel
theorem dL_isClosedSo_238 : decode cL_isClosedSo 238 = .ok (.goto 11, 3) := by decide +kernel
theorem dL_isClosedSo_241 : decode cL_isClosedSo 241 = .ok (.aload_n 0, 1) := by decide +kernel
theorem dL_isClosedSo_242 : decode cL_isClosedSo 242 = .ok (.iload 17, 2) := by decide +kernel
theorem dL_isClosedSo_244 : decode cL_isClosedSo 244 = .ok (.iload 8, 2) := by decide +kernel
theorem dL_isClosedSo_246 : decode cL_isClosedSo 246 = .ok (.invokevirtual 43, 3) := by decide +kernel
theorem dL_isClosedSo_249 : decode cL_isClosedSo 249 = .ok (.dstore 19, 2) := by decide +kernel
theorem dL_isClosedSo_251 : decode cL_isClosedSo 251 = .ok (.aload_n 0, 1) := by decide +kernel
theorem dL_isClosedSo_252 : decode cL_isClosedSo 252 = .ok (.iload 17, 2) := by decide +kernel
theorem dL_isClosedSo_254 : decode cL_isClosedSo 254 = .ok (.iload 8, 2) := by decide +kernel
theorem dL_isClosedSo_256 : decode cL_isClosedSo 256 = .ok (.invokevirtual 47, 3) := by decide +kernel
theorem dL_isClosedSo_259 : decode cL_isClosedSo 259 = .ok (.aload_n 0, 1) := by decide +kernel
theorem dL_isClosedSo_260 : decode cL_isClosedSo 260 = .ok (.iload 17, 2) := by decide +kernel
theorem dL_isClosedSo_262 : decode cL_isClosedSo 262 = .ok (.iload 8, 2) := by decide +kernel
theorem dL_isClosedSo_264 : decode cL_isClosedSo 264 = .ok (.invokevirtual 50, 3) := by decide +kernel
theorem dL_isClosedSo_267 : decode cL_isClosedSo 267 = .ok (.dadd, 1) := by decide +kernel
theorem dL_isClosedSo_268 : decode cL_isClosedSo 268 = .ok (.dstore 21, 2) := by decide +kernel
theorem dL_isClosedSo_270 : decode cL_isClosedSo 270 = .ok (.dload 13, 2) := by decide +kernel
theorem dL_isClosedSo_272 : decode cL_isClosedSo 272 = .ok (.dload 21, 2) := by decide +kernel
theorem dL_isClosedSo_274 : decode cL_isClosedSo 274 = .ok (.dsub, 1) := by decide +kernel
theorem dL_isClosedSo_275 : decode cL_isClosedSo 275 = .ok (.dstore 13, 2) := by decide +kernel
theorem dL_isClosedSo_277 : decode cL_isClosedSo 277 = .ok (.dload 15, 2) := by decide +kernel
theorem dL_isClosedSo_279 : decode cL_isClosedSo 279 = .ok (.dload 19, 2) := by decide +kernel
theorem dL_isClosedSo_281 : decode cL_isClosedSo 281 = .ok (.dadd, 1) := by decide +kernel
theorem dL_isClosedSo_282 : decode cL_isClosedSo 282 = .ok (.dstore 15, 2) := by decide +kernel
theorem dL_isClosedSo_284 : decode cL_isClosedSo 284 = .ok (.iload 18, 2) := by decide +kernel
theorem dL_isClosedSo_286 : decode cL_isClosedSo 286 = .ok (.ifCond .eq 22, 3) := by decide +kernel
theorem dL_isClosedSo_289 : decode cL_isClosedSo 289 = .ok (.iload 18, 2) := by decide +kernel
theorem dL_isClosedSo_291 : decode cL_isClosedSo 291 = .ok (.iconst 1, 1) := by decide +kernel
theorem dL_isClosedSo_292 : decode cL_isClosedSo 292 = .ok (.if_icmp .ne 82, 3) := by decide +kernel
theorem dL_isClosedSo_295 : decode cL_isClosedSo 295 = .ok (.aload_n 0, 1) := by decide +kernel
theorem dL_isClosedSo_296 : decode cL_isClosedSo 296 = .ok (.iload 17, 2) := by decide +kernel
theorem dL_isClosedSo_298 : decode cL_isClosedSo 298 = .ok (.iload 8, 2) := by decide +kernel
theorem dL_isClosedSo_300 : decode cL_isClosedSo 300 = .ok (.invokevirtual 43, 3) := by decide +kernel
theorem dL_isClosedSo_303 : decode cL_isClosedSo 303 = .ok (.dconst 0, 1) := by decide +kernel
theorem dL_isClosedSo_304 : decode cL_isClosedSo 304 = .ok (.dcmp .l, 1) := by decide +kernel
theorem dL_isClosedSo_305 : decode cL_isClosedSo 305 = .ok (.ifCond .le 69, 3) := by decide +kernel
theorem dL_isClosedSo_308 : decode cL_isClosedSo 308 = .ok (.dload 19, 2) := by decide +kernel
theorem dL_isClosedSo_310 : decode cL_isClosedSo 310 = .ok (.dload 21, 2) := by decide +kernel
theorem dL_isClosedSo_312 : decode cL_isClosedSo 312 = .ok (.aload_n 0, 1) := by decide +kernel
theorem dL_isClosedSo_313 : decode cL_isClosedSo 313 = .ok (.iload 17, 2) := by decide +kernel
theorem dL_isClosedSo_315 : decode cL_isClosedSo 315 = .ok (.iload 8, 2) := by decide +kernel
theorem dL_isClosedSo_317 : decode cL_isClosedSo 317 = .ok (.invokevirtual 53, 3) := by decide +kernel
theorem dL_isClosedSo_320 : decode cL_isClosedSo 320 = .ok (.dadd, 1) := by decide +kernel
theorem dL_isClosedSo_321 : decode cL_isClosedSo 321 = .ok (.invokestatic 94, 3) := by decide +kernel
theorem dL_isClosedSo_324 : decode cL_isClosedSo 324 = .ok (.ifCond .eq 50, 3) := by decide +kernel
theorem dL_isClosedSo_327 : decode cL_isClosedSo 327 = .ok (.aload_n 0, 1) := by decide +kernel
theorem dL_isClosedSo_328 : decode cL_isClosedSo 328 = .ok (.iload 17, 2) := by decide +kernel
theorem dL_isClosedSo_330 : decode cL_isClosedSo 330 = .ok (.invokevirtual 89, 3) := by decide +kernel
theorem dL_isClosedSo_333 : decode cL_isClosedSo 333 = .ok (.aload 10, 2) := by decide +kernel
theorem dL_isClosedSo_335 : decode cL_isClosedSo 335 = .ok (.iload 17, 2) := by decide +kernel
theorem dL_isClosedSo_337 : decode cL_isClosedSo 337 = .ok (.daload, 1) := by decide +kernel
theorem dL_isClosedSo_338 : decode cL_isClosedSo 338 = .ok (.aload_n 0, 1) := by decide +kernel
theorem dL_isClosedSo_339 : decode cL_isClosedSo 339 = .ok (.iload 17, 2) := by decide +kernel
theorem dL_isClosedSo_341 : decode cL_isClosedSo 341 = .ok (.iload 8, 2) := by decide +kernel
theorem dL_isClosedSo_343 : decode cL_isClosedSo 343 = .ok (.invokevirtual 53, 3) := by decide +kernel
theorem dL_isClosedSo_346 : decode cL_isClosedSo 346 = .ok (.dload 4, 2) := by decide +kernel
theorem dL_isClosedSo_348 : decode cL_isClosedSo 348 = .ok (.dmul, 1) := by decide +kernel
theorem dL_isClosedSo_349 : decode cL_isClosedSo 349 = .ok (.dadd, 1) := by decide +kernel
theorem dL_isClosedSo_350 : decode cL_isClosedSo 350 = .ok (.aload_n 0, 1) := by decide +kernel
theorem dL_isClosedSo_351 : decode cL_isClosedSo 351 = .ok (.iload 8, 2) := by decide +kernel
theorem dL_isClosedSo_353 : decode cL_isClosedSo 353 = .ok (.invokevirtual 56, 3) := by decide +kernel
theorem dL_isClosedSo_356 : decode cL_isClosedSo 356 = .ok (.dload 4, 2) := by decide +kernel
theorem dL_isClosedSo_358 : decode cL_isClosedSo 358 = .ok (.dmul, 1) := by decide +kernel
theorem dL_isClosedSo_359 : decode cL_isClosedSo 359 = .ok (.ldc2_w 98, 3) := by decide +kernel
theorem dL_isClosedSo_362 : decode cL_isClosedSo 362 = .ok (.ddiv, 1) := by decide +kernel
theorem dL_isClosedSo_363 : decode cL_isClosedSo 363 = .ok (.dsub, 1) := by decide +kernel
theorem dL_isClosedSo_364 : decode cL_isClosedSo 364 = .ok (.invokestatic 94, 3) := by decide +kernel
theorem dL_isClosedSo_367 : decode cL_isClosedSo 367 = .ok (.ifCond .eq 7, 3) := by decide +kernel
theorem dL_isClosedSo_370 : decode cL_isClosedSo 370 = .ok (.iconst 1, 1) := by decide +kernel
theorem dL_isClosedSo_371 : decode cL_isClosedSo 371 = .ok (.goto 4, 3) := by decide +kernel
theorem dL_isClosedSo_374 : decode cL_isClosedSo 374 = .ok (.iconst 0, 1) := by decide +kernel
theorem dL_isClosedSo_375 : decode cL_isClosedSo 375 = .ok (.istore 12, 2) := by decide +kernel
theorem dL_isClosedSo_377 : decode cL_isClosedSo 377 = .ok (.iinc 17 1, 3) := by decide +kernel
theorem dL_isClosedSo_380 : decode cL_isClosedSo 380 = .ok (.goto (-174), 3) := by decide +kernel
theorem dL_isClosedSo_383 : decode cL_isClosedSo 383 = .ok (.iload 12, 2) := by decide +kernel
theorem dL_isClosedSo_385 : decode cL_isClosedSo 385 = .ok (.ifCond .eq 55, 3) := by decide +kernel
theorem dL_isClosedSo_388 : decode cL_isClosedSo 388 = .ok (.dload 13, 2) := by decide +kernel
theorem dL_isClosedSo_390 : decode cL_isClosedSo 390 = .ok (.dconst 0, 1) := by decide +kernel
theorem dL_isClosedSo_391 : decode cL_isClosedSo 391 = .ok (.invokestatic 94, 3) := by decide +kernel
theorem dL_isClosedSo_394 : decode cL_isClosedSo 394 = .ok (.ifCond .eq 46, 3) := by decide +kernel
theorem dL_isClosedSo_397 : decode cL_isClosedSo 397 = .ok (.iload 11, 2) := by decide +kernel
theorem dL_isClosedSo_399 : decode cL_isClosedSo 399 = .ok (.iconst 1, 1) := by decide +kernel
theorem dL_isClosedSo_400 : decode cL_isClosedSo 400 = .ok (.if_icmp .ne 7, 3) := by decide +kernel
theorem dL_isClosedSo_403 : decode cL_isClosedSo 403 = .ok (.iconst 1, 1) := by decide +kernel
theorem dL_isClosedSo_404 : decode cL_isClosedSo 404 = .ok (.goto 4, 3) := by decide +kernel
theorem dL_isClosedSo_407 : decode cL_isClosedSo 407 = .ok (.iconst 0, 1) := by decide +kernel
theorem dL_isClosedSo_408 : decode cL_isClosedSo 408 = .ok (.dload 15, 2) := by decide +kernel
theorem dL_isClosedSo_410 : decode cL_isClosedSo 410 = .ok (.ldc2_w 100, 3) := by decide +kernel
theorem dL_isClosedSo_413 : decode cL_isClosedSo 413 = .ok (.dcmp .l, 1) := by decide +kernel
theorem dL_isClosedSo_414 : decode cL_isClosedSo 414 = .ok (.ifCond .le 7, 3) := by decide +kernel
theorem dL_isClosedSo_417 : decode cL_isClosedSo 417 = .ok (.iconst 1, 1) := by decide +kernel
theorem dL_isClosedSo_418 : decode cL_isClosedSo 418 = .ok (.goto 4, 3) := by decide +kernel
theorem dL_isClosedSo_421 : decode cL_isClosedSo 421 = .ok (.iconst 0, 1) := by decide +kernel
theorem dL_isClosedSo_422 : decode cL_isClosedSo 422 = .ok (.if_icmp .ne 18, 3) := by decide +kernel
theorem dL_isClosedSo_425 : decode cL_isClosedSo 425 = .ok (.aload_n 0, 1) := by decide +kernel
theorem dL_isClosedSo_426 : decode cL_isClosedSo 426 = .ok (.invokevirtual 74, 3) := by decide +kernel
theorem dL_isClosedSo_429 : decode cL_isClosedSo 429 = .ok (.iload 8, 2) := by decide +kernel
theorem dL_isClosedSo_431 : decode cL_isClosedSo 431 = .ok (.iconst 1, 1) := by decide +kernel
theorem dL_isClosedSo_432 : decode cL_isClosedSo 432 = .ok (.iadd, 1) := by decide +kernel
theorem dL_isClosedSo_433 : decode cL_isClosedSo 433 = .ok (.if_icmp .ne 7, 3) := by decide +kernel
theorem dL_isClosedSo_436 : decode cL_isClosedSo 436 = .ok (.iconst 1, 1) := by decide +kernel
theorem dL_isClosedSo_437 : decode cL_isClosedSo 437 = .ok (.goto 4, 3) := by decide +kernel
theorem dL_isClosedSo_440 : decode cL_isClosedSo 440 = .ok (.iconst 0, 1) := by decide +kernel
theorem dL_isClosedSo_441 : decode cL_isClosedSo 441 = .ok (.ireturn, 1) := by decide +kernel
set_option maxRecDepth 20000 in
theorem ggL_isReplacedSo_X1_bill : GoodIn wsL_isReplacedSo wsX1_bill := goodIn_ca (goodIn_r _ [8, 9, 10, 11, 7, 12, 13, 14, 81, 82, 83, 84, 85, 86, 87, 88, 89, 90, 91, 92] (by decide +kernel) (by decide +kernel)) (goodIn_sub (fun _ h => List.mem_cons_of_mem _ (List.mem_append_left _ (List.mem_append_left _ (List.mem_append_right _ h)))) (by decide +kernel))
set_option maxRecDepth 20000 in
theorem gL_isReplacedSo_X1_bill : GoodIn wsL_isReplacedSo (wsV RL 89 RX1 yX1_bill wsX1_bill) := goodIn_app (goodIn_of _ (by decide +kernel)) ggL_isReplacedSo_X1_bill
set_option maxRecDepth 20000 in
theorem ggL_isReplacedSo_L_looks : GoodIn wsL_isReplacedSo wsL_looks := goodIn_ca (goodIn_ca (goodIn_ca (goodIn_r _ [18, 19, 20, 21, 1, 22, 23, 24, 7, 25, 26, 27, 28, 29, 30, 13, 14, 31, 32, 33, 34, 35, 36, 37, 38, 39, 40, 41, 9, 10, 11, 12, 42, 43, 44, 45, 46, 47, 48, 49, 50, 51, 52, 53, 54, 55, 56, 57, 58, 59, 60, 61, 62, 63, 64, 65, 66, 67, 68, 69, 70, 71, 72, 73, 74, 75, 76, 77, 78, 79, 80, 81, 82, 83, 84, 85, 86, 87, 88, 89, 90, 91, 92, 93, 94, 95, 96, 97, 98, 99, 100, 101] (by decide +kernel) (by decide +kernel)) (goodIn_sub (fun _ h => List.mem_cons_of_mem _ (List.mem_append_left _ (List.mem_append_left _ (List.mem_append_right _ h)))) (by decide +kernel))) (goodIn_sub (fun _ h => List.mem_cons_of_mem _ (List.mem_append_left _ (List.mem_append_right _ h))) (by decide +kernel))) (goodIn_sub (fun _ h => List.mem_cons_of_mem _ (List.mem_append_right _ h)) (by decide +kernel))
set_option maxRecDepth 20000 in
theorem gL_isReplacedSo_L_looks : GoodIn wsL_isReplacedSo (va_wsS RL 78 yL_looks wsL_looks) := goodIn_app (goodIn_of _ (by decide +kernel)) ggL_isReplacedSo_L_looks
set_option maxRecDepth 20000 in
theorem ggL_isReplacedSo_X1_use : GoodIn wsL_isReplacedSo wsX1_use := goodIn_ca (goodIn_ca (goodIn_r _ [56, 37, 39, 57, 58, 59, 7, 60, 10, 11, 12, 13, 14, 42, 43, 44, 45, 46, 47, 48, 49, 50, 51, 52, 81, 82, 83, 84, 85, 86, 87, 88, 89, 90, 91, 92, 93, 94, 95, 96, 97, 98, 99, 100, 101] (by decide +kernel) (by decide +kernel)) (goodIn_sub (fun _ h => List.mem_cons_of_mem _ (List.mem_append_left _ (List.mem_append_left _ (List.mem_append_right _ h)))) (by decide +kernel))) (goodIn_sub (fun _ h => List.mem_cons_of_mem _ (List.mem_append_right _ h)) (by decide +kernel))
set_option maxRecDepth 20000 in
theorem gL_isReplacedSo_X1_use : GoodIn wsL_isReplacedSo (wsV RL 43 RX1 yX1_use wsX1_use) := goodIn_app (goodIn_of _ (by decide +kernel)) ggL_isReplacedSo_X1_use
theorem dL_isReplacedSo_0 : decode cL_isReplacedSo 0 = .ok (.aload_n 0, 1) := by decide +kernel
theorem dL_isReplacedSo_1 : decode cL_isReplacedSo 1 = .ok (.iload_n 2, 1) := by decide +kernel
theorem dL_isReplacedSo_2 : decode cL_isReplacedSo 2 = .ok (.invokevirtual 89, 3) := by decide +kernel
theorem dL_isReplacedSo_5 : decode cL_isReplacedSo 5 = .ok (.dstore 5, 2) := by decide +kernel
theorem dL_isReplacedSo_7 : decode cL_isReplacedSo 7 = .ok (.aload_n 0, 1) := by decide +kernel
theorem dL_isReplacedSo_8 : decode cL_isReplacedSo 8 = .ok (.iconst 2, 1) := by decide +kernel
theorem dL_isReplacedSo_9 : decode cL_isReplacedSo 9 = .ok (.iload_n 2, 1) := by decide +kernel
theorem dL_isReplacedSo_10 : decode cL_isReplacedSo 10 = .ok (.iload_n 3, 1) := by decide +kernel
theorem dL_isReplacedSo_11 : decode cL_isReplacedSo 11 = .ok (.iconst 0, 1) := by decide +kernel
theorem dL_isReplacedSo_12 : decode cL_isReplacedSo 12 = .ok (.invokestatic 78, 3) := by decide +kernel
theorem dL_isReplacedSo_15 : decode cL_isReplacedSo 15 = .ok (.dstore 7, 2) := by decide +kernel
theorem dL_isReplacedSo_17 : decode cL_isReplacedSo 17 = .ok (.aload_n 0, 1) := by decide +kernel
theorem dL_isReplacedSo_18 : decode cL_isReplacedSo 18 = .ok (.iconst 5, 1) := by decide +kernel
theorem dL_isReplacedSo_19 : decode cL_isReplacedSo 19 = .ok (.iload_n 2, 1) := by decide +kernel
theorem dL_isReplacedSo_20 : decode cL_isReplacedSo 20 = .ok (.iload_n 3, 1) := by decide +kernel
theorem dL_isReplacedSo_21 : decode cL_isReplacedSo 21 = .ok (.iconst 0, 1) := by decide +kernel
theorem dL_isReplacedSo_22 : decode cL_isReplacedSo 22 = .ok (.invokestatic 78, 3) := by decide +kernel
theorem dL_isReplacedSo_25 : decode cL_isReplacedSo 25 = .ok (.dstore 9, 2) := by decide +kernel
theorem dL_isReplacedSo_27 : decode cL_isReplacedSo 27 = .ok (.aload_n 0, 1) := by decide +kernel
theorem dL_isReplacedSo_28 : decode cL_isReplacedSo 28 = .ok (.iconst 1, 1) := by decide +kernel
theorem dL_isReplacedSo_29 : decode cL_isReplacedSo 29 = .ok (.iload_n 2, 1) := by decide +kernel
theorem dL_isReplacedSo_30 : decode cL_isReplacedSo 30 = .ok (.iload_n 3, 1) := by decide +kernel
theorem dL_isReplacedSo_31 : decode cL_isReplacedSo 31 = .ok (.iload 4, 2) := by decide +kernel
theorem dL_isReplacedSo_33 : decode cL_isReplacedSo 33 = .ok (.invokestatic 78, 3) := by decide +kernel
theorem dL_isReplacedSo_36 : decode cL_isReplacedSo 36 = .ok (.dstore 11, 2) := by decide +kernel
theorem dL_isReplacedSo_38 : decode cL_isReplacedSo 38 = .ok (.aload_n 1, 1) := by decide +kernel
theorem dL_isReplacedSo_39 : decode cL_isReplacedSo 39 = .ok (.iconst 1, 1) := by decide +kernel
theorem dL_isReplacedSo_40 : decode cL_isReplacedSo 40 = .ok (.iload_n 2, 1) := by decide +kernel
theorem dL_isReplacedSo_41 : decode cL_isReplacedSo 41 = .ok (.iload_n 3, 1) := by decide +kernel
theorem dL_isReplacedSo_42 : decode cL_isReplacedSo 42 = .ok (.iload 4, 2) := by decide +kernel
theorem dL_isReplacedSo_44 : decode cL_isReplacedSo 44 = .ok (.invokestatic 78, 3) := by decide +kernel
theorem dL_isReplacedSo_47 : decode cL_isReplacedSo 47 = .ok (.dload 11, 2) := by decide +kernel
theorem dL_isReplacedSo_49 : decode cL_isReplacedSo 49 = .ok (.dcmp .l, 1) := by decide +kernel
theorem dL_isReplacedSo_50 : decode cL_isReplacedSo 50 = .ok (.ifCond .ne 7, 3) := by decide +kernel
theorem dL_isReplacedSo_53 : decode cL_isReplacedSo 53 = .ok (.iconst 1, 1) := by decide +kernel
theorem dL_isReplacedSo_54 : decode cL_isReplacedSo 54 = .ok (.goto 4, 3) := by decide +kernel
theorem dL_isReplacedSo_57 : decode cL_isReplacedSo 57 = .ok (.iconst 0, 1) := by decide +kernel
theorem dL_isReplacedSo_58 : decode cL_isReplacedSo 58 = .ok (.istore 13, 2) := by decide +kernel
theorem dL_isReplacedSo_60 : decode cL_isReplacedSo 60 = .ok (.dload 11, 2) := by decide +kernel
theorem dL_isReplacedSo_62 : decode cL_isReplacedSo 62 = .ok (.ldc2_w 61, 3) := by decide +kernel
theorem dL_isReplacedSo_65 : decode cL_isReplacedSo 65 = .ok (.dcmp .l, 1) := by decide +kernel
theorem dL_isReplacedSo_66 : decode cL_isReplacedSo 66 = .ok (.ifCond .ne 39, 3) := by decide +kernel
theorem dL_isReplacedSo_69 : decode cL_isReplacedSo 69 = .ok (.iload 13, 2) := by decide +kernel
theorem dL_isReplacedSo_71 : decode cL_isReplacedSo 71 = .ok (.ifCond .eq 32, 3) := by decide +kernel
theorem dL_isReplacedSo_74 : decode cL_isReplacedSo 74 = .ok (.aload_n 0, 1) := by decide +kernel
theorem dL_isReplacedSo_75 : decode cL_isReplacedSo 75 = .ok (.iload_n 2, 1) := by decide +kernel
theorem dL_isReplacedSo_76 : decode cL_isReplacedSo 76 = .ok (.invokevirtual 89, 3) := by decide +kernel
theorem dL_isReplacedSo_79 : decode cL_isReplacedSo 79 = .ok (.dload 5, 2) := by decide +kernel
theorem dL_isReplacedSo_81 : decode cL_isReplacedSo 81 = .ok (.dcmp .l, 1) := by decide +kernel
theorem dL_isReplacedSo_82 : decode cL_isReplacedSo 82 = .ok (.ifCond .ne 21, 3) := by decide +kernel
theorem dL_isReplacedSo_85 : decode cL_isReplacedSo 85 = .ok (.aload_n 0, 1) := by decide +kernel
theorem dL_isReplacedSo_86 : decode cL_isReplacedSo 86 = .ok (.iconst 2, 1) := by decide +kernel
theorem dL_isReplacedSo_87 : decode cL_isReplacedSo 87 = .ok (.iload_n 2, 1) := by decide +kernel
theorem dL_isReplacedSo_88 : decode cL_isReplacedSo 88 = .ok (.iload_n 3, 1) := by decide +kernel
theorem dL_isReplacedSo_89 : decode cL_isReplacedSo 89 = .ok (.iconst 0, 1) := by decide +kernel
theorem dL_isReplacedSo_90 : decode cL_isReplacedSo 90 = .ok (.invokestatic 78, 3) := by decide +kernel
theorem dL_isReplacedSo_93 : decode cL_isReplacedSo 93 = .ok (.dload 7, 2) := by decide +kernel
theorem dL_isReplacedSo_95 : decode cL_isReplacedSo 95 = .ok (.dcmp .l, 1) := by decide +kernel
theorem dL_isReplacedSo_96 : decode cL_isReplacedSo 96 = .ok (.ifCond .ne 7, 3) := by decide +kernel
theorem dL_isReplacedSo_99 : decode cL_isReplacedSo 99 = .ok (.iconst 1, 1) := by decide +kernel
theorem dL_isReplacedSo_100 : decode cL_isReplacedSo 100 = .ok (.goto 4, 3) := by decide +kernel
theorem dL_isReplacedSo_103 : decode cL_isReplacedSo 103 = .ok (.iconst 0, 1) := by decide +kernel
theorem dL_isReplacedSo_104 : decode cL_isReplacedSo 104 = .ok (.ireturn, 1) := by decide +kernel
theorem dL_isReplacedSo_105 : decode cL_isReplacedSo 105 = .ok (.iload 13, 2) := by decide +kernel
theorem dL_isReplacedSo_107 : decode cL_isReplacedSo 107 = .ok (.ifCond .eq 82, 3) := by decide +kernel
theorem dL_isReplacedSo_110 : decode cL_isReplacedSo 110 = .ok (.aload_n 0, 1) := by decide +kernel
theorem dL_isReplacedSo_111 : decode cL_isReplacedSo 111 = .ok (.iload_n 2, 1) := by decide +kernel
theorem dL_isReplacedSo_112 : decode cL_isReplacedSo 112 = .ok (.invokevirtual 89, 3) := by decide +kernel
theorem dL_isReplacedSo_115 : decode cL_isReplacedSo 115 = .ok (.dload 5, 2) := by decide +kernel
theorem dL_isReplacedSo_117 : decode cL_isReplacedSo 117 = .ok (.dload 11, 2) := by decide +kernel
theorem dL_isReplacedSo_119 : decode cL_isReplacedSo 119 = .ok (.dadd, 1) := by decide +kernel
theorem dL_isReplacedSo_120 : decode cL_isReplacedSo 120 = .ok (.dcmp .l, 1) := by decide +kernel
theorem dL_isReplacedSo_121 : decode cL_isReplacedSo 121 = .ok (.ifCond .ne 68, 3) := by decide +kernel
theorem dL_isReplacedSo_124 : decode cL_isReplacedSo 124 = .ok (.aload_n 0, 1) := by decide +kernel
theorem dL_isReplacedSo_125 : decode cL_isReplacedSo 125 = .ok (.iload_n 2, 1) := by decide +kernel
theorem dL_isReplacedSo_126 : decode cL_isReplacedSo 126 = .ok (.iload_n 3, 1) := by decide +kernel
theorem dL_isReplacedSo_127 : decode cL_isReplacedSo 127 = .ok (.invokevirtual 43, 3) := by decide +kernel
theorem dL_isReplacedSo_130 : decode cL_isReplacedSo 130 = .ok (.iload 4, 2) := by decide +kernel
theorem dL_isReplacedSo_132 : decode cL_isReplacedSo 132 = .ok (.i2d, 1) := by decide +kernel
theorem dL_isReplacedSo_133 : decode cL_isReplacedSo 133 = .ok (.dcmp .l, 1) := by decide +kernel
theorem dL_isReplacedSo_134 : decode cL_isReplacedSo 134 = .ok (.ifCond .ne 55, 3) := by decide +kernel
theorem dL_isReplacedSo_137 : decode cL_isReplacedSo 137 = .ok (.aload_n 0, 1) := by decide +kernel
theorem dL_isReplacedSo_138 : decode cL_isReplacedSo 138 = .ok (.iconst 5, 1) := by decide +kernel
theorem dL_isReplacedSo_139 : decode cL_isReplacedSo 139 = .ok (.iload_n 2, 1) := by decide +kernel
theorem dL_isReplacedSo_140 : decode cL_isReplacedSo 140 = .ok (.iload_n 3, 1) := by decide +kernel
theorem dL_isReplacedSo_141 : decode cL_isReplacedSo 141 = .ok (.iconst 0, 1) := by decide +kernel
theorem dL_isReplacedSo_142 : decode cL_isReplacedSo 142 = .ok (.invokestatic 78, 3) := by decide +kernel
theorem dL_isReplacedSo_145 : decode cL_isReplacedSo 145 = .ok (.dload 9, 2) := by decide +kernel
theorem dL_isReplacedSo_147 : decode cL_isReplacedSo 147 = .ok (.dcmp .l, 1) := by decide +kernel
theorem dL_isReplacedSo_148 : decode cL_isReplacedSo 148 = .ok (.ifCond .ne 41, 3) := by decide +kernel
theorem dL_isReplacedSo_151 : decode cL_isReplacedSo 151 = .ok (.dload 11, 2) := by decide +kernel
theorem dL_isReplacedSo_153 : decode cL_isReplacedSo 153 = .ok (.ldc2_w 102, 3) := by decide +kernel
theorem dL_isReplacedSo_156 : decode cL_isReplacedSo 156 = .ok (.dcmp .g, 1) := by decide +kernel
theorem dL_isReplacedSo_157 : decode cL_isReplacedSo 157 = .ok (.ifCond .gt 32, 3) := by decide +kernel
theorem dL_isReplacedSo_160 : decode cL_isReplacedSo 160 = .ok (.dload 11, 2) := by decide +kernel
theorem dL_isReplacedSo_162 : decode cL_isReplacedSo 162 = .ok (.ldc2_w 104, 3) := by decide +kernel
theorem dL_isReplacedSo_165 : decode cL_isReplacedSo 165 = .ok (.dcmp .l, 1) := by decide +kernel
theorem dL_isReplacedSo_166 : decode cL_isReplacedSo 166 = .ok (.ifCond .lt 23, 3) := by decide +kernel
theorem dL_isReplacedSo_169 : decode cL_isReplacedSo 169 = .ok (.aload_n 0, 1) := by decide +kernel
theorem dL_isReplacedSo_170 : decode cL_isReplacedSo 170 = .ok (.iconst 1, 1) := by decide +kernel
theorem dL_isReplacedSo_171 : decode cL_isReplacedSo 171 = .ok (.iload_n 2, 1) := by decide +kernel
theorem dL_isReplacedSo_172 : decode cL_isReplacedSo 172 = .ok (.iload_n 3, 1) := by decide +kernel
theorem dL_isReplacedSo_173 : decode cL_isReplacedSo 173 = .ok (.iload 4, 2) := by decide +kernel
theorem dL_isReplacedSo_175 : decode cL_isReplacedSo 175 = .ok (.invokestatic 78, 3) := by decide +kernel
theorem dL_isReplacedSo_178 : decode cL_isReplacedSo 178 = .ok (.ldc2_w 61, 3) := by decide +kernel
theorem dL_isReplacedSo_181 : decode cL_isReplacedSo 181 = .ok (.dcmp .l, 1) := by decide +kernel
theorem dL_isReplacedSo_182 : decode cL_isReplacedSo 182 = .ok (.ifCond .ne 7, 3) := by decide +kernel
theorem dL_isReplacedSo_185 : decode cL_isReplacedSo 185 = .ok (.iconst 1, 1) := by decide +kernel
theorem dL_isReplacedSo_186 : decode cL_isReplacedSo 186 = .ok (.goto 4, 3) := by decide +kernel
theorem dL_isReplacedSo_189 : decode cL_isReplacedSo 189 = .ok (.iconst 0, 1) := by decide +kernel
theorem dL_isReplacedSo_190 : decode cL_isReplacedSo 190 = .ok (.ireturn, 1) := by decide +kernel
set_option maxRecDepth 20000 in
theorem ggL_law_X1_init : GoodIn wsL_law wsX1_init := goodIn_r _ [6, 7, 8, 9, 10, 11, 12, 13, 14, 15, 16, 17, 18, 19, 20, 21, 22, 23, 24, 25, 26, 27, 28, 29, 30, 31, 32, 33, 34, 35, 36, 37, 38, 39, 40, 248, 249, 250, 251, 252, 253, 254, 255, 256, 257, 258, 259, 260, 261, 262, 263, 264, 265, 266, 267, 268] (by decide +kernel) (by decide +kernel)
set_option maxRecDepth 20000 in
theorem gL_law_X1_init : GoodIn wsL_law (wsX1_init) := ggL_law_X1_init
set_option maxRecDepth 20000 in
theorem ggL_law_L_cell : GoodIn wsL_law wsL_cell := goodIn_r _ [44] (by decide +kernel) (by decide +kernel)
set_option maxRecDepth 20000 in
theorem gL_law_L_cell : GoodIn wsL_law (va_wsS RL 107 yL_cell wsL_cell) := goodIn_app (goodIn_of _ (by decide +kernel)) ggL_law_L_cell
set_option maxRecDepth 20000 in
theorem ggL_law_L_act : GoodIn wsL_law wsL_act := goodIn_ca (goodIn_ca (goodIn_ca (goodIn_r _ [47, 48, 49, 43, 50, 51, 52, 53, 54, 55, 56, 57, 58, 59, 60, 2, 61, 62, 63, 11, 64, 65, 66, 67, 68, 69, 70, 71, 72, 73, 74, 75, 76, 77, 78, 79, 13, 80, 81, 82, 83, 17, 18, 84, 85, 86, 87, 22, 88, 89, 24, 28, 90, 91, 92, 93, 94, 95, 27, 96, 97, 21, 98, 99, 100, 101, 102, 32, 36, 35, 103, 104, 105, 106, 107, 108, 14, 109, 110, 111, 112, 113, 114, 115, 116, 117, 118, 119, 120, 121, 122, 123, 124, 125, 126, 127, 128, 129, 130, 131, 132, 133, 134, 135, 136, 137, 138, 139, 140, 141, 142, 143, 144, 145, 146, 147, 148, 25, 149, 150, 151, 152, 153, 26, 154, 155, 156, 157, 158, 159, 160, 161, 162, 163, 164, 165, 166, 167, 16, 168, 169, 170, 171, 172, 173, 174, 175, 176, 177, 178, 179, 3, 180, 181, 182, 183, 184, 185, 186, 187, 188, 189, 190, 191, 192, 193, 194, 195, 196, 197, 198, 199, 200, 201, 202, 203, 204, 205, 206, 207, 208, 209, 210, 211, 212, 213, 214, 215, 216, 217, 248, 249, 250, 251, 252, 253, 254, 255, 256, 257, 258, 259, 260, 261, 262, 263, 264, 265, 266, 267, 268] (by decide +kernel) (by decide +kernel)) (goodIn_sub (fun _ h => List.mem_append_left _ (List.mem_append_left _ (List.mem_append_right _ h))) (by decide +kernel))) (goodIn_sub (fun _ h => List.mem_append_left _ (List.mem_append_right _ h)) (by decide +kernel))) (goodIn_sub (fun _ h => List.mem_append_right _ h) (by decide +kernel))
set_option maxRecDepth 20000 in
theorem gL_law_L_act : GoodIn wsL_law (va_wsS RL 111 yL_act wsL_act) := goodIn_app (goodIn_of _ (by decide +kernel)) ggL_law_L_act
set_option maxRecDepth 20000 in
theorem ggL_law_X1_closed : GoodIn wsL_law wsX1_closed := goodIn_r _ [175, 22, 88, 248, 249, 250, 251, 252, 253, 254, 255, 256, 257, 258, 259, 260, 261, 262, 263, 264, 265, 266, 267, 268] (by decide +kernel) (by decide +kernel)
set_option maxRecDepth 20000 in
theorem gL_law_X1_closed : GoodIn wsL_law (wsV RL 74 RX1 yX1_closed wsX1_closed) := goodIn_app (goodIn_of _ (by decide +kernel)) ggL_law_X1_closed
set_option maxRecDepth 20000 in
theorem ggL_law_L_low : GoodIn wsL_law wsL_low := goodIn_r _ [50, 51] (by decide +kernel) (by decide +kernel)
set_option maxRecDepth 20000 in
theorem gL_law_L_low : GoodIn wsL_law (va_wsS RL 65 yL_low wsL_low) := goodIn_app (goodIn_of _ (by decide +kernel)) ggL_law_L_low
set_option maxRecDepth 20000 in
theorem ggL_law_L_areAlike : GoodIn wsL_law wsL_areAlike := goodIn_ca (goodIn_ca (goodIn_ca (goodIn_r _ [220, 172, 173, 174, 2, 175, 22, 88, 221, 222, 223, 224, 25, 225, 226, 227, 228, 26, 176, 177, 43, 178, 179, 55, 56, 3, 180, 181, 182, 183, 131, 24, 69, 70, 71, 67, 68, 184, 185, 186, 187, 62, 63, 94, 95, 126, 89, 16, 64, 65, 66, 188, 189, 190, 191, 192, 193, 96, 97, 21, 98, 194, 195, 196, 197, 198, 199, 200, 201, 202, 203, 204, 205, 139, 206, 207, 208, 209, 154, 210, 211, 212, 213, 167, 214, 215, 216, 217, 149, 229, 230, 231, 232, 168, 169, 170, 171, 14, 248, 249, 250, 251, 252, 253, 254, 255, 256, 257, 258, 259, 260, 261, 262, 263, 264, 265, 266, 267, 268] (by decide +kernel) (by decide +kernel)) (goodIn_sub (fun _ h => List.mem_append_left _ (List.mem_append_right _ h)) (by decide +kernel))) (goodIn_sub (fun _ h => List.mem_append_left _ (List.mem_append_left _ (List.mem_append_right _ h))) (by decide +kernel))) (goodIn_sub (fun _ h => List.mem_append_right _ h) (by decide +kernel))
set_option maxRecDepth 20000 in
theorem gL_law_L_areAlike : GoodIn wsL_law (va_wsS RL 115 yL_areAlike wsL_areAlike) := goodIn_app (goodIn_of _ (by decide +kernel)) ggL_law_L_areAlike
set_option maxRecDepth 20000 in
theorem ggL_law_L_isClosedSo : GoodIn wsL_law wsL_isClosedSo := goodIn_ca (goodIn_ca (goodIn_ca (goodIn_r _ [235, 10, 15, 236, 57, 237, 238, 180, 181, 182, 2, 183, 131, 24, 69, 70, 71, 67, 68, 221, 222, 223, 224, 25, 172, 173, 174, 175, 22, 88, 168, 169, 170, 171, 14, 64, 65, 66, 229, 230, 231, 232, 16, 52, 53, 43, 54, 55, 56, 58, 59, 60, 61, 62, 63, 11, 72, 73, 74, 75, 76, 77, 78, 79, 13, 80, 81, 82, 83, 17, 18, 84, 85, 86, 87, 89, 28, 90, 91, 92, 93, 94, 95, 27, 96, 97, 21, 98, 99, 100, 101, 102, 32, 36, 35, 103, 104, 105, 106, 107, 108, 109, 110, 111, 112, 113, 114, 115, 116, 117, 118, 119, 120, 121, 122, 123, 124, 125, 126, 127, 128, 129, 130, 132, 133, 134, 135, 136, 137, 138, 139, 140, 141, 142, 143, 144, 145, 146, 147, 148, 149, 150, 151, 152, 153, 26, 154, 155, 156, 157, 158, 159, 160, 161, 162, 163, 164, 165, 166, 167, 214, 215, 216, 217, 188, 189, 190, 191, 192, 193, 194, 195, 196, 197, 198, 199, 200, 201, 202, 203, 204, 205, 206, 207, 208, 209, 210, 211, 212, 213, 239, 240, 241, 242, 248, 249, 250, 251, 252, 253, 254, 255, 256, 257, 258, 259, 260, 261, 262, 263, 264, 265, 266, 267, 268] (by decide +kernel) (by decide +kernel)) (goodIn_sub (fun _ h => List.mem_append_left _ (List.mem_append_right _ h)) (by decide +kernel))) (goodIn_sub (fun _ h => List.mem_append_left _ (List.mem_append_left _ (List.mem_append_right _ h))) (by decide +kernel))) (goodIn_sub (fun _ h => List.mem_append_right _ h) (by decide +kernel))
set_option maxRecDepth 20000 in
theorem gL_law_L_isClosedSo : GoodIn wsL_law (va_wsS RL 119 yL_isClosedSo wsL_isClosedSo) := goodIn_app (goodIn_of _ (by decide +kernel)) ggL_law_L_isClosedSo
set_option maxRecDepth 20000 in
theorem ggL_law_L_isReplacedSo : GoodIn wsL_law wsL_isReplacedSo := goodIn_ca (goodIn_ca (goodIn_ca (goodIn_r _ [245, 3, 246, 247, 229, 230, 231, 2, 232, 16, 64, 65, 66, 67, 68, 176, 177, 43, 178, 179, 55, 56, 180, 181, 182, 183, 131, 24, 69, 70, 71, 184, 185, 186, 187, 62, 63, 22, 94, 95, 126, 89, 188, 189, 190, 191, 192, 193, 88, 96, 97, 21, 98, 194, 195, 196, 197, 198, 199, 200, 201, 202, 203, 204, 205, 139, 206, 207, 208, 209, 154, 210, 211, 212, 213, 167, 214, 215, 216, 217, 149, 248, 249, 250, 251, 252, 253, 254, 255, 256, 257, 258, 259, 260, 261, 262, 263, 264, 265, 266, 267, 268] (by decide +kernel) (by decide +kernel)) (goodIn_sub (fun _ h => List.mem_append_left _ (List.mem_append_right _ h)) (by decide +kernel))) (goodIn_sub (fun _ h => List.mem_append_left _ (List.mem_append_left _ (List.mem_append_right _ h))) (by decide +kernel))) (goodIn_sub (fun _ h => List.mem_append_right _ h) (by decide +kernel))
set_option maxRecDepth 20000 in
theorem gL_law_L_isReplacedSo : GoodIn wsL_law (va_wsS RL 123 yL_isReplacedSo wsL_isReplacedSo) := goodIn_app (goodIn_of _ (by decide +kernel)) ggL_law_L_isReplacedSo
theorem dL_law_0 : decode cL_law 0 = .ok (.new 9, 3) := by decide +kernel
theorem dL_law_3 : decode cL_law 3 = .ok (.dup, 1) := by decide +kernel
theorem dL_law_4 : decode cL_law 4 = .ok (.invokespecial 106, 3) := by decide +kernel
theorem dL_law_7 : decode cL_law 7 = .ok (.astore_n 1, 1) := by decide +kernel
theorem dL_law_8 : decode cL_law 8 = .ok (.new 9, 3) := by decide +kernel
theorem dL_law_11 : decode cL_law 11 = .ok (.dup, 1) := by decide +kernel
theorem dL_law_12 : decode cL_law 12 = .ok (.invokespecial 106, 3) := by decide +kernel
theorem dL_law_15 : decode cL_law 15 = .ok (.astore_n 2, 1) := by decide +kernel
theorem dL_law_16 : decode cL_law 16 = .ok (.iconst 1, 1) := by decide +kernel
theorem dL_law_17 : decode cL_law 17 = .ok (.istore_n 3, 1) := by decide +kernel
theorem dL_law_18 : decode cL_law 18 = .ok (.iconst 0, 1) := by decide +kernel
theorem dL_law_19 : decode cL_law 19 = .ok (.istore 4, 2) := by decide +kernel
theorem dL_law_21 : decode cL_law 21 = .ok (.iload 4, 2) := by decide +kernel
theorem dL_law_23 : decode cL_law 23 = .ok (.bipush 110, 2) := by decide +kernel
theorem dL_law_25 : decode cL_law 25 = .ok (.if_icmp .ge 219, 3) := by decide +kernel
theorem dL_law_28 : decode cL_law 28 = .ok (.iload_n 3, 1) := by decide +kernel
theorem dL_law_29 : decode cL_law 29 = .ok (.ifCond .eq 215, 3) := by decide +kernel
theorem dL_law_32 : decode cL_law 32 = .ok (.aload_n 0, 1) := by decide +kernel
theorem dL_law_33 : decode cL_law 33 = .ok (.iload 4, 2) := by decide +kernel
theorem dL_law_35 : decode cL_law 35 = .ok (.bipush 61, 2) := by decide +kernel
theorem dL_law_37 : decode cL_law 37 = .ok (.irem, 1) := by decide +kernel
theorem dL_law_38 : decode cL_law 38 = .ok (.invokestatic 107, 3) := by decide +kernel
theorem dL_law_41 : decode cL_law 41 = .ok (.sipush 1307, 3) := by decide +kernel
theorem dL_law_44 : decode cL_law 44 = .ok (.iload 4, 2) := by decide +kernel
theorem dL_law_46 : decode cL_law 46 = .ok (.bipush 61, 2) := by decide +kernel
theorem dL_law_48 : decode cL_law 48 = .ok (.idiv, 1) := by decide +kernel
theorem dL_law_49 : decode cL_law 49 = .ok (.imul, 1) := by decide +kernel
theorem dL_law_50 : decode cL_law 50 = .ok (.iadd, 1) := by decide +kernel
theorem dL_law_51 : decode cL_law 51 = .ok (.istore 5, 2) := by decide +kernel
theorem dL_law_53 : decode cL_law 53 = .ok (.aload_n 1, 1) := by decide +kernel
theorem dL_law_54 : decode cL_law 54 = .ok (.iload 5, 2) := by decide +kernel
theorem dL_law_56 : decode cL_law 56 = .ok (.invokestatic 111, 3) := by decide +kernel
theorem dL_law_59 : decode cL_law 59 = .ok (.dstore 6, 2) := by decide +kernel
theorem dL_law_61 : decode cL_law 61 = .ok (.dload 6, 2) := by decide +kernel
theorem dL_law_63 : decode cL_law 63 = .ok (.ldc2_w 61, 3) := by decide +kernel
theorem dL_law_66 : decode cL_law 66 = .ok (.dcmp .l, 1) := by decide +kernel
theorem dL_law_67 : decode cL_law 67 = .ok (.ifCond .eq 15, 3) := by decide +kernel
theorem dL_law_70 : decode cL_law 70 = .ok (.aload_n 2, 1) := by decide +kernel
theorem dL_law_71 : decode cL_law 71 = .ok (.iload 5, 2) := by decide +kernel
theorem dL_law_73 : decode cL_law 73 = .ok (.invokestatic 111, 3) := by decide +kernel
theorem dL_law_76 : decode cL_law 76 = .ok (.dload 6, 2) := by decide +kernel
theorem dL_law_78 : decode cL_law 78 = .ok (.dcmp .l, 1) := by decide +kernel
theorem dL_law_79 : decode cL_law 79 = .ok (.ifCond .ne 37, 3) := by decide +kernel
theorem dL_law_82 : decode cL_law 82 = .ok (.iload 4, 2) := by decide +kernel
theorem dL_law_84 : decode cL_law 84 = .ok (.iconst 5, 1) := by decide +kernel
theorem dL_law_85 : decode cL_law 85 = .ok (.irem, 1) := by decide +kernel
theorem dL_law_86 : decode cL_law 86 = .ok (.iconst 3, 1) := by decide +kernel
theorem dL_law_87 : decode cL_law 87 = .ok (.if_icmp .ne 25, 3) := by decide +kernel
theorem dL_law_90 : decode cL_law 90 = .ok (.aload_n 1, 1) := by decide +kernel
theorem dL_law_91 : decode cL_law 91 = .ok (.aload_n 2, 1) := by decide +kernel
theorem dL_law_92 : decode cL_law 92 = .ok (.iload 5, 2) := by decide +kernel
theorem dL_law_94 : decode cL_law 94 = .ok (.bipush 6, 2) := by decide +kernel
theorem dL_law_96 : decode cL_law 96 = .ok (.ishr, 1) := by decide +kernel
theorem dL_law_97 : decode cL_law 97 = .ok (.aload_n 1, 1) := by decide +kernel
theorem dL_law_98 : decode cL_law 98 = .ok (.invokevirtual 74, 3) := by decide +kernel
theorem dL_law_101 : decode cL_law 101 = .ok (.iconst 1, 1) := by decide +kernel
theorem dL_law_102 : decode cL_law 102 = .ok (.iadd, 1) := by decide +kernel
theorem dL_law_103 : decode cL_law 103 = .ok (.invokestatic 65, 3) := by decide +kernel
theorem dL_law_106 : decode cL_law 106 = .ok (.invokestatic 115, 3) := by decide +kernel
theorem dL_law_109 : decode cL_law 109 = .ok (.ifCond .eq 7, 3) := by decide +kernel
theorem dL_law_112 : decode cL_law 112 = .ok (.iconst 1, 1) := by decide +kernel
theorem dL_law_113 : decode cL_law 113 = .ok (.goto 4, 3) := by decide +kernel
theorem dL_law_116 : decode cL_law 116 = .ok (.iconst 0, 1) := by decide +kernel
theorem dL_law_117 : decode cL_law 117 = .ok (.istore_n 3, 1) := by decide +kernel
theorem dL_law_118 : decode cL_law 118 = .ok (.iload 4, 2) := by decide +kernel
theorem dL_law_120 : decode cL_law 120 = .ok (.bipush 6, 2) := by decide +kernel
theorem dL_law_122 : decode cL_law 122 = .ok (.irem, 1) := by decide +kernel
theorem dL_law_123 : decode cL_law 123 = .ok (.iconst 5, 1) := by decide +kernel
theorem dL_law_124 : decode cL_law 124 = .ok (.if_icmp .ne 54, 3) := by decide +kernel
theorem dL_law_127 : decode cL_law 127 = .ok (.iload_n 3, 1) := by decide +kernel
theorem dL_law_128 : decode cL_law 128 = .ok (.ifCond .eq 48, 3) := by decide +kernel
theorem dL_law_131 : decode cL_law 131 = .ok (.aload_n 1, 1) := by decide +kernel
theorem dL_law_132 : decode cL_law 132 = .ok (.aload_n 2, 1) := by decide +kernel
theorem dL_law_133 : decode cL_law 133 = .ok (.iconst 1, 1) := by decide +kernel
theorem dL_law_134 : decode cL_law 134 = .ok (.iload 5, 2) := by decide +kernel
theorem dL_law_136 : decode cL_law 136 = .ok (.iconst 5, 1) := by decide +kernel
theorem dL_law_137 : decode cL_law 137 = .ok (.ishr, 1) := by decide +kernel
theorem dL_law_138 : decode cL_law 138 = .ok (.iconst 3, 1) := by decide +kernel
theorem dL_law_139 : decode cL_law 139 = .ok (.iand, 1) := by decide +kernel
theorem dL_law_140 : decode cL_law 140 = .ok (.iadd, 1) := by decide +kernel
theorem dL_law_141 : decode cL_law 141 = .ok (.iload 5, 2) := by decide +kernel
theorem dL_law_143 : decode cL_law 143 = .ok (.bipush 8, 2) := by decide +kernel
theorem dL_law_145 : decode cL_law 145 = .ok (.ishr, 1) := by decide +kernel
theorem dL_law_146 : decode cL_law 146 = .ok (.iload 5, 2) := by decide +kernel
theorem dL_law_148 : decode cL_law 148 = .ok (.bipush 17, 2) := by decide +kernel
theorem dL_law_150 : decode cL_law 150 = .ok (.ishr, 1) := by decide +kernel
theorem dL_law_151 : decode cL_law 151 = .ok (.iconst 1, 1) := by decide +kernel
theorem dL_law_152 : decode cL_law 152 = .ok (.iand, 1) := by decide +kernel
theorem dL_law_153 : decode cL_law 153 = .ok (.ifCond .ne 8, 3) := by decide +kernel
theorem dL_law_156 : decode cL_law 156 = .ok (.bipush 101, 2) := by decide +kernel
theorem dL_law_158 : decode cL_law 158 = .ok (.goto 5, 3) := by decide +kernel
theorem dL_law_161 : decode cL_law 161 = .ok (.bipush 30, 2) := by decide +kernel
theorem dL_law_163 : decode cL_law 163 = .ok (.invokestatic 65, 3) := by decide +kernel
theorem dL_law_166 : decode cL_law 166 = .ok (.invokestatic 119, 3) := by decide +kernel
theorem dL_law_169 : decode cL_law 169 = .ok (.ifCond .eq 7, 3) := by decide +kernel
theorem dL_law_172 : decode cL_law 172 = .ok (.iconst 1, 1) := by decide +kernel
theorem dL_law_173 : decode cL_law 173 = .ok (.goto 4, 3) := by decide +kernel
theorem dL_law_176 : decode cL_law 176 = .ok (.iconst 0, 1) := by decide +kernel
theorem dL_law_177 : decode cL_law 177 = .ok (.istore_n 3, 1) := by decide +kernel
theorem dL_law_178 : decode cL_law 178 = .ok (.iload 4, 2) := by decide +kernel
theorem dL_law_180 : decode cL_law 180 = .ok (.bipush 7, 2) := by decide +kernel
theorem dL_law_182 : decode cL_law 182 = .ok (.irem, 1) := by decide +kernel
theorem dL_law_183 : decode cL_law 183 = .ok (.iconst 4, 1) := by decide +kernel
theorem dL_law_184 : decode cL_law 184 = .ok (.if_icmp .ne 54, 3) := by decide +kernel
theorem dL_law_187 : decode cL_law 187 = .ok (.iload_n 3, 1) := by decide +kernel
theorem dL_law_188 : decode cL_law 188 = .ok (.ifCond .eq 48, 3) := by decide +kernel
theorem dL_law_191 : decode cL_law 191 = .ok (.aload_n 1, 1) := by decide +kernel
theorem dL_law_192 : decode cL_law 192 = .ok (.aload_n 2, 1) := by decide +kernel
theorem dL_law_193 : decode cL_law 193 = .ok (.iload 5, 2) := by decide +kernel
theorem dL_law_195 : decode cL_law 195 = .ok (.bipush 6, 2) := by decide +kernel
theorem dL_law_197 : decode cL_law 197 = .ok (.ishr, 1) := by decide +kernel
theorem dL_law_198 : decode cL_law 198 = .ok (.iconst 5, 1) := by decide +kernel
theorem dL_law_199 : decode cL_law 199 = .ok (.invokestatic 65, 3) := by decide +kernel
theorem dL_law_202 : decode cL_law 202 = .ok (.iload 5, 2) := by decide +kernel
theorem dL_law_204 : decode cL_law 204 = .ok (.bipush 9, 2) := by decide +kernel
theorem dL_law_206 : decode cL_law 206 = .ok (.ishr, 1) := by decide +kernel
theorem dL_law_207 : decode cL_law 207 = .ok (.aload_n 1, 1) := by decide +kernel
theorem dL_law_208 : decode cL_law 208 = .ok (.invokevirtual 74, 3) := by decide +kernel
theorem dL_law_211 : decode cL_law 211 = .ok (.iconst 1, 1) := by decide +kernel
theorem dL_law_212 : decode cL_law 212 = .ok (.iadd, 1) := by decide +kernel
theorem dL_law_213 : decode cL_law 213 = .ok (.invokestatic 65, 3) := by decide +kernel
theorem dL_law_216 : decode cL_law 216 = .ok (.iload 5, 2) := by decide +kernel
theorem dL_law_218 : decode cL_law 218 = .ok (.bipush 12, 2) := by decide +kernel
theorem dL_law_220 : decode cL_law 220 = .ok (.ishr, 1) := by decide +kernel
theorem dL_law_221 : decode cL_law 221 = .ok (.bipush 51, 2) := by decide +kernel
theorem dL_law_223 : decode cL_law 223 = .ok (.invokestatic 65, 3) := by decide +kernel
theorem dL_law_226 : decode cL_law 226 = .ok (.invokestatic 123, 3) := by decide +kernel
theorem dL_law_229 : decode cL_law 229 = .ok (.ifCond .eq 7, 3) := by decide +kernel
theorem dL_law_232 : decode cL_law 232 = .ok (.iconst 1, 1) := by decide +kernel
theorem dL_law_233 : decode cL_law 233 = .ok (.goto 4, 3) := by decide +kernel
theorem dL_law_236 : decode cL_law 236 = .ok (.iconst 0, 1) := by decide +kernel
theorem dL_law_237 : decode cL_law 237 = .ok (.istore_n 3, 1) := by decide +kernel
theorem dL_law_238 : decode cL_law 238 = .ok (.iinc 4 1, 3) := by decide +kernel
theorem dL_law_241 : decode cL_law 241 = .ok (.goto (-220), 3) := by decide +kernel
theorem dL_law_244 : decode cL_law 244 = .ok (.iload_n 3, 1) := by decide +kernel
theorem dL_law_245 : decode cL_law 245 = .ok (.ifCond .eq 16, 3) := by decide +kernel
theorem dL_law_248 : decode cL_law 248 = .ok (.aload_n 1, 1) := by decide +kernel
theorem dL_law_249 : decode cL_law 249 = .ok (.aload_n 2, 1) := by decide +kernel
theorem dL_law_250 : decode cL_law 250 = .ok (.iconst 0, 1) := by decide +kernel
theorem dL_law_251 : decode cL_law 251 = .ok (.invokestatic 115, 3) := by decide +kernel
theorem dL_law_254 : decode cL_law 254 = .ok (.ifCond .eq 7, 3) := by decide +kernel
theorem dL_law_257 : decode cL_law 257 = .ok (.iconst 1, 1) := by decide +kernel
theorem dL_law_258 : decode cL_law 258 = .ok (.goto 4, 3) := by decide +kernel
theorem dL_law_261 : decode cL_law 261 = .ok (.iconst 0, 1) := by decide +kernel
theorem dL_law_262 : decode cL_law 262 = .ok (.ireturn, 1) := by decide +kernel
abbrev vwCl : List vw_C := [(RX0, TX0, 9), (RX1, TX1, 12)]
end
section
/-! A method with a table of its own that may draw: its contract by a walk, its call. (The road of vx_backW, vx_callSX, vx_runSX of the exceptions' rows, over a start with another record of draws.) -/
section XDA
variable {cs : List Choice} {l : Launch} {R : Room} {p : Program} {e : Env} {below : List Frame} {s : State} {sargs : Array Value} {y : MethodName} {len W9 : Nat}
theorem xd_backW {ws : List Cond} {rm : Room} {Pc : Array Value → State → Prop} {Qc : Array Value → State → Outcome → State → Prop} {mc ms : Nat} {free : Addr → Prop} {bytes : ByteArray} {maxL : Nat} {ret : Option FieldType} {hh : List (Nat × Nat × Nat × Nat)}
    (hM : MetD cs l y ws rm Pc Qc mc ms free) (hblind : FrameBlind Pc) (hrc : rm.cells = mc) (hrs : rm.slots = ms)
    (hframes : rm.frames + 1 ≤ R.frames) (hlocals : W9 + (maxL + 11) + rm.locals ≤ R.locals)
    (hws : ∀ w ∈ ws, ∀ a' U, s.WarmedH U.vm → w.before a' U = true) (hcode : Cond.codeWith y bytes maxL ret hh ∈ ws) (hinit : ∀ a' U, s.WarmedH U.vm → (Cond.initialized y.cls).before a' U = true) :
    BackD cs l R p e below s sargs y len W9 (PreOf R mc ms Pc) (PostOf Qc mc ms free) := by
  intro m meth c A g ig mk a X hg hsize hdg hW hn hp
  have h1 : (headSpec ws rm).pre.before a A.U = true := atoms_intro fun w hw => hws w hw _ _ X.warmed
  have h2 : (Cond.codeWith y bytes maxL ret hh).before a A.U = true := hws _ hcode _ _ X.warmed
  have h3 : (Cond.initialized y.cls).before a A.U = true := hinit _ _ X.warmed
  have h4 : A.cells + (headSpec ws rm).room.cells ≤ R.cells := by rw [show (headSpec ws rm).room.cells = mc from hrc]; exact hp.1
  have h5 : A.slots + (headSpec ws rm).room.slots ≤ R.slots := by rw [show (headSpec ws rm).room.slots = ms from hrs]; exact hp.2.1
  have hPc : Pc a (A.U.calling g mk a) := hblind _ _ _ _ hp.2.2
  obtain ⟨U, Ls, c0, s0⟩ := A
  dsimp only [Pt.U, Pt.locs, Pt.cells, Pt.slots] at h1 h2 h3 h4 h5 X hn hPc ⊢
  obtain ⟨m9, methY, cY, hn9, hmY, hcY, -, hlY, -⟩ := Cond.codeWith_spec h2
  cases Option.some.inj (hn9.symm.trans hn)
  obtain ⟨kY, hkY, -⟩ := className_of_methodNamed hn
  have hinitY : kY.init = .initialized := Cond.initialized_spec (findClass_of_methodNamed hn) hkY h3
  have h : At U g.method c below := by rw [hg]; exact X.here
  have hlocals9 : W9 + (maxL + 11) + (headSpec ws rm).room.locals ≤ R.locals := hlocals
  have happ : (headSpec ws rm).appliesLoose y e.platform (U.calling g mk a) = true :=
    Spec.appliesLoose_calling (g := g) h hdg hn hkY hinitY
      (X.room_calling (g := g) (R' := (headSpec ws rm).room) hsize hmY hcY hframes (by rw [hlY]; omega) h4 h5) h1
  obtain ⟨mid, hmid⟩ := h.above
  have hfr : (U.setTop g).frames = (.java g :: mid) ++ below := by rw [State.frames_setTop' g h.top, hmid]; rfl
  obtain ⟨o, s₂, hsteps, -, hend, hq⟩ := Steps.callFree hM p X.admits X.cas X.clock (acts := []) hfr happ hPc trivial
  have hq' : ∃ d : Drawn, (U.calling g mk a).drawn.sameBut d cs ∧ (Qc a ((U.calling g mk a).setDrawn d) o s₂ ∧ ∃ L, FrameEnd ((U.calling g mk a).setDrawn d) o s₂ L mc ms ∧ ∀ q ∈ L, free q.base) := hq
  rw [State.frames_setTop' g h.top] at hend
  obtain ⟨d, hd, hqd⟩ := hq'
  have hcdr : (U.calling g mk a).drawn = s.drawn := by
    rw [State.calling_eq h.top]
    exact X.drawn_eq
  rw [hcdr] at hd
  have h' : At (U.setDrawn d) g.method c below := h.setDrawn d
  have X' : Stand p l e R (s.setDrawn d) m sargs below meth c (U.setDrawn d) Ls c0 s0 := X.drew d
  have hcd : (U.calling g mk a).setDrawn d = (U.setDrawn d).calling g mk a := by
    rw [State.calling_eq h.top, State.calling_eq h'.top]
    rfl
  rw [hcd] at hqd
  obtain ⟨hqc, L, hfe, hL⟩ := hqd
  obtain ⟨g₀, hg0⟩ := Option.isSome_iff_exists.mp h.top
  obtain ⟨r, hr⟩ := State.topJava?_eq_some.mp hg0
  have hrV : (U.setDrawn d).frames = .java g₀ :: r := hr
  have hr' : (({ U.setDrawn d with heap := s₂.heap, slotsUsed := s₂.slotsUsed } : State).setVm s₂.vm).frames = .java g₀ :: r := hr
  obtain ⟨⟨v, rfl⟩, hW₂, e2, q2, q3, q4, q5, q6⟩ := id hfe
  have e3 : s₂ = ({ ((U.setDrawn d).calling g mk a).setFrames s₂.frames with heap := s₂.heap, slotsUsed := s₂.slotsUsed } : State).setVm s₂.vm := by
    have : s₂ = ({ s₂ with vm := ((U.setDrawn d).calling g mk a).vm } : State).setVm s₂.vm := rfl
    rw [e2] at this
    exact this
  obtain ⟨c₂, i₂, len₂, hc₂, hd₂, hf₂⟩ := hend
  have hW' : (U.setDrawn d).WarmedH s₂.vm := hW₂
  have hcc : c₂ = c := by
    have h1 : s₂.code? g.method = (U.setDrawn d).code? g.method := by
      rw [State.code?_eq, State.code?_eq, hW'.alike.method?]
    exact Option.some.inj (hc₂.symm.trans (h1.trans h'.code))
  subst hcc
  have hlen : len₂ = len := by rw [hdg] at hd₂; cases hd₂; rfl
  subst hlen
  have hs₂ : s₂ = (({ U.setDrawn d with heap := s₂.heap, slotsUsed := s₂.slotsUsed } : State).setVm s₂.vm).setTop { g with pc := g.pc + len₂, stack := v.toList ++ g.stack } := by
    refine e3.trans ?_
    rw [hf₂, State.calling_eq h'.top, State.setFrames_setFrames, State.setTop_of_frames _ hr', hr]
    rfl
  have hsame : (U.setDrawn d).sameButNew ({ U.setDrawn d with heap := s₂.heap, slotsUsed := s₂.slotsUsed } : State) L mc ms := by
    refine ⟨?_, q2, q3, q4, q5, q6⟩
    obtain ⟨t, ht, -⟩ := State.frames_cons hrV
    show ({ U.setDrawn d with heap := s₂.heap, slotsUsed := s₂.slotsUsed } : State) = { (U.setDrawn d).setFrames (U.setDrawn d).frames with heap := s₂.heap, slotsUsed := s₂.slotsUsed }
    rw [State.setFrames_self ht]
  subst hg
  refine ⟨v, ⟨(({ U.setDrawn d with heap := s₂.heap, slotsUsed := s₂.slotsUsed } : State).setVm s₂.vm), Ls ++ L, c0 + mc, s0 + ms⟩, d, hd,
    ⟨X'.admits, X'.cas, X'.clock, X'.frames, X'.room, X'.hears, X'.method, X'.code, (X'.here.setHeapUsed s₂.heap s₂.slotsUsed).setVm hW'.alike, X'.tail, State.WarmedH.trans X'.warmed hW', X'.limits, X'.bytes, X'.same.trans (hsame.setVm (s.setDrawn d).vm)⟩,
    ⟨g, mk, s₂, L, rfl, rfl, hqc, rfl, hL, rfl, rfl⟩, ?_⟩
  show Steps p.tables e below _ ((({ U.setDrawn d with heap := s₂.heap, slotsUsed := s₂.slotsUsed } : State).setVm s₂.vm).setTop { g with pc := g.pc + len₂, stack := v.toList ++ g.stack })
  rw [← hs₂]
  exact hsteps
end XDA
section XDB
variable {cs : List Choice}
variable {p : Program} {l : Launch} {e : Env} {R : Room} {s : State} {m : MethodId} {args : Array Value} {below : List Frame} {meth : Method} {c : Code} {T : State} {H : Heap} {locs : List Loc} {cells slots : Nat}
theorem xd_callSX (X : Stand p l e R s m args below meth c T locs cells slots) (hexec : p.tables.exec = Jvm.exec) {own : String} {index : Nat} {y : MethodName} {bytes : ByteArray} {maxL : Nat} {ret : Option FieldType} {hh : List (Nat × Nat × Nat × Nat)}
    (hown : s.vm.findClass own = some m.cls) (hlink : (Cond.methodLink own index y).before args s = true) (hstat : (Cond.static y).before args s = true) (hinit : (Cond.initialized y.cls).before args s = true)
    (hcode : (Cond.codeWith y bytes maxL ret hh).before args s = true) (hy : y.cls ≠ "java/lang/invoke/MethodHandle" ∧ y.cls ≠ "java/lang/invoke/VarHandle")
    {W9 : Nat} {Pre : Pt → Array Value → Prop} {Post : Pt → Array Value → Option Value → Pt → Prop} (hK : BackD cs l R p e below s args y 3 W9 Pre Post)
    {g : JFrame} (hg : g.method = m) (hsize : g.locals.size = c.maxLocals) {argsL rest : List Value} (hlen : ∀ sig, parseMethodDescriptor y.desc = some sig → argsL.length = sig.parameters.length)
    (hstack : g.stack = argsL.reverse ++ rest) (hW : 2 * g.monitorRoom + (rest.map fun v => v.category).sum ≤ W9) (hdg : decode c.code g.pc = .ok (.invokestatic index, 3))
    (hpre : ∀ vm₁, s.WarmedH vm₁ → Pre ⟨T.setVm vm₁, locs, cells, slots⟩ argsL.toArray) :
    ∃ (v : Option Value) (vm₁ : Vm) (B : Pt) (d' : Drawn), s.drawn.sameBut d' cs ∧ s.WarmedH vm₁ ∧ Stand p l e R (s.setDrawn d') m args below meth c B.U B.locs B.cells B.slots ∧ Post ⟨(T.setVm vm₁).setDrawn d', locs, cells, slots⟩ argsL.toArray v B ∧
      ∀ target, Steps p.tables e below (B.U.setTop { g with pc := g.pc + 3, stack := v.toList ++ rest }) target → Steps p.tables e below (T.setTop g) target := by
  obtain ⟨mk, methM, cM, hnamed, hmethM, -, -, -, -, -, -, hsigM⟩ := Cond.codeWith_spec hcode
  have hstatic : methM.isStatic = true := Cond.static_spec hnamed hmethM hstat
  obtain ⟨kP, hkP, -⟩ := className_of_methodNamed hnamed
  have hinitP : kP.init = .initialized := Cond.initialized_spec (findClass_of_methodNamed hnamed) hkP hinit
  obtain ⟨vm₁, X₁, hstep₁⟩ := X.invokestatic hexec hown hlink hnamed hmethM hstatic hkP hinitP hy (g := g) hg (argsL := argsL) (rest := rest) (hlen _ hsigM) hstack hdg
  obtain ⟨v, B, d', hd', X', hpost, hsteps⟩ := hK m meth c ⟨T.setVm vm₁, locs, cells, slots⟩ { g with stack := rest } (.invokestatic index) mk argsL.toArray X₁ hg hsize hdg hW (X₁.named hnamed) (hpre vm₁ X₁.warmed)
  exact ⟨v, vm₁, B, d', hd', X₁.warmed, X', hpost, fun target h => hstep₁ _ fun acts => by rw [doInvoke_state]; exact hsteps.trans h⟩
theorem xd_runSX {y : MethodName} {bytes cc : ByteArray} {maxL nL mc ms n index : Nat} {ret : Option FieldType} {hh : List (Nat × Nat × Nat × Nat)} {ws : List Cond} {rm : Room} {Pc : Array Value → State → Prop} {Qc : Array Value → State → Outcome → State → Prop} {free : Addr → Prop} {Ts : List Cond} {own : String} {As rest : List Value} {g : JFrame}
    (S : CallFix p m c cc nL s args Ts own) (hM : MetD cs l y ws rm Pc Qc mc ms free) (cw : vx_CSW R s args own index y bytes maxL ret hh ws rm mc ms n) (hp : PreS s H Pc As)
    (hg : g.method = m) (hn : As.length = n) (hsize : g.locals.size = nL) (hstack : g.stack = As.reverse ++ rest) (hW : 2 * g.monitorRoom + (rest.map fun v => v.category).sum ≤ 8) (hdg : decode cc g.pc = .ok (.invokestatic index, 3)) (hf : cells + mc ≤ R.cells ∧ slots + ms ≤ R.slots) :
    va_RunD cs p l e R s m args below meth c H locs cells slots mc ms g rest (Qc As.toArray) free := by
  obtain ⟨⟨hrc, hrs, hfr, hlo, hws, hcw⟩, hcode, hini, hy, hlen, hl, hstt⟩ := cw
  have hK : BackD cs l R p e below s args y 3 8 (PreOf R mc ms Pc) (PostOf Qc mc ms free) := xd_backW (hh := hh) (bytes := bytes) (maxL := maxL) (ret := ret) hM hp.1 hrc hrs hfr hlo hws hcw (fun a' U hW => word_at hW (Or.inl (by first | rfl | simp [Cond.onTables, Cond.keeps, Cond.steady])) hini)
  obtain ⟨hx, hb, hml, ho, -⟩ := S
  intro T hT X
  obtain ⟨v, vm₁, ⟨U', l2, c2, s2⟩, d', hd', hW₁, X', ⟨g', mk, t, L, e1, e2, hq, h1, hL, h2, h3⟩, st⟩ := xd_callSX X hx (hh := hh) (bytes := bytes) (maxL := maxL) (ret := ret) ho hl hstt hini hcode hy hK hg (hsize.trans hml.symm) (argsL := As) (rest := rest) (fun sig h => hn.trans (hlen sig h)) hstack hW (by rw [hb]; exact hdg)
    (fun vm₁ hW₁ => ⟨hf.1, hf.2, hp.2 (T.setVm vm₁) hT hW₁⟩)
  dsimp only [Pt.U, Pt.locs, Pt.cells, Pt.slots] at X' e1 e2 h1 h2 h3 st
  subst h1; subst h2; subst h3
  exact ⟨v, ((T.setVm vm₁).setDrawn d').calling g' mk As.toArray, t, U', L, d', hd', hT, X', hL, e1, e2, hq, st⟩
end XDB
/-- goal first: the body of a method with a table, that may draw -/
theorem xd_MetW {cs : List Choice} {l : Launch} {y : MethodName} {ws ws' : List Cond} {rm : Room} {Pc : Array Value → State → Prop} {Qc : Array Value → State → Outcome → State → Prop} {mc ms : Nat} {free : Addr → Prop} {cc : ByteArray} {maxL : Nat} {ret : Option FieldType} {hh : List (Nat × Nat × Nat × Nat)}
    (hy : plainName y.cls = true) (hw : ws = Cond.codeWith y cc maxL ret hh :: ws')
    (body : ∀ p e s m args below meth c s₁, BodyLoose p l y (headSpec ws rm) cc maxL ret e s m args below meth c s₁ → c.maxLocals = maxL → Pc args s → s.drawn.sameBut s.drawn cs →
      W p l e (headSpec ws rm).room (s.setDrawn s.drawn) m args below meth c s.heap [] 0 0 (MQD cs below Qc args s mc ms free) (entryFrame m args maxL)) : MetD cs l y ws rm Pc Qc mc ms free := by
  refine MetFree.of_bodyS (code := cc) (maxLocals := maxL) (ret := ret) hy ?_ ?_
  · intro args s m h hn
    obtain ⟨m9, meth, c, hn9, h1, h2, h3, h4, -, h5, h6, -⟩ := Cond.codeWith_spec (atoms_spec (ws := ws) h _ (by rw [hw]; exact List.mem_cons_self))
    cases hn.symm.trans hn9
    exact ⟨meth, c, h1, h2, h3, h4, h5, h6⟩
  · intro p e s m args below meth c s₁ B hml hP _
    have hh0 : s₁.heap = s.heap := by rw [B.state]; rfl
    have X0 : Stand p l e (headSpec ws rm).room (s.setDrawn s.drawn) m args below meth c s₁ [] 0 0 := Stand.of_body B
    obtain ⟨t, a1, d, hd, o, b1, b2, b3, b4⟩ := body p e s m args below meth c s₁ B hml hP (Drawn.sameBut.refl _ _) s₁ hh0 X0
    exact ⟨t, o, a1, b1, b2, d, hd, b3, b4⟩
end
section
/-! NUMBERS: a double by its datum (what is a NaN, of whatever bits, is one datum) -/
abbrev Dm : Type := FP.Core.Datum
def dt (x : UInt64) : Dm := FP.Core.decode FP.Core.b64 x.toNat
/-- what bits make of a datum -/
def en (d : Dm) : Dm := dt (UInt64.ofNat (FP.Core.encode FP.Core.b64 d))
def dAdd (x y : Dm) : Dm := en (FP.Core.round FP.Core.b64 (FP.Core.exactSum x y))
def dSub (x y : Dm) : Dm := en (FP.Core.round FP.Core.b64 (FP.Core.exactSum x (FP.Core.negate y)))
def dMul (x y : Dm) : Dm := en (FP.Core.round FP.Core.b64 (FP.Core.exactProduct x y))
def dDiv (x y : Dm) : Dm := en (FP.Core.quotient FP.Core.b64 x y)
def dCmp (x y : Dm) : Option Ordering := FP.Core.order x y
def dI (i : Int32) : Dm := dt (FP.i2d i)
def dZ : Dm := dt 0
theorem tails_b : FP.Core.Fmt.tails FP.Core.b64 = 4503599627370496 := by decide +kernel
theorem exps_b : FP.Core.Fmt.exps FP.Core.b64 = 2048 := by decide +kernel
theorem qmin_b : FP.Core.Fmt.qmin FP.Core.b64 = -1074 := by decide +kernel
theorem qmax_b : FP.Core.Fmt.qmax FP.Core.b64 = 971 := by decide +kernel
theorem decode_b (n : Nat) : FP.Core.decode FP.Core.b64 n = if n / 4503599627370496 % 2048 = 2047 then (if n % 4503599627370496 = 0 then .inf (n / 4503599627370496 / 2048 % 2 == 1) else .nan) else if n / 4503599627370496 % 2048 = 0 then .fin (n / 4503599627370496 / 2048 % 2 == 1) (n % 4503599627370496) (-1074) else .fin (n / 4503599627370496 / 2048 % 2 == 1) (4503599627370496 + n % 4503599627370496) (-1074 + (((n / 4503599627370496 % 2048 : Nat) : Int) - 1)) := by
  unfold FP.Core.decode FP.Core.fieldE FP.Core.fieldT FP.Core.fieldS
  rw [tails_b, exps_b, qmin_b]
theorem dt_nan {x : UInt64} (h : isNaN64 x = true) : dt x = .nan := by
  have h1 := isNaN64_iff.mp h
  have h2 : x.toNat &&& 0x7fffffffffffffff = x.toNat % 2 ^ 63 := Nat.and_two_pow_sub_one_eq_mod x.toNat 63
  rw [h2] at h1
  have h3 : x.toNat < 18446744073709551616 := x.toNat_lt
  unfold dt
  rw [decode_b, if_pos (by omega), if_neg (by omega)]
theorem dt_alike {r z : UInt64} (h : alike64 r z = true) : dt r = dt z := by
  simp only [alike64, Bool.or_eq_true, Bool.and_eq_true, decide_eq_true_eq] at h
  rcases h with rfl | ⟨h1, h2⟩
  · rfl
  · rw [dt_nan h1, dt_nan h2]
theorem dt_add {r x y : UInt64} (h : alike64 r (FP.dadd x y) = true) : dt r = dAdd (dt x) (dt y) := dt_alike h
theorem dt_sub {r x y : UInt64} (h : alike64 r (FP.dsub x y) = true) : dt r = dSub (dt x) (dt y) := dt_alike h
theorem dt_mul {r x y : UInt64} (h : alike64 r (FP.dmul x y) = true) : dt r = dMul (dt x) (dt y) := dt_alike h
theorem dt_div {r x y : UInt64} (h : alike64 r (FP.ddiv x y) = true) : dt r = dDiv (dt x) (dt y) := dt_alike h
theorem dt_cmp (x y : UInt64) : FP.dcmp x y = dCmp (dt x) (dt y) := rfl
theorem dCmp_self (x : Dm) : dCmp x x = some .eq ∨ x = .nan := by
  cases x with
  | nan => exact Or.inr rfl
  | inf s => left; cases s <;> decide
  | fin s c q =>
    left
    show some (compare _ _) = _
    rw [Int.compare_eq_eq.mpr rfl]
theorem dCmp_nanL (x : Dm) : dCmp .nan x = none := rfl
theorem dCmp_nanR (x : Dm) : dCmp x .nan = none := by cases x <;> rfl
/-- a datum that bits stand for -/
def dOk (d : Dm) : Prop := ∃ x : UInt64, dt x = d
theorem dt_ok (x : UInt64) : dOk (dt x) := ⟨x, rfl⟩
theorem dAdd_ok (x y : Dm) : dOk (dAdd x y) := ⟨_, rfl⟩
theorem dI_ok (i : Int32) : dOk (dI i) := ⟨_, rfl⟩
theorem dZ_fin : dZ = .fin false 0 (-1074) := by decide +kernel
theorem enc_dec {n : Nat} (hn : n < 18446744073709551616) (h : FP.Core.decode FP.Core.b64 n ≠ .nan) : FP.Core.encode FP.Core.b64 (FP.Core.decode FP.Core.b64 n) = n := by
  have hs : (n / 4503599627370496 / 2048 % 2 == 1).toNat = n / 4503599627370496 / 2048 % 2 := by
    rcases Nat.mod_two_eq_zero_or_one (n / 4503599627370496 / 2048) with e | e <;> rw [e] <;> rfl
  rw [decode_b] at h ⊢
  by_cases hE : n / 4503599627370496 % 2048 = 2047
  · rw [if_pos hE] at h ⊢
    by_cases hT : n % 4503599627370496 = 0
    · rw [if_pos hT]
      show FP.Core.assemble FP.Core.b64 _ (FP.Core.Fmt.exps FP.Core.b64 - 1) 0 = n
      unfold FP.Core.assemble
      rw [hs, exps_b, tails_b]
      omega
    · rw [if_neg hT] at h
      exact absurd rfl h
  · rw [if_neg hE] at h ⊢
    by_cases h0 : n / 4503599627370496 % 2048 = 0
    · rw [if_pos h0]
      show (if n % 4503599627370496 < FP.Core.Fmt.tails FP.Core.b64 then FP.Core.assemble FP.Core.b64 _ 0 (n % 4503599627370496) else _) = n
      rw [tails_b, if_pos (Nat.mod_lt _ (by decide))]
      unfold FP.Core.assemble
      rw [hs, exps_b, tails_b]
      omega
    · rw [if_neg h0]
      show (if 4503599627370496 + n % 4503599627370496 < FP.Core.Fmt.tails FP.Core.b64 then _ else FP.Core.assemble FP.Core.b64 _ ((-1074 + (((n / 4503599627370496 % 2048 : Nat) : Int) - 1) - FP.Core.Fmt.qmin FP.Core.b64).toNat + 1) (4503599627370496 + n % 4503599627370496 - FP.Core.Fmt.tails FP.Core.b64)) = n
      rw [tails_b, qmin_b, if_neg (by omega)]
      unfold FP.Core.assemble
      rw [hs, exps_b, tails_b]
      omega
theorem en_ok {d : Dm} (h : dOk d) (hn : d ≠ .nan) : en d = d := by
  obtain ⟨x, rfl⟩ := h
  unfold en
  have h1 : FP.Core.encode FP.Core.b64 (dt x) = x.toNat := enc_dec x.toNat_lt hn
  rw [h1, UInt64.ofNat_toNat]
theorem dOk_fin {s : Bool} {c : Nat} {q : Int} (h : dOk (.fin s c q)) : c < 9007199254740992 ∧ -1074 ≤ q ∧ q ≤ 971 ∧ (q = -1074 ∨ 4503599627370496 ≤ c) := by
  obtain ⟨x, hx⟩ := h
  unfold dt at hx
  rw [decode_b] at hx
  by_cases hE : x.toNat / 4503599627370496 % 2048 = 2047
  · rw [if_pos hE] at hx
    by_cases hT : x.toNat % 4503599627370496 = 0
    · rw [if_pos hT] at hx; cases hx
    · rw [if_neg hT] at hx; cases hx
  · rw [if_neg hE] at hx
    by_cases h0 : x.toNat / 4503599627370496 % 2048 = 0
    · rw [if_pos h0] at hx
      cases hx
      omega
    · rw [if_neg h0] at hx
      cases hx
      omega
theorem log2_lo {c j : Nat} (h1 : 4503599627370496 ≤ c) (h2 : c < 9007199254740992) : (c * 2 ^ j).log2 = 52 + j := by
  have hp : 0 < 2 ^ j := Nat.two_pow_pos j
  have hn : c * 2 ^ j ≠ 0 := Nat.ne_of_gt (Nat.mul_pos (by omega) hp)
  have a1 : 52 + j ≤ (c * 2 ^ j).log2 := by
    rw [Nat.le_log2 hn, Nat.pow_add]
    exact Nat.mul_le_mul_right _ h1
  have a2 : (c * 2 ^ j).log2 < 53 + j := by
    rw [Nat.log2_lt hn, Nat.pow_add]
    exact Nat.mul_lt_mul_of_pos_right h2 hp
  omega
theorem rnd_units {s : Bool} {c : Nat} {q : Int} (hc : c ≠ 0) (h1 : c < 9007199254740992) (h2 : -1074 ≤ q) (h3 : q ≤ 971) (h4 : q = -1074 ∨ 4503599627370496 ≤ c) : FP.Core.round FP.Core.b64 (.fin s (c * 2 ^ (q + 1074).toNat) (-1074)) = .fin s c q := by
  obtain ⟨j, hj⟩ : ∃ j : Nat, j = (q + 1074).toNat := ⟨_, rfl⟩
  rw [← hj]
  have hq : q = (j : Int) - 1074 := by omega
  have hp : 0 < 2 ^ j := Nat.two_pow_pos j
  have hn : c * 2 ^ j ≠ 0 := Nat.ne_of_gt (Nat.mul_pos (by omega) hp)
  show FP.Core.roundRatio FP.Core.b64 s (c * 2 ^ j) 1 (-1074) = _
  unfold FP.Core.roundRatio
  rw [if_neg hn]
  have hl : FP.Core.leading (c * 2 ^ j) 1 = ((c * 2 ^ j).log2 : Int) := by
    unfold FP.Core.leading
    have e1 : (1 : Nat).log2 = 0 := by decide
    rw [e1]
    simp only [Int.ofNat_zero, Int.natCast_zero, Int.sub_zero, Nat.one_mul]
    have e2 : ((((c * 2 ^ j).log2 : Nat) : Int)).toNat = (c * 2 ^ j).log2 := by omega
    have e3 : (-(((c * 2 ^ j).log2 : Nat) : Int)).toNat = 0 := by omega
    rw [e2, e3, Nat.pow_zero, Nat.mul_one, if_pos (Nat.log2_self_le hn)]
  have hqu : FP.Core.quantum FP.Core.b64 (c * 2 ^ j) 1 (-1074) = q := by
    unfold FP.Core.quantum
    rw [hl, qmin_b]
    have e4 : ((FP.Core.b64.p : Nat) : Int) = 53 := rfl
    rw [e4]
    rcases h4 with h4 | h4
    · have hj0 : j = 0 := by omega
      subst hj0
      rw [Nat.pow_zero, Nat.mul_one]
      by_cases hb : 4503599627370496 ≤ c
      · have := log2_lo (j := 0) hb h1
        rw [Nat.pow_zero, Nat.mul_one] at this
        rw [this]
        omega
      · have : c.log2 < 52 := (Nat.log2_lt hc).mpr (by omega)
        omega
    · rw [log2_lo h4 h1]
      omega
  rw [hqu]
  unfold FP.Core.roundAt FP.Core.unitsNum FP.Core.unitsDen
  have e5 : (-1074 - q).toNat = 0 := by omega
  have e6 : (q - -1074).toNat = j := by omega
  rw [e5, e6, Nat.pow_zero, Nat.mul_one, Nat.one_mul]
  have e7 : FP.Core.nearest (c * 2 ^ j) (2 ^ j) = c := by
    unfold FP.Core.nearest
    rw [Nat.mul_mod_left, Nat.mul_zero, if_pos hp, Nat.mul_div_cancel _ hp]
  rw [e7]
  unfold FP.Core.settle FP.Core.bound
  rw [if_pos (show c < 2 ^ FP.Core.b64.p from h1), qmax_b, if_pos h3]
def isZ (d : Dm) : Prop := ∃ s q, d = .fin s 0 q
/-- near: one number, or both zero -/
def nz (d e : Dm) : Prop := d = e ∨ (isZ d ∧ isZ e)
theorem nz.rf (d : Dm) : nz d d := Or.inl rfl
theorem dAdd_zz (s u : Bool) : isZ (dAdd (.fin s 0 (-1074)) (.fin u 0 (-1074))) := by
  cases s <;> cases u
  · exact ⟨false, -1074, by decide +kernel⟩
  · exact ⟨false, -1074, by decide +kernel⟩
  · exact ⟨false, -1074, by decide +kernel⟩
  · exact ⟨true, -1074, by decide +kernel⟩
theorem dOk_zero {s : Bool} {q : Int} (h : dOk (.fin s 0 q)) : q = -1074 := by
  have h1 := dOk_fin h
  omega
theorem exact_zero (z s : Bool) {c : Nat} {q : Int} (hc : c ≠ 0) (hq : -1074 ≤ q) : FP.Core.exactSum (.fin z 0 (-1074)) (.fin s c q) = .fin s (c * 2 ^ (q + 1074).toNat) (-1074) := by
  have hm : min (-1074) q = -1074 := by omega
  have hN : 0 < c * 2 ^ (q + 1074).toNat := Nat.mul_pos (by omega) (Nat.two_pow_pos _)
  have e1 : FP.Core.inUnits 0 (-1074) (-1074) = 0 := by decide
  have e2 : FP.Core.inUnits c q (-1074) = c * 2 ^ (q + 1074).toNat := by
    unfold FP.Core.inUnits
    rw [show q - -1074 = q + 1074 by omega]
  have e3 : FP.Core.sumUnits z 0 (-1074) s c q (-1074) = FP.Core.signed s (c * 2 ^ (q + 1074).toNat) := by
    unfold FP.Core.sumUnits
    rw [e1, e2]
    cases z <;> simp [FP.Core.signed]
  show FP.Core.Datum.fin (FP.Core.sumSign z s (FP.Core.sumUnits z 0 (-1074) s c q (min (-1074) q))) (FP.Core.sumUnits z 0 (-1074) s c q (min (-1074) q)).natAbs (min (-1074) q) = _
  rw [hm, e3]
  generalize c * 2 ^ (q + 1074).toNat = N at hN ⊢
  have e4 : (FP.Core.signed s N).natAbs = N := by cases s <;> simp [FP.Core.signed]
  have e5 : FP.Core.sumSign z s (FP.Core.signed s N) = s := by
    unfold FP.Core.sumSign
    cases s
    · have h0 : ¬ FP.Core.signed false N = 0 := by show ¬ ((N : Int) = 0); omega
      rw [if_neg h0]
      exact decide_eq_false (by show ¬ ((N : Int) < 0); omega)
    · have h0 : ¬ FP.Core.signed true N = 0 := by show ¬ (-(N : Int) = 0); omega
      rw [if_neg h0]
      exact decide_eq_true (by show (-(N : Int) < 0); omega)
  rw [e4, e5]
theorem dAdd_zero {d : Dm} (h : dOk d) (s : Bool) : nz (dAdd (.fin s 0 (-1074)) d) d := by
  cases d with
  | nan => left; cases s <;> decide +kernel
  | inf u => left; cases s <;> cases u <;> decide +kernel
  | fin u c q =>
    by_cases hc : c = 0
    · subst hc
      have hq := dOk_zero h
      subst hq
      exact Or.inr ⟨dAdd_zz s u, ⟨_, _, rfl⟩⟩
    · left
      obtain ⟨h1, h2, h3, h4⟩ := dOk_fin h
      unfold dAdd
      rw [exact_zero s u hc h2, rnd_units hc h1 h2 h3 h4]
      exact en_ok h (fun e => by cases e)
theorem dAdd_nz {d e b : Dm} (h : nz d e) (hd : dOk d) (he : dOk e) (hb : dOk b) : nz (dAdd d b) (dAdd e b) := by
  rcases h with rfl | ⟨⟨s, q, rfl⟩, ⟨u, r, rfl⟩⟩
  · exact nz.rf _
  · have hq := dOk_zero hd
    have hr := dOk_zero he
    subst hq
    subst hr
    have h1 := dAdd_zero hb s
    have h2 := dAdd_zero hb u
    rcases h1 with h1 | ⟨h1, h1'⟩ <;> rcases h2 with h2 | ⟨h2, h2'⟩
    · rw [h1, h2]; exact nz.rf _
    · exact Or.inr ⟨by rw [h1]; exact h2', h2⟩
    · exact Or.inr ⟨h1, by rw [h2]; exact h1'⟩
    · exact Or.inr ⟨h1, h2⟩
/-- what the law asks of two answers -/
theorem dCmp_nz {d e : Dm} (h : nz d e) : dCmp d e = some .eq ∨ (d = .nan ∧ e = .nan) := by
  rcases h with rfl | ⟨⟨s, q, rfl⟩, ⟨u, r, rfl⟩⟩
  · rcases dCmp_self d with h | h
    · exact Or.inl h
    · exact Or.inr ⟨h, h⟩
  · left
    show some (compare (FP.Core.signed s (FP.Core.inUnits 0 q (min q r))) (FP.Core.signed u (FP.Core.inUnits 0 r (min q r)))) = _
    have e0 : ∀ a b, FP.Core.inUnits 0 a b = 0 := fun a b => by unfold FP.Core.inUnits; simp
    rw [e0, e0]
    cases s <;> cases u <;> rfl
/-! comparisons, by what they push -/
theorem cv_g_ge (o : Option Ordering) : (0 ≤ Op.cmpValue o .g) ↔ ¬ o = some .lt := by
  rcases o with _ | o
  · decide
  · cases o <;> decide
theorem cv_l_le (o : Option Ordering) : (Op.cmpValue o .l ≤ 0) ↔ ¬ o = some .gt := by
  rcases o with _ | o
  · decide
  · cases o <;> decide
theorem cv_l_eq (o : Option Ordering) : (Op.cmpValue o .l = 0) ↔ o = some .eq := by
  rcases o with _ | o
  · decide
  · cases o <;> decide
theorem cv_g_gt (o : Option Ordering) : (0 < Op.cmpValue o .g) ↔ ¬ (o = some .lt ∨ o = some .eq) := by
  rcases o with _ | o
  · decide
  · cases o <;> decide
/-! the lesser one -/
def dMin (x y : Dm) : Dm := if dCmp x y = some .lt then x else y
/-! rows by places: filled from b on, k of them -/
def po {α : Type} (b k : Nat) (f g : Nat → α) : Nat → α := fun j => if b ≤ j ∧ j < b + k then g (j - b) else f j
theorem po_0 {α : Type} (b : Nat) (f g : Nat → α) : po b 0 f g = f := by
  funext j
  unfold po
  rw [if_neg (by omega)]
theorem po_s {α : Type} (b k : Nat) (f g : Nat → α) : va_up (po b k f g) (b + k) (g k) = po b (k + 1) f g := by
  funext j
  unfold va_up po
  by_cases h : j = b + k
  · subst h
    rw [if_pos rfl, if_pos (by omega), Nat.add_sub_cancel_left]
  · rw [if_neg h]
    by_cases h2 : b ≤ j ∧ j < b + k
    · rw [if_pos h2, if_pos (by omega)]
    · rw [if_neg h2, if_neg (by omega)]
theorem po_at {α : Type} (b k : Nat) (f g : Nat → α) : po b k f g (b + k) = f (b + k) := by
  unfold po
  rw [if_neg (by omega)]
theorem po_in {α : Type} {b k i : Nat} (f g : Nat → α) (h : i < k) : po b k f g (b + i) = g i := by
  unfold po
  rw [if_pos (by omega), Nat.add_sub_cancel_left]
theorem po_out {α : Type} {b k j : Nat} (f g : Nat → α) (h : j < b) : po b k f g j = f j := by
  unfold po
  rw [if_neg (by omega)]
theorem po_hi {α : Type} {b k j : Nat} (f g : Nat → α) (h : b + k ≤ j) : po b k f g j = f j := by
  unfold po
  rw [if_neg (by omega)]
theorem po_po {α : Type} (b k : Nat) (f g h : Nat → α) : po b k (po b k f g) h = po b k f h := by
  funext j
  unfold po
  by_cases c : b ≤ j ∧ j < b + k
  · rw [if_pos c, if_pos c]
  · rw [if_neg c, if_neg c, if_neg c]
theorem po_c {α : Type} {b k : Nat} {f g h : Nat → α} (e : ∀ i, i < k → g i = h i) : po b k f g = po b k f h := by
  funext j
  unfold po
  by_cases c : b ≤ j ∧ j < b + k
  · rw [if_pos c, if_pos c, e _ (by omega)]
  · rw [if_neg c, if_neg c]
theorem upd_up (f : Nat → Int32) (k : Nat) (x : Int32) : upd f k x = va_up f k x := rfl
/-- a row of doubles by its data -/
def dts (f : Nat → UInt64) : Nat → Dm := fun j => dt (f j)
theorem dts_up (f : Nat → UInt64) (k : Nat) (x : UInt64) : dts (vf_upd f k x) = va_up (dts f) k (dt x) := by
  funext j
  unfold dts vf_upd va_up
  by_cases h : j = k
  · rw [if_pos h, if_pos h]
  · rw [if_neg h, if_neg h]
/-- the first n of a row are .. -/
def is5 (f : Nat → UInt64) (F : Nat → Dm) : Prop := ∀ j, j < 5 → dt (f j) = F j
theorem is5.up {f : Nat → UInt64} {F : Nat → Dm} (h : is5 f F) (k : Nat) {x : UInt64} {d : Dm} (e : dt x = d) : is5 (vf_upd f k x) (va_up F k d) := by
  intro j hj
  unfold vf_upd va_up
  by_cases c : j = k
  · rw [if_pos c, if_pos c]; exact e
  · rw [if_neg c, if_neg c]; exact h j hj
theorem is5.to {f : Nat → UInt64} {F G : Nat → Dm} (h : is5 f F) (e : ∀ j, j < 5 → F j = G j) : is5 f G := fun j hj => (h j hj).trans (e j hj)
end
section
/-! ROWS OF OUR OWN over the kit's: indices by numbers, loops, worlds -/
section XK
variable {p : Program} {l : Launch} {e : Env} {R : Room} {s : State} {m : MethodId} {args : Array Value} {below : List Frame} {meth : Method} {c : Code} {H : Heap} {locs : List Loc} {cells slots : Nat} {Q : State → Prop}
variable {cc : ByteArray} {pc : Nat} {ls : Array Slot} {rest : List Value} {D : va_G} {cl : List vw_C} {A : Nat → Prop} {a : Nat} {tys : List (ClassId × FieldType)} {ws : va_W} {H0 : Heap}
theorem xk_i {x y : Int32} (h : x = y) (k : W p l e R s m args below meth c H locs cells slots Q (F0 m pc ls (.int y :: rest))) : W p l e R s m args below meth c H locs cells slots Q (F0 m pc ls (.int x :: rest)) := h ▸ k
theorem xk_iald (hexec : p.tables.exec = Jvm.exec) (hb : c.code = cc) (hK : va_K D cl tys s) (hP : va_P D cl ws H) (q0 t0 : Nat) {cA : ClassId} {n : Nat} {f : Nat → Int32} (ha : ws[q0]? = some (a, .inl (cA, n, .inl f))) (ht : tys[t0]? = some (cA, .int)) {o : Nat} (ho : o < n) (hn : n < 2 ^ 31) (hdg : decode cc pc = .ok (.iaload, 1))
    (kk : W p l e R s m args below meth c H locs cells slots Q (F0 m (pc + 1) ls (.int (f o) :: rest))) : W p l e R s m args below meth c H locs cells slots Q (F0 m pc ls (.int (nI o) :: .ref a :: rest)) :=
  va_iald hexec hb hK hP q0 t0 ha ht (vp_in_nI ho hn) hdg (by rw [nI_clamp (Nat.lt_trans ho hn)]; exact kk)
theorem xk_zald (hexec : p.tables.exec = Jvm.exec) (hb : c.code = cc) (hK : va_K D cl tys s) (hP : va_P D cl ws H) (q0 t0 : Nat) {cA : ClassId} {n : Nat} {f : Nat → Int32} (ha : ws[q0]? = some (a, .inl (cA, n, .inl f))) (ht : tys[t0]? = some (cA, .boolean)) {o : Nat} (ho : o < n) (hn : n < 2 ^ 31) (hdg : decode cc pc = .ok (.baload, 1))
    (kk : W p l e R s m args below meth c H locs cells slots Q (F0 m (pc + 1) ls (.int (f o) :: rest))) : W p l e R s m args below meth c H locs cells slots Q (F0 m pc ls (.int (nI o) :: .ref a :: rest)) :=
  va_zald hexec hb hK hP q0 t0 ha ht (vp_in_nI ho hn) hdg (by rw [nI_clamp (Nat.lt_trans ho hn)]; exact kk)
theorem xk_dald (hexec : p.tables.exec = Jvm.exec) (hb : c.code = cc) (hK : va_K D cl tys s) (hP : va_P D cl ws H) (q0 t0 : Nat) {cA : ClassId} {n : Nat} {f : Nat → UInt64} (ha : ws[q0]? = some (a, .inl (cA, n, .inr (.inr (.inr (.inl f)))))) (ht : tys[t0]? = some (cA, .double)) {o : Nat} (ho : o < n) (hn : n < 2 ^ 31) (hdg : decode cc pc = .ok (.daload, 1))
    (kk : W p l e R s m args below meth c H locs cells slots Q (F0 m (pc + 1) ls (.double (f o) :: rest))) : W p l e R s m args below meth c H locs cells slots Q (F0 m pc ls (.int (nI o) :: .ref a :: rest)) :=
  va_dald hexec hb hK hP q0 t0 ha ht (vp_in_nI ho hn) hdg (by rw [nI_clamp (Nat.lt_trans ho hn)]; exact kk)
theorem xk_iast (hexec : p.tables.exec = Jvm.exec) (hb : c.code = cc) (hK : va_K D cl tys s) (hP : va_P D cl ws H) (hD : va_D A ws) (hS : va_S A H0 H locs) (q0 t0 : Nat) {cA : ClassId} {n : Nat} {f : Nat → Int32} (ha : ws[q0]? = some (a, .inl (cA, n, .inl f))) (ht : tys[t0]? = some (cA, .int)) {o : Nat} {x : Int32} (ho : o < n) (hn : n < 2 ^ 31) (hdg : decode cc pc = .ok (.iastore, 1))
    (kk : ∀ (H1 : Heap) (locs1 : List Loc), va_P D cl (ws.set q0 (a, .inl (cA, n, .inl (upd f o x)))) H1 → va_D A (ws.set q0 (a, .inl (cA, n, .inl (upd f o x)))) → va_S A H0 H1 locs1 → W p l e R s m args below meth c H1 locs1 cells slots Q (F0 m (pc + 1) ls rest)) : W p l e R s m args below meth c H locs cells slots Q (F0 m pc ls (.int x :: .int (nI o) :: .ref a :: rest)) :=
  va_iast hexec hb hK hP hD hS q0 t0 ha ht (vp_in_nI ho hn) hdg (by rw [nI_clamp (Nat.lt_trans ho hn)]; exact kk)
theorem xk_zast (hexec : p.tables.exec = Jvm.exec) (hb : c.code = cc) (hK : va_K D cl tys s) (hP : va_P D cl ws H) (hD : va_D A ws) (hS : va_S A H0 H locs) (q0 t0 : Nat) {cA : ClassId} {n : Nat} {f : Nat → Int32} (ha : ws[q0]? = some (a, .inl (cA, n, .inl f))) (ht : tys[t0]? = some (cA, .boolean)) {o : Nat} {x x' : Int32} (ho : o < n) (hn : n < 2 ^ 31) (hx : vp_nar .boolean x = x') (hdg : decode cc pc = .ok (.bastore, 1))
    (kk : ∀ (H1 : Heap) (locs1 : List Loc), va_P D cl (ws.set q0 (a, .inl (cA, n, .inl (upd f o x')))) H1 → va_D A (ws.set q0 (a, .inl (cA, n, .inl (upd f o x')))) → va_S A H0 H1 locs1 → W p l e R s m args below meth c H1 locs1 cells slots Q (F0 m (pc + 1) ls rest)) : W p l e R s m args below meth c H locs cells slots Q (F0 m pc ls (.int x :: .int (nI o) :: .ref a :: rest)) :=
  va_zast hexec hb hK hP hD hS q0 t0 ha ht (vp_in_nI ho hn) hdg (by rw [nI_clamp (Nat.lt_trans ho hn), hx]; exact kk)
theorem xk_dast (hexec : p.tables.exec = Jvm.exec) (hb : c.code = cc) (hK : va_K D cl tys s) (hP : va_P D cl ws H) (hD : va_D A ws) (hS : va_S A H0 H locs) (q0 t0 : Nat) {cA : ClassId} {n : Nat} {f : Nat → UInt64} (ha : ws[q0]? = some (a, .inl (cA, n, .inr (.inr (.inr (.inl f)))))) (ht : tys[t0]? = some (cA, .double)) {o : Nat} {x : UInt64} (ho : o < n) (hn : n < 2 ^ 31) (hdg : decode cc pc = .ok (.dastore, 1))
    (kk : ∀ (H1 : Heap) (locs1 : List Loc), va_P D cl (ws.set q0 (a, .inl (cA, n, .inr (.inr (.inr (.inl (vf_upd f o x))))))) H1 → va_D A (ws.set q0 (a, .inl (cA, n, .inr (.inr (.inr (.inl (vf_upd f o x))))))) → va_S A H0 H1 locs1 → W p l e R s m args below meth c H1 locs1 cells slots Q (F0 m (pc + 1) ls rest)) : W p l e R s m args below meth c H locs cells slots Q (F0 m pc ls (.double x :: .int (nI o) :: .ref a :: rest)) :=
  va_dast hexec hb hK hP hD hS q0 t0 ha ht (vp_in_nI ho hn) hdg (by rw [nI_clamp (Nat.lt_trans ho hn)]; exact kk)
/-- a loop of at most n turns, over a start with some record of draws -/
theorem xk_loop (Inv : Nat → Heap → List Loc → Array Slot → Drawn → Prop) (n : Nat)
    (step : ∀ (i : Nat) (H : Heap) (locs : List Loc) (ls : Array Slot) (d : Drawn), i ≤ n → Inv i H locs ls d → (∀ (H' : Heap) (locs' : List Loc) (ls' : Array Slot) (d' : Drawn), i < n → Inv (i + 1) H' locs' ls' d' → W p l e R (s.setDrawn d') m args below meth c H' locs' cells slots Q (F0 m pc ls' rest)) → W p l e R (s.setDrawn d) m args below meth c H locs cells slots Q (F0 m pc ls rest))
    {i : Nat} {d : Drawn} (hi : i ≤ n) (h : Inv i H locs ls d) : W p l e R (s.setDrawn d) m args below meth c H locs cells slots Q (F0 m pc ls rest) := by
  obtain ⟨k, hk⟩ : ∃ k, k = n - i := ⟨_, rfl⟩
  induction k generalizing i H locs ls d with
  | zero => exact step i H locs ls d hi h (fun _ _ _ _ h9 _ => absurd h9 (by omega))
  | succ k ih => exact step i H locs ls d hi h (fun H' locs' ls' d' h9 h8 => ih (i := i + 1) (H := H') (locs := locs') (ls := ls') (d := d') (by omega) h8 (by omega))
/-- .. over the start itself -/
theorem xk_loopP (Inv : Nat → Heap → List Loc → Array Slot → Prop) (n : Nat)
    (step : ∀ (i : Nat) (H : Heap) (locs : List Loc) (ls : Array Slot), i ≤ n → Inv i H locs ls → (∀ (H' : Heap) (locs' : List Loc) (ls' : Array Slot), i < n → Inv (i + 1) H' locs' ls' → W p l e R s m args below meth c H' locs' cells slots Q (F0 m pc ls' rest)) → W p l e R s m args below meth c H locs cells slots Q (F0 m pc ls rest))
    {i : Nat} (hi : i ≤ n) (h : Inv i H locs ls) : W p l e R s m args below meth c H locs cells slots Q (F0 m pc ls rest) := by
  obtain ⟨k, hk⟩ : ∃ k, k = n - i := ⟨_, rfl⟩
  induction k generalizing i H locs ls with
  | zero => exact step i H locs ls hi h (fun _ _ _ h9 _ => absurd h9 (by omega))
  | succ k ih => exact step i H locs ls hi h (fun H' locs' ls' h9 h8 => ih (i := i + 1) (H := H') (locs := locs') (ls := ls') (by omega) h8 (by omega))
end XK
/-- a counter against a bound -/
theorem xk_ge {i n : Nat} (hi : i ≤ n) (hn : n < 2 ^ 31) (h : nI n ≤ nI i) : i = n := by
  have := (nI_leI hn (Nat.lt_of_le_of_lt hi hn)).mp h
  omega
theorem xk_nge {i n : Nat} (hi : i ≤ n) (hn : n < 2 ^ 31) (h : ¬ nI n ≤ nI i) : i < n := by
  rcases Nat.lt_or_ge i n with q | q
  · exact q
  · exact absurd ((nI_leI hn (Nat.lt_of_le_of_lt hi hn)).mpr q) h
abbrev T3 (cI cZ cD : ClassId) : List (ClassId × FieldType) := [(cI, .int), (cZ, .boolean), (cD, .double)]
/-- a world w at a state, its addresses apart and in A -/
abbrev XB (D : va_G) (cI cZ cD : ClassId) (w : va_W) (A : Nat → Prop) (t : State) : Prop := va_P D vwCl w t.heap ∧ va_K D vwCl (T3 cI cZ cD) t ∧ va_D A w
/-- .. a method's start -/
abbrev XP (D : va_G) (cI cZ cD : ClassId) (w : va_W) (sz : Nat) (U : State) : Prop := U.heap.size = sz ∧ XB D cI cZ cD w (fun _ => True) U
theorem xk_Kd {D : va_G} {cl : List vw_C} {tys : List (ClassId × FieldType)} {s : State} {d : Drawn} (h : va_K D cl tys s) : va_K D cl tys (s.setDrawn d) := va_K.moved (u := s) (U := s.setDrawn d) (Vm.Alike.refl s.vm) h
theorem xk_od {s : State} {d : Drawn} {own : String} {c : ClassId} (h : s.vm.findClass own = some c) : (s.setDrawn d).vm.findClass own = some c := h
theorem xk_blind {av : List Value} {D : va_G} {cI cZ cD : ClassId} {w : va_W} {sz : Nat} : FrameBlind (va_Pc av (XP D cI cZ cD w sz)) := fun a U g mk q => by
  obtain ⟨q0, q1, qP, qK, qD⟩ := q
  exact ⟨q0, q1, qP, va_K.moved (u := U) (U := U.calling g mk a) (Vm.Alike.refl U.vm) qK, qD⟩
theorem xk_pre {av : List Value} {D : va_G} {cI cZ cD : ClassId} {w : va_W} {A : Nat → Prop} {H : Heap} {s : State} (hP : va_P D vwCl w H) (hK : va_K D vwCl (T3 cI cZ cD) s) (hD : va_D A w) : ∀ U : State, U.heap = H → s.WarmedH U.vm → va_Pc av (XP D cI cZ cD w H.size) av.toArray U :=
  fun U hU hW => ⟨rfl, by rw [hU], by rw [hU]; exact hP, va_K.moved hW.alike hK, hD.weaken (fun _ _ _ _ => trivial)⟩
abbrev XW (a : Nat → Nat) (cI cZ cD : ClassId) (sh sw ts : Nat → Int32) (bi : Nat → UInt64) (it tu : Nat → Int32) (ne : Nat → UInt64) (pr so lo : UInt64) (wt cn : Int32) (lp lz lu : Nat → UInt64) (lk : Nat → Int32) (ld lf lb lw : Nat → UInt64) : va_W := [(a 0, .inr (1, [.ref (a 1), .ref (a 2), .ref (a 3), .ref (a 4), .ref (a 5), .ref (a 6), .ref (a 8), .double pr, .double so, .int wt, .ref (a 7), .double lo])), (a 1, .inl (cI, 5, .inl sh)), (a 2, .inl (cZ, 5, .inl sw)), (a 3, .inl (cI, 5, .inl ts)), (a 4, .inl (cD, 5, .inr (.inr (.inr (.inl bi))))), (a 5, .inl (cZ, 5, .inl it)), (a 6, .inl (cI, 5, .inl tu)), (a 7, .inl (cD, 5, .inr (.inr (.inr (.inl ne))))), (a 8, .inr (0, [.int cn, .ref (a 9), .ref (a 10), .ref (a 11), .ref (a 12), .ref (a 13), .ref (a 14), .ref (a 15), .ref (a 16)])), (a 9, .inl (cD, 60, .inr (.inr (.inr (.inl lp))))), (a 10, .inl (cD, 60, .inr (.inr (.inr (.inl lz))))), (a 11, .inl (cD, 300, .inr (.inr (.inr (.inl lu))))), (a 12, .inl (cZ, 300, .inl lk)), (a 13, .inl (cD, 300, .inr (.inr (.inr (.inl ld))))), (a 14, .inl (cD, 300, .inr (.inr (.inr (.inl lf))))), (a 15, .inl (cD, 300, .inr (.inr (.inr (.inl lb))))), (a 16, .inl (cD, 300, .inr (.inr (.inr (.inl lw)))))]
end
section
/-! WHAT THE METHODS WORK OUT, over data -/
abbrev d2 : Dm := dt 4611686018427387904
abbrev d4 : Dm := dt 4616189618054758400
abbrev d10 : Dm := dt 4621819117588971520
abbrev d40 : Dm := dt 4630826316843712512
abbrev d100 : Dm := dt 4636737291354636288
def sumD (V : Nat → Dm) : Nat → Dm
  | 0 => dZ
  | k + 1 => dAdd (sumD V k) (V k)
theorem sumD_c {V U : Nat → Dm} : ∀ {k : Nat}, (∀ j, j < k → V j = U j) → sumD V k = sumD U k
  | 0, _ => rfl
  | k + 1, h => by
    show dAdd (sumD V k) (V k) = dAdd (sumD U k) (U k)
    rw [sumD_c (k := k) (fun j hj => h j (by omega)), h k (by omega)]
def sumI (f : Nat → Int32) : Nat → Int32
  | 0 => 0
  | k + 1 => sumI f k + f k
/-- i quarters back from n on: how many are known (at most two), and their sum -/
def gst (K : Nat → Int32) (U : Nat → Dm) (o n : Nat) : Nat → Nat × Dm
  | 0 => (0, dZ)
  | i + 1 => if (gst K U o n i).1 < 2 ∧ ¬ K (5 * (n - 1 - i) + o) = 0 then ((gst K U o n i).1 + 1, dAdd (gst K U o n i).2 (U (5 * (n - 1 - i) + o))) else gst K U o n i
def guess (K : Nat → Int32) (U : Nat → Dm) (o n : Nat) : Dm := if (gst K U o n n).1 = 2 then dDiv (gst K U o n n).2 d2 else (gst K U o n n).2
theorem gst_le (K : Nat → Int32) (U : Nat → Dm) (o n : Nat) : ∀ i, (gst K U o n i).1 ≤ 2
  | 0 => Nat.zero_le _
  | i + 1 => by
    have h := gst_le K U o n i
    unfold gst
    by_cases c : (gst K U o n i).1 < 2 ∧ ¬ K (5 * (n - 1 - i) + o) = 0
    · rw [if_pos c]
      show (gst K U o n i).1 + 1 ≤ 2
      omega
    · rw [if_neg c]; exact h
theorem gst_stop {K : Nat → Int32} {U : Nat → Dm} {o n i : Nat} (h : ¬ (gst K U o n i).1 < 2) : ∀ k, gst K U o n (i + k) = gst K U o n i
  | 0 => rfl
  | k + 1 => by
    have e := gst_stop h k
    show (if (gst K U o n (i + k)).1 < 2 ∧ ¬ K (5 * (n - 1 - (i + k)) + o) = 0 then _ else gst K U o n (i + k)) = _
    rw [e, if_neg (fun q => h q.1)]
theorem gst_c {K K' : Nat → Int32} {U U' : Nat → Dm} {o n : Nat} (ho : o < 5) (hK : ∀ j, j < 5 * n → K j = K' j) (hU : ∀ j, j < 5 * n → U j = U' j) : ∀ i, i ≤ n → gst K U o n i = gst K' U' o n i
  | 0, _ => rfl
  | i + 1, hi => by
    have e := gst_c ho hK hU i (by omega)
    have hb : 5 * (n - 1 - i) + o < 5 * n := by omega
    show (if _ then _ else _) = (if _ then _ else _)
    rw [e, hK _ hb, hU _ hb]
theorem guess_c {K K' : Nat → Int32} {U U' : Nat → Dm} {o n : Nat} (ho : o < 5) (hK : ∀ j, j < 5 * n → K j = K' j) (hU : ∀ j, j < 5 * n → U j = U' j) : guess K U o n = guess K' U' o n := by
  unfold guess
  rw [gst_c ho hK hU n (Nat.le_refl n)]
/-- what an owner uses at first -/
def use0 (it tu : Nat → Int32) (K : Nat → Int32) (U : Nat → Dm) (n : Nat) : Nat → Dm := fun o => if it o = 0 then guess K U o n else dI (tu o)
def oi : Option Nat → Int32
  | none => -1
  | some k => nI k
abbrev may (S : Nat → Int32) (V : Nat → Dm) (k : Nat) : Prop := ¬ S k = 0 ∧ dCmp (V k) dZ = some .gt
/-- who is shed next, among the first k -/
def nx (S T : Nat → Int32) (V : Nat → Dm) : Nat → Option Nat
  | 0 => none
  | k + 1 => match nx S T V k with
    | none => if may S V k then some k else none
    | some j => if may S V k ∧ T k < T j then some k else some j
theorem nx_lt {S T : Nat → Int32} {V : Nat → Dm} : ∀ {k o : Nat}, nx S T V k = some o → o < k ∧ may S V o
  | 0, o, h => by cases h
  | k + 1, o, h => by
    unfold nx at h
    cases e : nx S T V k with
    | none =>
      rw [e] at h
      dsimp only at h
      by_cases c : may S V k
      · rw [if_pos c] at h; cases h; exact ⟨by omega, c⟩
      · rw [if_neg c] at h; cases h
    | some j =>
      rw [e] at h
      dsimp only at h
      by_cases c : may S V k ∧ T k < T j
      · rw [if_pos c] at h; cases h; exact ⟨by omega, c.1⟩
      · rw [if_neg c] at h
        cases h
        have := nx_lt e
        exact ⟨by omega, this.2⟩
theorem nx_none {S T : Nat → Int32} {V : Nat → Dm} : ∀ {k : Nat}, (∀ o, o < k → ¬ may S V o) → nx S T V k = none
  | 0, _ => rfl
  | k + 1, h => by
    unfold nx
    rw [nx_none (fun o ho => h o (by omega))]
    dsimp only
    rw [if_neg (h k (by omega))]
theorem nx_c {S T : Nat → Int32} {V U : Nat → Dm} : ∀ {k : Nat}, (∀ j, j < k → V j = U j) → nx S T V k = nx S T U k
  | 0, _ => rfl
  | k + 1, h => by
    unfold nx
    rw [nx_c (k := k) (fun j hj => h j (by omega))]
    have e : may S V k ↔ may S U k := by
      unfold may
      rw [h k (by omega)]
    cases nx S T U k with
    | none => dsimp only; simp only [e]
    | some j => dsimp only; simp only [e]
abbrev over (V : Nat → Dm) : Prop := dCmp (sumD V 5) d100 = some .gt
/-- shedding, f times at most -/
def shd (S : Nat → Int32) : Nat → (Nat → Int32) → (Nat → Dm) → (Nat → Int32) × (Nat → Dm)
  | 0, T, V => (T, V)
  | f + 1, T, V => if over V then (match nx S T V 5 with
    | none => (T, V)
    | some o => shd S f (upd T o (T o + 1)) (va_up V o dZ)) else (T, V)
theorem shd_done {S T : Nat → Int32} {V : Nat → Dm} (h : ¬ over V ∨ nx S T V 5 = none) : ∀ f, shd S f T V = (T, V)
  | 0 => rfl
  | f + 1 => by
    unfold shd
    by_cases c : over V
    · rw [if_pos c]
      rcases h with h | h
      · exact absurd c h
      · rw [h]
    · rw [if_neg c]
theorem shd_go {S T : Nat → Int32} {V : Nat → Dm} {o : Nat} (h1 : over V) (h2 : nx S T V 5 = some o) (f : Nat) : shd S (f + 1) T V = shd S f (upd T o (T o + 1)) (va_up V o dZ) := by
  show (if over V then _ else _) = _
  rw [if_pos h1, h2]
/-- the sun by shares -/
def uS (sun : Int32) (sh : Nat → Int32) (V : Nat → Dm) (i : Nat) : Dm := dMin (dDiv (dMul (dI sun) (dI (sh i))) d4) (V i)
def lS (sun : Int32) (sh : Nat → Int32) (V : Nat → Dm) (L : Dm) : Nat → Dm
  | 0 => L
  | k + 1 => dSub (lS sun sh V L k) (uS sun sh V k)
/-- .. by needs -/
abbrev enough (V : Nat → Dm) (L : Dm) : Prop := dCmp (sumD V 5) L = some .lt ∨ dCmp (sumD V 5) L = some .eq
def gE (V : Nat → Dm) (L : Dm) (i : Nat) : Dm := if enough V L then V i else dDiv (dMul L (V i)) (sumD V 5)
abbrev noNeed (V : Nat → Dm) : Prop := dCmp (sumD V 5) dZ = some .eq
def lE (V : Nat → Dm) (L : Dm) : Dm := if noNeed V then L else if enough V L then dSub L (sumD V 5) else dZ
def nE (V : Nat → Dm) (L : Dm) (i : Nat) : Dm := if noNeed V then V i else dSub (V i) (gE V L i)
/-- the battery's turns: needs, what it holds, what it gave, who got last -/
def gbs (t b : Nat) (V : Nat → Dm) (B : Dm) (G : Nat → Dm) : Nat → (Nat → Dm) × Dm × (Nat → Dm) × Option Nat
  | 0 => (V, B, G, none)
  | k + 1 =>
    let r := gbs t b V B G k
    let o := (t + k) % 5
    let u := dMin (r.1 o) r.2.1
    (va_up r.1 o (dSub (r.1 o) u), dSub r.2.1 u, va_up r.2.2.1 (b + o) u, if dCmp u dZ = some .gt then some o else r.2.2.2)
def tnx (t : Nat) : Option Nat → Nat
  | none => t
  | some o => (o + 1) % 5
end
section
/-! LEAVES: static methods without a world -/
def bI (c : Prop) [Decidable c] : Int32 := if c then 1 else 0
theorem bI_t {c : Prop} [Decidable c] (h : c) : bI c = 1 := if_pos h
theorem bI_f {c : Prop} [Decidable c] (h : ¬ c) : bI c = 0 := if_neg h
theorem bI_nar (c : Prop) [Decidable c] : narrow .boolean (.int (bI c)) = .int (bI c) := by
  unfold bI
  by_cases h : c
  · rw [if_pos h]; rfl
  · rw [if_neg h]; rfl
theorem bI_vn (c : Prop) [Decidable c] : vp_nar .boolean (bI c) = bI c := by
  unfold bI
  by_cases h : c
  · rw [if_pos h]; rfl
  · rw [if_neg h]; rfl
theorem bI_0 {c : Prop} [Decidable c] : bI c = 0 ↔ ¬ c := by
  unfold bI
  by_cases h : c
  · rw [if_pos h]; exact ⟨fun e => absurd e (by decide), fun e => absurd h e⟩
  · rw [if_neg h]; exact ⟨fun _ => h, fun _ => rfl⟩
theorem fm_x : ∀ x, x < 6 → 0 ≤ nI x ^^^ nI 5 := by decide
set_option maxHeartbeats 4000000 in
set_option maxRecDepth 100000 in
theorem mX0_slot (l : Launch) (o q : Nat)  : Met l yX0_slot wsX0_slot ({ frames := 0, cells := 0, slots := 0, locals := 0 } : Room) (va_Pc [.int (nI o), .int (nI q)] (fun _ => True)) (vp_Si (fun r => r = nI (5 * q + o))) 0 0 (fun _ => False) := by
  refine Met.ofW (cc := cX0_slot) (maxL := 2) (ret := (some .int)) (by decide +kernel) rfl ?_
  intro p e s m args below meth c s₁ B hml hv
  obtain ⟨rfl, -⟩ := hv
  have hx := B.exec
  have hb := B.bytes
  have hr := B.returns
  have hts := atoms_spec (ws := wsX0_slot) B.pre
  have hown : s.vm.findClass RX0 = some m.cls := findClass_of_methodNamed B.named
  have hlocks := B.notSynchronized
  have hl := lv_entry ([.int (nI o), .int (nI q)]) (n := 2) (Nat.le_of_ble_eq_true rfl)
  rw [lg_entry_eq]
  generalize (lg_sl ([.int (nI o), .int (nI q)]) ++ List.replicate (2 - (lg_sl ([.int (nI o), .int (nI q)])).length) Slot.unset).toArray = ls at hl ⊢
  have hl : lv_has ls 2 [(0, .int (nI o)), (1, .int (nI q))] := hl
  refine lv_iload_n hx hb dX0_slot_0 rfl (lv_at hl 1 rfl) ?_
  refine lv_iconst (v := nI 5) hx hb dX0_slot_1 (by decide) ?_
  refine lv_imul hx hb dX0_slot_2 ?_
  refine lv_iload_n hx hb dX0_slot_3 rfl (lv_at hl 0 rfl) ?_
  refine lv_iadd hx hb dX0_slot_4 ?_
  refine xk_i (y := nI (5 * q + o)) (by rw [show (nI 5 : Int32) = nI 5 from rfl, pk_mul, nI_add, Nat.mul_comm]) ?_
  exact W.iret hx hb hr (fun t ht hW => ⟨_, rfl, rfl, ht⟩) (fun q hq => absurd hq List.not_mem_nil) dX0_slot_5
set_option maxHeartbeats 4000000 in
set_option maxRecDepth 100000 in
theorem mX1_lesser (l : Launch) (x y : UInt64)  : Met l yX1_lesser wsX1_lesser ({ frames := 0, cells := 0, slots := 0, locals := 0 } : Room) (va_Pc [.double x, .double y] (fun _ => True)) (vp_Sd (fun r => dt r = dMin (dt x) (dt y))) 0 0 (fun _ => False) := by
  refine Met.ofW (cc := cX1_lesser) (maxL := 4) (ret := (some .double)) (by decide +kernel) rfl ?_
  intro p e s m args below meth c s₁ B hml hv
  obtain ⟨rfl, -⟩ := hv
  have hx := B.exec
  have hb := B.bytes
  have hr := B.returns
  have hts := atoms_spec (ws := wsX1_lesser) B.pre
  have hown : s.vm.findClass RX1 = some m.cls := findClass_of_methodNamed B.named
  have hlocks := B.notSynchronized
  have hl := lv_entry ([.double x, .double y]) (n := 4) (Nat.le_of_ble_eq_true rfl)
  rw [lg_entry_eq]
  generalize (lg_sl ([.double x, .double y]) ++ List.replicate (4 - (lg_sl ([.double x, .double y])).length) Slot.unset).toArray = ls at hl ⊢
  have hl : lv_has ls 4 [(0, .double x), (2, .double y)] := hl
  refine lv_dload_n hx hb dX1_lesser_0 rfl (lv_at hl 0 rfl) ?_
  refine lv_dload_n hx hb dX1_lesser_1 rfl (lv_at hl 1 rfl) ?_
  refine lv_dcmp hx hb dX1_lesser_2 ?_
  refine lv_if_ge (tgt := 10) hx hb dX1_lesser_3 (by decide) (fun c => ?_) (fun c => ?_)
  · skip
    have c' : ¬ dCmp (dt x) (dt y) = some .lt := (cv_g_ge _).mp c
    refine lv_dload_n hx hb dX1_lesser_10 rfl (lv_at hl 1 rfl) ?_
    have e9 : dt y = dMin (dt x) (dt y) := by unfold dMin; rw [if_neg c']
    exact W.dret hx hb hr (fun t ht hW => ⟨_, rfl, e9, ht⟩) (fun q hq => absurd hq List.not_mem_nil) dX1_lesser_11
  · skip
    have c' : dCmp (dt x) (dt y) = some .lt := Decidable.of_not_not (fun q => c ((cv_g_ge _).mpr q))
    refine lv_dload_n hx hb dX1_lesser_6 rfl (lv_at hl 0 rfl) ?_
    refine lv_goto (tgt := 11) hx hb dX1_lesser_7 (by decide) ?_
    have e9 : dt x = dMin (dt x) (dt y) := by unfold dMin; rw [if_pos c']
    exact W.dret hx hb hr (fun t ht hW => ⟨_, rfl, e9, ht⟩) (fun q hq => absurd hq List.not_mem_nil) dX1_lesser_11
set_option maxHeartbeats 4000000 in
set_option maxRecDepth 100000 in
theorem mJ9_floorMod_7cf53 (l : Launch) (x : Nat) (hx5 : x < 6) : Met l yJ9_floorMod_7cf53 wsJ9_floorMod_7cf53 ({ frames := 0, cells := 0, slots := 0, locals := 0 } : Room) (va_Pc [.int (nI x), .int (nI 5)] (fun _ => True)) (vp_Si (fun r => r = nI (x % 5))) 0 0 (fun _ => False) := by
  refine va_MetF (cc := cJ9_floorMod_7cf53) (maxL := 3) (ret := (some .int)) (by decide +kernel) rfl ?_
  intro p e s m args below meth c s₁ B hml hv
  obtain ⟨rfl, -⟩ := hv
  have hx := B.exec
  have hb := B.bytes
  have hr := B.returns
  have hts := atoms_spec (ws := wsJ9_floorMod_7cf53) B.pre
  have hown : s.vm.findClass RJ9 = some m.cls := findClass_of_methodNamed B.named
  have hlocks := B.notSynchronized
  have hl := lv_entry ([.int (nI x), .int (nI 5)]) (n := 3) (Nat.le_of_ble_eq_true rfl)
  rw [lg_entry_eq]
  generalize (lg_sl ([.int (nI x), .int (nI 5)]) ++ List.replicate (3 - (lg_sl ([.int (nI x), .int (nI 5)])).length) Slot.unset).toArray = ls at hl ⊢
  have hl : lv_has ls 3 [(0, .int (nI x)), (1, .int (nI 5))] := hl
  refine lv_iload_n hx hb dJ9_floorMod_7cf53_0 rfl (lv_at hl 0 rfl) ?_
  refine lv_iload_n hx hb dJ9_floorMod_7cf53_1 rfl (lv_at hl 1 rfl) ?_
  refine lv_irem hx hb dJ9_floorMod_7cf53_2 (by decide) ?_
  refine xk_i (y := nI (x % 5)) (pk_rem (by omega) (by omega) (by omega)) ?_
  refine lv_istore_n (lv' := [(2, .int (nI (x % 5))), (0, .int (nI x)), (1, .int (nI 5))]) hx hb dJ9_floorMod_7cf53_3 rfl hl (by decide) rfl (fun ls hl => ?_)
  refine lv_iload_n hx hb dJ9_floorMod_7cf53_4 rfl (lv_at hl 1 rfl) ?_
  refine lv_iload_n hx hb dJ9_floorMod_7cf53_5 rfl (lv_at hl 2 rfl) ?_
  refine lv_ixor hx hb dJ9_floorMod_7cf53_6 ?_
  refine lv_if_ge (tgt := 18) hx hb dJ9_floorMod_7cf53_7 (by decide) (fun c => ?_) (fun c => ?_)
  · skip
    refine lv_iload_n hx hb dJ9_floorMod_7cf53_18 rfl (lv_at hl 0 rfl) ?_
    exact W.iret hx hb hr (fun t ht hW => ⟨_, rfl, rfl, ht⟩) (fun q hq => absurd hq List.not_mem_nil) dJ9_floorMod_7cf53_19
  · skip
    exact absurd (fm_x x hx5) c
set_option maxHeartbeats 4000000 in
set_option maxRecDepth 100000 in
theorem mX1_behind (l : Launch) (o : Nat) (ho : o < 5) : Met l yX1_behind wsX1_behind ({ frames := 1, cells := 0, slots := 0, locals := 22 } : Room) (va_Pc [.int (nI o)] (fun _ => True)) (vp_Si (fun r => r = nI ((o + 1) % 5))) 0 0 (fun _ => False) := by
  refine Met.ofW (cc := cX1_behind) (maxL := 1) (ret := (some .int)) (by decide +kernel) rfl ?_
  intro p e s m args below meth c s₁ B hml hv
  obtain ⟨rfl, -⟩ := hv
  have hx := B.exec
  have hb := B.bytes
  have hr := B.returns
  have hts := atoms_spec (ws := wsX1_behind) B.pre
  have hown : s.vm.findClass RX1 = some m.cls := findClass_of_methodNamed B.named
  have hlocks := B.notSynchronized
  have hl := lv_entry ([.int (nI o)]) (n := 1) (Nat.le_of_ble_eq_true rfl)
  rw [lg_entry_eq]
  generalize (lg_sl ([.int (nI o)]) ++ List.replicate (1 - (lg_sl ([.int (nI o)])).length) Slot.unset).toArray = ls at hl ⊢
  have hl : lv_has ls 1 [(0, .int (nI o))] := hl
  refine lv_iload_n hx hb dX1_behind_0 rfl (lv_at hl 0 rfl) ?_
  refine lv_iconst (v := nI 1) hx hb dX1_behind_1 (by decide) ?_
  refine lv_iadd hx hb dX1_behind_2 ?_
  refine xk_i (y := nI (o + 1)) (nI_1 o) ?_
  refine lv_iconst (v := nI 5) hx hb dX1_behind_3 (by decide) ?_
  refine vp_callSi (va_Run.run (va_runS (As := [.int (nI (o + 1)), .int (nI 5)]) (rest := []) ⟨hx, hb, hml, hown, hts⟩ (mJ9_floorMod_7cf53 l (o + 1) (by omega)) (va_cwS 2 hts gX1_behind_J9_floorMod_7cf53 rfl rfl rfl (by decide +kernel) ⟨Nat.le_of_ble_eq_true rfl, Nat.le_of_ble_eq_true rfl⟩) ⟨fun a U g mk q => q, fun U hU hW => ⟨rfl, trivial⟩⟩ rfl rfl hl.1 rfl (lv_room (Nat.le_of_ble_eq_true rfl)) dX1_behind_4 ⟨Nat.le_of_ble_eq_true rfl, Nat.le_of_ble_eq_true rfl⟩)) (fun r hr1 => ?_)
  exact W.iret hx hb hr (fun t ht hW => ⟨_, rfl, hr1, ht⟩) (fun q hq => absurd hq List.not_mem_nil) dX1_behind_7
end
section
/-! GridCommons: what only reads -/
theorem nI_nm1 : ∀ j, j < 5 → ¬ nI j = -1 := by decide
set_option maxHeartbeats 4000000 in
set_option maxRecDepth 100000 in
theorem mX1_sumOfNeeds (l : Launch) (D : va_G) (cI cZ cD : ClassId) (a : Nat → Nat) (sz : Nat) (sh sw ts : Nat → Int32) (bi : Nat → UInt64) (it tu : Nat → Int32) (ne : Nat → UInt64) (pr so lo : UInt64) (wt cn : Int32) (lp lz lu : Nat → UInt64) (lk : Nat → Int32) (ld lf lb lw : Nat → UInt64) (V : Nat → Dm) (hV : is5 ne V) : MetD lw_cs l yX1_sumOfNeeds wsX1_sumOfNeeds ({ frames := 0, cells := 0, slots := 0, locals := 0 } : Room) (va_Pc [.ref (a 0)] (XP D cI cZ cD (XW a cI cZ cD sh sw ts bi it tu ne pr so lo wt cn lp lz lu lk ld lf lb lw) sz)) (va_Qd (fun (r : UInt64) (u : Unit) => dt r = sumD V 5) (fun (u : Unit) t => XB D cI cZ cD (XW a cI cZ cD sh sw ts bi it tu ne pr so lo wt cn lp lz lu lk ld lf lb lw) (va_A (XW a cI cZ cD sh sw ts bi it tu ne pr so lo wt cn lp lz lu lk ld lf lb lw) sz) t) (va_A (XW a cI cZ cD sh sw ts bi it tu ne pr so lo wt cn lp lz lu lk ld lf lb lw) sz)) 0 0 (va_A (XW a cI cZ cD sh sw ts bi it tu ne pr so lo wt cn lp lz lu lk ld lf lb lw) sz) := by
  refine MetD.ofW (cc := cX1_sumOfNeeds) (maxL := 4) (ret := (some .double)) (by decide +kernel) rfl ?_
  intro p e s m args below meth c s₁ B hml hv hd0
  obtain ⟨rfl, hsz, hP, hK, hD0⟩ := hv
  have hx := B.exec
  have hb := B.bytes
  have hr := B.returns
  have hts := atoms_spec (ws := wsX1_sumOfNeeds) B.pre
  have hown : s.vm.findClass RX1 = some m.cls := findClass_of_methodNamed B.named
  have hlocks := B.notSynchronized
  subst hsz
  have hD := hD0.self (sz := s.heap.size)
  generalize hAe : va_A (XW a cI cZ cD sh sw ts bi it tu ne pr so lo wt cn lp lz lu lk ld lf lb lw) s.heap.size = A at hD ⊢
  have hA : ∀ q : Nat, s.heap.size ≤ q → A q := fun q h => by rw [← hAe]; exact Or.inr h
  have hS : va_S A s.heap s.heap [] := va_S.rf
  have hl := lv_entry ([.ref (a 0)]) (n := 4) (Nat.le_of_ble_eq_true rfl)
  rw [lg_entry_eq]
  generalize (lg_sl ([.ref (a 0)]) ++ List.replicate (4 - (lg_sl ([.ref (a 0)])).length) Slot.unset).toArray = ls at hl ⊢
  have hl : lv_has ls 4 [(0, .ref (a 0))] := hl
  have inX1 : ∀ w ∈ wsX10, w ∈ wsX1_sumOfNeeds := by decide +kernel
  refine lv_dconst0 hx hb dX1_sumOfNeeds_0 ?_
  refine lv_dstore_n (lv' := [(1, .double FP.dconst0), (0, .ref (a 0))]) hx hb dX1_sumOfNeeds_1 rfl hl (by decide) rfl (fun ls hl => ?_)
  refine lv_iconst (v := nI 0) hx hb dX1_sumOfNeeds_2 (by decide) ?_
  refine lv_istore_n (lv' := [(3, .int (nI 0)), (1, .double FP.dconst0), (0, .ref (a 0))]) hx hb dX1_sumOfNeeds_3 rfl hl (by decide) rfl (fun ls hl => ?_)
  refine xk_loop (fun i H locs ls d => ∃ (x : UInt64), (dt x = sumD V i) ∧ (va_P D vwCl (XW a cI cZ cD sh sw ts bi it tu ne pr so lo wt cn lp lz lu lk ld lf lb lw) H) ∧ (va_D A (XW a cI cZ cD sh sw ts bi it tu ne pr so lo wt cn lp lz lu lk ld lf lb lw)) ∧ (va_S A s.heap H locs) ∧ (s.drawn.sameBut d lw_cs) ∧ (lv_has ls 4 [(0, .ref (a 0)), (1, .double x), (3, .int (nI i))])) 5 ?_ (i := 0) (Nat.zero_le _) ⟨FP.dconst0, rfl, hP, hD, hS, hd0, lv_sub hl [2, 1, 0] rfl⟩
  intro i H locs ls d hi hI next
  obtain ⟨x, hq0, hP, hD, hS, hdl, hl⟩ := hI
  refine lv_iload_n hx hb dX1_sumOfNeeds_4 rfl (lv_at hl 2 rfl) ?_
  refine lv_iconst (v := nI 5) hx hb dX1_sumOfNeeds_5 (by decide) ?_
  refine lv_icmp_ge (tgt := 24) hx hb dX1_sumOfNeeds_6 (by decide) (fun c => ?_) (fun c => ?_)
  · skip
    obtain rfl := xk_ge hi (by decide) c
    refine lv_dload_n hx hb dX1_sumOfNeeds_24 rfl (lv_at hl 1 rfl) ?_
    refine W.endD hdl ?_
    exact W.dret hx hb hr (fun t ht hW => ⟨⟨_, (), rfl, hq0, by rw [ht]; exact hP, va_K.moved hW.alike (xk_Kd hK), hD⟩, hS.F ht⟩) hS.2.2 dX1_sumOfNeeds_25
  · skip
    have hlt := xk_nge hi (by decide) c
    refine lv_dload_n hx hb dX1_sumOfNeeds_9 rfl (lv_at hl 1 rfl) ?_
    refine lv_aload_n hx hb dX1_sumOfNeeds_10 rfl (lv_at hl 0 rfl) ?_
    refine va_get (D := D) (ci := 1) (v := .ref (a 7)) (C := RX1) (T := TX1) (N := 12) hx hb (dr_words hts _) inX1 (xk_od hown) (xk_Kd hK) hP 0 rfl rfl 10 (by decide) (dr_words hts _ (.fieldLink RX1 50 "GridCommons" "needs" "[D") (by decide +kernel)) (fun _ h9 => h9) rfl dX1_sumOfNeeds_11 ?_
    refine lv_iload_n hx hb dX1_sumOfNeeds_14 rfl (lv_at hl 2 rfl) ?_
    refine xk_dald hx hb (xk_Kd hK) hP 7 2 rfl rfl (o := i) (by omega) (by decide) dX1_sumOfNeeds_15 ?_
    refine lv_dadd_any hdl lw_bits hx hb dX1_sumOfNeeds_16 (fun r1 _ hal hd2 => ?_)
    have er1 := dt_add hal
    refine lv_dstore_n (lv' := [(1, .double r1), (0, .ref (a 0)), (3, .int (nI i))]) hx hb dX1_sumOfNeeds_17 rfl hl (by decide) rfl (fun ls hl => ?_)
    refine lv_iinc (v := nI (i + 1)) (lv' := [(3, .int (nI (i + 1))), (1, .double r1), (0, .ref (a 0))]) hx hb dX1_sumOfNeeds_18 hl (k := 2) rfl (nI_1 i) (by decide) rfl (fun ls hl => ?_)
    refine lv_goto (tgt := 4) hx hb dX1_sumOfNeeds_21 (by decide) ?_
    exact next _ _ _ _ hlt ⟨r1, (by rw [er1, hq0, hV i hlt]; rfl), hP, hD, hS, hd2, lv_sub hl [2, 1, 0] rfl⟩
set_option maxHeartbeats 4000000 in
set_option maxRecDepth 100000 in
theorem mX1_isOverLine (l : Launch) (D : va_G) (cI cZ cD : ClassId) (a : Nat → Nat) (sz : Nat) (sh sw ts : Nat → Int32) (bi : Nat → UInt64) (it tu : Nat → Int32) (ne : Nat → UInt64) (pr so lo : UInt64) (wt cn : Int32) (lp lz lu : Nat → UInt64) (lk : Nat → Int32) (ld lf lb lw : Nat → UInt64) (V : Nat → Dm) (hV : is5 ne V) : MetD lw_cs l yX1_isOverLine wsX1_isOverLine ({ frames := 1, cells := 0, slots := 0, locals := 23 } : Room) (va_Pc [.ref (a 0)] (XP D cI cZ cD (XW a cI cZ cD sh sw ts bi it tu ne pr so lo wt cn lp lz lu lk ld lf lb lw) sz)) (va_Qi (fun (r : Int32) (u : Unit) => r = bI (over V)) (fun (u : Unit) t => XB D cI cZ cD (XW a cI cZ cD sh sw ts bi it tu ne pr so lo wt cn lp lz lu lk ld lf lb lw) (va_A (XW a cI cZ cD sh sw ts bi it tu ne pr so lo wt cn lp lz lu lk ld lf lb lw) sz) t) (va_A (XW a cI cZ cD sh sw ts bi it tu ne pr so lo wt cn lp lz lu lk ld lf lb lw) sz)) 0 0 (va_A (XW a cI cZ cD sh sw ts bi it tu ne pr so lo wt cn lp lz lu lk ld lf lb lw) sz) := by
  refine MetD.ofW (cc := cX1_isOverLine) (maxL := 1) (ret := (some .boolean)) (by decide +kernel) rfl ?_
  intro p e s m args below meth c s₁ B hml hv hd0
  obtain ⟨rfl, hsz, hP, hK, hD0⟩ := hv
  have hx := B.exec
  have hb := B.bytes
  have hr := B.returns
  have hts := atoms_spec (ws := wsX1_isOverLine) B.pre
  have hown : s.vm.findClass RX1 = some m.cls := findClass_of_methodNamed B.named
  have hlocks := B.notSynchronized
  subst hsz
  have hD := hD0.self (sz := s.heap.size)
  generalize hAe : va_A (XW a cI cZ cD sh sw ts bi it tu ne pr so lo wt cn lp lz lu lk ld lf lb lw) s.heap.size = A at hD ⊢
  have hA : ∀ q : Nat, s.heap.size ≤ q → A q := fun q h => by rw [← hAe]; exact Or.inr h
  have hS : va_S A s.heap s.heap [] := va_S.rf
  have hl := lv_entry ([.ref (a 0)]) (n := 1) (Nat.le_of_ble_eq_true rfl)
  rw [lg_entry_eq]
  generalize (lg_sl ([.ref (a 0)]) ++ List.replicate (1 - (lg_sl ([.ref (a 0)])).length) Slot.unset).toArray = ls at hl ⊢
  have hl : lv_has ls 1 [(0, .ref (a 0))] := hl
  refine lv_aload_n hx hb dX1_isOverLine_0 rfl (lv_at hl 0 rfl) ?_
  have hFc := va_free (wc := XW a cI cZ cD sh sw ts bi it tu ne pr so lo wt cn lp lz lu lk ld lf lb lw) hD hS hA [0, 1, 2, 3, 4, 5, 6, 7, 8, 9, 10, 11, 12, 13, 14, 15, 16] rfl
  refine va_calldD hd0 (va_runV_D (As := []) (rest := []) ⟨hx, hb, hml, (xk_od hown), (dr_words hts _)⟩ (mX1_sumOfNeeds l D cI cZ cD a _ sh sw ts bi it tu ne pr so lo wt cn lp lz lu lk ld lf lb lw V hV) (cwV 0 (dr_words hts _) gX1_isOverLine_X1_sumOfNeeds rfl rfl rfl (by decide +kernel) ⟨Nat.le_of_ble_eq_true rfl, Nat.le_of_ble_eq_true rfl⟩) ⟨xk_blind, va_recv (xk_Kd hK) hP (ci := 1) (q0 := 0) rfl rfl, xk_pre hP (xk_Kd hK) hD⟩ rfl rfl hl.1 rfl (lv_room (Nat.le_of_ble_eq_true rfl)) dX1_isOverLine_1 ⟨Nat.le_of_ble_eq_true rfl, Nat.le_of_ble_eq_true rfl⟩) hS (fun q _ h => hFc q h) hFc (fun r u t H locs ht hvm hw hB hz1 hk1 hS _ hd1 => ?_)
  obtain ⟨hP, -, hD1⟩ := hB
  rw [ht] at hP
  have hD := hD1.weaken (B := A) (fun _ _ _ h => hFc _ h)
  have hP : va_P D vwCl (XW a cI cZ cD sh sw ts bi it tu ne pr so lo wt cn lp lz lu lk ld lf lb lw) H := hP
  have hD : va_D A (XW a cI cZ cD sh sw ts bi it tu ne pr so lo wt cn lp lz lu lk ld lf lb lw) := hD
  refine lv_ldc2d hx hb (xk_od hown) (dr_words hts _ (.constantDouble RX1 169 4636737291354636288) (by decide +kernel)) dX1_isOverLine_4 ?_
  refine lv_dcmp hx hb dX1_isOverLine_7 ?_
  refine lv_if_le (tgt := 15) hx hb dX1_isOverLine_8 (by decide) (fun c => ?_) (fun c => ?_)
  · skip
    refine lv_iconst (v := nI 0) hx hb dX1_isOverLine_15 (by decide) ?_
    have e9 : (nI 0 : Int32) = bI (over V) := (bI_f (fun q => (cv_l_le _).mp c (show dCmp (dt r) d100 = some .gt by rw [hw]; exact q))).symm
    refine W.endD hd1 ?_
    exact W.zret hx hb hr rfl (fun t ht hW => ⟨⟨_, (), rfl, e9, by rw [ht]; exact hP, va_K.moved hW.alike (xk_Kd hK), hD⟩, hS.F ht⟩) hS.2.2 dX1_isOverLine_16
  · skip
    refine lv_iconst (v := nI 1) hx hb dX1_isOverLine_11 (by decide) ?_
    refine lv_goto (tgt := 16) hx hb dX1_isOverLine_12 (by decide) ?_
    have e9 : (nI 1 : Int32) = bI (over V) := (bI_t (by have q := Decidable.of_not_not (fun q => c ((cv_l_le _).mpr q)); have q2 : dCmp (dt r) d100 = some .gt := q; rw [hw] at q2; exact q2)).symm
    refine W.endD hd1 ?_
    exact W.zret hx hb hr rfl (fun t ht hW => ⟨⟨_, (), rfl, e9, by rw [ht]; exact hP, va_K.moved hW.alike (xk_Kd hK), hD⟩, hS.F ht⟩) hS.2.2 dX1_isOverLine_16
set_option maxHeartbeats 4000000 in
set_option maxRecDepth 100000 in
theorem mX1_sumOfShares (l : Launch) (D : va_G) (cI cZ cD : ClassId) (a : Nat → Nat) (sz : Nat) (sh sw ts : Nat → Int32) (bi : Nat → UInt64) (it tu : Nat → Int32) (ne : Nat → UInt64) (pr so lo : UInt64) (wt cn : Int32) (lp lz lu : Nat → UInt64) (lk : Nat → Int32) (ld lf lb lw : Nat → UInt64)  : Met l yX1_sumOfShares wsX1_sumOfShares ({ frames := 0, cells := 0, slots := 0, locals := 0 } : Room) (va_Pc [.ref (a 0)] (XP D cI cZ cD (XW a cI cZ cD sh sw ts bi it tu ne pr so lo wt cn lp lz lu lk ld lf lb lw) sz)) (va_Qi (fun (r : Int32) (u : Unit) => r = sumI sh 5) (fun (u : Unit) t => XB D cI cZ cD (XW a cI cZ cD sh sw ts bi it tu ne pr so lo wt cn lp lz lu lk ld lf lb lw) (va_A (XW a cI cZ cD sh sw ts bi it tu ne pr so lo wt cn lp lz lu lk ld lf lb lw) sz) t) (va_A (XW a cI cZ cD sh sw ts bi it tu ne pr so lo wt cn lp lz lu lk ld lf lb lw) sz)) 0 0 (va_A (XW a cI cZ cD sh sw ts bi it tu ne pr so lo wt cn lp lz lu lk ld lf lb lw) sz) := by
  refine Met.ofW (cc := cX1_sumOfShares) (maxL := 3) (ret := (some .int)) (by decide +kernel) rfl ?_
  intro p e s m args below meth c s₁ B hml hv
  obtain ⟨rfl, hsz, hP, hK, hD0⟩ := hv
  have hx := B.exec
  have hb := B.bytes
  have hr := B.returns
  have hts := atoms_spec (ws := wsX1_sumOfShares) B.pre
  have hown : s.vm.findClass RX1 = some m.cls := findClass_of_methodNamed B.named
  have hlocks := B.notSynchronized
  subst hsz
  have hD := hD0.self (sz := s.heap.size)
  generalize hAe : va_A (XW a cI cZ cD sh sw ts bi it tu ne pr so lo wt cn lp lz lu lk ld lf lb lw) s.heap.size = A at hD ⊢
  have hA : ∀ q : Nat, s.heap.size ≤ q → A q := fun q h => by rw [← hAe]; exact Or.inr h
  have hS : va_S A s.heap s.heap [] := va_S.rf
  have hl := lv_entry ([.ref (a 0)]) (n := 3) (Nat.le_of_ble_eq_true rfl)
  rw [lg_entry_eq]
  generalize (lg_sl ([.ref (a 0)]) ++ List.replicate (3 - (lg_sl ([.ref (a 0)])).length) Slot.unset).toArray = ls at hl ⊢
  have hl : lv_has ls 3 [(0, .ref (a 0))] := hl
  have inX1 : ∀ w ∈ wsX10, w ∈ wsX1_sumOfShares := by decide +kernel
  refine lv_iconst (v := nI 0) hx hb dX1_sumOfShares_0 (by decide) ?_
  refine lv_istore_n (lv' := [(1, .int (nI 0)), (0, .ref (a 0))]) hx hb dX1_sumOfShares_1 rfl hl (by decide) rfl (fun ls hl => ?_)
  refine lv_iconst (v := nI 0) hx hb dX1_sumOfShares_2 (by decide) ?_
  refine lv_istore_n (lv' := [(2, .int (nI 0)), (1, .int (nI 0)), (0, .ref (a 0))]) hx hb dX1_sumOfShares_3 rfl hl (by decide) rfl (fun ls hl => ?_)
  refine xk_loopP (fun i H locs ls => (va_P D vwCl (XW a cI cZ cD sh sw ts bi it tu ne pr so lo wt cn lp lz lu lk ld lf lb lw) H) ∧ (va_D A (XW a cI cZ cD sh sw ts bi it tu ne pr so lo wt cn lp lz lu lk ld lf lb lw)) ∧ (va_S A s.heap H locs) ∧ (lv_has ls 3 [(0, .ref (a 0)), (1, .int (sumI sh i)), (2, .int (nI i))])) 5 ?_ (i := 0) (Nat.zero_le _) ⟨hP, hD, hS, lv_sub hl [2, 1, 0] rfl⟩
  intro i H locs ls hi hI next
  obtain ⟨hP, hD, hS, hl⟩ := hI
  refine lv_iload_n hx hb dX1_sumOfShares_4 rfl (lv_at hl 2 rfl) ?_
  refine lv_iconst (v := nI 5) hx hb dX1_sumOfShares_5 (by decide) ?_
  refine lv_icmp_ge (tgt := 24) hx hb dX1_sumOfShares_6 (by decide) (fun c => ?_) (fun c => ?_)
  · skip
    obtain rfl := xk_ge hi (by decide) c
    refine lv_iload_n hx hb dX1_sumOfShares_24 rfl (lv_at hl 1 rfl) ?_
    exact W.iret hx hb hr (fun t ht hW => ⟨⟨_, (), rfl, rfl, by rw [ht]; exact hP, va_K.moved hW.alike hK, hD⟩, hS.F ht⟩) hS.2.2 dX1_sumOfShares_25
  · skip
    have hlt := xk_nge hi (by decide) c
    refine lv_iload_n hx hb dX1_sumOfShares_9 rfl (lv_at hl 1 rfl) ?_
    refine lv_aload_n hx hb dX1_sumOfShares_10 rfl (lv_at hl 0 rfl) ?_
    refine va_get (D := D) (ci := 1) (v := .ref (a 1)) (C := RX1) (T := TX1) (N := 12) hx hb hts inX1 hown hK hP 0 rfl rfl 0 (by decide) (hts (.fieldLink RX1 9 "GridCommons" "shares" "[I") (by decide +kernel)) (fun _ h9 => h9) rfl dX1_sumOfShares_11 ?_
    refine lv_iload_n hx hb dX1_sumOfShares_14 rfl (lv_at hl 2 rfl) ?_
    refine xk_iald hx hb hK hP 1 0 rfl rfl (o := i) (by omega) (by decide) dX1_sumOfShares_15 ?_
    refine lv_iadd hx hb dX1_sumOfShares_16 ?_
    refine lv_istore_n (lv' := [(1, .int ((sumI sh i) + (sh i))), (0, .ref (a 0)), (2, .int (nI i))]) hx hb dX1_sumOfShares_17 rfl hl (by decide) rfl (fun ls hl => ?_)
    refine lv_iinc (v := nI (i + 1)) (lv' := [(2, .int (nI (i + 1))), (1, .int ((sumI sh i) + (sh i))), (0, .ref (a 0))]) hx hb dX1_sumOfShares_18 hl (k := 2) rfl (nI_1 i) (by decide) rfl (fun ls hl => ?_)
    refine lv_goto (tgt := 4) hx hb dX1_sumOfShares_21 (by decide) ?_
    exact next _ _ _ hlt ⟨hP, hD, hS, lv_sub hl [2, 1, 0] rfl⟩
set_option maxHeartbeats 4000000 in
set_option maxRecDepth 100000 in
theorem mX1_nextToShed (l : Launch) (D : va_G) (cI cZ cD : ClassId) (a : Nat → Nat) (sz : Nat) (sh sw ts : Nat → Int32) (bi : Nat → UInt64) (it tu : Nat → Int32) (ne : Nat → UInt64) (pr so lo : UInt64) (wt cn : Int32) (lp lz lu : Nat → UInt64) (lk : Nat → Int32) (ld lf lb lw : Nat → UInt64) (V : Nat → Dm) (hV : is5 ne V) : Met l yX1_nextToShed wsX1_nextToShed ({ frames := 0, cells := 0, slots := 0, locals := 0 } : Room) (va_Pc [.ref (a 0)] (XP D cI cZ cD (XW a cI cZ cD sh sw ts bi it tu ne pr so lo wt cn lp lz lu lk ld lf lb lw) sz)) (va_Qi (fun (r : Int32) (u : Unit) => r = oi (nx sw ts V 5)) (fun (u : Unit) t => XB D cI cZ cD (XW a cI cZ cD sh sw ts bi it tu ne pr so lo wt cn lp lz lu lk ld lf lb lw) (va_A (XW a cI cZ cD sh sw ts bi it tu ne pr so lo wt cn lp lz lu lk ld lf lb lw) sz) t) (va_A (XW a cI cZ cD sh sw ts bi it tu ne pr so lo wt cn lp lz lu lk ld lf lb lw) sz)) 0 0 (va_A (XW a cI cZ cD sh sw ts bi it tu ne pr so lo wt cn lp lz lu lk ld lf lb lw) sz) := by
  refine Met.ofW (cc := cX1_nextToShed) (maxL := 4) (ret := (some .int)) (by decide +kernel) rfl ?_
  intro p e s m args below meth c s₁ B hml hv
  obtain ⟨rfl, hsz, hP, hK, hD0⟩ := hv
  have hx := B.exec
  have hb := B.bytes
  have hr := B.returns
  have hts := atoms_spec (ws := wsX1_nextToShed) B.pre
  have hown : s.vm.findClass RX1 = some m.cls := findClass_of_methodNamed B.named
  have hlocks := B.notSynchronized
  subst hsz
  have hD := hD0.self (sz := s.heap.size)
  generalize hAe : va_A (XW a cI cZ cD sh sw ts bi it tu ne pr so lo wt cn lp lz lu lk ld lf lb lw) s.heap.size = A at hD ⊢
  have hA : ∀ q : Nat, s.heap.size ≤ q → A q := fun q h => by rw [← hAe]; exact Or.inr h
  have hS : va_S A s.heap s.heap [] := va_S.rf
  have hl := lv_entry ([.ref (a 0)]) (n := 4) (Nat.le_of_ble_eq_true rfl)
  rw [lg_entry_eq]
  generalize (lg_sl ([.ref (a 0)]) ++ List.replicate (4 - (lg_sl ([.ref (a 0)])).length) Slot.unset).toArray = ls at hl ⊢
  have hl : lv_has ls 4 [(0, .ref (a 0))] := hl
  have inX1 : ∀ w ∈ wsX10, w ∈ wsX1_nextToShed := by decide +kernel
  refine lv_iconst (v := (-1)) hx hb dX1_nextToShed_0 (by decide) ?_
  refine lv_istore_n (lv' := [(1, .int (-1)), (0, .ref (a 0))]) hx hb dX1_nextToShed_1 rfl hl (by decide) rfl (fun ls hl => ?_)
  refine lv_iconst (v := nI 0) hx hb dX1_nextToShed_2 (by decide) ?_
  refine lv_istore_n (lv' := [(2, .int (nI 0)), (1, .int (-1)), (0, .ref (a 0))]) hx hb dX1_nextToShed_3 rfl hl (by decide) rfl (fun ls hl => ?_)
  refine xk_loopP (fun i H locs ls => (va_P D vwCl (XW a cI cZ cD sh sw ts bi it tu ne pr so lo wt cn lp lz lu lk ld lf lb lw) H) ∧ (va_D A (XW a cI cZ cD sh sw ts bi it tu ne pr so lo wt cn lp lz lu lk ld lf lb lw)) ∧ (va_S A s.heap H locs) ∧ (lv_has ls 4 [(0, .ref (a 0)), (1, .int (oi (nx sw ts V i))), (2, .int (nI i))])) 5 ?_ (i := 0) (Nat.zero_le _) ⟨hP, hD, hS, lv_sub hl [2, 1, 0] rfl⟩
  intro i H locs ls hi hI next
  obtain ⟨hP, hD, hS, hl⟩ := hI
  refine lv_iload_n hx hb dX1_nextToShed_4 rfl (lv_at hl 2 rfl) ?_
  refine lv_iconst (v := nI 5) hx hb dX1_nextToShed_5 (by decide) ?_
  refine lv_icmp_ge (tgt := 67) hx hb dX1_nextToShed_6 (by decide) (fun c => ?_) (fun c => ?_)
  · skip
    obtain rfl := xk_ge hi (by decide) c
    refine lv_iload_n hx hb dX1_nextToShed_67 rfl (lv_at hl 1 rfl) ?_
    exact W.iret hx hb hr (fun t ht hW => ⟨⟨_, (), rfl, rfl, by rw [ht]; exact hP, va_K.moved hW.alike hK, hD⟩, hS.F ht⟩) hS.2.2 dX1_nextToShed_68
  · skip
    have hlt := xk_nge hi (by decide) c
    have e0 : nx sw ts V (i + 1) = match nx sw ts V i with | none => if may sw V i then some i else none | some j => if may sw V i ∧ ts i < ts j then some i else some j := rfl
    obtain ⟨y, hy⟩ : ∃ y, y = nx sw ts V i := ⟨_, rfl⟩
    rw [← hy] at e0 hl
    refine lv_aload_n hx hb dX1_nextToShed_9 rfl (lv_at hl 0 rfl) ?_
    refine va_get (D := D) (ci := 1) (v := .ref (a 2)) (C := RX1) (T := TX1) (N := 12) hx hb hts inX1 hown hK hP 0 rfl rfl 1 (by decide) (hts (.fieldLink RX1 13 "GridCommons" "switches" "[Z") (by decide +kernel)) (fun _ h9 => h9) rfl dX1_nextToShed_10 ?_
    refine lv_iload_n hx hb dX1_nextToShed_13 rfl (lv_at hl 2 rfl) ?_
    refine xk_zald hx hb hK hP 2 1 rfl rfl (o := i) (by omega) (by decide) dX1_nextToShed_14 ?_
    refine lv_if_eq (tgt := 33) hx hb dX1_nextToShed_15 (by decide) (fun c1 => ?_) (fun c1 => ?_)
    · skip
      refine lv_iconst (v := nI 0) hx hb dX1_nextToShed_33 (by decide) ?_
      refine lv_istore_n (lv' := [(3, .int (nI 0)), (0, .ref (a 0)), (1, .int (oi y)), (2, .int (nI i))]) hx hb dX1_nextToShed_34 rfl hl (by decide) rfl (fun ls hl => ?_)
      refine lv_iload_n hx hb dX1_nextToShed_35 rfl (lv_at hl 0 rfl) ?_
      refine lv_if_eq (tgt := 61) hx hb dX1_nextToShed_36 (by decide) (fun c9 => ?_) (fun c9 => ?_)
      · skip
        have hm : ¬ may sw V i := fun q => q.1 c1
        have e9 : nx sw ts V (i + 1) = y := by
          rw [e0]
          cases y with
          | none => dsimp only; rw [if_neg hm]
          | some j => dsimp only; rw [if_neg (fun q => hm q.1)]
        refine lv_iinc (v := nI (i + 1)) (lv' := [(2, .int (nI (i + 1))), (3, .int (nI 0)), (0, .ref (a 0)), (1, .int (oi y))]) hx hb dX1_nextToShed_61 hl (k := 3) rfl (nI_1 i) (by decide) rfl (fun ls hl => ?_)
        refine lv_goto (tgt := 4) hx hb dX1_nextToShed_64 (by decide) ?_
        have hl : lv_has ls 4 [(2, .int (nI (i + 1))), (3, .int (nI 0)), (0, .ref (a 0)), (1, .int (oi (nx sw ts V (i + 1))))] := (by rw [e9]; exact hl)
        exact next _ _ _ hlt ⟨hP, hD, hS, lv_sub hl [2, 3, 0] rfl⟩
      · skip
        exact absurd rfl c9
    · skip
      refine lv_aload_n hx hb dX1_nextToShed_18 rfl (lv_at hl 0 rfl) ?_
      refine va_get (D := D) (ci := 1) (v := .ref (a 7)) (C := RX1) (T := TX1) (N := 12) hx hb hts inX1 hown hK hP 0 rfl rfl 10 (by decide) (hts (.fieldLink RX1 50 "GridCommons" "needs" "[D") (by decide +kernel)) (fun _ h9 => h9) rfl dX1_nextToShed_19 ?_
      refine lv_iload_n hx hb dX1_nextToShed_22 rfl (lv_at hl 2 rfl) ?_
      refine xk_dald hx hb hK hP 7 2 rfl rfl (o := i) (by omega) (by decide) dX1_nextToShed_23 ?_
      refine lv_dconst0 hx hb dX1_nextToShed_24 ?_
      refine lv_dcmp hx hb dX1_nextToShed_25 ?_
      refine lv_if_le (tgt := 33) hx hb dX1_nextToShed_26 (by decide) (fun c2 => ?_) (fun c2 => ?_)
      · skip
        refine lv_iconst (v := nI 0) hx hb dX1_nextToShed_33 (by decide) ?_
        refine lv_istore_n (lv' := [(3, .int (nI 0)), (0, .ref (a 0)), (1, .int (oi y)), (2, .int (nI i))]) hx hb dX1_nextToShed_34 rfl hl (by decide) rfl (fun ls hl => ?_)
        refine lv_iload_n hx hb dX1_nextToShed_35 rfl (lv_at hl 0 rfl) ?_
        refine lv_if_eq (tgt := 61) hx hb dX1_nextToShed_36 (by decide) (fun c9 => ?_) (fun c9 => ?_)
        · skip
          have hm : ¬ may sw V i := fun q => (cv_l_le _).mp c2 (by show dCmp _ _ = _; have q2 := q.2; rw [← hV i hlt] at q2; exact q2)
          have e9 : nx sw ts V (i + 1) = y := by
            rw [e0]
            cases y with
            | none => dsimp only; rw [if_neg hm]
            | some j => dsimp only; rw [if_neg (fun q => hm q.1)]
          refine lv_iinc (v := nI (i + 1)) (lv' := [(2, .int (nI (i + 1))), (3, .int (nI 0)), (0, .ref (a 0)), (1, .int (oi y))]) hx hb dX1_nextToShed_61 hl (k := 3) rfl (nI_1 i) (by decide) rfl (fun ls hl => ?_)
          refine lv_goto (tgt := 4) hx hb dX1_nextToShed_64 (by decide) ?_
          have hl : lv_has ls 4 [(2, .int (nI (i + 1))), (3, .int (nI 0)), (0, .ref (a 0)), (1, .int (oi (nx sw ts V (i + 1))))] := (by rw [e9]; exact hl)
          exact next _ _ _ hlt ⟨hP, hD, hS, lv_sub hl [2, 3, 0] rfl⟩
        · skip
          exact absurd rfl c9
      · skip
        have hm : may sw V i := ⟨c1, by have q := Decidable.of_not_not (fun q => c2 ((cv_l_le _).mpr q)); have q2 : dCmp (dt (ne i)) dZ = some .gt := q; rw [hV i hlt] at q2; exact q2⟩
        refine lv_iconst (v := nI 1) hx hb dX1_nextToShed_29 (by decide) ?_
        refine lv_goto (tgt := 34) hx hb dX1_nextToShed_30 (by decide) ?_
        refine lv_istore_n (lv' := [(3, .int (nI 1)), (0, .ref (a 0)), (1, .int (oi y)), (2, .int (nI i))]) hx hb dX1_nextToShed_34 rfl hl (by decide) rfl (fun ls hl => ?_)
        refine lv_iload_n hx hb dX1_nextToShed_35 rfl (lv_at hl 0 rfl) ?_
        refine lv_if_eq (tgt := 61) hx hb dX1_nextToShed_36 (by decide) (fun c3 => ?_) (fun c3 => ?_)
        · skip
          exact absurd c3 (by decide)
        · skip
          cases y with
          | none =>
            have hl : lv_has ls 4 [(3, .int (nI 1)), (0, .ref (a 0)), (1, .int (-1)), (2, .int (nI i))] := hl
            refine lv_iload_n hx hb dX1_nextToShed_39 rfl (lv_at hl 2 rfl) ?_
            refine lv_iconst (v := (-1)) hx hb dX1_nextToShed_40 (by decide) ?_
            refine lv_icmp_eq (tgt := 59) hx hb dX1_nextToShed_41 (by decide) (fun c4 => ?_) (fun c4 => ?_)
            · skip
              refine lv_iload_n hx hb dX1_nextToShed_59 rfl (lv_at hl 3 rfl) ?_
              refine lv_istore_n (lv' := [(1, .int (nI i)), (3, .int (nI 1)), (0, .ref (a 0)), (2, .int (nI i))]) hx hb dX1_nextToShed_60 rfl hl (by decide) rfl (fun ls hl => ?_)
              have e9 : nx sw ts V (i + 1) = some i := by rw [e0]; dsimp only; rw [if_pos hm]
              refine lv_iinc (v := nI (i + 1)) (lv' := [(2, .int (nI (i + 1))), (1, .int (nI i)), (3, .int (nI 1)), (0, .ref (a 0))]) hx hb dX1_nextToShed_61 hl (k := 3) rfl (nI_1 i) (by decide) rfl (fun ls hl => ?_)
              refine lv_goto (tgt := 4) hx hb dX1_nextToShed_64 (by decide) ?_
              have hl : lv_has ls 4 [(2, .int (nI (i + 1))), (1, .int (oi (nx sw ts V (i + 1)))), (3, .int (nI 1)), (0, .ref (a 0))] := (by rw [e9]; exact hl)
              exact next _ _ _ hlt ⟨hP, hD, hS, lv_sub hl [3, 1, 0] rfl⟩
            · skip
              exact absurd rfl c4
          | some j =>
            have hl : lv_has ls 4 [(3, .int (nI 1)), (0, .ref (a 0)), (1, .int (nI j)), (2, .int (nI i))] := hl
            have hj := (nx_lt hy.symm).1
            refine lv_iload_n hx hb dX1_nextToShed_39 rfl (lv_at hl 2 rfl) ?_
            refine lv_iconst (v := (-1)) hx hb dX1_nextToShed_40 (by decide) ?_
            refine lv_icmp_eq (tgt := 59) hx hb dX1_nextToShed_41 (by decide) (fun c4 => ?_) (fun c4 => ?_)
            · skip
              exact absurd c4 (nI_nm1 j (by omega))
            · skip
              refine lv_aload_n hx hb dX1_nextToShed_44 rfl (lv_at hl 1 rfl) ?_
              refine va_get (D := D) (ci := 1) (v := .ref (a 3)) (C := RX1) (T := TX1) (N := 12) hx hb hts inX1 hown hK hP 0 rfl rfl 2 (by decide) (hts (.fieldLink RX1 17 "GridCommons" "timesShed" "[I") (by decide +kernel)) (fun _ h9 => h9) rfl dX1_nextToShed_45 ?_
              refine lv_iload_n hx hb dX1_nextToShed_48 rfl (lv_at hl 3 rfl) ?_
              refine xk_iald hx hb hK hP 3 0 rfl rfl (o := i) (by omega) (by decide) dX1_nextToShed_49 ?_
              refine lv_aload_n hx hb dX1_nextToShed_50 rfl (lv_at hl 1 rfl) ?_
              refine va_get (D := D) (ci := 1) (v := .ref (a 3)) (C := RX1) (T := TX1) (N := 12) hx hb hts inX1 hown hK hP 0 rfl rfl 2 (by decide) (hts (.fieldLink RX1 17 "GridCommons" "timesShed" "[I") (by decide +kernel)) (fun _ h9 => h9) rfl dX1_nextToShed_51 ?_
              refine lv_iload_n hx hb dX1_nextToShed_54 rfl (lv_at hl 2 rfl) ?_
              refine xk_iald hx hb hK hP 3 0 rfl rfl (o := j) (by omega) (by decide) dX1_nextToShed_55 ?_
              refine lv_icmp_ge (tgt := 61) hx hb dX1_nextToShed_56 (by decide) (fun c5 => ?_) (fun c5 => ?_)
              · skip
                have e9 : nx sw ts V (i + 1) = some j := by rw [e0]; dsimp only; rw [if_neg (fun q => absurd q.2 (Int32.not_lt.mpr c5))]
                refine lv_iinc (v := nI (i + 1)) (lv' := [(2, .int (nI (i + 1))), (3, .int (nI 1)), (0, .ref (a 0)), (1, .int (nI j))]) hx hb dX1_nextToShed_61 hl (k := 3) rfl (nI_1 i) (by decide) rfl (fun ls hl => ?_)
                refine lv_goto (tgt := 4) hx hb dX1_nextToShed_64 (by decide) ?_
                have hl : lv_has ls 4 [(2, .int (nI (i + 1))), (3, .int (nI 1)), (0, .ref (a 0)), (1, .int (oi (nx sw ts V (i + 1))))] := (by rw [e9]; exact hl)
                exact next _ _ _ hlt ⟨hP, hD, hS, lv_sub hl [2, 3, 0] rfl⟩
              · skip
                refine lv_iload_n hx hb dX1_nextToShed_59 rfl (lv_at hl 3 rfl) ?_
                refine lv_istore_n (lv' := [(1, .int (nI i)), (3, .int (nI 1)), (0, .ref (a 0)), (2, .int (nI i))]) hx hb dX1_nextToShed_60 rfl hl (by decide) rfl (fun ls hl => ?_)
                have e9 : nx sw ts V (i + 1) = some i := by rw [e0]; dsimp only; rw [if_pos ⟨hm, Int32.not_le.mp c5⟩]
                refine lv_iinc (v := nI (i + 1)) (lv' := [(2, .int (nI (i + 1))), (1, .int (nI i)), (3, .int (nI 1)), (0, .ref (a 0))]) hx hb dX1_nextToShed_61 hl (k := 3) rfl (nI_1 i) (by decide) rfl (fun ls hl => ?_)
                refine lv_goto (tgt := 4) hx hb dX1_nextToShed_64 (by decide) ?_
                have hl : lv_has ls 4 [(2, .int (nI (i + 1))), (1, .int (oi (nx sw ts V (i + 1)))), (3, .int (nI 1)), (0, .ref (a 0))] := (by rw [e9]; exact hl)
                exact next _ _ _ hlt ⟨hP, hD, hS, lv_sub hl [3, 1, 0] rfl⟩
end
section
/-! GridCommons and its Ledger: the steps of closing a quarter -/
theorem po_step {b k : Nat} {f g F : Nat → Dm} {d : Dm} (h : F = po b k f g) (e : d = g k) : va_up F (b + k) d = po b (k + 1) f g := by rw [h, e, po_s]
theorem po_rd {α : Type} {b k : Nat} {f g F : Nat → α} (h : F = po b k f g) : F (b + k) = f (b + k) := by rw [h, po_at]
theorem po_s0 {α : Type} (k : Nat) (f g : Nat → α) : va_up (po 0 k f g) k (g k) = po 0 (k + 1) f g := by
  have h := po_s 0 k f g
  rw [Nat.zero_add] at h
  exact h
theorem po_at0 {α : Type} (k : Nat) (f g : Nat → α) : po 0 k f g k = f k := by
  have h := po_at 0 k f g
  rw [Nat.zero_add] at h
  exact h
theorem po_in0 {α : Type} {k i : Nat} (f g : Nat → α) (h : i < k) : po 0 k f g i = g i := by
  have h := po_in (b := 0) f g h
  rw [Nat.zero_add] at h
  exact h
theorem po_step0 {k : Nat} {f g F : Nat → Dm} {d : Dm} (h : F = po 0 k f g) (e : d = g k) : va_up F k d = po 0 (k + 1) f g := by rw [h, e, po_s0]
theorem is5_done {f : Nat → UInt64} {V g : Nat → Dm} (h : is5 f (po 0 5 V g)) : is5 f g := h.to (fun j hj => po_in0 V g hj)
theorem nar01 {x : Int32} (h : x = 0 ∨ x = 1) : vp_nar .boolean x = x := by rcases h with rfl | rfl <;> rfl
theorem i32_back (a b : Int32) : a - b + (-1) = a - (b + 1) := by
  apply Int32.toBitVec_inj.mp
  simp only [Int32.toBitVec_add, Int32.toBitVec_sub]
  rw [show (-1 : Int32).toBitVec = 4294967295#32 from by decide, show (1 : Int32).toBitVec = 1#32 from by decide]
  bv_omega
theorem iinc_back (n i : Nat) : nI n - nI (i + 1) + Int32.ofInt (-1) = nI n - nI (i + 1 + 1) := by
  rw [← nI_1 (i + 1)]
  exact i32_back _ _
theorem upto_step {f : Nat → UInt64} {U : Nat → Dm} {i : Nat} {r : UInt64} (h : ∀ j, j < i → dt (f j) = U j) (e : dt r = U i) : ∀ j, j < i + 1 → dt (vf_upd f i r j) = U j := by
  intro j hj
  unfold vf_upd
  by_cases q : j = i
  · rw [if_pos q, q]; exact e
  · rw [if_neg q]; exact h j (by omega)
set_option maxHeartbeats 4000000 in
set_option maxRecDepth 100000 in
theorem mX0_guess (l : Launch) (D : va_G) (cI cZ cD : ClassId) (a : Nat → Nat) (sz : Nat) (sh sw ts : Nat → Int32) (bi : Nat → UInt64) (it tu : Nat → Int32) (ne : Nat → UInt64) (pr so lo : UInt64) (wt : Int32) (lp lz lu : Nat → UInt64) (lk : Nat → Int32) (ld lf lb lw : Nat → UInt64) (o n : Nat) (ho : o < 5) (hn : n ≤ 60) : MetD lw_cs l yX0_guess wsX0_guess ({ frames := 1, cells := 0, slots := 0, locals := 21 } : Room) (va_Pc [.ref (a 8), .int (nI o)] (XP D cI cZ cD (XW a cI cZ cD sh sw ts bi it tu ne pr so lo wt (nI n) lp lz lu lk ld lf lb lw) sz)) (va_Qd (fun (r : UInt64) (u : Unit) => dt r = guess lk (dts lu) o n) (fun (u : Unit) t => XB D cI cZ cD (XW a cI cZ cD sh sw ts bi it tu ne pr so lo wt (nI n) lp lz lu lk ld lf lb lw) (va_A (XW a cI cZ cD sh sw ts bi it tu ne pr so lo wt (nI n) lp lz lu lk ld lf lb lw) sz) t) (va_A (XW a cI cZ cD sh sw ts bi it tu ne pr so lo wt (nI n) lp lz lu lk ld lf lb lw) sz)) 0 0 (va_A (XW a cI cZ cD sh sw ts bi it tu ne pr so lo wt (nI n) lp lz lu lk ld lf lb lw) sz) := by
  refine MetD.ofW (cc := cX0_guess) (maxL := 7) (ret := (some .double)) (by decide +kernel) rfl ?_
  intro p e s m args below meth c s₁ B hml hv hd0
  obtain ⟨rfl, hsz, hP, hK, hD0⟩ := hv
  have hx := B.exec
  have hb := B.bytes
  have hr := B.returns
  have hts := atoms_spec (ws := wsX0_guess) B.pre
  have hown : s.vm.findClass RX0 = some m.cls := findClass_of_methodNamed B.named
  have hlocks := B.notSynchronized
  subst hsz
  have hD := hD0.self (sz := s.heap.size)
  generalize hAe : va_A (XW a cI cZ cD sh sw ts bi it tu ne pr so lo wt (nI n) lp lz lu lk ld lf lb lw) s.heap.size = A at hD ⊢
  have hA : ∀ q : Nat, s.heap.size ≤ q → A q := fun q h => by rw [← hAe]; exact Or.inr h
  have hS : va_S A s.heap s.heap [] := va_S.rf
  have hl := lv_entry ([.ref (a 8), .int (nI o)]) (n := 7) (Nat.le_of_ble_eq_true rfl)
  rw [lg_entry_eq]
  generalize (lg_sl ([.ref (a 8), .int (nI o)]) ++ List.replicate (7 - (lg_sl ([.ref (a 8), .int (nI o)])).length) Slot.unset).toArray = ls at hl ⊢
  have hl : lv_has ls 7 [(0, .ref (a 8)), (1, .int (nI o))] := hl
  have inX0 : ∀ w ∈ wsX00, w ∈ wsX0_guess := by decide +kernel
  refine lv_dconst0 hx hb dX0_guess_0 ?_
  refine lv_dstore_n (lv' := [(2, .double FP.dconst0), (0, .ref (a 8)), (1, .int (nI o))]) hx hb dX0_guess_1 rfl hl (by decide) rfl (fun ls hl => ?_)
  refine lv_iconst (v := nI 0) hx hb dX0_guess_2 (by decide) ?_
  refine lv_istore (lv' := [(4, .int (nI 0)), (2, .double FP.dconst0), (0, .ref (a 8)), (1, .int (nI o))]) hx hb dX0_guess_3 hl (by decide) rfl (fun ls hl => ?_)
  refine lv_aload_n hx hb dX0_guess_5 rfl (lv_at hl 2 rfl) ?_
  refine va_get (D := D) (ci := 0) (v := .int (nI n)) (C := RX0) (T := TX0) (N := 9) hx hb (dr_words hts _) inX0 (xk_od hown) (xk_Kd hK) hP 8 rfl rfl 0 (by decide) (dr_words hts _ (.fieldLink RX0 9 "GridCommons$Ledger" "count" "I") (by decide +kernel)) (fun _ h9 => h9) rfl dX0_guess_6 ?_
  refine lv_iconst (v := nI 1) hx hb dX0_guess_9 (by decide) ?_
  refine lv_isub hx hb dX0_guess_10 ?_
  refine lv_istore (lv' := [(5, .int ((nI n) - (nI 1))), (4, .int (nI 0)), (2, .double FP.dconst0), (0, .ref (a 8)), (1, .int (nI o))]) hx hb dX0_guess_11 hl (by decide) rfl (fun ls hl => ?_)
  refine xk_loop (fun i H locs ls d => ∃ (f : Nat) (x : UInt64), (f = (gst lk (dts lu) o n i).1) ∧ (dt x = (gst lk (dts lu) o n i).2) ∧ (va_P D vwCl (XW a cI cZ cD sh sw ts bi it tu ne pr so lo wt (nI n) lp lz lu lk ld lf lb lw) H) ∧ (va_D A (XW a cI cZ cD sh sw ts bi it tu ne pr so lo wt (nI n) lp lz lu lk ld lf lb lw)) ∧ (va_S A s.heap H locs) ∧ (s.drawn.sameBut d lw_cs) ∧ (lv_has ls 7 [(0, .ref (a 8)), (1, .int (nI o)), (2, .double x), (4, .int (nI f)), (5, .int (nI n - nI (i + 1)))])) n ?_ (i := 0) (Nat.zero_le _) ⟨0, FP.dconst0, rfl, rfl, hP, hD, hS, hd0, lv_sub hl [3, 4, 2, 1, 0] rfl⟩
  intro i H locs ls d hi hI next
  obtain ⟨f, x, hq0, hq1, hP, hD, hS, hdl, hl⟩ := hI
  have hf2 := gst_le lk (dts lu) o n i
  rw [← hq0] at hf2
  refine lv_iload hx hb dX0_guess_13 (lv_at hl 4 rfl) ?_
  refine lv_if_lt (tgt := 61) hx hb dX0_guess_15 (by decide) (fun c => ?_) (fun c => ?_)
  · skip
    have hin : i = n := by
      rcases Nat.lt_or_ge i n with q | q
      · have e5 : nI n - nI (i + 1) = nI (n - (i + 1)) := pk_sub (by omega)
        rw [e5] at c
        exact absurd c (nI_pos (by omega))
      · omega
    have e1 : f = (gst lk (dts lu) o n n).1 := by rw [hq0, hin]
    have e2 : dt x = (gst lk (dts lu) o n n).2 := by rw [hq1, hin]
    refine lv_iload hx hb dX0_guess_61 (lv_at hl 3 rfl) ?_
    refine lv_iconst (v := nI 2) hx hb dX0_guess_63 (by decide) ?_
    refine lv_icmp_ne (tgt := 75) hx hb dX0_guess_64 (by decide) (fun c4 => ?_) (fun c4 => ?_)
    · skip
      refine lv_dload_n hx hb dX0_guess_75 rfl (lv_at hl 2 rfl) ?_
      have e9 : dt x = guess lk (dts lu) o n := by unfold guess; rw [if_neg (fun q => c4 (by rw [e1, q])), e2]
      refine W.endD hdl ?_
      exact W.dret hx hb hr (fun t ht hW => ⟨⟨_, (), rfl, e9, by rw [ht]; exact hP, va_K.moved hW.alike (xk_Kd hK), hD⟩, hS.F ht⟩) hS.2.2 dX0_guess_76
    · skip
      refine lv_dload_n hx hb dX0_guess_67 rfl (lv_at hl 2 rfl) ?_
      refine lv_ldc2d hx hb (xk_od hown) (dr_words hts _ (.constantDouble RX0 45 4611686018427387904) (by decide +kernel)) dX0_guess_68 ?_
      refine lv_ddiv_any hdl lw_bits hx hb dX0_guess_71 (fun r1 _ hal hd2 => ?_)
      have er1 := dt_div hal
      refine lv_goto (tgt := 76) hx hb dX0_guess_72 (by decide) ?_
      have e9 : dt r1 = guess lk (dts lu) o n := by unfold guess; rw [if_pos (by rw [← e1]; exact (nI_eq (by omega) (by omega)).mp c4), er1, e2]
      refine W.endD hd2 ?_
      exact W.dret hx hb hr (fun t ht hW => ⟨⟨_, (), rfl, e9, by rw [ht]; exact hP, va_K.moved hW.alike (xk_Kd hK), hD⟩, hS.F ht⟩) hS.2.2 dX0_guess_76
  · skip
    have hlt : i < n := by
      rcases Nat.lt_or_ge i n with q | q
      · exact q
      · exact absurd (pk_sneg (by omega) (by omega)) c
    refine lv_iload hx hb dX0_guess_18 (lv_at hl 3 rfl) ?_
    refine lv_iconst (v := nI 2) hx hb dX0_guess_20 (by decide) ?_
    refine lv_icmp_ge (tgt := 61) hx hb dX0_guess_21 (by decide) (fun c2 => ?_) (fun c2 => ?_)
    · skip
      have hstop : ¬ (gst lk (dts lu) o n i).1 < 2 := by rw [← hq0]; have := (nI_leI (by omega) (by omega)).mp c2; omega
      have e0 := gst_stop hstop (n - i)
      rw [show i + (n - i) = n by omega] at e0
      have e1 : f = (gst lk (dts lu) o n n).1 := by rw [hq0, e0]
      have e2 : dt x = (gst lk (dts lu) o n n).2 := by rw [hq1, e0]
      refine lv_iload hx hb dX0_guess_61 (lv_at hl 3 rfl) ?_
      refine lv_iconst (v := nI 2) hx hb dX0_guess_63 (by decide) ?_
      refine lv_icmp_ne (tgt := 75) hx hb dX0_guess_64 (by decide) (fun c4 => ?_) (fun c4 => ?_)
      · skip
        refine lv_dload_n hx hb dX0_guess_75 rfl (lv_at hl 2 rfl) ?_
        have e9 : dt x = guess lk (dts lu) o n := by unfold guess; rw [if_neg (fun q => c4 (by rw [e1, q])), e2]
        refine W.endD hdl ?_
        exact W.dret hx hb hr (fun t ht hW => ⟨⟨_, (), rfl, e9, by rw [ht]; exact hP, va_K.moved hW.alike (xk_Kd hK), hD⟩, hS.F ht⟩) hS.2.2 dX0_guess_76
      · skip
        refine lv_dload_n hx hb dX0_guess_67 rfl (lv_at hl 2 rfl) ?_
        refine lv_ldc2d hx hb (xk_od hown) (dr_words hts _ (.constantDouble RX0 45 4611686018427387904) (by decide +kernel)) dX0_guess_68 ?_
        refine lv_ddiv_any hdl lw_bits hx hb dX0_guess_71 (fun r3 _ hal hd4 => ?_)
        have er3 := dt_div hal
        refine lv_goto (tgt := 76) hx hb dX0_guess_72 (by decide) ?_
        have e9 : dt r3 = guess lk (dts lu) o n := by unfold guess; rw [if_pos (by rw [← e1]; exact (nI_eq (by omega) (by omega)).mp c4), er3, e2]
        refine W.endD hd4 ?_
        exact W.dret hx hb hr (fun t ht hW => ⟨⟨_, (), rfl, e9, by rw [ht]; exact hP, va_K.moved hW.alike (xk_Kd hK), hD⟩, hS.F ht⟩) hS.2.2 dX0_guess_76
    · skip
      have hf1 : f < 2 := by
        rcases Nat.lt_or_ge f 2 with q | q
        · exact q
        · exact absurd ((nI_leI (by omega) (by omega)).mpr q) c2
      have e5 : nI n - nI (i + 1) = nI (n - 1 - i) := by rw [pk_sub (by omega), show n - (i + 1) = n - 1 - i by omega]
      refine lv_iload_n hx hb dX0_guess_24 rfl (lv_at hl 1 rfl) ?_
      refine lv_iload hx hb dX0_guess_25 (lv_at hl 4 rfl) ?_
      refine xk_i (y := nI (n - 1 - i)) e5 ?_
      refine vp_callSi (va_Run.run (va_runS (As := [.int (nI o), .int (nI (n - 1 - i))]) (rest := []) ⟨hx, hb, hml, (xk_od hown), (dr_words hts _)⟩ (mX0_slot l o (n - 1 - i)) (va_cwS 2 (dr_words hts _) gX0_guess_X0_slot rfl rfl rfl (by decide +kernel) ⟨Nat.le_of_ble_eq_true rfl, Nat.le_of_ble_eq_true rfl⟩) ⟨fun a U g mk q => q, fun U hU hW => ⟨rfl, trivial⟩⟩ rfl rfl hl.1 rfl (lv_room (Nat.le_of_ble_eq_true rfl)) dX0_guess_27 ⟨Nat.le_of_ble_eq_true rfl, Nat.le_of_ble_eq_true rfl⟩)) (fun r hr1 => ?_)
      subst hr1
      refine lv_istore (lv' := [(6, .int (nI (5 * (n - 1 - i) + o))), (0, .ref (a 8)), (1, .int (nI o)), (2, .double x), (4, .int (nI f)), (5, .int (nI n - nI (i + 1)))]) hx hb dX0_guess_30 hl (by decide) rfl (fun ls hl => ?_)
      refine lv_aload_n hx hb dX0_guess_32 rfl (lv_at hl 1 rfl) ?_
      refine va_get (D := D) (ci := 0) (v := .ref (a 12)) (C := RX0) (T := TX0) (N := 9) hx hb (dr_words hts _) inX0 (xk_od hown) (xk_Kd hK) hP 8 rfl rfl 4 (by decide) (dr_words hts _ (.fieldLink RX0 25 "GridCommons$Ledger" "known" "[Z") (by decide +kernel)) (fun _ h9 => h9) rfl dX0_guess_33 ?_
      refine lv_iload hx hb dX0_guess_36 (lv_at hl 0 rfl) ?_
      refine xk_zald hx hb (xk_Kd hK) hP 12 1 rfl rfl (o := (5 * (n - 1 - i) + o)) (by omega) (by decide) dX0_guess_38 ?_
      refine lv_if_eq (tgt := 55) hx hb dX0_guess_39 (by decide) (fun c3 => ?_) (fun c3 => ?_)
      · skip
        have e9 : gst lk (dts lu) o n (i + 1) = gst lk (dts lu) o n i := if_neg (fun q => q.2 c3)
        refine lv_iinc (v := nI n - nI (i + 1 + 1)) (lv' := [(5, .int (nI n - nI (i + 1 + 1))), (6, .int (nI (5 * (n - 1 - i) + o))), (0, .ref (a 8)), (1, .int (nI o)), (2, .double x), (4, .int (nI f))]) hx hb dX0_guess_55 hl (k := 5) rfl (iinc_back n i) (by decide) rfl (fun ls hl => ?_)
        refine lv_goto (tgt := 13) hx hb dX0_guess_58 (by decide) ?_
        exact next _ _ _ _ hlt ⟨f, x, (by rw [e9]; exact hq0), (by rw [e9]; exact hq1), hP, hD, hS, hdl, lv_sub hl [2, 3, 4, 5, 0] rfl⟩
      · skip
        refine lv_dload_n hx hb dX0_guess_42 rfl (lv_at hl 3 rfl) ?_
        refine lv_aload_n hx hb dX0_guess_43 rfl (lv_at hl 1 rfl) ?_
        refine va_get (D := D) (ci := 0) (v := .ref (a 11)) (C := RX0) (T := TX0) (N := 9) hx hb (dr_words hts _) inX0 (xk_od hown) (xk_Kd hK) hP 8 rfl rfl 3 (by decide) (dr_words hts _ (.fieldLink RX0 22 "GridCommons$Ledger" "use" "[D") (by decide +kernel)) (fun _ h9 => h9) rfl dX0_guess_44 ?_
        refine lv_iload hx hb dX0_guess_47 (lv_at hl 0 rfl) ?_
        refine xk_dald hx hb (xk_Kd hK) hP 11 2 rfl rfl (o := (5 * (n - 1 - i) + o)) (by omega) (by decide) dX0_guess_49 ?_
        refine lv_dadd_any hdl lw_bits hx hb dX0_guess_50 (fun r5 _ hal hd6 => ?_)
        have er5 := dt_add hal
        refine lv_dstore_n (lv' := [(2, .double r5), (6, .int (nI (5 * (n - 1 - i) + o))), (0, .ref (a 8)), (1, .int (nI o)), (4, .int (nI f)), (5, .int (nI n - nI (i + 1)))]) hx hb dX0_guess_51 rfl hl (by decide) rfl (fun ls hl => ?_)
        refine lv_iinc (v := nI (f + 1)) (lv' := [(4, .int (nI (f + 1))), (2, .double r5), (6, .int (nI (5 * (n - 1 - i) + o))), (0, .ref (a 8)), (1, .int (nI o)), (5, .int (nI n - nI (i + 1)))]) hx hb dX0_guess_52 hl (k := 4) rfl (nI_1 f) (by decide) rfl (fun ls hl => ?_)
        have e9 : gst lk (dts lu) o n (i + 1) = ((gst lk (dts lu) o n i).1 + 1, dAdd (gst lk (dts lu) o n i).2 (dts lu (5 * (n - 1 - i) + o))) := if_pos ⟨by rw [← hq0]; exact hf1, c3⟩
        refine lv_iinc (v := nI n - nI (i + 1 + 1)) (lv' := [(5, .int (nI n - nI (i + 1 + 1))), (4, .int (nI (f + 1))), (2, .double r5), (6, .int (nI (5 * (n - 1 - i) + o))), (0, .ref (a 8)), (1, .int (nI o))]) hx hb dX0_guess_55 hl (k := 5) rfl (iinc_back n i) (by decide) rfl (fun ls hl => ?_)
        refine lv_goto (tgt := 13) hx hb dX0_guess_58 (by decide) ?_
        exact next _ _ _ _ hlt ⟨(f + 1), r5, (by rw [e9, ← hq0]), (by rw [e9, er5, hq1]; rfl), hP, hD, hS, hd6, lv_sub hl [4, 5, 2, 1, 0] rfl⟩
set_option maxHeartbeats 4000000 in
set_option maxRecDepth 100000 in
theorem mX1_writeUses (l : Launch) (D : va_G) (cI cZ cD : ClassId) (a : Nat → Nat) (sz : Nat) (sh sw ts : Nat → Int32) (bi : Nat → UInt64) (it tu : Nat → Int32) (ne : Nat → UInt64) (pr so lo : UInt64) (wt : Int32) (lp lz lu : Nat → UInt64) (lk : Nat → Int32) (ld lf lb lw : Nat → UInt64) (n : Nat) (hn : n < 60) (hit : ∀ j, it j = 0 ∨ it j = 1) : MetD lw_cs l yX1_writeUses wsX1_writeUses ({ frames := 2, cells := 0, slots := 0, locals := 47 } : Room) (va_Pc [.ref (a 0), .int (nI n)] (XP D cI cZ cD (XW a cI cZ cD sh sw ts bi it tu ne pr so lo wt (nI n) lp lz lu lk ld lf lb lw) sz)) (va_Qv (fun (u : (Nat → UInt64) × (Nat → UInt64)) => dts u.1 = po (5 * n) 5 (dts lu) (use0 it tu lk (dts lu) n) ∧ is5 u.2 (use0 it tu lk (dts lu) n)) (fun (u : (Nat → UInt64) × (Nat → UInt64)) t => XB D cI cZ cD (XW a cI cZ cD sh sw ts bi (po 0 5 it (fun _ => 0)) tu u.2 pr so lo wt (nI n) lp lz u.1 (po (5 * n) 5 lk it) ld lf lb lw) (va_A (XW a cI cZ cD sh sw ts bi it tu ne pr so lo wt (nI n) lp lz lu lk ld lf lb lw) sz) t) (va_A (XW a cI cZ cD sh sw ts bi it tu ne pr so lo wt (nI n) lp lz lu lk ld lf lb lw) sz)) 0 0 (va_A (XW a cI cZ cD sh sw ts bi it tu ne pr so lo wt (nI n) lp lz lu lk ld lf lb lw) sz) := by
  refine MetD.ofW (cc := cX1_writeUses) (maxL := 6) (ret := none) (by decide +kernel) rfl ?_
  intro p e s m args below meth c s₁ B hml hv hd0
  obtain ⟨rfl, hsz, hP, hK, hD0⟩ := hv
  have hx := B.exec
  have hb := B.bytes
  have hr := B.returns
  have hts := atoms_spec (ws := wsX1_writeUses) B.pre
  have hown : s.vm.findClass RX1 = some m.cls := findClass_of_methodNamed B.named
  have hlocks := B.notSynchronized
  subst hsz
  have hD := hD0.self (sz := s.heap.size)
  generalize hAe : va_A (XW a cI cZ cD sh sw ts bi it tu ne pr so lo wt (nI n) lp lz lu lk ld lf lb lw) s.heap.size = A at hD ⊢
  have hA : ∀ q : Nat, s.heap.size ≤ q → A q := fun q h => by rw [← hAe]; exact Or.inr h
  have hS : va_S A s.heap s.heap [] := va_S.rf
  have hl := lv_entry ([.ref (a 0), .int (nI n)]) (n := 6) (Nat.le_of_ble_eq_true rfl)
  rw [lg_entry_eq]
  generalize (lg_sl ([.ref (a 0), .int (nI n)]) ++ List.replicate (6 - (lg_sl ([.ref (a 0), .int (nI n)])).length) Slot.unset).toArray = ls at hl ⊢
  have hl : lv_has ls 6 [(0, .ref (a 0)), (1, .int (nI n))] := hl
  have inX1 : ∀ w ∈ wsX10, w ∈ wsX1_writeUses := by decide +kernel
  have inX0 : ∀ w ∈ wsX00, w ∈ wsX1_writeUses := by decide +kernel
  refine lv_iconst (v := nI 0) hx hb dX1_writeUses_0 (by decide) ?_
  refine lv_istore_n (lv' := [(2, .int (nI 0)), (0, .ref (a 0)), (1, .int (nI n))]) hx hb dX1_writeUses_1 rfl hl (by decide) rfl (fun ls hl => ?_)
  rw [← po_0 (5 * n) lk it, ← po_0 0 it (fun _ => (0 : Int32))] at hP hD
  refine xk_loop (fun i H locs ls d => ∃ (lu' : Nat → UInt64) (ne' : Nat → UInt64), (dts lu' = po (5 * n) i (dts lu) (use0 it tu lk (dts lu) n)) ∧ (∀ j, j < i → dt (ne' j) = use0 it tu lk (dts lu) n j) ∧ (va_P D vwCl (XW a cI cZ cD sh sw ts bi (po 0 i it (fun _ => (0 : Int32))) tu ne' pr so lo wt (nI n) lp lz lu' (po (5 * n) i lk it) ld lf lb lw) H) ∧ (va_D A (XW a cI cZ cD sh sw ts bi (po 0 i it (fun _ => (0 : Int32))) tu ne' pr so lo wt (nI n) lp lz lu' (po (5 * n) i lk it) ld lf lb lw)) ∧ (va_S A s.heap H locs) ∧ (s.drawn.sameBut d lw_cs) ∧ (lv_has ls 6 [(0, .ref (a 0)), (1, .int (nI n)), (2, .int (nI i))])) 5 ?_ (i := 0) (Nat.zero_le _) ⟨lu, ne, (po_0 _ _ _).symm, (fun j hj => absurd hj (Nat.not_lt_zero j)), hP, hD, hS, hd0, lv_sub hl [1, 2, 0] rfl⟩
  intro i H locs ls d hi hI next
  obtain ⟨lu', ne', hq0, hq1, hP, hD, hS, hdl, hl⟩ := hI
  refine lv_iload_n hx hb dX1_writeUses_2 rfl (lv_at hl 2 rfl) ?_
  refine lv_iconst (v := nI 5) hx hb dX1_writeUses_3 (by decide) ?_
  refine lv_icmp_ge (tgt := 89) hx hb dX1_writeUses_4 (by decide) (fun c => ?_) (fun c => ?_)
  · skip
    obtain rfl := xk_ge hi (by decide) c
    refine W.endD hdl ?_
    exact W.vret hx hb hr (fun t ht hW => ⟨⟨(lu', ne'), rfl, ⟨hq0, hq1⟩, by rw [ht]; exact hP, va_K.moved hW.alike (xk_Kd hK), hD⟩, hS.F ht⟩) hS.2.2 dX1_writeUses_89
  · skip
    have hlt := xk_nge hi (by decide) c
    refine lv_iload_n hx hb dX1_writeUses_7 rfl (lv_at hl 2 rfl) ?_
    refine lv_iload_n hx hb dX1_writeUses_8 rfl (lv_at hl 1 rfl) ?_
    refine vp_callSi (va_Run.run (va_runS (As := [.int (nI i), .int (nI n)]) (rest := []) ⟨hx, hb, hml, (xk_od hown), (dr_words hts _)⟩ (mX0_slot l i n) (va_cwS 2 (dr_words hts _) gX1_writeUses_X0_slot rfl rfl rfl (by decide +kernel) ⟨Nat.le_of_ble_eq_true rfl, Nat.le_of_ble_eq_true rfl⟩) ⟨fun a U g mk q => q, fun U hU hW => ⟨rfl, trivial⟩⟩ rfl rfl hl.1 rfl (lv_room (Nat.le_of_ble_eq_true rfl)) dX1_writeUses_9 ⟨Nat.le_of_ble_eq_true rfl, Nat.le_of_ble_eq_true rfl⟩)) (fun r hr1 => ?_)
    subst hr1
    refine lv_istore_n (lv' := [(3, .int (nI (5 * n + i))), (0, .ref (a 0)), (1, .int (nI n)), (2, .int (nI i))]) hx hb dX1_writeUses_12 rfl hl (by decide) rfl (fun ls hl => ?_)
    refine lv_aload_n hx hb dX1_writeUses_13 rfl (lv_at hl 1 rfl) ?_
    refine va_get (D := D) (ci := 1) (v := .ref (a 5)) (C := RX1) (T := TX1) (N := 12) hx hb (dr_words hts _) inX1 (xk_od hown) (xk_Kd hK) hP 0 rfl rfl 4 (by decide) (dr_words hts _ (.fieldLink RX1 24 "GridCommons" "isTold" "[Z") (by decide +kernel)) (fun _ h9 => h9) rfl dX1_writeUses_14 ?_
    refine lv_iload_n hx hb dX1_writeUses_17 rfl (lv_at hl 3 rfl) ?_
    refine xk_zald hx hb (xk_Kd hK) hP 5 1 rfl rfl (o := i) (by omega) (by decide) dX1_writeUses_18 ?_
    refine xk_i (y := it i) (po_at0 i it _) ?_
    refine lv_if_eq (tgt := 32) hx hb dX1_writeUses_19 (by decide) (fun c1 => ?_) (fun c1 => ?_)
    · skip
      refine lv_aload_n hx hb dX1_writeUses_32 rfl (lv_at hl 1 rfl) ?_
      refine va_get (D := D) (ci := 1) (v := .ref (a 8)) (C := RX1) (T := TX1) (N := 12) hx hb (dr_words hts _) inX1 (xk_od hown) (xk_Kd hK) hP 0 rfl rfl 6 (by decide) (dr_words hts _ (.fieldLink RX1 33 "GridCommons" "ledger" "LGridCommons$Ledger;") (by decide +kernel)) (fun _ h9 => h9) rfl dX1_writeUses_33 ?_
      refine lv_iload_n hx hb dX1_writeUses_36 rfl (lv_at hl 3 rfl) ?_
      have hFc := va_free (wc := XW a cI cZ cD sh sw ts bi (po 0 i it (fun _ => (0 : Int32))) tu ne' pr so lo wt (nI n) lp lz lu' (po (5 * n) i lk it) ld lf lb lw) hD hS hA [0, 1, 2, 3, 4, 5, 6, 7, 8, 9, 10, 11, 12, 13, 14, 15, 16] rfl
      refine va_calldD hdl (va_runV_D (As := [.int (nI i)]) (rest := []) ⟨hx, hb, hml, (xk_od hown), (dr_words hts _)⟩ (mX0_guess l D cI cZ cD a _ sh sw ts bi (po 0 i it (fun _ => (0 : Int32))) tu ne' pr so lo wt lp lz lu' (po (5 * n) i lk it) ld lf lb lw i n (by omega) (by omega)) (cwV 1 (dr_words hts _) gX1_writeUses_X0_guess rfl rfl rfl (by decide +kernel) ⟨Nat.le_of_ble_eq_true rfl, Nat.le_of_ble_eq_true rfl⟩) ⟨xk_blind, va_recv (xk_Kd hK) hP (ci := 0) (q0 := 8) rfl rfl, xk_pre hP (xk_Kd hK) hD⟩ rfl rfl hl.1 rfl (lv_room (Nat.le_of_ble_eq_true rfl)) dX1_writeUses_37 ⟨Nat.le_of_ble_eq_true rfl, Nat.le_of_ble_eq_true rfl⟩) hS (fun q _ h => hFc q h) hFc (fun r u t H locs ht hvm hw hB hz1 hk1 hS _ hd1 => ?_)
      obtain ⟨hP, -, hD1⟩ := hB
      rw [ht] at hP
      have hD := hD1.weaken (B := A) (fun _ _ _ h => hFc _ h)
      have hP : va_P D vwCl (XW a cI cZ cD sh sw ts bi (po 0 i it (fun _ => (0 : Int32))) tu ne' pr so lo wt (nI n) lp lz lu' (po (5 * n) i lk it) ld lf lb lw) H := hP
      have hD : va_D A (XW a cI cZ cD sh sw ts bi (po 0 i it (fun _ => (0 : Int32))) tu ne' pr so lo wt (nI n) lp lz lu' (po (5 * n) i lk it) ld lf lb lw) := hD
      have e8 : dt r = use0 it tu lk (dts lu) n i := by rw [hw]; unfold use0; rw [if_pos c1]; exact guess_c hlt (fun j hj => po_out _ _ hj) (fun j hj => by rw [hq0]; exact po_out _ _ hj)
      refine lv_dstore (lv' := [(4, .double r), (3, .int (nI (5 * n + i))), (0, .ref (a 0)), (1, .int (nI n)), (2, .int (nI i))]) hx hb dX1_writeUses_40 hl (by decide) rfl (fun ls hl => ?_)
      refine lv_aload_n hx hb dX1_writeUses_42 rfl (lv_at hl 2 rfl) ?_
      refine va_get (D := D) (ci := 1) (v := .ref (a 8)) (C := RX1) (T := TX1) (N := 12) hx hb (dr_words hts _) inX1 (xk_od hown) (xk_Kd hK) hP 0 rfl rfl 6 (by decide) (dr_words hts _ (.fieldLink RX1 33 "GridCommons" "ledger" "LGridCommons$Ledger;") (by decide +kernel)) (fun _ h9 => h9) rfl dX1_writeUses_43 ?_
      refine va_get (D := D) (ci := 0) (v := .ref (a 12)) (C := RX0) (T := TX0) (N := 9) hx hb (dr_words hts _) inX0 (xk_od hown) (xk_Kd hK) hP 8 rfl rfl 4 (by decide) (dr_words hts _ (.fieldLink RX1 120 "GridCommons$Ledger" "known" "[Z") (by decide +kernel)) (fun _ h9 => h9) rfl dX1_writeUses_46 ?_
      refine lv_iload_n hx hb dX1_writeUses_49 rfl (lv_at hl 1 rfl) ?_
      refine lv_aload_n hx hb dX1_writeUses_50 rfl (lv_at hl 2 rfl) ?_
      refine va_get (D := D) (ci := 1) (v := .ref (a 5)) (C := RX1) (T := TX1) (N := 12) hx hb (dr_words hts _) inX1 (xk_od hown) (xk_Kd hK) hP 0 rfl rfl 4 (by decide) (dr_words hts _ (.fieldLink RX1 24 "GridCommons" "isTold" "[Z") (by decide +kernel)) (fun _ h9 => h9) rfl dX1_writeUses_51 ?_
      refine lv_iload_n hx hb dX1_writeUses_54 rfl (lv_at hl 4 rfl) ?_
      refine xk_zald hx hb (xk_Kd hK) hP 5 1 rfl rfl (o := i) (by omega) (by decide) dX1_writeUses_55 ?_
      refine xk_i (y := it i) (po_at0 i it _) ?_
      refine xk_zast (x' := it i) hx hb (xk_Kd hK) hP hD hS 12 1 rfl rfl (o := (5 * n + i)) (by omega) (by decide) (nar01 (hit i)) dX1_writeUses_56 (fun H locs hP hD hS => ?_)
      have hP : va_P D vwCl (XW a cI cZ cD sh sw ts bi (po 0 i it (fun _ => (0 : Int32))) tu ne' pr so lo wt (nI n) lp lz lu' (upd (po (5 * n) i lk it) (5 * n + i) (it i)) ld lf lb lw) H := hP
      have hD : va_D A (XW a cI cZ cD sh sw ts bi (po 0 i it (fun _ => (0 : Int32))) tu ne' pr so lo wt (nI n) lp lz lu' (upd (po (5 * n) i lk it) (5 * n + i) (it i)) ld lf lb lw) := hD
      refine lv_aload_n hx hb dX1_writeUses_57 rfl (lv_at hl 2 rfl) ?_
      refine va_get (D := D) (ci := 1) (v := .ref (a 8)) (C := RX1) (T := TX1) (N := 12) hx hb (dr_words hts _) inX1 (xk_od hown) (xk_Kd hK) hP 0 rfl rfl 6 (by decide) (dr_words hts _ (.fieldLink RX1 33 "GridCommons" "ledger" "LGridCommons$Ledger;") (by decide +kernel)) (fun _ h9 => h9) rfl dX1_writeUses_58 ?_
      refine va_get (D := D) (ci := 0) (v := .ref (a 11)) (C := RX0) (T := TX0) (N := 9) hx hb (dr_words hts _) inX0 (xk_od hown) (xk_Kd hK) hP 8 rfl rfl 3 (by decide) (dr_words hts _ (.fieldLink RX1 125 "GridCommons$Ledger" "use" "[D") (by decide +kernel)) (fun _ h9 => h9) rfl dX1_writeUses_61 ?_
      refine lv_iload_n hx hb dX1_writeUses_64 rfl (lv_at hl 1 rfl) ?_
      refine lv_dload hx hb dX1_writeUses_65 (lv_at hl 0 rfl) ?_
      refine xk_dast hx hb (xk_Kd hK) hP hD hS 11 2 rfl rfl (o := (5 * n + i)) (by omega) (by decide) dX1_writeUses_67 (fun H locs hP hD hS => ?_)
      have hP : va_P D vwCl (XW a cI cZ cD sh sw ts bi (po 0 i it (fun _ => (0 : Int32))) tu ne' pr so lo wt (nI n) lp lz (vf_upd lu' (5 * n + i) r) (upd (po (5 * n) i lk it) (5 * n + i) (it i)) ld lf lb lw) H := hP
      have hD : va_D A (XW a cI cZ cD sh sw ts bi (po 0 i it (fun _ => (0 : Int32))) tu ne' pr so lo wt (nI n) lp lz (vf_upd lu' (5 * n + i) r) (upd (po (5 * n) i lk it) (5 * n + i) (it i)) ld lf lb lw) := hD
      refine lv_aload_n hx hb dX1_writeUses_68 rfl (lv_at hl 2 rfl) ?_
      refine va_get (D := D) (ci := 1) (v := .ref (a 7)) (C := RX1) (T := TX1) (N := 12) hx hb (dr_words hts _) inX1 (xk_od hown) (xk_Kd hK) hP 0 rfl rfl 10 (by decide) (dr_words hts _ (.fieldLink RX1 50 "GridCommons" "needs" "[D") (by decide +kernel)) (fun _ h9 => h9) rfl dX1_writeUses_69 ?_
      refine lv_iload_n hx hb dX1_writeUses_72 rfl (lv_at hl 4 rfl) ?_
      refine lv_dload hx hb dX1_writeUses_73 (lv_at hl 0 rfl) ?_
      refine xk_dast hx hb (xk_Kd hK) hP hD hS 7 2 rfl rfl (o := i) (by omega) (by decide) dX1_writeUses_75 (fun H locs hP hD hS => ?_)
      have hP : va_P D vwCl (XW a cI cZ cD sh sw ts bi (po 0 i it (fun _ => (0 : Int32))) tu (vf_upd ne' i r) pr so lo wt (nI n) lp lz (vf_upd lu' (5 * n + i) r) (upd (po (5 * n) i lk it) (5 * n + i) (it i)) ld lf lb lw) H := hP
      have hD : va_D A (XW a cI cZ cD sh sw ts bi (po 0 i it (fun _ => (0 : Int32))) tu (vf_upd ne' i r) pr so lo wt (nI n) lp lz (vf_upd lu' (5 * n + i) r) (upd (po (5 * n) i lk it) (5 * n + i) (it i)) ld lf lb lw) := hD
      refine lv_aload_n hx hb dX1_writeUses_76 rfl (lv_at hl 2 rfl) ?_
      refine va_get (D := D) (ci := 1) (v := .ref (a 5)) (C := RX1) (T := TX1) (N := 12) hx hb (dr_words hts _) inX1 (xk_od hown) (xk_Kd hK) hP 0 rfl rfl 4 (by decide) (dr_words hts _ (.fieldLink RX1 24 "GridCommons" "isTold" "[Z") (by decide +kernel)) (fun _ h9 => h9) rfl dX1_writeUses_77 ?_
      refine lv_iload_n hx hb dX1_writeUses_80 rfl (lv_at hl 4 rfl) ?_
      refine lv_iconst (v := nI 0) hx hb dX1_writeUses_81 (by decide) ?_
      refine xk_zast (x' := 0) hx hb (xk_Kd hK) hP hD hS 5 1 rfl rfl (o := i) (by omega) (by decide) rfl dX1_writeUses_82 (fun H locs hP hD hS => ?_)
      have hP : va_P D vwCl (XW a cI cZ cD sh sw ts bi (upd (po 0 i it (fun _ => (0 : Int32))) i 0) tu (vf_upd ne' i r) pr so lo wt (nI n) lp lz (vf_upd lu' (5 * n + i) r) (upd (po (5 * n) i lk it) (5 * n + i) (it i)) ld lf lb lw) H := hP
      have hD : va_D A (XW a cI cZ cD sh sw ts bi (upd (po 0 i it (fun _ => (0 : Int32))) i 0) tu (vf_upd ne' i r) pr so lo wt (nI n) lp lz (vf_upd lu' (5 * n + i) r) (upd (po (5 * n) i lk it) (5 * n + i) (it i)) ld lf lb lw) := hD
      have e1 : upd (po (5 * n) i lk it) (5 * n + i) (it i) = po (5 * n) (i + 1) lk it := po_s _ _ _ _
      have e2 : upd (po 0 i it (fun _ => (0 : Int32))) i 0 = po 0 (i + 1) it (fun _ => (0 : Int32)) := po_s0 i it (fun _ => (0 : Int32))
      rw [e1, e2] at hP hD
      refine lv_iinc (v := nI (i + 1)) (lv' := [(2, .int (nI (i + 1))), (4, .double r), (3, .int (nI (5 * n + i))), (0, .ref (a 0)), (1, .int (nI n))]) hx hb dX1_writeUses_83 hl (k := 4) rfl (nI_1 i) (by decide) rfl (fun ls hl => ?_)
      refine lv_goto (tgt := 2) hx hb dX1_writeUses_86 (by decide) ?_
      exact next _ _ _ _ hlt ⟨(vf_upd lu' (5 * n + i) r), (vf_upd ne' i r), (by rw [dts_up]; exact po_step hq0 e8), (upto_step hq1 e8), hP, hD, hS, hd1, lv_sub hl [3, 4, 0] rfl⟩
    · skip
      refine lv_aload_n hx hb dX1_writeUses_22 rfl (lv_at hl 1 rfl) ?_
      refine va_get (D := D) (ci := 1) (v := .ref (a 6)) (C := RX1) (T := TX1) (N := 12) hx hb (dr_words hts _) inX1 (xk_od hown) (xk_Kd hK) hP 0 rfl rfl 5 (by decide) (dr_words hts _ (.fieldLink RX1 27 "GridCommons" "toldUse" "[I") (by decide +kernel)) (fun _ h9 => h9) rfl dX1_writeUses_23 ?_
      refine lv_iload_n hx hb dX1_writeUses_26 rfl (lv_at hl 3 rfl) ?_
      refine xk_iald hx hb (xk_Kd hK) hP 6 0 rfl rfl (o := i) (by omega) (by decide) dX1_writeUses_27 ?_
      refine lv_i2d hx hb dX1_writeUses_28 ?_
      refine lv_goto (tgt := 40) hx hb dX1_writeUses_29 (by decide) ?_
      have e8 : dt (FP.i2d (tu i)) = use0 it tu lk (dts lu) n i := by unfold use0; rw [if_neg c1]; rfl
      refine lv_dstore (lv' := [(4, .double (FP.i2d (tu i))), (3, .int (nI (5 * n + i))), (0, .ref (a 0)), (1, .int (nI n)), (2, .int (nI i))]) hx hb dX1_writeUses_40 hl (by decide) rfl (fun ls hl => ?_)
      refine lv_aload_n hx hb dX1_writeUses_42 rfl (lv_at hl 2 rfl) ?_
      refine va_get (D := D) (ci := 1) (v := .ref (a 8)) (C := RX1) (T := TX1) (N := 12) hx hb (dr_words hts _) inX1 (xk_od hown) (xk_Kd hK) hP 0 rfl rfl 6 (by decide) (dr_words hts _ (.fieldLink RX1 33 "GridCommons" "ledger" "LGridCommons$Ledger;") (by decide +kernel)) (fun _ h9 => h9) rfl dX1_writeUses_43 ?_
      refine va_get (D := D) (ci := 0) (v := .ref (a 12)) (C := RX0) (T := TX0) (N := 9) hx hb (dr_words hts _) inX0 (xk_od hown) (xk_Kd hK) hP 8 rfl rfl 4 (by decide) (dr_words hts _ (.fieldLink RX1 120 "GridCommons$Ledger" "known" "[Z") (by decide +kernel)) (fun _ h9 => h9) rfl dX1_writeUses_46 ?_
      refine lv_iload_n hx hb dX1_writeUses_49 rfl (lv_at hl 1 rfl) ?_
      refine lv_aload_n hx hb dX1_writeUses_50 rfl (lv_at hl 2 rfl) ?_
      refine va_get (D := D) (ci := 1) (v := .ref (a 5)) (C := RX1) (T := TX1) (N := 12) hx hb (dr_words hts _) inX1 (xk_od hown) (xk_Kd hK) hP 0 rfl rfl 4 (by decide) (dr_words hts _ (.fieldLink RX1 24 "GridCommons" "isTold" "[Z") (by decide +kernel)) (fun _ h9 => h9) rfl dX1_writeUses_51 ?_
      refine lv_iload_n hx hb dX1_writeUses_54 rfl (lv_at hl 4 rfl) ?_
      refine xk_zald hx hb (xk_Kd hK) hP 5 1 rfl rfl (o := i) (by omega) (by decide) dX1_writeUses_55 ?_
      refine xk_i (y := it i) (po_at0 i it _) ?_
      refine xk_zast (x' := it i) hx hb (xk_Kd hK) hP hD hS 12 1 rfl rfl (o := (5 * n + i)) (by omega) (by decide) (nar01 (hit i)) dX1_writeUses_56 (fun H locs hP hD hS => ?_)
      have hP : va_P D vwCl (XW a cI cZ cD sh sw ts bi (po 0 i it (fun _ => (0 : Int32))) tu ne' pr so lo wt (nI n) lp lz lu' (upd (po (5 * n) i lk it) (5 * n + i) (it i)) ld lf lb lw) H := hP
      have hD : va_D A (XW a cI cZ cD sh sw ts bi (po 0 i it (fun _ => (0 : Int32))) tu ne' pr so lo wt (nI n) lp lz lu' (upd (po (5 * n) i lk it) (5 * n + i) (it i)) ld lf lb lw) := hD
      refine lv_aload_n hx hb dX1_writeUses_57 rfl (lv_at hl 2 rfl) ?_
      refine va_get (D := D) (ci := 1) (v := .ref (a 8)) (C := RX1) (T := TX1) (N := 12) hx hb (dr_words hts _) inX1 (xk_od hown) (xk_Kd hK) hP 0 rfl rfl 6 (by decide) (dr_words hts _ (.fieldLink RX1 33 "GridCommons" "ledger" "LGridCommons$Ledger;") (by decide +kernel)) (fun _ h9 => h9) rfl dX1_writeUses_58 ?_
      refine va_get (D := D) (ci := 0) (v := .ref (a 11)) (C := RX0) (T := TX0) (N := 9) hx hb (dr_words hts _) inX0 (xk_od hown) (xk_Kd hK) hP 8 rfl rfl 3 (by decide) (dr_words hts _ (.fieldLink RX1 125 "GridCommons$Ledger" "use" "[D") (by decide +kernel)) (fun _ h9 => h9) rfl dX1_writeUses_61 ?_
      refine lv_iload_n hx hb dX1_writeUses_64 rfl (lv_at hl 1 rfl) ?_
      refine lv_dload hx hb dX1_writeUses_65 (lv_at hl 0 rfl) ?_
      refine xk_dast hx hb (xk_Kd hK) hP hD hS 11 2 rfl rfl (o := (5 * n + i)) (by omega) (by decide) dX1_writeUses_67 (fun H locs hP hD hS => ?_)
      have hP : va_P D vwCl (XW a cI cZ cD sh sw ts bi (po 0 i it (fun _ => (0 : Int32))) tu ne' pr so lo wt (nI n) lp lz (vf_upd lu' (5 * n + i) (FP.i2d (tu i))) (upd (po (5 * n) i lk it) (5 * n + i) (it i)) ld lf lb lw) H := hP
      have hD : va_D A (XW a cI cZ cD sh sw ts bi (po 0 i it (fun _ => (0 : Int32))) tu ne' pr so lo wt (nI n) lp lz (vf_upd lu' (5 * n + i) (FP.i2d (tu i))) (upd (po (5 * n) i lk it) (5 * n + i) (it i)) ld lf lb lw) := hD
      refine lv_aload_n hx hb dX1_writeUses_68 rfl (lv_at hl 2 rfl) ?_
      refine va_get (D := D) (ci := 1) (v := .ref (a 7)) (C := RX1) (T := TX1) (N := 12) hx hb (dr_words hts _) inX1 (xk_od hown) (xk_Kd hK) hP 0 rfl rfl 10 (by decide) (dr_words hts _ (.fieldLink RX1 50 "GridCommons" "needs" "[D") (by decide +kernel)) (fun _ h9 => h9) rfl dX1_writeUses_69 ?_
      refine lv_iload_n hx hb dX1_writeUses_72 rfl (lv_at hl 4 rfl) ?_
      refine lv_dload hx hb dX1_writeUses_73 (lv_at hl 0 rfl) ?_
      refine xk_dast hx hb (xk_Kd hK) hP hD hS 7 2 rfl rfl (o := i) (by omega) (by decide) dX1_writeUses_75 (fun H locs hP hD hS => ?_)
      have hP : va_P D vwCl (XW a cI cZ cD sh sw ts bi (po 0 i it (fun _ => (0 : Int32))) tu (vf_upd ne' i (FP.i2d (tu i))) pr so lo wt (nI n) lp lz (vf_upd lu' (5 * n + i) (FP.i2d (tu i))) (upd (po (5 * n) i lk it) (5 * n + i) (it i)) ld lf lb lw) H := hP
      have hD : va_D A (XW a cI cZ cD sh sw ts bi (po 0 i it (fun _ => (0 : Int32))) tu (vf_upd ne' i (FP.i2d (tu i))) pr so lo wt (nI n) lp lz (vf_upd lu' (5 * n + i) (FP.i2d (tu i))) (upd (po (5 * n) i lk it) (5 * n + i) (it i)) ld lf lb lw) := hD
      refine lv_aload_n hx hb dX1_writeUses_76 rfl (lv_at hl 2 rfl) ?_
      refine va_get (D := D) (ci := 1) (v := .ref (a 5)) (C := RX1) (T := TX1) (N := 12) hx hb (dr_words hts _) inX1 (xk_od hown) (xk_Kd hK) hP 0 rfl rfl 4 (by decide) (dr_words hts _ (.fieldLink RX1 24 "GridCommons" "isTold" "[Z") (by decide +kernel)) (fun _ h9 => h9) rfl dX1_writeUses_77 ?_
      refine lv_iload_n hx hb dX1_writeUses_80 rfl (lv_at hl 4 rfl) ?_
      refine lv_iconst (v := nI 0) hx hb dX1_writeUses_81 (by decide) ?_
      refine xk_zast (x' := 0) hx hb (xk_Kd hK) hP hD hS 5 1 rfl rfl (o := i) (by omega) (by decide) rfl dX1_writeUses_82 (fun H locs hP hD hS => ?_)
      have hP : va_P D vwCl (XW a cI cZ cD sh sw ts bi (upd (po 0 i it (fun _ => (0 : Int32))) i 0) tu (vf_upd ne' i (FP.i2d (tu i))) pr so lo wt (nI n) lp lz (vf_upd lu' (5 * n + i) (FP.i2d (tu i))) (upd (po (5 * n) i lk it) (5 * n + i) (it i)) ld lf lb lw) H := hP
      have hD : va_D A (XW a cI cZ cD sh sw ts bi (upd (po 0 i it (fun _ => (0 : Int32))) i 0) tu (vf_upd ne' i (FP.i2d (tu i))) pr so lo wt (nI n) lp lz (vf_upd lu' (5 * n + i) (FP.i2d (tu i))) (upd (po (5 * n) i lk it) (5 * n + i) (it i)) ld lf lb lw) := hD
      have e1 : upd (po (5 * n) i lk it) (5 * n + i) (it i) = po (5 * n) (i + 1) lk it := po_s _ _ _ _
      have e2 : upd (po 0 i it (fun _ => (0 : Int32))) i 0 = po 0 (i + 1) it (fun _ => (0 : Int32)) := po_s0 i it (fun _ => (0 : Int32))
      rw [e1, e2] at hP hD
      refine lv_iinc (v := nI (i + 1)) (lv' := [(2, .int (nI (i + 1))), (4, .double (FP.i2d (tu i))), (3, .int (nI (5 * n + i))), (0, .ref (a 0)), (1, .int (nI n))]) hx hb dX1_writeUses_83 hl (k := 4) rfl (nI_1 i) (by decide) rfl (fun ls hl => ?_)
      refine lv_goto (tgt := 2) hx hb dX1_writeUses_86 (by decide) ?_
      exact next _ _ _ _ hlt ⟨(vf_upd lu' (5 * n + i) (FP.i2d (tu i))), (vf_upd ne' i (FP.i2d (tu i))), (by rw [dts_up]; exact po_step hq0 e8), (upto_step hq1 e8), hP, hD, hS, hdl, lv_sub hl [3, 4, 0] rfl⟩
set_option maxHeartbeats 4000000 in
set_option maxRecDepth 100000 in
theorem mX1_writeUsed (l : Launch) (D : va_G) (cI cZ cD : ClassId) (a : Nat → Nat) (sz : Nat) (sh sw ts : Nat → Int32) (bi : Nat → UInt64) (it tu : Nat → Int32) (ne : Nat → UInt64) (pr so lo : UInt64) (wt cn : Int32) (lp lz lu : Nat → UInt64) (lk : Nat → Int32) (ld lf lb lw : Nat → UInt64) (n : Nat) (hn : n < 60) (V : Nat → Dm) (hV : is5 ne V) : Met l yX1_writeUsed wsX1_writeUsed ({ frames := 1, cells := 0, slots := 0, locals := 21 } : Room) (va_Pc [.ref (a 0), .int (nI n)] (XP D cI cZ cD (XW a cI cZ cD sh sw ts bi it tu ne pr so lo wt cn lp lz lu lk ld lf lb lw) sz)) (va_Qv (fun (u : Nat → UInt64) => dts u = po (5 * n) 5 (dts ld) V) (fun (u : Nat → UInt64) t => XB D cI cZ cD (XW a cI cZ cD sh sw ts bi it tu ne pr so lo wt cn lp lz lu lk u lf lb lw) (va_A (XW a cI cZ cD sh sw ts bi it tu ne pr so lo wt cn lp lz lu lk ld lf lb lw) sz) t) (va_A (XW a cI cZ cD sh sw ts bi it tu ne pr so lo wt cn lp lz lu lk ld lf lb lw) sz)) 0 0 (va_A (XW a cI cZ cD sh sw ts bi it tu ne pr so lo wt cn lp lz lu lk ld lf lb lw) sz) := by
  refine Met.ofW (cc := cX1_writeUsed) (maxL := 3) (ret := none) (by decide +kernel) rfl ?_
  intro p e s m args below meth c s₁ B hml hv
  obtain ⟨rfl, hsz, hP, hK, hD0⟩ := hv
  have hx := B.exec
  have hb := B.bytes
  have hr := B.returns
  have hts := atoms_spec (ws := wsX1_writeUsed) B.pre
  have hown : s.vm.findClass RX1 = some m.cls := findClass_of_methodNamed B.named
  have hlocks := B.notSynchronized
  subst hsz
  have hD := hD0.self (sz := s.heap.size)
  generalize hAe : va_A (XW a cI cZ cD sh sw ts bi it tu ne pr so lo wt cn lp lz lu lk ld lf lb lw) s.heap.size = A at hD ⊢
  have hA : ∀ q : Nat, s.heap.size ≤ q → A q := fun q h => by rw [← hAe]; exact Or.inr h
  have hS : va_S A s.heap s.heap [] := va_S.rf
  have hl := lv_entry ([.ref (a 0), .int (nI n)]) (n := 3) (Nat.le_of_ble_eq_true rfl)
  rw [lg_entry_eq]
  generalize (lg_sl ([.ref (a 0), .int (nI n)]) ++ List.replicate (3 - (lg_sl ([.ref (a 0), .int (nI n)])).length) Slot.unset).toArray = ls at hl ⊢
  have hl : lv_has ls 3 [(0, .ref (a 0)), (1, .int (nI n))] := hl
  have inX1 : ∀ w ∈ wsX10, w ∈ wsX1_writeUsed := by decide +kernel
  have inX0 : ∀ w ∈ wsX00, w ∈ wsX1_writeUsed := by decide +kernel
  refine lv_iconst (v := nI 0) hx hb dX1_writeUsed_0 (by decide) ?_
  refine lv_istore_n (lv' := [(2, .int (nI 0)), (0, .ref (a 0)), (1, .int (nI n))]) hx hb dX1_writeUsed_1 rfl hl (by decide) rfl (fun ls hl => ?_)
  refine xk_loopP (fun i H locs ls => ∃ (ld' : Nat → UInt64), (dts ld' = po (5 * n) i (dts ld) V) ∧ (va_P D vwCl (XW a cI cZ cD sh sw ts bi it tu ne pr so lo wt cn lp lz lu lk ld' lf lb lw) H) ∧ (va_D A (XW a cI cZ cD sh sw ts bi it tu ne pr so lo wt cn lp lz lu lk ld' lf lb lw)) ∧ (va_S A s.heap H locs) ∧ (lv_has ls 3 [(0, .ref (a 0)), (1, .int (nI n)), (2, .int (nI i))])) 5 ?_ (i := 0) (Nat.zero_le _) ⟨ld, (po_0 _ _ _).symm, hP, hD, hS, lv_sub hl [1, 2, 0] rfl⟩
  intro i H locs ls hi hI next
  obtain ⟨ld', hq0, hP, hD, hS, hl⟩ := hI
  refine lv_iload_n hx hb dX1_writeUsed_2 rfl (lv_at hl 2 rfl) ?_
  refine lv_iconst (v := nI 5) hx hb dX1_writeUsed_3 (by decide) ?_
  refine lv_icmp_ge (tgt := 32) hx hb dX1_writeUsed_4 (by decide) (fun c => ?_) (fun c => ?_)
  · skip
    obtain rfl := xk_ge hi (by decide) c
    exact W.vret hx hb hr (fun t ht hW => ⟨⟨ld', rfl, hq0, by rw [ht]; exact hP, va_K.moved hW.alike hK, hD⟩, hS.F ht⟩) hS.2.2 dX1_writeUsed_32
  · skip
    have hlt := xk_nge hi (by decide) c
    refine lv_aload_n hx hb dX1_writeUsed_7 rfl (lv_at hl 0 rfl) ?_
    refine va_get (D := D) (ci := 1) (v := .ref (a 8)) (C := RX1) (T := TX1) (N := 12) hx hb hts inX1 hown hK hP 0 rfl rfl 6 (by decide) (hts (.fieldLink RX1 33 "GridCommons" "ledger" "LGridCommons$Ledger;") (by decide +kernel)) (fun _ h9 => h9) rfl dX1_writeUsed_8 ?_
    refine va_get (D := D) (ci := 0) (v := .ref (a 13)) (C := RX0) (T := TX0) (N := 9) hx hb hts inX0 hown hK hP 8 rfl rfl 5 (by decide) (hts (.fieldLink RX1 128 "GridCommons$Ledger" "used" "[D") (by decide +kernel)) (fun _ h9 => h9) rfl dX1_writeUsed_11 ?_
    refine lv_iload_n hx hb dX1_writeUsed_14 rfl (lv_at hl 2 rfl) ?_
    refine lv_iload_n hx hb dX1_writeUsed_15 rfl (lv_at hl 1 rfl) ?_
    refine vp_callSi (va_Run.run (va_runS (As := [.int (nI i), .int (nI n)]) (rest := [.ref (a 13)]) ⟨hx, hb, hml, hown, hts⟩ (mX0_slot l i n) (va_cwS 2 hts gX1_writeUsed_X0_slot rfl rfl rfl (by decide +kernel) ⟨Nat.le_of_ble_eq_true rfl, Nat.le_of_ble_eq_true rfl⟩) ⟨fun a U g mk q => q, fun U hU hW => ⟨rfl, trivial⟩⟩ rfl rfl hl.1 rfl (lv_room (Nat.le_of_ble_eq_true rfl)) dX1_writeUsed_16 ⟨Nat.le_of_ble_eq_true rfl, Nat.le_of_ble_eq_true rfl⟩)) (fun r hr1 => ?_)
    subst hr1
    refine lv_aload_n hx hb dX1_writeUsed_19 rfl (lv_at hl 0 rfl) ?_
    refine va_get (D := D) (ci := 1) (v := .ref (a 7)) (C := RX1) (T := TX1) (N := 12) hx hb hts inX1 hown hK hP 0 rfl rfl 10 (by decide) (hts (.fieldLink RX1 50 "GridCommons" "needs" "[D") (by decide +kernel)) (fun _ h9 => h9) rfl dX1_writeUsed_20 ?_
    refine lv_iload_n hx hb dX1_writeUsed_23 rfl (lv_at hl 2 rfl) ?_
    refine xk_dald hx hb hK hP 7 2 rfl rfl (o := i) (by omega) (by decide) dX1_writeUsed_24 ?_
    refine xk_dast hx hb hK hP hD hS 13 2 rfl rfl (o := (5 * n + i)) (by omega) (by decide) dX1_writeUsed_25 (fun H locs hP hD hS => ?_)
    have hP : va_P D vwCl (XW a cI cZ cD sh sw ts bi it tu ne pr so lo wt cn lp lz lu lk (vf_upd ld' (5 * n + i) (ne i)) lf lb lw) H := hP
    have hD : va_D A (XW a cI cZ cD sh sw ts bi it tu ne pr so lo wt cn lp lz lu lk (vf_upd ld' (5 * n + i) (ne i)) lf lb lw) := hD
    refine lv_iinc (v := nI (i + 1)) (lv' := [(2, .int (nI (i + 1))), (0, .ref (a 0)), (1, .int (nI n))]) hx hb dX1_writeUsed_26 hl (k := 2) rfl (nI_1 i) (by decide) rfl (fun ls hl => ?_)
    refine lv_goto (tgt := 2) hx hb dX1_writeUsed_29 (by decide) ?_
    exact next _ _ _ hlt ⟨(vf_upd ld' (5 * n + i) (ne i)), (by rw [dts_up]; exact po_step hq0 (hV i hlt)), hP, hD, hS, lv_sub hl [1, 2, 0] rfl⟩
set_option maxHeartbeats 4000000 in
set_option maxRecDepth 100000 in
theorem mX1_shedUntilCarried (l : Launch) (D : va_G) (cI cZ cD : ClassId) (a : Nat → Nat) (sz : Nat) (sh sw ts : Nat → Int32) (bi : Nat → UInt64) (it tu : Nat → Int32) (ne : Nat → UInt64) (pr so lo : UInt64) (wt cn : Int32) (lp lz lu : Nat → UInt64) (lk : Nat → Int32) (ld lf lb lw : Nat → UInt64) (V : Nat → Dm) (hV : is5 ne V) : MetD lw_cs l yX1_shedUntilCarried wsX1_shedUntilCarried ({ frames := 2, cells := 0, slots := 0, locals := 43 } : Room) (va_Pc [.ref (a 0)] (XP D cI cZ cD (XW a cI cZ cD sh sw ts bi it tu ne pr so lo wt cn lp lz lu lk ld lf lb lw) sz)) (va_Qv (fun (u : (Nat → Int32) × (Nat → UInt64)) => u.1 = (shd sw 5 ts V).1 ∧ is5 u.2 (shd sw 5 ts V).2) (fun (u : (Nat → Int32) × (Nat → UInt64)) t => XB D cI cZ cD (XW a cI cZ cD sh sw u.1 bi it tu u.2 pr so lo wt cn lp lz lu lk ld lf lb lw) (va_A (XW a cI cZ cD sh sw ts bi it tu ne pr so lo wt cn lp lz lu lk ld lf lb lw) sz) t) (va_A (XW a cI cZ cD sh sw ts bi it tu ne pr so lo wt cn lp lz lu lk ld lf lb lw) sz)) 0 0 (va_A (XW a cI cZ cD sh sw ts bi it tu ne pr so lo wt cn lp lz lu lk ld lf lb lw) sz) := by
  refine MetD.ofW (cc := cX1_shedUntilCarried) (maxL := 3) (ret := none) (by decide +kernel) rfl ?_
  intro p e s m args below meth c s₁ B hml hv hd0
  obtain ⟨rfl, hsz, hP, hK, hD0⟩ := hv
  have hx := B.exec
  have hb := B.bytes
  have hr := B.returns
  have hts := atoms_spec (ws := wsX1_shedUntilCarried) B.pre
  have hown : s.vm.findClass RX1 = some m.cls := findClass_of_methodNamed B.named
  have hlocks := B.notSynchronized
  subst hsz
  have hD := hD0.self (sz := s.heap.size)
  generalize hAe : va_A (XW a cI cZ cD sh sw ts bi it tu ne pr so lo wt cn lp lz lu lk ld lf lb lw) s.heap.size = A at hD ⊢
  have hA : ∀ q : Nat, s.heap.size ≤ q → A q := fun q h => by rw [← hAe]; exact Or.inr h
  have hS : va_S A s.heap s.heap [] := va_S.rf
  have hl := lv_entry ([.ref (a 0)]) (n := 3) (Nat.le_of_ble_eq_true rfl)
  rw [lg_entry_eq]
  generalize (lg_sl ([.ref (a 0)]) ++ List.replicate (3 - (lg_sl ([.ref (a 0)])).length) Slot.unset).toArray = ls at hl ⊢
  have hl : lv_has ls 3 [(0, .ref (a 0))] := hl
  have inX1 : ∀ w ∈ wsX10, w ∈ wsX1_shedUntilCarried := by decide +kernel
  refine lv_aload_n hx hb dX1_shedUntilCarried_0 rfl (lv_at hl 0 rfl) ?_
  have hFc := va_free (wc := XW a cI cZ cD sh sw ts bi it tu ne pr so lo wt cn lp lz lu lk ld lf lb lw) hD hS hA [0, 1, 2, 3, 4, 5, 6, 7, 8, 9, 10, 11, 12, 13, 14, 15, 16] rfl
  refine va_calli (va_runV (As := []) (rest := []) ⟨hx, hb, hml, (xk_od hown), (dr_words hts _)⟩ (mX1_nextToShed l D cI cZ cD a _ sh sw ts bi it tu ne pr so lo wt cn lp lz lu lk ld lf lb lw V hV) (cwV 0 (dr_words hts _) gX1_shedUntilCarried_X1_nextToShed rfl rfl rfl (by decide +kernel) ⟨Nat.le_of_ble_eq_true rfl, Nat.le_of_ble_eq_true rfl⟩) ⟨xk_blind, va_recv (xk_Kd hK) hP (ci := 1) (q0 := 0) rfl rfl, xk_pre hP (xk_Kd hK) hD⟩ rfl rfl hl.1 rfl (lv_room (Nat.le_of_ble_eq_true rfl)) dX1_shedUntilCarried_1 ⟨Nat.le_of_ble_eq_true rfl, Nat.le_of_ble_eq_true rfl⟩) hS (fun q _ h => hFc q h) hFc (fun r u t H locs ht hvm hw hB hz1 hk1 hS => ?_)
  obtain ⟨hP, -, hD1⟩ := hB
  rw [ht] at hP
  have hD := hD1.weaken (B := A) (fun _ _ _ h => hFc _ h)
  have hP : va_P D vwCl (XW a cI cZ cD sh sw ts bi it tu ne pr so lo wt cn lp lz lu lk ld lf lb lw) H := hP
  have hD : va_D A (XW a cI cZ cD sh sw ts bi it tu ne pr so lo wt cn lp lz lu lk ld lf lb lw) := hD
  subst hw
  refine lv_istore_n (lv' := [(1, .int (oi (nx sw ts V 5))), (0, .ref (a 0))]) hx hb dX1_shedUntilCarried_4 rfl hl (by decide) rfl (fun ls hl => ?_)
  refine lv_iconst (v := nI 0) hx hb dX1_shedUntilCarried_5 (by decide) ?_
  refine lv_istore_n (lv' := [(2, .int (nI 0)), (1, .int (oi (nx sw ts V 5))), (0, .ref (a 0))]) hx hb dX1_shedUntilCarried_6 rfl hl (by decide) rfl (fun ls hl => ?_)
  refine xk_loop (fun i H locs ls d => ∃ (ts' : Nat → Int32) (ne' : Nat → UInt64) (V' : Nat → Dm) (y : Option Nat), (shd sw (5 - i) ts' V' = shd sw 5 ts V) ∧ (is5 ne' V') ∧ (y = nx sw ts' V' 5) ∧ (va_P D vwCl (XW a cI cZ cD sh sw ts' bi it tu ne' pr so lo wt cn lp lz lu lk ld lf lb lw) H) ∧ (va_D A (XW a cI cZ cD sh sw ts' bi it tu ne' pr so lo wt cn lp lz lu lk ld lf lb lw)) ∧ (va_S A s.heap H locs) ∧ (s.drawn.sameBut d lw_cs) ∧ (lv_has ls 3 [(0, .ref (a 0)), (1, .int (oi y)), (2, .int (nI i))])) 5 ?_ (i := 0) (Nat.zero_le _) ⟨ts, ne, V, (nx sw ts V 5), rfl, hV, rfl, hP, hD, hS, hd0, lv_sub hl [2, 1, 0] rfl⟩
  intro i H locs ls d hi hI next
  obtain ⟨ts', ne', V', y, hq0, hq1, hq2, hP, hD, hS, hdl, hl⟩ := hI
  refine lv_iload_n hx hb dX1_shedUntilCarried_7 rfl (lv_at hl 2 rfl) ?_
  refine lv_iconst (v := nI 5) hx hb dX1_shedUntilCarried_8 (by decide) ?_
  refine lv_icmp_ge (tgt := 52) hx hb dX1_shedUntilCarried_9 (by decide) (fun c => ?_) (fun c => ?_)
  · skip
    obtain rfl := xk_ge hi (by decide) c
    have e9 : shd sw 5 ts V = (ts', V') := by rw [← hq0]; rfl
    refine W.endD hdl ?_
    exact W.vret hx hb hr (fun t ht hW => ⟨⟨(ts', ne'), rfl, ⟨by rw [e9], by rw [e9]; exact hq1⟩, by rw [ht]; exact hP, va_K.moved hW.alike (xk_Kd hK), hD⟩, hS.F ht⟩) hS.2.2 dX1_shedUntilCarried_52
  · skip
    have hlt := xk_nge hi (by decide) c
    cases y with
    | none =>
      have hl : lv_has ls 3 [(0, .ref (a 0)), (1, .int (-1)), (2, .int (nI i))] := hl
      refine lv_iload_n hx hb dX1_shedUntilCarried_12 rfl (lv_at hl 1 rfl) ?_
      refine lv_iconst (v := (-1)) hx hb dX1_shedUntilCarried_13 (by decide) ?_
      refine lv_icmp_eq (tgt := 52) hx hb dX1_shedUntilCarried_14 (by decide) (fun c1 => ?_) (fun c1 => ?_)
      · skip
        have e9 : shd sw 5 ts V = (ts', V') := by rw [← hq0]; exact shd_done (Or.inr hq2.symm) _
        refine W.endD hdl ?_
        exact W.vret hx hb hr (fun t ht hW => ⟨⟨(ts', ne'), rfl, ⟨by rw [e9], by rw [e9]; exact hq1⟩, by rw [ht]; exact hP, va_K.moved hW.alike (xk_Kd hK), hD⟩, hS.F ht⟩) hS.2.2 dX1_shedUntilCarried_52
      · skip
        exact absurd rfl c1
    | some o =>
      have hl : lv_has ls 3 [(0, .ref (a 0)), (1, .int (nI o)), (2, .int (nI i))] := hl
      have ho := (nx_lt hq2.symm).1
      refine lv_iload_n hx hb dX1_shedUntilCarried_12 rfl (lv_at hl 1 rfl) ?_
      refine lv_iconst (v := (-1)) hx hb dX1_shedUntilCarried_13 (by decide) ?_
      refine lv_icmp_eq (tgt := 52) hx hb dX1_shedUntilCarried_14 (by decide) (fun c1 => ?_) (fun c1 => ?_)
      · skip
        exact absurd c1 (nI_nm1 o (by omega))
      · skip
        refine lv_aload_n hx hb dX1_shedUntilCarried_17 rfl (lv_at hl 0 rfl) ?_
        have hFc := va_free (wc := XW a cI cZ cD sh sw ts' bi it tu ne' pr so lo wt cn lp lz lu lk ld lf lb lw) hD hS hA [0, 1, 2, 3, 4, 5, 6, 7, 8, 9, 10, 11, 12, 13, 14, 15, 16] rfl
        refine va_calliD hdl (va_runV_D (As := []) (rest := []) ⟨hx, hb, hml, (xk_od hown), (dr_words hts _)⟩ (mX1_isOverLine l D cI cZ cD a _ sh sw ts' bi it tu ne' pr so lo wt cn lp lz lu lk ld lf lb lw V' hq1) (cwV 0 (dr_words hts _) gX1_shedUntilCarried_X1_isOverLine rfl rfl rfl (by decide +kernel) ⟨Nat.le_of_ble_eq_true rfl, Nat.le_of_ble_eq_true rfl⟩) ⟨xk_blind, va_recv (xk_Kd hK) hP (ci := 1) (q0 := 0) rfl rfl, xk_pre hP (xk_Kd hK) hD⟩ rfl rfl hl.1 rfl (lv_room (Nat.le_of_ble_eq_true rfl)) dX1_shedUntilCarried_18 ⟨Nat.le_of_ble_eq_true rfl, Nat.le_of_ble_eq_true rfl⟩) hS (fun q _ h => hFc q h) hFc (fun r u t H locs ht hvm hw hB hz1 hk1 hS _ hd2 => ?_)
        obtain ⟨hP, -, hD1⟩ := hB
        rw [ht] at hP
        have hD := hD1.weaken (B := A) (fun _ _ _ h => hFc _ h)
        have hP : va_P D vwCl (XW a cI cZ cD sh sw ts' bi it tu ne' pr so lo wt cn lp lz lu lk ld lf lb lw) H := hP
        have hD : va_D A (XW a cI cZ cD sh sw ts' bi it tu ne' pr so lo wt cn lp lz lu lk ld lf lb lw) := hD
        subst hw
        refine lv_if_eq (tgt := 52) hx hb dX1_shedUntilCarried_21 (by decide) (fun c2 => ?_) (fun c2 => ?_)
        · skip
          have e9 : shd sw 5 ts V = (ts', V') := by rw [← hq0]; exact shd_done (Or.inl (bI_0.mp c2)) _
          refine W.endD hd2 ?_
          exact W.vret hx hb hr (fun t ht hW => ⟨⟨(ts', ne'), rfl, ⟨by rw [e9], by rw [e9]; exact hq1⟩, by rw [ht]; exact hP, va_K.moved hW.alike (xk_Kd hK), hD⟩, hS.F ht⟩) hS.2.2 dX1_shedUntilCarried_52
        · skip
          have hov : over V' := Decidable.of_not_not (fun q => c2 (bI_0.mpr q))
          refine lv_aload_n hx hb dX1_shedUntilCarried_24 rfl (lv_at hl 0 rfl) ?_
          refine va_get (D := D) (ci := 1) (v := .ref (a 7)) (C := RX1) (T := TX1) (N := 12) hx hb (dr_words hts _) inX1 (xk_od hown) (xk_Kd hK) hP 0 rfl rfl 10 (by decide) (dr_words hts _ (.fieldLink RX1 50 "GridCommons" "needs" "[D") (by decide +kernel)) (fun _ h9 => h9) rfl dX1_shedUntilCarried_25 ?_
          refine lv_iload_n hx hb dX1_shedUntilCarried_28 rfl (lv_at hl 1 rfl) ?_
          refine lv_dconst0 hx hb dX1_shedUntilCarried_29 ?_
          refine xk_dast hx hb (xk_Kd hK) hP hD hS 7 2 rfl rfl (o := o) (by omega) (by decide) dX1_shedUntilCarried_30 (fun H locs hP hD hS => ?_)
          have hP : va_P D vwCl (XW a cI cZ cD sh sw ts' bi it tu (vf_upd ne' o FP.dconst0) pr so lo wt cn lp lz lu lk ld lf lb lw) H := hP
          have hD : va_D A (XW a cI cZ cD sh sw ts' bi it tu (vf_upd ne' o FP.dconst0) pr so lo wt cn lp lz lu lk ld lf lb lw) := hD
          refine lv_aload_n hx hb dX1_shedUntilCarried_31 rfl (lv_at hl 0 rfl) ?_
          refine va_get (D := D) (ci := 1) (v := .ref (a 3)) (C := RX1) (T := TX1) (N := 12) hx hb (dr_words hts _) inX1 (xk_od hown) (xk_Kd hK) hP 0 rfl rfl 2 (by decide) (dr_words hts _ (.fieldLink RX1 17 "GridCommons" "timesShed" "[I") (by decide +kernel)) (fun _ h9 => h9) rfl dX1_shedUntilCarried_32 ?_
          refine lv_iload_n hx hb dX1_shedUntilCarried_35 rfl (lv_at hl 1 rfl) ?_
          refine lv_dup2_11 hx hb dX1_shedUntilCarried_36 rfl rfl ?_
          refine xk_iald hx hb (xk_Kd hK) hP 3 0 rfl rfl (o := o) (by omega) (by decide) dX1_shedUntilCarried_37 ?_
          refine lv_iconst (v := nI 1) hx hb dX1_shedUntilCarried_38 (by decide) ?_
          refine lv_iadd hx hb dX1_shedUntilCarried_39 ?_
          refine xk_iast hx hb (xk_Kd hK) hP hD hS 3 0 rfl rfl (o := o) (by omega) (by decide) dX1_shedUntilCarried_40 (fun H locs hP hD hS => ?_)
          have hP : va_P D vwCl (XW a cI cZ cD sh sw (upd ts' o ((ts' o) + (nI 1))) bi it tu (vf_upd ne' o FP.dconst0) pr so lo wt cn lp lz lu lk ld lf lb lw) H := hP
          have hD : va_D A (XW a cI cZ cD sh sw (upd ts' o ((ts' o) + (nI 1))) bi it tu (vf_upd ne' o FP.dconst0) pr so lo wt cn lp lz lu lk ld lf lb lw) := hD
          refine lv_aload_n hx hb dX1_shedUntilCarried_41 rfl (lv_at hl 0 rfl) ?_
          have hFc := va_free (wc := XW a cI cZ cD sh sw (upd ts' o ((ts' o) + (nI 1))) bi it tu (vf_upd ne' o FP.dconst0) pr so lo wt cn lp lz lu lk ld lf lb lw) hD hS hA [0, 1, 2, 3, 4, 5, 6, 7, 8, 9, 10, 11, 12, 13, 14, 15, 16] rfl
          refine va_calli (va_runV (As := []) (rest := []) ⟨hx, hb, hml, (xk_od hown), (dr_words hts _)⟩ (mX1_nextToShed l D cI cZ cD a _ sh sw (upd ts' o ((ts' o) + (nI 1))) bi it tu (vf_upd ne' o FP.dconst0) pr so lo wt cn lp lz lu lk ld lf lb lw (va_up V' o dZ) (hq1.up o rfl)) (cwV 0 (dr_words hts _) gX1_shedUntilCarried_X1_nextToShed rfl rfl rfl (by decide +kernel) ⟨Nat.le_of_ble_eq_true rfl, Nat.le_of_ble_eq_true rfl⟩) ⟨xk_blind, va_recv (xk_Kd hK) hP (ci := 1) (q0 := 0) rfl rfl, xk_pre hP (xk_Kd hK) hD⟩ rfl rfl hl.1 rfl (lv_room (Nat.le_of_ble_eq_true rfl)) dX1_shedUntilCarried_42 ⟨Nat.le_of_ble_eq_true rfl, Nat.le_of_ble_eq_true rfl⟩) hS (fun q _ h => hFc q h) hFc (fun r u t H locs ht hvm hw hB hz1 hk1 hS => ?_)
          obtain ⟨hP, -, hD1⟩ := hB
          rw [ht] at hP
          have hD := hD1.weaken (B := A) (fun _ _ _ h => hFc _ h)
          have hP : va_P D vwCl (XW a cI cZ cD sh sw (upd ts' o ((ts' o) + (nI 1))) bi it tu (vf_upd ne' o FP.dconst0) pr so lo wt cn lp lz lu lk ld lf lb lw) H := hP
          have hD : va_D A (XW a cI cZ cD sh sw (upd ts' o ((ts' o) + (nI 1))) bi it tu (vf_upd ne' o FP.dconst0) pr so lo wt cn lp lz lu lk ld lf lb lw) := hD
          subst hw
          refine lv_istore_n (lv' := [(1, .int (oi (nx sw (upd ts' o (ts' o + nI 1)) (va_up V' o dZ) 5))), (0, .ref (a 0)), (2, .int (nI i))]) hx hb dX1_shedUntilCarried_45 rfl hl (by decide) rfl (fun ls hl => ?_)
          refine lv_iinc (v := nI (i + 1)) (lv' := [(2, .int (nI (i + 1))), (1, .int (oi (nx sw (upd ts' o (ts' o + nI 1)) (va_up V' o dZ) 5))), (0, .ref (a 0))]) hx hb dX1_shedUntilCarried_46 hl (k := 2) rfl (nI_1 i) (by decide) rfl (fun ls hl => ?_)
          refine lv_goto (tgt := 7) hx hb dX1_shedUntilCarried_49 (by decide) ?_
          exact next _ _ _ _ hlt ⟨(upd ts' o (ts' o + nI 1)), (vf_upd ne' o FP.dconst0), (va_up V' o dZ), (nx sw (upd ts' o (ts' o + nI 1)) (va_up V' o dZ) 5), (by rw [← hq0, show 5 - i = (5 - (i + 1)) + 1 by omega]; exact (shd_go hov hq2.symm _).symm), (hq1.up o rfl), rfl, hP, hD, hS, hd2, lv_sub hl [2, 1, 0] rfl⟩
end
section
/-! GridCommons: the sun, the battery, the bills -/
theorem is5_cg {f : Nat → UInt64} {F G : Nat → Dm} (h : is5 f F) (e : F = G) : is5 f G := e ▸ h
theorem vf_self {α : Type} (f : Nat → α) (k : Nat) (x : α) : vf_upd f k x k = x := if_pos rfl
theorem dts_up2 (f : Nat → UInt64) (k : Nat) (x y : UInt64) : dts (vf_upd (vf_upd f k x) k y) = va_up (dts f) k (dt y) := by
  rw [dts_up, dts_up]
  funext j
  unfold va_up
  by_cases h : j = k
  · rw [if_pos h, if_pos h]
  · rw [if_neg h, if_neg h, if_neg h]
def soN (S L : Dm) : Dm := if dCmp L (dSub d40 S) = some .lt then dAdd S L else d40
def szN (S L : Dm) : Dm := if dCmp L (dSub d40 S) = some .lt then dZ else dSub L (dSub d40 S)
set_option maxHeartbeats 4000000 in
set_option maxRecDepth 100000 in
theorem mX1_giveSun (l : Launch) (D : va_G) (cI cZ cD : ClassId) (a : Nat → Nat) (sz : Nat) (sh sw ts : Nat → Int32) (bi : Nat → UInt64) (it tu : Nat → Int32) (ne : Nat → UInt64) (pr so lo : UInt64) (wt cn : Int32) (lp lz lu : Nat → UInt64) (lk : Nat → Int32) (ld lf lb lw : Nat → UInt64) (o n : Nat) (x : UInt64) (ho : o < 5) (hn : n < 60) (V : Nat → Dm) (hV : is5 ne V) : MetD lw_cs l yX1_giveSun wsX1_giveSun ({ frames := 1, cells := 0, slots := 0, locals := 21 } : Room) (va_Pc [.ref (a 0), .int (nI o), .int (nI n), .double x] (XP D cI cZ cD (XW a cI cZ cD sh sw ts bi it tu ne pr so lo wt cn lp lz lu lk ld lf lb lw) sz)) (va_Qv (fun (u : (Nat → UInt64) × (Nat → UInt64)) => dts u.1 = va_up (dts lf) (5 * n + o) (dAdd (dts lf (5 * n + o)) (dt x)) ∧ is5 u.2 (va_up V o (dSub (V o) (dt x)))) (fun (u : (Nat → UInt64) × (Nat → UInt64)) t => XB D cI cZ cD (XW a cI cZ cD sh sw ts bi it tu u.2 pr so lo wt cn lp lz lu lk ld u.1 lb lw) (va_A (XW a cI cZ cD sh sw ts bi it tu ne pr so lo wt cn lp lz lu lk ld lf lb lw) sz) t) (va_A (XW a cI cZ cD sh sw ts bi it tu ne pr so lo wt cn lp lz lu lk ld lf lb lw) sz)) 0 0 (va_A (XW a cI cZ cD sh sw ts bi it tu ne pr so lo wt cn lp lz lu lk ld lf lb lw) sz) := by
  refine MetD.ofW (cc := cX1_giveSun) (maxL := 5) (ret := none) (by decide +kernel) rfl ?_
  intro p e s m args below meth c s₁ B hml hv hd0
  obtain ⟨rfl, hsz, hP, hK, hD0⟩ := hv
  have hx := B.exec
  have hb := B.bytes
  have hr := B.returns
  have hts := atoms_spec (ws := wsX1_giveSun) B.pre
  have hown : s.vm.findClass RX1 = some m.cls := findClass_of_methodNamed B.named
  have hlocks := B.notSynchronized
  subst hsz
  have hD := hD0.self (sz := s.heap.size)
  generalize hAe : va_A (XW a cI cZ cD sh sw ts bi it tu ne pr so lo wt cn lp lz lu lk ld lf lb lw) s.heap.size = A at hD ⊢
  have hA : ∀ q : Nat, s.heap.size ≤ q → A q := fun q h => by rw [← hAe]; exact Or.inr h
  have hS : va_S A s.heap s.heap [] := va_S.rf
  have hl := lv_entry ([.ref (a 0), .int (nI o), .int (nI n), .double x]) (n := 5) (Nat.le_of_ble_eq_true rfl)
  rw [lg_entry_eq]
  generalize (lg_sl ([.ref (a 0), .int (nI o), .int (nI n), .double x]) ++ List.replicate (5 - (lg_sl ([.ref (a 0), .int (nI o), .int (nI n), .double x])).length) Slot.unset).toArray = ls at hl ⊢
  have hl : lv_has ls 5 [(0, .ref (a 0)), (1, .int (nI o)), (2, .int (nI n)), (3, .double x)] := hl
  have inX1 : ∀ w ∈ wsX10, w ∈ wsX1_giveSun := by decide +kernel
  have inX0 : ∀ w ∈ wsX00, w ∈ wsX1_giveSun := by decide +kernel
  refine lv_aload_n hx hb dX1_giveSun_0 rfl (lv_at hl 0 rfl) ?_
  refine va_get (D := D) (ci := 1) (v := .ref (a 8)) (C := RX1) (T := TX1) (N := 12) hx hb (dr_words hts _) inX1 (xk_od hown) (xk_Kd hK) hP 0 rfl rfl 6 (by decide) (dr_words hts _ (.fieldLink RX1 33 "GridCommons" "ledger" "LGridCommons$Ledger;") (by decide +kernel)) (fun _ h9 => h9) rfl dX1_giveSun_1 ?_
  refine va_get (D := D) (ci := 0) (v := .ref (a 14)) (C := RX0) (T := TX0) (N := 9) hx hb (dr_words hts _) inX0 (xk_od hown) (xk_Kd hK) hP 8 rfl rfl 6 (by decide) (dr_words hts _ (.fieldLink RX1 134 "GridCommons$Ledger" "fromSun" "[D") (by decide +kernel)) (fun _ h9 => h9) rfl dX1_giveSun_4 ?_
  refine lv_iload_n hx hb dX1_giveSun_7 rfl (lv_at hl 1 rfl) ?_
  refine lv_iload_n hx hb dX1_giveSun_8 rfl (lv_at hl 2 rfl) ?_
  refine vp_callSi (va_Run.run (va_runS (As := [.int (nI o), .int (nI n)]) (rest := [.ref (a 14)]) ⟨hx, hb, hml, (xk_od hown), (dr_words hts _)⟩ (mX0_slot l o n) (va_cwS 2 (dr_words hts _) gX1_giveSun_X0_slot rfl rfl rfl (by decide +kernel) ⟨Nat.le_of_ble_eq_true rfl, Nat.le_of_ble_eq_true rfl⟩) ⟨fun a U g mk q => q, fun U hU hW => ⟨rfl, trivial⟩⟩ rfl rfl hl.1 rfl (lv_room (Nat.le_of_ble_eq_true rfl)) dX1_giveSun_9 ⟨Nat.le_of_ble_eq_true rfl, Nat.le_of_ble_eq_true rfl⟩)) (fun r hr1 => ?_)
  subst hr1
  refine lv_dup2_11 hx hb dX1_giveSun_12 rfl rfl ?_
  refine xk_dald hx hb (xk_Kd hK) hP 14 2 rfl rfl (o := (5 * n + o)) (by omega) (by decide) dX1_giveSun_13 ?_
  refine lv_dload_n hx hb dX1_giveSun_14 rfl (lv_at hl 3 rfl) ?_
  refine lv_dadd_any hd0 lw_bits hx hb dX1_giveSun_15 (fun r1 _ hal hd2 => ?_)
  have er1 := dt_add hal
  refine xk_dast hx hb (xk_Kd hK) hP hD hS 14 2 rfl rfl (o := (5 * n + o)) (by omega) (by decide) dX1_giveSun_16 (fun H locs hP hD hS => ?_)
  have hP : va_P D vwCl (XW a cI cZ cD sh sw ts bi it tu ne pr so lo wt cn lp lz lu lk ld (vf_upd lf (5 * n + o) r1) lb lw) H := hP
  have hD : va_D A (XW a cI cZ cD sh sw ts bi it tu ne pr so lo wt cn lp lz lu lk ld (vf_upd lf (5 * n + o) r1) lb lw) := hD
  refine lv_aload_n hx hb dX1_giveSun_17 rfl (lv_at hl 0 rfl) ?_
  refine va_get (D := D) (ci := 1) (v := .ref (a 7)) (C := RX1) (T := TX1) (N := 12) hx hb (dr_words hts _) inX1 (xk_od hown) (xk_Kd hK) hP 0 rfl rfl 10 (by decide) (dr_words hts _ (.fieldLink RX1 50 "GridCommons" "needs" "[D") (by decide +kernel)) (fun _ h9 => h9) rfl dX1_giveSun_18 ?_
  refine lv_iload_n hx hb dX1_giveSun_21 rfl (lv_at hl 1 rfl) ?_
  refine lv_dup2_11 hx hb dX1_giveSun_22 rfl rfl ?_
  refine xk_dald hx hb (xk_Kd hK) hP 7 2 rfl rfl (o := o) (by omega) (by decide) dX1_giveSun_23 ?_
  refine lv_dload_n hx hb dX1_giveSun_24 rfl (lv_at hl 3 rfl) ?_
  refine lv_dsub_any hd2 lw_bits hx hb dX1_giveSun_25 (fun r3 _ hal hd4 => ?_)
  have er3 := dt_sub hal
  refine xk_dast hx hb (xk_Kd hK) hP hD hS 7 2 rfl rfl (o := o) (by omega) (by decide) dX1_giveSun_26 (fun H locs hP hD hS => ?_)
  have hP : va_P D vwCl (XW a cI cZ cD sh sw ts bi it tu (vf_upd ne o r3) pr so lo wt cn lp lz lu lk ld (vf_upd lf (5 * n + o) r1) lb lw) H := hP
  have hD : va_D A (XW a cI cZ cD sh sw ts bi it tu (vf_upd ne o r3) pr so lo wt cn lp lz lu lk ld (vf_upd lf (5 * n + o) r1) lb lw) := hD
  refine W.endD hd4 ?_
  exact W.vret hx hb hr (fun t ht hW => ⟨⟨(vf_upd lf (5 * n + o) r1, vf_upd ne o r3), rfl, ⟨by rw [dts_up, er1]; rfl, hV.up o (by rw [er3, hV o ho])⟩, by rw [ht]; exact hP, va_K.moved hW.alike (xk_Kd hK), hD⟩, hS.F ht⟩) hS.2.2 dX1_giveSun_27
set_option maxHeartbeats 4000000 in
set_option maxRecDepth 100000 in
theorem mX1_giveByShare (l : Launch) (D : va_G) (cI cZ cD : ClassId) (a : Nat → Nat) (sz : Nat) (sh sw ts : Nat → Int32) (bi : Nat → UInt64) (it tu : Nat → Int32) (ne : Nat → UInt64) (pr so lo : UInt64) (wt cn : Int32) (lp lz lu : Nat → UInt64) (lk : Nat → Int32) (ld lf lb lw : Nat → UInt64) (n : Nat) (sun : Int32) (hn : n < 60) (V : Nat → Dm) (hV : is5 ne V) : MetD lw_cs l yX1_giveByShare wsX1_giveByShare ({ frames := 2, cells := 0, slots := 0, locals := 45 } : Room) (va_Pc [.ref (a 0), .int (nI n), .int sun] (XP D cI cZ cD (XW a cI cZ cD sh sw ts bi it tu ne pr so lo wt cn lp lz lu lk ld lf lb lw) sz)) (va_Qv (fun (u : (Nat → UInt64) × (Nat → UInt64) × UInt64) => dts u.1 = po (5 * n) 5 (dts lf) (fun k => dAdd (dts lf (5 * n + k)) (uS sun sh V k)) ∧ is5 u.2.1 (fun k => dSub (V k) (uS sun sh V k)) ∧ dt u.2.2 = lS sun sh V (dt lo) 5) (fun (u : (Nat → UInt64) × (Nat → UInt64) × UInt64) t => XB D cI cZ cD (XW a cI cZ cD sh sw ts bi it tu u.2.1 pr so u.2.2 wt cn lp lz lu lk ld u.1 lb lw) (va_A (XW a cI cZ cD sh sw ts bi it tu ne pr so lo wt cn lp lz lu lk ld lf lb lw) sz) t) (va_A (XW a cI cZ cD sh sw ts bi it tu ne pr so lo wt cn lp lz lu lk ld lf lb lw) sz)) 0 0 (va_A (XW a cI cZ cD sh sw ts bi it tu ne pr so lo wt cn lp lz lu lk ld lf lb lw) sz) := by
  refine MetD.ofW (cc := cX1_giveByShare) (maxL := 6) (ret := none) (by decide +kernel) rfl ?_
  intro p e s m args below meth c s₁ B hml hv hd0
  obtain ⟨rfl, hsz, hP, hK, hD0⟩ := hv
  have hx := B.exec
  have hb := B.bytes
  have hr := B.returns
  have hts := atoms_spec (ws := wsX1_giveByShare) B.pre
  have hown : s.vm.findClass RX1 = some m.cls := findClass_of_methodNamed B.named
  have hlocks := B.notSynchronized
  subst hsz
  have hD := hD0.self (sz := s.heap.size)
  generalize hAe : va_A (XW a cI cZ cD sh sw ts bi it tu ne pr so lo wt cn lp lz lu lk ld lf lb lw) s.heap.size = A at hD ⊢
  have hA : ∀ q : Nat, s.heap.size ≤ q → A q := fun q h => by rw [← hAe]; exact Or.inr h
  have hS : va_S A s.heap s.heap [] := va_S.rf
  have hl := lv_entry ([.ref (a 0), .int (nI n), .int sun]) (n := 6) (Nat.le_of_ble_eq_true rfl)
  rw [lg_entry_eq]
  generalize (lg_sl ([.ref (a 0), .int (nI n), .int sun]) ++ List.replicate (6 - (lg_sl ([.ref (a 0), .int (nI n), .int sun])).length) Slot.unset).toArray = ls at hl ⊢
  have hl : lv_has ls 6 [(0, .ref (a 0)), (1, .int (nI n)), (2, .int sun)] := hl
  have inX1 : ∀ w ∈ wsX10, w ∈ wsX1_giveByShare := by decide +kernel
  refine lv_iconst (v := nI 0) hx hb dX1_giveByShare_0 (by decide) ?_
  refine lv_istore_n (lv' := [(3, .int (nI 0)), (0, .ref (a 0)), (1, .int (nI n)), (2, .int sun)]) hx hb dX1_giveByShare_1 rfl hl (by decide) rfl (fun ls hl => ?_)
  refine xk_loop (fun i H locs ls d => ∃ (lf' : Nat → UInt64) (ne' : Nat → UInt64) (lo' : UInt64), (dts lf' = po (5 * n) i (dts lf) (fun k => dAdd (dts lf (5 * n + k)) (uS sun sh V k))) ∧ (is5 ne' (po 0 i V (fun k => dSub (V k) (uS sun sh V k)))) ∧ (dt lo' = lS sun sh V (dt lo) i) ∧ (va_P D vwCl (XW a cI cZ cD sh sw ts bi it tu ne' pr so lo' wt cn lp lz lu lk ld lf' lb lw) H) ∧ (va_D A (XW a cI cZ cD sh sw ts bi it tu ne' pr so lo' wt cn lp lz lu lk ld lf' lb lw)) ∧ (va_S A s.heap H locs) ∧ (s.drawn.sameBut d lw_cs) ∧ (lv_has ls 6 [(0, .ref (a 0)), (1, .int (nI n)), (2, .int sun), (3, .int (nI i))])) 5 ?_ (i := 0) (Nat.zero_le _) ⟨lf, ne, lo, (po_0 _ _ _).symm, (is5_cg hV (po_0 _ _ _).symm), rfl, hP, hD, hS, hd0, lv_sub hl [1, 2, 3, 0] rfl⟩
  intro i H locs ls d hi hI next
  obtain ⟨lf', ne', lo', hq0, hq1, hq2, hP, hD, hS, hdl, hl⟩ := hI
  refine lv_iload_n hx hb dX1_giveByShare_2 rfl (lv_at hl 3 rfl) ?_
  refine lv_iconst (v := nI 5) hx hb dX1_giveByShare_3 (by decide) ?_
  refine lv_icmp_ge (tgt := 57) hx hb dX1_giveByShare_4 (by decide) (fun c => ?_) (fun c => ?_)
  · skip
    obtain rfl := xk_ge hi (by decide) c
    refine W.endD hdl ?_
    exact W.vret hx hb hr (fun t ht hW => ⟨⟨(lf', ne', lo'), rfl, ⟨hq0, is5_done hq1, hq2⟩, by rw [ht]; exact hP, va_K.moved hW.alike (xk_Kd hK), hD⟩, hS.F ht⟩) hS.2.2 dX1_giveByShare_57
  · skip
    have hlt := xk_nge hi (by decide) c
    refine lv_iload_n hx hb dX1_giveByShare_7 rfl (lv_at hl 2 rfl) ?_
    refine lv_i2d hx hb dX1_giveByShare_8 ?_
    refine lv_aload_n hx hb dX1_giveByShare_9 rfl (lv_at hl 0 rfl) ?_
    refine va_get (D := D) (ci := 1) (v := .ref (a 1)) (C := RX1) (T := TX1) (N := 12) hx hb (dr_words hts _) inX1 (xk_od hown) (xk_Kd hK) hP 0 rfl rfl 0 (by decide) (dr_words hts _ (.fieldLink RX1 9 "GridCommons" "shares" "[I") (by decide +kernel)) (fun _ h9 => h9) rfl dX1_giveByShare_10 ?_
    refine lv_iload_n hx hb dX1_giveByShare_13 rfl (lv_at hl 3 rfl) ?_
    refine xk_iald hx hb (xk_Kd hK) hP 1 0 rfl rfl (o := i) (by omega) (by decide) dX1_giveByShare_14 ?_
    refine lv_i2d hx hb dX1_giveByShare_15 ?_
    refine lv_dmul_any hdl lw_bits hx hb dX1_giveByShare_16 (fun r1 _ hal hd2 => ?_)
    have er1 := dt_mul hal
    refine lv_ldc2d hx hb (xk_od hown) (dr_words hts _ (.constantDouble RX1 75 4616189618054758400) (by decide +kernel)) dX1_giveByShare_17 ?_
    refine lv_ddiv_any hd2 lw_bits hx hb dX1_giveByShare_20 (fun r3 _ hal hd4 => ?_)
    have er3 := dt_div hal
    refine lv_aload_n hx hb dX1_giveByShare_21 rfl (lv_at hl 0 rfl) ?_
    refine va_get (D := D) (ci := 1) (v := .ref (a 7)) (C := RX1) (T := TX1) (N := 12) hx hb (dr_words hts _) inX1 (xk_od hown) (xk_Kd hK) hP 0 rfl rfl 10 (by decide) (dr_words hts _ (.fieldLink RX1 50 "GridCommons" "needs" "[D") (by decide +kernel)) (fun _ h9 => h9) rfl dX1_giveByShare_22 ?_
    refine lv_iload_n hx hb dX1_giveByShare_25 rfl (lv_at hl 3 rfl) ?_
    refine xk_dald hx hb (xk_Kd hK) hP 7 2 rfl rfl (o := i) (by omega) (by decide) dX1_giveByShare_26 ?_
    refine vp_callSd (va_Run.run (va_runS (As := [.double r3, .double (ne' i)]) (rest := []) ⟨hx, hb, hml, (xk_od hown), (dr_words hts _)⟩ (mX1_lesser l r3 (ne' i)) (va_cwS 2 (dr_words hts _) gX1_giveByShare_X1_lesser rfl rfl rfl (by decide +kernel) ⟨Nat.le_of_ble_eq_true rfl, Nat.le_of_ble_eq_true rfl⟩) ⟨fun a U g mk q => q, fun U hU hW => ⟨rfl, trivial⟩⟩ rfl rfl hl.1 rfl (lv_room (Nat.le_of_ble_eq_true rfl)) dX1_giveByShare_27 ⟨Nat.le_of_ble_eq_true rfl, Nat.le_of_ble_eq_true rfl⟩)) (fun x hx1 => ?_)
    have eu : dt x = uS sun sh V i := by rw [hx1, er3, er1, hq1 i hlt, po_at0]; rfl
    refine lv_dstore (lv' := [(4, .double x), (0, .ref (a 0)), (1, .int (nI n)), (2, .int sun), (3, .int (nI i))]) hx hb dX1_giveByShare_30 hl (by decide) rfl (fun ls hl => ?_)
    refine lv_aload_n hx hb dX1_giveByShare_32 rfl (lv_at hl 1 rfl) ?_
    refine lv_iload_n hx hb dX1_giveByShare_33 rfl (lv_at hl 4 rfl) ?_
    refine lv_iload_n hx hb dX1_giveByShare_34 rfl (lv_at hl 2 rfl) ?_
    refine lv_dload hx hb dX1_giveByShare_35 (lv_at hl 0 rfl) ?_
    have hFc := va_free (wc := XW a cI cZ cD sh sw ts bi it tu ne' pr so lo' wt cn lp lz lu lk ld lf' lb lw) hD hS hA [0, 1, 2, 3, 4, 5, 6, 7, 8, 9, 10, 11, 12, 13, 14, 15, 16] rfl
    refine va_callvD hd4 (va_runV_D (As := [.int (nI i), .int (nI n), .double x]) (rest := []) ⟨hx, hb, hml, (xk_od hown), (dr_words hts _)⟩ (mX1_giveSun l D cI cZ cD a _ sh sw ts bi it tu ne' pr so lo' wt cn lp lz lu lk ld lf' lb lw i n x hlt hn _ hq1) (cwV 3 (dr_words hts _) gX1_giveByShare_X1_giveSun rfl rfl rfl (by decide +kernel) ⟨Nat.le_of_ble_eq_true rfl, Nat.le_of_ble_eq_true rfl⟩) ⟨xk_blind, va_recv (xk_Kd hK) hP (ci := 1) (q0 := 0) rfl rfl, xk_pre hP (xk_Kd hK) hD⟩ rfl rfl hl.1 rfl (lv_room (Nat.le_of_ble_eq_true rfl)) dX1_giveByShare_37 ⟨Nat.le_of_ble_eq_true rfl, Nat.le_of_ble_eq_true rfl⟩) hS (fun q _ h => hFc q h) hFc (fun u t H locs ht hvm hw hB hz1 hk1 hS _ hd5 => ?_)
    obtain ⟨lf2, ne2⟩ := u
    obtain ⟨hP, -, hD1⟩ := hB
    rw [ht] at hP
    have hD := hD1.weaken (B := A) (fun _ _ _ h => hFc _ h)
    have hP : va_P D vwCl (XW a cI cZ cD sh sw ts bi it tu ne2 pr so lo' wt cn lp lz lu lk ld lf2 lb lw) H := hP
    have hD : va_D A (XW a cI cZ cD sh sw ts bi it tu ne2 pr so lo' wt cn lp lz lu lk ld lf2 lb lw) := hD
    obtain ⟨hw1, hw2⟩ := hw
    refine lv_aload_n hx hb dX1_giveByShare_40 rfl (lv_at hl 1 rfl) ?_
    refine lv_dup hx hb dX1_giveByShare_41 rfl ?_
    refine va_get (D := D) (ci := 1) (v := .double lo') (C := RX1) (T := TX1) (N := 12) hx hb (dr_words hts _) inX1 (xk_od hown) (xk_Kd hK) hP 0 rfl rfl 11 (by decide) (dr_words hts _ (.fieldLink RX1 53 "GridCommons" "leftOver" "D") (by decide +kernel)) (fun _ h9 => h9) rfl dX1_giveByShare_42 ?_
    refine lv_dload hx hb dX1_giveByShare_45 (lv_at hl 0 rfl) ?_
    refine lv_dsub_any hd5 lw_bits hx hb dX1_giveByShare_47 (fun r6 _ hal hd7 => ?_)
    have er6 := dt_sub hal
    refine va_put (D := D) (ci := 1) (v := .double r6) (ty := .double) (C := RX1) (T := TX1) (N := 12) hx hb (dr_words hts _) inX1 tyX1 tyX1_ok nmX1 (xk_od hown) (xk_Kd hK) hP hD hS 0 rfl rfl 11 (by decide) (dr_words hts _ (.fieldLink RX1 53 "GridCommons" "leftOver" "D") (by decide +kernel)) (fun _ h9 => h9) rfl (by decide +kernel) rfl rfl (Nat.le_of_ble_eq_true rfl) dX1_giveByShare_48 (fun H locs hP hD hS => ?_)
    have hP : va_P D vwCl (XW a cI cZ cD sh sw ts bi it tu ne2 pr so r6 wt cn lp lz lu lk ld lf2 lb lw) H := hP
    have hD : va_D A (XW a cI cZ cD sh sw ts bi it tu ne2 pr so r6 wt cn lp lz lu lk ld lf2 lb lw) := hD
    refine lv_iinc (v := nI (i + 1)) (lv' := [(3, .int (nI (i + 1))), (4, .double x), (0, .ref (a 0)), (1, .int (nI n)), (2, .int sun)]) hx hb dX1_giveByShare_51 hl (k := 4) rfl (nI_1 i) (by decide) rfl (fun ls hl => ?_)
    refine lv_goto (tgt := 2) hx hb dX1_giveByShare_54 (by decide) ?_
    exact next _ _ _ _ hlt ⟨lf2, ne2, r6, (hw1.trans (po_step hq0 (by rw [po_rd hq0, eu]))), (is5_cg hw2 (po_step0 rfl (by rw [po_at0, eu]))), (by rw [er6, hq2, eu]; rfl), hP, hD, hS, hd7, lv_sub hl [2, 3, 4, 0] rfl⟩
set_option maxHeartbeats 4000000 in
set_option maxRecDepth 100000 in
theorem mX1_giveByNeed (l : Launch) (D : va_G) (cI cZ cD : ClassId) (a : Nat → Nat) (sz : Nat) (sh sw ts : Nat → Int32) (bi : Nat → UInt64) (it tu : Nat → Int32) (ne : Nat → UInt64) (pr so lo : UInt64) (wt cn : Int32) (lp lz lu : Nat → UInt64) (lk : Nat → Int32) (ld lf lb lw : Nat → UInt64) (n : Nat) (hn : n < 60) (V : Nat → Dm) (hV : is5 ne V) : MetD lw_cs l yX1_giveByNeed wsX1_giveByNeed ({ frames := 2, cells := 0, slots := 0, locals := 45 } : Room) (va_Pc [.ref (a 0), .int (nI n)] (XP D cI cZ cD (XW a cI cZ cD sh sw ts bi it tu ne pr so lo wt cn lp lz lu lk ld lf lb lw) sz)) (va_Qv (fun (u : (Nat → UInt64) × (Nat → UInt64) × UInt64) => dts u.1 = (if noNeed V then dts lf else po (5 * n) 5 (dts lf) (fun k => dAdd (dts lf (5 * n + k)) (gE V (dt lo) k))) ∧ is5 u.2.1 (nE V (dt lo)) ∧ dt u.2.2 = lE V (dt lo)) (fun (u : (Nat → UInt64) × (Nat → UInt64) × UInt64) t => XB D cI cZ cD (XW a cI cZ cD sh sw ts bi it tu u.2.1 pr so u.2.2 wt cn lp lz lu lk ld u.1 lb lw) (va_A (XW a cI cZ cD sh sw ts bi it tu ne pr so lo wt cn lp lz lu lk ld lf lb lw) sz) t) (va_A (XW a cI cZ cD sh sw ts bi it tu ne pr so lo wt cn lp lz lu lk ld lf lb lw) sz)) 0 0 (va_A (XW a cI cZ cD sh sw ts bi it tu ne pr so lo wt cn lp lz lu lk ld lf lb lw) sz) := by
  refine MetD.ofW (cc := cX1_giveByNeed) (maxL := 5) (ret := none) (by decide +kernel) rfl ?_
  intro p e s m args below meth c s₁ B hml hv hd0
  obtain ⟨rfl, hsz, hP, hK, hD0⟩ := hv
  have hx := B.exec
  have hb := B.bytes
  have hr := B.returns
  have hts := atoms_spec (ws := wsX1_giveByNeed) B.pre
  have hown : s.vm.findClass RX1 = some m.cls := findClass_of_methodNamed B.named
  have hlocks := B.notSynchronized
  subst hsz
  have hD := hD0.self (sz := s.heap.size)
  generalize hAe : va_A (XW a cI cZ cD sh sw ts bi it tu ne pr so lo wt cn lp lz lu lk ld lf lb lw) s.heap.size = A at hD ⊢
  have hA : ∀ q : Nat, s.heap.size ≤ q → A q := fun q h => by rw [← hAe]; exact Or.inr h
  have hS : va_S A s.heap s.heap [] := va_S.rf
  have hl := lv_entry ([.ref (a 0), .int (nI n)]) (n := 5) (Nat.le_of_ble_eq_true rfl)
  rw [lg_entry_eq]
  generalize (lg_sl ([.ref (a 0), .int (nI n)]) ++ List.replicate (5 - (lg_sl ([.ref (a 0), .int (nI n)])).length) Slot.unset).toArray = ls at hl ⊢
  have hl : lv_has ls 5 [(0, .ref (a 0)), (1, .int (nI n))] := hl
  have inX1 : ∀ w ∈ wsX10, w ∈ wsX1_giveByNeed := by decide +kernel
  refine lv_aload_n hx hb dX1_giveByNeed_0 rfl (lv_at hl 0 rfl) ?_
  have hFc := va_free (wc := XW a cI cZ cD sh sw ts bi it tu ne pr so lo wt cn lp lz lu lk ld lf lb lw) hD hS hA [0, 1, 2, 3, 4, 5, 6, 7, 8, 9, 10, 11, 12, 13, 14, 15, 16] rfl
  refine va_calldD hd0 (va_runV_D (As := []) (rest := []) ⟨hx, hb, hml, (xk_od hown), (dr_words hts _)⟩ (mX1_sumOfNeeds l D cI cZ cD a _ sh sw ts bi it tu ne pr so lo wt cn lp lz lu lk ld lf lb lw V hV) (cwV 0 (dr_words hts _) gX1_giveByNeed_X1_sumOfNeeds rfl rfl rfl (by decide +kernel) ⟨Nat.le_of_ble_eq_true rfl, Nat.le_of_ble_eq_true rfl⟩) ⟨xk_blind, va_recv (xk_Kd hK) hP (ci := 1) (q0 := 0) rfl rfl, xk_pre hP (xk_Kd hK) hD⟩ rfl rfl hl.1 rfl (lv_room (Nat.le_of_ble_eq_true rfl)) dX1_giveByNeed_1 ⟨Nat.le_of_ble_eq_true rfl, Nat.le_of_ble_eq_true rfl⟩) hS (fun q _ h => hFc q h) hFc (fun sm u t H locs ht hvm hw hB hz1 hk1 hS _ hd1 => ?_)
  obtain ⟨hP, -, hD1⟩ := hB
  rw [ht] at hP
  have hD := hD1.weaken (B := A) (fun _ _ _ h => hFc _ h)
  have hP : va_P D vwCl (XW a cI cZ cD sh sw ts bi it tu ne pr so lo wt cn lp lz lu lk ld lf lb lw) H := hP
  have hD : va_D A (XW a cI cZ cD sh sw ts bi it tu ne pr so lo wt cn lp lz lu lk ld lf lb lw) := hD
  refine lv_dstore_n (lv' := [(2, .double sm), (0, .ref (a 0)), (1, .int (nI n))]) hx hb dX1_giveByNeed_4 rfl hl (by decide) rfl (fun ls hl => ?_)
  refine lv_dload_n hx hb dX1_giveByNeed_5 rfl (lv_at hl 0 rfl) ?_
  refine lv_dconst0 hx hb dX1_giveByNeed_6 ?_
  refine lv_dcmp hx hb dX1_giveByNeed_7 ?_
  refine lv_if_ne (tgt := 12) hx hb dX1_giveByNeed_8 (by decide) (fun c => ?_) (fun c => ?_)
  · skip
    have hN : ¬ noNeed V := fun q => c ((cv_l_eq _).mpr (show dCmp (dt sm) dZ = some .eq by rw [hw]; exact q))
    refine lv_dload_n hx hb dX1_giveByNeed_12 rfl (lv_at hl 0 rfl) ?_
    refine lv_aload_n hx hb dX1_giveByNeed_13 rfl (lv_at hl 1 rfl) ?_
    refine va_get (D := D) (ci := 1) (v := .double lo) (C := RX1) (T := TX1) (N := 12) hx hb (dr_words hts _) inX1 (xk_od hown) (xk_Kd hK) hP 0 rfl rfl 11 (by decide) (dr_words hts _ (.fieldLink RX1 53 "GridCommons" "leftOver" "D") (by decide +kernel)) (fun _ h9 => h9) rfl dX1_giveByNeed_14 ?_
    refine lv_dcmp hx hb dX1_giveByNeed_17 ?_
    refine lv_if_gt (tgt := 61) hx hb dX1_giveByNeed_18 (by decide) (fun c1 => ?_) (fun c1 => ?_)
    · skip
      have hE : ¬ enough V (dt lo) := by have q := (cv_g_gt _).mp c1; have q2 : ¬ (dCmp (dt sm) (dt lo) = some .lt ∨ dCmp (dt sm) (dt lo) = some .eq) := q; rw [hw] at q2; exact q2
      refine lv_iconst (v := nI 0) hx hb dX1_giveByNeed_61 (by decide) ?_
      refine lv_istore (lv' := [(4, .int (nI 0)), (2, .double sm), (0, .ref (a 0)), (1, .int (nI n))]) hx hb dX1_giveByNeed_62 hl (by decide) rfl (fun ls hl => ?_)
      refine xk_loop (fun i H locs ls d => ∃ (lf' : Nat → UInt64) (ne' : Nat → UInt64), (dts lf' = po (5 * n) i (dts lf) (fun k => dAdd (dts lf (5 * n + k)) (gE V (dt lo) k))) ∧ (is5 ne' (po 0 i V (fun k => dSub (V k) (gE V (dt lo) k)))) ∧ (va_P D vwCl (XW a cI cZ cD sh sw ts bi it tu ne' pr so lo wt cn lp lz lu lk ld lf' lb lw) H) ∧ (va_D A (XW a cI cZ cD sh sw ts bi it tu ne' pr so lo wt cn lp lz lu lk ld lf' lb lw)) ∧ (va_S A s.heap H locs) ∧ (s.drawn.sameBut d lw_cs) ∧ (lv_has ls 5 [(0, .ref (a 0)), (1, .int (nI n)), (2, .double sm), (4, .int (nI i))])) 5 ?_ (i := 0) (Nat.zero_le _) ⟨lf, ne, (po_0 _ _ _).symm, (is5_cg hV (po_0 _ _ _).symm), hP, hD, hS, hd1, lv_sub hl [2, 3, 1, 0] rfl⟩
      intro i H locs ls d hi hI next
      obtain ⟨lf', ne', hq0, hq1, hP, hD, hS, hdl, hl⟩ := hI
      refine lv_iload hx hb dX1_giveByNeed_64 (lv_at hl 3 rfl) ?_
      refine lv_iconst (v := nI 5) hx hb dX1_giveByNeed_66 (by decide) ?_
      refine lv_icmp_ge (tgt := 97) hx hb dX1_giveByNeed_67 (by decide) (fun c2 => ?_) (fun c2 => ?_)
      · skip
        obtain rfl := xk_ge hi (by decide) c2
        refine lv_aload_n hx hb dX1_giveByNeed_97 rfl (lv_at hl 0 rfl) ?_
        refine lv_dconst0 hx hb dX1_giveByNeed_98 ?_
        refine va_put (D := D) (ci := 1) (v := .double FP.dconst0) (ty := .double) (C := RX1) (T := TX1) (N := 12) hx hb (dr_words hts _) inX1 tyX1 tyX1_ok nmX1 (xk_od hown) (xk_Kd hK) hP hD hS 0 rfl rfl 11 (by decide) (dr_words hts _ (.fieldLink RX1 53 "GridCommons" "leftOver" "D") (by decide +kernel)) (fun _ h9 => h9) rfl (by decide +kernel) rfl rfl (Nat.le_of_ble_eq_true rfl) dX1_giveByNeed_99 (fun H locs hP hD hS => ?_)
        have hP : va_P D vwCl (XW a cI cZ cD sh sw ts bi it tu ne' pr so FP.dconst0 wt cn lp lz lu lk ld lf' lb lw) H := hP
        have hD : va_D A (XW a cI cZ cD sh sw ts bi it tu ne' pr so FP.dconst0 wt cn lp lz lu lk ld lf' lb lw) := hD
        refine W.endD hdl ?_
        exact W.vret hx hb hr (fun t ht hW => ⟨⟨(lf', ne', FP.dconst0), rfl, ⟨by rw [if_neg hN]; exact hq0, (is5_done hq1).to (fun j hj => by unfold nE; rw [if_neg hN]), by unfold lE; rw [if_neg hN, if_neg hE]; rfl⟩, by rw [ht]; exact hP, va_K.moved hW.alike (xk_Kd hK), hD⟩, hS.F ht⟩) hS.2.2 dX1_giveByNeed_102
      · skip
        have hlt := xk_nge hi (by decide) c2
        refine lv_aload_n hx hb dX1_giveByNeed_70 rfl (lv_at hl 0 rfl) ?_
        refine lv_iload hx hb dX1_giveByNeed_71 (lv_at hl 3 rfl) ?_
        refine lv_iload_n hx hb dX1_giveByNeed_73 rfl (lv_at hl 1 rfl) ?_
        refine lv_aload_n hx hb dX1_giveByNeed_74 rfl (lv_at hl 0 rfl) ?_
        refine va_get (D := D) (ci := 1) (v := .double lo) (C := RX1) (T := TX1) (N := 12) hx hb (dr_words hts _) inX1 (xk_od hown) (xk_Kd hK) hP 0 rfl rfl 11 (by decide) (dr_words hts _ (.fieldLink RX1 53 "GridCommons" "leftOver" "D") (by decide +kernel)) (fun _ h9 => h9) rfl dX1_giveByNeed_75 ?_
        refine lv_aload_n hx hb dX1_giveByNeed_78 rfl (lv_at hl 0 rfl) ?_
        refine va_get (D := D) (ci := 1) (v := .ref (a 7)) (C := RX1) (T := TX1) (N := 12) hx hb (dr_words hts _) inX1 (xk_od hown) (xk_Kd hK) hP 0 rfl rfl 10 (by decide) (dr_words hts _ (.fieldLink RX1 50 "GridCommons" "needs" "[D") (by decide +kernel)) (fun _ h9 => h9) rfl dX1_giveByNeed_79 ?_
        refine lv_iload hx hb dX1_giveByNeed_82 (lv_at hl 3 rfl) ?_
        refine xk_dald hx hb (xk_Kd hK) hP 7 2 rfl rfl (o := i) (by omega) (by decide) dX1_giveByNeed_84 ?_
        refine lv_dmul_any hdl lw_bits hx hb dX1_giveByNeed_85 (fun r2 _ hal hd3 => ?_)
        have er2 := dt_mul hal
        refine lv_dload_n hx hb dX1_giveByNeed_86 rfl (lv_at hl 2 rfl) ?_
        refine lv_ddiv_any hd3 lw_bits hx hb dX1_giveByNeed_87 (fun r4 _ hal hd5 => ?_)
        have er4 := dt_div hal
        have eu : dt r4 = gE V (dt lo) i := by unfold gE; rw [if_neg hE, er4, er2, hq1 i hlt, po_at0, hw]
        have hFc := va_free (wc := XW a cI cZ cD sh sw ts bi it tu ne' pr so lo wt cn lp lz lu lk ld lf' lb lw) hD hS hA [0, 1, 2, 3, 4, 5, 6, 7, 8, 9, 10, 11, 12, 13, 14, 15, 16] rfl
        refine va_callvD hd5 (va_runV_D (As := [.int (nI i), .int (nI n), .double r4]) (rest := []) ⟨hx, hb, hml, (xk_od hown), (dr_words hts _)⟩ (mX1_giveSun l D cI cZ cD a _ sh sw ts bi it tu ne' pr so lo wt cn lp lz lu lk ld lf' lb lw i n r4 hlt hn _ hq1) (cwV 3 (dr_words hts _) gX1_giveByNeed_X1_giveSun rfl rfl rfl (by decide +kernel) ⟨Nat.le_of_ble_eq_true rfl, Nat.le_of_ble_eq_true rfl⟩) ⟨xk_blind, va_recv (xk_Kd hK) hP (ci := 1) (q0 := 0) rfl rfl, xk_pre hP (xk_Kd hK) hD⟩ rfl rfl hl.1 rfl (lv_room (Nat.le_of_ble_eq_true rfl)) dX1_giveByNeed_88 ⟨Nat.le_of_ble_eq_true rfl, Nat.le_of_ble_eq_true rfl⟩) hS (fun q _ h => hFc q h) hFc (fun u t H locs ht hvm hw hB hz1 hk1 hS _ hd6 => ?_)
        obtain ⟨lf2, ne2⟩ := u
        obtain ⟨hP, -, hD1⟩ := hB
        rw [ht] at hP
        have hD := hD1.weaken (B := A) (fun _ _ _ h => hFc _ h)
        have hP : va_P D vwCl (XW a cI cZ cD sh sw ts bi it tu ne2 pr so lo wt cn lp lz lu lk ld lf2 lb lw) H := hP
        have hD : va_D A (XW a cI cZ cD sh sw ts bi it tu ne2 pr so lo wt cn lp lz lu lk ld lf2 lb lw) := hD
        obtain ⟨hw1, hw2⟩ := hw
        refine lv_iinc (v := nI (i + 1)) (lv' := [(4, .int (nI (i + 1))), (0, .ref (a 0)), (1, .int (nI n)), (2, .double sm)]) hx hb dX1_giveByNeed_91 hl (k := 3) rfl (nI_1 i) (by decide) rfl (fun ls hl => ?_)
        refine lv_goto (tgt := 64) hx hb dX1_giveByNeed_94 (by decide) ?_
        exact next _ _ _ _ hlt ⟨lf2, ne2, (hw1.trans (po_step hq0 (by rw [po_rd hq0, eu]))), (is5_cg hw2 (po_step0 rfl (by rw [po_at0, eu]))), hP, hD, hS, hd6, lv_sub hl [1, 2, 3, 0] rfl⟩
    · skip
      have hE : enough V (dt lo) := by have q := Decidable.of_not_not (fun q => c1 ((cv_g_gt _).mpr q)); have q2 : dCmp (dt sm) (dt lo) = some .lt ∨ dCmp (dt sm) (dt lo) = some .eq := q; rw [hw] at q2; exact q2
      refine lv_aload_n hx hb dX1_giveByNeed_21 rfl (lv_at hl 1 rfl) ?_
      refine lv_dup hx hb dX1_giveByNeed_22 rfl ?_
      refine va_get (D := D) (ci := 1) (v := .double lo) (C := RX1) (T := TX1) (N := 12) hx hb (dr_words hts _) inX1 (xk_od hown) (xk_Kd hK) hP 0 rfl rfl 11 (by decide) (dr_words hts _ (.fieldLink RX1 53 "GridCommons" "leftOver" "D") (by decide +kernel)) (fun _ h9 => h9) rfl dX1_giveByNeed_23 ?_
      refine lv_dload_n hx hb dX1_giveByNeed_26 rfl (lv_at hl 0 rfl) ?_
      refine lv_dsub_any hd1 lw_bits hx hb dX1_giveByNeed_27 (fun r7 _ hal hd8 => ?_)
      have er7 := dt_sub hal
      refine va_put (D := D) (ci := 1) (v := .double r7) (ty := .double) (C := RX1) (T := TX1) (N := 12) hx hb (dr_words hts _) inX1 tyX1 tyX1_ok nmX1 (xk_od hown) (xk_Kd hK) hP hD hS 0 rfl rfl 11 (by decide) (dr_words hts _ (.fieldLink RX1 53 "GridCommons" "leftOver" "D") (by decide +kernel)) (fun _ h9 => h9) rfl (by decide +kernel) rfl rfl (Nat.le_of_ble_eq_true rfl) dX1_giveByNeed_28 (fun H locs hP hD hS => ?_)
      have hP : va_P D vwCl (XW a cI cZ cD sh sw ts bi it tu ne pr so r7 wt cn lp lz lu lk ld lf lb lw) H := hP
      have hD : va_D A (XW a cI cZ cD sh sw ts bi it tu ne pr so r7 wt cn lp lz lu lk ld lf lb lw) := hD
      refine lv_iconst (v := nI 0) hx hb dX1_giveByNeed_31 (by decide) ?_
      refine lv_istore (lv' := [(4, .int (nI 0)), (2, .double sm), (0, .ref (a 0)), (1, .int (nI n))]) hx hb dX1_giveByNeed_32 hl (by decide) rfl (fun ls hl => ?_)
      refine xk_loop (fun i H locs ls d => ∃ (lf' : Nat → UInt64) (ne' : Nat → UInt64), (dts lf' = po (5 * n) i (dts lf) (fun k => dAdd (dts lf (5 * n + k)) (gE V (dt lo) k))) ∧ (is5 ne' (po 0 i V (fun k => dSub (V k) (gE V (dt lo) k)))) ∧ (va_P D vwCl (XW a cI cZ cD sh sw ts bi it tu ne' pr so r7 wt cn lp lz lu lk ld lf' lb lw) H) ∧ (va_D A (XW a cI cZ cD sh sw ts bi it tu ne' pr so r7 wt cn lp lz lu lk ld lf' lb lw)) ∧ (va_S A s.heap H locs) ∧ (s.drawn.sameBut d lw_cs) ∧ (lv_has ls 5 [(0, .ref (a 0)), (1, .int (nI n)), (2, .double sm), (4, .int (nI i))])) 5 ?_ (i := 0) (Nat.zero_le _) ⟨lf, ne, (po_0 _ _ _).symm, (is5_cg hV (po_0 _ _ _).symm), hP, hD, hS, hd8, lv_sub hl [2, 3, 1, 0] rfl⟩
      intro i H locs ls d hi hI next
      obtain ⟨lf', ne', hq0, hq1, hP, hD, hS, hdl, hl⟩ := hI
      refine lv_iload hx hb dX1_giveByNeed_34 (lv_at hl 3 rfl) ?_
      refine lv_iconst (v := nI 5) hx hb dX1_giveByNeed_36 (by decide) ?_
      refine lv_icmp_ge (tgt := 60) hx hb dX1_giveByNeed_37 (by decide) (fun c2 => ?_) (fun c2 => ?_)
      · skip
        obtain rfl := xk_ge hi (by decide) c2
        refine W.endD hdl ?_
        exact W.vret hx hb hr (fun t ht hW => ⟨⟨(lf', ne', r7), rfl, ⟨by rw [if_neg hN]; exact hq0, (is5_done hq1).to (fun j hj => by unfold nE; rw [if_neg hN]), by unfold lE; rw [if_neg hN, if_pos hE, er7, hw]⟩, by rw [ht]; exact hP, va_K.moved hW.alike (xk_Kd hK), hD⟩, hS.F ht⟩) hS.2.2 dX1_giveByNeed_60
      · skip
        have hlt := xk_nge hi (by decide) c2
        refine lv_aload_n hx hb dX1_giveByNeed_40 rfl (lv_at hl 0 rfl) ?_
        refine lv_iload hx hb dX1_giveByNeed_41 (lv_at hl 3 rfl) ?_
        refine lv_iload_n hx hb dX1_giveByNeed_43 rfl (lv_at hl 1 rfl) ?_
        refine lv_aload_n hx hb dX1_giveByNeed_44 rfl (lv_at hl 0 rfl) ?_
        refine va_get (D := D) (ci := 1) (v := .ref (a 7)) (C := RX1) (T := TX1) (N := 12) hx hb (dr_words hts _) inX1 (xk_od hown) (xk_Kd hK) hP 0 rfl rfl 10 (by decide) (dr_words hts _ (.fieldLink RX1 50 "GridCommons" "needs" "[D") (by decide +kernel)) (fun _ h9 => h9) rfl dX1_giveByNeed_45 ?_
        refine lv_iload hx hb dX1_giveByNeed_48 (lv_at hl 3 rfl) ?_
        refine xk_dald hx hb (xk_Kd hK) hP 7 2 rfl rfl (o := i) (by omega) (by decide) dX1_giveByNeed_50 ?_
        have eu : dt (ne' i) = gE V (dt lo) i := by unfold gE; rw [if_pos hE, hq1 i hlt, po_at0]
        have hFc := va_free (wc := XW a cI cZ cD sh sw ts bi it tu ne' pr so r7 wt cn lp lz lu lk ld lf' lb lw) hD hS hA [0, 1, 2, 3, 4, 5, 6, 7, 8, 9, 10, 11, 12, 13, 14, 15, 16] rfl
        refine va_callvD hdl (va_runV_D (As := [.int (nI i), .int (nI n), .double (ne' i)]) (rest := []) ⟨hx, hb, hml, (xk_od hown), (dr_words hts _)⟩ (mX1_giveSun l D cI cZ cD a _ sh sw ts bi it tu ne' pr so r7 wt cn lp lz lu lk ld lf' lb lw i n (ne' i) hlt hn _ hq1) (cwV 3 (dr_words hts _) gX1_giveByNeed_X1_giveSun rfl rfl rfl (by decide +kernel) ⟨Nat.le_of_ble_eq_true rfl, Nat.le_of_ble_eq_true rfl⟩) ⟨xk_blind, va_recv (xk_Kd hK) hP (ci := 1) (q0 := 0) rfl rfl, xk_pre hP (xk_Kd hK) hD⟩ rfl rfl hl.1 rfl (lv_room (Nat.le_of_ble_eq_true rfl)) dX1_giveByNeed_51 ⟨Nat.le_of_ble_eq_true rfl, Nat.le_of_ble_eq_true rfl⟩) hS (fun q _ h => hFc q h) hFc (fun u t H locs ht hvm hw hB hz1 hk1 hS _ hd9 => ?_)
        obtain ⟨lf2, ne2⟩ := u
        obtain ⟨hP, -, hD1⟩ := hB
        rw [ht] at hP
        have hD := hD1.weaken (B := A) (fun _ _ _ h => hFc _ h)
        have hP : va_P D vwCl (XW a cI cZ cD sh sw ts bi it tu ne2 pr so r7 wt cn lp lz lu lk ld lf2 lb lw) H := hP
        have hD : va_D A (XW a cI cZ cD sh sw ts bi it tu ne2 pr so r7 wt cn lp lz lu lk ld lf2 lb lw) := hD
        obtain ⟨hw1, hw2⟩ := hw
        refine lv_iinc (v := nI (i + 1)) (lv' := [(4, .int (nI (i + 1))), (0, .ref (a 0)), (1, .int (nI n)), (2, .double sm)]) hx hb dX1_giveByNeed_54 hl (k := 3) rfl (nI_1 i) (by decide) rfl (fun ls hl => ?_)
        refine lv_goto (tgt := 34) hx hb dX1_giveByNeed_57 (by decide) ?_
        exact next _ _ _ _ hlt ⟨lf2, ne2, (hw1.trans (po_step hq0 (by rw [po_rd hq0, eu]))), (is5_cg hw2 (po_step0 rfl (by rw [po_at0, eu]))), hP, hD, hS, hd9, lv_sub hl [1, 2, 3, 0] rfl⟩
  · skip
    have hN : noNeed V := by have q := (cv_l_eq _).mp c; have q2 : dCmp (dt sm) dZ = some .eq := q; rw [hw] at q2; exact q2
    refine W.endD hd1 ?_
    exact W.vret hx hb hr (fun t ht hW => ⟨⟨(lf, ne, lo), rfl, ⟨by rw [if_pos hN], hV.to (fun j hj => by unfold nE; rw [if_pos hN]), by unfold lE; rw [if_pos hN]⟩, by rw [ht]; exact hP, va_K.moved hW.alike (xk_Kd hK), hD⟩, hS.F ht⟩) hS.2.2 dX1_giveByNeed_11
set_option maxHeartbeats 4000000 in
set_option maxRecDepth 100000 in
theorem mX1_storeOrSell (l : Launch) (D : va_G) (cI cZ cD : ClassId) (a : Nat → Nat) (sz : Nat) (sh sw ts : Nat → Int32) (bi : Nat → UInt64) (it tu : Nat → Int32) (ne : Nat → UInt64) (pr so lo : UInt64) (wt cn : Int32) (lp lz lu : Nat → UInt64) (lk : Nat → Int32) (ld lf lb lw : Nat → UInt64) (n : Nat) (hn : n < 60) : MetD lw_cs l yX1_storeOrSell wsX1_storeOrSell ({ frames := 0, cells := 0, slots := 0, locals := 0 } : Room) (va_Pc [.ref (a 0), .int (nI n)] (XP D cI cZ cD (XW a cI cZ cD sh sw ts bi it tu ne pr so lo wt cn lp lz lu lk ld lf lb lw) sz)) (va_Qv (fun (u : UInt64 × (Nat → UInt64)) => dt u.1 = soN (dt so) (dt lo) ∧ dts u.2 = va_up (dts lz) n (szN (dt so) (dt lo))) (fun (u : UInt64 × (Nat → UInt64)) t => XB D cI cZ cD (XW a cI cZ cD sh sw ts bi it tu ne pr u.1 lo wt cn lp u.2 lu lk ld lf lb lw) (va_A (XW a cI cZ cD sh sw ts bi it tu ne pr so lo wt cn lp lz lu lk ld lf lb lw) sz) t) (va_A (XW a cI cZ cD sh sw ts bi it tu ne pr so lo wt cn lp lz lu lk ld lf lb lw) sz)) 0 0 (va_A (XW a cI cZ cD sh sw ts bi it tu ne pr so lo wt cn lp lz lu lk ld lf lb lw) sz) := by
  refine MetD.ofW (cc := cX1_storeOrSell) (maxL := 4) (ret := none) (by decide +kernel) rfl ?_
  intro p e s m args below meth c s₁ B hml hv hd0
  obtain ⟨rfl, hsz, hP, hK, hD0⟩ := hv
  have hx := B.exec
  have hb := B.bytes
  have hr := B.returns
  have hts := atoms_spec (ws := wsX1_storeOrSell) B.pre
  have hown : s.vm.findClass RX1 = some m.cls := findClass_of_methodNamed B.named
  have hlocks := B.notSynchronized
  subst hsz
  have hD := hD0.self (sz := s.heap.size)
  generalize hAe : va_A (XW a cI cZ cD sh sw ts bi it tu ne pr so lo wt cn lp lz lu lk ld lf lb lw) s.heap.size = A at hD ⊢
  have hA : ∀ q : Nat, s.heap.size ≤ q → A q := fun q h => by rw [← hAe]; exact Or.inr h
  have hS : va_S A s.heap s.heap [] := va_S.rf
  have hl := lv_entry ([.ref (a 0), .int (nI n)]) (n := 4) (Nat.le_of_ble_eq_true rfl)
  rw [lg_entry_eq]
  generalize (lg_sl ([.ref (a 0), .int (nI n)]) ++ List.replicate (4 - (lg_sl ([.ref (a 0), .int (nI n)])).length) Slot.unset).toArray = ls at hl ⊢
  have hl : lv_has ls 4 [(0, .ref (a 0)), (1, .int (nI n))] := hl
  have inX1 : ∀ w ∈ wsX10, w ∈ wsX1_storeOrSell := by decide +kernel
  have inX0 : ∀ w ∈ wsX00, w ∈ wsX1_storeOrSell := by decide +kernel
  refine lv_ldc2d hx hb (xk_od hown) (dr_words hts _ (.constantDouble RX1 179 4630826316843712512) (by decide +kernel)) dX1_storeOrSell_0 ?_
  refine lv_aload_n hx hb dX1_storeOrSell_3 rfl (lv_at hl 0 rfl) ?_
  refine va_get (D := D) (ci := 1) (v := .double so) (C := RX1) (T := TX1) (N := 12) hx hb (dr_words hts _) inX1 (xk_od hown) (xk_Kd hK) hP 0 rfl rfl 8 (by decide) (dr_words hts _ (.fieldLink RX1 43 "GridCommons" "stored" "D") (by decide +kernel)) (fun _ h9 => h9) rfl dX1_storeOrSell_4 ?_
  refine lv_dsub_any hd0 lw_bits hx hb dX1_storeOrSell_7 (fun r1 _ hal hd2 => ?_)
  have er1 := dt_sub hal
  refine lv_dstore_n (lv' := [(2, .double r1), (0, .ref (a 0)), (1, .int (nI n))]) hx hb dX1_storeOrSell_8 rfl hl (by decide) rfl (fun ls hl => ?_)
  refine lv_aload_n hx hb dX1_storeOrSell_9 rfl (lv_at hl 1 rfl) ?_
  refine va_get (D := D) (ci := 1) (v := .double lo) (C := RX1) (T := TX1) (N := 12) hx hb (dr_words hts _) inX1 (xk_od hown) (xk_Kd hK) hP 0 rfl rfl 11 (by decide) (dr_words hts _ (.fieldLink RX1 53 "GridCommons" "leftOver" "D") (by decide +kernel)) (fun _ h9 => h9) rfl dX1_storeOrSell_10 ?_
  refine lv_dload_n hx hb dX1_storeOrSell_13 rfl (lv_at hl 0 rfl) ?_
  refine lv_dcmp hx hb dX1_storeOrSell_14 ?_
  refine lv_if_ge (tgt := 44) hx hb dX1_storeOrSell_15 (by decide) (fun c => ?_) (fun c => ?_)
  · skip
    have hc : ¬ dCmp (dt lo) (dSub d40 (dt so)) = some .lt := by have q := (cv_g_ge _).mp c; have q2 : ¬ dCmp (dt lo) (dt r1) = some .lt := q; rw [er1] at q2; exact q2
    refine lv_aload_n hx hb dX1_storeOrSell_44 rfl (lv_at hl 1 rfl) ?_
    refine lv_ldc2d hx hb (xk_od hown) (dr_words hts _ (.constantDouble RX1 179 4630826316843712512) (by decide +kernel)) dX1_storeOrSell_45 ?_
    refine va_put (D := D) (ci := 1) (v := .double 4630826316843712512) (ty := .double) (C := RX1) (T := TX1) (N := 12) hx hb (dr_words hts _) inX1 tyX1 tyX1_ok nmX1 (xk_od hown) (xk_Kd hK) hP hD hS 0 rfl rfl 8 (by decide) (dr_words hts _ (.fieldLink RX1 43 "GridCommons" "stored" "D") (by decide +kernel)) (fun _ h9 => h9) rfl (by decide +kernel) rfl rfl (Nat.le_of_ble_eq_true rfl) dX1_storeOrSell_48 (fun H locs hP hD hS => ?_)
    have hP : va_P D vwCl (XW a cI cZ cD sh sw ts bi it tu ne pr 4630826316843712512 lo wt cn lp lz lu lk ld lf lb lw) H := hP
    have hD : va_D A (XW a cI cZ cD sh sw ts bi it tu ne pr 4630826316843712512 lo wt cn lp lz lu lk ld lf lb lw) := hD
    refine lv_aload_n hx hb dX1_storeOrSell_51 rfl (lv_at hl 1 rfl) ?_
    refine va_get (D := D) (ci := 1) (v := .ref (a 8)) (C := RX1) (T := TX1) (N := 12) hx hb (dr_words hts _) inX1 (xk_od hown) (xk_Kd hK) hP 0 rfl rfl 6 (by decide) (dr_words hts _ (.fieldLink RX1 33 "GridCommons" "ledger" "LGridCommons$Ledger;") (by decide +kernel)) (fun _ h9 => h9) rfl dX1_storeOrSell_52 ?_
    refine va_get (D := D) (ci := 0) (v := .ref (a 10)) (C := RX0) (T := TX0) (N := 9) hx hb (dr_words hts _) inX0 (xk_od hown) (xk_Kd hK) hP 8 rfl rfl 2 (by decide) (dr_words hts _ (.fieldLink RX1 143 "GridCommons$Ledger" "sold" "[D") (by decide +kernel)) (fun _ h9 => h9) rfl dX1_storeOrSell_55 ?_
    refine lv_iload_n hx hb dX1_storeOrSell_58 rfl (lv_at hl 2 rfl) ?_
    refine lv_aload_n hx hb dX1_storeOrSell_59 rfl (lv_at hl 1 rfl) ?_
    refine va_get (D := D) (ci := 1) (v := .double lo) (C := RX1) (T := TX1) (N := 12) hx hb (dr_words hts _) inX1 (xk_od hown) (xk_Kd hK) hP 0 rfl rfl 11 (by decide) (dr_words hts _ (.fieldLink RX1 53 "GridCommons" "leftOver" "D") (by decide +kernel)) (fun _ h9 => h9) rfl dX1_storeOrSell_60 ?_
    refine lv_dload_n hx hb dX1_storeOrSell_63 rfl (lv_at hl 0 rfl) ?_
    refine lv_dsub_any hd2 lw_bits hx hb dX1_storeOrSell_64 (fun r3 _ hal hd4 => ?_)
    have er3 := dt_sub hal
    refine xk_dast hx hb (xk_Kd hK) hP hD hS 10 2 rfl rfl (o := n) (by omega) (by decide) dX1_storeOrSell_65 (fun H locs hP hD hS => ?_)
    have hP : va_P D vwCl (XW a cI cZ cD sh sw ts bi it tu ne pr 4630826316843712512 lo wt cn lp (vf_upd lz n r3) lu lk ld lf lb lw) H := hP
    have hD : va_D A (XW a cI cZ cD sh sw ts bi it tu ne pr 4630826316843712512 lo wt cn lp (vf_upd lz n r3) lu lk ld lf lb lw) := hD
    refine W.endD hd4 ?_
    exact W.vret hx hb hr (fun t ht hW => ⟨⟨(4630826316843712512, vf_upd lz n r3), rfl, ⟨by unfold soN; rw [if_neg hc], by unfold szN; rw [if_neg hc, dts_up, er3, er1]⟩, by rw [ht]; exact hP, va_K.moved hW.alike (xk_Kd hK), hD⟩, hS.F ht⟩) hS.2.2 dX1_storeOrSell_66
  · skip
    have hc : dCmp (dt lo) (dSub d40 (dt so)) = some .lt := by have q := Decidable.of_not_not (fun q => c ((cv_g_ge _).mpr q)); have q2 : dCmp (dt lo) (dt r1) = some .lt := q; rw [er1] at q2; exact q2
    refine lv_aload_n hx hb dX1_storeOrSell_18 rfl (lv_at hl 1 rfl) ?_
    refine lv_dup hx hb dX1_storeOrSell_19 rfl ?_
    refine va_get (D := D) (ci := 1) (v := .double so) (C := RX1) (T := TX1) (N := 12) hx hb (dr_words hts _) inX1 (xk_od hown) (xk_Kd hK) hP 0 rfl rfl 8 (by decide) (dr_words hts _ (.fieldLink RX1 43 "GridCommons" "stored" "D") (by decide +kernel)) (fun _ h9 => h9) rfl dX1_storeOrSell_20 ?_
    refine lv_aload_n hx hb dX1_storeOrSell_23 rfl (lv_at hl 1 rfl) ?_
    refine va_get (D := D) (ci := 1) (v := .double lo) (C := RX1) (T := TX1) (N := 12) hx hb (dr_words hts _) inX1 (xk_od hown) (xk_Kd hK) hP 0 rfl rfl 11 (by decide) (dr_words hts _ (.fieldLink RX1 53 "GridCommons" "leftOver" "D") (by decide +kernel)) (fun _ h9 => h9) rfl dX1_storeOrSell_24 ?_
    refine lv_dadd_any hd2 lw_bits hx hb dX1_storeOrSell_27 (fun r5 _ hal hd6 => ?_)
    have er5 := dt_add hal
    refine va_put (D := D) (ci := 1) (v := .double r5) (ty := .double) (C := RX1) (T := TX1) (N := 12) hx hb (dr_words hts _) inX1 tyX1 tyX1_ok nmX1 (xk_od hown) (xk_Kd hK) hP hD hS 0 rfl rfl 8 (by decide) (dr_words hts _ (.fieldLink RX1 43 "GridCommons" "stored" "D") (by decide +kernel)) (fun _ h9 => h9) rfl (by decide +kernel) rfl rfl (Nat.le_of_ble_eq_true rfl) dX1_storeOrSell_28 (fun H locs hP hD hS => ?_)
    have hP : va_P D vwCl (XW a cI cZ cD sh sw ts bi it tu ne pr r5 lo wt cn lp lz lu lk ld lf lb lw) H := hP
    have hD : va_D A (XW a cI cZ cD sh sw ts bi it tu ne pr r5 lo wt cn lp lz lu lk ld lf lb lw) := hD
    refine lv_aload_n hx hb dX1_storeOrSell_31 rfl (lv_at hl 1 rfl) ?_
    refine va_get (D := D) (ci := 1) (v := .ref (a 8)) (C := RX1) (T := TX1) (N := 12) hx hb (dr_words hts _) inX1 (xk_od hown) (xk_Kd hK) hP 0 rfl rfl 6 (by decide) (dr_words hts _ (.fieldLink RX1 33 "GridCommons" "ledger" "LGridCommons$Ledger;") (by decide +kernel)) (fun _ h9 => h9) rfl dX1_storeOrSell_32 ?_
    refine va_get (D := D) (ci := 0) (v := .ref (a 10)) (C := RX0) (T := TX0) (N := 9) hx hb (dr_words hts _) inX0 (xk_od hown) (xk_Kd hK) hP 8 rfl rfl 2 (by decide) (dr_words hts _ (.fieldLink RX1 143 "GridCommons$Ledger" "sold" "[D") (by decide +kernel)) (fun _ h9 => h9) rfl dX1_storeOrSell_35 ?_
    refine lv_iload_n hx hb dX1_storeOrSell_38 rfl (lv_at hl 2 rfl) ?_
    refine lv_dconst0 hx hb dX1_storeOrSell_39 ?_
    refine xk_dast hx hb (xk_Kd hK) hP hD hS 10 2 rfl rfl (o := n) (by omega) (by decide) dX1_storeOrSell_40 (fun H locs hP hD hS => ?_)
    have hP : va_P D vwCl (XW a cI cZ cD sh sw ts bi it tu ne pr r5 lo wt cn lp (vf_upd lz n FP.dconst0) lu lk ld lf lb lw) H := hP
    have hD : va_D A (XW a cI cZ cD sh sw ts bi it tu ne pr r5 lo wt cn lp (vf_upd lz n FP.dconst0) lu lk ld lf lb lw) := hD
    refine lv_goto (tgt := 66) hx hb dX1_storeOrSell_41 (by decide) ?_
    refine W.endD hd6 ?_
    exact W.vret hx hb hr (fun t ht hW => ⟨⟨(r5, vf_upd lz n FP.dconst0), rfl, ⟨by unfold soN; rw [if_pos hc, er5], by unfold szN; rw [if_pos hc, dts_up]; rfl⟩, by rw [ht]; exact hP, va_K.moved hW.alike (xk_Kd hK), hD⟩, hS.F ht⟩) hS.2.2 dX1_storeOrSell_66
set_option maxHeartbeats 4000000 in
set_option maxRecDepth 100000 in
theorem mX1_giveFromBattery (l : Launch) (D : va_G) (cI cZ cD : ClassId) (a : Nat → Nat) (sz : Nat) (sh sw ts : Nat → Int32) (bi : Nat → UInt64) (it tu : Nat → Int32) (ne : Nat → UInt64) (pr so lo : UInt64) (cn : Int32) (lp lz lu : Nat → UInt64) (lk : Nat → Int32) (ld lf lb lw : Nat → UInt64) (n tr : Nat) (hn : n < 60) (ht5 : tr < 5) (V : Nat → Dm) (hV : is5 ne V) : MetD lw_cs l yX1_giveFromBattery wsX1_giveFromBattery ({ frames := 2, cells := 0, slots := 0, locals := 42 } : Room) (va_Pc [.ref (a 0), .int (nI n)] (XP D cI cZ cD (XW a cI cZ cD sh sw ts bi it tu ne pr so lo (nI tr) cn lp lz lu lk ld lf lb lw) sz)) (va_Qv (fun (u : (Nat → UInt64) × UInt64 × (Nat → UInt64) × Nat) => is5 u.1 (gbs tr (5 * n) V (dt so) (dts lb) 5).1 ∧ dt u.2.1 = (gbs tr (5 * n) V (dt so) (dts lb) 5).2.1 ∧ dts u.2.2.1 = (gbs tr (5 * n) V (dt so) (dts lb) 5).2.2.1 ∧ u.2.2.2 = tnx tr (gbs tr (5 * n) V (dt so) (dts lb) 5).2.2.2) (fun (u : (Nat → UInt64) × UInt64 × (Nat → UInt64) × Nat) t => XB D cI cZ cD (XW a cI cZ cD sh sw ts bi it tu u.1 pr u.2.1 lo (nI u.2.2.2) cn lp lz lu lk ld lf u.2.2.1 lw) (va_A (XW a cI cZ cD sh sw ts bi it tu ne pr so lo (nI tr) cn lp lz lu lk ld lf lb lw) sz) t) (va_A (XW a cI cZ cD sh sw ts bi it tu ne pr so lo (nI tr) cn lp lz lu lk ld lf lb lw) sz)) 0 0 (va_A (XW a cI cZ cD sh sw ts bi it tu ne pr so lo (nI tr) cn lp lz lu lk ld lf lb lw) sz) := by
  refine MetD.ofW (cc := cX1_giveFromBattery) (maxL := 7) (ret := none) (by decide +kernel) rfl ?_
  intro p e s m args below meth c s₁ B hml hv hd0
  obtain ⟨rfl, hsz, hP, hK, hD0⟩ := hv
  have hx := B.exec
  have hb := B.bytes
  have hr := B.returns
  have hts := atoms_spec (ws := wsX1_giveFromBattery) B.pre
  have hown : s.vm.findClass RX1 = some m.cls := findClass_of_methodNamed B.named
  have hlocks := B.notSynchronized
  subst hsz
  have hD := hD0.self (sz := s.heap.size)
  generalize hAe : va_A (XW a cI cZ cD sh sw ts bi it tu ne pr so lo (nI tr) cn lp lz lu lk ld lf lb lw) s.heap.size = A at hD ⊢
  have hA : ∀ q : Nat, s.heap.size ≤ q → A q := fun q h => by rw [← hAe]; exact Or.inr h
  have hS : va_S A s.heap s.heap [] := va_S.rf
  have hl := lv_entry ([.ref (a 0), .int (nI n)]) (n := 7) (Nat.le_of_ble_eq_true rfl)
  rw [lg_entry_eq]
  generalize (lg_sl ([.ref (a 0), .int (nI n)]) ++ List.replicate (7 - (lg_sl ([.ref (a 0), .int (nI n)])).length) Slot.unset).toArray = ls at hl ⊢
  have hl : lv_has ls 7 [(0, .ref (a 0)), (1, .int (nI n))] := hl
  have inX1 : ∀ w ∈ wsX10, w ∈ wsX1_giveFromBattery := by decide +kernel
  have inX0 : ∀ w ∈ wsX00, w ∈ wsX1_giveFromBattery := by decide +kernel
  refine lv_iconst (v := (-1)) hx hb dX1_giveFromBattery_0 (by decide) ?_
  refine lv_istore_n (lv' := [(2, .int (-1)), (0, .ref (a 0)), (1, .int (nI n))]) hx hb dX1_giveFromBattery_1 rfl hl (by decide) rfl (fun ls hl => ?_)
  refine lv_aload_n hx hb dX1_giveFromBattery_2 rfl (lv_at hl 1 rfl) ?_
  refine va_get (D := D) (ci := 1) (v := .int (nI tr)) (C := RX1) (T := TX1) (N := 12) hx hb (dr_words hts _) inX1 (xk_od hown) (xk_Kd hK) hP 0 rfl rfl 9 (by decide) (dr_words hts _ (.fieldLink RX1 46 "GridCommons" "whoseTurn" "I") (by decide +kernel)) (fun _ h9 => h9) rfl dX1_giveFromBattery_3 ?_
  refine lv_istore_n (lv' := [(3, .int (nI tr)), (2, .int (-1)), (0, .ref (a 0)), (1, .int (nI n))]) hx hb dX1_giveFromBattery_6 rfl hl (by decide) rfl (fun ls hl => ?_)
  refine lv_iconst (v := nI 0) hx hb dX1_giveFromBattery_7 (by decide) ?_
  refine lv_istore (lv' := [(4, .int (nI 0)), (3, .int (nI tr)), (2, .int (-1)), (0, .ref (a 0)), (1, .int (nI n))]) hx hb dX1_giveFromBattery_8 hl (by decide) rfl (fun ls hl => ?_)
  have hl : lv_has ls 7 [(4, .int (nI 0)), (3, .int (nI ((tr + 0) % 5))), (2, .int (-1)), (0, .ref (a 0)), (1, .int (nI n))] := (by rw [show (tr + 0) % 5 = tr by omega]; exact hl)
  refine xk_loop (fun i H locs ls d => ∃ (ne' : Nat → UInt64) (so' : UInt64) (lb' : Nat → UInt64) (y : Option Nat), (is5 ne' (gbs tr (5 * n) V (dt so) (dts lb) i).1) ∧ (dt so' = (gbs tr (5 * n) V (dt so) (dts lb) i).2.1) ∧ (dts lb' = (gbs tr (5 * n) V (dt so) (dts lb) i).2.2.1) ∧ (y = (gbs tr (5 * n) V (dt so) (dts lb) i).2.2.2) ∧ (∀ o, y = some o → o < 5) ∧ (va_P D vwCl (XW a cI cZ cD sh sw ts bi it tu ne' pr so' lo (nI tr) cn lp lz lu lk ld lf lb' lw) H) ∧ (va_D A (XW a cI cZ cD sh sw ts bi it tu ne' pr so' lo (nI tr) cn lp lz lu lk ld lf lb' lw)) ∧ (va_S A s.heap H locs) ∧ (s.drawn.sameBut d lw_cs) ∧ (lv_has ls 7 [(0, .ref (a 0)), (1, .int (nI n)), (2, .int (oi y)), (3, .int (nI ((tr + i) % 5))), (4, .int (nI i))])) 5 ?_ (i := 0) (Nat.zero_le _) ⟨ne, so, lb, none, hV, rfl, rfl, rfl, (fun o h => nomatch h), hP, hD, hS, hd0, lv_sub hl [3, 4, 2, 1, 0] rfl⟩
  intro i H locs ls d hi hI next
  obtain ⟨ne', so', lb', y, hq0, hq1, hq2, hq3, hq4, hP, hD, hS, hdl, hl⟩ := hI
  refine lv_iload hx hb dX1_giveFromBattery_10 (lv_at hl 4 rfl) ?_
  refine lv_iconst (v := nI 5) hx hb dX1_giveFromBattery_12 (by decide) ?_
  refine lv_icmp_ge (tgt := 88) hx hb dX1_giveFromBattery_13 (by decide) (fun c => ?_) (fun c => ?_)
  · skip
    obtain rfl := xk_ge hi (by decide) c
    cases y with
    | none =>
      have hl : lv_has ls 7 [(0, .ref (a 0)), (1, .int (nI n)), (2, .int (-1)), (3, .int (nI ((tr + 5) % 5))), (4, .int (nI 5))] := hl
      refine lv_iload_n hx hb dX1_giveFromBattery_88 rfl (lv_at hl 2 rfl) ?_
      refine lv_iconst (v := (-1)) hx hb dX1_giveFromBattery_89 (by decide) ?_
      refine lv_icmp_eq (tgt := 101) hx hb dX1_giveFromBattery_90 (by decide) (fun c1 => ?_) (fun c1 => ?_)
      · skip
        refine W.endD hdl ?_
        exact W.vret hx hb hr (fun t ht hW => ⟨⟨(ne', so', lb', tr), rfl, ⟨hq0, hq1, hq2, by rw [← hq3]; rfl⟩, by rw [ht]; exact hP, va_K.moved hW.alike (xk_Kd hK), hD⟩, hS.F ht⟩) hS.2.2 dX1_giveFromBattery_101
      · skip
        exact absurd rfl c1
    | some o =>
      have hl : lv_has ls 7 [(0, .ref (a 0)), (1, .int (nI n)), (2, .int (nI o)), (3, .int (nI ((tr + 5) % 5))), (4, .int (nI 5))] := hl
      have ho := hq4 o rfl
      refine lv_iload_n hx hb dX1_giveFromBattery_88 rfl (lv_at hl 2 rfl) ?_
      refine lv_iconst (v := (-1)) hx hb dX1_giveFromBattery_89 (by decide) ?_
      refine lv_icmp_eq (tgt := 101) hx hb dX1_giveFromBattery_90 (by decide) (fun c1 => ?_) (fun c1 => ?_)
      · skip
        exact absurd c1 (nI_nm1 o ho)
      · skip
        refine lv_aload_n hx hb dX1_giveFromBattery_93 rfl (lv_at hl 0 rfl) ?_
        refine lv_iload_n hx hb dX1_giveFromBattery_94 rfl (lv_at hl 2 rfl) ?_
        refine vp_callSi (va_Run.run (va_runS (As := [.int (nI o)]) (rest := [.ref (a 0)]) ⟨hx, hb, hml, (xk_od hown), (dr_words hts _)⟩ (mX1_behind l o ho) (va_cwS 1 (dr_words hts _) gX1_giveFromBattery_X1_behind rfl rfl rfl (by decide +kernel) ⟨Nat.le_of_ble_eq_true rfl, Nat.le_of_ble_eq_true rfl⟩) ⟨fun a U g mk q => q, fun U hU hW => ⟨rfl, trivial⟩⟩ rfl rfl hl.1 rfl (lv_room (Nat.le_of_ble_eq_true rfl)) dX1_giveFromBattery_95 ⟨Nat.le_of_ble_eq_true rfl, Nat.le_of_ble_eq_true rfl⟩)) (fun r hr1 => ?_)
        subst hr1
        refine va_put (D := D) (ci := 1) (v := .int (nI ((o + 1) % 5))) (ty := .int) (C := RX1) (T := TX1) (N := 12) hx hb (dr_words hts _) inX1 tyX1 tyX1_ok nmX1 (xk_od hown) (xk_Kd hK) hP hD hS 0 rfl rfl 9 (by decide) (dr_words hts _ (.fieldLink RX1 46 "GridCommons" "whoseTurn" "I") (by decide +kernel)) (fun _ h9 => h9) rfl (by decide +kernel) rfl rfl (Nat.le_of_ble_eq_true rfl) dX1_giveFromBattery_98 (fun H locs hP hD hS => ?_)
        have hP : va_P D vwCl (XW a cI cZ cD sh sw ts bi it tu ne' pr so' lo (nI ((o + 1) % 5)) cn lp lz lu lk ld lf lb' lw) H := hP
        have hD : va_D A (XW a cI cZ cD sh sw ts bi it tu ne' pr so' lo (nI ((o + 1) % 5)) cn lp lz lu lk ld lf lb' lw) := hD
        refine W.endD hdl ?_
        exact W.vret hx hb hr (fun t ht hW => ⟨⟨(ne', so', lb', (o + 1) % 5), rfl, ⟨hq0, hq1, hq2, by rw [← hq3]; rfl⟩, by rw [ht]; exact hP, va_K.moved hW.alike (xk_Kd hK), hD⟩, hS.F ht⟩) hS.2.2 dX1_giveFromBattery_101
  · skip
    have hlt := xk_nge hi (by decide) c
    obtain ⟨o, hoe⟩ : ∃ o, o = (tr + i) % 5 := ⟨_, rfl⟩
    have ho : o < 5 := by omega
    rw [← hoe] at hl
    refine lv_aload_n hx hb dX1_giveFromBattery_16 rfl (lv_at hl 0 rfl) ?_
    refine va_get (D := D) (ci := 1) (v := .ref (a 7)) (C := RX1) (T := TX1) (N := 12) hx hb (dr_words hts _) inX1 (xk_od hown) (xk_Kd hK) hP 0 rfl rfl 10 (by decide) (dr_words hts _ (.fieldLink RX1 50 "GridCommons" "needs" "[D") (by decide +kernel)) (fun _ h9 => h9) rfl dX1_giveFromBattery_17 ?_
    refine lv_iload_n hx hb dX1_giveFromBattery_20 rfl (lv_at hl 3 rfl) ?_
    refine xk_dald hx hb (xk_Kd hK) hP 7 2 rfl rfl (o := o) (by omega) (by decide) dX1_giveFromBattery_21 ?_
    refine lv_aload_n hx hb dX1_giveFromBattery_22 rfl (lv_at hl 0 rfl) ?_
    refine va_get (D := D) (ci := 1) (v := .double so') (C := RX1) (T := TX1) (N := 12) hx hb (dr_words hts _) inX1 (xk_od hown) (xk_Kd hK) hP 0 rfl rfl 8 (by decide) (dr_words hts _ (.fieldLink RX1 43 "GridCommons" "stored" "D") (by decide +kernel)) (fun _ h9 => h9) rfl dX1_giveFromBattery_23 ?_
    refine vp_callSd (va_Run.run (va_runS (As := [.double (ne' o), .double so']) (rest := []) ⟨hx, hb, hml, (xk_od hown), (dr_words hts _)⟩ (mX1_lesser l (ne' o) so') (va_cwS 2 (dr_words hts _) gX1_giveFromBattery_X1_lesser rfl rfl rfl (by decide +kernel) ⟨Nat.le_of_ble_eq_true rfl, Nat.le_of_ble_eq_true rfl⟩) ⟨fun a U g mk q => q, fun U hU hW => ⟨rfl, trivial⟩⟩ rfl rfl hl.1 rfl (lv_room (Nat.le_of_ble_eq_true rfl)) dX1_giveFromBattery_26 ⟨Nat.le_of_ble_eq_true rfl, Nat.le_of_ble_eq_true rfl⟩)) (fun x hx1 => ?_)
    have eu : dt x = dMin ((gbs tr (5 * n) V (dt so) (dts lb) i).1 o) (gbs tr (5 * n) V (dt so) (dts lb) i).2.1 := by rw [hx1, hq0 o ho, hq1]
    refine lv_dstore (lv' := [(5, .double x), (0, .ref (a 0)), (1, .int (nI n)), (2, .int (oi y)), (3, .int (nI o)), (4, .int (nI i))]) hx hb dX1_giveFromBattery_29 hl (by decide) rfl (fun ls hl => ?_)
    refine lv_aload_n hx hb dX1_giveFromBattery_31 rfl (lv_at hl 1 rfl) ?_
    refine va_get (D := D) (ci := 1) (v := .ref (a 8)) (C := RX1) (T := TX1) (N := 12) hx hb (dr_words hts _) inX1 (xk_od hown) (xk_Kd hK) hP 0 rfl rfl 6 (by decide) (dr_words hts _ (.fieldLink RX1 33 "GridCommons" "ledger" "LGridCommons$Ledger;") (by decide +kernel)) (fun _ h9 => h9) rfl dX1_giveFromBattery_32 ?_
    refine va_get (D := D) (ci := 0) (v := .ref (a 15)) (C := RX0) (T := TX0) (N := 9) hx hb (dr_words hts _) inX0 (xk_od hown) (xk_Kd hK) hP 8 rfl rfl 7 (by decide) (dr_words hts _ (.fieldLink RX1 137 "GridCommons$Ledger" "fromBattery" "[D") (by decide +kernel)) (fun _ h9 => h9) rfl dX1_giveFromBattery_35 ?_
    refine lv_iload_n hx hb dX1_giveFromBattery_38 rfl (lv_at hl 4 rfl) ?_
    refine lv_iload_n hx hb dX1_giveFromBattery_39 rfl (lv_at hl 2 rfl) ?_
    refine vp_callSi (va_Run.run (va_runS (As := [.int (nI o), .int (nI n)]) (rest := [.ref (a 15)]) ⟨hx, hb, hml, (xk_od hown), (dr_words hts _)⟩ (mX0_slot l o n) (va_cwS 2 (dr_words hts _) gX1_giveFromBattery_X0_slot rfl rfl rfl (by decide +kernel) ⟨Nat.le_of_ble_eq_true rfl, Nat.le_of_ble_eq_true rfl⟩) ⟨fun a U g mk q => q, fun U hU hW => ⟨rfl, trivial⟩⟩ rfl rfl hl.1 rfl (lv_room (Nat.le_of_ble_eq_true rfl)) dX1_giveFromBattery_40 ⟨Nat.le_of_ble_eq_true rfl, Nat.le_of_ble_eq_true rfl⟩)) (fun r hr1 => ?_)
    subst hr1
    refine lv_dload hx hb dX1_giveFromBattery_43 (lv_at hl 0 rfl) ?_
    refine xk_dast hx hb (xk_Kd hK) hP hD hS 15 2 rfl rfl (o := (5 * n + o)) (by omega) (by decide) dX1_giveFromBattery_45 (fun H locs hP hD hS => ?_)
    have hP : va_P D vwCl (XW a cI cZ cD sh sw ts bi it tu ne' pr so' lo (nI tr) cn lp lz lu lk ld lf (vf_upd lb' (5 * n + o) x) lw) H := hP
    have hD : va_D A (XW a cI cZ cD sh sw ts bi it tu ne' pr so' lo (nI tr) cn lp lz lu lk ld lf (vf_upd lb' (5 * n + o) x) lw) := hD
    refine lv_aload_n hx hb dX1_giveFromBattery_46 rfl (lv_at hl 1 rfl) ?_
    refine va_get (D := D) (ci := 1) (v := .ref (a 7)) (C := RX1) (T := TX1) (N := 12) hx hb (dr_words hts _) inX1 (xk_od hown) (xk_Kd hK) hP 0 rfl rfl 10 (by decide) (dr_words hts _ (.fieldLink RX1 50 "GridCommons" "needs" "[D") (by decide +kernel)) (fun _ h9 => h9) rfl dX1_giveFromBattery_47 ?_
    refine lv_iload_n hx hb dX1_giveFromBattery_50 rfl (lv_at hl 4 rfl) ?_
    refine lv_dup2_11 hx hb dX1_giveFromBattery_51 rfl rfl ?_
    refine xk_dald hx hb (xk_Kd hK) hP 7 2 rfl rfl (o := o) (by omega) (by decide) dX1_giveFromBattery_52 ?_
    refine lv_dload hx hb dX1_giveFromBattery_53 (lv_at hl 0 rfl) ?_
    refine lv_dsub_any hdl lw_bits hx hb dX1_giveFromBattery_55 (fun r1 _ hal hd2 => ?_)
    have er1 := dt_sub hal
    refine xk_dast hx hb (xk_Kd hK) hP hD hS 7 2 rfl rfl (o := o) (by omega) (by decide) dX1_giveFromBattery_56 (fun H locs hP hD hS => ?_)
    have hP : va_P D vwCl (XW a cI cZ cD sh sw ts bi it tu (vf_upd ne' o r1) pr so' lo (nI tr) cn lp lz lu lk ld lf (vf_upd lb' (5 * n + o) x) lw) H := hP
    have hD : va_D A (XW a cI cZ cD sh sw ts bi it tu (vf_upd ne' o r1) pr so' lo (nI tr) cn lp lz lu lk ld lf (vf_upd lb' (5 * n + o) x) lw) := hD
    refine lv_aload_n hx hb dX1_giveFromBattery_57 rfl (lv_at hl 1 rfl) ?_
    refine lv_dup hx hb dX1_giveFromBattery_58 rfl ?_
    refine va_get (D := D) (ci := 1) (v := .double so') (C := RX1) (T := TX1) (N := 12) hx hb (dr_words hts _) inX1 (xk_od hown) (xk_Kd hK) hP 0 rfl rfl 8 (by decide) (dr_words hts _ (.fieldLink RX1 43 "GridCommons" "stored" "D") (by decide +kernel)) (fun _ h9 => h9) rfl dX1_giveFromBattery_59 ?_
    refine lv_dload hx hb dX1_giveFromBattery_62 (lv_at hl 0 rfl) ?_
    refine lv_dsub_any hd2 lw_bits hx hb dX1_giveFromBattery_64 (fun r3 _ hal hd4 => ?_)
    have er3 := dt_sub hal
    refine va_put (D := D) (ci := 1) (v := .double r3) (ty := .double) (C := RX1) (T := TX1) (N := 12) hx hb (dr_words hts _) inX1 tyX1 tyX1_ok nmX1 (xk_od hown) (xk_Kd hK) hP hD hS 0 rfl rfl 8 (by decide) (dr_words hts _ (.fieldLink RX1 43 "GridCommons" "stored" "D") (by decide +kernel)) (fun _ h9 => h9) rfl (by decide +kernel) rfl rfl (Nat.le_of_ble_eq_true rfl) dX1_giveFromBattery_65 (fun H locs hP hD hS => ?_)
    have hP : va_P D vwCl (XW a cI cZ cD sh sw ts bi it tu (vf_upd ne' o r1) pr r3 lo (nI tr) cn lp lz lu lk ld lf (vf_upd lb' (5 * n + o) x) lw) H := hP
    have hD : va_D A (XW a cI cZ cD sh sw ts bi it tu (vf_upd ne' o r1) pr r3 lo (nI tr) cn lp lz lu lk ld lf (vf_upd lb' (5 * n + o) x) lw) := hD
    refine lv_dload hx hb dX1_giveFromBattery_68 (lv_at hl 0 rfl) ?_
    refine lv_dconst0 hx hb dX1_giveFromBattery_70 ?_
    refine lv_dcmp hx hb dX1_giveFromBattery_71 ?_
    have e0 : gbs tr (5 * n) V (dt so) (dts lb) (i + 1) = (va_up (gbs tr (5 * n) V (dt so) (dts lb) i).1 o (dSub ((gbs tr (5 * n) V (dt so) (dts lb) i).1 o) (dt x)), dSub (gbs tr (5 * n) V (dt so) (dts lb) i).2.1 (dt x), va_up (gbs tr (5 * n) V (dt so) (dts lb) i).2.2.1 (5 * n + o) (dt x), if dCmp (dt x) dZ = some .gt then some o else (gbs tr (5 * n) V (dt so) (dts lb) i).2.2.2) := by rw [eu, hoe]; rfl
    have k1 : is5 (vf_upd ne' o r1) (gbs tr (5 * n) V (dt so) (dts lb) (i + 1)).1 := by rw [e0]; exact hq0.up o (by rw [er1, hq0 o ho])
    have k2 : dt r3 = (gbs tr (5 * n) V (dt so) (dts lb) (i + 1)).2.1 := by rw [e0, er3, hq1]
    have k3 : dts (vf_upd lb' (5 * n + o) x) = (gbs tr (5 * n) V (dt so) (dts lb) (i + 1)).2.2.1 := by rw [e0, dts_up, hq2]
    refine lv_if_le (tgt := 77) hx hb dX1_giveFromBattery_72 (by decide) (fun c2 => ?_) (fun c2 => ?_)
    · skip
      have hc : ¬ dCmp (dt x) dZ = some .gt := (cv_l_le _).mp c2
      refine lv_iload_n hx hb dX1_giveFromBattery_77 rfl (lv_at hl 4 rfl) ?_
      refine vp_callSi (va_Run.run (va_runS (As := [.int (nI o)]) (rest := []) ⟨hx, hb, hml, (xk_od hown), (dr_words hts _)⟩ (mX1_behind l o ho) (va_cwS 1 (dr_words hts _) gX1_giveFromBattery_X1_behind rfl rfl rfl (by decide +kernel) ⟨Nat.le_of_ble_eq_true rfl, Nat.le_of_ble_eq_true rfl⟩) ⟨fun a U g mk q => q, fun U hU hW => ⟨rfl, trivial⟩⟩ rfl rfl hl.1 rfl (lv_room (Nat.le_of_ble_eq_true rfl)) dX1_giveFromBattery_78 ⟨Nat.le_of_ble_eq_true rfl, Nat.le_of_ble_eq_true rfl⟩)) (fun r hr1 => ?_)
      subst hr1
      refine xk_i (y := nI ((tr + (i + 1)) % 5)) (by rw [hoe]; congr 1; omega) ?_
      refine lv_istore_n (lv' := [(3, .int (nI ((tr + (i + 1)) % 5))), (5, .double x), (0, .ref (a 0)), (1, .int (nI n)), (2, .int (oi y)), (4, .int (nI i))]) hx hb dX1_giveFromBattery_81 rfl hl (by decide) rfl (fun ls hl => ?_)
      refine lv_iinc (v := nI (i + 1)) (lv' := [(4, .int (nI (i + 1))), (3, .int (nI ((tr + (i + 1)) % 5))), (5, .double x), (0, .ref (a 0)), (1, .int (nI n)), (2, .int (oi y))]) hx hb dX1_giveFromBattery_82 hl (k := 5) rfl (nI_1 i) (by decide) rfl (fun ls hl => ?_)
      refine lv_goto (tgt := 10) hx hb dX1_giveFromBattery_85 (by decide) ?_
      exact next _ _ _ _ hlt ⟨(vf_upd ne' o r1), r3, (vf_upd lb' (5 * n + o) x), y, k1, k2, k3, (by rw [e0]; dsimp only; rw [if_neg hc]; exact hq3), hq4, hP, hD, hS, hd4, lv_sub hl [3, 4, 5, 1, 0] rfl⟩
    · skip
      have hc : dCmp (dt x) dZ = some .gt := Decidable.of_not_not (fun q => c2 ((cv_l_le _).mpr q))
      refine lv_iload_n hx hb dX1_giveFromBattery_75 rfl (lv_at hl 4 rfl) ?_
      refine lv_istore_n (lv' := [(2, .int (nI o)), (5, .double x), (0, .ref (a 0)), (1, .int (nI n)), (3, .int (nI o)), (4, .int (nI i))]) hx hb dX1_giveFromBattery_76 rfl hl (by decide) rfl (fun ls hl => ?_)
      refine lv_iload_n hx hb dX1_giveFromBattery_77 rfl (lv_at hl 4 rfl) ?_
      refine vp_callSi (va_Run.run (va_runS (As := [.int (nI o)]) (rest := []) ⟨hx, hb, hml, (xk_od hown), (dr_words hts _)⟩ (mX1_behind l o ho) (va_cwS 1 (dr_words hts _) gX1_giveFromBattery_X1_behind rfl rfl rfl (by decide +kernel) ⟨Nat.le_of_ble_eq_true rfl, Nat.le_of_ble_eq_true rfl⟩) ⟨fun a U g mk q => q, fun U hU hW => ⟨rfl, trivial⟩⟩ rfl rfl hl.1 rfl (lv_room (Nat.le_of_ble_eq_true rfl)) dX1_giveFromBattery_78 ⟨Nat.le_of_ble_eq_true rfl, Nat.le_of_ble_eq_true rfl⟩)) (fun r hr1 => ?_)
      subst hr1
      refine xk_i (y := nI ((tr + (i + 1)) % 5)) (by rw [hoe]; congr 1; omega) ?_
      refine lv_istore_n (lv' := [(3, .int (nI ((tr + (i + 1)) % 5))), (2, .int (nI o)), (5, .double x), (0, .ref (a 0)), (1, .int (nI n)), (4, .int (nI i))]) hx hb dX1_giveFromBattery_81 rfl hl (by decide) rfl (fun ls hl => ?_)
      refine lv_iinc (v := nI (i + 1)) (lv' := [(4, .int (nI (i + 1))), (3, .int (nI ((tr + (i + 1)) % 5))), (2, .int (nI o)), (5, .double x), (0, .ref (a 0)), (1, .int (nI n))]) hx hb dX1_giveFromBattery_82 hl (k := 5) rfl (nI_1 i) (by decide) rfl (fun ls hl => ?_)
      refine lv_goto (tgt := 10) hx hb dX1_giveFromBattery_85 (by decide) ?_
      exact next _ _ _ _ hlt ⟨(vf_upd ne' o r1), r3, (vf_upd lb' (5 * n + o) x), (some o), k1, k2, k3, (by rw [e0]; dsimp only; rw [if_pos hc]), (fun o9 h9 => by cases h9; exact ho), hP, hD, hS, hd4, lv_sub hl [4, 5, 2, 1, 0] rfl⟩
set_option maxHeartbeats 4000000 in
set_option maxRecDepth 100000 in
theorem mX1_writeBills (l : Launch) (D : va_G) (cI cZ cD : ClassId) (a : Nat → Nat) (sz : Nat) (sh sw ts : Nat → Int32) (bi : Nat → UInt64) (it tu : Nat → Int32) (ne : Nat → UInt64) (pr so lo : UInt64) (wt cn : Int32) (lp lz lu : Nat → UInt64) (lk : Nat → Int32) (ld lf lb lw : Nat → UInt64) (n : Nat) (hn : n < 60) (V : Nat → Dm) (hV : is5 ne V) : MetD lw_cs l yX1_writeBills wsX1_writeBills ({ frames := 1, cells := 0, slots := 0, locals := 21 } : Room) (va_Pc [.ref (a 0), .int (nI n)] (XP D cI cZ cD (XW a cI cZ cD sh sw ts bi it tu ne pr so lo wt cn lp lz lu lk ld lf lb lw) sz)) (va_Qv (fun (u : (Nat → UInt64) × (Nat → UInt64)) => dts u.1 = po (5 * n) 5 (dts lw) V ∧ dts u.2 = po 0 5 (dts bi) (fun k => dSub (dAdd (dts bi k) (dMul (V k) (dt pr))) (dDiv (dMul (dts lz n) (dt pr)) d10))) (fun (u : (Nat → UInt64) × (Nat → UInt64)) t => XB D cI cZ cD (XW a cI cZ cD sh sw ts u.2 it tu ne pr so lo wt cn lp lz lu lk ld lf lb u.1) (va_A (XW a cI cZ cD sh sw ts bi it tu ne pr so lo wt cn lp lz lu lk ld lf lb lw) sz) t) (va_A (XW a cI cZ cD sh sw ts bi it tu ne pr so lo wt cn lp lz lu lk ld lf lb lw) sz)) 0 0 (va_A (XW a cI cZ cD sh sw ts bi it tu ne pr so lo wt cn lp lz lu lk ld lf lb lw) sz) := by
  refine MetD.ofW (cc := cX1_writeBills) (maxL := 5) (ret := none) (by decide +kernel) rfl ?_
  intro p e s m args below meth c s₁ B hml hv hd0
  obtain ⟨rfl, hsz, hP, hK, hD0⟩ := hv
  have hx := B.exec
  have hb := B.bytes
  have hr := B.returns
  have hts := atoms_spec (ws := wsX1_writeBills) B.pre
  have hown : s.vm.findClass RX1 = some m.cls := findClass_of_methodNamed B.named
  have hlocks := B.notSynchronized
  subst hsz
  have hD := hD0.self (sz := s.heap.size)
  generalize hAe : va_A (XW a cI cZ cD sh sw ts bi it tu ne pr so lo wt cn lp lz lu lk ld lf lb lw) s.heap.size = A at hD ⊢
  have hA : ∀ q : Nat, s.heap.size ≤ q → A q := fun q h => by rw [← hAe]; exact Or.inr h
  have hS : va_S A s.heap s.heap [] := va_S.rf
  have hl := lv_entry ([.ref (a 0), .int (nI n)]) (n := 5) (Nat.le_of_ble_eq_true rfl)
  rw [lg_entry_eq]
  generalize (lg_sl ([.ref (a 0), .int (nI n)]) ++ List.replicate (5 - (lg_sl ([.ref (a 0), .int (nI n)])).length) Slot.unset).toArray = ls at hl ⊢
  have hl : lv_has ls 5 [(0, .ref (a 0)), (1, .int (nI n))] := hl
  have inX1 : ∀ w ∈ wsX10, w ∈ wsX1_writeBills := by decide +kernel
  have inX0 : ∀ w ∈ wsX00, w ∈ wsX1_writeBills := by decide +kernel
  refine lv_aload_n hx hb dX1_writeBills_0 rfl (lv_at hl 0 rfl) ?_
  refine va_get (D := D) (ci := 1) (v := .ref (a 8)) (C := RX1) (T := TX1) (N := 12) hx hb (dr_words hts _) inX1 (xk_od hown) (xk_Kd hK) hP 0 rfl rfl 6 (by decide) (dr_words hts _ (.fieldLink RX1 33 "GridCommons" "ledger" "LGridCommons$Ledger;") (by decide +kernel)) (fun _ h9 => h9) rfl dX1_writeBills_1 ?_
  refine va_get (D := D) (ci := 0) (v := .ref (a 10)) (C := RX0) (T := TX0) (N := 9) hx hb (dr_words hts _) inX0 (xk_od hown) (xk_Kd hK) hP 8 rfl rfl 2 (by decide) (dr_words hts _ (.fieldLink RX1 143 "GridCommons$Ledger" "sold" "[D") (by decide +kernel)) (fun _ h9 => h9) rfl dX1_writeBills_4 ?_
  refine lv_iload_n hx hb dX1_writeBills_7 rfl (lv_at hl 1 rfl) ?_
  refine xk_dald hx hb (xk_Kd hK) hP 10 2 rfl rfl (o := n) (by omega) (by decide) dX1_writeBills_8 ?_
  refine lv_aload_n hx hb dX1_writeBills_9 rfl (lv_at hl 0 rfl) ?_
  refine va_get (D := D) (ci := 1) (v := .double pr) (C := RX1) (T := TX1) (N := 12) hx hb (dr_words hts _) inX1 (xk_od hown) (xk_Kd hK) hP 0 rfl rfl 7 (by decide) (dr_words hts _ (.fieldLink RX1 39 "GridCommons" "price" "D") (by decide +kernel)) (fun _ h9 => h9) rfl dX1_writeBills_10 ?_
  refine lv_dmul_any hd0 lw_bits hx hb dX1_writeBills_13 (fun r1 _ hal hd2 => ?_)
  have er1 := dt_mul hal
  refine lv_ldc2d hx hb (xk_od hown) (dr_words hts _ (.constantDouble RX1 185 4621819117588971520) (by decide +kernel)) dX1_writeBills_14 ?_
  refine lv_ddiv_any hd2 lw_bits hx hb dX1_writeBills_17 (fun r3 _ hal hd4 => ?_)
  have er3 := dt_div hal
  have ei : dt r3 = dDiv (dMul (dts lz n) (dt pr)) d10 := by rw [er3, er1]; rfl
  refine lv_dstore_n (lv' := [(2, .double r3), (0, .ref (a 0)), (1, .int (nI n))]) hx hb dX1_writeBills_18 rfl hl (by decide) rfl (fun ls hl => ?_)
  refine lv_iconst (v := nI 0) hx hb dX1_writeBills_19 (by decide) ?_
  refine lv_istore (lv' := [(4, .int (nI 0)), (2, .double r3), (0, .ref (a 0)), (1, .int (nI n))]) hx hb dX1_writeBills_20 hl (by decide) rfl (fun ls hl => ?_)
  refine xk_loop (fun i H locs ls d => ∃ (lw' : Nat → UInt64) (bi' : Nat → UInt64), (dts lw' = po (5 * n) i (dts lw) V) ∧ (dts bi' = po 0 i (dts bi) (fun k => dSub (dAdd (dts bi k) (dMul (V k) (dt pr))) (dDiv (dMul (dts lz n) (dt pr)) d10))) ∧ (va_P D vwCl (XW a cI cZ cD sh sw ts bi' it tu ne pr so lo wt cn lp lz lu lk ld lf lb lw') H) ∧ (va_D A (XW a cI cZ cD sh sw ts bi' it tu ne pr so lo wt cn lp lz lu lk ld lf lb lw')) ∧ (va_S A s.heap H locs) ∧ (s.drawn.sameBut d lw_cs) ∧ (lv_has ls 5 [(0, .ref (a 0)), (1, .int (nI n)), (2, .double r3), (4, .int (nI i))])) 5 ?_ (i := 0) (Nat.zero_le _) ⟨lw, bi, (po_0 _ _ _).symm, (po_0 _ _ _).symm, hP, hD, hS, hd4, lv_sub hl [2, 3, 1, 0] rfl⟩
  intro i H locs ls d hi hI next
  obtain ⟨lw', bi', hq0, hq1, hP, hD, hS, hdl, hl⟩ := hI
  refine lv_iload hx hb dX1_writeBills_22 (lv_at hl 3 rfl) ?_
  refine lv_iconst (v := nI 5) hx hb dX1_writeBills_24 (by decide) ?_
  refine lv_icmp_ge (tgt := 88) hx hb dX1_writeBills_25 (by decide) (fun c => ?_) (fun c => ?_)
  · skip
    obtain rfl := xk_ge hi (by decide) c
    refine W.endD hdl ?_
    exact W.vret hx hb hr (fun t ht hW => ⟨⟨(lw', bi'), rfl, ⟨hq0, hq1⟩, by rw [ht]; exact hP, va_K.moved hW.alike (xk_Kd hK), hD⟩, hS.F ht⟩) hS.2.2 dX1_writeBills_88
  · skip
    have hlt := xk_nge hi (by decide) c
    refine lv_aload_n hx hb dX1_writeBills_28 rfl (lv_at hl 0 rfl) ?_
    refine va_get (D := D) (ci := 1) (v := .ref (a 8)) (C := RX1) (T := TX1) (N := 12) hx hb (dr_words hts _) inX1 (xk_od hown) (xk_Kd hK) hP 0 rfl rfl 6 (by decide) (dr_words hts _ (.fieldLink RX1 33 "GridCommons" "ledger" "LGridCommons$Ledger;") (by decide +kernel)) (fun _ h9 => h9) rfl dX1_writeBills_29 ?_
    refine va_get (D := D) (ci := 0) (v := .ref (a 16)) (C := RX0) (T := TX0) (N := 9) hx hb (dr_words hts _) inX0 (xk_od hown) (xk_Kd hK) hP 8 rfl rfl 8 (by decide) (dr_words hts _ (.fieldLink RX1 140 "GridCommons$Ledger" "bought" "[D") (by decide +kernel)) (fun _ h9 => h9) rfl dX1_writeBills_32 ?_
    refine lv_iload hx hb dX1_writeBills_35 (lv_at hl 3 rfl) ?_
    refine lv_iload_n hx hb dX1_writeBills_37 rfl (lv_at hl 1 rfl) ?_
    refine vp_callSi (va_Run.run (va_runS (As := [.int (nI i), .int (nI n)]) (rest := [.ref (a 16)]) ⟨hx, hb, hml, (xk_od hown), (dr_words hts _)⟩ (mX0_slot l i n) (va_cwS 2 (dr_words hts _) gX1_writeBills_X0_slot rfl rfl rfl (by decide +kernel) ⟨Nat.le_of_ble_eq_true rfl, Nat.le_of_ble_eq_true rfl⟩) ⟨fun a U g mk q => q, fun U hU hW => ⟨rfl, trivial⟩⟩ rfl rfl hl.1 rfl (lv_room (Nat.le_of_ble_eq_true rfl)) dX1_writeBills_38 ⟨Nat.le_of_ble_eq_true rfl, Nat.le_of_ble_eq_true rfl⟩)) (fun r hr1 => ?_)
    subst hr1
    refine lv_aload_n hx hb dX1_writeBills_41 rfl (lv_at hl 0 rfl) ?_
    refine va_get (D := D) (ci := 1) (v := .ref (a 7)) (C := RX1) (T := TX1) (N := 12) hx hb (dr_words hts _) inX1 (xk_od hown) (xk_Kd hK) hP 0 rfl rfl 10 (by decide) (dr_words hts _ (.fieldLink RX1 50 "GridCommons" "needs" "[D") (by decide +kernel)) (fun _ h9 => h9) rfl dX1_writeBills_42 ?_
    refine lv_iload hx hb dX1_writeBills_45 (lv_at hl 3 rfl) ?_
    refine xk_dald hx hb (xk_Kd hK) hP 7 2 rfl rfl (o := i) (by omega) (by decide) dX1_writeBills_47 ?_
    refine xk_dast hx hb (xk_Kd hK) hP hD hS 16 2 rfl rfl (o := (5 * n + i)) (by omega) (by decide) dX1_writeBills_48 (fun H locs hP hD hS => ?_)
    have hP : va_P D vwCl (XW a cI cZ cD sh sw ts bi' it tu ne pr so lo wt cn lp lz lu lk ld lf lb (vf_upd lw' (5 * n + i) (ne i))) H := hP
    have hD : va_D A (XW a cI cZ cD sh sw ts bi' it tu ne pr so lo wt cn lp lz lu lk ld lf lb (vf_upd lw' (5 * n + i) (ne i))) := hD
    refine lv_aload_n hx hb dX1_writeBills_49 rfl (lv_at hl 0 rfl) ?_
    refine va_get (D := D) (ci := 1) (v := .ref (a 4)) (C := RX1) (T := TX1) (N := 12) hx hb (dr_words hts _) inX1 (xk_od hown) (xk_Kd hK) hP 0 rfl rfl 3 (by decide) (dr_words hts _ (.fieldLink RX1 20 "GridCommons" "bills" "[D") (by decide +kernel)) (fun _ h9 => h9) rfl dX1_writeBills_50 ?_
    refine lv_iload hx hb dX1_writeBills_53 (lv_at hl 3 rfl) ?_
    refine lv_dup2_11 hx hb dX1_writeBills_55 rfl rfl ?_
    refine xk_dald hx hb (xk_Kd hK) hP 4 2 rfl rfl (o := i) (by omega) (by decide) dX1_writeBills_56 ?_
    refine lv_aload_n hx hb dX1_writeBills_57 rfl (lv_at hl 0 rfl) ?_
    refine va_get (D := D) (ci := 1) (v := .ref (a 7)) (C := RX1) (T := TX1) (N := 12) hx hb (dr_words hts _) inX1 (xk_od hown) (xk_Kd hK) hP 0 rfl rfl 10 (by decide) (dr_words hts _ (.fieldLink RX1 50 "GridCommons" "needs" "[D") (by decide +kernel)) (fun _ h9 => h9) rfl dX1_writeBills_58 ?_
    refine lv_iload hx hb dX1_writeBills_61 (lv_at hl 3 rfl) ?_
    refine xk_dald hx hb (xk_Kd hK) hP 7 2 rfl rfl (o := i) (by omega) (by decide) dX1_writeBills_63 ?_
    refine lv_aload_n hx hb dX1_writeBills_64 rfl (lv_at hl 0 rfl) ?_
    refine va_get (D := D) (ci := 1) (v := .double pr) (C := RX1) (T := TX1) (N := 12) hx hb (dr_words hts _) inX1 (xk_od hown) (xk_Kd hK) hP 0 rfl rfl 7 (by decide) (dr_words hts _ (.fieldLink RX1 39 "GridCommons" "price" "D") (by decide +kernel)) (fun _ h9 => h9) rfl dX1_writeBills_65 ?_
    refine lv_dmul_any hdl lw_bits hx hb dX1_writeBills_68 (fun r5 _ hal hd6 => ?_)
    have er5 := dt_mul hal
    refine lv_dadd_any hd6 lw_bits hx hb dX1_writeBills_69 (fun r7 _ hal hd8 => ?_)
    have er7 := dt_add hal
    refine xk_dast hx hb (xk_Kd hK) hP hD hS 4 2 rfl rfl (o := i) (by omega) (by decide) dX1_writeBills_70 (fun H locs hP hD hS => ?_)
    have hP : va_P D vwCl (XW a cI cZ cD sh sw ts (vf_upd bi' i r7) it tu ne pr so lo wt cn lp lz lu lk ld lf lb (vf_upd lw' (5 * n + i) (ne i))) H := hP
    have hD : va_D A (XW a cI cZ cD sh sw ts (vf_upd bi' i r7) it tu ne pr so lo wt cn lp lz lu lk ld lf lb (vf_upd lw' (5 * n + i) (ne i))) := hD
    refine lv_aload_n hx hb dX1_writeBills_71 rfl (lv_at hl 0 rfl) ?_
    refine va_get (D := D) (ci := 1) (v := .ref (a 4)) (C := RX1) (T := TX1) (N := 12) hx hb (dr_words hts _) inX1 (xk_od hown) (xk_Kd hK) hP 0 rfl rfl 3 (by decide) (dr_words hts _ (.fieldLink RX1 20 "GridCommons" "bills" "[D") (by decide +kernel)) (fun _ h9 => h9) rfl dX1_writeBills_72 ?_
    refine lv_iload hx hb dX1_writeBills_75 (lv_at hl 3 rfl) ?_
    refine lv_dup2_11 hx hb dX1_writeBills_77 rfl rfl ?_
    refine xk_dald hx hb (xk_Kd hK) hP 4 2 rfl rfl (o := i) (by omega) (by decide) dX1_writeBills_78 ?_
    refine lv_dload_n hx hb dX1_writeBills_79 rfl (lv_at hl 2 rfl) ?_
    refine lv_dsub_any hd8 lw_bits hx hb dX1_writeBills_80 (fun r9 _ hal hd10 => ?_)
    have er9 := dt_sub hal
    refine xk_dast hx hb (xk_Kd hK) hP hD hS 4 2 rfl rfl (o := i) (by omega) (by decide) dX1_writeBills_81 (fun H locs hP hD hS => ?_)
    have hP : va_P D vwCl (XW a cI cZ cD sh sw ts (vf_upd (vf_upd bi' i r7) i r9) it tu ne pr so lo wt cn lp lz lu lk ld lf lb (vf_upd lw' (5 * n + i) (ne i))) H := hP
    have hD : va_D A (XW a cI cZ cD sh sw ts (vf_upd (vf_upd bi' i r7) i r9) it tu ne pr so lo wt cn lp lz lu lk ld lf lb (vf_upd lw' (5 * n + i) (ne i))) := hD
    have hbi : dt (bi' i) = dts bi i := by have q := congrFun hq1 i; rw [po_at0] at q; exact q
    refine lv_iinc (v := nI (i + 1)) (lv' := [(4, .int (nI (i + 1))), (0, .ref (a 0)), (1, .int (nI n)), (2, .double r3)]) hx hb dX1_writeBills_82 hl (k := 3) rfl (nI_1 i) (by decide) rfl (fun ls hl => ?_)
    refine lv_goto (tgt := 22) hx hb dX1_writeBills_85 (by decide) ?_
    exact next _ _ _ _ hlt ⟨(vf_upd lw' (5 * n + i) (ne i)), (vf_upd (vf_upd bi' i r7) i r9), (by rw [dts_up]; exact po_step hq0 (hV i hlt)), (by rw [dts_up2]; exact po_step0 hq1 (by rw [er9, vf_self, er7, er5, hbi, hV i hlt, ei])), hP, hD, hS, hd10, lv_sub hl [1, 2, 3, 0] rfl⟩
end
section
/-! WHAT IS ASKED OF ARGUMENTS: methods that return or throw -/
/-- words that the exceptions' constructors need and that a warm-up doesn't keep by itself -/
def exW : List Cond := [.declares (Bundle.initS "java/lang/RuntimeException"), .declares (Bundle.initS "java/lang/Exception"), .declares (Bundle.initS "java/lang/Throwable"), .castable "java/lang/IllegalArgumentException" "java/lang/IllegalArgumentException", .castable "java/lang/IllegalStateException" "java/lang/IllegalStateException", .castable "java/lang/IndexOutOfBoundsException" "java/lang/IndexOutOfBoundsException"]
def exS : List (Nat × String) := [(70, "all shares together would be more than 4"), (80, "60 quarters are closed"), (123, "the use was told, or the gap was replaced"), (148, "a number is out of range"), (151, "owner is out of range"), (155, "there is no such quarter")]
/-- what throwing takes: the two statics of Throwable outside A, the words, the texts -/
def EX (A : Nat → Prop) (U : State) (H : Heap) : Prop := vx_Zq Bundle.tN "UNASSIGNED_STACK" Bundle.steD A U H ∧ vx_Zq Bundle.tN "SUPPRESSED_SENTINEL" Bundle.listD A U H ∧ (∀ w ∈ exW, w.before #[] U = true) ∧ ∀ q ∈ exS, ∃ sa : Nat, vk_R RX1 q.1 q.2 sa U
theorem exW_face : ∀ w ∈ exW, w.faceAtom = true ∧ w.onTables = true := by decide +kernel
/-- .. handed to a callee *-/
theorem EX.pass {A B : Nat → Prop} {s U : State} {H : Heap} {locs : List Loc} (h : EX A s s.heap) (hS : va_S A s.heap H locs) (hU : U.heap = H) (hW : s.WarmedH U.vm) (hAB : ∀ q, B q → A q) : EX B U U.heap := by
  obtain ⟨h1, h2, h3, h4⟩ := h
  rw [hU]
  have hk : ∀ a : Nat, a < s.heap.size → ¬ A a → H[a]? = s.heap[a]? := hS.2.1
  refine ⟨((vx_Zq.kept h1 hk).moved hW.alike).narrow hAB, ((vx_Zq.kept h2 hk).moved hW.alike).narrow hAB, fun w hw => ?_, fun q hq => ?_⟩
  · have e1 := Cond.faceAtom_setVm hW.alike w (exW_face w hw).1 (h3 w hw)
    exact va_tabs (u := s.setVm U.vm) (exW_face w hw).2 rfl e1
  · obtain ⟨sa, h9⟩ := h4 q hq
    exact ⟨sa, vk_R.warm hW h9⟩
theorem EX.blind {A : Nat → Prop} {U : State} {H : Heap} {g : JFrame} {mk : MethodId} {av : Array Value} (h : EX A U H) : EX A (U.calling g mk av) H := by
  obtain ⟨h1, h2, h3, h4⟩ := h
  refine ⟨vx_Zq.moved (u := U) (U := U.calling g mk av) (Vm.Alike.refl U.vm) h1, vx_Zq.moved (u := U) (U := U.calling g mk av) (Vm.Alike.refl U.vm) h2, fun w hw => va_tabs (u := U) (exW_face w hw).2 rfl (h3 w hw), fun q hq => ?_⟩
  obtain ⟨sa, h9⟩ := h4 q hq
  exact ⟨sa, vk_R.same (u := U) rfl h9⟩
theorem EX.words {A : Nat → Prop} {U : State} {H : Heap} {av : Array Value} (h : EX A U H) : ∀ w ∈ exW, w.before av U = true := fun w hw => va_any (exW_face w hw).2 (h.2.2.1 w hw)
/-- E is thrown for a reason; all that was there before stays -/
abbrev XE (pE : String → Prop) (sz : Nat) : String → State → State → Prop := vx_X (fun _ : Unit => True) (fun E _ _ => pE E) (fun q => sz ≤ q)
/-- a start at a heap of its own, for what only looks -/
abbrev XH (Hp : Heap) (U : State) : Prop := U.heap = Hp ∧ EX (fun q => Hp.size ≤ q) U U.heap
theorem xh_blind {av : List Value} {Hp : Heap} : FrameBlind (va_Pc av (XH Hp)) := fun a U g mk q => by
  obtain ⟨q0, q1, q2⟩ := q
  exact ⟨q0, q1, q2.blind⟩
theorem xh_pre {av : List Value} {s : State} {A : Nat → Prop} {H : Heap} {locs : List Loc} (hE : EX A s s.heap) (hS : va_S A s.heap H locs) (hA : ∀ q, s.heap.size ≤ q → A q) : ∀ U : State, U.heap = H → s.WarmedH U.vm → va_Pc av (XH H) av.toArray U :=
  fun U hU hW => ⟨rfl, hU, hE.pass hS hU hW (fun q hq => hA q (Nat.le_trans hS.1 hq))⟩
abbrev XQ (D : va_G) (cI cZ cD : ClassId) (w : va_W) (Hp : Heap) (U : State) : Prop := U.heap = Hp ∧ XB D cI cZ cD w (fun _ => True) U ∧ EX (fun q => Hp.size ≤ q) U U.heap
theorem xq_blind {av : List Value} {D : va_G} {cI cZ cD : ClassId} {w : va_W} {Hp : Heap} : FrameBlind (va_Pc av (XQ D cI cZ cD w Hp)) := fun a U g mk q => by
  obtain ⟨q0, q1, ⟨qP, qK, qD⟩, q2⟩ := q
  exact ⟨q0, q1, ⟨qP, va_K.moved (u := U) (U := U.calling g mk a) (Vm.Alike.refl U.vm) qK, qD⟩, q2.blind⟩
theorem xq_pre {av : List Value} {D : va_G} {cI cZ cD : ClassId} {w : va_W} {A A1 : Nat → Prop} {H : Heap} {s : State} {locs : List Loc} (hP : va_P D vwCl w H) (hK : va_K D vwCl (T3 cI cZ cD) s) (hD : va_D A1 w) (hE : EX A s s.heap) (hS : va_S A s.heap H locs) (hA : ∀ q, s.heap.size ≤ q → A q) : ∀ U : State, U.heap = H → s.WarmedH U.vm → va_Pc av (XQ D cI cZ cD w H) av.toArray U :=
  fun U hU hW => ⟨rfl, hU, ⟨by rw [hU]; exact hP, va_K.moved hW.alike hK, hD.weaken (fun _ _ _ _ => trivial)⟩, hE.pass hS hU hW (fun q hq => hA q (Nat.le_trans hS.1 hq))⟩
/-! numbers in range -/
abbrev inR (x lo hi : Int32) : Prop := lo ≤ x ∧ x ≤ hi
theorem inR_nI {x : Int32} {hi : Int32} {n : Nat} (hn : hi.toInt = n) (h : inR x 0 hi) : ∃ o, o ≤ n ∧ x = nI o := nI_of2 hn (fun q => absurd h.1 (Int32.not_le.mpr q)) h.2
theorem nI_inR {o n : Nat} (h : o ≤ n) (hn : n < 2 ^ 31) : inR (nI o) 0 (nI n) := ⟨nI_pos' (by omega), nI_le h hn⟩
theorem lt_of_le1 {x a b : Int32} (hab : b.toInt = a.toInt + 1) : x < b ↔ x ≤ a := by
  rw [Int32.lt_iff_toInt_lt, Int32.le_iff_toInt_le, hab]
  omega
set_option maxHeartbeats 4000000 in
set_option maxRecDepth 100000 in
theorem mX1_requireOwnerV (l : Launch) (x : Int32) (hin : inR x 0 4) : Met l yX1_requireOwner wsX1_requireOwner ({ frames := 0, cells := 0, slots := 0, locals := 0 } : Room) (va_Pc [.int x] (fun _ => True)) (va_Sv (fun _ => True)) 0 0 (fun _ => False) := by
  refine Met.ofW (cc := cX1_requireOwner) (maxL := 1) (ret := none) (by decide +kernel) rfl ?_
  intro p e s m args below meth c s₁ B hml hv
  obtain ⟨rfl, -⟩ := hv
  have hx := B.exec
  have hb := B.bytes
  have hr := B.returns
  have hts := atoms_spec (ws := wsX1_requireOwner) B.pre
  have hown : s.vm.findClass RX1 = some m.cls := findClass_of_methodNamed B.named
  have hlocks := B.notSynchronized
  have hl := lv_entry ([.int x]) (n := 1) (Nat.le_of_ble_eq_true rfl)
  rw [lg_entry_eq]
  generalize (lg_sl ([.int x]) ++ List.replicate (1 - (lg_sl ([.int x])).length) Slot.unset).toArray = ls at hl ⊢
  have hl : lv_has ls 1 [(0, .int x)] := hl
  refine lv_iload_n hx hb dX1_requireOwner_0 rfl (lv_at hl 0 rfl) ?_
  refine lv_if_lt (tgt := 9) hx hb dX1_requireOwner_1 (by decide) (fun c => ?_) (fun c => ?_)
  · skip
    exact absurd hin.1 (Int32.not_le.mpr c)
  · skip
    refine lv_iload_n hx hb dX1_requireOwner_4 rfl (lv_at hl 0 rfl) ?_
    refine lv_iconst (v := nI 5) hx hb dX1_requireOwner_5 (by decide) ?_
    refine lv_icmp_lt (tgt := 19) hx hb dX1_requireOwner_6 (by decide) (fun c1 => ?_) (fun c1 => ?_)
    · skip
      exact W.vret hx hb hr (fun t ht hW => ⟨rfl, trivial, ht⟩) (fun q hq => absurd hq List.not_mem_nil) dX1_requireOwner_19
    · skip
      exact absurd ((lt_of_le1 (a := 4) (by decide)).mpr hin.2) c1
set_option maxHeartbeats 4000000 in
set_option maxRecDepth 100000 in
theorem mX1_requireWithinV (l : Launch) (x lo up : Int32) (hin : inR x lo up) : Met l yX1_requireWithin wsX1_requireWithin ({ frames := 0, cells := 0, slots := 0, locals := 0 } : Room) (va_Pc [.int x, .int lo, .int up] (fun _ => True)) (va_Sv (fun _ => True)) 0 0 (fun _ => False) := by
  refine Met.ofW (cc := cX1_requireWithin) (maxL := 3) (ret := none) (by decide +kernel) rfl ?_
  intro p e s m args below meth c s₁ B hml hv
  obtain ⟨rfl, -⟩ := hv
  have hx := B.exec
  have hb := B.bytes
  have hr := B.returns
  have hts := atoms_spec (ws := wsX1_requireWithin) B.pre
  have hown : s.vm.findClass RX1 = some m.cls := findClass_of_methodNamed B.named
  have hlocks := B.notSynchronized
  have hl := lv_entry ([.int x, .int lo, .int up]) (n := 3) (Nat.le_of_ble_eq_true rfl)
  rw [lg_entry_eq]
  generalize (lg_sl ([.int x, .int lo, .int up]) ++ List.replicate (3 - (lg_sl ([.int x, .int lo, .int up])).length) Slot.unset).toArray = ls at hl ⊢
  have hl : lv_has ls 3 [(0, .int x), (1, .int lo), (2, .int up)] := hl
  refine lv_iload_n hx hb dX1_requireWithin_0 rfl (lv_at hl 0 rfl) ?_
  refine lv_iload_n hx hb dX1_requireWithin_1 rfl (lv_at hl 1 rfl) ?_
  refine lv_icmp_lt (tgt := 10) hx hb dX1_requireWithin_2 (by decide) (fun c => ?_) (fun c => ?_)
  · skip
    exact absurd hin.1 (Int32.not_le.mpr c)
  · skip
    refine lv_iload_n hx hb dX1_requireWithin_5 rfl (lv_at hl 0 rfl) ?_
    refine lv_iload_n hx hb dX1_requireWithin_6 rfl (lv_at hl 2 rfl) ?_
    refine lv_icmp_le (tgt := 20) hx hb dX1_requireWithin_7 (by decide) (fun c1 => ?_) (fun c1 => ?_)
    · skip
      exact W.vret hx hb hr (fun t ht hW => ⟨rfl, trivial, ht⟩) (fun q hq => absurd hq List.not_mem_nil) dX1_requireWithin_20
    · skip
      exact absurd hin.2 c1
set_option maxHeartbeats 4000000 in
set_option maxRecDepth 100000 in
theorem mX1_requireOwner (l : Launch) (hst : l.stackTraces = false) (Hp : Heap) (x : Int32) : vx_Met l yX1_requireOwner wsX1_requireOwner ({ frames := 6, cells := 1, slots := 6, locals := 82 } : Room) (va_Pc [.int x] (XH Hp)) (va_Qv (fun _ : Unit => inR x 0 4) (fun _ t => t.heap = Hp) (fun q => Hp.size ≤ q)) (XE (fun E => E = "java/lang/IllegalArgumentException" ∧ ¬ inR x 0 4) Hp.size) 1 6 (fun q => Hp.size ≤ q) := by
  refine vx_ofW (cc := cX1_requireOwner) (maxL := 1) (ret := none) (by decide +kernel) rfl ?_
  intro p e s m args below meth c s₁ B hml htab hv
  obtain ⟨rfl, hsz, hE⟩ := hv
  have hx := B.exec
  have hb := B.bytes
  have hr := B.returns
  have hts := atoms_spec (ws := wsX1_requireOwner) B.pre
  have hown : s.vm.findClass RX1 = some m.cls := findClass_of_methodNamed B.named
  have hlocks := B.notSynchronized
  subst hsz
  have hA : ∀ q : Nat, s.heap.size ≤ q → (fun q => s.heap.size ≤ q) q := fun q h => h
  have hS : va_S (fun q => s.heap.size ≤ q) s.heap s.heap [] := va_S.rf
  have hl := lv_entry ([.int x]) (n := 1) (Nat.le_of_ble_eq_true rfl)
  rw [lg_entry_eq]
  generalize (lg_sl ([.int x]) ++ List.replicate (1 - (lg_sl ([.int x])).length) Slot.unset).toArray = ls at hl ⊢
  have hl : lv_has ls 1 [(0, .int x)] := hl
  refine lv_iload_n hx hb dX1_requireOwner_0 rfl (lv_at hl 0 rfl) ?_
  refine lv_if_lt (tgt := 9) hx hb dX1_requireOwner_1 (by decide) (fun c => ?_) (fun c => ?_)
  · skip
    obtain ⟨sa, hstr⟩ := hE.2.2.2 (151, "owner is out of range") (by decide)
    have hat0 : ∀ w ∈ (vx_atS RX1 150 "java/lang/IllegalArgumentException" ["java/lang/RuntimeException", "java/lang/Exception"]).filter goodWord, w ∈ wsX1_requireOwner := by decide +kernel
    exact vx_throwS (text := "owner is out of range") (names := ["java/lang/RuntimeException", "java/lang/Exception"]) hx hb hst hown (by decide +kernel) (by decide +kernel) (hts (.classLink RX1 146 "java/lang/IllegalArgumentException") (by decide +kernel)) (hts (.initialized "java/lang/IllegalArgumentException") (by decide +kernel)) hstr (vx_hat (B := exW) (fun w h => hts w (hat0 w h)) (by decide +kernel) hE.words) (by decide +kernel) hE.1 hE.2.1 hS (hl.1.trans hml.symm) dX1_requireOwner_9 dX1_requireOwner_12 dX1_requireOwner_13 dX1_requireOwner_15 dX1_requireOwner_18 (fun x h => (htab x h).elim) (Nat.le_of_ble_eq_true rfl) (Nat.le_of_ble_eq_true rfl) (Nat.le_of_ble_eq_true rfl) (Nat.le_of_ble_eq_true rfl) hlocks (fun t ht hz hk => ⟨(), trivial, ⟨rfl, fun q => absurd q.1 (Int32.not_le.mpr c)⟩, hz, fun q h1 _ => hk q h1⟩) hS.2.2 (Nat.le_refl _) (Nat.le_refl _)
  · skip
    refine lv_iload_n hx hb dX1_requireOwner_4 rfl (lv_at hl 0 rfl) ?_
    refine lv_iconst (v := nI 5) hx hb dX1_requireOwner_5 (by decide) ?_
    refine lv_icmp_lt (tgt := 19) hx hb dX1_requireOwner_6 (by decide) (fun c1 => ?_) (fun c1 => ?_)
    · skip
      refine W.widen (k := 1) (n := 6) (Nat.zero_le _) (Nat.zero_le _) (vx_ret ?_)
      exact W.vret hx hb hr (fun t ht hW => ⟨⟨(), rfl, ⟨Int32.not_lt.mp c, (lt_of_le1 (a := 4) (by decide)).mp c1⟩, ht⟩, hS.F ht⟩) hS.2.2 dX1_requireOwner_19
    · skip
      obtain ⟨sa, hstr⟩ := hE.2.2.2 (151, "owner is out of range") (by decide)
      have hat0 : ∀ w ∈ (vx_atS RX1 150 "java/lang/IllegalArgumentException" ["java/lang/RuntimeException", "java/lang/Exception"]).filter goodWord, w ∈ wsX1_requireOwner := by decide +kernel
      exact vx_throwS (text := "owner is out of range") (names := ["java/lang/RuntimeException", "java/lang/Exception"]) hx hb hst hown (by decide +kernel) (by decide +kernel) (hts (.classLink RX1 146 "java/lang/IllegalArgumentException") (by decide +kernel)) (hts (.initialized "java/lang/IllegalArgumentException") (by decide +kernel)) hstr (vx_hat (B := exW) (fun w h => hts w (hat0 w h)) (by decide +kernel) hE.words) (by decide +kernel) hE.1 hE.2.1 hS (hl.1.trans hml.symm) dX1_requireOwner_9 dX1_requireOwner_12 dX1_requireOwner_13 dX1_requireOwner_15 dX1_requireOwner_18 (fun x h => (htab x h).elim) (Nat.le_of_ble_eq_true rfl) (Nat.le_of_ble_eq_true rfl) (Nat.le_of_ble_eq_true rfl) (Nat.le_of_ble_eq_true rfl) hlocks (fun t ht hz hk => ⟨(), trivial, ⟨rfl, fun q => c1 ((lt_of_le1 (a := 4) (by decide)).mpr q.2)⟩, hz, fun q h1 _ => hk q h1⟩) hS.2.2 (Nat.le_refl _) (Nat.le_refl _)
set_option maxHeartbeats 4000000 in
set_option maxRecDepth 100000 in
theorem mX1_requireWithin (l : Launch) (hst : l.stackTraces = false) (Hp : Heap) (x lo up : Int32) : vx_Met l yX1_requireWithin wsX1_requireWithin ({ frames := 6, cells := 1, slots := 6, locals := 82 } : Room) (va_Pc [.int x, .int lo, .int up] (XH Hp)) (va_Qv (fun _ : Unit => inR x lo up) (fun _ t => t.heap = Hp) (fun q => Hp.size ≤ q)) (XE (fun E => E = "java/lang/IllegalArgumentException" ∧ ¬ inR x lo up) Hp.size) 1 6 (fun q => Hp.size ≤ q) := by
  refine vx_ofW (cc := cX1_requireWithin) (maxL := 3) (ret := none) (by decide +kernel) rfl ?_
  intro p e s m args below meth c s₁ B hml htab hv
  obtain ⟨rfl, hsz, hE⟩ := hv
  have hx := B.exec
  have hb := B.bytes
  have hr := B.returns
  have hts := atoms_spec (ws := wsX1_requireWithin) B.pre
  have hown : s.vm.findClass RX1 = some m.cls := findClass_of_methodNamed B.named
  have hlocks := B.notSynchronized
  subst hsz
  have hA : ∀ q : Nat, s.heap.size ≤ q → (fun q => s.heap.size ≤ q) q := fun q h => h
  have hS : va_S (fun q => s.heap.size ≤ q) s.heap s.heap [] := va_S.rf
  have hl := lv_entry ([.int x, .int lo, .int up]) (n := 3) (Nat.le_of_ble_eq_true rfl)
  rw [lg_entry_eq]
  generalize (lg_sl ([.int x, .int lo, .int up]) ++ List.replicate (3 - (lg_sl ([.int x, .int lo, .int up])).length) Slot.unset).toArray = ls at hl ⊢
  have hl : lv_has ls 3 [(0, .int x), (1, .int lo), (2, .int up)] := hl
  refine lv_iload_n hx hb dX1_requireWithin_0 rfl (lv_at hl 0 rfl) ?_
  refine lv_iload_n hx hb dX1_requireWithin_1 rfl (lv_at hl 1 rfl) ?_
  refine lv_icmp_lt (tgt := 10) hx hb dX1_requireWithin_2 (by decide) (fun c => ?_) (fun c => ?_)
  · skip
    obtain ⟨sa, hstr⟩ := hE.2.2.2 (148, "a number is out of range") (by decide)
    have hat0 : ∀ w ∈ (vx_atS RX1 150 "java/lang/IllegalArgumentException" ["java/lang/RuntimeException", "java/lang/Exception"]).filter goodWord, w ∈ wsX1_requireWithin := by decide +kernel
    exact vx_throwS (text := "a number is out of range") (names := ["java/lang/RuntimeException", "java/lang/Exception"]) hx hb hst hown (by decide +kernel) (by decide +kernel) (hts (.classLink RX1 146 "java/lang/IllegalArgumentException") (by decide +kernel)) (hts (.initialized "java/lang/IllegalArgumentException") (by decide +kernel)) hstr (vx_hat (B := exW) (fun w h => hts w (hat0 w h)) (by decide +kernel) hE.words) (by decide +kernel) hE.1 hE.2.1 hS (hl.1.trans hml.symm) dX1_requireWithin_10 dX1_requireWithin_13 dX1_requireWithin_14 dX1_requireWithin_16 dX1_requireWithin_19 (fun x h => (htab x h).elim) (Nat.le_of_ble_eq_true rfl) (Nat.le_of_ble_eq_true rfl) (Nat.le_of_ble_eq_true rfl) (Nat.le_of_ble_eq_true rfl) hlocks (fun t ht hz hk => ⟨(), trivial, ⟨rfl, fun q => absurd q.1 (Int32.not_le.mpr c)⟩, hz, fun q h1 _ => hk q h1⟩) hS.2.2 (Nat.le_refl _) (Nat.le_refl _)
  · skip
    refine lv_iload_n hx hb dX1_requireWithin_5 rfl (lv_at hl 0 rfl) ?_
    refine lv_iload_n hx hb dX1_requireWithin_6 rfl (lv_at hl 2 rfl) ?_
    refine lv_icmp_le (tgt := 20) hx hb dX1_requireWithin_7 (by decide) (fun c1 => ?_) (fun c1 => ?_)
    · skip
      refine W.widen (k := 1) (n := 6) (Nat.zero_le _) (Nat.zero_le _) (vx_ret ?_)
      exact W.vret hx hb hr (fun t ht hW => ⟨⟨(), rfl, ⟨Int32.not_lt.mp c, c1⟩, ht⟩, hS.F ht⟩) hS.2.2 dX1_requireWithin_20
    · skip
      obtain ⟨sa, hstr⟩ := hE.2.2.2 (148, "a number is out of range") (by decide)
      have hat0 : ∀ w ∈ (vx_atS RX1 150 "java/lang/IllegalArgumentException" ["java/lang/RuntimeException", "java/lang/Exception"]).filter goodWord, w ∈ wsX1_requireWithin := by decide +kernel
      exact vx_throwS (text := "a number is out of range") (names := ["java/lang/RuntimeException", "java/lang/Exception"]) hx hb hst hown (by decide +kernel) (by decide +kernel) (hts (.classLink RX1 146 "java/lang/IllegalArgumentException") (by decide +kernel)) (hts (.initialized "java/lang/IllegalArgumentException") (by decide +kernel)) hstr (vx_hat (B := exW) (fun w h => hts w (hat0 w h)) (by decide +kernel) hE.words) (by decide +kernel) hE.1 hE.2.1 hS (hl.1.trans hml.symm) dX1_requireWithin_10 dX1_requireWithin_13 dX1_requireWithin_14 dX1_requireWithin_16 dX1_requireWithin_19 (fun x h => (htab x h).elim) (Nat.le_of_ble_eq_true rfl) (Nat.le_of_ble_eq_true rfl) (Nat.le_of_ble_eq_true rfl) (Nat.le_of_ble_eq_true rfl) hlocks (fun t ht hz hk => ⟨(), trivial, ⟨rfl, fun q => c1 q.2⟩, hz, fun q h1 _ => hk q h1⟩) hS.2.2 (Nat.le_refl _) (Nat.le_refl _)
end
section
/-! GridCommons: the face, but for close and replace: each by two contracts, V: the arguments are good; X: they are not -/
abbrev isQ (n : Nat) (q : Int32) : Prop := 0 ≤ q ∧ q < nI n
theorem isQ_nI {n : Nat} {q : Int32} (hn : n < 2 ^ 31) (h : isQ n q) : ∃ j, j < n ∧ q = nI j := by
  obtain ⟨j, hj, rfl⟩ := nI_of (fun z => absurd h.1 (Int32.not_le.mpr z))
  exact ⟨j, (nI_ltI hj hn).mp h.2, rfl⟩
set_option maxHeartbeats 4000000 in
set_option maxRecDepth 100000 in
theorem mX1_requireQuarterV (l : Launch) (D : va_G) (cI cZ cD : ClassId) (a : Nat → Nat) (sz : Nat) (sh sw ts : Nat → Int32) (bi : Nat → UInt64) (it tu : Nat → Int32) (ne : Nat → UInt64) (pr so lo : UInt64) (wt : Int32) (lp lz lu : Nat → UInt64) (lk : Nat → Int32) (ld lf lb lw : Nat → UInt64) (n : Nat) (q : Int32) (hq : isQ n q) : Met l yX1_requireQuarter wsX1_requireQuarter ({ frames := 0, cells := 0, slots := 0, locals := 0 } : Room) (va_Pc [.ref (a 0), .int q] (XP D cI cZ cD (XW a cI cZ cD sh sw ts bi it tu ne pr so lo wt (nI n) lp lz lu lk ld lf lb lw) sz)) (va_Sv (fun _ => True)) 0 0 (fun _ => False) := by
  refine Met.ofW (cc := cX1_requireQuarter) (maxL := 2) (ret := none) (by decide +kernel) rfl ?_
  intro p e s m args below meth c s₁ B hml hv
  obtain ⟨rfl, hsz, hP, hK, hD0⟩ := hv
  have hx := B.exec
  have hb := B.bytes
  have hr := B.returns
  have hts := atoms_spec (ws := wsX1_requireQuarter) B.pre
  have hown : s.vm.findClass RX1 = some m.cls := findClass_of_methodNamed B.named
  have hlocks := B.notSynchronized
  subst hsz
  have hD := hD0.self (sz := s.heap.size)
  generalize hAe : va_A (XW a cI cZ cD sh sw ts bi it tu ne pr so lo wt (nI n) lp lz lu lk ld lf lb lw) s.heap.size = A at hD ⊢
  have hA : ∀ q : Nat, s.heap.size ≤ q → A q := fun q h => by rw [← hAe]; exact Or.inr h
  have hS : va_S A s.heap s.heap [] := va_S.rf
  have hl := lv_entry ([.ref (a 0), .int q]) (n := 2) (Nat.le_of_ble_eq_true rfl)
  rw [lg_entry_eq]
  generalize (lg_sl ([.ref (a 0), .int q]) ++ List.replicate (2 - (lg_sl ([.ref (a 0), .int q])).length) Slot.unset).toArray = ls at hl ⊢
  have hl : lv_has ls 2 [(0, .ref (a 0)), (1, .int q)] := hl
  have inX1 : ∀ w ∈ wsX10, w ∈ wsX1_requireQuarter := by decide +kernel
  have inX0 : ∀ w ∈ wsX00, w ∈ wsX1_requireQuarter := by decide +kernel
  refine lv_iload_n hx hb dX1_requireQuarter_0 rfl (lv_at hl 1 rfl) ?_
  refine lv_if_lt (tgt := 15) hx hb dX1_requireQuarter_1 (by decide) (fun c => ?_) (fun c => ?_)
  · skip
    exact absurd hq.1 (Int32.not_le.mpr c)
  · skip
    refine lv_iload_n hx hb dX1_requireQuarter_4 rfl (lv_at hl 1 rfl) ?_
    refine lv_aload_n hx hb dX1_requireQuarter_5 rfl (lv_at hl 0 rfl) ?_
    refine va_get (D := D) (ci := 1) (v := .ref (a 8)) (C := RX1) (T := TX1) (N := 12) hx hb hts inX1 hown hK hP 0 rfl rfl 6 (by decide) (hts (.fieldLink RX1 33 "GridCommons" "ledger" "LGridCommons$Ledger;") (by decide +kernel)) (fun _ h9 => h9) rfl dX1_requireQuarter_6 ?_
    refine va_get (D := D) (ci := 0) (v := .int (nI n)) (C := RX0) (T := TX0) (N := 9) hx hb hts inX0 hown hK hP 8 rfl rfl 0 (by decide) (hts (.fieldLink RX1 77 "GridCommons$Ledger" "count" "I") (by decide +kernel)) (fun _ h9 => h9) rfl dX1_requireQuarter_9 ?_
    refine lv_icmp_lt (tgt := 25) hx hb dX1_requireQuarter_12 (by decide) (fun c1 => ?_) (fun c1 => ?_)
    · skip
      exact W.vret hx hb hr (fun t ht hW => ⟨rfl, trivial, ht⟩) (fun q hq => absurd hq List.not_mem_nil) dX1_requireQuarter_25
    · skip
      exact absurd hq.2 c1
set_option maxHeartbeats 4000000 in
set_option maxRecDepth 100000 in
theorem mX1_requireQuarterX (l : Launch) (hst : l.stackTraces = false) (D : va_G) (cI cZ cD : ClassId) (a : Nat → Nat) (Hp : Heap) (sh sw ts : Nat → Int32) (bi : Nat → UInt64) (it tu : Nat → Int32) (ne : Nat → UInt64) (pr so lo : UInt64) (wt : Int32) (lp lz lu : Nat → UInt64) (lk : Nat → Int32) (ld lf lb lw : Nat → UInt64) (n : Nat) (q : Int32) (hq : ¬ isQ n q) : vx_Met l yX1_requireQuarter wsX1_requireQuarter ({ frames := 6, cells := 1, slots := 6, locals := 82 } : Room) (va_Pc [.ref (a 0), .int q] (XQ D cI cZ cD (XW a cI cZ cD sh sw ts bi it tu ne pr so lo wt (nI n) lp lz lu lk ld lf lb lw) Hp)) (va_Qv (fun (_ : Unit) => False) (fun _ _ => True) (fun q => Hp.size ≤ q)) (XE (fun E => E = "java/lang/IndexOutOfBoundsException") Hp.size) 1 6 (fun q => Hp.size ≤ q) := by
  refine vx_ofW (cc := cX1_requireQuarter) (maxL := 2) (ret := none) (by decide +kernel) rfl ?_
  intro p e s m args below meth c s₁ B hml htab hv
  obtain ⟨rfl, hsz, ⟨hP, hK, hD⟩, hE⟩ := hv
  have hx := B.exec
  have hb := B.bytes
  have hr := B.returns
  have hts := atoms_spec (ws := wsX1_requireQuarter) B.pre
  have hown : s.vm.findClass RX1 = some m.cls := findClass_of_methodNamed B.named
  have hlocks := B.notSynchronized
  subst hsz
  have hA : ∀ q : Nat, s.heap.size ≤ q → (fun q => s.heap.size ≤ q) q := fun q h => h
  have hS : va_S (fun q => s.heap.size ≤ q) s.heap s.heap [] := va_S.rf
  have hl := lv_entry ([.ref (a 0), .int q]) (n := 2) (Nat.le_of_ble_eq_true rfl)
  rw [lg_entry_eq]
  generalize (lg_sl ([.ref (a 0), .int q]) ++ List.replicate (2 - (lg_sl ([.ref (a 0), .int q])).length) Slot.unset).toArray = ls at hl ⊢
  have hl : lv_has ls 2 [(0, .ref (a 0)), (1, .int q)] := hl
  have inX1 : ∀ w ∈ wsX10, w ∈ wsX1_requireQuarter := by decide +kernel
  have inX0 : ∀ w ∈ wsX00, w ∈ wsX1_requireQuarter := by decide +kernel
  refine lv_iload_n hx hb dX1_requireQuarter_0 rfl (lv_at hl 1 rfl) ?_
  refine lv_if_lt (tgt := 15) hx hb dX1_requireQuarter_1 (by decide) (fun c => ?_) (fun c => ?_)
  · skip
    obtain ⟨sa, hstr⟩ := hE.2.2.2 (155, "there is no such quarter") (by decide)
    have hat0 : ∀ w ∈ (vx_atS RX1 157 "java/lang/IndexOutOfBoundsException" ["java/lang/RuntimeException", "java/lang/Exception"]).filter goodWord, w ∈ wsX1_requireQuarter := by decide +kernel
    exact vx_throwS (text := "there is no such quarter") (names := ["java/lang/RuntimeException", "java/lang/Exception"]) hx hb hst hown (by decide +kernel) (by decide +kernel) (hts (.classLink RX1 153 "java/lang/IndexOutOfBoundsException") (by decide +kernel)) (hts (.initialized "java/lang/IndexOutOfBoundsException") (by decide +kernel)) hstr (vx_hat (B := exW) (fun w h => hts w (hat0 w h)) (by decide +kernel) hE.words) (by decide +kernel) hE.1 hE.2.1 hS (hl.1.trans hml.symm) dX1_requireQuarter_15 dX1_requireQuarter_18 dX1_requireQuarter_19 dX1_requireQuarter_21 dX1_requireQuarter_24 (fun x h => (htab x h).elim) (Nat.le_of_ble_eq_true rfl) (Nat.le_of_ble_eq_true rfl) (Nat.le_of_ble_eq_true rfl) (Nat.le_of_ble_eq_true rfl) hlocks (fun t ht hz hk => ⟨(), trivial, rfl, hz, fun q h1 _ => hk q h1⟩) hS.2.2 (Nat.le_refl _) (Nat.le_refl _)
  · skip
    refine lv_iload_n hx hb dX1_requireQuarter_4 rfl (lv_at hl 1 rfl) ?_
    refine lv_aload_n hx hb dX1_requireQuarter_5 rfl (lv_at hl 0 rfl) ?_
    refine va_get (D := D) (ci := 1) (v := .ref (a 8)) (C := RX1) (T := TX1) (N := 12) hx hb hts inX1 hown hK hP 0 rfl rfl 6 (by decide) (hts (.fieldLink RX1 33 "GridCommons" "ledger" "LGridCommons$Ledger;") (by decide +kernel)) (fun _ h9 => h9) rfl dX1_requireQuarter_6 ?_
    refine va_get (D := D) (ci := 0) (v := .int (nI n)) (C := RX0) (T := TX0) (N := 9) hx hb hts inX0 hown hK hP 8 rfl rfl 0 (by decide) (hts (.fieldLink RX1 77 "GridCommons$Ledger" "count" "I") (by decide +kernel)) (fun _ h9 => h9) rfl dX1_requireQuarter_9 ?_
    refine lv_icmp_lt (tgt := 25) hx hb dX1_requireQuarter_12 (by decide) (fun c1 => ?_) (fun c1 => ?_)
    · skip
      exact absurd ⟨Int32.not_lt.mp c, c1⟩ hq
    · skip
      obtain ⟨sa, hstr⟩ := hE.2.2.2 (155, "there is no such quarter") (by decide)
      have hat0 : ∀ w ∈ (vx_atS RX1 157 "java/lang/IndexOutOfBoundsException" ["java/lang/RuntimeException", "java/lang/Exception"]).filter goodWord, w ∈ wsX1_requireQuarter := by decide +kernel
      exact vx_throwS (text := "there is no such quarter") (names := ["java/lang/RuntimeException", "java/lang/Exception"]) hx hb hst hown (by decide +kernel) (by decide +kernel) (hts (.classLink RX1 153 "java/lang/IndexOutOfBoundsException") (by decide +kernel)) (hts (.initialized "java/lang/IndexOutOfBoundsException") (by decide +kernel)) hstr (vx_hat (B := exW) (fun w h => hts w (hat0 w h)) (by decide +kernel) hE.words) (by decide +kernel) hE.1 hE.2.1 hS (hl.1.trans hml.symm) dX1_requireQuarter_15 dX1_requireQuarter_18 dX1_requireQuarter_19 dX1_requireQuarter_21 dX1_requireQuarter_24 (fun x h => (htab x h).elim) (Nat.le_of_ble_eq_true rfl) (Nat.le_of_ble_eq_true rfl) (Nat.le_of_ble_eq_true rfl) (Nat.le_of_ble_eq_true rfl) hlocks (fun t ht hz hk => ⟨(), trivial, rfl, hz, fun q h1 _ => hk q h1⟩) hS.2.2 (Nat.le_refl _) (Nat.le_refl _)
set_option maxHeartbeats 4000000 in
set_option maxRecDepth 100000 in
theorem mX1_closedSlotV (l : Launch) (D : va_G) (cI cZ cD : ClassId) (a : Nat → Nat) (sz : Nat) (sh sw ts : Nat → Int32) (bi : Nat → UInt64) (it tu : Nat → Int32) (ne : Nat → UInt64) (pr so lo : UInt64) (wt : Int32) (lp lz lu : Nat → UInt64) (lk : Nat → Int32) (ld lf lb lw : Nat → UInt64) (n o q : Nat) (hn : n ≤ 60) (ho : o < 5) (hq : q < n) : Met l yX1_closedSlot wsX1_closedSlot ({ frames := 1, cells := 0, slots := 0, locals := 21 } : Room) (va_Pc [.ref (a 0), .int (nI o), .int (nI q)] (XP D cI cZ cD (XW a cI cZ cD sh sw ts bi it tu ne pr so lo wt (nI n) lp lz lu lk ld lf lb lw) sz)) (vp_Si (fun r => r = nI (5 * q + o))) 0 0 (fun _ => False) := by
  refine Met.ofW (cc := cX1_closedSlot) (maxL := 3) (ret := (some .int)) (by decide +kernel) rfl ?_
  intro p e s m args below meth c s₁ B hml hv
  obtain ⟨rfl, hsz, hP, hK, hD0⟩ := hv
  have hx := B.exec
  have hb := B.bytes
  have hr := B.returns
  have hts := atoms_spec (ws := wsX1_closedSlot) B.pre
  have hown : s.vm.findClass RX1 = some m.cls := findClass_of_methodNamed B.named
  have hlocks := B.notSynchronized
  subst hsz
  have hD := hD0.self (sz := s.heap.size)
  generalize hAe : va_A (XW a cI cZ cD sh sw ts bi it tu ne pr so lo wt (nI n) lp lz lu lk ld lf lb lw) s.heap.size = A at hD ⊢
  have hA : ∀ q : Nat, s.heap.size ≤ q → A q := fun q h => by rw [← hAe]; exact Or.inr h
  have hS : va_S A s.heap s.heap [] := va_S.rf
  have hl := lv_entry ([.ref (a 0), .int (nI o), .int (nI q)]) (n := 3) (Nat.le_of_ble_eq_true rfl)
  rw [lg_entry_eq]
  generalize (lg_sl ([.ref (a 0), .int (nI o), .int (nI q)]) ++ List.replicate (3 - (lg_sl ([.ref (a 0), .int (nI o), .int (nI q)])).length) Slot.unset).toArray = ls at hl ⊢
  have hl : lv_has ls 3 [(0, .ref (a 0)), (1, .int (nI o)), (2, .int (nI q))] := hl
  refine lv_iload_n hx hb dX1_closedSlot_0 rfl (lv_at hl 1 rfl) ?_
  refine va_csv (va_Run.run (va_runS (As := [.int (nI o)]) (rest := []) ⟨hx, hb, hml, hown, hts⟩ (mX1_requireOwnerV l (nI o) (nI_inR (n := 4) (by omega) (by decide))) (va_cwS 1 hts gX1_closedSlot_X1_requireOwner rfl rfl rfl (by decide +kernel) ⟨Nat.le_of_ble_eq_true rfl, Nat.le_of_ble_eq_true rfl⟩) ⟨fun a U g mk q => q, fun U hU hW => ⟨rfl, trivial⟩⟩ rfl rfl hl.1 rfl (lv_room (Nat.le_of_ble_eq_true rfl)) dX1_closedSlot_1 ⟨Nat.le_of_ble_eq_true rfl, Nat.le_of_ble_eq_true rfl⟩)) (fun _ => ?_)
  refine lv_aload_n hx hb dX1_closedSlot_4 rfl (lv_at hl 0 rfl) ?_
  refine lv_iload_n hx hb dX1_closedSlot_5 rfl (lv_at hl 2 rfl) ?_
  refine va_csv (va_Run.run (va_runV (As := [.int (nI q)]) (rest := []) ⟨hx, hb, hml, hown, hts⟩ (mX1_requireQuarterV l D cI cZ cD a _ sh sw ts bi it tu ne pr so lo wt lp lz lu lk ld lf lb lw n (nI q) ⟨nI_pos' (by omega), nI_lt hq (by omega)⟩) (cwV 1 hts gX1_closedSlot_X1_requireQuarter rfl rfl rfl (by decide +kernel) ⟨Nat.le_of_ble_eq_true rfl, Nat.le_of_ble_eq_true rfl⟩) ⟨xk_blind, va_recv hK hP (ci := 1) (q0 := 0) rfl rfl, xk_pre hP hK hD⟩ rfl rfl hl.1 rfl (lv_room (Nat.le_of_ble_eq_true rfl)) dX1_closedSlot_6 ⟨Nat.le_of_ble_eq_true rfl, Nat.le_of_ble_eq_true rfl⟩)) (fun _ => ?_)
  refine lv_iload_n hx hb dX1_closedSlot_9 rfl (lv_at hl 1 rfl) ?_
  refine lv_iload_n hx hb dX1_closedSlot_10 rfl (lv_at hl 2 rfl) ?_
  refine vp_callSi (va_Run.run (va_runS (As := [.int (nI o), .int (nI q)]) (rest := []) ⟨hx, hb, hml, hown, hts⟩ (mX0_slot l o q) (va_cwS 2 hts gX1_closedSlot_X0_slot rfl rfl rfl (by decide +kernel) ⟨Nat.le_of_ble_eq_true rfl, Nat.le_of_ble_eq_true rfl⟩) ⟨fun a U g mk q => q, fun U hU hW => ⟨rfl, trivial⟩⟩ rfl rfl hl.1 rfl (lv_room (Nat.le_of_ble_eq_true rfl)) dX1_closedSlot_11 ⟨Nat.le_of_ble_eq_true rfl, Nat.le_of_ble_eq_true rfl⟩)) (fun r hr1 => ?_)
  exact W.iret hx hb hr (fun t ht hW => ⟨_, rfl, hr1, ht⟩) (fun q hq => absurd hq List.not_mem_nil) dX1_closedSlot_14
set_option maxHeartbeats 4000000 in
set_option maxRecDepth 100000 in
theorem mX1_closedSlotX (l : Launch) (hst : l.stackTraces = false) (D : va_G) (cI cZ cD : ClassId) (a : Nat → Nat) (Hp : Heap) (sh sw ts : Nat → Int32) (bi : Nat → UInt64) (it tu : Nat → Int32) (ne : Nat → UInt64) (pr so lo : UInt64) (wt : Int32) (lp lz lu : Nat → UInt64) (lk : Nat → Int32) (ld lf lb lw : Nat → UInt64) (n : Nat) (x q : Int32) (hbad : ¬ (inR x 0 4 ∧ isQ n q)) : vx_Met l yX1_closedSlot wsX1_closedSlot ({ frames := 7, cells := 1, slots := 6, locals := 103 } : Room) (va_Pc [.ref (a 0), .int x, .int q] (XQ D cI cZ cD (XW a cI cZ cD sh sw ts bi it tu ne pr so lo wt (nI n) lp lz lu lk ld lf lb lw) Hp)) (va_Qi (fun _ (_ : Unit) => False) (fun _ _ => True) (fun q => Hp.size ≤ q)) (XE (fun E => (E = "java/lang/IllegalArgumentException" ∧ ¬ inR x 0 4) ∨ (E = "java/lang/IndexOutOfBoundsException" ∧ inR x 0 4 ∧ ¬ isQ n q)) Hp.size) 1 6 (fun q => Hp.size ≤ q) := by
  refine vx_ofW (cc := cX1_closedSlot) (maxL := 3) (ret := (some .int)) (by decide +kernel) rfl ?_
  intro p e s m args below meth c s₁ B hml htab hv
  obtain ⟨rfl, hsz, ⟨hP, hK, hD⟩, hE⟩ := hv
  have hx := B.exec
  have hb := B.bytes
  have hr := B.returns
  have hts := atoms_spec (ws := wsX1_closedSlot) B.pre
  have hown : s.vm.findClass RX1 = some m.cls := findClass_of_methodNamed B.named
  have hlocks := B.notSynchronized
  subst hsz
  have hA : ∀ q : Nat, s.heap.size ≤ q → (fun q => s.heap.size ≤ q) q := fun q h => h
  have hS : va_S (fun q => s.heap.size ≤ q) s.heap s.heap [] := va_S.rf
  have hl := lv_entry ([.ref (a 0), .int x, .int q]) (n := 3) (Nat.le_of_ble_eq_true rfl)
  rw [lg_entry_eq]
  generalize (lg_sl ([.ref (a 0), .int x, .int q]) ++ List.replicate (3 - (lg_sl ([.ref (a 0), .int x, .int q])).length) Slot.unset).toArray = ls at hl ⊢
  have hl : lv_has ls 3 [(0, .ref (a 0)), (1, .int x), (2, .int q)] := hl
  refine lv_iload_n hx hb dX1_closedSlot_0 rfl (lv_at hl 1 rfl) ?_
  by_cases hin : inR x 0 4
  · skip
    refine va_csv (va_Run.run (va_runS (As := [.int x]) (rest := []) ⟨hx, hb, hml, hown, hts⟩ (mX1_requireOwnerV l x hin) (va_cwS 1 hts gX1_closedSlot_X1_requireOwner rfl rfl rfl (by decide +kernel) ⟨Nat.le_of_ble_eq_true rfl, Nat.le_of_ble_eq_true rfl⟩) ⟨fun a U g mk q => q, fun U hU hW => ⟨rfl, trivial⟩⟩ rfl rfl hl.1 rfl (lv_room (Nat.le_of_ble_eq_true rfl)) dX1_closedSlot_1 ⟨Nat.le_of_ble_eq_true rfl, Nat.le_of_ble_eq_true rfl⟩)) (fun _ => ?_)
    refine lv_aload_n hx hb dX1_closedSlot_4 rfl (lv_at hl 0 rfl) ?_
    refine lv_iload_n hx hb dX1_closedSlot_5 rfl (lv_at hl 2 rfl) ?_
    exact vx_callv (vx_runV (As := [.int q]) (rest := []) ⟨hx, hb, hml, hown, hts⟩ (mX1_requireQuarterX l hst D cI cZ cD a s.heap sh sw ts bi it tu ne pr so lo wt lp lz lu lk ld lf lb lw n q (fun z => hbad ⟨hin, z⟩)) (cwV 1 hts gX1_closedSlot_X1_requireQuarter rfl rfl rfl (by decide +kernel) ⟨Nat.le_of_ble_eq_true rfl, Nat.le_of_ble_eq_true rfl⟩) ⟨xq_blind, va_recv hK hP (ci := 1) (q0 := 0) rfl rfl, xq_pre hP hK hD hE hS hA⟩ rfl rfl hl.1 rfl (lv_room (Nat.le_of_ble_eq_true rfl)) dX1_closedSlot_6 ⟨Nat.le_of_ble_eq_true rfl, Nat.le_of_ble_eq_true rfl⟩) hS (fun q h1 h2 => absurd h2 (Nat.not_le.mpr h1)) (fun q h => hA q (Nat.le_trans hS.1 h)) (fun q h1 h2 => absurd h2 (Nat.not_le.mpr h1)) (fun E ce q9 u9 t9 H9 locs9 ht9 hvm9 hpx9 hB9 hz9 hk9 hS9 hce9 hcv9 hcl9 => vx_out (fun x h => (htab x h).elim) hlocks hce9 hcv9 hcl9 (fun t8 ht8 hvm8 => ⟨(), trivial, Or.inr ⟨hB9, hin, fun z => hbad ⟨hin, z⟩⟩, by rw [ht8]; exact hz9, fun q h1 h2 => by rw [ht8]; exact hk9 q h1 h2⟩) hS9.2.2 (Nat.le_refl _) (Nat.le_refl _)) (fun u t H1 locs1 ht hvm hw hB hz1 hk1 hS1 => hw.elim)
  · skip
    exact vx_callv (vx_runS (As := [.int x]) (rest := []) ⟨hx, hb, hml, hown, hts⟩ (mX1_requireOwner l hst s.heap x) (va_cwS 1 hts gX1_closedSlot_X1_requireOwner rfl rfl rfl (by decide +kernel) ⟨Nat.le_of_ble_eq_true rfl, Nat.le_of_ble_eq_true rfl⟩) ⟨xh_blind, xh_pre hE hS hA⟩ rfl rfl hl.1 rfl (lv_room (Nat.le_of_ble_eq_true rfl)) dX1_closedSlot_1 ⟨Nat.le_of_ble_eq_true rfl, Nat.le_of_ble_eq_true rfl⟩) hS (fun q h1 h2 => absurd h2 (Nat.not_le.mpr h1)) (fun q h => hA q (Nat.le_trans hS.1 h)) (fun q h1 h2 => absurd h2 (Nat.not_le.mpr h1)) (fun E ce q9 u9 t9 H9 locs9 ht9 hvm9 hpx9 hB9 hz9 hk9 hS9 hce9 hcv9 hcl9 => vx_out (fun x h => (htab x h).elim) hlocks hce9 hcv9 hcl9 (fun t8 ht8 hvm8 => ⟨(), trivial, Or.inl ⟨hB9.1, hB9.2⟩, by rw [ht8]; exact hz9, fun q h1 h2 => by rw [ht8]; exact hk9 q h1 h2⟩) hS9.2.2 (Nat.le_refl _) (Nat.le_refl _)) (fun u t H1 locs1 ht hvm hw hB hz1 hk1 hS1 => absurd hw hin)
set_option maxHeartbeats 4000000 in
set_option maxRecDepth 100000 in
theorem mX1_useV (l : Launch) (D : va_G) (cI cZ cD : ClassId) (a : Nat → Nat) (sz : Nat) (sh sw ts : Nat → Int32) (bi : Nat → UInt64) (it tu : Nat → Int32) (ne : Nat → UInt64) (pr so lo : UInt64) (wt : Int32) (lp lz lu : Nat → UInt64) (lk : Nat → Int32) (ld lf lb lw : Nat → UInt64) (n o q : Nat) (hn : n ≤ 60) (ho : o < 5) (hq : q < n) : Met l yX1_use wsX1_use ({ frames := 2, cells := 0, slots := 0, locals := 43 } : Room) (va_Pc [.ref (a 0), .int (nI o), .int (nI q)] (XP D cI cZ cD (XW a cI cZ cD sh sw ts bi it tu ne pr so lo wt (nI n) lp lz lu lk ld lf lb lw) sz)) (vp_Sd (fun r => r = lu (5 * q + o))) 0 0 (fun _ => False) := by
  refine Met.ofW (cc := cX1_use) (maxL := 3) (ret := (some .double)) (by decide +kernel) rfl ?_
  intro p e s m args below meth c s₁ B hml hv
  obtain ⟨rfl, hsz, hP, hK, hD0⟩ := hv
  have hx := B.exec
  have hb := B.bytes
  have hr := B.returns
  have hts := atoms_spec (ws := wsX1_use) B.pre
  have hown : s.vm.findClass RX1 = some m.cls := findClass_of_methodNamed B.named
  have hlocks := B.notSynchronized
  subst hsz
  have hD := hD0.self (sz := s.heap.size)
  generalize hAe : va_A (XW a cI cZ cD sh sw ts bi it tu ne pr so lo wt (nI n) lp lz lu lk ld lf lb lw) s.heap.size = A at hD ⊢
  have hA : ∀ q : Nat, s.heap.size ≤ q → A q := fun q h => by rw [← hAe]; exact Or.inr h
  have hS : va_S A s.heap s.heap [] := va_S.rf
  have hl := lv_entry ([.ref (a 0), .int (nI o), .int (nI q)]) (n := 3) (Nat.le_of_ble_eq_true rfl)
  rw [lg_entry_eq]
  generalize (lg_sl ([.ref (a 0), .int (nI o), .int (nI q)]) ++ List.replicate (3 - (lg_sl ([.ref (a 0), .int (nI o), .int (nI q)])).length) Slot.unset).toArray = ls at hl ⊢
  have hl : lv_has ls 3 [(0, .ref (a 0)), (1, .int (nI o)), (2, .int (nI q))] := hl
  have inX1 : ∀ w ∈ wsX10, w ∈ wsX1_use := by decide +kernel
  have inX0 : ∀ w ∈ wsX00, w ∈ wsX1_use := by decide +kernel
  refine lv_aload_n hx hb dX1_use_0 rfl (lv_at hl 0 rfl) ?_
  refine va_get (D := D) (ci := 1) (v := .ref (a 8)) (C := RX1) (T := TX1) (N := 12) hx hb hts inX1 hown hK hP 0 rfl rfl 6 (by decide) (hts (.fieldLink RX1 33 "GridCommons" "ledger" "LGridCommons$Ledger;") (by decide +kernel)) (fun _ h9 => h9) rfl dX1_use_1 ?_
  refine va_get (D := D) (ci := 0) (v := .ref (a 11)) (C := RX0) (T := TX0) (N := 9) hx hb hts inX0 hown hK hP 8 rfl rfl 3 (by decide) (hts (.fieldLink RX1 125 "GridCommons$Ledger" "use" "[D") (by decide +kernel)) (fun _ h9 => h9) rfl dX1_use_4 ?_
  refine lv_aload_n hx hb dX1_use_7 rfl (lv_at hl 0 rfl) ?_
  refine lv_iload_n hx hb dX1_use_8 rfl (lv_at hl 1 rfl) ?_
  refine lv_iload_n hx hb dX1_use_9 rfl (lv_at hl 2 rfl) ?_
  refine vp_callSi (va_Run.run (va_runV (As := [.int (nI o), .int (nI q)]) (rest := [.ref (a 11)]) ⟨hx, hb, hml, hown, hts⟩ (mX1_closedSlotV l D cI cZ cD a _ sh sw ts bi it tu ne pr so lo wt lp lz lu lk ld lf lb lw n o q hn ho hq) (cwV 2 hts gX1_use_X1_closedSlot rfl rfl rfl (by decide +kernel) ⟨Nat.le_of_ble_eq_true rfl, Nat.le_of_ble_eq_true rfl⟩) ⟨xk_blind, va_recv hK hP (ci := 1) (q0 := 0) rfl rfl, xk_pre hP hK hD⟩ rfl rfl hl.1 rfl (lv_room (Nat.le_of_ble_eq_true rfl)) dX1_use_10 ⟨Nat.le_of_ble_eq_true rfl, Nat.le_of_ble_eq_true rfl⟩)) (fun r hr1 => ?_)
  subst hr1
  refine xk_dald hx hb hK hP 11 2 rfl rfl (o := (5 * q + o)) (by omega) (by decide) dX1_use_13 ?_
  exact W.dret hx hb hr (fun t ht hW => ⟨_, rfl, rfl, ht⟩) (fun q hq => absurd hq List.not_mem_nil) dX1_use_14
set_option maxHeartbeats 4000000 in
set_option maxRecDepth 100000 in
theorem mX1_useX (l : Launch) (hst : l.stackTraces = false) (D : va_G) (cI cZ cD : ClassId) (a : Nat → Nat) (Hp : Heap) (sh sw ts : Nat → Int32) (bi : Nat → UInt64) (it tu : Nat → Int32) (ne : Nat → UInt64) (pr so lo : UInt64) (wt : Int32) (lp lz lu : Nat → UInt64) (lk : Nat → Int32) (ld lf lb lw : Nat → UInt64) (n : Nat) (x q : Int32) (hbad : ¬ (inR x 0 4 ∧ isQ n q)) : vx_Met l yX1_use wsX1_use ({ frames := 8, cells := 1, slots := 6, locals := 125 } : Room) (va_Pc [.ref (a 0), .int x, .int q] (XQ D cI cZ cD (XW a cI cZ cD sh sw ts bi it tu ne pr so lo wt (nI n) lp lz lu lk ld lf lb lw) Hp)) (va_Qd (fun _ (_ : Unit) => False) (fun _ _ => True) (fun q => Hp.size ≤ q)) (XE (fun E => (E = "java/lang/IllegalArgumentException" ∧ ¬ inR x 0 4) ∨ (E = "java/lang/IndexOutOfBoundsException" ∧ inR x 0 4 ∧ ¬ isQ n q)) Hp.size) 1 6 (fun q => Hp.size ≤ q) := by
  refine vx_ofW (cc := cX1_use) (maxL := 3) (ret := (some .double)) (by decide +kernel) rfl ?_
  intro p e s m args below meth c s₁ B hml htab hv
  obtain ⟨rfl, hsz, ⟨hP, hK, hD⟩, hE⟩ := hv
  have hx := B.exec
  have hb := B.bytes
  have hr := B.returns
  have hts := atoms_spec (ws := wsX1_use) B.pre
  have hown : s.vm.findClass RX1 = some m.cls := findClass_of_methodNamed B.named
  have hlocks := B.notSynchronized
  subst hsz
  have hA : ∀ q : Nat, s.heap.size ≤ q → (fun q => s.heap.size ≤ q) q := fun q h => h
  have hS : va_S (fun q => s.heap.size ≤ q) s.heap s.heap [] := va_S.rf
  have hl := lv_entry ([.ref (a 0), .int x, .int q]) (n := 3) (Nat.le_of_ble_eq_true rfl)
  rw [lg_entry_eq]
  generalize (lg_sl ([.ref (a 0), .int x, .int q]) ++ List.replicate (3 - (lg_sl ([.ref (a 0), .int x, .int q])).length) Slot.unset).toArray = ls at hl ⊢
  have hl : lv_has ls 3 [(0, .ref (a 0)), (1, .int x), (2, .int q)] := hl
  have inX1 : ∀ w ∈ wsX10, w ∈ wsX1_use := by decide +kernel
  have inX0 : ∀ w ∈ wsX00, w ∈ wsX1_use := by decide +kernel
  refine lv_aload_n hx hb dX1_use_0 rfl (lv_at hl 0 rfl) ?_
  refine va_get (D := D) (ci := 1) (v := .ref (a 8)) (C := RX1) (T := TX1) (N := 12) hx hb hts inX1 hown hK hP 0 rfl rfl 6 (by decide) (hts (.fieldLink RX1 33 "GridCommons" "ledger" "LGridCommons$Ledger;") (by decide +kernel)) (fun _ h9 => h9) rfl dX1_use_1 ?_
  refine va_get (D := D) (ci := 0) (v := .ref (a 11)) (C := RX0) (T := TX0) (N := 9) hx hb hts inX0 hown hK hP 8 rfl rfl 3 (by decide) (hts (.fieldLink RX1 125 "GridCommons$Ledger" "use" "[D") (by decide +kernel)) (fun _ h9 => h9) rfl dX1_use_4 ?_
  refine lv_aload_n hx hb dX1_use_7 rfl (lv_at hl 0 rfl) ?_
  refine lv_iload_n hx hb dX1_use_8 rfl (lv_at hl 1 rfl) ?_
  refine lv_iload_n hx hb dX1_use_9 rfl (lv_at hl 2 rfl) ?_
  exact vx_calli (vx_runV (As := [.int x, .int q]) (rest := [.ref (a 11)]) ⟨hx, hb, hml, hown, hts⟩ (mX1_closedSlotX l hst D cI cZ cD a s.heap sh sw ts bi it tu ne pr so lo wt lp lz lu lk ld lf lb lw n x q hbad) (cwV 2 hts gX1_use_X1_closedSlot rfl rfl rfl (by decide +kernel) ⟨Nat.le_of_ble_eq_true rfl, Nat.le_of_ble_eq_true rfl⟩) ⟨xq_blind, va_recv hK hP (ci := 1) (q0 := 0) rfl rfl, xq_pre hP hK hD hE hS hA⟩ rfl rfl hl.1 rfl (lv_room (Nat.le_of_ble_eq_true rfl)) dX1_use_10 ⟨Nat.le_of_ble_eq_true rfl, Nat.le_of_ble_eq_true rfl⟩) hS (fun q h1 h2 => absurd h2 (Nat.not_le.mpr h1)) (fun q h => hA q (Nat.le_trans hS.1 h)) (fun q h1 h2 => absurd h2 (Nat.not_le.mpr h1)) (fun E ce q9 u9 t9 H9 locs9 ht9 hvm9 hpx9 hB9 hz9 hk9 hS9 hce9 hcv9 hcl9 => vx_out (fun x h => (htab x h).elim) hlocks hce9 hcv9 hcl9 (fun t8 ht8 hvm8 => ⟨(), trivial, hB9, by rw [ht8]; exact hz9, fun q h1 h2 => by rw [ht8]; exact hk9 q h1 h2⟩) hS9.2.2 (Nat.le_refl _) (Nat.le_refl _)) (fun r u t H1 locs1 ht hvm hw hB hz1 hk1 hS1 => hw.elim)
set_option maxHeartbeats 4000000 in
set_option maxRecDepth 100000 in
theorem mX1_fromSunV (l : Launch) (D : va_G) (cI cZ cD : ClassId) (a : Nat → Nat) (sz : Nat) (sh sw ts : Nat → Int32) (bi : Nat → UInt64) (it tu : Nat → Int32) (ne : Nat → UInt64) (pr so lo : UInt64) (wt : Int32) (lp lz lu : Nat → UInt64) (lk : Nat → Int32) (ld lf lb lw : Nat → UInt64) (n o q : Nat) (hn : n ≤ 60) (ho : o < 5) (hq : q < n) : Met l yX1_fromSun wsX1_fromSun ({ frames := 2, cells := 0, slots := 0, locals := 43 } : Room) (va_Pc [.ref (a 0), .int (nI o), .int (nI q)] (XP D cI cZ cD (XW a cI cZ cD sh sw ts bi it tu ne pr so lo wt (nI n) lp lz lu lk ld lf lb lw) sz)) (vp_Sd (fun r => r = lf (5 * q + o))) 0 0 (fun _ => False) := by
  refine Met.ofW (cc := cX1_fromSun) (maxL := 3) (ret := (some .double)) (by decide +kernel) rfl ?_
  intro p e s m args below meth c s₁ B hml hv
  obtain ⟨rfl, hsz, hP, hK, hD0⟩ := hv
  have hx := B.exec
  have hb := B.bytes
  have hr := B.returns
  have hts := atoms_spec (ws := wsX1_fromSun) B.pre
  have hown : s.vm.findClass RX1 = some m.cls := findClass_of_methodNamed B.named
  have hlocks := B.notSynchronized
  subst hsz
  have hD := hD0.self (sz := s.heap.size)
  generalize hAe : va_A (XW a cI cZ cD sh sw ts bi it tu ne pr so lo wt (nI n) lp lz lu lk ld lf lb lw) s.heap.size = A at hD ⊢
  have hA : ∀ q : Nat, s.heap.size ≤ q → A q := fun q h => by rw [← hAe]; exact Or.inr h
  have hS : va_S A s.heap s.heap [] := va_S.rf
  have hl := lv_entry ([.ref (a 0), .int (nI o), .int (nI q)]) (n := 3) (Nat.le_of_ble_eq_true rfl)
  rw [lg_entry_eq]
  generalize (lg_sl ([.ref (a 0), .int (nI o), .int (nI q)]) ++ List.replicate (3 - (lg_sl ([.ref (a 0), .int (nI o), .int (nI q)])).length) Slot.unset).toArray = ls at hl ⊢
  have hl : lv_has ls 3 [(0, .ref (a 0)), (1, .int (nI o)), (2, .int (nI q))] := hl
  have inX1 : ∀ w ∈ wsX10, w ∈ wsX1_fromSun := by decide +kernel
  have inX0 : ∀ w ∈ wsX00, w ∈ wsX1_fromSun := by decide +kernel
  refine lv_aload_n hx hb dX1_fromSun_0 rfl (lv_at hl 0 rfl) ?_
  refine va_get (D := D) (ci := 1) (v := .ref (a 8)) (C := RX1) (T := TX1) (N := 12) hx hb hts inX1 hown hK hP 0 rfl rfl 6 (by decide) (hts (.fieldLink RX1 33 "GridCommons" "ledger" "LGridCommons$Ledger;") (by decide +kernel)) (fun _ h9 => h9) rfl dX1_fromSun_1 ?_
  refine va_get (D := D) (ci := 0) (v := .ref (a 14)) (C := RX0) (T := TX0) (N := 9) hx hb hts inX0 hown hK hP 8 rfl rfl 6 (by decide) (hts (.fieldLink RX1 134 "GridCommons$Ledger" "fromSun" "[D") (by decide +kernel)) (fun _ h9 => h9) rfl dX1_fromSun_4 ?_
  refine lv_aload_n hx hb dX1_fromSun_7 rfl (lv_at hl 0 rfl) ?_
  refine lv_iload_n hx hb dX1_fromSun_8 rfl (lv_at hl 1 rfl) ?_
  refine lv_iload_n hx hb dX1_fromSun_9 rfl (lv_at hl 2 rfl) ?_
  refine vp_callSi (va_Run.run (va_runV (As := [.int (nI o), .int (nI q)]) (rest := [.ref (a 14)]) ⟨hx, hb, hml, hown, hts⟩ (mX1_closedSlotV l D cI cZ cD a _ sh sw ts bi it tu ne pr so lo wt lp lz lu lk ld lf lb lw n o q hn ho hq) (cwV 2 hts gX1_fromSun_X1_closedSlot rfl rfl rfl (by decide +kernel) ⟨Nat.le_of_ble_eq_true rfl, Nat.le_of_ble_eq_true rfl⟩) ⟨xk_blind, va_recv hK hP (ci := 1) (q0 := 0) rfl rfl, xk_pre hP hK hD⟩ rfl rfl hl.1 rfl (lv_room (Nat.le_of_ble_eq_true rfl)) dX1_fromSun_10 ⟨Nat.le_of_ble_eq_true rfl, Nat.le_of_ble_eq_true rfl⟩)) (fun r hr1 => ?_)
  subst hr1
  refine xk_dald hx hb hK hP 14 2 rfl rfl (o := (5 * q + o)) (by omega) (by decide) dX1_fromSun_13 ?_
  exact W.dret hx hb hr (fun t ht hW => ⟨_, rfl, rfl, ht⟩) (fun q hq => absurd hq List.not_mem_nil) dX1_fromSun_14
set_option maxHeartbeats 4000000 in
set_option maxRecDepth 100000 in
theorem mX1_fromSunX (l : Launch) (hst : l.stackTraces = false) (D : va_G) (cI cZ cD : ClassId) (a : Nat → Nat) (Hp : Heap) (sh sw ts : Nat → Int32) (bi : Nat → UInt64) (it tu : Nat → Int32) (ne : Nat → UInt64) (pr so lo : UInt64) (wt : Int32) (lp lz lu : Nat → UInt64) (lk : Nat → Int32) (ld lf lb lw : Nat → UInt64) (n : Nat) (x q : Int32) (hbad : ¬ (inR x 0 4 ∧ isQ n q)) : vx_Met l yX1_fromSun wsX1_fromSun ({ frames := 8, cells := 1, slots := 6, locals := 125 } : Room) (va_Pc [.ref (a 0), .int x, .int q] (XQ D cI cZ cD (XW a cI cZ cD sh sw ts bi it tu ne pr so lo wt (nI n) lp lz lu lk ld lf lb lw) Hp)) (va_Qd (fun _ (_ : Unit) => False) (fun _ _ => True) (fun q => Hp.size ≤ q)) (XE (fun E => (E = "java/lang/IllegalArgumentException" ∧ ¬ inR x 0 4) ∨ (E = "java/lang/IndexOutOfBoundsException" ∧ inR x 0 4 ∧ ¬ isQ n q)) Hp.size) 1 6 (fun q => Hp.size ≤ q) := by
  refine vx_ofW (cc := cX1_fromSun) (maxL := 3) (ret := (some .double)) (by decide +kernel) rfl ?_
  intro p e s m args below meth c s₁ B hml htab hv
  obtain ⟨rfl, hsz, ⟨hP, hK, hD⟩, hE⟩ := hv
  have hx := B.exec
  have hb := B.bytes
  have hr := B.returns
  have hts := atoms_spec (ws := wsX1_fromSun) B.pre
  have hown : s.vm.findClass RX1 = some m.cls := findClass_of_methodNamed B.named
  have hlocks := B.notSynchronized
  subst hsz
  have hA : ∀ q : Nat, s.heap.size ≤ q → (fun q => s.heap.size ≤ q) q := fun q h => h
  have hS : va_S (fun q => s.heap.size ≤ q) s.heap s.heap [] := va_S.rf
  have hl := lv_entry ([.ref (a 0), .int x, .int q]) (n := 3) (Nat.le_of_ble_eq_true rfl)
  rw [lg_entry_eq]
  generalize (lg_sl ([.ref (a 0), .int x, .int q]) ++ List.replicate (3 - (lg_sl ([.ref (a 0), .int x, .int q])).length) Slot.unset).toArray = ls at hl ⊢
  have hl : lv_has ls 3 [(0, .ref (a 0)), (1, .int x), (2, .int q)] := hl
  have inX1 : ∀ w ∈ wsX10, w ∈ wsX1_fromSun := by decide +kernel
  have inX0 : ∀ w ∈ wsX00, w ∈ wsX1_fromSun := by decide +kernel
  refine lv_aload_n hx hb dX1_fromSun_0 rfl (lv_at hl 0 rfl) ?_
  refine va_get (D := D) (ci := 1) (v := .ref (a 8)) (C := RX1) (T := TX1) (N := 12) hx hb hts inX1 hown hK hP 0 rfl rfl 6 (by decide) (hts (.fieldLink RX1 33 "GridCommons" "ledger" "LGridCommons$Ledger;") (by decide +kernel)) (fun _ h9 => h9) rfl dX1_fromSun_1 ?_
  refine va_get (D := D) (ci := 0) (v := .ref (a 14)) (C := RX0) (T := TX0) (N := 9) hx hb hts inX0 hown hK hP 8 rfl rfl 6 (by decide) (hts (.fieldLink RX1 134 "GridCommons$Ledger" "fromSun" "[D") (by decide +kernel)) (fun _ h9 => h9) rfl dX1_fromSun_4 ?_
  refine lv_aload_n hx hb dX1_fromSun_7 rfl (lv_at hl 0 rfl) ?_
  refine lv_iload_n hx hb dX1_fromSun_8 rfl (lv_at hl 1 rfl) ?_
  refine lv_iload_n hx hb dX1_fromSun_9 rfl (lv_at hl 2 rfl) ?_
  exact vx_calli (vx_runV (As := [.int x, .int q]) (rest := [.ref (a 14)]) ⟨hx, hb, hml, hown, hts⟩ (mX1_closedSlotX l hst D cI cZ cD a s.heap sh sw ts bi it tu ne pr so lo wt lp lz lu lk ld lf lb lw n x q hbad) (cwV 2 hts gX1_fromSun_X1_closedSlot rfl rfl rfl (by decide +kernel) ⟨Nat.le_of_ble_eq_true rfl, Nat.le_of_ble_eq_true rfl⟩) ⟨xq_blind, va_recv hK hP (ci := 1) (q0 := 0) rfl rfl, xq_pre hP hK hD hE hS hA⟩ rfl rfl hl.1 rfl (lv_room (Nat.le_of_ble_eq_true rfl)) dX1_fromSun_10 ⟨Nat.le_of_ble_eq_true rfl, Nat.le_of_ble_eq_true rfl⟩) hS (fun q h1 h2 => absurd h2 (Nat.not_le.mpr h1)) (fun q h => hA q (Nat.le_trans hS.1 h)) (fun q h1 h2 => absurd h2 (Nat.not_le.mpr h1)) (fun E ce q9 u9 t9 H9 locs9 ht9 hvm9 hpx9 hB9 hz9 hk9 hS9 hce9 hcv9 hcl9 => vx_out (fun x h => (htab x h).elim) hlocks hce9 hcv9 hcl9 (fun t8 ht8 hvm8 => ⟨(), trivial, hB9, by rw [ht8]; exact hz9, fun q h1 h2 => by rw [ht8]; exact hk9 q h1 h2⟩) hS9.2.2 (Nat.le_refl _) (Nat.le_refl _)) (fun r u t H1 locs1 ht hvm hw hB hz1 hk1 hS1 => hw.elim)
set_option maxHeartbeats 4000000 in
set_option maxRecDepth 100000 in
theorem mX1_fromBatteryV (l : Launch) (D : va_G) (cI cZ cD : ClassId) (a : Nat → Nat) (sz : Nat) (sh sw ts : Nat → Int32) (bi : Nat → UInt64) (it tu : Nat → Int32) (ne : Nat → UInt64) (pr so lo : UInt64) (wt : Int32) (lp lz lu : Nat → UInt64) (lk : Nat → Int32) (ld lf lb lw : Nat → UInt64) (n o q : Nat) (hn : n ≤ 60) (ho : o < 5) (hq : q < n) : Met l yX1_fromBattery wsX1_fromBattery ({ frames := 2, cells := 0, slots := 0, locals := 43 } : Room) (va_Pc [.ref (a 0), .int (nI o), .int (nI q)] (XP D cI cZ cD (XW a cI cZ cD sh sw ts bi it tu ne pr so lo wt (nI n) lp lz lu lk ld lf lb lw) sz)) (vp_Sd (fun r => r = lb (5 * q + o))) 0 0 (fun _ => False) := by
  refine Met.ofW (cc := cX1_fromBattery) (maxL := 3) (ret := (some .double)) (by decide +kernel) rfl ?_
  intro p e s m args below meth c s₁ B hml hv
  obtain ⟨rfl, hsz, hP, hK, hD0⟩ := hv
  have hx := B.exec
  have hb := B.bytes
  have hr := B.returns
  have hts := atoms_spec (ws := wsX1_fromBattery) B.pre
  have hown : s.vm.findClass RX1 = some m.cls := findClass_of_methodNamed B.named
  have hlocks := B.notSynchronized
  subst hsz
  have hD := hD0.self (sz := s.heap.size)
  generalize hAe : va_A (XW a cI cZ cD sh sw ts bi it tu ne pr so lo wt (nI n) lp lz lu lk ld lf lb lw) s.heap.size = A at hD ⊢
  have hA : ∀ q : Nat, s.heap.size ≤ q → A q := fun q h => by rw [← hAe]; exact Or.inr h
  have hS : va_S A s.heap s.heap [] := va_S.rf
  have hl := lv_entry ([.ref (a 0), .int (nI o), .int (nI q)]) (n := 3) (Nat.le_of_ble_eq_true rfl)
  rw [lg_entry_eq]
  generalize (lg_sl ([.ref (a 0), .int (nI o), .int (nI q)]) ++ List.replicate (3 - (lg_sl ([.ref (a 0), .int (nI o), .int (nI q)])).length) Slot.unset).toArray = ls at hl ⊢
  have hl : lv_has ls 3 [(0, .ref (a 0)), (1, .int (nI o)), (2, .int (nI q))] := hl
  have inX1 : ∀ w ∈ wsX10, w ∈ wsX1_fromBattery := by decide +kernel
  have inX0 : ∀ w ∈ wsX00, w ∈ wsX1_fromBattery := by decide +kernel
  refine lv_aload_n hx hb dX1_fromBattery_0 rfl (lv_at hl 0 rfl) ?_
  refine va_get (D := D) (ci := 1) (v := .ref (a 8)) (C := RX1) (T := TX1) (N := 12) hx hb hts inX1 hown hK hP 0 rfl rfl 6 (by decide) (hts (.fieldLink RX1 33 "GridCommons" "ledger" "LGridCommons$Ledger;") (by decide +kernel)) (fun _ h9 => h9) rfl dX1_fromBattery_1 ?_
  refine va_get (D := D) (ci := 0) (v := .ref (a 15)) (C := RX0) (T := TX0) (N := 9) hx hb hts inX0 hown hK hP 8 rfl rfl 7 (by decide) (hts (.fieldLink RX1 137 "GridCommons$Ledger" "fromBattery" "[D") (by decide +kernel)) (fun _ h9 => h9) rfl dX1_fromBattery_4 ?_
  refine lv_aload_n hx hb dX1_fromBattery_7 rfl (lv_at hl 0 rfl) ?_
  refine lv_iload_n hx hb dX1_fromBattery_8 rfl (lv_at hl 1 rfl) ?_
  refine lv_iload_n hx hb dX1_fromBattery_9 rfl (lv_at hl 2 rfl) ?_
  refine vp_callSi (va_Run.run (va_runV (As := [.int (nI o), .int (nI q)]) (rest := [.ref (a 15)]) ⟨hx, hb, hml, hown, hts⟩ (mX1_closedSlotV l D cI cZ cD a _ sh sw ts bi it tu ne pr so lo wt lp lz lu lk ld lf lb lw n o q hn ho hq) (cwV 2 hts gX1_fromBattery_X1_closedSlot rfl rfl rfl (by decide +kernel) ⟨Nat.le_of_ble_eq_true rfl, Nat.le_of_ble_eq_true rfl⟩) ⟨xk_blind, va_recv hK hP (ci := 1) (q0 := 0) rfl rfl, xk_pre hP hK hD⟩ rfl rfl hl.1 rfl (lv_room (Nat.le_of_ble_eq_true rfl)) dX1_fromBattery_10 ⟨Nat.le_of_ble_eq_true rfl, Nat.le_of_ble_eq_true rfl⟩)) (fun r hr1 => ?_)
  subst hr1
  refine xk_dald hx hb hK hP 15 2 rfl rfl (o := (5 * q + o)) (by omega) (by decide) dX1_fromBattery_13 ?_
  exact W.dret hx hb hr (fun t ht hW => ⟨_, rfl, rfl, ht⟩) (fun q hq => absurd hq List.not_mem_nil) dX1_fromBattery_14
set_option maxHeartbeats 4000000 in
set_option maxRecDepth 100000 in
theorem mX1_fromBatteryX (l : Launch) (hst : l.stackTraces = false) (D : va_G) (cI cZ cD : ClassId) (a : Nat → Nat) (Hp : Heap) (sh sw ts : Nat → Int32) (bi : Nat → UInt64) (it tu : Nat → Int32) (ne : Nat → UInt64) (pr so lo : UInt64) (wt : Int32) (lp lz lu : Nat → UInt64) (lk : Nat → Int32) (ld lf lb lw : Nat → UInt64) (n : Nat) (x q : Int32) (hbad : ¬ (inR x 0 4 ∧ isQ n q)) : vx_Met l yX1_fromBattery wsX1_fromBattery ({ frames := 8, cells := 1, slots := 6, locals := 125 } : Room) (va_Pc [.ref (a 0), .int x, .int q] (XQ D cI cZ cD (XW a cI cZ cD sh sw ts bi it tu ne pr so lo wt (nI n) lp lz lu lk ld lf lb lw) Hp)) (va_Qd (fun _ (_ : Unit) => False) (fun _ _ => True) (fun q => Hp.size ≤ q)) (XE (fun E => (E = "java/lang/IllegalArgumentException" ∧ ¬ inR x 0 4) ∨ (E = "java/lang/IndexOutOfBoundsException" ∧ inR x 0 4 ∧ ¬ isQ n q)) Hp.size) 1 6 (fun q => Hp.size ≤ q) := by
  refine vx_ofW (cc := cX1_fromBattery) (maxL := 3) (ret := (some .double)) (by decide +kernel) rfl ?_
  intro p e s m args below meth c s₁ B hml htab hv
  obtain ⟨rfl, hsz, ⟨hP, hK, hD⟩, hE⟩ := hv
  have hx := B.exec
  have hb := B.bytes
  have hr := B.returns
  have hts := atoms_spec (ws := wsX1_fromBattery) B.pre
  have hown : s.vm.findClass RX1 = some m.cls := findClass_of_methodNamed B.named
  have hlocks := B.notSynchronized
  subst hsz
  have hA : ∀ q : Nat, s.heap.size ≤ q → (fun q => s.heap.size ≤ q) q := fun q h => h
  have hS : va_S (fun q => s.heap.size ≤ q) s.heap s.heap [] := va_S.rf
  have hl := lv_entry ([.ref (a 0), .int x, .int q]) (n := 3) (Nat.le_of_ble_eq_true rfl)
  rw [lg_entry_eq]
  generalize (lg_sl ([.ref (a 0), .int x, .int q]) ++ List.replicate (3 - (lg_sl ([.ref (a 0), .int x, .int q])).length) Slot.unset).toArray = ls at hl ⊢
  have hl : lv_has ls 3 [(0, .ref (a 0)), (1, .int x), (2, .int q)] := hl
  have inX1 : ∀ w ∈ wsX10, w ∈ wsX1_fromBattery := by decide +kernel
  have inX0 : ∀ w ∈ wsX00, w ∈ wsX1_fromBattery := by decide +kernel
  refine lv_aload_n hx hb dX1_fromBattery_0 rfl (lv_at hl 0 rfl) ?_
  refine va_get (D := D) (ci := 1) (v := .ref (a 8)) (C := RX1) (T := TX1) (N := 12) hx hb hts inX1 hown hK hP 0 rfl rfl 6 (by decide) (hts (.fieldLink RX1 33 "GridCommons" "ledger" "LGridCommons$Ledger;") (by decide +kernel)) (fun _ h9 => h9) rfl dX1_fromBattery_1 ?_
  refine va_get (D := D) (ci := 0) (v := .ref (a 15)) (C := RX0) (T := TX0) (N := 9) hx hb hts inX0 hown hK hP 8 rfl rfl 7 (by decide) (hts (.fieldLink RX1 137 "GridCommons$Ledger" "fromBattery" "[D") (by decide +kernel)) (fun _ h9 => h9) rfl dX1_fromBattery_4 ?_
  refine lv_aload_n hx hb dX1_fromBattery_7 rfl (lv_at hl 0 rfl) ?_
  refine lv_iload_n hx hb dX1_fromBattery_8 rfl (lv_at hl 1 rfl) ?_
  refine lv_iload_n hx hb dX1_fromBattery_9 rfl (lv_at hl 2 rfl) ?_
  exact vx_calli (vx_runV (As := [.int x, .int q]) (rest := [.ref (a 15)]) ⟨hx, hb, hml, hown, hts⟩ (mX1_closedSlotX l hst D cI cZ cD a s.heap sh sw ts bi it tu ne pr so lo wt lp lz lu lk ld lf lb lw n x q hbad) (cwV 2 hts gX1_fromBattery_X1_closedSlot rfl rfl rfl (by decide +kernel) ⟨Nat.le_of_ble_eq_true rfl, Nat.le_of_ble_eq_true rfl⟩) ⟨xq_blind, va_recv hK hP (ci := 1) (q0 := 0) rfl rfl, xq_pre hP hK hD hE hS hA⟩ rfl rfl hl.1 rfl (lv_room (Nat.le_of_ble_eq_true rfl)) dX1_fromBattery_10 ⟨Nat.le_of_ble_eq_true rfl, Nat.le_of_ble_eq_true rfl⟩) hS (fun q h1 h2 => absurd h2 (Nat.not_le.mpr h1)) (fun q h => hA q (Nat.le_trans hS.1 h)) (fun q h1 h2 => absurd h2 (Nat.not_le.mpr h1)) (fun E ce q9 u9 t9 H9 locs9 ht9 hvm9 hpx9 hB9 hz9 hk9 hS9 hce9 hcv9 hcl9 => vx_out (fun x h => (htab x h).elim) hlocks hce9 hcv9 hcl9 (fun t8 ht8 hvm8 => ⟨(), trivial, hB9, by rw [ht8]; exact hz9, fun q h1 h2 => by rw [ht8]; exact hk9 q h1 h2⟩) hS9.2.2 (Nat.le_refl _) (Nat.le_refl _)) (fun r u t H1 locs1 ht hvm hw hB hz1 hk1 hS1 => hw.elim)
set_option maxHeartbeats 4000000 in
set_option maxRecDepth 100000 in
theorem mX1_boughtV (l : Launch) (D : va_G) (cI cZ cD : ClassId) (a : Nat → Nat) (sz : Nat) (sh sw ts : Nat → Int32) (bi : Nat → UInt64) (it tu : Nat → Int32) (ne : Nat → UInt64) (pr so lo : UInt64) (wt : Int32) (lp lz lu : Nat → UInt64) (lk : Nat → Int32) (ld lf lb lw : Nat → UInt64) (n o q : Nat) (hn : n ≤ 60) (ho : o < 5) (hq : q < n) : Met l yX1_bought wsX1_bought ({ frames := 2, cells := 0, slots := 0, locals := 43 } : Room) (va_Pc [.ref (a 0), .int (nI o), .int (nI q)] (XP D cI cZ cD (XW a cI cZ cD sh sw ts bi it tu ne pr so lo wt (nI n) lp lz lu lk ld lf lb lw) sz)) (vp_Sd (fun r => r = lw (5 * q + o))) 0 0 (fun _ => False) := by
  refine Met.ofW (cc := cX1_bought) (maxL := 3) (ret := (some .double)) (by decide +kernel) rfl ?_
  intro p e s m args below meth c s₁ B hml hv
  obtain ⟨rfl, hsz, hP, hK, hD0⟩ := hv
  have hx := B.exec
  have hb := B.bytes
  have hr := B.returns
  have hts := atoms_spec (ws := wsX1_bought) B.pre
  have hown : s.vm.findClass RX1 = some m.cls := findClass_of_methodNamed B.named
  have hlocks := B.notSynchronized
  subst hsz
  have hD := hD0.self (sz := s.heap.size)
  generalize hAe : va_A (XW a cI cZ cD sh sw ts bi it tu ne pr so lo wt (nI n) lp lz lu lk ld lf lb lw) s.heap.size = A at hD ⊢
  have hA : ∀ q : Nat, s.heap.size ≤ q → A q := fun q h => by rw [← hAe]; exact Or.inr h
  have hS : va_S A s.heap s.heap [] := va_S.rf
  have hl := lv_entry ([.ref (a 0), .int (nI o), .int (nI q)]) (n := 3) (Nat.le_of_ble_eq_true rfl)
  rw [lg_entry_eq]
  generalize (lg_sl ([.ref (a 0), .int (nI o), .int (nI q)]) ++ List.replicate (3 - (lg_sl ([.ref (a 0), .int (nI o), .int (nI q)])).length) Slot.unset).toArray = ls at hl ⊢
  have hl : lv_has ls 3 [(0, .ref (a 0)), (1, .int (nI o)), (2, .int (nI q))] := hl
  have inX1 : ∀ w ∈ wsX10, w ∈ wsX1_bought := by decide +kernel
  have inX0 : ∀ w ∈ wsX00, w ∈ wsX1_bought := by decide +kernel
  refine lv_aload_n hx hb dX1_bought_0 rfl (lv_at hl 0 rfl) ?_
  refine va_get (D := D) (ci := 1) (v := .ref (a 8)) (C := RX1) (T := TX1) (N := 12) hx hb hts inX1 hown hK hP 0 rfl rfl 6 (by decide) (hts (.fieldLink RX1 33 "GridCommons" "ledger" "LGridCommons$Ledger;") (by decide +kernel)) (fun _ h9 => h9) rfl dX1_bought_1 ?_
  refine va_get (D := D) (ci := 0) (v := .ref (a 16)) (C := RX0) (T := TX0) (N := 9) hx hb hts inX0 hown hK hP 8 rfl rfl 8 (by decide) (hts (.fieldLink RX1 140 "GridCommons$Ledger" "bought" "[D") (by decide +kernel)) (fun _ h9 => h9) rfl dX1_bought_4 ?_
  refine lv_aload_n hx hb dX1_bought_7 rfl (lv_at hl 0 rfl) ?_
  refine lv_iload_n hx hb dX1_bought_8 rfl (lv_at hl 1 rfl) ?_
  refine lv_iload_n hx hb dX1_bought_9 rfl (lv_at hl 2 rfl) ?_
  refine vp_callSi (va_Run.run (va_runV (As := [.int (nI o), .int (nI q)]) (rest := [.ref (a 16)]) ⟨hx, hb, hml, hown, hts⟩ (mX1_closedSlotV l D cI cZ cD a _ sh sw ts bi it tu ne pr so lo wt lp lz lu lk ld lf lb lw n o q hn ho hq) (cwV 2 hts gX1_bought_X1_closedSlot rfl rfl rfl (by decide +kernel) ⟨Nat.le_of_ble_eq_true rfl, Nat.le_of_ble_eq_true rfl⟩) ⟨xk_blind, va_recv hK hP (ci := 1) (q0 := 0) rfl rfl, xk_pre hP hK hD⟩ rfl rfl hl.1 rfl (lv_room (Nat.le_of_ble_eq_true rfl)) dX1_bought_10 ⟨Nat.le_of_ble_eq_true rfl, Nat.le_of_ble_eq_true rfl⟩)) (fun r hr1 => ?_)
  subst hr1
  refine xk_dald hx hb hK hP 16 2 rfl rfl (o := (5 * q + o)) (by omega) (by decide) dX1_bought_13 ?_
  exact W.dret hx hb hr (fun t ht hW => ⟨_, rfl, rfl, ht⟩) (fun q hq => absurd hq List.not_mem_nil) dX1_bought_14
set_option maxHeartbeats 4000000 in
set_option maxRecDepth 100000 in
theorem mX1_boughtX (l : Launch) (hst : l.stackTraces = false) (D : va_G) (cI cZ cD : ClassId) (a : Nat → Nat) (Hp : Heap) (sh sw ts : Nat → Int32) (bi : Nat → UInt64) (it tu : Nat → Int32) (ne : Nat → UInt64) (pr so lo : UInt64) (wt : Int32) (lp lz lu : Nat → UInt64) (lk : Nat → Int32) (ld lf lb lw : Nat → UInt64) (n : Nat) (x q : Int32) (hbad : ¬ (inR x 0 4 ∧ isQ n q)) : vx_Met l yX1_bought wsX1_bought ({ frames := 8, cells := 1, slots := 6, locals := 125 } : Room) (va_Pc [.ref (a 0), .int x, .int q] (XQ D cI cZ cD (XW a cI cZ cD sh sw ts bi it tu ne pr so lo wt (nI n) lp lz lu lk ld lf lb lw) Hp)) (va_Qd (fun _ (_ : Unit) => False) (fun _ _ => True) (fun q => Hp.size ≤ q)) (XE (fun E => (E = "java/lang/IllegalArgumentException" ∧ ¬ inR x 0 4) ∨ (E = "java/lang/IndexOutOfBoundsException" ∧ inR x 0 4 ∧ ¬ isQ n q)) Hp.size) 1 6 (fun q => Hp.size ≤ q) := by
  refine vx_ofW (cc := cX1_bought) (maxL := 3) (ret := (some .double)) (by decide +kernel) rfl ?_
  intro p e s m args below meth c s₁ B hml htab hv
  obtain ⟨rfl, hsz, ⟨hP, hK, hD⟩, hE⟩ := hv
  have hx := B.exec
  have hb := B.bytes
  have hr := B.returns
  have hts := atoms_spec (ws := wsX1_bought) B.pre
  have hown : s.vm.findClass RX1 = some m.cls := findClass_of_methodNamed B.named
  have hlocks := B.notSynchronized
  subst hsz
  have hA : ∀ q : Nat, s.heap.size ≤ q → (fun q => s.heap.size ≤ q) q := fun q h => h
  have hS : va_S (fun q => s.heap.size ≤ q) s.heap s.heap [] := va_S.rf
  have hl := lv_entry ([.ref (a 0), .int x, .int q]) (n := 3) (Nat.le_of_ble_eq_true rfl)
  rw [lg_entry_eq]
  generalize (lg_sl ([.ref (a 0), .int x, .int q]) ++ List.replicate (3 - (lg_sl ([.ref (a 0), .int x, .int q])).length) Slot.unset).toArray = ls at hl ⊢
  have hl : lv_has ls 3 [(0, .ref (a 0)), (1, .int x), (2, .int q)] := hl
  have inX1 : ∀ w ∈ wsX10, w ∈ wsX1_bought := by decide +kernel
  have inX0 : ∀ w ∈ wsX00, w ∈ wsX1_bought := by decide +kernel
  refine lv_aload_n hx hb dX1_bought_0 rfl (lv_at hl 0 rfl) ?_
  refine va_get (D := D) (ci := 1) (v := .ref (a 8)) (C := RX1) (T := TX1) (N := 12) hx hb hts inX1 hown hK hP 0 rfl rfl 6 (by decide) (hts (.fieldLink RX1 33 "GridCommons" "ledger" "LGridCommons$Ledger;") (by decide +kernel)) (fun _ h9 => h9) rfl dX1_bought_1 ?_
  refine va_get (D := D) (ci := 0) (v := .ref (a 16)) (C := RX0) (T := TX0) (N := 9) hx hb hts inX0 hown hK hP 8 rfl rfl 8 (by decide) (hts (.fieldLink RX1 140 "GridCommons$Ledger" "bought" "[D") (by decide +kernel)) (fun _ h9 => h9) rfl dX1_bought_4 ?_
  refine lv_aload_n hx hb dX1_bought_7 rfl (lv_at hl 0 rfl) ?_
  refine lv_iload_n hx hb dX1_bought_8 rfl (lv_at hl 1 rfl) ?_
  refine lv_iload_n hx hb dX1_bought_9 rfl (lv_at hl 2 rfl) ?_
  exact vx_calli (vx_runV (As := [.int x, .int q]) (rest := [.ref (a 16)]) ⟨hx, hb, hml, hown, hts⟩ (mX1_closedSlotX l hst D cI cZ cD a s.heap sh sw ts bi it tu ne pr so lo wt lp lz lu lk ld lf lb lw n x q hbad) (cwV 2 hts gX1_bought_X1_closedSlot rfl rfl rfl (by decide +kernel) ⟨Nat.le_of_ble_eq_true rfl, Nat.le_of_ble_eq_true rfl⟩) ⟨xq_blind, va_recv hK hP (ci := 1) (q0 := 0) rfl rfl, xq_pre hP hK hD hE hS hA⟩ rfl rfl hl.1 rfl (lv_room (Nat.le_of_ble_eq_true rfl)) dX1_bought_10 ⟨Nat.le_of_ble_eq_true rfl, Nat.le_of_ble_eq_true rfl⟩) hS (fun q h1 h2 => absurd h2 (Nat.not_le.mpr h1)) (fun q h => hA q (Nat.le_trans hS.1 h)) (fun q h1 h2 => absurd h2 (Nat.not_le.mpr h1)) (fun E ce q9 u9 t9 H9 locs9 ht9 hvm9 hpx9 hB9 hz9 hk9 hS9 hce9 hcv9 hcl9 => vx_out (fun x h => (htab x h).elim) hlocks hce9 hcv9 hcl9 (fun t8 ht8 hvm8 => ⟨(), trivial, hB9, by rw [ht8]; exact hz9, fun q h1 h2 => by rw [ht8]; exact hk9 q h1 h2⟩) hS9.2.2 (Nat.le_refl _) (Nat.le_refl _)) (fun r u t H1 locs1 ht hvm hw hB hz1 hk1 hS1 => hw.elim)
set_option maxHeartbeats 4000000 in
set_option maxRecDepth 100000 in
theorem mX1_soldV (l : Launch) (D : va_G) (cI cZ cD : ClassId) (a : Nat → Nat) (sz : Nat) (sh sw ts : Nat → Int32) (bi : Nat → UInt64) (it tu : Nat → Int32) (ne : Nat → UInt64) (pr so lo : UInt64) (wt : Int32) (lp lz lu : Nat → UInt64) (lk : Nat → Int32) (ld lf lb lw : Nat → UInt64) (n q : Nat) (hn : n ≤ 60) (hq : q < n) : Met l yX1_sold wsX1_sold ({ frames := 1, cells := 0, slots := 0, locals := 21 } : Room) (va_Pc [.ref (a 0), .int (nI q)] (XP D cI cZ cD (XW a cI cZ cD sh sw ts bi it tu ne pr so lo wt (nI n) lp lz lu lk ld lf lb lw) sz)) (vp_Sd (fun r => r = lz q)) 0 0 (fun _ => False) := by
  refine Met.ofW (cc := cX1_sold) (maxL := 2) (ret := (some .double)) (by decide +kernel) rfl ?_
  intro p e s m args below meth c s₁ B hml hv
  obtain ⟨rfl, hsz, hP, hK, hD0⟩ := hv
  have hx := B.exec
  have hb := B.bytes
  have hr := B.returns
  have hts := atoms_spec (ws := wsX1_sold) B.pre
  have hown : s.vm.findClass RX1 = some m.cls := findClass_of_methodNamed B.named
  have hlocks := B.notSynchronized
  subst hsz
  have hD := hD0.self (sz := s.heap.size)
  generalize hAe : va_A (XW a cI cZ cD sh sw ts bi it tu ne pr so lo wt (nI n) lp lz lu lk ld lf lb lw) s.heap.size = A at hD ⊢
  have hA : ∀ q : Nat, s.heap.size ≤ q → A q := fun q h => by rw [← hAe]; exact Or.inr h
  have hS : va_S A s.heap s.heap [] := va_S.rf
  have hl := lv_entry ([.ref (a 0), .int (nI q)]) (n := 2) (Nat.le_of_ble_eq_true rfl)
  rw [lg_entry_eq]
  generalize (lg_sl ([.ref (a 0), .int (nI q)]) ++ List.replicate (2 - (lg_sl ([.ref (a 0), .int (nI q)])).length) Slot.unset).toArray = ls at hl ⊢
  have hl : lv_has ls 2 [(0, .ref (a 0)), (1, .int (nI q))] := hl
  have inX1 : ∀ w ∈ wsX10, w ∈ wsX1_sold := by decide +kernel
  have inX0 : ∀ w ∈ wsX00, w ∈ wsX1_sold := by decide +kernel
  refine lv_aload_n hx hb dX1_sold_0 rfl (lv_at hl 0 rfl) ?_
  refine lv_iload_n hx hb dX1_sold_1 rfl (lv_at hl 1 rfl) ?_
  refine va_csv (va_Run.run (va_runV (As := [.int (nI q)]) (rest := []) ⟨hx, hb, hml, hown, hts⟩ (mX1_requireQuarterV l D cI cZ cD a _ sh sw ts bi it tu ne pr so lo wt lp lz lu lk ld lf lb lw n (nI q) ⟨nI_pos' (by omega), nI_lt hq (by omega)⟩) (cwV 1 hts gX1_sold_X1_requireQuarter rfl rfl rfl (by decide +kernel) ⟨Nat.le_of_ble_eq_true rfl, Nat.le_of_ble_eq_true rfl⟩) ⟨xk_blind, va_recv hK hP (ci := 1) (q0 := 0) rfl rfl, xk_pre hP hK hD⟩ rfl rfl hl.1 rfl (lv_room (Nat.le_of_ble_eq_true rfl)) dX1_sold_2 ⟨Nat.le_of_ble_eq_true rfl, Nat.le_of_ble_eq_true rfl⟩)) (fun _ => ?_)
  refine lv_aload_n hx hb dX1_sold_5 rfl (lv_at hl 0 rfl) ?_
  refine va_get (D := D) (ci := 1) (v := .ref (a 8)) (C := RX1) (T := TX1) (N := 12) hx hb hts inX1 hown hK hP 0 rfl rfl 6 (by decide) (hts (.fieldLink RX1 33 "GridCommons" "ledger" "LGridCommons$Ledger;") (by decide +kernel)) (fun _ h9 => h9) rfl dX1_sold_6 ?_
  refine va_get (D := D) (ci := 0) (v := .ref (a 10)) (C := RX0) (T := TX0) (N := 9) hx hb hts inX0 hown hK hP 8 rfl rfl 2 (by decide) (hts (.fieldLink RX1 143 "GridCommons$Ledger" "sold" "[D") (by decide +kernel)) (fun _ h9 => h9) rfl dX1_sold_9 ?_
  refine lv_iload_n hx hb dX1_sold_12 rfl (lv_at hl 1 rfl) ?_
  refine xk_dald hx hb hK hP 10 2 rfl rfl (o := q) (by omega) (by decide) dX1_sold_13 ?_
  exact W.dret hx hb hr (fun t ht hW => ⟨_, rfl, rfl, ht⟩) (fun q hq => absurd hq List.not_mem_nil) dX1_sold_14
set_option maxHeartbeats 4000000 in
set_option maxRecDepth 100000 in
theorem mX1_soldX (l : Launch) (hst : l.stackTraces = false) (D : va_G) (cI cZ cD : ClassId) (a : Nat → Nat) (Hp : Heap) (sh sw ts : Nat → Int32) (bi : Nat → UInt64) (it tu : Nat → Int32) (ne : Nat → UInt64) (pr so lo : UInt64) (wt : Int32) (lp lz lu : Nat → UInt64) (lk : Nat → Int32) (ld lf lb lw : Nat → UInt64) (n : Nat) (q : Int32) (hbad : ¬ isQ n q) : vx_Met l yX1_sold wsX1_sold ({ frames := 7, cells := 1, slots := 6, locals := 103 } : Room) (va_Pc [.ref (a 0), .int q] (XQ D cI cZ cD (XW a cI cZ cD sh sw ts bi it tu ne pr so lo wt (nI n) lp lz lu lk ld lf lb lw) Hp)) (va_Qd (fun _ (_ : Unit) => False) (fun _ _ => True) (fun q => Hp.size ≤ q)) (XE (fun E => E = "java/lang/IndexOutOfBoundsException") Hp.size) 1 6 (fun q => Hp.size ≤ q) := by
  refine vx_ofW (cc := cX1_sold) (maxL := 2) (ret := (some .double)) (by decide +kernel) rfl ?_
  intro p e s m args below meth c s₁ B hml htab hv
  obtain ⟨rfl, hsz, ⟨hP, hK, hD⟩, hE⟩ := hv
  have hx := B.exec
  have hb := B.bytes
  have hr := B.returns
  have hts := atoms_spec (ws := wsX1_sold) B.pre
  have hown : s.vm.findClass RX1 = some m.cls := findClass_of_methodNamed B.named
  have hlocks := B.notSynchronized
  subst hsz
  have hA : ∀ q : Nat, s.heap.size ≤ q → (fun q => s.heap.size ≤ q) q := fun q h => h
  have hS : va_S (fun q => s.heap.size ≤ q) s.heap s.heap [] := va_S.rf
  have hl := lv_entry ([.ref (a 0), .int q]) (n := 2) (Nat.le_of_ble_eq_true rfl)
  rw [lg_entry_eq]
  generalize (lg_sl ([.ref (a 0), .int q]) ++ List.replicate (2 - (lg_sl ([.ref (a 0), .int q])).length) Slot.unset).toArray = ls at hl ⊢
  have hl : lv_has ls 2 [(0, .ref (a 0)), (1, .int q)] := hl
  refine lv_aload_n hx hb dX1_sold_0 rfl (lv_at hl 0 rfl) ?_
  refine lv_iload_n hx hb dX1_sold_1 rfl (lv_at hl 1 rfl) ?_
  exact vx_callv (vx_runV (As := [.int q]) (rest := []) ⟨hx, hb, hml, hown, hts⟩ (mX1_requireQuarterX l hst D cI cZ cD a s.heap sh sw ts bi it tu ne pr so lo wt lp lz lu lk ld lf lb lw n q hbad) (cwV 1 hts gX1_sold_X1_requireQuarter rfl rfl rfl (by decide +kernel) ⟨Nat.le_of_ble_eq_true rfl, Nat.le_of_ble_eq_true rfl⟩) ⟨xq_blind, va_recv hK hP (ci := 1) (q0 := 0) rfl rfl, xq_pre hP hK hD hE hS hA⟩ rfl rfl hl.1 rfl (lv_room (Nat.le_of_ble_eq_true rfl)) dX1_sold_2 ⟨Nat.le_of_ble_eq_true rfl, Nat.le_of_ble_eq_true rfl⟩) hS (fun q h1 h2 => absurd h2 (Nat.not_le.mpr h1)) (fun q h => hA q (Nat.le_trans hS.1 h)) (fun q h1 h2 => absurd h2 (Nat.not_le.mpr h1)) (fun E ce q9 u9 t9 H9 locs9 ht9 hvm9 hpx9 hB9 hz9 hk9 hS9 hce9 hcv9 hcl9 => vx_out (fun x h => (htab x h).elim) hlocks hce9 hcv9 hcl9 (fun t8 ht8 hvm8 => ⟨(), trivial, hB9, by rw [ht8]; exact hz9, fun q h1 h2 => by rw [ht8]; exact hk9 q h1 h2⟩) hS9.2.2 (Nat.le_refl _) (Nat.le_refl _)) (fun u t H1 locs1 ht hvm hw hB hz1 hk1 hS1 => hw.elim)
set_option maxHeartbeats 4000000 in
set_option maxRecDepth 100000 in
theorem mX1_shedsV (l : Launch) (D : va_G) (cI cZ cD : ClassId) (a : Nat → Nat) (sz : Nat) (sh sw ts : Nat → Int32) (bi : Nat → UInt64) (it tu : Nat → Int32) (ne : Nat → UInt64) (pr so lo : UInt64) (wt cn : Int32) (lp lz lu : Nat → UInt64) (lk : Nat → Int32) (ld lf lb lw : Nat → UInt64) (o : Nat) (ho : o < 5) : Met l yX1_sheds wsX1_sheds ({ frames := 1, cells := 0, slots := 0, locals := 20 } : Room) (va_Pc [.ref (a 0), .int (nI o)] (XP D cI cZ cD (XW a cI cZ cD sh sw ts bi it tu ne pr so lo wt cn lp lz lu lk ld lf lb lw) sz)) (vp_Si (fun r => r = ts o)) 0 0 (fun _ => False) := by
  refine Met.ofW (cc := cX1_sheds) (maxL := 2) (ret := (some .int)) (by decide +kernel) rfl ?_
  intro p e s m args below meth c s₁ B hml hv
  obtain ⟨rfl, hsz, hP, hK, hD0⟩ := hv
  have hx := B.exec
  have hb := B.bytes
  have hr := B.returns
  have hts := atoms_spec (ws := wsX1_sheds) B.pre
  have hown : s.vm.findClass RX1 = some m.cls := findClass_of_methodNamed B.named
  have hlocks := B.notSynchronized
  subst hsz
  have hD := hD0.self (sz := s.heap.size)
  generalize hAe : va_A (XW a cI cZ cD sh sw ts bi it tu ne pr so lo wt cn lp lz lu lk ld lf lb lw) s.heap.size = A at hD ⊢
  have hA : ∀ q : Nat, s.heap.size ≤ q → A q := fun q h => by rw [← hAe]; exact Or.inr h
  have hS : va_S A s.heap s.heap [] := va_S.rf
  have hl := lv_entry ([.ref (a 0), .int (nI o)]) (n := 2) (Nat.le_of_ble_eq_true rfl)
  rw [lg_entry_eq]
  generalize (lg_sl ([.ref (a 0), .int (nI o)]) ++ List.replicate (2 - (lg_sl ([.ref (a 0), .int (nI o)])).length) Slot.unset).toArray = ls at hl ⊢
  have hl : lv_has ls 2 [(0, .ref (a 0)), (1, .int (nI o))] := hl
  have inX1 : ∀ w ∈ wsX10, w ∈ wsX1_sheds := by decide +kernel
  refine lv_iload_n hx hb dX1_sheds_0 rfl (lv_at hl 1 rfl) ?_
  refine va_csv (va_Run.run (va_runS (As := [.int (nI o)]) (rest := []) ⟨hx, hb, hml, hown, hts⟩ (mX1_requireOwnerV l (nI o) (nI_inR (n := 4) (by omega) (by decide))) (va_cwS 1 hts gX1_sheds_X1_requireOwner rfl rfl rfl (by decide +kernel) ⟨Nat.le_of_ble_eq_true rfl, Nat.le_of_ble_eq_true rfl⟩) ⟨fun a U g mk q => q, fun U hU hW => ⟨rfl, trivial⟩⟩ rfl rfl hl.1 rfl (lv_room (Nat.le_of_ble_eq_true rfl)) dX1_sheds_1 ⟨Nat.le_of_ble_eq_true rfl, Nat.le_of_ble_eq_true rfl⟩)) (fun _ => ?_)
  refine lv_aload_n hx hb dX1_sheds_4 rfl (lv_at hl 0 rfl) ?_
  refine va_get (D := D) (ci := 1) (v := .ref (a 3)) (C := RX1) (T := TX1) (N := 12) hx hb hts inX1 hown hK hP 0 rfl rfl 2 (by decide) (hts (.fieldLink RX1 17 "GridCommons" "timesShed" "[I") (by decide +kernel)) (fun _ h9 => h9) rfl dX1_sheds_5 ?_
  refine lv_iload_n hx hb dX1_sheds_8 rfl (lv_at hl 1 rfl) ?_
  refine xk_iald hx hb hK hP 3 0 rfl rfl (o := o) (by omega) (by decide) dX1_sheds_9 ?_
  exact W.iret hx hb hr (fun t ht hW => ⟨_, rfl, rfl, ht⟩) (fun q hq => absurd hq List.not_mem_nil) dX1_sheds_10
set_option maxHeartbeats 4000000 in
set_option maxRecDepth 100000 in
theorem mX1_shedsX (l : Launch) (hst : l.stackTraces = false) (D : va_G) (cI cZ cD : ClassId) (a : Nat → Nat) (Hp : Heap) (sh sw ts : Nat → Int32) (bi : Nat → UInt64) (it tu : Nat → Int32) (ne : Nat → UInt64) (pr so lo : UInt64) (wt cn : Int32) (lp lz lu : Nat → UInt64) (lk : Nat → Int32) (ld lf lb lw : Nat → UInt64) (x : Int32) (hbad : ¬ inR x 0 4) : vx_Met l yX1_sheds wsX1_sheds ({ frames := 7, cells := 1, slots := 6, locals := 102 } : Room) (va_Pc [.ref (a 0), .int x] (XQ D cI cZ cD (XW a cI cZ cD sh sw ts bi it tu ne pr so lo wt cn lp lz lu lk ld lf lb lw) Hp)) (va_Qi (fun _ (_ : Unit) => False) (fun _ _ => True) (fun q => Hp.size ≤ q)) (XE (fun E => E = "java/lang/IllegalArgumentException") Hp.size) 1 6 (fun q => Hp.size ≤ q) := by
  refine vx_ofW (cc := cX1_sheds) (maxL := 2) (ret := (some .int)) (by decide +kernel) rfl ?_
  intro p e s m args below meth c s₁ B hml htab hv
  obtain ⟨rfl, hsz, ⟨hP, hK, hD⟩, hE⟩ := hv
  have hx := B.exec
  have hb := B.bytes
  have hr := B.returns
  have hts := atoms_spec (ws := wsX1_sheds) B.pre
  have hown : s.vm.findClass RX1 = some m.cls := findClass_of_methodNamed B.named
  have hlocks := B.notSynchronized
  subst hsz
  have hA : ∀ q : Nat, s.heap.size ≤ q → (fun q => s.heap.size ≤ q) q := fun q h => h
  have hS : va_S (fun q => s.heap.size ≤ q) s.heap s.heap [] := va_S.rf
  have hl := lv_entry ([.ref (a 0), .int x]) (n := 2) (Nat.le_of_ble_eq_true rfl)
  rw [lg_entry_eq]
  generalize (lg_sl ([.ref (a 0), .int x]) ++ List.replicate (2 - (lg_sl ([.ref (a 0), .int x])).length) Slot.unset).toArray = ls at hl ⊢
  have hl : lv_has ls 2 [(0, .ref (a 0)), (1, .int x)] := hl
  refine lv_iload_n hx hb dX1_sheds_0 rfl (lv_at hl 1 rfl) ?_
  exact vx_callv (vx_runS (As := [.int x]) (rest := []) ⟨hx, hb, hml, hown, hts⟩ (mX1_requireOwner l hst s.heap x) (va_cwS 1 hts gX1_sheds_X1_requireOwner rfl rfl rfl (by decide +kernel) ⟨Nat.le_of_ble_eq_true rfl, Nat.le_of_ble_eq_true rfl⟩) ⟨xh_blind, xh_pre hE hS hA⟩ rfl rfl hl.1 rfl (lv_room (Nat.le_of_ble_eq_true rfl)) dX1_sheds_1 ⟨Nat.le_of_ble_eq_true rfl, Nat.le_of_ble_eq_true rfl⟩) hS (fun q h1 h2 => absurd h2 (Nat.not_le.mpr h1)) (fun q h => hA q (Nat.le_trans hS.1 h)) (fun q h1 h2 => absurd h2 (Nat.not_le.mpr h1)) (fun E ce q9 u9 t9 H9 locs9 ht9 hvm9 hpx9 hB9 hz9 hk9 hS9 hce9 hcv9 hcl9 => vx_out (fun x h => (htab x h).elim) hlocks hce9 hcv9 hcl9 (fun t8 ht8 hvm8 => ⟨(), trivial, hB9.1, by rw [ht8]; exact hz9, fun q h1 h2 => by rw [ht8]; exact hk9 q h1 h2⟩) hS9.2.2 (Nat.le_refl _) (Nat.le_refl _)) (fun u t H1 locs1 ht hvm hw hB hz1 hk1 hS1 => absurd hw hbad)
set_option maxHeartbeats 4000000 in
set_option maxRecDepth 100000 in
theorem mX1_billV (l : Launch) (D : va_G) (cI cZ cD : ClassId) (a : Nat → Nat) (sz : Nat) (sh sw ts : Nat → Int32) (bi : Nat → UInt64) (it tu : Nat → Int32) (ne : Nat → UInt64) (pr so lo : UInt64) (wt cn : Int32) (lp lz lu : Nat → UInt64) (lk : Nat → Int32) (ld lf lb lw : Nat → UInt64) (o : Nat) (ho : o < 5) : Met l yX1_bill wsX1_bill ({ frames := 1, cells := 0, slots := 0, locals := 20 } : Room) (va_Pc [.ref (a 0), .int (nI o)] (XP D cI cZ cD (XW a cI cZ cD sh sw ts bi it tu ne pr so lo wt cn lp lz lu lk ld lf lb lw) sz)) (vp_Sd (fun r => r = bi o)) 0 0 (fun _ => False) := by
  refine Met.ofW (cc := cX1_bill) (maxL := 2) (ret := (some .double)) (by decide +kernel) rfl ?_
  intro p e s m args below meth c s₁ B hml hv
  obtain ⟨rfl, hsz, hP, hK, hD0⟩ := hv
  have hx := B.exec
  have hb := B.bytes
  have hr := B.returns
  have hts := atoms_spec (ws := wsX1_bill) B.pre
  have hown : s.vm.findClass RX1 = some m.cls := findClass_of_methodNamed B.named
  have hlocks := B.notSynchronized
  subst hsz
  have hD := hD0.self (sz := s.heap.size)
  generalize hAe : va_A (XW a cI cZ cD sh sw ts bi it tu ne pr so lo wt cn lp lz lu lk ld lf lb lw) s.heap.size = A at hD ⊢
  have hA : ∀ q : Nat, s.heap.size ≤ q → A q := fun q h => by rw [← hAe]; exact Or.inr h
  have hS : va_S A s.heap s.heap [] := va_S.rf
  have hl := lv_entry ([.ref (a 0), .int (nI o)]) (n := 2) (Nat.le_of_ble_eq_true rfl)
  rw [lg_entry_eq]
  generalize (lg_sl ([.ref (a 0), .int (nI o)]) ++ List.replicate (2 - (lg_sl ([.ref (a 0), .int (nI o)])).length) Slot.unset).toArray = ls at hl ⊢
  have hl : lv_has ls 2 [(0, .ref (a 0)), (1, .int (nI o))] := hl
  have inX1 : ∀ w ∈ wsX10, w ∈ wsX1_bill := by decide +kernel
  refine lv_iload_n hx hb dX1_bill_0 rfl (lv_at hl 1 rfl) ?_
  refine va_csv (va_Run.run (va_runS (As := [.int (nI o)]) (rest := []) ⟨hx, hb, hml, hown, hts⟩ (mX1_requireOwnerV l (nI o) (nI_inR (n := 4) (by omega) (by decide))) (va_cwS 1 hts gX1_bill_X1_requireOwner rfl rfl rfl (by decide +kernel) ⟨Nat.le_of_ble_eq_true rfl, Nat.le_of_ble_eq_true rfl⟩) ⟨fun a U g mk q => q, fun U hU hW => ⟨rfl, trivial⟩⟩ rfl rfl hl.1 rfl (lv_room (Nat.le_of_ble_eq_true rfl)) dX1_bill_1 ⟨Nat.le_of_ble_eq_true rfl, Nat.le_of_ble_eq_true rfl⟩)) (fun _ => ?_)
  refine lv_aload_n hx hb dX1_bill_4 rfl (lv_at hl 0 rfl) ?_
  refine va_get (D := D) (ci := 1) (v := .ref (a 4)) (C := RX1) (T := TX1) (N := 12) hx hb hts inX1 hown hK hP 0 rfl rfl 3 (by decide) (hts (.fieldLink RX1 20 "GridCommons" "bills" "[D") (by decide +kernel)) (fun _ h9 => h9) rfl dX1_bill_5 ?_
  refine lv_iload_n hx hb dX1_bill_8 rfl (lv_at hl 1 rfl) ?_
  refine xk_dald hx hb hK hP 4 2 rfl rfl (o := o) (by omega) (by decide) dX1_bill_9 ?_
  exact W.dret hx hb hr (fun t ht hW => ⟨_, rfl, rfl, ht⟩) (fun q hq => absurd hq List.not_mem_nil) dX1_bill_10
set_option maxHeartbeats 4000000 in
set_option maxRecDepth 100000 in
theorem mX1_billX (l : Launch) (hst : l.stackTraces = false) (D : va_G) (cI cZ cD : ClassId) (a : Nat → Nat) (Hp : Heap) (sh sw ts : Nat → Int32) (bi : Nat → UInt64) (it tu : Nat → Int32) (ne : Nat → UInt64) (pr so lo : UInt64) (wt cn : Int32) (lp lz lu : Nat → UInt64) (lk : Nat → Int32) (ld lf lb lw : Nat → UInt64) (x : Int32) (hbad : ¬ inR x 0 4) : vx_Met l yX1_bill wsX1_bill ({ frames := 7, cells := 1, slots := 6, locals := 102 } : Room) (va_Pc [.ref (a 0), .int x] (XQ D cI cZ cD (XW a cI cZ cD sh sw ts bi it tu ne pr so lo wt cn lp lz lu lk ld lf lb lw) Hp)) (va_Qd (fun _ (_ : Unit) => False) (fun _ _ => True) (fun q => Hp.size ≤ q)) (XE (fun E => E = "java/lang/IllegalArgumentException") Hp.size) 1 6 (fun q => Hp.size ≤ q) := by
  refine vx_ofW (cc := cX1_bill) (maxL := 2) (ret := (some .double)) (by decide +kernel) rfl ?_
  intro p e s m args below meth c s₁ B hml htab hv
  obtain ⟨rfl, hsz, ⟨hP, hK, hD⟩, hE⟩ := hv
  have hx := B.exec
  have hb := B.bytes
  have hr := B.returns
  have hts := atoms_spec (ws := wsX1_bill) B.pre
  have hown : s.vm.findClass RX1 = some m.cls := findClass_of_methodNamed B.named
  have hlocks := B.notSynchronized
  subst hsz
  have hA : ∀ q : Nat, s.heap.size ≤ q → (fun q => s.heap.size ≤ q) q := fun q h => h
  have hS : va_S (fun q => s.heap.size ≤ q) s.heap s.heap [] := va_S.rf
  have hl := lv_entry ([.ref (a 0), .int x]) (n := 2) (Nat.le_of_ble_eq_true rfl)
  rw [lg_entry_eq]
  generalize (lg_sl ([.ref (a 0), .int x]) ++ List.replicate (2 - (lg_sl ([.ref (a 0), .int x])).length) Slot.unset).toArray = ls at hl ⊢
  have hl : lv_has ls 2 [(0, .ref (a 0)), (1, .int x)] := hl
  refine lv_iload_n hx hb dX1_bill_0 rfl (lv_at hl 1 rfl) ?_
  exact vx_callv (vx_runS (As := [.int x]) (rest := []) ⟨hx, hb, hml, hown, hts⟩ (mX1_requireOwner l hst s.heap x) (va_cwS 1 hts gX1_bill_X1_requireOwner rfl rfl rfl (by decide +kernel) ⟨Nat.le_of_ble_eq_true rfl, Nat.le_of_ble_eq_true rfl⟩) ⟨xh_blind, xh_pre hE hS hA⟩ rfl rfl hl.1 rfl (lv_room (Nat.le_of_ble_eq_true rfl)) dX1_bill_1 ⟨Nat.le_of_ble_eq_true rfl, Nat.le_of_ble_eq_true rfl⟩) hS (fun q h1 h2 => absurd h2 (Nat.not_le.mpr h1)) (fun q h => hA q (Nat.le_trans hS.1 h)) (fun q h1 h2 => absurd h2 (Nat.not_le.mpr h1)) (fun E ce q9 u9 t9 H9 locs9 ht9 hvm9 hpx9 hB9 hz9 hk9 hS9 hce9 hcv9 hcl9 => vx_out (fun x h => (htab x h).elim) hlocks hce9 hcv9 hcl9 (fun t8 ht8 hvm8 => ⟨(), trivial, hB9.1, by rw [ht8]; exact hz9, fun q h1 h2 => by rw [ht8]; exact hk9 q h1 h2⟩) hS9.2.2 (Nat.le_refl _) (Nat.le_refl _)) (fun u t H1 locs1 ht hvm hw hB hz1 hk1 hS1 => absurd hw hbad)
set_option maxHeartbeats 4000000 in
set_option maxRecDepth 100000 in
theorem mX1_batteryV (l : Launch) (D : va_G) (cI cZ cD : ClassId) (a : Nat → Nat) (sz : Nat) (sh sw ts : Nat → Int32) (bi : Nat → UInt64) (it tu : Nat → Int32) (ne : Nat → UInt64) (pr so lo : UInt64) (wt cn : Int32) (lp lz lu : Nat → UInt64) (lk : Nat → Int32) (ld lf lb lw : Nat → UInt64)  : Met l yX1_battery wsX1_battery ({ frames := 0, cells := 0, slots := 0, locals := 0 } : Room) (va_Pc [.ref (a 0)] (XP D cI cZ cD (XW a cI cZ cD sh sw ts bi it tu ne pr so lo wt cn lp lz lu lk ld lf lb lw) sz)) (vp_Sd (fun r => r = so)) 0 0 (fun _ => False) := by
  refine Met.ofW (cc := cX1_battery) (maxL := 1) (ret := (some .double)) (by decide +kernel) rfl ?_
  intro p e s m args below meth c s₁ B hml hv
  obtain ⟨rfl, hsz, hP, hK, hD0⟩ := hv
  have hx := B.exec
  have hb := B.bytes
  have hr := B.returns
  have hts := atoms_spec (ws := wsX1_battery) B.pre
  have hown : s.vm.findClass RX1 = some m.cls := findClass_of_methodNamed B.named
  have hlocks := B.notSynchronized
  subst hsz
  have hD := hD0.self (sz := s.heap.size)
  generalize hAe : va_A (XW a cI cZ cD sh sw ts bi it tu ne pr so lo wt cn lp lz lu lk ld lf lb lw) s.heap.size = A at hD ⊢
  have hA : ∀ q : Nat, s.heap.size ≤ q → A q := fun q h => by rw [← hAe]; exact Or.inr h
  have hS : va_S A s.heap s.heap [] := va_S.rf
  have hl := lv_entry ([.ref (a 0)]) (n := 1) (Nat.le_of_ble_eq_true rfl)
  rw [lg_entry_eq]
  generalize (lg_sl ([.ref (a 0)]) ++ List.replicate (1 - (lg_sl ([.ref (a 0)])).length) Slot.unset).toArray = ls at hl ⊢
  have hl : lv_has ls 1 [(0, .ref (a 0))] := hl
  have inX1 : ∀ w ∈ wsX10, w ∈ wsX1_battery := by decide +kernel
  refine lv_aload_n hx hb dX1_battery_0 rfl (lv_at hl 0 rfl) ?_
  refine va_get (D := D) (ci := 1) (v := .double so) (C := RX1) (T := TX1) (N := 12) hx hb hts inX1 hown hK hP 0 rfl rfl 8 (by decide) (hts (.fieldLink RX1 43 "GridCommons" "stored" "D") (by decide +kernel)) (fun _ h9 => h9) rfl dX1_battery_1 ?_
  exact W.dret hx hb hr (fun t ht hW => ⟨_, rfl, rfl, ht⟩) (fun q hq => absurd hq List.not_mem_nil) dX1_battery_4
set_option maxHeartbeats 4000000 in
set_option maxRecDepth 100000 in
theorem mX1_turnV (l : Launch) (D : va_G) (cI cZ cD : ClassId) (a : Nat → Nat) (sz : Nat) (sh sw ts : Nat → Int32) (bi : Nat → UInt64) (it tu : Nat → Int32) (ne : Nat → UInt64) (pr so lo : UInt64) (wt cn : Int32) (lp lz lu : Nat → UInt64) (lk : Nat → Int32) (ld lf lb lw : Nat → UInt64)  : Met l yX1_turn wsX1_turn ({ frames := 0, cells := 0, slots := 0, locals := 0 } : Room) (va_Pc [.ref (a 0)] (XP D cI cZ cD (XW a cI cZ cD sh sw ts bi it tu ne pr so lo wt cn lp lz lu lk ld lf lb lw) sz)) (vp_Si (fun r => r = wt)) 0 0 (fun _ => False) := by
  refine Met.ofW (cc := cX1_turn) (maxL := 1) (ret := (some .int)) (by decide +kernel) rfl ?_
  intro p e s m args below meth c s₁ B hml hv
  obtain ⟨rfl, hsz, hP, hK, hD0⟩ := hv
  have hx := B.exec
  have hb := B.bytes
  have hr := B.returns
  have hts := atoms_spec (ws := wsX1_turn) B.pre
  have hown : s.vm.findClass RX1 = some m.cls := findClass_of_methodNamed B.named
  have hlocks := B.notSynchronized
  subst hsz
  have hD := hD0.self (sz := s.heap.size)
  generalize hAe : va_A (XW a cI cZ cD sh sw ts bi it tu ne pr so lo wt cn lp lz lu lk ld lf lb lw) s.heap.size = A at hD ⊢
  have hA : ∀ q : Nat, s.heap.size ≤ q → A q := fun q h => by rw [← hAe]; exact Or.inr h
  have hS : va_S A s.heap s.heap [] := va_S.rf
  have hl := lv_entry ([.ref (a 0)]) (n := 1) (Nat.le_of_ble_eq_true rfl)
  rw [lg_entry_eq]
  generalize (lg_sl ([.ref (a 0)]) ++ List.replicate (1 - (lg_sl ([.ref (a 0)])).length) Slot.unset).toArray = ls at hl ⊢
  have hl : lv_has ls 1 [(0, .ref (a 0))] := hl
  have inX1 : ∀ w ∈ wsX10, w ∈ wsX1_turn := by decide +kernel
  refine lv_aload_n hx hb dX1_turn_0 rfl (lv_at hl 0 rfl) ?_
  refine va_get (D := D) (ci := 1) (v := .int wt) (C := RX1) (T := TX1) (N := 12) hx hb hts inX1 hown hK hP 0 rfl rfl 9 (by decide) (hts (.fieldLink RX1 46 "GridCommons" "whoseTurn" "I") (by decide +kernel)) (fun _ h9 => h9) rfl dX1_turn_1 ?_
  exact W.iret hx hb hr (fun t ht hW => ⟨_, rfl, rfl, ht⟩) (fun q hq => absurd hq List.not_mem_nil) dX1_turn_4
set_option maxHeartbeats 4000000 in
set_option maxRecDepth 100000 in
theorem mX1_closedV (l : Launch) (D : va_G) (cI cZ cD : ClassId) (a : Nat → Nat) (sz : Nat) (sh sw ts : Nat → Int32) (bi : Nat → UInt64) (it tu : Nat → Int32) (ne : Nat → UInt64) (pr so lo : UInt64) (wt cn : Int32) (lp lz lu : Nat → UInt64) (lk : Nat → Int32) (ld lf lb lw : Nat → UInt64)  : Met l yX1_closed wsX1_closed ({ frames := 0, cells := 0, slots := 0, locals := 0 } : Room) (va_Pc [.ref (a 0)] (XP D cI cZ cD (XW a cI cZ cD sh sw ts bi it tu ne pr so lo wt cn lp lz lu lk ld lf lb lw) sz)) (vp_Si (fun r => r = cn)) 0 0 (fun _ => False) := by
  refine Met.ofW (cc := cX1_closed) (maxL := 1) (ret := (some .int)) (by decide +kernel) rfl ?_
  intro p e s m args below meth c s₁ B hml hv
  obtain ⟨rfl, hsz, hP, hK, hD0⟩ := hv
  have hx := B.exec
  have hb := B.bytes
  have hr := B.returns
  have hts := atoms_spec (ws := wsX1_closed) B.pre
  have hown : s.vm.findClass RX1 = some m.cls := findClass_of_methodNamed B.named
  have hlocks := B.notSynchronized
  subst hsz
  have hD := hD0.self (sz := s.heap.size)
  generalize hAe : va_A (XW a cI cZ cD sh sw ts bi it tu ne pr so lo wt cn lp lz lu lk ld lf lb lw) s.heap.size = A at hD ⊢
  have hA : ∀ q : Nat, s.heap.size ≤ q → A q := fun q h => by rw [← hAe]; exact Or.inr h
  have hS : va_S A s.heap s.heap [] := va_S.rf
  have hl := lv_entry ([.ref (a 0)]) (n := 1) (Nat.le_of_ble_eq_true rfl)
  rw [lg_entry_eq]
  generalize (lg_sl ([.ref (a 0)]) ++ List.replicate (1 - (lg_sl ([.ref (a 0)])).length) Slot.unset).toArray = ls at hl ⊢
  have hl : lv_has ls 1 [(0, .ref (a 0))] := hl
  have inX1 : ∀ w ∈ wsX10, w ∈ wsX1_closed := by decide +kernel
  have inX0 : ∀ w ∈ wsX00, w ∈ wsX1_closed := by decide +kernel
  refine lv_aload_n hx hb dX1_closed_0 rfl (lv_at hl 0 rfl) ?_
  refine va_get (D := D) (ci := 1) (v := .ref (a 8)) (C := RX1) (T := TX1) (N := 12) hx hb hts inX1 hown hK hP 0 rfl rfl 6 (by decide) (hts (.fieldLink RX1 33 "GridCommons" "ledger" "LGridCommons$Ledger;") (by decide +kernel)) (fun _ h9 => h9) rfl dX1_closed_1 ?_
  refine va_get (D := D) (ci := 0) (v := .int cn) (C := RX0) (T := TX0) (N := 9) hx hb hts inX0 hown hK hP 8 rfl rfl 0 (by decide) (hts (.fieldLink RX1 77 "GridCommons$Ledger" "count" "I") (by decide +kernel)) (fun _ h9 => h9) rfl dX1_closed_4 ?_
  exact W.iret hx hb hr (fun t ht hW => ⟨_, rfl, rfl, ht⟩) (fun q hq => absurd hq List.not_mem_nil) dX1_closed_7
end
section
/-! GridCommons: the face, what writes -/
theorem nar01n {x : Int32} (h : x = 0 ∨ x = 1) : narrow .boolean (.int x) = .int x := by rcases h with rfl | rfl <;> rfl
def okS (sh : Nat → Int32) (x share : Int32) : Prop := sumI sh 5 - sh x.toNatClampNeg + share ≤ 4
def kn (lk : Nat → Int32) (x q : Int32) : Prop := ¬ lk (5 * q.toNatClampNeg + x.toNatClampNeg) = 0
theorem kn_nI {lk : Nat → Int32} {o q : Nat} (ho : o < 5) (hq : q < 60) : kn lk (nI o) (nI q) ↔ ¬ lk (5 * q + o) = 0 := by
  unfold kn
  rw [nI_clamp (by omega), nI_clamp (by omega)]
theorem okS_nI {sh : Nat → Int32} {o : Nat} {share : Int32} (ho : o < 5) : okS sh (nI o) share ↔ sumI sh 5 - sh o + share ≤ 4 := by
  unfold okS
  rw [nI_clamp (by omega)]
theorem pr_ok : ∀ k, k < 5 → vf_n64 (FP.ddiv (FP.i2d (nI k)) 4616189618054758400) := by
  intro k hk
  rcases (show k = 0 ∨ k = 1 ∨ k = 2 ∨ k = 3 ∨ k = 4 by omega) with rfl | rfl | rfl | rfl | rfl <;> (unfold vf_n64; decide +kernel)
/-! a quarter's closing, in one piece -/
def fS (sun : Int32) (sh : Nat → Int32) (V : Nat → Dm) (n : Nat) (F : Nat → Dm) : Nat → Dm := po (5 * n) 5 F (fun k => dAdd (F (5 * n + k)) (uS sun sh V k))
def fE (V : Nat → Dm) (L : Dm) (n : Nat) (F : Nat → Dm) : Nat → Dm := if noNeed V then F else po (5 * n) 5 F (fun k => dAdd (F (5 * n + k)) (gE V L k))
def gB (tr n : Nat) (V : Nat → Dm) (L S : Dm) (G : Nat → Dm) : (Nat → Dm) × Dm × (Nat → Dm) × Nat := if dCmp L dZ = some .eq then ((gbs tr (5 * n) V S G 5).1, (gbs tr (5 * n) V S G 5).2.1, (gbs tr (5 * n) V S G 5).2.2.1, tnx tr (gbs tr (5 * n) V S G 5).2.2.2) else (V, S, G, tr)
def kV2 (sun : Int32) (sh : Nat → Int32) (V : Nat → Dm) : Nat → Dm := fun k => dSub (V k) (uS sun sh V k)
def kL1 (sun : Int32) (sh : Nat → Int32) (V : Nat → Dm) : Dm := lS sun sh V (dI sun) 5
def kV3 (sun : Int32) (sh : Nat → Int32) (V : Nat → Dm) : Nat → Dm := nE (kV2 sun sh V) (kL1 sun sh V)
def kL2 (sun : Int32) (sh : Nat → Int32) (V : Nat → Dm) : Dm := lE (kV2 sun sh V) (kL1 sun sh V)
def kF (sun : Int32) (sh : Nat → Int32) (V : Nat → Dm) (n : Nat) (F : Nat → Dm) : Nat → Dm := fE (kV2 sun sh V) (kL1 sun sh V) n (fS sun sh V n F)
def kS (sun : Int32) (sh : Nat → Int32) (V : Nat → Dm) (S : Dm) : Dm := soN S (kL2 sun sh V)
def kZ (sun : Int32) (sh : Nat → Int32) (V : Nat → Dm) (S : Dm) (Z : Nat → Dm) (n : Nat) : Nat → Dm := va_up Z n (szN S (kL2 sun sh V))
def kB (sun : Int32) (sh : Nat → Int32) (V : Nat → Dm) (S : Dm) (G : Nat → Dm) (tr n : Nat) : (Nat → Dm) × Dm × (Nat → Dm) × Nat := gB tr n (kV3 sun sh V) (kL2 sun sh V) (kS sun sh V S) G
def kI (sun : Int32) (sh : Nat → Int32) (V : Nat → Dm) (S : Dm) (Z B : Nat → Dm) (P : Dm) (G : Nat → Dm) (tr n : Nat) : Nat → Dm := po 0 5 B (fun k => dSub (dAdd (B k) (dMul ((kB sun sh V S G tr n).1 k) P)) (dDiv (dMul (kZ sun sh V S Z n n) P) d10))
abbrev cT (sw ts it tu lk : Nat → Int32) (U : Nat → Dm) (n : Nat) : (Nat → Int32) × (Nat → Dm) := shd sw 5 ts (use0 it tu lk U n)
set_option maxHeartbeats 4000000 in
set_option maxRecDepth 100000 in
theorem mX1_sumOfSharesV (l : Launch) (D : va_G) (cI cZ cD : ClassId) (a : Nat → Nat) (sz : Nat) (sh sw ts : Nat → Int32) (bi : Nat → UInt64) (it tu : Nat → Int32) (ne : Nat → UInt64) (pr so lo : UInt64) (wt cn : Int32) (lp lz lu : Nat → UInt64) (lk : Nat → Int32) (ld lf lb lw : Nat → UInt64)  : Met l yX1_sumOfShares wsX1_sumOfShares ({ frames := 0, cells := 0, slots := 0, locals := 0 } : Room) (va_Pc [.ref (a 0)] (XP D cI cZ cD (XW a cI cZ cD sh sw ts bi it tu ne pr so lo wt cn lp lz lu lk ld lf lb lw) sz)) (vp_Si (fun r => r = sumI sh 5)) 0 0 (fun _ => False) := by
  refine Met.ofW (cc := cX1_sumOfShares) (maxL := 3) (ret := (some .int)) (by decide +kernel) rfl ?_
  intro p e s m args below meth c s₁ B hml hv
  obtain ⟨rfl, hsz, hP, hK, hD0⟩ := hv
  have hx := B.exec
  have hb := B.bytes
  have hr := B.returns
  have hts := atoms_spec (ws := wsX1_sumOfShares) B.pre
  have hown : s.vm.findClass RX1 = some m.cls := findClass_of_methodNamed B.named
  have hlocks := B.notSynchronized
  subst hsz
  have hD := hD0.self (sz := s.heap.size)
  generalize hAe : va_A (XW a cI cZ cD sh sw ts bi it tu ne pr so lo wt cn lp lz lu lk ld lf lb lw) s.heap.size = A at hD ⊢
  have hA : ∀ q : Nat, s.heap.size ≤ q → A q := fun q h => by rw [← hAe]; exact Or.inr h
  have hS : va_S A s.heap s.heap [] := va_S.rf
  have hl := lv_entry ([.ref (a 0)]) (n := 3) (Nat.le_of_ble_eq_true rfl)
  rw [lg_entry_eq]
  generalize (lg_sl ([.ref (a 0)]) ++ List.replicate (3 - (lg_sl ([.ref (a 0)])).length) Slot.unset).toArray = ls at hl ⊢
  have hl : lv_has ls 3 [(0, .ref (a 0))] := hl
  have inX1 : ∀ w ∈ wsX10, w ∈ wsX1_sumOfShares := by decide +kernel
  refine lv_iconst (v := nI 0) hx hb dX1_sumOfShares_0 (by decide) ?_
  refine lv_istore_n (lv' := [(1, .int (nI 0)), (0, .ref (a 0))]) hx hb dX1_sumOfShares_1 rfl hl (by decide) rfl (fun ls hl => ?_)
  refine lv_iconst (v := nI 0) hx hb dX1_sumOfShares_2 (by decide) ?_
  refine lv_istore_n (lv' := [(2, .int (nI 0)), (1, .int (nI 0)), (0, .ref (a 0))]) hx hb dX1_sumOfShares_3 rfl hl (by decide) rfl (fun ls hl => ?_)
  refine xk_loopP (fun i H locs ls => H = s.heap ∧ locs = [] ∧ lv_has ls 3 [(0, .ref (a 0)), (1, .int (sumI sh i)), (2, .int (nI i))]) 5 ?_ (i := 0) (Nat.zero_le _) ⟨rfl, rfl, lv_sub hl [2, 1, 0] rfl⟩
  intro i H locs ls hi hI next
  obtain ⟨rfl, rfl, hl⟩ := hI
  refine lv_iload_n hx hb dX1_sumOfShares_4 rfl (lv_at hl 2 rfl) ?_
  refine lv_iconst (v := nI 5) hx hb dX1_sumOfShares_5 (by decide) ?_
  refine lv_icmp_ge (tgt := 24) hx hb dX1_sumOfShares_6 (by decide) (fun c => ?_) (fun c => ?_)
  · skip
    obtain rfl := xk_ge hi (by decide) c
    refine lv_iload_n hx hb dX1_sumOfShares_24 rfl (lv_at hl 1 rfl) ?_
    exact W.iret hx hb hr (fun t ht hW => ⟨_, rfl, rfl, ht⟩) (fun q hq => absurd hq List.not_mem_nil) dX1_sumOfShares_25
  · skip
    have hlt := xk_nge hi (by decide) c
    refine lv_iload_n hx hb dX1_sumOfShares_9 rfl (lv_at hl 1 rfl) ?_
    refine lv_aload_n hx hb dX1_sumOfShares_10 rfl (lv_at hl 0 rfl) ?_
    refine va_get (D := D) (ci := 1) (v := .ref (a 1)) (C := RX1) (T := TX1) (N := 12) hx hb hts inX1 hown hK hP 0 rfl rfl 0 (by decide) (hts (.fieldLink RX1 9 "GridCommons" "shares" "[I") (by decide +kernel)) (fun _ h9 => h9) rfl dX1_sumOfShares_11 ?_
    refine lv_iload_n hx hb dX1_sumOfShares_14 rfl (lv_at hl 2 rfl) ?_
    refine xk_iald hx hb hK hP 1 0 rfl rfl (o := i) (by omega) (by decide) dX1_sumOfShares_15 ?_
    refine lv_iadd hx hb dX1_sumOfShares_16 ?_
    refine lv_istore_n (lv' := [(1, .int ((sumI sh i) + (sh i))), (0, .ref (a 0)), (2, .int (nI i))]) hx hb dX1_sumOfShares_17 rfl hl (by decide) rfl (fun ls hl => ?_)
    refine lv_iinc (v := nI (i + 1)) (lv' := [(2, .int (nI (i + 1))), (1, .int ((sumI sh i) + (sh i))), (0, .ref (a 0))]) hx hb dX1_sumOfShares_18 hl (k := 2) rfl (nI_1 i) (by decide) rfl (fun ls hl => ?_)
    refine lv_goto (tgt := 4) hx hb dX1_sumOfShares_21 (by decide) ?_
    exact next _ _ _ hlt ⟨rfl, rfl, lv_sub hl [2, 1, 0] rfl⟩
set_option maxHeartbeats 4000000 in
set_option maxRecDepth 100000 in
theorem mX1_setShareV (l : Launch) (D : va_G) (cI cZ cD : ClassId) (a : Nat → Nat) (sz : Nat) (sh sw ts : Nat → Int32) (bi : Nat → UInt64) (it tu : Nat → Int32) (ne : Nat → UInt64) (pr so lo : UInt64) (wt cn : Int32) (lp lz lu : Nat → UInt64) (lk : Nat → Int32) (ld lf lb lw : Nat → UInt64) (o : Nat) (share : Int32) (ho : o < 5) (hsh : inR share 0 4) (hok : okS sh (nI o) share) : Met l yX1_setShare wsX1_setShare ({ frames := 1, cells := 0, slots := 0, locals := 22 } : Room) (va_Pc [.ref (a 0), .int (nI o), .int share] (XP D cI cZ cD (XW a cI cZ cD sh sw ts bi it tu ne pr so lo wt cn lp lz lu lk ld lf lb lw) sz)) (va_Qi (fun (r : Int32) (u : Unit) => r = sh o) (fun (u : Unit) t => XB D cI cZ cD (XW a cI cZ cD (upd sh o share) sw ts bi it tu ne pr so lo wt cn lp lz lu lk ld lf lb lw) (va_A (XW a cI cZ cD sh sw ts bi it tu ne pr so lo wt cn lp lz lu lk ld lf lb lw) sz) t) (va_A (XW a cI cZ cD sh sw ts bi it tu ne pr so lo wt cn lp lz lu lk ld lf lb lw) sz)) 0 0 (va_A (XW a cI cZ cD sh sw ts bi it tu ne pr so lo wt cn lp lz lu lk ld lf lb lw) sz) := by
  refine Met.ofW (cc := cX1_setShare) (maxL := 4) (ret := (some .int)) (by decide +kernel) rfl ?_
  intro p e s m args below meth c s₁ B hml hv
  obtain ⟨rfl, hsz, hP, hK, hD0⟩ := hv
  have hx := B.exec
  have hb := B.bytes
  have hr := B.returns
  have hts := atoms_spec (ws := wsX1_setShare) B.pre
  have hown : s.vm.findClass RX1 = some m.cls := findClass_of_methodNamed B.named
  have hlocks := B.notSynchronized
  subst hsz
  have hD := hD0.self (sz := s.heap.size)
  generalize hAe : va_A (XW a cI cZ cD sh sw ts bi it tu ne pr so lo wt cn lp lz lu lk ld lf lb lw) s.heap.size = A at hD ⊢
  have hA : ∀ q : Nat, s.heap.size ≤ q → A q := fun q h => by rw [← hAe]; exact Or.inr h
  have hS : va_S A s.heap s.heap [] := va_S.rf
  have hl := lv_entry ([.ref (a 0), .int (nI o), .int share]) (n := 4) (Nat.le_of_ble_eq_true rfl)
  rw [lg_entry_eq]
  generalize (lg_sl ([.ref (a 0), .int (nI o), .int share]) ++ List.replicate (4 - (lg_sl ([.ref (a 0), .int (nI o), .int share])).length) Slot.unset).toArray = ls at hl ⊢
  have hl : lv_has ls 4 [(0, .ref (a 0)), (1, .int (nI o)), (2, .int share)] := hl
  have inX1 : ∀ w ∈ wsX10, w ∈ wsX1_setShare := by decide +kernel
  have hok := (okS_nI ho).mp hok
  refine lv_iload_n hx hb dX1_setShare_0 rfl (lv_at hl 1 rfl) ?_
  refine va_csv (va_Run.run (va_runS (As := [.int (nI o)]) (rest := []) ⟨hx, hb, hml, hown, hts⟩ (mX1_requireOwnerV l (nI o) (nI_inR (n := 4) (by omega) (by decide))) (va_cwS 1 hts gX1_setShare_X1_requireOwner rfl rfl rfl (by decide +kernel) ⟨Nat.le_of_ble_eq_true rfl, Nat.le_of_ble_eq_true rfl⟩) ⟨fun a U g mk q => q, fun U hU hW => ⟨rfl, trivial⟩⟩ rfl rfl hl.1 rfl (lv_room (Nat.le_of_ble_eq_true rfl)) dX1_setShare_1 ⟨Nat.le_of_ble_eq_true rfl, Nat.le_of_ble_eq_true rfl⟩)) (fun _ => ?_)
  refine lv_iload_n hx hb dX1_setShare_4 rfl (lv_at hl 2 rfl) ?_
  refine lv_iconst (v := nI 0) hx hb dX1_setShare_5 (by decide) ?_
  refine lv_iconst (v := nI 4) hx hb dX1_setShare_6 (by decide) ?_
  refine va_csv (va_Run.run (va_runS (As := [.int share, .int (nI 0), .int (nI 4)]) (rest := []) ⟨hx, hb, hml, hown, hts⟩ (mX1_requireWithinV l share (nI 0) (nI 4) hsh) (va_cwS 3 hts gX1_setShare_X1_requireWithin rfl rfl rfl (by decide +kernel) ⟨Nat.le_of_ble_eq_true rfl, Nat.le_of_ble_eq_true rfl⟩) ⟨fun a U g mk q => q, fun U hU hW => ⟨rfl, trivial⟩⟩ rfl rfl hl.1 rfl (lv_room (Nat.le_of_ble_eq_true rfl)) dX1_setShare_7 ⟨Nat.le_of_ble_eq_true rfl, Nat.le_of_ble_eq_true rfl⟩)) (fun _ => ?_)
  refine lv_aload_n hx hb dX1_setShare_10 rfl (lv_at hl 0 rfl) ?_
  refine va_get (D := D) (ci := 1) (v := .ref (a 1)) (C := RX1) (T := TX1) (N := 12) hx hb hts inX1 hown hK hP 0 rfl rfl 0 (by decide) (hts (.fieldLink RX1 9 "GridCommons" "shares" "[I") (by decide +kernel)) (fun _ h9 => h9) rfl dX1_setShare_11 ?_
  refine lv_iload_n hx hb dX1_setShare_14 rfl (lv_at hl 1 rfl) ?_
  refine xk_iald hx hb hK hP 1 0 rfl rfl (o := o) (by omega) (by decide) dX1_setShare_15 ?_
  refine lv_istore_n (lv' := [(3, .int (sh o)), (0, .ref (a 0)), (1, .int (nI o)), (2, .int share)]) hx hb dX1_setShare_16 rfl hl (by decide) rfl (fun ls hl => ?_)
  refine lv_aload_n hx hb dX1_setShare_17 rfl (lv_at hl 1 rfl) ?_
  refine vp_callSi (va_Run.run (va_runV (As := []) (rest := []) ⟨hx, hb, hml, hown, hts⟩ (mX1_sumOfSharesV l D cI cZ cD a _ sh sw ts bi it tu ne pr so lo wt cn lp lz lu lk ld lf lb lw) (cwV 0 hts gX1_setShare_X1_sumOfShares rfl rfl rfl (by decide +kernel) ⟨Nat.le_of_ble_eq_true rfl, Nat.le_of_ble_eq_true rfl⟩) ⟨xk_blind, va_recv hK hP (ci := 1) (q0 := 0) rfl rfl, xk_pre hP hK hD⟩ rfl rfl hl.1 rfl (lv_room (Nat.le_of_ble_eq_true rfl)) dX1_setShare_18 ⟨Nat.le_of_ble_eq_true rfl, Nat.le_of_ble_eq_true rfl⟩)) (fun r hr1 => ?_)
  subst hr1
  refine lv_iload_n hx hb dX1_setShare_21 rfl (lv_at hl 0 rfl) ?_
  refine lv_isub hx hb dX1_setShare_22 ?_
  refine lv_iload_n hx hb dX1_setShare_23 rfl (lv_at hl 3 rfl) ?_
  refine lv_iadd hx hb dX1_setShare_24 ?_
  refine lv_iconst (v := nI 4) hx hb dX1_setShare_25 (by decide) ?_
  refine lv_icmp_le (tgt := 39) hx hb dX1_setShare_26 (by decide) (fun c => ?_) (fun c => ?_)
  · skip
    refine lv_aload_n hx hb dX1_setShare_39 rfl (lv_at hl 1 rfl) ?_
    refine va_get (D := D) (ci := 1) (v := .ref (a 1)) (C := RX1) (T := TX1) (N := 12) hx hb hts inX1 hown hK hP 0 rfl rfl 0 (by decide) (hts (.fieldLink RX1 9 "GridCommons" "shares" "[I") (by decide +kernel)) (fun _ h9 => h9) rfl dX1_setShare_40 ?_
    refine lv_iload_n hx hb dX1_setShare_43 rfl (lv_at hl 2 rfl) ?_
    refine lv_iload_n hx hb dX1_setShare_44 rfl (lv_at hl 3 rfl) ?_
    refine xk_iast hx hb hK hP hD hS 1 0 rfl rfl (o := o) (by omega) (by decide) dX1_setShare_45 (fun H locs hP hD hS => ?_)
    have hP : va_P D vwCl (XW a cI cZ cD (upd sh o share) sw ts bi it tu ne pr so lo wt cn lp lz lu lk ld lf lb lw) H := hP
    have hD : va_D A (XW a cI cZ cD (upd sh o share) sw ts bi it tu ne pr so lo wt cn lp lz lu lk ld lf lb lw) := hD
    refine lv_iload_n hx hb dX1_setShare_46 rfl (lv_at hl 0 rfl) ?_
    exact W.iret hx hb hr (fun t ht hW => ⟨⟨_, (), rfl, rfl, by rw [ht]; exact hP, va_K.moved hW.alike hK, hD⟩, hS.F ht⟩) hS.2.2 dX1_setShare_47
  · skip
    exact absurd hok c
set_option maxHeartbeats 4000000 in
set_option maxRecDepth 100000 in
theorem mX1_setShareX (l : Launch) (hst : l.stackTraces = false) (D : va_G) (cI cZ cD : ClassId) (a : Nat → Nat) (Hp : Heap) (sh sw ts : Nat → Int32) (bi : Nat → UInt64) (it tu : Nat → Int32) (ne : Nat → UInt64) (pr so lo : UInt64) (wt cn : Int32) (lp lz lu : Nat → UInt64) (lk : Nat → Int32) (ld lf lb lw : Nat → UInt64) (x share : Int32) (hbad : ¬ (inR x 0 4 ∧ inR share 0 4 ∧ okS sh x share)) : vx_Met l yX1_setShare wsX1_setShare ({ frames := 7, cells := 1, slots := 6, locals := 104 } : Room) (va_Pc [.ref (a 0), .int x, .int share] (XQ D cI cZ cD (XW a cI cZ cD sh sw ts bi it tu ne pr so lo wt cn lp lz lu lk ld lf lb lw) Hp)) (va_Qi (fun _ (_ : Unit) => False) (fun _ _ => True) (fun q => Hp.size ≤ q)) (XE (fun E => (E = "java/lang/IllegalArgumentException" ∧ ¬ (inR x 0 4 ∧ inR share 0 4)) ∨ (E = "java/lang/IllegalStateException" ∧ inR x 0 4 ∧ inR share 0 4 ∧ ¬ okS sh x share)) Hp.size) 1 6 (fun q => Hp.size ≤ q) := by
  refine vx_ofW (cc := cX1_setShare) (maxL := 4) (ret := (some .int)) (by decide +kernel) rfl ?_
  intro p e s m args below meth c s₁ B hml htab hv
  obtain ⟨rfl, hsz, ⟨hP, hK, hD⟩, hE⟩ := hv
  have hx := B.exec
  have hb := B.bytes
  have hr := B.returns
  have hts := atoms_spec (ws := wsX1_setShare) B.pre
  have hown : s.vm.findClass RX1 = some m.cls := findClass_of_methodNamed B.named
  have hlocks := B.notSynchronized
  subst hsz
  have hA : ∀ q : Nat, s.heap.size ≤ q → (fun q => s.heap.size ≤ q) q := fun q h => h
  have hS : va_S (fun q => s.heap.size ≤ q) s.heap s.heap [] := va_S.rf
  have hl := lv_entry ([.ref (a 0), .int x, .int share]) (n := 4) (Nat.le_of_ble_eq_true rfl)
  rw [lg_entry_eq]
  generalize (lg_sl ([.ref (a 0), .int x, .int share]) ++ List.replicate (4 - (lg_sl ([.ref (a 0), .int x, .int share])).length) Slot.unset).toArray = ls at hl ⊢
  have hl : lv_has ls 4 [(0, .ref (a 0)), (1, .int x), (2, .int share)] := hl
  have inX1 : ∀ w ∈ wsX10, w ∈ wsX1_setShare := by decide +kernel
  refine lv_iload_n hx hb dX1_setShare_0 rfl (lv_at hl 1 rfl) ?_
  by_cases hin : inR x 0 4
  · skip
    refine va_csv (va_Run.run (va_runS (As := [.int x]) (rest := []) ⟨hx, hb, hml, hown, hts⟩ (mX1_requireOwnerV l x hin) (va_cwS 1 hts gX1_setShare_X1_requireOwner rfl rfl rfl (by decide +kernel) ⟨Nat.le_of_ble_eq_true rfl, Nat.le_of_ble_eq_true rfl⟩) ⟨fun a U g mk q => q, fun U hU hW => ⟨rfl, trivial⟩⟩ rfl rfl hl.1 rfl (lv_room (Nat.le_of_ble_eq_true rfl)) dX1_setShare_1 ⟨Nat.le_of_ble_eq_true rfl, Nat.le_of_ble_eq_true rfl⟩)) (fun _ => ?_)
    refine lv_iload_n hx hb dX1_setShare_4 rfl (lv_at hl 2 rfl) ?_
    refine lv_iconst (v := nI 0) hx hb dX1_setShare_5 (by decide) ?_
    refine lv_iconst (v := nI 4) hx hb dX1_setShare_6 (by decide) ?_
    by_cases hsh : inR share 0 4
    · skip
      refine va_csv (va_Run.run (va_runS (As := [.int share, .int (nI 0), .int (nI 4)]) (rest := []) ⟨hx, hb, hml, hown, hts⟩ (mX1_requireWithinV l share (nI 0) (nI 4) hsh) (va_cwS 3 hts gX1_setShare_X1_requireWithin rfl rfl rfl (by decide +kernel) ⟨Nat.le_of_ble_eq_true rfl, Nat.le_of_ble_eq_true rfl⟩) ⟨fun a U g mk q => q, fun U hU hW => ⟨rfl, trivial⟩⟩ rfl rfl hl.1 rfl (lv_room (Nat.le_of_ble_eq_true rfl)) dX1_setShare_7 ⟨Nat.le_of_ble_eq_true rfl, Nat.le_of_ble_eq_true rfl⟩)) (fun _ => ?_)
      obtain ⟨o, ho4, rfl⟩ := inR_nI (n := 4) (by decide) hin
      have ho : o < 5 := by omega
      refine lv_aload_n hx hb dX1_setShare_10 rfl (lv_at hl 0 rfl) ?_
      refine va_get (D := D) (ci := 1) (v := .ref (a 1)) (C := RX1) (T := TX1) (N := 12) hx hb hts inX1 hown hK hP 0 rfl rfl 0 (by decide) (hts (.fieldLink RX1 9 "GridCommons" "shares" "[I") (by decide +kernel)) (fun _ h9 => h9) rfl dX1_setShare_11 ?_
      refine lv_iload_n hx hb dX1_setShare_14 rfl (lv_at hl 1 rfl) ?_
      refine xk_iald hx hb hK hP 1 0 rfl rfl (o := o) (by omega) (by decide) dX1_setShare_15 ?_
      refine lv_istore_n (lv' := [(3, .int (sh o)), (0, .ref (a 0)), (1, .int (nI o)), (2, .int share)]) hx hb dX1_setShare_16 rfl hl (by decide) rfl (fun ls hl => ?_)
      refine lv_aload_n hx hb dX1_setShare_17 rfl (lv_at hl 1 rfl) ?_
      refine vp_callSi (va_Run.run (va_runV (As := []) (rest := []) ⟨hx, hb, hml, hown, hts⟩ (mX1_sumOfSharesV l D cI cZ cD a _ sh sw ts bi it tu ne pr so lo wt cn lp lz lu lk ld lf lb lw) (cwV 0 hts gX1_setShare_X1_sumOfShares rfl rfl rfl (by decide +kernel) ⟨Nat.le_of_ble_eq_true rfl, Nat.le_of_ble_eq_true rfl⟩) ⟨xk_blind, va_recv hK hP (ci := 1) (q0 := 0) rfl rfl, xk_pre hP hK hD⟩ rfl rfl hl.1 rfl (lv_room (Nat.le_of_ble_eq_true rfl)) dX1_setShare_18 ⟨Nat.le_of_ble_eq_true rfl, Nat.le_of_ble_eq_true rfl⟩)) (fun r hr1 => ?_)
      subst hr1
      refine lv_iload_n hx hb dX1_setShare_21 rfl (lv_at hl 0 rfl) ?_
      refine lv_isub hx hb dX1_setShare_22 ?_
      refine lv_iload_n hx hb dX1_setShare_23 rfl (lv_at hl 3 rfl) ?_
      refine lv_iadd hx hb dX1_setShare_24 ?_
      refine lv_iconst (v := nI 4) hx hb dX1_setShare_25 (by decide) ?_
      refine lv_icmp_le (tgt := 39) hx hb dX1_setShare_26 (by decide) (fun c => ?_) (fun c => ?_)
      · skip
        exact absurd ⟨hin, hsh, (okS_nI ho).mpr c⟩ hbad
      · skip
        obtain ⟨sa, hstr⟩ := hE.2.2.2 (70, "all shares together would be more than 4") (by decide)
        have hat0 : ∀ w ∈ (vx_atS RX1 72 "java/lang/IllegalStateException" ["java/lang/RuntimeException", "java/lang/Exception"]).filter goodWord, w ∈ wsX1_setShare := by decide +kernel
        exact vx_throwS (text := "all shares together would be more than 4") (names := ["java/lang/RuntimeException", "java/lang/Exception"]) hx hb hst hown (by decide +kernel) (by decide +kernel) (hts (.classLink RX1 68 "java/lang/IllegalStateException") (by decide +kernel)) (hts (.initialized "java/lang/IllegalStateException") (by decide +kernel)) hstr (vx_hat (B := exW) (fun w h => hts w (hat0 w h)) (by decide +kernel) hE.words) (by decide +kernel) hE.1 hE.2.1 hS (hl.1.trans hml.symm) dX1_setShare_29 dX1_setShare_32 dX1_setShare_33 dX1_setShare_35 dX1_setShare_38 (fun x h => (htab x h).elim) (Nat.le_of_ble_eq_true rfl) (Nat.le_of_ble_eq_true rfl) (Nat.le_of_ble_eq_true rfl) (Nat.le_of_ble_eq_true rfl) hlocks (fun t ht hz hk => ⟨(), trivial, Or.inr ⟨rfl, hin, hsh, fun z => c ((okS_nI ho).mp z)⟩, hz, fun q h1 _ => hk q h1⟩) hS.2.2 (Nat.le_refl _) (Nat.le_refl _)
    · skip
      exact vx_callv (vx_runS (As := [.int share, .int (nI 0), .int (nI 4)]) (rest := []) ⟨hx, hb, hml, hown, hts⟩ (mX1_requireWithin l hst s.heap share (nI 0) (nI 4)) (va_cwS 3 hts gX1_setShare_X1_requireWithin rfl rfl rfl (by decide +kernel) ⟨Nat.le_of_ble_eq_true rfl, Nat.le_of_ble_eq_true rfl⟩) ⟨xh_blind, xh_pre hE hS hA⟩ rfl rfl hl.1 rfl (lv_room (Nat.le_of_ble_eq_true rfl)) dX1_setShare_7 ⟨Nat.le_of_ble_eq_true rfl, Nat.le_of_ble_eq_true rfl⟩) hS (fun q h1 h2 => absurd h2 (Nat.not_le.mpr h1)) (fun q h => hA q (Nat.le_trans hS.1 h)) (fun q h1 h2 => absurd h2 (Nat.not_le.mpr h1)) (fun E ce q9 u9 t9 H9 locs9 ht9 hvm9 hpx9 hB9 hz9 hk9 hS9 hce9 hcv9 hcl9 => vx_out (fun x h => (htab x h).elim) hlocks hce9 hcv9 hcl9 (fun t8 ht8 hvm8 => ⟨(), trivial, Or.inl ⟨hB9.1, fun z => hB9.2 z.2⟩, by rw [ht8]; exact hz9, fun q h1 h2 => by rw [ht8]; exact hk9 q h1 h2⟩) hS9.2.2 (Nat.le_refl _) (Nat.le_refl _)) (fun u t H1 locs1 ht hvm hw hB hz1 hk1 hS1 => absurd hw hsh)
  · skip
    exact vx_callv (vx_runS (As := [.int x]) (rest := []) ⟨hx, hb, hml, hown, hts⟩ (mX1_requireOwner l hst s.heap x) (va_cwS 1 hts gX1_setShare_X1_requireOwner rfl rfl rfl (by decide +kernel) ⟨Nat.le_of_ble_eq_true rfl, Nat.le_of_ble_eq_true rfl⟩) ⟨xh_blind, xh_pre hE hS hA⟩ rfl rfl hl.1 rfl (lv_room (Nat.le_of_ble_eq_true rfl)) dX1_setShare_1 ⟨Nat.le_of_ble_eq_true rfl, Nat.le_of_ble_eq_true rfl⟩) hS (fun q h1 h2 => absurd h2 (Nat.not_le.mpr h1)) (fun q h => hA q (Nat.le_trans hS.1 h)) (fun q h1 h2 => absurd h2 (Nat.not_le.mpr h1)) (fun E ce q9 u9 t9 H9 locs9 ht9 hvm9 hpx9 hB9 hz9 hk9 hS9 hce9 hcv9 hcl9 => vx_out (fun x h => (htab x h).elim) hlocks hce9 hcv9 hcl9 (fun t8 ht8 hvm8 => ⟨(), trivial, Or.inl ⟨hB9.1, fun z => hB9.2 z.1⟩, by rw [ht8]; exact hz9, fun q h1 h2 => by rw [ht8]; exact hk9 q h1 h2⟩) hS9.2.2 (Nat.le_refl _) (Nat.le_refl _)) (fun u t H1 locs1 ht hvm hw hB hz1 hk1 hS1 => absurd hw hin)
set_option maxHeartbeats 4000000 in
set_option maxRecDepth 100000 in
theorem mX1_setSwitchV (l : Launch) (D : va_G) (cI cZ cD : ClassId) (a : Nat → Nat) (sz : Nat) (sh sw ts : Nat → Int32) (bi : Nat → UInt64) (it tu : Nat → Int32) (ne : Nat → UInt64) (pr so lo : UInt64) (wt cn : Int32) (lp lz lu : Nat → UInt64) (lk : Nat → Int32) (ld lf lb lw : Nat → UInt64) (o : Nat) (can : Int32) (ho : o < 5) (hcan : can = 0 ∨ can = 1) (hsw : ∀ j, sw j = 0 ∨ sw j = 1) : Met l yX1_setSwitch wsX1_setSwitch ({ frames := 1, cells := 0, slots := 0, locals := 20 } : Room) (va_Pc [.ref (a 0), .int (nI o), .int can] (XP D cI cZ cD (XW a cI cZ cD sh sw ts bi it tu ne pr so lo wt cn lp lz lu lk ld lf lb lw) sz)) (va_Qi (fun (r : Int32) (u : Unit) => r = sw o) (fun (u : Unit) t => XB D cI cZ cD (XW a cI cZ cD sh (upd sw o can) ts bi it tu ne pr so lo wt cn lp lz lu lk ld lf lb lw) (va_A (XW a cI cZ cD sh sw ts bi it tu ne pr so lo wt cn lp lz lu lk ld lf lb lw) sz) t) (va_A (XW a cI cZ cD sh sw ts bi it tu ne pr so lo wt cn lp lz lu lk ld lf lb lw) sz)) 0 0 (va_A (XW a cI cZ cD sh sw ts bi it tu ne pr so lo wt cn lp lz lu lk ld lf lb lw) sz) := by
  refine Met.ofW (cc := cX1_setSwitch) (maxL := 4) (ret := (some .boolean)) (by decide +kernel) rfl ?_
  intro p e s m args below meth c s₁ B hml hv
  obtain ⟨rfl, hsz, hP, hK, hD0⟩ := hv
  have hx := B.exec
  have hb := B.bytes
  have hr := B.returns
  have hts := atoms_spec (ws := wsX1_setSwitch) B.pre
  have hown : s.vm.findClass RX1 = some m.cls := findClass_of_methodNamed B.named
  have hlocks := B.notSynchronized
  subst hsz
  have hD := hD0.self (sz := s.heap.size)
  generalize hAe : va_A (XW a cI cZ cD sh sw ts bi it tu ne pr so lo wt cn lp lz lu lk ld lf lb lw) s.heap.size = A at hD ⊢
  have hA : ∀ q : Nat, s.heap.size ≤ q → A q := fun q h => by rw [← hAe]; exact Or.inr h
  have hS : va_S A s.heap s.heap [] := va_S.rf
  have hl := lv_entry ([.ref (a 0), .int (nI o), .int can]) (n := 4) (Nat.le_of_ble_eq_true rfl)
  rw [lg_entry_eq]
  generalize (lg_sl ([.ref (a 0), .int (nI o), .int can]) ++ List.replicate (4 - (lg_sl ([.ref (a 0), .int (nI o), .int can])).length) Slot.unset).toArray = ls at hl ⊢
  have hl : lv_has ls 4 [(0, .ref (a 0)), (1, .int (nI o)), (2, .int can)] := hl
  have inX1 : ∀ w ∈ wsX10, w ∈ wsX1_setSwitch := by decide +kernel
  refine lv_iload_n hx hb dX1_setSwitch_0 rfl (lv_at hl 1 rfl) ?_
  refine va_csv (va_Run.run (va_runS (As := [.int (nI o)]) (rest := []) ⟨hx, hb, hml, hown, hts⟩ (mX1_requireOwnerV l (nI o) (nI_inR (n := 4) (by omega) (by decide))) (va_cwS 1 hts gX1_setSwitch_X1_requireOwner rfl rfl rfl (by decide +kernel) ⟨Nat.le_of_ble_eq_true rfl, Nat.le_of_ble_eq_true rfl⟩) ⟨fun a U g mk q => q, fun U hU hW => ⟨rfl, trivial⟩⟩ rfl rfl hl.1 rfl (lv_room (Nat.le_of_ble_eq_true rfl)) dX1_setSwitch_1 ⟨Nat.le_of_ble_eq_true rfl, Nat.le_of_ble_eq_true rfl⟩)) (fun _ => ?_)
  refine lv_aload_n hx hb dX1_setSwitch_4 rfl (lv_at hl 0 rfl) ?_
  refine va_get (D := D) (ci := 1) (v := .ref (a 2)) (C := RX1) (T := TX1) (N := 12) hx hb hts inX1 hown hK hP 0 rfl rfl 1 (by decide) (hts (.fieldLink RX1 13 "GridCommons" "switches" "[Z") (by decide +kernel)) (fun _ h9 => h9) rfl dX1_setSwitch_5 ?_
  refine lv_iload_n hx hb dX1_setSwitch_8 rfl (lv_at hl 1 rfl) ?_
  refine xk_zald hx hb hK hP 2 1 rfl rfl (o := o) (by omega) (by decide) dX1_setSwitch_9 ?_
  refine lv_istore_n (lv' := [(3, .int (sw o)), (0, .ref (a 0)), (1, .int (nI o)), (2, .int can)]) hx hb dX1_setSwitch_10 rfl hl (by decide) rfl (fun ls hl => ?_)
  refine lv_aload_n hx hb dX1_setSwitch_11 rfl (lv_at hl 1 rfl) ?_
  refine va_get (D := D) (ci := 1) (v := .ref (a 2)) (C := RX1) (T := TX1) (N := 12) hx hb hts inX1 hown hK hP 0 rfl rfl 1 (by decide) (hts (.fieldLink RX1 13 "GridCommons" "switches" "[Z") (by decide +kernel)) (fun _ h9 => h9) rfl dX1_setSwitch_12 ?_
  refine lv_iload_n hx hb dX1_setSwitch_15 rfl (lv_at hl 2 rfl) ?_
  refine lv_iload_n hx hb dX1_setSwitch_16 rfl (lv_at hl 3 rfl) ?_
  refine xk_zast (x' := can) hx hb hK hP hD hS 2 1 rfl rfl (o := o) (by omega) (by decide) (nar01 hcan) dX1_setSwitch_17 (fun H locs hP hD hS => ?_)
  have hP : va_P D vwCl (XW a cI cZ cD sh (upd sw o can) ts bi it tu ne pr so lo wt cn lp lz lu lk ld lf lb lw) H := hP
  have hD : va_D A (XW a cI cZ cD sh (upd sw o can) ts bi it tu ne pr so lo wt cn lp lz lu lk ld lf lb lw) := hD
  refine lv_iload_n hx hb dX1_setSwitch_18 rfl (lv_at hl 0 rfl) ?_
  exact W.zret hx hb hr (nar01n (hsw o)) (fun t ht hW => ⟨⟨_, (), rfl, rfl, by rw [ht]; exact hP, va_K.moved hW.alike hK, hD⟩, hS.F ht⟩) hS.2.2 dX1_setSwitch_19
set_option maxHeartbeats 4000000 in
set_option maxRecDepth 100000 in
theorem mX1_setSwitchX (l : Launch) (hst : l.stackTraces = false) (D : va_G) (cI cZ cD : ClassId) (a : Nat → Nat) (Hp : Heap) (sh sw ts : Nat → Int32) (bi : Nat → UInt64) (it tu : Nat → Int32) (ne : Nat → UInt64) (pr so lo : UInt64) (wt cn : Int32) (lp lz lu : Nat → UInt64) (lk : Nat → Int32) (ld lf lb lw : Nat → UInt64) (x can : Int32) (hbad : ¬ inR x 0 4) : vx_Met l yX1_setSwitch wsX1_setSwitch ({ frames := 7, cells := 1, slots := 6, locals := 102 } : Room) (va_Pc [.ref (a 0), .int x, .int can] (XQ D cI cZ cD (XW a cI cZ cD sh sw ts bi it tu ne pr so lo wt cn lp lz lu lk ld lf lb lw) Hp)) (va_Qi (fun _ (_ : Unit) => False) (fun _ _ => True) (fun q => Hp.size ≤ q)) (XE (fun E => E = "java/lang/IllegalArgumentException") Hp.size) 1 6 (fun q => Hp.size ≤ q) := by
  refine vx_ofW (cc := cX1_setSwitch) (maxL := 4) (ret := (some .boolean)) (by decide +kernel) rfl ?_
  intro p e s m args below meth c s₁ B hml htab hv
  obtain ⟨rfl, hsz, ⟨hP, hK, hD⟩, hE⟩ := hv
  have hx := B.exec
  have hb := B.bytes
  have hr := B.returns
  have hts := atoms_spec (ws := wsX1_setSwitch) B.pre
  have hown : s.vm.findClass RX1 = some m.cls := findClass_of_methodNamed B.named
  have hlocks := B.notSynchronized
  subst hsz
  have hA : ∀ q : Nat, s.heap.size ≤ q → (fun q => s.heap.size ≤ q) q := fun q h => h
  have hS : va_S (fun q => s.heap.size ≤ q) s.heap s.heap [] := va_S.rf
  have hl := lv_entry ([.ref (a 0), .int x, .int can]) (n := 4) (Nat.le_of_ble_eq_true rfl)
  rw [lg_entry_eq]
  generalize (lg_sl ([.ref (a 0), .int x, .int can]) ++ List.replicate (4 - (lg_sl ([.ref (a 0), .int x, .int can])).length) Slot.unset).toArray = ls at hl ⊢
  have hl : lv_has ls 4 [(0, .ref (a 0)), (1, .int x), (2, .int can)] := hl
  refine lv_iload_n hx hb dX1_setSwitch_0 rfl (lv_at hl 1 rfl) ?_
  exact vx_callv (vx_runS (As := [.int x]) (rest := []) ⟨hx, hb, hml, hown, hts⟩ (mX1_requireOwner l hst s.heap x) (va_cwS 1 hts gX1_setSwitch_X1_requireOwner rfl rfl rfl (by decide +kernel) ⟨Nat.le_of_ble_eq_true rfl, Nat.le_of_ble_eq_true rfl⟩) ⟨xh_blind, xh_pre hE hS hA⟩ rfl rfl hl.1 rfl (lv_room (Nat.le_of_ble_eq_true rfl)) dX1_setSwitch_1 ⟨Nat.le_of_ble_eq_true rfl, Nat.le_of_ble_eq_true rfl⟩) hS (fun q h1 h2 => absurd h2 (Nat.not_le.mpr h1)) (fun q h => hA q (Nat.le_trans hS.1 h)) (fun q h1 h2 => absurd h2 (Nat.not_le.mpr h1)) (fun E ce q9 u9 t9 H9 locs9 ht9 hvm9 hpx9 hB9 hz9 hk9 hS9 hce9 hcv9 hcl9 => vx_out (fun x h => (htab x h).elim) hlocks hce9 hcv9 hcl9 (fun t8 ht8 hvm8 => ⟨(), trivial, hB9.1, by rw [ht8]; exact hz9, fun q h1 h2 => by rw [ht8]; exact hk9 q h1 h2⟩) hS9.2.2 (Nat.le_refl _) (Nat.le_refl _)) (fun u t H1 locs1 ht hvm hw hB hz1 hk1 hS1 => absurd hw hbad)
set_option maxHeartbeats 4000000 in
set_option maxRecDepth 100000 in
theorem mX1_setPriceV (l : Launch) (D : va_G) (cI cZ cD : ClassId) (a : Nat → Nat) (sz : Nat) (sh sw ts : Nat → Int32) (bi : Nat → UInt64) (it tu : Nat → Int32) (ne : Nat → UInt64) (pr so lo : UInt64) (wt cn : Int32) (lp lz lu : Nat → UInt64) (lk : Nat → Int32) (ld lf lb lw : Nat → UInt64) (k : Nat) (hk : 1 ≤ k ∧ k < 5) : Met l yX1_setPrice wsX1_setPrice ({ frames := 1, cells := 0, slots := 0, locals := 22 } : Room) (va_Pc [.ref (a 0), .int (nI k)] (XP D cI cZ cD (XW a cI cZ cD sh sw ts bi it tu ne pr so lo wt cn lp lz lu lk ld lf lb lw) sz)) (va_Qd (fun (r : UInt64) (u : Unit) => r = FP.ddiv (FP.i2d (nI k)) 4616189618054758400) (fun (u : Unit) t => XB D cI cZ cD (XW a cI cZ cD sh sw ts bi it tu ne (FP.ddiv (FP.i2d (nI k)) 4616189618054758400) so lo wt cn lp lz lu lk ld lf lb lw) (va_A (XW a cI cZ cD sh sw ts bi it tu ne pr so lo wt cn lp lz lu lk ld lf lb lw) sz) t) (va_A (XW a cI cZ cD sh sw ts bi it tu ne pr so lo wt cn lp lz lu lk ld lf lb lw) sz)) 0 0 (va_A (XW a cI cZ cD sh sw ts bi it tu ne pr so lo wt cn lp lz lu lk ld lf lb lw) sz) := by
  refine Met.ofW (cc := cX1_setPrice) (maxL := 2) (ret := (some .double)) (by decide +kernel) rfl ?_
  intro p e s m args below meth c s₁ B hml hv
  obtain ⟨rfl, hsz, hP, hK, hD0⟩ := hv
  have hx := B.exec
  have hb := B.bytes
  have hr := B.returns
  have hts := atoms_spec (ws := wsX1_setPrice) B.pre
  have hown : s.vm.findClass RX1 = some m.cls := findClass_of_methodNamed B.named
  have hlocks := B.notSynchronized
  subst hsz
  have hD := hD0.self (sz := s.heap.size)
  generalize hAe : va_A (XW a cI cZ cD sh sw ts bi it tu ne pr so lo wt cn lp lz lu lk ld lf lb lw) s.heap.size = A at hD ⊢
  have hA : ∀ q : Nat, s.heap.size ≤ q → A q := fun q h => by rw [← hAe]; exact Or.inr h
  have hS : va_S A s.heap s.heap [] := va_S.rf
  have hl := lv_entry ([.ref (a 0), .int (nI k)]) (n := 2) (Nat.le_of_ble_eq_true rfl)
  rw [lg_entry_eq]
  generalize (lg_sl ([.ref (a 0), .int (nI k)]) ++ List.replicate (2 - (lg_sl ([.ref (a 0), .int (nI k)])).length) Slot.unset).toArray = ls at hl ⊢
  have hl : lv_has ls 2 [(0, .ref (a 0)), (1, .int (nI k))] := hl
  have inX1 : ∀ w ∈ wsX10, w ∈ wsX1_setPrice := by decide +kernel
  refine lv_iload_n hx hb dX1_setPrice_0 rfl (lv_at hl 1 rfl) ?_
  refine lv_iconst (v := nI 1) hx hb dX1_setPrice_1 (by decide) ?_
  refine lv_iconst (v := nI 4) hx hb dX1_setPrice_2 (by decide) ?_
  refine va_csv (va_Run.run (va_runS (As := [.int (nI k), .int (nI 1), .int (nI 4)]) (rest := []) ⟨hx, hb, hml, hown, hts⟩ (mX1_requireWithinV l (nI k) (nI 1) (nI 4) ⟨nI_le hk.1 (by omega), nI_le (by omega) (by decide)⟩) (va_cwS 3 hts gX1_setPrice_X1_requireWithin rfl rfl rfl (by decide +kernel) ⟨Nat.le_of_ble_eq_true rfl, Nat.le_of_ble_eq_true rfl⟩) ⟨fun a U g mk q => q, fun U hU hW => ⟨rfl, trivial⟩⟩ rfl rfl hl.1 rfl (lv_room (Nat.le_of_ble_eq_true rfl)) dX1_setPrice_3 ⟨Nat.le_of_ble_eq_true rfl, Nat.le_of_ble_eq_true rfl⟩)) (fun _ => ?_)
  refine lv_aload_n hx hb dX1_setPrice_6 rfl (lv_at hl 0 rfl) ?_
  refine lv_iload_n hx hb dX1_setPrice_7 rfl (lv_at hl 1 rfl) ?_
  refine lv_i2d hx hb dX1_setPrice_8 ?_
  refine lv_ldc2d hx hb hown (hts (.constantDouble RX1 75 4616189618054758400) (by decide +kernel)) dX1_setPrice_9 ?_
  refine lv_ddiv hx hb dX1_setPrice_12 (pr_ok k hk.2) ?_
  refine va_put (D := D) (ci := 1) (v := .double (FP.ddiv (FP.i2d (nI k)) 4616189618054758400)) (ty := .double) (C := RX1) (T := TX1) (N := 12) hx hb hts inX1 tyX1 tyX1_ok nmX1 hown hK hP hD hS 0 rfl rfl 7 (by decide) (hts (.fieldLink RX1 39 "GridCommons" "price" "D") (by decide +kernel)) (fun _ h9 => h9) rfl (by decide +kernel) rfl rfl (Nat.le_of_ble_eq_true rfl) dX1_setPrice_13 (fun H locs hP hD hS => ?_)
  have hP : va_P D vwCl (XW a cI cZ cD sh sw ts bi it tu ne (FP.ddiv (FP.i2d (nI k)) 4616189618054758400) so lo wt cn lp lz lu lk ld lf lb lw) H := hP
  have hD : va_D A (XW a cI cZ cD sh sw ts bi it tu ne (FP.ddiv (FP.i2d (nI k)) 4616189618054758400) so lo wt cn lp lz lu lk ld lf lb lw) := hD
  refine lv_aload_n hx hb dX1_setPrice_16 rfl (lv_at hl 0 rfl) ?_
  refine va_get (D := D) (ci := 1) (v := .double (FP.ddiv (FP.i2d (nI k)) 4616189618054758400)) (C := RX1) (T := TX1) (N := 12) hx hb hts inX1 hown hK hP 0 rfl rfl 7 (by decide) (hts (.fieldLink RX1 39 "GridCommons" "price" "D") (by decide +kernel)) (fun _ h9 => h9) rfl dX1_setPrice_17 ?_
  exact W.dret hx hb hr (fun t ht hW => ⟨⟨_, (), rfl, rfl, by rw [ht]; exact hP, va_K.moved hW.alike hK, hD⟩, hS.F ht⟩) hS.2.2 dX1_setPrice_20
set_option maxHeartbeats 4000000 in
set_option maxRecDepth 100000 in
theorem mX1_setPriceX (l : Launch) (hst : l.stackTraces = false) (D : va_G) (cI cZ cD : ClassId) (a : Nat → Nat) (Hp : Heap) (sh sw ts : Nat → Int32) (bi : Nat → UInt64) (it tu : Nat → Int32) (ne : Nat → UInt64) (pr so lo : UInt64) (wt cn : Int32) (lp lz lu : Nat → UInt64) (lk : Nat → Int32) (ld lf lb lw : Nat → UInt64) (x : Int32) (hbad : ¬ inR x 1 4) : vx_Met l yX1_setPrice wsX1_setPrice ({ frames := 7, cells := 1, slots := 6, locals := 104 } : Room) (va_Pc [.ref (a 0), .int x] (XQ D cI cZ cD (XW a cI cZ cD sh sw ts bi it tu ne pr so lo wt cn lp lz lu lk ld lf lb lw) Hp)) (va_Qd (fun _ (_ : Unit) => False) (fun _ _ => True) (fun q => Hp.size ≤ q)) (XE (fun E => E = "java/lang/IllegalArgumentException") Hp.size) 1 6 (fun q => Hp.size ≤ q) := by
  refine vx_ofW (cc := cX1_setPrice) (maxL := 2) (ret := (some .double)) (by decide +kernel) rfl ?_
  intro p e s m args below meth c s₁ B hml htab hv
  obtain ⟨rfl, hsz, ⟨hP, hK, hD⟩, hE⟩ := hv
  have hx := B.exec
  have hb := B.bytes
  have hr := B.returns
  have hts := atoms_spec (ws := wsX1_setPrice) B.pre
  have hown : s.vm.findClass RX1 = some m.cls := findClass_of_methodNamed B.named
  have hlocks := B.notSynchronized
  subst hsz
  have hA : ∀ q : Nat, s.heap.size ≤ q → (fun q => s.heap.size ≤ q) q := fun q h => h
  have hS : va_S (fun q => s.heap.size ≤ q) s.heap s.heap [] := va_S.rf
  have hl := lv_entry ([.ref (a 0), .int x]) (n := 2) (Nat.le_of_ble_eq_true rfl)
  rw [lg_entry_eq]
  generalize (lg_sl ([.ref (a 0), .int x]) ++ List.replicate (2 - (lg_sl ([.ref (a 0), .int x])).length) Slot.unset).toArray = ls at hl ⊢
  have hl : lv_has ls 2 [(0, .ref (a 0)), (1, .int x)] := hl
  refine lv_iload_n hx hb dX1_setPrice_0 rfl (lv_at hl 1 rfl) ?_
  refine lv_iconst (v := nI 1) hx hb dX1_setPrice_1 (by decide) ?_
  refine lv_iconst (v := nI 4) hx hb dX1_setPrice_2 (by decide) ?_
  exact vx_callv (vx_runS (As := [.int x, .int (nI 1), .int (nI 4)]) (rest := []) ⟨hx, hb, hml, hown, hts⟩ (mX1_requireWithin l hst s.heap x (nI 1) (nI 4)) (va_cwS 3 hts gX1_setPrice_X1_requireWithin rfl rfl rfl (by decide +kernel) ⟨Nat.le_of_ble_eq_true rfl, Nat.le_of_ble_eq_true rfl⟩) ⟨xh_blind, xh_pre hE hS hA⟩ rfl rfl hl.1 rfl (lv_room (Nat.le_of_ble_eq_true rfl)) dX1_setPrice_3 ⟨Nat.le_of_ble_eq_true rfl, Nat.le_of_ble_eq_true rfl⟩) hS (fun q h1 h2 => absurd h2 (Nat.not_le.mpr h1)) (fun q h => hA q (Nat.le_trans hS.1 h)) (fun q h1 h2 => absurd h2 (Nat.not_le.mpr h1)) (fun E ce q9 u9 t9 H9 locs9 ht9 hvm9 hpx9 hB9 hz9 hk9 hS9 hce9 hcv9 hcl9 => vx_out (fun x h => (htab x h).elim) hlocks hce9 hcv9 hcl9 (fun t8 ht8 hvm8 => ⟨(), trivial, hB9.1, by rw [ht8]; exact hz9, fun q h1 h2 => by rw [ht8]; exact hk9 q h1 h2⟩) hS9.2.2 (Nat.le_refl _) (Nat.le_refl _)) (fun u t H1 locs1 ht hvm hw hB hz1 hk1 hS1 => absurd hw hbad)
set_option maxHeartbeats 4000000 in
set_option maxRecDepth 100000 in
theorem mX1_tellV (l : Launch) (D : va_G) (cI cZ cD : ClassId) (a : Nat → Nat) (sz : Nat) (sh sw ts : Nat → Int32) (bi : Nat → UInt64) (it tu : Nat → Int32) (ne : Nat → UInt64) (pr so lo : UInt64) (wt cn : Int32) (lp lz lu : Nat → UInt64) (lk : Nat → Int32) (ld lf lb lw : Nat → UInt64) (o : Nat) (use : Int32) (ho : o < 5) (hus : inR use 0 50) (hit : ∀ j, it j = 0 ∨ it j = 1) : Met l yX1_tell wsX1_tell ({ frames := 1, cells := 0, slots := 0, locals := 22 } : Room) (va_Pc [.ref (a 0), .int (nI o), .int use] (XP D cI cZ cD (XW a cI cZ cD sh sw ts bi it tu ne pr so lo wt cn lp lz lu lk ld lf lb lw) sz)) (va_Qi (fun (r : Int32) (u : Unit) => r = it o) (fun (u : Unit) t => XB D cI cZ cD (XW a cI cZ cD sh sw ts bi (upd it o 1) (upd tu o use) ne pr so lo wt cn lp lz lu lk ld lf lb lw) (va_A (XW a cI cZ cD sh sw ts bi it tu ne pr so lo wt cn lp lz lu lk ld lf lb lw) sz) t) (va_A (XW a cI cZ cD sh sw ts bi it tu ne pr so lo wt cn lp lz lu lk ld lf lb lw) sz)) 0 0 (va_A (XW a cI cZ cD sh sw ts bi it tu ne pr so lo wt cn lp lz lu lk ld lf lb lw) sz) := by
  refine Met.ofW (cc := cX1_tell) (maxL := 4) (ret := (some .boolean)) (by decide +kernel) rfl ?_
  intro p e s m args below meth c s₁ B hml hv
  obtain ⟨rfl, hsz, hP, hK, hD0⟩ := hv
  have hx := B.exec
  have hb := B.bytes
  have hr := B.returns
  have hts := atoms_spec (ws := wsX1_tell) B.pre
  have hown : s.vm.findClass RX1 = some m.cls := findClass_of_methodNamed B.named
  have hlocks := B.notSynchronized
  subst hsz
  have hD := hD0.self (sz := s.heap.size)
  generalize hAe : va_A (XW a cI cZ cD sh sw ts bi it tu ne pr so lo wt cn lp lz lu lk ld lf lb lw) s.heap.size = A at hD ⊢
  have hA : ∀ q : Nat, s.heap.size ≤ q → A q := fun q h => by rw [← hAe]; exact Or.inr h
  have hS : va_S A s.heap s.heap [] := va_S.rf
  have hl := lv_entry ([.ref (a 0), .int (nI o), .int use]) (n := 4) (Nat.le_of_ble_eq_true rfl)
  rw [lg_entry_eq]
  generalize (lg_sl ([.ref (a 0), .int (nI o), .int use]) ++ List.replicate (4 - (lg_sl ([.ref (a 0), .int (nI o), .int use])).length) Slot.unset).toArray = ls at hl ⊢
  have hl : lv_has ls 4 [(0, .ref (a 0)), (1, .int (nI o)), (2, .int use)] := hl
  have inX1 : ∀ w ∈ wsX10, w ∈ wsX1_tell := by decide +kernel
  refine lv_iload_n hx hb dX1_tell_0 rfl (lv_at hl 1 rfl) ?_
  refine va_csv (va_Run.run (va_runS (As := [.int (nI o)]) (rest := []) ⟨hx, hb, hml, hown, hts⟩ (mX1_requireOwnerV l (nI o) (nI_inR (n := 4) (by omega) (by decide))) (va_cwS 1 hts gX1_tell_X1_requireOwner rfl rfl rfl (by decide +kernel) ⟨Nat.le_of_ble_eq_true rfl, Nat.le_of_ble_eq_true rfl⟩) ⟨fun a U g mk q => q, fun U hU hW => ⟨rfl, trivial⟩⟩ rfl rfl hl.1 rfl (lv_room (Nat.le_of_ble_eq_true rfl)) dX1_tell_1 ⟨Nat.le_of_ble_eq_true rfl, Nat.le_of_ble_eq_true rfl⟩)) (fun _ => ?_)
  refine lv_iload_n hx hb dX1_tell_4 rfl (lv_at hl 2 rfl) ?_
  refine lv_iconst (v := nI 0) hx hb dX1_tell_5 (by decide) ?_
  refine lv_bipush (v := nI 50) hx hb dX1_tell_6 (by decide) ?_
  refine va_csv (va_Run.run (va_runS (As := [.int use, .int (nI 0), .int (nI 50)]) (rest := []) ⟨hx, hb, hml, hown, hts⟩ (mX1_requireWithinV l use (nI 0) (nI 50) hus) (va_cwS 3 hts gX1_tell_X1_requireWithin rfl rfl rfl (by decide +kernel) ⟨Nat.le_of_ble_eq_true rfl, Nat.le_of_ble_eq_true rfl⟩) ⟨fun a U g mk q => q, fun U hU hW => ⟨rfl, trivial⟩⟩ rfl rfl hl.1 rfl (lv_room (Nat.le_of_ble_eq_true rfl)) dX1_tell_8 ⟨Nat.le_of_ble_eq_true rfl, Nat.le_of_ble_eq_true rfl⟩)) (fun _ => ?_)
  refine lv_aload_n hx hb dX1_tell_11 rfl (lv_at hl 0 rfl) ?_
  refine va_get (D := D) (ci := 1) (v := .ref (a 5)) (C := RX1) (T := TX1) (N := 12) hx hb hts inX1 hown hK hP 0 rfl rfl 4 (by decide) (hts (.fieldLink RX1 24 "GridCommons" "isTold" "[Z") (by decide +kernel)) (fun _ h9 => h9) rfl dX1_tell_12 ?_
  refine lv_iload_n hx hb dX1_tell_15 rfl (lv_at hl 1 rfl) ?_
  refine xk_zald hx hb hK hP 5 1 rfl rfl (o := o) (by omega) (by decide) dX1_tell_16 ?_
  refine lv_istore_n (lv' := [(3, .int (it o)), (0, .ref (a 0)), (1, .int (nI o)), (2, .int use)]) hx hb dX1_tell_17 rfl hl (by decide) rfl (fun ls hl => ?_)
  refine lv_aload_n hx hb dX1_tell_18 rfl (lv_at hl 1 rfl) ?_
  refine va_get (D := D) (ci := 1) (v := .ref (a 5)) (C := RX1) (T := TX1) (N := 12) hx hb hts inX1 hown hK hP 0 rfl rfl 4 (by decide) (hts (.fieldLink RX1 24 "GridCommons" "isTold" "[Z") (by decide +kernel)) (fun _ h9 => h9) rfl dX1_tell_19 ?_
  refine lv_iload_n hx hb dX1_tell_22 rfl (lv_at hl 2 rfl) ?_
  refine lv_iconst (v := nI 1) hx hb dX1_tell_23 (by decide) ?_
  refine xk_zast (x' := 1) hx hb hK hP hD hS 5 1 rfl rfl (o := o) (by omega) (by decide) rfl dX1_tell_24 (fun H locs hP hD hS => ?_)
  have hP : va_P D vwCl (XW a cI cZ cD sh sw ts bi (upd it o 1) tu ne pr so lo wt cn lp lz lu lk ld lf lb lw) H := hP
  have hD : va_D A (XW a cI cZ cD sh sw ts bi (upd it o 1) tu ne pr so lo wt cn lp lz lu lk ld lf lb lw) := hD
  refine lv_aload_n hx hb dX1_tell_25 rfl (lv_at hl 1 rfl) ?_
  refine va_get (D := D) (ci := 1) (v := .ref (a 6)) (C := RX1) (T := TX1) (N := 12) hx hb hts inX1 hown hK hP 0 rfl rfl 5 (by decide) (hts (.fieldLink RX1 27 "GridCommons" "toldUse" "[I") (by decide +kernel)) (fun _ h9 => h9) rfl dX1_tell_26 ?_
  refine lv_iload_n hx hb dX1_tell_29 rfl (lv_at hl 2 rfl) ?_
  refine lv_iload_n hx hb dX1_tell_30 rfl (lv_at hl 3 rfl) ?_
  refine xk_iast hx hb hK hP hD hS 6 0 rfl rfl (o := o) (by omega) (by decide) dX1_tell_31 (fun H locs hP hD hS => ?_)
  have hP : va_P D vwCl (XW a cI cZ cD sh sw ts bi (upd it o 1) (upd tu o use) ne pr so lo wt cn lp lz lu lk ld lf lb lw) H := hP
  have hD : va_D A (XW a cI cZ cD sh sw ts bi (upd it o 1) (upd tu o use) ne pr so lo wt cn lp lz lu lk ld lf lb lw) := hD
  refine lv_iload_n hx hb dX1_tell_32 rfl (lv_at hl 0 rfl) ?_
  exact W.zret hx hb hr (nar01n (hit o)) (fun t ht hW => ⟨⟨_, (), rfl, rfl, by rw [ht]; exact hP, va_K.moved hW.alike hK, hD⟩, hS.F ht⟩) hS.2.2 dX1_tell_33
set_option maxHeartbeats 4000000 in
set_option maxRecDepth 100000 in
theorem mX1_tellX (l : Launch) (hst : l.stackTraces = false) (D : va_G) (cI cZ cD : ClassId) (a : Nat → Nat) (Hp : Heap) (sh sw ts : Nat → Int32) (bi : Nat → UInt64) (it tu : Nat → Int32) (ne : Nat → UInt64) (pr so lo : UInt64) (wt cn : Int32) (lp lz lu : Nat → UInt64) (lk : Nat → Int32) (ld lf lb lw : Nat → UInt64) (x use : Int32) (hbad : ¬ (inR x 0 4 ∧ inR use 0 50)) : vx_Met l yX1_tell wsX1_tell ({ frames := 7, cells := 1, slots := 6, locals := 104 } : Room) (va_Pc [.ref (a 0), .int x, .int use] (XQ D cI cZ cD (XW a cI cZ cD sh sw ts bi it tu ne pr so lo wt cn lp lz lu lk ld lf lb lw) Hp)) (va_Qi (fun _ (_ : Unit) => False) (fun _ _ => True) (fun q => Hp.size ≤ q)) (XE (fun E => E = "java/lang/IllegalArgumentException") Hp.size) 1 6 (fun q => Hp.size ≤ q) := by
  refine vx_ofW (cc := cX1_tell) (maxL := 4) (ret := (some .boolean)) (by decide +kernel) rfl ?_
  intro p e s m args below meth c s₁ B hml htab hv
  obtain ⟨rfl, hsz, ⟨hP, hK, hD⟩, hE⟩ := hv
  have hx := B.exec
  have hb := B.bytes
  have hr := B.returns
  have hts := atoms_spec (ws := wsX1_tell) B.pre
  have hown : s.vm.findClass RX1 = some m.cls := findClass_of_methodNamed B.named
  have hlocks := B.notSynchronized
  subst hsz
  have hA : ∀ q : Nat, s.heap.size ≤ q → (fun q => s.heap.size ≤ q) q := fun q h => h
  have hS : va_S (fun q => s.heap.size ≤ q) s.heap s.heap [] := va_S.rf
  have hl := lv_entry ([.ref (a 0), .int x, .int use]) (n := 4) (Nat.le_of_ble_eq_true rfl)
  rw [lg_entry_eq]
  generalize (lg_sl ([.ref (a 0), .int x, .int use]) ++ List.replicate (4 - (lg_sl ([.ref (a 0), .int x, .int use])).length) Slot.unset).toArray = ls at hl ⊢
  have hl : lv_has ls 4 [(0, .ref (a 0)), (1, .int x), (2, .int use)] := hl
  refine lv_iload_n hx hb dX1_tell_0 rfl (lv_at hl 1 rfl) ?_
  by_cases hin : inR x 0 4
  · skip
    refine va_csv (va_Run.run (va_runS (As := [.int x]) (rest := []) ⟨hx, hb, hml, hown, hts⟩ (mX1_requireOwnerV l x hin) (va_cwS 1 hts gX1_tell_X1_requireOwner rfl rfl rfl (by decide +kernel) ⟨Nat.le_of_ble_eq_true rfl, Nat.le_of_ble_eq_true rfl⟩) ⟨fun a U g mk q => q, fun U hU hW => ⟨rfl, trivial⟩⟩ rfl rfl hl.1 rfl (lv_room (Nat.le_of_ble_eq_true rfl)) dX1_tell_1 ⟨Nat.le_of_ble_eq_true rfl, Nat.le_of_ble_eq_true rfl⟩)) (fun _ => ?_)
    refine lv_iload_n hx hb dX1_tell_4 rfl (lv_at hl 2 rfl) ?_
    refine lv_iconst (v := nI 0) hx hb dX1_tell_5 (by decide) ?_
    refine lv_bipush (v := nI 50) hx hb dX1_tell_6 (by decide) ?_
    exact vx_callv (vx_runS (As := [.int use, .int (nI 0), .int (nI 50)]) (rest := []) ⟨hx, hb, hml, hown, hts⟩ (mX1_requireWithin l hst s.heap use (nI 0) (nI 50)) (va_cwS 3 hts gX1_tell_X1_requireWithin rfl rfl rfl (by decide +kernel) ⟨Nat.le_of_ble_eq_true rfl, Nat.le_of_ble_eq_true rfl⟩) ⟨xh_blind, xh_pre hE hS hA⟩ rfl rfl hl.1 rfl (lv_room (Nat.le_of_ble_eq_true rfl)) dX1_tell_8 ⟨Nat.le_of_ble_eq_true rfl, Nat.le_of_ble_eq_true rfl⟩) hS (fun q h1 h2 => absurd h2 (Nat.not_le.mpr h1)) (fun q h => hA q (Nat.le_trans hS.1 h)) (fun q h1 h2 => absurd h2 (Nat.not_le.mpr h1)) (fun E ce q9 u9 t9 H9 locs9 ht9 hvm9 hpx9 hB9 hz9 hk9 hS9 hce9 hcv9 hcl9 => vx_out (fun x h => (htab x h).elim) hlocks hce9 hcv9 hcl9 (fun t8 ht8 hvm8 => ⟨(), trivial, hB9.1, by rw [ht8]; exact hz9, fun q h1 h2 => by rw [ht8]; exact hk9 q h1 h2⟩) hS9.2.2 (Nat.le_refl _) (Nat.le_refl _)) (fun u t H1 locs1 ht hvm hw hB hz1 hk1 hS1 => absurd ⟨hin, hw⟩ hbad)
  · skip
    exact vx_callv (vx_runS (As := [.int x]) (rest := []) ⟨hx, hb, hml, hown, hts⟩ (mX1_requireOwner l hst s.heap x) (va_cwS 1 hts gX1_tell_X1_requireOwner rfl rfl rfl (by decide +kernel) ⟨Nat.le_of_ble_eq_true rfl, Nat.le_of_ble_eq_true rfl⟩) ⟨xh_blind, xh_pre hE hS hA⟩ rfl rfl hl.1 rfl (lv_room (Nat.le_of_ble_eq_true rfl)) dX1_tell_1 ⟨Nat.le_of_ble_eq_true rfl, Nat.le_of_ble_eq_true rfl⟩) hS (fun q h1 h2 => absurd h2 (Nat.not_le.mpr h1)) (fun q h => hA q (Nat.le_trans hS.1 h)) (fun q h1 h2 => absurd h2 (Nat.not_le.mpr h1)) (fun E ce q9 u9 t9 H9 locs9 ht9 hvm9 hpx9 hB9 hz9 hk9 hS9 hce9 hcv9 hcl9 => vx_out (fun x h => (htab x h).elim) hlocks hce9 hcv9 hcl9 (fun t8 ht8 hvm8 => ⟨(), trivial, hB9.1, by rw [ht8]; exact hz9, fun q h1 h2 => by rw [ht8]; exact hk9 q h1 h2⟩) hS9.2.2 (Nat.le_refl _) (Nat.le_refl _)) (fun u t H1 locs1 ht hvm hw hB hz1 hk1 hS1 => absurd hw hin)
set_option maxHeartbeats 4000000 in
set_option maxRecDepth 100000 in
theorem mX1_replaceV (l : Launch) (D : va_G) (cI cZ cD : ClassId) (a : Nat → Nat) (sz : Nat) (sh sw ts : Nat → Int32) (bi : Nat → UInt64) (it tu : Nat → Int32) (ne : Nat → UInt64) (pr so lo : UInt64) (wt : Int32) (lp lz lu : Nat → UInt64) (lk : Nat → Int32) (ld lf lb lw : Nat → UInt64) (n o q : Nat) (use : Int32) (hn : n ≤ 60) (ho : o < 5) (hq : q < n) (hus : inR use 0 50) (hkn : lk (5 * q + o) = 0) : MetD lw_cs l yX1_replace wsX1_replace ({ frames := 1, cells := 0, slots := 0, locals := 22 } : Room) (va_Pc [.ref (a 0), .int (nI o), .int (nI q), .int use] (XP D cI cZ cD (XW a cI cZ cD sh sw ts bi it tu ne pr so lo wt (nI n) lp lz lu lk ld lf lb lw) sz)) (va_Qd (fun (r : UInt64) (u : Nat → UInt64) => dt r = dMul (dSub (dI use) (dts ld (5 * q + o))) (dts lp q) ∧ dts u = va_up (dts bi) o (dAdd (dts bi o) (dMul (dSub (dI use) (dts ld (5 * q + o))) (dts lp q)))) (fun (u : Nat → UInt64) t => XB D cI cZ cD (XW a cI cZ cD sh sw ts u it tu ne pr so lo wt (nI n) lp lz (vf_upd lu (5 * q + o) (FP.i2d use)) (upd lk (5 * q + o) 1) ld lf lb lw) (va_A (XW a cI cZ cD sh sw ts bi it tu ne pr so lo wt (nI n) lp lz lu lk ld lf lb lw) sz) t) (va_A (XW a cI cZ cD sh sw ts bi it tu ne pr so lo wt (nI n) lp lz lu lk ld lf lb lw) sz)) 0 0 (va_A (XW a cI cZ cD sh sw ts bi it tu ne pr so lo wt (nI n) lp lz lu lk ld lf lb lw) sz) := by
  refine MetD.ofW (cc := cX1_replace) (maxL := 7) (ret := (some .double)) (by decide +kernel) rfl ?_
  intro p e s m args below meth c s₁ B hml hv hd0
  obtain ⟨rfl, hsz, hP, hK, hD0⟩ := hv
  have hx := B.exec
  have hb := B.bytes
  have hr := B.returns
  have hts := atoms_spec (ws := wsX1_replace) B.pre
  have hown : s.vm.findClass RX1 = some m.cls := findClass_of_methodNamed B.named
  have hlocks := B.notSynchronized
  subst hsz
  have hD := hD0.self (sz := s.heap.size)
  generalize hAe : va_A (XW a cI cZ cD sh sw ts bi it tu ne pr so lo wt (nI n) lp lz lu lk ld lf lb lw) s.heap.size = A at hD ⊢
  have hA : ∀ q : Nat, s.heap.size ≤ q → A q := fun q h => by rw [← hAe]; exact Or.inr h
  have hS : va_S A s.heap s.heap [] := va_S.rf
  have hl := lv_entry ([.ref (a 0), .int (nI o), .int (nI q), .int use]) (n := 7) (Nat.le_of_ble_eq_true rfl)
  rw [lg_entry_eq]
  generalize (lg_sl ([.ref (a 0), .int (nI o), .int (nI q), .int use]) ++ List.replicate (7 - (lg_sl ([.ref (a 0), .int (nI o), .int (nI q), .int use])).length) Slot.unset).toArray = ls at hl ⊢
  have hl : lv_has ls 7 [(0, .ref (a 0)), (1, .int (nI o)), (2, .int (nI q)), (3, .int use)] := hl
  have inX1 : ∀ w ∈ wsX10, w ∈ wsX1_replace := by decide +kernel
  have inX0 : ∀ w ∈ wsX00, w ∈ wsX1_replace := by decide +kernel
  refine lv_iload_n hx hb dX1_replace_0 rfl (lv_at hl 1 rfl) ?_
  refine va_csv (va_Run.run (va_runS (As := [.int (nI o)]) (rest := []) ⟨hx, hb, hml, (xk_od hown), (dr_words hts _)⟩ (mX1_requireOwnerV l (nI o) (nI_inR (n := 4) (by omega) (by decide))) (va_cwS 1 (dr_words hts _) gX1_replace_X1_requireOwner rfl rfl rfl (by decide +kernel) ⟨Nat.le_of_ble_eq_true rfl, Nat.le_of_ble_eq_true rfl⟩) ⟨fun a U g mk q => q, fun U hU hW => ⟨rfl, trivial⟩⟩ rfl rfl hl.1 rfl (lv_room (Nat.le_of_ble_eq_true rfl)) dX1_replace_1 ⟨Nat.le_of_ble_eq_true rfl, Nat.le_of_ble_eq_true rfl⟩)) (fun _ => ?_)
  refine lv_iload_n hx hb dX1_replace_4 rfl (lv_at hl 3 rfl) ?_
  refine lv_iconst (v := nI 0) hx hb dX1_replace_5 (by decide) ?_
  refine lv_bipush (v := nI 50) hx hb dX1_replace_6 (by decide) ?_
  refine va_csv (va_Run.run (va_runS (As := [.int use, .int (nI 0), .int (nI 50)]) (rest := []) ⟨hx, hb, hml, (xk_od hown), (dr_words hts _)⟩ (mX1_requireWithinV l use (nI 0) (nI 50) hus) (va_cwS 3 (dr_words hts _) gX1_replace_X1_requireWithin rfl rfl rfl (by decide +kernel) ⟨Nat.le_of_ble_eq_true rfl, Nat.le_of_ble_eq_true rfl⟩) ⟨fun a U g mk q => q, fun U hU hW => ⟨rfl, trivial⟩⟩ rfl rfl hl.1 rfl (lv_room (Nat.le_of_ble_eq_true rfl)) dX1_replace_8 ⟨Nat.le_of_ble_eq_true rfl, Nat.le_of_ble_eq_true rfl⟩)) (fun _ => ?_)
  refine lv_aload_n hx hb dX1_replace_11 rfl (lv_at hl 0 rfl) ?_
  refine lv_iload_n hx hb dX1_replace_12 rfl (lv_at hl 2 rfl) ?_
  refine va_csv (va_Run.run (va_runV (As := [.int (nI q)]) (rest := []) ⟨hx, hb, hml, (xk_od hown), (dr_words hts _)⟩ (mX1_requireQuarterV l D cI cZ cD a _ sh sw ts bi it tu ne pr so lo wt lp lz lu lk ld lf lb lw n (nI q) ⟨nI_pos' (by omega), nI_lt hq (by omega)⟩) (cwV 1 (dr_words hts _) gX1_replace_X1_requireQuarter rfl rfl rfl (by decide +kernel) ⟨Nat.le_of_ble_eq_true rfl, Nat.le_of_ble_eq_true rfl⟩) ⟨xk_blind, va_recv (xk_Kd hK) hP (ci := 1) (q0 := 0) rfl rfl, xk_pre hP (xk_Kd hK) hD⟩ rfl rfl hl.1 rfl (lv_room (Nat.le_of_ble_eq_true rfl)) dX1_replace_13 ⟨Nat.le_of_ble_eq_true rfl, Nat.le_of_ble_eq_true rfl⟩)) (fun _ => ?_)
  refine lv_iload_n hx hb dX1_replace_16 rfl (lv_at hl 1 rfl) ?_
  refine lv_iload_n hx hb dX1_replace_17 rfl (lv_at hl 2 rfl) ?_
  refine vp_callSi (va_Run.run (va_runS (As := [.int (nI o), .int (nI q)]) (rest := []) ⟨hx, hb, hml, (xk_od hown), (dr_words hts _)⟩ (mX0_slot l o q) (va_cwS 2 (dr_words hts _) gX1_replace_X0_slot rfl rfl rfl (by decide +kernel) ⟨Nat.le_of_ble_eq_true rfl, Nat.le_of_ble_eq_true rfl⟩) ⟨fun a U g mk q => q, fun U hU hW => ⟨rfl, trivial⟩⟩ rfl rfl hl.1 rfl (lv_room (Nat.le_of_ble_eq_true rfl)) dX1_replace_18 ⟨Nat.le_of_ble_eq_true rfl, Nat.le_of_ble_eq_true rfl⟩)) (fun r hr1 => ?_)
  subst hr1
  refine lv_istore (lv' := [(4, .int (nI (5 * q + o))), (0, .ref (a 0)), (1, .int (nI o)), (2, .int (nI q)), (3, .int use)]) hx hb dX1_replace_21 hl (by decide) rfl (fun ls hl => ?_)
  refine lv_aload_n hx hb dX1_replace_23 rfl (lv_at hl 1 rfl) ?_
  refine va_get (D := D) (ci := 1) (v := .ref (a 8)) (C := RX1) (T := TX1) (N := 12) hx hb (dr_words hts _) inX1 (xk_od hown) (xk_Kd hK) hP 0 rfl rfl 6 (by decide) (dr_words hts _ (.fieldLink RX1 33 "GridCommons" "ledger" "LGridCommons$Ledger;") (by decide +kernel)) (fun _ h9 => h9) rfl dX1_replace_24 ?_
  refine va_get (D := D) (ci := 0) (v := .ref (a 12)) (C := RX0) (T := TX0) (N := 9) hx hb (dr_words hts _) inX0 (xk_od hown) (xk_Kd hK) hP 8 rfl rfl 4 (by decide) (dr_words hts _ (.fieldLink RX1 120 "GridCommons$Ledger" "known" "[Z") (by decide +kernel)) (fun _ h9 => h9) rfl dX1_replace_27 ?_
  refine lv_iload hx hb dX1_replace_30 (lv_at hl 0 rfl) ?_
  refine xk_zald hx hb (xk_Kd hK) hP 12 1 rfl rfl (o := (5 * q + o)) (by omega) (by decide) dX1_replace_32 ?_
  refine lv_if_eq (tgt := 46) hx hb dX1_replace_33 (by decide) (fun c => ?_) (fun c => ?_)
  · skip
    refine lv_aload_n hx hb dX1_replace_46 rfl (lv_at hl 1 rfl) ?_
    refine va_get (D := D) (ci := 1) (v := .ref (a 8)) (C := RX1) (T := TX1) (N := 12) hx hb (dr_words hts _) inX1 (xk_od hown) (xk_Kd hK) hP 0 rfl rfl 6 (by decide) (dr_words hts _ (.fieldLink RX1 33 "GridCommons" "ledger" "LGridCommons$Ledger;") (by decide +kernel)) (fun _ h9 => h9) rfl dX1_replace_47 ?_
    refine va_get (D := D) (ci := 0) (v := .ref (a 12)) (C := RX0) (T := TX0) (N := 9) hx hb (dr_words hts _) inX0 (xk_od hown) (xk_Kd hK) hP 8 rfl rfl 4 (by decide) (dr_words hts _ (.fieldLink RX1 120 "GridCommons$Ledger" "known" "[Z") (by decide +kernel)) (fun _ h9 => h9) rfl dX1_replace_50 ?_
    refine lv_iload hx hb dX1_replace_53 (lv_at hl 0 rfl) ?_
    refine lv_iconst (v := nI 1) hx hb dX1_replace_55 (by decide) ?_
    refine xk_zast (x' := 1) hx hb (xk_Kd hK) hP hD hS 12 1 rfl rfl (o := (5 * q + o)) (by omega) (by decide) rfl dX1_replace_56 (fun H locs hP hD hS => ?_)
    have hP : va_P D vwCl (XW a cI cZ cD sh sw ts bi it tu ne pr so lo wt (nI n) lp lz lu (upd lk (5 * q + o) 1) ld lf lb lw) H := hP
    have hD : va_D A (XW a cI cZ cD sh sw ts bi it tu ne pr so lo wt (nI n) lp lz lu (upd lk (5 * q + o) 1) ld lf lb lw) := hD
    refine lv_aload_n hx hb dX1_replace_57 rfl (lv_at hl 1 rfl) ?_
    refine va_get (D := D) (ci := 1) (v := .ref (a 8)) (C := RX1) (T := TX1) (N := 12) hx hb (dr_words hts _) inX1 (xk_od hown) (xk_Kd hK) hP 0 rfl rfl 6 (by decide) (dr_words hts _ (.fieldLink RX1 33 "GridCommons" "ledger" "LGridCommons$Ledger;") (by decide +kernel)) (fun _ h9 => h9) rfl dX1_replace_58 ?_
    refine va_get (D := D) (ci := 0) (v := .ref (a 11)) (C := RX0) (T := TX0) (N := 9) hx hb (dr_words hts _) inX0 (xk_od hown) (xk_Kd hK) hP 8 rfl rfl 3 (by decide) (dr_words hts _ (.fieldLink RX1 125 "GridCommons$Ledger" "use" "[D") (by decide +kernel)) (fun _ h9 => h9) rfl dX1_replace_61 ?_
    refine lv_iload hx hb dX1_replace_64 (lv_at hl 0 rfl) ?_
    refine lv_iload_n hx hb dX1_replace_66 rfl (lv_at hl 4 rfl) ?_
    refine lv_i2d hx hb dX1_replace_67 ?_
    refine xk_dast hx hb (xk_Kd hK) hP hD hS 11 2 rfl rfl (o := (5 * q + o)) (by omega) (by decide) dX1_replace_68 (fun H locs hP hD hS => ?_)
    have hP : va_P D vwCl (XW a cI cZ cD sh sw ts bi it tu ne pr so lo wt (nI n) lp lz (vf_upd lu (5 * q + o) (FP.i2d use)) (upd lk (5 * q + o) 1) ld lf lb lw) H := hP
    have hD : va_D A (XW a cI cZ cD sh sw ts bi it tu ne pr so lo wt (nI n) lp lz (vf_upd lu (5 * q + o) (FP.i2d use)) (upd lk (5 * q + o) 1) ld lf lb lw) := hD
    refine lv_iload_n hx hb dX1_replace_69 rfl (lv_at hl 4 rfl) ?_
    refine lv_i2d hx hb dX1_replace_70 ?_
    refine lv_aload_n hx hb dX1_replace_71 rfl (lv_at hl 1 rfl) ?_
    refine va_get (D := D) (ci := 1) (v := .ref (a 8)) (C := RX1) (T := TX1) (N := 12) hx hb (dr_words hts _) inX1 (xk_od hown) (xk_Kd hK) hP 0 rfl rfl 6 (by decide) (dr_words hts _ (.fieldLink RX1 33 "GridCommons" "ledger" "LGridCommons$Ledger;") (by decide +kernel)) (fun _ h9 => h9) rfl dX1_replace_72 ?_
    refine va_get (D := D) (ci := 0) (v := .ref (a 13)) (C := RX0) (T := TX0) (N := 9) hx hb (dr_words hts _) inX0 (xk_od hown) (xk_Kd hK) hP 8 rfl rfl 5 (by decide) (dr_words hts _ (.fieldLink RX1 128 "GridCommons$Ledger" "used" "[D") (by decide +kernel)) (fun _ h9 => h9) rfl dX1_replace_75 ?_
    refine lv_iload hx hb dX1_replace_78 (lv_at hl 0 rfl) ?_
    refine xk_dald hx hb (xk_Kd hK) hP 13 2 rfl rfl (o := (5 * q + o)) (by omega) (by decide) dX1_replace_80 ?_
    refine lv_dsub_any hd0 lw_bits hx hb dX1_replace_81 (fun r1 _ hal hd2 => ?_)
    have er1 := dt_sub hal
    refine lv_aload_n hx hb dX1_replace_82 rfl (lv_at hl 1 rfl) ?_
    refine va_get (D := D) (ci := 1) (v := .ref (a 8)) (C := RX1) (T := TX1) (N := 12) hx hb (dr_words hts _) inX1 (xk_od hown) (xk_Kd hK) hP 0 rfl rfl 6 (by decide) (dr_words hts _ (.fieldLink RX1 33 "GridCommons" "ledger" "LGridCommons$Ledger;") (by decide +kernel)) (fun _ h9 => h9) rfl dX1_replace_83 ?_
    refine va_get (D := D) (ci := 0) (v := .ref (a 9)) (C := RX0) (T := TX0) (N := 9) hx hb (dr_words hts _) inX0 (xk_od hown) (xk_Kd hK) hP 8 rfl rfl 1 (by decide) (dr_words hts _ (.fieldLink RX1 82 "GridCommons$Ledger" "price" "[D") (by decide +kernel)) (fun _ h9 => h9) rfl dX1_replace_86 ?_
    refine lv_iload_n hx hb dX1_replace_89 rfl (lv_at hl 3 rfl) ?_
    refine xk_dald hx hb (xk_Kd hK) hP 9 2 rfl rfl (o := q) (by omega) (by decide) dX1_replace_90 ?_
    refine lv_dmul_any hd2 lw_bits hx hb dX1_replace_91 (fun r3 _ hal hd4 => ?_)
    have er3 := dt_mul hal
    refine lv_dstore (lv' := [(5, .double r3), (4, .int (nI (5 * q + o))), (0, .ref (a 0)), (1, .int (nI o)), (2, .int (nI q)), (3, .int use)]) hx hb dX1_replace_92 hl (by decide) rfl (fun ls hl => ?_)
    refine lv_aload_n hx hb dX1_replace_94 rfl (lv_at hl 2 rfl) ?_
    refine va_get (D := D) (ci := 1) (v := .ref (a 4)) (C := RX1) (T := TX1) (N := 12) hx hb (dr_words hts _) inX1 (xk_od hown) (xk_Kd hK) hP 0 rfl rfl 3 (by decide) (dr_words hts _ (.fieldLink RX1 20 "GridCommons" "bills" "[D") (by decide +kernel)) (fun _ h9 => h9) rfl dX1_replace_95 ?_
    refine lv_iload_n hx hb dX1_replace_98 rfl (lv_at hl 3 rfl) ?_
    refine lv_dup2_11 hx hb dX1_replace_99 rfl rfl ?_
    refine xk_dald hx hb (xk_Kd hK) hP 4 2 rfl rfl (o := o) (by omega) (by decide) dX1_replace_100 ?_
    refine lv_dload hx hb dX1_replace_101 (lv_at hl 0 rfl) ?_
    refine lv_dadd_any hd4 lw_bits hx hb dX1_replace_103 (fun r5 _ hal hd6 => ?_)
    have er5 := dt_add hal
    refine xk_dast hx hb (xk_Kd hK) hP hD hS 4 2 rfl rfl (o := o) (by omega) (by decide) dX1_replace_104 (fun H locs hP hD hS => ?_)
    have hP : va_P D vwCl (XW a cI cZ cD sh sw ts (vf_upd bi o r5) it tu ne pr so lo wt (nI n) lp lz (vf_upd lu (5 * q + o) (FP.i2d use)) (upd lk (5 * q + o) 1) ld lf lb lw) H := hP
    have hD : va_D A (XW a cI cZ cD sh sw ts (vf_upd bi o r5) it tu ne pr so lo wt (nI n) lp lz (vf_upd lu (5 * q + o) (FP.i2d use)) (upd lk (5 * q + o) 1) ld lf lb lw) := hD
    refine lv_dload hx hb dX1_replace_105 (lv_at hl 0 rfl) ?_
    have ec : dt r3 = dMul (dSub (dI use) (dts ld (5 * q + o))) (dts lp q) := by rw [er3, er1]; rfl
    refine W.endD hd6 ?_
    exact W.dret hx hb hr (fun t ht hW => ⟨⟨_, (vf_upd bi o r5), rfl, ⟨ec, by rw [dts_up, er5, ec]; rfl⟩, by rw [ht]; exact hP, va_K.moved hW.alike (xk_Kd hK), hD⟩, hS.F ht⟩) hS.2.2 dX1_replace_107
  · skip
    exact absurd hkn c
set_option maxHeartbeats 4000000 in
set_option maxRecDepth 100000 in
theorem mX1_replaceX (l : Launch) (hst : l.stackTraces = false) (D : va_G) (cI cZ cD : ClassId) (a : Nat → Nat) (Hp : Heap) (sh sw ts : Nat → Int32) (bi : Nat → UInt64) (it tu : Nat → Int32) (ne : Nat → UInt64) (pr so lo : UInt64) (wt : Int32) (lp lz lu : Nat → UInt64) (lk : Nat → Int32) (ld lf lb lw : Nat → UInt64) (n : Nat) (hn : n ≤ 60) (x q use : Int32) (hbad : ¬ (inR x 0 4 ∧ inR use 0 50 ∧ isQ n q ∧ ¬ kn lk x q)) : vx_Met l yX1_replace wsX1_replace ({ frames := 7, cells := 1, slots := 6, locals := 104 } : Room) (va_Pc [.ref (a 0), .int x, .int q, .int use] (XQ D cI cZ cD (XW a cI cZ cD sh sw ts bi it tu ne pr so lo wt (nI n) lp lz lu lk ld lf lb lw) Hp)) (va_Qd (fun _ (_ : Unit) => False) (fun _ _ => True) (fun q => Hp.size ≤ q)) (XE (fun E => (E = "java/lang/IllegalArgumentException" ∧ ¬ (inR x 0 4 ∧ inR use 0 50)) ∨ (E = "java/lang/IndexOutOfBoundsException" ∧ inR x 0 4 ∧ inR use 0 50 ∧ ¬ isQ n q) ∨ (E = "java/lang/IllegalStateException" ∧ inR x 0 4 ∧ inR use 0 50 ∧ isQ n q ∧ kn lk x q)) Hp.size) 1 6 (fun q => Hp.size ≤ q) := by
  refine vx_ofW (cc := cX1_replace) (maxL := 7) (ret := (some .double)) (by decide +kernel) rfl ?_
  intro p e s m args below meth c s₁ B hml htab hv
  obtain ⟨rfl, hsz, ⟨hP, hK, hD⟩, hE⟩ := hv
  have hx := B.exec
  have hb := B.bytes
  have hr := B.returns
  have hts := atoms_spec (ws := wsX1_replace) B.pre
  have hown : s.vm.findClass RX1 = some m.cls := findClass_of_methodNamed B.named
  have hlocks := B.notSynchronized
  subst hsz
  have hA : ∀ q : Nat, s.heap.size ≤ q → (fun q => s.heap.size ≤ q) q := fun q h => h
  have hS : va_S (fun q => s.heap.size ≤ q) s.heap s.heap [] := va_S.rf
  have hl := lv_entry ([.ref (a 0), .int x, .int q, .int use]) (n := 7) (Nat.le_of_ble_eq_true rfl)
  rw [lg_entry_eq]
  generalize (lg_sl ([.ref (a 0), .int x, .int q, .int use]) ++ List.replicate (7 - (lg_sl ([.ref (a 0), .int x, .int q, .int use])).length) Slot.unset).toArray = ls at hl ⊢
  have hl : lv_has ls 7 [(0, .ref (a 0)), (1, .int x), (2, .int q), (3, .int use)] := hl
  have inX1 : ∀ w ∈ wsX10, w ∈ wsX1_replace := by decide +kernel
  have inX0 : ∀ w ∈ wsX00, w ∈ wsX1_replace := by decide +kernel
  refine lv_iload_n hx hb dX1_replace_0 rfl (lv_at hl 1 rfl) ?_
  by_cases hin : inR x 0 4
  · skip
    refine va_csv (va_Run.run (va_runS (As := [.int x]) (rest := []) ⟨hx, hb, hml, hown, hts⟩ (mX1_requireOwnerV l x hin) (va_cwS 1 hts gX1_replace_X1_requireOwner rfl rfl rfl (by decide +kernel) ⟨Nat.le_of_ble_eq_true rfl, Nat.le_of_ble_eq_true rfl⟩) ⟨fun a U g mk q => q, fun U hU hW => ⟨rfl, trivial⟩⟩ rfl rfl hl.1 rfl (lv_room (Nat.le_of_ble_eq_true rfl)) dX1_replace_1 ⟨Nat.le_of_ble_eq_true rfl, Nat.le_of_ble_eq_true rfl⟩)) (fun _ => ?_)
    refine lv_iload_n hx hb dX1_replace_4 rfl (lv_at hl 3 rfl) ?_
    refine lv_iconst (v := nI 0) hx hb dX1_replace_5 (by decide) ?_
    refine lv_bipush (v := nI 50) hx hb dX1_replace_6 (by decide) ?_
    by_cases hus : inR use 0 50
    · skip
      refine va_csv (va_Run.run (va_runS (As := [.int use, .int (nI 0), .int (nI 50)]) (rest := []) ⟨hx, hb, hml, hown, hts⟩ (mX1_requireWithinV l use (nI 0) (nI 50) hus) (va_cwS 3 hts gX1_replace_X1_requireWithin rfl rfl rfl (by decide +kernel) ⟨Nat.le_of_ble_eq_true rfl, Nat.le_of_ble_eq_true rfl⟩) ⟨fun a U g mk q => q, fun U hU hW => ⟨rfl, trivial⟩⟩ rfl rfl hl.1 rfl (lv_room (Nat.le_of_ble_eq_true rfl)) dX1_replace_8 ⟨Nat.le_of_ble_eq_true rfl, Nat.le_of_ble_eq_true rfl⟩)) (fun _ => ?_)
      refine lv_aload_n hx hb dX1_replace_11 rfl (lv_at hl 0 rfl) ?_
      refine lv_iload_n hx hb dX1_replace_12 rfl (lv_at hl 2 rfl) ?_
      by_cases hqq : isQ n q
      · skip
        refine va_csv (va_Run.run (va_runV (As := [.int q]) (rest := []) ⟨hx, hb, hml, hown, hts⟩ (mX1_requireQuarterV l D cI cZ cD a _ sh sw ts bi it tu ne pr so lo wt lp lz lu lk ld lf lb lw n q hqq) (cwV 1 hts gX1_replace_X1_requireQuarter rfl rfl rfl (by decide +kernel) ⟨Nat.le_of_ble_eq_true rfl, Nat.le_of_ble_eq_true rfl⟩) ⟨xk_blind, va_recv hK hP (ci := 1) (q0 := 0) rfl rfl, xk_pre hP hK hD⟩ rfl rfl hl.1 rfl (lv_room (Nat.le_of_ble_eq_true rfl)) dX1_replace_13 ⟨Nat.le_of_ble_eq_true rfl, Nat.le_of_ble_eq_true rfl⟩)) (fun _ => ?_)
        obtain ⟨o, ho4, rfl⟩ := inR_nI (n := 4) (by decide) hin
        have ho : o < 5 := by omega
        obtain ⟨j, hj, rfl⟩ := isQ_nI (by omega) hqq
        refine lv_iload_n hx hb dX1_replace_16 rfl (lv_at hl 1 rfl) ?_
        refine lv_iload_n hx hb dX1_replace_17 rfl (lv_at hl 2 rfl) ?_
        refine vp_callSi (va_Run.run (va_runS (As := [.int (nI o), .int (nI j)]) (rest := []) ⟨hx, hb, hml, hown, hts⟩ (mX0_slot l o j) (va_cwS 2 hts gX1_replace_X0_slot rfl rfl rfl (by decide +kernel) ⟨Nat.le_of_ble_eq_true rfl, Nat.le_of_ble_eq_true rfl⟩) ⟨fun a U g mk q => q, fun U hU hW => ⟨rfl, trivial⟩⟩ rfl rfl hl.1 rfl (lv_room (Nat.le_of_ble_eq_true rfl)) dX1_replace_18 ⟨Nat.le_of_ble_eq_true rfl, Nat.le_of_ble_eq_true rfl⟩)) (fun r hr1 => ?_)
        subst hr1
        refine lv_istore (lv' := [(4, .int (nI (5 * j + o))), (0, .ref (a 0)), (1, .int (nI o)), (2, .int (nI j)), (3, .int use)]) hx hb dX1_replace_21 hl (by decide) rfl (fun ls hl => ?_)
        refine lv_aload_n hx hb dX1_replace_23 rfl (lv_at hl 1 rfl) ?_
        refine va_get (D := D) (ci := 1) (v := .ref (a 8)) (C := RX1) (T := TX1) (N := 12) hx hb hts inX1 hown hK hP 0 rfl rfl 6 (by decide) (hts (.fieldLink RX1 33 "GridCommons" "ledger" "LGridCommons$Ledger;") (by decide +kernel)) (fun _ h9 => h9) rfl dX1_replace_24 ?_
        refine va_get (D := D) (ci := 0) (v := .ref (a 12)) (C := RX0) (T := TX0) (N := 9) hx hb hts inX0 hown hK hP 8 rfl rfl 4 (by decide) (hts (.fieldLink RX1 120 "GridCommons$Ledger" "known" "[Z") (by decide +kernel)) (fun _ h9 => h9) rfl dX1_replace_27 ?_
        refine lv_iload hx hb dX1_replace_30 (lv_at hl 0 rfl) ?_
        refine xk_zald hx hb hK hP 12 1 rfl rfl (o := (5 * j + o)) (by omega) (by decide) dX1_replace_32 ?_
        refine lv_if_eq (tgt := 46) hx hb dX1_replace_33 (by decide) (fun c => ?_) (fun c => ?_)
        · skip
          exact absurd ⟨hin, hus, hqq, fun z => (kn_nI ho (by omega)).mp z c⟩ hbad
        · skip
          obtain ⟨sa, hstr⟩ := hE.2.2.2 (123, "the use was told, or the gap was replaced") (by decide)
          have hat0 : ∀ w ∈ (vx_atS RX1 72 "java/lang/IllegalStateException" ["java/lang/RuntimeException", "java/lang/Exception"]).filter goodWord, w ∈ wsX1_replace := by decide +kernel
          exact vx_throwS (text := "the use was told, or the gap was replaced") (names := ["java/lang/RuntimeException", "java/lang/Exception"]) hx hb hst hown (by decide +kernel) (by decide +kernel) (hts (.classLink RX1 68 "java/lang/IllegalStateException") (by decide +kernel)) (hts (.initialized "java/lang/IllegalStateException") (by decide +kernel)) hstr (vx_hat (B := exW) (fun w h => hts w (hat0 w h)) (by decide +kernel) hE.words) (by decide +kernel) hE.1 hE.2.1 hS (hl.1.trans hml.symm) dX1_replace_36 dX1_replace_39 dX1_replace_40 dX1_replace_42 dX1_replace_45 (fun x h => (htab x h).elim) (Nat.le_of_ble_eq_true rfl) (Nat.le_of_ble_eq_true rfl) (Nat.le_of_ble_eq_true rfl) (Nat.le_of_ble_eq_true rfl) hlocks (fun t ht hz hk => ⟨(), trivial, Or.inr (Or.inr ⟨rfl, hin, hus, hqq, (kn_nI ho (by omega)).mpr c⟩), hz, fun q h1 _ => hk q h1⟩) hS.2.2 (Nat.le_refl _) (Nat.le_refl _)
      · skip
        exact vx_callv (vx_runV (As := [.int q]) (rest := []) ⟨hx, hb, hml, hown, hts⟩ (mX1_requireQuarterX l hst D cI cZ cD a s.heap sh sw ts bi it tu ne pr so lo wt lp lz lu lk ld lf lb lw n q hqq) (cwV 1 hts gX1_replace_X1_requireQuarter rfl rfl rfl (by decide +kernel) ⟨Nat.le_of_ble_eq_true rfl, Nat.le_of_ble_eq_true rfl⟩) ⟨xq_blind, va_recv hK hP (ci := 1) (q0 := 0) rfl rfl, xq_pre hP hK hD hE hS hA⟩ rfl rfl hl.1 rfl (lv_room (Nat.le_of_ble_eq_true rfl)) dX1_replace_13 ⟨Nat.le_of_ble_eq_true rfl, Nat.le_of_ble_eq_true rfl⟩) hS (fun q h1 h2 => absurd h2 (Nat.not_le.mpr h1)) (fun q h => hA q (Nat.le_trans hS.1 h)) (fun q h1 h2 => absurd h2 (Nat.not_le.mpr h1)) (fun E ce q9 u9 t9 H9 locs9 ht9 hvm9 hpx9 hB9 hz9 hk9 hS9 hce9 hcv9 hcl9 => vx_out (fun x h => (htab x h).elim) hlocks hce9 hcv9 hcl9 (fun t8 ht8 hvm8 => ⟨(), trivial, Or.inr (Or.inl ⟨hB9, hin, hus, hqq⟩), by rw [ht8]; exact hz9, fun q h1 h2 => by rw [ht8]; exact hk9 q h1 h2⟩) hS9.2.2 (Nat.le_refl _) (Nat.le_refl _)) (fun u t H1 locs1 ht hvm hw hB hz1 hk1 hS1 => hw.elim)
    · skip
      exact vx_callv (vx_runS (As := [.int use, .int (nI 0), .int (nI 50)]) (rest := []) ⟨hx, hb, hml, hown, hts⟩ (mX1_requireWithin l hst s.heap use (nI 0) (nI 50)) (va_cwS 3 hts gX1_replace_X1_requireWithin rfl rfl rfl (by decide +kernel) ⟨Nat.le_of_ble_eq_true rfl, Nat.le_of_ble_eq_true rfl⟩) ⟨xh_blind, xh_pre hE hS hA⟩ rfl rfl hl.1 rfl (lv_room (Nat.le_of_ble_eq_true rfl)) dX1_replace_8 ⟨Nat.le_of_ble_eq_true rfl, Nat.le_of_ble_eq_true rfl⟩) hS (fun q h1 h2 => absurd h2 (Nat.not_le.mpr h1)) (fun q h => hA q (Nat.le_trans hS.1 h)) (fun q h1 h2 => absurd h2 (Nat.not_le.mpr h1)) (fun E ce q9 u9 t9 H9 locs9 ht9 hvm9 hpx9 hB9 hz9 hk9 hS9 hce9 hcv9 hcl9 => vx_out (fun x h => (htab x h).elim) hlocks hce9 hcv9 hcl9 (fun t8 ht8 hvm8 => ⟨(), trivial, Or.inl ⟨hB9.1, fun z => hB9.2 z.2⟩, by rw [ht8]; exact hz9, fun q h1 h2 => by rw [ht8]; exact hk9 q h1 h2⟩) hS9.2.2 (Nat.le_refl _) (Nat.le_refl _)) (fun u t H1 locs1 ht hvm hw hB hz1 hk1 hS1 => absurd hw hus)
  · skip
    exact vx_callv (vx_runS (As := [.int x]) (rest := []) ⟨hx, hb, hml, hown, hts⟩ (mX1_requireOwner l hst s.heap x) (va_cwS 1 hts gX1_replace_X1_requireOwner rfl rfl rfl (by decide +kernel) ⟨Nat.le_of_ble_eq_true rfl, Nat.le_of_ble_eq_true rfl⟩) ⟨xh_blind, xh_pre hE hS hA⟩ rfl rfl hl.1 rfl (lv_room (Nat.le_of_ble_eq_true rfl)) dX1_replace_1 ⟨Nat.le_of_ble_eq_true rfl, Nat.le_of_ble_eq_true rfl⟩) hS (fun q h1 h2 => absurd h2 (Nat.not_le.mpr h1)) (fun q h => hA q (Nat.le_trans hS.1 h)) (fun q h1 h2 => absurd h2 (Nat.not_le.mpr h1)) (fun E ce q9 u9 t9 H9 locs9 ht9 hvm9 hpx9 hB9 hz9 hk9 hS9 hce9 hcv9 hcl9 => vx_out (fun x h => (htab x h).elim) hlocks hce9 hcv9 hcl9 (fun t8 ht8 hvm8 => ⟨(), trivial, Or.inl ⟨hB9.1, fun z => hB9.2 z.1⟩, by rw [ht8]; exact hz9, fun q h1 h2 => by rw [ht8]; exact hk9 q h1 h2⟩) hS9.2.2 (Nat.le_refl _) (Nat.le_refl _)) (fun u t H1 locs1 ht hvm hw hB hz1 hk1 hS1 => absurd hw hin)
end
section
/-! GridCommons.close -/
set_option maxHeartbeats 4000000 in
set_option maxRecDepth 100000 in
theorem mX1_closeV (l : Launch) (D : va_G) (cI cZ cD : ClassId) (a : Nat → Nat) (sz : Nat) (sh sw ts : Nat → Int32) (bi : Nat → UInt64) (it tu : Nat → Int32) (ne : Nat → UInt64) (pr so lo : UInt64) (lp lz lu : Nat → UInt64) (lk : Nat → Int32) (ld lf lb lw : Nat → UInt64) (n tr : Nat) (sun : Int32) (hn : n < 60) (htr : tr < 5) (hsun : inR sun 0 100) (hit : ∀ j, it j = 0 ∨ it j = 1) : MetD lw_cs l yX1_close wsX1_close ({ frames := 3, cells := 0, slots := 0, locals := 72 } : Room) (va_Pc [.ref (a 0), .int sun] (XP D cI cZ cD (XW a cI cZ cD sh sw ts bi it tu ne pr so lo (nI tr) (nI n) lp lz lu lk ld lf lb lw) sz)) (va_Qi (fun (r : Int32) (u : ((Nat → Int32) × (Nat → UInt64) × (Nat → UInt64) × UInt64) × ((Nat → UInt64) × (Nat → UInt64) × UInt64 × (Nat → UInt64)) × ((Nat → UInt64) × Nat × (Nat → UInt64) × (Nat → UInt64))) => r = bI (over ((cT sw ts it tu lk (dts lu) n).2)) ∧ u.1.1 = (cT sw ts it tu lk (dts lu) n).1 ∧ dts u.1.2.1 = po (5 * n) 5 (dts lu) (use0 it tu lk (dts lu) n) ∧ dts u.2.1.1 = po (5 * n) 5 (dts ld) ((cT sw ts it tu lk (dts lu) n).2) ∧ dts u.2.1.2.1 = kF sun sh ((cT sw ts it tu lk (dts lu) n).2) n (dts lf) ∧ dts u.2.1.2.2.2 = kZ sun sh ((cT sw ts it tu lk (dts lu) n).2) (dt so) (dts lz) n ∧ dt u.2.1.2.2.1 = (kB sun sh ((cT sw ts it tu lk (dts lu) n).2) (dt so) (dts lb) tr n).2.1 ∧ dts u.2.2.1 = (kB sun sh ((cT sw ts it tu lk (dts lu) n).2) (dt so) (dts lb) tr n).2.2.1 ∧ u.2.2.2.1 = (kB sun sh ((cT sw ts it tu lk (dts lu) n).2) (dt so) (dts lb) tr n).2.2.2 ∧ dts u.2.2.2.2.1 = po (5 * n) 5 (dts lw) (kB sun sh ((cT sw ts it tu lk (dts lu) n).2) (dt so) (dts lb) tr n).1 ∧ dts u.2.2.2.2.2 = kI sun sh ((cT sw ts it tu lk (dts lu) n).2) (dt so) (dts lz) (dts bi) (dt pr) (dts lb) tr n) (fun (u : ((Nat → Int32) × (Nat → UInt64) × (Nat → UInt64) × UInt64) × ((Nat → UInt64) × (Nat → UInt64) × UInt64 × (Nat → UInt64)) × ((Nat → UInt64) × Nat × (Nat → UInt64) × (Nat → UInt64))) t => XB D cI cZ cD (XW a cI cZ cD sh sw u.1.1 u.2.2.2.2.2 (po 0 5 it (fun _ => 0)) tu u.1.2.2.1 pr u.2.1.2.2.1 u.1.2.2.2 (nI u.2.2.2.1) (nI (n + 1)) (vf_upd lp n pr) u.2.1.2.2.2 u.1.2.1 (po (5 * n) 5 lk it) u.2.1.1 u.2.1.2.1 u.2.2.1 u.2.2.2.2.1) (va_A (XW a cI cZ cD sh sw ts bi it tu ne pr so lo (nI tr) (nI n) lp lz lu lk ld lf lb lw) sz) t) (va_A (XW a cI cZ cD sh sw ts bi it tu ne pr so lo (nI tr) (nI n) lp lz lu lk ld lf lb lw) sz)) 0 0 (va_A (XW a cI cZ cD sh sw ts bi it tu ne pr so lo (nI tr) (nI n) lp lz lu lk ld lf lb lw) sz) := by
  refine MetD.ofW (cc := cX1_close) (maxL := 4) (ret := (some .boolean)) (by decide +kernel) rfl ?_
  intro p e s m args below meth c s₁ B hml hv hd0
  obtain ⟨rfl, hsz, hP, hK, hD0⟩ := hv
  have hx := B.exec
  have hb := B.bytes
  have hr := B.returns
  have hts := atoms_spec (ws := wsX1_close) B.pre
  have hown : s.vm.findClass RX1 = some m.cls := findClass_of_methodNamed B.named
  have hlocks := B.notSynchronized
  subst hsz
  have hD := hD0.self (sz := s.heap.size)
  generalize hAe : va_A (XW a cI cZ cD sh sw ts bi it tu ne pr so lo (nI tr) (nI n) lp lz lu lk ld lf lb lw) s.heap.size = A at hD ⊢
  have hA : ∀ q : Nat, s.heap.size ≤ q → A q := fun q h => by rw [← hAe]; exact Or.inr h
  have hS : va_S A s.heap s.heap [] := va_S.rf
  have hl := lv_entry ([.ref (a 0), .int sun]) (n := 4) (Nat.le_of_ble_eq_true rfl)
  rw [lg_entry_eq]
  generalize (lg_sl ([.ref (a 0), .int sun]) ++ List.replicate (4 - (lg_sl ([.ref (a 0), .int sun])).length) Slot.unset).toArray = ls at hl ⊢
  have hl : lv_has ls 4 [(0, .ref (a 0)), (1, .int sun)] := hl
  have inX1 : ∀ w ∈ wsX10, w ∈ wsX1_close := by decide +kernel
  have inX0 : ∀ w ∈ wsX00, w ∈ wsX1_close := by decide +kernel
  refine lv_iload_n hx hb dX1_close_0 rfl (lv_at hl 1 rfl) ?_
  refine lv_iconst (v := nI 0) hx hb dX1_close_1 (by decide) ?_
  refine lv_bipush (v := nI 100) hx hb dX1_close_2 (by decide) ?_
  refine va_csv (va_Run.run (va_runS (As := [.int sun, .int (nI 0), .int (nI 100)]) (rest := []) ⟨hx, hb, hml, (xk_od hown), (dr_words hts _)⟩ (mX1_requireWithinV l sun (nI 0) (nI 100) hsun) (va_cwS 3 (dr_words hts _) gX1_close_X1_requireWithin rfl rfl rfl (by decide +kernel) ⟨Nat.le_of_ble_eq_true rfl, Nat.le_of_ble_eq_true rfl⟩) ⟨fun a U g mk q => q, fun U hU hW => ⟨rfl, trivial⟩⟩ rfl rfl hl.1 rfl (lv_room (Nat.le_of_ble_eq_true rfl)) dX1_close_4 ⟨Nat.le_of_ble_eq_true rfl, Nat.le_of_ble_eq_true rfl⟩)) (fun _ => ?_)
  refine lv_aload_n hx hb dX1_close_7 rfl (lv_at hl 0 rfl) ?_
  refine va_get (D := D) (ci := 1) (v := .ref (a 8)) (C := RX1) (T := TX1) (N := 12) hx hb (dr_words hts _) inX1 (xk_od hown) (xk_Kd hK) hP 0 rfl rfl 6 (by decide) (dr_words hts _ (.fieldLink RX1 33 "GridCommons" "ledger" "LGridCommons$Ledger;") (by decide +kernel)) (fun _ h9 => h9) rfl dX1_close_8 ?_
  refine va_get (D := D) (ci := 0) (v := .int (nI n)) (C := RX0) (T := TX0) (N := 9) hx hb (dr_words hts _) inX0 (xk_od hown) (xk_Kd hK) hP 8 rfl rfl 0 (by decide) (dr_words hts _ (.fieldLink RX1 77 "GridCommons$Ledger" "count" "I") (by decide +kernel)) (fun _ h9 => h9) rfl dX1_close_11 ?_
  refine lv_istore_n (lv' := [(2, .int (nI n)), (0, .ref (a 0)), (1, .int sun)]) hx hb dX1_close_14 rfl hl (by decide) rfl (fun ls hl => ?_)
  refine lv_iload_n hx hb dX1_close_15 rfl (lv_at hl 0 rfl) ?_
  refine lv_bipush (v := nI 60) hx hb dX1_close_16 (by decide) ?_
  refine lv_icmp_lt (tgt := 31) hx hb dX1_close_18 (by decide) (fun c => ?_) (fun c => ?_)
  · skip
    refine lv_aload_n hx hb dX1_close_31 rfl (lv_at hl 1 rfl) ?_
    refine va_get (D := D) (ci := 1) (v := .ref (a 8)) (C := RX1) (T := TX1) (N := 12) hx hb (dr_words hts _) inX1 (xk_od hown) (xk_Kd hK) hP 0 rfl rfl 6 (by decide) (dr_words hts _ (.fieldLink RX1 33 "GridCommons" "ledger" "LGridCommons$Ledger;") (by decide +kernel)) (fun _ h9 => h9) rfl dX1_close_32 ?_
    refine va_get (D := D) (ci := 0) (v := .ref (a 9)) (C := RX0) (T := TX0) (N := 9) hx hb (dr_words hts _) inX0 (xk_od hown) (xk_Kd hK) hP 8 rfl rfl 1 (by decide) (dr_words hts _ (.fieldLink RX1 82 "GridCommons$Ledger" "price" "[D") (by decide +kernel)) (fun _ h9 => h9) rfl dX1_close_35 ?_
    refine lv_iload_n hx hb dX1_close_38 rfl (lv_at hl 0 rfl) ?_
    refine lv_aload_n hx hb dX1_close_39 rfl (lv_at hl 1 rfl) ?_
    refine va_get (D := D) (ci := 1) (v := .double pr) (C := RX1) (T := TX1) (N := 12) hx hb (dr_words hts _) inX1 (xk_od hown) (xk_Kd hK) hP 0 rfl rfl 7 (by decide) (dr_words hts _ (.fieldLink RX1 39 "GridCommons" "price" "D") (by decide +kernel)) (fun _ h9 => h9) rfl dX1_close_40 ?_
    refine xk_dast hx hb (xk_Kd hK) hP hD hS 9 2 rfl rfl (o := n) (by omega) (by decide) dX1_close_43 (fun H locs hP hD hS => ?_)
    have hP : va_P D vwCl (XW a cI cZ cD sh sw ts bi it tu ne pr so lo (nI tr) (nI n) (vf_upd lp n pr) lz lu lk ld lf lb lw) H := hP
    have hD : va_D A (XW a cI cZ cD sh sw ts bi it tu ne pr so lo (nI tr) (nI n) (vf_upd lp n pr) lz lu lk ld lf lb lw) := hD
    refine lv_aload_n hx hb dX1_close_44 rfl (lv_at hl 1 rfl) ?_
    refine lv_iload_n hx hb dX1_close_45 rfl (lv_at hl 0 rfl) ?_
    have hFc := va_free (wc := XW a cI cZ cD sh sw ts bi it tu ne pr so lo (nI tr) (nI n) (vf_upd lp n pr) lz lu lk ld lf lb lw) hD hS hA [0, 1, 2, 3, 4, 5, 6, 7, 8, 9, 10, 11, 12, 13, 14, 15, 16] rfl
    refine va_callvD hd0 (va_runV_D (As := [.int (nI n)]) (rest := []) ⟨hx, hb, hml, (xk_od hown), (dr_words hts _)⟩ (mX1_writeUses l D cI cZ cD a _ sh sw ts bi it tu ne pr so lo (nI tr) (vf_upd lp n pr) lz lu lk ld lf lb lw n hn hit) (cwV 1 (dr_words hts _) gX1_close_X1_writeUses rfl rfl rfl (by decide +kernel) ⟨Nat.le_of_ble_eq_true rfl, Nat.le_of_ble_eq_true rfl⟩) ⟨xk_blind, va_recv (xk_Kd hK) hP (ci := 1) (q0 := 0) rfl rfl, xk_pre hP (xk_Kd hK) hD⟩ rfl rfl hl.1 rfl (lv_room (Nat.le_of_ble_eq_true rfl)) dX1_close_46 ⟨Nat.le_of_ble_eq_true rfl, Nat.le_of_ble_eq_true rfl⟩) hS (fun q _ h => hFc q h) hFc (fun u t H locs ht hvm hw hB hz1 hk1 hS _ hd1 => ?_)
    obtain ⟨lu1, ne1⟩ := u
    obtain ⟨hP, -, hD1⟩ := hB
    rw [ht] at hP
    have hD := hD1.weaken (B := A) (fun _ _ _ h => hFc _ h)
    have hP : va_P D vwCl (XW a cI cZ cD sh sw ts bi (po 0 5 it (fun _ => 0)) tu ne1 pr so lo (nI tr) (nI n) (vf_upd lp n pr) lz lu1 (po (5 * n) 5 lk it) ld lf lb lw) H := hP
    have hD : va_D A (XW a cI cZ cD sh sw ts bi (po 0 5 it (fun _ => 0)) tu ne1 pr so lo (nI tr) (nI n) (vf_upd lp n pr) lz lu1 (po (5 * n) 5 lk it) ld lf lb lw) := hD
    obtain ⟨ha1, ha2⟩ := hw
    refine lv_aload_n hx hb dX1_close_49 rfl (lv_at hl 1 rfl) ?_
    have hFc := va_free (wc := XW a cI cZ cD sh sw ts bi (po 0 5 it (fun _ => 0)) tu ne1 pr so lo (nI tr) (nI n) (vf_upd lp n pr) lz lu1 (po (5 * n) 5 lk it) ld lf lb lw) hD hS hA [0, 1, 2, 3, 4, 5, 6, 7, 8, 9, 10, 11, 12, 13, 14, 15, 16] rfl
    refine va_callvD hd1 (va_runV_D (As := []) (rest := []) ⟨hx, hb, hml, (xk_od hown), (dr_words hts _)⟩ (mX1_shedUntilCarried l D cI cZ cD a _ sh sw ts bi (po 0 5 it (fun _ => 0)) tu ne1 pr so lo (nI tr) (nI n) (vf_upd lp n pr) lz lu1 (po (5 * n) 5 lk it) ld lf lb lw _ ha2) (cwV 0 (dr_words hts _) gX1_close_X1_shedUntilCarried rfl rfl rfl (by decide +kernel) ⟨Nat.le_of_ble_eq_true rfl, Nat.le_of_ble_eq_true rfl⟩) ⟨xk_blind, va_recv (xk_Kd hK) hP (ci := 1) (q0 := 0) rfl rfl, xk_pre hP (xk_Kd hK) hD⟩ rfl rfl hl.1 rfl (lv_room (Nat.le_of_ble_eq_true rfl)) dX1_close_50 ⟨Nat.le_of_ble_eq_true rfl, Nat.le_of_ble_eq_true rfl⟩) hS (fun q _ h => hFc q h) hFc (fun u t H locs ht hvm hw hB hz1 hk1 hS _ hd2 => ?_)
    obtain ⟨ts1, ne2⟩ := u
    obtain ⟨hP, -, hD1⟩ := hB
    rw [ht] at hP
    have hD := hD1.weaken (B := A) (fun _ _ _ h => hFc _ h)
    have hP : va_P D vwCl (XW a cI cZ cD sh sw ts1 bi (po 0 5 it (fun _ => 0)) tu ne2 pr so lo (nI tr) (nI n) (vf_upd lp n pr) lz lu1 (po (5 * n) 5 lk it) ld lf lb lw) H := hP
    have hD : va_D A (XW a cI cZ cD sh sw ts1 bi (po 0 5 it (fun _ => 0)) tu ne2 pr so lo (nI tr) (nI n) (vf_upd lp n pr) lz lu1 (po (5 * n) 5 lk it) ld lf lb lw) := hD
    obtain ⟨hb1, hb2⟩ := hw
    refine lv_aload_n hx hb dX1_close_53 rfl (lv_at hl 1 rfl) ?_
    have hFc := va_free (wc := XW a cI cZ cD sh sw ts1 bi (po 0 5 it (fun _ => 0)) tu ne2 pr so lo (nI tr) (nI n) (vf_upd lp n pr) lz lu1 (po (5 * n) 5 lk it) ld lf lb lw) hD hS hA [0, 1, 2, 3, 4, 5, 6, 7, 8, 9, 10, 11, 12, 13, 14, 15, 16] rfl
    refine va_calliD hd2 (va_runV_D (As := []) (rest := []) ⟨hx, hb, hml, (xk_od hown), (dr_words hts _)⟩ (mX1_isOverLine l D cI cZ cD a _ sh sw ts1 bi (po 0 5 it (fun _ => 0)) tu ne2 pr so lo (nI tr) (nI n) (vf_upd lp n pr) lz lu1 (po (5 * n) 5 lk it) ld lf lb lw _ hb2) (cwV 0 (dr_words hts _) gX1_close_X1_isOverLine rfl rfl rfl (by decide +kernel) ⟨Nat.le_of_ble_eq_true rfl, Nat.le_of_ble_eq_true rfl⟩) ⟨xk_blind, va_recv (xk_Kd hK) hP (ci := 1) (q0 := 0) rfl rfl, xk_pre hP (xk_Kd hK) hD⟩ rfl rfl hl.1 rfl (lv_room (Nat.le_of_ble_eq_true rfl)) dX1_close_54 ⟨Nat.le_of_ble_eq_true rfl, Nat.le_of_ble_eq_true rfl⟩) hS (fun q _ h => hFc q h) hFc (fun ov u t H locs ht hvm hw hB hz1 hk1 hS _ hd3 => ?_)
    obtain ⟨hP, -, hD1⟩ := hB
    rw [ht] at hP
    have hD := hD1.weaken (B := A) (fun _ _ _ h => hFc _ h)
    have hP : va_P D vwCl (XW a cI cZ cD sh sw ts1 bi (po 0 5 it (fun _ => 0)) tu ne2 pr so lo (nI tr) (nI n) (vf_upd lp n pr) lz lu1 (po (5 * n) 5 lk it) ld lf lb lw) H := hP
    have hD : va_D A (XW a cI cZ cD sh sw ts1 bi (po 0 5 it (fun _ => 0)) tu ne2 pr so lo (nI tr) (nI n) (vf_upd lp n pr) lz lu1 (po (5 * n) 5 lk it) ld lf lb lw) := hD
    have hov := hw
    refine lv_istore_n (lv' := [(3, .int ov), (2, .int (nI n)), (0, .ref (a 0)), (1, .int sun)]) hx hb dX1_close_57 rfl hl (by decide) rfl (fun ls hl => ?_)
    refine lv_aload_n hx hb dX1_close_58 rfl (lv_at hl 2 rfl) ?_
    refine lv_iload_n hx hb dX1_close_59 rfl (lv_at hl 1 rfl) ?_
    have hFc := va_free (wc := XW a cI cZ cD sh sw ts1 bi (po 0 5 it (fun _ => 0)) tu ne2 pr so lo (nI tr) (nI n) (vf_upd lp n pr) lz lu1 (po (5 * n) 5 lk it) ld lf lb lw) hD hS hA [0, 1, 2, 3, 4, 5, 6, 7, 8, 9, 10, 11, 12, 13, 14, 15, 16] rfl
    refine va_callv (va_runV (As := [.int (nI n)]) (rest := []) ⟨hx, hb, hml, (xk_od hown), (dr_words hts _)⟩ (mX1_writeUsed l D cI cZ cD a _ sh sw ts1 bi (po 0 5 it (fun _ => 0)) tu ne2 pr so lo (nI tr) (nI n) (vf_upd lp n pr) lz lu1 (po (5 * n) 5 lk it) ld lf lb lw n hn _ hb2) (cwV 1 (dr_words hts _) gX1_close_X1_writeUsed rfl rfl rfl (by decide +kernel) ⟨Nat.le_of_ble_eq_true rfl, Nat.le_of_ble_eq_true rfl⟩) ⟨xk_blind, va_recv (xk_Kd hK) hP (ci := 1) (q0 := 0) rfl rfl, xk_pre hP (xk_Kd hK) hD⟩ rfl rfl hl.1 rfl (lv_room (Nat.le_of_ble_eq_true rfl)) dX1_close_60 ⟨Nat.le_of_ble_eq_true rfl, Nat.le_of_ble_eq_true rfl⟩) hS (fun q _ h => hFc q h) hFc (fun u t H locs ht hvm hw hB hz1 hk1 hS => ?_)
    obtain ⟨ld1, rfl⟩ : ∃ z, z = u := ⟨_, rfl⟩
    obtain ⟨hP, -, hD1⟩ := hB
    rw [ht] at hP
    have hD := hD1.weaken (B := A) (fun _ _ _ h => hFc _ h)
    have hP : va_P D vwCl (XW a cI cZ cD sh sw ts1 bi (po 0 5 it (fun _ => 0)) tu ne2 pr so lo (nI tr) (nI n) (vf_upd lp n pr) lz lu1 (po (5 * n) 5 lk it) ld1 lf lb lw) H := hP
    have hD : va_D A (XW a cI cZ cD sh sw ts1 bi (po 0 5 it (fun _ => 0)) tu ne2 pr so lo (nI tr) (nI n) (vf_upd lp n pr) lz lu1 (po (5 * n) 5 lk it) ld1 lf lb lw) := hD
    have hc1 := hw
    refine lv_aload_n hx hb dX1_close_63 rfl (lv_at hl 2 rfl) ?_
    refine lv_iload_n hx hb dX1_close_64 rfl (lv_at hl 3 rfl) ?_
    refine lv_i2d hx hb dX1_close_65 ?_
    refine va_put (D := D) (ci := 1) (v := .double (FP.i2d sun)) (ty := .double) (C := RX1) (T := TX1) (N := 12) hx hb (dr_words hts _) inX1 tyX1 tyX1_ok nmX1 (xk_od hown) (xk_Kd hK) hP hD hS 0 rfl rfl 11 (by decide) (dr_words hts _ (.fieldLink RX1 53 "GridCommons" "leftOver" "D") (by decide +kernel)) (fun _ h9 => h9) rfl (by decide +kernel) rfl rfl (Nat.le_of_ble_eq_true rfl) dX1_close_66 (fun H locs hP hD hS => ?_)
    have hP : va_P D vwCl (XW a cI cZ cD sh sw ts1 bi (po 0 5 it (fun _ => 0)) tu ne2 pr so (FP.i2d sun) (nI tr) (nI n) (vf_upd lp n pr) lz lu1 (po (5 * n) 5 lk it) ld1 lf lb lw) H := hP
    have hD : va_D A (XW a cI cZ cD sh sw ts1 bi (po 0 5 it (fun _ => 0)) tu ne2 pr so (FP.i2d sun) (nI tr) (nI n) (vf_upd lp n pr) lz lu1 (po (5 * n) 5 lk it) ld1 lf lb lw) := hD
    refine lv_aload_n hx hb dX1_close_69 rfl (lv_at hl 2 rfl) ?_
    refine lv_iload_n hx hb dX1_close_70 rfl (lv_at hl 1 rfl) ?_
    refine lv_iload_n hx hb dX1_close_71 rfl (lv_at hl 3 rfl) ?_
    have hFc := va_free (wc := XW a cI cZ cD sh sw ts1 bi (po 0 5 it (fun _ => 0)) tu ne2 pr so (FP.i2d sun) (nI tr) (nI n) (vf_upd lp n pr) lz lu1 (po (5 * n) 5 lk it) ld1 lf lb lw) hD hS hA [0, 1, 2, 3, 4, 5, 6, 7, 8, 9, 10, 11, 12, 13, 14, 15, 16] rfl
    refine va_callvD hd3 (va_runV_D (As := [.int (nI n), .int sun]) (rest := []) ⟨hx, hb, hml, (xk_od hown), (dr_words hts _)⟩ (mX1_giveByShare l D cI cZ cD a _ sh sw ts1 bi (po 0 5 it (fun _ => 0)) tu ne2 pr so (FP.i2d sun) (nI tr) (nI n) (vf_upd lp n pr) lz lu1 (po (5 * n) 5 lk it) ld1 lf lb lw n sun hn _ hb2) (cwV 2 (dr_words hts _) gX1_close_X1_giveByShare rfl rfl rfl (by decide +kernel) ⟨Nat.le_of_ble_eq_true rfl, Nat.le_of_ble_eq_true rfl⟩) ⟨xk_blind, va_recv (xk_Kd hK) hP (ci := 1) (q0 := 0) rfl rfl, xk_pre hP (xk_Kd hK) hD⟩ rfl rfl hl.1 rfl (lv_room (Nat.le_of_ble_eq_true rfl)) dX1_close_72 ⟨Nat.le_of_ble_eq_true rfl, Nat.le_of_ble_eq_true rfl⟩) hS (fun q _ h => hFc q h) hFc (fun u t H locs ht hvm hw hB hz1 hk1 hS _ hd5 => ?_)
    obtain ⟨lf1, ne3, lo1⟩ := u
    obtain ⟨hP, -, hD1⟩ := hB
    rw [ht] at hP
    have hD := hD1.weaken (B := A) (fun _ _ _ h => hFc _ h)
    have hP : va_P D vwCl (XW a cI cZ cD sh sw ts1 bi (po 0 5 it (fun _ => 0)) tu ne3 pr so lo1 (nI tr) (nI n) (vf_upd lp n pr) lz lu1 (po (5 * n) 5 lk it) ld1 lf1 lb lw) H := hP
    have hD : va_D A (XW a cI cZ cD sh sw ts1 bi (po 0 5 it (fun _ => 0)) tu ne3 pr so lo1 (nI tr) (nI n) (vf_upd lp n pr) lz lu1 (po (5 * n) 5 lk it) ld1 lf1 lb lw) := hD
    obtain ⟨hd1, hd2, hd3⟩ := hw
    refine lv_aload_n hx hb dX1_close_75 rfl (lv_at hl 2 rfl) ?_
    refine lv_iload_n hx hb dX1_close_76 rfl (lv_at hl 1 rfl) ?_
    have hFc := va_free (wc := XW a cI cZ cD sh sw ts1 bi (po 0 5 it (fun _ => 0)) tu ne3 pr so lo1 (nI tr) (nI n) (vf_upd lp n pr) lz lu1 (po (5 * n) 5 lk it) ld1 lf1 lb lw) hD hS hA [0, 1, 2, 3, 4, 5, 6, 7, 8, 9, 10, 11, 12, 13, 14, 15, 16] rfl
    refine va_callvD hd5 (va_runV_D (As := [.int (nI n)]) (rest := []) ⟨hx, hb, hml, (xk_od hown), (dr_words hts _)⟩ (mX1_giveByNeed l D cI cZ cD a _ sh sw ts1 bi (po 0 5 it (fun _ => 0)) tu ne3 pr so lo1 (nI tr) (nI n) (vf_upd lp n pr) lz lu1 (po (5 * n) 5 lk it) ld1 lf1 lb lw n hn _ hd2) (cwV 1 (dr_words hts _) gX1_close_X1_giveByNeed rfl rfl rfl (by decide +kernel) ⟨Nat.le_of_ble_eq_true rfl, Nat.le_of_ble_eq_true rfl⟩) ⟨xk_blind, va_recv (xk_Kd hK) hP (ci := 1) (q0 := 0) rfl rfl, xk_pre hP (xk_Kd hK) hD⟩ rfl rfl hl.1 rfl (lv_room (Nat.le_of_ble_eq_true rfl)) dX1_close_77 ⟨Nat.le_of_ble_eq_true rfl, Nat.le_of_ble_eq_true rfl⟩) hS (fun q _ h => hFc q h) hFc (fun u t H locs ht hvm hw hB hz1 hk1 hS _ hd6 => ?_)
    obtain ⟨lf2, ne4, lo2⟩ := u
    obtain ⟨hP, -, hD1⟩ := hB
    rw [ht] at hP
    have hD := hD1.weaken (B := A) (fun _ _ _ h => hFc _ h)
    have hP : va_P D vwCl (XW a cI cZ cD sh sw ts1 bi (po 0 5 it (fun _ => 0)) tu ne4 pr so lo2 (nI tr) (nI n) (vf_upd lp n pr) lz lu1 (po (5 * n) 5 lk it) ld1 lf2 lb lw) H := hP
    have hD : va_D A (XW a cI cZ cD sh sw ts1 bi (po 0 5 it (fun _ => 0)) tu ne4 pr so lo2 (nI tr) (nI n) (vf_upd lp n pr) lz lu1 (po (5 * n) 5 lk it) ld1 lf2 lb lw) := hD
    obtain ⟨he1, he2, he3⟩ := hw
    dsimp only at hd1 hd2 hd3 he1 he2 he3
    have hd3 : dt lo1 = kL1 sun sh ((cT sw ts it tu lk (dts lu) n).2) := hd3
    rw [hd3] at he1 he2 he3
    have he2 : is5 ne4 (kV3 sun sh ((cT sw ts it tu lk (dts lu) n).2)) := he2
    have he3 : dt lo2 = kL2 sun sh ((cT sw ts it tu lk (dts lu) n).2) := he3
    have he1 : dts lf2 = kF sun sh ((cT sw ts it tu lk (dts lu) n).2) n (dts lf) := by rw [he1, hd1]; rfl
    refine lv_aload_n hx hb dX1_close_80 rfl (lv_at hl 2 rfl) ?_
    refine lv_iload_n hx hb dX1_close_81 rfl (lv_at hl 1 rfl) ?_
    have hFc := va_free (wc := XW a cI cZ cD sh sw ts1 bi (po 0 5 it (fun _ => 0)) tu ne4 pr so lo2 (nI tr) (nI n) (vf_upd lp n pr) lz lu1 (po (5 * n) 5 lk it) ld1 lf2 lb lw) hD hS hA [0, 1, 2, 3, 4, 5, 6, 7, 8, 9, 10, 11, 12, 13, 14, 15, 16] rfl
    refine va_callvD hd6 (va_runV_D (As := [.int (nI n)]) (rest := []) ⟨hx, hb, hml, (xk_od hown), (dr_words hts _)⟩ (mX1_storeOrSell l D cI cZ cD a _ sh sw ts1 bi (po 0 5 it (fun _ => 0)) tu ne4 pr so lo2 (nI tr) (nI n) (vf_upd lp n pr) lz lu1 (po (5 * n) 5 lk it) ld1 lf2 lb lw n hn) (cwV 1 (dr_words hts _) gX1_close_X1_storeOrSell rfl rfl rfl (by decide +kernel) ⟨Nat.le_of_ble_eq_true rfl, Nat.le_of_ble_eq_true rfl⟩) ⟨xk_blind, va_recv (xk_Kd hK) hP (ci := 1) (q0 := 0) rfl rfl, xk_pre hP (xk_Kd hK) hD⟩ rfl rfl hl.1 rfl (lv_room (Nat.le_of_ble_eq_true rfl)) dX1_close_82 ⟨Nat.le_of_ble_eq_true rfl, Nat.le_of_ble_eq_true rfl⟩) hS (fun q _ h => hFc q h) hFc (fun u t H locs ht hvm hw hB hz1 hk1 hS _ hd7 => ?_)
    obtain ⟨so1, lz1⟩ := u
    obtain ⟨hP, -, hD1⟩ := hB
    rw [ht] at hP
    have hD := hD1.weaken (B := A) (fun _ _ _ h => hFc _ h)
    have hP : va_P D vwCl (XW a cI cZ cD sh sw ts1 bi (po 0 5 it (fun _ => 0)) tu ne4 pr so1 lo2 (nI tr) (nI n) (vf_upd lp n pr) lz1 lu1 (po (5 * n) 5 lk it) ld1 lf2 lb lw) H := hP
    have hD : va_D A (XW a cI cZ cD sh sw ts1 bi (po 0 5 it (fun _ => 0)) tu ne4 pr so1 lo2 (nI tr) (nI n) (vf_upd lp n pr) lz1 lu1 (po (5 * n) 5 lk it) ld1 lf2 lb lw) := hD
    obtain ⟨hf1, hf2⟩ := hw
    dsimp only at hf1 hf2
    rw [he3] at hf1 hf2
    have hf1 : dt so1 = kS sun sh ((cT sw ts it tu lk (dts lu) n).2) (dt so) := hf1
    have hf2 : dts lz1 = kZ sun sh ((cT sw ts it tu lk (dts lu) n).2) (dt so) (dts lz) n := hf2
    refine lv_aload_n hx hb dX1_close_85 rfl (lv_at hl 2 rfl) ?_
    refine va_get (D := D) (ci := 1) (v := .double lo2) (C := RX1) (T := TX1) (N := 12) hx hb (dr_words hts _) inX1 (xk_od hown) (xk_Kd hK) hP 0 rfl rfl 11 (by decide) (dr_words hts _ (.fieldLink RX1 53 "GridCommons" "leftOver" "D") (by decide +kernel)) (fun _ h9 => h9) rfl dX1_close_86 ?_
    refine lv_dconst0 hx hb dX1_close_89 ?_
    refine lv_dcmp hx hb dX1_close_90 ?_
    refine lv_if_ne (tgt := 99) hx hb dX1_close_91 (by decide) (fun c1 => ?_) (fun c1 => ?_)
    · skip
      have hL : ¬ dCmp (kL2 sun sh ((cT sw ts it tu lk (dts lu) n).2)) dZ = some .eq := fun q => c1 ((cv_l_eq _).mpr (show dCmp (dt lo2) dZ = some .eq by rw [he3]; exact q))
      have hk : kB sun sh ((cT sw ts it tu lk (dts lu) n).2) (dt so) (dts lb) tr n = (kV3 sun sh ((cT sw ts it tu lk (dts lu) n).2), kS sun sh ((cT sw ts it tu lk (dts lu) n).2) (dt so), dts lb, tr) := if_neg hL
      have hV4 : is5 ne4 (kB sun sh ((cT sw ts it tu lk (dts lu) n).2) (dt so) (dts lb) tr n).1 := by rw [hk]; exact he2
      refine lv_aload_n hx hb dX1_close_99 rfl (lv_at hl 2 rfl) ?_
      refine lv_iload_n hx hb dX1_close_100 rfl (lv_at hl 1 rfl) ?_
      have hFc := va_free (wc := XW a cI cZ cD sh sw ts1 bi (po 0 5 it (fun _ => 0)) tu ne4 pr so1 lo2 (nI tr) (nI n) (vf_upd lp n pr) lz1 lu1 (po (5 * n) 5 lk it) ld1 lf2 lb lw) hD hS hA [0, 1, 2, 3, 4, 5, 6, 7, 8, 9, 10, 11, 12, 13, 14, 15, 16] rfl
      refine va_callvD hd7 (va_runV_D (As := [.int (nI n)]) (rest := []) ⟨hx, hb, hml, (xk_od hown), (dr_words hts _)⟩ (mX1_writeBills l D cI cZ cD a _ sh sw ts1 bi (po 0 5 it (fun _ => 0)) tu ne4 pr so1 lo2 (nI tr) (nI n) (vf_upd lp n pr) lz1 lu1 (po (5 * n) 5 lk it) ld1 lf2 lb lw n hn _ hV4) (cwV 1 (dr_words hts _) gX1_close_X1_writeBills rfl rfl rfl (by decide +kernel) ⟨Nat.le_of_ble_eq_true rfl, Nat.le_of_ble_eq_true rfl⟩) ⟨xk_blind, va_recv (xk_Kd hK) hP (ci := 1) (q0 := 0) rfl rfl, xk_pre hP (xk_Kd hK) hD⟩ rfl rfl hl.1 rfl (lv_room (Nat.le_of_ble_eq_true rfl)) dX1_close_101 ⟨Nat.le_of_ble_eq_true rfl, Nat.le_of_ble_eq_true rfl⟩) hS (fun q _ h => hFc q h) hFc (fun u t H locs ht hvm hw hB hz1 hk1 hS _ hd8 => ?_)
      obtain ⟨lw1, bi1⟩ := u
      obtain ⟨hP, -, hD1⟩ := hB
      rw [ht] at hP
      have hD := hD1.weaken (B := A) (fun _ _ _ h => hFc _ h)
      have hP : va_P D vwCl (XW a cI cZ cD sh sw ts1 bi1 (po 0 5 it (fun _ => 0)) tu ne4 pr so1 lo2 (nI tr) (nI n) (vf_upd lp n pr) lz1 lu1 (po (5 * n) 5 lk it) ld1 lf2 lb lw1) H := hP
      have hD : va_D A (XW a cI cZ cD sh sw ts1 bi1 (po 0 5 it (fun _ => 0)) tu ne4 pr so1 lo2 (nI tr) (nI n) (vf_upd lp n pr) lz1 lu1 (po (5 * n) 5 lk it) ld1 lf2 lb lw1) := hD
      obtain ⟨hg1, hg2⟩ := hw
      dsimp only at hg1 hg2
      rw [hf2] at hg2
      refine lv_aload_n hx hb dX1_close_104 rfl (lv_at hl 2 rfl) ?_
      refine va_get (D := D) (ci := 1) (v := .ref (a 8)) (C := RX1) (T := TX1) (N := 12) hx hb (dr_words hts _) inX1 (xk_od hown) (xk_Kd hK) hP 0 rfl rfl 6 (by decide) (dr_words hts _ (.fieldLink RX1 33 "GridCommons" "ledger" "LGridCommons$Ledger;") (by decide +kernel)) (fun _ h9 => h9) rfl dX1_close_105 ?_
      refine lv_iload_n hx hb dX1_close_108 rfl (lv_at hl 1 rfl) ?_
      refine lv_iconst (v := nI 1) hx hb dX1_close_109 (by decide) ?_
      refine lv_iadd hx hb dX1_close_110 ?_
      refine xk_i (y := nI (n + 1)) (nI_1 n) ?_
      refine va_put (D := D) (ci := 0) (v := .int (nI (n + 1))) (ty := .int) (C := RX0) (T := TX0) (N := 9) hx hb (dr_words hts _) inX0 tyX0 tyX0_ok nmX0 (xk_od hown) (xk_Kd hK) hP hD hS 8 rfl rfl 0 (by decide) (dr_words hts _ (.fieldLink RX1 77 "GridCommons$Ledger" "count" "I") (by decide +kernel)) (fun _ h9 => h9) rfl (by decide +kernel) rfl rfl (Nat.le_of_ble_eq_true rfl) dX1_close_111 (fun H locs hP hD hS => ?_)
      have hP : va_P D vwCl (XW a cI cZ cD sh sw ts1 bi1 (po 0 5 it (fun _ => 0)) tu ne4 pr so1 lo2 (nI tr) (nI (n + 1)) (vf_upd lp n pr) lz1 lu1 (po (5 * n) 5 lk it) ld1 lf2 lb lw1) H := hP
      have hD : va_D A (XW a cI cZ cD sh sw ts1 bi1 (po 0 5 it (fun _ => 0)) tu ne4 pr so1 lo2 (nI tr) (nI (n + 1)) (vf_upd lp n pr) lz1 lu1 (po (5 * n) 5 lk it) ld1 lf2 lb lw1) := hD
      refine lv_iload_n hx hb dX1_close_114 rfl (lv_at hl 0 rfl) ?_
      subst hov
      refine W.endD hd8 ?_
      exact W.zret hx hb hr (bI_nar _) (fun t ht hW => ⟨⟨_, ((ts1, lu1, ne4, lo2), (ld1, lf2, so1, lz1), (lb, tr, lw1, bi1)), rfl, ⟨rfl, hb1, ha1, hc1, he1, hf2, by rw [hk]; exact hf1, by rw [hk], by rw [hk], hg1, hg2⟩, by rw [ht]; exact hP, va_K.moved hW.alike (xk_Kd hK), hD⟩, hS.F ht⟩) hS.2.2 dX1_close_115
    · skip
      have hL : dCmp (kL2 sun sh ((cT sw ts it tu lk (dts lu) n).2)) dZ = some .eq := by have q := (cv_l_eq _).mp c1; have q2 : dCmp (dt lo2) dZ = some .eq := q; rw [he3] at q2; exact q2
      refine lv_aload_n hx hb dX1_close_94 rfl (lv_at hl 2 rfl) ?_
      refine lv_iload_n hx hb dX1_close_95 rfl (lv_at hl 1 rfl) ?_
      have hFc := va_free (wc := XW a cI cZ cD sh sw ts1 bi (po 0 5 it (fun _ => 0)) tu ne4 pr so1 lo2 (nI tr) (nI n) (vf_upd lp n pr) lz1 lu1 (po (5 * n) 5 lk it) ld1 lf2 lb lw) hD hS hA [0, 1, 2, 3, 4, 5, 6, 7, 8, 9, 10, 11, 12, 13, 14, 15, 16] rfl
      refine va_callvD hd7 (va_runV_D (As := [.int (nI n)]) (rest := []) ⟨hx, hb, hml, (xk_od hown), (dr_words hts _)⟩ (mX1_giveFromBattery l D cI cZ cD a _ sh sw ts1 bi (po 0 5 it (fun _ => 0)) tu ne4 pr so1 lo2 (nI n) (vf_upd lp n pr) lz1 lu1 (po (5 * n) 5 lk it) ld1 lf2 lb lw n tr hn htr _ he2) (cwV 1 (dr_words hts _) gX1_close_X1_giveFromBattery rfl rfl rfl (by decide +kernel) ⟨Nat.le_of_ble_eq_true rfl, Nat.le_of_ble_eq_true rfl⟩) ⟨xk_blind, va_recv (xk_Kd hK) hP (ci := 1) (q0 := 0) rfl rfl, xk_pre hP (xk_Kd hK) hD⟩ rfl rfl hl.1 rfl (lv_room (Nat.le_of_ble_eq_true rfl)) dX1_close_96 ⟨Nat.le_of_ble_eq_true rfl, Nat.le_of_ble_eq_true rfl⟩) hS (fun q _ h => hFc q h) hFc (fun u t H locs ht hvm hw hB hz1 hk1 hS _ hd9 => ?_)
      obtain ⟨ne5, so2, lb1, tr1⟩ := u
      obtain ⟨hP, -, hD1⟩ := hB
      rw [ht] at hP
      have hD := hD1.weaken (B := A) (fun _ _ _ h => hFc _ h)
      have hP : va_P D vwCl (XW a cI cZ cD sh sw ts1 bi (po 0 5 it (fun _ => 0)) tu ne5 pr so2 lo2 (nI tr1) (nI n) (vf_upd lp n pr) lz1 lu1 (po (5 * n) 5 lk it) ld1 lf2 lb1 lw) H := hP
      have hD : va_D A (XW a cI cZ cD sh sw ts1 bi (po 0 5 it (fun _ => 0)) tu ne5 pr so2 lo2 (nI tr1) (nI n) (vf_upd lp n pr) lz1 lu1 (po (5 * n) 5 lk it) ld1 lf2 lb1 lw) := hD
      obtain ⟨hh1, hh2, hh3, hh4⟩ := hw
      dsimp only at hh1 hh2 hh3 hh4
      rw [hf1] at hh1 hh2 hh3 hh4
      have hk : kB sun sh ((cT sw ts it tu lk (dts lu) n).2) (dt so) (dts lb) tr n = ((gbs tr (5 * n) (kV3 sun sh ((cT sw ts it tu lk (dts lu) n).2)) (kS sun sh ((cT sw ts it tu lk (dts lu) n).2) (dt so)) (dts lb) 5).1, (gbs tr (5 * n) (kV3 sun sh ((cT sw ts it tu lk (dts lu) n).2)) (kS sun sh ((cT sw ts it tu lk (dts lu) n).2) (dt so)) (dts lb) 5).2.1, (gbs tr (5 * n) (kV3 sun sh ((cT sw ts it tu lk (dts lu) n).2)) (kS sun sh ((cT sw ts it tu lk (dts lu) n).2) (dt so)) (dts lb) 5).2.2.1, tnx tr (gbs tr (5 * n) (kV3 sun sh ((cT sw ts it tu lk (dts lu) n).2)) (kS sun sh ((cT sw ts it tu lk (dts lu) n).2) (dt so)) (dts lb) 5).2.2.2) := if_pos hL
      have hV4 : is5 ne5 (kB sun sh ((cT sw ts it tu lk (dts lu) n).2) (dt so) (dts lb) tr n).1 := by rw [hk]; exact hh1
      refine lv_aload_n hx hb dX1_close_99 rfl (lv_at hl 2 rfl) ?_
      refine lv_iload_n hx hb dX1_close_100 rfl (lv_at hl 1 rfl) ?_
      have hFc := va_free (wc := XW a cI cZ cD sh sw ts1 bi (po 0 5 it (fun _ => 0)) tu ne5 pr so2 lo2 (nI tr1) (nI n) (vf_upd lp n pr) lz1 lu1 (po (5 * n) 5 lk it) ld1 lf2 lb1 lw) hD hS hA [0, 1, 2, 3, 4, 5, 6, 7, 8, 9, 10, 11, 12, 13, 14, 15, 16] rfl
      refine va_callvD hd9 (va_runV_D (As := [.int (nI n)]) (rest := []) ⟨hx, hb, hml, (xk_od hown), (dr_words hts _)⟩ (mX1_writeBills l D cI cZ cD a _ sh sw ts1 bi (po 0 5 it (fun _ => 0)) tu ne5 pr so2 lo2 (nI tr1) (nI n) (vf_upd lp n pr) lz1 lu1 (po (5 * n) 5 lk it) ld1 lf2 lb1 lw n hn _ hV4) (cwV 1 (dr_words hts _) gX1_close_X1_writeBills rfl rfl rfl (by decide +kernel) ⟨Nat.le_of_ble_eq_true rfl, Nat.le_of_ble_eq_true rfl⟩) ⟨xk_blind, va_recv (xk_Kd hK) hP (ci := 1) (q0 := 0) rfl rfl, xk_pre hP (xk_Kd hK) hD⟩ rfl rfl hl.1 rfl (lv_room (Nat.le_of_ble_eq_true rfl)) dX1_close_101 ⟨Nat.le_of_ble_eq_true rfl, Nat.le_of_ble_eq_true rfl⟩) hS (fun q _ h => hFc q h) hFc (fun u t H locs ht hvm hw hB hz1 hk1 hS _ hd10 => ?_)
      obtain ⟨lw1, bi1⟩ := u
      obtain ⟨hP, -, hD1⟩ := hB
      rw [ht] at hP
      have hD := hD1.weaken (B := A) (fun _ _ _ h => hFc _ h)
      have hP : va_P D vwCl (XW a cI cZ cD sh sw ts1 bi1 (po 0 5 it (fun _ => 0)) tu ne5 pr so2 lo2 (nI tr1) (nI n) (vf_upd lp n pr) lz1 lu1 (po (5 * n) 5 lk it) ld1 lf2 lb1 lw1) H := hP
      have hD : va_D A (XW a cI cZ cD sh sw ts1 bi1 (po 0 5 it (fun _ => 0)) tu ne5 pr so2 lo2 (nI tr1) (nI n) (vf_upd lp n pr) lz1 lu1 (po (5 * n) 5 lk it) ld1 lf2 lb1 lw1) := hD
      obtain ⟨hg1, hg2⟩ := hw
      dsimp only at hg1 hg2
      rw [hf2] at hg2
      refine lv_aload_n hx hb dX1_close_104 rfl (lv_at hl 2 rfl) ?_
      refine va_get (D := D) (ci := 1) (v := .ref (a 8)) (C := RX1) (T := TX1) (N := 12) hx hb (dr_words hts _) inX1 (xk_od hown) (xk_Kd hK) hP 0 rfl rfl 6 (by decide) (dr_words hts _ (.fieldLink RX1 33 "GridCommons" "ledger" "LGridCommons$Ledger;") (by decide +kernel)) (fun _ h9 => h9) rfl dX1_close_105 ?_
      refine lv_iload_n hx hb dX1_close_108 rfl (lv_at hl 1 rfl) ?_
      refine lv_iconst (v := nI 1) hx hb dX1_close_109 (by decide) ?_
      refine lv_iadd hx hb dX1_close_110 ?_
      refine xk_i (y := nI (n + 1)) (nI_1 n) ?_
      refine va_put (D := D) (ci := 0) (v := .int (nI (n + 1))) (ty := .int) (C := RX0) (T := TX0) (N := 9) hx hb (dr_words hts _) inX0 tyX0 tyX0_ok nmX0 (xk_od hown) (xk_Kd hK) hP hD hS 8 rfl rfl 0 (by decide) (dr_words hts _ (.fieldLink RX1 77 "GridCommons$Ledger" "count" "I") (by decide +kernel)) (fun _ h9 => h9) rfl (by decide +kernel) rfl rfl (Nat.le_of_ble_eq_true rfl) dX1_close_111 (fun H locs hP hD hS => ?_)
      have hP : va_P D vwCl (XW a cI cZ cD sh sw ts1 bi1 (po 0 5 it (fun _ => 0)) tu ne5 pr so2 lo2 (nI tr1) (nI (n + 1)) (vf_upd lp n pr) lz1 lu1 (po (5 * n) 5 lk it) ld1 lf2 lb1 lw1) H := hP
      have hD : va_D A (XW a cI cZ cD sh sw ts1 bi1 (po 0 5 it (fun _ => 0)) tu ne5 pr so2 lo2 (nI tr1) (nI (n + 1)) (vf_upd lp n pr) lz1 lu1 (po (5 * n) 5 lk it) ld1 lf2 lb1 lw1) := hD
      refine lv_iload_n hx hb dX1_close_114 rfl (lv_at hl 0 rfl) ?_
      subst hov
      refine W.endD hd10 ?_
      exact W.zret hx hb hr (bI_nar _) (fun t ht hW => ⟨⟨_, ((ts1, lu1, ne5, lo2), (ld1, lf2, so2, lz1), (lb1, tr1, lw1, bi1)), rfl, ⟨rfl, hb1, ha1, hc1, he1, hf2, by rw [hk]; exact hh2, by rw [hk]; exact hh3, by rw [hk]; exact hh4, hg1, hg2⟩, by rw [ht]; exact hP, va_K.moved hW.alike (xk_Kd hK), hD⟩, hS.F ht⟩) hS.2.2 dX1_close_115
  · skip
    exact absurd (nI_lt hn (by decide)) c
set_option maxHeartbeats 4000000 in
set_option maxRecDepth 100000 in
theorem mX1_closeX (l : Launch) (hst : l.stackTraces = false) (D : va_G) (cI cZ cD : ClassId) (a : Nat → Nat) (Hp : Heap) (sh sw ts : Nat → Int32) (bi : Nat → UInt64) (it tu : Nat → Int32) (ne : Nat → UInt64) (pr so lo : UInt64) (wt : Int32) (lp lz lu : Nat → UInt64) (lk : Nat → Int32) (ld lf lb lw : Nat → UInt64) (n : Nat) (hn : n ≤ 60) (sun : Int32) (hbad : ¬ (inR sun 0 100 ∧ n < 60)) : vx_Met l yX1_close wsX1_close ({ frames := 7, cells := 1, slots := 6, locals := 104 } : Room) (va_Pc [.ref (a 0), .int sun] (XQ D cI cZ cD (XW a cI cZ cD sh sw ts bi it tu ne pr so lo wt (nI n) lp lz lu lk ld lf lb lw) Hp)) (va_Qi (fun _ (_ : Unit) => False) (fun _ _ => True) (fun q => Hp.size ≤ q)) (XE (fun E => (E = "java/lang/IllegalArgumentException" ∧ ¬ inR sun 0 100) ∨ (E = "java/lang/IllegalStateException" ∧ inR sun 0 100 ∧ ¬ n < 60)) Hp.size) 1 6 (fun q => Hp.size ≤ q) := by
  refine vx_ofW (cc := cX1_close) (maxL := 4) (ret := (some .boolean)) (by decide +kernel) rfl ?_
  intro p e s m args below meth c s₁ B hml htab hv
  obtain ⟨rfl, hsz, ⟨hP, hK, hD⟩, hE⟩ := hv
  have hx := B.exec
  have hb := B.bytes
  have hr := B.returns
  have hts := atoms_spec (ws := wsX1_close) B.pre
  have hown : s.vm.findClass RX1 = some m.cls := findClass_of_methodNamed B.named
  have hlocks := B.notSynchronized
  subst hsz
  have hA : ∀ q : Nat, s.heap.size ≤ q → (fun q => s.heap.size ≤ q) q := fun q h => h
  have hS : va_S (fun q => s.heap.size ≤ q) s.heap s.heap [] := va_S.rf
  have hl := lv_entry ([.ref (a 0), .int sun]) (n := 4) (Nat.le_of_ble_eq_true rfl)
  rw [lg_entry_eq]
  generalize (lg_sl ([.ref (a 0), .int sun]) ++ List.replicate (4 - (lg_sl ([.ref (a 0), .int sun])).length) Slot.unset).toArray = ls at hl ⊢
  have hl : lv_has ls 4 [(0, .ref (a 0)), (1, .int sun)] := hl
  have inX1 : ∀ w ∈ wsX10, w ∈ wsX1_close := by decide +kernel
  have inX0 : ∀ w ∈ wsX00, w ∈ wsX1_close := by decide +kernel
  refine lv_iload_n hx hb dX1_close_0 rfl (lv_at hl 1 rfl) ?_
  refine lv_iconst (v := nI 0) hx hb dX1_close_1 (by decide) ?_
  refine lv_bipush (v := nI 100) hx hb dX1_close_2 (by decide) ?_
  by_cases hin : inR sun 0 100
  · skip
    refine va_csv (va_Run.run (va_runS (As := [.int sun, .int (nI 0), .int (nI 100)]) (rest := []) ⟨hx, hb, hml, hown, hts⟩ (mX1_requireWithinV l sun (nI 0) (nI 100) hin) (va_cwS 3 hts gX1_close_X1_requireWithin rfl rfl rfl (by decide +kernel) ⟨Nat.le_of_ble_eq_true rfl, Nat.le_of_ble_eq_true rfl⟩) ⟨fun a U g mk q => q, fun U hU hW => ⟨rfl, trivial⟩⟩ rfl rfl hl.1 rfl (lv_room (Nat.le_of_ble_eq_true rfl)) dX1_close_4 ⟨Nat.le_of_ble_eq_true rfl, Nat.le_of_ble_eq_true rfl⟩)) (fun _ => ?_)
    refine lv_aload_n hx hb dX1_close_7 rfl (lv_at hl 0 rfl) ?_
    refine va_get (D := D) (ci := 1) (v := .ref (a 8)) (C := RX1) (T := TX1) (N := 12) hx hb hts inX1 hown hK hP 0 rfl rfl 6 (by decide) (hts (.fieldLink RX1 33 "GridCommons" "ledger" "LGridCommons$Ledger;") (by decide +kernel)) (fun _ h9 => h9) rfl dX1_close_8 ?_
    refine va_get (D := D) (ci := 0) (v := .int (nI n)) (C := RX0) (T := TX0) (N := 9) hx hb hts inX0 hown hK hP 8 rfl rfl 0 (by decide) (hts (.fieldLink RX1 77 "GridCommons$Ledger" "count" "I") (by decide +kernel)) (fun _ h9 => h9) rfl dX1_close_11 ?_
    refine lv_istore_n (lv' := [(2, .int (nI n)), (0, .ref (a 0)), (1, .int sun)]) hx hb dX1_close_14 rfl hl (by decide) rfl (fun ls hl => ?_)
    refine lv_iload_n hx hb dX1_close_15 rfl (lv_at hl 0 rfl) ?_
    refine lv_bipush (v := nI 60) hx hb dX1_close_16 (by decide) ?_
    refine lv_icmp_lt (tgt := 31) hx hb dX1_close_18 (by decide) (fun c => ?_) (fun c => ?_)
    · skip
      exact absurd ⟨hin, (nI_ltI (by omega) (by decide)).mp c⟩ hbad
    · skip
      obtain ⟨sa, hstr⟩ := hE.2.2.2 (80, "60 quarters are closed") (by decide)
      have hat0 : ∀ w ∈ (vx_atS RX1 72 "java/lang/IllegalStateException" ["java/lang/RuntimeException", "java/lang/Exception"]).filter goodWord, w ∈ wsX1_close := by decide +kernel
      exact vx_throwS (text := "60 quarters are closed") (names := ["java/lang/RuntimeException", "java/lang/Exception"]) hx hb hst hown (by decide +kernel) (by decide +kernel) (hts (.classLink RX1 68 "java/lang/IllegalStateException") (by decide +kernel)) (hts (.initialized "java/lang/IllegalStateException") (by decide +kernel)) hstr (vx_hat (B := exW) (fun w h => hts w (hat0 w h)) (by decide +kernel) hE.words) (by decide +kernel) hE.1 hE.2.1 hS (hl.1.trans hml.symm) dX1_close_21 dX1_close_24 dX1_close_25 dX1_close_27 dX1_close_30 (fun x h => (htab x h).elim) (Nat.le_of_ble_eq_true rfl) (Nat.le_of_ble_eq_true rfl) (Nat.le_of_ble_eq_true rfl) (Nat.le_of_ble_eq_true rfl) hlocks (fun t ht hz hk => ⟨(), trivial, Or.inr ⟨rfl, hin, fun z => hbad ⟨hin, z⟩⟩, hz, fun q h1 _ => hk q h1⟩) hS.2.2 (Nat.le_refl _) (Nat.le_refl _)
  · skip
    exact vx_callv (vx_runS (As := [.int sun, .int (nI 0), .int (nI 100)]) (rest := []) ⟨hx, hb, hml, hown, hts⟩ (mX1_requireWithin l hst s.heap sun (nI 0) (nI 100)) (va_cwS 3 hts gX1_close_X1_requireWithin rfl rfl rfl (by decide +kernel) ⟨Nat.le_of_ble_eq_true rfl, Nat.le_of_ble_eq_true rfl⟩) ⟨xh_blind, xh_pre hE hS hA⟩ rfl rfl hl.1 rfl (lv_room (Nat.le_of_ble_eq_true rfl)) dX1_close_4 ⟨Nat.le_of_ble_eq_true rfl, Nat.le_of_ble_eq_true rfl⟩) hS (fun q h1 h2 => absurd h2 (Nat.not_le.mpr h1)) (fun q h => hA q (Nat.le_trans hS.1 h)) (fun q h1 h2 => absurd h2 (Nat.not_le.mpr h1)) (fun E ce q9 u9 t9 H9 locs9 ht9 hvm9 hpx9 hB9 hz9 hk9 hS9 hce9 hcv9 hcl9 => vx_out (fun x h => (htab x h).elim) hlocks hce9 hcv9 hcl9 (fun t8 ht8 hvm8 => ⟨(), trivial, Or.inl ⟨hB9.1, hB9.2⟩, by rw [ht8]; exact hz9, fun q h1 h2 => by rw [ht8]; exact hk9 q h1 h2⟩) hS9.2.2 (Nat.le_refl _) (Nat.le_refl _)) (fun u t H1 locs1 ht hvm hw hB hz1 hk1 hS1 => absurd hw hin)
end
section
/-! CONSTRUCTORS -/
section XKN
variable {p : Program} {l : Launch} {e : Env} {R : Room} {s : State} {m : MethodId} {args : Array Value} {below : List Frame} {meth : Method} {c : Code} {H : Heap} {locs : List Loc} {cells slots : Nat} {Q : State → Prop}
variable {cc : ByteArray} {pc : Nat} {ls : Array Slot} {rest : List Value} {D : va_G} {cl : List vw_C} {A : Nat → Prop} {tys : List (ClassId × FieldType)} {ws : va_W} {H0 : Heap}
/-- a new array whose class the tables' list has already -/
theorem xk_newa (hexec : p.tables.exec = Jvm.exec) (hb : c.code = cc) {atype : ArrayType} (harr : (Cond.arrayClass (newarray.typeOf atype)).before args s = true) {ty : FieldType} (hty : newarray.typeOf atype = ty) (hK : va_K D cl tys s) (hP : va_P D cl ws H) (hD : va_D A ws) (hS : va_S A H0 H locs) (hA : ∀ q, H0.size ≤ q → A q) (t0 : Nat) {cX : ClassId} (ht0 : tys[t0]? = some (cX, ty)) (hra : ∀ (U : State) (cA : ClassId), va_RA U cA ty → U.vm.findClass ("[" ++ ty.toString) = some cA)
    {n : Int32} {N' : Nat} {a0 : vp_A} (ha : ∀ cA : ClassId, vp_cell cA a0 = arrV cA N' (fun _ => defaultValue ty)) (hn : ¬ n < 0) (hN : n.toNatClampNeg = N') (hbytes : N' * componentBytes ty ≤ 536870912) (hcells : cells + 1 ≤ R.cells) (hslots : slots + N' ≤ R.slots) (hdg : decode cc pc = .ok (.newarray atype, 2))
    (kk : ∀ (q : Nat) (H1 : Heap), va_P D cl (ws ++ [(q, .inl (cX, a0))]) H1 → va_D A (ws ++ [(q, .inl (cX, a0))]) → va_S A H0 H1 locs →
      W p l e R s m args below meth c H1 locs (cells + 1) (slots + N') Q (F0 m (pc + 2) ls (.ref q :: rest))) : W p l e R s m args below meth c H locs cells slots Q (F0 m pc ls (.int n :: rest)) := by
  refine va_newa hexec hb harr hty hK hP hD hS hA ha hn hN hbytes hcells hslots hdg (fun q cA H1 hK1 hP1 hD1 hS1 => ?_)
  have e1 := hra s cA (hK1.2 tys.length (cA, ty) (by simp)).2
  have e2 := hra s cX (hK.2 t0 (cX, ty) ht0).2
  have e3 : cA = cX := Option.some.inj (e1.symm.trans e2)
  subst e3
  exact kk q H1 hP1 hD1 hS1
end XKN
/-- the class ids of int, boolean, double arrays, where the tables have them -/
theorem xk_arr {args : Array Value} {s : State} {D : va_G} {cl : List vw_C} {tys : List (ClassId × FieldType)} {ty : FieldType} (hK : va_K D cl tys s) (h : (Cond.arrayClass ty).before args s = true) (hra : ∀ (U : State) (cA : ClassId), U.vm.findClass ("[" ++ ty.toString) = some cA → va_RA U cA ty) : ∃ cA, va_K D cl (tys ++ [(cA, ty)]) s := by
  obtain ⟨cA, kA, comp, h1, h2, h3⟩ := Cond.arrayClass_spec (show (Cond.arrayClass ty).holds args s none s [] = true from h)
  refine ⟨cA, hK.1, fun k q hk => ?_⟩
  by_cases hl : k < tys.length
  · rw [List.getElem?_append_left hl] at hk
    exact hK.2 k q hk
  · rw [List.getElem?_append_right (by omega)] at hk
    have hz : k - tys.length < 1 := (List.getElem?_eq_some_iff.mp hk).1
    rw [show k - tys.length = 0 by omega] at hk
    cases hk
    exact ⟨fun n z => ⟨fun k h => (by cases h), kA, h2, comp, h3⟩, hra _ _ h1⟩
abbrev LW (h : Nat) (u : Nat → Nat) (cI cZ cD : ClassId) : va_W := [(h, .inr (0, [.int (nI 0), .ref (u 9), .ref (u 10), .ref (u 11), .ref (u 12), .ref (u 13), .ref (u 14), .ref (u 15), .ref (u 16)])), (u 9, .inl (cD, 60, .inr (.inr (.inr (.inl (fun _ => 0)))))), (u 10, .inl (cD, 60, .inr (.inr (.inr (.inl (fun _ => 0)))))), (u 11, .inl (cD, 300, .inr (.inr (.inr (.inl (fun _ => 0)))))), (u 12, .inl (cZ, 300, .inl (fun _ => 0))), (u 13, .inl (cD, 300, .inr (.inr (.inr (.inl (fun _ => 0)))))), (u 14, .inl (cD, 300, .inr (.inr (.inr (.inl (fun _ => 0)))))), (u 15, .inl (cD, 300, .inr (.inr (.inr (.inl (fun _ => 0)))))), (u 16, .inl (cD, 300, .inr (.inr (.inr (.inl (fun _ => 0))))))]
set_option maxHeartbeats 4000000 in
set_option maxRecDepth 100000 in
theorem mX0_init (l : Launch) (D : va_G) (cI cZ cD : ClassId) (h sz : Nat) : Met l yX0_init wsX0_init ({ frames := 1, cells := 8, slots := 1920, locals := 12 } : Room) (va_Pc [.ref h] (XP D cI cZ cD [(h, .inr (0, [.int 0, .null, .null, .null, .null, .null, .null, .null, .null]))] sz)) (va_Qv (fun _ : Nat → Nat => True) (fun u t => XB D cI cZ cD (LW h u cI cZ cD) (va_A [(h, .inr (0, [.int 0, .null, .null, .null, .null, .null, .null, .null, .null]))] sz) t) (va_A [(h, .inr (0, [.int 0, .null, .null, .null, .null, .null, .null, .null, .null]))] sz)) 8 1920 (va_A [(h, .inr (0, [.int 0, .null, .null, .null, .null, .null, .null, .null, .null]))] sz) := by
  refine Met.ofW (cc := cX0_init) (maxL := 1) (ret := none) (by decide +kernel) rfl ?_
  intro p e s m args below meth c s₁ B hml hv
  obtain ⟨rfl, hsz, ⟨hP, hK, hD0⟩⟩ := hv
  have hx := B.exec
  have hb := B.bytes
  have hr := B.returns
  have hts := atoms_spec (ws := wsX0_init) B.pre
  have hown : s.vm.findClass RX0 = some m.cls := findClass_of_methodNamed B.named
  have hlocks := B.notSynchronized
  subst hsz
  have hD := hD0.self (sz := s.heap.size)
  generalize hAe : va_A ([(h, .inr (0, [.int 0, .null, .null, .null, .null, .null, .null, .null, .null]))]) s.heap.size = A at hD ⊢
  have hA : ∀ q : Nat, s.heap.size ≤ q → A q := fun q h => by rw [← hAe]; exact Or.inr h
  have hS : va_S A s.heap s.heap [] := va_S.rf
  have hl := lv_entry ([.ref h]) (n := 1) (Nat.le_of_ble_eq_true rfl)
  rw [lg_entry_eq]
  generalize (lg_sl ([.ref h]) ++ List.replicate (1 - (lg_sl ([.ref h])).length) Slot.unset).toArray = ls at hl ⊢
  have hl : lv_has ls 1 [(0, .ref h)] := hl
  have hin : meth.name = "<init>" := (name_of_methodNamed B.named B.method).1
  have inX0 : ∀ w ∈ wsX00, w ∈ wsX0_init := by decide +kernel
  refine lv_aload_n hx hb dX0_init_0 rfl (lv_at hl 0 rfl) ?_
  refine W.objInit hx hb hown (hts (.methodLink RX0 3 objectInit) (by decide +kernel)) (hts (.instanceMethod objectInit) (by decide +kernel)) (hts (.code objectInit ⟨#[0xb1]⟩ 1 none) (by decide +kernel)) rfl (by rw [hml]; exact hl.1) rfl dX0_init_1 (Nat.le_of_ble_eq_true rfl) (Nat.le_of_ble_eq_true rfl) ?_
  refine W.eq (g2 := F0 m 4 ls []) rfl ?_
  refine lv_aload_n hx hb dX0_init_4 rfl (lv_at hl 0 rfl) ?_
  refine lv_iconst (v := nI 0) hx hb dX0_init_5 (by decide) ?_
  refine va_put (D := D) (ci := 0) (v := .int (nI 0)) (ty := .int) (C := RX0) (T := TX0) (N := 9) hx hb hts inX0 tyX0 tyX0_ok nmX0 hown hK hP hD hS 0 rfl rfl 0 (by decide) (hts (.fieldLink RX0 9 "GridCommons$Ledger" "count" "I") (by decide +kernel)) (fun _ h9 => h9) rfl (by decide +kernel) rfl rfl (Nat.le_of_ble_eq_true rfl) dX0_init_6 (fun H locs hP hD hS => ?_)
  have hP : va_P D vwCl [(h, .inr (0, [.int (nI 0), .null, .null, .null, .null, .null, .null, .null, .null]))] H := hP
  have hD : va_D A [(h, .inr (0, [.int (nI 0), .null, .null, .null, .null, .null, .null, .null, .null]))] := hD
  refine lv_aload_n hx hb dX0_init_9 rfl (lv_at hl 0 rfl) ?_
  refine lv_bipush (v := nI 60) hx hb dX0_init_10 (by decide) ?_
  refine xk_newa (atype := .double) (ty := .double) (N' := 60) (a0 := (60, .inr (.inr (.inr (.inl (fun _ => 0)))))) hx hb (hts (.arrayClass .double) (by decide +kernel)) rfl hK hP hD hS hA 2 rfl (fun _ _ h9 => h9) (fun _ => rfl) (by decide +kernel) (by decide +kernel) (Nat.le_of_ble_eq_true rfl) (Nat.le_of_ble_eq_true rfl) (Nat.le_of_ble_eq_true rfl) dX0_init_12 (fun q9 H hP hD hS => ?_)
  have hP : va_P D vwCl [(h, .inr (0, [.int (nI 0), .null, .null, .null, .null, .null, .null, .null, .null])), (q9, .inl (cD, 60, .inr (.inr (.inr (.inl (fun _ => 0))))))] H := hP
  have hD : va_D A [(h, .inr (0, [.int (nI 0), .null, .null, .null, .null, .null, .null, .null, .null])), (q9, .inl (cD, 60, .inr (.inr (.inr (.inl (fun _ => 0))))))] := hD
  refine va_putF (D := D) (ci := 0) (v := .ref q9) (ty := .array .double) (C := RX0) (T := TX0) (N := 9) hx hb hts inX0 tyX0 tyX0_ok nmX0 hown hK hP hD hS 0 rfl rfl 1 (by decide) (hts (.fieldLink RX0 15 "GridCommons$Ledger" "price" "[D") (by decide +kernel)) (fun _ h9 => h9) rfl hin rfl (by decide +kernel) rfl rfl (Nat.le_of_ble_eq_true rfl) dX0_init_14 (fun H locs hP hD hS => ?_)
  have hP : va_P D vwCl [(h, .inr (0, [.int (nI 0), .ref q9, .null, .null, .null, .null, .null, .null, .null])), (q9, .inl (cD, 60, .inr (.inr (.inr (.inl (fun _ => 0))))))] H := hP
  have hD : va_D A [(h, .inr (0, [.int (nI 0), .ref q9, .null, .null, .null, .null, .null, .null, .null])), (q9, .inl (cD, 60, .inr (.inr (.inr (.inl (fun _ => 0))))))] := hD
  refine lv_aload_n hx hb dX0_init_17 rfl (lv_at hl 0 rfl) ?_
  refine lv_bipush (v := nI 60) hx hb dX0_init_18 (by decide) ?_
  refine xk_newa (atype := .double) (ty := .double) (N' := 60) (a0 := (60, .inr (.inr (.inr (.inl (fun _ => 0)))))) hx hb (hts (.arrayClass .double) (by decide +kernel)) rfl hK hP hD hS hA 2 rfl (fun _ _ h9 => h9) (fun _ => rfl) (by decide +kernel) (by decide +kernel) (Nat.le_of_ble_eq_true rfl) (Nat.le_of_ble_eq_true rfl) (Nat.le_of_ble_eq_true rfl) dX0_init_20 (fun q10 H hP hD hS => ?_)
  have hP : va_P D vwCl [(h, .inr (0, [.int (nI 0), .ref q9, .null, .null, .null, .null, .null, .null, .null])), (q9, .inl (cD, 60, .inr (.inr (.inr (.inl (fun _ => 0)))))), (q10, .inl (cD, 60, .inr (.inr (.inr (.inl (fun _ => 0))))))] H := hP
  have hD : va_D A [(h, .inr (0, [.int (nI 0), .ref q9, .null, .null, .null, .null, .null, .null, .null])), (q9, .inl (cD, 60, .inr (.inr (.inr (.inl (fun _ => 0)))))), (q10, .inl (cD, 60, .inr (.inr (.inr (.inl (fun _ => 0))))))] := hD
  refine va_putF (D := D) (ci := 0) (v := .ref q10) (ty := .array .double) (C := RX0) (T := TX0) (N := 9) hx hb hts inX0 tyX0 tyX0_ok nmX0 hown hK hP hD hS 0 rfl rfl 2 (by decide) (hts (.fieldLink RX0 19 "GridCommons$Ledger" "sold" "[D") (by decide +kernel)) (fun _ h9 => h9) rfl hin rfl (by decide +kernel) rfl rfl (Nat.le_of_ble_eq_true rfl) dX0_init_22 (fun H locs hP hD hS => ?_)
  have hP : va_P D vwCl [(h, .inr (0, [.int (nI 0), .ref q9, .ref q10, .null, .null, .null, .null, .null, .null])), (q9, .inl (cD, 60, .inr (.inr (.inr (.inl (fun _ => 0)))))), (q10, .inl (cD, 60, .inr (.inr (.inr (.inl (fun _ => 0))))))] H := hP
  have hD : va_D A [(h, .inr (0, [.int (nI 0), .ref q9, .ref q10, .null, .null, .null, .null, .null, .null])), (q9, .inl (cD, 60, .inr (.inr (.inr (.inl (fun _ => 0)))))), (q10, .inl (cD, 60, .inr (.inr (.inr (.inl (fun _ => 0))))))] := hD
  refine lv_aload_n hx hb dX0_init_25 rfl (lv_at hl 0 rfl) ?_
  refine lv_sipush (v := nI 300) hx hb dX0_init_26 (by decide) ?_
  refine xk_newa (atype := .double) (ty := .double) (N' := 300) (a0 := (300, .inr (.inr (.inr (.inl (fun _ => 0)))))) hx hb (hts (.arrayClass .double) (by decide +kernel)) rfl hK hP hD hS hA 2 rfl (fun _ _ h9 => h9) (fun _ => rfl) (by decide +kernel) (by decide +kernel) (Nat.le_of_ble_eq_true rfl) (Nat.le_of_ble_eq_true rfl) (Nat.le_of_ble_eq_true rfl) dX0_init_29 (fun q11 H hP hD hS => ?_)
  have hP : va_P D vwCl [(h, .inr (0, [.int (nI 0), .ref q9, .ref q10, .null, .null, .null, .null, .null, .null])), (q9, .inl (cD, 60, .inr (.inr (.inr (.inl (fun _ => 0)))))), (q10, .inl (cD, 60, .inr (.inr (.inr (.inl (fun _ => 0)))))), (q11, .inl (cD, 300, .inr (.inr (.inr (.inl (fun _ => 0))))))] H := hP
  have hD : va_D A [(h, .inr (0, [.int (nI 0), .ref q9, .ref q10, .null, .null, .null, .null, .null, .null])), (q9, .inl (cD, 60, .inr (.inr (.inr (.inl (fun _ => 0)))))), (q10, .inl (cD, 60, .inr (.inr (.inr (.inl (fun _ => 0)))))), (q11, .inl (cD, 300, .inr (.inr (.inr (.inl (fun _ => 0))))))] := hD
  refine va_putF (D := D) (ci := 0) (v := .ref q11) (ty := .array .double) (C := RX0) (T := TX0) (N := 9) hx hb hts inX0 tyX0 tyX0_ok nmX0 hown hK hP hD hS 0 rfl rfl 3 (by decide) (hts (.fieldLink RX0 22 "GridCommons$Ledger" "use" "[D") (by decide +kernel)) (fun _ h9 => h9) rfl hin rfl (by decide +kernel) rfl rfl (Nat.le_of_ble_eq_true rfl) dX0_init_31 (fun H locs hP hD hS => ?_)
  have hP : va_P D vwCl [(h, .inr (0, [.int (nI 0), .ref q9, .ref q10, .ref q11, .null, .null, .null, .null, .null])), (q9, .inl (cD, 60, .inr (.inr (.inr (.inl (fun _ => 0)))))), (q10, .inl (cD, 60, .inr (.inr (.inr (.inl (fun _ => 0)))))), (q11, .inl (cD, 300, .inr (.inr (.inr (.inl (fun _ => 0))))))] H := hP
  have hD : va_D A [(h, .inr (0, [.int (nI 0), .ref q9, .ref q10, .ref q11, .null, .null, .null, .null, .null])), (q9, .inl (cD, 60, .inr (.inr (.inr (.inl (fun _ => 0)))))), (q10, .inl (cD, 60, .inr (.inr (.inr (.inl (fun _ => 0)))))), (q11, .inl (cD, 300, .inr (.inr (.inr (.inl (fun _ => 0))))))] := hD
  refine lv_aload_n hx hb dX0_init_34 rfl (lv_at hl 0 rfl) ?_
  refine lv_sipush (v := nI 300) hx hb dX0_init_35 (by decide) ?_
  refine xk_newa (atype := .boolean) (ty := .boolean) (N' := 300) (a0 := (300, .inl (fun _ => 0))) hx hb (hts (.arrayClass .boolean) (by decide +kernel)) rfl hK hP hD hS hA 1 rfl (fun _ _ h9 => h9) (fun _ => rfl) (by decide +kernel) (by decide +kernel) (Nat.le_of_ble_eq_true rfl) (Nat.le_of_ble_eq_true rfl) (Nat.le_of_ble_eq_true rfl) dX0_init_38 (fun q12 H hP hD hS => ?_)
  have hP : va_P D vwCl [(h, .inr (0, [.int (nI 0), .ref q9, .ref q10, .ref q11, .null, .null, .null, .null, .null])), (q9, .inl (cD, 60, .inr (.inr (.inr (.inl (fun _ => 0)))))), (q10, .inl (cD, 60, .inr (.inr (.inr (.inl (fun _ => 0)))))), (q11, .inl (cD, 300, .inr (.inr (.inr (.inl (fun _ => 0)))))), (q12, .inl (cZ, 300, .inl (fun _ => 0)))] H := hP
  have hD : va_D A [(h, .inr (0, [.int (nI 0), .ref q9, .ref q10, .ref q11, .null, .null, .null, .null, .null])), (q9, .inl (cD, 60, .inr (.inr (.inr (.inl (fun _ => 0)))))), (q10, .inl (cD, 60, .inr (.inr (.inr (.inl (fun _ => 0)))))), (q11, .inl (cD, 300, .inr (.inr (.inr (.inl (fun _ => 0)))))), (q12, .inl (cZ, 300, .inl (fun _ => 0)))] := hD
  refine va_putF (D := D) (ci := 0) (v := .ref q12) (ty := .array .boolean) (C := RX0) (T := TX0) (N := 9) hx hb hts inX0 tyX0 tyX0_ok nmX0 hown hK hP hD hS 0 rfl rfl 4 (by decide) (hts (.fieldLink RX0 25 "GridCommons$Ledger" "known" "[Z") (by decide +kernel)) (fun _ h9 => h9) rfl hin rfl (by decide +kernel) rfl rfl (Nat.le_of_ble_eq_true rfl) dX0_init_40 (fun H locs hP hD hS => ?_)
  have hP : va_P D vwCl [(h, .inr (0, [.int (nI 0), .ref q9, .ref q10, .ref q11, .ref q12, .null, .null, .null, .null])), (q9, .inl (cD, 60, .inr (.inr (.inr (.inl (fun _ => 0)))))), (q10, .inl (cD, 60, .inr (.inr (.inr (.inl (fun _ => 0)))))), (q11, .inl (cD, 300, .inr (.inr (.inr (.inl (fun _ => 0)))))), (q12, .inl (cZ, 300, .inl (fun _ => 0)))] H := hP
  have hD : va_D A [(h, .inr (0, [.int (nI 0), .ref q9, .ref q10, .ref q11, .ref q12, .null, .null, .null, .null])), (q9, .inl (cD, 60, .inr (.inr (.inr (.inl (fun _ => 0)))))), (q10, .inl (cD, 60, .inr (.inr (.inr (.inl (fun _ => 0)))))), (q11, .inl (cD, 300, .inr (.inr (.inr (.inl (fun _ => 0)))))), (q12, .inl (cZ, 300, .inl (fun _ => 0)))] := hD
  refine lv_aload_n hx hb dX0_init_43 rfl (lv_at hl 0 rfl) ?_
  refine lv_sipush (v := nI 300) hx hb dX0_init_44 (by decide) ?_
  refine xk_newa (atype := .double) (ty := .double) (N' := 300) (a0 := (300, .inr (.inr (.inr (.inl (fun _ => 0)))))) hx hb (hts (.arrayClass .double) (by decide +kernel)) rfl hK hP hD hS hA 2 rfl (fun _ _ h9 => h9) (fun _ => rfl) (by decide +kernel) (by decide +kernel) (Nat.le_of_ble_eq_true rfl) (Nat.le_of_ble_eq_true rfl) (Nat.le_of_ble_eq_true rfl) dX0_init_47 (fun q13 H hP hD hS => ?_)
  have hP : va_P D vwCl [(h, .inr (0, [.int (nI 0), .ref q9, .ref q10, .ref q11, .ref q12, .null, .null, .null, .null])), (q9, .inl (cD, 60, .inr (.inr (.inr (.inl (fun _ => 0)))))), (q10, .inl (cD, 60, .inr (.inr (.inr (.inl (fun _ => 0)))))), (q11, .inl (cD, 300, .inr (.inr (.inr (.inl (fun _ => 0)))))), (q12, .inl (cZ, 300, .inl (fun _ => 0))), (q13, .inl (cD, 300, .inr (.inr (.inr (.inl (fun _ => 0))))))] H := hP
  have hD : va_D A [(h, .inr (0, [.int (nI 0), .ref q9, .ref q10, .ref q11, .ref q12, .null, .null, .null, .null])), (q9, .inl (cD, 60, .inr (.inr (.inr (.inl (fun _ => 0)))))), (q10, .inl (cD, 60, .inr (.inr (.inr (.inl (fun _ => 0)))))), (q11, .inl (cD, 300, .inr (.inr (.inr (.inl (fun _ => 0)))))), (q12, .inl (cZ, 300, .inl (fun _ => 0))), (q13, .inl (cD, 300, .inr (.inr (.inr (.inl (fun _ => 0))))))] := hD
  refine va_putF (D := D) (ci := 0) (v := .ref q13) (ty := .array .double) (C := RX0) (T := TX0) (N := 9) hx hb hts inX0 tyX0 tyX0_ok nmX0 hown hK hP hD hS 0 rfl rfl 5 (by decide) (hts (.fieldLink RX0 29 "GridCommons$Ledger" "used" "[D") (by decide +kernel)) (fun _ h9 => h9) rfl hin rfl (by decide +kernel) rfl rfl (Nat.le_of_ble_eq_true rfl) dX0_init_49 (fun H locs hP hD hS => ?_)
  have hP : va_P D vwCl [(h, .inr (0, [.int (nI 0), .ref q9, .ref q10, .ref q11, .ref q12, .ref q13, .null, .null, .null])), (q9, .inl (cD, 60, .inr (.inr (.inr (.inl (fun _ => 0)))))), (q10, .inl (cD, 60, .inr (.inr (.inr (.inl (fun _ => 0)))))), (q11, .inl (cD, 300, .inr (.inr (.inr (.inl (fun _ => 0)))))), (q12, .inl (cZ, 300, .inl (fun _ => 0))), (q13, .inl (cD, 300, .inr (.inr (.inr (.inl (fun _ => 0))))))] H := hP
  have hD : va_D A [(h, .inr (0, [.int (nI 0), .ref q9, .ref q10, .ref q11, .ref q12, .ref q13, .null, .null, .null])), (q9, .inl (cD, 60, .inr (.inr (.inr (.inl (fun _ => 0)))))), (q10, .inl (cD, 60, .inr (.inr (.inr (.inl (fun _ => 0)))))), (q11, .inl (cD, 300, .inr (.inr (.inr (.inl (fun _ => 0)))))), (q12, .inl (cZ, 300, .inl (fun _ => 0))), (q13, .inl (cD, 300, .inr (.inr (.inr (.inl (fun _ => 0))))))] := hD
  refine lv_aload_n hx hb dX0_init_52 rfl (lv_at hl 0 rfl) ?_
  refine lv_sipush (v := nI 300) hx hb dX0_init_53 (by decide) ?_
  refine xk_newa (atype := .double) (ty := .double) (N' := 300) (a0 := (300, .inr (.inr (.inr (.inl (fun _ => 0)))))) hx hb (hts (.arrayClass .double) (by decide +kernel)) rfl hK hP hD hS hA 2 rfl (fun _ _ h9 => h9) (fun _ => rfl) (by decide +kernel) (by decide +kernel) (Nat.le_of_ble_eq_true rfl) (Nat.le_of_ble_eq_true rfl) (Nat.le_of_ble_eq_true rfl) dX0_init_56 (fun q14 H hP hD hS => ?_)
  have hP : va_P D vwCl [(h, .inr (0, [.int (nI 0), .ref q9, .ref q10, .ref q11, .ref q12, .ref q13, .null, .null, .null])), (q9, .inl (cD, 60, .inr (.inr (.inr (.inl (fun _ => 0)))))), (q10, .inl (cD, 60, .inr (.inr (.inr (.inl (fun _ => 0)))))), (q11, .inl (cD, 300, .inr (.inr (.inr (.inl (fun _ => 0)))))), (q12, .inl (cZ, 300, .inl (fun _ => 0))), (q13, .inl (cD, 300, .inr (.inr (.inr (.inl (fun _ => 0)))))), (q14, .inl (cD, 300, .inr (.inr (.inr (.inl (fun _ => 0))))))] H := hP
  have hD : va_D A [(h, .inr (0, [.int (nI 0), .ref q9, .ref q10, .ref q11, .ref q12, .ref q13, .null, .null, .null])), (q9, .inl (cD, 60, .inr (.inr (.inr (.inl (fun _ => 0)))))), (q10, .inl (cD, 60, .inr (.inr (.inr (.inl (fun _ => 0)))))), (q11, .inl (cD, 300, .inr (.inr (.inr (.inl (fun _ => 0)))))), (q12, .inl (cZ, 300, .inl (fun _ => 0))), (q13, .inl (cD, 300, .inr (.inr (.inr (.inl (fun _ => 0)))))), (q14, .inl (cD, 300, .inr (.inr (.inr (.inl (fun _ => 0))))))] := hD
  refine va_putF (D := D) (ci := 0) (v := .ref q14) (ty := .array .double) (C := RX0) (T := TX0) (N := 9) hx hb hts inX0 tyX0 tyX0_ok nmX0 hown hK hP hD hS 0 rfl rfl 6 (by decide) (hts (.fieldLink RX0 32 "GridCommons$Ledger" "fromSun" "[D") (by decide +kernel)) (fun _ h9 => h9) rfl hin rfl (by decide +kernel) rfl rfl (Nat.le_of_ble_eq_true rfl) dX0_init_58 (fun H locs hP hD hS => ?_)
  have hP : va_P D vwCl [(h, .inr (0, [.int (nI 0), .ref q9, .ref q10, .ref q11, .ref q12, .ref q13, .ref q14, .null, .null])), (q9, .inl (cD, 60, .inr (.inr (.inr (.inl (fun _ => 0)))))), (q10, .inl (cD, 60, .inr (.inr (.inr (.inl (fun _ => 0)))))), (q11, .inl (cD, 300, .inr (.inr (.inr (.inl (fun _ => 0)))))), (q12, .inl (cZ, 300, .inl (fun _ => 0))), (q13, .inl (cD, 300, .inr (.inr (.inr (.inl (fun _ => 0)))))), (q14, .inl (cD, 300, .inr (.inr (.inr (.inl (fun _ => 0))))))] H := hP
  have hD : va_D A [(h, .inr (0, [.int (nI 0), .ref q9, .ref q10, .ref q11, .ref q12, .ref q13, .ref q14, .null, .null])), (q9, .inl (cD, 60, .inr (.inr (.inr (.inl (fun _ => 0)))))), (q10, .inl (cD, 60, .inr (.inr (.inr (.inl (fun _ => 0)))))), (q11, .inl (cD, 300, .inr (.inr (.inr (.inl (fun _ => 0)))))), (q12, .inl (cZ, 300, .inl (fun _ => 0))), (q13, .inl (cD, 300, .inr (.inr (.inr (.inl (fun _ => 0)))))), (q14, .inl (cD, 300, .inr (.inr (.inr (.inl (fun _ => 0))))))] := hD
  refine lv_aload_n hx hb dX0_init_61 rfl (lv_at hl 0 rfl) ?_
  refine lv_sipush (v := nI 300) hx hb dX0_init_62 (by decide) ?_
  refine xk_newa (atype := .double) (ty := .double) (N' := 300) (a0 := (300, .inr (.inr (.inr (.inl (fun _ => 0)))))) hx hb (hts (.arrayClass .double) (by decide +kernel)) rfl hK hP hD hS hA 2 rfl (fun _ _ h9 => h9) (fun _ => rfl) (by decide +kernel) (by decide +kernel) (Nat.le_of_ble_eq_true rfl) (Nat.le_of_ble_eq_true rfl) (Nat.le_of_ble_eq_true rfl) dX0_init_65 (fun q15 H hP hD hS => ?_)
  have hP : va_P D vwCl [(h, .inr (0, [.int (nI 0), .ref q9, .ref q10, .ref q11, .ref q12, .ref q13, .ref q14, .null, .null])), (q9, .inl (cD, 60, .inr (.inr (.inr (.inl (fun _ => 0)))))), (q10, .inl (cD, 60, .inr (.inr (.inr (.inl (fun _ => 0)))))), (q11, .inl (cD, 300, .inr (.inr (.inr (.inl (fun _ => 0)))))), (q12, .inl (cZ, 300, .inl (fun _ => 0))), (q13, .inl (cD, 300, .inr (.inr (.inr (.inl (fun _ => 0)))))), (q14, .inl (cD, 300, .inr (.inr (.inr (.inl (fun _ => 0)))))), (q15, .inl (cD, 300, .inr (.inr (.inr (.inl (fun _ => 0))))))] H := hP
  have hD : va_D A [(h, .inr (0, [.int (nI 0), .ref q9, .ref q10, .ref q11, .ref q12, .ref q13, .ref q14, .null, .null])), (q9, .inl (cD, 60, .inr (.inr (.inr (.inl (fun _ => 0)))))), (q10, .inl (cD, 60, .inr (.inr (.inr (.inl (fun _ => 0)))))), (q11, .inl (cD, 300, .inr (.inr (.inr (.inl (fun _ => 0)))))), (q12, .inl (cZ, 300, .inl (fun _ => 0))), (q13, .inl (cD, 300, .inr (.inr (.inr (.inl (fun _ => 0)))))), (q14, .inl (cD, 300, .inr (.inr (.inr (.inl (fun _ => 0)))))), (q15, .inl (cD, 300, .inr (.inr (.inr (.inl (fun _ => 0))))))] := hD
  refine va_putF (D := D) (ci := 0) (v := .ref q15) (ty := .array .double) (C := RX0) (T := TX0) (N := 9) hx hb hts inX0 tyX0 tyX0_ok nmX0 hown hK hP hD hS 0 rfl rfl 7 (by decide) (hts (.fieldLink RX0 35 "GridCommons$Ledger" "fromBattery" "[D") (by decide +kernel)) (fun _ h9 => h9) rfl hin rfl (by decide +kernel) rfl rfl (Nat.le_of_ble_eq_true rfl) dX0_init_67 (fun H locs hP hD hS => ?_)
  have hP : va_P D vwCl [(h, .inr (0, [.int (nI 0), .ref q9, .ref q10, .ref q11, .ref q12, .ref q13, .ref q14, .ref q15, .null])), (q9, .inl (cD, 60, .inr (.inr (.inr (.inl (fun _ => 0)))))), (q10, .inl (cD, 60, .inr (.inr (.inr (.inl (fun _ => 0)))))), (q11, .inl (cD, 300, .inr (.inr (.inr (.inl (fun _ => 0)))))), (q12, .inl (cZ, 300, .inl (fun _ => 0))), (q13, .inl (cD, 300, .inr (.inr (.inr (.inl (fun _ => 0)))))), (q14, .inl (cD, 300, .inr (.inr (.inr (.inl (fun _ => 0)))))), (q15, .inl (cD, 300, .inr (.inr (.inr (.inl (fun _ => 0))))))] H := hP
  have hD : va_D A [(h, .inr (0, [.int (nI 0), .ref q9, .ref q10, .ref q11, .ref q12, .ref q13, .ref q14, .ref q15, .null])), (q9, .inl (cD, 60, .inr (.inr (.inr (.inl (fun _ => 0)))))), (q10, .inl (cD, 60, .inr (.inr (.inr (.inl (fun _ => 0)))))), (q11, .inl (cD, 300, .inr (.inr (.inr (.inl (fun _ => 0)))))), (q12, .inl (cZ, 300, .inl (fun _ => 0))), (q13, .inl (cD, 300, .inr (.inr (.inr (.inl (fun _ => 0)))))), (q14, .inl (cD, 300, .inr (.inr (.inr (.inl (fun _ => 0)))))), (q15, .inl (cD, 300, .inr (.inr (.inr (.inl (fun _ => 0))))))] := hD
  refine lv_aload_n hx hb dX0_init_70 rfl (lv_at hl 0 rfl) ?_
  refine lv_sipush (v := nI 300) hx hb dX0_init_71 (by decide) ?_
  refine xk_newa (atype := .double) (ty := .double) (N' := 300) (a0 := (300, .inr (.inr (.inr (.inl (fun _ => 0)))))) hx hb (hts (.arrayClass .double) (by decide +kernel)) rfl hK hP hD hS hA 2 rfl (fun _ _ h9 => h9) (fun _ => rfl) (by decide +kernel) (by decide +kernel) (Nat.le_of_ble_eq_true rfl) (Nat.le_of_ble_eq_true rfl) (Nat.le_of_ble_eq_true rfl) dX0_init_74 (fun q16 H hP hD hS => ?_)
  have hP : va_P D vwCl [(h, .inr (0, [.int (nI 0), .ref q9, .ref q10, .ref q11, .ref q12, .ref q13, .ref q14, .ref q15, .null])), (q9, .inl (cD, 60, .inr (.inr (.inr (.inl (fun _ => 0)))))), (q10, .inl (cD, 60, .inr (.inr (.inr (.inl (fun _ => 0)))))), (q11, .inl (cD, 300, .inr (.inr (.inr (.inl (fun _ => 0)))))), (q12, .inl (cZ, 300, .inl (fun _ => 0))), (q13, .inl (cD, 300, .inr (.inr (.inr (.inl (fun _ => 0)))))), (q14, .inl (cD, 300, .inr (.inr (.inr (.inl (fun _ => 0)))))), (q15, .inl (cD, 300, .inr (.inr (.inr (.inl (fun _ => 0)))))), (q16, .inl (cD, 300, .inr (.inr (.inr (.inl (fun _ => 0))))))] H := hP
  have hD : va_D A [(h, .inr (0, [.int (nI 0), .ref q9, .ref q10, .ref q11, .ref q12, .ref q13, .ref q14, .ref q15, .null])), (q9, .inl (cD, 60, .inr (.inr (.inr (.inl (fun _ => 0)))))), (q10, .inl (cD, 60, .inr (.inr (.inr (.inl (fun _ => 0)))))), (q11, .inl (cD, 300, .inr (.inr (.inr (.inl (fun _ => 0)))))), (q12, .inl (cZ, 300, .inl (fun _ => 0))), (q13, .inl (cD, 300, .inr (.inr (.inr (.inl (fun _ => 0)))))), (q14, .inl (cD, 300, .inr (.inr (.inr (.inl (fun _ => 0)))))), (q15, .inl (cD, 300, .inr (.inr (.inr (.inl (fun _ => 0)))))), (q16, .inl (cD, 300, .inr (.inr (.inr (.inl (fun _ => 0))))))] := hD
  refine va_putF (D := D) (ci := 0) (v := .ref q16) (ty := .array .double) (C := RX0) (T := TX0) (N := 9) hx hb hts inX0 tyX0 tyX0_ok nmX0 hown hK hP hD hS 0 rfl rfl 8 (by decide) (hts (.fieldLink RX0 38 "GridCommons$Ledger" "bought" "[D") (by decide +kernel)) (fun _ h9 => h9) rfl hin rfl (by decide +kernel) rfl rfl (Nat.le_of_ble_eq_true rfl) dX0_init_76 (fun H locs hP hD hS => ?_)
  have hP : va_P D vwCl [(h, .inr (0, [.int (nI 0), .ref q9, .ref q10, .ref q11, .ref q12, .ref q13, .ref q14, .ref q15, .ref q16])), (q9, .inl (cD, 60, .inr (.inr (.inr (.inl (fun _ => 0)))))), (q10, .inl (cD, 60, .inr (.inr (.inr (.inl (fun _ => 0)))))), (q11, .inl (cD, 300, .inr (.inr (.inr (.inl (fun _ => 0)))))), (q12, .inl (cZ, 300, .inl (fun _ => 0))), (q13, .inl (cD, 300, .inr (.inr (.inr (.inl (fun _ => 0)))))), (q14, .inl (cD, 300, .inr (.inr (.inr (.inl (fun _ => 0)))))), (q15, .inl (cD, 300, .inr (.inr (.inr (.inl (fun _ => 0)))))), (q16, .inl (cD, 300, .inr (.inr (.inr (.inl (fun _ => 0))))))] H := hP
  have hD : va_D A [(h, .inr (0, [.int (nI 0), .ref q9, .ref q10, .ref q11, .ref q12, .ref q13, .ref q14, .ref q15, .ref q16])), (q9, .inl (cD, 60, .inr (.inr (.inr (.inl (fun _ => 0)))))), (q10, .inl (cD, 60, .inr (.inr (.inr (.inl (fun _ => 0)))))), (q11, .inl (cD, 300, .inr (.inr (.inr (.inl (fun _ => 0)))))), (q12, .inl (cZ, 300, .inl (fun _ => 0))), (q13, .inl (cD, 300, .inr (.inr (.inr (.inl (fun _ => 0)))))), (q14, .inl (cD, 300, .inr (.inr (.inr (.inl (fun _ => 0)))))), (q15, .inl (cD, 300, .inr (.inr (.inr (.inl (fun _ => 0)))))), (q16, .inl (cD, 300, .inr (.inr (.inr (.inl (fun _ => 0))))))] := hD
  exact W.vret hx hb hr (fun t ht hW => ⟨⟨(fun k => [q9, q10, q11, q12, q13, q14, q15, q16].getD (k - 9) 0), rfl, trivial, by rw [ht]; exact hP, va_K.moved hW.alike hK, hD⟩, hS.F ht⟩) hS.2.2 dX0_init_79
set_option maxHeartbeats 4000000 in
set_option maxRecDepth 100000 in
theorem mX1_init (l : Launch) (D : va_G) (cI cZ cD : ClassId) (h sz : Nat) : Met l yX1_init wsX1_init ({ frames := 2, cells := 16, slots := 1964, locals := 32 } : Room) (va_Pc [.ref h] (fun U => U.heap.size = sz ∧ XB D cI cZ cD [(h, .inr (1, [.null, .null, .null, .null, .null, .null, .null, .double 0, .double 0, .int 0, .null, .double 0]))] (fun _ => True) U ∧ va_Nw (.methodLinkNest RX1 32 yX0_init "GridCommons") U)) (va_Qv (fun u : Nat → Nat => u 0 = h) (fun u t => XB D cI cZ cD (XW u cI cZ cD (fun _ => 0) (po 0 5 (fun _ => 0) (fun _ => 1)) (fun _ => 0) (fun _ => 0) (fun _ => 0) (fun _ => 0) (fun _ => 0) 4602678819172646912 FP.dconst0 FP.dconst0 (nI 0) (nI 0) (fun _ => 0) (fun _ => 0) (fun _ => 0) (fun _ => 0) (fun _ => 0) (fun _ => 0) (fun _ => 0) (fun _ => 0)) (va_A [(h, .inr (1, [.null, .null, .null, .null, .null, .null, .null, .double 0, .double 0, .int 0, .null, .double 0]))] sz) t) (va_A [(h, .inr (1, [.null, .null, .null, .null, .null, .null, .null, .double 0, .double 0, .int 0, .null, .double 0]))] sz)) 16 1964 (va_A [(h, .inr (1, [.null, .null, .null, .null, .null, .null, .null, .double 0, .double 0, .int 0, .null, .double 0]))] sz) := by
  refine Met.ofW (cc := cX1_init) (maxL := 2) (ret := none) (by decide +kernel) rfl ?_
  intro p e s m args below meth c s₁ B hml hv
  obtain ⟨rfl, hsz, ⟨hP, hK, hD0⟩, hNw⟩ := hv
  have hx := B.exec
  have hb := B.bytes
  have hr := B.returns
  have hts := atoms_spec (ws := wsX1_init) B.pre
  have hown : s.vm.findClass RX1 = some m.cls := findClass_of_methodNamed B.named
  have hlocks := B.notSynchronized
  subst hsz
  have hD := hD0.self (sz := s.heap.size)
  generalize hAe : va_A ([(h, .inr (1, [.null, .null, .null, .null, .null, .null, .null, .double 0, .double 0, .int 0, .null, .double 0]))]) s.heap.size = A at hD ⊢
  have hA : ∀ q : Nat, s.heap.size ≤ q → A q := fun q h => by rw [← hAe]; exact Or.inr h
  have hS : va_S A s.heap s.heap [] := va_S.rf
  have hl := lv_entry ([.ref h]) (n := 2) (Nat.le_of_ble_eq_true rfl)
  rw [lg_entry_eq]
  generalize (lg_sl ([.ref h]) ++ List.replicate (2 - (lg_sl ([.ref h])).length) Slot.unset).toArray = ls at hl ⊢
  have hl : lv_has ls 2 [(0, .ref h)] := hl
  have hin : meth.name = "<init>" := (name_of_methodNamed B.named B.method).1
  have inX1 : ∀ w ∈ wsX10, w ∈ wsX1_init := by decide +kernel
  have inX0 : ∀ w ∈ wsX00, w ∈ wsX1_init := by decide +kernel
  refine lv_aload_n hx hb dX1_init_0 rfl (lv_at hl 0 rfl) ?_
  refine W.objInit hx hb hown (hts (.methodLink RX1 1 objectInit) (by decide +kernel)) (hts (.instanceMethod objectInit) (by decide +kernel)) (hts (.code objectInit ⟨#[0xb1]⟩ 1 none) (by decide +kernel)) rfl (by rw [hml]; exact hl.1) rfl dX1_init_1 (Nat.le_of_ble_eq_true rfl) (Nat.le_of_ble_eq_true rfl) ?_
  refine W.eq (g2 := F0 m 4 ls []) rfl ?_
  refine lv_aload_n hx hb dX1_init_4 rfl (lv_at hl 0 rfl) ?_
  refine lv_iconst (v := nI 5) hx hb dX1_init_5 (by decide) ?_
  refine xk_newa (atype := .int) (ty := .int) (N' := 5) (a0 := (5, .inl (fun _ => 0))) hx hb (hts (.arrayClass .int) (by decide +kernel)) rfl hK hP hD hS hA 0 rfl (fun _ _ h9 => h9) (fun _ => rfl) (by decide +kernel) (by decide +kernel) (Nat.le_of_ble_eq_true rfl) (Nat.le_of_ble_eq_true rfl) (Nat.le_of_ble_eq_true rfl) dX1_init_6 (fun q1 H hP hD hS => ?_)
  have hP : va_P D vwCl [(h, .inr (1, [.null, .null, .null, .null, .null, .null, .null, .double 0, .double 0, .int 0, .null, .double 0])), (q1, .inl (cI, 5, .inl (fun _ => 0)))] H := hP
  have hD : va_D A [(h, .inr (1, [.null, .null, .null, .null, .null, .null, .null, .double 0, .double 0, .int 0, .null, .double 0])), (q1, .inl (cI, 5, .inl (fun _ => 0)))] := hD
  refine va_putF (D := D) (ci := 1) (v := .ref q1) (ty := .array .int) (C := RX1) (T := TX1) (N := 12) hx hb hts inX1 tyX1 tyX1_ok nmX1 hown hK hP hD hS 0 rfl rfl 0 (by decide) (hts (.fieldLink RX1 9 "GridCommons" "shares" "[I") (by decide +kernel)) (fun _ h9 => h9) rfl hin rfl (by decide +kernel) rfl rfl (Nat.le_of_ble_eq_true rfl) dX1_init_8 (fun H locs hP hD hS => ?_)
  have hP : va_P D vwCl [(h, .inr (1, [.ref q1, .null, .null, .null, .null, .null, .null, .double 0, .double 0, .int 0, .null, .double 0])), (q1, .inl (cI, 5, .inl (fun _ => 0)))] H := hP
  have hD : va_D A [(h, .inr (1, [.ref q1, .null, .null, .null, .null, .null, .null, .double 0, .double 0, .int 0, .null, .double 0])), (q1, .inl (cI, 5, .inl (fun _ => 0)))] := hD
  refine lv_aload_n hx hb dX1_init_11 rfl (lv_at hl 0 rfl) ?_
  refine lv_iconst (v := nI 5) hx hb dX1_init_12 (by decide) ?_
  refine xk_newa (atype := .boolean) (ty := .boolean) (N' := 5) (a0 := (5, .inl (fun _ => 0))) hx hb (hts (.arrayClass .boolean) (by decide +kernel)) rfl hK hP hD hS hA 1 rfl (fun _ _ h9 => h9) (fun _ => rfl) (by decide +kernel) (by decide +kernel) (Nat.le_of_ble_eq_true rfl) (Nat.le_of_ble_eq_true rfl) (Nat.le_of_ble_eq_true rfl) dX1_init_13 (fun q2 H hP hD hS => ?_)
  have hP : va_P D vwCl [(h, .inr (1, [.ref q1, .null, .null, .null, .null, .null, .null, .double 0, .double 0, .int 0, .null, .double 0])), (q1, .inl (cI, 5, .inl (fun _ => 0))), (q2, .inl (cZ, 5, .inl (fun _ => 0)))] H := hP
  have hD : va_D A [(h, .inr (1, [.ref q1, .null, .null, .null, .null, .null, .null, .double 0, .double 0, .int 0, .null, .double 0])), (q1, .inl (cI, 5, .inl (fun _ => 0))), (q2, .inl (cZ, 5, .inl (fun _ => 0)))] := hD
  refine va_putF (D := D) (ci := 1) (v := .ref q2) (ty := .array .boolean) (C := RX1) (T := TX1) (N := 12) hx hb hts inX1 tyX1 tyX1_ok nmX1 hown hK hP hD hS 0 rfl rfl 1 (by decide) (hts (.fieldLink RX1 13 "GridCommons" "switches" "[Z") (by decide +kernel)) (fun _ h9 => h9) rfl hin rfl (by decide +kernel) rfl rfl (Nat.le_of_ble_eq_true rfl) dX1_init_15 (fun H locs hP hD hS => ?_)
  have hP : va_P D vwCl [(h, .inr (1, [.ref q1, .ref q2, .null, .null, .null, .null, .null, .double 0, .double 0, .int 0, .null, .double 0])), (q1, .inl (cI, 5, .inl (fun _ => 0))), (q2, .inl (cZ, 5, .inl (fun _ => 0)))] H := hP
  have hD : va_D A [(h, .inr (1, [.ref q1, .ref q2, .null, .null, .null, .null, .null, .double 0, .double 0, .int 0, .null, .double 0])), (q1, .inl (cI, 5, .inl (fun _ => 0))), (q2, .inl (cZ, 5, .inl (fun _ => 0)))] := hD
  refine lv_aload_n hx hb dX1_init_18 rfl (lv_at hl 0 rfl) ?_
  refine lv_iconst (v := nI 5) hx hb dX1_init_19 (by decide) ?_
  refine xk_newa (atype := .int) (ty := .int) (N' := 5) (a0 := (5, .inl (fun _ => 0))) hx hb (hts (.arrayClass .int) (by decide +kernel)) rfl hK hP hD hS hA 0 rfl (fun _ _ h9 => h9) (fun _ => rfl) (by decide +kernel) (by decide +kernel) (Nat.le_of_ble_eq_true rfl) (Nat.le_of_ble_eq_true rfl) (Nat.le_of_ble_eq_true rfl) dX1_init_20 (fun q3 H hP hD hS => ?_)
  have hP : va_P D vwCl [(h, .inr (1, [.ref q1, .ref q2, .null, .null, .null, .null, .null, .double 0, .double 0, .int 0, .null, .double 0])), (q1, .inl (cI, 5, .inl (fun _ => 0))), (q2, .inl (cZ, 5, .inl (fun _ => 0))), (q3, .inl (cI, 5, .inl (fun _ => 0)))] H := hP
  have hD : va_D A [(h, .inr (1, [.ref q1, .ref q2, .null, .null, .null, .null, .null, .double 0, .double 0, .int 0, .null, .double 0])), (q1, .inl (cI, 5, .inl (fun _ => 0))), (q2, .inl (cZ, 5, .inl (fun _ => 0))), (q3, .inl (cI, 5, .inl (fun _ => 0)))] := hD
  refine va_putF (D := D) (ci := 1) (v := .ref q3) (ty := .array .int) (C := RX1) (T := TX1) (N := 12) hx hb hts inX1 tyX1 tyX1_ok nmX1 hown hK hP hD hS 0 rfl rfl 2 (by decide) (hts (.fieldLink RX1 17 "GridCommons" "timesShed" "[I") (by decide +kernel)) (fun _ h9 => h9) rfl hin rfl (by decide +kernel) rfl rfl (Nat.le_of_ble_eq_true rfl) dX1_init_22 (fun H locs hP hD hS => ?_)
  have hP : va_P D vwCl [(h, .inr (1, [.ref q1, .ref q2, .ref q3, .null, .null, .null, .null, .double 0, .double 0, .int 0, .null, .double 0])), (q1, .inl (cI, 5, .inl (fun _ => 0))), (q2, .inl (cZ, 5, .inl (fun _ => 0))), (q3, .inl (cI, 5, .inl (fun _ => 0)))] H := hP
  have hD : va_D A [(h, .inr (1, [.ref q1, .ref q2, .ref q3, .null, .null, .null, .null, .double 0, .double 0, .int 0, .null, .double 0])), (q1, .inl (cI, 5, .inl (fun _ => 0))), (q2, .inl (cZ, 5, .inl (fun _ => 0))), (q3, .inl (cI, 5, .inl (fun _ => 0)))] := hD
  refine lv_aload_n hx hb dX1_init_25 rfl (lv_at hl 0 rfl) ?_
  refine lv_iconst (v := nI 5) hx hb dX1_init_26 (by decide) ?_
  refine xk_newa (atype := .double) (ty := .double) (N' := 5) (a0 := (5, .inr (.inr (.inr (.inl (fun _ => 0)))))) hx hb (hts (.arrayClass .double) (by decide +kernel)) rfl hK hP hD hS hA 2 rfl (fun _ _ h9 => h9) (fun _ => rfl) (by decide +kernel) (by decide +kernel) (Nat.le_of_ble_eq_true rfl) (Nat.le_of_ble_eq_true rfl) (Nat.le_of_ble_eq_true rfl) dX1_init_27 (fun q4 H hP hD hS => ?_)
  have hP : va_P D vwCl [(h, .inr (1, [.ref q1, .ref q2, .ref q3, .null, .null, .null, .null, .double 0, .double 0, .int 0, .null, .double 0])), (q1, .inl (cI, 5, .inl (fun _ => 0))), (q2, .inl (cZ, 5, .inl (fun _ => 0))), (q3, .inl (cI, 5, .inl (fun _ => 0))), (q4, .inl (cD, 5, .inr (.inr (.inr (.inl (fun _ => 0))))))] H := hP
  have hD : va_D A [(h, .inr (1, [.ref q1, .ref q2, .ref q3, .null, .null, .null, .null, .double 0, .double 0, .int 0, .null, .double 0])), (q1, .inl (cI, 5, .inl (fun _ => 0))), (q2, .inl (cZ, 5, .inl (fun _ => 0))), (q3, .inl (cI, 5, .inl (fun _ => 0))), (q4, .inl (cD, 5, .inr (.inr (.inr (.inl (fun _ => 0))))))] := hD
  refine va_putF (D := D) (ci := 1) (v := .ref q4) (ty := .array .double) (C := RX1) (T := TX1) (N := 12) hx hb hts inX1 tyX1 tyX1_ok nmX1 hown hK hP hD hS 0 rfl rfl 3 (by decide) (hts (.fieldLink RX1 20 "GridCommons" "bills" "[D") (by decide +kernel)) (fun _ h9 => h9) rfl hin rfl (by decide +kernel) rfl rfl (Nat.le_of_ble_eq_true rfl) dX1_init_29 (fun H locs hP hD hS => ?_)
  have hP : va_P D vwCl [(h, .inr (1, [.ref q1, .ref q2, .ref q3, .ref q4, .null, .null, .null, .double 0, .double 0, .int 0, .null, .double 0])), (q1, .inl (cI, 5, .inl (fun _ => 0))), (q2, .inl (cZ, 5, .inl (fun _ => 0))), (q3, .inl (cI, 5, .inl (fun _ => 0))), (q4, .inl (cD, 5, .inr (.inr (.inr (.inl (fun _ => 0))))))] H := hP
  have hD : va_D A [(h, .inr (1, [.ref q1, .ref q2, .ref q3, .ref q4, .null, .null, .null, .double 0, .double 0, .int 0, .null, .double 0])), (q1, .inl (cI, 5, .inl (fun _ => 0))), (q2, .inl (cZ, 5, .inl (fun _ => 0))), (q3, .inl (cI, 5, .inl (fun _ => 0))), (q4, .inl (cD, 5, .inr (.inr (.inr (.inl (fun _ => 0))))))] := hD
  refine lv_aload_n hx hb dX1_init_32 rfl (lv_at hl 0 rfl) ?_
  refine lv_iconst (v := nI 5) hx hb dX1_init_33 (by decide) ?_
  refine xk_newa (atype := .boolean) (ty := .boolean) (N' := 5) (a0 := (5, .inl (fun _ => 0))) hx hb (hts (.arrayClass .boolean) (by decide +kernel)) rfl hK hP hD hS hA 1 rfl (fun _ _ h9 => h9) (fun _ => rfl) (by decide +kernel) (by decide +kernel) (Nat.le_of_ble_eq_true rfl) (Nat.le_of_ble_eq_true rfl) (Nat.le_of_ble_eq_true rfl) dX1_init_34 (fun q5 H hP hD hS => ?_)
  have hP : va_P D vwCl [(h, .inr (1, [.ref q1, .ref q2, .ref q3, .ref q4, .null, .null, .null, .double 0, .double 0, .int 0, .null, .double 0])), (q1, .inl (cI, 5, .inl (fun _ => 0))), (q2, .inl (cZ, 5, .inl (fun _ => 0))), (q3, .inl (cI, 5, .inl (fun _ => 0))), (q4, .inl (cD, 5, .inr (.inr (.inr (.inl (fun _ => 0)))))), (q5, .inl (cZ, 5, .inl (fun _ => 0)))] H := hP
  have hD : va_D A [(h, .inr (1, [.ref q1, .ref q2, .ref q3, .ref q4, .null, .null, .null, .double 0, .double 0, .int 0, .null, .double 0])), (q1, .inl (cI, 5, .inl (fun _ => 0))), (q2, .inl (cZ, 5, .inl (fun _ => 0))), (q3, .inl (cI, 5, .inl (fun _ => 0))), (q4, .inl (cD, 5, .inr (.inr (.inr (.inl (fun _ => 0)))))), (q5, .inl (cZ, 5, .inl (fun _ => 0)))] := hD
  refine va_putF (D := D) (ci := 1) (v := .ref q5) (ty := .array .boolean) (C := RX1) (T := TX1) (N := 12) hx hb hts inX1 tyX1 tyX1_ok nmX1 hown hK hP hD hS 0 rfl rfl 4 (by decide) (hts (.fieldLink RX1 24 "GridCommons" "isTold" "[Z") (by decide +kernel)) (fun _ h9 => h9) rfl hin rfl (by decide +kernel) rfl rfl (Nat.le_of_ble_eq_true rfl) dX1_init_36 (fun H locs hP hD hS => ?_)
  have hP : va_P D vwCl [(h, .inr (1, [.ref q1, .ref q2, .ref q3, .ref q4, .ref q5, .null, .null, .double 0, .double 0, .int 0, .null, .double 0])), (q1, .inl (cI, 5, .inl (fun _ => 0))), (q2, .inl (cZ, 5, .inl (fun _ => 0))), (q3, .inl (cI, 5, .inl (fun _ => 0))), (q4, .inl (cD, 5, .inr (.inr (.inr (.inl (fun _ => 0)))))), (q5, .inl (cZ, 5, .inl (fun _ => 0)))] H := hP
  have hD : va_D A [(h, .inr (1, [.ref q1, .ref q2, .ref q3, .ref q4, .ref q5, .null, .null, .double 0, .double 0, .int 0, .null, .double 0])), (q1, .inl (cI, 5, .inl (fun _ => 0))), (q2, .inl (cZ, 5, .inl (fun _ => 0))), (q3, .inl (cI, 5, .inl (fun _ => 0))), (q4, .inl (cD, 5, .inr (.inr (.inr (.inl (fun _ => 0)))))), (q5, .inl (cZ, 5, .inl (fun _ => 0)))] := hD
  refine lv_aload_n hx hb dX1_init_39 rfl (lv_at hl 0 rfl) ?_
  refine lv_iconst (v := nI 5) hx hb dX1_init_40 (by decide) ?_
  refine xk_newa (atype := .int) (ty := .int) (N' := 5) (a0 := (5, .inl (fun _ => 0))) hx hb (hts (.arrayClass .int) (by decide +kernel)) rfl hK hP hD hS hA 0 rfl (fun _ _ h9 => h9) (fun _ => rfl) (by decide +kernel) (by decide +kernel) (Nat.le_of_ble_eq_true rfl) (Nat.le_of_ble_eq_true rfl) (Nat.le_of_ble_eq_true rfl) dX1_init_41 (fun q6 H hP hD hS => ?_)
  have hP : va_P D vwCl [(h, .inr (1, [.ref q1, .ref q2, .ref q3, .ref q4, .ref q5, .null, .null, .double 0, .double 0, .int 0, .null, .double 0])), (q1, .inl (cI, 5, .inl (fun _ => 0))), (q2, .inl (cZ, 5, .inl (fun _ => 0))), (q3, .inl (cI, 5, .inl (fun _ => 0))), (q4, .inl (cD, 5, .inr (.inr (.inr (.inl (fun _ => 0)))))), (q5, .inl (cZ, 5, .inl (fun _ => 0))), (q6, .inl (cI, 5, .inl (fun _ => 0)))] H := hP
  have hD : va_D A [(h, .inr (1, [.ref q1, .ref q2, .ref q3, .ref q4, .ref q5, .null, .null, .double 0, .double 0, .int 0, .null, .double 0])), (q1, .inl (cI, 5, .inl (fun _ => 0))), (q2, .inl (cZ, 5, .inl (fun _ => 0))), (q3, .inl (cI, 5, .inl (fun _ => 0))), (q4, .inl (cD, 5, .inr (.inr (.inr (.inl (fun _ => 0)))))), (q5, .inl (cZ, 5, .inl (fun _ => 0))), (q6, .inl (cI, 5, .inl (fun _ => 0)))] := hD
  refine va_putF (D := D) (ci := 1) (v := .ref q6) (ty := .array .int) (C := RX1) (T := TX1) (N := 12) hx hb hts inX1 tyX1 tyX1_ok nmX1 hown hK hP hD hS 0 rfl rfl 5 (by decide) (hts (.fieldLink RX1 27 "GridCommons" "toldUse" "[I") (by decide +kernel)) (fun _ h9 => h9) rfl hin rfl (by decide +kernel) rfl rfl (Nat.le_of_ble_eq_true rfl) dX1_init_43 (fun H locs hP hD hS => ?_)
  have hP : va_P D vwCl [(h, .inr (1, [.ref q1, .ref q2, .ref q3, .ref q4, .ref q5, .ref q6, .null, .double 0, .double 0, .int 0, .null, .double 0])), (q1, .inl (cI, 5, .inl (fun _ => 0))), (q2, .inl (cZ, 5, .inl (fun _ => 0))), (q3, .inl (cI, 5, .inl (fun _ => 0))), (q4, .inl (cD, 5, .inr (.inr (.inr (.inl (fun _ => 0)))))), (q5, .inl (cZ, 5, .inl (fun _ => 0))), (q6, .inl (cI, 5, .inl (fun _ => 0)))] H := hP
  have hD : va_D A [(h, .inr (1, [.ref q1, .ref q2, .ref q3, .ref q4, .ref q5, .ref q6, .null, .double 0, .double 0, .int 0, .null, .double 0])), (q1, .inl (cI, 5, .inl (fun _ => 0))), (q2, .inl (cZ, 5, .inl (fun _ => 0))), (q3, .inl (cI, 5, .inl (fun _ => 0))), (q4, .inl (cD, 5, .inr (.inr (.inr (.inl (fun _ => 0)))))), (q5, .inl (cZ, 5, .inl (fun _ => 0))), (q6, .inl (cI, 5, .inl (fun _ => 0)))] := hD
  refine lv_aload_n hx hb dX1_init_46 rfl (lv_at hl 0 rfl) ?_
  refine va_new (ci := 0) (fs := [.int 0, .null, .null, .null, .null, .null, .null, .null, .null]) (C := RX0) (T := TX0) (N := 9) hx hb hts inX0 tyX0 tyX0_ok hown (hts (.classLink RX1 30 RX0) (by decide +kernel)) (hts (.instantiable RX0 9) (by decide +kernel)) (hts (.initialized RX0) (by decide +kernel)) hK hP hD hS hA rfl (fun j hj => by rcases (show j = 0 ∨ j = 1 ∨ j = 2 ∨ j = 3 ∨ j = 4 ∨ j = 5 ∨ j = 6 ∨ j = 7 ∨ j = 8 by omega) with rfl | rfl | rfl | rfl | rfl | rfl | rfl | rfl | rfl <;> rfl) (Nat.le_of_ble_eq_true rfl) (Nat.le_of_ble_eq_true rfl) dX1_init_47 (fun q8 H hP hD hS => ?_)
  have hP : va_P D vwCl [(h, .inr (1, [.ref q1, .ref q2, .ref q3, .ref q4, .ref q5, .ref q6, .null, .double 0, .double 0, .int 0, .null, .double 0])), (q1, .inl (cI, 5, .inl (fun _ => 0))), (q2, .inl (cZ, 5, .inl (fun _ => 0))), (q3, .inl (cI, 5, .inl (fun _ => 0))), (q4, .inl (cD, 5, .inr (.inr (.inr (.inl (fun _ => 0)))))), (q5, .inl (cZ, 5, .inl (fun _ => 0))), (q6, .inl (cI, 5, .inl (fun _ => 0))), (q8, .inr (0, [.int 0, .null, .null, .null, .null, .null, .null, .null, .null]))] H := hP
  have hD : va_D A [(h, .inr (1, [.ref q1, .ref q2, .ref q3, .ref q4, .ref q5, .ref q6, .null, .double 0, .double 0, .int 0, .null, .double 0])), (q1, .inl (cI, 5, .inl (fun _ => 0))), (q2, .inl (cZ, 5, .inl (fun _ => 0))), (q3, .inl (cI, 5, .inl (fun _ => 0))), (q4, .inl (cD, 5, .inr (.inr (.inr (.inl (fun _ => 0)))))), (q5, .inl (cZ, 5, .inl (fun _ => 0))), (q6, .inl (cI, 5, .inl (fun _ => 0))), (q8, .inr (0, [.int 0, .null, .null, .null, .null, .null, .null, .null, .null]))] := hD
  refine lv_dup hx hb dX1_init_50 rfl ?_
  have hPc := hP.sub (ws' := [(q8, .inr (0, [.int 0, .null, .null, .null, .null, .null, .null, .null, .null]))]) [7] rfl
  have hDc := hD.sub (ws' := [(q8, .inr (0, [.int 0, .null, .null, .null, .null, .null, .null, .null, .null]))]) [7] (by decide) rfl
  have hFc := va_free (wc := [(q8, .inr (0, [.int 0, .null, .null, .null, .null, .null, .null, .null, .null]))]) hD hS hA [7] rfl
  refine va_callv (va_runIN (As := []) (rest := [.ref q8, .ref h]) ⟨hx, hb, hml, hown, hts⟩ (mX0_init l D cI cZ cD q8 H.size) ⟨va_cnB 0 hts gX1_init_X0_init_n32 rfl rfl rfl hNw (hts (.initialized RX0) (by decide +kernel)) (by decide +kernel) ⟨Nat.le_of_ble_eq_true rfl, Nat.le_of_ble_eq_true rfl⟩, rfl, hts (.instanceMethod yX0_init) (by decide +kernel)⟩ ⟨xk_blind, xk_pre hPc hK hDc⟩ rfl rfl hl.1 rfl (lv_room (Nat.le_of_ble_eq_true rfl)) dX1_init_51 ⟨Nat.le_of_ble_eq_true rfl, Nat.le_of_ble_eq_true rfl⟩) hS (fun q _ h => hFc q h) hFc (fun u t H1 locs ht hvm hw hB hz1 hk1 hS => ?_)
  obtain ⟨hP1, -, hD1⟩ := hB
  rw [ht] at hP1
  obtain ⟨hP, hD⟩ := va_join (wr := [(h, .inr (1, [.ref q1, .ref q2, .ref q3, .ref q4, .ref q5, .ref q6, .null, .double 0, .double 0, .int 0, .null, .double 0])), (q1, .inl (cI, 5, .inl (fun _ => 0))), (q2, .inl (cZ, 5, .inl (fun _ => 0))), (q3, .inl (cI, 5, .inl (fun _ => 0))), (q4, .inl (cD, 5, .inr (.inr (.inr (.inl (fun _ => 0)))))), (q5, .inl (cZ, 5, .inl (fun _ => 0))), (q6, .inl (cI, 5, .inl (fun _ => 0)))]) (w1 := LW q8 u cI cZ cD) hP hD [7] [0, 1, 2, 3, 4, 5, 6] rfl rfl (by decide) (by decide) hk1 hFc hP1 hD1
  clear hPc hDc hFc hP1 hD1 hz1 hk1
  generalize H1 = H at hP hS ⊢
  have hP : va_P D vwCl [(h, .inr (1, [.ref q1, .ref q2, .ref q3, .ref q4, .ref q5, .ref q6, .null, .double 0, .double 0, .int 0, .null, .double 0])), (q1, .inl (cI, 5, .inl (fun _ => 0))), (q2, .inl (cZ, 5, .inl (fun _ => 0))), (q3, .inl (cI, 5, .inl (fun _ => 0))), (q4, .inl (cD, 5, .inr (.inr (.inr (.inl (fun _ => 0)))))), (q5, .inl (cZ, 5, .inl (fun _ => 0))), (q6, .inl (cI, 5, .inl (fun _ => 0))), (q8, .inr (0, [.int (nI 0), .ref (u 9), .ref (u 10), .ref (u 11), .ref (u 12), .ref (u 13), .ref (u 14), .ref (u 15), .ref (u 16)])), (u 9, .inl (cD, 60, .inr (.inr (.inr (.inl (fun _ => 0)))))), (u 10, .inl (cD, 60, .inr (.inr (.inr (.inl (fun _ => 0)))))), (u 11, .inl (cD, 300, .inr (.inr (.inr (.inl (fun _ => 0)))))), (u 12, .inl (cZ, 300, .inl (fun _ => 0))), (u 13, .inl (cD, 300, .inr (.inr (.inr (.inl (fun _ => 0)))))), (u 14, .inl (cD, 300, .inr (.inr (.inr (.inl (fun _ => 0)))))), (u 15, .inl (cD, 300, .inr (.inr (.inr (.inl (fun _ => 0)))))), (u 16, .inl (cD, 300, .inr (.inr (.inr (.inl (fun _ => 0))))))] H := hP
  have hD : va_D A [(h, .inr (1, [.ref q1, .ref q2, .ref q3, .ref q4, .ref q5, .ref q6, .null, .double 0, .double 0, .int 0, .null, .double 0])), (q1, .inl (cI, 5, .inl (fun _ => 0))), (q2, .inl (cZ, 5, .inl (fun _ => 0))), (q3, .inl (cI, 5, .inl (fun _ => 0))), (q4, .inl (cD, 5, .inr (.inr (.inr (.inl (fun _ => 0)))))), (q5, .inl (cZ, 5, .inl (fun _ => 0))), (q6, .inl (cI, 5, .inl (fun _ => 0))), (q8, .inr (0, [.int (nI 0), .ref (u 9), .ref (u 10), .ref (u 11), .ref (u 12), .ref (u 13), .ref (u 14), .ref (u 15), .ref (u 16)])), (u 9, .inl (cD, 60, .inr (.inr (.inr (.inl (fun _ => 0)))))), (u 10, .inl (cD, 60, .inr (.inr (.inr (.inl (fun _ => 0)))))), (u 11, .inl (cD, 300, .inr (.inr (.inr (.inl (fun _ => 0)))))), (u 12, .inl (cZ, 300, .inl (fun _ => 0))), (u 13, .inl (cD, 300, .inr (.inr (.inr (.inl (fun _ => 0)))))), (u 14, .inl (cD, 300, .inr (.inr (.inr (.inl (fun _ => 0)))))), (u 15, .inl (cD, 300, .inr (.inr (.inr (.inl (fun _ => 0)))))), (u 16, .inl (cD, 300, .inr (.inr (.inr (.inl (fun _ => 0))))))] := hD
  refine va_putF (D := D) (ci := 1) (v := .ref q8) (ty := .object "GridCommons$Ledger") (C := RX1) (T := TX1) (N := 12) hx hb hts inX1 tyX1 tyX1_ok nmX1 hown hK hP hD hS 0 rfl rfl 6 (by decide) (hts (.fieldLink RX1 33 "GridCommons" "ledger" "LGridCommons$Ledger;") (by decide +kernel)) (fun _ h9 => h9) rfl hin rfl (by decide +kernel) rfl rfl (Nat.le_of_ble_eq_true rfl) dX1_init_54 (fun H locs hP hD hS => ?_)
  have hP : va_P D vwCl [(h, .inr (1, [.ref q1, .ref q2, .ref q3, .ref q4, .ref q5, .ref q6, .ref q8, .double 0, .double 0, .int 0, .null, .double 0])), (q1, .inl (cI, 5, .inl (fun _ => 0))), (q2, .inl (cZ, 5, .inl (fun _ => 0))), (q3, .inl (cI, 5, .inl (fun _ => 0))), (q4, .inl (cD, 5, .inr (.inr (.inr (.inl (fun _ => 0)))))), (q5, .inl (cZ, 5, .inl (fun _ => 0))), (q6, .inl (cI, 5, .inl (fun _ => 0))), (q8, .inr (0, [.int (nI 0), .ref (u 9), .ref (u 10), .ref (u 11), .ref (u 12), .ref (u 13), .ref (u 14), .ref (u 15), .ref (u 16)])), (u 9, .inl (cD, 60, .inr (.inr (.inr (.inl (fun _ => 0)))))), (u 10, .inl (cD, 60, .inr (.inr (.inr (.inl (fun _ => 0)))))), (u 11, .inl (cD, 300, .inr (.inr (.inr (.inl (fun _ => 0)))))), (u 12, .inl (cZ, 300, .inl (fun _ => 0))), (u 13, .inl (cD, 300, .inr (.inr (.inr (.inl (fun _ => 0)))))), (u 14, .inl (cD, 300, .inr (.inr (.inr (.inl (fun _ => 0)))))), (u 15, .inl (cD, 300, .inr (.inr (.inr (.inl (fun _ => 0)))))), (u 16, .inl (cD, 300, .inr (.inr (.inr (.inl (fun _ => 0))))))] H := hP
  have hD : va_D A [(h, .inr (1, [.ref q1, .ref q2, .ref q3, .ref q4, .ref q5, .ref q6, .ref q8, .double 0, .double 0, .int 0, .null, .double 0])), (q1, .inl (cI, 5, .inl (fun _ => 0))), (q2, .inl (cZ, 5, .inl (fun _ => 0))), (q3, .inl (cI, 5, .inl (fun _ => 0))), (q4, .inl (cD, 5, .inr (.inr (.inr (.inl (fun _ => 0)))))), (q5, .inl (cZ, 5, .inl (fun _ => 0))), (q6, .inl (cI, 5, .inl (fun _ => 0))), (q8, .inr (0, [.int (nI 0), .ref (u 9), .ref (u 10), .ref (u 11), .ref (u 12), .ref (u 13), .ref (u 14), .ref (u 15), .ref (u 16)])), (u 9, .inl (cD, 60, .inr (.inr (.inr (.inl (fun _ => 0)))))), (u 10, .inl (cD, 60, .inr (.inr (.inr (.inl (fun _ => 0)))))), (u 11, .inl (cD, 300, .inr (.inr (.inr (.inl (fun _ => 0)))))), (u 12, .inl (cZ, 300, .inl (fun _ => 0))), (u 13, .inl (cD, 300, .inr (.inr (.inr (.inl (fun _ => 0)))))), (u 14, .inl (cD, 300, .inr (.inr (.inr (.inl (fun _ => 0)))))), (u 15, .inl (cD, 300, .inr (.inr (.inr (.inl (fun _ => 0)))))), (u 16, .inl (cD, 300, .inr (.inr (.inr (.inl (fun _ => 0))))))] := hD
  refine lv_aload_n hx hb dX1_init_57 rfl (lv_at hl 0 rfl) ?_
  refine lv_ldc2d hx hb hown (hts (.constantDouble RX1 37 4602678819172646912) (by decide +kernel)) dX1_init_58 ?_
  refine va_put (D := D) (ci := 1) (v := .double 4602678819172646912) (ty := .double) (C := RX1) (T := TX1) (N := 12) hx hb hts inX1 tyX1 tyX1_ok nmX1 hown hK hP hD hS 0 rfl rfl 7 (by decide) (hts (.fieldLink RX1 39 "GridCommons" "price" "D") (by decide +kernel)) (fun _ h9 => h9) rfl (by decide +kernel) rfl rfl (Nat.le_of_ble_eq_true rfl) dX1_init_61 (fun H locs hP hD hS => ?_)
  have hP : va_P D vwCl [(h, .inr (1, [.ref q1, .ref q2, .ref q3, .ref q4, .ref q5, .ref q6, .ref q8, .double 4602678819172646912, .double 0, .int 0, .null, .double 0])), (q1, .inl (cI, 5, .inl (fun _ => 0))), (q2, .inl (cZ, 5, .inl (fun _ => 0))), (q3, .inl (cI, 5, .inl (fun _ => 0))), (q4, .inl (cD, 5, .inr (.inr (.inr (.inl (fun _ => 0)))))), (q5, .inl (cZ, 5, .inl (fun _ => 0))), (q6, .inl (cI, 5, .inl (fun _ => 0))), (q8, .inr (0, [.int (nI 0), .ref (u 9), .ref (u 10), .ref (u 11), .ref (u 12), .ref (u 13), .ref (u 14), .ref (u 15), .ref (u 16)])), (u 9, .inl (cD, 60, .inr (.inr (.inr (.inl (fun _ => 0)))))), (u 10, .inl (cD, 60, .inr (.inr (.inr (.inl (fun _ => 0)))))), (u 11, .inl (cD, 300, .inr (.inr (.inr (.inl (fun _ => 0)))))), (u 12, .inl (cZ, 300, .inl (fun _ => 0))), (u 13, .inl (cD, 300, .inr (.inr (.inr (.inl (fun _ => 0)))))), (u 14, .inl (cD, 300, .inr (.inr (.inr (.inl (fun _ => 0)))))), (u 15, .inl (cD, 300, .inr (.inr (.inr (.inl (fun _ => 0)))))), (u 16, .inl (cD, 300, .inr (.inr (.inr (.inl (fun _ => 0))))))] H := hP
  have hD : va_D A [(h, .inr (1, [.ref q1, .ref q2, .ref q3, .ref q4, .ref q5, .ref q6, .ref q8, .double 4602678819172646912, .double 0, .int 0, .null, .double 0])), (q1, .inl (cI, 5, .inl (fun _ => 0))), (q2, .inl (cZ, 5, .inl (fun _ => 0))), (q3, .inl (cI, 5, .inl (fun _ => 0))), (q4, .inl (cD, 5, .inr (.inr (.inr (.inl (fun _ => 0)))))), (q5, .inl (cZ, 5, .inl (fun _ => 0))), (q6, .inl (cI, 5, .inl (fun _ => 0))), (q8, .inr (0, [.int (nI 0), .ref (u 9), .ref (u 10), .ref (u 11), .ref (u 12), .ref (u 13), .ref (u 14), .ref (u 15), .ref (u 16)])), (u 9, .inl (cD, 60, .inr (.inr (.inr (.inl (fun _ => 0)))))), (u 10, .inl (cD, 60, .inr (.inr (.inr (.inl (fun _ => 0)))))), (u 11, .inl (cD, 300, .inr (.inr (.inr (.inl (fun _ => 0)))))), (u 12, .inl (cZ, 300, .inl (fun _ => 0))), (u 13, .inl (cD, 300, .inr (.inr (.inr (.inl (fun _ => 0)))))), (u 14, .inl (cD, 300, .inr (.inr (.inr (.inl (fun _ => 0)))))), (u 15, .inl (cD, 300, .inr (.inr (.inr (.inl (fun _ => 0)))))), (u 16, .inl (cD, 300, .inr (.inr (.inr (.inl (fun _ => 0))))))] := hD
  refine lv_aload_n hx hb dX1_init_64 rfl (lv_at hl 0 rfl) ?_
  refine lv_dconst0 hx hb dX1_init_65 ?_
  refine va_put (D := D) (ci := 1) (v := .double FP.dconst0) (ty := .double) (C := RX1) (T := TX1) (N := 12) hx hb hts inX1 tyX1 tyX1_ok nmX1 hown hK hP hD hS 0 rfl rfl 8 (by decide) (hts (.fieldLink RX1 43 "GridCommons" "stored" "D") (by decide +kernel)) (fun _ h9 => h9) rfl (by decide +kernel) rfl rfl (Nat.le_of_ble_eq_true rfl) dX1_init_66 (fun H locs hP hD hS => ?_)
  have hP : va_P D vwCl [(h, .inr (1, [.ref q1, .ref q2, .ref q3, .ref q4, .ref q5, .ref q6, .ref q8, .double 4602678819172646912, .double FP.dconst0, .int 0, .null, .double 0])), (q1, .inl (cI, 5, .inl (fun _ => 0))), (q2, .inl (cZ, 5, .inl (fun _ => 0))), (q3, .inl (cI, 5, .inl (fun _ => 0))), (q4, .inl (cD, 5, .inr (.inr (.inr (.inl (fun _ => 0)))))), (q5, .inl (cZ, 5, .inl (fun _ => 0))), (q6, .inl (cI, 5, .inl (fun _ => 0))), (q8, .inr (0, [.int (nI 0), .ref (u 9), .ref (u 10), .ref (u 11), .ref (u 12), .ref (u 13), .ref (u 14), .ref (u 15), .ref (u 16)])), (u 9, .inl (cD, 60, .inr (.inr (.inr (.inl (fun _ => 0)))))), (u 10, .inl (cD, 60, .inr (.inr (.inr (.inl (fun _ => 0)))))), (u 11, .inl (cD, 300, .inr (.inr (.inr (.inl (fun _ => 0)))))), (u 12, .inl (cZ, 300, .inl (fun _ => 0))), (u 13, .inl (cD, 300, .inr (.inr (.inr (.inl (fun _ => 0)))))), (u 14, .inl (cD, 300, .inr (.inr (.inr (.inl (fun _ => 0)))))), (u 15, .inl (cD, 300, .inr (.inr (.inr (.inl (fun _ => 0)))))), (u 16, .inl (cD, 300, .inr (.inr (.inr (.inl (fun _ => 0))))))] H := hP
  have hD : va_D A [(h, .inr (1, [.ref q1, .ref q2, .ref q3, .ref q4, .ref q5, .ref q6, .ref q8, .double 4602678819172646912, .double FP.dconst0, .int 0, .null, .double 0])), (q1, .inl (cI, 5, .inl (fun _ => 0))), (q2, .inl (cZ, 5, .inl (fun _ => 0))), (q3, .inl (cI, 5, .inl (fun _ => 0))), (q4, .inl (cD, 5, .inr (.inr (.inr (.inl (fun _ => 0)))))), (q5, .inl (cZ, 5, .inl (fun _ => 0))), (q6, .inl (cI, 5, .inl (fun _ => 0))), (q8, .inr (0, [.int (nI 0), .ref (u 9), .ref (u 10), .ref (u 11), .ref (u 12), .ref (u 13), .ref (u 14), .ref (u 15), .ref (u 16)])), (u 9, .inl (cD, 60, .inr (.inr (.inr (.inl (fun _ => 0)))))), (u 10, .inl (cD, 60, .inr (.inr (.inr (.inl (fun _ => 0)))))), (u 11, .inl (cD, 300, .inr (.inr (.inr (.inl (fun _ => 0)))))), (u 12, .inl (cZ, 300, .inl (fun _ => 0))), (u 13, .inl (cD, 300, .inr (.inr (.inr (.inl (fun _ => 0)))))), (u 14, .inl (cD, 300, .inr (.inr (.inr (.inl (fun _ => 0)))))), (u 15, .inl (cD, 300, .inr (.inr (.inr (.inl (fun _ => 0)))))), (u 16, .inl (cD, 300, .inr (.inr (.inr (.inl (fun _ => 0))))))] := hD
  refine lv_aload_n hx hb dX1_init_69 rfl (lv_at hl 0 rfl) ?_
  refine lv_iconst (v := nI 0) hx hb dX1_init_70 (by decide) ?_
  refine va_put (D := D) (ci := 1) (v := .int (nI 0)) (ty := .int) (C := RX1) (T := TX1) (N := 12) hx hb hts inX1 tyX1 tyX1_ok nmX1 hown hK hP hD hS 0 rfl rfl 9 (by decide) (hts (.fieldLink RX1 46 "GridCommons" "whoseTurn" "I") (by decide +kernel)) (fun _ h9 => h9) rfl (by decide +kernel) rfl rfl (Nat.le_of_ble_eq_true rfl) dX1_init_71 (fun H locs hP hD hS => ?_)
  have hP : va_P D vwCl [(h, .inr (1, [.ref q1, .ref q2, .ref q3, .ref q4, .ref q5, .ref q6, .ref q8, .double 4602678819172646912, .double FP.dconst0, .int (nI 0), .null, .double 0])), (q1, .inl (cI, 5, .inl (fun _ => 0))), (q2, .inl (cZ, 5, .inl (fun _ => 0))), (q3, .inl (cI, 5, .inl (fun _ => 0))), (q4, .inl (cD, 5, .inr (.inr (.inr (.inl (fun _ => 0)))))), (q5, .inl (cZ, 5, .inl (fun _ => 0))), (q6, .inl (cI, 5, .inl (fun _ => 0))), (q8, .inr (0, [.int (nI 0), .ref (u 9), .ref (u 10), .ref (u 11), .ref (u 12), .ref (u 13), .ref (u 14), .ref (u 15), .ref (u 16)])), (u 9, .inl (cD, 60, .inr (.inr (.inr (.inl (fun _ => 0)))))), (u 10, .inl (cD, 60, .inr (.inr (.inr (.inl (fun _ => 0)))))), (u 11, .inl (cD, 300, .inr (.inr (.inr (.inl (fun _ => 0)))))), (u 12, .inl (cZ, 300, .inl (fun _ => 0))), (u 13, .inl (cD, 300, .inr (.inr (.inr (.inl (fun _ => 0)))))), (u 14, .inl (cD, 300, .inr (.inr (.inr (.inl (fun _ => 0)))))), (u 15, .inl (cD, 300, .inr (.inr (.inr (.inl (fun _ => 0)))))), (u 16, .inl (cD, 300, .inr (.inr (.inr (.inl (fun _ => 0))))))] H := hP
  have hD : va_D A [(h, .inr (1, [.ref q1, .ref q2, .ref q3, .ref q4, .ref q5, .ref q6, .ref q8, .double 4602678819172646912, .double FP.dconst0, .int (nI 0), .null, .double 0])), (q1, .inl (cI, 5, .inl (fun _ => 0))), (q2, .inl (cZ, 5, .inl (fun _ => 0))), (q3, .inl (cI, 5, .inl (fun _ => 0))), (q4, .inl (cD, 5, .inr (.inr (.inr (.inl (fun _ => 0)))))), (q5, .inl (cZ, 5, .inl (fun _ => 0))), (q6, .inl (cI, 5, .inl (fun _ => 0))), (q8, .inr (0, [.int (nI 0), .ref (u 9), .ref (u 10), .ref (u 11), .ref (u 12), .ref (u 13), .ref (u 14), .ref (u 15), .ref (u 16)])), (u 9, .inl (cD, 60, .inr (.inr (.inr (.inl (fun _ => 0)))))), (u 10, .inl (cD, 60, .inr (.inr (.inr (.inl (fun _ => 0)))))), (u 11, .inl (cD, 300, .inr (.inr (.inr (.inl (fun _ => 0)))))), (u 12, .inl (cZ, 300, .inl (fun _ => 0))), (u 13, .inl (cD, 300, .inr (.inr (.inr (.inl (fun _ => 0)))))), (u 14, .inl (cD, 300, .inr (.inr (.inr (.inl (fun _ => 0)))))), (u 15, .inl (cD, 300, .inr (.inr (.inr (.inl (fun _ => 0)))))), (u 16, .inl (cD, 300, .inr (.inr (.inr (.inl (fun _ => 0))))))] := hD
  refine lv_aload_n hx hb dX1_init_74 rfl (lv_at hl 0 rfl) ?_
  refine lv_iconst (v := nI 5) hx hb dX1_init_75 (by decide) ?_
  refine xk_newa (atype := .double) (ty := .double) (N' := 5) (a0 := (5, .inr (.inr (.inr (.inl (fun _ => 0)))))) hx hb (hts (.arrayClass .double) (by decide +kernel)) rfl hK hP hD hS hA 2 rfl (fun _ _ h9 => h9) (fun _ => rfl) (by decide +kernel) (by decide +kernel) (Nat.le_of_ble_eq_true rfl) (Nat.le_of_ble_eq_true rfl) (Nat.le_of_ble_eq_true rfl) dX1_init_76 (fun q7 H hP hD hS => ?_)
  have hP : va_P D vwCl [(h, .inr (1, [.ref q1, .ref q2, .ref q3, .ref q4, .ref q5, .ref q6, .ref q8, .double 4602678819172646912, .double FP.dconst0, .int (nI 0), .null, .double 0])), (q1, .inl (cI, 5, .inl (fun _ => 0))), (q2, .inl (cZ, 5, .inl (fun _ => 0))), (q3, .inl (cI, 5, .inl (fun _ => 0))), (q4, .inl (cD, 5, .inr (.inr (.inr (.inl (fun _ => 0)))))), (q5, .inl (cZ, 5, .inl (fun _ => 0))), (q6, .inl (cI, 5, .inl (fun _ => 0))), (q8, .inr (0, [.int (nI 0), .ref (u 9), .ref (u 10), .ref (u 11), .ref (u 12), .ref (u 13), .ref (u 14), .ref (u 15), .ref (u 16)])), (u 9, .inl (cD, 60, .inr (.inr (.inr (.inl (fun _ => 0)))))), (u 10, .inl (cD, 60, .inr (.inr (.inr (.inl (fun _ => 0)))))), (u 11, .inl (cD, 300, .inr (.inr (.inr (.inl (fun _ => 0)))))), (u 12, .inl (cZ, 300, .inl (fun _ => 0))), (u 13, .inl (cD, 300, .inr (.inr (.inr (.inl (fun _ => 0)))))), (u 14, .inl (cD, 300, .inr (.inr (.inr (.inl (fun _ => 0)))))), (u 15, .inl (cD, 300, .inr (.inr (.inr (.inl (fun _ => 0)))))), (u 16, .inl (cD, 300, .inr (.inr (.inr (.inl (fun _ => 0)))))), (q7, .inl (cD, 5, .inr (.inr (.inr (.inl (fun _ => 0))))))] H := hP
  have hD : va_D A [(h, .inr (1, [.ref q1, .ref q2, .ref q3, .ref q4, .ref q5, .ref q6, .ref q8, .double 4602678819172646912, .double FP.dconst0, .int (nI 0), .null, .double 0])), (q1, .inl (cI, 5, .inl (fun _ => 0))), (q2, .inl (cZ, 5, .inl (fun _ => 0))), (q3, .inl (cI, 5, .inl (fun _ => 0))), (q4, .inl (cD, 5, .inr (.inr (.inr (.inl (fun _ => 0)))))), (q5, .inl (cZ, 5, .inl (fun _ => 0))), (q6, .inl (cI, 5, .inl (fun _ => 0))), (q8, .inr (0, [.int (nI 0), .ref (u 9), .ref (u 10), .ref (u 11), .ref (u 12), .ref (u 13), .ref (u 14), .ref (u 15), .ref (u 16)])), (u 9, .inl (cD, 60, .inr (.inr (.inr (.inl (fun _ => 0)))))), (u 10, .inl (cD, 60, .inr (.inr (.inr (.inl (fun _ => 0)))))), (u 11, .inl (cD, 300, .inr (.inr (.inr (.inl (fun _ => 0)))))), (u 12, .inl (cZ, 300, .inl (fun _ => 0))), (u 13, .inl (cD, 300, .inr (.inr (.inr (.inl (fun _ => 0)))))), (u 14, .inl (cD, 300, .inr (.inr (.inr (.inl (fun _ => 0)))))), (u 15, .inl (cD, 300, .inr (.inr (.inr (.inl (fun _ => 0)))))), (u 16, .inl (cD, 300, .inr (.inr (.inr (.inl (fun _ => 0)))))), (q7, .inl (cD, 5, .inr (.inr (.inr (.inl (fun _ => 0))))))] := hD
  refine va_putF (D := D) (ci := 1) (v := .ref q7) (ty := .array .double) (C := RX1) (T := TX1) (N := 12) hx hb hts inX1 tyX1 tyX1_ok nmX1 hown hK hP hD hS 0 rfl rfl 10 (by decide) (hts (.fieldLink RX1 50 "GridCommons" "needs" "[D") (by decide +kernel)) (fun _ h9 => h9) rfl hin rfl (by decide +kernel) rfl rfl (Nat.le_of_ble_eq_true rfl) dX1_init_78 (fun H locs hP hD hS => ?_)
  have hP : va_P D vwCl [(h, .inr (1, [.ref q1, .ref q2, .ref q3, .ref q4, .ref q5, .ref q6, .ref q8, .double 4602678819172646912, .double FP.dconst0, .int (nI 0), .ref q7, .double 0])), (q1, .inl (cI, 5, .inl (fun _ => 0))), (q2, .inl (cZ, 5, .inl (fun _ => 0))), (q3, .inl (cI, 5, .inl (fun _ => 0))), (q4, .inl (cD, 5, .inr (.inr (.inr (.inl (fun _ => 0)))))), (q5, .inl (cZ, 5, .inl (fun _ => 0))), (q6, .inl (cI, 5, .inl (fun _ => 0))), (q8, .inr (0, [.int (nI 0), .ref (u 9), .ref (u 10), .ref (u 11), .ref (u 12), .ref (u 13), .ref (u 14), .ref (u 15), .ref (u 16)])), (u 9, .inl (cD, 60, .inr (.inr (.inr (.inl (fun _ => 0)))))), (u 10, .inl (cD, 60, .inr (.inr (.inr (.inl (fun _ => 0)))))), (u 11, .inl (cD, 300, .inr (.inr (.inr (.inl (fun _ => 0)))))), (u 12, .inl (cZ, 300, .inl (fun _ => 0))), (u 13, .inl (cD, 300, .inr (.inr (.inr (.inl (fun _ => 0)))))), (u 14, .inl (cD, 300, .inr (.inr (.inr (.inl (fun _ => 0)))))), (u 15, .inl (cD, 300, .inr (.inr (.inr (.inl (fun _ => 0)))))), (u 16, .inl (cD, 300, .inr (.inr (.inr (.inl (fun _ => 0)))))), (q7, .inl (cD, 5, .inr (.inr (.inr (.inl (fun _ => 0))))))] H := hP
  have hD : va_D A [(h, .inr (1, [.ref q1, .ref q2, .ref q3, .ref q4, .ref q5, .ref q6, .ref q8, .double 4602678819172646912, .double FP.dconst0, .int (nI 0), .ref q7, .double 0])), (q1, .inl (cI, 5, .inl (fun _ => 0))), (q2, .inl (cZ, 5, .inl (fun _ => 0))), (q3, .inl (cI, 5, .inl (fun _ => 0))), (q4, .inl (cD, 5, .inr (.inr (.inr (.inl (fun _ => 0)))))), (q5, .inl (cZ, 5, .inl (fun _ => 0))), (q6, .inl (cI, 5, .inl (fun _ => 0))), (q8, .inr (0, [.int (nI 0), .ref (u 9), .ref (u 10), .ref (u 11), .ref (u 12), .ref (u 13), .ref (u 14), .ref (u 15), .ref (u 16)])), (u 9, .inl (cD, 60, .inr (.inr (.inr (.inl (fun _ => 0)))))), (u 10, .inl (cD, 60, .inr (.inr (.inr (.inl (fun _ => 0)))))), (u 11, .inl (cD, 300, .inr (.inr (.inr (.inl (fun _ => 0)))))), (u 12, .inl (cZ, 300, .inl (fun _ => 0))), (u 13, .inl (cD, 300, .inr (.inr (.inr (.inl (fun _ => 0)))))), (u 14, .inl (cD, 300, .inr (.inr (.inr (.inl (fun _ => 0)))))), (u 15, .inl (cD, 300, .inr (.inr (.inr (.inl (fun _ => 0)))))), (u 16, .inl (cD, 300, .inr (.inr (.inr (.inl (fun _ => 0)))))), (q7, .inl (cD, 5, .inr (.inr (.inr (.inl (fun _ => 0))))))] := hD
  refine lv_aload_n hx hb dX1_init_81 rfl (lv_at hl 0 rfl) ?_
  refine lv_dconst0 hx hb dX1_init_82 ?_
  refine va_put (D := D) (ci := 1) (v := .double FP.dconst0) (ty := .double) (C := RX1) (T := TX1) (N := 12) hx hb hts inX1 tyX1 tyX1_ok nmX1 hown hK hP hD hS 0 rfl rfl 11 (by decide) (hts (.fieldLink RX1 53 "GridCommons" "leftOver" "D") (by decide +kernel)) (fun _ h9 => h9) rfl (by decide +kernel) rfl rfl (Nat.le_of_ble_eq_true rfl) dX1_init_83 (fun H locs hP hD hS => ?_)
  have hP : va_P D vwCl [(h, .inr (1, [.ref q1, .ref q2, .ref q3, .ref q4, .ref q5, .ref q6, .ref q8, .double 4602678819172646912, .double FP.dconst0, .int (nI 0), .ref q7, .double FP.dconst0])), (q1, .inl (cI, 5, .inl (fun _ => 0))), (q2, .inl (cZ, 5, .inl (fun _ => 0))), (q3, .inl (cI, 5, .inl (fun _ => 0))), (q4, .inl (cD, 5, .inr (.inr (.inr (.inl (fun _ => 0)))))), (q5, .inl (cZ, 5, .inl (fun _ => 0))), (q6, .inl (cI, 5, .inl (fun _ => 0))), (q8, .inr (0, [.int (nI 0), .ref (u 9), .ref (u 10), .ref (u 11), .ref (u 12), .ref (u 13), .ref (u 14), .ref (u 15), .ref (u 16)])), (u 9, .inl (cD, 60, .inr (.inr (.inr (.inl (fun _ => 0)))))), (u 10, .inl (cD, 60, .inr (.inr (.inr (.inl (fun _ => 0)))))), (u 11, .inl (cD, 300, .inr (.inr (.inr (.inl (fun _ => 0)))))), (u 12, .inl (cZ, 300, .inl (fun _ => 0))), (u 13, .inl (cD, 300, .inr (.inr (.inr (.inl (fun _ => 0)))))), (u 14, .inl (cD, 300, .inr (.inr (.inr (.inl (fun _ => 0)))))), (u 15, .inl (cD, 300, .inr (.inr (.inr (.inl (fun _ => 0)))))), (u 16, .inl (cD, 300, .inr (.inr (.inr (.inl (fun _ => 0)))))), (q7, .inl (cD, 5, .inr (.inr (.inr (.inl (fun _ => 0))))))] H := hP
  have hD : va_D A [(h, .inr (1, [.ref q1, .ref q2, .ref q3, .ref q4, .ref q5, .ref q6, .ref q8, .double 4602678819172646912, .double FP.dconst0, .int (nI 0), .ref q7, .double FP.dconst0])), (q1, .inl (cI, 5, .inl (fun _ => 0))), (q2, .inl (cZ, 5, .inl (fun _ => 0))), (q3, .inl (cI, 5, .inl (fun _ => 0))), (q4, .inl (cD, 5, .inr (.inr (.inr (.inl (fun _ => 0)))))), (q5, .inl (cZ, 5, .inl (fun _ => 0))), (q6, .inl (cI, 5, .inl (fun _ => 0))), (q8, .inr (0, [.int (nI 0), .ref (u 9), .ref (u 10), .ref (u 11), .ref (u 12), .ref (u 13), .ref (u 14), .ref (u 15), .ref (u 16)])), (u 9, .inl (cD, 60, .inr (.inr (.inr (.inl (fun _ => 0)))))), (u 10, .inl (cD, 60, .inr (.inr (.inr (.inl (fun _ => 0)))))), (u 11, .inl (cD, 300, .inr (.inr (.inr (.inl (fun _ => 0)))))), (u 12, .inl (cZ, 300, .inl (fun _ => 0))), (u 13, .inl (cD, 300, .inr (.inr (.inr (.inl (fun _ => 0)))))), (u 14, .inl (cD, 300, .inr (.inr (.inr (.inl (fun _ => 0)))))), (u 15, .inl (cD, 300, .inr (.inr (.inr (.inl (fun _ => 0)))))), (u 16, .inl (cD, 300, .inr (.inr (.inr (.inl (fun _ => 0)))))), (q7, .inl (cD, 5, .inr (.inr (.inr (.inl (fun _ => 0))))))] := hD
  have hP := hP.sub (ws' := XW (fun k => [h, q1, q2, q3, q4, q5, q6, q7, q8, u 9, u 10, u 11, u 12, u 13, u 14, u 15, u 16].getD k 0) cI cZ cD (fun _ => 0) (fun _ => 0) (fun _ => 0) (fun _ => 0) (fun _ => 0) (fun _ => 0) (fun _ => 0) 4602678819172646912 FP.dconst0 FP.dconst0 (nI 0) (nI 0) (fun _ => 0) (fun _ => 0) (fun _ => 0) (fun _ => 0) (fun _ => 0) (fun _ => 0) (fun _ => 0) (fun _ => 0)) [0, 1, 2, 3, 4, 5, 6, 16, 7, 8, 9, 10, 11, 12, 13, 14, 15] rfl
  have hD := hD.sub (ws' := XW (fun k => [h, q1, q2, q3, q4, q5, q6, q7, q8, u 9, u 10, u 11, u 12, u 13, u 14, u 15, u 16].getD k 0) cI cZ cD (fun _ => 0) (fun _ => 0) (fun _ => 0) (fun _ => 0) (fun _ => 0) (fun _ => 0) (fun _ => 0) 4602678819172646912 FP.dconst0 FP.dconst0 (nI 0) (nI 0) (fun _ => 0) (fun _ => 0) (fun _ => 0) (fun _ => 0) (fun _ => 0) (fun _ => 0) (fun _ => 0) (fun _ => 0)) [0, 1, 2, 3, 4, 5, 6, 16, 7, 8, 9, 10, 11, 12, 13, 14, 15] (by decide) rfl
  obtain ⟨a, ha⟩ : ∃ a : Nat → Nat, a = fun k => [h, q1, q2, q3, q4, q5, q6, q7, q8, u 9, u 10, u 11, u 12, u 13, u 14, u 15, u 16].getD k 0 := ⟨_, rfl⟩
  have h0 : a 0 = h := by rw [ha]; rfl
  rw [← ha] at hP hD
  have e0 : (fun _ => (0 : Int32)) = po 0 0 (fun _ => (0 : Int32)) (fun _ => (1 : Int32)) := (po_0 _ _ _).symm
  have hP : va_P D vwCl (XW a cI cZ cD (fun _ => 0) (po 0 0 (fun _ => (0 : Int32)) (fun _ => (1 : Int32))) (fun _ => 0) (fun _ => 0) (fun _ => 0) (fun _ => 0) (fun _ => 0) 4602678819172646912 FP.dconst0 FP.dconst0 (nI 0) (nI 0) (fun _ => 0) (fun _ => 0) (fun _ => 0) (fun _ => 0) (fun _ => 0) (fun _ => 0) (fun _ => 0) (fun _ => 0)) H := by rw [← e0]; exact hP
  have hD : va_D A (XW a cI cZ cD (fun _ => 0) (po 0 0 (fun _ => (0 : Int32)) (fun _ => (1 : Int32))) (fun _ => 0) (fun _ => 0) (fun _ => 0) (fun _ => 0) (fun _ => 0) 4602678819172646912 FP.dconst0 FP.dconst0 (nI 0) (nI 0) (fun _ => 0) (fun _ => 0) (fun _ => 0) (fun _ => 0) (fun _ => 0) (fun _ => 0) (fun _ => 0) (fun _ => 0)) := by rw [← e0]; exact hD
  have hl : lv_has ls 2 [(0, .ref (a 0))] := (by rw [h0]; exact hl)
  refine lv_iconst (v := nI 0) hx hb dX1_init_86 (by decide) ?_
  refine lv_istore_n (lv' := [(1, .int (nI 0)), (0, .ref (a 0))]) hx hb dX1_init_87 rfl hl (by decide) rfl (fun ls hl => ?_)
  refine xk_loopP (fun i H locs ls => (va_P D vwCl (XW a cI cZ cD (fun _ => 0) (po 0 i (fun _ => (0 : Int32)) (fun _ => (1 : Int32))) (fun _ => 0) (fun _ => 0) (fun _ => 0) (fun _ => 0) (fun _ => 0) 4602678819172646912 FP.dconst0 FP.dconst0 (nI 0) (nI 0) (fun _ => 0) (fun _ => 0) (fun _ => 0) (fun _ => 0) (fun _ => 0) (fun _ => 0) (fun _ => 0) (fun _ => 0)) H) ∧ (va_D A (XW a cI cZ cD (fun _ => 0) (po 0 i (fun _ => (0 : Int32)) (fun _ => (1 : Int32))) (fun _ => 0) (fun _ => 0) (fun _ => 0) (fun _ => 0) (fun _ => 0) 4602678819172646912 FP.dconst0 FP.dconst0 (nI 0) (nI 0) (fun _ => 0) (fun _ => 0) (fun _ => 0) (fun _ => 0) (fun _ => 0) (fun _ => 0) (fun _ => 0) (fun _ => 0))) ∧ (va_S A s.heap H locs) ∧ (lv_has ls 2 [(0, .ref (a 0)), (1, .int (nI i))])) 5 ?_ (i := 0) (Nat.zero_le _) ⟨hP, hD, hS, lv_sub hl [1, 0] rfl⟩
  intro i H locs ls hi hI next
  obtain ⟨hP, hD, hS, hl⟩ := hI
  refine lv_iload_n hx hb dX1_init_88 rfl (lv_at hl 1 rfl) ?_
  refine lv_iconst (v := nI 5) hx hb dX1_init_89 (by decide) ?_
  refine lv_icmp_ge (tgt := 106) hx hb dX1_init_90 (by decide) (fun c => ?_) (fun c => ?_)
  · skip
    obtain rfl := xk_ge hi (by decide) c
    exact W.vret hx hb hr (fun t ht hW => ⟨⟨a, rfl, h0, by rw [ht]; exact hP, va_K.moved hW.alike hK, hD⟩, hS.F ht⟩) hS.2.2 dX1_init_106
  · skip
    have hlt := xk_nge hi (by decide) c
    refine lv_aload_n hx hb dX1_init_93 rfl (lv_at hl 0 rfl) ?_
    refine va_get (D := D) (ci := 1) (v := .ref (a 2)) (C := RX1) (T := TX1) (N := 12) hx hb hts inX1 hown hK hP 0 rfl rfl 1 (by decide) (hts (.fieldLink RX1 13 "GridCommons" "switches" "[Z") (by decide +kernel)) (fun _ h9 => h9) rfl dX1_init_94 ?_
    refine lv_iload_n hx hb dX1_init_97 rfl (lv_at hl 1 rfl) ?_
    refine lv_iconst (v := nI 1) hx hb dX1_init_98 (by decide) ?_
    refine xk_zast (x' := 1) hx hb hK hP hD hS 2 1 rfl rfl (o := i) (by omega) (by decide) rfl dX1_init_99 (fun H locs hP hD hS => ?_)
    have hP : va_P D vwCl (XW a cI cZ cD (fun _ => 0) (upd (po 0 i (fun _ => (0 : Int32)) (fun _ => (1 : Int32))) i 1) (fun _ => 0) (fun _ => 0) (fun _ => 0) (fun _ => 0) (fun _ => 0) 4602678819172646912 FP.dconst0 FP.dconst0 (nI 0) (nI 0) (fun _ => 0) (fun _ => 0) (fun _ => 0) (fun _ => 0) (fun _ => 0) (fun _ => 0) (fun _ => 0) (fun _ => 0)) H := hP
    have hD : va_D A (XW a cI cZ cD (fun _ => 0) (upd (po 0 i (fun _ => (0 : Int32)) (fun _ => (1 : Int32))) i 1) (fun _ => 0) (fun _ => 0) (fun _ => 0) (fun _ => 0) (fun _ => 0) 4602678819172646912 FP.dconst0 FP.dconst0 (nI 0) (nI 0) (fun _ => 0) (fun _ => 0) (fun _ => 0) (fun _ => 0) (fun _ => 0) (fun _ => 0) (fun _ => 0) (fun _ => 0)) := hD
    have e1 : upd (po 0 i (fun _ => (0 : Int32)) (fun _ => (1 : Int32))) i 1 = po 0 (i + 1) (fun _ => (0 : Int32)) (fun _ => (1 : Int32)) := po_s0 i (fun _ => (0 : Int32)) (fun _ => (1 : Int32))
    rw [e1] at hP hD
    refine lv_iinc (v := nI (i + 1)) (lv' := [(1, .int (nI (i + 1))), (0, .ref (a 0))]) hx hb dX1_init_100 hl (k := 1) rfl (nI_1 i) (by decide) rfl (fun ls hl => ?_)
    refine lv_goto (tgt := 88) hx hb dX1_init_103 (by decide) ?_
    exact next _ _ _ hlt ⟨hP, hD, hS, lv_sub hl [1, 0] rfl⟩
end
section
/-! NUMBERS BY THEIR VALUES: how many of the least number a datum is, and how far rounding goes -/
abbrev zv (d : Dm) : Int := FP.Core.zval FP.Core.b64 d
abbrev ft (d : Dm) : Prop := FP.Core.fits FP.Core.b64 d
theorem gb : FP.Core.Good FP.Core.b64 := FP.Core.good_b64
/-- a step: two to the -36th -/
def G0 : Int := ((2 ^ 1038 : Nat) : Int)
/-- one -/
def U0 : Int := ((2 ^ 1074 : Nat) : Int)
theorem G0_pos : 0 < G0 := Int.natCast_pos.mpr (Nat.two_pow_pos _)
theorem U0_G0 : U0 = 68719476736 * G0 := by decide +kernel
theorem U0_pos : 0 < U0 := Int.natCast_pos.mpr (Nat.two_pow_pos _)
theorem dt_ft (x : UInt64) : ft (dt x) := FP.Core.decode_fits gb _
theorem en_ft {d : Dm} (h : ft d) : en d = d := FP.Core.val64_of64 h
theorem dAdd_r (x y : Dm) : dAdd x y = FP.Core.round FP.Core.b64 (FP.Core.exactSum x y) := en_ft (FP.Core.round_fits gb _)
theorem dSub_r (x y : Dm) : dSub x y = FP.Core.round FP.Core.b64 (FP.Core.exactSum x (FP.Core.negate y)) := en_ft (FP.Core.round_fits gb _)
theorem dMul_r (x y : Dm) : dMul x y = FP.Core.round FP.Core.b64 (FP.Core.exactProduct x y) := en_ft (FP.Core.round_fits gb _)
theorem dDiv_r (x y : Dm) : dDiv x y = FP.Core.quotient FP.Core.b64 x y := en_ft (FP.Core.quotient_fits gb _ _)
/-- a number of a size that we keep to: at most 2 to the 16th -/
def nb (d : Dm) : Prop := ft d ∧ d ≠ .nan ∧ zv d ≤ 4503599627370496 * G0 ∧ -(4503599627370496 * G0) ≤ zv d
theorem top_big : 4503599627370496 * G0 < ((FP.Core.Fmt.tails FP.Core.b64 * 2 ^ (FP.Core.Fmt.exps FP.Core.b64 - 2) : Nat) : Int) := by decide +kernel
theorem nb_fin {d : Dm} (h : nb d) : ∃ s c q, d = .fin s c q := by
  obtain ⟨h1, h2, h3, h4⟩ := h
  have hb := top_big
  cases d with
  | nan => exact absurd rfl h2
  | inf s =>
    exfalso
    cases s
    · have e : zv (.inf false) = ((FP.Core.Fmt.tails FP.Core.b64 * 2 ^ (FP.Core.Fmt.exps FP.Core.b64 - 2) : Nat) : Int) := rfl
      rw [e] at h3
      exact absurd h3 (Int.not_le.mpr hb)
    · have e : zv (.inf true) = -((FP.Core.Fmt.tails FP.Core.b64 * 2 ^ (FP.Core.Fmt.exps FP.Core.b64 - 2) : Nat) : Int) := rfl
      rw [e] at h4
      exact absurd (Int.neg_le_neg_iff.mp h4) (Int.not_le.mpr hb)
  | fin s c q => exact ⟨s, c, q, rfl⟩
theorem sgn_abs (k : Int) : FP.Core.signed (decide (k < 0)) k.natAbs = k := by
  unfold FP.Core.signed
  by_cases h : k < 0
  · rw [decide_eq_true h, if_pos rfl]; omega
  · rw [decide_eq_false h, if_neg (by decide)]; omega
/-- each small number of steps is a number of the format -/
theorem grid (k : Int) (h1 : -9007199254740992 < k) (h2 : k < 9007199254740992) : ∃ V : Dm, ft V ∧ V ≠ .nan ∧ zv V = k * G0 := by
  obtain ⟨c', q', e1, e2⟩ := FP.Core.round_exact gb (decide (k < 0)) (c := k.natAbs) (q := -36) (by show k.natAbs < 9007199254740992; omega) (by rw [qmin_b]; decide) (by rw [qmax_b]; decide)
  refine ⟨.fin (decide (k < 0)) c' q', by rw [← e1]; exact FP.Core.round_fits gb _, (fun e => by cases e), ?_⟩
  show FP.Core.signed (decide (k < 0)) (FP.Core.inUnits c' q' FP.Core.b64.qmin) = k * G0
  rw [e2, qmin_b]
  have e3 : FP.Core.inUnits k.natAbs (-36) (-1074) = k.natAbs * 2 ^ 1038 := by
    unfold FP.Core.inUnits
    rw [show ((-36 : Int) - -1074).toNat = 1038 by decide]
  rw [e3, FP.Core.signed_mul, sgn_abs]
  rfl
/-- r is n / b, rounded: within a step, and on no other side of a step's multiple -/
def rq (b n r : Int) : Prop := r * b ≤ n + b * G0 ∧ n ≤ r * b + b * G0 ∧ ∀ k : Int, -9007199254740992 < k → k < 9007199254740992 → (n ≤ k * G0 * b → r ≤ k * G0) ∧ (k * G0 * b ≤ n → k * G0 ≤ r)
theorem rq_of {b n r : Int} (hb : 0 < b) (h1 : n ≤ 4503599627370496 * G0 * b) (h2 : -(4503599627370496 * G0 * b) ≤ n) (h : ∀ k : Int, -9007199254740992 < k → k < 9007199254740992 → (n ≤ k * G0 * b → r ≤ k * G0) ∧ (k * G0 * b ≤ n → k * G0 ≤ r)) : rq b n r := by
  have hG := G0_pos
  have hD : 0 < G0 * b := Int.mul_pos hG hb
  have k1 := Int.mul_ediv_add_emod n (G0 * b)
  have k2 := Int.emod_nonneg n (Int.ne_of_gt hD)
  have k3 := Int.emod_lt_of_pos n hD
  generalize hm : n / (G0 * b) = m at k1
  generalize n % (G0 * b) = e at k1 k2 k3
  have a1 : 4503599627370496 * G0 * b = 4503599627370496 * (G0 * b) := Int.mul_assoc _ _ _
  have a2 : -(4503599627370496 * (G0 * b)) = (-4503599627370496) * (G0 * b) := by rw [Int.neg_mul]
  have b1 : m ≤ 4503599627370496 := by
    refine Int.le_of_mul_le_mul_right (a := G0 * b) ?_ hD
    rw [Int.mul_comm m]
    omega
  have b2 : -4503599627370497 < m := by
    refine Int.lt_of_mul_lt_mul_right (a := G0 * b) ?_ (Int.le_of_lt hD)
    rw [Int.mul_comm m]
    omega
  have c1 : m * G0 * b = G0 * b * m := by rw [Int.mul_assoc, Int.mul_comm]
  have c2 : (m + 1) * G0 * b = G0 * b * m + G0 * b := by rw [Int.mul_assoc, Int.mul_comm, Int.mul_add, Int.mul_one]
  have d1 := (h m (by omega) (by omega)).2 (by rw [c1]; omega)
  have d2 := (h (m + 1) (by omega) (by omega)).1 (by rw [c2]; omega)
  have f1 : m * G0 * b ≤ r * b := Int.mul_le_mul_of_nonneg_right d1 (Int.le_of_lt hb)
  have f2 : r * b ≤ (m + 1) * G0 * b := Int.mul_le_mul_of_nonneg_right d2 (Int.le_of_lt hb)
  rw [c1] at f1
  rw [c2] at f2
  have g1 : b * G0 = G0 * b := Int.mul_comm _ _
  refine ⟨by rw [g1]; omega, by rw [g1]; omega, h⟩
/-- .. and stays of that size -/
theorem nb_of {b n : Int} {d : Dm} (hd : ft d) (hn : d ≠ .nan) (h1 : n ≤ 4503599627370496 * G0 * b) (h2 : -(4503599627370496 * G0 * b) ≤ n) (h : rq b n (zv d)) : nb d := by
  refine ⟨hd, hn, (h.2.2 4503599627370496 (by omega) (by omega)).1 h1, ?_⟩
  have := (h.2.2 (-4503599627370496) (by omega) (by omega)).2 (by rw [Int.neg_mul, Int.neg_mul]; exact h2)
  rw [Int.neg_mul] at this
  exact this
theorem round_nn {s : Bool} {c : Nat} {q : Int} : FP.Core.round FP.Core.b64 (.fin s c q) ≠ .nan := FP.Core.roundRatio_ne_nan _ _ _ _ _
theorem rnd_k {s : Bool} {c : Nat} {q e0 : Int} (h0 : e0 ≤ FP.Core.b64.qmin) (h0e : e0 ≤ q) (k : Int) (h1 : -9007199254740992 < k) (h2 : k < 9007199254740992) :
    (FP.Core.signed s (FP.Core.inUnits c q e0) ≤ k * G0 * ((2 ^ (FP.Core.b64.qmin - e0).toNat : Nat) : Int) → zv (FP.Core.round FP.Core.b64 (.fin s c q)) ≤ k * G0) ∧ (k * G0 * ((2 ^ (FP.Core.b64.qmin - e0).toNat : Nat) : Int) ≤ FP.Core.signed s (FP.Core.inUnits c q e0) → k * G0 ≤ zv (FP.Core.round FP.Core.b64 (.fin s c q))) := by
  obtain ⟨V, hV, hn, e⟩ := grid k h1 h2
  rw [← e]
  exact ⟨FP.Core.zval_round_le gb hV hn h0 h0e, FP.Core.zval_round_ge gb hV hn h0 h0e⟩
theorem zv_neg (d : Dm) : zv (FP.Core.negate d) = -zv d := FP.Core.zval_negate _ d
theorem sum_rq {s t : Bool} {c d : Nat} {q r : Int} (hx : ft (.fin s c q)) (hy : ft (.fin t d r)) {z : Dm} (hz : z = FP.Core.round FP.Core.b64 (FP.Core.exactSum (.fin s c q) (.fin t d r))) (h1 : zv (.fin s c q) + zv (.fin t d r) ≤ 4503599627370496 * G0) (h2 : -(4503599627370496 * G0) ≤ zv (.fin s c q) + zv (.fin t d r)) : nb z ∧ rq 1 (zv (.fin s c q) + zv (.fin t d r)) (zv z) := by
  subst hz
  obtain ⟨sg, n, e, e1, e2, e3⟩ := FP.Core.sum_units hx hy
  rw [e1]
  have h1' : zv (.fin s c q) + zv (.fin t d r) ≤ 4503599627370496 * G0 * 1 := by rw [Int.mul_one]; exact h1
  have h2' : -(4503599627370496 * G0 * 1) ≤ zv (.fin s c q) + zv (.fin t d r) := by rw [Int.mul_one]; exact h2
  have hr : rq 1 (zv (.fin s c q) + zv (.fin t d r)) (zv (FP.Core.round FP.Core.b64 (.fin sg n e))) := by
    refine rq_of (by decide) h1' h2' (fun k k1 k2 => ?_)
    have h := rnd_k (s := sg) (c := n) (q := e) (e0 := FP.Core.b64.qmin) (Int.le_refl _) e2 k k1 k2
    rw [e3, Int.sub_self] at h
    exact h
  exact ⟨nb_of (FP.Core.round_fits gb _) round_nn h1' h2' hr, hr⟩
theorem dAdd_z {x y : Dm} (hx : nb x) (hy : nb y) (h1 : zv x + zv y ≤ 4503599627370496 * G0) (h2 : -(4503599627370496 * G0) ≤ zv x + zv y) : nb (dAdd x y) ∧ rq 1 (zv x + zv y) (zv (dAdd x y)) := by
  obtain ⟨s, c, q, rfl⟩ := nb_fin hx
  obtain ⟨t, d, r, rfl⟩ := nb_fin hy
  exact sum_rq hx.1 hy.1 (dAdd_r _ _) h1 h2
theorem dSub_z {x y : Dm} (hx : nb x) (hy : nb y) (h1 : zv x - zv y ≤ 4503599627370496 * G0) (h2 : -(4503599627370496 * G0) ≤ zv x - zv y) : nb (dSub x y) ∧ rq 1 (zv x - zv y) (zv (dSub x y)) := by
  obtain ⟨s, c, q, rfl⟩ := nb_fin hx
  obtain ⟨t, d, r, rfl⟩ := nb_fin hy
  have e : zv (.fin (!t) d r) = -zv (.fin t d r) := zv_neg (.fin t d r)
  have e2 : zv (.fin s c q) - zv (.fin t d r) = zv (.fin s c q) + zv (.fin (!t) d r) := by rw [e]; rfl
  rw [e2] at h1 h2 ⊢
  exact sum_rq hx.1 (FP.Core.negate_fits hy.1) (dSub_r _ _) h1 h2
theorem pow_qmin : ((2 ^ (FP.Core.b64.qmin - 2 * FP.Core.b64.qmin).toNat : Nat) : Int) = U0 := by decide +kernel
theorem dMul_z {x y : Dm} (hx : nb x) (hy : nb y) {a : Int} (ha : 4 * zv x = a * U0) (h1 : a * zv y ≤ 4503599627370496 * G0 * 4) (h2 : -(4503599627370496 * G0 * 4) ≤ a * zv y) : nb (dMul x y) ∧ rq 4 (a * zv y) (zv (dMul x y)) := by
  obtain ⟨s, c, q, rfl⟩ := nb_fin hx
  obtain ⟨t, d, r, rfl⟩ := nb_fin hy
  obtain ⟨e1, e2, e3⟩ := FP.Core.product_units hx.1 hy.1
  rw [dMul_r, e1]
  have hU := U0_pos
  have e4 : FP.Core.signed (s != t) (FP.Core.inUnits (c * d) (q + r) (2 * FP.Core.b64.qmin)) = zv (.fin s c q) * zv (.fin t d r) := by
    rw [e3, FP.Core.signed_xor]; rfl
  have e5 : 4 * (zv (.fin s c q) * zv (.fin t d r)) = a * zv (.fin t d r) * U0 := by
    rw [← Int.mul_assoc, ha, Int.mul_assoc, Int.mul_assoc, Int.mul_comm U0]
  have hr : rq 4 (a * zv (.fin t d r)) (zv (FP.Core.round FP.Core.b64 (.fin (s != t) (c * d) (q + r)))) := by
    refine rq_of (by decide) h1 h2 (fun k k1 k2 => ?_)
    have h := rnd_k (s := s != t) (c := c * d) (q := q + r) (e0 := 2 * FP.Core.b64.qmin) (by rw [qmin_b]; decide) e2 k k1 k2
    rw [e4, pow_qmin] at h
    have e6 : k * G0 * 4 * U0 = 4 * (k * G0 * U0) := by rw [Int.mul_comm (k * G0) 4, Int.mul_assoc]
    refine ⟨fun g => h.1 ?_, fun g => h.2 ?_⟩
    · have g2 := Int.mul_le_mul_of_nonneg_right g (Int.le_of_lt hU)
      rw [← e5, e6] at g2
      omega
    · have g2 := Int.mul_le_mul_of_nonneg_right g (Int.le_of_lt hU)
      rw [← e5, e6] at g2
      omega
  exact ⟨nb_of (FP.Core.round_fits gb _) round_nn h1 h2 hr, hr⟩
theorem dMul_c (x y : Dm) : dMul x y = dMul y x := by rw [dMul_r, dMul_r, FP.Core.exactProduct_comm]
theorem rq_zero {b : Int} (hb : 0 < b) : rq b 0 0 := by
  have hG := G0_pos
  have h1 : 0 ≤ b * G0 := Int.le_of_lt (Int.mul_pos hb hG)
  refine ⟨by rw [Int.zero_mul]; omega, by rw [Int.zero_mul]; omega, fun k _ _ => ⟨fun h => ?_, fun h => ?_⟩⟩
  · exact Int.nonneg_of_mul_nonneg_left h hb
  · rcases Int.lt_or_le 0 (k * G0) with g | g
    · have := Int.mul_pos g hb
      omega
    · exact g
theorem dDiv_z {x y : Dm} (hx : nb x) (hy : nb y) (hx0 : 0 ≤ zv x) {b : Int} (hb : 0 < b) (hy4 : 4 * zv y = b * U0) (h1 : 4 * zv x ≤ 4503599627370496 * G0 * b) : nb (dDiv x y) ∧ rq b (4 * zv x) (zv (dDiv x y)) ∧ 0 ≤ zv (dDiv x y) := by
  obtain ⟨s, c, q, rfl⟩ := nb_fin hx
  obtain ⟨t, d, r, rfl⟩ := nb_fin hy
  have hU := U0_pos
  have hG := G0_pos
  have hbU := Int.mul_pos hb hU
  have hG52 : 0 ≤ 4503599627370496 * G0 * b := Int.mul_nonneg (by omega) (Int.le_of_lt hb)
  have h2 : -(4503599627370496 * G0 * b) ≤ 4 * zv (.fin s c q) := by omega
  have hy0 : 0 < zv (.fin t d r) := by omega
  have ht : t = false := by
    cases t
    · rfl
    · have : zv (.fin true d r) = -((FP.Core.inUnits d r FP.Core.b64.qmin : Nat) : Int) := rfl
      omega
  subst ht
  have ey : zv (.fin false d r) = ((FP.Core.inUnits d r FP.Core.b64.qmin : Nat) : Int) := rfl
  have hd : 0 < d := by
    rcases Nat.eq_zero_or_pos d with h | h
    · subst h
      rw [ey] at hy0
      unfold FP.Core.inUnits at hy0
      rw [Nat.zero_mul] at hy0
      omega
    · exact h
  have eq1 : dDiv (.fin s c q) (.fin false d r) = FP.Core.roundRatio FP.Core.b64 (s != false) c d (q - r) := by
    rw [dDiv_r]
    show (if d = 0 then _ else _) = _
    rw [if_neg (by omega)]
  have hf : ft (FP.Core.roundRatio FP.Core.b64 (s != false) c d (q - r)) := FP.Core.roundRatio_fits gb _ _ hd _
  have hnn : FP.Core.roundRatio FP.Core.b64 (s != false) c d (q - r) ≠ .nan := FP.Core.roundRatio_ne_nan _ _ _ _ _
  rw [eq1]
  have key : rq b (4 * zv (.fin s c q)) (zv (FP.Core.roundRatio FP.Core.b64 (s != false) c d (q - r))) ∧ 0 ≤ zv (FP.Core.roundRatio FP.Core.b64 (s != false) c d (q - r)) := by
    cases s
    · have ez : zv (FP.Core.roundRatio FP.Core.b64 (false != false) c d (q - r)) = ((FP.Core.zmag FP.Core.b64 (FP.Core.roundRatio FP.Core.b64 (false != false) c d (q - r)) : Nat) : Int) := by
        show FP.Core.signed (FP.Core.sgn _) _ = _
        rw [FP.Core.sgn_roundRatio]; rfl
      have ex : zv (.fin false c q) = ((FP.Core.inUnits c q FP.Core.b64.qmin : Nat) : Int) := rfl
      have hq := hx.1.2.1
      have hr := hy.1.2.1
      rw [qmin_b] at hq hr
      have eA : FP.Core.inUnits c (q - r) (-2148 - r) = FP.Core.inUnits c q FP.Core.b64.qmin * 2 ^ 1074 := by
        unfold FP.Core.inUnits
        rw [qmin_b, show (q - r - (-2148 - r)).toNat = (q - -1074).toNat + 1074 by omega, Nat.pow_add, Nat.mul_assoc]
      have eB : ∀ v : Nat, v * 2 ^ (FP.Core.b64.qmin - (-2148 - r)).toNat * d = v * FP.Core.inUnits d r FP.Core.b64.qmin := by
        intro v
        unfold FP.Core.inUnits
        rw [qmin_b, show (-1074 - (-2148 - r)).toNat = (r - -1074).toNat by omega, Nat.mul_assoc, Nat.mul_comm _ d]
      rw [ez]
      refine ⟨rq_of hb h1 h2 (fun k k1 k2 => ⟨fun g => ?_, fun g => ?_⟩), Int.natCast_nonneg _⟩
      · have hk0 : 0 ≤ k * G0 := by
          rcases Int.lt_or_le (k * G0) 0 with z | z
          · have := Int.mul_neg_of_neg_of_pos z hb
            omega
          · exact z
        obtain ⟨V, hV, hn, eV⟩ := grid k k1 k2
        have eV2 : ((FP.Core.zmag FP.Core.b64 V : Nat) : Int) = k * G0 := by
          have a1 : (zv V).natAbs = FP.Core.zmag FP.Core.b64 V := FP.Core.natAbs_signed _ _
          omega
        have hle := FP.Core.zmag_roundRatio_le gb (s := false != false) (A := c) (B := d) (e := q - r) (e0 := -2148 - r) (V := V) hd hV hn (by rw [qmin_b]; omega) (by omega) (by
          rw [eA, eB]
          apply Int.ofNat_le.mp
          rw [Int.natCast_mul, Int.natCast_mul, eV2, ← ex, ← ey]
          have g2 := Int.mul_le_mul_of_nonneg_right g (Int.le_of_lt hU)
          have e7 : k * G0 * b * U0 = 4 * (k * G0 * zv (.fin false d r)) := by
            rw [Int.mul_assoc, ← hy4, ← Int.mul_assoc, Int.mul_comm (k * G0) 4, Int.mul_assoc]
          rw [e7, show 4 * zv (.fin false c q) * U0 = 4 * (zv (.fin false c q) * U0) from Int.mul_assoc _ _ _] at g2
          have e8 : ((2 ^ 1074 : Nat) : Int) = U0 := rfl
          rw [e8]
          omega)
        rw [← eV2]
        exact Int.ofNat_le.mpr hle
      · rcases Int.lt_or_le (k * G0) 0 with z | z
        · exact Int.le_trans (Int.le_of_lt z) (Int.natCast_nonneg _)
        · obtain ⟨V, hV, hn, eV⟩ := grid k k1 k2
          have eV2 : ((FP.Core.zmag FP.Core.b64 V : Nat) : Int) = k * G0 := by
            have a1 : (zv V).natAbs = FP.Core.zmag FP.Core.b64 V := FP.Core.natAbs_signed _ _
            omega
          have hge := FP.Core.zmag_roundRatio_ge gb (s := false != false) (A := c) (B := d) (e := q - r) (e0 := -2148 - r) (V := V) hd hV (by rw [qmin_b]; omega) (by omega) (by
            rw [eA, eB]
            apply Int.ofNat_le.mp
            rw [Int.natCast_mul, Int.natCast_mul, eV2, ← ex, ← ey]
            have g2 := Int.mul_le_mul_of_nonneg_right g (Int.le_of_lt hU)
            have e7 : k * G0 * b * U0 = 4 * (k * G0 * zv (.fin false d r)) := by
              rw [Int.mul_assoc, ← hy4, ← Int.mul_assoc, Int.mul_comm (k * G0) 4, Int.mul_assoc]
            rw [e7, show 4 * zv (.fin false c q) * U0 = 4 * (zv (.fin false c q) * U0) from Int.mul_assoc _ _ _] at g2
            have e8 : ((2 ^ 1074 : Nat) : Int) = U0 := rfl
            rw [e8]
            omega)
          rw [← eV2]
          exact Int.ofNat_le.mpr hge
    · have ex : zv (.fin true c q) = -((FP.Core.inUnits c q FP.Core.b64.qmin : Nat) : Int) := rfl
      have hz : zv (.fin true c q) = 0 := by omega
      have hi : FP.Core.inUnits c q FP.Core.b64.qmin = 0 := by omega
      have hc : c = 0 := by
        unfold FP.Core.inUnits at hi
        rcases Nat.mul_eq_zero.mp hi with h | h
        · exact h
        · have := Nat.two_pow_pos (q - FP.Core.b64.qmin).toNat
          omega
      subst hc
      have e0 : zv (FP.Core.roundRatio FP.Core.b64 (true != false) 0 d (q - r)) = 0 := by
        unfold FP.Core.roundRatio
        rw [if_pos rfl]
        show FP.Core.signed _ (FP.Core.inUnits 0 _ _) = 0
        unfold FP.Core.inUnits
        rw [Nat.zero_mul]
        exact FP.Core.signed_zero _
      rw [e0, hz, Int.mul_zero]
      exact ⟨rq_zero hb, Int.le_refl _⟩
  exact ⟨nb_of hf hnn h1 h2 key.1, key.1, key.2⟩
/-! comparisons -/
theorem dCmp_z {x y : Dm} (hx : nb x) (hy : nb y) : dCmp x y = some (compare (zv x) (zv y)) := FP.Core.order_zval gb hx.1 hy.1 hx.2.1 hy.2.1
theorem dCmp_lt {x y : Dm} (hx : nb x) (hy : nb y) : dCmp x y = some .lt ↔ zv x < zv y := by
  rw [dCmp_z hx hy, Option.some.injEq]
  exact Int.compare_eq_lt
theorem dCmp_gt {x y : Dm} (hx : nb x) (hy : nb y) : dCmp x y = some .gt ↔ zv y < zv x := by
  rw [dCmp_z hx hy, Option.some.injEq]
  exact Int.compare_eq_gt
theorem dCmp_eq {x y : Dm} (hx : nb x) (hy : nb y) : dCmp x y = some .eq ↔ zv x = zv y := by
  rw [dCmp_z hx hy, Option.some.injEq]
  exact Int.compare_eq_eq
theorem dMin_z {x y : Dm} (hx : nb x) (hy : nb y) : nb (dMin x y) ∧ zv (dMin x y) ≤ zv x ∧ zv (dMin x y) ≤ zv y ∧ (dMin x y = x ∨ dMin x y = y) := by
  unfold dMin
  by_cases c : dCmp x y = some .lt
  · rw [if_pos c]
    have := (dCmp_lt hx hy).mp c
    exact ⟨hx, Int.le_refl _, Int.le_of_lt this, Or.inl rfl⟩
  · rw [if_neg c]
    have : ¬ zv x < zv y := fun h => c ((dCmp_lt hx hy).mpr h)
    exact ⟨hy, Int.not_lt.mp this, Int.le_refl _, Or.inr rfl⟩
theorem dI_z {i : Int32} (h1 : -65536 ≤ i.toInt) (h2 : i.toInt ≤ 65536) : nb (dI i) ∧ zv (dI i) = i.toInt * U0 := by
  have hG := G0_pos
  have e : dI i = FP.Core.round FP.Core.b64 (.fin (decide (i.toInt < 0)) i.toInt.natAbs 0) := FP.Core.val64_i2d i
  have hu : FP.Core.signed (decide (i.toInt < 0)) (FP.Core.inUnits i.toInt.natAbs 0 FP.Core.b64.qmin) = i.toInt * U0 := by
    unfold FP.Core.inUnits
    rw [FP.Core.signed_mul, sgn_abs, qmin_b]; rfl
  have e2 : i.toInt * U0 = i.toInt * 68719476736 * G0 := by rw [U0_G0, Int.mul_assoc]
  have h := rnd_k (s := decide (i.toInt < 0)) (c := i.toInt.natAbs) (q := 0) (e0 := FP.Core.b64.qmin) (Int.le_refl _) (by rw [qmin_b]; decide) (i.toInt * 68719476736) (by omega) (by omega)
  rw [hu, Int.sub_self, ← e2] at h
  rw [← e] at h
  have h1' : i.toInt * U0 ≤ zv (dI i) := h.2 (Int.le_of_eq (Int.mul_one _))
  have h2' : zv (dI i) ≤ i.toInt * U0 := h.1 (Int.le_of_eq (Int.mul_one _).symm)
  have h3 : zv (dI i) = i.toInt * U0 := Int.le_antisymm h2' h1'
  refine ⟨⟨dt_ft _, by rw [e]; exact round_nn, ?_, ?_⟩, h3⟩
  · rw [h3, e2]
    exact Int.mul_le_mul_of_nonneg_right (by omega) (Int.le_of_lt hG)
  · rw [h3, e2, ← Int.neg_mul]
    exact Int.mul_le_mul_of_nonneg_right (by omega) (Int.le_of_lt hG)
end
section
/-! QUARTERS OF ONE: exact numbers -/
def Q0 : Int := 17179869184 * G0
theorem Q0_G0 : Q0 = 17179869184 * G0 := rfl
theorem U0_Q0 : U0 = 4 * Q0 := by rw [U0_G0, Q0_G0]; omega
theorem Q0_pos : 0 < Q0 := by have := G0_pos; rw [Q0_G0]; omega
def qd (d : Dm) : Prop := nb d ∧ ∃ a : Int, zv d = a * Q0
theorem k_G0 (a : Int) : a * Q0 = a * 17179869184 * G0 := by rw [Q0_G0, Int.mul_assoc]
theorem rq_ex {b k n r : Int} (hb : 0 < b) (h : rq b n r) (e : n = k * G0 * b) (h1 : n ≤ 4503599627370496 * G0 * b) (h2 : -(4503599627370496 * G0 * b) ≤ n) : r = k * G0 := by
  have hG := G0_pos
  have hD : 0 < G0 * b := Int.mul_pos hG hb
  have b1 : k ≤ 4503599627370496 := by
    refine Int.le_of_mul_le_mul_right (a := G0 * b) ?_ hD
    rw [← Int.mul_assoc, ← Int.mul_assoc, ← e]; exact h1
  have b2 : -4503599627370496 ≤ k := by
    refine Int.le_of_mul_le_mul_right (a := G0 * b) ?_ hD
    rw [← Int.mul_assoc, ← Int.mul_assoc, ← e, Int.neg_mul, Int.neg_mul]; exact h2
  have h3 := h.2.2 k (by omega) (by omega)
  exact Int.le_antisymm (h3.1 (Int.le_of_eq e)) (h3.2 (Int.le_of_eq e.symm))
theorem rq1 {n r : Int} (h : rq 1 n r) : r ≤ n + G0 ∧ n ≤ r + G0 ∧ ∀ k : Int, -9007199254740992 < k → k < 9007199254740992 → (n ≤ k * G0 → r ≤ k * G0) ∧ (k * G0 ≤ n → k * G0 ≤ r) := by
  obtain ⟨h1, h2, h3⟩ := h
  rw [Int.mul_one, Int.one_mul] at h1 h2
  refine ⟨h1, h2, fun k k1 k2 => ?_⟩
  have := h3 k k1 k2
  rw [Int.mul_one] at this
  exact this
theorem rq1_0 {n r : Int} (h : rq 1 n r) (h0 : 0 ≤ n) : 0 ≤ r := by
  have := ((rq1 h).2.2 0 (by omega) (by omega)).2 (by omega)
  omega
theorem rq1_u {n r : Int} (h : rq 1 n r) {j : Int} (j1 : -65536 ≤ j) (j2 : j ≤ 65536) (h0 : n ≤ j * U0) : r ≤ j * U0 := by
  have e : j * U0 = j * 68719476736 * G0 := by rw [U0_G0, Int.mul_assoc]
  rw [e] at h0 ⊢
  exact ((rq1 h).2.2 _ (by omega) (by omega)).1 h0
theorem qd_add {x y : Dm} (hx : qd x) (hy : qd y) (h1 : zv x + zv y ≤ 65536 * U0) (h2 : -(65536 * U0) ≤ zv x + zv y) : qd (dAdd x y) ∧ zv (dAdd x y) = zv x + zv y := by
  obtain ⟨nx, a, ea⟩ := hx
  obtain ⟨ny, b, eb⟩ := hy
  have hU := U0_G0
  have g1 : zv x + zv y ≤ 4503599627370496 * G0 := by omega
  have g2 : -(4503599627370496 * G0) ≤ zv x + zv y := by omega
  obtain ⟨h3, h4⟩ := dAdd_z nx ny g1 g2
  have e : zv x + zv y = (a + b) * 17179869184 * G0 := by rw [ea, eb, ← Int.add_mul, k_G0]
  have h5 : zv (dAdd x y) = (a + b) * 17179869184 * G0 := rq_ex (by decide) h4 (by rw [Int.mul_one]; exact e) (by rw [Int.mul_one]; exact g1) (by rw [Int.mul_one]; exact g2)
  exact ⟨⟨h3, a + b, by rw [h5, k_G0]⟩, by rw [h5, e]⟩
theorem qd_sub {x y : Dm} (hx : qd x) (hy : qd y) (h1 : zv x - zv y ≤ 65536 * U0) (h2 : -(65536 * U0) ≤ zv x - zv y) : qd (dSub x y) ∧ zv (dSub x y) = zv x - zv y := by
  obtain ⟨nx, a, ea⟩ := hx
  obtain ⟨ny, b, eb⟩ := hy
  have hU := U0_G0
  have g1 : zv x - zv y ≤ 4503599627370496 * G0 := by omega
  have g2 : -(4503599627370496 * G0) ≤ zv x - zv y := by omega
  obtain ⟨h3, h4⟩ := dSub_z nx ny g1 g2
  have e : zv x - zv y = (a - b) * 17179869184 * G0 := by rw [ea, eb, ← Int.sub_mul, k_G0]
  have h5 : zv (dSub x y) = (a - b) * 17179869184 * G0 := rq_ex (by decide) h4 (by rw [Int.mul_one]; exact e) (by rw [Int.mul_one]; exact g1) (by rw [Int.mul_one]; exact g2)
  exact ⟨⟨h3, a - b, by rw [h5, k_G0]⟩, by rw [h5, e]⟩
theorem qd_min {x y : Dm} (hx : qd x) (hy : qd y) : qd (dMin x y) ∧ zv (dMin x y) ≤ zv x ∧ zv (dMin x y) ≤ zv y ∧ (dMin x y = x ∨ dMin x y = y) := by
  obtain ⟨h1, h2, h3, h4⟩ := dMin_z hx.1 hy.1
  refine ⟨?_, h2, h3, h4⟩
  rcases h4 with e | e <;> rw [e] <;> assumption
theorem zv_dZ : zv dZ = 0 := by decide +kernel
theorem nb_dZ : nb dZ := ⟨dt_ft _, by decide +kernel, by decide +kernel, by decide +kernel⟩
theorem qd_dZ : qd dZ := ⟨nb_dZ, 0, by rw [zv_dZ, Int.zero_mul]⟩
theorem zv_d2 : zv d2 = 2 * U0 := by decide +kernel
theorem zv_d4 : zv d4 = 4 * U0 := by decide +kernel
theorem zv_d10 : zv d10 = 10 * U0 := by decide +kernel
theorem zv_d40 : zv d40 = 40 * U0 := by decide +kernel
theorem zv_d100 : zv d100 = 100 * U0 := by decide +kernel
theorem nb_d2 : nb d2 := ⟨dt_ft _, by decide +kernel, by decide +kernel, by decide +kernel⟩
theorem nb_d4 : nb d4 := ⟨dt_ft _, by decide +kernel, by decide +kernel, by decide +kernel⟩
theorem nb_d10 : nb d10 := ⟨dt_ft _, by decide +kernel, by decide +kernel, by decide +kernel⟩
theorem nb_d40 : nb d40 := ⟨dt_ft _, by decide +kernel, by decide +kernel, by decide +kernel⟩
theorem nb_d100 : nb d100 := ⟨dt_ft _, by decide +kernel, by decide +kernel, by decide +kernel⟩
theorem qd_d40 : qd d40 := ⟨nb_d40, 160, by rw [zv_d40, U0_Q0]; omega⟩
theorem toInt_nI {k : Nat} (h : k < 2147483648) : (nI k).toInt = (k : Int) := by
  show (Int32.ofNat k).toInt = _
  exact Int32.toInt_ofNat_of_lt h
theorem qd_nI {k : Nat} (h : k ≤ 65536) : qd (dI (nI k)) ∧ zv (dI (nI k)) = (k : Int) * U0 := by
  have e := toInt_nI (k := k) (by omega)
  obtain ⟨h1, h2⟩ := dI_z (i := nI k) (by omega) (by omega)
  rw [e] at h2
  exact ⟨⟨h1, 4 * (k : Int), by rw [h2, U0_Q0, ← Int.mul_assoc, Int.mul_comm (k : Int) 4]⟩, h2⟩
/-- the sun by a share -/
theorem share_z {s h : Nat} (hs : s ≤ 100) (hh : h ≤ 4) : qd (dDiv (dMul (dI (nI s)) (dI (nI h))) d4) ∧ zv (dDiv (dMul (dI (nI s)) (dI (nI h))) d4) = ((s * h : Nat) : Int) * Q0 := by
  have hG := G0_pos
  obtain ⟨⟨n1, -⟩, e1⟩ := qd_nI (k := s) (by omega)
  obtain ⟨⟨n2, -⟩, e2⟩ := qd_nI (k := h) (by omega)
  have hb : s * h ≤ 400 := Nat.le_trans (Nat.mul_le_mul hs hh) (by decide)
  have ep : 4 * (s : Int) * zv (dI (nI h)) = ((s * h : Nat) : Int) * 68719476736 * G0 * 4 := by
    rw [e2, U0_G0, Int.natCast_mul, Int.mul_assoc 4, ← Int.mul_assoc (s : Int), ← Int.mul_assoc ((s : Int) * h), Int.mul_comm 4]
  generalize hw : ((s * h : Nat) : Int) = w at ep
  have hw0 : 0 ≤ w := by omega
  have hw1 : w ≤ 400 := by omega
  have b0 : 0 ≤ w * 68719476736 * G0 := Int.mul_nonneg (by omega) (Int.le_of_lt hG)
  have b1 : w * 68719476736 * G0 ≤ 27487790694400 * G0 := Int.mul_le_mul_of_nonneg_right (by omega) (Int.le_of_lt hG)
  have g1 : 4 * (s : Int) * zv (dI (nI h)) ≤ 4503599627370496 * G0 * 4 := by rw [ep]; omega
  have g2 : -(4503599627370496 * G0 * 4) ≤ 4 * (s : Int) * zv (dI (nI h)) := by rw [ep]; omega
  obtain ⟨n3, r3⟩ := dMul_z n1 n2 (a := 4 * (s : Int)) (by rw [e1, Int.mul_assoc]) g1 g2
  have e3 := rq_ex (by decide) r3 ep g1 g2
  have ep2 : 4 * zv (dMul (dI (nI s)) (dI (nI h))) = w * 17179869184 * G0 * 16 := by
    have e8 : w * 68719476736 * G0 = 4 * (w * 17179869184 * G0) := by rw [show w * 68719476736 = 4 * (w * 17179869184) by omega, Int.mul_assoc 4]
    rw [e3, e8]
    omega
  have b2 : w * 17179869184 * G0 ≤ 27487790694400 * G0 := Int.mul_le_mul_of_nonneg_right (by omega) (Int.le_of_lt hG)
  have b3 : 0 ≤ w * 17179869184 * G0 := Int.mul_nonneg (by omega) (Int.le_of_lt hG)
  have g3 : 4 * zv (dMul (dI (nI s)) (dI (nI h))) ≤ 4503599627370496 * G0 * 16 := by rw [ep2]; omega
  obtain ⟨n4, r4, -⟩ := dDiv_z n3 nb_d4 (by omega) (b := 16) (by decide) (by rw [zv_d4]; omega) g3
  have e4 := rq_ex (by decide) r4 ep2 g3 (by rw [ep2]; omega)
  rw [← k_G0] at e4
  exact ⟨⟨n4, w, e4⟩, e4⟩
/-! sums -/
def sz (f : Nat → Int) : Nat → Int
  | 0 => 0
  | k + 1 => sz f k + f k
theorem sz_nn {f : Nat → Int} : ∀ {k : Nat}, (∀ j, j < k → 0 ≤ f j) → 0 ≤ sz f k
  | 0, _ => Int.le_refl _
  | k + 1, h => by
    have h1 := sz_nn (k := k) (fun j hj => h j (by omega))
    have h2 := h k (by omega)
    show 0 ≤ sz f k + f k
    omega
theorem sz_5 (f : Nat → Int) : sz f 5 = f 0 + f 1 + f 2 + f 3 + f 4 := by
  show 0 + f 0 + f 1 + f 2 + f 3 + f 4 = _
  rw [Int.zero_add]
theorem sz_le {f : Nat → Int} {n : Nat} (h : ∀ j, j < n → 0 ≤ f j) : ∀ k, k ≤ n → sz f k ≤ sz f n := by
  induction n with
  | zero => intro k hk; obtain rfl : k = 0 := by omega
            exact Int.le_refl _
  | succ n ih =>
    intro k hk
    by_cases e : k = n + 1
    · subst e; exact Int.le_refl _
    · have h1 := ih (fun j hj => h j (by omega)) k (by omega)
      have h2 := h n (by omega)
      show sz f k ≤ sz f n + f n
      omega
/-- five exact needs -/
def fine (V : Nat → Dm) : Prop := ∀ i, i < 5 → qd (V i) ∧ 0 ≤ zv (V i) ∧ zv (V i) ≤ 50 * U0
theorem sumD_z {V : Nat → Dm} (h : fine V) : ∀ k, k ≤ 5 → qd (sumD V k) ∧ zv (sumD V k) = sz (fun j => zv (V j)) k ∧ 0 ≤ zv (sumD V k) ∧ zv (sumD V k) ≤ 50 * (k : Int) * U0
  | 0, _ => ⟨qd_dZ, zv_dZ, by rw [show sumD V 0 = dZ from rfl, zv_dZ]; exact Int.le_refl _, by rw [show sumD V 0 = dZ from rfl, zv_dZ]; omega⟩
  | k + 1, hk => by
    have hU := U0_pos
    obtain ⟨h1, h2, h3, h4⟩ := sumD_z h k (by omega)
    obtain ⟨q1, q2, q3⟩ := h k (by omega)
    have e : 50 * ((k + 1 : Nat) : Int) * U0 = 50 * (k : Int) * U0 + 50 * U0 := by
      rw [Int.natCast_add, Int.mul_add, Int.add_mul]; rfl
    have b : 50 * (k : Int) * U0 ≤ 200 * U0 := Int.mul_le_mul_of_nonneg_right (by omega) (Int.le_of_lt hU)
    obtain ⟨a1, a2⟩ := qd_add h1 q1 (by omega) (by omega)
    have a3 : zv (sumD V (k + 1)) = zv (sumD V k) + zv (V k) := a2
    refine ⟨a1, ?_, by omega, by rw [e]; omega⟩
    rw [a3, h2]; rfl
theorem sum5_z {V : Nat → Dm} (h : fine V) : qd (sumD V 5) ∧ zv (sumD V 5) = zv (V 0) + zv (V 1) + zv (V 2) + zv (V 3) + zv (V 4) ∧ 0 ≤ zv (sumD V 5) ∧ zv (sumD V 5) ≤ 250 * U0 := by
  obtain ⟨h1, h2, h3, h4⟩ := sumD_z h 5 (Nat.le_refl _)
  rw [sz_5] at h2
  exact ⟨h1, h2, h3, h4⟩
/-! the sun by shares -/
section SUN
variable {s : Nat} {sh : Nat → Int32} {hc : Nat → Nat} {V : Nat → Dm}
theorem uS_z (hs : s ≤ 100) (hsh : ∀ i, i < 5 → sh i = nI (hc i) ∧ hc i ≤ 4) (hV : fine V) : ∀ i, i < 5 → qd (uS (nI s) sh V i) ∧ 0 ≤ zv (uS (nI s) sh V i) ∧ zv (uS (nI s) sh V i) ≤ zv (V i) ∧ zv (uS (nI s) sh V i) ≤ ((s * hc i : Nat) : Int) * Q0 := by
  intro i hi
  obtain ⟨e, h4⟩ := hsh i hi
  obtain ⟨q1, q2, q3⟩ := hV i hi
  obtain ⟨z1, z2⟩ := share_z hs h4
  have hQ := Q0_pos
  obtain ⟨m1, m2, m3, m4⟩ := qd_min z1 q1
  have m0 : 0 ≤ zv (dDiv (dMul (dI (nI s)) (dI (nI (hc i)))) d4) := by rw [z2]; exact Int.mul_nonneg (Int.natCast_nonneg _) (Int.le_of_lt hQ)
  unfold uS
  rw [e]
  refine ⟨m1, ?_, m3, by rw [← z2]; exact m2⟩
  rcases m4 with g | g
  · rw [g]; exact m0
  · rw [g]; exact q2
theorem kV2_z (hs : s ≤ 100) (hsh : ∀ i, i < 5 → sh i = nI (hc i) ∧ hc i ≤ 4) (hV : fine V) : fine (kV2 (nI s) sh V) ∧ ∀ i, i < 5 → zv (kV2 (nI s) sh V i) = zv (V i) - zv (uS (nI s) sh V i) := by
  have hU := U0_pos
  have key : ∀ i, i < 5 → qd (kV2 (nI s) sh V i) ∧ zv (kV2 (nI s) sh V i) = zv (V i) - zv (uS (nI s) sh V i) := by
    intro i hi
    obtain ⟨u1, u2, u3, -⟩ := uS_z hs hsh hV i hi
    obtain ⟨q1, q2, q3⟩ := hV i hi
    exact qd_sub q1 u1 (by omega) (by omega)
  refine ⟨fun i hi => ?_, fun i hi => (key i hi).2⟩
  obtain ⟨k1, k2⟩ := key i hi
  obtain ⟨u1, u2, u3, -⟩ := uS_z hs hsh hV i hi
  obtain ⟨q1, q2, q3⟩ := hV i hi
  exact ⟨k1, by omega, by omega⟩
theorem uS_sum (hs : s ≤ 100) (hsh : ∀ i, i < 5 → sh i = nI (hc i) ∧ hc i ≤ 4) (hsum : hc 0 + hc 1 + hc 2 + hc 3 + hc 4 ≤ 4) (hV : fine V) : sz (fun j => zv (uS (nI s) sh V j)) 5 ≤ (s : Int) * U0 := by
  have hQ := Q0_pos
  rw [sz_5]
  obtain ⟨-, -, -, a0⟩ := uS_z hs hsh hV 0 (by omega)
  obtain ⟨-, -, -, a1⟩ := uS_z hs hsh hV 1 (by omega)
  obtain ⟨-, -, -, a2⟩ := uS_z hs hsh hV 2 (by omega)
  obtain ⟨-, -, -, a3⟩ := uS_z hs hsh hV 3 (by omega)
  obtain ⟨-, -, -, a4⟩ := uS_z hs hsh hV 4 (by omega)
  have e : ((s * hc 0 : Nat) : Int) * Q0 + ((s * hc 1 : Nat) : Int) * Q0 + ((s * hc 2 : Nat) : Int) * Q0 + ((s * hc 3 : Nat) : Int) * Q0 + ((s * hc 4 : Nat) : Int) * Q0 = ((s * (hc 0 + hc 1 + hc 2 + hc 3 + hc 4) : Nat) : Int) * Q0 := by
    rw [← Int.add_mul, ← Int.add_mul, ← Int.add_mul, ← Int.add_mul, Nat.mul_add, Nat.mul_add, Nat.mul_add, Nat.mul_add]
    simp only [Int.natCast_add]
  have b : ((s * (hc 0 + hc 1 + hc 2 + hc 3 + hc 4) : Nat) : Int) * Q0 ≤ ((s * 4 : Nat) : Int) * Q0 := Int.mul_le_mul_of_nonneg_right (Int.ofNat_le.mpr (Nat.mul_le_mul_left s hsum)) (Int.le_of_lt hQ)
  have e2 : ((s * 4 : Nat) : Int) * Q0 = (s : Int) * U0 := by rw [U0_Q0, Int.natCast_mul, Int.mul_assoc]; rfl
  rw [e2] at b
  omega
theorem lS_z (hs : s ≤ 100) (hsh : ∀ i, i < 5 → sh i = nI (hc i) ∧ hc i ≤ 4) (hsum : hc 0 + hc 1 + hc 2 + hc 3 + hc 4 ≤ 4) (hV : fine V) : ∀ k, k ≤ 5 → qd (lS (nI s) sh V (dI (nI s)) k) ∧ zv (lS (nI s) sh V (dI (nI s)) k) = (s : Int) * U0 - sz (fun j => zv (uS (nI s) sh V j)) k
  | 0, _ => by
    obtain ⟨h1, h2⟩ := qd_nI (k := s) (by omega)
    exact ⟨h1, by rw [show lS (nI s) sh V (dI (nI s)) 0 = dI (nI s) from rfl, h2]; show _ = _ - 0; omega⟩
  | k + 1, hk => by
    have hU := U0_pos
    obtain ⟨h1, h2⟩ := lS_z hs hsh hsum hV k (by omega)
    obtain ⟨u1, u2, u3, -⟩ := uS_z hs hsh hV k (by omega)
    have t1 := uS_sum hs hsh hsum hV
    have nn : ∀ j, j < 5 → 0 ≤ (fun j => zv (uS (nI s) sh V j)) j := fun j hj => (uS_z hs hsh hV j hj).2.1
    have t2 := sz_le nn (k + 1) (by omega)
    have t3 := sz_nn (f := fun j => zv (uS (nI s) sh V j)) (k := k) (fun j hj => nn j (by omega))
    have t4 : sz (fun j => zv (uS (nI s) sh V j)) (k + 1) = sz (fun j => zv (uS (nI s) sh V j)) k + zv (uS (nI s) sh V k) := rfl
    have sb : (s : Int) * U0 ≤ 100 * U0 := Int.mul_le_mul_of_nonneg_right (by omega) (Int.le_of_lt hU)
    obtain ⟨a1, a2⟩ := qd_sub h1 u1 (by omega) (by omega)
    refine ⟨a1, ?_⟩
    rw [show lS (nI s) sh V (dI (nI s)) (k + 1) = dSub (lS (nI s) sh V (dI (nI s)) k) (uS (nI s) sh V k) from rfl, a2, h2, t4]
    omega
end SUN
end
section
/-! WHAT A CLOSE GIVES, by values: nothing is lost but some steps -/
theorem sub_self_z {x : Dm} (hx : qd x) : qd (dSub x x) ∧ zv (dSub x x) = 0 := by
  have hU := U0_pos
  obtain ⟨h1, h2⟩ := qd_sub hx hx (by omega) (by omega)
  exact ⟨h1, by rw [h2]; omega⟩
/-- by need, where the rest isn't enough -/
theorem part_z {L : Dm} {V : Nat → Dm} (hL : qd L) (hL0 : 0 ≤ zv L) (hL1 : zv L ≤ 100 * U0) (hV : fine V) (hs : zv L < zv (sumD V 5)) : (∀ i, i < 5 → nb (dDiv (dMul L (V i)) (sumD V 5)) ∧ 0 ≤ zv (dDiv (dMul L (V i)) (sumD V 5)) ∧ zv (dDiv (dMul L (V i)) (sumD V 5)) ≤ zv (V i)) ∧
    (zv (dDiv (dMul L (V 0)) (sumD V 5)) + zv (dDiv (dMul L (V 1)) (sumD V 5)) + zv (dDiv (dMul L (V 2)) (sumD V 5)) + zv (dDiv (dMul L (V 3)) (sumD V 5)) + zv (dDiv (dMul L (V 4)) (sumD V 5)) ≤ zv L + 5 * G0) ∧
    zv L ≤ zv (dDiv (dMul L (V 0)) (sumD V 5)) + zv (dDiv (dMul L (V 1)) (sumD V 5)) + zv (dDiv (dMul L (V 2)) (sumD V 5)) + zv (dDiv (dMul L (V 3)) (sumD V 5)) + zv (dDiv (dMul L (V 4)) (sumD V 5)) + 5 * G0 := by
  have hG := G0_pos
  have hQ := Q0_pos
  have hUQ := U0_Q0
  have hQG := Q0_G0
  obtain ⟨⟨ns, S, eS⟩, es, -, hs1⟩ := sum5_z hV
  obtain ⟨nL, l, eL⟩ := hL
  have hS0 : 0 < S := by
    refine Int.lt_of_mul_lt_mul_right (a := Q0) ?_ (Int.le_of_lt hQ)
    rw [← eS, Int.zero_mul]; omega
  have hl0 : 0 ≤ l := by
    refine Int.le_of_mul_le_mul_right (a := Q0) ?_ hQ
    rw [← eL, Int.zero_mul]; exact hL0
  have hl1 : l ≤ 400 := by
    refine Int.le_of_mul_le_mul_right (a := Q0) ?_ hQ
    rw [← eL]; omega
  have hlS : l ≤ S := by
    refine Int.le_of_mul_le_mul_right (a := Q0) ?_ hQ
    rw [← eL, ← eS]; omega
  -- each
  have each : ∀ i, i < 5 → ∃ v : Int, zv (V i) = v * Q0 ∧ 0 ≤ v ∧ nb (dDiv (dMul L (V i)) (sumD V 5)) ∧ 0 ≤ zv (dDiv (dMul L (V i)) (sumD V 5)) ∧ zv (dDiv (dMul L (V i)) (sumD V 5)) ≤ zv (V i) ∧ zv (dDiv (dMul L (V i)) (sumD V 5)) * S ≤ l * v * Q0 + S * G0 ∧ l * v * Q0 ≤ zv (dDiv (dMul L (V i)) (sumD V 5)) * S + S * G0 := by
    intro i hi
    obtain ⟨⟨nv, v, ev⟩, v0, v1⟩ := hV i hi
    have hv0 : 0 ≤ v := by
      refine Int.le_of_mul_le_mul_right (a := Q0) ?_ hQ
      rw [← ev, Int.zero_mul]; exact v0
    have hv1 : v ≤ 200 := by
      refine Int.le_of_mul_le_mul_right (a := Q0) ?_ hQ
      rw [← ev]; omega
    have w0 : 0 ≤ l * v := Int.mul_nonneg hl0 hv0
    have w1 : l * v ≤ 80000 := Int.le_trans (Int.mul_le_mul hl1 hv1 hv0 (by decide)) (by decide)
    have ep : l * zv (V i) = l * v * 4294967296 * G0 * 4 := by
      rw [ev, ← Int.mul_assoc, k_G0, show l * v * 17179869184 = 4 * (l * v * 4294967296) by omega, Int.mul_assoc 4, Int.mul_comm 4]
    have wb : l * v * 4294967296 * G0 ≤ 343597383680000 * G0 := Int.mul_le_mul_of_nonneg_right (by omega) (Int.le_of_lt hG)
    have wa : 0 ≤ l * v * 4294967296 * G0 := Int.mul_nonneg (by omega) (Int.le_of_lt hG)
    obtain ⟨n1, r1⟩ := dMul_z nL nv (a := l) (by rw [eL, hUQ, ← Int.mul_assoc, ← Int.mul_assoc, Int.mul_comm 4]) (by rw [ep]; omega) (by rw [ep]; omega)
    have e1 := rq_ex (by decide) r1 ep (by rw [ep]; omega) (by rw [ep]; omega)
    have e2 : 4 * zv (dMul L (V i)) = l * v * Q0 := by
      rw [e1, k_G0, show l * v * 17179869184 = 4 * (l * v * 4294967296) by omega, Int.mul_assoc 4]
    have c1 : l * v * Q0 ≤ 80000 * Q0 := Int.mul_le_mul_of_nonneg_right w1 (Int.le_of_lt hQ)
    have hbig : 4503599627370496 * G0 ≤ 4503599627370496 * G0 * S := by
      have := Int.mul_le_mul_of_nonneg_left (show (1 : Int) ≤ S by omega) (show (0 : Int) ≤ 4503599627370496 * G0 by omega)
      rw [Int.mul_one] at this; exact this
    obtain ⟨n2, r2, z2⟩ := dDiv_z n1 ns (by rw [e1]; exact wa) hS0 (by rw [eS, hUQ, ← Int.mul_assoc, ← Int.mul_assoc, Int.mul_comm 4]) (by rw [e2]; omega)
    rw [e2] at r2
    have h3 := (r2.2.2 (v * 17179869184) (by omega) (by omega)).1 (by
      rw [← k_G0, Int.mul_comm (v * Q0) S, ← Int.mul_assoc]
      exact Int.mul_le_mul_of_nonneg_right (Int.mul_le_mul_of_nonneg_right hlS hv0) (Int.le_of_lt hQ))
    rw [← k_G0, ← ev] at h3
    exact ⟨v, ev, hv0, n2, z2, h3, r2.1, r2.2.1⟩
  refine ⟨fun i hi => by obtain ⟨v, -, -, a1, a2, a3, -⟩ := each i hi; exact ⟨a1, a2, a3⟩, ?_⟩
  obtain ⟨v0, f0, -, -, -, -, a0, b0⟩ := each 0 (by omega)
  obtain ⟨v1, f1, -, -, -, -, a1, b1⟩ := each 1 (by omega)
  obtain ⟨v2, f2, -, -, -, -, a2, b2⟩ := each 2 (by omega)
  obtain ⟨v3, f3, -, -, -, -, a3, b3⟩ := each 3 (by omega)
  obtain ⟨v4, f4, -, -, -, -, a4, b4⟩ := each 4 (by omega)
  generalize zv (dDiv (dMul L (V 0)) (sumD V 5)) = g0 at *
  generalize zv (dDiv (dMul L (V 1)) (sumD V 5)) = g1 at *
  generalize zv (dDiv (dMul L (V 2)) (sumD V 5)) = g2 at *
  generalize zv (dDiv (dMul L (V 3)) (sumD V 5)) = g3 at *
  generalize zv (dDiv (dMul L (V 4)) (sumD V 5)) = g4 at *
  have eV : v0 + v1 + v2 + v3 + v4 = S := by
    refine Int.eq_of_mul_eq_mul_right (Int.ne_of_gt hQ) ?_
    rw [Int.add_mul, Int.add_mul, Int.add_mul, Int.add_mul, ← eS, es]
    omega
  have eT : l * v0 * Q0 + l * v1 * Q0 + l * v2 * Q0 + l * v3 * Q0 + l * v4 * Q0 = zv L * S := by
    rw [← Int.add_mul, ← Int.add_mul, ← Int.add_mul, ← Int.add_mul, ← Int.mul_add, ← Int.mul_add, ← Int.mul_add, ← Int.mul_add, eV, eL, Int.mul_assoc, Int.mul_assoc, Int.mul_comm S]
  have eX : (g0 + g1 + g2 + g3 + g4) * S = g0 * S + g1 * S + g2 * S + g3 * S + g4 * S := by rw [Int.add_mul, Int.add_mul, Int.add_mul, Int.add_mul]
  have eY : (zv L + 5 * G0) * S = zv L * S + 5 * (S * G0) := by rw [Int.add_mul, Int.mul_assoc, Int.mul_comm G0]
  have eZ : (g0 + g1 + g2 + g3 + g4 + 5 * G0) * S = g0 * S + g1 * S + g2 * S + g3 * S + g4 * S + 5 * (S * G0) := by rw [Int.add_mul, eX, Int.mul_assoc, Int.mul_comm G0]
  constructor
  · refine Int.le_of_mul_le_mul_right (a := S) ?_ hS0
    rw [eX, eY]; omega
  · refine Int.le_of_mul_le_mul_right (a := S) ?_ hS0
    rw [eZ]; omega
/-- what the sun leaves: needs V3, the rest L2, what was given F -/
theorem sun_z {s : Nat} {sh : Nat → Int32} {hc : Nat → Nat} {V : Nat → Dm} (hs : s ≤ 100) (hsh : ∀ i, i < 5 → sh i = nI (hc i) ∧ hc i ≤ 4) (hsum : hc 0 + hc 1 + hc 2 + hc 3 + hc 4 ≤ 4) (hV : fine V) {n : Nat} {F : Nat → Dm} (hF : ∀ i, i < 5 → F (5 * n + i) = dZ) :
    (∀ i, i < 5 → nb (kV3 (nI s) sh V i) ∧ 0 ≤ zv (kV3 (nI s) sh V i) ∧ zv (kV3 (nI s) sh V i) ≤ 50 * U0) ∧
    (∀ i, i < 5 → nb (kF (nI s) sh V n F (5 * n + i)) ∧ 0 ≤ zv (kF (nI s) sh V n F (5 * n + i)) ∧ zv (kF (nI s) sh V n F (5 * n + i)) + zv (kV3 (nI s) sh V i) ≤ zv (V i) + 2 * G0 ∧ zv (V i) ≤ zv (kF (nI s) sh V n F (5 * n + i)) + zv (kV3 (nI s) sh V i) + 2 * G0) ∧
    qd (kL2 (nI s) sh V) ∧ 0 ≤ zv (kL2 (nI s) sh V) ∧ zv (kL2 (nI s) sh V) ≤ 100 * U0 ∧
    zv (kF (nI s) sh V n F (5 * n + 0)) + zv (kF (nI s) sh V n F (5 * n + 1)) + zv (kF (nI s) sh V n F (5 * n + 2)) + zv (kF (nI s) sh V n F (5 * n + 3)) + zv (kF (nI s) sh V n F (5 * n + 4)) + zv (kL2 (nI s) sh V) ≤ (s : Int) * U0 + 10 * G0 ∧
    (s : Int) * U0 ≤ zv (kF (nI s) sh V n F (5 * n + 0)) + zv (kF (nI s) sh V n F (5 * n + 1)) + zv (kF (nI s) sh V n F (5 * n + 2)) + zv (kF (nI s) sh V n F (5 * n + 3)) + zv (kF (nI s) sh V n F (5 * n + 4)) + zv (kL2 (nI s) sh V) + 10 * G0 := by
  have hG := G0_pos
  have hU := U0_pos
  have hUG := U0_G0
  have sb : (s : Int) * U0 ≤ 100 * U0 := Int.mul_le_mul_of_nonneg_right (by omega) (Int.le_of_lt hU)
  obtain ⟨f2, e2⟩ := kV2_z hs hsh hV
  obtain ⟨q5, t5, p5, p6⟩ := sum5_z f2
  obtain ⟨ql, el⟩ := lS_z hs hsh hsum hV 5 (Nat.le_refl _)
  have ut := uS_sum hs hsh hsum hV
  rw [sz_5] at el ut
  have hu := uS_z hs hsh hV
  have h0 : zv (kL1 (nI s) sh V) = (s : Int) * U0 - (zv (uS (nI s) sh V 0) + zv (uS (nI s) sh V 1) + zv (uS (nI s) sh V 2) + zv (uS (nI s) sh V 3) + zv (uS (nI s) sh V 4)) := el
  have ql : qd (kL1 (nI s) sh V) := ql
  have u0 := (hu 0 (by omega)).2.1
  have u1 := (hu 1 (by omega)).2.1
  have u2 := (hu 2 (by omega)).2.1
  have u3 := (hu 3 (by omega)).2.1
  have u4 := (hu 4 (by omega)).2.1
  have l0 : 0 ≤ zv (kL1 (nI s) sh V) := by omega
  have l1 : zv (kL1 (nI s) sh V) ≤ 100 * U0 := by omega
  have hfS : ∀ i, i < 5 → qd (fS (nI s) sh V n F (5 * n + i)) ∧ zv (fS (nI s) sh V n F (5 * n + i)) = zv (uS (nI s) sh V i) := by
    intro i hi
    obtain ⟨a1, a2, a3, -⟩ := hu i hi
    obtain ⟨-, -, b3⟩ := hV i hi
    have e : fS (nI s) sh V n F (5 * n + i) = dAdd dZ (uS (nI s) sh V i) := by
      unfold fS
      rw [po_in _ _ hi, hF i hi]
    rw [e]
    obtain ⟨c1, c2⟩ := qd_add qd_dZ a1 (by rw [zv_dZ]; omega) (by rw [zv_dZ]; omega)
    exact ⟨c1, by rw [c2, zv_dZ, Int.zero_add]⟩
  by_cases cN : noNeed (kV2 (nI s) sh V)
  · -- nobody needs
    have ez := (dCmp_eq q5.1 nb_dZ).mp cN
    rw [zv_dZ] at ez
    have eF : kF (nI s) sh V n F = fS (nI s) sh V n F := by unfold kF fE; rw [if_pos cN]
    have e3 : kV3 (nI s) sh V = kV2 (nI s) sh V := by funext i; unfold kV3 nE; rw [if_pos cN]
    have eL : kL2 (nI s) sh V = kL1 (nI s) sh V := by unfold kL2 lE; rw [if_pos cN]
    rw [eF, e3, eL, (hfS 0 (by omega)).2, (hfS 1 (by omega)).2, (hfS 2 (by omega)).2, (hfS 3 (by omega)).2, (hfS 4 (by omega)).2]
    refine ⟨fun i hi => ⟨(f2 i hi).1.1, (f2 i hi).2.1, (f2 i hi).2.2⟩, fun i hi => ?_, ql, l0, l1, by omega, by omega⟩
    have := e2 i hi
    rw [(hfS i hi).2]
    exact ⟨(hfS i hi).1.1, (hu i hi).2.1, by omega, by omega⟩
  · by_cases cE : enough (kV2 (nI s) sh V) (kL1 (nI s) sh V)
    · -- enough for all
      have hle : zv (sumD (kV2 (nI s) sh V) 5) ≤ zv (kL1 (nI s) sh V) := by
        rcases cE with c | c
        · exact Int.le_of_lt ((dCmp_lt q5.1 ql.1).mp c)
        · exact Int.le_of_eq ((dCmp_eq q5.1 ql.1).mp c)
      have eL : kL2 (nI s) sh V = dSub (kL1 (nI s) sh V) (sumD (kV2 (nI s) sh V) 5) := by unfold kL2 lE; rw [if_neg cN, if_pos cE]
      obtain ⟨qL, zL⟩ := qd_sub ql q5 (by omega) (by omega)
      have e3 : ∀ i, kV3 (nI s) sh V i = dSub (kV2 (nI s) sh V i) (kV2 (nI s) sh V i) := by
        intro i
        unfold kV3 nE gE
        rw [if_neg cN, if_pos cE]
      have eF : ∀ i, i < 5 → qd (kF (nI s) sh V n F (5 * n + i)) ∧ zv (kF (nI s) sh V n F (5 * n + i)) = zv (uS (nI s) sh V i) + zv (kV2 (nI s) sh V i) := by
        intro i hi
        obtain ⟨a1, a2⟩ := hfS i hi
        obtain ⟨b1, b2, b3⟩ := f2 i hi
        obtain ⟨-, -, c3⟩ := hV i hi
        have e : kF (nI s) sh V n F (5 * n + i) = dAdd (fS (nI s) sh V n F (5 * n + i)) (kV2 (nI s) sh V i) := by
          unfold kF fE gE
          rw [if_neg cN, po_in _ _ hi, if_pos cE]
        rw [e]
        have hui := hu i hi
        obtain ⟨d1, d2⟩ := qd_add a1 b1 (by omega) (by omega)
        exact ⟨d1, by rw [d2, a2]⟩
      rw [eL]
      rw [(eF 0 (by omega)).2, (eF 1 (by omega)).2, (eF 2 (by omega)).2, (eF 3 (by omega)).2, (eF 4 (by omega)).2]
      refine ⟨fun i hi => ?_, fun i hi => ?_, qL, by omega, by omega, by omega, by omega⟩
      · obtain ⟨a1, a2⟩ := sub_self_z (f2 i hi).1
        rw [e3 i]
        exact ⟨a1.1, by omega, by omega⟩
      · obtain ⟨a1, a2⟩ := sub_self_z (f2 i hi).1
        have := e2 i hi
        have hui := (hu i hi).2.1
        have hvi := (f2 i hi).2.1
        rw [e3 i, a2, (eF i hi).2]
        exact ⟨(eF i hi).1.1, by omega, by omega, by omega⟩
    · -- by need
      have hlt : zv (kL1 (nI s) sh V) < zv (sumD (kV2 (nI s) sh V) 5) := by
        rcases Int.lt_trichotomy (zv (sumD (kV2 (nI s) sh V) 5)) (zv (kL1 (nI s) sh V)) with c | c | c
        · exact absurd (Or.inl ((dCmp_lt q5.1 ql.1).mpr c)) cE
        · exact absurd (Or.inr ((dCmp_eq q5.1 ql.1).mpr c)) cE
        · exact c
      obtain ⟨gz, gs1, gs2⟩ := part_z ql l0 l1 f2 hlt
      have eg : ∀ i, gE (kV2 (nI s) sh V) (kL1 (nI s) sh V) i = dDiv (dMul (kL1 (nI s) sh V) (kV2 (nI s) sh V i)) (sumD (kV2 (nI s) sh V) 5) := fun i => by unfold gE; rw [if_neg cE]
      simp only [← eg] at gz gs1 gs2
      have eL : kL2 (nI s) sh V = dZ := by unfold kL2 lE; rw [if_neg cN, if_neg cE]
      have e3 : ∀ i, i < 5 → nb (kV3 (nI s) sh V i) ∧ rq 1 (zv (kV2 (nI s) sh V i) - zv (gE (kV2 (nI s) sh V) (kL1 (nI s) sh V) i)) (zv (kV3 (nI s) sh V i)) := by
        intro i hi
        obtain ⟨a1, a2, a3⟩ := gz i hi
        obtain ⟨b1, b2, b3⟩ := f2 i hi
        have e : kV3 (nI s) sh V i = dSub (kV2 (nI s) sh V i) (gE (kV2 (nI s) sh V) (kL1 (nI s) sh V) i) := by unfold kV3 nE; rw [if_neg cN]
        rw [e]
        exact dSub_z b1.1 a1 (by omega) (by omega)
      have eF : ∀ i, i < 5 → nb (kF (nI s) sh V n F (5 * n + i)) ∧ rq 1 (zv (uS (nI s) sh V i) + zv (gE (kV2 (nI s) sh V) (kL1 (nI s) sh V) i)) (zv (kF (nI s) sh V n F (5 * n + i))) := by
        intro i hi
        obtain ⟨a1, a2⟩ := hfS i hi
        obtain ⟨b1, b2, b3⟩ := gz i hi
        have e : kF (nI s) sh V n F (5 * n + i) = dAdd (fS (nI s) sh V n F (5 * n + i)) (gE (kV2 (nI s) sh V) (kL1 (nI s) sh V) i) := by
          unfold kF fE
          rw [if_neg cN, po_in _ _ hi]
        have hui := hu i hi
        have hvi := f2 i hi
        obtain ⟨-, -, c3⟩ := hV i hi
        rw [e, ← a2]
        exact dAdd_z a1.1 b1 (by rw [a2]; omega) (by rw [a2]; omega)
      rw [eL, zv_dZ]
      have F0 := rq1 (eF 0 (by omega)).2
      have F1 := rq1 (eF 1 (by omega)).2
      have F2 := rq1 (eF 2 (by omega)).2
      have F3 := rq1 (eF 3 (by omega)).2
      have F4 := rq1 (eF 4 (by omega)).2
      refine ⟨fun i hi => ?_, fun i hi => ?_, qd_dZ, Int.le_refl _, by omega, ?_, ?_⟩
      · obtain ⟨a1, a2⟩ := e3 i hi
        obtain ⟨b1, b2, b3⟩ := gz i hi
        obtain ⟨c1, c2, c3⟩ := f2 i hi
        exact ⟨a1, rq1_0 a2 (by omega), rq1_u a2 (j := 50) (by decide) (by decide) (by omega)⟩
      · obtain ⟨a1, a2⟩ := e3 i hi
        obtain ⟨b1, b2, b3⟩ := gz i hi
        obtain ⟨c1, c2⟩ := eF i hi
        have d2 := e2 i hi
        have hui := (hu i hi).2.1
        have A := rq1 a2
        have C := rq1 c2
        have A1 := A.1
        have A2 := A.2.1
        have C1 := C.1
        have C2 := C.2.1
        exact ⟨c1, rq1_0 c2 (by omega), by omega, by omega⟩
      · have a0 := F0.1
        have a1 := F1.1
        have a2 := F2.1
        have a3 := F3.1
        have a4 := F4.1
        omega
      · have a0 := F0.2.1
        have a1 := F1.2.1
        have a2 := F2.2.1
        have a3 := F3.2.1
        have a4 := F4.2.1
        omega
/-- stored or sold -/
theorem store_z {S L : Dm} (hS : nb S) (hS0 : 0 ≤ zv S) (hS1 : zv S ≤ 40 * U0) (hL : qd L) (hL0 : 0 ≤ zv L) (hL1 : zv L ≤ 100 * U0) :
    nb (soN S L) ∧ 0 ≤ zv (soN S L) ∧ zv (soN S L) ≤ 40 * U0 ∧ nb (szN S L) ∧ 0 ≤ zv (szN S L) ∧ zv (szN S L) ≤ 100 * U0 ∧ zv (soN S L) + zv (szN S L) ≤ zv S + zv L + 2 * G0 ∧ zv S + zv L ≤ zv (soN S L) + zv (szN S L) + 2 * G0 := by
  have hG := G0_pos
  have hU := U0_pos
  have hUG := U0_G0
  obtain ⟨nr, r1⟩ := dSub_z nb_d40 hS (by rw [zv_d40]; omega) (by rw [zv_d40]; omega)
  rw [zv_d40] at r1
  have R := rq1 r1
  have R1 := R.1
  have R2 := R.2.1
  have R0 := rq1_0 r1 (by omega)
  by_cases c : dCmp L (dSub d40 S) = some .lt
  · have e1 : soN S L = dAdd S L := by unfold soN; rw [if_pos c]
    have e2 : szN S L = dZ := by unfold szN; rw [if_pos c]
    have hlt := (dCmp_lt hL.1 nr).mp c
    obtain ⟨nL, a, ea⟩ := hL
    have hsum : zv S + zv L ≤ 40 * U0 := by
      rcases Int.lt_or_le (40 * U0) (zv S + zv L) with g | g
      · exfalso
        have ha : zv L = a * 17179869184 * G0 := by rw [ea, k_G0]
        have b1 : a * 17179869184 ≤ 6871947673600 := by
          refine Int.le_of_mul_le_mul_right (a := G0) ?_ hG
          rw [← ha]; omega
        have b2 : 0 ≤ a * 17179869184 := by
          refine Int.le_of_mul_le_mul_right (a := G0) ?_ hG
          rw [← ha]; omega
        have := (R.2.2 (a * 17179869184) (by omega) (by omega)).1 (by rw [← ha]; omega)
        rw [← ha] at this
        omega
      · exact g
    obtain ⟨n1, q1⟩ := dAdd_z hS nL (by omega) (by omega)
    have A := rq1 q1
    have A1 := A.1
    have A2 := A.2.1
    rw [e1, e2, zv_dZ]
    exact ⟨n1, rq1_0 q1 (by omega), rq1_u q1 (j := 40) (by decide) (by decide) (by omega), nb_dZ, Int.le_refl _, by omega, by omega, by omega⟩
  · have e1 : soN S L = d40 := by unfold soN; rw [if_neg c]
    have e2 : szN S L = dSub L (dSub d40 S) := by unfold szN; rw [if_neg c]
    have hge : zv (dSub d40 S) ≤ zv L := Int.not_lt.mp (fun g => c ((dCmp_lt hL.1 nr).mpr g))
    obtain ⟨n1, q1⟩ := dSub_z hL.1 nr (by omega) (by omega)
    have A := rq1 q1
    have A1 := A.1
    have A2 := A.2.1
    rw [e1, e2, zv_d40]
    exact ⟨nb_d40, by omega, by omega, n1, rq1_0 q1 (by omega), rq1_u q1 (j := 100) (by decide) (by decide) (by omega), by omega, by omega⟩
end
section
/-! the battery's turns, bills, and what the law asks of a closed quarter -/
theorem up_at {α : Type} (f : Nat → α) (k : Nat) (x : α) : va_up f k x k = x := by unfold va_up; rw [if_pos rfl]
theorem up_ne {α : Type} (f : Nat → α) {k j : Nat} (x : α) (h : j ≠ k) : va_up f k x j = f j := by unfold va_up; rw [if_neg h]
theorem gbs_z {t b : Nat} {V : Nat → Dm} {B : Dm} {G : Nat → Dm} (ht : t < 5) (hV : ∀ i, i < 5 → nb (V i) ∧ 0 ≤ zv (V i) ∧ zv (V i) ≤ 50 * U0) (hB : nb B ∧ 0 ≤ zv B ∧ zv B ≤ 40 * U0) (hG : ∀ i, i < 5 → G (b + i) = dZ) : ∀ k, k ≤ 5 →
    (∀ i, i < 5 → nb ((gbs t b V B G k).1 i) ∧ 0 ≤ zv ((gbs t b V B G k).1 i) ∧ zv ((gbs t b V B G k).1 i) ≤ 50 * U0) ∧
    (nb (gbs t b V B G k).2.1 ∧ 0 ≤ zv (gbs t b V B G k).2.1 ∧ zv (gbs t b V B G k).2.1 ≤ 40 * U0) ∧
    (∀ i, i < 5 → k ≤ (i + 5 - t) % 5 → (gbs t b V B G k).2.2.1 (b + i) = dZ) ∧
    (∀ i, i < 5 → nb ((gbs t b V B G k).2.2.1 (b + i)) ∧ 0 ≤ zv ((gbs t b V B G k).2.2.1 (b + i)) ∧ zv ((gbs t b V B G k).2.2.1 (b + i)) ≤ 40 * U0 ∧ zv ((gbs t b V B G k).1 i) + zv ((gbs t b V B G k).2.2.1 (b + i)) ≤ zv (V i) + (k : Int) * G0 ∧ zv (V i) ≤ zv ((gbs t b V B G k).1 i) + zv ((gbs t b V B G k).2.2.1 (b + i)) + (k : Int) * G0) ∧
    zv (gbs t b V B G k).2.1 + sz (fun i => zv ((gbs t b V B G k).2.2.1 (b + i))) 5 ≤ zv B + (k : Int) * G0 ∧ zv B ≤ zv (gbs t b V B G k).2.1 + sz (fun i => zv ((gbs t b V B G k).2.2.1 (b + i))) 5 + (k : Int) * G0
  | 0, _ => by
    have e : gbs t b V B G 0 = (V, B, G, none) := rfl
    rw [e]
    have hU := U0_pos
    refine ⟨hV, hB, fun i hi _ => hG i hi, fun i hi => ?_, ?_, ?_⟩
    · show nb (G (b + i)) ∧ 0 ≤ zv (G (b + i)) ∧ zv (G (b + i)) ≤ 40 * U0 ∧ zv (V i) + zv (G (b + i)) ≤ zv (V i) + _ ∧ zv (V i) ≤ zv (V i) + zv (G (b + i)) + _
      rw [hG i hi, zv_dZ]
      exact ⟨nb_dZ, by omega, by omega, by omega, by omega⟩
    · show zv B + sz (fun i => zv (G (b + i))) 5 ≤ _
      rw [sz_5, hG 0 (by omega), hG 1 (by omega), hG 2 (by omega), hG 3 (by omega), hG 4 (by omega), zv_dZ]
      omega
    · show _ ≤ zv B + sz (fun i => zv (G (b + i))) 5 + _
      rw [sz_5, hG 0 (by omega), hG 1 (by omega), hG 2 (by omega), hG 3 (by omega), hG 4 (by omega), zv_dZ]
      omega
  | k + 1, hk => by
    obtain ⟨h1, h2, h3, h4, h5, h6⟩ := gbs_z ht hV hB hG k (by omega)
    have hU := U0_pos
    have hGp := G0_pos
    have hUG := U0_G0
    have ek : ((k + 1 : Nat) : Int) * G0 = (k : Int) * G0 + G0 := by rw [Int.natCast_add, Int.add_mul]; show _ + 1 * G0 = _; rw [Int.one_mul]
    have ho : (t + k) % 5 < 5 := Nat.mod_lt _ (by decide)
    have e : gbs t b V B G (k + 1) = (va_up (gbs t b V B G k).1 ((t + k) % 5) (dSub ((gbs t b V B G k).1 ((t + k) % 5)) (dMin ((gbs t b V B G k).1 ((t + k) % 5)) (gbs t b V B G k).2.1)), dSub (gbs t b V B G k).2.1 (dMin ((gbs t b V B G k).1 ((t + k) % 5)) (gbs t b V B G k).2.1), va_up (gbs t b V B G k).2.2.1 (b + (t + k) % 5) (dMin ((gbs t b V B G k).1 ((t + k) % 5)) (gbs t b V B G k).2.1), if dCmp (dMin ((gbs t b V B G k).1 ((t + k) % 5)) (gbs t b V B G k).2.1) dZ = some .gt then some ((t + k) % 5) else (gbs t b V B G k).2.2.2) := rfl
    rw [e]
    have hoz := h3 ((t + k) % 5) ho (by omega)
    obtain ⟨o, eo⟩ : ∃ o, o = (t + k) % 5 := ⟨_, rfl⟩
    rw [← eo] at ho hoz ⊢
    generalize gbs t b V B G k = r at h1 h2 h3 h4 h5 h6 hoz ⊢
    obtain ⟨W, S, K, y⟩ := r
    dsimp only at h1 h2 h3 h4 h5 h6 hoz ⊢
    obtain ⟨w1, w2, w3⟩ := h1 o ho
    obtain ⟨s1, s2, s3⟩ := h2
    obtain ⟨m1, m2, m3, m4⟩ := dMin_z w1 s1
    have m0 : 0 ≤ zv (dMin (W o) S) := by
      rcases m4 with g | g
      · rw [g]; exact w2
      · rw [g]; exact s2
    generalize dMin (W o) S = x at m0 m1 m2 m3 m4 ⊢
    obtain ⟨n1, q1⟩ := dSub_z w1 m1 (by omega) (by omega)
    obtain ⟨n2, q2⟩ := dSub_z s1 m1 (by omega) (by omega)
    have A := rq1 q1
    have A1 := A.1
    have A2 := A.2.1
    have B1 := (rq1 q2).1
    have B2 := (rq1 q2).2.1
    have A0 := rq1_0 q1 (by omega)
    have B0 := rq1_0 q2 (by omega)
    have A5 := rq1_u q1 (j := 50) (by decide) (by decide) (by omega)
    have B5 := rq1_u q2 (j := 40) (by decide) (by decide) (by omega)
    have ew : zv (K (b + o)) = 0 := by rw [hoz, zv_dZ]
    have hs : sz (fun i => zv (va_up K (b + o) x (b + i))) 5 = sz (fun i => zv (K (b + i))) 5 + zv x := by
      rw [sz_5, sz_5]
      have hc : ∀ i, i ≠ o → zv (va_up K (b + o) x (b + i)) = zv (K (b + i)) := fun i hi => by rw [up_ne _ _ (by omega)]
      have hx : zv (va_up K (b + o) x (b + o)) = zv x := by rw [up_at]
      rcases (show o = 0 ∨ o = 1 ∨ o = 2 ∨ o = 3 ∨ o = 4 by omega) with rfl | rfl | rfl | rfl | rfl
      · rw [hx, hc 1 (by omega), hc 2 (by omega), hc 3 (by omega), hc 4 (by omega)]; omega
      · rw [hx, hc 0 (by omega), hc 2 (by omega), hc 3 (by omega), hc 4 (by omega)]; omega
      · rw [hx, hc 0 (by omega), hc 1 (by omega), hc 3 (by omega), hc 4 (by omega)]; omega
      · rw [hx, hc 0 (by omega), hc 1 (by omega), hc 2 (by omega), hc 4 (by omega)]; omega
      · rw [hx, hc 0 (by omega), hc 1 (by omega), hc 2 (by omega), hc 3 (by omega)]; omega
    refine ⟨fun i hi => ?_, ⟨n2, B0, B5⟩, fun i hi hk2 => ?_, fun i hi => ?_, by rw [hs, ek]; omega, by rw [hs, ek]; omega⟩
    · by_cases c : i = o
      · subst c; rw [up_at]; exact ⟨n1, A0, A5⟩
      · rw [up_ne _ _ c]; exact h1 i hi
    · have hne : i ≠ o := by
        rintro rfl
        rw [eo] at hk2
        omega
      rw [up_ne _ _ (by omega)]
      exact h3 i hi (by omega)
    · by_cases c : i = o
      · subst c
        obtain ⟨-, -, -, c4, c5⟩ := h4 i hi
        rw [up_at, up_at, ek]
        rw [ew] at c4 c5
        exact ⟨m1, m0, by omega, by omega, by omega⟩
      · rw [up_ne _ _ c, up_ne _ _ (by omega), ek]
        obtain ⟨c1, c2, c3, c4, c5⟩ := h4 i hi
        exact ⟨c1, c2, c3, by omega, by omega⟩
theorem gB_z {t n : Nat} {V : Nat → Dm} {L S : Dm} {G : Nat → Dm} (ht : t < 5) (hV : ∀ i, i < 5 → nb (V i) ∧ 0 ≤ zv (V i) ∧ zv (V i) ≤ 50 * U0) (hS : nb S ∧ 0 ≤ zv S ∧ zv S ≤ 40 * U0) (hG : ∀ i, i < 5 → G (5 * n + i) = dZ) :
    (∀ i, i < 5 → nb ((gB t n V L S G).1 i) ∧ 0 ≤ zv ((gB t n V L S G).1 i) ∧ zv ((gB t n V L S G).1 i) ≤ 50 * U0) ∧
    (nb (gB t n V L S G).2.1 ∧ 0 ≤ zv (gB t n V L S G).2.1 ∧ zv (gB t n V L S G).2.1 ≤ 40 * U0) ∧
    (∀ i, i < 5 → nb ((gB t n V L S G).2.2.1 (5 * n + i)) ∧ 0 ≤ zv ((gB t n V L S G).2.2.1 (5 * n + i)) ∧ zv ((gB t n V L S G).2.2.1 (5 * n + i)) ≤ 40 * U0 ∧ zv ((gB t n V L S G).1 i) + zv ((gB t n V L S G).2.2.1 (5 * n + i)) ≤ zv (V i) + 5 * G0 ∧ zv (V i) ≤ zv ((gB t n V L S G).1 i) + zv ((gB t n V L S G).2.2.1 (5 * n + i)) + 5 * G0) ∧
    zv (gB t n V L S G).2.1 + (zv ((gB t n V L S G).2.2.1 (5 * n + 0)) + zv ((gB t n V L S G).2.2.1 (5 * n + 1)) + zv ((gB t n V L S G).2.2.1 (5 * n + 2)) + zv ((gB t n V L S G).2.2.1 (5 * n + 3)) + zv ((gB t n V L S G).2.2.1 (5 * n + 4))) ≤ zv S + 5 * G0 ∧
    zv S ≤ zv (gB t n V L S G).2.1 + (zv ((gB t n V L S G).2.2.1 (5 * n + 0)) + zv ((gB t n V L S G).2.2.1 (5 * n + 1)) + zv ((gB t n V L S G).2.2.1 (5 * n + 2)) + zv ((gB t n V L S G).2.2.1 (5 * n + 3)) + zv ((gB t n V L S G).2.2.1 (5 * n + 4))) + 5 * G0 := by
  have hU := U0_pos
  have hGp := G0_pos
  unfold gB
  by_cases c : dCmp L dZ = some .eq
  · rw [if_pos c]
    obtain ⟨h1, h2, -, h4, h5, h6⟩ := gbs_z ht hV hS hG 5 (Nat.le_refl _)
    rw [sz_5] at h5 h6
    exact ⟨h1, h2, h4, h5, h6⟩
  · rw [if_neg c]
    refine ⟨hV, hS, fun i hi => ?_, ?_, ?_⟩
    · show nb (G (5 * n + i)) ∧ 0 ≤ zv (G (5 * n + i)) ∧ zv (G (5 * n + i)) ≤ _ ∧ zv (V i) + zv (G (5 * n + i)) ≤ _ ∧ _ ≤ zv (V i) + zv (G (5 * n + i)) + _
      rw [hG i hi, zv_dZ]
      exact ⟨nb_dZ, by omega, by omega, by omega, by omega⟩
    · show zv S + (zv (G _) + zv (G _) + zv (G _) + zv (G _) + zv (G _)) ≤ _
      rw [hG 0 (by omega), hG 1 (by omega), hG 2 (by omega), hG 3 (by omega), hG 4 (by omega), zv_dZ]
      omega
    · show _ ≤ zv S + (zv (G _) + zv (G _) + zv (G _) + zv (G _) + zv (G _)) + _
      rw [hG 0 (by omega), hG 1 (by omega), hG 2 (by omega), hG 3 (by omega), hG 4 (by omega), zv_dZ]
      omega
/-- a price: one to four fourths -/
def prc (P : Dm) : Prop := nb P ∧ ∃ p : Int, 1 ≤ p ∧ p ≤ 4 ∧ 4 * zv P = p * U0
theorem by_price {P x : Dm} (hP : prc P) (hx : nb x) {j : Int} (j0 : 0 ≤ j) (j1 : j ≤ 1000) (h0 : -(j * U0) ≤ zv x) (h1 : zv x ≤ j * U0) : nb (dMul x P) ∧ zv (dMul x P) ≤ j * U0 ∧ -(j * U0) ≤ zv (dMul x P) ∧ (0 ≤ zv x → 0 ≤ zv (dMul x P)) := by
  obtain ⟨nP, p, p1, p2, e⟩ := hP
  have hG := G0_pos
  have hU := U0_pos
  have e1 : j * U0 = j * 68719476736 * G0 := by rw [U0_G0, Int.mul_assoc]
  have bj : j * 68719476736 * G0 ≤ 68719476736000 * G0 := Int.mul_le_mul_of_nonneg_right (by omega) (Int.le_of_lt hG)
  have ju : 0 ≤ j * U0 := Int.mul_nonneg j0 (Int.le_of_lt hU)
  have e2 : j * 68719476736 * G0 * 4 = 4 * (j * U0) := by rw [e1, Int.mul_comm]
  have e3 : -(j * 68719476736) * G0 * 4 = -(4 * (j * U0)) := by rw [Int.neg_mul, Int.neg_mul, e2]
  have hp1 : p * zv x ≤ 4 * (j * U0) := by
    refine Int.le_trans (Int.mul_le_mul_of_nonneg_left h1 (by omega)) ?_
    exact Int.mul_le_mul_of_nonneg_right p2 ju
  have hp0 : -(4 * (j * U0)) ≤ p * zv x := by
    have a := Int.mul_le_mul_of_nonneg_left h0 (show 0 ≤ p by omega)
    have b := Int.mul_le_mul_of_nonneg_right p2 ju
    rw [Int.mul_neg] at a
    omega
  obtain ⟨n1, r1⟩ := dMul_z nP hx e (by omega) (by omega)
  rw [dMul_c]
  have a1 := (r1.2.2 (j * 68719476736) (by omega) (by omega)).1 (by rw [e2]; exact hp1)
  have a2 := (r1.2.2 (-(j * 68719476736)) (by omega) (by omega)).2 (by rw [e3]; exact hp0)
  rw [← e1] at a1
  rw [Int.neg_mul, ← e1] at a2
  refine ⟨n1, a1, a2, fun h => ?_⟩
  have a3 := (r1.2.2 0 (by omega) (by omega)).2 (by rw [Int.zero_mul, Int.zero_mul]; exact Int.mul_nonneg (by omega) h)
  rw [Int.zero_mul] at a3
  exact a3
theorem bill_z {B V P Z : Dm} {c : Nat} (hc : c ≤ 1000) (hB : nb B ∧ zv B ≤ (c : Int) * (64 * U0) ∧ -((c : Int) * (64 * U0)) ≤ zv B) (hV : nb V ∧ 0 ≤ zv V ∧ zv V ≤ 50 * U0) (hP : prc P) (hZ : nb Z ∧ 0 ≤ zv Z ∧ zv Z ≤ 100 * U0) :
    nb (dSub (dAdd B (dMul V P)) (dDiv (dMul Z P) d10)) ∧ zv (dSub (dAdd B (dMul V P)) (dDiv (dMul Z P) d10)) ≤ ((c + 1 : Nat) : Int) * (64 * U0) ∧ -(((c + 1 : Nat) : Int) * (64 * U0)) ≤ zv (dSub (dAdd B (dMul V P)) (dDiv (dMul Z P) d10)) := by
  have hG := G0_pos
  have hU := U0_pos
  have hUG := U0_G0
  obtain ⟨b1, b2, b3⟩ := hB
  obtain ⟨v1, v2, v3⟩ := hV
  obtain ⟨z1, z2, z3⟩ := hZ
  have ec : ((c + 1 : Nat) : Int) * (64 * U0) = (c : Int) * (64 * U0) + 64 * U0 := by rw [Int.natCast_add, Int.add_mul]; show _ + 1 * _ = _; rw [Int.one_mul]
  have bc : (c : Int) * (64 * U0) ≤ 1000 * (64 * U0) := Int.mul_le_mul_of_nonneg_right (by omega) (by omega)
  obtain ⟨m1, m2, m3, m4⟩ := by_price hP v1 (j := 50) (by decide) (by decide) (by omega) v3
  have m4 := m4 v2
  obtain ⟨w1, w2, w3, w4⟩ := by_price hP z1 (j := 100) (by decide) (by decide) (by omega) z3
  have w4 := w4 z2
  obtain ⟨d1, d2, d3⟩ := dDiv_z w1 nb_d10 w4 (b := 40) (by decide) (by rw [zv_d10]; omega) (by omega)
  have d4 := (d2.2.2 687194767360 (by omega) (by omega)).1 (by omega)
  obtain ⟨a1, a2⟩ := dAdd_z b1 m1 (by omega) (by omega)
  have A1 := (rq1 a2).1
  have A2 := (rq1 a2).2.1
  obtain ⟨s1, s2⟩ := dSub_z a1 d1 (by omega) (by omega)
  have S1 := (rq1 s2).1
  have S2 := (rq1 s2).2.1
  refine ⟨s1, by rw [ec]; omega, by rw [ec]; omega⟩
/-- near enough -/
abbrev dE : Dm := dt 4517329193108106637
theorem nb_dE : nb dE := ⟨dt_ft _, by decide +kernel, by decide +kernel, by decide +kernel⟩
theorem zv_dE : 60000 * G0 < zv dE := by decide +kernel
def isNr (x y : Dm) : Prop := dCmp (dSub x y) dE = some .lt ∧ dCmp (dSub y x) dE = some .lt
theorem near_z {x y : Dm} (hx : nb x) (hy : nb y) (h1 : zv x ≤ zv y + 1000 * G0) (h2 : zv y ≤ zv x + 1000 * G0) : isNr x y := by
  have hG := G0_pos
  have hE := zv_dE
  obtain ⟨a1, a2⟩ := dSub_z hx hy (by omega) (by omega)
  obtain ⟨b1, b2⟩ := dSub_z hy hx (by omega) (by omega)
  have A1 := (rq1 a2).1
  have B1 := (rq1 b2).1
  exact ⟨(dCmp_lt a1 nb_dE).mpr (by omega), (dCmp_lt b1 nb_dE).mpr (by omega)⟩
end
section
/-! THE STATE OF AN OBJECT: its bits (Bt), its data (St), and what each call does to the data -/
abbrev Bt : Type := (Nat → Int32) × (Nat → Int32) × (Nat → Int32) × (Nat → UInt64) × (Nat → Int32) × (Nat → Int32) × (Nat → UInt64) × (UInt64) × (UInt64) × (UInt64) × (Nat) × (Nat) × (Nat → UInt64) × (Nat → UInt64) × (Nat → UInt64) × (Nat → Int32) × (Nat → UInt64) × (Nat → UInt64) × (Nat → UInt64) × (Nat → UInt64)
abbrev St : Type := (Nat → Int32) × (Nat → Int32) × (Nat → Int32) × (Nat → Int32) × (Nat → Int32) × (Nat → Int32) × (Nat) × (Nat) × (Dm) × (Dm) × (Nat → Dm) × (Nat → Dm) × (Nat → Dm) × (Nat → Dm) × (Nat → Dm) × (Nat → Dm) × (Nat → Dm) × (Nat → Dm)
abbrev b_sh (u : Bt) : Nat → Int32 := u.1
abbrev b_sw (u : Bt) : Nat → Int32 := u.2.1
abbrev b_ts (u : Bt) : Nat → Int32 := u.2.2.1
abbrev b_bi (u : Bt) : Nat → UInt64 := u.2.2.2.1
abbrev b_it (u : Bt) : Nat → Int32 := u.2.2.2.2.1
abbrev b_tu (u : Bt) : Nat → Int32 := u.2.2.2.2.2.1
abbrev b_ne (u : Bt) : Nat → UInt64 := u.2.2.2.2.2.2.1
abbrev b_pr (u : Bt) : UInt64 := u.2.2.2.2.2.2.2.1
abbrev b_so (u : Bt) : UInt64 := u.2.2.2.2.2.2.2.2.1
abbrev b_lo (u : Bt) : UInt64 := u.2.2.2.2.2.2.2.2.2.1
abbrev b_t (u : Bt) : Nat := u.2.2.2.2.2.2.2.2.2.2.1
abbrev b_n (u : Bt) : Nat := u.2.2.2.2.2.2.2.2.2.2.2.1
abbrev b_lp (u : Bt) : Nat → UInt64 := u.2.2.2.2.2.2.2.2.2.2.2.2.1
abbrev b_lz (u : Bt) : Nat → UInt64 := u.2.2.2.2.2.2.2.2.2.2.2.2.2.1
abbrev b_lu (u : Bt) : Nat → UInt64 := u.2.2.2.2.2.2.2.2.2.2.2.2.2.2.1
abbrev b_lk (u : Bt) : Nat → Int32 := u.2.2.2.2.2.2.2.2.2.2.2.2.2.2.2.1
abbrev b_ld (u : Bt) : Nat → UInt64 := u.2.2.2.2.2.2.2.2.2.2.2.2.2.2.2.2.1
abbrev b_lf (u : Bt) : Nat → UInt64 := u.2.2.2.2.2.2.2.2.2.2.2.2.2.2.2.2.2.1
abbrev b_lb (u : Bt) : Nat → UInt64 := u.2.2.2.2.2.2.2.2.2.2.2.2.2.2.2.2.2.2.1
abbrev b_lw (u : Bt) : Nat → UInt64 := u.2.2.2.2.2.2.2.2.2.2.2.2.2.2.2.2.2.2.2
abbrev s_sh (σ : St) : Nat → Int32 := σ.1
abbrev s_sw (σ : St) : Nat → Int32 := σ.2.1
abbrev s_ts (σ : St) : Nat → Int32 := σ.2.2.1
abbrev s_it (σ : St) : Nat → Int32 := σ.2.2.2.1
abbrev s_tu (σ : St) : Nat → Int32 := σ.2.2.2.2.1
abbrev s_lk (σ : St) : Nat → Int32 := σ.2.2.2.2.2.1
abbrev s_n (σ : St) : Nat := σ.2.2.2.2.2.2.1
abbrev s_t (σ : St) : Nat := σ.2.2.2.2.2.2.2.1
abbrev s_pr (σ : St) : Dm := σ.2.2.2.2.2.2.2.2.1
abbrev s_so (σ : St) : Dm := σ.2.2.2.2.2.2.2.2.2.1
abbrev s_bi (σ : St) : Nat → Dm := σ.2.2.2.2.2.2.2.2.2.2.1
abbrev s_lp (σ : St) : Nat → Dm := σ.2.2.2.2.2.2.2.2.2.2.2.1
abbrev s_lz (σ : St) : Nat → Dm := σ.2.2.2.2.2.2.2.2.2.2.2.2.1
abbrev s_lu (σ : St) : Nat → Dm := σ.2.2.2.2.2.2.2.2.2.2.2.2.2.1
abbrev s_ld (σ : St) : Nat → Dm := σ.2.2.2.2.2.2.2.2.2.2.2.2.2.2.1
abbrev s_lf (σ : St) : Nat → Dm := σ.2.2.2.2.2.2.2.2.2.2.2.2.2.2.2.1
abbrev s_lb (σ : St) : Nat → Dm := σ.2.2.2.2.2.2.2.2.2.2.2.2.2.2.2.2.1
abbrev s_lw (σ : St) : Nat → Dm := σ.2.2.2.2.2.2.2.2.2.2.2.2.2.2.2.2.2
def dat (u : Bt) : St := (u.1, u.2.1, u.2.2.1, u.2.2.2.2.1, u.2.2.2.2.2.1, u.2.2.2.2.2.2.2.2.2.2.2.2.2.2.2.1, u.2.2.2.2.2.2.2.2.2.2.2.1, u.2.2.2.2.2.2.2.2.2.2.1, dt u.2.2.2.2.2.2.2.1, dt u.2.2.2.2.2.2.2.2.1, dts u.2.2.2.1, dts u.2.2.2.2.2.2.2.2.2.2.2.2.1, dts u.2.2.2.2.2.2.2.2.2.2.2.2.2.1, dts u.2.2.2.2.2.2.2.2.2.2.2.2.2.2.1, dts u.2.2.2.2.2.2.2.2.2.2.2.2.2.2.2.2.1, dts u.2.2.2.2.2.2.2.2.2.2.2.2.2.2.2.2.2.1, dts u.2.2.2.2.2.2.2.2.2.2.2.2.2.2.2.2.2.2.1, dts u.2.2.2.2.2.2.2.2.2.2.2.2.2.2.2.2.2.2.2)
abbrev XU (a : Nat → Nat) (cI cZ cD : ClassId) (u : Bt) : va_W := XW a cI cZ cD u.1 u.2.1 u.2.2.1 u.2.2.2.1 u.2.2.2.2.1 u.2.2.2.2.2.1 u.2.2.2.2.2.2.1 u.2.2.2.2.2.2.2.1 u.2.2.2.2.2.2.2.2.1 u.2.2.2.2.2.2.2.2.2.1 (nI u.2.2.2.2.2.2.2.2.2.2.1) (nI u.2.2.2.2.2.2.2.2.2.2.2.1) u.2.2.2.2.2.2.2.2.2.2.2.2.1 u.2.2.2.2.2.2.2.2.2.2.2.2.2.1 u.2.2.2.2.2.2.2.2.2.2.2.2.2.2.1 u.2.2.2.2.2.2.2.2.2.2.2.2.2.2.2.1 u.2.2.2.2.2.2.2.2.2.2.2.2.2.2.2.2.1 u.2.2.2.2.2.2.2.2.2.2.2.2.2.2.2.2.2.1 u.2.2.2.2.2.2.2.2.2.2.2.2.2.2.2.2.2.2.1 u.2.2.2.2.2.2.2.2.2.2.2.2.2.2.2.2.2.2.2
/-- an exception, as the law has it -/
abbrev eN : Int32 := -99999
abbrev eD : Dm := dt 13904980329019473920
/-- what the owners are held to use, behind the shedding -/
abbrev cV (σ : St) : Nat → Dm := (cT (s_sw σ) (s_ts σ) (s_it σ) (s_tu σ) (s_lk σ) (s_lu σ) (s_n σ)).2
abbrev cK (sun : Int32) (σ : St) : (Nat → Dm) × Dm × (Nat → Dm) × Nat := kB sun (s_sh σ) (cV σ) (s_so σ) (s_lb σ) (s_t σ) (s_n σ)
def closeS (sun : Int32) (σ : St) : St := (σ.1, σ.2.1, (cT (s_sw σ) (s_ts σ) (s_it σ) (s_tu σ) (s_lk σ) (s_lu σ) (s_n σ)).1, po 0 5 (s_it σ) (fun _ => 0), σ.2.2.2.2.1, po (5 * s_n σ) 5 (s_lk σ) (s_it σ), s_n σ + 1, (cK sun σ).2.2.2, σ.2.2.2.2.2.2.2.2.1, (cK sun σ).2.1, kI sun (s_sh σ) (cV σ) (s_so σ) (s_lz σ) (s_bi σ) (s_pr σ) (s_lb σ) (s_t σ) (s_n σ), va_up (s_lp σ) (s_n σ) (s_pr σ), kZ sun (s_sh σ) (cV σ) (s_so σ) (s_lz σ) (s_n σ), po (5 * s_n σ) 5 (s_lu σ) (use0 (s_it σ) (s_tu σ) (s_lk σ) (s_lu σ) (s_n σ)), po (5 * s_n σ) 5 (s_ld σ) (cV σ), kF sun (s_sh σ) (cV σ) (s_n σ) (s_lf σ), (cK sun σ).2.2.1, po (5 * s_n σ) 5 (s_lw σ) (cK sun σ).1)
def gSh (σ : St) (x y : Int32) : Prop := inR x 0 4 ∧ inR y 0 4 ∧ okS (s_sh σ) x y
def gSw (x : Int32) : Prop := inR x 0 4
def gTl (x y : Int32) : Prop := inR x 0 4 ∧ inR y 0 50
def gCl (σ : St) (x : Int32) : Prop := inR x 0 100 ∧ s_n σ < 60
def gPr (x : Int32) : Prop := inR x 1 4
def gRe (σ : St) (x q y : Int32) : Prop := inR x 0 4 ∧ inR y 0 50 ∧ isQ (s_n σ) q ∧ ¬ kn (s_lk σ) x q
def gRd (σ : St) (x q : Int32) : Prop := inR x 0 4 ∧ isQ (s_n σ) q
noncomputable def sSh (σ : St) (x y : Int32) : St × Int32 := @ite _ (gSh σ x y) (Classical.propDecidable _) ((upd (s_sh σ) x.toNatClampNeg y, σ.2.1, σ.2.2.1, σ.2.2.2.1, σ.2.2.2.2.1, σ.2.2.2.2.2.1, σ.2.2.2.2.2.2.1, σ.2.2.2.2.2.2.2.1, σ.2.2.2.2.2.2.2.2.1, σ.2.2.2.2.2.2.2.2.2.1, σ.2.2.2.2.2.2.2.2.2.2.1, σ.2.2.2.2.2.2.2.2.2.2.2.1, σ.2.2.2.2.2.2.2.2.2.2.2.2.1, σ.2.2.2.2.2.2.2.2.2.2.2.2.2.1, σ.2.2.2.2.2.2.2.2.2.2.2.2.2.2.1, σ.2.2.2.2.2.2.2.2.2.2.2.2.2.2.2.1, σ.2.2.2.2.2.2.2.2.2.2.2.2.2.2.2.2.1, σ.2.2.2.2.2.2.2.2.2.2.2.2.2.2.2.2.2), s_sh σ x.toNatClampNeg) (σ, eN)
noncomputable def sSw (σ : St) (x y : Int32) : St × Int32 := @ite _ (gSw x) (Classical.propDecidable _) ((σ.1, upd (s_sw σ) x.toNatClampNeg (bI (y = 1)), σ.2.2.1, σ.2.2.2.1, σ.2.2.2.2.1, σ.2.2.2.2.2.1, σ.2.2.2.2.2.2.1, σ.2.2.2.2.2.2.2.1, σ.2.2.2.2.2.2.2.2.1, σ.2.2.2.2.2.2.2.2.2.1, σ.2.2.2.2.2.2.2.2.2.2.1, σ.2.2.2.2.2.2.2.2.2.2.2.1, σ.2.2.2.2.2.2.2.2.2.2.2.2.1, σ.2.2.2.2.2.2.2.2.2.2.2.2.2.1, σ.2.2.2.2.2.2.2.2.2.2.2.2.2.2.1, σ.2.2.2.2.2.2.2.2.2.2.2.2.2.2.2.1, σ.2.2.2.2.2.2.2.2.2.2.2.2.2.2.2.2.1, σ.2.2.2.2.2.2.2.2.2.2.2.2.2.2.2.2.2), bI (s_sw σ x.toNatClampNeg ≠ 0)) (σ, eN)
noncomputable def sTl (σ : St) (x y : Int32) : St × Int32 := @ite _ (gTl x y) (Classical.propDecidable _) ((σ.1, σ.2.1, σ.2.2.1, upd (s_it σ) x.toNatClampNeg 1, upd (s_tu σ) x.toNatClampNeg y, σ.2.2.2.2.2.1, σ.2.2.2.2.2.2.1, σ.2.2.2.2.2.2.2.1, σ.2.2.2.2.2.2.2.2.1, σ.2.2.2.2.2.2.2.2.2.1, σ.2.2.2.2.2.2.2.2.2.2.1, σ.2.2.2.2.2.2.2.2.2.2.2.1, σ.2.2.2.2.2.2.2.2.2.2.2.2.1, σ.2.2.2.2.2.2.2.2.2.2.2.2.2.1, σ.2.2.2.2.2.2.2.2.2.2.2.2.2.2.1, σ.2.2.2.2.2.2.2.2.2.2.2.2.2.2.2.1, σ.2.2.2.2.2.2.2.2.2.2.2.2.2.2.2.2.1, σ.2.2.2.2.2.2.2.2.2.2.2.2.2.2.2.2.2), bI (s_it σ x.toNatClampNeg ≠ 0)) (σ, eN)
noncomputable def sCl (σ : St) (x : Int32) : St × Int32 := @ite _ (gCl σ x) (Classical.propDecidable _) (closeS x σ, bI (over (cV σ))) (σ, eN)
noncomputable def sPr (σ : St) (x : Int32) : St × Dm := @ite _ (gPr x) (Classical.propDecidable _) ((σ.1, σ.2.1, σ.2.2.1, σ.2.2.2.1, σ.2.2.2.2.1, σ.2.2.2.2.2.1, σ.2.2.2.2.2.2.1, σ.2.2.2.2.2.2.2.1, dt (FP.ddiv (FP.i2d x) 4616189618054758400), σ.2.2.2.2.2.2.2.2.2.1, σ.2.2.2.2.2.2.2.2.2.2.1, σ.2.2.2.2.2.2.2.2.2.2.2.1, σ.2.2.2.2.2.2.2.2.2.2.2.2.1, σ.2.2.2.2.2.2.2.2.2.2.2.2.2.1, σ.2.2.2.2.2.2.2.2.2.2.2.2.2.2.1, σ.2.2.2.2.2.2.2.2.2.2.2.2.2.2.2.1, σ.2.2.2.2.2.2.2.2.2.2.2.2.2.2.2.2.1, σ.2.2.2.2.2.2.2.2.2.2.2.2.2.2.2.2.2), dt (FP.ddiv (FP.i2d x) 4616189618054758400)) (σ, eD)
def chg (σ : St) (x q y : Int32) : Dm := dMul (dSub (dI y) (s_ld σ (5 * q.toNatClampNeg + x.toNatClampNeg))) (s_lp σ q.toNatClampNeg)
noncomputable def sRe (σ : St) (x q y : Int32) : St × Dm := @ite _ (gRe σ x q y) (Classical.propDecidable _) ((σ.1, σ.2.1, σ.2.2.1, σ.2.2.2.1, σ.2.2.2.2.1, upd (s_lk σ) (5 * q.toNatClampNeg + x.toNatClampNeg) 1, σ.2.2.2.2.2.2.1, σ.2.2.2.2.2.2.2.1, σ.2.2.2.2.2.2.2.2.1, σ.2.2.2.2.2.2.2.2.2.1, va_up (s_bi σ) x.toNatClampNeg (dAdd (s_bi σ x.toNatClampNeg) (chg σ x q y)), σ.2.2.2.2.2.2.2.2.2.2.2.1, σ.2.2.2.2.2.2.2.2.2.2.2.2.1, va_up (s_lu σ) (5 * q.toNatClampNeg + x.toNatClampNeg) (dI y), σ.2.2.2.2.2.2.2.2.2.2.2.2.2.2.1, σ.2.2.2.2.2.2.2.2.2.2.2.2.2.2.2.1, σ.2.2.2.2.2.2.2.2.2.2.2.2.2.2.2.2.1, σ.2.2.2.2.2.2.2.2.2.2.2.2.2.2.2.2.2), chg σ x q y) (σ, eD)
noncomputable def rd (F : Nat → Dm) (σ : St) (x q : Int32) : Dm := @ite _ (gRd σ x q) (Classical.propDecidable _) (F (5 * q.toNatClampNeg + x.toNatClampNeg)) eD
noncomputable def rdZ (σ : St) (q : Int32) : Dm := @ite _ (isQ (s_n σ) q) (Classical.propDecidable _) (s_lz σ q.toNatClampNeg) eD
/-- what the methods ask of a state -/
def Ok (σ : St) : Prop := s_n σ ≤ 60 ∧ s_t σ < 5 ∧ (∀ j, s_sw σ j = 0 ∨ s_sw σ j = 1) ∧ (∀ j, s_it σ j = 0 ∨ s_it σ j = 1)
end
section
/-! WHAT HOLDS OF A STATE behind any calls, and what a close gives -/
def half (d : Dm) : Prop := qd d ∧ 0 ≤ zv d ∧ zv d ≤ 50 * U0
def whl (d : Dm) : Prop := ∃ k : Nat, k ≤ 50 ∧ d = dI (nI k)
def Inv (c : Nat) (σ : St) : Prop :=
  Ok σ ∧ (∃ hc : Nat → Nat, (∀ i, i < 5 → s_sh σ i = nI (hc i) ∧ hc i ≤ 4) ∧ hc 0 + hc 1 + hc 2 + hc 3 + hc 4 ≤ 4) ∧
  (∀ i, i < 5 → ∃ k : Nat, k ≤ 50 ∧ s_tu σ i = nI k) ∧
  prc (s_pr σ) ∧ (nb (s_so σ) ∧ 0 ≤ zv (s_so σ) ∧ zv (s_so σ) ≤ 40 * U0) ∧
  (∀ i, i < 5 → nb (s_bi σ i) ∧ zv (s_bi σ i) ≤ (c : Int) * (64 * U0) ∧ -((c : Int) * (64 * U0)) ≤ zv (s_bi σ i)) ∧
  (∀ q, q < s_n σ → prc (s_lp σ q) ∧ nb (s_lz σ q)) ∧
  (∀ j, j < 5 * s_n σ → half (s_lu σ j) ∧ (s_lk σ j ≠ 0 → whl (s_lu σ j)) ∧ half (s_ld σ j) ∧ nb (s_lf σ j) ∧ nb (s_lw σ j)) ∧
  (∀ j, 5 * s_n σ ≤ j → s_lf σ j = dZ ∧ s_lb σ j = dZ)
theorem whl_z {d : Dm} (h : whl d) : qd d ∧ ∃ k : Nat, k ≤ 50 ∧ zv d = (k : Int) * U0 := by
  obtain ⟨k, hk, rfl⟩ := h
  obtain ⟨h1, h2⟩ := qd_nI (k := k) (by omega)
  exact ⟨h1, k, hk, h2⟩
theorem k_le {k : Nat} {m : Int} (h : (k : Int) ≤ m) : (k : Int) * U0 ≤ m * U0 := Int.mul_le_mul_of_nonneg_right h (Int.le_of_lt U0_pos)
theorem k_nn (k : Nat) : 0 ≤ (k : Int) * U0 := Int.mul_nonneg (Int.natCast_nonneg _) (Int.le_of_lt U0_pos)
theorem whl_half {d : Dm} (h : whl d) : half d := by
  obtain ⟨h1, k, hk, e⟩ := whl_z h
  have := k_le (k := k) (m := 50) (by omega)
  have := k_nn k
  exact ⟨h1, by omega, by omega⟩
/-! guesses -/
theorem gst_z {K : Nat → Int32} {U : Nat → Dm} {o n : Nat} (ho : o < 5) (h : ∀ j, j < 5 * n → K j ≠ 0 → whl (U j)) : ∀ i, i ≤ n → qd (gst K U o n i).2 ∧ ∃ k : Nat, k ≤ 50 * (gst K U o n i).1 ∧ zv (gst K U o n i).2 = (k : Int) * U0
  | 0, _ => ⟨qd_dZ, 0, Nat.zero_le _, by rw [show (gst K U o n 0).2 = dZ from rfl, zv_dZ]; omega⟩
  | i + 1, hi => by
    obtain ⟨h1, k, hk, e⟩ := gst_z ho h i (by omega)
    unfold gst
    by_cases c : (gst K U o n i).1 < 2 ∧ ¬ K (5 * (n - 1 - i) + o) = 0
    · rw [if_pos c]
      obtain ⟨w1, m, hm, e2⟩ := whl_z (h (5 * (n - 1 - i) + o) (by omega) c.2)
      have a1 := k_le (k := k) (m := 50) (by omega)
      have a2 := k_nn k
      have a3 := k_le (k := m) (m := 50) (by omega)
      have a4 := k_nn m
      obtain ⟨q1, q2⟩ := qd_add h1 w1 (by omega) (by omega)
      refine ⟨q1, k + m, ?_, ?_⟩
      · show k + m ≤ 50 * ((gst K U o n i).1 + 1)
        omega
      · show zv (dAdd (gst K U o n i).2 (U (5 * (n - 1 - i) + o))) = _
        rw [q2, e, e2, Int.natCast_add, Int.add_mul]
    · rw [if_neg c]
      exact ⟨h1, k, hk, e⟩
theorem guess_z {K : Nat → Int32} {U : Nat → Dm} {o n : Nat} (ho : o < 5) (h : ∀ j, j < 5 * n → K j ≠ 0 → whl (U j)) : half (guess K U o n) := by
  have hG := G0_pos
  have hU := U0_pos
  have hUG := U0_G0
  obtain ⟨h1, k, hk, e⟩ := gst_z ho h n (Nat.le_refl _)
  have hl := gst_le K U o n n
  unfold guess
  by_cases c : (gst K U o n n).1 = 2
  · rw [if_pos c]
    rw [c] at hk
    have a1 := k_le (k := k) (m := 100) (by omega)
    have a2 := k_nn k
    have ek : (k : Int) * U0 = 2 * ((k : Int) * 34359738368 * G0) := by
      rw [hUG, ← Int.mul_assoc, show (k : Int) * 68719476736 = 2 * ((k : Int) * 34359738368) by omega, Int.mul_assoc 2]
    have ep : 4 * zv (gst K U o n n).2 = (k : Int) * 34359738368 * G0 * 8 := by
      rw [e, ek]
      omega
    obtain ⟨f1, f2, f3⟩ := dDiv_z h1.1 nb_d2 (by omega) (b := 8) (by decide) (by rw [zv_d2]; omega) (by omega)
    have e4 := rq_ex (by decide) f2 ep (by omega) (by omega)
    have e5 : zv (dDiv (gst K U o n n).2 d2) = 2 * (k : Int) * Q0 := by
      rw [e4, k_G0, show 2 * (k : Int) * 17179869184 = (k : Int) * 34359738368 by omega]
    have e6 : 2 * zv (dDiv (gst K U o n n).2 d2) = (k : Int) * U0 := by
      rw [e4, ek]
    exact ⟨⟨f1, _, e5⟩, f3, by omega⟩
  · rw [if_neg c]
    have a1 := k_le (k := k) (m := 50) (by omega)
    have a2 := k_nn k
    exact ⟨h1, by omega, by omega⟩
theorem use0_z {it tu K : Nat → Int32} {U : Nat → Dm} {n : Nat} (h : ∀ j, j < 5 * n → K j ≠ 0 → whl (U j)) (ht : ∀ i, i < 5 → ∃ k : Nat, k ≤ 50 ∧ tu i = nI k) : fine (use0 it tu K U n) ∧ ∀ i, i < 5 → it i ≠ 0 → whl (use0 it tu K U n i) := by
  have key : ∀ i, i < 5 → it i ≠ 0 → whl (use0 it tu K U n i) := by
    intro i hi c
    obtain ⟨k, hk, e⟩ := ht i hi
    refine ⟨k, hk, ?_⟩
    unfold use0
    rw [if_neg c, e]
  refine ⟨fun i hi => ?_, key⟩
  by_cases c : it i = 0
  · have e : use0 it tu K U n i = guess K U i n := by unfold use0; rw [if_pos c]
    rw [e]
    exact guess_z hi h
  · exact whl_half (key i hi c)
/-! shedding -/
def shR (T0 : Nat → Int32) (V0 : Nat → Dm) (T : Nat → Int32) (V : Nat → Dm) : Prop := ∀ o, o < 5 → (T o = T0 o ∧ V o = V0 o) ∨ (T o = T0 o + 1 ∧ V o = dZ ∧ dCmp (V0 o) dZ = some .gt)
theorem shd_R {S T0 : Nat → Int32} {V0 : Nat → Dm} : ∀ (f : Nat) (T : Nat → Int32) (V : Nat → Dm), shR T0 V0 T V → shR T0 V0 (shd S f T V).1 (shd S f T V).2
  | 0, T, V, h => h
  | f + 1, T, V, h => by
    unfold shd
    by_cases c : over V
    · rw [if_pos c]
      cases e : nx S T V 5 with
      | none => exact h
      | some o =>
        dsimp only
        obtain ⟨ho, hm⟩ := nx_lt e
        refine shd_R f _ _ (fun i hi => ?_)
        by_cases ci : i = o
        · subst ci
          right
          rcases h i hi with ⟨a1, a2⟩ | ⟨-, a2, -⟩
          · refine ⟨by unfold upd; rw [if_pos rfl, a1], up_at _ _ _, by rw [← a2]; exact hm.2⟩
          · have := hm.2
            rw [a2] at this
            exact absurd this (by decide +kernel)
        · rw [show upd T o (T o + 1) i = T i by unfold upd; rw [if_neg ci], up_ne _ _ ci]
          exact h i hi
    · rw [if_neg c]; exact h
theorem shR_fine {T0 T : Nat → Int32} {V0 V : Nat → Dm} (h : shR T0 V0 T V) (hf : fine V0) : fine V := by
  intro i hi
  have hU := U0_pos
  rcases h i hi with ⟨-, e⟩ | ⟨-, e, -⟩
  · rw [e]; exact hf i hi
  · rw [e, zv_dZ]; exact ⟨qd_dZ, by omega, by omega⟩
theorem tnx_lt {t : Nat} (ht : t < 5) : ∀ y : Option Nat, tnx t y < 5
  | none => ht
  | some o => Nat.mod_lt _ (by decide)
theorem kB_t {sun : Int32} {sh : Nat → Int32} {V : Nat → Dm} {S : Dm} {G : Nat → Dm} {t n : Nat} (ht : t < 5) : (kB sun sh V S G t n).2.2.2 < 5 := by
  unfold kB gB
  split
  · exact tnx_lt ht _
  · exact ht
theorem gbs_out {t b : Nat} {V : Nat → Dm} {B : Dm} {G : Nat → Dm} {j : Nat} (hj : b + 5 ≤ j) : ∀ k, (gbs t b V B G k).2.2.1 j = G j
  | 0 => rfl
  | k + 1 => by
    show va_up (gbs t b V B G k).2.2.1 (b + (t + k) % 5) _ j = _
    have : (t + k) % 5 < 5 := Nat.mod_lt _ (by decide)
    rw [up_ne _ _ (by omega)]
    exact gbs_out hj k
theorem kB_out {sun : Int32} {sh : Nat → Int32} {V : Nat → Dm} {S : Dm} {G : Nat → Dm} {t n j : Nat} (hj : 5 * n + 5 ≤ j) : (kB sun sh V S G t n).2.2.1 j = G j := by
  unfold kB gB
  split
  · exact gbs_out hj 5
  · rfl
theorem kF_out {sun : Int32} {sh : Nat → Int32} {V : Nat → Dm} {n j : Nat} {F : Nat → Dm} (hj : ¬ (5 * n ≤ j ∧ j < 5 * n + 5)) : kF sun sh V n F j = F j := by
  unfold kF fE
  by_cases c : noNeed (kV2 sun sh V)
  · rw [if_pos c]; unfold fS po; rw [if_neg hj]
  · rw [if_neg c]; unfold po; rw [if_neg hj]; unfold fS po; rw [if_neg hj]
/-- what the law adds up of a closed quarter -/
def restS (sun : Int32) (σ : St) : Nat → Dm
  | 0 => dSub (dSub (dI sun) (s_lz (closeS sun σ) (s_n σ))) (dSub (s_so (closeS sun σ)) (s_so σ))
  | k + 1 => dSub (restS sun σ k) (dAdd (s_lf (closeS sun σ) (5 * s_n σ + k)) (s_lb (closeS sun σ) (5 * s_n σ + k)))
def clF (sun : Int32) (σ : St) : Prop :=
  (∀ o, o < 5 → (s_ts (closeS sun σ) o = s_ts σ o ∧ cV σ o = s_lu (closeS sun σ) (5 * s_n σ + o)) ∨ (s_ts (closeS sun σ) o = s_ts σ o + 1 ∧ cV σ o = dZ ∧ dCmp (s_lu (closeS sun σ) (5 * s_n σ + o)) dZ = some .gt)) ∧
  isNr (restS sun σ 5) dZ ∧
  (∀ o, o < 5 → isNr (cV σ o) (dAdd (dAdd (s_lf (closeS sun σ) (5 * s_n σ + o)) (s_lb (closeS sun σ) (5 * s_n σ + o))) (s_lw (closeS sun σ) (5 * s_n σ + o)))) ∧
  ∀ o, o < 5 → isNr (s_bi (closeS sun σ) o) (dSub (dAdd (s_bi σ o) (dMul (s_lw (closeS sun σ) (5 * s_n σ + o)) (s_pr σ))) (dDiv (dMul (s_lz (closeS sun σ) (s_n σ)) (s_pr σ)) d10))
theorem sub_step {R x y : Dm} (hR : nb R) (hx : nb x) (hy : nb y) (r1 : zv R ≤ 1000 * U0) (r2 : -(1000 * U0) ≤ zv R) (x0 : 0 ≤ zv x) (x1 : zv x ≤ 60 * U0) (y0 : 0 ≤ zv y) (y1 : zv y ≤ 60 * U0) : nb (dSub R (dAdd x y)) ∧ zv (dSub R (dAdd x y)) ≤ zv R - zv x - zv y + 2 * G0 ∧ zv R - zv x - zv y ≤ zv (dSub R (dAdd x y)) + 2 * G0 := by
  have hG := G0_pos
  have hUG := U0_G0
  obtain ⟨a1, a2⟩ := dAdd_z hx hy (by omega) (by omega)
  have A1 := (rq1 a2).1
  have A2 := (rq1 a2).2.1
  obtain ⟨b1, b2⟩ := dSub_z hR a1 (by omega) (by omega)
  have B1 := (rq1 b2).1
  have B2 := (rq1 b2).2.1
  exact ⟨b1, by omega, by omega⟩
set_option maxHeartbeats 1000000 in
theorem close_ok {c : Nat} {σ : St} {s : Nat} (hc : c ≤ 1000) (I : Inv c σ) (hn : s_n σ < 60) (hs : s ≤ 100) : Inv (c + 1) (closeS (nI s) σ) ∧ clF (nI s) σ := by
  have hG := G0_pos
  have hU := U0_pos
  have hUG := U0_G0
  obtain ⟨⟨o1, o2, o3, o4⟩, ⟨hcn, hsh, hsum⟩, htu, hpr, hso, hbi, hq, hsl, hout⟩ := I
  obtain ⟨hu1, hu2⟩ := use0_z (it := s_it σ) (tu := s_tu σ) (K := s_lk σ) (U := s_lu σ) (n := s_n σ) (fun j hj hk => (hsl j hj).2.1 hk) htu
  have hR : shR (s_ts σ) (use0 (s_it σ) (s_tu σ) (s_lk σ) (s_lu σ) (s_n σ)) (cT (s_sw σ) (s_ts σ) (s_it σ) (s_tu σ) (s_lk σ) (s_lu σ) (s_n σ)).1 (cV σ) := shd_R 5 _ _ (fun o ho => Or.inl ⟨rfl, rfl⟩)
  have hV := shR_fine hR hu1
  obtain ⟨z1, z2, z3, z4, z5, z6, z7⟩ := sun_z (F := s_lf σ) (n := s_n σ) hs hsh hsum hV (fun i hi => (hout _ (by omega)).1)
  obtain ⟨t1, t2, t3, t4, t5, t6, t7, t8⟩ := store_z hso.1 hso.2.1 hso.2.2 z3 z4 z5
  obtain ⟨g1, g2, g3, g4, g5⟩ := gB_z (n := s_n σ) (L := kL2 (nI s) (s_sh σ) (cV σ)) (G := s_lb σ) o2 z1 ⟨t1, t2, t3⟩ (fun i hi => (hout _ (by omega)).2)
  -- the names of what comes of it
  have eK : gB (s_t σ) (s_n σ) (kV3 (nI s) (s_sh σ) (cV σ)) (kL2 (nI s) (s_sh σ) (cV σ)) (soN (s_so σ) (kL2 (nI s) (s_sh σ) (cV σ))) (s_lb σ) = cK (nI s) σ := rfl
  rw [eK] at g1 g2 g3 g4 g5
  have eZ : s_lz (closeS (nI s) σ) (s_n σ) = szN (s_so σ) (kL2 (nI s) (s_sh σ) (cV σ)) := up_at _ _ _
  have eS : s_so (closeS (nI s) σ) = (cK (nI s) σ).2.1 := rfl
  have eF : ∀ j, s_lf (closeS (nI s) σ) j = kF (nI s) (s_sh σ) (cV σ) (s_n σ) (s_lf σ) j := fun j => rfl
  have eB : ∀ j, s_lb (closeS (nI s) σ) j = (cK (nI s) σ).2.2.1 j := fun j => rfl
  have eW : ∀ o, o < 5 → s_lw (closeS (nI s) σ) (5 * s_n σ + o) = (cK (nI s) σ).1 o := fun o ho => po_in _ _ ho
  have eU : ∀ o, o < 5 → s_lu (closeS (nI s) σ) (5 * s_n σ + o) = use0 (s_it σ) (s_tu σ) (s_lk σ) (s_lu σ) (s_n σ) o := fun o ho => po_in _ _ ho
  have eD : ∀ o, o < 5 → s_ld (closeS (nI s) σ) (5 * s_n σ + o) = cV σ o := fun o ho => po_in _ _ ho
  have eL : ∀ o, o < 5 → s_lk (closeS (nI s) σ) (5 * s_n σ + o) = s_it σ o := fun o ho => po_in _ _ ho
  have eI : ∀ o, o < 5 → s_bi (closeS (nI s) σ) o = dSub (dAdd (s_bi σ o) (dMul ((cK (nI s) σ).1 o) (s_pr σ))) (dDiv (dMul (szN (s_so σ) (kL2 (nI s) (s_sh σ) (cV σ))) (s_pr σ)) d10) := by
    intro o ho
    have e1 : s_bi (closeS (nI s) σ) (0 + o) = dSub (dAdd (s_bi σ o) (dMul ((cK (nI s) σ).1 o) (s_pr σ))) (dDiv (dMul (s_lz (closeS (nI s) σ) (s_n σ)) (s_pr σ)) d10) := by
      show kI (nI s) (s_sh σ) (cV σ) (s_so σ) (s_lz σ) (s_bi σ) (s_pr σ) (s_lb σ) (s_t σ) (s_n σ) (0 + o) = _
      unfold kI
      exact po_in (b := 0) _ _ ho
    rw [Nat.zero_add, eZ] at e1
    exact e1
  have hbz : ∀ o, o < 5 → nb (s_bi (closeS (nI s) σ) o) ∧ zv (s_bi (closeS (nI s) σ) o) ≤ ((c + 1 : Nat) : Int) * (64 * U0) ∧ -(((c + 1 : Nat) : Int) * (64 * U0)) ≤ zv (s_bi (closeS (nI s) σ) o) := by
    intro o ho
    rw [eI o ho]
    exact bill_z hc (hbi o ho) (g1 o ho) hpr ⟨t4, t5, t6⟩
  have hblk : ∀ j, 5 * s_n σ ≤ j → j < 5 * (s_n σ + 1) → ∃ o, o < 5 ∧ j = 5 * s_n σ + o := fun j h1 h2 => ⟨j - 5 * s_n σ, by omega, by omega⟩
  refine ⟨⟨⟨by show s_n σ + 1 ≤ 60; omega, kB_t o2, o3, fun j => ?_⟩, ⟨hcn, hsh, hsum⟩, htu, hpr, g2, hbz, fun q hq2 => ?_, fun j hj => ?_, fun j hj => ?_⟩, fun o ho => ?_, ?_, fun o ho => ?_, fun o ho => ?_⟩
  · show po 0 5 (s_it σ) (fun _ => 0) j = 0 ∨ po 0 5 (s_it σ) (fun _ => 0) j = 1
    unfold po
    split
    · exact Or.inl rfl
    · exact o4 j
  · have hq2 : q < s_n σ + 1 := hq2
    by_cases e : q = s_n σ
    · subst e
      refine ⟨?_, by rw [eZ]; exact t4⟩
      show prc (va_up (s_lp σ) (s_n σ) (s_pr σ) (s_n σ))
      rw [up_at]; exact hpr
    · obtain ⟨a1, a2⟩ := hq q (by omega)
      refine ⟨?_, ?_⟩
      · show prc (va_up (s_lp σ) (s_n σ) (s_pr σ) q)
        rw [up_ne _ _ e]; exact a1
      · show nb (va_up (s_lz σ) (s_n σ) _ q)
        rw [up_ne _ _ e]; exact a2
  · have hj : j < 5 * (s_n σ + 1) := hj
    by_cases c1 : j < 5 * s_n σ
    · obtain ⟨a1, a2, a3, a4, a5⟩ := hsl j c1
      have b1 : s_lu (closeS (nI s) σ) j = s_lu σ j := po_out _ _ c1
      have b2 : s_lk (closeS (nI s) σ) j = s_lk σ j := po_out _ _ c1
      have b3 : s_ld (closeS (nI s) σ) j = s_ld σ j := po_out _ _ c1
      have b4 : s_lf (closeS (nI s) σ) j = s_lf σ j := kF_out (by omega)
      have b5 : s_lw (closeS (nI s) σ) j = s_lw σ j := po_out _ _ c1
      rw [b1, b2, b3, b4, b5]
      exact ⟨a1, a2, a3, a4, a5⟩
    · obtain ⟨o, ho, rfl⟩ := hblk j (by omega) hj
      rw [eU o ho, eL o ho, eD o ho, eF, eW o ho]
      exact ⟨hu1 o ho, fun h => hu2 o ho h, hV o ho, (z2 o ho).1, (g1 o ho).1⟩
  · have hj : 5 * (s_n σ + 1) ≤ j := hj
    refine ⟨?_, ?_⟩
    · rw [eF, kF_out (by omega)]; exact (hout j (by omega)).1
    · rw [eB, kB_out (by omega)]; exact (hout j (by omega)).2
  · rw [eU o ho]
    rcases hR o ho with ⟨a1, a2⟩ | ⟨a1, a2, a3⟩
    · exact Or.inl ⟨a1, a2⟩
    · exact Or.inr ⟨a1, a2, a3⟩
  · -- nothing rests
    obtain ⟨y1, y2⟩ := qd_nI (k := s) (by omega)
    have sb := k_le (k := s) (m := 100) (by omega)
    have sn := k_nn s
    have hF : ∀ o, o < 5 → nb (s_lf (closeS (nI s) σ) (5 * s_n σ + o)) ∧ 0 ≤ zv (s_lf (closeS (nI s) σ) (5 * s_n σ + o)) ∧ zv (s_lf (closeS (nI s) σ) (5 * s_n σ + o)) ≤ 60 * U0 := by
      intro o ho
      rw [eF]
      obtain ⟨a1, a2, a3, a4⟩ := z2 o ho
      obtain ⟨b1, b2, b3⟩ := z1 o ho
      obtain ⟨c1, c2, c3⟩ := hV o ho
      exact ⟨a1, a2, by omega⟩
    have hB : ∀ o, o < 5 → nb (s_lb (closeS (nI s) σ) (5 * s_n σ + o)) ∧ 0 ≤ zv (s_lb (closeS (nI s) σ) (5 * s_n σ + o)) ∧ zv (s_lb (closeS (nI s) σ) (5 * s_n σ + o)) ≤ 60 * U0 := by
      intro o ho
      rw [eB]
      obtain ⟨a1, a2, a3, -⟩ := g3 o ho
      exact ⟨a1, a2, by omega⟩
    obtain ⟨h1, h2, h3⟩ := hso
    obtain ⟨k1, k2, k3⟩ := g2
    obtain ⟨p1, p2⟩ := dSub_z y1.1 t4 (by omega) (by omega)
    have P1 := (rq1 p2).1
    have P2 := (rq1 p2).2.1
    obtain ⟨q1, q2⟩ := dSub_z k1 h1 (by omega) (by omega)
    have Q1 := (rq1 q2).1
    have Q2 := (rq1 q2).2.1
    obtain ⟨r1, r2⟩ := dSub_z p1 q1 (by omega) (by omega)
    have R1 := (rq1 r2).1
    have R2 := (rq1 r2).2.1
    have e0 : restS (nI s) σ 0 = dSub (dSub (dI (nI s)) (szN (s_so σ) (kL2 (nI s) (s_sh σ) (cV σ)))) (dSub (cK (nI s) σ).2.1 (s_so σ)) := by
      rw [← eZ]; rfl
    rw [← e0] at r1 R1 R2
    have es : ∀ k, restS (nI s) σ (k + 1) = dSub (restS (nI s) σ k) (dAdd (s_lf (closeS (nI s) σ) (5 * s_n σ + k)) (s_lb (closeS (nI s) σ) (5 * s_n σ + k))) := fun k => rfl
    obtain ⟨F0, f0, f0'⟩ := hF 0 (by omega)
    obtain ⟨B0, b0, b0'⟩ := hB 0 (by omega)
    obtain ⟨w0, v0, v0'⟩ := sub_step r1 F0 B0 (by omega) (by omega) f0 f0' b0 b0'
    rw [← es 0] at w0 v0 v0'
    obtain ⟨F1, f1, f1'⟩ := hF 1 (by omega)
    obtain ⟨B1, b1, b1'⟩ := hB 1 (by omega)
    obtain ⟨w1, v1, v1'⟩ := sub_step w0 F1 B1 (by omega) (by omega) f1 f1' b1 b1'
    rw [← es 1] at w1 v1 v1'
    obtain ⟨F2, f2, f2'⟩ := hF 2 (by omega)
    obtain ⟨B2, b2, b2'⟩ := hB 2 (by omega)
    obtain ⟨w2, v2, v2'⟩ := sub_step w1 F2 B2 (by omega) (by omega) f2 f2' b2 b2'
    rw [← es 2] at w2 v2 v2'
    obtain ⟨F3, f3, f3'⟩ := hF 3 (by omega)
    obtain ⟨B3, b3, b3'⟩ := hB 3 (by omega)
    obtain ⟨w3, v3, v3'⟩ := sub_step w2 F3 B3 (by omega) (by omega) f3 f3' b3 b3'
    rw [← es 3] at w3 v3 v3'
    obtain ⟨F4, f4, f4'⟩ := hF 4 (by omega)
    obtain ⟨B4, b4, b4'⟩ := hB 4 (by omega)
    obtain ⟨w4, v4, v4'⟩ := sub_step w3 F4 B4 (by omega) (by omega) f4 f4' b4 b4'
    rw [← es 4] at w4 v4 v4'
    simp only [Nat.zero_add, Nat.reduceAdd] at w4 v4 v4' v3 v3' v2 v2' v1 v1' v0 v0'
    simp only [eF, eB] at v0 v0' v1 v1' v2 v2' v3 v3' v4 v4'
    refine near_z w4 nb_dZ ?_ ?_
    · rw [zv_dZ]; omega
    · rw [zv_dZ]; omega
  · rw [eF, eB, eW o ho]
    obtain ⟨a1, a2, a3, a4⟩ := z2 o ho
    obtain ⟨b1, b2, b3, b4, b5⟩ := g3 o ho
    obtain ⟨c1, c2, c3⟩ := g1 o ho
    obtain ⟨d1, d2, d3⟩ := hV o ho
    obtain ⟨e1, e2, e3⟩ := z1 o ho
    obtain ⟨m1, m2⟩ := dAdd_z a1 b1 (by omega) (by omega)
    have M1 := (rq1 m2).1
    have M2 := (rq1 m2).2.1
    obtain ⟨n1, n2⟩ := dAdd_z m1 c1 (by omega) (by omega)
    have N1 := (rq1 n2).1
    have N2 := (rq1 n2).2.1
    exact near_z d1.1 n1 (by omega) (by omega)
  · have := hbz o ho
    rw [eW o ho, eZ, ← eI o ho]
    exact near_z this.1 this.1 (by omega) (by omega)
end
