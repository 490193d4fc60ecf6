section
-- ===== PART A: goes FIRST, ahead of the names: the tables' words, and 'selects' of the private methods out of them =====
/-- a private method of a class that the tables say can be made, by its rows of tables_1 -/
def lw_okq (q : MethodName × Nat) : Prop := (q.1.cls ≠ "java/lang/invoke/MethodHandle" ∧ q.1.cls ≠ "java/lang/invoke/VarHandle") ∧ Cond.instantiable q.1.cls q.2 ∈ tables_1 ∧ Cond.privateMethod q.1 ∈ tables_1 ∧ Cond.instanceMethod q.1 ∈ tables_1
theorem lw_p0 : lw_okq (⟨"java/lang/Throwable", "fillInStackTrace", "(I)Ljava/lang/Throwable;"⟩, 6) := ⟨⟨by decide +kernel, by decide +kernel⟩, List.mem_of_getElem? (i := 166) (by decide +kernel), List.mem_of_getElem? (i := 164) (by decide +kernel), List.mem_of_getElem? (i := 165) (by decide +kernel)⟩
theorem lw_p1 : lw_okq (⟨"GridCommons", "sumOfShares", "()I"⟩, 12) := ⟨⟨by decide +kernel, by decide +kernel⟩, List.mem_of_getElem? (i := 12) (by decide +kernel), List.mem_of_getElem? (i := 200) (by decide +kernel), List.mem_of_getElem? (i := 201) (by decide +kernel)⟩
theorem lw_p2 : lw_okq (⟨"GridCommons", "writeUses", "(I)V"⟩, 12) := ⟨⟨by decide +kernel, by decide +kernel⟩, List.mem_of_getElem? (i := 12) (by decide +kernel), List.mem_of_getElem? (i := 250) (by decide +kernel), List.mem_of_getElem? (i := 251) (by decide +kernel)⟩
theorem lw_p3 : lw_okq (⟨"GridCommons", "shedUntilCarried", "()V"⟩, 12) := ⟨⟨by decide +kernel, by decide +kernel⟩, List.mem_of_getElem? (i := 12) (by decide +kernel), List.mem_of_getElem? (i := 263) (by decide +kernel), List.mem_of_getElem? (i := 264) (by decide +kernel)⟩
theorem lw_p4 : lw_okq (⟨"GridCommons", "nextToShed", "()I"⟩, 12) := ⟨⟨by decide +kernel, by decide +kernel⟩, List.mem_of_getElem? (i := 12) (by decide +kernel), List.mem_of_getElem? (i := 267) (by decide +kernel), List.mem_of_getElem? (i := 268) (by decide +kernel)⟩
theorem lw_p5 : lw_okq (⟨"GridCommons", "isOverLine", "()Z"⟩, 12) := ⟨⟨by decide +kernel, by decide +kernel⟩, List.mem_of_getElem? (i := 12) (by decide +kernel), List.mem_of_getElem? (i := 271) (by decide +kernel), List.mem_of_getElem? (i := 272) (by decide +kernel)⟩
theorem lw_p6 : lw_okq (⟨"GridCommons", "sumOfNeeds", "()D"⟩, 12) := ⟨⟨by decide +kernel, by decide +kernel⟩, List.mem_of_getElem? (i := 12) (by decide +kernel), List.mem_of_getElem? (i := 275) (by decide +kernel), List.mem_of_getElem? (i := 276) (by decide +kernel)⟩
theorem lw_p7 : lw_okq (⟨"GridCommons", "writeUsed", "(I)V"⟩, 12) := ⟨⟨by decide +kernel, by decide +kernel⟩, List.mem_of_getElem? (i := 12) (by decide +kernel), List.mem_of_getElem? (i := 280) (by decide +kernel), List.mem_of_getElem? (i := 281) (by decide +kernel)⟩
theorem lw_p8 : lw_okq (⟨"GridCommons", "giveByShare", "(II)V"⟩, 12) := ⟨⟨by decide +kernel, by decide +kernel⟩, List.mem_of_getElem? (i := 12) (by decide +kernel), List.mem_of_getElem? (i := 284) (by decide +kernel), List.mem_of_getElem? (i := 285) (by decide +kernel)⟩
theorem lw_p9 : lw_okq (⟨"GridCommons", "giveSun", "(IID)V"⟩, 12) := ⟨⟨by decide +kernel, by decide +kernel⟩, List.mem_of_getElem? (i := 12) (by decide +kernel), List.mem_of_getElem? (i := 291) (by decide +kernel), List.mem_of_getElem? (i := 292) (by decide +kernel)⟩
theorem lw_p10 : lw_okq (⟨"GridCommons", "giveByNeed", "(I)V"⟩, 12) := ⟨⟨by decide +kernel, by decide +kernel⟩, List.mem_of_getElem? (i := 12) (by decide +kernel), List.mem_of_getElem? (i := 295) (by decide +kernel), List.mem_of_getElem? (i := 296) (by decide +kernel)⟩
theorem lw_p11 : lw_okq (⟨"GridCommons", "storeOrSell", "(I)V"⟩, 12) := ⟨⟨by decide +kernel, by decide +kernel⟩, List.mem_of_getElem? (i := 12) (by decide +kernel), List.mem_of_getElem? (i := 299) (by decide +kernel), List.mem_of_getElem? (i := 300) (by decide +kernel)⟩
theorem lw_p12 : lw_okq (⟨"GridCommons", "giveFromBattery", "(I)V"⟩, 12) := ⟨⟨by decide +kernel, by decide +kernel⟩, List.mem_of_getElem? (i := 12) (by decide +kernel), List.mem_of_getElem? (i := 304) (by decide +kernel), List.mem_of_getElem? (i := 305) (by decide +kernel)⟩
theorem lw_p13 : lw_okq (⟨"GridCommons", "writeBills", "(I)V"⟩, 12) := ⟨⟨by decide +kernel, by decide +kernel⟩, List.mem_of_getElem? (i := 12) (by decide +kernel), List.mem_of_getElem? (i := 314) (by decide +kernel), List.mem_of_getElem? (i := 315) (by decide +kernel)⟩
theorem lw_p14 : lw_okq (⟨"GridCommons", "requireQuarter", "(I)V"⟩, 12) := ⟨⟨by decide +kernel, by decide +kernel⟩, List.mem_of_getElem? (i := 12) (by decide +kernel), List.mem_of_getElem? (i := 327) (by decide +kernel), List.mem_of_getElem? (i := 328) (by decide +kernel)⟩
theorem lw_p15 : lw_okq (⟨"GridCommons", "closedSlot", "(II)I"⟩, 12) := ⟨⟨by decide +kernel, by decide +kernel⟩, List.mem_of_getElem? (i := 12) (by decide +kernel), List.mem_of_getElem? (i := 355) (by decide +kernel), List.mem_of_getElem? (i := 356) (by decide +kernel)⟩
def lw_privs_1 : List (MethodName × Nat) := [(⟨"java/lang/Throwable", "fillInStackTrace", "(I)Ljava/lang/Throwable;"⟩, 6), (⟨"GridCommons", "sumOfShares", "()I"⟩, 12), (⟨"GridCommons", "writeUses", "(I)V"⟩, 12), (⟨"GridCommons", "shedUntilCarried", "()V"⟩, 12), (⟨"GridCommons", "nextToShed", "()I"⟩, 12), (⟨"GridCommons", "isOverLine", "()Z"⟩, 12), (⟨"GridCommons", "sumOfNeeds", "()D"⟩, 12), (⟨"GridCommons", "writeUsed", "(I)V"⟩, 12), (⟨"GridCommons", "giveByShare", "(II)V"⟩, 12), (⟨"GridCommons", "giveSun", "(IID)V"⟩, 12), (⟨"GridCommons", "giveByNeed", "(I)V"⟩, 12), (⟨"GridCommons", "storeOrSell", "(I)V"⟩, 12), (⟨"GridCommons", "giveFromBattery", "(I)V"⟩, 12), (⟨"GridCommons", "writeBills", "(I)V"⟩, 12), (⟨"GridCommons", "requireQuarter", "(I)V"⟩, 12), (⟨"GridCommons", "closedSlot", "(II)I"⟩, 12)]
theorem lw_r1 : ∀ q ∈ lw_privs_1, lw_okq q := List.forall_mem_cons.mpr ⟨lw_p0, List.forall_mem_cons.mpr ⟨lw_p1, List.forall_mem_cons.mpr ⟨lw_p2, List.forall_mem_cons.mpr ⟨lw_p3, List.forall_mem_cons.mpr ⟨lw_p4, List.forall_mem_cons.mpr ⟨lw_p5, List.forall_mem_cons.mpr ⟨lw_p6, List.forall_mem_cons.mpr ⟨lw_p7, List.forall_mem_cons.mpr ⟨lw_p8, List.forall_mem_cons.mpr ⟨lw_p9, List.forall_mem_cons.mpr ⟨lw_p10, List.forall_mem_cons.mpr ⟨lw_p11, List.forall_mem_cons.mpr ⟨lw_p12, List.forall_mem_cons.mpr ⟨lw_p13, List.forall_mem_cons.mpr ⟨lw_p14, List.forall_mem_cons.mpr ⟨lw_p15, fun _ h => absurd h List.not_mem_nil⟩⟩⟩⟩⟩⟩⟩⟩⟩⟩⟩⟩⟩⟩⟩⟩
theorem lw_p16 : lw_okq (⟨"GridCommonsModel", "others", "(I)I"⟩, 20) := ⟨⟨by decide +kernel, by decide +kernel⟩, List.mem_of_getElem? (i := 401) (by decide +kernel), List.mem_of_getElem? (i := 483) (by decide +kernel), List.mem_of_getElem? (i := 484) (by decide +kernel)⟩
theorem lw_p17 : lw_okq (⟨"GridCommonsModel", "holds", "(I)Z"⟩, 20) := ⟨⟨by decide +kernel, by decide +kernel⟩, List.mem_of_getElem? (i := 401) (by decide +kernel), List.mem_of_getElem? (i := 487) (by decide +kernel), List.mem_of_getElem? (i := 488) (by decide +kernel)⟩
theorem lw_p18 : lw_okq (⟨"GridCommonsModel", "guess", "(I)D"⟩, 20) := ⟨⟨by decide +kernel, by decide +kernel⟩, List.mem_of_getElem? (i := 401) (by decide +kernel), List.mem_of_getElem? (i := 508) (by decide +kernel), List.mem_of_getElem? (i := 509) (by decide +kernel)⟩
theorem lw_p19 : lw_okq (⟨"GridCommonsModel", "shed", "(I)Z"⟩, 20) := ⟨⟨by decide +kernel, by decide +kernel⟩, List.mem_of_getElem? (i := 401) (by decide +kernel), List.mem_of_getElem? (i := 513) (by decide +kernel), List.mem_of_getElem? (i := 514) (by decide +kernel)⟩
theorem lw_p20 : lw_okq (⟨"GridCommonsModel", "sum", "([DI)D"⟩, 20) := ⟨⟨by decide +kernel, by decide +kernel⟩, List.mem_of_getElem? (i := 401) (by decide +kernel), List.mem_of_getElem? (i := 517) (by decide +kernel), List.mem_of_getElem? (i := 518) (by decide +kernel)⟩
theorem lw_p21 : lw_okq (⟨"GridCommonsModel", "nextToShed", "(I)I"⟩, 20) := ⟨⟨by decide +kernel, by decide +kernel⟩, List.mem_of_getElem? (i := 401) (by decide +kernel), List.mem_of_getElem? (i := 522) (by decide +kernel), List.mem_of_getElem? (i := 523) (by decide +kernel)⟩
theorem lw_p22 : lw_okq (⟨"GridCommonsModel", "shares", "(II)D"⟩, 20) := ⟨⟨by decide +kernel, by decide +kernel⟩, List.mem_of_getElem? (i := 401) (by decide +kernel), List.mem_of_getElem? (i := 526) (by decide +kernel), List.mem_of_getElem? (i := 527) (by decide +kernel)⟩
theorem lw_p23 : lw_okq (⟨"GridCommonsModel", "gives", "(I)V"⟩, 20) := ⟨⟨by decide +kernel, by decide +kernel⟩, List.mem_of_getElem? (i := 401) (by decide +kernel), List.mem_of_getElem? (i := 534) (by decide +kernel), List.mem_of_getElem? (i := 535) (by decide +kernel)⟩
theorem lw_p24 : lw_okq (⟨"GridCommonsModel", "pays", "(I)V"⟩, 20) := ⟨⟨by decide +kernel, by decide +kernel⟩, List.mem_of_getElem? (i := 401) (by decide +kernel), List.mem_of_getElem? (i := 538) (by decide +kernel), List.mem_of_getElem? (i := 539) (by decide +kernel)⟩
theorem lw_p25 : lw_okq (⟨"GridCommonsModel", "errorOfReplace", "(III)I"⟩, 20) := ⟨⟨by decide +kernel, by decide +kernel⟩, List.mem_of_getElem? (i := 401) (by decide +kernel), List.mem_of_getElem? (i := 551) (by decide +kernel), List.mem_of_getElem? (i := 552) (by decide +kernel)⟩
theorem lw_p26 : lw_okq (⟨"GridCommonsModel", "isQuarter", "(I)Z"⟩, 20) := ⟨⟨by decide +kernel, by decide +kernel⟩, List.mem_of_getElem? (i := 401) (by decide +kernel), List.mem_of_getElem? (i := 555) (by decide +kernel), List.mem_of_getElem? (i := 556) (by decide +kernel)⟩
theorem lw_p27 : lw_okq (⟨"GridCommonsModel", "isAt", "(II)Z"⟩, 20) := ⟨⟨by decide +kernel, by decide +kernel⟩, List.mem_of_getElem? (i := 401) (by decide +kernel), List.mem_of_getElem? (i := 563) (by decide +kernel), List.mem_of_getElem? (i := 564) (by decide +kernel)⟩
def lw_privs_2 : List (MethodName × Nat) := [(⟨"GridCommonsModel", "others", "(I)I"⟩, 20), (⟨"GridCommonsModel", "holds", "(I)Z"⟩, 20), (⟨"GridCommonsModel", "guess", "(I)D"⟩, 20), (⟨"GridCommonsModel", "shed", "(I)Z"⟩, 20), (⟨"GridCommonsModel", "sum", "([DI)D"⟩, 20), (⟨"GridCommonsModel", "nextToShed", "(I)I"⟩, 20), (⟨"GridCommonsModel", "shares", "(II)D"⟩, 20), (⟨"GridCommonsModel", "gives", "(I)V"⟩, 20), (⟨"GridCommonsModel", "pays", "(I)V"⟩, 20), (⟨"GridCommonsModel", "errorOfReplace", "(III)I"⟩, 20), (⟨"GridCommonsModel", "isQuarter", "(I)Z"⟩, 20), (⟨"GridCommonsModel", "isAt", "(II)Z"⟩, 20)]
theorem lw_r2 : ∀ q ∈ lw_privs_2, lw_okq q := List.forall_mem_cons.mpr ⟨lw_p16, List.forall_mem_cons.mpr ⟨lw_p17, List.forall_mem_cons.mpr ⟨lw_p18, List.forall_mem_cons.mpr ⟨lw_p19, List.forall_mem_cons.mpr ⟨lw_p20, List.forall_mem_cons.mpr ⟨lw_p21, List.forall_mem_cons.mpr ⟨lw_p22, List.forall_mem_cons.mpr ⟨lw_p23, List.forall_mem_cons.mpr ⟨lw_p24, List.forall_mem_cons.mpr ⟨lw_p25, List.forall_mem_cons.mpr ⟨lw_p26, List.forall_mem_cons.mpr ⟨lw_p27, fun _ h => absurd h List.not_mem_nil⟩⟩⟩⟩⟩⟩⟩⟩⟩⟩⟩⟩
def lw_privs : List (MethodName × Nat) := lw_privs_1 ++ (lw_privs_2)
def lw_tbl : List Cond := k2_sels lw_privs ++ tables_1
theorem lw_privs_ok : ∀ q ∈ lw_privs, lw_okq q := by
  show ∀ q ∈ lw_privs_1 ++ (lw_privs_2), lw_okq q
  exact List.forall_mem_append.mpr ⟨lw_r1, lw_r2⟩
/-- the streams that the claim lets the run draw from -/
abbrev lw_cs : List Choice := [Jvm.Choice.named "NaN.bits"]
theorem lw_bits : nanBits ∈ lw_cs := by first | decide | exact List.mem_cons_self | simp [lw_cs, nanBits]
-- ===== end of PART A; then your names; then what follows =====

/-! ===== BEGIN words of one list among another's, by their places ===== -/
theorem goodIn_r {big : List Cond} (ws : List Cond) (ps : List Nat) (hp : ws = ps.filterMap (fun i => big[i]?)) (h : ws.all goodWord = true) : GoodIn big ws := by
  intro w hw
  have h1 := List.all_eq_true.mp h w hw
  rw [hp] at hw
  obtain ⟨i, -, hi⟩ := List.mem_filterMap.mp hw
  have hm : w ∈ big := by first | exact List.mem_of_getElem? hi | exact List.getElem?_mem hi
  exact ⟨hm, good_of_word h1⟩
theorem goodIn_app {big a b : List Cond} (ha : GoodIn big a) (hb : GoodIn big b) : GoodIn big (a ++ b) := fun w h => (List.mem_append.mp h).elim (ha w) (hb w)
theorem goodIn_ca {big a b : List Cond} {c : Cond} (ha : GoodIn big (c :: a)) (hb : GoodIn big b) : GoodIn big (c :: (a ++ b)) := fun w h => (List.mem_cons.mp h).elim (fun e => ha w (List.mem_cons.mpr (Or.inl e))) (fun h => (List.mem_append.mp h).elim (fun h => ha w (List.mem_cons.mpr (Or.inr h))) (hb w))
theorem goodIn_sub {big ws : List Cond} (hm : ∀ w ∈ ws, w ∈ big) (h : ws.all goodWord = true) : GoodIn big ws := fun w hw => ⟨hm w hw, good_of_word (List.all_eq_true.mp h w hw)⟩
/-! ===== END ===== -/

/-! ===== BEGIN exceptions that leave a method, and their catching by the caller (launches without stack traces) ===== -/
section VXA
/-! The laws vx_back, vx_callV, vx_callS, vx_callSW, vx_throw0, vx_throwS follow proofs of the library, with one case more: JvmDerived/Free/Laws.lean (Back.of_free), Shelf42/LK1.lean (callV, callS), Shelf/KitTraced.lean (throwNew0V, throwNewS). -/
/-- where a method has thrown q: the class by its name, the cell, what was written, the world -/
def vx_T (XC : String → State → State → Prop) (st : State) (q : Addr) (t : State) (mc ms : Nat) (free : Addr → Prop) : Prop :=
  ∃ (E : String) (ce : Cell) (L : List Loc), XC E st t ∧ t.heap[q]? = some ce ∧ ce.vm = .none ∧ st.vm.findClass E = some ce.cls ∧ st.WarmedH t.vm ∧ st.sameButNew ({ t with vm := st.vm } : State) L mc ms ∧ ∀ z ∈ L, free z.base
def vx_Q (Qc : Array Value → State → Outcome → State → Prop) (XC : String → State → State → Prop) (mc ms : Nat) (free : Addr → Prop) : Array Value → State → Outcome → State → Prop := fun a st o t =>
  (Qc a st o t ∧ ∃ L, FrameEnd st o t L mc ms ∧ ∀ q ∈ L, free q.base) ∨ ∃ q, o = .threw q ∧ vx_T XC st q t mc ms free
/-- a callee that returns or throws -/
def vx_Met (l : Launch) (y : MethodName) (ws : List Cond) (rm : Room) (Pc : Array Value → State → Prop) (Qc : Array Value → State → Outcome → State → Prop) (XC : String → State → State → Prop) (mc ms : Nat) (free : Addr → Prop) : Prop :=
  MetFree l y (headSpec ws rm) Pc (fun _ _ _ _ _ => True) (vx_Q Qc XC mc ms free)
def vx_Post (XC : String → State → State → Prop) (mc ms : Nat) (free : Addr → Prop) : Pt → Array Value → Addr → Pt → Prop := fun A a q B =>
  ∃ (g : JFrame) (mk : MethodId) (t : State) (L : List Loc) (E : String) (ce : Cell), B.U.heap = t.heap ∧ B.U.vm = t.vm ∧ XC E (A.U.calling g mk a) t ∧ t.heap[q]? = some ce ∧ ce.vm = .none ∧ A.U.vm.findClass E = some ce.cls ∧ B.locs = A.locs ++ L ∧ (∀ z ∈ L, free z.base) ∧ B.cells = A.cells + mc ∧ B.slots = A.slots + ms
def vx_Back (l : Launch) (R : Room) (p : Program) (e : Env) (below : List Frame) (s : State) (sargs : Array Value) (y : MethodName) (len W9 : Nat)
    (Pre : Pt → Array Value → Prop) (Post : Pt → Array Value → Option Value → Pt → Prop) (PostX : Pt → Array Value → Addr → Pt → Prop) : Prop :=
  ∀ (m : MethodId) (meth : Method) (c : Code) (A : Pt) (g : JFrame) (ig : Instr) (mk : MethodId) (a : Array Value),
    Stand p l e R s m sargs below meth c A.U A.locs A.cells A.slots → g.method = m → g.locals.size = c.maxLocals → decode c.code g.pc = .ok (ig, len) →
    2 * g.monitorRoom + (g.stack.map fun v => v.category).sum ≤ W9 → A.U.methodNamed? y = some mk → Pre A a →
    (∃ (v : Option Value) (B : Pt), Stand p l e R s m sargs below meth c B.U B.locs B.cells B.slots ∧ Post A a v B ∧
      Steps p.tables e below (doInvoke e (A.U.setTop g) [] mk a).1 (B.U.setTop { g with pc := g.pc + len, stack := v.toList ++ g.stack })) ∨
    (∃ (q : Addr) (B : Pt), Stand p l e R s m sargs below meth c B.U B.locs B.cells B.slots ∧ PostX A a q B ∧
      Steps p.tables e below (doInvoke e (A.U.setTop g) [] mk a).1 ((B.U.setTop g).pushFrame (.throwing q)))
section Payer
variable {l : Launch} {R : Room} {p : Program} {e : Env} {below : List Frame} {s : State} {sargs : Array Value} {y : MethodName} {len W9 : Nat}
theorem vx_back {ws : List Cond} {rm : Room} {Pc : Array Value → State → Prop} {Qc : Array Value → State → Outcome → State → Prop} {XC : String → State → State → Prop} {mc ms : Nat} {free : Addr → Prop} {bytes : ByteArray} {maxL : Nat} {ret : Option FieldType}
    (hM : vx_Met l y ws rm Pc Qc XC mc ms free) (hblind : FrameBlind Pc) (hrc : rm.cells = mc) (hrs : rm.slots = ms)
    (hframes : rm.frames + 1 ≤ R.frames) (hlocals : W9 + (maxL + 11) + rm.locals ≤ R.locals)
    (hws : ∀ w ∈ ws, ∀ a' U, s.WarmedH U.vm → w.before a' U = true) (hcode : Cond.code y bytes maxL ret ∈ ws) (hinit : ∀ a' U, s.WarmedH U.vm → (Cond.initialized y.cls).before a' U = true) :
    vx_Back l R p e below s sargs y len W9 (PreOf R mc ms Pc) (PostOf Qc mc ms free) (vx_Post XC mc ms free) := by
  intro m meth c A g ig mk a X hg hsize hdg hW hn hp
  have h1 : (headSpec ws rm).pre.before a A.U = true := atoms_intro fun w hw => hws w hw _ _ X.warmed
  have h2 : (Cond.code y bytes maxL ret).before a A.U = true := hws _ hcode _ _ X.warmed
  have h3 : (Cond.initialized y.cls).before a A.U = true := hinit _ _ X.warmed
  have h4 : A.cells + (headSpec ws rm).room.cells ≤ R.cells := by rw [show (headSpec ws rm).room.cells = mc from hrc]; exact hp.1
  have h5 : A.slots + (headSpec ws rm).room.slots ≤ R.slots := by rw [show (headSpec ws rm).room.slots = ms from hrs]; exact hp.2.1
  have hPc : Pc a (A.U.calling g mk a) := hblind _ _ _ _ hp.2.2
  obtain ⟨U, Ls, c0, s0⟩ := A
  dsimp only [Pt.U, Pt.locs, Pt.cells, Pt.slots] at h1 h2 h3 h4 h5 X hn hPc ⊢
  obtain ⟨methY, cY, hmY, hcY, -, hlY, -, -, -, -⟩ := Cond.code_spec hn h2
  obtain ⟨kY, hkY, -⟩ := className_of_methodNamed hn
  have hinitY : kY.init = .initialized := Cond.initialized_spec (findClass_of_methodNamed hn) hkY h3
  have h : At U g.method c below := by rw [hg]; exact X.here
  have hlocals9 : W9 + (maxL + 11) + (headSpec ws rm).room.locals ≤ R.locals := hlocals
  have happ : (headSpec ws rm).appliesLoose y e.platform (U.calling g mk a) = true :=
    Spec.appliesLoose_calling (g := g) h hdg hn hkY hinitY
      (X.room_calling (g := g) (R' := (headSpec ws rm).room) hsize hmY hcY hframes (by rw [hlY]; omega) h4 h5) h1
  obtain ⟨mid, hmid⟩ := h.above
  have hfr : (U.setTop g).frames = (.java g :: mid) ++ below := by rw [State.frames_setTop' g h.top, hmid]; rfl
  obtain ⟨o, s₂, hsteps, -, hend, hq⟩ := Steps.callFree hM p X.admits X.cas X.clock (acts := []) hfr happ hPc trivial
  have hq' : vx_Q Qc XC mc ms free a (U.calling g mk a) o s₂ := hq
  rw [State.frames_setTop' g h.top] at hend
  obtain ⟨g₀, hg0⟩ := Option.isSome_iff_exists.mp h.top
  obtain ⟨r, hr⟩ := State.topJava?_eq_some.mp hg0
  have hr' : (({ U with heap := s₂.heap, slotsUsed := s₂.slotsUsed } : State).setVm s₂.vm).frames = .java g₀ :: r := hr
  rcases hq' with ⟨hqc, L, hfe, hL⟩ | ⟨q, rfl, E, ce, L, hx, hce, hcv, hcl, hW₂, hsm, hL⟩
  · obtain ⟨⟨v, rfl⟩, hW₂, e2, q2, q3, q4, q5, q6⟩ := id hfe
    have e3 : s₂ = ({ (U.calling g mk a).setFrames s₂.frames with heap := s₂.heap, slotsUsed := s₂.slotsUsed } : State).setVm s₂.vm := by
      have : s₂ = ({ s₂ with vm := (U.calling g mk a).vm } : State).setVm s₂.vm := rfl
      rw [e2] at this
      exact this
    obtain ⟨c₂, i₂, len₂, hc₂, hd₂, hf₂⟩ := hend
    have hW' : U.WarmedH s₂.vm := hW₂
    have hcc : c₂ = c := by
      have h1 : s₂.code? g.method = U.code? g.method := by
        rw [State.code?_eq, State.code?_eq, hW'.alike.method?]
      exact Option.some.inj (hc₂.symm.trans (h1.trans h.code))
    subst hcc
    have hlen : len₂ = len := by rw [hdg] at hd₂; cases hd₂; rfl
    subst hlen
    have hs₂ : s₂ = (({ U with heap := s₂.heap, slotsUsed := s₂.slotsUsed } : State).setVm s₂.vm).setTop { g with pc := g.pc + len₂, stack := v.toList ++ g.stack } := by
      refine e3.trans ?_
      rw [hf₂, State.calling_eq h.top, State.setFrames_setFrames, State.setTop_of_frames _ hr', hr]
      rfl
    have hsame : U.sameButNew ({ U with heap := s₂.heap, slotsUsed := s₂.slotsUsed } : State) L mc ms := by
      refine ⟨?_, q2, q3, q4, q5, q6⟩
      obtain ⟨t, ht, -⟩ := State.frames_cons hr
      show ({ U with heap := s₂.heap, slotsUsed := s₂.slotsUsed } : State) = { U.setFrames U.frames with heap := s₂.heap, slotsUsed := s₂.slotsUsed }
      rw [State.setFrames_self ht]
    subst hg
    refine Or.inl ⟨v, ⟨(({ U with heap := s₂.heap, slotsUsed := s₂.slotsUsed } : State).setVm s₂.vm), Ls ++ L, c0 + mc, s0 + ms⟩,
      ⟨X.admits, X.cas, X.clock, X.frames, X.room, X.hears, X.method, X.code, (X.here.setHeapUsed s₂.heap s₂.slotsUsed).setVm hW'.alike, X.tail, State.WarmedH.trans X.warmed hW', X.limits, X.bytes, X.same.trans (hsame.setVm s.vm)⟩,
      ⟨g, mk, s₂, L, rfl, rfl, hqc, rfl, hL, rfl, rfl⟩, ?_⟩
    show Steps p.tables e below _ ((({ U with heap := s₂.heap, slotsUsed := s₂.slotsUsed } : State).setVm s₂.vm).setTop { g with pc := g.pc + len₂, stack := v.toList ++ g.stack })
    rw [← hs₂]
    exact hsteps
  · obtain ⟨e2, q2, q3, q4, q5, q6⟩ := id hsm
    have e3 : s₂ = ({ (U.calling g mk a).setFrames s₂.frames with heap := s₂.heap, slotsUsed := s₂.slotsUsed } : State).setVm s₂.vm := by
      have : s₂ = ({ s₂ with vm := (U.calling g mk a).vm } : State).setVm s₂.vm := rfl
      rw [e2] at this
      exact this
    have hf₂ : s₂.frames = .throwing q :: .java g :: U.frames.tail := hend
    have hW' : U.WarmedH s₂.vm := hW₂
    have hs₂ : s₂ = ((({ U with heap := s₂.heap, slotsUsed := s₂.slotsUsed } : State).setVm s₂.vm).setTop g).pushFrame (.throwing q) := by
      refine e3.trans ?_
      rw [hf₂, State.calling_eq h.top, State.setFrames_setFrames, State.pushFrame, State.frames_setTop _ hr', State.setTop_of_frames _ hr', State.setFrames_setFrames, hr]
      rfl
    have hsame : U.sameButNew ({ U with heap := s₂.heap, slotsUsed := s₂.slotsUsed } : State) L mc ms := by
      refine ⟨?_, q2, q3, q4, q5, q6⟩
      obtain ⟨t, ht, -⟩ := State.frames_cons hr
      show ({ U with heap := s₂.heap, slotsUsed := s₂.slotsUsed } : State) = { U.setFrames U.frames with heap := s₂.heap, slotsUsed := s₂.slotsUsed }
      rw [State.setFrames_self ht]
    subst hg
    refine Or.inr ⟨q, ⟨(({ U with heap := s₂.heap, slotsUsed := s₂.slotsUsed } : State).setVm s₂.vm), Ls ++ L, c0 + mc, s0 + ms⟩,
      ⟨X.admits, X.cas, X.clock, X.frames, X.room, X.hears, X.method, X.code, (X.here.setHeapUsed s₂.heap s₂.slotsUsed).setVm hW'.alike, X.tail, State.WarmedH.trans X.warmed hW', X.limits, X.bytes, X.same.trans (hsame.setVm s.vm)⟩,
      ⟨g, mk, s₂, L, E, ce, rfl, rfl, hx, hce, hcv, hcl, rfl, hL, rfl, rfl⟩, ?_⟩
    show Steps p.tables e below _ (((({ U with heap := s₂.heap, slotsUsed := s₂.slotsUsed } : State).setVm s₂.vm).setTop g).pushFrame (.throwing q))
    rw [← hs₂]
    exact hsteps
end Payer
section Calls
variable {p : Program} {l : Launch} {e : Env} {R : Room} {s : State} {m : MethodId} {args : Array Value} {below : List Frame} {meth : Method} {c : Code} {T : State} {locs : List Loc} {cells slots : Nat}
theorem vx_callV (X : Stand p l e R s m args below meth c T locs cells slots) (hexec : p.tables.exec = Jvm.exec) {own C : String} {index : Nat} {y : MethodName} {bytes : ByteArray} {maxL : Nat} {ret : Option FieldType}
    (hown : s.vm.findClass own = some m.cls) (hlink : (Cond.methodLink own index y).before args s = true) (hinst : (Cond.instanceMethod y).before args s = true) (hsel : (Cond.selects C y y).before args s = true)
    (hcode : (Cond.code y bytes maxL ret).before args s = true) (hy : y.cls ≠ "java/lang/invoke/MethodHandle" ∧ y.cls ≠ "java/lang/invoke/VarHandle")
    {W9 : Nat} {Pre : Pt → Array Value → Prop} {Post : Pt → Array Value → Option Value → Pt → Prop} {PostX : Pt → Array Value → Addr → Pt → Prop} (hK : vx_Back l R p e below s args y 3 W9 Pre Post PostX)
    {b : Addr} {cellB : Cell} (hcell : T.heap[b]? = some cellB) (hobj : cellB.vm.isStatics = false) (hcls : s.vm.findClass C = some cellB.cls)
    {g : JFrame} (hg : g.method = m) (hsize : g.locals.size = c.maxLocals) {argsL rest : List Value} (hlen : ∀ sig, parseMethodDescriptor y.desc = some sig → argsL.length = sig.parameters.length)
    (hstack : g.stack = argsL.reverse ++ .ref b :: rest) (hW : 2 * g.monitorRoom + (rest.map fun v => v.category).sum ≤ W9) (hdg : decode c.code g.pc = .ok (.invokevirtual index, 3))
    (hpre : ∀ vm₁, s.WarmedH vm₁ → Pre ⟨T.setVm vm₁, locs, cells, slots⟩ (Value.ref b :: argsL).toArray) :
    (∃ (v : Option Value) (vm₁ : Vm) (B : Pt), s.WarmedH vm₁ ∧ Stand p l e R s m args below meth c B.U B.locs B.cells B.slots ∧ Post ⟨T.setVm vm₁, locs, cells, slots⟩ (Value.ref b :: argsL).toArray v B ∧
      ∀ target, Steps p.tables e below (B.U.setTop { g with pc := g.pc + 3, stack := v.toList ++ rest }) target → Steps p.tables e below (T.setTop g) target) ∨
    (∃ (q : Addr) (vm₁ : Vm) (B : Pt), s.WarmedH vm₁ ∧ Stand p l e R s m args below meth c B.U B.locs B.cells B.slots ∧ PostX ⟨T.setVm vm₁, locs, cells, slots⟩ (Value.ref b :: argsL).toArray q B ∧
      Steps p.tables e below (T.setTop g) ((B.U.setTop { g with stack := rest }).pushFrame (.throwing q))) := by
  obtain ⟨mk, methM, hnamed, hmethM, hstM, habM⟩ := Cond.instanceMethod_spec hinst
  obtain ⟨methM', cM, hmethM', -, -, -, -, -, -, hsigM⟩ := Cond.code_spec hnamed hcode
  cases hmethM.symm.trans hmethM'
  obtain ⟨c2, r2, m2, q1, q2, q3, q4, kP, hkP, hkPi⟩ := Cond.selects_spec hsel
  cases hcls.symm.trans q1
  cases (State.methodFound?_of_named hnamed hy).symm.trans q2
  cases hnamed.symm.trans q3
  have hselP : selectMethod e.platform s.vm cellB.cls mk = .method mk := by rw [Launch.admits_selectMethod X.admits]; exact q4
  obtain ⟨vm₁, X₁, hstep₁⟩ := X.invokevirtual hexec hown hlink hnamed hmethM hstM hkP hkPi hy (a := b) (cell := cellB) hcell
    (fun z h => by rw [h] at hobj; cases hobj) hselP hmethM habM hkP hkPi (g := g) hg (argsL := argsL) (rest := rest) (hlen _ hsigM) hstack hdg
  rcases hK m meth c ⟨T.setVm vm₁, locs, cells, slots⟩ { g with stack := rest } (.invokevirtual index) mk (Value.ref b :: argsL).toArray X₁ hg hsize hdg hW (X₁.named hnamed) (hpre vm₁ X₁.warmed) with ⟨v, B, X', hpost, hsteps⟩ | ⟨q, B, X', hpost, hsteps⟩
  · exact Or.inl ⟨v, vm₁, B, X₁.warmed, X', hpost, fun target h => hstep₁ _ fun acts => by rw [doInvoke_state]; exact hsteps.trans h⟩
  · exact Or.inr ⟨q, vm₁, B, X₁.warmed, X', hpost, hstep₁ _ fun acts => by rw [doInvoke_state]; exact hsteps⟩
theorem vx_callS (X : Stand p l e R s m args below meth c T locs cells slots) (hexec : p.tables.exec = Jvm.exec) {own : String} {index : Nat} {y : MethodName} {bytes : ByteArray} {maxL : Nat} {ret : Option FieldType}
    (hown : s.vm.findClass own = some m.cls) (hlink : (Cond.methodLink own index y).before args s = true) (hstat : (Cond.static y).before args s = true) (hinit : (Cond.initialized y.cls).before args s = true)
    (hcode : (Cond.code y bytes maxL ret).before args s = true) (hy : y.cls ≠ "java/lang/invoke/MethodHandle" ∧ y.cls ≠ "java/lang/invoke/VarHandle")
    {W9 : Nat} {Pre : Pt → Array Value → Prop} {Post : Pt → Array Value → Option Value → Pt → Prop} {PostX : Pt → Array Value → Addr → Pt → Prop} (hK : vx_Back l R p e below s args y 3 W9 Pre Post PostX)
    {g : JFrame} (hg : g.method = m) (hsize : g.locals.size = c.maxLocals) {argsL rest : List Value} (hlen : ∀ sig, parseMethodDescriptor y.desc = some sig → argsL.length = sig.parameters.length)
    (hstack : g.stack = argsL.reverse ++ rest) (hW : 2 * g.monitorRoom + (rest.map fun v => v.category).sum ≤ W9) (hdg : decode c.code g.pc = .ok (.invokestatic index, 3))
    (hpre : ∀ vm₁, s.WarmedH vm₁ → Pre ⟨T.setVm vm₁, locs, cells, slots⟩ argsL.toArray) :
    (∃ (v : Option Value) (vm₁ : Vm) (B : Pt), s.WarmedH vm₁ ∧ Stand p l e R s m args below meth c B.U B.locs B.cells B.slots ∧ Post ⟨T.setVm vm₁, locs, cells, slots⟩ argsL.toArray v B ∧
      ∀ target, Steps p.tables e below (B.U.setTop { g with pc := g.pc + 3, stack := v.toList ++ rest }) target → Steps p.tables e below (T.setTop g) target) ∨
    (∃ (q : Addr) (vm₁ : Vm) (B : Pt), s.WarmedH vm₁ ∧ Stand p l e R s m args below meth c B.U B.locs B.cells B.slots ∧ PostX ⟨T.setVm vm₁, locs, cells, slots⟩ argsL.toArray q B ∧
      Steps p.tables e below (T.setTop g) ((B.U.setTop { g with stack := rest }).pushFrame (.throwing q))) := by
  obtain ⟨mk, hnamed⟩ := Cond.code_named hcode
  obtain ⟨methM, cM, hmethM, -, -, -, -, -, -, hsigM⟩ := Cond.code_spec hnamed hcode
  have hstatic : methM.isStatic = true := Cond.static_spec hnamed hmethM hstat
  obtain ⟨kP, hkP, -⟩ := className_of_methodNamed hnamed
  have hinitP : kP.init = .initialized := Cond.initialized_spec (findClass_of_methodNamed hnamed) hkP hinit
  obtain ⟨vm₁, X₁, hstep₁⟩ := X.invokestatic hexec hown hlink hnamed hmethM hstatic hkP hinitP hy (g := g) hg (argsL := argsL) (rest := rest) (hlen _ hsigM) hstack hdg
  rcases hK m meth c ⟨T.setVm vm₁, locs, cells, slots⟩ { g with stack := rest } (.invokestatic index) mk argsL.toArray X₁ hg hsize hdg hW (X₁.named hnamed) (hpre vm₁ X₁.warmed) with ⟨v, B, X', hpost, hsteps⟩ | ⟨q, B, X', hpost, hsteps⟩
  · exact Or.inl ⟨v, vm₁, B, X₁.warmed, X', hpost, fun target h => hstep₁ _ fun acts => by rw [doInvoke_state]; exact hsteps.trans h⟩
  · exact Or.inr ⟨q, vm₁, B, X₁.warmed, X', hpost, hstep₁ _ fun acts => by rw [doInvoke_state]; exact hsteps⟩
end Calls
theorem vx_cls {s : State} {T : State} {vm₁ : Vm} {E : String} {k : ClassId} (hW : s.WarmedH vm₁) (h : (T.setVm vm₁).vm.findClass E = some k) : s.vm.findClass E = some k := by
  have h1 : vm₁.findClass E = some k := h
  rw [hW.alike.findClass] at h1
  exact h1
/-- the method's frame g, with q thrown over it -/
def vx_W (p : Program) (l : Launch) (e : Env) (R : Room) (s : State) (m : MethodId) (args : Array Value) (below : List Frame) (meth : Method) (c : Code) (H : Heap) (locs : List Loc) (cells slots : Nat) (Q : State → Prop) (g : JFrame) (q : Addr) : Prop :=
  ∀ T : State, T.heap = H → Stand p l e R s m args below meth c T locs cells slots → ∃ t, Steps p.tables e below ((T.setTop g).pushFrame (.throwing q)) t ∧ Q t
def vx_Run (p : Program) (l : Launch) (e : Env) (R : Room) (s : State) (m : MethodId) (args : Array Value) (below : List Frame) (meth : Method) (c : Code) (H : Heap) (locs : List Loc) (cells slots mc ms : Nat) (g : JFrame) (rest : List Value) (Qa : State → Outcome → State → Prop) (XC : String → State → State → Prop) (free : Addr → Prop) : Prop :=
  ∀ T : State, T.heap = H → Stand p l e R s m args below meth c T locs cells slots →
    (∃ (v : Option Value) (st₀ t T' : State) (L : List Loc), st₀.heap = H ∧ Stand p l e R s m args below meth c T' (locs ++ L) (cells + mc) (slots + ms) ∧ (∀ q ∈ L, free q.base) ∧ T'.heap = t.heap ∧ T'.vm = t.vm ∧ Qa st₀ (.returned v) t ∧
      Goes p e below T g T' { g with pc := g.pc + 3, stack := v.toList ++ rest }) ∨
    (∃ (q : Addr) (st₀ t T' : State) (L : List Loc) (E : String) (ce : Cell), st₀.heap = H ∧ Stand p l e R s m args below meth c T' (locs ++ L) (cells + mc) (slots + ms) ∧ (∀ z ∈ L, free z.base) ∧ T'.heap = t.heap ∧ T'.vm = t.vm ∧ XC E st₀ t ∧ t.heap[q]? = some ce ∧ ce.vm = .none ∧ s.vm.findClass E = some ce.cls ∧
      Steps p.tables e below (T.setTop g) ((T'.setTop { g with stack := rest }).pushFrame (.throwing q)))
def vx_X {S : Type} (px : S → Prop) (B : String → S → State → Prop) (A : Nat → Prop) : String → State → State → Prop := fun E st t => ∃ u : S, px u ∧ B E u t ∧ va_F A st t
section Runs
variable {p : Program} {l : Launch} {e : Env} {R : Room} {s : State} {m : MethodId} {args : Array Value} {below : List Frame} {meth : Method} {c : Code} {H : Heap} {locs : List Loc} {cells slots : Nat}
variable {y : MethodName} {bytes cc : ByteArray} {maxL nL mc ms n index : Nat} {ret : Option FieldType} {ws : List Cond} {rm : Room} {Pc : Array Value → State → Prop} {Qc : Array Value → State → Outcome → State → Prop} {XC : String → State → State → Prop} {free : Addr → Prop} {Ts : List Cond} {own C : String} {b : Addr} {As rest : List Value} {g : JFrame}
theorem vx_callBack (cb : CallB R s args own index y bytes maxL ret ws rm mc ms n) (hM : vx_Met l y ws rm Pc Qc XC mc ms free) (hbl : FrameBlind Pc) : vx_Back l R p e below s args y 3 8 (PreOf R mc ms Pc) (PostOf Qc mc ms free) (vx_Post XC mc ms free) := by
  obtain ⟨hrc, hrs, hfr, hlo, hws, hcw, -, hini, -⟩ := cb
  exact vx_back (bytes := bytes) (maxL := maxL) (ret := ret) hM hbl hrc hrs hfr hlo hws hcw (fun a' U hW => word_at hW (Or.inl (by first | rfl | simp [Cond.onTables, Cond.keeps, Cond.steady])) hini)
theorem vx_runV (S : CallFix p m c cc nL s args Ts own) (hM : vx_Met l y ws rm Pc Qc XC mc ms free) (cw : CallW R s args own C index y bytes maxL ret ws rm mc ms n) (hp : PreV s H C b Pc As)
    (hg : g.method = m) (hn : As.length = n) (hsize : g.locals.size = nL) (hstack : g.stack = As.reverse ++ .ref b :: rest) (hW : 2 * g.monitorRoom + (rest.map fun v => v.category).sum ≤ 8) (hdg : decode cc g.pc = .ok (.invokevirtual index, 3)) (hf : cells + mc ≤ R.cells ∧ slots + ms ≤ R.slots) :
    vx_Run p l e R s m args below meth c H locs cells slots mc ms g rest (Qc (Value.ref b :: As).toArray) XC free := by
  have hK : vx_Back l R p e below s args y 3 8 (PreOf R mc ms Pc) (PostOf Qc mc ms free) (vx_Post XC mc ms free) := vx_callBack cw.1 hM hp.1
  obtain ⟨⟨-, -, -, -, -, -, hcode, -, hy, hlen, hl⟩, hin, hse⟩ := cw
  obtain ⟨hx, hb, hml, ho, -⟩ := S
  obtain ⟨-, ⟨cellB, hcB, hoB, hclB⟩, hPc⟩ := hp
  intro T hT X
  rcases vx_callV X hx (C := C) (bytes := bytes) (maxL := maxL) (ret := ret) ho hl hin hse hcode hy hK (by rw [hT]; exact hcB) hoB hclB hg (hsize.trans hml.symm) (argsL := As) (rest := rest) (fun sig h => hn.trans (hlen sig h)) hstack hW (by rw [hb]; exact hdg)
    (fun vm₁ hW₁ => ⟨hf.1, hf.2, hPc (T.setVm vm₁) hT hW₁⟩) with ⟨v, vm₁, ⟨U', l2, c2, s2⟩, hW₁, X', ⟨g', mk, t, L, e1, e2, hq, h1, hL, h2, h3⟩, st⟩ | ⟨q, vm₁, ⟨U', l2, c2, s2⟩, hW₁, X', ⟨g', mk, t, L, E, ce, e1, e2, hq, hce, hcv, hcl, h1, hL, h2, h3⟩, st⟩
  · dsimp only [Pt.U, Pt.locs, Pt.cells, Pt.slots] at X' e1 e2 h1 h2 h3 st
    subst h1; subst h2; subst h3
    exact Or.inl ⟨v, (T.setVm vm₁).calling g' mk (Value.ref b :: As).toArray, t, U', L, hT, X', hL, e1, e2, hq, st⟩
  · dsimp only [Pt.U, Pt.locs, Pt.cells, Pt.slots] at X' e1 e2 h1 h2 h3 st hcl
    subst h1; subst h2; subst h3
    exact Or.inr ⟨q, (T.setVm vm₁).calling g' mk (Value.ref b :: As).toArray, t, U', L, E, ce, hT, X', hL, e1, e2, hq, hce, hcv, vx_cls hW₁ hcl, st⟩
theorem vx_runS (S : CallFix p m c cc nL s args Ts own) (hM : vx_Met l y ws rm Pc Qc XC mc ms free) (cw : CallB R s args own index y bytes maxL ret ws rm mc ms n ∧ (Cond.static y).before args s = true) (hp : PreS s H Pc As)
    (hg : g.method = m) (hn : As.length = n) (hsize : g.locals.size = nL) (hstack : g.stack = As.reverse ++ rest) (hW : 2 * g.monitorRoom + (rest.map fun v => v.category).sum ≤ 8) (hdg : decode cc g.pc = .ok (.invokestatic index, 3)) (hf : cells + mc ≤ R.cells ∧ slots + ms ≤ R.slots) :
    vx_Run p l e R s m args below meth c H locs cells slots mc ms g rest (Qc As.toArray) XC free := by
  have hK : vx_Back l R p e below s args y 3 8 (PreOf R mc ms Pc) (PostOf Qc mc ms free) (vx_Post XC mc ms free) := vx_callBack cw.1 hM hp.1
  obtain ⟨⟨-, -, -, -, -, -, hcode, hini, hy, hlen, hl⟩, hstt⟩ := cw
  obtain ⟨hx, hb, hml, ho, -⟩ := S
  intro T hT X
  rcases vx_callS X hx (bytes := bytes) (maxL := maxL) (ret := ret) ho hl hstt hini hcode hy hK hg (hsize.trans hml.symm) (argsL := As) (rest := rest) (fun sig h => hn.trans (hlen sig h)) hstack hW (by rw [hb]; exact hdg)
    (fun vm₁ hW₁ => ⟨hf.1, hf.2, hp.2 (T.setVm vm₁) hT hW₁⟩) with ⟨v, vm₁, ⟨U', l2, c2, s2⟩, hW₁, X', ⟨g', mk, t, L, e1, e2, hq, h1, hL, h2, h3⟩, st⟩ | ⟨q, vm₁, ⟨U', l2, c2, s2⟩, hW₁, X', ⟨g', mk, t, L, E, ce, e1, e2, hq, hce, hcv, hcl, h1, hL, h2, h3⟩, st⟩
  · dsimp only [Pt.U, Pt.locs, Pt.cells, Pt.slots] at X' e1 e2 h1 h2 h3 st
    subst h1; subst h2; subst h3
    exact Or.inl ⟨v, (T.setVm vm₁).calling g' mk As.toArray, t, U', L, hT, X', hL, e1, e2, hq, st⟩
  · dsimp only [Pt.U, Pt.locs, Pt.cells, Pt.slots] at X' e1 e2 h1 h2 h3 st hcl
    subst h1; subst h2; subst h3
    exact Or.inr ⟨q, (T.setVm vm₁).calling g' mk As.toArray, t, U', L, E, ce, hT, X', hL, e1, e2, hq, hce, hcv, vx_cls hW₁ hcl, st⟩
end Runs
section Rows
variable {p : Program} {l : Launch} {e : Env} {R : Room} {s : State} {m : MethodId} {args : Array Value} {below : List Frame} {meth : Method} {c : Code} {H : Heap} {locs : List Loc} {cells slots : Nat} {Q : State → Prop}
variable {mc ms : Nat} {free : Addr → Prop} {A0 A1 : Nat → Prop} {H0 : Heap} {a : Array Value} {pc : Nat} {ls : Array Slot} {st0 rest : List Value}
theorem vx_keep {st₀ t T' : State} {L : List Loc} (h0 : st₀.heap = H) (e1 : T'.heap = t.heap) (hS : va_S A0 H0 H locs) (hA : ∀ q, q < H.size → A1 q → A0 q) (hf : ∀ q, free q → A0 q) (hL : ∀ q ∈ L, free q.base) (hF : va_F A1 st₀ t) :
    H.size ≤ T'.heap.size ∧ (∀ q : Nat, q < H.size → ¬ A1 q → T'.heap[q]? = H[q]?) ∧ va_S A0 H0 T'.heap (locs ++ L) := by
  obtain ⟨hz, hk⟩ := hF
  rw [h0] at hz hk
  exact ⟨by rw [e1]; exact hz, fun q h1 h2 => by rw [e1]; exact hk q h1 h2,
    ⟨Nat.le_trans hS.1 (by rw [e1]; exact hz), fun q h1 h2 => by rw [e1, hk q (Nat.lt_of_lt_of_le h1 hS.1) (fun z => h2 (hA q (Nat.lt_of_lt_of_le h1 hS.1) z))]; exact hS.2.1 q h1 h2, fun q hq => by
      rcases List.mem_append.mp hq with h | h
      · exact hS.2.2 q h
      · exact hf _ (hL q h)⟩⟩
theorem vx_calli {S SX : Type} {post : Int32 → S → Prop} {px : SX → Prop} {B : S → State → Prop} {BX : String → SX → State → Prop} {AX : Nat → Prop} (hr : vx_Run p l e R s m args below meth c H locs cells slots mc ms (F0 m pc ls st0) rest (va_Qi post B A1 a) (vx_X px BX AX) free) (hS : va_S A0 H0 H locs) (hA : ∀ q, q < H.size → A1 q → A0 q) (hf : ∀ q, free q → A0 q) (hAX : ∀ q, q < H.size → AX q → A0 q)
    (kx : ∀ (E : String) (ce : Cell) (q9 : Addr) (u : SX) (t : State) (H1 : Heap) (locs1 : List Loc), t.heap = H1 → s.vm.Alike t.vm → px u → BX E u t → H.size ≤ H1.size → (∀ q : Nat, q < H.size → ¬ AX q → H1[q]? = H[q]?) → va_S A0 H0 H1 locs1 → H1[q9]? = some ce → ce.vm = .none → s.vm.findClass E = some ce.cls → vx_W p l e R s m args below meth c H1 locs1 (cells + mc) (slots + ms) Q (F0 m pc ls rest) q9)
    (kk : ∀ (r : Int32) (u : S) (t : State) (H1 : Heap) (locs1 : List Loc), t.heap = H1 → s.vm.Alike t.vm → post r u → B u t → H.size ≤ H1.size → (∀ q : Nat, q < H.size → ¬ A1 q → H1[q]? = H[q]?) → va_S A0 H0 H1 locs1 → W p l e R s m args below meth c H1 locs1 (cells + mc) (slots + ms) Q (F0 m (pc + 3) ls (.int r :: rest))) : W p l e R s m args below meth c H locs cells slots Q (F0 m pc ls st0) := by
  intro T hT X
  rcases hr T hT X with ⟨v, st₀, t, T', L, h0, X', hL, e1, e2, ⟨⟨r, u, hv, hp, hb⟩, hF⟩, st⟩ | ⟨q, st₀, t, T', L, E, ce, h0, X', hL, e1, e2, ⟨u, hp, hb, hF⟩, hce, hcv, hcl, st⟩
  · cases hv
    obtain ⟨k1, k2, k3⟩ := vx_keep h0 e1 hS hA hf hL hF
    obtain ⟨t2, a1, b1⟩ := kk r u t T'.heap (locs ++ L) e1.symm (by rw [← e2]; exact X'.warmed.alike) hp hb k1 k2 k3 T' rfl X'
    exact ⟨t2, st t2 a1, b1⟩
  · obtain ⟨k1, k2, k3⟩ := vx_keep h0 e1 hS hAX hf hL hF
    obtain ⟨t2, a1, b1⟩ := kx E ce q u t T'.heap (locs ++ L) e1.symm (by rw [← e2]; exact X'.warmed.alike) hp hb k1 k2 k3 (by rw [e1]; exact hce) hcv hcl T' rfl X'
    exact ⟨t2, st.trans a1, b1⟩
theorem vx_calll {S SX : Type} {post : Int64 → S → Prop} {px : SX → Prop} {B : S → State → Prop} {BX : String → SX → State → Prop} {AX : Nat → Prop} (hr : vx_Run p l e R s m args below meth c H locs cells slots mc ms (F0 m pc ls st0) rest (va_Ql post B A1 a) (vx_X px BX AX) free) (hS : va_S A0 H0 H locs) (hA : ∀ q, q < H.size → A1 q → A0 q) (hf : ∀ q, free q → A0 q) (hAX : ∀ q, q < H.size → AX q → A0 q)
    (kx : ∀ (E : String) (ce : Cell) (q9 : Addr) (u : SX) (t : State) (H1 : Heap) (locs1 : List Loc), t.heap = H1 → s.vm.Alike t.vm → px u → BX E u t → H.size ≤ H1.size → (∀ q : Nat, q < H.size → ¬ AX q → H1[q]? = H[q]?) → va_S A0 H0 H1 locs1 → H1[q9]? = some ce → ce.vm = .none → s.vm.findClass E = some ce.cls → vx_W p l e R s m args below meth c H1 locs1 (cells + mc) (slots + ms) Q (F0 m pc ls rest) q9)
    (kk : ∀ (r : Int64) (u : S) (t : State) (H1 : Heap) (locs1 : List Loc), t.heap = H1 → s.vm.Alike t.vm → post r u → B u t → H.size ≤ H1.size → (∀ q : Nat, q < H.size → ¬ A1 q → H1[q]? = H[q]?) → va_S A0 H0 H1 locs1 → W p l e R s m args below meth c H1 locs1 (cells + mc) (slots + ms) Q (F0 m (pc + 3) ls (.long r :: rest))) : W p l e R s m args below meth c H locs cells slots Q (F0 m pc ls st0) := by
  intro T hT X
  rcases hr T hT X with ⟨v, st₀, t, T', L, h0, X', hL, e1, e2, ⟨⟨r, u, hv, hp, hb⟩, hF⟩, st⟩ | ⟨q, st₀, t, T', L, E, ce, h0, X', hL, e1, e2, ⟨u, hp, hb, hF⟩, hce, hcv, hcl, st⟩
  · cases hv
    obtain ⟨k1, k2, k3⟩ := vx_keep h0 e1 hS hA hf hL hF
    obtain ⟨t2, a1, b1⟩ := kk r u t T'.heap (locs ++ L) e1.symm (by rw [← e2]; exact X'.warmed.alike) hp hb k1 k2 k3 T' rfl X'
    exact ⟨t2, st t2 a1, b1⟩
  · obtain ⟨k1, k2, k3⟩ := vx_keep h0 e1 hS hAX hf hL hF
    obtain ⟨t2, a1, b1⟩ := kx E ce q u t T'.heap (locs ++ L) e1.symm (by rw [← e2]; exact X'.warmed.alike) hp hb k1 k2 k3 (by rw [e1]; exact hce) hcv hcl T' rfl X'
    exact ⟨t2, st.trans a1, b1⟩
theorem vx_callf {S SX : Type} {post : UInt32 → S → Prop} {px : SX → Prop} {B : S → State → Prop} {BX : String → SX → State → Prop} {AX : Nat → Prop} (hr : vx_Run p l e R s m args below meth c H locs cells slots mc ms (F0 m pc ls st0) rest (va_Qf post B A1 a) (vx_X px BX AX) free) (hS : va_S A0 H0 H locs) (hA : ∀ q, q < H.size → A1 q → A0 q) (hf : ∀ q, free q → A0 q) (hAX : ∀ q, q < H.size → AX q → A0 q)
    (kx : ∀ (E : String) (ce : Cell) (q9 : Addr) (u : SX) (t : State) (H1 : Heap) (locs1 : List Loc), t.heap = H1 → s.vm.Alike t.vm → px u → BX E u t → H.size ≤ H1.size → (∀ q : Nat, q < H.size → ¬ AX q → H1[q]? = H[q]?) → va_S A0 H0 H1 locs1 → H1[q9]? = some ce → ce.vm = .none → s.vm.findClass E = some ce.cls → vx_W p l e R s m args below meth c H1 locs1 (cells + mc) (slots + ms) Q (F0 m pc ls rest) q9)
    (kk : ∀ (r : UInt32) (u : S) (t : State) (H1 : Heap) (locs1 : List Loc), t.heap = H1 → s.vm.Alike t.vm → post r u → B u t → H.size ≤ H1.size → (∀ q : Nat, q < H.size → ¬ A1 q → H1[q]? = H[q]?) → va_S A0 H0 H1 locs1 → W p l e R s m args below meth c H1 locs1 (cells + mc) (slots + ms) Q (F0 m (pc + 3) ls (.float r :: rest))) : W p l e R s m args below meth c H locs cells slots Q (F0 m pc ls st0) := by
  intro T hT X
  rcases hr T hT X with ⟨v, st₀, t, T', L, h0, X', hL, e1, e2, ⟨⟨r, u, hv, hp, hb⟩, hF⟩, st⟩ | ⟨q, st₀, t, T', L, E, ce, h0, X', hL, e1, e2, ⟨u, hp, hb, hF⟩, hce, hcv, hcl, st⟩
  · cases hv
    obtain ⟨k1, k2, k3⟩ := vx_keep h0 e1 hS hA hf hL hF
    obtain ⟨t2, a1, b1⟩ := kk r u t T'.heap (locs ++ L) e1.symm (by rw [← e2]; exact X'.warmed.alike) hp hb k1 k2 k3 T' rfl X'
    exact ⟨t2, st t2 a1, b1⟩
  · obtain ⟨k1, k2, k3⟩ := vx_keep h0 e1 hS hAX hf hL hF
    obtain ⟨t2, a1, b1⟩ := kx E ce q u t T'.heap (locs ++ L) e1.symm (by rw [← e2]; exact X'.warmed.alike) hp hb k1 k2 k3 (by rw [e1]; exact hce) hcv hcl T' rfl X'
    exact ⟨t2, st.trans a1, b1⟩
theorem vx_calld {S SX : Type} {post : UInt64 → S → Prop} {px : SX → Prop} {B : S → State → Prop} {BX : String → SX → State → Prop} {AX : Nat → Prop} (hr : vx_Run p l e R s m args below meth c H locs cells slots mc ms (F0 m pc ls st0) rest (va_Qd post B A1 a) (vx_X px BX AX) free) (hS : va_S A0 H0 H locs) (hA : ∀ q, q < H.size → A1 q → A0 q) (hf : ∀ q, free q → A0 q) (hAX : ∀ q, q < H.size → AX q → A0 q)
    (kx : ∀ (E : String) (ce : Cell) (q9 : Addr) (u : SX) (t : State) (H1 : Heap) (locs1 : List Loc), t.heap = H1 → s.vm.Alike t.vm → px u → BX E u t → H.size ≤ H1.size → (∀ q : Nat, q < H.size → ¬ AX q → H1[q]? = H[q]?) → va_S A0 H0 H1 locs1 → H1[q9]? = some ce → ce.vm = .none → s.vm.findClass E = some ce.cls → vx_W p l e R s m args below meth c H1 locs1 (cells + mc) (slots + ms) Q (F0 m pc ls rest) q9)
    (kk : ∀ (r : UInt64) (u : S) (t : State) (H1 : Heap) (locs1 : List Loc), t.heap = H1 → s.vm.Alike t.vm → post r u → B u t → H.size ≤ H1.size → (∀ q : Nat, q < H.size → ¬ A1 q → H1[q]? = H[q]?) → va_S A0 H0 H1 locs1 → W p l e R s m args below meth c H1 locs1 (cells + mc) (slots + ms) Q (F0 m (pc + 3) ls (.double r :: rest))) : W p l e R s m args below meth c H locs cells slots Q (F0 m pc ls st0) := by
  intro T hT X
  rcases hr T hT X with ⟨v, st₀, t, T', L, h0, X', hL, e1, e2, ⟨⟨r, u, hv, hp, hb⟩, hF⟩, st⟩ | ⟨q, st₀, t, T', L, E, ce, h0, X', hL, e1, e2, ⟨u, hp, hb, hF⟩, hce, hcv, hcl, st⟩
  · cases hv
    obtain ⟨k1, k2, k3⟩ := vx_keep h0 e1 hS hA hf hL hF
    obtain ⟨t2, a1, b1⟩ := kk r u t T'.heap (locs ++ L) e1.symm (by rw [← e2]; exact X'.warmed.alike) hp hb k1 k2 k3 T' rfl X'
    exact ⟨t2, st t2 a1, b1⟩
  · obtain ⟨k1, k2, k3⟩ := vx_keep h0 e1 hS hAX hf hL hF
    obtain ⟨t2, a1, b1⟩ := kx E ce q u t T'.heap (locs ++ L) e1.symm (by rw [← e2]; exact X'.warmed.alike) hp hb k1 k2 k3 (by rw [e1]; exact hce) hcv hcl T' rfl X'
    exact ⟨t2, st.trans a1, b1⟩
theorem vx_callv {S SX : Type} {post : S → Prop} {px : SX → Prop} {B : S → State → Prop} {BX : String → SX → State → Prop} {AX : Nat → Prop} (hr : vx_Run p l e R s m args below meth c H locs cells slots mc ms (F0 m pc ls st0) rest (va_Qv post B A1 a) (vx_X px BX AX) free) (hS : va_S A0 H0 H locs) (hA : ∀ q, q < H.size → A1 q → A0 q) (hf : ∀ q, free q → A0 q) (hAX : ∀ q, q < H.size → AX q → A0 q)
    (kx : ∀ (E : String) (ce : Cell) (q9 : Addr) (u : SX) (t : State) (H1 : Heap) (locs1 : List Loc), t.heap = H1 → s.vm.Alike t.vm → px u → BX E u t → H.size ≤ H1.size → (∀ q : Nat, q < H.size → ¬ AX q → H1[q]? = H[q]?) → va_S A0 H0 H1 locs1 → H1[q9]? = some ce → ce.vm = .none → s.vm.findClass E = some ce.cls → vx_W p l e R s m args below meth c H1 locs1 (cells + mc) (slots + ms) Q (F0 m pc ls rest) q9)
    (kk : ∀ (u : S) (t : State) (H1 : Heap) (locs1 : List Loc), t.heap = H1 → s.vm.Alike t.vm → post u → B u t → H.size ≤ H1.size → (∀ q : Nat, q < H.size → ¬ A1 q → H1[q]? = H[q]?) → va_S A0 H0 H1 locs1 → W p l e R s m args below meth c H1 locs1 (cells + mc) (slots + ms) Q (F0 m (pc + 3) ls (rest))) : W p l e R s m args below meth c H locs cells slots Q (F0 m pc ls st0) := by
  intro T hT X
  rcases hr T hT X with ⟨v, st₀, t, T', L, h0, X', hL, e1, e2, ⟨⟨u, hv, hp, hb⟩, hF⟩, st⟩ | ⟨q, st₀, t, T', L, E, ce, h0, X', hL, e1, e2, ⟨u, hp, hb, hF⟩, hce, hcv, hcl, st⟩
  · cases hv
    obtain ⟨k1, k2, k3⟩ := vx_keep h0 e1 hS hA hf hL hF
    obtain ⟨t2, a1, b1⟩ := kk u t T'.heap (locs ++ L) e1.symm (by rw [← e2]; exact X'.warmed.alike) hp hb k1 k2 k3 T' rfl X'
    exact ⟨t2, st t2 a1, b1⟩
  · obtain ⟨k1, k2, k3⟩ := vx_keep h0 e1 hS hAX hf hL hF
    obtain ⟨t2, a1, b1⟩ := kx E ce q u t T'.heap (locs ++ L) e1.symm (by rw [← e2]; exact X'.warmed.alike) hp hb k1 k2 k3 (by rw [e1]; exact hce) hcv hcl T' rfl X'
    exact ⟨t2, st.trans a1, b1⟩
/-- caught by the row x of this method's table; the rows ahead don't take it -/
theorem vx_catch {own name : String} {E : String} {ce : Cell} {q : Addr} (hown : s.vm.findClass own = some m.cls) (pre : List ExceptionTableEntry) (x : ExceptionTableEntry) (suf : List ExceptionTableEntry) (hsplit : c.exceptionTable.toList = pre ++ x :: suf)
    (hpass : ∀ z ∈ pre, covers z pc = false ∨ (z.catchType ≠ 0 ∧ ∃ nm : String, (Cond.classLink own z.catchType nm).before args s = true ∧ va_Nc E nm s)) (hx : covers x pc = true) (h0 : x.catchType ≠ 0)
    (hlink : (Cond.classLink own x.catchType name).before args s = true) (hcast : (Cond.castable E name).before args s = true) (hcell : H[q]? = some ce) (hv : ce.vm = .none) (hcl : s.vm.findClass E = some ce.cls)
    (kk : W p l e R s m args below meth c H locs cells slots Q (F0 m x.handlerPc ls [.ref q])) : vx_W p l e R s m args below meth c H locs cells slots Q (F0 m pc ls rest) q := by
  intro T hT X
  have hpl : e.platform.magicAccessors = ({} : Platform).magicAccessors := by rw [X.admits.platform]
  obtain ⟨c3, c4, hc3, hc4, hasg⟩ := Cond.castable_spec hcast
  cases Option.some.inj (hc3.symm.trans hcl)
  obtain ⟨c5, hc5, hcl5⟩ := Cond.classLink_spec hown hlink e.platform hpl
  cases Option.some.inj (hc4.symm.trans hc5)
  obtain ⟨vm', X', st⟩ := X.thenCaughtThrough q (g := F0 m pc ls rest) rfl (Steps.refl _) (by rw [hT]; exact hcell) (by rw [hv]; rfl) (by obtain ⟨k9, h9, -⟩ := Vm.findClass_spec hcl; exact ⟨k9, h9⟩) pre x suf hsplit
    (fun z hz => by
      rcases hpass z hz with h | ⟨hz0, nm, hl1, hn1⟩
      · exact Or.inl h
      · obtain ⟨c6, hc6, hcl6⟩ := Cond.classLink_spec hown hl1 e.platform hpl
        obtain ⟨a8, b8, h1, h2, h3⟩ := hn1
        cases Option.some.inj (h1.symm.trans hcl)
        cases Option.some.inj (h2.symm.trans hc6)
        exact Or.inr ⟨hz0, _, hcl6, h3⟩) hx (Or.inr ⟨h0, c4, hcl5, hasg⟩)
  obtain ⟨t, a1, b1⟩ := kk (T.setVm vm') hT X'
  exact ⟨t, st.trans a1, b1⟩
end Rows
section Ends
variable {p : Program} {l : Launch} {e : Env} {R : Room} {s : State} {m : MethodId} {args : Array Value} {below : List Frame} {meth : Method} {c : Code} {H : Heap} {locs : List Loc} {cells slots : Nat} {Q : State → Prop}
variable {mc ms : Nat} {free : Addr → Prop} {A0 A1 : Nat → Prop} {H0 : Heap} {a : Array Value} {ls : Array Slot} {st0 rest : List Value}
variable {Qc : Array Value → State → Outcome → State → Prop} {XC : String → State → State → Prop}
/-- what a body that may throw owes at its end -/
def vx_MQ (below : List Frame) (Qc : Array Value → State → Outcome → State → Prop) (XC : String → State → State → Prop) (a : Array Value) (s : State) (mc ms : Nat) (free : Addr → Prop) : State → Prop := fun t =>
  ∃ o, t.status = .running ∧ Ended t below o ∧ vx_Q Qc XC mc ms free a s o t
theorem vx_ret {g : JFrame} {mc ms : Nat} (k : W p l e R s m args below meth c H locs cells slots (MQ below Qc args s mc ms free) g) : W p l e R s m args below meth c H locs cells slots (vx_MQ below Qc XC args s mc ms free) g := by
  intro T hT X
  obtain ⟨t, a1, o, b1, b2, b3, b4⟩ := k T hT X
  exact ⟨t, a1, o, b1, b2, Or.inl ⟨b3, b4⟩⟩
/-- not caught here: it goes on to the caller -/
theorem vx_widen {g : JFrame} {q : Addr} {k n : Nat} (h1 : cells ≤ k) (h2 : slots ≤ n) (kk : vx_W p l e R s m args below meth c H locs k n Q g q) : vx_W p l e R s m args below meth c H locs cells slots Q g q := fun T hT X => kk T hT (stand_widen X h1 h2)
theorem vx_out {pc : Nat} {E : String} {ce : Cell} {q : Addr} {mc ms : Nat} (hout : ∀ x ∈ c.exceptionTable.toList, covers x pc = false) (hlocks : meth.locks = false) (hcell : H[q]? = some ce) (hv : ce.vm = .none) (hcl : s.vm.findClass E = some ce.cls)
    (hx : ∀ t : State, t.heap = H → s.vm.Alike t.vm → XC E s t) (hf : ∀ z ∈ locs, free z.base) (hc : cells ≤ mc) (hs : slots ≤ ms) :
    vx_W p l e R s m args below meth c H locs cells slots (vx_MQ below Qc XC args s mc ms free) (F0 m pc ls rest) q := by
  intro T hT X
  obtain ⟨st1, hrun, hend, hW, hsm⟩ := X.leaveThrown q (g := F0 m pc ls rest) rfl rfl rfl hout hlocks
  have hcell9 : (T.setFrames (.throwing q :: below)).heap[q]? = some ce := by
    show T.heap[q]? = some ce
    rw [hT]; exact hcell
  exact ⟨_, st1, .threw q, hrun, hend, Or.inr ⟨q, rfl, E, ce, locs, hx _ hT hW.alike, hcell9, hv, hcl, hW, hsm.mono hc hs, hf⟩⟩
theorem vx_frame {U : State} {k n : Nat} (h : s.sameButNew ({ U with vm := s.vm } : State) locs k n) : s.heap.size ≤ U.heap.size ∧ ∀ q : Nat, q < s.heap.size → (∀ z ∈ locs, z.base ≠ q) → U.heap[q]? = s.heap[q]? := by
  obtain ⟨-, h2, -, -, -, h6⟩ := h
  refine ⟨h2, fun q hq hz => ?_⟩
  obtain ⟨c9, e1, e2, e3, e4⟩ := h6 q _ (Array.getElem?_eq_getElem hq)
  have hs : c9.slots = (s.heap[q]).slots := Array.ext_getElem? fun i => e4 i fun hm => hz _ hm rfl
  have h9 : c9 = s.heap[q] := by
    rw [hs] at e2
    exact e2
  have e5 : U.heap[q]? = some c9 := e1
  rw [e5, h9, Array.getElem?_eq_getElem hq]
/-- the words of a throw but the four that speak of the heap -/
def vx_no (w : Cond) : Bool := decide (w ≠ .isRef (.static Bundle.tN "UNASSIGNED_STACK" Bundle.steD)) && decide (w ≠ .isRef (.static Bundle.tN "SUPPRESSED_SENTINEL" Bundle.listD)) && decide (w ≠ .laysStatic Bundle.tN "UNASSIGNED_STACK" Bundle.steD) && decide (w ≠ .laysStatic Bundle.tN "SUPPRESSED_SENTINEL" Bundle.listD)
def vx_at0 (own : String) (ic : Nat) (X : String) (names : List String) : List Cond := (Bundle.ownAtoms0 own ic X names).filter vx_no
def vx_atS (own : String) (ic : Nat) (X : String) (names : List String) : List Cond := (Bundle.ownAtoms own ic X names).filter vx_no
/-- a word that the tables alone decide, or a good one -/
def vx_ot (w : Cond) : Bool := w.onTables || goodWord w
theorem vx_ot_at {args a' : Array Value} {s U : State} {w : Cond} (hW : s.WarmedH U.vm) (hvm : s.vm = U.vm) (hg : vx_ot w = true) (h : w.before args s = true) : w.before a' U = true := by
  simp only [vx_ot, Bool.or_eq_true] at hg
  rcases hg with hg | hg
  · exact va_tabs hg hvm h
  · exact word_at hW (good_of_word hg) h
/-- a list's words: the good ones out of the method's own list, the others by premises of their own -/
theorem vx_hat {args : Array Value} {s : State} {L B : List Cond} (h1 : ∀ w ∈ L.filter goodWord, w.before args s = true) (h2 : ∀ w ∈ L.filter (fun w => !goodWord w), w ∈ B) (h3 : ∀ w ∈ B, w.before args s = true) : ∀ w ∈ L, w.before args s = true := by
  intro w hw
  by_cases g : goodWord w = true
  · exact h1 w (List.mem_filter.mpr ⟨hw, g⟩)
  · refine h3 w (h2 w (List.mem_filter.mpr ⟨hw, ?_⟩))
    show (!goodWord w) = true
    cases hgw : goodWord w
    · rfl
    · exact absurd hgw g
theorem vx_c {args : Array Value} {s : State} {w : Cond} {B : List Cond} (h : w.before args s = true) (t : ∀ w ∈ B, w.before args s = true) : ∀ w' ∈ w :: B, w'.before args s = true := fun w' h' => (List.mem_cons.mp h').elim (fun e => by rw [e]; exact h) (t w')
theorem vx_n {args : Array Value} {s : State} : ∀ w ∈ ([] : List Cond), w.before args s = true := fun _ h => nomatch h
theorem vx_own {args : Array Value} {s : State} {L : List Cond} (h1 : ∀ w ∈ L.filter vx_no, w.before args s = true)
    (hU : (Cond.isRef (.static Bundle.tN "UNASSIGNED_STACK" Bundle.steD)).before args s = true) (hN : (Cond.isRef (.static Bundle.tN "SUPPRESSED_SENTINEL" Bundle.listD)).before args s = true)
    (lU : (Cond.laysStatic Bundle.tN "UNASSIGNED_STACK" Bundle.steD).before args s = true) (lN : (Cond.laysStatic Bundle.tN "SUPPRESSED_SENTINEL" Bundle.listD).before args s = true) : ∀ w ∈ L, w.before args s = true := by
  intro w hw
  by_cases e1 : w = .isRef (.static Bundle.tN "UNASSIGNED_STACK" Bundle.steD)
  · rw [e1]; exact hU
  · by_cases e2 : w = .isRef (.static Bundle.tN "SUPPRESSED_SENTINEL" Bundle.listD)
    · rw [e2]; exact hN
    · by_cases e3 : w = .laysStatic Bundle.tN "UNASSIGNED_STACK" Bundle.steD
      · rw [e3]; exact lU
      · by_cases e4 : w = .laysStatic Bundle.tN "SUPPRESSED_SENTINEL" Bundle.listD
        · rw [e4]; exact lN
        · exact h1 w (List.mem_filter.mpr ⟨hw, by unfold vx_no; rw [decide_eq_true e1, decide_eq_true e2, decide_eq_true e3, decide_eq_true e4]; rfl⟩)
/-- where a static field lies, its class's statics cell in H -/
def vx_L (C n d : String) (A : Nat → Prop) (U : State) (H : Heap) : Prop := ∃ (c : ClassId) (k : Class) (i : Nat) (f : Field) (a : Nat) (cell : Cell), U.vm.findClass C = some c ∧ U.fieldFound? C n d = some (c, k, i, f) ∧ f.isStatic = true ∧ k.statics = some a ∧ H[a]? = some cell ∧ cell.vm.isStatics = true ∧ cell.cls = c ∧ f.slot < cell.slots.size ∧ k.staticTypes[f.slot]? = some f.type ∧ ¬ A a
theorem vx_L.moved {C n d : String} {A : Nat → Prop} {u U : State} {H : Heap} (hvm : u.vm.Alike U.vm) (h : vx_L C n d A u H) : vx_L C n d A U H := by
  obtain ⟨c, k, i, f, a, cell, h1, h2, h3, h4, h5, h6, h7, h8, h9, h10⟩ := h
  obtain ⟨k', hi', he⟩ := State.fieldFound?_setVm hvm h2
  exact ⟨c, k', i, f, a, cell, by rw [hvm.findClass]; exact h1, hi', h3, by rw [he]; exact h4, h5, h6, h7, h8, by rw [he]; exact h9, h10⟩
theorem vx_L.kept {C n d : String} {A : Nat → Prop} {U : State} {H H1 : Heap} (h : vx_L C n d A U H) (hq : ∀ a : Nat, a < H.size → ¬ A a → H1[a]? = H[a]?) : vx_L C n d A U H1 := by
  obtain ⟨c, k, i, f, a, cell, h1, h2, h3, h4, h5, h6, h7, h8, h9, h10⟩ := h
  exact ⟨c, k, i, f, a, cell, h1, h2, h3, h4, by rw [hq a (Array.getElem?_eq_some_iff.mp h5).1 h10]; exact h5, h6, h7, h8, h9, h10⟩
theorem vx_L.narrow {C n d : String} {A B : Nat → Prop} {U : State} {H : Heap} (h : vx_L C n d A U H) (hAB : ∀ q, B q → A q) : vx_L C n d B U H := by
  obtain ⟨c, k, i, f, a, cell, h1, h2, h3, h4, h5, h6, h7, h8, h9, h10⟩ := h
  exact ⟨c, k, i, f, a, cell, h1, h2, h3, h4, h5, h6, h7, h8, h9, fun z => h10 (hAB _ z)⟩
theorem vx_L.word {C n d : String} {A : Nat → Prop} {s : State} {args : Array Value} (h : vx_L C n d A s s.heap) : (Cond.laysStatic C n d).before args s = true := by
  obtain ⟨c, k, i, f, a, cell, h1, h2, h3, h4, h5, h6, h7, h8, h9, -⟩ := h
  show (Cond.laysStatic C n d).holds args s none s [] = true
  exact Cond.laysStatic_of h1 h2 h3 h4 h5 h6 h7 h8 h9
/-- .. and what it holds: null or some reference -/
def vx_Zq (C n d : String) (A : Nat → Prop) (U : State) (H : Heap) : Prop := va_Zq C n d A U H ∧ vx_L C n d A U H
theorem vx_Zq.moved {C n d : String} {A : Nat → Prop} {u U : State} {H : Heap} (hvm : u.vm.Alike U.vm) (h : vx_Zq C n d A u H) : vx_Zq C n d A U H := ⟨va_Zq.moved hvm h.1, vx_L.moved hvm h.2⟩
theorem vx_Zq.kept {C n d : String} {A : Nat → Prop} {U : State} {H H1 : Heap} (h : vx_Zq C n d A U H) (hq : ∀ a : Nat, a < H.size → ¬ A a → H1[a]? = H[a]?) : vx_Zq C n d A U H1 := ⟨va_Zq.kept h.1 hq, vx_L.kept h.2 hq⟩
theorem vx_Zq.narrow {C n d : String} {A B : Nat → Prop} {U : State} {H : Heap} (h : vx_Zq C n d A U H) (hAB : ∀ q, B q → A q) : vx_Zq C n d B U H := ⟨va_Zq.narrow h.1 hAB, vx_L.narrow h.2 hAB⟩
theorem vx_Zqof {args : Array Value} {s : State} {C n d : String} {A : Nat → Prop} (hl : (Cond.laysStatic C n d).before args s = true) (hini : (Cond.initialized C).before args s = true) (h : (Cond.isRef (.static C n d)).before args s = true) (hA : ∀ a : Nat, a < s.heap.size → ¬ A a) : vx_Zq C n d A s s.heap := by
  refine ⟨va_Zqof hl hini h hA, ?_⟩
  obtain ⟨c, k, i, f, a, cell, h1, h2, h3, h4, h5, h6, h7, h8, h9⟩ := Cond.laysStatic_spec hl
  exact ⟨c, k, i, f, a, cell, h1, h2, h3, h4, h5, h6, h7, h8, h9, hA a (Array.getElem?_eq_some_iff.mp h5).1⟩
theorem vx_isRef {C n d : String} {v : Value} {A : Nat → Prop} {s : State} {args : Array Value} (h : va_Z C n d v A s s.heap) (hv : v.isRef = true) : (Cond.isRef (.static C n d)).before args s = true := by
  obtain ⟨cf, kf, fi, f, a, cell, h1, h2, h3, h4, h5, h6, h7, -⟩ := h
  have he : (Term.static C n d).eval args s none [] s = some v := by
    simp [Term.eval, State.fieldNamed?, h1, h2, h4, h5, h6, h7]
  simp only [Cond.before, Cond.holds, Cond.value, he]
  cases v <;> simp_all [Value.isRef]
theorem vx_isRefq {C n d : String} {A : Nat → Prop} {s : State} {args : Array Value} (h : va_Zq C n d A s s.heap) : (Cond.isRef (.static C n d)).before args s = true := by
  rcases h with h | ⟨t, h⟩
  · exact vx_isRef h rfl
  · exact vx_isRef h rfl
/-- the same frame, seen from here: as if the method were called anew in this heap -/
theorem vx_rebase {T : State} (X : Stand p l e R s m args below meth c T locs cells slots) {R' : Room} (hf : R'.frames ≤ R.frames) (hl : R'.locals ≤ R.locals) (hc : cells + R'.cells ≤ R.cells) (hs : slots + R'.slots ≤ R.slots) :
    Stand p l e R' ((T.setVm s.vm).setFrames (.invoking m args :: below)) m args below meth c T [] 0 0 := by
  have htop : (T.setVm s.vm).topJava?.isSome := X.here.top
  have hF : ((T.setVm s.vm).setFrames (.invoking m args :: below)).frames = .invoking m args :: below := State.frames_setFrames _ (State.cur_lt_of_top htop)
  obtain ⟨g₀, hg0⟩ := Option.isSome_iff_exists.mp htop
  obtain ⟨r, hr⟩ := State.topJava?_eq_some.mp hg0
  have hl9 : e.platform.stackLimits (T.setVm s.vm).me = e.platform.stackLimits s.me := X.limits
  have hb9 : (T.setVm s.vm).me.stackBytes = s.me.stackBytes := X.bytes
  refine ⟨X.admits, X.cas, X.clock, hF, ?_, X.hears, X.method, X.code, X.here, X.tail, X.warmed, ?_, ?_, ?_⟩
  · have h := X.room
    have hU : ((T.setVm s.vm).setFrames (.invoking m args :: below)).localsInUse = s.localsInUse := by
      rw [State.localsInUse_invoking hF (meth := meth) (c := c) X.method X.code, State.localsInUse_invoking X.frames X.method X.code]
    simp only [State.hasRoom, Bool.and_eq_true, decide_eq_true_eq] at h ⊢
    obtain ⟨⟨⟨⟨h1, h2, h3, h4, h5, h6⟩, h7⟩, h8⟩, h9⟩ := h
    rw [X.frames, List.length_cons] at h2 h3
    have q1 := X.heapSize
    have q2 := X.used
    simp only [hF, hU, List.length_cons, State.stackLimits_setFrames, State.stackBytes_setFrames, hl9, hb9]
    refine ⟨⟨⟨⟨by omega, by omega, by omega, by omega, by omega, h6⟩, ?_⟩, ?_⟩, X.book⟩
    · show T.heap.size + R'.cells ≤ e.platform.maxCells
      omega
    · show T.slotsUsed + R'.slots ≤ e.platform.maxSlots
      omega
  · rw [State.stackLimits_setFrames]; rfl
  · rw [State.stackBytes_setFrames]; rfl
  · refine ⟨?_, Nat.le_refl _, Nat.le_refl _, ?_, ?_, fun a c9 h9 => ⟨c9, h9, rfl, rfl, fun _ _ => rfl⟩⟩
    · obtain ⟨t, ht, -⟩ := State.frames_cons hr
      show T.setVm s.vm = { ((T.setVm s.vm).setFrames (.invoking m args :: below)).setFrames (T.setVm s.vm).frames with heap := T.heap, slotsUsed := T.slotsUsed }
      rw [State.setFrames_setFrames, State.setFrames_self ht]
      rfl
    · show T.slotsUsed = T.slotsUsed + ((T.heap.toList.drop T.heap.size).map (·.slots.size)).sum
      rw [List.drop_eq_nil_of_le (Nat.le_of_eq Array.length_toList)]
      rfl
    · show ((T.heap.toList.drop T.heap.size).map (·.slots.size)).sum ≤ 0
      rw [List.drop_eq_nil_of_le (Nat.le_of_eq Array.length_toList)]
      exact Nat.le_refl _
/-- 'throw new E()': new; dup; invokespecial; athrow -/
theorem vx_throw0 {cc : ByteArray} {pc : Nat} (hexec : p.tables.exec = Jvm.exec) (hb : c.code = cc) (hl : l.stackTraces = false) {own cls : String} {names : List String} {ik ic mc ms : Nat} {A : Nat → Prop}
    (hown : s.vm.findClass own = some m.cls) (hcls : Bundle.fit cls = true) (hnames : ∀ n ∈ names, Bundle.fit n = true)
    (hk : (Cond.classLink own ik cls).before args s = true) (hini : (Cond.initialized cls).before args s = true) (hat : ∀ w ∈ vx_at0 own ic cls names, w.before args s = true)
    (hgood : ∀ w ∈ Cond.classLink own ik cls :: Cond.initialized cls :: vx_at0 own ic cls names, vx_ot w = true)
    (hU : vx_Zq Bundle.tN "UNASSIGNED_STACK" Bundle.steD A s s.heap) (hN : vx_Zq Bundle.tN "SUPPRESSED_SENTINEL" Bundle.listD A s s.heap) (hS : va_S A s.heap H locs) (hsize : ls.size = c.maxLocals)
    (d0 : decode cc pc = .ok (.new ik, 3)) (d3 : decode cc (pc + 3) = .ok (.dup, 1)) (d4 : decode cc (pc + 4) = .ok (.invokespecial ic, 3)) (d7 : decode cc (pc + 7) = .ok (.athrow, 1))
    (hout : ∀ x ∈ c.exceptionTable.toList, covers x (pc + 7) = false)
    (hRframes : names.length + 3 < R.frames) (hRlocals : (rest.map fun v => v.category).sum + (13 * (names.length + 1) + 42) ≤ R.locals) (hRcells : cells + 1 ≤ R.cells) (hRslots : slots + 6 ≤ R.slots) (hlocks : meth.locks = false)
    (hx : ∀ t : State, s.vm.Alike t.vm → H.size ≤ t.heap.size → (∀ q : Nat, q < H.size → t.heap[q]? = H[q]?) → XC cls s t)
    (hf : ∀ z ∈ locs, free z.base) (hc : cells + 1 ≤ mc) (hs : slots + 6 ≤ ms) :
    W p l e R s m args below meth c H locs cells slots (vx_MQ below Qc XC args s mc ms free) (F0 m pc ls rest) := by
  intro T hT X
  have htr : e.platform.stackTraces = false := (show e.platform.stackTraces = l.stackTraces by rw [X.admits.platform]).trans hl
  have Y := vx_rebase X (R' := { frames := R.frames, locals := R.locals, cells := 1, slots := 6 }) (Nat.le_refl _) (Nat.le_refl _) hRcells hRslots
  obtain ⟨s', hA⟩ : ∃ z, z = (T.setVm s.vm).setFrames (.invoking m args :: below) := ⟨_, rfl⟩
  rw [← hA] at Y
  have hvm : s'.vm = s.vm := by rw [hA]; rfl
  have hhp : s'.heap = H := by rw [hA]; exact hT
  have hW0 : s.WarmedH s'.vm := by rw [hvm]; exact State.WarmedH.refl s
  have hat' : ∀ w ∈ vx_at0 own ic cls names, w.before args s' = true := fun w hw => vx_ot_at hW0 hvm.symm (hgood w (List.mem_cons_of_mem _ (List.mem_cons_of_mem _ hw))) (hat w hw)
  have hk' : (Cond.classLink own ik cls).before args s' = true := vx_ot_at hW0 hvm.symm (hgood _ List.mem_cons_self) hk
  have hini' : (Cond.initialized cls).before args s' = true := vx_ot_at hW0 hvm.symm (hgood _ (List.mem_cons_of_mem _ List.mem_cons_self)) hini
  have hU' : vx_Zq Bundle.tN "UNASSIGNED_STACK" Bundle.steD A s' s'.heap := by rw [hhp]; exact vx_Zq.moved hW0.alike (hU.kept hS.2.1)
  have hN' : vx_Zq Bundle.tN "SUPPRESSED_SENTINEL" Bundle.listD A s' s'.heap := by rw [hhp]; exact vx_Zq.moved hW0.alike (hN.kept hS.2.1)
  have h : ∀ w ∈ Bundle.ownAtoms0 own ic cls names, w.before args s' = true := vx_own hat' (vx_isRefq hU'.1) (vx_isRefq hN'.1) hU'.2.word hN'.2.word
  have hown' : s'.vm.findClass own = some m.cls := by rw [hvm]; exact hown
  have hins : (Cond.instantiable cls 6).before args s' = true := h _ (by simp [Bundle.ownAtoms0])
  obtain ⟨vm₁, cX, kX, hfX, hkX, -, -, X₁, st1⟩ := Y.newCold hexec (own := own) (C := cls) (index := ik) (n := 6) hown' hk' hins hini'
    (g := F0 m pc ls rest) rfl (by rw [hb]; exact d0) (Nat.le_refl _) (Nat.le_refl _)
  generalize hT1 : (T.setVm vm₁).pushCell { cls := cX, slots := kX.instanceTypes.map defaultValue, vm := .none } = T1 at X₁ st1
  have hcat : (Value.ref T.heap.size).category = 1 := rfl
  have hcellA : T1.heap[T.heap.size]? = some (freshCell cX kX) := by rw [← hT1]; exact State.heap_pushCell_size _ _
  have d3' : decode c.code (pc + 3) = .ok (.dup, 1) := by rw [hb]; exact d3
  obtain ⟨U, hsteps, hrun, hend, hW, hsame, ce, hce, hO⟩ := X₁.ctorThrow0 hexec htr (own := own) (cls := cls) (names := names) (ic := ic) hown' hcls hnames h (fun x hx => nomatch hx) hfX hkX hcellA (by rw [hhp, hT]; exact Nat.le_refl _)
    (g := { method := m, pc := pc + 4, locals := ls, stack := .ref T.heap.size :: .ref T.heap.size :: rest, locked := none }) rfl hsize rfl rfl (rest := rest) rfl
    (by rw [hb]; exact d4) (by rw [hb]; exact d7) hout hRframes (by simp only [List.map_cons, List.sum_cons, hcat]; omega) hlocks
  obtain ⟨f1, f2⟩ := vx_frame hsame
  rw [hhp] at f1 f2
  have hWs : s.WarmedH U.vm := State.WarmedH.trans hW0 hW
  have hcl : s.vm.findClass cls = some ce.cls := by
    have h9 := hO.cls
    rw [hvm] at h9
    exact h9
  have hall : s.sameButNew ({ U with vm := s.vm } : State) locs mc ms := by
    subst hA
    obtain ⟨e1, e2⟩ := hsame
    rw [State.setFrames_setFrames] at e1
    have h2 : (T.setVm s.vm).sameButNew ({ U with vm := s.vm } : State) [] (0 + 1) (0 + 6) := ⟨e1, e2⟩
    have h3 := X.same.trans h2
    rw [List.append_nil] at h3
    exact h3.mono hc hs
  refine ⟨U, ?_, .threw T.heap.size, hrun, hend, Or.inr ⟨T.heap.size, rfl, cls, ce, locs, hx U hWs.alike f1 (fun q hq => f2 q hq (fun z hz => nomatch hz)), hce, hO.vm, hcl, hWs, hall, hf⟩⟩
  refine st1 _ ?_
  show Steps p.tables e below (T1.setTop { method := m, pc := pc + 3, locals := ls, stack := .ref T.heap.size :: rest, locked := none }) _
  jvm_step X₁.here [X₁.here.top, hexec, d3', Value.category]
  exact hsteps
/-- 'throw new E("text")': new; dup; ldc; invokespecial; athrow -/
theorem vx_throwS {cc : ByteArray} {pc : Nat} (hexec : p.tables.exec = Jvm.exec) (hb : c.code = cc) (hl : l.stackTraces = false) {own cls text : String} {names : List String} {ik is ic mc ms sa : Nat} {A : Nat → Prop}
    (hown : s.vm.findClass own = some m.cls) (hcls : Bundle.fit cls = true) (hnames : ∀ n ∈ names, Bundle.fit n = true)
    (hk : (Cond.classLink own ik cls).before args s = true) (hini : (Cond.initialized cls).before args s = true) (hstr : vk_R own is text sa s) (hat : ∀ w ∈ vx_atS own ic cls names, w.before args s = true)
    (hgood : ∀ w ∈ Cond.classLink own ik cls :: Cond.initialized cls :: vx_atS own ic cls names, vx_ot w = true)
    (hU : vx_Zq Bundle.tN "UNASSIGNED_STACK" Bundle.steD A s s.heap) (hN : vx_Zq Bundle.tN "SUPPRESSED_SENTINEL" Bundle.listD A s s.heap) (hS : va_S A s.heap H locs) (hsize : ls.size = c.maxLocals)
    (d0 : decode cc pc = .ok (.new ik, 3)) (d3 : decode cc (pc + 3) = .ok (.dup, 1)) (d4 : decode cc (pc + 4) = .ok (.ldc is, 2)) (d6 : decode cc (pc + 6) = .ok (.invokespecial ic, 3)) (d9 : decode cc (pc + 9) = .ok (.athrow, 1))
    (hout : ∀ x ∈ c.exceptionTable.toList, covers x (pc + 9) = false)
    (hRframes : names.length + 3 < R.frames) (hRlocals : (rest.map fun v => v.category).sum + (13 * (names.length + 1) + 43) ≤ R.locals) (hRcells : cells + 1 ≤ R.cells) (hRslots : slots + 6 ≤ R.slots) (hlocks : meth.locks = false)
    (hx : ∀ t : State, s.vm.Alike t.vm → H.size ≤ t.heap.size → (∀ q : Nat, q < H.size → t.heap[q]? = H[q]?) → XC cls s t)
    (hf : ∀ z ∈ locs, free z.base) (hc : cells + 1 ≤ mc) (hs : slots + 6 ≤ ms) :
    W p l e R s m args below meth c H locs cells slots (vx_MQ below Qc XC args s mc ms free) (F0 m pc ls rest) := by
  intro T hT X
  have htr : e.platform.stackTraces = false := (show e.platform.stackTraces = l.stackTraces by rw [X.admits.platform]).trans hl
  have Y := vx_rebase X (R' := { frames := R.frames, locals := R.locals, cells := 1, slots := 6 }) (Nat.le_refl _) (Nat.le_refl _) hRcells hRslots
  obtain ⟨s', hA⟩ : ∃ z, z = (T.setVm s.vm).setFrames (.invoking m args :: below) := ⟨_, rfl⟩
  rw [← hA] at Y
  have hvm : s'.vm = s.vm := by rw [hA]; rfl
  have hhp : s'.heap = H := by rw [hA]; exact hT
  have hW0 : s.WarmedH s'.vm := by rw [hvm]; exact State.WarmedH.refl s
  have hat' : ∀ w ∈ vx_atS own ic cls names, w.before args s' = true := fun w hw => vx_ot_at hW0 hvm.symm (hgood w (List.mem_cons_of_mem _ (List.mem_cons_of_mem _ hw))) (hat w hw)
  have hk' : (Cond.classLink own ik cls).before args s' = true := vx_ot_at hW0 hvm.symm (hgood _ List.mem_cons_self) hk
  have hini' : (Cond.initialized cls).before args s' = true := vx_ot_at hW0 hvm.symm (hgood _ (List.mem_cons_of_mem _ List.mem_cons_self)) hini
  have hU' : vx_Zq Bundle.tN "UNASSIGNED_STACK" Bundle.steD A s' s'.heap := by rw [hhp]; exact vx_Zq.moved hW0.alike (hU.kept hS.2.1)
  have hN' : vx_Zq Bundle.tN "SUPPRESSED_SENTINEL" Bundle.listD A s' s'.heap := by rw [hhp]; exact vx_Zq.moved hW0.alike (hN.kept hS.2.1)
  have h : ∀ w ∈ Bundle.ownAtoms own ic cls names, w.before args s' = true := vx_own hat' (vx_isRefq hU'.1) (vx_isRefq hN'.1) hU'.2.word hN'.2.word
  have hown' : s'.vm.findClass own = some m.cls := by rw [hvm]; exact hown
  have hins : (Cond.instantiable cls 6).before args s' = true := h _ (by simp [Bundle.ownAtoms])
  obtain ⟨vm₁, cX, kX, hfX, hkX, -, -, X₁, st1⟩ := Y.newCold hexec (own := own) (C := cls) (index := ik) (n := 6) hown' hk' hins hini'
    (g := F0 m pc ls rest) rfl (by rw [hb]; exact d0) (Nat.le_refl _) (Nat.le_refl _)
  generalize hT1 : (T.setVm vm₁).pushCell { cls := cX, slots := kX.instanceTypes.map defaultValue, vm := .none } = T1 at X₁ st1
  have hcat : (Value.ref T.heap.size).category = 1 := rfl
  have hcellA : T1.heap[T.heap.size]? = some (freshCell cX kX) := by rw [← hT1]; exact State.heap_pushCell_size _ _
  have d3' : decode c.code (pc + 3) = .ok (.dup, 1) := by rw [hb]; exact d3
  have d4' : decode c.code (pc + 4) = .ok (.ldc is, 2) := by rw [hb]; exact d4
  have hstr' : vk_R own is text sa s' := vk_R.warm hW0 hstr
  obtain ⟨U, hsteps, hrun, hend, hW, hsame, ce, hce, hO⟩ := X₁.ctorThrowS hexec htr (own := own) (cls := cls) (names := names) (ic := ic) hown' hcls hnames h (fun x hx => nomatch hx) hfX hkX hcellA (by rw [hhp, hT]; exact Nat.le_refl _) (msg := .ref sa) rfl
    (g := { method := m, pc := pc + 6, locals := ls, stack := .ref sa :: .ref T.heap.size :: .ref T.heap.size :: rest, locked := none }) rfl hsize rfl rfl (rest := rest) rfl
    (by rw [hb]; exact d6) (by rw [hb]; exact d9) hout hRframes (by simp only [List.map_cons, List.sum_cons, hcat]; omega) hlocks
  obtain ⟨f1, f2⟩ := vx_frame hsame
  rw [hhp] at f1 f2
  have hWs : s.WarmedH U.vm := State.WarmedH.trans hW0 hW
  have hcl : s.vm.findClass cls = some ce.cls := by
    have h9 := hO.cls
    rw [hvm] at h9
    exact h9
  have hall : s.sameButNew ({ U with vm := s.vm } : State) locs mc ms := by
    subst hA
    obtain ⟨e1, e2⟩ := hsame
    rw [State.setFrames_setFrames] at e1
    have h2 : (T.setVm s.vm).sameButNew ({ U with vm := s.vm } : State) [] (0 + 1) (0 + 6) := ⟨e1, e2⟩
    have h3 := X.same.trans h2
    rw [List.append_nil] at h3
    exact h3.mono hc hs
  refine ⟨U, ?_, .threw T.heap.size, hrun, hend, Or.inr ⟨T.heap.size, rfl, cls, ce, locs, hx U hWs.alike f1 (fun q hq => f2 q hq (fun z hz => nomatch hz)), hce, hO.vm, hcl, hWs, hall, hf⟩⟩
  refine st1 _ ?_
  show Steps p.tables e below (T1.setTop { method := m, pc := pc + 3, locals := ls, stack := .ref T.heap.size :: rest, locked := none }) _
  jvm_step X₁.here [X₁.here.top, hexec, d3', Value.category]
  exact X₁.ldcString hexec (own := own) (text := text) (index := is) (a := sa) hown' hstr'.1 hstr'.2
    (g := { method := m, pc := pc + 4, locals := ls, stack := .ref T.heap.size :: .ref T.heap.size :: rest, locked := none }) rfl d4' _ hsteps
/-- 'throw new E("text")', the text by a wide index -/
theorem vx_throwSW {cc : ByteArray} {pc : Nat} (hexec : p.tables.exec = Jvm.exec) (hb : c.code = cc) (hl : l.stackTraces = false) {own cls text : String} {names : List String} {ik is ic mc ms sa : Nat} {A : Nat → Prop}
    (hown : s.vm.findClass own = some m.cls) (hcls : Bundle.fit cls = true) (hnames : ∀ n ∈ names, Bundle.fit n = true)
    (hk : (Cond.classLink own ik cls).before args s = true) (hini : (Cond.initialized cls).before args s = true) (hstr : vk_R own is text sa s) (hat : ∀ w ∈ vx_atS own ic cls names, w.before args s = true)
    (hgood : ∀ w ∈ Cond.classLink own ik cls :: Cond.initialized cls :: vx_atS own ic cls names, vx_ot w = true)
    (hU : vx_Zq Bundle.tN "UNASSIGNED_STACK" Bundle.steD A s s.heap) (hN : vx_Zq Bundle.tN "SUPPRESSED_SENTINEL" Bundle.listD A s s.heap) (hS : va_S A s.heap H locs) (hsize : ls.size = c.maxLocals)
    (d0 : decode cc pc = .ok (.new ik, 3)) (d3 : decode cc (pc + 3) = .ok (.dup, 1)) (d4 : decode cc (pc + 4) = .ok (.ldc_w is, 3)) (d7 : decode cc (pc + 7) = .ok (.invokespecial ic, 3)) (d10 : decode cc (pc + 10) = .ok (.athrow, 1))
    (hout : ∀ x ∈ c.exceptionTable.toList, covers x (pc + 10) = false)
    (hRframes : names.length + 3 < R.frames) (hRlocals : (rest.map fun v => v.category).sum + (13 * (names.length + 1) + 43) ≤ R.locals) (hRcells : cells + 1 ≤ R.cells) (hRslots : slots + 6 ≤ R.slots) (hlocks : meth.locks = false)
    (hx : ∀ t : State, s.vm.Alike t.vm → H.size ≤ t.heap.size → (∀ q : Nat, q < H.size → t.heap[q]? = H[q]?) → XC cls s t)
    (hf : ∀ z ∈ locs, free z.base) (hc : cells + 1 ≤ mc) (hs : slots + 6 ≤ ms) :
    W p l e R s m args below meth c H locs cells slots (vx_MQ below Qc XC args s mc ms free) (F0 m pc ls rest) := by
  intro T hT X
  have htr : e.platform.stackTraces = false := (show e.platform.stackTraces = l.stackTraces by rw [X.admits.platform]).trans hl
  have Y := vx_rebase X (R' := { frames := R.frames, locals := R.locals, cells := 1, slots := 6 }) (Nat.le_refl _) (Nat.le_refl _) hRcells hRslots
  obtain ⟨s', hA⟩ : ∃ z, z = (T.setVm s.vm).setFrames (.invoking m args :: below) := ⟨_, rfl⟩
  rw [← hA] at Y
  have hvm : s'.vm = s.vm := by rw [hA]; rfl
  have hhp : s'.heap = H := by rw [hA]; exact hT
  have hW0 : s.WarmedH s'.vm := by rw [hvm]; exact State.WarmedH.refl s
  have hat' : ∀ w ∈ vx_atS own ic cls names, w.before args s' = true := fun w hw => vx_ot_at hW0 hvm.symm (hgood w (List.mem_cons_of_mem _ (List.mem_cons_of_mem _ hw))) (hat w hw)
  have hk' : (Cond.classLink own ik cls).before args s' = true := vx_ot_at hW0 hvm.symm (hgood _ List.mem_cons_self) hk
  have hini' : (Cond.initialized cls).before args s' = true := vx_ot_at hW0 hvm.symm (hgood _ (List.mem_cons_of_mem _ List.mem_cons_self)) hini
  have hU' : vx_Zq Bundle.tN "UNASSIGNED_STACK" Bundle.steD A s' s'.heap := by rw [hhp]; exact vx_Zq.moved hW0.alike (hU.kept hS.2.1)
  have hN' : vx_Zq Bundle.tN "SUPPRESSED_SENTINEL" Bundle.listD A s' s'.heap := by rw [hhp]; exact vx_Zq.moved hW0.alike (hN.kept hS.2.1)
  have h : ∀ w ∈ Bundle.ownAtoms own ic cls names, w.before args s' = true := vx_own hat' (vx_isRefq hU'.1) (vx_isRefq hN'.1) hU'.2.word hN'.2.word
  have hown' : s'.vm.findClass own = some m.cls := by rw [hvm]; exact hown
  have hins : (Cond.instantiable cls 6).before args s' = true := h _ (by simp [Bundle.ownAtoms])
  obtain ⟨vm₁, cX, kX, hfX, hkX, -, -, X₁, st1⟩ := Y.newCold hexec (own := own) (C := cls) (index := ik) (n := 6) hown' hk' hins hini'
    (g := F0 m pc ls rest) rfl (by rw [hb]; exact d0) (Nat.le_refl _) (Nat.le_refl _)
  generalize hT1 : (T.setVm vm₁).pushCell { cls := cX, slots := kX.instanceTypes.map defaultValue, vm := .none } = T1 at X₁ st1
  have hcat : (Value.ref T.heap.size).category = 1 := rfl
  have hcellA : T1.heap[T.heap.size]? = some (freshCell cX kX) := by rw [← hT1]; exact State.heap_pushCell_size _ _
  have d3' : decode c.code (pc + 3) = .ok (.dup, 1) := by rw [hb]; exact d3
  have d4' : decode c.code (pc + 4) = .ok (.ldc_w is, 3) := by rw [hb]; exact d4
  have hstr' : vk_R own is text sa s' := vk_R.warm hW0 hstr
  obtain ⟨U, hsteps, hrun, hend, hW, hsame, ce, hce, hO⟩ := X₁.ctorThrowS hexec htr (own := own) (cls := cls) (names := names) (ic := ic) hown' hcls hnames h (fun x hx => nomatch hx) hfX hkX hcellA (by rw [hhp, hT]; exact Nat.le_refl _) (msg := .ref sa) rfl
    (g := { method := m, pc := pc + 7, locals := ls, stack := .ref sa :: .ref T.heap.size :: .ref T.heap.size :: rest, locked := none }) rfl hsize rfl rfl (rest := rest) rfl
    (by rw [hb]; exact d7) (by rw [hb]; exact d10) hout hRframes (by simp only [List.map_cons, List.sum_cons, hcat]; omega) hlocks
  obtain ⟨f1, f2⟩ := vx_frame hsame
  rw [hhp] at f1 f2
  have hWs : s.WarmedH U.vm := State.WarmedH.trans hW0 hW
  have hcl : s.vm.findClass cls = some ce.cls := by
    have h9 := hO.cls
    rw [hvm] at h9
    exact h9
  have hall : s.sameButNew ({ U with vm := s.vm } : State) locs mc ms := by
    subst hA
    obtain ⟨e1, e2⟩ := hsame
    rw [State.setFrames_setFrames] at e1
    have h2 : (T.setVm s.vm).sameButNew ({ U with vm := s.vm } : State) [] (0 + 1) (0 + 6) := ⟨e1, e2⟩
    have h3 := X.same.trans h2
    rw [List.append_nil] at h3
    exact h3.mono hc hs
  refine ⟨U, ?_, .threw T.heap.size, hrun, hend, Or.inr ⟨T.heap.size, rfl, cls, ce, locs, hx U hWs.alike f1 (fun q hq => f2 q hq (fun z hz => nomatch hz)), hce, hO.vm, hcl, hWs, hall, hf⟩⟩
  refine st1 _ ?_
  show Steps p.tables e below (T1.setTop { method := m, pc := pc + 3, locals := ls, stack := .ref T.heap.size :: rest, locked := none }) _
  jvm_step X₁.here [X₁.here.top, hexec, d3', Value.category]
  exact X₁.ldcStringW hexec (own := own) (text := text) (index := is) (a := sa) hown' hstr'.1 hstr'.2
    (g := { method := m, pc := pc + 4, locals := ls, stack := .ref T.heap.size :: .ref T.heap.size :: rest, locked := none }) rfl d4' _ hsteps
end Ends
section Bodies
variable {l : Launch}
theorem vx_ofW {y : MethodName} {ws ws' : List Cond} {rm : Room} {Pc : Array Value → State → Prop} {Qc : Array Value → State → Outcome → State → Prop} {XC : String → State → State → Prop} {mc ms : Nat} {free : Addr → Prop} {cc : ByteArray} {maxL : Nat} {ret : Option FieldType}
    (hy : plainName y.cls = true) (hw : ws = Cond.code y cc maxL ret :: ws')
    (body : ∀ p e s m args below meth c s₁, BodyLoose p l y (headSpec ws rm) cc maxL ret e s m args below meth c s₁ → c.maxLocals = maxL → (∀ x ∈ c.exceptionTable.toList, False) → Pc args s →
      W p l e (headSpec ws rm).room s m args below meth c s.heap [] 0 0 (vx_MQ below Qc XC args s mc ms free) (entryFrame m args maxL)) : vx_Met l y ws rm Pc Qc XC mc ms free := by
  refine MetFree.of_bodyS (code := cc) (maxLocals := maxL) (ret := ret) hy ?_ ?_
  · intro args s m h hn
    obtain ⟨meth, c, h1, h2, h3, h4, h5, h6, -, -⟩ := Cond.code_spec hn (atoms_spec (ws := ws) h _ (by rw [hw]; exact List.mem_cons_self))
    exact ⟨meth, c, h1, h2, h3, h4, h5, h6⟩
  · intro p e s m args below meth c s₁ B hml hP _
    have hh0 : s₁.heap = s.heap := by rw [B.state]; rfl
    have ht : ∀ x ∈ c.exceptionTable.toList, False := by
      obtain ⟨meth9, c9, h1, h2, -, -, -, -, h7, -⟩ := Cond.code_spec B.named (atoms_spec (ws := ws) B.pre _ (by rw [hw]; exact List.mem_cons_self))
      cases Option.some.inj (h1.symm.trans B.method)
      cases Option.some.inj (h2.symm.trans (Stand.of_body B).code)
      intro x hx
      rw [Array.isEmpty_iff.mp h7] at hx
      cases hx
    obtain ⟨t, a1, o, b1, b2, b3⟩ := body p e s m args below meth c s₁ B hml ht hP s₁ hh0 (Stand.of_body B)
    exact ⟨t, o, a1, b1, b2, b3⟩
/-- the table of a body with handlers -/
theorem vx_table {p : Program} {x y : MethodName} {S : Spec} {cc bytes : ByteArray} {maxL maxL' : Nat} {ret ret' : Option FieldType} {e : Env} {s s₁ : State} {m : MethodId} {args : Array Value} {below : List Frame} {meth : Method} {c : Code} {hh : List (Nat × Nat × Nat × Nat)}
    (B : BodyLoose p l y S cc maxL ret e s m args below meth c s₁) (h : (Cond.codeWith y bytes maxL' ret' hh).before args s = true) : c.exceptionTable.toList = tableOf hh := by
  obtain ⟨m9, meth9, c9, hn9, h1, h2, -, -, h6, -⟩ := Cond.codeWith_spec h
  cases Option.some.inj (hn9.symm.trans B.named)
  cases Option.some.inj (h1.symm.trans B.method)
  cases Option.some.inj (h2.symm.trans (Stand.of_body B).code)
  rw [← h6, table_eq]
end Bodies
end VXA
/-! ===== END ===== -/
/-! ===== BEGIN a static call of a method with an exception table ===== -/
section VXS
variable {p : Program} {l : Launch} {e : Env} {R : Room} {s : State} {m : MethodId} {args : Array Value} {below : List Frame} {meth : Method} {c : Code} {T : State} {H : Heap} {locs : List Loc} {cells slots : Nat}
abbrev vx_CSW (R : Room) (s : State) (args : Array Value) (own : String) (index : Nat) (y : MethodName) (bytes : ByteArray) (maxL : Nat) (ret : Option FieldType) (hh : List (Nat × Nat × Nat × Nat)) (ws : List Cond) (rm : Room) (mc ms n : Nat) : Prop :=
  (rm.cells = mc ∧ rm.slots = ms ∧ rm.frames + 1 ≤ R.frames ∧ 8 + (maxL + 11) + rm.locals ≤ R.locals ∧ (∀ w ∈ ws, ∀ (a' : Array Value) (U : State), s.WarmedH U.vm → w.before a' U = true) ∧ Cond.codeWith y bytes maxL ret hh ∈ ws) ∧
  (Cond.codeWith y bytes maxL ret hh).before args s = true ∧ (Cond.initialized y.cls).before args s = true ∧ (y.cls ≠ "java/lang/invoke/MethodHandle" ∧ y.cls ≠ "java/lang/invoke/VarHandle") ∧
  (∀ sig, parseMethodDescriptor y.desc = some sig → n = sig.parameters.length) ∧ (Cond.methodLink own index y).before args s = true ∧ (Cond.static y).before args s = true
theorem vx_cwSW {own : String} {index maxL mc ms : Nat} {y : MethodName} {bytes : ByteArray} {ret : Option FieldType} {hh : List (Nat × Nat × Nat × Nat)} {Ts ws ws' : List Cond} {rm : Room} (n : Nat) (ht : ∀ w ∈ Ts, w.before args s = true) (hT : GoodIn Ts (va_wsS own index y ws)) (hw : ws = Cond.codeWith y bytes maxL ret hh :: ws') (hrc : rm.cells = mc) (hrs : rm.slots = ms)
    (hd : y.cls ≠ "java/lang/invoke/MethodHandle" ∧ y.cls ≠ "java/lang/invoke/VarHandle" ∧ (parseMethodDescriptor y.desc).map (fun d => d.parameters.length) = some n) (hR : rm.frames + 1 ≤ R.frames ∧ 8 + (maxL + 11) + rm.locals ≤ R.locals) :
    vx_CSW R s args own index y bytes maxL ret hh ws rm mc ms n := by
  have ok : ∀ w ∈ va_wsS own index y ws, w.before args s = true := fun w h => ht w (hT w h).1
  have hG : GoodIn Ts ws := fun w h => hT w (by unfold va_wsS; exact List.mem_append_right _ h)
  have hc : Cond.codeWith y bytes maxL ret hh ∈ ws := by rw [hw]; exact List.mem_cons_self
  refine ⟨⟨hrc, hrs, hR.1, hR.2, pay_in ht hG, hc⟩, ht _ (hG _ hc).1, ok _ (by simp [va_wsS]), ⟨hd.1, hd.2.1⟩, fun sig h => ?_, ok _ (by simp [va_wsS]), ok _ (by simp [va_wsS])⟩
  have h2 := hd.2.2
  rw [h] at h2
  exact (Option.some.inj h2).symm
theorem vx_callSW (X : Stand p l e R s m args below meth c T locs cells slots) (hexec : p.tables.exec = Jvm.exec) {own : String} {index : Nat} {y : MethodName} {bytes : ByteArray} {maxL : Nat} {ret : Option FieldType} {hh : List (Nat × Nat × Nat × Nat)}
    (hown : s.vm.findClass own = some m.cls) (hlink : (Cond.methodLink own index y).before args s = true) (hstat : (Cond.static y).before args s = true) (hinit : (Cond.initialized y.cls).before args s = true)
    (hcode : (Cond.codeWith y bytes maxL ret hh).before args s = true) (hy : y.cls ≠ "java/lang/invoke/MethodHandle" ∧ y.cls ≠ "java/lang/invoke/VarHandle")
    {W9 : Nat} {Pre : Pt → Array Value → Prop} {Post : Pt → Array Value → Option Value → Pt → Prop} (hK : Back l R p e below s args y 3 W9 Pre Post)
    {g : JFrame} (hg : g.method = m) (hsize : g.locals.size = c.maxLocals) {argsL rest : List Value} (hlen : ∀ sig, parseMethodDescriptor y.desc = some sig → argsL.length = sig.parameters.length)
    (hstack : g.stack = argsL.reverse ++ rest) (hW : 2 * g.monitorRoom + (rest.map fun v => v.category).sum ≤ W9) (hdg : decode c.code g.pc = .ok (.invokestatic index, 3))
    (hpre : ∀ vm₁, s.WarmedH vm₁ → Pre ⟨T.setVm vm₁, locs, cells, slots⟩ argsL.toArray) :
    ∃ (v : Option Value) (vm₁ : Vm) (B : Pt), s.WarmedH vm₁ ∧ Stand p l e R s m args below meth c B.U B.locs B.cells B.slots ∧ Post ⟨T.setVm vm₁, locs, cells, slots⟩ argsL.toArray v B ∧
      ∀ target, Steps p.tables e below (B.U.setTop { g with pc := g.pc + 3, stack := v.toList ++ rest }) target → Steps p.tables e below (T.setTop g) target := by
  obtain ⟨mk, methM, cM, hnamed, hmethM, -, -, -, -, -, -, hsigM⟩ := Cond.codeWith_spec hcode
  have hstatic : methM.isStatic = true := Cond.static_spec hnamed hmethM hstat
  obtain ⟨kP, hkP, -⟩ := className_of_methodNamed hnamed
  have hinitP : kP.init = .initialized := Cond.initialized_spec (findClass_of_methodNamed hnamed) hkP hinit
  obtain ⟨vm₁, X₁, hstep₁⟩ := X.invokestatic hexec hown hlink hnamed hmethM hstatic hkP hinitP hy (g := g) hg (argsL := argsL) (rest := rest) (hlen _ hsigM) hstack hdg
  obtain ⟨v, B, X', hpost, hsteps⟩ := hK m meth c ⟨T.setVm vm₁, locs, cells, slots⟩ { g with stack := rest } (.invokestatic index) mk argsL.toArray X₁ hg hsize hdg hW (X₁.named hnamed) (hpre vm₁ X₁.warmed)
  exact ⟨v, vm₁, B, X₁.warmed, X', hpost, fun target h => hstep₁ _ fun acts => by rw [doInvoke_state]; exact hsteps.trans h⟩
theorem vx_runSW {y : MethodName} {bytes cc : ByteArray} {maxL nL mc ms n index : Nat} {ret : Option FieldType} {hh : List (Nat × Nat × Nat × Nat)} {ws : List Cond} {rm : Room} {Pc : Array Value → State → Prop} {Qc : Array Value → State → Outcome → State → Prop} {free : Addr → Prop} {Ts : List Cond} {own : String} {As rest : List Value} {g : JFrame}
    (S : CallFix p m c cc nL s args Ts own) (hM : Met l y ws rm Pc Qc mc ms free) (cw : vx_CSW R s args own index y bytes maxL ret hh ws rm mc ms n) (hp : PreS s H Pc As)
    (hg : g.method = m) (hn : As.length = n) (hsize : g.locals.size = nL) (hstack : g.stack = As.reverse ++ rest) (hW : 2 * g.monitorRoom + (rest.map fun v => v.category).sum ≤ 8) (hdg : decode cc g.pc = .ok (.invokestatic index, 3)) (hf : cells + mc ≤ R.cells ∧ slots + ms ≤ R.slots) :
    va_Run p l e R s m args below meth c H locs cells slots mc ms g rest (Qc As.toArray) (free) := by
  obtain ⟨⟨hrc, hrs, hfr, hlo, hws, hcw⟩, hcode, hini, hy, hlen, hl, hstt⟩ := cw
  have hK : Back l R p e below s args y 3 8 (PreOf R mc ms Pc) (PostOf Qc mc ms free) := va_backW (hh := hh) (bytes := bytes) (maxL := maxL) (ret := ret) hM hp.1 hrc hrs hfr hlo hws hcw (fun a' U hW => word_at hW (Or.inl (by first | rfl | simp [Cond.onTables, Cond.keeps, Cond.steady])) hini)
  obtain ⟨hx, hb, hml, ho, -⟩ := S
  intro T hT X
  obtain ⟨v, vm₁, ⟨U', l2, c2, s2⟩, hW₁, X', ⟨g', mk, t, L, e1, e2, hq, h1, hL, h2, h3⟩, st⟩ := vx_callSW X hx (hh := hh) (bytes := bytes) (maxL := maxL) (ret := ret) ho hl hstt hini hcode hy hK hg (hsize.trans hml.symm) (argsL := As) (rest := rest) (fun sig h => hn.trans (hlen sig h)) hstack hW (by rw [hb]; exact hdg)
    (fun vm₁ hW₁ => ⟨hf.1, hf.2, hp.2 (T.setVm vm₁) hT hW₁⟩)
  dsimp only [Pt.U, Pt.locs, Pt.cells, Pt.slots] at X' e1 e2 h1 h2 h3 st
  subst h1; subst h2; subst h3
  exact ⟨v, (T.setVm vm₁).calling g' mk As.toArray, t, U', L, hT, X', hL, e1, e2, hq, st⟩
/-- not caught here, past rows that name other classes: it goes on to the caller -/
theorem vx_outP {p : Program} {l : Launch} {e : Env} {R : Room} {s : State} {m : MethodId} {args : Array Value} {below : List Frame} {meth : Method} {c : Code} {H : Heap} {locs : List Loc} {cells slots : Nat} {free : Addr → Prop} {ls : Array Slot} {rest : List Value} {Qc : Array Value → State → Outcome → State → Prop} {XC : String → State → State → Prop}
    {pc : Nat} {own E : String} {ce : Cell} {q : Addr} {mc ms : Nat} (hown : s.vm.findClass own = some m.cls) (hlocks : meth.locks = false)
    (hpass : ∀ z ∈ c.exceptionTable.toList, covers z pc = false ∨ (z.catchType ≠ 0 ∧ ∃ nm : String, (Cond.classLink own z.catchType nm).before args s = true ∧ va_Nc E nm s)) (hcell : H[q]? = some ce) (hv : ce.vm = .none) (hcl : s.vm.findClass E = some ce.cls)
    (hx : ∀ t : State, t.heap = H → s.vm.Alike t.vm → XC E s t) (hf : ∀ z ∈ locs, free z.base) (hc : cells ≤ mc) (hs : slots ≤ ms) :
    vx_W p l e R s m args below meth c H locs cells slots (vx_MQ below Qc XC args s mc ms free) (F0 m pc ls rest) q := by
  intro T hT X
  have hpl : e.platform.magicAccessors = ({} : Platform).magicAccessors := by rw [X.admits.platform]
  obtain ⟨vm', hW', X', st⟩ := X.outThrough hlocks q (g := F0 m pc ls rest) rfl rfl rfl (cell := ce) (by rw [hT]; exact hcell) (by rw [hv]; rfl)
    (by obtain ⟨k9, h9, -⟩ := Vm.findClass_spec hcl; exact ⟨k9, h9⟩) (fun z hz => by
      rcases hpass z hz with h | ⟨hz0, nm, hl1, hn1⟩
      · exact Or.inl h
      · obtain ⟨c6, hc6, hcl6⟩ := Cond.classLink_spec hown hl1 e.platform hpl
        obtain ⟨a8, b8, h1, h2, h3⟩ := hn1
        cases Option.some.inj (h1.symm.trans hcl)
        cases Option.some.inj (h2.symm.trans hc6)
        exact Or.inr ⟨hz0, _, hcl6, h3⟩)
  obtain ⟨g₀, hfr⟩ := X'.frames_eq
  have hcell9 : ((T.setVm vm').setFrames (.throwing q :: below)).heap[q]? = some ce := by
    show T.heap[q]? = some ce
    rw [hT]; exact hcell
  have hend : Ended ((T.setVm vm').setFrames (.throwing q :: below)) below (.threw q) := State.frames_setFrames _ (State.cur_lt_of_frames hfr)
  refine ⟨(T.setVm vm').setFrames (.throwing q :: below), ?_, .threw q, X'.here.running, hend, Or.inr ⟨q, rfl, E, ce, locs, hx _ hT (X'.ends _).1.alike, hcell9, hv, hcl, (X'.ends _).1, (X'.ends _).2.mono hc hs, hf⟩⟩
  rw [X.pushThrowing_eq]
  exact st
/-- a thing of a world lies in the heap -/
theorem vx_lt {D : va_G} {cl : List vw_C} {ws : va_W} {H1 : Heap} (h : va_P D cl ws H1) {k : Nat} {q : Nat × va_E} (hk : ws[k]? = some q) : q.1 < H1.size := (h k q hk).lt
end VXS
/-! ===== END ===== -/
/-! ===== BEGIN methods with a table of their own: called by a name, returning or throwing ===== -/
section VXH
/-! vx_backW, vx_callVX, vx_callSX, vx_callVW, vx_runVW, vx_runVX, vx_runSX, vx_ofWH follow the same proofs as their sisters above (Free/Laws.lean, Shelf42/LK1.lean); vx_outP calls Shelf42/NT130.lean (outThrough). -/
section
variable {l : Launch} {R : Room} {p : Program} {e : Env} {below : List Frame} {s : State} {sargs : Array Value} {y : MethodName} {len W9 : Nat}
theorem vx_backW {ws : List Cond} {rm : Room} {Pc : Array Value → State → Prop} {Qc : Array Value → State → Outcome → State → Prop} {XC : String → State → State → Prop} {mc ms : Nat} {free : Addr → Prop} {bytes : ByteArray} {maxL : Nat} {ret : Option FieldType} {hh : List (Nat × Nat × Nat × Nat)}
    (hM : vx_Met l y ws rm Pc Qc XC mc ms free) (hblind : FrameBlind Pc) (hrc : rm.cells = mc) (hrs : rm.slots = ms)
    (hframes : rm.frames + 1 ≤ R.frames) (hlocals : W9 + (maxL + 11) + rm.locals ≤ R.locals)
    (hws : ∀ w ∈ ws, ∀ a' U, s.WarmedH U.vm → w.before a' U = true) (hcode : Cond.codeWith y bytes maxL ret hh ∈ ws) (hinit : ∀ a' U, s.WarmedH U.vm → (Cond.initialized y.cls).before a' U = true) :
    vx_Back l R p e below s sargs y len W9 (PreOf R mc ms Pc) (PostOf Qc mc ms free) (vx_Post XC mc ms free) := by
  intro m meth c A g ig mk a X hg hsize hdg hW hn hp
  have h1 : (headSpec ws rm).pre.before a A.U = true := atoms_intro fun w hw => hws w hw _ _ X.warmed
  have h2 : (Cond.codeWith y bytes maxL ret hh).before a A.U = true := hws _ hcode _ _ X.warmed
  have h3 : (Cond.initialized y.cls).before a A.U = true := hinit _ _ X.warmed
  have h4 : A.cells + (headSpec ws rm).room.cells ≤ R.cells := by rw [show (headSpec ws rm).room.cells = mc from hrc]; exact hp.1
  have h5 : A.slots + (headSpec ws rm).room.slots ≤ R.slots := by rw [show (headSpec ws rm).room.slots = ms from hrs]; exact hp.2.1
  have hPc : Pc a (A.U.calling g mk a) := hblind _ _ _ _ hp.2.2
  obtain ⟨U, Ls, c0, s0⟩ := A
  dsimp only [Pt.U, Pt.locs, Pt.cells, Pt.slots] at h1 h2 h3 h4 h5 X hn hPc ⊢
  obtain ⟨m9, methY, cY, hn9, hmY, hcY, -, hlY, -⟩ := Cond.codeWith_spec h2
  cases Option.some.inj (hn9.symm.trans hn)
  obtain ⟨kY, hkY, -⟩ := className_of_methodNamed hn
  have hinitY : kY.init = .initialized := Cond.initialized_spec (findClass_of_methodNamed hn) hkY h3
  have h : At U g.method c below := by rw [hg]; exact X.here
  have hlocals9 : W9 + (maxL + 11) + (headSpec ws rm).room.locals ≤ R.locals := hlocals
  have happ : (headSpec ws rm).appliesLoose y e.platform (U.calling g mk a) = true :=
    Spec.appliesLoose_calling (g := g) h hdg hn hkY hinitY
      (X.room_calling (g := g) (R' := (headSpec ws rm).room) hsize hmY hcY hframes (by rw [hlY]; omega) h4 h5) h1
  obtain ⟨mid, hmid⟩ := h.above
  have hfr : (U.setTop g).frames = (.java g :: mid) ++ below := by rw [State.frames_setTop' g h.top, hmid]; rfl
  obtain ⟨o, s₂, hsteps, -, hend, hq⟩ := Steps.callFree hM p X.admits X.cas X.clock (acts := []) hfr happ hPc trivial
  have hq' : vx_Q Qc XC mc ms free a (U.calling g mk a) o s₂ := hq
  rw [State.frames_setTop' g h.top] at hend
  obtain ⟨g₀, hg0⟩ := Option.isSome_iff_exists.mp h.top
  obtain ⟨r, hr⟩ := State.topJava?_eq_some.mp hg0
  have hr' : (({ U with heap := s₂.heap, slotsUsed := s₂.slotsUsed } : State).setVm s₂.vm).frames = .java g₀ :: r := hr
  rcases hq' with ⟨hqc, L, hfe, hL⟩ | ⟨q, rfl, E, ce, L, hx, hce, hcv, hcl, hW₂, hsm, hL⟩
  · obtain ⟨⟨v, rfl⟩, hW₂, e2, q2, q3, q4, q5, q6⟩ := id hfe
    have e3 : s₂ = ({ (U.calling g mk a).setFrames s₂.frames with heap := s₂.heap, slotsUsed := s₂.slotsUsed } : State).setVm s₂.vm := by
      have : s₂ = ({ s₂ with vm := (U.calling g mk a).vm } : State).setVm s₂.vm := rfl
      rw [e2] at this
      exact this
    obtain ⟨c₂, i₂, len₂, hc₂, hd₂, hf₂⟩ := hend
    have hW' : U.WarmedH s₂.vm := hW₂
    have hcc : c₂ = c := by
      have h1 : s₂.code? g.method = U.code? g.method := by
        rw [State.code?_eq, State.code?_eq, hW'.alike.method?]
      exact Option.some.inj (hc₂.symm.trans (h1.trans h.code))
    subst hcc
    have hlen : len₂ = len := by rw [hdg] at hd₂; cases hd₂; rfl
    subst hlen
    have hs₂ : s₂ = (({ U with heap := s₂.heap, slotsUsed := s₂.slotsUsed } : State).setVm s₂.vm).setTop { g with pc := g.pc + len₂, stack := v.toList ++ g.stack } := by
      refine e3.trans ?_
      rw [hf₂, State.calling_eq h.top, State.setFrames_setFrames, State.setTop_of_frames _ hr', hr]
      rfl
    have hsame : U.sameButNew ({ U with heap := s₂.heap, slotsUsed := s₂.slotsUsed } : State) L mc ms := by
      refine ⟨?_, q2, q3, q4, q5, q6⟩
      obtain ⟨t, ht, -⟩ := State.frames_cons hr
      show ({ U with heap := s₂.heap, slotsUsed := s₂.slotsUsed } : State) = { U.setFrames U.frames with heap := s₂.heap, slotsUsed := s₂.slotsUsed }
      rw [State.setFrames_self ht]
    subst hg
    refine Or.inl ⟨v, ⟨(({ U with heap := s₂.heap, slotsUsed := s₂.slotsUsed } : State).setVm s₂.vm), Ls ++ L, c0 + mc, s0 + ms⟩,
      ⟨X.admits, X.cas, X.clock, X.frames, X.room, X.hears, X.method, X.code, (X.here.setHeapUsed s₂.heap s₂.slotsUsed).setVm hW'.alike, X.tail, State.WarmedH.trans X.warmed hW', X.limits, X.bytes, X.same.trans (hsame.setVm s.vm)⟩,
      ⟨g, mk, s₂, L, rfl, rfl, hqc, rfl, hL, rfl, rfl⟩, ?_⟩
    show Steps p.tables e below _ ((({ U with heap := s₂.heap, slotsUsed := s₂.slotsUsed } : State).setVm s₂.vm).setTop { g with pc := g.pc + len₂, stack := v.toList ++ g.stack })
    rw [← hs₂]
    exact hsteps
  · obtain ⟨e2, q2, q3, q4, q5, q6⟩ := id hsm
    have e3 : s₂ = ({ (U.calling g mk a).setFrames s₂.frames with heap := s₂.heap, slotsUsed := s₂.slotsUsed } : State).setVm s₂.vm := by
      have : s₂ = ({ s₂ with vm := (U.calling g mk a).vm } : State).setVm s₂.vm := rfl
      rw [e2] at this
      exact this
    have hf₂ : s₂.frames = .throwing q :: .java g :: U.frames.tail := hend
    have hW' : U.WarmedH s₂.vm := hW₂
    have hs₂ : s₂ = ((({ U with heap := s₂.heap, slotsUsed := s₂.slotsUsed } : State).setVm s₂.vm).setTop g).pushFrame (.throwing q) := by
      refine e3.trans ?_
      rw [hf₂, State.calling_eq h.top, State.setFrames_setFrames, State.pushFrame, State.frames_setTop _ hr', State.setTop_of_frames _ hr', State.setFrames_setFrames, hr]
      rfl
    have hsame : U.sameButNew ({ U with heap := s₂.heap, slotsUsed := s₂.slotsUsed } : State) L mc ms := by
      refine ⟨?_, q2, q3, q4, q5, q6⟩
      obtain ⟨t, ht, -⟩ := State.frames_cons hr
      show ({ U with heap := s₂.heap, slotsUsed := s₂.slotsUsed } : State) = { U.setFrames U.frames with heap := s₂.heap, slotsUsed := s₂.slotsUsed }
      rw [State.setFrames_self ht]
    subst hg
    refine Or.inr ⟨q, ⟨(({ U with heap := s₂.heap, slotsUsed := s₂.slotsUsed } : State).setVm s₂.vm), Ls ++ L, c0 + mc, s0 + ms⟩,
      ⟨X.admits, X.cas, X.clock, X.frames, X.room, X.hears, X.method, X.code, (X.here.setHeapUsed s₂.heap s₂.slotsUsed).setVm hW'.alike, X.tail, State.WarmedH.trans X.warmed hW', X.limits, X.bytes, X.same.trans (hsame.setVm s.vm)⟩,
      ⟨g, mk, s₂, L, E, ce, rfl, rfl, hx, hce, hcv, hcl, rfl, hL, rfl, rfl⟩, ?_⟩
    show Steps p.tables e below _ (((({ U with heap := s₂.heap, slotsUsed := s₂.slotsUsed } : State).setVm s₂.vm).setTop g).pushFrame (.throwing q))
    rw [← hs₂]
    exact hsteps
end
variable {p : Program} {l : Launch} {e : Env} {R : Room} {s : State} {m : MethodId} {args : Array Value} {below : List Frame} {meth : Method} {c : Code} {T : State} {H : Heap} {locs : List Loc} {cells slots : Nat}
theorem vx_callVX (X : Stand p l e R s m args below meth c T locs cells slots) (hexec : p.tables.exec = Jvm.exec) {own C : String} {index : Nat} {y : MethodName} {bytes : ByteArray} {maxL : Nat} {ret : Option FieldType} {hh : List (Nat × Nat × Nat × Nat)}
    (hown : s.vm.findClass own = some m.cls) (hlink : (Cond.methodLink own index y).before args s = true) (hinst : (Cond.instanceMethod y).before args s = true) (hsel : (Cond.selects C y y).before args s = true)
    (hcode : (Cond.codeWith y bytes maxL ret hh).before args s = true) (hy : y.cls ≠ "java/lang/invoke/MethodHandle" ∧ y.cls ≠ "java/lang/invoke/VarHandle")
    {W9 : Nat} {Pre : Pt → Array Value → Prop} {Post : Pt → Array Value → Option Value → Pt → Prop} {PostX : Pt → Array Value → Addr → Pt → Prop} (hK : vx_Back l R p e below s args y 3 W9 Pre Post PostX)
    {b : Addr} {cellB : Cell} (hcell : T.heap[b]? = some cellB) (hobj : cellB.vm.isStatics = false) (hcls : s.vm.findClass C = some cellB.cls)
    {g : JFrame} (hg : g.method = m) (hsize : g.locals.size = c.maxLocals) {argsL rest : List Value} (hlen : ∀ sig, parseMethodDescriptor y.desc = some sig → argsL.length = sig.parameters.length)
    (hstack : g.stack = argsL.reverse ++ .ref b :: rest) (hW : 2 * g.monitorRoom + (rest.map fun v => v.category).sum ≤ W9) (hdg : decode c.code g.pc = .ok (.invokevirtual index, 3))
    (hpre : ∀ vm₁, s.WarmedH vm₁ → Pre ⟨T.setVm vm₁, locs, cells, slots⟩ (Value.ref b :: argsL).toArray) :
    (∃ (v : Option Value) (vm₁ : Vm) (B : Pt), s.WarmedH vm₁ ∧ Stand p l e R s m args below meth c B.U B.locs B.cells B.slots ∧ Post ⟨T.setVm vm₁, locs, cells, slots⟩ (Value.ref b :: argsL).toArray v B ∧
      ∀ target, Steps p.tables e below (B.U.setTop { g with pc := g.pc + 3, stack := v.toList ++ rest }) target → Steps p.tables e below (T.setTop g) target) ∨
    (∃ (q : Addr) (vm₁ : Vm) (B : Pt), s.WarmedH vm₁ ∧ Stand p l e R s m args below meth c B.U B.locs B.cells B.slots ∧ PostX ⟨T.setVm vm₁, locs, cells, slots⟩ (Value.ref b :: argsL).toArray q B ∧
      Steps p.tables e below (T.setTop g) ((B.U.setTop { g with stack := rest }).pushFrame (.throwing q))) := by
  obtain ⟨mk, methM, hnamed, hmethM, hstM, habM⟩ := Cond.instanceMethod_spec hinst
  obtain ⟨m8, methM', cM, hn8, hmethM', -, -, -, -, -, -, hsigM⟩ := Cond.codeWith_spec hcode
  cases Option.some.inj (hn8.symm.trans hnamed)
  cases hmethM.symm.trans hmethM'
  obtain ⟨c2, r2, m2, q1, q2, q3, q4, kP, hkP, hkPi⟩ := Cond.selects_spec hsel
  cases hcls.symm.trans q1
  cases (State.methodFound?_of_named hnamed hy).symm.trans q2
  cases hnamed.symm.trans q3
  have hselP : selectMethod e.platform s.vm cellB.cls mk = .method mk := by rw [Launch.admits_selectMethod X.admits]; exact q4
  obtain ⟨vm₁, X₁, hstep₁⟩ := X.invokevirtual hexec hown hlink hnamed hmethM hstM hkP hkPi hy (a := b) (cell := cellB) hcell
    (fun z h => by rw [h] at hobj; cases hobj) hselP hmethM habM hkP hkPi (g := g) hg (argsL := argsL) (rest := rest) (hlen _ hsigM) hstack hdg
  rcases hK m meth c ⟨T.setVm vm₁, locs, cells, slots⟩ { g with stack := rest } (.invokevirtual index) mk (Value.ref b :: argsL).toArray X₁ hg hsize hdg hW (X₁.named hnamed) (hpre vm₁ X₁.warmed) with ⟨v, B, X', hpost, hsteps⟩ | ⟨q, B, X', hpost, hsteps⟩
  · exact Or.inl ⟨v, vm₁, B, X₁.warmed, X', hpost, fun target h => hstep₁ _ fun acts => by rw [doInvoke_state]; exact hsteps.trans h⟩
  · exact Or.inr ⟨q, vm₁, B, X₁.warmed, X', hpost, hstep₁ _ fun acts => by rw [doInvoke_state]; exact hsteps⟩
theorem vx_callSX (X : Stand p l e R s m args below meth c T locs cells slots) (hexec : p.tables.exec = Jvm.exec) {own : String} {index : Nat} {y : MethodName} {bytes : ByteArray} {maxL : Nat} {ret : Option FieldType} {hh : List (Nat × Nat × Nat × Nat)}
    (hown : s.vm.findClass own = some m.cls) (hlink : (Cond.methodLink own index y).before args s = true) (hstat : (Cond.static y).before args s = true) (hinit : (Cond.initialized y.cls).before args s = true)
    (hcode : (Cond.codeWith y bytes maxL ret hh).before args s = true) (hy : y.cls ≠ "java/lang/invoke/MethodHandle" ∧ y.cls ≠ "java/lang/invoke/VarHandle")
    {W9 : Nat} {Pre : Pt → Array Value → Prop} {Post : Pt → Array Value → Option Value → Pt → Prop} {PostX : Pt → Array Value → Addr → Pt → Prop} (hK : vx_Back l R p e below s args y 3 W9 Pre Post PostX)
    {g : JFrame} (hg : g.method = m) (hsize : g.locals.size = c.maxLocals) {argsL rest : List Value} (hlen : ∀ sig, parseMethodDescriptor y.desc = some sig → argsL.length = sig.parameters.length)
    (hstack : g.stack = argsL.reverse ++ rest) (hW : 2 * g.monitorRoom + (rest.map fun v => v.category).sum ≤ W9) (hdg : decode c.code g.pc = .ok (.invokestatic index, 3))
    (hpre : ∀ vm₁, s.WarmedH vm₁ → Pre ⟨T.setVm vm₁, locs, cells, slots⟩ argsL.toArray) :
    (∃ (v : Option Value) (vm₁ : Vm) (B : Pt), s.WarmedH vm₁ ∧ Stand p l e R s m args below meth c B.U B.locs B.cells B.slots ∧ Post ⟨T.setVm vm₁, locs, cells, slots⟩ argsL.toArray v B ∧
      ∀ target, Steps p.tables e below (B.U.setTop { g with pc := g.pc + 3, stack := v.toList ++ rest }) target → Steps p.tables e below (T.setTop g) target) ∨
    (∃ (q : Addr) (vm₁ : Vm) (B : Pt), s.WarmedH vm₁ ∧ Stand p l e R s m args below meth c B.U B.locs B.cells B.slots ∧ PostX ⟨T.setVm vm₁, locs, cells, slots⟩ argsL.toArray q B ∧
      Steps p.tables e below (T.setTop g) ((B.U.setTop { g with stack := rest }).pushFrame (.throwing q))) := by
  obtain ⟨mk, methM, cM, hnamed, hmethM, -, -, -, -, -, -, hsigM⟩ := Cond.codeWith_spec hcode
  have hstatic : methM.isStatic = true := Cond.static_spec hnamed hmethM hstat
  obtain ⟨kP, hkP, -⟩ := className_of_methodNamed hnamed
  have hinitP : kP.init = .initialized := Cond.initialized_spec (findClass_of_methodNamed hnamed) hkP hinit
  obtain ⟨vm₁, X₁, hstep₁⟩ := X.invokestatic hexec hown hlink hnamed hmethM hstatic hkP hinitP hy (g := g) hg (argsL := argsL) (rest := rest) (hlen _ hsigM) hstack hdg
  rcases hK m meth c ⟨T.setVm vm₁, locs, cells, slots⟩ { g with stack := rest } (.invokestatic index) mk argsL.toArray X₁ hg hsize hdg hW (X₁.named hnamed) (hpre vm₁ X₁.warmed) with ⟨v, B, X', hpost, hsteps⟩ | ⟨q, B, X', hpost, hsteps⟩
  · exact Or.inl ⟨v, vm₁, B, X₁.warmed, X', hpost, fun target h => hstep₁ _ fun acts => by rw [doInvoke_state]; exact hsteps.trans h⟩
  · exact Or.inr ⟨q, vm₁, B, X₁.warmed, X', hpost, hstep₁ _ fun acts => by rw [doInvoke_state]; exact hsteps⟩
theorem vx_callVW (X : Stand p l e R s m args below meth c T locs cells slots) (hexec : p.tables.exec = Jvm.exec) {own C : String} {index : Nat} {y : MethodName} {bytes : ByteArray} {maxL : Nat} {ret : Option FieldType} {hh : List (Nat × Nat × Nat × Nat)}
    (hown : s.vm.findClass own = some m.cls) (hlink : (Cond.methodLink own index y).before args s = true) (hinst : (Cond.instanceMethod y).before args s = true) (hsel : (Cond.selects C y y).before args s = true)
    (hcode : (Cond.codeWith y bytes maxL ret hh).before args s = true) (hy : y.cls ≠ "java/lang/invoke/MethodHandle" ∧ y.cls ≠ "java/lang/invoke/VarHandle")
    {W9 : Nat} {Pre : Pt → Array Value → Prop} {Post : Pt → Array Value → Option Value → Pt → Prop} (hK : Back l R p e below s args y 3 W9 Pre Post)
    {b : Addr} {cellB : Cell} (hcell : T.heap[b]? = some cellB) (hobj : cellB.vm.isStatics = false) (hcls : s.vm.findClass C = some cellB.cls)
    {g : JFrame} (hg : g.method = m) (hsize : g.locals.size = c.maxLocals) {argsL rest : List Value} (hlen : ∀ sig, parseMethodDescriptor y.desc = some sig → argsL.length = sig.parameters.length)
    (hstack : g.stack = argsL.reverse ++ .ref b :: rest) (hW : 2 * g.monitorRoom + (rest.map fun v => v.category).sum ≤ W9) (hdg : decode c.code g.pc = .ok (.invokevirtual index, 3))
    (hpre : ∀ vm₁, s.WarmedH vm₁ → Pre ⟨T.setVm vm₁, locs, cells, slots⟩ (Value.ref b :: argsL).toArray) :
    ∃ (v : Option Value) (vm₁ : Vm) (B : Pt), s.WarmedH vm₁ ∧ Stand p l e R s m args below meth c B.U B.locs B.cells B.slots ∧ Post ⟨T.setVm vm₁, locs, cells, slots⟩ (Value.ref b :: argsL).toArray v B ∧
      ∀ target, Steps p.tables e below (B.U.setTop { g with pc := g.pc + 3, stack := v.toList ++ rest }) target → Steps p.tables e below (T.setTop g) target := by
  obtain ⟨mk, methM, hnamed, hmethM, hstM, habM⟩ := Cond.instanceMethod_spec hinst
  obtain ⟨m8, methM', cM, hn8, hmethM', -, -, -, -, -, -, hsigM⟩ := Cond.codeWith_spec hcode
  cases Option.some.inj (hn8.symm.trans hnamed)
  cases hmethM.symm.trans hmethM'
  obtain ⟨c2, r2, m2, q1, q2, q3, q4, kP, hkP, hkPi⟩ := Cond.selects_spec hsel
  cases hcls.symm.trans q1
  cases (State.methodFound?_of_named hnamed hy).symm.trans q2
  cases hnamed.symm.trans q3
  have hselP : selectMethod e.platform s.vm cellB.cls mk = .method mk := by rw [Launch.admits_selectMethod X.admits]; exact q4
  obtain ⟨vm₁, X₁, hstep₁⟩ := X.invokevirtual hexec hown hlink hnamed hmethM hstM hkP hkPi hy (a := b) (cell := cellB) hcell
    (fun z h => by rw [h] at hobj; cases hobj) hselP hmethM habM hkP hkPi (g := g) hg (argsL := argsL) (rest := rest) (hlen _ hsigM) hstack hdg
  obtain ⟨v, B, X', hpost, hsteps⟩ := hK m meth c ⟨T.setVm vm₁, locs, cells, slots⟩ { g with stack := rest } (.invokevirtual index) mk (Value.ref b :: argsL).toArray X₁ hg hsize hdg hW (X₁.named hnamed) (hpre vm₁ X₁.warmed)
  exact ⟨v, vm₁, B, X₁.warmed, X', hpost, fun target h => hstep₁ _ fun acts => by rw [doInvoke_state]; exact hsteps.trans h⟩
abbrev vx_CVW (R : Room) (s : State) (args : Array Value) (own C : String) (index : Nat) (y : MethodName) (bytes : ByteArray) (maxL : Nat) (ret : Option FieldType) (hh : List (Nat × Nat × Nat × Nat)) (ws : List Cond) (rm : Room) (mc ms n : Nat) : Prop :=
  (rm.cells = mc ∧ rm.slots = ms ∧ rm.frames + 1 ≤ R.frames ∧ 8 + (maxL + 11) + rm.locals ≤ R.locals ∧ (∀ w ∈ ws, ∀ (a' : Array Value) (U : State), s.WarmedH U.vm → w.before a' U = true) ∧ Cond.codeWith y bytes maxL ret hh ∈ ws) ∧
  (Cond.codeWith y bytes maxL ret hh).before args s = true ∧ (Cond.initialized y.cls).before args s = true ∧ (y.cls ≠ "java/lang/invoke/MethodHandle" ∧ y.cls ≠ "java/lang/invoke/VarHandle") ∧
  (∀ sig, parseMethodDescriptor y.desc = some sig → n = sig.parameters.length) ∧ (Cond.methodLink own index y).before args s = true ∧ (Cond.instanceMethod y).before args s = true ∧ (Cond.selects C y y).before args s = true
theorem vx_cwVW {own C : String} {index maxL mc ms : Nat} {y : MethodName} {bytes : ByteArray} {ret : Option FieldType} {hh : List (Nat × Nat × Nat × Nat)} {Ts ws ws' : List Cond} {rm : Room} (n : Nat) (ht : ∀ w ∈ Ts, w.before args s = true) (hT : GoodIn Ts (wsV own index C y ws)) (hw : ws = Cond.codeWith y bytes maxL ret hh :: ws') (hrc : rm.cells = mc) (hrs : rm.slots = ms)
    (hd : y.cls = C ∧ y.cls ≠ "java/lang/invoke/MethodHandle" ∧ y.cls ≠ "java/lang/invoke/VarHandle" ∧ (parseMethodDescriptor y.desc).map (fun d => d.parameters.length) = some n) (hR : rm.frames + 1 ≤ R.frames ∧ 8 + (maxL + 11) + rm.locals ≤ R.locals) :
    vx_CVW R s args own C index y bytes maxL ret hh ws rm mc ms n := by
  obtain ⟨hC, hd⟩ := hd
  subst hC
  have ok : ∀ w ∈ wsV own index y.cls y ws, w.before args s = true := fun w h => ht w (hT w h).1
  have hG : GoodIn Ts ws := fun w h => hT w (by unfold wsV; exact List.mem_append_right _ h)
  have hc : Cond.codeWith y bytes maxL ret hh ∈ ws := by rw [hw]; exact List.mem_cons_self
  refine ⟨⟨hrc, hrs, hR.1, hR.2, pay_in ht hG, hc⟩, ht _ (hG _ hc).1, ok _ (by simp [wsV]), ⟨hd.1, hd.2.1⟩, fun sig h => ?_, ok _ (by simp [wsV]), ok _ (by simp [wsV]), ok _ (by simp [wsV])⟩
  have h2 := hd.2.2
  rw [h] at h2
  exact (Option.some.inj h2).symm
theorem vx_runVW {y : MethodName} {bytes cc : ByteArray} {maxL nL mc ms n index : Nat} {ret : Option FieldType} {hh : List (Nat × Nat × Nat × Nat)} {ws : List Cond} {rm : Room} {Pc : Array Value → State → Prop} {Qc : Array Value → State → Outcome → State → Prop} {free : Addr → Prop} {Ts : List Cond} {own C : String} {b : Addr} {As rest : List Value} {g : JFrame}
    (S : CallFix p m c cc nL s args Ts own) (hM : Met l y ws rm Pc Qc mc ms free) (cw : vx_CVW R s args own C index y bytes maxL ret hh ws rm mc ms n) (hp : PreV s H C b Pc As)
    (hg : g.method = m) (hn : As.length = n) (hsize : g.locals.size = nL) (hstack : g.stack = As.reverse ++ .ref b :: rest) (hW : 2 * g.monitorRoom + (rest.map fun v => v.category).sum ≤ 8) (hdg : decode cc g.pc = .ok (.invokevirtual index, 3)) (hf : cells + mc ≤ R.cells ∧ slots + ms ≤ R.slots) :
    va_Run p l e R s m args below meth c H locs cells slots mc ms g rest (Qc (Value.ref b :: As).toArray) free := by
  obtain ⟨⟨hrc, hrs, hfr, hlo, hws, hcw⟩, hcode, hini, hy, hlen, hl, hin, hse⟩ := cw
  have hK : Back l R p e below s args y 3 8 (PreOf R mc ms Pc) (PostOf Qc mc ms free) := va_backW (hh := hh) (bytes := bytes) (maxL := maxL) (ret := ret) hM hp.1 hrc hrs hfr hlo hws hcw (fun a' U hW => word_at hW (Or.inl (by first | rfl | simp [Cond.onTables, Cond.keeps, Cond.steady])) hini)
  obtain ⟨hx, hb, hml, ho, -⟩ := S
  obtain ⟨-, ⟨cellB, hcB, hoB, hclB⟩, hPc⟩ := hp
  intro T hT X
  obtain ⟨v, vm₁, ⟨U', l2, c2, s2⟩, hW₁, X', ⟨g', mk, t, L, e1, e2, hq, h1, hL, h2, h3⟩, st⟩ := vx_callVW X hx (C := C) (hh := hh) (bytes := bytes) (maxL := maxL) (ret := ret) ho hl hin hse hcode hy hK (by rw [hT]; exact hcB) hoB hclB hg (hsize.trans hml.symm) (argsL := As) (rest := rest) (fun sig h => hn.trans (hlen sig h)) hstack hW (by rw [hb]; exact hdg)
    (fun vm₁ hW₁ => ⟨hf.1, hf.2, hPc (T.setVm vm₁) hT hW₁⟩)
  dsimp only [Pt.U, Pt.locs, Pt.cells, Pt.slots] at X' e1 e2 h1 h2 h3 st
  subst h1; subst h2; subst h3
  exact ⟨v, (T.setVm vm₁).calling g' mk (Value.ref b :: As).toArray, t, U', L, hT, X', hL, e1, e2, hq, st⟩
section
variable {y : MethodName} {bytes cc : ByteArray} {maxL nL mc ms n index : Nat} {ret : Option FieldType} {ws : List Cond} {rm : Room} {Pc : Array Value → State → Prop} {Qc : Array Value → State → Outcome → State → Prop} {XC : String → State → State → Prop} {free : Addr → Prop} {Ts : List Cond} {own C : String} {b : Addr} {As rest : List Value} {g : JFrame}
theorem vx_runVX {hh : List (Nat × Nat × Nat × Nat)} (S : CallFix p m c cc nL s args Ts own) (hM : vx_Met l y ws rm Pc Qc XC mc ms free) (cw : vx_CVW R s args own C index y bytes maxL ret hh ws rm mc ms n) (hp : PreV s H C b Pc As)
    (hg : g.method = m) (hn : As.length = n) (hsize : g.locals.size = nL) (hstack : g.stack = As.reverse ++ .ref b :: rest) (hW : 2 * g.monitorRoom + (rest.map fun v => v.category).sum ≤ 8) (hdg : decode cc g.pc = .ok (.invokevirtual index, 3)) (hf : cells + mc ≤ R.cells ∧ slots + ms ≤ R.slots) :
    vx_Run p l e R s m args below meth c H locs cells slots mc ms g rest (Qc (Value.ref b :: As).toArray) XC free := by
  obtain ⟨⟨hrc, hrs, hfr, hlo, hws, hcw⟩, hcode, hini, hy, hlen, hl, hin, hse⟩ := cw
  have hK : vx_Back l R p e below s args y 3 8 (PreOf R mc ms Pc) (PostOf Qc mc ms free) (vx_Post XC mc ms free) := vx_backW (hh := hh) (bytes := bytes) (maxL := maxL) (ret := ret) hM hp.1 hrc hrs hfr hlo hws hcw (fun a' U hW => word_at hW (Or.inl (by first | rfl | simp [Cond.onTables, Cond.keeps, Cond.steady])) hini)
  obtain ⟨hx, hb, hml, ho, -⟩ := S
  obtain ⟨-, ⟨cellB, hcB, hoB, hclB⟩, hPc⟩ := hp
  intro T hT X
  rcases vx_callVX X hx (C := C) (hh := hh) (bytes := bytes) (maxL := maxL) (ret := ret) ho hl hin hse hcode hy hK (by rw [hT]; exact hcB) hoB hclB hg (hsize.trans hml.symm) (argsL := As) (rest := rest) (fun sig h => hn.trans (hlen sig h)) hstack hW (by rw [hb]; exact hdg)
    (fun vm₁ hW₁ => ⟨hf.1, hf.2, hPc (T.setVm vm₁) hT hW₁⟩) with ⟨v, vm₁, ⟨U', l2, c2, s2⟩, hW₁, X', ⟨g', mk, t, L, e1, e2, hq, h1, hL, h2, h3⟩, st⟩ | ⟨q, vm₁, ⟨U', l2, c2, s2⟩, hW₁, X', ⟨g', mk, t, L, E, ce, e1, e2, hq, hce, hcv, hcl, h1, hL, h2, h3⟩, st⟩
  · dsimp only [Pt.U, Pt.locs, Pt.cells, Pt.slots] at X' e1 e2 h1 h2 h3 st
    subst h1; subst h2; subst h3
    exact Or.inl ⟨v, (T.setVm vm₁).calling g' mk (Value.ref b :: As).toArray, t, U', L, hT, X', hL, e1, e2, hq, st⟩
  · dsimp only [Pt.U, Pt.locs, Pt.cells, Pt.slots] at X' e1 e2 h1 h2 h3 st hcl
    subst h1; subst h2; subst h3
    exact Or.inr ⟨q, (T.setVm vm₁).calling g' mk (Value.ref b :: As).toArray, t, U', L, E, ce, hT, X', hL, e1, e2, hq, hce, hcv, vx_cls hW₁ hcl, st⟩
theorem vx_runSX {hh : List (Nat × Nat × Nat × Nat)} (S : CallFix p m c cc nL s args Ts own) (hM : vx_Met l y ws rm Pc Qc XC mc ms free) (cw : vx_CSW R s args own index y bytes maxL ret hh ws rm mc ms n) (hp : PreS s H Pc As)
    (hg : g.method = m) (hn : As.length = n) (hsize : g.locals.size = nL) (hstack : g.stack = As.reverse ++ rest) (hW : 2 * g.monitorRoom + (rest.map fun v => v.category).sum ≤ 8) (hdg : decode cc g.pc = .ok (.invokestatic index, 3)) (hf : cells + mc ≤ R.cells ∧ slots + ms ≤ R.slots) :
    vx_Run p l e R s m args below meth c H locs cells slots mc ms g rest (Qc As.toArray) XC free := by
  obtain ⟨⟨hrc, hrs, hfr, hlo, hws, hcw⟩, hcode, hini, hy, hlen, hl, hstt⟩ := cw
  have hK : vx_Back l R p e below s args y 3 8 (PreOf R mc ms Pc) (PostOf Qc mc ms free) (vx_Post XC mc ms free) := vx_backW (hh := hh) (bytes := bytes) (maxL := maxL) (ret := ret) hM hp.1 hrc hrs hfr hlo hws hcw (fun a' U hW => word_at hW (Or.inl (by first | rfl | simp [Cond.onTables, Cond.keeps, Cond.steady])) hini)
  obtain ⟨hx, hb, hml, ho, -⟩ := S
  intro T hT X
  rcases vx_callSX X hx (hh := hh) (bytes := bytes) (maxL := maxL) (ret := ret) ho hl hstt hini hcode hy hK hg (hsize.trans hml.symm) (argsL := As) (rest := rest) (fun sig h => hn.trans (hlen sig h)) hstack hW (by rw [hb]; exact hdg)
    (fun vm₁ hW₁ => ⟨hf.1, hf.2, hp.2 (T.setVm vm₁) hT hW₁⟩) with ⟨v, vm₁, ⟨U', l2, c2, s2⟩, hW₁, X', ⟨g', mk, t, L, e1, e2, hq, h1, hL, h2, h3⟩, st⟩ | ⟨q, vm₁, ⟨U', l2, c2, s2⟩, hW₁, X', ⟨g', mk, t, L, E, ce, e1, e2, hq, hce, hcv, hcl, h1, hL, h2, h3⟩, st⟩
  · dsimp only [Pt.U, Pt.locs, Pt.cells, Pt.slots] at X' e1 e2 h1 h2 h3 st
    subst h1; subst h2; subst h3
    exact Or.inl ⟨v, (T.setVm vm₁).calling g' mk As.toArray, t, U', L, hT, X', hL, e1, e2, hq, st⟩
  · dsimp only [Pt.U, Pt.locs, Pt.cells, Pt.slots] at X' e1 e2 h1 h2 h3 st hcl
    subst h1; subst h2; subst h3
    exact Or.inr ⟨q, (T.setVm vm₁).calling g' mk As.toArray, t, U', L, E, ce, hT, X', hL, e1, e2, hq, hce, hcv, vx_cls hW₁ hcl, st⟩
end
end VXH
theorem vx_ofWH {l : Launch} {y : MethodName} {ws ws' : List Cond} {rm : Room} {Pc : Array Value → State → Prop} {Qc : Array Value → State → Outcome → State → Prop} {XC : String → State → State → Prop} {mc ms : Nat} {free : Addr → Prop} {cc : ByteArray} {maxL : Nat} {ret : Option FieldType} {hh : List (Nat × Nat × Nat × Nat)}
    (hy : plainName y.cls = true) (hw : ws = Cond.codeWith y cc maxL ret hh :: ws')
    (body : ∀ p e s m args below meth c s₁, BodyLoose p l y (headSpec ws rm) cc maxL ret e s m args below meth c s₁ → c.maxLocals = maxL → Pc args s →
      W p l e (headSpec ws rm).room s m args below meth c s.heap [] 0 0 (vx_MQ below Qc XC args s mc ms free) (entryFrame m args maxL)) : vx_Met l y ws rm Pc Qc XC mc ms free := by
  refine MetFree.of_bodyS (code := cc) (maxLocals := maxL) (ret := ret) hy ?_ ?_
  · intro args s m h hn
    obtain ⟨m9, meth, c, hn9, h1, h2, h3, h4, -, h5, h6, -⟩ := Cond.codeWith_spec (atoms_spec (ws := ws) h _ (by rw [hw]; exact List.mem_cons_self))
    cases hn.symm.trans hn9
    exact ⟨meth, c, h1, h2, h3, h4, h5, h6⟩
  · intro p e s m args below meth c s₁ B hml hP _
    have hh0 : s₁.heap = s.heap := by rw [B.state]; rfl
    obtain ⟨t, a1, o, b1, b2, b3⟩ := body p e s m args below meth c s₁ B hml hP s₁ hh0 (Stand.of_body B)
    exact ⟨t, o, a1, b1, b2, b3⟩
/-! ===== END ===== -/

/-! ===== BEGIN printed: names, fields, word lists, decode rows ===== -/
def RX0 : String := "GridCommons$Ledger"
def TX0 : u_T := fun k => match k with
  | 0 => ("GridCommons$Ledger", "count", "I", false)
  | 1 => ("GridCommons$Ledger", "price", "[D", true)
  | 2 => ("GridCommons$Ledger", "sold", "[D", true)
  | 3 => ("GridCommons$Ledger", "use", "[D", true)
  | 4 => ("GridCommons$Ledger", "known", "[Z", true)
  | 5 => ("GridCommons$Ledger", "used", "[D", true)
  | 6 => ("GridCommons$Ledger", "fromSun", "[D", true)
  | 7 => ("GridCommons$Ledger", "fromBattery", "[D", true)
  | _ => ("GridCommons$Ledger", "bought", "[D", true)
def tyX0 : Nat → FieldType := fun k => match k with
  | 0 => .int
  | 1 => .array .double
  | 2 => .array .double
  | 3 => .array .double
  | 4 => .array .boolean
  | 5 => .array .double
  | 6 => .array .double
  | 7 => .array .double
  | _ => .array .double
abbrev wsX00 : List Cond := u_ws RX0 TX0 9
theorem nmX0 : ∀ a, a < 9 → ∀ b, b < 9 → a ≠ b → (TX0 a).2.1 ≠ (TX0 b).2.1 := by decide +kernel
theorem tyX0_ok : ∀ k, k < 9 → parseFieldDescriptor (TX0 k).2.2.1 = some (tyX0 k) := by decide +kernel
abbrev cX0_init : ByteArray := prog_2_method_1_code
def yX0_init : MethodName := ⟨RX0, "<init>", "()V"⟩
abbrev cX0_slot : ByteArray := prog_2_method_2_code
def yX0_slot : MethodName := ⟨RX0, "slot", "(II)I"⟩
abbrev cX0_guess : ByteArray := prog_2_method_3_code
def yX0_guess : MethodName := ⟨RX0, "guess", "(I)D"⟩
def RX1 : String := "GridCommons"
def TX1 : u_T := fun k => match k with
  | 0 => ("GridCommons", "shares", "[I", true)
  | 1 => ("GridCommons", "switches", "[Z", true)
  | 2 => ("GridCommons", "timesShed", "[I", true)
  | 3 => ("GridCommons", "bills", "[D", true)
  | 4 => ("GridCommons", "isTold", "[Z", true)
  | 5 => ("GridCommons", "toldUse", "[I", true)
  | 6 => ("GridCommons", "ledger", "LGridCommons$Ledger;", true)
  | 7 => ("GridCommons", "price", "D", false)
  | 8 => ("GridCommons", "stored", "D", false)
  | 9 => ("GridCommons", "whoseTurn", "I", false)
  | 10 => ("GridCommons", "needs", "[D", true)
  | _ => ("GridCommons", "leftOver", "D", false)
def tyX1 : Nat → FieldType := fun k => match k with
  | 0 => .array .int
  | 1 => .array .boolean
  | 2 => .array .int
  | 3 => .array .double
  | 4 => .array .boolean
  | 5 => .array .int
  | 6 => .object "GridCommons$Ledger"
  | 7 => .double
  | 8 => .double
  | 9 => .int
  | 10 => .array .double
  | _ => .double
abbrev wsX10 : List Cond := u_ws RX1 TX1 12
theorem nmX1 : ∀ a, a < 12 → ∀ b, b < 12 → a ≠ b → (TX1 a).2.1 ≠ (TX1 b).2.1 := by decide +kernel
theorem tyX1_ok : ∀ k, k < 12 → parseFieldDescriptor (TX1 k).2.2.1 = some (tyX1 k) := by decide +kernel
abbrev cX1_init : ByteArray := prog_1_method_1_code
def yX1_init : MethodName := ⟨RX1, "<init>", "()V"⟩
abbrev cX1_setShare : ByteArray := prog_1_method_2_code
def yX1_setShare : MethodName := ⟨RX1, "setShare", "(II)I"⟩
abbrev cX1_setSwitch : ByteArray := prog_1_method_3_code
def yX1_setSwitch : MethodName := ⟨RX1, "setSwitch", "(IZ)Z"⟩
abbrev cX1_setPrice : ByteArray := prog_1_method_4_code
def yX1_setPrice : MethodName := ⟨RX1, "setPrice", "(I)D"⟩
abbrev cX1_tell : ByteArray := prog_1_method_5_code
def yX1_tell : MethodName := ⟨RX1, "tell", "(II)Z"⟩
abbrev cX1_close : ByteArray := prog_1_method_6_code
def yX1_close : MethodName := ⟨RX1, "close", "(I)Z"⟩
abbrev cX1_closed : ByteArray := prog_1_method_7_code
def yX1_closed : MethodName := ⟨RX1, "closed", "()I"⟩
abbrev cX1_replace : ByteArray := prog_1_method_8_code
def yX1_replace : MethodName := ⟨RX1, "replace", "(III)D"⟩
abbrev cX1_use : ByteArray := prog_1_method_9_code
def yX1_use : MethodName := ⟨RX1, "use", "(II)D"⟩
abbrev cX1_fromSun : ByteArray := prog_1_method_10_code
def yX1_fromSun : MethodName := ⟨RX1, "fromSun", "(II)D"⟩
abbrev cX1_fromBattery : ByteArray := prog_1_method_11_code
def yX1_fromBattery : MethodName := ⟨RX1, "fromBattery", "(II)D"⟩
abbrev cX1_bought : ByteArray := prog_1_method_12_code
def yX1_bought : MethodName := ⟨RX1, "bought", "(II)D"⟩
abbrev cX1_sold : ByteArray := prog_1_method_13_code
def yX1_sold : MethodName := ⟨RX1, "sold", "(I)D"⟩
abbrev cX1_battery : ByteArray := prog_1_method_14_code
def yX1_battery : MethodName := ⟨RX1, "battery", "()D"⟩
abbrev cX1_turn : ByteArray := prog_1_method_15_code
def yX1_turn : MethodName := ⟨RX1, "turn", "()I"⟩
abbrev cX1_sheds : ByteArray := prog_1_method_16_code
def yX1_sheds : MethodName := ⟨RX1, "sheds", "(I)I"⟩
abbrev cX1_bill : ByteArray := prog_1_method_17_code
def yX1_bill : MethodName := ⟨RX1, "bill", "(I)D"⟩
abbrev cX1_requireWithin : ByteArray := prog_1_method_18_code
def yX1_requireWithin : MethodName := ⟨RX1, "requireWithin", "(III)V"⟩
abbrev cX1_requireOwner : ByteArray := prog_1_method_19_code
def yX1_requireOwner : MethodName := ⟨RX1, "requireOwner", "(I)V"⟩
abbrev cX1_requireQuarter : ByteArray := prog_1_method_20_code
def yX1_requireQuarter : MethodName := ⟨RX1, "requireQuarter", "(I)V"⟩
abbrev cX1_closedSlot : ByteArray := prog_1_method_21_code
def yX1_closedSlot : MethodName := ⟨RX1, "closedSlot", "(II)I"⟩
abbrev cX1_writeUses : ByteArray := prog_1_method_22_code
def yX1_writeUses : MethodName := ⟨RX1, "writeUses", "(I)V"⟩
abbrev cX1_shedUntilCarried : ByteArray := prog_1_method_23_code
def yX1_shedUntilCarried : MethodName := ⟨RX1, "shedUntilCarried", "()V"⟩
abbrev cX1_isOverLine : ByteArray := prog_1_method_24_code
def yX1_isOverLine : MethodName := ⟨RX1, "isOverLine", "()Z"⟩
abbrev cX1_nextToShed : ByteArray := prog_1_method_25_code
def yX1_nextToShed : MethodName := ⟨RX1, "nextToShed", "()I"⟩
abbrev cX1_writeUsed : ByteArray := prog_1_method_26_code
def yX1_writeUsed : MethodName := ⟨RX1, "writeUsed", "(I)V"⟩
abbrev cX1_giveByShare : ByteArray := prog_1_method_27_code
def yX1_giveByShare : MethodName := ⟨RX1, "giveByShare", "(II)V"⟩
abbrev cX1_giveByNeed : ByteArray := prog_1_method_28_code
def yX1_giveByNeed : MethodName := ⟨RX1, "giveByNeed", "(I)V"⟩
abbrev cX1_giveSun : ByteArray := prog_1_method_29_code
def yX1_giveSun : MethodName := ⟨RX1, "giveSun", "(IID)V"⟩
abbrev cX1_storeOrSell : ByteArray := prog_1_method_30_code
def yX1_storeOrSell : MethodName := ⟨RX1, "storeOrSell", "(I)V"⟩
abbrev cX1_giveFromBattery : ByteArray := prog_1_method_31_code
def yX1_giveFromBattery : MethodName := ⟨RX1, "giveFromBattery", "(I)V"⟩
abbrev cX1_writeBills : ByteArray := prog_1_method_32_code
def yX1_writeBills : MethodName := ⟨RX1, "writeBills", "(I)V"⟩
abbrev cX1_sumOfShares : ByteArray := prog_1_method_33_code
def yX1_sumOfShares : MethodName := ⟨RX1, "sumOfShares", "()I"⟩
abbrev cX1_sumOfNeeds : ByteArray := prog_1_method_34_code
def yX1_sumOfNeeds : MethodName := ⟨RX1, "sumOfNeeds", "()D"⟩
abbrev cX1_behind : ByteArray := prog_1_method_35_code
def yX1_behind : MethodName := ⟨RX1, "behind", "(I)I"⟩
abbrev cX1_lesser : ByteArray := prog_1_method_36_code
def yX1_lesser : MethodName := ⟨RX1, "lesser", "(DD)D"⟩
def RX2 : String := "GridCommonsModel"
def TX2 : u_T := fun k => match k with
  | 0 => ("GridCommonsModel", "thrown", "I", false)
  | 1 => ("GridCommonsModel", "shares", "[I", true)
  | 2 => ("GridCommonsModel", "areStuck", "[Z", true)
  | 3 => ("GridCommonsModel", "sheds", "[I", true)
  | 4 => ("GridCommonsModel", "bills", "[D", true)
  | 5 => ("GridCommonsModel", "price", "D", false)
  | 6 => ("GridCommonsModel", "battery", "D", false)
  | 7 => ("GridCommonsModel", "turn", "I", false)
  | 8 => ("GridCommonsModel", "closed", "I", false)
  | 9 => ("GridCommonsModel", "areTold", "[Z", true)
  | 10 => ("GridCommonsModel", "told", "[I", true)
  | 11 => ("GridCommonsModel", "areKnown", "[Z", true)
  | 12 => ("GridCommonsModel", "uses", "[D", true)
  | 13 => ("GridCommonsModel", "used", "[D", true)
  | 14 => ("GridCommonsModel", "fromSun", "[D", true)
  | 15 => ("GridCommonsModel", "fromBattery", "[D", true)
  | 16 => ("GridCommonsModel", "bought", "[D", true)
  | 17 => ("GridCommonsModel", "sold", "[D", true)
  | 18 => ("GridCommonsModel", "prices", "[D", true)
  | _ => ("GridCommonsModel", "needs", "[D", true)
def tyX2 : Nat → FieldType := fun k => match k with
  | 0 => .int
  | 1 => .array .int
  | 2 => .array .boolean
  | 3 => .array .int
  | 4 => .array .double
  | 5 => .double
  | 6 => .double
  | 7 => .int
  | 8 => .int
  | 9 => .array .boolean
  | 10 => .array .int
  | 11 => .array .boolean
  | 12 => .array .double
  | 13 => .array .double
  | 14 => .array .double
  | 15 => .array .double
  | 16 => .array .double
  | 17 => .array .double
  | 18 => .array .double
  | _ => .array .double
abbrev wsX20 : List Cond := u_ws RX2 TX2 20
theorem nmX2 : ∀ a, a < 20 → ∀ b, b < 20 → a ≠ b → (TX2 a).2.1 ≠ (TX2 b).2.1 := by decide +kernel
theorem tyX2_ok : ∀ k, k < 20 → parseFieldDescriptor (TX2 k).2.2.1 = some (tyX2 k) := by decide +kernel
abbrev cX2_init : ByteArray := prog_4_method_1_code
def yX2_init : MethodName := ⟨RX2, "<init>", "()V"⟩
abbrev cX2_thrown : ByteArray := prog_4_method_2_code
def yX2_thrown : MethodName := ⟨RX2, "thrown", "()I"⟩
abbrev cX2_holds : ByteArray := prog_4_method_3_code
def yX2_holds : MethodName := ⟨RX2, "holds", "(I)Z"⟩
abbrev cX2_in : ByteArray := prog_4_method_4_code
def yX2_in : MethodName := ⟨RX2, "in", "(III)Z"⟩
abbrev cX2_isOwner : ByteArray := prog_4_method_5_code
def yX2_isOwner : MethodName := ⟨RX2, "isOwner", "(I)Z"⟩
abbrev cX2_least : ByteArray := prog_4_method_6_code
def yX2_least : MethodName := ⟨RX2, "least", "(DD)D"⟩
abbrev cX2_others : ByteArray := prog_4_method_7_code
def yX2_others : MethodName := ⟨RX2, "others", "(I)I"⟩
abbrev cX2_setShare : ByteArray := prog_4_method_8_code
def yX2_setShare : MethodName := ⟨RX2, "setShare", "(II)I"⟩
abbrev cX2_setSwitch : ByteArray := prog_4_method_9_code
def yX2_setSwitch : MethodName := ⟨RX2, "setSwitch", "(IZ)Z"⟩
abbrev cX2_setPrice : ByteArray := prog_4_method_10_code
def yX2_setPrice : MethodName := ⟨RX2, "setPrice", "(I)D"⟩
abbrev cX2_tell : ByteArray := prog_4_method_11_code
def yX2_tell : MethodName := ⟨RX2, "tell", "(II)Z"⟩
abbrev cX2_guess : ByteArray := prog_4_method_12_code
def yX2_guess : MethodName := ⟨RX2, "guess", "(I)D"⟩
abbrev cX2_sum : ByteArray := prog_4_method_13_code
def yX2_sum : MethodName := ⟨RX2, "sum", "([DI)D"⟩
abbrev cX2_nextToShed : ByteArray := prog_4_method_14_code
def yX2_nextToShed : MethodName := ⟨RX2, "nextToShed", "(I)I"⟩
abbrev cX2_shed : ByteArray := prog_4_method_15_code
def yX2_shed : MethodName := ⟨RX2, "shed", "(I)Z"⟩
abbrev cX2_shares : ByteArray := prog_4_method_16_code
def yX2_shares : MethodName := ⟨RX2, "shares", "(II)D"⟩
abbrev cX2_gives : ByteArray := prog_4_method_17_code
def yX2_gives : MethodName := ⟨RX2, "gives", "(I)V"⟩
abbrev cX2_pays : ByteArray := prog_4_method_18_code
def yX2_pays : MethodName := ⟨RX2, "pays", "(I)V"⟩
abbrev cX2_close : ByteArray := prog_4_method_19_code
def yX2_close : MethodName := ⟨RX2, "close", "(I)Z"⟩
abbrev cX2_closed : ByteArray := prog_4_method_20_code
def yX2_closed : MethodName := ⟨RX2, "closed", "()I"⟩
abbrev cX2_isQuarter : ByteArray := prog_4_method_21_code
def yX2_isQuarter : MethodName := ⟨RX2, "isQuarter", "(I)Z"⟩
abbrev cX2_errorOfReplace : ByteArray := prog_4_method_22_code
def yX2_errorOfReplace : MethodName := ⟨RX2, "errorOfReplace", "(III)I"⟩
abbrev cX2_replace : ByteArray := prog_4_method_23_code
def yX2_replace : MethodName := ⟨RX2, "replace", "(III)D"⟩
abbrev cX2_isAt : ByteArray := prog_4_method_24_code
def yX2_isAt : MethodName := ⟨RX2, "isAt", "(II)Z"⟩
abbrev cX2_use : ByteArray := prog_4_method_25_code
def yX2_use : MethodName := ⟨RX2, "use", "(II)D"⟩
abbrev cX2_fromSun : ByteArray := prog_4_method_26_code
def yX2_fromSun : MethodName := ⟨RX2, "fromSun", "(II)D"⟩
abbrev cX2_fromBattery : ByteArray := prog_4_method_27_code
def yX2_fromBattery : MethodName := ⟨RX2, "fromBattery", "(II)D"⟩
abbrev cX2_bought : ByteArray := prog_4_method_28_code
def yX2_bought : MethodName := ⟨RX2, "bought", "(II)D"⟩
abbrev cX2_sold : ByteArray := prog_4_method_29_code
def yX2_sold : MethodName := ⟨RX2, "sold", "(I)D"⟩
abbrev cX2_battery : ByteArray := prog_4_method_30_code
def yX2_battery : MethodName := ⟨RX2, "battery", "()D"⟩
abbrev cX2_turn : ByteArray := prog_4_method_31_code
def yX2_turn : MethodName := ⟨RX2, "turn", "()I"⟩
abbrev cX2_sheds : ByteArray := prog_4_method_32_code
def yX2_sheds : MethodName := ⟨RX2, "sheds", "(I)I"⟩
abbrev cX2_bill : ByteArray := prog_4_method_33_code
def yX2_bill : MethodName := ⟨RX2, "bill", "(I)D"⟩
def RJ9 : String := "java/lang/Math"
def TJ9 : u_T := fun k => match k with
  | _ => ("", "", "", false)
def tyJ9 : Nat → FieldType := fun k => match k with
  | _ => .int
abbrev wsJ90 : List Cond := u_ws RJ9 TJ9 0
theorem nmJ9 : ∀ a, a < 0 → ∀ b, b < 0 → a ≠ b → (TJ9 a).2.1 ≠ (TJ9 b).2.1 := by decide +kernel
theorem tyJ9_ok : ∀ k, k < 0 → parseFieldDescriptor (TJ9 k).2.2.1 = some (tyJ9 k) := by decide +kernel
abbrev cJ9_floorMod_7cf53 : ByteArray := prog_9_method_50_code
def yJ9_floorMod_7cf53 : MethodName := ⟨RJ9, "floorMod", "(II)I"⟩
def RJ0 : String := "java/lang/String"
def TJ0 : u_T := fun k => match k with
  | _ => ("", "", "", false)
def tyJ0 : Nat → FieldType := fun k => match k with
  | _ => .int
abbrev wsJ00 : List Cond := u_ws RJ0 TJ0 0
theorem nmJ0 : ∀ a, a < 0 → ∀ b, b < 0 → a ≠ b → (TJ0 a).2.1 ≠ (TJ0 b).2.1 := by decide +kernel
theorem tyJ0_ok : ∀ k, k < 0 → parseFieldDescriptor (TJ0 k).2.2.1 = some (tyJ0 k) := by decide +kernel
def RL : String := "GridCommonsLaw"
abbrev cL_setShare : ByteArray := method_3_code
def yL_setShare : MethodName := ⟨RL, "setShare", "(LGridCommons;II[J)I"⟩
abbrev cL_setSwitch : ByteArray := method_4_code
def yL_setSwitch : MethodName := ⟨RL, "setSwitch", "(LGridCommons;IZ[J)I"⟩
abbrev cL_setPrice : ByteArray := method_5_code
def yL_setPrice : MethodName := ⟨RL, "setPrice", "(LGridCommons;I[D)I"⟩
abbrev cL_tell : ByteArray := method_6_code
def yL_tell : MethodName := ⟨RL, "tell", "(LGridCommons;II[J)I"⟩
abbrev cL_close : ByteArray := method_7_code
def yL_close : MethodName := ⟨RL, "close", "(LGridCommons;I[J)I"⟩
abbrev cL_replace : ByteArray := method_8_code
def yL_replace : MethodName := ⟨RL, "replace", "(LGridCommons;III[D)I"⟩
abbrev cL_use : ByteArray := method_9_code
def yL_use : MethodName := ⟨RL, "use", "(LGridCommons;II[D)I"⟩
abbrev cL_fromSun : ByteArray := method_10_code
def yL_fromSun : MethodName := ⟨RL, "fromSun", "(LGridCommons;II[D)I"⟩
abbrev cL_fromBattery : ByteArray := method_11_code
def yL_fromBattery : MethodName := ⟨RL, "fromBattery", "(LGridCommons;II[D)I"⟩
abbrev cL_bought : ByteArray := method_12_code
def yL_bought : MethodName := ⟨RL, "bought", "(LGridCommons;II[D)I"⟩
abbrev cL_sold : ByteArray := method_13_code
def yL_sold : MethodName := ⟨RL, "sold", "(LGridCommons;I[D)I"⟩
abbrev cL_sheds : ByteArray := method_14_code
def yL_sheds : MethodName := ⟨RL, "sheds", "(LGridCommons;I[J)I"⟩
abbrev cL_bill : ByteArray := method_15_code
def yL_bill : MethodName := ⟨RL, "bill", "(LGridCommons;I[D)I"⟩
abbrev cL_law : ByteArray := code
def yL_law : MethodName := ⟨RL, "law", "([I)Z"⟩
def wsX0_init : List Cond := .code yX0_init cX0_init 1 none :: ([.methodLink RX0 3 objectInit, .instanceMethod objectInit, .code objectInit ⟨#[0xb1]⟩ 1 none, .fieldLink RX0 9 "GridCommons$Ledger" "count" "I", .arrayClass .double, .fieldLink RX0 15 "GridCommons$Ledger" "price" "[D", .fieldLink RX0 19 "GridCommons$Ledger" "sold" "[D", .fieldLink RX0 22 "GridCommons$Ledger" "use" "[D", .arrayClass .boolean, .fieldLink RX0 25 "GridCommons$Ledger" "known" "[Z", .fieldLink RX0 29 "GridCommons$Ledger" "used" "[D", .fieldLink RX0 32 "GridCommons$Ledger" "fromSun" "[D", .fieldLink RX0 35 "GridCommons$Ledger" "fromBattery" "[D", .fieldLink RX0 38 "GridCommons$Ledger" "bought" "[D"] ++ wsX00)
def wsX0_slot : List Cond := .code yX0_slot cX0_slot 2 (some .int) :: ([])
def wsX0_guess : List Cond := .code yX0_guess cX0_guess 7 (some .double) :: ([.fieldLink RX0 9 "GridCommons$Ledger" "count" "I", .fieldLink RX0 25 "GridCommons$Ledger" "known" "[Z", .fieldLink RX0 22 "GridCommons$Ledger" "use" "[D", .constantDouble RX0 45 (4611686018427387904), .methodLink RX0 41 yX0_slot, .static yX0_slot, .initialized RX0, .code yX0_slot cX0_slot 2 (some .int)] ++ wsX00)
def wsX1_init_r1 : List Cond := [Cond.methodLink RX1 1 objectInit, Cond.instanceMethod objectInit, Cond.code objectInit ⟨#[0xb1]⟩ 1 none, Cond.arrayClass .int, Cond.fieldLink RX1 9 "GridCommons" "shares" "[I", Cond.arrayClass .boolean, Cond.fieldLink RX1 13 "GridCommons" "switches" "[Z", Cond.fieldLink RX1 17 "GridCommons" "timesShed" "[I", Cond.arrayClass .double, Cond.fieldLink RX1 20 "GridCommons" "bills" "[D", Cond.fieldLink RX1 24 "GridCommons" "isTold" "[Z", Cond.fieldLink RX1 27 "GridCommons" "toldUse" "[I", Cond.classLink RX1 30 RX0, Cond.instantiable RX0 9, Cond.initialized RX0, Cond.fieldLink RX1 33 "GridCommons" "ledger" "LGridCommons$Ledger;", Cond.constantDouble RX1 37 (4602678819172646912), Cond.fieldLink RX1 39 "GridCommons" "price" "D", Cond.fieldLink RX1 43 "GridCommons" "stored" "D", Cond.fieldLink RX1 46 "GridCommons" "whoseTurn" "I", Cond.fieldLink RX1 50 "GridCommons" "needs" "[D", Cond.fieldLink RX1 53 "GridCommons" "leftOver" "D", Cond.instanceMethod yX0_init, Cond.code yX0_init cX0_init 1 none]
def wsX1_init_r2 : List Cond := [Cond.methodLink RX0 3 objectInit, Cond.fieldLink RX0 9 "GridCommons$Ledger" "count" "I", Cond.fieldLink RX0 15 "GridCommons$Ledger" "price" "[D", Cond.fieldLink RX0 19 "GridCommons$Ledger" "sold" "[D", Cond.fieldLink RX0 22 "GridCommons$Ledger" "use" "[D", Cond.fieldLink RX0 25 "GridCommons$Ledger" "known" "[Z", Cond.fieldLink RX0 29 "GridCommons$Ledger" "used" "[D", Cond.fieldLink RX0 32 "GridCommons$Ledger" "fromSun" "[D", Cond.fieldLink RX0 35 "GridCommons$Ledger" "fromBattery" "[D", Cond.fieldLink RX0 38 "GridCommons$Ledger" "bought" "[D"]
def wsX1_init : List Cond := .code yX1_init cX1_init 2 none :: ((wsX1_init_r1 ++ wsX1_init_r2) ++ wsX10 ++ wsX00)
def wsX1_requireOwner : List Cond := .code yX1_requireOwner cX1_requireOwner 1 none :: ([.classLink RX1 146 "java/lang/IllegalArgumentException", .initialized "java/lang/IllegalArgumentException"] ++ (vx_atS RX1 150 "java/lang/IllegalArgumentException" ["java/lang/RuntimeException", "java/lang/Exception"]).filter goodWord)
def wsX1_requireWithin : List Cond := .code yX1_requireWithin cX1_requireWithin 3 none :: ([.classLink RX1 146 "java/lang/IllegalArgumentException", .initialized "java/lang/IllegalArgumentException"] ++ (vx_atS RX1 150 "java/lang/IllegalArgumentException" ["java/lang/RuntimeException", "java/lang/Exception"]).filter goodWord)
def wsX1_sumOfShares : List Cond := .code yX1_sumOfShares cX1_sumOfShares 3 (some .int) :: ([.fieldLink RX1 9 "GridCommons" "shares" "[I"] ++ wsX10)
def wsX1_setShare : List Cond := .code yX1_setShare cX1_setShare 4 (some .int) :: ([.classLink RX1 68 "java/lang/IllegalStateException", .initialized "java/lang/IllegalStateException", .fieldLink RX1 9 "GridCommons" "shares" "[I", .methodLink RX1 56 yX1_requireOwner, .static yX1_requireOwner, .initialized RX1, .code yX1_requireOwner cX1_requireOwner 1 none, .classLink RX1 146 "java/lang/IllegalArgumentException", .initialized "java/lang/IllegalArgumentException", .methodLink RX1 60 yX1_requireWithin, .static yX1_requireWithin, .code yX1_requireWithin cX1_requireWithin 3 none, .methodLink RX1 64 yX1_sumOfShares, .instanceMethod yX1_sumOfShares, .selects RX1 yX1_sumOfShares yX1_sumOfShares, .code yX1_sumOfShares cX1_sumOfShares 3 (some .int)] ++ wsX10 ++ (vx_atS RX1 72 "java/lang/IllegalStateException" ["java/lang/RuntimeException", "java/lang/Exception"]).filter goodWord ++ (vx_atS RX1 150 "java/lang/IllegalArgumentException" ["java/lang/RuntimeException", "java/lang/Exception"]).filter goodWord)
def wsX1_setSwitch : List Cond := .code yX1_setSwitch cX1_setSwitch 4 (some .boolean) :: ([.fieldLink RX1 13 "GridCommons" "switches" "[Z", .methodLink RX1 56 yX1_requireOwner, .static yX1_requireOwner, .initialized RX1, .code yX1_requireOwner cX1_requireOwner 1 none, .classLink RX1 146 "java/lang/IllegalArgumentException", .initialized "java/lang/IllegalArgumentException"] ++ wsX10 ++ (vx_atS RX1 150 "java/lang/IllegalArgumentException" ["java/lang/RuntimeException", "java/lang/Exception"]).filter goodWord)
def wsX1_setPrice : List Cond := .code yX1_setPrice cX1_setPrice 2 (some .double) :: ([.constantDouble RX1 75 (4616189618054758400), .fieldLink RX1 39 "GridCommons" "price" "D", .methodLink RX1 60 yX1_requireWithin, .static yX1_requireWithin, .initialized RX1, .code yX1_requireWithin cX1_requireWithin 3 none, .classLink RX1 146 "java/lang/IllegalArgumentException", .initialized "java/lang/IllegalArgumentException"] ++ wsX10 ++ (vx_atS RX1 150 "java/lang/IllegalArgumentException" ["java/lang/RuntimeException", "java/lang/Exception"]).filter goodWord)
def wsX1_tell : List Cond := .code yX1_tell cX1_tell 4 (some .boolean) :: ([.fieldLink RX1 24 "GridCommons" "isTold" "[Z", .fieldLink RX1 27 "GridCommons" "toldUse" "[I", .methodLink RX1 56 yX1_requireOwner, .static yX1_requireOwner, .initialized RX1, .code yX1_requireOwner cX1_requireOwner 1 none, .classLink RX1 146 "java/lang/IllegalArgumentException", .initialized "java/lang/IllegalArgumentException", .methodLink RX1 60 yX1_requireWithin, .static yX1_requireWithin, .code yX1_requireWithin cX1_requireWithin 3 none] ++ wsX10 ++ (vx_atS RX1 150 "java/lang/IllegalArgumentException" ["java/lang/RuntimeException", "java/lang/Exception"]).filter goodWord)
def wsX1_writeUses : List Cond := .code yX1_writeUses cX1_writeUses 6 none :: ([.fieldLink RX1 24 "GridCommons" "isTold" "[Z", .fieldLink RX1 27 "GridCommons" "toldUse" "[I", .fieldLink RX1 33 "GridCommons" "ledger" "LGridCommons$Ledger;", .fieldLink RX1 120 "GridCommons$Ledger" "known" "[Z", .fieldLink RX1 125 "GridCommons$Ledger" "use" "[D", .fieldLink RX1 50 "GridCommons" "needs" "[D", .methodLink RX1 116 yX0_slot, .static yX0_slot, .initialized RX0, .code yX0_slot cX0_slot 2 (some .int), .methodLink RX1 158 yX0_guess, .instanceMethod yX0_guess, .selects RX0 yX0_guess yX0_guess, .code yX0_guess cX0_guess 7 (some .double), .fieldLink RX0 9 "GridCommons$Ledger" "count" "I", .fieldLink RX0 25 "GridCommons$Ledger" "known" "[Z", .fieldLink RX0 22 "GridCommons$Ledger" "use" "[D", .constantDouble RX0 45 (4611686018427387904), .methodLink RX0 41 yX0_slot] ++ wsX10 ++ wsX00)
def wsX1_nextToShed : List Cond := .code yX1_nextToShed cX1_nextToShed 4 (some .int) :: ([.fieldLink RX1 13 "GridCommons" "switches" "[Z", .fieldLink RX1 50 "GridCommons" "needs" "[D", .fieldLink RX1 17 "GridCommons" "timesShed" "[I"] ++ wsX10)
def wsX1_sumOfNeeds : List Cond := .code yX1_sumOfNeeds cX1_sumOfNeeds 4 (some .double) :: ([.fieldLink RX1 50 "GridCommons" "needs" "[D"] ++ wsX10)
def wsX1_isOverLine : List Cond := .code yX1_isOverLine cX1_isOverLine 1 (some .boolean) :: ([.constantDouble RX1 169 (4636737291354636288), .methodLink RX1 165 yX1_sumOfNeeds, .instanceMethod yX1_sumOfNeeds, .selects RX1 yX1_sumOfNeeds yX1_sumOfNeeds, .initialized RX1, .code yX1_sumOfNeeds cX1_sumOfNeeds 4 (some .double), .fieldLink RX1 50 "GridCommons" "needs" "[D"] ++ wsX10)
def wsX1_shedUntilCarried : List Cond := .code yX1_shedUntilCarried cX1_shedUntilCarried 3 none :: ([.fieldLink RX1 50 "GridCommons" "needs" "[D", .fieldLink RX1 17 "GridCommons" "timesShed" "[I", .methodLink RX1 162 yX1_nextToShed, .instanceMethod yX1_nextToShed, .selects RX1 yX1_nextToShed yX1_nextToShed, .initialized RX1, .code yX1_nextToShed cX1_nextToShed 4 (some .int), .fieldLink RX1 13 "GridCommons" "switches" "[Z", .methodLink RX1 90 yX1_isOverLine, .instanceMethod yX1_isOverLine, .selects RX1 yX1_isOverLine yX1_isOverLine, .code yX1_isOverLine cX1_isOverLine 1 (some .boolean), .constantDouble RX1 169 (4636737291354636288), .methodLink RX1 165 yX1_sumOfNeeds, .instanceMethod yX1_sumOfNeeds, .selects RX1 yX1_sumOfNeeds yX1_sumOfNeeds, .code yX1_sumOfNeeds cX1_sumOfNeeds 4 (some .double)] ++ wsX10)
def wsX1_writeUsed : List Cond := .code yX1_writeUsed cX1_writeUsed 3 none :: ([.fieldLink RX1 33 "GridCommons" "ledger" "LGridCommons$Ledger;", .fieldLink RX1 128 "GridCommons$Ledger" "used" "[D", .fieldLink RX1 50 "GridCommons" "needs" "[D", .methodLink RX1 116 yX0_slot, .static yX0_slot, .initialized RX0, .code yX0_slot cX0_slot 2 (some .int)] ++ wsX10 ++ wsX00)
def wsX1_lesser : List Cond := .code yX1_lesser cX1_lesser 4 (some .double) :: ([])
def wsX1_giveSun : List Cond := .code yX1_giveSun cX1_giveSun 5 none :: ([.fieldLink RX1 33 "GridCommons" "ledger" "LGridCommons$Ledger;", .fieldLink RX1 134 "GridCommons$Ledger" "fromSun" "[D", .fieldLink RX1 50 "GridCommons" "needs" "[D", .methodLink RX1 116 yX0_slot, .static yX0_slot, .initialized RX0, .code yX0_slot cX0_slot 2 (some .int)] ++ wsX10 ++ wsX00)
def wsX1_giveByShare : List Cond := .code yX1_giveByShare cX1_giveByShare 6 none :: ([.fieldLink RX1 9 "GridCommons" "shares" "[I", .constantDouble RX1 75 (4616189618054758400), .fieldLink RX1 50 "GridCommons" "needs" "[D", .fieldLink RX1 53 "GridCommons" "leftOver" "D", .methodLink RX1 171 yX1_lesser, .static yX1_lesser, .initialized RX1, .code yX1_lesser cX1_lesser 4 (some .double), .methodLink RX1 175 yX1_giveSun, .instanceMethod yX1_giveSun, .selects RX1 yX1_giveSun yX1_giveSun, .code yX1_giveSun cX1_giveSun 5 none, .fieldLink RX1 33 "GridCommons" "ledger" "LGridCommons$Ledger;", .fieldLink RX1 134 "GridCommons$Ledger" "fromSun" "[D", .methodLink RX1 116 yX0_slot, .static yX0_slot, .initialized RX0, .code yX0_slot cX0_slot 2 (some .int)] ++ wsX10 ++ wsX00)
def wsX1_giveByNeed : List Cond := .code yX1_giveByNeed cX1_giveByNeed 5 none :: ([.fieldLink RX1 53 "GridCommons" "leftOver" "D", .fieldLink RX1 50 "GridCommons" "needs" "[D", .methodLink RX1 165 yX1_sumOfNeeds, .instanceMethod yX1_sumOfNeeds, .selects RX1 yX1_sumOfNeeds yX1_sumOfNeeds, .initialized RX1, .code yX1_sumOfNeeds cX1_sumOfNeeds 4 (some .double), .methodLink RX1 175 yX1_giveSun, .instanceMethod yX1_giveSun, .selects RX1 yX1_giveSun yX1_giveSun, .code yX1_giveSun cX1_giveSun 5 none, .fieldLink RX1 33 "GridCommons" "ledger" "LGridCommons$Ledger;", .fieldLink RX1 134 "GridCommons$Ledger" "fromSun" "[D", .methodLink RX1 116 yX0_slot, .static yX0_slot, .initialized RX0, .code yX0_slot cX0_slot 2 (some .int)] ++ wsX10 ++ wsX00)
def wsX1_storeOrSell : List Cond := .code yX1_storeOrSell cX1_storeOrSell 4 none :: ([.constantDouble RX1 179 (4630826316843712512), .fieldLink RX1 43 "GridCommons" "stored" "D", .fieldLink RX1 53 "GridCommons" "leftOver" "D", .fieldLink RX1 33 "GridCommons" "ledger" "LGridCommons$Ledger;", .fieldLink RX1 143 "GridCommons$Ledger" "sold" "[D"] ++ wsX10 ++ wsX00)
def wsJ9_floorMod_7cf53 : List Cond := .code yJ9_floorMod_7cf53 cJ9_floorMod_7cf53 3 (some .int) :: ([])
def wsX1_behind : List Cond := .code yX1_behind cX1_behind 1 (some .int) :: ([.methodLink RX1 187 yJ9_floorMod_7cf53, .static yJ9_floorMod_7cf53, .initialized RJ9, .code yJ9_floorMod_7cf53 cJ9_floorMod_7cf53 3 (some .int)])
def wsX1_giveFromBattery : List Cond := .code yX1_giveFromBattery cX1_giveFromBattery 7 none :: ([.fieldLink RX1 46 "GridCommons" "whoseTurn" "I", .fieldLink RX1 50 "GridCommons" "needs" "[D", .fieldLink RX1 43 "GridCommons" "stored" "D", .fieldLink RX1 33 "GridCommons" "ledger" "LGridCommons$Ledger;", .fieldLink RX1 137 "GridCommons$Ledger" "fromBattery" "[D", .methodLink RX1 171 yX1_lesser, .static yX1_lesser, .initialized RX1, .code yX1_lesser cX1_lesser 4 (some .double), .methodLink RX1 116 yX0_slot, .static yX0_slot, .initialized RX0, .code yX0_slot cX0_slot 2 (some .int), .methodLink RX1 181 yX1_behind, .static yX1_behind, .code yX1_behind cX1_behind 1 (some .int), .methodLink RX1 187 yJ9_floorMod_7cf53, .static yJ9_floorMod_7cf53, .initialized RJ9, .code yJ9_floorMod_7cf53 cJ9_floorMod_7cf53 3 (some .int)] ++ wsX10 ++ wsX00)
def wsX1_writeBills : List Cond := .code yX1_writeBills cX1_writeBills 5 none :: ([.fieldLink RX1 33 "GridCommons" "ledger" "LGridCommons$Ledger;", .fieldLink RX1 143 "GridCommons$Ledger" "sold" "[D", .fieldLink RX1 39 "GridCommons" "price" "D", .constantDouble RX1 185 (4621819117588971520), .fieldLink RX1 140 "GridCommons$Ledger" "bought" "[D", .fieldLink RX1 50 "GridCommons" "needs" "[D", .fieldLink RX1 20 "GridCommons" "bills" "[D", .methodLink RX1 116 yX0_slot, .static yX0_slot, .initialized RX0, .code yX0_slot cX0_slot 2 (some .int)] ++ wsX10 ++ wsX00)
def wsX1_close_r1 : List Cond := [Cond.classLink RX1 68 "java/lang/IllegalStateException", Cond.initialized "java/lang/IllegalStateException", Cond.fieldLink RX1 33 "GridCommons" "ledger" "LGridCommons$Ledger;", Cond.fieldLink RX1 77 "GridCommons$Ledger" "count" "I", Cond.fieldLink RX1 82 "GridCommons$Ledger" "price" "[D", Cond.fieldLink RX1 39 "GridCommons" "price" "D", Cond.fieldLink RX1 53 "GridCommons" "leftOver" "D", Cond.methodLink RX1 60 yX1_requireWithin, Cond.static yX1_requireWithin, Cond.initialized RX1, Cond.code yX1_requireWithin cX1_requireWithin 3 none, Cond.classLink RX1 146 "java/lang/IllegalArgumentException", Cond.initialized "java/lang/IllegalArgumentException", Cond.methodLink RX1 84 yX1_writeUses, Cond.instanceMethod yX1_writeUses, Cond.selects RX1 yX1_writeUses yX1_writeUses, Cond.code yX1_writeUses cX1_writeUses 6 none, Cond.fieldLink RX1 24 "GridCommons" "isTold" "[Z", Cond.fieldLink RX1 27 "GridCommons" "toldUse" "[I", Cond.fieldLink RX1 120 "GridCommons$Ledger" "known" "[Z", Cond.fieldLink RX1 125 "GridCommons$Ledger" "use" "[D", Cond.fieldLink RX1 50 "GridCommons" "needs" "[D", Cond.methodLink RX1 116 yX0_slot, Cond.static yX0_slot]
def wsX1_close_r2 : List Cond := [Cond.initialized RX0, Cond.code yX0_slot cX0_slot 2 (some .int), Cond.methodLink RX1 158 yX0_guess, Cond.instanceMethod yX0_guess, Cond.selects RX0 yX0_guess yX0_guess, Cond.code yX0_guess cX0_guess 7 (some .double), Cond.fieldLink RX0 9 "GridCommons$Ledger" "count" "I", Cond.fieldLink RX0 25 "GridCommons$Ledger" "known" "[Z", Cond.fieldLink RX0 22 "GridCommons$Ledger" "use" "[D", Cond.constantDouble RX0 45 (4611686018427387904), Cond.methodLink RX0 41 yX0_slot, Cond.methodLink RX1 87 yX1_shedUntilCarried, Cond.instanceMethod yX1_shedUntilCarried, Cond.selects RX1 yX1_shedUntilCarried yX1_shedUntilCarried, Cond.code yX1_shedUntilCarried cX1_shedUntilCarried 3 none, Cond.fieldLink RX1 17 "GridCommons" "timesShed" "[I", Cond.methodLink RX1 162 yX1_nextToShed, Cond.instanceMethod yX1_nextToShed, Cond.selects RX1 yX1_nextToShed yX1_nextToShed, Cond.code yX1_nextToShed cX1_nextToShed 4 (some .int), Cond.fieldLink RX1 13 "GridCommons" "switches" "[Z", Cond.methodLink RX1 90 yX1_isOverLine, Cond.instanceMethod yX1_isOverLine, Cond.selects RX1 yX1_isOverLine yX1_isOverLine]
def wsX1_close_r3 : List Cond := [Cond.code yX1_isOverLine cX1_isOverLine 1 (some .boolean), Cond.constantDouble RX1 169 (4636737291354636288), Cond.methodLink RX1 165 yX1_sumOfNeeds, Cond.instanceMethod yX1_sumOfNeeds, Cond.selects RX1 yX1_sumOfNeeds yX1_sumOfNeeds, Cond.code yX1_sumOfNeeds cX1_sumOfNeeds 4 (some .double), Cond.methodLink RX1 94 yX1_writeUsed, Cond.instanceMethod yX1_writeUsed, Cond.selects RX1 yX1_writeUsed yX1_writeUsed, Cond.code yX1_writeUsed cX1_writeUsed 3 none, Cond.fieldLink RX1 128 "GridCommons$Ledger" "used" "[D", Cond.methodLink RX1 97 yX1_giveByShare, Cond.instanceMethod yX1_giveByShare, Cond.selects RX1 yX1_giveByShare yX1_giveByShare, Cond.code yX1_giveByShare cX1_giveByShare 6 none, Cond.fieldLink RX1 9 "GridCommons" "shares" "[I", Cond.constantDouble RX1 75 (4616189618054758400), Cond.methodLink RX1 171 yX1_lesser, Cond.static yX1_lesser, Cond.code yX1_lesser cX1_lesser 4 (some .double), Cond.methodLink RX1 175 yX1_giveSun, Cond.instanceMethod yX1_giveSun, Cond.selects RX1 yX1_giveSun yX1_giveSun, Cond.code yX1_giveSun cX1_giveSun 5 none]
def wsX1_close_r4 : List Cond := [Cond.fieldLink RX1 134 "GridCommons$Ledger" "fromSun" "[D", Cond.methodLink RX1 101 yX1_giveByNeed, Cond.instanceMethod yX1_giveByNeed, Cond.selects RX1 yX1_giveByNeed yX1_giveByNeed, Cond.code yX1_giveByNeed cX1_giveByNeed 5 none, Cond.methodLink RX1 104 yX1_storeOrSell, Cond.instanceMethod yX1_storeOrSell, Cond.selects RX1 yX1_storeOrSell yX1_storeOrSell, Cond.code yX1_storeOrSell cX1_storeOrSell 4 none, Cond.constantDouble RX1 179 (4630826316843712512), Cond.fieldLink RX1 43 "GridCommons" "stored" "D", Cond.fieldLink RX1 143 "GridCommons$Ledger" "sold" "[D", Cond.methodLink RX1 107 yX1_giveFromBattery, Cond.instanceMethod yX1_giveFromBattery, Cond.selects RX1 yX1_giveFromBattery yX1_giveFromBattery, Cond.code yX1_giveFromBattery cX1_giveFromBattery 7 none, Cond.fieldLink RX1 46 "GridCommons" "whoseTurn" "I", Cond.fieldLink RX1 137 "GridCommons$Ledger" "fromBattery" "[D", Cond.methodLink RX1 181 yX1_behind, Cond.static yX1_behind, Cond.code yX1_behind cX1_behind 1 (some .int), Cond.methodLink RX1 187 yJ9_floorMod_7cf53, Cond.static yJ9_floorMod_7cf53, Cond.initialized RJ9]
def wsX1_close_r5 : List Cond := [Cond.code yJ9_floorMod_7cf53 cJ9_floorMod_7cf53 3 (some .int), Cond.methodLink RX1 110 yX1_writeBills, Cond.instanceMethod yX1_writeBills, Cond.selects RX1 yX1_writeBills yX1_writeBills, Cond.code yX1_writeBills cX1_writeBills 5 none, Cond.constantDouble RX1 185 (4621819117588971520), Cond.fieldLink RX1 140 "GridCommons$Ledger" "bought" "[D", Cond.fieldLink RX1 20 "GridCommons" "bills" "[D"]
def wsX1_close : List Cond := .code yX1_close cX1_close 4 (some .boolean) :: ((wsX1_close_r1 ++ (wsX1_close_r2 ++ (wsX1_close_r3 ++ (wsX1_close_r4 ++ wsX1_close_r5)))) ++ wsX10 ++ wsX00 ++ (vx_atS RX1 72 "java/lang/IllegalStateException" ["java/lang/RuntimeException", "java/lang/Exception"]).filter goodWord ++ (vx_atS RX1 150 "java/lang/IllegalArgumentException" ["java/lang/RuntimeException", "java/lang/Exception"]).filter goodWord)
def wsX1_closed : List Cond := .code yX1_closed cX1_closed 1 (some .int) :: ([.fieldLink RX1 33 "GridCommons" "ledger" "LGridCommons$Ledger;", .fieldLink RX1 77 "GridCommons$Ledger" "count" "I"] ++ wsX10 ++ wsX00)
def wsX1_requireQuarter : List Cond := .code yX1_requireQuarter cX1_requireQuarter 2 none :: ([.classLink RX1 153 "java/lang/IndexOutOfBoundsException", .initialized "java/lang/IndexOutOfBoundsException", .fieldLink RX1 33 "GridCommons" "ledger" "LGridCommons$Ledger;", .fieldLink RX1 77 "GridCommons$Ledger" "count" "I"] ++ wsX10 ++ wsX00 ++ (vx_atS RX1 157 "java/lang/IndexOutOfBoundsException" ["java/lang/RuntimeException", "java/lang/Exception"]).filter goodWord)
def wsX1_replace_r1 : List Cond := [Cond.classLink RX1 68 "java/lang/IllegalStateException", Cond.initialized "java/lang/IllegalStateException", Cond.fieldLink RX1 33 "GridCommons" "ledger" "LGridCommons$Ledger;", Cond.fieldLink RX1 120 "GridCommons$Ledger" "known" "[Z", Cond.fieldLink RX1 125 "GridCommons$Ledger" "use" "[D", Cond.fieldLink RX1 128 "GridCommons$Ledger" "used" "[D", Cond.fieldLink RX1 82 "GridCommons$Ledger" "price" "[D", Cond.fieldLink RX1 20 "GridCommons" "bills" "[D", Cond.methodLink RX1 56 yX1_requireOwner, Cond.static yX1_requireOwner, Cond.initialized RX1, Cond.code yX1_requireOwner cX1_requireOwner 1 none, Cond.classLink RX1 146 "java/lang/IllegalArgumentException", Cond.initialized "java/lang/IllegalArgumentException", Cond.methodLink RX1 60 yX1_requireWithin, Cond.static yX1_requireWithin, Cond.code yX1_requireWithin cX1_requireWithin 3 none, Cond.methodLink RX1 113 yX1_requireQuarter, Cond.instanceMethod yX1_requireQuarter, Cond.selects RX1 yX1_requireQuarter yX1_requireQuarter, Cond.code yX1_requireQuarter cX1_requireQuarter 2 none, Cond.classLink RX1 153 "java/lang/IndexOutOfBoundsException", Cond.initialized "java/lang/IndexOutOfBoundsException", Cond.fieldLink RX1 77 "GridCommons$Ledger" "count" "I"]
def wsX1_replace_r2 : List Cond := [Cond.methodLink RX1 116 yX0_slot, Cond.static yX0_slot, Cond.initialized RX0, Cond.code yX0_slot cX0_slot 2 (some .int)]
def wsX1_replace : List Cond := .code yX1_replace cX1_replace 7 (some .double) :: ((wsX1_replace_r1 ++ wsX1_replace_r2) ++ wsX10 ++ wsX00 ++ (vx_atS RX1 72 "java/lang/IllegalStateException" ["java/lang/RuntimeException", "java/lang/Exception"]).filter goodWord ++ (vx_atS RX1 150 "java/lang/IllegalArgumentException" ["java/lang/RuntimeException", "java/lang/Exception"]).filter goodWord ++ (vx_atS RX1 157 "java/lang/IndexOutOfBoundsException" ["java/lang/RuntimeException", "java/lang/Exception"]).filter goodWord)
def wsX1_closedSlot : List Cond := .code yX1_closedSlot cX1_closedSlot 3 (some .int) :: ([.methodLink RX1 56 yX1_requireOwner, .static yX1_requireOwner, .initialized RX1, .code yX1_requireOwner cX1_requireOwner 1 none, .classLink RX1 146 "java/lang/IllegalArgumentException", .initialized "java/lang/IllegalArgumentException", .methodLink RX1 113 yX1_requireQuarter, .instanceMethod yX1_requireQuarter, .selects RX1 yX1_requireQuarter yX1_requireQuarter, .code yX1_requireQuarter cX1_requireQuarter 2 none, .classLink RX1 153 "java/lang/IndexOutOfBoundsException", .initialized "java/lang/IndexOutOfBoundsException", .fieldLink RX1 33 "GridCommons" "ledger" "LGridCommons$Ledger;", .fieldLink RX1 77 "GridCommons$Ledger" "count" "I", .methodLink RX1 116 yX0_slot, .static yX0_slot, .initialized RX0, .code yX0_slot cX0_slot 2 (some .int)] ++ wsX10 ++ wsX00 ++ (vx_atS RX1 150 "java/lang/IllegalArgumentException" ["java/lang/RuntimeException", "java/lang/Exception"]).filter goodWord ++ (vx_atS RX1 157 "java/lang/IndexOutOfBoundsException" ["java/lang/RuntimeException", "java/lang/Exception"]).filter goodWord)
def wsX1_use : List Cond := .code yX1_use cX1_use 3 (some .double) :: ([.fieldLink RX1 33 "GridCommons" "ledger" "LGridCommons$Ledger;", .fieldLink RX1 125 "GridCommons$Ledger" "use" "[D", .methodLink RX1 131 yX1_closedSlot, .instanceMethod yX1_closedSlot, .selects RX1 yX1_closedSlot yX1_closedSlot, .initialized RX1, .code yX1_closedSlot cX1_closedSlot 3 (some .int), .methodLink RX1 56 yX1_requireOwner, .static yX1_requireOwner, .code yX1_requireOwner cX1_requireOwner 1 none, .classLink RX1 146 "java/lang/IllegalArgumentException", .initialized "java/lang/IllegalArgumentException", .methodLink RX1 113 yX1_requireQuarter, .instanceMethod yX1_requireQuarter, .selects RX1 yX1_requireQuarter yX1_requireQuarter, .code yX1_requireQuarter cX1_requireQuarter 2 none, .classLink RX1 153 "java/lang/IndexOutOfBoundsException", .initialized "java/lang/IndexOutOfBoundsException", .fieldLink RX1 77 "GridCommons$Ledger" "count" "I", .methodLink RX1 116 yX0_slot, .static yX0_slot, .initialized RX0, .code yX0_slot cX0_slot 2 (some .int)] ++ wsX10 ++ wsX00 ++ (vx_atS RX1 150 "java/lang/IllegalArgumentException" ["java/lang/RuntimeException", "java/lang/Exception"]).filter goodWord ++ (vx_atS RX1 157 "java/lang/IndexOutOfBoundsException" ["java/lang/RuntimeException", "java/lang/Exception"]).filter goodWord)
def wsX1_fromSun : List Cond := .code yX1_fromSun cX1_fromSun 3 (some .double) :: ([.fieldLink RX1 33 "GridCommons" "ledger" "LGridCommons$Ledger;", .fieldLink RX1 134 "GridCommons$Ledger" "fromSun" "[D", .methodLink RX1 131 yX1_closedSlot, .instanceMethod yX1_closedSlot, .selects RX1 yX1_closedSlot yX1_closedSlot, .initialized RX1, .code yX1_closedSlot cX1_closedSlot 3 (some .int), .methodLink RX1 56 yX1_requireOwner, .static yX1_requireOwner, .code yX1_requireOwner cX1_requireOwner 1 none, .classLink RX1 146 "java/lang/IllegalArgumentException", .initialized "java/lang/IllegalArgumentException", .methodLink RX1 113 yX1_requireQuarter, .instanceMethod yX1_requireQuarter, .selects RX1 yX1_requireQuarter yX1_requireQuarter, .code yX1_requireQuarter cX1_requireQuarter 2 none, .classLink RX1 153 "java/lang/IndexOutOfBoundsException", .initialized "java/lang/IndexOutOfBoundsException", .fieldLink RX1 77 "GridCommons$Ledger" "count" "I", .methodLink RX1 116 yX0_slot, .static yX0_slot, .initialized RX0, .code yX0_slot cX0_slot 2 (some .int)] ++ wsX10 ++ wsX00 ++ (vx_atS RX1 150 "java/lang/IllegalArgumentException" ["java/lang/RuntimeException", "java/lang/Exception"]).filter goodWord ++ (vx_atS RX1 157 "java/lang/IndexOutOfBoundsException" ["java/lang/RuntimeException", "java/lang/Exception"]).filter goodWord)
def wsX1_fromBattery : List Cond := .code yX1_fromBattery cX1_fromBattery 3 (some .double) :: ([.fieldLink RX1 33 "GridCommons" "ledger" "LGridCommons$Ledger;", .fieldLink RX1 137 "GridCommons$Ledger" "fromBattery" "[D", .methodLink RX1 131 yX1_closedSlot, .instanceMethod yX1_closedSlot, .selects RX1 yX1_closedSlot yX1_closedSlot, .initialized RX1, .code yX1_closedSlot cX1_closedSlot 3 (some .int), .methodLink RX1 56 yX1_requireOwner, .static yX1_requireOwner, .code yX1_requireOwner cX1_requireOwner 1 none, .classLink RX1 146 "java/lang/IllegalArgumentException", .initialized "java/lang/IllegalArgumentException", .methodLink RX1 113 yX1_requireQuarter, .instanceMethod yX1_requireQuarter, .selects RX1 yX1_requireQuarter yX1_requireQuarter, .code yX1_requireQuarter cX1_requireQuarter 2 none, .classLink RX1 153 "java/lang/IndexOutOfBoundsException", .initialized "java/lang/IndexOutOfBoundsException", .fieldLink RX1 77 "GridCommons$Ledger" "count" "I", .methodLink RX1 116 yX0_slot, .static yX0_slot, .initialized RX0, .code yX0_slot cX0_slot 2 (some .int)] ++ wsX10 ++ wsX00 ++ (vx_atS RX1 150 "java/lang/IllegalArgumentException" ["java/lang/RuntimeException", "java/lang/Exception"]).filter goodWord ++ (vx_atS RX1 157 "java/lang/IndexOutOfBoundsException" ["java/lang/RuntimeException", "java/lang/Exception"]).filter goodWord)
def wsX1_bought : List Cond := .code yX1_bought cX1_bought 3 (some .double) :: ([.fieldLink RX1 33 "GridCommons" "ledger" "LGridCommons$Ledger;", .fieldLink RX1 140 "GridCommons$Ledger" "bought" "[D", .methodLink RX1 131 yX1_closedSlot, .instanceMethod yX1_closedSlot, .selects RX1 yX1_closedSlot yX1_closedSlot, .initialized RX1, .code yX1_closedSlot cX1_closedSlot 3 (some .int), .methodLink RX1 56 yX1_requireOwner, .static yX1_requireOwner, .code yX1_requireOwner cX1_requireOwner 1 none, .classLink RX1 146 "java/lang/IllegalArgumentException", .initialized "java/lang/IllegalArgumentException", .methodLink RX1 113 yX1_requireQuarter, .instanceMethod yX1_requireQuarter, .selects RX1 yX1_requireQuarter yX1_requireQuarter, .code yX1_requireQuarter cX1_requireQuarter 2 none, .classLink RX1 153 "java/lang/IndexOutOfBoundsException", .initialized "java/lang/IndexOutOfBoundsException", .fieldLink RX1 77 "GridCommons$Ledger" "count" "I", .methodLink RX1 116 yX0_slot, .static yX0_slot, .initialized RX0, .code yX0_slot cX0_slot 2 (some .int)] ++ wsX10 ++ wsX00 ++ (vx_atS RX1 150 "java/lang/IllegalArgumentException" ["java/lang/RuntimeException", "java/lang/Exception"]).filter goodWord ++ (vx_atS RX1 157 "java/lang/IndexOutOfBoundsException" ["java/lang/RuntimeException", "java/lang/Exception"]).filter goodWord)
def wsX1_sold : List Cond := .code yX1_sold cX1_sold 2 (some .double) :: ([.fieldLink RX1 33 "GridCommons" "ledger" "LGridCommons$Ledger;", .fieldLink RX1 143 "GridCommons$Ledger" "sold" "[D", .methodLink RX1 113 yX1_requireQuarter, .instanceMethod yX1_requireQuarter, .selects RX1 yX1_requireQuarter yX1_requireQuarter, .initialized RX1, .code yX1_requireQuarter cX1_requireQuarter 2 none, .classLink RX1 153 "java/lang/IndexOutOfBoundsException", .initialized "java/lang/IndexOutOfBoundsException", .fieldLink RX1 77 "GridCommons$Ledger" "count" "I"] ++ wsX10 ++ wsX00 ++ (vx_atS RX1 157 "java/lang/IndexOutOfBoundsException" ["java/lang/RuntimeException", "java/lang/Exception"]).filter goodWord)
def wsX1_battery : List Cond := .code yX1_battery cX1_battery 1 (some .double) :: ([.fieldLink RX1 43 "GridCommons" "stored" "D"] ++ wsX10)
def wsX1_turn : List Cond := .code yX1_turn cX1_turn 1 (some .int) :: ([.fieldLink RX1 46 "GridCommons" "whoseTurn" "I"] ++ wsX10)
def wsX1_sheds : List Cond := .code yX1_sheds cX1_sheds 2 (some .int) :: ([.fieldLink RX1 17 "GridCommons" "timesShed" "[I", .methodLink RX1 56 yX1_requireOwner, .static yX1_requireOwner, .initialized RX1, .code yX1_requireOwner cX1_requireOwner 1 none, .classLink RX1 146 "java/lang/IllegalArgumentException", .initialized "java/lang/IllegalArgumentException"] ++ wsX10 ++ (vx_atS RX1 150 "java/lang/IllegalArgumentException" ["java/lang/RuntimeException", "java/lang/Exception"]).filter goodWord)
def wsX1_bill : List Cond := .code yX1_bill cX1_bill 2 (some .double) :: ([.fieldLink RX1 20 "GridCommons" "bills" "[D", .methodLink RX1 56 yX1_requireOwner, .static yX1_requireOwner, .initialized RX1, .code yX1_requireOwner cX1_requireOwner 1 none, .classLink RX1 146 "java/lang/IllegalArgumentException", .initialized "java/lang/IllegalArgumentException"] ++ wsX10 ++ (vx_atS RX1 150 "java/lang/IllegalArgumentException" ["java/lang/RuntimeException", "java/lang/Exception"]).filter goodWord)
def wsX2_init : List Cond := .code yX2_init cX2_init 1 none :: ([.methodLink RX2 1 objectInit, .instanceMethod objectInit, .code objectInit ⟨#[0xb1]⟩ 1 none, .arrayClass .int, .fieldLink RX2 7 "GridCommonsModel" "shares" "[I", .arrayClass .boolean, .fieldLink RX2 13 "GridCommonsModel" "areStuck" "[Z", .fieldLink RX2 17 "GridCommonsModel" "sheds" "[I", .arrayClass .double, .fieldLink RX2 20 "GridCommonsModel" "bills" "[D", .constantDouble RX2 24 (4602678819172646912), .fieldLink RX2 26 "GridCommonsModel" "price" "D", .fieldLink RX2 30 "GridCommonsModel" "areTold" "[Z", .fieldLink RX2 33 "GridCommonsModel" "told" "[I", .fieldLink RX2 36 "GridCommonsModel" "areKnown" "[Z", .fieldLink RX2 39 "GridCommonsModel" "uses" "[D", .fieldLink RX2 42 "GridCommonsModel" "used" "[D", .fieldLink RX2 45 "GridCommonsModel" "fromSun" "[D", .fieldLink RX2 48 "GridCommonsModel" "fromBattery" "[D", .fieldLink RX2 51 "GridCommonsModel" "bought" "[D", .fieldLink RX2 54 "GridCommonsModel" "sold" "[D", .fieldLink RX2 57 "GridCommonsModel" "prices" "[D", .fieldLink RX2 60 "GridCommonsModel" "needs" "[D"] ++ wsX20)
def wsX2_thrown : List Cond := .code yX2_thrown cX2_thrown 1 (some .int) :: ([.fieldLink RX2 63 "GridCommonsModel" "thrown" "I"] ++ wsX20)
def wsX2_holds : List Cond := .code yX2_holds cX2_holds 2 (some .boolean) :: ([.fieldLink RX2 63 "GridCommonsModel" "thrown" "I"] ++ wsX20)
def wsX2_in : List Cond := .code yX2_in cX2_in 3 (some .boolean) :: ([])
def wsX2_isOwner : List Cond := .code yX2_isOwner cX2_isOwner 1 (some .boolean) :: ([.methodLink RX2 67 yX2_in, .static yX2_in, .initialized RX2, .code yX2_in cX2_in 3 (some .boolean)])
def wsX2_least : List Cond := .code yX2_least cX2_least 4 (some .double) :: ([])
def wsX2_others : List Cond := .code yX2_others cX2_others 4 (some .int) :: ([.fieldLink RX2 7 "GridCommonsModel" "shares" "[I"] ++ wsX20)
def wsX2_setShare : List Cond := .code yX2_setShare cX2_setShare 5 (some .int) :: ([.fieldLink RX2 7 "GridCommonsModel" "shares" "[I", .methodLink RX2 71 yX2_isOwner, .static yX2_isOwner, .initialized RX2, .code yX2_isOwner cX2_isOwner 1 (some .boolean), .methodLink RX2 67 yX2_in, .static yX2_in, .code yX2_in cX2_in 3 (some .boolean), .methodLink RX2 75 yX2_others, .instanceMethod yX2_others, .selects RX2 yX2_others yX2_others, .code yX2_others cX2_others 4 (some .int), .methodLink RX2 79 yX2_holds, .instanceMethod yX2_holds, .selects RX2 yX2_holds yX2_holds, .code yX2_holds cX2_holds 2 (some .boolean), .fieldLink RX2 63 "GridCommonsModel" "thrown" "I"] ++ wsX20)
def wsX2_setSwitch : List Cond := .code yX2_setSwitch cX2_setSwitch 4 (some .boolean) :: ([.fieldLink RX2 13 "GridCommonsModel" "areStuck" "[Z", .methodLink RX2 71 yX2_isOwner, .static yX2_isOwner, .initialized RX2, .code yX2_isOwner cX2_isOwner 1 (some .boolean), .methodLink RX2 67 yX2_in, .static yX2_in, .code yX2_in cX2_in 3 (some .boolean), .methodLink RX2 79 yX2_holds, .instanceMethod yX2_holds, .selects RX2 yX2_holds yX2_holds, .code yX2_holds cX2_holds 2 (some .boolean), .fieldLink RX2 63 "GridCommonsModel" "thrown" "I"] ++ wsX20)
def wsX2_setPrice : List Cond := .code yX2_setPrice cX2_setPrice 2 (some .double) :: ([.constantDouble RX2 82 (4616189618054758400), .fieldLink RX2 26 "GridCommonsModel" "price" "D", .methodLink RX2 67 yX2_in, .static yX2_in, .initialized RX2, .code yX2_in cX2_in 3 (some .boolean), .methodLink RX2 79 yX2_holds, .instanceMethod yX2_holds, .selects RX2 yX2_holds yX2_holds, .code yX2_holds cX2_holds 2 (some .boolean), .fieldLink RX2 63 "GridCommonsModel" "thrown" "I"] ++ wsX20)
def wsX2_tell : List Cond := .code yX2_tell cX2_tell 4 (some .boolean) :: ([.fieldLink RX2 30 "GridCommonsModel" "areTold" "[Z", .fieldLink RX2 33 "GridCommonsModel" "told" "[I", .methodLink RX2 71 yX2_isOwner, .static yX2_isOwner, .initialized RX2, .code yX2_isOwner cX2_isOwner 1 (some .boolean), .methodLink RX2 67 yX2_in, .static yX2_in, .code yX2_in cX2_in 3 (some .boolean), .methodLink RX2 79 yX2_holds, .instanceMethod yX2_holds, .selects RX2 yX2_holds yX2_holds, .code yX2_holds cX2_holds 2 (some .boolean), .fieldLink RX2 63 "GridCommonsModel" "thrown" "I"] ++ wsX20)
def wsX2_guess : List Cond := .code yX2_guess cX2_guess 6 (some .double) :: ([.fieldLink RX2 84 "GridCommonsModel" "closed" "I", .fieldLink RX2 36 "GridCommonsModel" "areKnown" "[Z", .fieldLink RX2 39 "GridCommonsModel" "uses" "[D", .constantDouble RX2 87 (4611686018427387904)] ++ wsX20)
def wsX2_sum : List Cond := .code yX2_sum cX2_sum 6 (some .double) :: ([])
def wsX2_nextToShed : List Cond := .code yX2_nextToShed cX2_nextToShed 5 (some .int) :: ([.fieldLink RX2 42 "GridCommonsModel" "used" "[D", .fieldLink RX2 13 "GridCommonsModel" "areStuck" "[Z", .fieldLink RX2 17 "GridCommonsModel" "sheds" "[I"] ++ wsX20)
def wsX2_shed : List Cond := .code yX2_shed cX2_shed 3 (some .boolean) :: ([.fieldLink RX2 42 "GridCommonsModel" "used" "[D", .constantDouble RX2 93 (4636737291354636288), .fieldLink RX2 17 "GridCommonsModel" "sheds" "[I", .methodLink RX2 89 yX2_sum, .instanceMethod yX2_sum, .selects RX2 yX2_sum yX2_sum, .initialized RX2, .code yX2_sum cX2_sum 6 (some .double), .methodLink RX2 95 yX2_nextToShed, .instanceMethod yX2_nextToShed, .selects RX2 yX2_nextToShed yX2_nextToShed, .code yX2_nextToShed cX2_nextToShed 5 (some .int), .fieldLink RX2 13 "GridCommonsModel" "areStuck" "[Z"] ++ wsX20)
def wsX2_shares : List Cond := .code yX2_shares cX2_shares 11 (some .double) :: ([.fieldLink RX2 7 "GridCommonsModel" "shares" "[I", .constantDouble RX2 82 (4616189618054758400), .fieldLink RX2 60 "GridCommonsModel" "needs" "[D", .fieldLink RX2 45 "GridCommonsModel" "fromSun" "[D", .methodLink RX2 98 yX2_least, .static yX2_least, .initialized RX2, .code yX2_least cX2_least 4 (some .double), .methodLink RX2 89 yX2_sum, .instanceMethod yX2_sum, .selects RX2 yX2_sum yX2_sum, .code yX2_sum cX2_sum 6 (some .double)] ++ wsX20)
def wsX2_gives : List Cond := .code yX2_gives cX2_gives 7 none :: ([.fieldLink RX2 102 "GridCommonsModel" "turn" "I", .fieldLink RX2 60 "GridCommonsModel" "needs" "[D", .fieldLink RX2 105 "GridCommonsModel" "battery" "D", .fieldLink RX2 48 "GridCommonsModel" "fromBattery" "[D", .methodLink RX2 98 yX2_least, .static yX2_least, .initialized RX2, .code yX2_least cX2_least 4 (some .double)] ++ wsX20)
def wsX2_pays : List Cond := .code yX2_pays cX2_pays 3 none :: ([.fieldLink RX2 51 "GridCommonsModel" "bought" "[D", .fieldLink RX2 60 "GridCommonsModel" "needs" "[D", .fieldLink RX2 20 "GridCommonsModel" "bills" "[D", .fieldLink RX2 26 "GridCommonsModel" "price" "D", .fieldLink RX2 54 "GridCommonsModel" "sold" "[D", .fieldLink RX2 84 "GridCommonsModel" "closed" "I", .constantDouble RX2 108 (4621819117588971520)] ++ wsX20)
def wsX2_close_r1 : List Cond := [Cond.fieldLink RX2 84 "GridCommonsModel" "closed" "I", Cond.fieldLink RX2 36 "GridCommonsModel" "areKnown" "[Z", Cond.fieldLink RX2 30 "GridCommonsModel" "areTold" "[Z", Cond.fieldLink RX2 39 "GridCommonsModel" "uses" "[D", Cond.fieldLink RX2 33 "GridCommonsModel" "told" "[I", Cond.fieldLink RX2 42 "GridCommonsModel" "used" "[D", Cond.fieldLink RX2 60 "GridCommonsModel" "needs" "[D", Cond.constantDouble RX2 120 (4630826316843712512), Cond.fieldLink RX2 105 "GridCommonsModel" "battery" "D", Cond.fieldLink RX2 54 "GridCommonsModel" "sold" "[D", Cond.fieldLink RX2 57 "GridCommonsModel" "prices" "[D", Cond.fieldLink RX2 26 "GridCommonsModel" "price" "D", Cond.methodLink RX2 67 yX2_in, Cond.static yX2_in, Cond.initialized RX2, Cond.code yX2_in cX2_in 3 (some .boolean), Cond.methodLink RX2 79 yX2_holds, Cond.instanceMethod yX2_holds, Cond.selects RX2 yX2_holds yX2_holds, Cond.code yX2_holds cX2_holds 2 (some .boolean), Cond.fieldLink RX2 63 "GridCommonsModel" "thrown" "I", Cond.methodLink RX2 110 yX2_guess, Cond.instanceMethod yX2_guess, Cond.selects RX2 yX2_guess yX2_guess]
def wsX2_close_r2 : List Cond := [Cond.code yX2_guess cX2_guess 6 (some .double), Cond.constantDouble RX2 87 (4611686018427387904), Cond.methodLink RX2 114 yX2_shed, Cond.instanceMethod yX2_shed, Cond.selects RX2 yX2_shed yX2_shed, Cond.code yX2_shed cX2_shed 3 (some .boolean), Cond.constantDouble RX2 93 (4636737291354636288), Cond.fieldLink RX2 17 "GridCommonsModel" "sheds" "[I", Cond.methodLink RX2 89 yX2_sum, Cond.instanceMethod yX2_sum, Cond.selects RX2 yX2_sum yX2_sum, Cond.code yX2_sum cX2_sum 6 (some .double), Cond.methodLink RX2 95 yX2_nextToShed, Cond.instanceMethod yX2_nextToShed, Cond.selects RX2 yX2_nextToShed yX2_nextToShed, Cond.code yX2_nextToShed cX2_nextToShed 5 (some .int), Cond.fieldLink RX2 13 "GridCommonsModel" "areStuck" "[Z", Cond.methodLink RX2 117 yX2_shares, Cond.instanceMethod yX2_shares, Cond.selects RX2 yX2_shares yX2_shares, Cond.code yX2_shares cX2_shares 11 (some .double), Cond.fieldLink RX2 7 "GridCommonsModel" "shares" "[I", Cond.constantDouble RX2 82 (4616189618054758400), Cond.fieldLink RX2 45 "GridCommonsModel" "fromSun" "[D"]
def wsX2_close_r3 : List Cond := [Cond.methodLink RX2 98 yX2_least, Cond.static yX2_least, Cond.code yX2_least cX2_least 4 (some .double), Cond.methodLink RX2 122 yX2_gives, Cond.instanceMethod yX2_gives, Cond.selects RX2 yX2_gives yX2_gives, Cond.code yX2_gives cX2_gives 7 none, Cond.fieldLink RX2 102 "GridCommonsModel" "turn" "I", Cond.fieldLink RX2 48 "GridCommonsModel" "fromBattery" "[D", Cond.methodLink RX2 126 yX2_pays, Cond.instanceMethod yX2_pays, Cond.selects RX2 yX2_pays yX2_pays, Cond.code yX2_pays cX2_pays 3 none, Cond.fieldLink RX2 51 "GridCommonsModel" "bought" "[D", Cond.fieldLink RX2 20 "GridCommonsModel" "bills" "[D", Cond.constantDouble RX2 108 (4621819117588971520)]
def wsX2_close : List Cond := .code yX2_close cX2_close 8 (some .boolean) :: ((wsX2_close_r1 ++ (wsX2_close_r2 ++ wsX2_close_r3)) ++ wsX20)
def wsX2_closed : List Cond := .code yX2_closed cX2_closed 1 (some .int) :: ([.fieldLink RX2 63 "GridCommonsModel" "thrown" "I", .fieldLink RX2 84 "GridCommonsModel" "closed" "I"] ++ wsX20)
def wsX2_isQuarter : List Cond := .code yX2_isQuarter cX2_isQuarter 2 (some .boolean) :: ([.fieldLink RX2 84 "GridCommonsModel" "closed" "I", .methodLink RX2 67 yX2_in, .static yX2_in, .initialized RX2, .code yX2_in cX2_in 3 (some .boolean)] ++ wsX20)
def wsX2_errorOfReplace : List Cond := .code yX2_errorOfReplace cX2_errorOfReplace 4 (some .int) :: ([.fieldLink RX2 36 "GridCommonsModel" "areKnown" "[Z", .methodLink RX2 71 yX2_isOwner, .static yX2_isOwner, .initialized RX2, .code yX2_isOwner cX2_isOwner 1 (some .boolean), .methodLink RX2 67 yX2_in, .static yX2_in, .code yX2_in cX2_in 3 (some .boolean), .methodLink RX2 129 yX2_isQuarter, .instanceMethod yX2_isQuarter, .selects RX2 yX2_isQuarter yX2_isQuarter, .code yX2_isQuarter cX2_isQuarter 2 (some .boolean), .fieldLink RX2 84 "GridCommonsModel" "closed" "I"] ++ wsX20)
def wsX2_replace_r1 : List Cond := [Cond.fieldLink RX2 42 "GridCommonsModel" "used" "[D", Cond.fieldLink RX2 57 "GridCommonsModel" "prices" "[D", Cond.fieldLink RX2 36 "GridCommonsModel" "areKnown" "[Z", Cond.fieldLink RX2 39 "GridCommonsModel" "uses" "[D", Cond.fieldLink RX2 20 "GridCommonsModel" "bills" "[D", Cond.methodLink RX2 132 yX2_errorOfReplace, Cond.instanceMethod yX2_errorOfReplace, Cond.selects RX2 yX2_errorOfReplace yX2_errorOfReplace, Cond.initialized RX2, Cond.code yX2_errorOfReplace cX2_errorOfReplace 4 (some .int), Cond.methodLink RX2 71 yX2_isOwner, Cond.static yX2_isOwner, Cond.code yX2_isOwner cX2_isOwner 1 (some .boolean), Cond.methodLink RX2 67 yX2_in, Cond.static yX2_in, Cond.code yX2_in cX2_in 3 (some .boolean), Cond.methodLink RX2 129 yX2_isQuarter, Cond.instanceMethod yX2_isQuarter, Cond.selects RX2 yX2_isQuarter yX2_isQuarter, Cond.code yX2_isQuarter cX2_isQuarter 2 (some .boolean), Cond.fieldLink RX2 84 "GridCommonsModel" "closed" "I", Cond.methodLink RX2 79 yX2_holds, Cond.instanceMethod yX2_holds, Cond.selects RX2 yX2_holds yX2_holds]
def wsX2_replace_r2 : List Cond := [Cond.code yX2_holds cX2_holds 2 (some .boolean), Cond.fieldLink RX2 63 "GridCommonsModel" "thrown" "I"]
def wsX2_replace : List Cond := .code yX2_replace cX2_replace 7 (some .double) :: ((wsX2_replace_r1 ++ wsX2_replace_r2) ++ wsX20)
def wsX2_isAt : List Cond := .code yX2_isAt cX2_isAt 3 (some .boolean) :: ([.methodLink RX2 71 yX2_isOwner, .static yX2_isOwner, .initialized RX2, .code yX2_isOwner cX2_isOwner 1 (some .boolean), .methodLink RX2 67 yX2_in, .static yX2_in, .code yX2_in cX2_in 3 (some .boolean), .methodLink RX2 129 yX2_isQuarter, .instanceMethod yX2_isQuarter, .selects RX2 yX2_isQuarter yX2_isQuarter, .code yX2_isQuarter cX2_isQuarter 2 (some .boolean), .fieldLink RX2 84 "GridCommonsModel" "closed" "I", .methodLink RX2 79 yX2_holds, .instanceMethod yX2_holds, .selects RX2 yX2_holds yX2_holds, .code yX2_holds cX2_holds 2 (some .boolean), .fieldLink RX2 63 "GridCommonsModel" "thrown" "I"] ++ wsX20)
def wsX2_use : List Cond := .code yX2_use cX2_use 3 (some .double) :: ([.fieldLink RX2 39 "GridCommonsModel" "uses" "[D", .methodLink RX2 136 yX2_isAt, .instanceMethod yX2_isAt, .selects RX2 yX2_isAt yX2_isAt, .initialized RX2, .code yX2_isAt cX2_isAt 3 (some .boolean), .methodLink RX2 71 yX2_isOwner, .static yX2_isOwner, .code yX2_isOwner cX2_isOwner 1 (some .boolean), .methodLink RX2 67 yX2_in, .static yX2_in, .code yX2_in cX2_in 3 (some .boolean), .methodLink RX2 129 yX2_isQuarter, .instanceMethod yX2_isQuarter, .selects RX2 yX2_isQuarter yX2_isQuarter, .code yX2_isQuarter cX2_isQuarter 2 (some .boolean), .fieldLink RX2 84 "GridCommonsModel" "closed" "I", .methodLink RX2 79 yX2_holds, .instanceMethod yX2_holds, .selects RX2 yX2_holds yX2_holds, .code yX2_holds cX2_holds 2 (some .boolean), .fieldLink RX2 63 "GridCommonsModel" "thrown" "I"] ++ wsX20)
def wsX2_fromSun : List Cond := .code yX2_fromSun cX2_fromSun 3 (some .double) :: ([.fieldLink RX2 45 "GridCommonsModel" "fromSun" "[D", .methodLink RX2 136 yX2_isAt, .instanceMethod yX2_isAt, .selects RX2 yX2_isAt yX2_isAt, .initialized RX2, .code yX2_isAt cX2_isAt 3 (some .boolean), .methodLink RX2 71 yX2_isOwner, .static yX2_isOwner, .code yX2_isOwner cX2_isOwner 1 (some .boolean), .methodLink RX2 67 yX2_in, .static yX2_in, .code yX2_in cX2_in 3 (some .boolean), .methodLink RX2 129 yX2_isQuarter, .instanceMethod yX2_isQuarter, .selects RX2 yX2_isQuarter yX2_isQuarter, .code yX2_isQuarter cX2_isQuarter 2 (some .boolean), .fieldLink RX2 84 "GridCommonsModel" "closed" "I", .methodLink RX2 79 yX2_holds, .instanceMethod yX2_holds, .selects RX2 yX2_holds yX2_holds, .code yX2_holds cX2_holds 2 (some .boolean), .fieldLink RX2 63 "GridCommonsModel" "thrown" "I"] ++ wsX20)
def wsX2_fromBattery : List Cond := .code yX2_fromBattery cX2_fromBattery 3 (some .double) :: ([.fieldLink RX2 48 "GridCommonsModel" "fromBattery" "[D", .methodLink RX2 136 yX2_isAt, .instanceMethod yX2_isAt, .selects RX2 yX2_isAt yX2_isAt, .initialized RX2, .code yX2_isAt cX2_isAt 3 (some .boolean), .methodLink RX2 71 yX2_isOwner, .static yX2_isOwner, .code yX2_isOwner cX2_isOwner 1 (some .boolean), .methodLink RX2 67 yX2_in, .static yX2_in, .code yX2_in cX2_in 3 (some .boolean), .methodLink RX2 129 yX2_isQuarter, .instanceMethod yX2_isQuarter, .selects RX2 yX2_isQuarter yX2_isQuarter, .code yX2_isQuarter cX2_isQuarter 2 (some .boolean), .fieldLink RX2 84 "GridCommonsModel" "closed" "I", .methodLink RX2 79 yX2_holds, .instanceMethod yX2_holds, .selects RX2 yX2_holds yX2_holds, .code yX2_holds cX2_holds 2 (some .boolean), .fieldLink RX2 63 "GridCommonsModel" "thrown" "I"] ++ wsX20)
def wsX2_bought : List Cond := .code yX2_bought cX2_bought 3 (some .double) :: ([.fieldLink RX2 51 "GridCommonsModel" "bought" "[D", .methodLink RX2 136 yX2_isAt, .instanceMethod yX2_isAt, .selects RX2 yX2_isAt yX2_isAt, .initialized RX2, .code yX2_isAt cX2_isAt 3 (some .boolean), .methodLink RX2 71 yX2_isOwner, .static yX2_isOwner, .code yX2_isOwner cX2_isOwner 1 (some .boolean), .methodLink RX2 67 yX2_in, .static yX2_in, .code yX2_in cX2_in 3 (some .boolean), .methodLink RX2 129 yX2_isQuarter, .instanceMethod yX2_isQuarter, .selects RX2 yX2_isQuarter yX2_isQuarter, .code yX2_isQuarter cX2_isQuarter 2 (some .boolean), .fieldLink RX2 84 "GridCommonsModel" "closed" "I", .methodLink RX2 79 yX2_holds, .instanceMethod yX2_holds, .selects RX2 yX2_holds yX2_holds, .code yX2_holds cX2_holds 2 (some .boolean), .fieldLink RX2 63 "GridCommonsModel" "thrown" "I"] ++ wsX20)
def wsX2_sold : List Cond := .code yX2_sold cX2_sold 2 (some .double) :: ([.fieldLink RX2 54 "GridCommonsModel" "sold" "[D", .methodLink RX2 129 yX2_isQuarter, .instanceMethod yX2_isQuarter, .selects RX2 yX2_isQuarter yX2_isQuarter, .initialized RX2, .code yX2_isQuarter cX2_isQuarter 2 (some .boolean), .fieldLink RX2 84 "GridCommonsModel" "closed" "I", .methodLink RX2 67 yX2_in, .static yX2_in, .code yX2_in cX2_in 3 (some .boolean), .methodLink RX2 79 yX2_holds, .instanceMethod yX2_holds, .selects RX2 yX2_holds yX2_holds, .code yX2_holds cX2_holds 2 (some .boolean), .fieldLink RX2 63 "GridCommonsModel" "thrown" "I"] ++ wsX20)
def wsX2_battery : List Cond := .code yX2_battery cX2_battery 1 (some .double) :: ([.fieldLink RX2 63 "GridCommonsModel" "thrown" "I", .fieldLink RX2 105 "GridCommonsModel" "battery" "D"] ++ wsX20)
def wsX2_turn : List Cond := .code yX2_turn cX2_turn 1 (some .int) :: ([.fieldLink RX2 63 "GridCommonsModel" "thrown" "I", .fieldLink RX2 102 "GridCommonsModel" "turn" "I"] ++ wsX20)
def wsX2_sheds : List Cond := .code yX2_sheds cX2_sheds 2 (some .int) :: ([.fieldLink RX2 17 "GridCommonsModel" "sheds" "[I", .methodLink RX2 71 yX2_isOwner, .static yX2_isOwner, .initialized RX2, .code yX2_isOwner cX2_isOwner 1 (some .boolean), .methodLink RX2 67 yX2_in, .static yX2_in, .code yX2_in cX2_in 3 (some .boolean), .methodLink RX2 79 yX2_holds, .instanceMethod yX2_holds, .selects RX2 yX2_holds yX2_holds, .code yX2_holds cX2_holds 2 (some .boolean), .fieldLink RX2 63 "GridCommonsModel" "thrown" "I"] ++ wsX20)
def wsX2_bill : List Cond := .code yX2_bill cX2_bill 2 (some .double) :: ([.fieldLink RX2 20 "GridCommonsModel" "bills" "[D", .methodLink RX2 71 yX2_isOwner, .static yX2_isOwner, .initialized RX2, .code yX2_isOwner cX2_isOwner 1 (some .boolean), .methodLink RX2 67 yX2_in, .static yX2_in, .code yX2_in cX2_in 3 (some .boolean), .methodLink RX2 79 yX2_holds, .instanceMethod yX2_holds, .selects RX2 yX2_holds yX2_holds, .code yX2_holds cX2_holds 2 (some .boolean), .fieldLink RX2 63 "GridCommonsModel" "thrown" "I"] ++ wsX20)
def wsL_setShare : List Cond := .codeWith yL_setShare cL_setShare 5 (some .int) [(0, 10, 13, 13), (0, 10, 17, 15)] :: ([.classLink RL 13 "java/lang/IllegalArgumentException", .classLink RL 15 "java/lang/IllegalStateException", .methodLink RL 7 yX1_setShare, .instanceMethod yX1_setShare, .selects RX1 yX1_setShare yX1_setShare, .initialized RX1, .code yX1_setShare cX1_setShare 4 (some .int), .classLink RX1 68 "java/lang/IllegalStateException", .initialized "java/lang/IllegalStateException", .fieldLink RX1 9 "GridCommons" "shares" "[I", .methodLink RX1 56 yX1_requireOwner, .static yX1_requireOwner, .code yX1_requireOwner cX1_requireOwner 1 none, .classLink RX1 146 "java/lang/IllegalArgumentException", .initialized "java/lang/IllegalArgumentException", .methodLink RX1 60 yX1_requireWithin, .static yX1_requireWithin, .code yX1_requireWithin cX1_requireWithin 3 none, .methodLink RX1 64 yX1_sumOfShares, .instanceMethod yX1_sumOfShares, .selects RX1 yX1_sumOfShares yX1_sumOfShares, .code yX1_sumOfShares cX1_sumOfShares 3 (some .int)] ++ wsX10 ++ (vx_atS RX1 72 "java/lang/IllegalStateException" ["java/lang/RuntimeException", "java/lang/Exception"]).filter goodWord ++ (vx_atS RX1 150 "java/lang/IllegalArgumentException" ["java/lang/RuntimeException", "java/lang/Exception"]).filter goodWord)
def wsL_setSwitch : List Cond := .codeWith yL_setSwitch cL_setSwitch 5 (some .int) [(0, 17, 20, 13)] :: ([.classLink RL 13 "java/lang/IllegalArgumentException", .methodLink RL 17 yX1_setSwitch, .instanceMethod yX1_setSwitch, .selects RX1 yX1_setSwitch yX1_setSwitch, .initialized RX1, .code yX1_setSwitch cX1_setSwitch 4 (some .boolean), .fieldLink RX1 13 "GridCommons" "switches" "[Z", .methodLink RX1 56 yX1_requireOwner, .static yX1_requireOwner, .code yX1_requireOwner cX1_requireOwner 1 none, .classLink RX1 146 "java/lang/IllegalArgumentException", .initialized "java/lang/IllegalArgumentException"] ++ wsX10 ++ (vx_atS RX1 150 "java/lang/IllegalArgumentException" ["java/lang/RuntimeException", "java/lang/Exception"]).filter goodWord)
def wsL_setPrice : List Cond := .codeWith yL_setPrice cL_setPrice 4 (some .int) [(0, 8, 11, 13)] :: ([.classLink RL 13 "java/lang/IllegalArgumentException", .methodLink RL 21 yX1_setPrice, .instanceMethod yX1_setPrice, .selects RX1 yX1_setPrice yX1_setPrice, .initialized RX1, .code yX1_setPrice cX1_setPrice 2 (some .double), .constantDouble RX1 75 (4616189618054758400), .fieldLink RX1 39 "GridCommons" "price" "D", .methodLink RX1 60 yX1_requireWithin, .static yX1_requireWithin, .code yX1_requireWithin cX1_requireWithin 3 none, .classLink RX1 146 "java/lang/IllegalArgumentException", .initialized "java/lang/IllegalArgumentException"] ++ wsX10 ++ (vx_atS RX1 150 "java/lang/IllegalArgumentException" ["java/lang/RuntimeException", "java/lang/Exception"]).filter goodWord)
def wsL_tell : List Cond := .codeWith yL_tell cL_tell 5 (some .int) [(0, 17, 20, 13)] :: ([.classLink RL 13 "java/lang/IllegalArgumentException", .methodLink RL 25 yX1_tell, .instanceMethod yX1_tell, .selects RX1 yX1_tell yX1_tell, .initialized RX1, .code yX1_tell cX1_tell 4 (some .boolean), .fieldLink RX1 24 "GridCommons" "isTold" "[Z", .fieldLink RX1 27 "GridCommons" "toldUse" "[I", .methodLink RX1 56 yX1_requireOwner, .static yX1_requireOwner, .code yX1_requireOwner cX1_requireOwner 1 none, .classLink RX1 146 "java/lang/IllegalArgumentException", .initialized "java/lang/IllegalArgumentException", .methodLink RX1 60 yX1_requireWithin, .static yX1_requireWithin, .code yX1_requireWithin cX1_requireWithin 3 none] ++ wsX10 ++ (vx_atS RX1 150 "java/lang/IllegalArgumentException" ["java/lang/RuntimeException", "java/lang/Exception"]).filter goodWord)
def wsL_close_r1 : List Cond := [Cond.classLink RL 13 "java/lang/IllegalArgumentException", Cond.classLink RL 15 "java/lang/IllegalStateException", Cond.methodLink RL 29 yX1_close, Cond.instanceMethod yX1_close, Cond.selects RX1 yX1_close yX1_close, Cond.initialized RX1, Cond.code yX1_close cX1_close 4 (some .boolean), Cond.classLink RX1 68 "java/lang/IllegalStateException", Cond.initialized "java/lang/IllegalStateException", Cond.fieldLink RX1 33 "GridCommons" "ledger" "LGridCommons$Ledger;", Cond.fieldLink RX1 77 "GridCommons$Ledger" "count" "I", Cond.fieldLink RX1 82 "GridCommons$Ledger" "price" "[D", Cond.fieldLink RX1 39 "GridCommons" "price" "D", Cond.fieldLink RX1 53 "GridCommons" "leftOver" "D", Cond.methodLink RX1 60 yX1_requireWithin, Cond.static yX1_requireWithin, Cond.code yX1_requireWithin cX1_requireWithin 3 none, Cond.classLink RX1 146 "java/lang/IllegalArgumentException", Cond.initialized "java/lang/IllegalArgumentException", Cond.methodLink RX1 84 yX1_writeUses, Cond.instanceMethod yX1_writeUses, Cond.selects RX1 yX1_writeUses yX1_writeUses, Cond.code yX1_writeUses cX1_writeUses 6 none, Cond.fieldLink RX1 24 "GridCommons" "isTold" "[Z"]
def wsL_close_r2 : List Cond := [Cond.fieldLink RX1 27 "GridCommons" "toldUse" "[I", Cond.fieldLink RX1 120 "GridCommons$Ledger" "known" "[Z", Cond.fieldLink RX1 125 "GridCommons$Ledger" "use" "[D", Cond.fieldLink RX1 50 "GridCommons" "needs" "[D", Cond.methodLink RX1 116 yX0_slot, Cond.static yX0_slot, Cond.initialized RX0, Cond.code yX0_slot cX0_slot 2 (some .int), Cond.methodLink RX1 158 yX0_guess, Cond.instanceMethod yX0_guess, Cond.selects RX0 yX0_guess yX0_guess, Cond.code yX0_guess cX0_guess 7 (some .double), Cond.fieldLink RX0 9 "GridCommons$Ledger" "count" "I", Cond.fieldLink RX0 25 "GridCommons$Ledger" "known" "[Z", Cond.fieldLink RX0 22 "GridCommons$Ledger" "use" "[D", Cond.constantDouble RX0 45 (4611686018427387904), Cond.methodLink RX0 41 yX0_slot, Cond.methodLink RX1 87 yX1_shedUntilCarried, Cond.instanceMethod yX1_shedUntilCarried, Cond.selects RX1 yX1_shedUntilCarried yX1_shedUntilCarried, Cond.code yX1_shedUntilCarried cX1_shedUntilCarried 3 none, Cond.fieldLink RX1 17 "GridCommons" "timesShed" "[I", Cond.methodLink RX1 162 yX1_nextToShed, Cond.instanceMethod yX1_nextToShed]
def wsL_close_r3 : List Cond := [Cond.selects RX1 yX1_nextToShed yX1_nextToShed, Cond.code yX1_nextToShed cX1_nextToShed 4 (some .int), Cond.fieldLink RX1 13 "GridCommons" "switches" "[Z", Cond.methodLink RX1 90 yX1_isOverLine, Cond.instanceMethod yX1_isOverLine, Cond.selects RX1 yX1_isOverLine yX1_isOverLine, Cond.code yX1_isOverLine cX1_isOverLine 1 (some .boolean), Cond.constantDouble RX1 169 (4636737291354636288), Cond.methodLink RX1 165 yX1_sumOfNeeds, Cond.instanceMethod yX1_sumOfNeeds, Cond.selects RX1 yX1_sumOfNeeds yX1_sumOfNeeds, Cond.code yX1_sumOfNeeds cX1_sumOfNeeds 4 (some .double), Cond.methodLink RX1 94 yX1_writeUsed, Cond.instanceMethod yX1_writeUsed, Cond.selects RX1 yX1_writeUsed yX1_writeUsed, Cond.code yX1_writeUsed cX1_writeUsed 3 none, Cond.fieldLink RX1 128 "GridCommons$Ledger" "used" "[D", Cond.methodLink RX1 97 yX1_giveByShare, Cond.instanceMethod yX1_giveByShare, Cond.selects RX1 yX1_giveByShare yX1_giveByShare, Cond.code yX1_giveByShare cX1_giveByShare 6 none, Cond.fieldLink RX1 9 "GridCommons" "shares" "[I", Cond.constantDouble RX1 75 (4616189618054758400), Cond.methodLink RX1 171 yX1_lesser]
def wsL_close_r4 : List Cond := [Cond.static yX1_lesser, Cond.code yX1_lesser cX1_lesser 4 (some .double), Cond.methodLink RX1 175 yX1_giveSun, Cond.instanceMethod yX1_giveSun, Cond.selects RX1 yX1_giveSun yX1_giveSun, Cond.code yX1_giveSun cX1_giveSun 5 none, Cond.fieldLink RX1 134 "GridCommons$Ledger" "fromSun" "[D", Cond.methodLink RX1 101 yX1_giveByNeed, Cond.instanceMethod yX1_giveByNeed, Cond.selects RX1 yX1_giveByNeed yX1_giveByNeed, Cond.code yX1_giveByNeed cX1_giveByNeed 5 none, Cond.methodLink RX1 104 yX1_storeOrSell, Cond.instanceMethod yX1_storeOrSell, Cond.selects RX1 yX1_storeOrSell yX1_storeOrSell, Cond.code yX1_storeOrSell cX1_storeOrSell 4 none, Cond.constantDouble RX1 179 (4630826316843712512), Cond.fieldLink RX1 43 "GridCommons" "stored" "D", Cond.fieldLink RX1 143 "GridCommons$Ledger" "sold" "[D", Cond.methodLink RX1 107 yX1_giveFromBattery, Cond.instanceMethod yX1_giveFromBattery, Cond.selects RX1 yX1_giveFromBattery yX1_giveFromBattery, Cond.code yX1_giveFromBattery cX1_giveFromBattery 7 none, Cond.fieldLink RX1 46 "GridCommons" "whoseTurn" "I", Cond.fieldLink RX1 137 "GridCommons$Ledger" "fromBattery" "[D"]
def wsL_close_r5 : List Cond := [Cond.methodLink RX1 181 yX1_behind, Cond.static yX1_behind, Cond.code yX1_behind cX1_behind 1 (some .int), Cond.methodLink RX1 187 yJ9_floorMod_7cf53, Cond.static yJ9_floorMod_7cf53, Cond.initialized RJ9, Cond.code yJ9_floorMod_7cf53 cJ9_floorMod_7cf53 3 (some .int), Cond.methodLink RX1 110 yX1_writeBills, Cond.instanceMethod yX1_writeBills, Cond.selects RX1 yX1_writeBills yX1_writeBills, Cond.code yX1_writeBills cX1_writeBills 5 none, Cond.constantDouble RX1 185 (4621819117588971520), Cond.fieldLink RX1 140 "GridCommons$Ledger" "bought" "[D", Cond.fieldLink RX1 20 "GridCommons" "bills" "[D"]
def wsL_close : List Cond := .codeWith yL_close cL_close 4 (some .int) [(0, 16, 19, 13), (0, 16, 22, 15)] :: ((wsL_close_r1 ++ (wsL_close_r2 ++ (wsL_close_r3 ++ (wsL_close_r4 ++ wsL_close_r5)))) ++ wsX10 ++ wsX00 ++ (vx_atS RX1 72 "java/lang/IllegalStateException" ["java/lang/RuntimeException", "java/lang/Exception"]).filter goodWord ++ (vx_atS RX1 150 "java/lang/IllegalArgumentException" ["java/lang/RuntimeException", "java/lang/Exception"]).filter goodWord)
def wsL_replace_r1 : List Cond := [Cond.classLink RL 13 "java/lang/IllegalArgumentException", Cond.classLink RL 37 "java/lang/IndexOutOfBoundsException", Cond.classLink RL 15 "java/lang/IllegalStateException", Cond.methodLink RL 33 yX1_replace, Cond.instanceMethod yX1_replace, Cond.selects RX1 yX1_replace yX1_replace, Cond.initialized RX1, Cond.code yX1_replace cX1_replace 7 (some .double), Cond.classLink RX1 68 "java/lang/IllegalStateException", Cond.initialized "java/lang/IllegalStateException", Cond.fieldLink RX1 33 "GridCommons" "ledger" "LGridCommons$Ledger;", Cond.fieldLink RX1 120 "GridCommons$Ledger" "known" "[Z", Cond.fieldLink RX1 125 "GridCommons$Ledger" "use" "[D", Cond.fieldLink RX1 128 "GridCommons$Ledger" "used" "[D", Cond.fieldLink RX1 82 "GridCommons$Ledger" "price" "[D", Cond.fieldLink RX1 20 "GridCommons" "bills" "[D", Cond.methodLink RX1 56 yX1_requireOwner, Cond.static yX1_requireOwner, Cond.code yX1_requireOwner cX1_requireOwner 1 none, Cond.classLink RX1 146 "java/lang/IllegalArgumentException", Cond.initialized "java/lang/IllegalArgumentException", Cond.methodLink RX1 60 yX1_requireWithin, Cond.static yX1_requireWithin, Cond.code yX1_requireWithin cX1_requireWithin 3 none]
def wsL_replace_r2 : List Cond := [Cond.methodLink RX1 113 yX1_requireQuarter, Cond.instanceMethod yX1_requireQuarter, Cond.selects RX1 yX1_requireQuarter yX1_requireQuarter, Cond.code yX1_requireQuarter cX1_requireQuarter 2 none, Cond.classLink RX1 153 "java/lang/IndexOutOfBoundsException", Cond.initialized "java/lang/IndexOutOfBoundsException", Cond.fieldLink RX1 77 "GridCommons$Ledger" "count" "I", Cond.methodLink RX1 116 yX0_slot, Cond.static yX0_slot, Cond.initialized RX0, Cond.code yX0_slot cX0_slot 2 (some .int)]
def wsL_replace : List Cond := .codeWith yL_replace cL_replace 6 (some .int) [(0, 11, 14, 13), (0, 11, 18, 37), (0, 11, 22, 15)] :: ((wsL_replace_r1 ++ wsL_replace_r2) ++ wsX10 ++ wsX00 ++ (vx_atS RX1 72 "java/lang/IllegalStateException" ["java/lang/RuntimeException", "java/lang/Exception"]).filter goodWord ++ (vx_atS RX1 150 "java/lang/IllegalArgumentException" ["java/lang/RuntimeException", "java/lang/Exception"]).filter goodWord ++ (vx_atS RX1 157 "java/lang/IndexOutOfBoundsException" ["java/lang/RuntimeException", "java/lang/Exception"]).filter goodWord)
def wsL_use_r1 : List Cond := [Cond.classLink RL 13 "java/lang/IllegalArgumentException", Cond.classLink RL 37 "java/lang/IndexOutOfBoundsException", Cond.methodLink RL 39 yX1_use, Cond.instanceMethod yX1_use, Cond.selects RX1 yX1_use yX1_use, Cond.initialized RX1, Cond.code yX1_use cX1_use 3 (some .double), Cond.fieldLink RX1 33 "GridCommons" "ledger" "LGridCommons$Ledger;", Cond.fieldLink RX1 125 "GridCommons$Ledger" "use" "[D", Cond.methodLink RX1 131 yX1_closedSlot, Cond.instanceMethod yX1_closedSlot, Cond.selects RX1 yX1_closedSlot yX1_closedSlot, Cond.code yX1_closedSlot cX1_closedSlot 3 (some .int), Cond.methodLink RX1 56 yX1_requireOwner, Cond.static yX1_requireOwner, Cond.code yX1_requireOwner cX1_requireOwner 1 none, Cond.classLink RX1 146 "java/lang/IllegalArgumentException", Cond.initialized "java/lang/IllegalArgumentException", Cond.methodLink RX1 113 yX1_requireQuarter, Cond.instanceMethod yX1_requireQuarter, Cond.selects RX1 yX1_requireQuarter yX1_requireQuarter, Cond.code yX1_requireQuarter cX1_requireQuarter 2 none, Cond.classLink RX1 153 "java/lang/IndexOutOfBoundsException", Cond.initialized "java/lang/IndexOutOfBoundsException"]
def wsL_use_r2 : List Cond := [Cond.fieldLink RX1 77 "GridCommons$Ledger" "count" "I", Cond.methodLink RX1 116 yX0_slot, Cond.static yX0_slot, Cond.initialized RX0, Cond.code yX0_slot cX0_slot 2 (some .int)]
def wsL_use : List Cond := .codeWith yL_use cL_use 5 (some .int) [(0, 9, 12, 13), (0, 9, 16, 37)] :: ((wsL_use_r1 ++ wsL_use_r2) ++ wsX10 ++ wsX00 ++ (vx_atS RX1 150 "java/lang/IllegalArgumentException" ["java/lang/RuntimeException", "java/lang/Exception"]).filter goodWord ++ (vx_atS RX1 157 "java/lang/IndexOutOfBoundsException" ["java/lang/RuntimeException", "java/lang/Exception"]).filter goodWord)
def wsL_fromSun_r1 : List Cond := [Cond.classLink RL 13 "java/lang/IllegalArgumentException", Cond.classLink RL 37 "java/lang/IndexOutOfBoundsException", Cond.methodLink RL 43 yX1_fromSun, Cond.instanceMethod yX1_fromSun, Cond.selects RX1 yX1_fromSun yX1_fromSun, Cond.initialized RX1, Cond.code yX1_fromSun cX1_fromSun 3 (some .double), Cond.fieldLink RX1 33 "GridCommons" "ledger" "LGridCommons$Ledger;", Cond.fieldLink RX1 134 "GridCommons$Ledger" "fromSun" "[D", Cond.methodLink RX1 131 yX1_closedSlot, Cond.instanceMethod yX1_closedSlot, Cond.selects RX1 yX1_closedSlot yX1_closedSlot, Cond.code yX1_closedSlot cX1_closedSlot 3 (some .int), Cond.methodLink RX1 56 yX1_requireOwner, Cond.static yX1_requireOwner, Cond.code yX1_requireOwner cX1_requireOwner 1 none, Cond.classLink RX1 146 "java/lang/IllegalArgumentException", Cond.initialized "java/lang/IllegalArgumentException", Cond.methodLink RX1 113 yX1_requireQuarter, Cond.instanceMethod yX1_requireQuarter, Cond.selects RX1 yX1_requireQuarter yX1_requireQuarter, Cond.code yX1_requireQuarter cX1_requireQuarter 2 none, Cond.classLink RX1 153 "java/lang/IndexOutOfBoundsException", Cond.initialized "java/lang/IndexOutOfBoundsException"]
def wsL_fromSun_r2 : List Cond := [Cond.fieldLink RX1 77 "GridCommons$Ledger" "count" "I", Cond.methodLink RX1 116 yX0_slot, Cond.static yX0_slot, Cond.initialized RX0, Cond.code yX0_slot cX0_slot 2 (some .int)]
def wsL_fromSun : List Cond := .codeWith yL_fromSun cL_fromSun 5 (some .int) [(0, 9, 12, 13), (0, 9, 16, 37)] :: ((wsL_fromSun_r1 ++ wsL_fromSun_r2) ++ wsX10 ++ wsX00 ++ (vx_atS RX1 150 "java/lang/IllegalArgumentException" ["java/lang/RuntimeException", "java/lang/Exception"]).filter goodWord ++ (vx_atS RX1 157 "java/lang/IndexOutOfBoundsException" ["java/lang/RuntimeException", "java/lang/Exception"]).filter goodWord)
def wsL_fromBattery_r1 : List Cond := [Cond.classLink RL 13 "java/lang/IllegalArgumentException", Cond.classLink RL 37 "java/lang/IndexOutOfBoundsException", Cond.methodLink RL 46 yX1_fromBattery, Cond.instanceMethod yX1_fromBattery, Cond.selects RX1 yX1_fromBattery yX1_fromBattery, Cond.initialized RX1, Cond.code yX1_fromBattery cX1_fromBattery 3 (some .double), Cond.fieldLink RX1 33 "GridCommons" "ledger" "LGridCommons$Ledger;", Cond.fieldLink RX1 137 "GridCommons$Ledger" "fromBattery" "[D", Cond.methodLink RX1 131 yX1_closedSlot, Cond.instanceMethod yX1_closedSlot, Cond.selects RX1 yX1_closedSlot yX1_closedSlot, Cond.code yX1_closedSlot cX1_closedSlot 3 (some .int), Cond.methodLink RX1 56 yX1_requireOwner, Cond.static yX1_requireOwner, Cond.code yX1_requireOwner cX1_requireOwner 1 none, Cond.classLink RX1 146 "java/lang/IllegalArgumentException", Cond.initialized "java/lang/IllegalArgumentException", Cond.methodLink RX1 113 yX1_requireQuarter, Cond.instanceMethod yX1_requireQuarter, Cond.selects RX1 yX1_requireQuarter yX1_requireQuarter, Cond.code yX1_requireQuarter cX1_requireQuarter 2 none, Cond.classLink RX1 153 "java/lang/IndexOutOfBoundsException", Cond.initialized "java/lang/IndexOutOfBoundsException"]
def wsL_fromBattery_r2 : List Cond := [Cond.fieldLink RX1 77 "GridCommons$Ledger" "count" "I", Cond.methodLink RX1 116 yX0_slot, Cond.static yX0_slot, Cond.initialized RX0, Cond.code yX0_slot cX0_slot 2 (some .int)]
def wsL_fromBattery : List Cond := .codeWith yL_fromBattery cL_fromBattery 5 (some .int) [(0, 9, 12, 13), (0, 9, 16, 37)] :: ((wsL_fromBattery_r1 ++ wsL_fromBattery_r2) ++ wsX10 ++ wsX00 ++ (vx_atS RX1 150 "java/lang/IllegalArgumentException" ["java/lang/RuntimeException", "java/lang/Exception"]).filter goodWord ++ (vx_atS RX1 157 "java/lang/IndexOutOfBoundsException" ["java/lang/RuntimeException", "java/lang/Exception"]).filter goodWord)
def wsL_bought_r1 : List Cond := [Cond.classLink RL 13 "java/lang/IllegalArgumentException", Cond.classLink RL 37 "java/lang/IndexOutOfBoundsException", Cond.methodLink RL 49 yX1_bought, Cond.instanceMethod yX1_bought, Cond.selects RX1 yX1_bought yX1_bought, Cond.initialized RX1, Cond.code yX1_bought cX1_bought 3 (some .double), Cond.fieldLink RX1 33 "GridCommons" "ledger" "LGridCommons$Ledger;", Cond.fieldLink RX1 140 "GridCommons$Ledger" "bought" "[D", Cond.methodLink RX1 131 yX1_closedSlot, Cond.instanceMethod yX1_closedSlot, Cond.selects RX1 yX1_closedSlot yX1_closedSlot, Cond.code yX1_closedSlot cX1_closedSlot 3 (some .int), Cond.methodLink RX1 56 yX1_requireOwner, Cond.static yX1_requireOwner, Cond.code yX1_requireOwner cX1_requireOwner 1 none, Cond.classLink RX1 146 "java/lang/IllegalArgumentException", Cond.initialized "java/lang/IllegalArgumentException", Cond.methodLink RX1 113 yX1_requireQuarter, Cond.instanceMethod yX1_requireQuarter, Cond.selects RX1 yX1_requireQuarter yX1_requireQuarter, Cond.code yX1_requireQuarter cX1_requireQuarter 2 none, Cond.classLink RX1 153 "java/lang/IndexOutOfBoundsException", Cond.initialized "java/lang/IndexOutOfBoundsException"]
def wsL_bought_r2 : List Cond := [Cond.fieldLink RX1 77 "GridCommons$Ledger" "count" "I", Cond.methodLink RX1 116 yX0_slot, Cond.static yX0_slot, Cond.initialized RX0, Cond.code yX0_slot cX0_slot 2 (some .int)]
def wsL_bought : List Cond := .codeWith yL_bought cL_bought 5 (some .int) [(0, 9, 12, 13), (0, 9, 16, 37)] :: ((wsL_bought_r1 ++ wsL_bought_r2) ++ wsX10 ++ wsX00 ++ (vx_atS RX1 150 "java/lang/IllegalArgumentException" ["java/lang/RuntimeException", "java/lang/Exception"]).filter goodWord ++ (vx_atS RX1 157 "java/lang/IndexOutOfBoundsException" ["java/lang/RuntimeException", "java/lang/Exception"]).filter goodWord)
def wsL_sold : List Cond := .codeWith yL_sold cL_sold 4 (some .int) [(0, 8, 11, 37)] :: ([.classLink RL 37 "java/lang/IndexOutOfBoundsException", .methodLink RL 52 yX1_sold, .instanceMethod yX1_sold, .selects RX1 yX1_sold yX1_sold, .initialized RX1, .code yX1_sold cX1_sold 2 (some .double), .fieldLink RX1 33 "GridCommons" "ledger" "LGridCommons$Ledger;", .fieldLink RX1 143 "GridCommons$Ledger" "sold" "[D", .methodLink RX1 113 yX1_requireQuarter, .instanceMethod yX1_requireQuarter, .selects RX1 yX1_requireQuarter yX1_requireQuarter, .code yX1_requireQuarter cX1_requireQuarter 2 none, .classLink RX1 153 "java/lang/IndexOutOfBoundsException", .initialized "java/lang/IndexOutOfBoundsException", .fieldLink RX1 77 "GridCommons$Ledger" "count" "I"] ++ wsX10 ++ wsX00 ++ (vx_atS RX1 157 "java/lang/IndexOutOfBoundsException" ["java/lang/RuntimeException", "java/lang/Exception"]).filter goodWord)
def wsL_sheds : List Cond := .codeWith yL_sheds cL_sheds 4 (some .int) [(0, 9, 12, 13)] :: ([.classLink RL 13 "java/lang/IllegalArgumentException", .methodLink RL 55 yX1_sheds, .instanceMethod yX1_sheds, .selects RX1 yX1_sheds yX1_sheds, .initialized RX1, .code yX1_sheds cX1_sheds 2 (some .int), .fieldLink RX1 17 "GridCommons" "timesShed" "[I", .methodLink RX1 56 yX1_requireOwner, .static yX1_requireOwner, .code yX1_requireOwner cX1_requireOwner 1 none, .classLink RX1 146 "java/lang/IllegalArgumentException", .initialized "java/lang/IllegalArgumentException"] ++ wsX10 ++ (vx_atS RX1 150 "java/lang/IllegalArgumentException" ["java/lang/RuntimeException", "java/lang/Exception"]).filter goodWord)
def wsL_bill : List Cond := .codeWith yL_bill cL_bill 4 (some .int) [(0, 8, 11, 13)] :: ([.classLink RL 13 "java/lang/IllegalArgumentException", .methodLink RL 59 yX1_bill, .instanceMethod yX1_bill, .selects RX1 yX1_bill yX1_bill, .initialized RX1, .code yX1_bill cX1_bill 2 (some .double), .fieldLink RX1 20 "GridCommons" "bills" "[D", .methodLink RX1 56 yX1_requireOwner, .static yX1_requireOwner, .code yX1_requireOwner cX1_requireOwner 1 none, .classLink RX1 146 "java/lang/IllegalArgumentException", .initialized "java/lang/IllegalArgumentException"] ++ wsX10 ++ (vx_atS RX1 150 "java/lang/IllegalArgumentException" ["java/lang/RuntimeException", "java/lang/Exception"]).filter goodWord)
def wsL_law0_r1 : List Cond := [Cond.classLink RL 8 RX1, Cond.instantiable RX1 12, Cond.initialized RX1, Cond.classLink RL 63 RX2, Cond.instantiable RX2 20, Cond.initialized RX2, Cond.arrayClass .long, Cond.arrayClass .double, Cond.methodLink RL 62 yX1_init, Cond.instanceMethod yX1_init, Cond.code yX1_init cX1_init 2 none, Cond.methodLink RX1 1 objectInit, Cond.instanceMethod objectInit, Cond.code objectInit ⟨#[0xb1]⟩ 1 none, Cond.arrayClass .int, Cond.fieldLink RX1 9 "GridCommons" "shares" "[I", Cond.arrayClass .boolean, Cond.fieldLink RX1 13 "GridCommons" "switches" "[Z", Cond.fieldLink RX1 17 "GridCommons" "timesShed" "[I", Cond.fieldLink RX1 20 "GridCommons" "bills" "[D", Cond.fieldLink RX1 24 "GridCommons" "isTold" "[Z", Cond.fieldLink RX1 27 "GridCommons" "toldUse" "[I", Cond.classLink RX1 30 RX0, Cond.instantiable RX0 9]
def wsL_law0_r2 : List Cond := [Cond.initialized RX0, Cond.fieldLink RX1 33 "GridCommons" "ledger" "LGridCommons$Ledger;", Cond.constantDouble RX1 37 (4602678819172646912), Cond.fieldLink RX1 39 "GridCommons" "price" "D", Cond.fieldLink RX1 43 "GridCommons" "stored" "D", Cond.fieldLink RX1 46 "GridCommons" "whoseTurn" "I", Cond.fieldLink RX1 50 "GridCommons" "needs" "[D", Cond.fieldLink RX1 53 "GridCommons" "leftOver" "D", Cond.instanceMethod yX0_init, Cond.code yX0_init cX0_init 1 none, Cond.methodLink RX0 3 objectInit, Cond.fieldLink RX0 9 "GridCommons$Ledger" "count" "I", Cond.fieldLink RX0 15 "GridCommons$Ledger" "price" "[D", Cond.fieldLink RX0 19 "GridCommons$Ledger" "sold" "[D", Cond.fieldLink RX0 22 "GridCommons$Ledger" "use" "[D", Cond.fieldLink RX0 25 "GridCommons$Ledger" "known" "[Z", Cond.fieldLink RX0 29 "GridCommons$Ledger" "used" "[D", Cond.fieldLink RX0 32 "GridCommons$Ledger" "fromSun" "[D", Cond.fieldLink RX0 35 "GridCommons$Ledger" "fromBattery" "[D", Cond.fieldLink RX0 38 "GridCommons$Ledger" "bought" "[D", Cond.methodLink RL 65 yX2_init, Cond.instanceMethod yX2_init, Cond.code yX2_init cX2_init 1 none, Cond.methodLink RX2 1 objectInit]
def wsL_law0_r3 : List Cond := [Cond.fieldLink RX2 7 "GridCommonsModel" "shares" "[I", Cond.fieldLink RX2 13 "GridCommonsModel" "areStuck" "[Z", Cond.fieldLink RX2 17 "GridCommonsModel" "sheds" "[I", Cond.fieldLink RX2 20 "GridCommonsModel" "bills" "[D", Cond.constantDouble RX2 24 (4602678819172646912), Cond.fieldLink RX2 26 "GridCommonsModel" "price" "D", Cond.fieldLink RX2 30 "GridCommonsModel" "areTold" "[Z", Cond.fieldLink RX2 33 "GridCommonsModel" "told" "[I", Cond.fieldLink RX2 36 "GridCommonsModel" "areKnown" "[Z", Cond.fieldLink RX2 39 "GridCommonsModel" "uses" "[D", Cond.fieldLink RX2 42 "GridCommonsModel" "used" "[D", Cond.fieldLink RX2 45 "GridCommonsModel" "fromSun" "[D", Cond.fieldLink RX2 48 "GridCommonsModel" "fromBattery" "[D", Cond.fieldLink RX2 51 "GridCommonsModel" "bought" "[D", Cond.fieldLink RX2 54 "GridCommonsModel" "sold" "[D", Cond.fieldLink RX2 57 "GridCommonsModel" "prices" "[D", Cond.fieldLink RX2 60 "GridCommonsModel" "needs" "[D", Cond.methodLink RL 66 yL_setShare, Cond.static yL_setShare, Cond.initialized RL, Cond.codeWith yL_setShare cL_setShare 5 (some .int) [(0, 10, 13, 13), (0, 10, 17, 15)], Cond.classLink RL 13 "java/lang/IllegalArgumentException", Cond.classLink RL 15 "java/lang/IllegalStateException", Cond.methodLink RL 7 yX1_setShare]
def wsL_law0_r4 : List Cond := [Cond.instanceMethod yX1_setShare, Cond.selects RX1 yX1_setShare yX1_setShare, Cond.code yX1_setShare cX1_setShare 4 (some .int), Cond.classLink RX1 68 "java/lang/IllegalStateException", Cond.initialized "java/lang/IllegalStateException", Cond.methodLink RX1 56 yX1_requireOwner, Cond.static yX1_requireOwner, Cond.code yX1_requireOwner cX1_requireOwner 1 none, Cond.classLink RX1 146 "java/lang/IllegalArgumentException", Cond.initialized "java/lang/IllegalArgumentException", Cond.methodLink RX1 60 yX1_requireWithin, Cond.static yX1_requireWithin, Cond.code yX1_requireWithin cX1_requireWithin 3 none, Cond.methodLink RX1 64 yX1_sumOfShares, Cond.instanceMethod yX1_sumOfShares, Cond.selects RX1 yX1_sumOfShares yX1_sumOfShares, Cond.code yX1_sumOfShares cX1_sumOfShares 3 (some .int), Cond.methodLink RL 71 yX2_setShare, Cond.instanceMethod yX2_setShare, Cond.selects RX2 yX2_setShare yX2_setShare, Cond.code yX2_setShare cX2_setShare 5 (some .int), Cond.methodLink RX2 71 yX2_isOwner, Cond.static yX2_isOwner, Cond.code yX2_isOwner cX2_isOwner 1 (some .boolean)]
def wsL_law0_r5 : List Cond := [Cond.methodLink RX2 67 yX2_in, Cond.static yX2_in, Cond.code yX2_in cX2_in 3 (some .boolean), Cond.methodLink RX2 75 yX2_others, Cond.instanceMethod yX2_others, Cond.selects RX2 yX2_others yX2_others, Cond.code yX2_others cX2_others 4 (some .int), Cond.methodLink RX2 79 yX2_holds, Cond.instanceMethod yX2_holds, Cond.selects RX2 yX2_holds yX2_holds, Cond.code yX2_holds cX2_holds 2 (some .boolean), Cond.fieldLink RX2 63 "GridCommonsModel" "thrown" "I", Cond.methodLink RL 72 yX2_thrown, Cond.instanceMethod yX2_thrown, Cond.selects RX2 yX2_thrown yX2_thrown, Cond.code yX2_thrown cX2_thrown 1 (some .int), Cond.methodLink RL 76 yL_setSwitch, Cond.static yL_setSwitch, Cond.codeWith yL_setSwitch cL_setSwitch 5 (some .int) [(0, 17, 20, 13)], Cond.methodLink RL 17 yX1_setSwitch, Cond.instanceMethod yX1_setSwitch, Cond.selects RX1 yX1_setSwitch yX1_setSwitch, Cond.code yX1_setSwitch cX1_setSwitch 4 (some .boolean), Cond.methodLink RL 79 yX2_setSwitch]
def wsL_law0_r6 : List Cond := [Cond.instanceMethod yX2_setSwitch, Cond.selects RX2 yX2_setSwitch yX2_setSwitch, Cond.code yX2_setSwitch cX2_setSwitch 4 (some .boolean), Cond.methodLink RL 80 yL_setPrice, Cond.static yL_setPrice, Cond.codeWith yL_setPrice cL_setPrice 4 (some .int) [(0, 8, 11, 13)], Cond.methodLink RL 21 yX1_setPrice, Cond.instanceMethod yX1_setPrice, Cond.selects RX1 yX1_setPrice yX1_setPrice, Cond.code yX1_setPrice cX1_setPrice 2 (some .double), Cond.constantDouble RX1 75 (4616189618054758400), Cond.methodLink RL 83 yX2_setPrice, Cond.instanceMethod yX2_setPrice, Cond.selects RX2 yX2_setPrice yX2_setPrice, Cond.code yX2_setPrice cX2_setPrice 2 (some .double), Cond.constantDouble RX2 82 (4616189618054758400), Cond.methodLink RL 84 yL_tell, Cond.static yL_tell, Cond.codeWith yL_tell cL_tell 5 (some .int) [(0, 17, 20, 13)], Cond.methodLink RL 25 yX1_tell, Cond.instanceMethod yX1_tell, Cond.selects RX1 yX1_tell yX1_tell, Cond.code yX1_tell cX1_tell 4 (some .boolean), Cond.methodLink RL 86 yX2_tell]
def wsL_law0_r7 : List Cond := [Cond.instanceMethod yX2_tell, Cond.selects RX2 yX2_tell yX2_tell, Cond.code yX2_tell cX2_tell 4 (some .boolean), Cond.methodLink RL 87 yL_close, Cond.static yL_close, Cond.codeWith yL_close cL_close 4 (some .int) [(0, 16, 19, 13), (0, 16, 22, 15)], Cond.methodLink RL 29 yX1_close, Cond.instanceMethod yX1_close, Cond.selects RX1 yX1_close yX1_close, Cond.code yX1_close cX1_close 4 (some .boolean), Cond.fieldLink RX1 77 "GridCommons$Ledger" "count" "I", Cond.fieldLink RX1 82 "GridCommons$Ledger" "price" "[D", Cond.methodLink RX1 84 yX1_writeUses, Cond.instanceMethod yX1_writeUses, Cond.selects RX1 yX1_writeUses yX1_writeUses, Cond.code yX1_writeUses cX1_writeUses 6 none, Cond.fieldLink RX1 120 "GridCommons$Ledger" "known" "[Z", Cond.fieldLink RX1 125 "GridCommons$Ledger" "use" "[D", Cond.methodLink RX1 116 yX0_slot, Cond.static yX0_slot, Cond.code yX0_slot cX0_slot 2 (some .int), Cond.methodLink RX1 158 yX0_guess, Cond.instanceMethod yX0_guess, Cond.selects RX0 yX0_guess yX0_guess]
def wsL_law0_r8 : List Cond := [Cond.code yX0_guess cX0_guess 7 (some .double), Cond.constantDouble RX0 45 (4611686018427387904), Cond.methodLink RX0 41 yX0_slot, Cond.methodLink RX1 87 yX1_shedUntilCarried, Cond.instanceMethod yX1_shedUntilCarried, Cond.selects RX1 yX1_shedUntilCarried yX1_shedUntilCarried, Cond.code yX1_shedUntilCarried cX1_shedUntilCarried 3 none, Cond.methodLink RX1 162 yX1_nextToShed, Cond.instanceMethod yX1_nextToShed, Cond.selects RX1 yX1_nextToShed yX1_nextToShed, Cond.code yX1_nextToShed cX1_nextToShed 4 (some .int), Cond.methodLink RX1 90 yX1_isOverLine, Cond.instanceMethod yX1_isOverLine, Cond.selects RX1 yX1_isOverLine yX1_isOverLine, Cond.code yX1_isOverLine cX1_isOverLine 1 (some .boolean), Cond.constantDouble RX1 169 (4636737291354636288), Cond.methodLink RX1 165 yX1_sumOfNeeds, Cond.instanceMethod yX1_sumOfNeeds, Cond.selects RX1 yX1_sumOfNeeds yX1_sumOfNeeds, Cond.code yX1_sumOfNeeds cX1_sumOfNeeds 4 (some .double), Cond.methodLink RX1 94 yX1_writeUsed, Cond.instanceMethod yX1_writeUsed, Cond.selects RX1 yX1_writeUsed yX1_writeUsed, Cond.code yX1_writeUsed cX1_writeUsed 3 none]
def wsL_law0_r9 : List Cond := [Cond.fieldLink RX1 128 "GridCommons$Ledger" "used" "[D", Cond.methodLink RX1 97 yX1_giveByShare, Cond.instanceMethod yX1_giveByShare, Cond.selects RX1 yX1_giveByShare yX1_giveByShare, Cond.code yX1_giveByShare cX1_giveByShare 6 none, Cond.methodLink RX1 171 yX1_lesser, Cond.static yX1_lesser, Cond.code yX1_lesser cX1_lesser 4 (some .double), Cond.methodLink RX1 175 yX1_giveSun, Cond.instanceMethod yX1_giveSun, Cond.selects RX1 yX1_giveSun yX1_giveSun, Cond.code yX1_giveSun cX1_giveSun 5 none, Cond.fieldLink RX1 134 "GridCommons$Ledger" "fromSun" "[D", Cond.methodLink RX1 101 yX1_giveByNeed, Cond.instanceMethod yX1_giveByNeed, Cond.selects RX1 yX1_giveByNeed yX1_giveByNeed, Cond.code yX1_giveByNeed cX1_giveByNeed 5 none, Cond.methodLink RX1 104 yX1_storeOrSell, Cond.instanceMethod yX1_storeOrSell, Cond.selects RX1 yX1_storeOrSell yX1_storeOrSell, Cond.code yX1_storeOrSell cX1_storeOrSell 4 none, Cond.constantDouble RX1 179 (4630826316843712512), Cond.fieldLink RX1 143 "GridCommons$Ledger" "sold" "[D", Cond.methodLink RX1 107 yX1_giveFromBattery]
def wsL_law0_r10 : List Cond := [Cond.instanceMethod yX1_giveFromBattery, Cond.selects RX1 yX1_giveFromBattery yX1_giveFromBattery, Cond.code yX1_giveFromBattery cX1_giveFromBattery 7 none, Cond.fieldLink RX1 137 "GridCommons$Ledger" "fromBattery" "[D", Cond.methodLink RX1 181 yX1_behind, Cond.static yX1_behind, Cond.code yX1_behind cX1_behind 1 (some .int), Cond.methodLink RX1 187 yJ9_floorMod_7cf53, Cond.static yJ9_floorMod_7cf53, Cond.initialized RJ9, Cond.code yJ9_floorMod_7cf53 cJ9_floorMod_7cf53 3 (some .int), Cond.methodLink RX1 110 yX1_writeBills, Cond.instanceMethod yX1_writeBills, Cond.selects RX1 yX1_writeBills yX1_writeBills, Cond.code yX1_writeBills cX1_writeBills 5 none, Cond.constantDouble RX1 185 (4621819117588971520), Cond.fieldLink RX1 140 "GridCommons$Ledger" "bought" "[D", Cond.methodLink RL 90 yX2_close, Cond.instanceMethod yX2_close, Cond.selects RX2 yX2_close yX2_close, Cond.code yX2_close cX2_close 8 (some .boolean), Cond.fieldLink RX2 84 "GridCommonsModel" "closed" "I", Cond.constantDouble RX2 120 (4630826316843712512), Cond.fieldLink RX2 105 "GridCommonsModel" "battery" "D"]
def wsL_law0_r11 : List Cond := [Cond.methodLink RX2 110 yX2_guess, Cond.instanceMethod yX2_guess, Cond.selects RX2 yX2_guess yX2_guess, Cond.code yX2_guess cX2_guess 6 (some .double), Cond.constantDouble RX2 87 (4611686018427387904), Cond.methodLink RX2 114 yX2_shed, Cond.instanceMethod yX2_shed, Cond.selects RX2 yX2_shed yX2_shed, Cond.code yX2_shed cX2_shed 3 (some .boolean), Cond.constantDouble RX2 93 (4636737291354636288), Cond.methodLink RX2 89 yX2_sum, Cond.instanceMethod yX2_sum, Cond.selects RX2 yX2_sum yX2_sum, Cond.code yX2_sum cX2_sum 6 (some .double), Cond.methodLink RX2 95 yX2_nextToShed, Cond.instanceMethod yX2_nextToShed, Cond.selects RX2 yX2_nextToShed yX2_nextToShed, Cond.code yX2_nextToShed cX2_nextToShed 5 (some .int), Cond.methodLink RX2 117 yX2_shares, Cond.instanceMethod yX2_shares, Cond.selects RX2 yX2_shares yX2_shares, Cond.code yX2_shares cX2_shares 11 (some .double), Cond.methodLink RX2 98 yX2_least, Cond.static yX2_least]
def wsL_law0_r12 : List Cond := [Cond.code yX2_least cX2_least 4 (some .double), Cond.methodLink RX2 122 yX2_gives, Cond.instanceMethod yX2_gives, Cond.selects RX2 yX2_gives yX2_gives, Cond.code yX2_gives cX2_gives 7 none, Cond.fieldLink RX2 102 "GridCommonsModel" "turn" "I", Cond.methodLink RX2 126 yX2_pays, Cond.instanceMethod yX2_pays, Cond.selects RX2 yX2_pays yX2_pays, Cond.code yX2_pays cX2_pays 3 none, Cond.constantDouble RX2 108 (4621819117588971520), Cond.methodLink RL 91 yX1_closed, Cond.instanceMethod yX1_closed, Cond.selects RX1 yX1_closed yX1_closed, Cond.code yX1_closed cX1_closed 1 (some .int), Cond.methodLink RL 94 yX2_closed, Cond.instanceMethod yX2_closed, Cond.selects RX2 yX2_closed yX2_closed, Cond.code yX2_closed cX2_closed 1 (some .int), Cond.methodLink RL 95 yL_replace, Cond.static yL_replace, Cond.codeWith yL_replace cL_replace 6 (some .int) [(0, 11, 14, 13), (0, 11, 18, 37), (0, 11, 22, 15)], Cond.classLink RL 37 "java/lang/IndexOutOfBoundsException", Cond.methodLink RL 33 yX1_replace]
def wsL_law0_r13 : List Cond := [Cond.instanceMethod yX1_replace, Cond.selects RX1 yX1_replace yX1_replace, Cond.code yX1_replace cX1_replace 7 (some .double), Cond.methodLink RX1 113 yX1_requireQuarter, Cond.instanceMethod yX1_requireQuarter, Cond.selects RX1 yX1_requireQuarter yX1_requireQuarter, Cond.code yX1_requireQuarter cX1_requireQuarter 2 none, Cond.classLink RX1 153 "java/lang/IndexOutOfBoundsException", Cond.initialized "java/lang/IndexOutOfBoundsException", Cond.methodLink RL 98 yX2_replace, Cond.instanceMethod yX2_replace, Cond.selects RX2 yX2_replace yX2_replace, Cond.code yX2_replace cX2_replace 7 (some .double), Cond.methodLink RX2 132 yX2_errorOfReplace, Cond.instanceMethod yX2_errorOfReplace, Cond.selects RX2 yX2_errorOfReplace yX2_errorOfReplace, Cond.code yX2_errorOfReplace cX2_errorOfReplace 4 (some .int), Cond.methodLink RX2 129 yX2_isQuarter, Cond.instanceMethod yX2_isQuarter, Cond.selects RX2 yX2_isQuarter yX2_isQuarter, Cond.code yX2_isQuarter cX2_isQuarter 2 (some .boolean), Cond.methodLink RL 99 yL_use, Cond.static yL_use, Cond.codeWith yL_use cL_use 5 (some .int) [(0, 9, 12, 13), (0, 9, 16, 37)]]
def wsL_law0_r14 : List Cond := [Cond.methodLink RL 39 yX1_use, Cond.instanceMethod yX1_use, Cond.selects RX1 yX1_use yX1_use, Cond.code yX1_use cX1_use 3 (some .double), Cond.methodLink RX1 131 yX1_closedSlot, Cond.instanceMethod yX1_closedSlot, Cond.selects RX1 yX1_closedSlot yX1_closedSlot, Cond.code yX1_closedSlot cX1_closedSlot 3 (some .int), Cond.methodLink RL 102 yX2_use, Cond.instanceMethod yX2_use, Cond.selects RX2 yX2_use yX2_use, Cond.code yX2_use cX2_use 3 (some .double), Cond.methodLink RX2 136 yX2_isAt, Cond.instanceMethod yX2_isAt, Cond.selects RX2 yX2_isAt yX2_isAt, Cond.code yX2_isAt cX2_isAt 3 (some .boolean), Cond.methodLink RL 103 yL_fromSun, Cond.static yL_fromSun, Cond.codeWith yL_fromSun cL_fromSun 5 (some .int) [(0, 9, 12, 13), (0, 9, 16, 37)], Cond.methodLink RL 43 yX1_fromSun, Cond.instanceMethod yX1_fromSun, Cond.selects RX1 yX1_fromSun yX1_fromSun, Cond.code yX1_fromSun cX1_fromSun 3 (some .double), Cond.methodLink RL 105 yX2_fromSun]
def wsL_law0_r15 : List Cond := [Cond.instanceMethod yX2_fromSun, Cond.selects RX2 yX2_fromSun yX2_fromSun, Cond.code yX2_fromSun cX2_fromSun 3 (some .double), Cond.methodLink RL 106 yL_fromBattery, Cond.static yL_fromBattery, Cond.codeWith yL_fromBattery cL_fromBattery 5 (some .int) [(0, 9, 12, 13), (0, 9, 16, 37)], Cond.methodLink RL 46 yX1_fromBattery, Cond.instanceMethod yX1_fromBattery, Cond.selects RX1 yX1_fromBattery yX1_fromBattery, Cond.code yX1_fromBattery cX1_fromBattery 3 (some .double), Cond.methodLink RL 108 yX2_fromBattery, Cond.instanceMethod yX2_fromBattery, Cond.selects RX2 yX2_fromBattery yX2_fromBattery, Cond.code yX2_fromBattery cX2_fromBattery 3 (some .double), Cond.methodLink RL 109 yL_bought, Cond.static yL_bought, Cond.codeWith yL_bought cL_bought 5 (some .int) [(0, 9, 12, 13), (0, 9, 16, 37)], Cond.methodLink RL 49 yX1_bought, Cond.instanceMethod yX1_bought, Cond.selects RX1 yX1_bought yX1_bought, Cond.code yX1_bought cX1_bought 3 (some .double), Cond.methodLink RL 111 yX2_bought, Cond.instanceMethod yX2_bought, Cond.selects RX2 yX2_bought yX2_bought]
def wsL_law0_r16 : List Cond := [Cond.code yX2_bought cX2_bought 3 (some .double), Cond.methodLink RL 112 yL_sold, Cond.static yL_sold, Cond.codeWith yL_sold cL_sold 4 (some .int) [(0, 8, 11, 37)], Cond.methodLink RL 52 yX1_sold, Cond.instanceMethod yX1_sold, Cond.selects RX1 yX1_sold yX1_sold, Cond.code yX1_sold cX1_sold 2 (some .double), Cond.methodLink RL 114 yX2_sold, Cond.instanceMethod yX2_sold, Cond.selects RX2 yX2_sold yX2_sold, Cond.code yX2_sold cX2_sold 2 (some .double), Cond.methodLink RL 115 yX1_battery, Cond.instanceMethod yX1_battery, Cond.selects RX1 yX1_battery yX1_battery, Cond.code yX1_battery cX1_battery 1 (some .double), Cond.methodLink RL 119 yX2_battery, Cond.instanceMethod yX2_battery, Cond.selects RX2 yX2_battery yX2_battery, Cond.code yX2_battery cX2_battery 1 (some .double), Cond.methodLink RL 120 yX1_turn, Cond.instanceMethod yX1_turn, Cond.selects RX1 yX1_turn yX1_turn, Cond.code yX1_turn cX1_turn 1 (some .int)]
def wsL_law0_r17 : List Cond := [Cond.methodLink RL 123 yX2_turn, Cond.instanceMethod yX2_turn, Cond.selects RX2 yX2_turn yX2_turn, Cond.code yX2_turn cX2_turn 1 (some .int), Cond.methodLink RL 124 yL_sheds, Cond.static yL_sheds, Cond.codeWith yL_sheds cL_sheds 4 (some .int) [(0, 9, 12, 13)], Cond.methodLink RL 55 yX1_sheds, Cond.instanceMethod yX1_sheds, Cond.selects RX1 yX1_sheds yX1_sheds, Cond.code yX1_sheds cX1_sheds 2 (some .int), Cond.methodLink RL 126 yX2_sheds, Cond.instanceMethod yX2_sheds, Cond.selects RX2 yX2_sheds yX2_sheds, Cond.code yX2_sheds cX2_sheds 2 (some .int), Cond.methodLink RL 127 yL_bill, Cond.static yL_bill, Cond.codeWith yL_bill cL_bill 4 (some .int) [(0, 8, 11, 13)], Cond.methodLink RL 59 yX1_bill, Cond.instanceMethod yX1_bill, Cond.selects RX1 yX1_bill yX1_bill, Cond.code yX1_bill cX1_bill 2 (some .double), Cond.methodLink RL 129 yX2_bill, Cond.instanceMethod yX2_bill]
def wsL_law0_r18 : List Cond := [Cond.selects RX2 yX2_bill yX2_bill, Cond.code yX2_bill cX2_bill 2 (some .double)]
def wsL_law0 : List Cond := (wsL_law0_r1 ++ (wsL_law0_r2 ++ (wsL_law0_r3 ++ (wsL_law0_r4 ++ (wsL_law0_r5 ++ (wsL_law0_r6 ++ (wsL_law0_r7 ++ (wsL_law0_r8 ++ (wsL_law0_r9 ++ (wsL_law0_r10 ++ (wsL_law0_r11 ++ (wsL_law0_r12 ++ (wsL_law0_r13 ++ (wsL_law0_r14 ++ (wsL_law0_r15 ++ (wsL_law0_r16 ++ (wsL_law0_r17 ++ wsL_law0_r18))))))))))))))))) ++ wsX10 ++ wsX20 ++ wsX00 ++ ([] : List Cond)
def wsL_law : List Cond := wsL_law0 ++ (vx_atS RX1 72 "java/lang/IllegalStateException" ["java/lang/RuntimeException", "java/lang/Exception"]).filter goodWord ++ (vx_atS RX1 150 "java/lang/IllegalArgumentException" ["java/lang/RuntimeException", "java/lang/Exception"]).filter goodWord ++ (vx_atS RX1 157 "java/lang/IndexOutOfBoundsException" ["java/lang/RuntimeException", "java/lang/Exception"]).filter goodWord
end
section
set_option maxRecDepth 20000 in
theorem wsL_law_in0_1 : ∀ w ∈ wsL_law0_r1, w ∈ lw_tbl := fun w h => (goodIn_p wsL_law0_r1 [43, 46] (by decide +kernel) (by decide +kernel) w h).1
set_option maxRecDepth 20000 in
theorem wsL_law_in0_2 : ∀ w ∈ wsL_law0_r2, w ∈ lw_tbl := fun w h => (goodIn_p wsL_law0_r2 [51, 432] (by decide +kernel) (by decide +kernel) w h).1
set_option maxRecDepth 20000 in
theorem wsL_law_in0_3 : ∀ w ∈ wsL_law0_r3, w ∈ lw_tbl := fun w h => (goodIn_p wsL_law0_r3 [] (by decide +kernel) (by decide +kernel) w h).1
set_option maxRecDepth 20000 in
theorem wsL_law_in0_4 : ∀ w ∈ wsL_law0_r4, w ∈ lw_tbl := fun w h => (goodIn_p wsL_law0_r4 [151, 154, 225, 230, 503, 506] (by decide +kernel) (by decide +kernel) w h).1
set_option maxRecDepth 20000 in
theorem wsL_law_in0_5 : ∀ w ∈ wsL_law0_r5, w ∈ lw_tbl := fun w h => (goodIn_p wsL_law0_r5 [509, 513, 517, 499, 253] (by decide +kernel) (by decide +kernel) w h).1
set_option maxRecDepth 20000 in
theorem wsL_law_in0_6 : ∀ w ∈ wsL_law0_r6, w ∈ lw_tbl := fun w h => (goodIn_p wsL_law0_r6 [521, 260, 525, 268] (by decide +kernel) (by decide +kernel) w h).1
set_option maxRecDepth 20000 in
theorem wsL_law_in0_7 : ∀ w ∈ wsL_law0_r7, w ∈ lw_tbl := fun w h => (goodIn_p wsL_law0_r7 [530, 275, 280, 283] (by decide +kernel) (by decide +kernel) w h).1
set_option maxRecDepth 20000 in
theorem wsL_law_in0_8 : ∀ w ∈ wsL_law0_r8, w ∈ lw_tbl := fun w h => (goodIn_p wsL_law0_r8 [287, 293, 297, 301, 305, 310] (by decide +kernel) (by decide +kernel) w h).1
set_option maxRecDepth 20000 in
theorem wsL_law_in0_9 : ∀ w ∈ wsL_law0_r9, w ∈ lw_tbl := fun w h => (goodIn_p wsL_law0_r9 [314, 317, 321, 325, 329] (by decide +kernel) (by decide +kernel) w h).1
set_option maxRecDepth 20000 in
theorem wsL_law_in0_10 : ∀ w ∈ wsL_law0_r10, w ∈ lw_tbl := fun w h => (goodIn_p wsL_law0_r10 [334, 337, 340, 344, 534] (by decide +kernel) (by decide +kernel) w h).1
set_option maxRecDepth 20000 in
theorem wsL_law_in0_11 : ∀ w ∈ wsL_law0_r11, w ∈ lw_tbl := fun w h => (goodIn_p wsL_law0_r11 [538, 543, 547, 552, 556] (by decide +kernel) (by decide +kernel) w h).1
set_option maxRecDepth 20000 in
theorem wsL_law_in0_12 : ∀ w ∈ wsL_law0_r12, w ∈ lw_tbl := fun w h => (goodIn_p wsL_law0_r12 [559, 564, 568, 134, 573] (by decide +kernel) (by decide +kernel) w h).1
set_option maxRecDepth 20000 in
theorem wsL_law_in0_13 : ∀ w ∈ wsL_law0_r13, w ∈ lw_tbl := fun w h => (goodIn_p wsL_law0_r13 [353, 357, 577, 581, 585] (by decide +kernel) (by decide +kernel) w h).1
set_option maxRecDepth 20000 in
theorem wsL_law_in0_14 : ∀ w ∈ wsL_law0_r14, w ∈ lw_tbl := fun w h => (goodIn_p wsL_law0_r14 [381, 385, 589, 593, 392] (by decide +kernel) (by decide +kernel) w h).1
set_option maxRecDepth 20000 in
theorem wsL_law_in0_15 : ∀ w ∈ wsL_law0_r15, w ∈ lw_tbl := fun w h => (goodIn_p wsL_law0_r15 [597, 399, 601, 406] (by decide +kernel) (by decide +kernel) w h).1
set_option maxRecDepth 20000 in
theorem wsL_law_in0_16 : ∀ w ∈ wsL_law0_r16, w ∈ lw_tbl := fun w h => (goodIn_p wsL_law0_r16 [605, 413, 609, 138, 613, 142] (by decide +kernel) (by decide +kernel) w h).1
set_option maxRecDepth 20000 in
theorem wsL_law_in0_17 : ∀ w ∈ wsL_law0_r17, w ∈ lw_tbl := fun w h => (goodIn_p wsL_law0_r17 [617, 420, 621, 427] (by decide +kernel) (by decide +kernel) w h).1
set_option maxRecDepth 20000 in
theorem wsL_law_in0_18 : ∀ w ∈ wsL_law0_r18, w ∈ lw_tbl := fun w h => (goodIn_p wsL_law0_r18 [625] (by decide +kernel) (by decide +kernel) w h).1
set_option maxRecDepth 20000 in
theorem wsL_law_in0_wsX10 : ∀ w ∈ wsX10, w ∈ lw_tbl := by decide +kernel
set_option maxRecDepth 20000 in
theorem wsL_law_in0_wsX20 : ∀ w ∈ wsX20, w ∈ lw_tbl := by decide +kernel
set_option maxRecDepth 20000 in
theorem wsL_law_in0_wsX00 : ∀ w ∈ wsX00, w ∈ lw_tbl := by decide +kernel
theorem wsL_law_in0 : ∀ w ∈ wsL_law0, w ∈ lw_tbl := (List.forall_mem_append.mpr ⟨(List.forall_mem_append.mpr ⟨(List.forall_mem_append.mpr ⟨(List.forall_mem_append.mpr ⟨(List.forall_mem_append.mpr ⟨wsL_law_in0_1, (List.forall_mem_append.mpr ⟨wsL_law_in0_2, (List.forall_mem_append.mpr ⟨wsL_law_in0_3, (List.forall_mem_append.mpr ⟨wsL_law_in0_4, (List.forall_mem_append.mpr ⟨wsL_law_in0_5, (List.forall_mem_append.mpr ⟨wsL_law_in0_6, (List.forall_mem_append.mpr ⟨wsL_law_in0_7, (List.forall_mem_append.mpr ⟨wsL_law_in0_8, (List.forall_mem_append.mpr ⟨wsL_law_in0_9, (List.forall_mem_append.mpr ⟨wsL_law_in0_10, (List.forall_mem_append.mpr ⟨wsL_law_in0_11, (List.forall_mem_append.mpr ⟨wsL_law_in0_12, (List.forall_mem_append.mpr ⟨wsL_law_in0_13, (List.forall_mem_append.mpr ⟨wsL_law_in0_14, (List.forall_mem_append.mpr ⟨wsL_law_in0_15, (List.forall_mem_append.mpr ⟨wsL_law_in0_16, (List.forall_mem_append.mpr ⟨wsL_law_in0_17, wsL_law_in0_18⟩)⟩)⟩)⟩)⟩)⟩)⟩)⟩)⟩)⟩)⟩)⟩)⟩)⟩)⟩)⟩)⟩), wsL_law_in0_wsX10⟩), wsL_law_in0_wsX20⟩), wsL_law_in0_wsX00⟩), fun _ h => nomatch h⟩)
theorem wsL_law_x0 : ∀ w ∈ (vx_atS RX1 72 "java/lang/IllegalStateException" ["java/lang/RuntimeException", "java/lang/Exception"]).filter goodWord, w ∈ lw_tbl := by decide +kernel
theorem wsL_law_x1 : ∀ w ∈ (vx_atS RX1 150 "java/lang/IllegalArgumentException" ["java/lang/RuntimeException", "java/lang/Exception"]).filter goodWord, w ∈ lw_tbl := by decide +kernel
theorem wsL_law_x2 : ∀ w ∈ (vx_atS RX1 157 "java/lang/IndexOutOfBoundsException" ["java/lang/RuntimeException", "java/lang/Exception"]).filter goodWord, w ∈ lw_tbl := by decide +kernel
theorem wsL_law_in : ∀ w ∈ wsL_law, w ∈ lw_tbl := fun w h => (List.mem_append.mp h).elim (fun h => (List.mem_append.mp h).elim (fun h => (List.mem_append.mp h).elim (fun h => wsL_law_in0 w h) (fun h => wsL_law_x0 w h)) (fun h => wsL_law_x1 w h)) (fun h => wsL_law_x2 w h)
theorem inlX0 : ∀ w ∈ wsX00, w ∈ wsL_law := fun _ h => List.mem_append_left _ (List.mem_append_left _ (List.mem_append_left _ (List.mem_append_left _ (List.mem_append_right _ h))))
theorem inX0 : ∀ w ∈ wsX00, w ∈ lw_tbl := fun w h => wsL_law_in w (inlX0 w h)
theorem inlX1 : ∀ w ∈ wsX10, w ∈ wsL_law := fun _ h => List.mem_append_left _ (List.mem_append_left _ (List.mem_append_left _ (List.mem_append_left _ (List.mem_append_left _ (List.mem_append_left _ (List.mem_append_right _ h))))))
theorem inX1 : ∀ w ∈ wsX10, w ∈ lw_tbl := fun w h => wsL_law_in w (inlX1 w h)
theorem inlX2 : ∀ w ∈ wsX20, w ∈ wsL_law := fun _ h => List.mem_append_left _ (List.mem_append_left _ (List.mem_append_left _ (List.mem_append_left _ (List.mem_append_left _ (List.mem_append_right _ h)))))
theorem inX2 : ∀ w ∈ wsX20, w ∈ lw_tbl := fun w h => wsL_law_in w (inlX2 w h)
theorem inJ9 : ∀ w ∈ wsJ90, w ∈ lw_tbl := by decide +kernel
end
section
theorem inJ0 : ∀ w ∈ wsJ00, w ∈ lw_tbl := by decide +kernel
theorem dX0_init_0 : decode cX0_init 0 = .ok (.aload_n 0, 1) := by decide +kernel
theorem dX0_init_1 : decode cX0_init 1 = .ok (.invokespecial 3, 3) := by decide +kernel
theorem dX0_init_4 : decode cX0_init 4 = .ok (.aload_n 0, 1) := by decide +kernel
theorem dX0_init_5 : decode cX0_init 5 = .ok (.iconst 0, 1) := by decide +kernel
theorem dX0_init_6 : decode cX0_init 6 = .ok (.putfield 9, 3) := by decide +kernel
theorem dX0_init_9 : decode cX0_init 9 = .ok (.aload_n 0, 1) := by decide +kernel
theorem dX0_init_10 : decode cX0_init 10 = .ok (.bipush 60, 2) := by decide +kernel
theorem dX0_init_12 : decode cX0_init 12 = .ok (.newarray .double, 2) := by decide +kernel
theorem dX0_init_14 : decode cX0_init 14 = .ok (.putfield 15, 3) := by decide +kernel
theorem dX0_init_17 : decode cX0_init 17 = .ok (.aload_n 0, 1) := by decide +kernel
theorem dX0_init_18 : decode cX0_init 18 = .ok (.bipush 60, 2) := by decide +kernel
theorem dX0_init_20 : decode cX0_init 20 = .ok (.newarray .double, 2) := by decide +kernel
theorem dX0_init_22 : decode cX0_init 22 = .ok (.putfield 19, 3) := by decide +kernel
theorem dX0_init_25 : decode cX0_init 25 = .ok (.aload_n 0, 1) := by decide +kernel
theorem dX0_init_26 : decode cX0_init 26 = .ok (.sipush 300, 3) := by decide +kernel
theorem dX0_init_29 : decode cX0_init 29 = .ok (.newarray .double, 2) := by decide +kernel
theorem dX0_init_31 : decode cX0_init 31 = .ok (.putfield 22, 3) := by decide +kernel
theorem dX0_init_34 : decode cX0_init 34 = .ok (.aload_n 0, 1) := by decide +kernel
theorem dX0_init_35 : decode cX0_init 35 = .ok (.sipush 300, 3) := by decide +kernel
theorem dX0_init_38 : decode cX0_init 38 = .ok (.newarray .boolean, 2) := by decide +kernel
theorem dX0_init_40 : decode cX0_init 40 = .ok (.putfield 25, 3) := by decide +kernel
theorem dX0_init_43 : decode cX0_init 43 = .ok (.aload_n 0, 1) := by decide +kernel
theorem dX0_init_44 : decode cX0_init 44 = .ok (.sipush 300, 3) := by decide +kernel
theorem dX0_init_47 : decode cX0_init 47 = .ok (.newarray .double, 2) := by decide +kernel
theorem dX0_init_49 : decode cX0_init 49 = .ok (.putfield 29, 3) := by decide +kernel
theorem dX0_init_52 : decode cX0_init 52 = .ok (.aload_n 0, 1) := by decide +kernel
theorem dX0_init_53 : decode cX0_init 53 = .ok (.sipush 300, 3) := by decide +kernel
theorem dX0_init_56 : decode cX0_init 56 = .ok (.newarray .double, 2) := by decide +kernel
theorem dX0_init_58 : decode cX0_init 58 = .ok (.putfield 32, 3) := by decide +kernel
theorem dX0_init_61 : decode cX0_init 61 = .ok (.aload_n 0, 1) := by decide +kernel
theorem dX0_init_62 : decode cX0_init 62 = .ok (.sipush 300, 3) := by decide +kernel
theorem dX0_init_65 : decode cX0_init 65 = .ok (.newarray .double, 2) := by decide +kernel
theorem dX0_init_67 : decode cX0_init 67 = .ok (.putfield 35, 3) := by decide +kernel
theorem dX0_init_70 : decode cX0_init 70 = .ok (.aload_n 0, 1) := by decide +kernel
theorem dX0_init_71 : decode cX0_init 71 = .ok (.sipush 300, 3) := by decide +kernel
theorem dX0_init_74 : decode cX0_init 74 = .ok (.newarray .double, 2) := by decide +kernel
theorem dX0_init_76 : decode cX0_init 76 = .ok (.putfield 38, 3) := by decide +kernel
theorem dX0_init_79 : decode cX0_init 79 = .ok (.return_, 1) := by decide +kernel
theorem dX0_slot_0 : decode cX0_slot 0 = .ok (.iload_n 1, 1) := by decide +kernel
theorem dX0_slot_1 : decode cX0_slot 1 = .ok (.iconst 5, 1) := by decide +kernel
theorem dX0_slot_2 : decode cX0_slot 2 = .ok (.imul, 1) := by decide +kernel
theorem dX0_slot_3 : decode cX0_slot 3 = .ok (.iload_n 0, 1) := by decide +kernel
theorem dX0_slot_4 : decode cX0_slot 4 = .ok (.iadd, 1) := by decide +kernel
theorem dX0_slot_5 : decode cX0_slot 5 = .ok (.ireturn, 1) := by decide +kernel
set_option maxRecDepth 20000 in
theorem ggX0_guess_X0_slot : GoodIn wsX0_guess wsX0_slot := goodIn_r _ [8] (by decide +kernel) (by decide +kernel)
set_option maxRecDepth 20000 in
theorem gX0_guess_X0_slot : GoodIn wsX0_guess (va_wsS RX0 41 yX0_slot wsX0_slot) := goodIn_app (goodIn_of _ (by decide +kernel)) ggX0_guess_X0_slot
theorem dX0_guess_0 : decode cX0_guess 0 = .ok (.dconst 0, 1) := by decide +kernel
theorem dX0_guess_1 : decode cX0_guess 1 = .ok (.dstore_n 2, 1) := by decide +kernel
theorem dX0_guess_2 : decode cX0_guess 2 = .ok (.iconst 0, 1) := by decide +kernel
theorem dX0_guess_3 : decode cX0_guess 3 = .ok (.istore 4, 2) := by decide +kernel
theorem dX0_guess_5 : decode cX0_guess 5 = .ok (.aload_n 0, 1) := by decide +kernel
theorem dX0_guess_6 : decode cX0_guess 6 = .ok (.getfield 9, 3) := by decide +kernel
theorem dX0_guess_9 : decode cX0_guess 9 = .ok (.iconst 1, 1) := by decide +kernel
theorem dX0_guess_10 : decode cX0_guess 10 = .ok (.isub, 1) := by decide +kernel
theorem dX0_guess_11 : decode cX0_guess 11 = .ok (.istore 5, 2) := by decide +kernel
theorem dX0_guess_13 : decode cX0_guess 13 = .ok (.iload 5, 2) := by decide +kernel
theorem dX0_guess_15 : decode cX0_guess 15 = .ok (.ifCond .lt 46, 3) := by decide +kernel
theorem dX0_guess_18 : decode cX0_guess 18 = .ok (.iload 4, 2) := by decide +kernel
theorem dX0_guess_20 : decode cX0_guess 20 = .ok (.iconst 2, 1) := by decide +kernel
theorem dX0_guess_21 : decode cX0_guess 21 = .ok (.if_icmp .ge 40, 3) := by decide +kernel
theorem dX0_guess_24 : decode cX0_guess 24 = .ok (.iload_n 1, 1) := by decide +kernel
theorem dX0_guess_25 : decode cX0_guess 25 = .ok (.iload 5, 2) := by decide +kernel
theorem dX0_guess_27 : decode cX0_guess 27 = .ok (.invokestatic 41, 3) := by decide +kernel
theorem dX0_guess_30 : decode cX0_guess 30 = .ok (.istore 6, 2) := by decide +kernel
theorem dX0_guess_32 : decode cX0_guess 32 = .ok (.aload_n 0, 1) := by decide +kernel
theorem dX0_guess_33 : decode cX0_guess 33 = .ok (.getfield 25, 3) := by decide +kernel
theorem dX0_guess_36 : decode cX0_guess 36 = .ok (.iload 6, 2) := by decide +kernel
theorem dX0_guess_38 : decode cX0_guess 38 = .ok (.baload, 1) := by decide +kernel
theorem dX0_guess_39 : decode cX0_guess 39 = .ok (.ifCond .eq 16, 3) := by decide +kernel
theorem dX0_guess_42 : decode cX0_guess 42 = .ok (.dload_n 2, 1) := by decide +kernel
theorem dX0_guess_43 : decode cX0_guess 43 = .ok (.aload_n 0, 1) := by decide +kernel
theorem dX0_guess_44 : decode cX0_guess 44 = .ok (.getfield 22, 3) := by decide +kernel
theorem dX0_guess_47 : decode cX0_guess 47 = .ok (.iload 6, 2) := by decide +kernel
theorem dX0_guess_49 : decode cX0_guess 49 = .ok (.daload, 1) := by decide +kernel
theorem dX0_guess_50 : decode cX0_guess 50 = .ok (.dadd, 1) := by decide +kernel
theorem dX0_guess_51 : decode cX0_guess 51 = .ok (.dstore_n 2, 1) := by decide +kernel
theorem dX0_guess_52 : decode cX0_guess 52 = .ok (.iinc 4 1, 3) := by decide +kernel
theorem dX0_guess_55 : decode cX0_guess 55 = .ok (.iinc 5 (-1), 3) := by decide +kernel
theorem dX0_guess_58 : decode cX0_guess 58 = .ok (.goto (-45), 3) := by decide +kernel
theorem dX0_guess_61 : decode cX0_guess 61 = .ok (.iload 4, 2) := by decide +kernel
theorem dX0_guess_63 : decode cX0_guess 63 = .ok (.iconst 2, 1) := by decide +kernel
theorem dX0_guess_64 : decode cX0_guess 64 = .ok (.if_icmp .ne 11, 3) := by decide +kernel
theorem dX0_guess_67 : decode cX0_guess 67 = .ok (.dload_n 2, 1) := by decide +kernel
theorem dX0_guess_68 : decode cX0_guess 68 = .ok (.ldc2_w 45, 3) := by decide +kernel
theorem dX0_guess_71 : decode cX0_guess 71 = .ok (.ddiv, 1) := by decide +kernel
theorem dX0_guess_72 : decode cX0_guess 72 = .ok (.goto 4, 3) := by decide +kernel
theorem dX0_guess_75 : decode cX0_guess 75 = .ok (.dload_n 2, 1) := by decide +kernel
theorem dX0_guess_76 : decode cX0_guess 76 = .ok (.dreturn, 1) := by decide +kernel
set_option maxRecDepth 20000 in
theorem ggX1_init_X0_init : GoodIn wsX1_init wsX0_init := goodIn_r _ [24, 25, 2, 3, 26, 9, 27, 28, 29, 6, 30, 31, 32, 33, 34, 47, 48, 49, 50, 51, 52, 53, 54, 55] (by decide +kernel) (by decide +kernel)
set_option maxRecDepth 20000 in
theorem gX1_init_X0_init_n32 : GoodIn wsX1_init (wsX0_init) := ggX1_init_X0_init
theorem dX1_init_0 : decode cX1_init 0 = .ok (.aload_n 0, 1) := by decide +kernel
theorem dX1_init_1 : decode cX1_init 1 = .ok (.invokespecial 1, 3) := by decide +kernel
theorem dX1_init_4 : decode cX1_init 4 = .ok (.aload_n 0, 1) := by decide +kernel
theorem dX1_init_5 : decode cX1_init 5 = .ok (.iconst 5, 1) := by decide +kernel
theorem dX1_init_6 : decode cX1_init 6 = .ok (.newarray .int, 2) := by decide +kernel
theorem dX1_init_8 : decode cX1_init 8 = .ok (.putfield 9, 3) := by decide +kernel
theorem dX1_init_11 : decode cX1_init 11 = .ok (.aload_n 0, 1) := by decide +kernel
theorem dX1_init_12 : decode cX1_init 12 = .ok (.iconst 5, 1) := by decide +kernel
theorem dX1_init_13 : decode cX1_init 13 = .ok (.newarray .boolean, 2) := by decide +kernel
theorem dX1_init_15 : decode cX1_init 15 = .ok (.putfield 13, 3) := by decide +kernel
theorem dX1_init_18 : decode cX1_init 18 = .ok (.aload_n 0, 1) := by decide +kernel
theorem dX1_init_19 : decode cX1_init 19 = .ok (.iconst 5, 1) := by decide +kernel
theorem dX1_init_20 : decode cX1_init 20 = .ok (.newarray .int, 2) := by decide +kernel
theorem dX1_init_22 : decode cX1_init 22 = .ok (.putfield 17, 3) := by decide +kernel
theorem dX1_init_25 : decode cX1_init 25 = .ok (.aload_n 0, 1) := by decide +kernel
theorem dX1_init_26 : decode cX1_init 26 = .ok (.iconst 5, 1) := by decide +kernel
theorem dX1_init_27 : decode cX1_init 27 = .ok (.newarray .double, 2) := by decide +kernel
theorem dX1_init_29 : decode cX1_init 29 = .ok (.putfield 20, 3) := by decide +kernel
theorem dX1_init_32 : decode cX1_init 32 = .ok (.aload_n 0, 1) := by decide +kernel
theorem dX1_init_33 : decode cX1_init 33 = .ok (.iconst 5, 1) := by decide +kernel
theorem dX1_init_34 : decode cX1_init 34 = .ok (.newarray .boolean, 2) := by decide +kernel
theorem dX1_init_36 : decode cX1_init 36 = .ok (.putfield 24, 3) := by decide +kernel
theorem dX1_init_39 : decode cX1_init 39 = .ok (.aload_n 0, 1) := by decide +kernel
theorem dX1_init_40 : decode cX1_init 40 = .ok (.iconst 5, 1) := by decide +kernel
theorem dX1_init_41 : decode cX1_init 41 = .ok (.newarray .int, 2) := by decide +kernel
theorem dX1_init_43 : decode cX1_init 43 = .ok (.putfield 27, 3) := by decide +kernel
theorem dX1_init_46 : decode cX1_init 46 = .ok (.aload_n 0, 1) := by decide +kernel
theorem dX1_init_47 : decode cX1_init 47 = .ok (.new 30, 3) := by decide +kernel
theorem dX1_init_50 : decode cX1_init 50 = .ok (.dup, 1) := by decide +kernel
theorem dX1_init_51 : decode cX1_init 51 = .ok (.invokespecial 32, 3) := by decide +kernel
theorem dX1_init_54 : decode cX1_init 54 = .ok (.putfield 33, 3) := by decide +kernel
theorem dX1_init_57 : decode cX1_init 57 = .ok (.aload_n 0, 1) := by decide +kernel
theorem dX1_init_58 : decode cX1_init 58 = .ok (.ldc2_w 37, 3) := by decide +kernel
theorem dX1_init_61 : decode cX1_init 61 = .ok (.putfield 39, 3) := by decide +kernel
theorem dX1_init_64 : decode cX1_init 64 = .ok (.aload_n 0, 1) := by decide +kernel
theorem dX1_init_65 : decode cX1_init 65 = .ok (.dconst 0, 1) := by decide +kernel
theorem dX1_init_66 : decode cX1_init 66 = .ok (.putfield 43, 3) := by decide +kernel
theorem dX1_init_69 : decode cX1_init 69 = .ok (.aload_n 0, 1) := by decide +kernel
theorem dX1_init_70 : decode cX1_init 70 = .ok (.iconst 0, 1) := by decide +kernel
theorem dX1_init_71 : decode cX1_init 71 = .ok (.putfield 46, 3) := by decide +kernel
theorem dX1_init_74 : decode cX1_init 74 = .ok (.aload_n 0, 1) := by decide +kernel
theorem dX1_init_75 : decode cX1_init 75 = .ok (.iconst 5, 1) := by decide +kernel
theorem dX1_init_76 : decode cX1_init 76 = .ok (.newarray .double, 2) := by decide +kernel
theorem dX1_init_78 : decode cX1_init 78 = .ok (.putfield 50, 3) := by decide +kernel
theorem dX1_init_81 : decode cX1_init 81 = .ok (.aload_n 0, 1) := by decide +kernel
theorem dX1_init_82 : decode cX1_init 82 = .ok (.dconst 0, 1) := by decide +kernel
theorem dX1_init_83 : decode cX1_init 83 = .ok (.putfield 53, 3) := by decide +kernel
theorem dX1_init_86 : decode cX1_init 86 = .ok (.iconst 0, 1) := by decide +kernel
theorem dX1_init_87 : decode cX1_init 87 = .ok (.istore_n 1, 1) := by decide +kernel
theorem dX1_init_88 : decode cX1_init 88 = .ok (.iload_n 1, 1) := by decide +kernel
theorem dX1_init_89 : decode cX1_init 89 = .ok (.iconst 5, 1) := by decide +kernel
theorem dX1_init_90 : decode cX1_init 90 = .ok (.if_icmp .ge 16, 3) := by decide +kernel
theorem dX1_init_93 : decode cX1_init 93 = .ok (.aload_n 0, 1) := by decide +kernel
theorem dX1_init_94 : decode cX1_init 94 = .ok (.getfield 13, 3) := by decide +kernel
theorem dX1_init_97 : decode cX1_init 97 = .ok (.iload_n 1, 1) := by decide +kernel
theorem dX1_init_98 : decode cX1_init 98 = .ok (.iconst 1, 1) := by decide +kernel
theorem dX1_init_99 : decode cX1_init 99 = .ok (.bastore, 1) := by decide +kernel
theorem dX1_init_100 : decode cX1_init 100 = .ok (.iinc 1 1, 3) := by decide +kernel
theorem dX1_init_103 : decode cX1_init 103 = .ok (.goto (-15), 3) := by decide +kernel
theorem dX1_init_106 : decode cX1_init 106 = .ok (.return_, 1) := by decide +kernel
set_option maxRecDepth 20000 in
theorem ggX1_setShare_X1_requireOwner : GoodIn wsX1_setShare wsX1_requireOwner := goodIn_ca (goodIn_r _ [7, 8, 9] (by decide +kernel) (by decide +kernel)) (goodIn_sub (fun _ h => List.mem_cons_of_mem _ (List.mem_append_right _ h)) (by decide +kernel))
set_option maxRecDepth 20000 in
theorem gX1_setShare_X1_requireOwner : GoodIn wsX1_setShare (va_wsS RX1 56 yX1_requireOwner wsX1_requireOwner) := goodIn_app (goodIn_of _ (by decide +kernel)) ggX1_setShare_X1_requireOwner
set_option maxRecDepth 20000 in
theorem ggX1_setShare_X1_requireWithin : GoodIn wsX1_setShare wsX1_requireWithin := goodIn_ca (goodIn_r _ [12, 8, 9] (by decide +kernel) (by decide +kernel)) (goodIn_sub (fun _ h => List.mem_cons_of_mem _ (List.mem_append_right _ h)) (by decide +kernel))
set_option maxRecDepth 20000 in
theorem gX1_setShare_X1_requireWithin : GoodIn wsX1_setShare (va_wsS RX1 60 yX1_requireWithin wsX1_requireWithin) := goodIn_app (goodIn_of _ (by decide +kernel)) ggX1_setShare_X1_requireWithin
set_option maxRecDepth 20000 in
theorem ggX1_setShare_X1_sumOfShares : GoodIn wsX1_setShare wsX1_sumOfShares := goodIn_r _ [16, 3, 17, 18, 19, 20, 21, 22, 23, 24, 25, 26, 27, 28] (by decide +kernel) (by decide +kernel)
set_option maxRecDepth 20000 in
theorem gX1_setShare_X1_sumOfShares : GoodIn wsX1_setShare (wsV RX1 64 RX1 yX1_sumOfShares wsX1_sumOfShares) := goodIn_app (goodIn_of _ (by decide +kernel)) ggX1_setShare_X1_sumOfShares
theorem dX1_setShare_0 : decode cX1_setShare 0 = .ok (.iload_n 1, 1) := by decide +kernel
theorem dX1_setShare_1 : decode cX1_setShare 1 = .ok (.invokestatic 56, 3) := by decide +kernel
theorem dX1_setShare_4 : decode cX1_setShare 4 = .ok (.iload_n 2, 1) := by decide +kernel
theorem dX1_setShare_5 : decode cX1_setShare 5 = .ok (.iconst 0, 1) := by decide +kernel
theorem dX1_setShare_6 : decode cX1_setShare 6 = .ok (.iconst 4, 1) := by decide +kernel
theorem dX1_setShare_7 : decode cX1_setShare 7 = .ok (.invokestatic 60, 3) := by decide +kernel
theorem dX1_setShare_10 : decode cX1_setShare 10 = .ok (.aload_n 0, 1) := by decide +kernel
theorem dX1_setShare_11 : decode cX1_setShare 11 = .ok (.getfield 9, 3) := by decide +kernel
theorem dX1_setShare_14 : decode cX1_setShare 14 = .ok (.iload_n 1, 1) := by decide +kernel
theorem dX1_setShare_15 : decode cX1_setShare 15 = .ok (.iaload, 1) := by decide +kernel
theorem dX1_setShare_16 : decode cX1_setShare 16 = .ok (.istore_n 3, 1) := by decide +kernel
theorem dX1_setShare_17 : decode cX1_setShare 17 = .ok (.aload_n 0, 1) := by decide +kernel
theorem dX1_setShare_18 : decode cX1_setShare 18 = .ok (.invokevirtual 64, 3) := by decide +kernel
theorem dX1_setShare_21 : decode cX1_setShare 21 = .ok (.iload_n 3, 1) := by decide +kernel
theorem dX1_setShare_22 : decode cX1_setShare 22 = .ok (.isub, 1) := by decide +kernel
theorem dX1_setShare_23 : decode cX1_setShare 23 = .ok (.iload_n 2, 1) := by decide +kernel
theorem dX1_setShare_24 : decode cX1_setShare 24 = .ok (.iadd, 1) := by decide +kernel
theorem dX1_setShare_25 : decode cX1_setShare 25 = .ok (.iconst 4, 1) := by decide +kernel
theorem dX1_setShare_26 : decode cX1_setShare 26 = .ok (.if_icmp .le 13, 3) := by decide +kernel
theorem dX1_setShare_29 : decode cX1_setShare 29 = .ok (.new 68, 3) := by decide +kernel
theorem dX1_setShare_32 : decode cX1_setShare 32 = .ok (.dup, 1) := by decide +kernel
theorem dX1_setShare_33 : decode cX1_setShare 33 = .ok (.ldc 70, 2) := by decide +kernel
theorem dX1_setShare_35 : decode cX1_setShare 35 = .ok (.invokespecial 72, 3) := by decide +kernel
theorem dX1_setShare_38 : decode cX1_setShare 38 = .ok (.athrow, 1) := by decide +kernel
theorem dX1_setShare_39 : decode cX1_setShare 39 = .ok (.aload_n 0, 1) := by decide +kernel
theorem dX1_setShare_40 : decode cX1_setShare 40 = .ok (.getfield 9, 3) := by decide +kernel
theorem dX1_setShare_43 : decode cX1_setShare 43 = .ok (.iload_n 1, 1) := by decide +kernel
theorem dX1_setShare_44 : decode cX1_setShare 44 = .ok (.iload_n 2, 1) := by decide +kernel
theorem dX1_setShare_45 : decode cX1_setShare 45 = .ok (.iastore, 1) := by decide +kernel
theorem dX1_setShare_46 : decode cX1_setShare 46 = .ok (.iload_n 3, 1) := by decide +kernel
theorem dX1_setShare_47 : decode cX1_setShare 47 = .ok (.ireturn, 1) := by decide +kernel
set_option maxRecDepth 20000 in
theorem ggX1_setSwitch_X1_requireOwner : GoodIn wsX1_setSwitch wsX1_requireOwner := goodIn_ca (goodIn_r _ [5, 6, 7] (by decide +kernel) (by decide +kernel)) (goodIn_sub (fun _ h => List.mem_cons_of_mem _ (List.mem_append_right _ h)) (by decide +kernel))
set_option maxRecDepth 20000 in
theorem gX1_setSwitch_X1_requireOwner : GoodIn wsX1_setSwitch (va_wsS RX1 56 yX1_requireOwner wsX1_requireOwner) := goodIn_app (goodIn_of _ (by decide +kernel)) ggX1_setSwitch_X1_requireOwner
theorem dX1_setSwitch_0 : decode cX1_setSwitch 0 = .ok (.iload_n 1, 1) := by decide +kernel
theorem dX1_setSwitch_1 : decode cX1_setSwitch 1 = .ok (.invokestatic 56, 3) := by decide +kernel
theorem dX1_setSwitch_4 : decode cX1_setSwitch 4 = .ok (.aload_n 0, 1) := by decide +kernel
theorem dX1_setSwitch_5 : decode cX1_setSwitch 5 = .ok (.getfield 13, 3) := by decide +kernel
theorem dX1_setSwitch_8 : decode cX1_setSwitch 8 = .ok (.iload_n 1, 1) := by decide +kernel
theorem dX1_setSwitch_9 : decode cX1_setSwitch 9 = .ok (.baload, 1) := by decide +kernel
theorem dX1_setSwitch_10 : decode cX1_setSwitch 10 = .ok (.istore_n 3, 1) := by decide +kernel
theorem dX1_setSwitch_11 : decode cX1_setSwitch 11 = .ok (.aload_n 0, 1) := by decide +kernel
theorem dX1_setSwitch_12 : decode cX1_setSwitch 12 = .ok (.getfield 13, 3) := by decide +kernel
theorem dX1_setSwitch_15 : decode cX1_setSwitch 15 = .ok (.iload_n 1, 1) := by decide +kernel
theorem dX1_setSwitch_16 : decode cX1_setSwitch 16 = .ok (.iload_n 2, 1) := by decide +kernel
theorem dX1_setSwitch_17 : decode cX1_setSwitch 17 = .ok (.bastore, 1) := by decide +kernel
theorem dX1_setSwitch_18 : decode cX1_setSwitch 18 = .ok (.iload_n 3, 1) := by decide +kernel
theorem dX1_setSwitch_19 : decode cX1_setSwitch 19 = .ok (.ireturn, 1) := by decide +kernel
set_option maxRecDepth 20000 in
theorem ggX1_setPrice_X1_requireWithin : GoodIn wsX1_setPrice wsX1_requireWithin := goodIn_ca (goodIn_r _ [6, 7, 8] (by decide +kernel) (by decide +kernel)) (goodIn_sub (fun _ h => List.mem_cons_of_mem _ (List.mem_append_right _ h)) (by decide +kernel))
set_option maxRecDepth 20000 in
theorem gX1_setPrice_X1_requireWithin : GoodIn wsX1_setPrice (va_wsS RX1 60 yX1_requireWithin wsX1_requireWithin) := goodIn_app (goodIn_of _ (by decide +kernel)) ggX1_setPrice_X1_requireWithin
theorem dX1_setPrice_0 : decode cX1_setPrice 0 = .ok (.iload_n 1, 1) := by decide +kernel
theorem dX1_setPrice_1 : decode cX1_setPrice 1 = .ok (.iconst 1, 1) := by decide +kernel
theorem dX1_setPrice_2 : decode cX1_setPrice 2 = .ok (.iconst 4, 1) := by decide +kernel
theorem dX1_setPrice_3 : decode cX1_setPrice 3 = .ok (.invokestatic 60, 3) := by decide +kernel
theorem dX1_setPrice_6 : decode cX1_setPrice 6 = .ok (.aload_n 0, 1) := by decide +kernel
theorem dX1_setPrice_7 : decode cX1_setPrice 7 = .ok (.iload_n 1, 1) := by decide +kernel
theorem dX1_setPrice_8 : decode cX1_setPrice 8 = .ok (.i2d, 1) := by decide +kernel
theorem dX1_setPrice_9 : decode cX1_setPrice 9 = .ok (.ldc2_w 75, 3) := by decide +kernel
theorem dX1_setPrice_12 : decode cX1_setPrice 12 = .ok (.ddiv, 1) := by decide +kernel
theorem dX1_setPrice_13 : decode cX1_setPrice 13 = .ok (.putfield 39, 3) := by decide +kernel
theorem dX1_setPrice_16 : decode cX1_setPrice 16 = .ok (.aload_n 0, 1) := by decide +kernel
theorem dX1_setPrice_17 : decode cX1_setPrice 17 = .ok (.getfield 39, 3) := by decide +kernel
theorem dX1_setPrice_20 : decode cX1_setPrice 20 = .ok (.dreturn, 1) := by decide +kernel
set_option maxRecDepth 20000 in
theorem ggX1_tell_X1_requireOwner : GoodIn wsX1_tell wsX1_requireOwner := goodIn_ca (goodIn_r _ [6, 7, 8] (by decide +kernel) (by decide +kernel)) (goodIn_sub (fun _ h => List.mem_cons_of_mem _ (List.mem_append_right _ h)) (by decide +kernel))
set_option maxRecDepth 20000 in
theorem gX1_tell_X1_requireOwner : GoodIn wsX1_tell (va_wsS RX1 56 yX1_requireOwner wsX1_requireOwner) := goodIn_app (goodIn_of _ (by decide +kernel)) ggX1_tell_X1_requireOwner
set_option maxRecDepth 20000 in
theorem ggX1_tell_X1_requireWithin : GoodIn wsX1_tell wsX1_requireWithin := goodIn_ca (goodIn_r _ [11, 7, 8] (by decide +kernel) (by decide +kernel)) (goodIn_sub (fun _ h => List.mem_cons_of_mem _ (List.mem_append_right _ h)) (by decide +kernel))
set_option maxRecDepth 20000 in
theorem gX1_tell_X1_requireWithin : GoodIn wsX1_tell (va_wsS RX1 60 yX1_requireWithin wsX1_requireWithin) := goodIn_app (goodIn_of _ (by decide +kernel)) ggX1_tell_X1_requireWithin
theorem dX1_tell_0 : decode cX1_tell 0 = .ok (.iload_n 1, 1) := by decide +kernel
theorem dX1_tell_1 : decode cX1_tell 1 = .ok (.invokestatic 56, 3) := by decide +kernel
theorem dX1_tell_4 : decode cX1_tell 4 = .ok (.iload_n 2, 1) := by decide +kernel
theorem dX1_tell_5 : decode cX1_tell 5 = .ok (.iconst 0, 1) := by decide +kernel
theorem dX1_tell_6 : decode cX1_tell 6 = .ok (.bipush 50, 2) := by decide +kernel
theorem dX1_tell_8 : decode cX1_tell 8 = .ok (.invokestatic 60, 3) := by decide +kernel
theorem dX1_tell_11 : decode cX1_tell 11 = .ok (.aload_n 0, 1) := by decide +kernel
theorem dX1_tell_12 : decode cX1_tell 12 = .ok (.getfield 24, 3) := by decide +kernel
theorem dX1_tell_15 : decode cX1_tell 15 = .ok (.iload_n 1, 1) := by decide +kernel
theorem dX1_tell_16 : decode cX1_tell 16 = .ok (.baload, 1) := by decide +kernel
theorem dX1_tell_17 : decode cX1_tell 17 = .ok (.istore_n 3, 1) := by decide +kernel
theorem dX1_tell_18 : decode cX1_tell 18 = .ok (.aload_n 0, 1) := by decide +kernel
theorem dX1_tell_19 : decode cX1_tell 19 = .ok (.getfield 24, 3) := by decide +kernel
theorem dX1_tell_22 : decode cX1_tell 22 = .ok (.iload_n 1, 1) := by decide +kernel
theorem dX1_tell_23 : decode cX1_tell 23 = .ok (.iconst 1, 1) := by decide +kernel
theorem dX1_tell_24 : decode cX1_tell 24 = .ok (.bastore, 1) := by decide +kernel
theorem dX1_tell_25 : decode cX1_tell 25 = .ok (.aload_n 0, 1) := by decide +kernel
theorem dX1_tell_26 : decode cX1_tell 26 = .ok (.getfield 27, 3) := by decide +kernel
theorem dX1_tell_29 : decode cX1_tell 29 = .ok (.iload_n 1, 1) := by decide +kernel
theorem dX1_tell_30 : decode cX1_tell 30 = .ok (.iload_n 2, 1) := by decide +kernel
theorem dX1_tell_31 : decode cX1_tell 31 = .ok (.iastore, 1) := by decide +kernel
theorem dX1_tell_32 : decode cX1_tell 32 = .ok (.iload_n 3, 1) := by decide +kernel
theorem dX1_tell_33 : decode cX1_tell 33 = .ok (.ireturn, 1) := by decide +kernel
set_option maxRecDepth 20000 in
theorem ggX1_close_X1_requireWithin : GoodIn wsX1_close wsX1_requireWithin := goodIn_ca (goodIn_r _ [11, 12, 13] (by decide +kernel) (by decide +kernel)) (goodIn_sub (fun _ h => List.mem_cons_of_mem _ (List.mem_append_right _ h)) (by decide +kernel))
set_option maxRecDepth 20000 in
theorem gX1_close_X1_requireWithin : GoodIn wsX1_close (va_wsS RX1 60 yX1_requireWithin wsX1_requireWithin) := goodIn_app (goodIn_of _ (by decide +kernel)) ggX1_close_X1_requireWithin
set_option maxRecDepth 20000 in
theorem ggX1_close_X1_writeUses : GoodIn wsX1_close wsX1_writeUses := goodIn_r _ [17, 18, 19, 3, 20, 21, 22, 23, 24, 25, 26, 27, 28, 29, 30, 31, 32, 33, 34, 35, 105, 106, 107, 108, 109, 110, 111, 112, 113, 114, 115, 116, 117, 118, 119, 120, 121, 122, 123, 124, 125] (by decide +kernel) (by decide +kernel)
set_option maxRecDepth 20000 in
theorem gX1_close_X1_writeUses : GoodIn wsX1_close (wsV RX1 84 RX1 yX1_writeUses wsX1_writeUses) := goodIn_app (goodIn_of _ (by decide +kernel)) ggX1_close_X1_writeUses
set_option maxRecDepth 20000 in
theorem ggX1_close_X1_shedUntilCarried : GoodIn wsX1_close wsX1_shedUntilCarried := goodIn_r _ [39, 22, 40, 41, 42, 43, 10, 44, 45, 46, 47, 48, 49, 50, 51, 52, 53, 54, 105, 106, 107, 108, 109, 110, 111, 112, 113, 114, 115, 116] (by decide +kernel) (by decide +kernel)
set_option maxRecDepth 20000 in
theorem gX1_close_X1_shedUntilCarried : GoodIn wsX1_close (wsV RX1 87 RX1 yX1_shedUntilCarried wsX1_shedUntilCarried) := goodIn_app (goodIn_of _ (by decide +kernel)) ggX1_close_X1_shedUntilCarried
set_option maxRecDepth 20000 in
theorem ggX1_close_X1_isOverLine : GoodIn wsX1_close wsX1_isOverLine := goodIn_r _ [49, 50, 51, 52, 53, 10, 54, 22, 105, 106, 107, 108, 109, 110, 111, 112, 113, 114, 115, 116] (by decide +kernel) (by decide +kernel)
set_option maxRecDepth 20000 in
theorem gX1_close_X1_isOverLine : GoodIn wsX1_close (wsV RX1 90 RX1 yX1_isOverLine wsX1_isOverLine) := goodIn_app (goodIn_of _ (by decide +kernel)) ggX1_close_X1_isOverLine
set_option maxRecDepth 20000 in
theorem ggX1_close_X1_writeUsed : GoodIn wsX1_close wsX1_writeUsed := goodIn_r _ [58, 3, 59, 22, 23, 24, 25, 26, 105, 106, 107, 108, 109, 110, 111, 112, 113, 114, 115, 116, 117, 118, 119, 120, 121, 122, 123, 124, 125] (by decide +kernel) (by decide +kernel)
set_option maxRecDepth 20000 in
theorem gX1_close_X1_writeUsed : GoodIn wsX1_close (wsV RX1 94 RX1 yX1_writeUsed wsX1_writeUsed) := goodIn_app (goodIn_of _ (by decide +kernel)) ggX1_close_X1_writeUsed
set_option maxRecDepth 20000 in
theorem ggX1_close_X1_giveByShare : GoodIn wsX1_close wsX1_giveByShare := goodIn_r _ [63, 64, 65, 22, 7, 66, 67, 10, 68, 69, 70, 71, 72, 3, 73, 23, 24, 25, 26, 105, 106, 107, 108, 109, 110, 111, 112, 113, 114, 115, 116, 117, 118, 119, 120, 121, 122, 123, 124, 125] (by decide +kernel) (by decide +kernel)
set_option maxRecDepth 20000 in
theorem gX1_close_X1_giveByShare : GoodIn wsX1_close (wsV RX1 97 RX1 yX1_giveByShare wsX1_giveByShare) := goodIn_app (goodIn_of _ (by decide +kernel)) ggX1_close_X1_giveByShare
set_option maxRecDepth 20000 in
theorem ggX1_close_X1_giveByNeed : GoodIn wsX1_close wsX1_giveByNeed := goodIn_r _ [77, 7, 22, 51, 52, 53, 10, 54, 69, 70, 71, 72, 3, 73, 23, 24, 25, 26, 105, 106, 107, 108, 109, 110, 111, 112, 113, 114, 115, 116, 117, 118, 119, 120, 121, 122, 123, 124, 125] (by decide +kernel) (by decide +kernel)
set_option maxRecDepth 20000 in
theorem gX1_close_X1_giveByNeed : GoodIn wsX1_close (wsV RX1 101 RX1 yX1_giveByNeed wsX1_giveByNeed) := goodIn_app (goodIn_of _ (by decide +kernel)) ggX1_close_X1_giveByNeed
set_option maxRecDepth 20000 in
theorem ggX1_close_X1_storeOrSell : GoodIn wsX1_close wsX1_storeOrSell := goodIn_r _ [81, 82, 83, 7, 3, 84, 105, 106, 107, 108, 109, 110, 111, 112, 113, 114, 115, 116, 117, 118, 119, 120, 121, 122, 123, 124, 125] (by decide +kernel) (by decide +kernel)
set_option maxRecDepth 20000 in
theorem gX1_close_X1_storeOrSell : GoodIn wsX1_close (wsV RX1 104 RX1 yX1_storeOrSell wsX1_storeOrSell) := goodIn_app (goodIn_of _ (by decide +kernel)) ggX1_close_X1_storeOrSell
set_option maxRecDepth 20000 in
theorem ggX1_close_X1_giveFromBattery : GoodIn wsX1_close wsX1_giveFromBattery := goodIn_r _ [88, 89, 22, 83, 3, 90, 66, 67, 10, 68, 23, 24, 25, 26, 91, 92, 93, 94, 95, 96, 97, 105, 106, 107, 108, 109, 110, 111, 112, 113, 114, 115, 116, 117, 118, 119, 120, 121, 122, 123, 124, 125] (by decide +kernel) (by decide +kernel)
set_option maxRecDepth 20000 in
theorem gX1_close_X1_giveFromBattery : GoodIn wsX1_close (wsV RX1 107 RX1 yX1_giveFromBattery wsX1_giveFromBattery) := goodIn_app (goodIn_of _ (by decide +kernel)) ggX1_close_X1_giveFromBattery
set_option maxRecDepth 20000 in
theorem ggX1_close_X1_writeBills : GoodIn wsX1_close wsX1_writeBills := goodIn_r _ [101, 3, 84, 6, 102, 103, 22, 104, 23, 24, 25, 26, 105, 106, 107, 108, 109, 110, 111, 112, 113, 114, 115, 116, 117, 118, 119, 120, 121, 122, 123, 124, 125] (by decide +kernel) (by decide +kernel)
set_option maxRecDepth 20000 in
theorem gX1_close_X1_writeBills : GoodIn wsX1_close (wsV RX1 110 RX1 yX1_writeBills wsX1_writeBills) := goodIn_app (goodIn_of _ (by decide +kernel)) ggX1_close_X1_writeBills
theorem dX1_close_0 : decode cX1_close 0 = .ok (.iload_n 1, 1) := by decide +kernel
theorem dX1_close_1 : decode cX1_close 1 = .ok (.iconst 0, 1) := by decide +kernel
theorem dX1_close_2 : decode cX1_close 2 = .ok (.bipush 100, 2) := by decide +kernel
theorem dX1_close_4 : decode cX1_close 4 = .ok (.invokestatic 60, 3) := by decide +kernel
theorem dX1_close_7 : decode cX1_close 7 = .ok (.aload_n 0, 1) := by decide +kernel
theorem dX1_close_8 : decode cX1_close 8 = .ok (.getfield 33, 3) := by decide +kernel
theorem dX1_close_11 : decode cX1_close 11 = .ok (.getfield 77, 3) := by decide +kernel
theorem dX1_close_14 : decode cX1_close 14 = .ok (.istore_n 2, 1) := by decide +kernel
theorem dX1_close_15 : decode cX1_close 15 = .ok (.iload_n 2, 1) := by decide +kernel
theorem dX1_close_16 : decode cX1_close 16 = .ok (.bipush 60, 2) := by decide +kernel
theorem dX1_close_18 : decode cX1_close 18 = .ok (.if_icmp .lt 13, 3) := by decide +kernel
theorem dX1_close_21 : decode cX1_close 21 = .ok (.new 68, 3) := by decide +kernel
theorem dX1_close_24 : decode cX1_close 24 = .ok (.dup, 1) := by decide +kernel
theorem dX1_close_25 : decode cX1_close 25 = .ok (.ldc 80, 2) := by decide +kernel
theorem dX1_close_27 : decode cX1_close 27 = .ok (.invokespecial 72, 3) := by decide +kernel
theorem dX1_close_30 : decode cX1_close 30 = .ok (.athrow, 1) := by decide +kernel
theorem dX1_close_31 : decode cX1_close 31 = .ok (.aload_n 0, 1) := by decide +kernel
theorem dX1_close_32 : decode cX1_close 32 = .ok (.getfield 33, 3) := by decide +kernel
theorem dX1_close_35 : decode cX1_close 35 = .ok (.getfield 82, 3) := by decide +kernel
theorem dX1_close_38 : decode cX1_close 38 = .ok (.iload_n 2, 1) := by decide +kernel
theorem dX1_close_39 : decode cX1_close 39 = .ok (.aload_n 0, 1) := by decide +kernel
theorem dX1_close_40 : decode cX1_close 40 = .ok (.getfield 39, 3) := by decide +kernel
theorem dX1_close_43 : decode cX1_close 43 = .ok (.dastore, 1) := by decide +kernel
theorem dX1_close_44 : decode cX1_close 44 = .ok (.aload_n 0, 1) := by decide +kernel
theorem dX1_close_45 : decode cX1_close 45 = .ok (.iload_n 2, 1) := by decide +kernel
theorem dX1_close_46 : decode cX1_close 46 = .ok (.invokevirtual 84, 3) := by decide +kernel
theorem dX1_close_49 : decode cX1_close 49 = .ok (.aload_n 0, 1) := by decide +kernel
theorem dX1_close_50 : decode cX1_close 50 = .ok (.invokevirtual 87, 3) := by decide +kernel
theorem dX1_close_53 : decode cX1_close 53 = .ok (.aload_n 0, 1) := by decide +kernel
theorem dX1_close_54 : decode cX1_close 54 = .ok (.invokevirtual 90, 3) := by decide +kernel
theorem dX1_close_57 : decode cX1_close 57 = .ok (.istore_n 3, 1) := by decide +kernel
theorem dX1_close_58 : decode cX1_close 58 = .ok (.aload_n 0, 1) := by decide +kernel
theorem dX1_close_59 : decode cX1_close 59 = .ok (.iload_n 2, 1) := by decide +kernel
theorem dX1_close_60 : decode cX1_close 60 = .ok (.invokevirtual 94, 3) := by decide +kernel
theorem dX1_close_63 : decode cX1_close 63 = .ok (.aload_n 0, 1) := by decide +kernel
theorem dX1_close_64 : decode cX1_close 64 = .ok (.iload_n 1, 1) := by decide +kernel
theorem dX1_close_65 : decode cX1_close 65 = .ok (.i2d, 1) := by decide +kernel
theorem dX1_close_66 : decode cX1_close 66 = .ok (.putfield 53, 3) := by decide +kernel
theorem dX1_close_69 : decode cX1_close 69 = .ok (.aload_n 0, 1) := by decide +kernel
theorem dX1_close_70 : decode cX1_close 70 = .ok (.iload_n 2, 1) := by decide +kernel
theorem dX1_close_71 : decode cX1_close 71 = .ok (.iload_n 1, 1) := by decide +kernel
theorem dX1_close_72 : decode cX1_close 72 = .ok (.invokevirtual 97, 3) := by decide +kernel
theorem dX1_close_75 : decode cX1_close 75 = .ok (.aload_n 0, 1) := by decide +kernel
theorem dX1_close_76 : decode cX1_close 76 = .ok (.iload_n 2, 1) := by decide +kernel
theorem dX1_close_77 : decode cX1_close 77 = .ok (.invokevirtual 101, 3) := by decide +kernel
theorem dX1_close_80 : decode cX1_close 80 = .ok (.aload_n 0, 1) := by decide +kernel
theorem dX1_close_81 : decode cX1_close 81 = .ok (.iload_n 2, 1) := by decide +kernel
theorem dX1_close_82 : decode cX1_close 82 = .ok (.invokevirtual 104, 3) := by decide +kernel
theorem dX1_close_85 : decode cX1_close 85 = .ok (.aload_n 0, 1) := by decide +kernel
theorem dX1_close_86 : decode cX1_close 86 = .ok (.getfield 53, 3) := by decide +kernel
theorem dX1_close_89 : decode cX1_close 89 = .ok (.dconst 0, 1) := by decide +kernel
theorem dX1_close_90 : decode cX1_close 90 = .ok (.dcmp .l, 1) := by decide +kernel
theorem dX1_close_91 : decode cX1_close 91 = .ok (.ifCond .ne 8, 3) := by decide +kernel
theorem dX1_close_94 : decode cX1_close 94 = .ok (.aload_n 0, 1) := by decide +kernel
theorem dX1_close_95 : decode cX1_close 95 = .ok (.iload_n 2, 1) := by decide +kernel
theorem dX1_close_96 : decode cX1_close 96 = .ok (.invokevirtual 107, 3) := by decide +kernel
theorem dX1_close_99 : decode cX1_close 99 = .ok (.aload_n 0, 1) := by decide +kernel
theorem dX1_close_100 : decode cX1_close 100 = .ok (.iload_n 2, 1) := by decide +kernel
theorem dX1_close_101 : decode cX1_close 101 = .ok (.invokevirtual 110, 3) := by decide +kernel
theorem dX1_close_104 : decode cX1_close 104 = .ok (.aload_n 0, 1) := by decide +kernel
theorem dX1_close_105 : decode cX1_close 105 = .ok (.getfield 33, 3) := by decide +kernel
theorem dX1_close_108 : decode cX1_close 108 = .ok (.iload_n 2, 1) := by decide +kernel
theorem dX1_close_109 : decode cX1_close 109 = .ok (.iconst 1, 1) := by decide +kernel
theorem dX1_close_110 : decode cX1_close 110 = .ok (.iadd, 1) := by decide +kernel
theorem dX1_close_111 : decode cX1_close 111 = .ok (.putfield 77, 3) := by decide +kernel
theorem dX1_close_114 : decode cX1_close 114 = .ok (.iload_n 3, 1) := by decide +kernel
theorem dX1_close_115 : decode cX1_close 115 = .ok (.ireturn, 1) := by decide +kernel
theorem dX1_closed_0 : decode cX1_closed 0 = .ok (.aload_n 0, 1) := by decide +kernel
theorem dX1_closed_1 : decode cX1_closed 1 = .ok (.getfield 33, 3) := by decide +kernel
theorem dX1_closed_4 : decode cX1_closed 4 = .ok (.getfield 77, 3) := by decide +kernel
theorem dX1_closed_7 : decode cX1_closed 7 = .ok (.ireturn, 1) := by decide +kernel
set_option maxRecDepth 20000 in
theorem ggX1_replace_X1_requireOwner : GoodIn wsX1_replace wsX1_requireOwner := goodIn_ca (goodIn_r _ [12, 13, 14] (by decide +kernel) (by decide +kernel)) (goodIn_sub (fun _ h => List.mem_cons_of_mem _ (List.mem_append_left _ (List.mem_append_right _ h))) (by decide +kernel))
set_option maxRecDepth 20000 in
theorem gX1_replace_X1_requireOwner : GoodIn wsX1_replace (va_wsS RX1 56 yX1_requireOwner wsX1_requireOwner) := goodIn_app (goodIn_of _ (by decide +kernel)) ggX1_replace_X1_requireOwner
set_option maxRecDepth 20000 in
theorem ggX1_replace_X1_requireWithin : GoodIn wsX1_replace wsX1_requireWithin := goodIn_ca (goodIn_r _ [17, 13, 14] (by decide +kernel) (by decide +kernel)) (goodIn_sub (fun _ h => List.mem_cons_of_mem _ (List.mem_append_left _ (List.mem_append_right _ h))) (by decide +kernel))
set_option maxRecDepth 20000 in
theorem gX1_replace_X1_requireWithin : GoodIn wsX1_replace (va_wsS RX1 60 yX1_requireWithin wsX1_requireWithin) := goodIn_app (goodIn_of _ (by decide +kernel)) ggX1_replace_X1_requireWithin
set_option maxRecDepth 20000 in
theorem ggX1_replace_X1_requireQuarter : GoodIn wsX1_replace wsX1_requireQuarter := goodIn_ca (goodIn_r _ [21, 22, 23, 3, 24, 29, 30, 31, 32, 33, 34, 35, 36, 37, 38, 39, 40, 41, 42, 43, 44, 45, 46, 47, 48, 49] (by decide +kernel) (by decide +kernel)) (goodIn_sub (fun _ h => List.mem_cons_of_mem _ (List.mem_append_right _ h)) (by decide +kernel))
set_option maxRecDepth 20000 in
theorem gX1_replace_X1_requireQuarter : GoodIn wsX1_replace (wsV RX1 113 RX1 yX1_requireQuarter wsX1_requireQuarter) := goodIn_app (goodIn_of _ (by decide +kernel)) ggX1_replace_X1_requireQuarter
set_option maxRecDepth 20000 in
theorem ggX1_replace_X0_slot : GoodIn wsX1_replace wsX0_slot := goodIn_r _ [28] (by decide +kernel) (by decide +kernel)
set_option maxRecDepth 20000 in
theorem gX1_replace_X0_slot : GoodIn wsX1_replace (va_wsS RX1 116 yX0_slot wsX0_slot) := goodIn_app (goodIn_of _ (by decide +kernel)) ggX1_replace_X0_slot
theorem dX1_replace_0 : decode cX1_replace 0 = .ok (.iload_n 1, 1) := by decide +kernel
theorem dX1_replace_1 : decode cX1_replace 1 = .ok (.invokestatic 56, 3) := by decide +kernel
theorem dX1_replace_4 : decode cX1_replace 4 = .ok (.iload_n 3, 1) := by decide +kernel
theorem dX1_replace_5 : decode cX1_replace 5 = .ok (.iconst 0, 1) := by decide +kernel
theorem dX1_replace_6 : decode cX1_replace 6 = .ok (.bipush 50, 2) := by decide +kernel
theorem dX1_replace_8 : decode cX1_replace 8 = .ok (.invokestatic 60, 3) := by decide +kernel
theorem dX1_replace_11 : decode cX1_replace 11 = .ok (.aload_n 0, 1) := by decide +kernel
theorem dX1_replace_12 : decode cX1_replace 12 = .ok (.iload_n 2, 1) := by decide +kernel
theorem dX1_replace_13 : decode cX1_replace 13 = .ok (.invokevirtual 113, 3) := by decide +kernel
theorem dX1_replace_16 : decode cX1_replace 16 = .ok (.iload_n 1, 1) := by decide +kernel
theorem dX1_replace_17 : decode cX1_replace 17 = .ok (.iload_n 2, 1) := by decide +kernel
theorem dX1_replace_18 : decode cX1_replace 18 = .ok (.invokestatic 116, 3) := by decide +kernel
theorem dX1_replace_21 : decode cX1_replace 21 = .ok (.istore 4, 2) := by decide +kernel
theorem dX1_replace_23 : decode cX1_replace 23 = .ok (.aload_n 0, 1) := by decide +kernel
theorem dX1_replace_24 : decode cX1_replace 24 = .ok (.getfield 33, 3) := by decide +kernel
theorem dX1_replace_27 : decode cX1_replace 27 = .ok (.getfield 120, 3) := by decide +kernel
theorem dX1_replace_30 : decode cX1_replace 30 = .ok (.iload 4, 2) := by decide +kernel
theorem dX1_replace_32 : decode cX1_replace 32 = .ok (.baload, 1) := by decide +kernel
theorem dX1_replace_33 : decode cX1_replace 33 = .ok (.ifCond .eq 13, 3) := by decide +kernel
theorem dX1_replace_36 : decode cX1_replace 36 = .ok (.new 68, 3) := by decide +kernel
theorem dX1_replace_39 : decode cX1_replace 39 = .ok (.dup, 1) := by decide +kernel
theorem dX1_replace_40 : decode cX1_replace 40 = .ok (.ldc 123, 2) := by decide +kernel
theorem dX1_replace_42 : decode cX1_replace 42 = .ok (.invokespecial 72, 3) := by decide +kernel
theorem dX1_replace_45 : decode cX1_replace 45 = .ok (.athrow, 1) := by decide +kernel
theorem dX1_replace_46 : decode cX1_replace 46 = .ok (.aload_n 0, 1) := by decide +kernel
theorem dX1_replace_47 : decode cX1_replace 47 = .ok (.getfield 33, 3) := by decide +kernel
theorem dX1_replace_50 : decode cX1_replace 50 = .ok (.getfield 120, 3) := by decide +kernel
theorem dX1_replace_53 : decode cX1_replace 53 = .ok (.iload 4, 2) := by decide +kernel
theorem dX1_replace_55 : decode cX1_replace 55 = .ok (.iconst 1, 1) := by decide +kernel
theorem dX1_replace_56 : decode cX1_replace 56 = .ok (.bastore, 1) := by decide +kernel
theorem dX1_replace_57 : decode cX1_replace 57 = .ok (.aload_n 0, 1) := by decide +kernel
theorem dX1_replace_58 : decode cX1_replace 58 = .ok (.getfield 33, 3) := by decide +kernel
theorem dX1_replace_61 : decode cX1_replace 61 = .ok (.getfield 125, 3) := by decide +kernel
theorem dX1_replace_64 : decode cX1_replace 64 = .ok (.iload 4, 2) := by decide +kernel
theorem dX1_replace_66 : decode cX1_replace 66 = .ok (.iload_n 3, 1) := by decide +kernel
theorem dX1_replace_67 : decode cX1_replace 67 = .ok (.i2d, 1) := by decide +kernel
theorem dX1_replace_68 : decode cX1_replace 68 = .ok (.dastore, 1) := by decide +kernel
theorem dX1_replace_69 : decode cX1_replace 69 = .ok (.iload_n 3, 1) := by decide +kernel
theorem dX1_replace_70 : decode cX1_replace 70 = .ok (.i2d, 1) := by decide +kernel
theorem dX1_replace_71 : decode cX1_replace 71 = .ok (.aload_n 0, 1) := by decide +kernel
theorem dX1_replace_72 : decode cX1_replace 72 = .ok (.getfield 33, 3) := by decide +kernel
theorem dX1_replace_75 : decode cX1_replace 75 = .ok (.getfield 128, 3) := by decide +kernel
theorem dX1_replace_78 : decode cX1_replace 78 = .ok (.iload 4, 2) := by decide +kernel
theorem dX1_replace_80 : decode cX1_replace 80 = .ok (.daload, 1) := by decide +kernel
theorem dX1_replace_81 : decode cX1_replace 81 = .ok (.dsub, 1) := by decide +kernel
theorem dX1_replace_82 : decode cX1_replace 82 = .ok (.aload_n 0, 1) := by decide +kernel
theorem dX1_replace_83 : decode cX1_replace 83 = .ok (.getfield 33, 3) := by decide +kernel
theorem dX1_replace_86 : decode cX1_replace 86 = .ok (.getfield 82, 3) := by decide +kernel
theorem dX1_replace_89 : decode cX1_replace 89 = .ok (.iload_n 2, 1) := by decide +kernel
theorem dX1_replace_90 : decode cX1_replace 90 = .ok (.daload, 1) := by decide +kernel
theorem dX1_replace_91 : decode cX1_replace 91 = .ok (.dmul, 1) := by decide +kernel
theorem dX1_replace_92 : decode cX1_replace 92 = .ok (.dstore 5, 2) := by decide +kernel
theorem dX1_replace_94 : decode cX1_replace 94 = .ok (.aload_n 0, 1) := by decide +kernel
theorem dX1_replace_95 : decode cX1_replace 95 = .ok (.getfield 20, 3) := by decide +kernel
theorem dX1_replace_98 : decode cX1_replace 98 = .ok (.iload_n 1, 1) := by decide +kernel
theorem dX1_replace_99 : decode cX1_replace 99 = .ok (.dup2, 1) := by decide +kernel
theorem dX1_replace_100 : decode cX1_replace 100 = .ok (.daload, 1) := by decide +kernel
theorem dX1_replace_101 : decode cX1_replace 101 = .ok (.dload 5, 2) := by decide +kernel
theorem dX1_replace_103 : decode cX1_replace 103 = .ok (.dadd, 1) := by decide +kernel
theorem dX1_replace_104 : decode cX1_replace 104 = .ok (.dastore, 1) := by decide +kernel
theorem dX1_replace_105 : decode cX1_replace 105 = .ok (.dload 5, 2) := by decide +kernel
theorem dX1_replace_107 : decode cX1_replace 107 = .ok (.dreturn, 1) := by decide +kernel
set_option maxRecDepth 20000 in
theorem ggX1_use_X1_closedSlot : GoodIn wsX1_use wsX1_closedSlot := goodIn_ca (goodIn_ca (goodIn_r _ [7, 8, 9, 6, 10, 11, 12, 13, 14, 15, 16, 17, 18, 1, 19, 20, 21, 22, 23, 24, 25, 26, 27, 28, 29, 30, 31, 32, 33, 34, 35, 36, 37, 38, 39, 40, 41, 42, 43, 44] (by decide +kernel) (by decide +kernel)) (goodIn_sub (fun _ h => List.mem_cons_of_mem _ (List.mem_append_left _ (List.mem_append_right _ h))) (by decide +kernel))) (goodIn_sub (fun _ h => List.mem_cons_of_mem _ (List.mem_append_right _ h)) (by decide +kernel))
set_option maxRecDepth 20000 in
theorem gX1_use_X1_closedSlot : GoodIn wsX1_use (wsV RX1 131 RX1 yX1_closedSlot wsX1_closedSlot) := goodIn_app (goodIn_of _ (by decide +kernel)) ggX1_use_X1_closedSlot
theorem dX1_use_0 : decode cX1_use 0 = .ok (.aload_n 0, 1) := by decide +kernel
theorem dX1_use_1 : decode cX1_use 1 = .ok (.getfield 33, 3) := by decide +kernel
theorem dX1_use_4 : decode cX1_use 4 = .ok (.getfield 125, 3) := by decide +kernel
theorem dX1_use_7 : decode cX1_use 7 = .ok (.aload_n 0, 1) := by decide +kernel
theorem dX1_use_8 : decode cX1_use 8 = .ok (.iload_n 1, 1) := by decide +kernel
theorem dX1_use_9 : decode cX1_use 9 = .ok (.iload_n 2, 1) := by decide +kernel
theorem dX1_use_10 : decode cX1_use 10 = .ok (.invokevirtual 131, 3) := by decide +kernel
theorem dX1_use_13 : decode cX1_use 13 = .ok (.daload, 1) := by decide +kernel
theorem dX1_use_14 : decode cX1_use 14 = .ok (.dreturn, 1) := by decide +kernel
set_option maxRecDepth 20000 in
theorem ggX1_fromSun_X1_closedSlot : GoodIn wsX1_fromSun wsX1_closedSlot := goodIn_ca (goodIn_ca (goodIn_r _ [7, 8, 9, 6, 10, 11, 12, 13, 14, 15, 16, 17, 18, 1, 19, 20, 21, 22, 23, 24, 25, 26, 27, 28, 29, 30, 31, 32, 33, 34, 35, 36, 37, 38, 39, 40, 41, 42, 43, 44] (by decide +kernel) (by decide +kernel)) (goodIn_sub (fun _ h => List.mem_cons_of_mem _ (List.mem_append_left _ (List.mem_append_right _ h))) (by decide +kernel))) (goodIn_sub (fun _ h => List.mem_cons_of_mem _ (List.mem_append_right _ h)) (by decide +kernel))
set_option maxRecDepth 20000 in
theorem gX1_fromSun_X1_closedSlot : GoodIn wsX1_fromSun (wsV RX1 131 RX1 yX1_closedSlot wsX1_closedSlot) := goodIn_app (goodIn_of _ (by decide +kernel)) ggX1_fromSun_X1_closedSlot
theorem dX1_fromSun_0 : decode cX1_fromSun 0 = .ok (.aload_n 0, 1) := by decide +kernel
theorem dX1_fromSun_1 : decode cX1_fromSun 1 = .ok (.getfield 33, 3) := by decide +kernel
theorem dX1_fromSun_4 : decode cX1_fromSun 4 = .ok (.getfield 134, 3) := by decide +kernel
theorem dX1_fromSun_7 : decode cX1_fromSun 7 = .ok (.aload_n 0, 1) := by decide +kernel
theorem dX1_fromSun_8 : decode cX1_fromSun 8 = .ok (.iload_n 1, 1) := by decide +kernel
theorem dX1_fromSun_9 : decode cX1_fromSun 9 = .ok (.iload_n 2, 1) := by decide +kernel
theorem dX1_fromSun_10 : decode cX1_fromSun 10 = .ok (.invokevirtual 131, 3) := by decide +kernel
theorem dX1_fromSun_13 : decode cX1_fromSun 13 = .ok (.daload, 1) := by decide +kernel
theorem dX1_fromSun_14 : decode cX1_fromSun 14 = .ok (.dreturn, 1) := by decide +kernel
set_option maxRecDepth 20000 in
theorem ggX1_fromBattery_X1_closedSlot : GoodIn wsX1_fromBattery wsX1_closedSlot := goodIn_ca (goodIn_ca (goodIn_r _ [7, 8, 9, 6, 10, 11, 12, 13, 14, 15, 16, 17, 18, 1, 19, 20, 21, 22, 23, 24, 25, 26, 27, 28, 29, 30, 31, 32, 33, 34, 35, 36, 37, 38, 39, 40, 41, 42, 43, 44] (by decide +kernel) (by decide +kernel)) (goodIn_sub (fun _ h => List.mem_cons_of_mem _ (List.mem_append_left _ (List.mem_append_right _ h))) (by decide +kernel))) (goodIn_sub (fun _ h => List.mem_cons_of_mem _ (List.mem_append_right _ h)) (by decide +kernel))
set_option maxRecDepth 20000 in
theorem gX1_fromBattery_X1_closedSlot : GoodIn wsX1_fromBattery (wsV RX1 131 RX1 yX1_closedSlot wsX1_closedSlot) := goodIn_app (goodIn_of _ (by decide +kernel)) ggX1_fromBattery_X1_closedSlot
theorem dX1_fromBattery_0 : decode cX1_fromBattery 0 = .ok (.aload_n 0, 1) := by decide +kernel
theorem dX1_fromBattery_1 : decode cX1_fromBattery 1 = .ok (.getfield 33, 3) := by decide +kernel
theorem dX1_fromBattery_4 : decode cX1_fromBattery 4 = .ok (.getfield 137, 3) := by decide +kernel
theorem dX1_fromBattery_7 : decode cX1_fromBattery 7 = .ok (.aload_n 0, 1) := by decide +kernel
theorem dX1_fromBattery_8 : decode cX1_fromBattery 8 = .ok (.iload_n 1, 1) := by decide +kernel
theorem dX1_fromBattery_9 : decode cX1_fromBattery 9 = .ok (.iload_n 2, 1) := by decide +kernel
theorem dX1_fromBattery_10 : decode cX1_fromBattery 10 = .ok (.invokevirtual 131, 3) := by decide +kernel
theorem dX1_fromBattery_13 : decode cX1_fromBattery 13 = .ok (.daload, 1) := by decide +kernel
theorem dX1_fromBattery_14 : decode cX1_fromBattery 14 = .ok (.dreturn, 1) := by decide +kernel
set_option maxRecDepth 20000 in
theorem ggX1_bought_X1_closedSlot : GoodIn wsX1_bought wsX1_closedSlot := goodIn_ca (goodIn_ca (goodIn_r _ [7, 8, 9, 6, 10, 11, 12, 13, 14, 15, 16, 17, 18, 1, 19, 20, 21, 22, 23, 24, 25, 26, 27, 28, 29, 30, 31, 32, 33, 34, 35, 36, 37, 38, 39, 40, 41, 42, 43, 44] (by decide +kernel) (by decide +kernel)) (goodIn_sub (fun _ h => List.mem_cons_of_mem _ (List.mem_append_left _ (List.mem_append_right _ h))) (by decide +kernel))) (goodIn_sub (fun _ h => List.mem_cons_of_mem _ (List.mem_append_right _ h)) (by decide +kernel))
set_option maxRecDepth 20000 in
theorem gX1_bought_X1_closedSlot : GoodIn wsX1_bought (wsV RX1 131 RX1 yX1_closedSlot wsX1_closedSlot) := goodIn_app (goodIn_of _ (by decide +kernel)) ggX1_bought_X1_closedSlot
theorem dX1_bought_0 : decode cX1_bought 0 = .ok (.aload_n 0, 1) := by decide +kernel
theorem dX1_bought_1 : decode cX1_bought 1 = .ok (.getfield 33, 3) := by decide +kernel
theorem dX1_bought_4 : decode cX1_bought 4 = .ok (.getfield 140, 3) := by decide +kernel
theorem dX1_bought_7 : decode cX1_bought 7 = .ok (.aload_n 0, 1) := by decide +kernel
theorem dX1_bought_8 : decode cX1_bought 8 = .ok (.iload_n 1, 1) := by decide +kernel
theorem dX1_bought_9 : decode cX1_bought 9 = .ok (.iload_n 2, 1) := by decide +kernel
theorem dX1_bought_10 : decode cX1_bought 10 = .ok (.invokevirtual 131, 3) := by decide +kernel
theorem dX1_bought_13 : decode cX1_bought 13 = .ok (.daload, 1) := by decide +kernel
theorem dX1_bought_14 : decode cX1_bought 14 = .ok (.dreturn, 1) := by decide +kernel
set_option maxRecDepth 20000 in
theorem ggX1_sold_X1_requireQuarter : GoodIn wsX1_sold wsX1_requireQuarter := goodIn_ca (goodIn_r _ [7, 8, 9, 1, 10, 11, 12, 13, 14, 15, 16, 17, 18, 19, 20, 21, 22, 23, 24, 25, 26, 27, 28, 29, 30, 31] (by decide +kernel) (by decide +kernel)) (goodIn_sub (fun _ h => List.mem_cons_of_mem _ (List.mem_append_right _ h)) (by decide +kernel))
set_option maxRecDepth 20000 in
theorem gX1_sold_X1_requireQuarter : GoodIn wsX1_sold (wsV RX1 113 RX1 yX1_requireQuarter wsX1_requireQuarter) := goodIn_app (goodIn_of _ (by decide +kernel)) ggX1_sold_X1_requireQuarter
theorem dX1_sold_0 : decode cX1_sold 0 = .ok (.aload_n 0, 1) := by decide +kernel
theorem dX1_sold_1 : decode cX1_sold 1 = .ok (.iload_n 1, 1) := by decide +kernel
theorem dX1_sold_2 : decode cX1_sold 2 = .ok (.invokevirtual 113, 3) := by decide +kernel
theorem dX1_sold_5 : decode cX1_sold 5 = .ok (.aload_n 0, 1) := by decide +kernel
theorem dX1_sold_6 : decode cX1_sold 6 = .ok (.getfield 33, 3) := by decide +kernel
theorem dX1_sold_9 : decode cX1_sold 9 = .ok (.getfield 143, 3) := by decide +kernel
theorem dX1_sold_12 : decode cX1_sold 12 = .ok (.iload_n 1, 1) := by decide +kernel
theorem dX1_sold_13 : decode cX1_sold 13 = .ok (.daload, 1) := by decide +kernel
theorem dX1_sold_14 : decode cX1_sold 14 = .ok (.dreturn, 1) := by decide +kernel
theorem dX1_battery_0 : decode cX1_battery 0 = .ok (.aload_n 0, 1) := by decide +kernel
theorem dX1_battery_1 : decode cX1_battery 1 = .ok (.getfield 43, 3) := by decide +kernel
theorem dX1_battery_4 : decode cX1_battery 4 = .ok (.dreturn, 1) := by decide +kernel
theorem dX1_turn_0 : decode cX1_turn 0 = .ok (.aload_n 0, 1) := by decide +kernel
theorem dX1_turn_1 : decode cX1_turn 1 = .ok (.getfield 46, 3) := by decide +kernel
theorem dX1_turn_4 : decode cX1_turn 4 = .ok (.ireturn, 1) := by decide +kernel
set_option maxRecDepth 20000 in
theorem ggX1_sheds_X1_requireOwner : GoodIn wsX1_sheds wsX1_requireOwner := goodIn_ca (goodIn_r _ [5, 6, 7] (by decide +kernel) (by decide +kernel)) (goodIn_sub (fun _ h => List.mem_cons_of_mem _ (List.mem_append_right _ h)) (by decide +kernel))
set_option maxRecDepth 20000 in
theorem gX1_sheds_X1_requireOwner : GoodIn wsX1_sheds (va_wsS RX1 56 yX1_requireOwner wsX1_requireOwner) := goodIn_app (goodIn_of _ (by decide +kernel)) ggX1_sheds_X1_requireOwner
theorem dX1_sheds_0 : decode cX1_sheds 0 = .ok (.iload_n 1, 1) := by decide +kernel
theorem dX1_sheds_1 : decode cX1_sheds 1 = .ok (.invokestatic 56, 3) := by decide +kernel
theorem dX1_sheds_4 : decode cX1_sheds 4 = .ok (.aload_n 0, 1) := by decide +kernel
theorem dX1_sheds_5 : decode cX1_sheds 5 = .ok (.getfield 17, 3) := by decide +kernel
theorem dX1_sheds_8 : decode cX1_sheds 8 = .ok (.iload_n 1, 1) := by decide +kernel
theorem dX1_sheds_9 : decode cX1_sheds 9 = .ok (.iaload, 1) := by decide +kernel
theorem dX1_sheds_10 : decode cX1_sheds 10 = .ok (.ireturn, 1) := by decide +kernel
set_option maxRecDepth 20000 in
theorem ggX1_bill_X1_requireOwner : GoodIn wsX1_bill wsX1_requireOwner := goodIn_ca (goodIn_r _ [5, 6, 7] (by decide +kernel) (by decide +kernel)) (goodIn_sub (fun _ h => List.mem_cons_of_mem _ (List.mem_append_right _ h)) (by decide +kernel))
set_option maxRecDepth 20000 in
theorem gX1_bill_X1_requireOwner : GoodIn wsX1_bill (va_wsS RX1 56 yX1_requireOwner wsX1_requireOwner) := goodIn_app (goodIn_of _ (by decide +kernel)) ggX1_bill_X1_requireOwner
theorem dX1_bill_0 : decode cX1_bill 0 = .ok (.iload_n 1, 1) := by decide +kernel
theorem dX1_bill_1 : decode cX1_bill 1 = .ok (.invokestatic 56, 3) := by decide +kernel
theorem dX1_bill_4 : decode cX1_bill 4 = .ok (.aload_n 0, 1) := by decide +kernel
theorem dX1_bill_5 : decode cX1_bill 5 = .ok (.getfield 20, 3) := by decide +kernel
theorem dX1_bill_8 : decode cX1_bill 8 = .ok (.iload_n 1, 1) := by decide +kernel
theorem dX1_bill_9 : decode cX1_bill 9 = .ok (.daload, 1) := by decide +kernel
theorem dX1_bill_10 : decode cX1_bill 10 = .ok (.dreturn, 1) := by decide +kernel
theorem dX1_requireWithin_0 : decode cX1_requireWithin 0 = .ok (.iload_n 0, 1) := by decide +kernel
theorem dX1_requireWithin_1 : decode cX1_requireWithin 1 = .ok (.iload_n 1, 1) := by decide +kernel
theorem dX1_requireWithin_2 : decode cX1_requireWithin 2 = .ok (.if_icmp .lt 8, 3) := by decide +kernel
theorem dX1_requireWithin_5 : decode cX1_requireWithin 5 = .ok (.iload_n 0, 1) := by decide +kernel
theorem dX1_requireWithin_6 : decode cX1_requireWithin 6 = .ok (.iload_n 2, 1) := by decide +kernel
theorem dX1_requireWithin_7 : decode cX1_requireWithin 7 = .ok (.if_icmp .le 13, 3) := by decide +kernel
theorem dX1_requireWithin_10 : decode cX1_requireWithin 10 = .ok (.new 146, 3) := by decide +kernel
theorem dX1_requireWithin_13 : decode cX1_requireWithin 13 = .ok (.dup, 1) := by decide +kernel
theorem dX1_requireWithin_14 : decode cX1_requireWithin 14 = .ok (.ldc 148, 2) := by decide +kernel
theorem dX1_requireWithin_16 : decode cX1_requireWithin 16 = .ok (.invokespecial 150, 3) := by decide +kernel
theorem dX1_requireWithin_19 : decode cX1_requireWithin 19 = .ok (.athrow, 1) := by decide +kernel
theorem dX1_requireWithin_20 : decode cX1_requireWithin 20 = .ok (.return_, 1) := by decide +kernel
theorem dX1_requireOwner_0 : decode cX1_requireOwner 0 = .ok (.iload_n 0, 1) := by decide +kernel
theorem dX1_requireOwner_1 : decode cX1_requireOwner 1 = .ok (.ifCond .lt 8, 3) := by decide +kernel
theorem dX1_requireOwner_4 : decode cX1_requireOwner 4 = .ok (.iload_n 0, 1) := by decide +kernel
theorem dX1_requireOwner_5 : decode cX1_requireOwner 5 = .ok (.iconst 5, 1) := by decide +kernel
theorem dX1_requireOwner_6 : decode cX1_requireOwner 6 = .ok (.if_icmp .lt 13, 3) := by decide +kernel
theorem dX1_requireOwner_9 : decode cX1_requireOwner 9 = .ok (.new 146, 3) := by decide +kernel
theorem dX1_requireOwner_12 : decode cX1_requireOwner 12 = .ok (.dup, 1) := by decide +kernel
theorem dX1_requireOwner_13 : decode cX1_requireOwner 13 = .ok (.ldc 151, 2) := by decide +kernel
theorem dX1_requireOwner_15 : decode cX1_requireOwner 15 = .ok (.invokespecial 150, 3) := by decide +kernel
theorem dX1_requireOwner_18 : decode cX1_requireOwner 18 = .ok (.athrow, 1) := by decide +kernel
theorem dX1_requireOwner_19 : decode cX1_requireOwner 19 = .ok (.return_, 1) := by decide +kernel
theorem dX1_requireQuarter_0 : decode cX1_requireQuarter 0 = .ok (.iload_n 1, 1) := by decide +kernel
theorem dX1_requireQuarter_1 : decode cX1_requireQuarter 1 = .ok (.ifCond .lt 14, 3) := by decide +kernel
theorem dX1_requireQuarter_4 : decode cX1_requireQuarter 4 = .ok (.iload_n 1, 1) := by decide +kernel
theorem dX1_requireQuarter_5 : decode cX1_requireQuarter 5 = .ok (.aload_n 0, 1) := by decide +kernel
theorem dX1_requireQuarter_6 : decode cX1_requireQuarter 6 = .ok (.getfield 33, 3) := by decide +kernel
theorem dX1_requireQuarter_9 : decode cX1_requireQuarter 9 = .ok (.getfield 77, 3) := by decide +kernel
theorem dX1_requireQuarter_12 : decode cX1_requireQuarter 12 = .ok (.if_icmp .lt 13, 3) := by decide +kernel
theorem dX1_requireQuarter_15 : decode cX1_requireQuarter 15 = .ok (.new 153, 3) := by decide +kernel
theorem dX1_requireQuarter_18 : decode cX1_requireQuarter 18 = .ok (.dup, 1) := by decide +kernel
theorem dX1_requireQuarter_19 : decode cX1_requireQuarter 19 = .ok (.ldc 155, 2) := by decide +kernel
theorem dX1_requireQuarter_21 : decode cX1_requireQuarter 21 = .ok (.invokespecial 157, 3) := by decide +kernel
theorem dX1_requireQuarter_24 : decode cX1_requireQuarter 24 = .ok (.athrow, 1) := by decide +kernel
theorem dX1_requireQuarter_25 : decode cX1_requireQuarter 25 = .ok (.return_, 1) := by decide +kernel
set_option maxRecDepth 20000 in
theorem ggX1_closedSlot_X1_requireOwner : GoodIn wsX1_closedSlot wsX1_requireOwner := goodIn_ca (goodIn_r _ [4, 5, 6] (by decide +kernel) (by decide +kernel)) (goodIn_sub (fun _ h => List.mem_cons_of_mem _ (List.mem_append_left _ (List.mem_append_right _ h))) (by decide +kernel))
set_option maxRecDepth 20000 in
theorem gX1_closedSlot_X1_requireOwner : GoodIn wsX1_closedSlot (va_wsS RX1 56 yX1_requireOwner wsX1_requireOwner) := goodIn_app (goodIn_of _ (by decide +kernel)) ggX1_closedSlot_X1_requireOwner
set_option maxRecDepth 20000 in
theorem ggX1_closedSlot_X1_requireQuarter : GoodIn wsX1_closedSlot wsX1_requireQuarter := goodIn_ca (goodIn_r _ [10, 11, 12, 13, 14, 19, 20, 21, 22, 23, 24, 25, 26, 27, 28, 29, 30, 31, 32, 33, 34, 35, 36, 37, 38, 39] (by decide +kernel) (by decide +kernel)) (goodIn_sub (fun _ h => List.mem_cons_of_mem _ (List.mem_append_right _ h)) (by decide +kernel))
set_option maxRecDepth 20000 in
theorem gX1_closedSlot_X1_requireQuarter : GoodIn wsX1_closedSlot (wsV RX1 113 RX1 yX1_requireQuarter wsX1_requireQuarter) := goodIn_app (goodIn_of _ (by decide +kernel)) ggX1_closedSlot_X1_requireQuarter
set_option maxRecDepth 20000 in
theorem ggX1_closedSlot_X0_slot : GoodIn wsX1_closedSlot wsX0_slot := goodIn_r _ [18] (by decide +kernel) (by decide +kernel)
set_option maxRecDepth 20000 in
theorem gX1_closedSlot_X0_slot : GoodIn wsX1_closedSlot (va_wsS RX1 116 yX0_slot wsX0_slot) := goodIn_app (goodIn_of _ (by decide +kernel)) ggX1_closedSlot_X0_slot
theorem dX1_closedSlot_0 : decode cX1_closedSlot 0 = .ok (.iload_n 1, 1) := by decide +kernel
theorem dX1_closedSlot_1 : decode cX1_closedSlot 1 = .ok (.invokestatic 56, 3) := by decide +kernel
theorem dX1_closedSlot_4 : decode cX1_closedSlot 4 = .ok (.aload_n 0, 1) := by decide +kernel
theorem dX1_closedSlot_5 : decode cX1_closedSlot 5 = .ok (.iload_n 2, 1) := by decide +kernel
theorem dX1_closedSlot_6 : decode cX1_closedSlot 6 = .ok (.invokevirtual 113, 3) := by decide +kernel
theorem dX1_closedSlot_9 : decode cX1_closedSlot 9 = .ok (.iload_n 1, 1) := by decide +kernel
theorem dX1_closedSlot_10 : decode cX1_closedSlot 10 = .ok (.iload_n 2, 1) := by decide +kernel
theorem dX1_closedSlot_11 : decode cX1_closedSlot 11 = .ok (.invokestatic 116, 3) := by decide +kernel
theorem dX1_closedSlot_14 : decode cX1_closedSlot 14 = .ok (.ireturn, 1) := by decide +kernel
set_option maxRecDepth 20000 in
theorem ggX1_writeUses_X0_slot : GoodIn wsX1_writeUses wsX0_slot := goodIn_r _ [10] (by decide +kernel) (by decide +kernel)
set_option maxRecDepth 20000 in
theorem gX1_writeUses_X0_slot : GoodIn wsX1_writeUses (va_wsS RX1 116 yX0_slot wsX0_slot) := goodIn_app (goodIn_of _ (by decide +kernel)) ggX1_writeUses_X0_slot
set_option maxRecDepth 20000 in
theorem ggX1_writeUses_X0_guess : GoodIn wsX1_writeUses wsX0_guess := goodIn_r _ [14, 15, 16, 17, 18, 19, 8, 9, 10, 32, 33, 34, 35, 36, 37, 38, 39, 40] (by decide +kernel) (by decide +kernel)
set_option maxRecDepth 20000 in
theorem gX1_writeUses_X0_guess : GoodIn wsX1_writeUses (wsV RX1 158 RX0 yX0_guess wsX0_guess) := goodIn_app (goodIn_of _ (by decide +kernel)) ggX1_writeUses_X0_guess
theorem dX1_writeUses_0 : decode cX1_writeUses 0 = .ok (.iconst 0, 1) := by decide +kernel
theorem dX1_writeUses_1 : decode cX1_writeUses 1 = .ok (.istore_n 2, 1) := by decide +kernel
theorem dX1_writeUses_2 : decode cX1_writeUses 2 = .ok (.iload_n 2, 1) := by decide +kernel
theorem dX1_writeUses_3 : decode cX1_writeUses 3 = .ok (.iconst 5, 1) := by decide +kernel
theorem dX1_writeUses_4 : decode cX1_writeUses 4 = .ok (.if_icmp .ge 85, 3) := by decide +kernel
theorem dX1_writeUses_7 : decode cX1_writeUses 7 = .ok (.iload_n 2, 1) := by decide +kernel
theorem dX1_writeUses_8 : decode cX1_writeUses 8 = .ok (.iload_n 1, 1) := by decide +kernel
theorem dX1_writeUses_9 : decode cX1_writeUses 9 = .ok (.invokestatic 116, 3) := by decide +kernel
theorem dX1_writeUses_12 : decode cX1_writeUses 12 = .ok (.istore_n 3, 1) := by decide +kernel
theorem dX1_writeUses_13 : decode cX1_writeUses 13 = .ok (.aload_n 0, 1) := by decide +kernel
theorem dX1_writeUses_14 : decode cX1_writeUses 14 = .ok (.getfield 24, 3) := by decide +kernel
theorem dX1_writeUses_17 : decode cX1_writeUses 17 = .ok (.iload_n 2, 1) := by decide +kernel
theorem dX1_writeUses_18 : decode cX1_writeUses 18 = .ok (.baload, 1) := by decide +kernel
theorem dX1_writeUses_19 : decode cX1_writeUses 19 = .ok (.ifCond .eq 13, 3) := by decide +kernel
theorem dX1_writeUses_22 : decode cX1_writeUses 22 = .ok (.aload_n 0, 1) := by decide +kernel
theorem dX1_writeUses_23 : decode cX1_writeUses 23 = .ok (.getfield 27, 3) := by decide +kernel
theorem dX1_writeUses_26 : decode cX1_writeUses 26 = .ok (.iload_n 2, 1) := by decide +kernel
theorem dX1_writeUses_27 : decode cX1_writeUses 27 = .ok (.iaload, 1) := by decide +kernel
theorem dX1_writeUses_28 : decode cX1_writeUses 28 = .ok (.i2d, 1) := by decide +kernel
theorem dX1_writeUses_29 : decode cX1_writeUses 29 = .ok (.goto 11, 3) := by decide +kernel
theorem dX1_writeUses_32 : decode cX1_writeUses 32 = .ok (.aload_n 0, 1) := by decide +kernel
theorem dX1_writeUses_33 : decode cX1_writeUses 33 = .ok (.getfield 33, 3) := by decide +kernel
theorem dX1_writeUses_36 : decode cX1_writeUses 36 = .ok (.iload_n 2, 1) := by decide +kernel
theorem dX1_writeUses_37 : decode cX1_writeUses 37 = .ok (.invokevirtual 158, 3) := by decide +kernel
theorem dX1_writeUses_40 : decode cX1_writeUses 40 = .ok (.dstore 4, 2) := by decide +kernel
theorem dX1_writeUses_42 : decode cX1_writeUses 42 = .ok (.aload_n 0, 1) := by decide +kernel
theorem dX1_writeUses_43 : decode cX1_writeUses 43 = .ok (.getfield 33, 3) := by decide +kernel
theorem dX1_writeUses_46 : decode cX1_writeUses 46 = .ok (.getfield 120, 3) := by decide +kernel
theorem dX1_writeUses_49 : decode cX1_writeUses 49 = .ok (.iload_n 3, 1) := by decide +kernel
theorem dX1_writeUses_50 : decode cX1_writeUses 50 = .ok (.aload_n 0, 1) := by decide +kernel
theorem dX1_writeUses_51 : decode cX1_writeUses 51 = .ok (.getfield 24, 3) := by decide +kernel
theorem dX1_writeUses_54 : decode cX1_writeUses 54 = .ok (.iload_n 2, 1) := by decide +kernel
theorem dX1_writeUses_55 : decode cX1_writeUses 55 = .ok (.baload, 1) := by decide +kernel
theorem dX1_writeUses_56 : decode cX1_writeUses 56 = .ok (.bastore, 1) := by decide +kernel
theorem dX1_writeUses_57 : decode cX1_writeUses 57 = .ok (.aload_n 0, 1) := by decide +kernel
theorem dX1_writeUses_58 : decode cX1_writeUses 58 = .ok (.getfield 33, 3) := by decide +kernel
theorem dX1_writeUses_61 : decode cX1_writeUses 61 = .ok (.getfield 125, 3) := by decide +kernel
theorem dX1_writeUses_64 : decode cX1_writeUses 64 = .ok (.iload_n 3, 1) := by decide +kernel
theorem dX1_writeUses_65 : decode cX1_writeUses 65 = .ok (.dload 4, 2) := by decide +kernel
theorem dX1_writeUses_67 : decode cX1_writeUses 67 = .ok (.dastore, 1) := by decide +kernel
theorem dX1_writeUses_68 : decode cX1_writeUses 68 = .ok (.aload_n 0, 1) := by decide +kernel
theorem dX1_writeUses_69 : decode cX1_writeUses 69 = .ok (.getfield 50, 3) := by decide +kernel
theorem dX1_writeUses_72 : decode cX1_writeUses 72 = .ok (.iload_n 2, 1) := by decide +kernel
theorem dX1_writeUses_73 : decode cX1_writeUses 73 = .ok (.dload 4, 2) := by decide +kernel
theorem dX1_writeUses_75 : decode cX1_writeUses 75 = .ok (.dastore, 1) := by decide +kernel
theorem dX1_writeUses_76 : decode cX1_writeUses 76 = .ok (.aload_n 0, 1) := by decide +kernel
theorem dX1_writeUses_77 : decode cX1_writeUses 77 = .ok (.getfield 24, 3) := by decide +kernel
theorem dX1_writeUses_80 : decode cX1_writeUses 80 = .ok (.iload_n 2, 1) := by decide +kernel
theorem dX1_writeUses_81 : decode cX1_writeUses 81 = .ok (.iconst 0, 1) := by decide +kernel
theorem dX1_writeUses_82 : decode cX1_writeUses 82 = .ok (.bastore, 1) := by decide +kernel
theorem dX1_writeUses_83 : decode cX1_writeUses 83 = .ok (.iinc 2 1, 3) := by decide +kernel
theorem dX1_writeUses_86 : decode cX1_writeUses 86 = .ok (.goto (-84), 3) := by decide +kernel
theorem dX1_writeUses_89 : decode cX1_writeUses 89 = .ok (.return_, 1) := by decide +kernel
set_option maxRecDepth 20000 in
theorem ggX1_shedUntilCarried_X1_nextToShed : GoodIn wsX1_shedUntilCarried wsX1_nextToShed := goodIn_r _ [7, 8, 1, 2, 18, 19, 20, 21, 22, 23, 24, 25, 26, 27, 28, 29] (by decide +kernel) (by decide +kernel)
set_option maxRecDepth 20000 in
theorem gX1_shedUntilCarried_X1_nextToShed : GoodIn wsX1_shedUntilCarried (wsV RX1 162 RX1 yX1_nextToShed wsX1_nextToShed) := goodIn_app (goodIn_of _ (by decide +kernel)) ggX1_shedUntilCarried_X1_nextToShed
set_option maxRecDepth 20000 in
theorem ggX1_shedUntilCarried_X1_isOverLine : GoodIn wsX1_shedUntilCarried wsX1_isOverLine := goodIn_r _ [12, 13, 14, 15, 16, 6, 17, 1, 18, 19, 20, 21, 22, 23, 24, 25, 26, 27, 28, 29] (by decide +kernel) (by decide +kernel)
set_option maxRecDepth 20000 in
theorem gX1_shedUntilCarried_X1_isOverLine : GoodIn wsX1_shedUntilCarried (wsV RX1 90 RX1 yX1_isOverLine wsX1_isOverLine) := goodIn_app (goodIn_of _ (by decide +kernel)) ggX1_shedUntilCarried_X1_isOverLine
theorem dX1_shedUntilCarried_0 : decode cX1_shedUntilCarried 0 = .ok (.aload_n 0, 1) := by decide +kernel
theorem dX1_shedUntilCarried_1 : decode cX1_shedUntilCarried 1 = .ok (.invokevirtual 162, 3) := by decide +kernel
theorem dX1_shedUntilCarried_4 : decode cX1_shedUntilCarried 4 = .ok (.istore_n 1, 1) := by decide +kernel
theorem dX1_shedUntilCarried_5 : decode cX1_shedUntilCarried 5 = .ok (.iconst 0, 1) := by decide +kernel
theorem dX1_shedUntilCarried_6 : decode cX1_shedUntilCarried 6 = .ok (.istore_n 2, 1) := by decide +kernel
theorem dX1_shedUntilCarried_7 : decode cX1_shedUntilCarried 7 = .ok (.iload_n 2, 1) := by decide +kernel
theorem dX1_shedUntilCarried_8 : decode cX1_shedUntilCarried 8 = .ok (.iconst 5, 1) := by decide +kernel
theorem dX1_shedUntilCarried_9 : decode cX1_shedUntilCarried 9 = .ok (.if_icmp .ge 43, 3) := by decide +kernel
theorem dX1_shedUntilCarried_12 : decode cX1_shedUntilCarried 12 = .ok (.iload_n 1, 1) := by decide +kernel
theorem dX1_shedUntilCarried_13 : decode cX1_shedUntilCarried 13 = .ok (.iconst (-1), 1) := by decide +kernel
theorem dX1_shedUntilCarried_14 : decode cX1_shedUntilCarried 14 = .ok (.if_icmp .eq 38, 3) := by decide +kernel
theorem dX1_shedUntilCarried_17 : decode cX1_shedUntilCarried 17 = .ok (.aload_n 0, 1) := by decide +kernel
theorem dX1_shedUntilCarried_18 : decode cX1_shedUntilCarried 18 = .ok (.invokevirtual 90, 3) := by decide +kernel
theorem dX1_shedUntilCarried_21 : decode cX1_shedUntilCarried 21 = .ok (.ifCond .eq 31, 3) := by decide +kernel
theorem dX1_shedUntilCarried_24 : decode cX1_shedUntilCarried 24 = .ok (.aload_n 0, 1) := by decide +kernel
theorem dX1_shedUntilCarried_25 : decode cX1_shedUntilCarried 25 = .ok (.getfield 50, 3) := by decide +kernel
theorem dX1_shedUntilCarried_28 : decode cX1_shedUntilCarried 28 = .ok (.iload_n 1, 1) := by decide +kernel
theorem dX1_shedUntilCarried_29 : decode cX1_shedUntilCarried 29 = .ok (.dconst 0, 1) := by decide +kernel
theorem dX1_shedUntilCarried_30 : decode cX1_shedUntilCarried 30 = .ok (.dastore, 1) := by decide +kernel
theorem dX1_shedUntilCarried_31 : decode cX1_shedUntilCarried 31 = .ok (.aload_n 0, 1) := by decide +kernel
theorem dX1_shedUntilCarried_32 : decode cX1_shedUntilCarried 32 = .ok (.getfield 17, 3) := by decide +kernel
theorem dX1_shedUntilCarried_35 : decode cX1_shedUntilCarried 35 = .ok (.iload_n 1, 1) := by decide +kernel
theorem dX1_shedUntilCarried_36 : decode cX1_shedUntilCarried 36 = .ok (.dup2, 1) := by decide +kernel
theorem dX1_shedUntilCarried_37 : decode cX1_shedUntilCarried 37 = .ok (.iaload, 1) := by decide +kernel
theorem dX1_shedUntilCarried_38 : decode cX1_shedUntilCarried 38 = .ok (.iconst 1, 1) := by decide +kernel
theorem dX1_shedUntilCarried_39 : decode cX1_shedUntilCarried 39 = .ok (.iadd, 1) := by decide +kernel
theorem dX1_shedUntilCarried_40 : decode cX1_shedUntilCarried 40 = .ok (.iastore, 1) := by decide +kernel
theorem dX1_shedUntilCarried_41 : decode cX1_shedUntilCarried 41 = .ok (.aload_n 0, 1) := by decide +kernel
theorem dX1_shedUntilCarried_42 : decode cX1_shedUntilCarried 42 = .ok (.invokevirtual 162, 3) := by decide +kernel
theorem dX1_shedUntilCarried_45 : decode cX1_shedUntilCarried 45 = .ok (.istore_n 1, 1) := by decide +kernel
theorem dX1_shedUntilCarried_46 : decode cX1_shedUntilCarried 46 = .ok (.iinc 2 1, 3) := by decide +kernel
theorem dX1_shedUntilCarried_49 : decode cX1_shedUntilCarried 49 = .ok (.goto (-42), 3) := by decide +kernel
theorem dX1_shedUntilCarried_52 : decode cX1_shedUntilCarried 52 = .ok (.return_, 1) := by decide +kernel
set_option maxRecDepth 20000 in
theorem ggX1_isOverLine_X1_sumOfNeeds : GoodIn wsX1_isOverLine wsX1_sumOfNeeds := goodIn_r _ [6, 7, 8, 9, 10, 11, 12, 13, 14, 15, 16, 17, 18, 19] (by decide +kernel) (by decide +kernel)
set_option maxRecDepth 20000 in
theorem gX1_isOverLine_X1_sumOfNeeds : GoodIn wsX1_isOverLine (wsV RX1 165 RX1 yX1_sumOfNeeds wsX1_sumOfNeeds) := goodIn_app (goodIn_of _ (by decide +kernel)) ggX1_isOverLine_X1_sumOfNeeds
theorem dX1_isOverLine_0 : decode cX1_isOverLine 0 = .ok (.aload_n 0, 1) := by decide +kernel
theorem dX1_isOverLine_1 : decode cX1_isOverLine 1 = .ok (.invokevirtual 165, 3) := by decide +kernel
theorem dX1_isOverLine_4 : decode cX1_isOverLine 4 = .ok (.ldc2_w 169, 3) := by decide +kernel
theorem dX1_isOverLine_7 : decode cX1_isOverLine 7 = .ok (.dcmp .l, 1) := by decide +kernel
theorem dX1_isOverLine_8 : decode cX1_isOverLine 8 = .ok (.ifCond .le 7, 3) := by decide +kernel
theorem dX1_isOverLine_11 : decode cX1_isOverLine 11 = .ok (.iconst 1, 1) := by decide +kernel
theorem dX1_isOverLine_12 : decode cX1_isOverLine 12 = .ok (.goto 4, 3) := by decide +kernel
theorem dX1_isOverLine_15 : decode cX1_isOverLine 15 = .ok (.iconst 0, 1) := by decide +kernel
theorem dX1_isOverLine_16 : decode cX1_isOverLine 16 = .ok (.ireturn, 1) := by decide +kernel
theorem dX1_nextToShed_0 : decode cX1_nextToShed 0 = .ok (.iconst (-1), 1) := by decide +kernel
theorem dX1_nextToShed_1 : decode cX1_nextToShed 1 = .ok (.istore_n 1, 1) := by decide +kernel
theorem dX1_nextToShed_2 : decode cX1_nextToShed 2 = .ok (.iconst 0, 1) := by decide +kernel
theorem dX1_nextToShed_3 : decode cX1_nextToShed 3 = .ok (.istore_n 2, 1) := by decide +kernel
theorem dX1_nextToShed_4 : decode cX1_nextToShed 4 = .ok (.iload_n 2, 1) := by decide +kernel
theorem dX1_nextToShed_5 : decode cX1_nextToShed 5 = .ok (.iconst 5, 1) := by decide +kernel
theorem dX1_nextToShed_6 : decode cX1_nextToShed 6 = .ok (.if_icmp .ge 61, 3) := by decide +kernel
theorem dX1_nextToShed_9 : decode cX1_nextToShed 9 = .ok (.aload_n 0, 1) := by decide +kernel
theorem dX1_nextToShed_10 : decode cX1_nextToShed 10 = .ok (.getfield 13, 3) := by decide +kernel
theorem dX1_nextToShed_13 : decode cX1_nextToShed 13 = .ok (.iload_n 2, 1) := by decide +kernel
theorem dX1_nextToShed_14 : decode cX1_nextToShed 14 = .ok (.baload, 1) := by decide +kernel
theorem dX1_nextToShed_15 : decode cX1_nextToShed 15 = .ok (.ifCond .eq 18, 3) := by decide +kernel
theorem dX1_nextToShed_18 : decode cX1_nextToShed 18 = .ok (.aload_n 0, 1) := by decide +kernel
theorem dX1_nextToShed_19 : decode cX1_nextToShed 19 = .ok (.getfield 50, 3) := by decide +kernel
theorem dX1_nextToShed_22 : decode cX1_nextToShed 22 = .ok (.iload_n 2, 1) := by decide +kernel
theorem dX1_nextToShed_23 : decode cX1_nextToShed 23 = .ok (.daload, 1) := by decide +kernel
theorem dX1_nextToShed_24 : decode cX1_nextToShed 24 = .ok (.dconst 0, 1) := by decide +kernel
theorem dX1_nextToShed_25 : decode cX1_nextToShed 25 = .ok (.dcmp .l, 1) := by decide +kernel
theorem dX1_nextToShed_26 : decode cX1_nextToShed 26 = .ok (.ifCond .le 7, 3) := by decide +kernel
theorem dX1_nextToShed_29 : decode cX1_nextToShed 29 = .ok (.iconst 1, 1) := by decide +kernel
theorem dX1_nextToShed_30 : decode cX1_nextToShed 30 = .ok (.goto 4, 3) := by decide +kernel
theorem dX1_nextToShed_33 : decode cX1_nextToShed 33 = .ok (.iconst 0, 1) := by decide +kernel
theorem dX1_nextToShed_34 : decode cX1_nextToShed 34 = .ok (.istore_n 3, 1) := by decide +kernel
theorem dX1_nextToShed_35 : decode cX1_nextToShed 35 = .ok (.iload_n 3, 1) := by decide +kernel
theorem dX1_nextToShed_36 : decode cX1_nextToShed 36 = .ok (.ifCond .eq 25, 3) := by decide +kernel
theorem dX1_nextToShed_39 : decode cX1_nextToShed 39 = .ok (.iload_n 1, 1) := by decide +kernel
theorem dX1_nextToShed_40 : decode cX1_nextToShed 40 = .ok (.iconst (-1), 1) := by decide +kernel
theorem dX1_nextToShed_41 : decode cX1_nextToShed 41 = .ok (.if_icmp .eq 18, 3) := by decide +kernel
theorem dX1_nextToShed_44 : decode cX1_nextToShed 44 = .ok (.aload_n 0, 1) := by decide +kernel
theorem dX1_nextToShed_45 : decode cX1_nextToShed 45 = .ok (.getfield 17, 3) := by decide +kernel
theorem dX1_nextToShed_48 : decode cX1_nextToShed 48 = .ok (.iload_n 2, 1) := by decide +kernel
theorem dX1_nextToShed_49 : decode cX1_nextToShed 49 = .ok (.iaload, 1) := by decide +kernel
theorem dX1_nextToShed_50 : decode cX1_nextToShed 50 = .ok (.aload_n 0, 1) := by decide +kernel
theorem dX1_nextToShed_51 : decode cX1_nextToShed 51 = .ok (.getfield 17, 3) := by decide +kernel
theorem dX1_nextToShed_54 : decode cX1_nextToShed 54 = .ok (.iload_n 1, 1) := by decide +kernel
theorem dX1_nextToShed_55 : decode cX1_nextToShed 55 = .ok (.iaload, 1) := by decide +kernel
theorem dX1_nextToShed_56 : decode cX1_nextToShed 56 = .ok (.if_icmp .ge 5, 3) := by decide +kernel
theorem dX1_nextToShed_59 : decode cX1_nextToShed 59 = .ok (.iload_n 2, 1) := by decide +kernel
theorem dX1_nextToShed_60 : decode cX1_nextToShed 60 = .ok (.istore_n 1, 1) := by decide +kernel
theorem dX1_nextToShed_61 : decode cX1_nextToShed 61 = .ok (.iinc 2 1, 3) := by decide +kernel
theorem dX1_nextToShed_64 : decode cX1_nextToShed 64 = .ok (.goto (-60), 3) := by decide +kernel
theorem dX1_nextToShed_67 : decode cX1_nextToShed 67 = .ok (.iload_n 1, 1) := by decide +kernel
theorem dX1_nextToShed_68 : decode cX1_nextToShed 68 = .ok (.ireturn, 1) := by decide +kernel
set_option maxRecDepth 20000 in
theorem ggX1_writeUsed_X0_slot : GoodIn wsX1_writeUsed wsX0_slot := goodIn_r _ [7] (by decide +kernel) (by decide +kernel)
set_option maxRecDepth 20000 in
theorem gX1_writeUsed_X0_slot : GoodIn wsX1_writeUsed (va_wsS RX1 116 yX0_slot wsX0_slot) := goodIn_app (goodIn_of _ (by decide +kernel)) ggX1_writeUsed_X0_slot
theorem dX1_writeUsed_0 : decode cX1_writeUsed 0 = .ok (.iconst 0, 1) := by decide +kernel
theorem dX1_writeUsed_1 : decode cX1_writeUsed 1 = .ok (.istore_n 2, 1) := by decide +kernel
theorem dX1_writeUsed_2 : decode cX1_writeUsed 2 = .ok (.iload_n 2, 1) := by decide +kernel
theorem dX1_writeUsed_3 : decode cX1_writeUsed 3 = .ok (.iconst 5, 1) := by decide +kernel
theorem dX1_writeUsed_4 : decode cX1_writeUsed 4 = .ok (.if_icmp .ge 28, 3) := by decide +kernel
theorem dX1_writeUsed_7 : decode cX1_writeUsed 7 = .ok (.aload_n 0, 1) := by decide +kernel
theorem dX1_writeUsed_8 : decode cX1_writeUsed 8 = .ok (.getfield 33, 3) := by decide +kernel
theorem dX1_writeUsed_11 : decode cX1_writeUsed 11 = .ok (.getfield 128, 3) := by decide +kernel
theorem dX1_writeUsed_14 : decode cX1_writeUsed 14 = .ok (.iload_n 2, 1) := by decide +kernel
theorem dX1_writeUsed_15 : decode cX1_writeUsed 15 = .ok (.iload_n 1, 1) := by decide +kernel
theorem dX1_writeUsed_16 : decode cX1_writeUsed 16 = .ok (.invokestatic 116, 3) := by decide +kernel
theorem dX1_writeUsed_19 : decode cX1_writeUsed 19 = .ok (.aload_n 0, 1) := by decide +kernel
theorem dX1_writeUsed_20 : decode cX1_writeUsed 20 = .ok (.getfield 50, 3) := by decide +kernel
theorem dX1_writeUsed_23 : decode cX1_writeUsed 23 = .ok (.iload_n 2, 1) := by decide +kernel
theorem dX1_writeUsed_24 : decode cX1_writeUsed 24 = .ok (.daload, 1) := by decide +kernel
theorem dX1_writeUsed_25 : decode cX1_writeUsed 25 = .ok (.dastore, 1) := by decide +kernel
theorem dX1_writeUsed_26 : decode cX1_writeUsed 26 = .ok (.iinc 2 1, 3) := by decide +kernel
theorem dX1_writeUsed_29 : decode cX1_writeUsed 29 = .ok (.goto (-27), 3) := by decide +kernel
theorem dX1_writeUsed_32 : decode cX1_writeUsed 32 = .ok (.return_, 1) := by decide +kernel
set_option maxRecDepth 20000 in
theorem ggX1_giveByShare_X1_lesser : GoodIn wsX1_giveByShare wsX1_lesser := goodIn_r _ [8] (by decide +kernel) (by decide +kernel)
set_option maxRecDepth 20000 in
theorem gX1_giveByShare_X1_lesser : GoodIn wsX1_giveByShare (va_wsS RX1 171 yX1_lesser wsX1_lesser) := goodIn_app (goodIn_of _ (by decide +kernel)) ggX1_giveByShare_X1_lesser
set_option maxRecDepth 20000 in
theorem ggX1_giveByShare_X1_giveSun : GoodIn wsX1_giveByShare wsX1_giveSun := goodIn_r _ [12, 13, 14, 3, 15, 16, 17, 18, 19, 20, 21, 22, 23, 24, 25, 26, 27, 28, 29, 30, 31, 32, 33, 34, 35, 36, 37, 38, 39] (by decide +kernel) (by decide +kernel)
set_option maxRecDepth 20000 in
theorem gX1_giveByShare_X1_giveSun : GoodIn wsX1_giveByShare (wsV RX1 175 RX1 yX1_giveSun wsX1_giveSun) := goodIn_app (goodIn_of _ (by decide +kernel)) ggX1_giveByShare_X1_giveSun
theorem dX1_giveByShare_0 : decode cX1_giveByShare 0 = .ok (.iconst 0, 1) := by decide +kernel
theorem dX1_giveByShare_1 : decode cX1_giveByShare 1 = .ok (.istore_n 3, 1) := by decide +kernel
theorem dX1_giveByShare_2 : decode cX1_giveByShare 2 = .ok (.iload_n 3, 1) := by decide +kernel
theorem dX1_giveByShare_3 : decode cX1_giveByShare 3 = .ok (.iconst 5, 1) := by decide +kernel
theorem dX1_giveByShare_4 : decode cX1_giveByShare 4 = .ok (.if_icmp .ge 53, 3) := by decide +kernel
theorem dX1_giveByShare_7 : decode cX1_giveByShare 7 = .ok (.iload_n 2, 1) := by decide +kernel
theorem dX1_giveByShare_8 : decode cX1_giveByShare 8 = .ok (.i2d, 1) := by decide +kernel
theorem dX1_giveByShare_9 : decode cX1_giveByShare 9 = .ok (.aload_n 0, 1) := by decide +kernel
theorem dX1_giveByShare_10 : decode cX1_giveByShare 10 = .ok (.getfield 9, 3) := by decide +kernel
theorem dX1_giveByShare_13 : decode cX1_giveByShare 13 = .ok (.iload_n 3, 1) := by decide +kernel
theorem dX1_giveByShare_14 : decode cX1_giveByShare 14 = .ok (.iaload, 1) := by decide +kernel
theorem dX1_giveByShare_15 : decode cX1_giveByShare 15 = .ok (.i2d, 1) := by decide +kernel
theorem dX1_giveByShare_16 : decode cX1_giveByShare 16 = .ok (.dmul, 1) := by decide +kernel
theorem dX1_giveByShare_17 : decode cX1_giveByShare 17 = .ok (.ldc2_w 75, 3) := by decide +kernel
theorem dX1_giveByShare_20 : decode cX1_giveByShare 20 = .ok (.ddiv, 1) := by decide +kernel
theorem dX1_giveByShare_21 : decode cX1_giveByShare 21 = .ok (.aload_n 0, 1) := by decide +kernel
theorem dX1_giveByShare_22 : decode cX1_giveByShare 22 = .ok (.getfield 50, 3) := by decide +kernel
theorem dX1_giveByShare_25 : decode cX1_giveByShare 25 = .ok (.iload_n 3, 1) := by decide +kernel
theorem dX1_giveByShare_26 : decode cX1_giveByShare 26 = .ok (.daload, 1) := by decide +kernel
theorem dX1_giveByShare_27 : decode cX1_giveByShare 27 = .ok (.invokestatic 171, 3) := by decide +kernel
theorem dX1_giveByShare_30 : decode cX1_giveByShare 30 = .ok (.dstore 4, 2) := by decide +kernel
theorem dX1_giveByShare_32 : decode cX1_giveByShare 32 = .ok (.aload_n 0, 1) := by decide +kernel
theorem dX1_giveByShare_33 : decode cX1_giveByShare 33 = .ok (.iload_n 3, 1) := by decide +kernel
theorem dX1_giveByShare_34 : decode cX1_giveByShare 34 = .ok (.iload_n 1, 1) := by decide +kernel
theorem dX1_giveByShare_35 : decode cX1_giveByShare 35 = .ok (.dload 4, 2) := by decide +kernel
theorem dX1_giveByShare_37 : decode cX1_giveByShare 37 = .ok (.invokevirtual 175, 3) := by decide +kernel
theorem dX1_giveByShare_40 : decode cX1_giveByShare 40 = .ok (.aload_n 0, 1) := by decide +kernel
theorem dX1_giveByShare_41 : decode cX1_giveByShare 41 = .ok (.dup, 1) := by decide +kernel
theorem dX1_giveByShare_42 : decode cX1_giveByShare 42 = .ok (.getfield 53, 3) := by decide +kernel
theorem dX1_giveByShare_45 : decode cX1_giveByShare 45 = .ok (.dload 4, 2) := by decide +kernel
theorem dX1_giveByShare_47 : decode cX1_giveByShare 47 = .ok (.dsub, 1) := by decide +kernel
theorem dX1_giveByShare_48 : decode cX1_giveByShare 48 = .ok (.putfield 53, 3) := by decide +kernel
theorem dX1_giveByShare_51 : decode cX1_giveByShare 51 = .ok (.iinc 3 1, 3) := by decide +kernel
theorem dX1_giveByShare_54 : decode cX1_giveByShare 54 = .ok (.goto (-52), 3) := by decide +kernel
theorem dX1_giveByShare_57 : decode cX1_giveByShare 57 = .ok (.return_, 1) := by decide +kernel
set_option maxRecDepth 20000 in
theorem ggX1_giveByNeed_X1_sumOfNeeds : GoodIn wsX1_giveByNeed wsX1_sumOfNeeds := goodIn_r _ [7, 2, 18, 19, 20, 21, 22, 23, 24, 25, 26, 27, 28, 29] (by decide +kernel) (by decide +kernel)
set_option maxRecDepth 20000 in
theorem gX1_giveByNeed_X1_sumOfNeeds : GoodIn wsX1_giveByNeed (wsV RX1 165 RX1 yX1_sumOfNeeds wsX1_sumOfNeeds) := goodIn_app (goodIn_of _ (by decide +kernel)) ggX1_giveByNeed_X1_sumOfNeeds
set_option maxRecDepth 20000 in
theorem ggX1_giveByNeed_X1_giveSun : GoodIn wsX1_giveByNeed wsX1_giveSun := goodIn_r _ [11, 12, 13, 2, 14, 15, 16, 17, 18, 19, 20, 21, 22, 23, 24, 25, 26, 27, 28, 29, 30, 31, 32, 33, 34, 35, 36, 37, 38] (by decide +kernel) (by decide +kernel)
set_option maxRecDepth 20000 in
theorem gX1_giveByNeed_X1_giveSun : GoodIn wsX1_giveByNeed (wsV RX1 175 RX1 yX1_giveSun wsX1_giveSun) := goodIn_app (goodIn_of _ (by decide +kernel)) ggX1_giveByNeed_X1_giveSun
theorem dX1_giveByNeed_0 : decode cX1_giveByNeed 0 = .ok (.aload_n 0, 1) := by decide +kernel
theorem dX1_giveByNeed_1 : decode cX1_giveByNeed 1 = .ok (.invokevirtual 165, 3) := by decide +kernel
theorem dX1_giveByNeed_4 : decode cX1_giveByNeed 4 = .ok (.dstore_n 2, 1) := by decide +kernel
theorem dX1_giveByNeed_5 : decode cX1_giveByNeed 5 = .ok (.dload_n 2, 1) := by decide +kernel
theorem dX1_giveByNeed_6 : decode cX1_giveByNeed 6 = .ok (.dconst 0, 1) := by decide +kernel
theorem dX1_giveByNeed_7 : decode cX1_giveByNeed 7 = .ok (.dcmp .l, 1) := by decide +kernel
theorem dX1_giveByNeed_8 : decode cX1_giveByNeed 8 = .ok (.ifCond .ne 4, 3) := by decide +kernel
theorem dX1_giveByNeed_11 : decode cX1_giveByNeed 11 = .ok (.return_, 1) := by decide +kernel
theorem dX1_giveByNeed_12 : decode cX1_giveByNeed 12 = .ok (.dload_n 2, 1) := by decide +kernel
theorem dX1_giveByNeed_13 : decode cX1_giveByNeed 13 = .ok (.aload_n 0, 1) := by decide +kernel
theorem dX1_giveByNeed_14 : decode cX1_giveByNeed 14 = .ok (.getfield 53, 3) := by decide +kernel
theorem dX1_giveByNeed_17 : decode cX1_giveByNeed 17 = .ok (.dcmp .g, 1) := by decide +kernel
theorem dX1_giveByNeed_18 : decode cX1_giveByNeed 18 = .ok (.ifCond .gt 43, 3) := by decide +kernel
theorem dX1_giveByNeed_21 : decode cX1_giveByNeed 21 = .ok (.aload_n 0, 1) := by decide +kernel
theorem dX1_giveByNeed_22 : decode cX1_giveByNeed 22 = .ok (.dup, 1) := by decide +kernel
theorem dX1_giveByNeed_23 : decode cX1_giveByNeed 23 = .ok (.getfield 53, 3) := by decide +kernel
theorem dX1_giveByNeed_26 : decode cX1_giveByNeed 26 = .ok (.dload_n 2, 1) := by decide +kernel
theorem dX1_giveByNeed_27 : decode cX1_giveByNeed 27 = .ok (.dsub, 1) := by decide +kernel
theorem dX1_giveByNeed_28 : decode cX1_giveByNeed 28 = .ok (.putfield 53, 3) := by decide +kernel
theorem dX1_giveByNeed_31 : decode cX1_giveByNeed 31 = .ok (.iconst 0, 1) := by decide +kernel
theorem dX1_giveByNeed_32 : decode cX1_giveByNeed 32 = .ok (.istore 4, 2) := by decide +kernel
theorem dX1_giveByNeed_34 : decode cX1_giveByNeed 34 = .ok (.iload 4, 2) := by decide +kernel
theorem dX1_giveByNeed_36 : decode cX1_giveByNeed 36 = .ok (.iconst 5, 1) := by decide +kernel
theorem dX1_giveByNeed_37 : decode cX1_giveByNeed 37 = .ok (.if_icmp .ge 23, 3) := by decide +kernel
theorem dX1_giveByNeed_40 : decode cX1_giveByNeed 40 = .ok (.aload_n 0, 1) := by decide +kernel
theorem dX1_giveByNeed_41 : decode cX1_giveByNeed 41 = .ok (.iload 4, 2) := by decide +kernel
theorem dX1_giveByNeed_43 : decode cX1_giveByNeed 43 = .ok (.iload_n 1, 1) := by decide +kernel
theorem dX1_giveByNeed_44 : decode cX1_giveByNeed 44 = .ok (.aload_n 0, 1) := by decide +kernel
theorem dX1_giveByNeed_45 : decode cX1_giveByNeed 45 = .ok (.getfield 50, 3) := by decide +kernel
theorem dX1_giveByNeed_48 : decode cX1_giveByNeed 48 = .ok (.iload 4, 2) := by decide +kernel
theorem dX1_giveByNeed_50 : decode cX1_giveByNeed 50 = .ok (.daload, 1) := by decide +kernel
theorem dX1_giveByNeed_51 : decode cX1_giveByNeed 51 = .ok (.invokevirtual 175, 3) := by decide +kernel
theorem dX1_giveByNeed_54 : decode cX1_giveByNeed 54 = .ok (.iinc 4 1, 3) := by decide +kernel
theorem dX1_giveByNeed_57 : decode cX1_giveByNeed 57 = .ok (.goto (-23), 3) := by decide +kernel
theorem dX1_giveByNeed_60 : decode cX1_giveByNeed 60 = .ok (.return_, 1) := by decide +kernel
theorem dX1_giveByNeed_61 : decode cX1_giveByNeed 61 = .ok (.iconst 0, 1) := by decide +kernel
theorem dX1_giveByNeed_62 : decode cX1_giveByNeed 62 = .ok (.istore 4, 2) := by decide +kernel
theorem dX1_giveByNeed_64 : decode cX1_giveByNeed 64 = .ok (.iload 4, 2) := by decide +kernel
theorem dX1_giveByNeed_66 : decode cX1_giveByNeed 66 = .ok (.iconst 5, 1) := by decide +kernel
theorem dX1_giveByNeed_67 : decode cX1_giveByNeed 67 = .ok (.if_icmp .ge 30, 3) := by decide +kernel
theorem dX1_giveByNeed_70 : decode cX1_giveByNeed 70 = .ok (.aload_n 0, 1) := by decide +kernel
theorem dX1_giveByNeed_71 : decode cX1_giveByNeed 71 = .ok (.iload 4, 2) := by decide +kernel
theorem dX1_giveByNeed_73 : decode cX1_giveByNeed 73 = .ok (.iload_n 1, 1) := by decide +kernel
theorem dX1_giveByNeed_74 : decode cX1_giveByNeed 74 = .ok (.aload_n 0, 1) := by decide +kernel
theorem dX1_giveByNeed_75 : decode cX1_giveByNeed 75 = .ok (.getfield 53, 3) := by decide +kernel
theorem dX1_giveByNeed_78 : decode cX1_giveByNeed 78 = .ok (.aload_n 0, 1) := by decide +kernel
theorem dX1_giveByNeed_79 : decode cX1_giveByNeed 79 = .ok (.getfield 50, 3) := by decide +kernel
theorem dX1_giveByNeed_82 : decode cX1_giveByNeed 82 = .ok (.iload 4, 2) := by decide +kernel
theorem dX1_giveByNeed_84 : decode cX1_giveByNeed 84 = .ok (.daload, 1) := by decide +kernel
theorem dX1_giveByNeed_85 : decode cX1_giveByNeed 85 = .ok (.dmul, 1) := by decide +kernel
theorem dX1_giveByNeed_86 : decode cX1_giveByNeed 86 = .ok (.dload_n 2, 1) := by decide +kernel
theorem dX1_giveByNeed_87 : decode cX1_giveByNeed 87 = .ok (.ddiv, 1) := by decide +kernel
theorem dX1_giveByNeed_88 : decode cX1_giveByNeed 88 = .ok (.invokevirtual 175, 3) := by decide +kernel
theorem dX1_giveByNeed_91 : decode cX1_giveByNeed 91 = .ok (.iinc 4 1, 3) := by decide +kernel
theorem dX1_giveByNeed_94 : decode cX1_giveByNeed 94 = .ok (.goto (-30), 3) := by decide +kernel
theorem dX1_giveByNeed_97 : decode cX1_giveByNeed 97 = .ok (.aload_n 0, 1) := by decide +kernel
theorem dX1_giveByNeed_98 : decode cX1_giveByNeed 98 = .ok (.dconst 0, 1) := by decide +kernel
theorem dX1_giveByNeed_99 : decode cX1_giveByNeed 99 = .ok (.putfield 53, 3) := by decide +kernel
theorem dX1_giveByNeed_102 : decode cX1_giveByNeed 102 = .ok (.return_, 1) := by decide +kernel
set_option maxRecDepth 20000 in
theorem ggX1_giveSun_X0_slot : GoodIn wsX1_giveSun wsX0_slot := goodIn_r _ [7] (by decide +kernel) (by decide +kernel)
set_option maxRecDepth 20000 in
theorem gX1_giveSun_X0_slot : GoodIn wsX1_giveSun (va_wsS RX1 116 yX0_slot wsX0_slot) := goodIn_app (goodIn_of _ (by decide +kernel)) ggX1_giveSun_X0_slot
theorem dX1_giveSun_0 : decode cX1_giveSun 0 = .ok (.aload_n 0, 1) := by decide +kernel
theorem dX1_giveSun_1 : decode cX1_giveSun 1 = .ok (.getfield 33, 3) := by decide +kernel
theorem dX1_giveSun_4 : decode cX1_giveSun 4 = .ok (.getfield 134, 3) := by decide +kernel
theorem dX1_giveSun_7 : decode cX1_giveSun 7 = .ok (.iload_n 1, 1) := by decide +kernel
theorem dX1_giveSun_8 : decode cX1_giveSun 8 = .ok (.iload_n 2, 1) := by decide +kernel
theorem dX1_giveSun_9 : decode cX1_giveSun 9 = .ok (.invokestatic 116, 3) := by decide +kernel
theorem dX1_giveSun_12 : decode cX1_giveSun 12 = .ok (.dup2, 1) := by decide +kernel
theorem dX1_giveSun_13 : decode cX1_giveSun 13 = .ok (.daload, 1) := by decide +kernel
theorem dX1_giveSun_14 : decode cX1_giveSun 14 = .ok (.dload_n 3, 1) := by decide +kernel
theorem dX1_giveSun_15 : decode cX1_giveSun 15 = .ok (.dadd, 1) := by decide +kernel
theorem dX1_giveSun_16 : decode cX1_giveSun 16 = .ok (.dastore, 1) := by decide +kernel
theorem dX1_giveSun_17 : decode cX1_giveSun 17 = .ok (.aload_n 0, 1) := by decide +kernel
theorem dX1_giveSun_18 : decode cX1_giveSun 18 = .ok (.getfield 50, 3) := by decide +kernel
theorem dX1_giveSun_21 : decode cX1_giveSun 21 = .ok (.iload_n 1, 1) := by decide +kernel
theorem dX1_giveSun_22 : decode cX1_giveSun 22 = .ok (.dup2, 1) := by decide +kernel
theorem dX1_giveSun_23 : decode cX1_giveSun 23 = .ok (.daload, 1) := by decide +kernel
theorem dX1_giveSun_24 : decode cX1_giveSun 24 = .ok (.dload_n 3, 1) := by decide +kernel
theorem dX1_giveSun_25 : decode cX1_giveSun 25 = .ok (.dsub, 1) := by decide +kernel
theorem dX1_giveSun_26 : decode cX1_giveSun 26 = .ok (.dastore, 1) := by decide +kernel
theorem dX1_giveSun_27 : decode cX1_giveSun 27 = .ok (.return_, 1) := by decide +kernel
theorem dX1_storeOrSell_0 : decode cX1_storeOrSell 0 = .ok (.ldc2_w 179, 3) := by decide +kernel
theorem dX1_storeOrSell_3 : decode cX1_storeOrSell 3 = .ok (.aload_n 0, 1) := by decide +kernel
theorem dX1_storeOrSell_4 : decode cX1_storeOrSell 4 = .ok (.getfield 43, 3) := by decide +kernel
theorem dX1_storeOrSell_7 : decode cX1_storeOrSell 7 = .ok (.dsub, 1) := by decide +kernel
theorem dX1_storeOrSell_8 : decode cX1_storeOrSell 8 = .ok (.dstore_n 2, 1) := by decide +kernel
theorem dX1_storeOrSell_9 : decode cX1_storeOrSell 9 = .ok (.aload_n 0, 1) := by decide +kernel
theorem dX1_storeOrSell_10 : decode cX1_storeOrSell 10 = .ok (.getfield 53, 3) := by decide +kernel
theorem dX1_storeOrSell_13 : decode cX1_storeOrSell 13 = .ok (.dload_n 2, 1) := by decide +kernel
theorem dX1_storeOrSell_14 : decode cX1_storeOrSell 14 = .ok (.dcmp .g, 1) := by decide +kernel
theorem dX1_storeOrSell_15 : decode cX1_storeOrSell 15 = .ok (.ifCond .ge 29, 3) := by decide +kernel
theorem dX1_storeOrSell_18 : decode cX1_storeOrSell 18 = .ok (.aload_n 0, 1) := by decide +kernel
theorem dX1_storeOrSell_19 : decode cX1_storeOrSell 19 = .ok (.dup, 1) := by decide +kernel
theorem dX1_storeOrSell_20 : decode cX1_storeOrSell 20 = .ok (.getfield 43, 3) := by decide +kernel
theorem dX1_storeOrSell_23 : decode cX1_storeOrSell 23 = .ok (.aload_n 0, 1) := by decide +kernel
theorem dX1_storeOrSell_24 : decode cX1_storeOrSell 24 = .ok (.getfield 53, 3) := by decide +kernel
theorem dX1_storeOrSell_27 : decode cX1_storeOrSell 27 = .ok (.dadd, 1) := by decide +kernel
theorem dX1_storeOrSell_28 : decode cX1_storeOrSell 28 = .ok (.putfield 43, 3) := by decide +kernel
theorem dX1_storeOrSell_31 : decode cX1_storeOrSell 31 = .ok (.aload_n 0, 1) := by decide +kernel
theorem dX1_storeOrSell_32 : decode cX1_storeOrSell 32 = .ok (.getfield 33, 3) := by decide +kernel
theorem dX1_storeOrSell_35 : decode cX1_storeOrSell 35 = .ok (.getfield 143, 3) := by decide +kernel
theorem dX1_storeOrSell_38 : decode cX1_storeOrSell 38 = .ok (.iload_n 1, 1) := by decide +kernel
theorem dX1_storeOrSell_39 : decode cX1_storeOrSell 39 = .ok (.dconst 0, 1) := by decide +kernel
theorem dX1_storeOrSell_40 : decode cX1_storeOrSell 40 = .ok (.dastore, 1) := by decide +kernel
theorem dX1_storeOrSell_41 : decode cX1_storeOrSell 41 = .ok (.goto 25, 3) := by decide +kernel
theorem dX1_storeOrSell_44 : decode cX1_storeOrSell 44 = .ok (.aload_n 0, 1) := by decide +kernel
theorem dX1_storeOrSell_45 : decode cX1_storeOrSell 45 = .ok (.ldc2_w 179, 3) := by decide +kernel
theorem dX1_storeOrSell_48 : decode cX1_storeOrSell 48 = .ok (.putfield 43, 3) := by decide +kernel
theorem dX1_storeOrSell_51 : decode cX1_storeOrSell 51 = .ok (.aload_n 0, 1) := by decide +kernel
theorem dX1_storeOrSell_52 : decode cX1_storeOrSell 52 = .ok (.getfield 33, 3) := by decide +kernel
theorem dX1_storeOrSell_55 : decode cX1_storeOrSell 55 = .ok (.getfield 143, 3) := by decide +kernel
theorem dX1_storeOrSell_58 : decode cX1_storeOrSell 58 = .ok (.iload_n 1, 1) := by decide +kernel
theorem dX1_storeOrSell_59 : decode cX1_storeOrSell 59 = .ok (.aload_n 0, 1) := by decide +kernel
theorem dX1_storeOrSell_60 : decode cX1_storeOrSell 60 = .ok (.getfield 53, 3) := by decide +kernel
theorem dX1_storeOrSell_63 : decode cX1_storeOrSell 63 = .ok (.dload_n 2, 1) := by decide +kernel
theorem dX1_storeOrSell_64 : decode cX1_storeOrSell 64 = .ok (.dsub, 1) := by decide +kernel
theorem dX1_storeOrSell_65 : decode cX1_storeOrSell 65 = .ok (.dastore, 1) := by decide +kernel
theorem dX1_storeOrSell_66 : decode cX1_storeOrSell 66 = .ok (.return_, 1) := by decide +kernel
set_option maxRecDepth 20000 in
theorem ggX1_giveFromBattery_X1_lesser : GoodIn wsX1_giveFromBattery wsX1_lesser := goodIn_r _ [9] (by decide +kernel) (by decide +kernel)
set_option maxRecDepth 20000 in
theorem gX1_giveFromBattery_X1_lesser : GoodIn wsX1_giveFromBattery (va_wsS RX1 171 yX1_lesser wsX1_lesser) := goodIn_app (goodIn_of _ (by decide +kernel)) ggX1_giveFromBattery_X1_lesser
set_option maxRecDepth 20000 in
theorem ggX1_giveFromBattery_X0_slot : GoodIn wsX1_giveFromBattery wsX0_slot := goodIn_r _ [13] (by decide +kernel) (by decide +kernel)
set_option maxRecDepth 20000 in
theorem gX1_giveFromBattery_X0_slot : GoodIn wsX1_giveFromBattery (va_wsS RX1 116 yX0_slot wsX0_slot) := goodIn_app (goodIn_of _ (by decide +kernel)) ggX1_giveFromBattery_X0_slot
set_option maxRecDepth 20000 in
theorem ggX1_giveFromBattery_X1_behind : GoodIn wsX1_giveFromBattery wsX1_behind := goodIn_r _ [16, 17, 18, 19, 20] (by decide +kernel) (by decide +kernel)
set_option maxRecDepth 20000 in
theorem gX1_giveFromBattery_X1_behind : GoodIn wsX1_giveFromBattery (va_wsS RX1 181 yX1_behind wsX1_behind) := goodIn_app (goodIn_of _ (by decide +kernel)) ggX1_giveFromBattery_X1_behind
theorem dX1_giveFromBattery_0 : decode cX1_giveFromBattery 0 = .ok (.iconst (-1), 1) := by decide +kernel
theorem dX1_giveFromBattery_1 : decode cX1_giveFromBattery 1 = .ok (.istore_n 2, 1) := by decide +kernel
theorem dX1_giveFromBattery_2 : decode cX1_giveFromBattery 2 = .ok (.aload_n 0, 1) := by decide +kernel
theorem dX1_giveFromBattery_3 : decode cX1_giveFromBattery 3 = .ok (.getfield 46, 3) := by decide +kernel
theorem dX1_giveFromBattery_6 : decode cX1_giveFromBattery 6 = .ok (.istore_n 3, 1) := by decide +kernel
theorem dX1_giveFromBattery_7 : decode cX1_giveFromBattery 7 = .ok (.iconst 0, 1) := by decide +kernel
theorem dX1_giveFromBattery_8 : decode cX1_giveFromBattery 8 = .ok (.istore 4, 2) := by decide +kernel
theorem dX1_giveFromBattery_10 : decode cX1_giveFromBattery 10 = .ok (.iload 4, 2) := by decide +kernel
theorem dX1_giveFromBattery_12 : decode cX1_giveFromBattery 12 = .ok (.iconst 5, 1) := by decide +kernel
theorem dX1_giveFromBattery_13 : decode cX1_giveFromBattery 13 = .ok (.if_icmp .ge 75, 3) := by decide +kernel
theorem dX1_giveFromBattery_16 : decode cX1_giveFromBattery 16 = .ok (.aload_n 0, 1) := by decide +kernel
theorem dX1_giveFromBattery_17 : decode cX1_giveFromBattery 17 = .ok (.getfield 50, 3) := by decide +kernel
theorem dX1_giveFromBattery_20 : decode cX1_giveFromBattery 20 = .ok (.iload_n 3, 1) := by decide +kernel
theorem dX1_giveFromBattery_21 : decode cX1_giveFromBattery 21 = .ok (.daload, 1) := by decide +kernel
theorem dX1_giveFromBattery_22 : decode cX1_giveFromBattery 22 = .ok (.aload_n 0, 1) := by decide +kernel
theorem dX1_giveFromBattery_23 : decode cX1_giveFromBattery 23 = .ok (.getfield 43, 3) := by decide +kernel
theorem dX1_giveFromBattery_26 : decode cX1_giveFromBattery 26 = .ok (.invokestatic 171, 3) := by decide +kernel
theorem dX1_giveFromBattery_29 : decode cX1_giveFromBattery 29 = .ok (.dstore 5, 2) := by decide +kernel
theorem dX1_giveFromBattery_31 : decode cX1_giveFromBattery 31 = .ok (.aload_n 0, 1) := by decide +kernel
theorem dX1_giveFromBattery_32 : decode cX1_giveFromBattery 32 = .ok (.getfield 33, 3) := by decide +kernel
theorem dX1_giveFromBattery_35 : decode cX1_giveFromBattery 35 = .ok (.getfield 137, 3) := by decide +kernel
theorem dX1_giveFromBattery_38 : decode cX1_giveFromBattery 38 = .ok (.iload_n 3, 1) := by decide +kernel
theorem dX1_giveFromBattery_39 : decode cX1_giveFromBattery 39 = .ok (.iload_n 1, 1) := by decide +kernel
theorem dX1_giveFromBattery_40 : decode cX1_giveFromBattery 40 = .ok (.invokestatic 116, 3) := by decide +kernel
theorem dX1_giveFromBattery_43 : decode cX1_giveFromBattery 43 = .ok (.dload 5, 2) := by decide +kernel
theorem dX1_giveFromBattery_45 : decode cX1_giveFromBattery 45 = .ok (.dastore, 1) := by decide +kernel
theorem dX1_giveFromBattery_46 : decode cX1_giveFromBattery 46 = .ok (.aload_n 0, 1) := by decide +kernel
theorem dX1_giveFromBattery_47 : decode cX1_giveFromBattery 47 = .ok (.getfield 50, 3) := by decide +kernel
theorem dX1_giveFromBattery_50 : decode cX1_giveFromBattery 50 = .ok (.iload_n 3, 1) := by decide +kernel
theorem dX1_giveFromBattery_51 : decode cX1_giveFromBattery 51 = .ok (.dup2, 1) := by decide +kernel
theorem dX1_giveFromBattery_52 : decode cX1_giveFromBattery 52 = .ok (.daload, 1) := by decide +kernel
theorem dX1_giveFromBattery_53 : decode cX1_giveFromBattery 53 = .ok (.dload 5, 2) := by decide +kernel
theorem dX1_giveFromBattery_55 : decode cX1_giveFromBattery 55 = .ok (.dsub, 1) := by decide +kernel
theorem dX1_giveFromBattery_56 : decode cX1_giveFromBattery 56 = .ok (.dastore, 1) := by decide +kernel
theorem dX1_giveFromBattery_57 : decode cX1_giveFromBattery 57 = .ok (.aload_n 0, 1) := by decide +kernel
theorem dX1_giveFromBattery_58 : decode cX1_giveFromBattery 58 = .ok (.dup, 1) := by decide +kernel
theorem dX1_giveFromBattery_59 : decode cX1_giveFromBattery 59 = .ok (.getfield 43, 3) := by decide +kernel
theorem dX1_giveFromBattery_62 : decode cX1_giveFromBattery 62 = .ok (.dload 5, 2) := by decide +kernel
theorem dX1_giveFromBattery_64 : decode cX1_giveFromBattery 64 = .ok (.dsub, 1) := by decide +kernel
theorem dX1_giveFromBattery_65 : decode cX1_giveFromBattery 65 = .ok (.putfield 43, 3) := by decide +kernel
theorem dX1_giveFromBattery_68 : decode cX1_giveFromBattery 68 = .ok (.dload 5, 2) := by decide +kernel
theorem dX1_giveFromBattery_70 : decode cX1_giveFromBattery 70 = .ok (.dconst 0, 1) := by decide +kernel
theorem dX1_giveFromBattery_71 : decode cX1_giveFromBattery 71 = .ok (.dcmp .l, 1) := by decide +kernel
theorem dX1_giveFromBattery_72 : decode cX1_giveFromBattery 72 = .ok (.ifCond .le 5, 3) := by decide +kernel
theorem dX1_giveFromBattery_75 : decode cX1_giveFromBattery 75 = .ok (.iload_n 3, 1) := by decide +kernel
theorem dX1_giveFromBattery_76 : decode cX1_giveFromBattery 76 = .ok (.istore_n 2, 1) := by decide +kernel
theorem dX1_giveFromBattery_77 : decode cX1_giveFromBattery 77 = .ok (.iload_n 3, 1) := by decide +kernel
theorem dX1_giveFromBattery_78 : decode cX1_giveFromBattery 78 = .ok (.invokestatic 181, 3) := by decide +kernel
theorem dX1_giveFromBattery_81 : decode cX1_giveFromBattery 81 = .ok (.istore_n 3, 1) := by decide +kernel
theorem dX1_giveFromBattery_82 : decode cX1_giveFromBattery 82 = .ok (.iinc 4 1, 3) := by decide +kernel
theorem dX1_giveFromBattery_85 : decode cX1_giveFromBattery 85 = .ok (.goto (-75), 3) := by decide +kernel
theorem dX1_giveFromBattery_88 : decode cX1_giveFromBattery 88 = .ok (.iload_n 2, 1) := by decide +kernel
theorem dX1_giveFromBattery_89 : decode cX1_giveFromBattery 89 = .ok (.iconst (-1), 1) := by decide +kernel
theorem dX1_giveFromBattery_90 : decode cX1_giveFromBattery 90 = .ok (.if_icmp .eq 11, 3) := by decide +kernel
theorem dX1_giveFromBattery_93 : decode cX1_giveFromBattery 93 = .ok (.aload_n 0, 1) := by decide +kernel
theorem dX1_giveFromBattery_94 : decode cX1_giveFromBattery 94 = .ok (.iload_n 2, 1) := by decide +kernel
theorem dX1_giveFromBattery_95 : decode cX1_giveFromBattery 95 = .ok (.invokestatic 181, 3) := by decide +kernel
theorem dX1_giveFromBattery_98 : decode cX1_giveFromBattery 98 = .ok (.putfield 46, 3) := by decide +kernel
theorem dX1_giveFromBattery_101 : decode cX1_giveFromBattery 101 = .ok (.return_, 1) := by decide +kernel
set_option maxRecDepth 20000 in
theorem ggX1_writeBills_X0_slot : GoodIn wsX1_writeBills wsX0_slot := goodIn_r _ [11] (by decide +kernel) (by decide +kernel)
set_option maxRecDepth 20000 in
theorem gX1_writeBills_X0_slot : GoodIn wsX1_writeBills (va_wsS RX1 116 yX0_slot wsX0_slot) := goodIn_app (goodIn_of _ (by decide +kernel)) ggX1_writeBills_X0_slot
theorem dX1_writeBills_0 : decode cX1_writeBills 0 = .ok (.aload_n 0, 1) := by decide +kernel
theorem dX1_writeBills_1 : decode cX1_writeBills 1 = .ok (.getfield 33, 3) := by decide +kernel
theorem dX1_writeBills_4 : decode cX1_writeBills 4 = .ok (.getfield 143, 3) := by decide +kernel
theorem dX1_writeBills_7 : decode cX1_writeBills 7 = .ok (.iload_n 1, 1) := by decide +kernel
theorem dX1_writeBills_8 : decode cX1_writeBills 8 = .ok (.daload, 1) := by decide +kernel
theorem dX1_writeBills_9 : decode cX1_writeBills 9 = .ok (.aload_n 0, 1) := by decide +kernel
theorem dX1_writeBills_10 : decode cX1_writeBills 10 = .ok (.getfield 39, 3) := by decide +kernel
theorem dX1_writeBills_13 : decode cX1_writeBills 13 = .ok (.dmul, 1) := by decide +kernel
theorem dX1_writeBills_14 : decode cX1_writeBills 14 = .ok (.ldc2_w 185, 3) := by decide +kernel
theorem dX1_writeBills_17 : decode cX1_writeBills 17 = .ok (.ddiv, 1) := by decide +kernel
theorem dX1_writeBills_18 : decode cX1_writeBills 18 = .ok (.dstore_n 2, 1) := by decide +kernel
theorem dX1_writeBills_19 : decode cX1_writeBills 19 = .ok (.iconst 0, 1) := by decide +kernel
theorem dX1_writeBills_20 : decode cX1_writeBills 20 = .ok (.istore 4, 2) := by decide +kernel
theorem dX1_writeBills_22 : decode cX1_writeBills 22 = .ok (.iload 4, 2) := by decide +kernel
theorem dX1_writeBills_24 : decode cX1_writeBills 24 = .ok (.iconst 5, 1) := by decide +kernel
theorem dX1_writeBills_25 : decode cX1_writeBills 25 = .ok (.if_icmp .ge 63, 3) := by decide +kernel
theorem dX1_writeBills_28 : decode cX1_writeBills 28 = .ok (.aload_n 0, 1) := by decide +kernel
theorem dX1_writeBills_29 : decode cX1_writeBills 29 = .ok (.getfield 33, 3) := by decide +kernel
theorem dX1_writeBills_32 : decode cX1_writeBills 32 = .ok (.getfield 140, 3) := by decide +kernel
theorem dX1_writeBills_35 : decode cX1_writeBills 35 = .ok (.iload 4, 2) := by decide +kernel
theorem dX1_writeBills_37 : decode cX1_writeBills 37 = .ok (.iload_n 1, 1) := by decide +kernel
theorem dX1_writeBills_38 : decode cX1_writeBills 38 = .ok (.invokestatic 116, 3) := by decide +kernel
theorem dX1_writeBills_41 : decode cX1_writeBills 41 = .ok (.aload_n 0, 1) := by decide +kernel
theorem dX1_writeBills_42 : decode cX1_writeBills 42 = .ok (.getfield 50, 3) := by decide +kernel
theorem dX1_writeBills_45 : decode cX1_writeBills 45 = .ok (.iload 4, 2) := by decide +kernel
theorem dX1_writeBills_47 : decode cX1_writeBills 47 = .ok (.daload, 1) := by decide +kernel
theorem dX1_writeBills_48 : decode cX1_writeBills 48 = .ok (.dastore, 1) := by decide +kernel
theorem dX1_writeBills_49 : decode cX1_writeBills 49 = .ok (.aload_n 0, 1) := by decide +kernel
theorem dX1_writeBills_50 : decode cX1_writeBills 50 = .ok (.getfield 20, 3) := by decide +kernel
theorem dX1_writeBills_53 : decode cX1_writeBills 53 = .ok (.iload 4, 2) := by decide +kernel
theorem dX1_writeBills_55 : decode cX1_writeBills 55 = .ok (.dup2, 1) := by decide +kernel
theorem dX1_writeBills_56 : decode cX1_writeBills 56 = .ok (.daload, 1) := by decide +kernel
theorem dX1_writeBills_57 : decode cX1_writeBills 57 = .ok (.aload_n 0, 1) := by decide +kernel
theorem dX1_writeBills_58 : decode cX1_writeBills 58 = .ok (.getfield 50, 3) := by decide +kernel
theorem dX1_writeBills_61 : decode cX1_writeBills 61 = .ok (.iload 4, 2) := by decide +kernel
theorem dX1_writeBills_63 : decode cX1_writeBills 63 = .ok (.daload, 1) := by decide +kernel
theorem dX1_writeBills_64 : decode cX1_writeBills 64 = .ok (.aload_n 0, 1) := by decide +kernel
theorem dX1_writeBills_65 : decode cX1_writeBills 65 = .ok (.getfield 39, 3) := by decide +kernel
theorem dX1_writeBills_68 : decode cX1_writeBills 68 = .ok (.dmul, 1) := by decide +kernel
theorem dX1_writeBills_69 : decode cX1_writeBills 69 = .ok (.dadd, 1) := by decide +kernel
theorem dX1_writeBills_70 : decode cX1_writeBills 70 = .ok (.dastore, 1) := by decide +kernel
theorem dX1_writeBills_71 : decode cX1_writeBills 71 = .ok (.aload_n 0, 1) := by decide +kernel
theorem dX1_writeBills_72 : decode cX1_writeBills 72 = .ok (.getfield 20, 3) := by decide +kernel
theorem dX1_writeBills_75 : decode cX1_writeBills 75 = .ok (.iload 4, 2) := by decide +kernel
theorem dX1_writeBills_77 : decode cX1_writeBills 77 = .ok (.dup2, 1) := by decide +kernel
theorem dX1_writeBills_78 : decode cX1_writeBills 78 = .ok (.daload, 1) := by decide +kernel
theorem dX1_writeBills_79 : decode cX1_writeBills 79 = .ok (.dload_n 2, 1) := by decide +kernel
theorem dX1_writeBills_80 : decode cX1_writeBills 80 = .ok (.dsub, 1) := by decide +kernel
theorem dX1_writeBills_81 : decode cX1_writeBills 81 = .ok (.dastore, 1) := by decide +kernel
theorem dX1_writeBills_82 : decode cX1_writeBills 82 = .ok (.iinc 4 1, 3) := by decide +kernel
theorem dX1_writeBills_85 : decode cX1_writeBills 85 = .ok (.goto (-63), 3) := by decide +kernel
theorem dX1_writeBills_88 : decode cX1_writeBills 88 = .ok (.return_, 1) := by decide +kernel
theorem dX1_sumOfShares_0 : decode cX1_sumOfShares 0 = .ok (.iconst 0, 1) := by decide +kernel
theorem dX1_sumOfShares_1 : decode cX1_sumOfShares 1 = .ok (.istore_n 1, 1) := by decide +kernel
theorem dX1_sumOfShares_2 : decode cX1_sumOfShares 2 = .ok (.iconst 0, 1) := by decide +kernel
theorem dX1_sumOfShares_3 : decode cX1_sumOfShares 3 = .ok (.istore_n 2, 1) := by decide +kernel
theorem dX1_sumOfShares_4 : decode cX1_sumOfShares 4 = .ok (.iload_n 2, 1) := by decide +kernel
theorem dX1_sumOfShares_5 : decode cX1_sumOfShares 5 = .ok (.iconst 5, 1) := by decide +kernel
theorem dX1_sumOfShares_6 : decode cX1_sumOfShares 6 = .ok (.if_icmp .ge 18, 3) := by decide +kernel
theorem dX1_sumOfShares_9 : decode cX1_sumOfShares 9 = .ok (.iload_n 1, 1) := by decide +kernel
theorem dX1_sumOfShares_10 : decode cX1_sumOfShares 10 = .ok (.aload_n 0, 1) := by decide +kernel
theorem dX1_sumOfShares_11 : decode cX1_sumOfShares 11 = .ok (.getfield 9, 3) := by decide +kernel
theorem dX1_sumOfShares_14 : decode cX1_sumOfShares 14 = .ok (.iload_n 2, 1) := by decide +kernel
theorem dX1_sumOfShares_15 : decode cX1_sumOfShares 15 = .ok (.iaload, 1) := by decide +kernel
theorem dX1_sumOfShares_16 : decode cX1_sumOfShares 16 = .ok (.iadd, 1) := by decide +kernel
theorem dX1_sumOfShares_17 : decode cX1_sumOfShares 17 = .ok (.istore_n 1, 1) := by decide +kernel
theorem dX1_sumOfShares_18 : decode cX1_sumOfShares 18 = .ok (.iinc 2 1, 3) := by decide +kernel
theorem dX1_sumOfShares_21 : decode cX1_sumOfShares 21 = .ok (.goto (-17), 3) := by decide +kernel
theorem dX1_sumOfShares_24 : decode cX1_sumOfShares 24 = .ok (.iload_n 1, 1) := by decide +kernel
theorem dX1_sumOfShares_25 : decode cX1_sumOfShares 25 = .ok (.ireturn, 1) := by decide +kernel
theorem dX1_sumOfNeeds_0 : decode cX1_sumOfNeeds 0 = .ok (.dconst 0, 1) := by decide +kernel
theorem dX1_sumOfNeeds_1 : decode cX1_sumOfNeeds 1 = .ok (.dstore_n 1, 1) := by decide +kernel
theorem dX1_sumOfNeeds_2 : decode cX1_sumOfNeeds 2 = .ok (.iconst 0, 1) := by decide +kernel
theorem dX1_sumOfNeeds_3 : decode cX1_sumOfNeeds 3 = .ok (.istore_n 3, 1) := by decide +kernel
theorem dX1_sumOfNeeds_4 : decode cX1_sumOfNeeds 4 = .ok (.iload_n 3, 1) := by decide +kernel
theorem dX1_sumOfNeeds_5 : decode cX1_sumOfNeeds 5 = .ok (.iconst 5, 1) := by decide +kernel
theorem dX1_sumOfNeeds_6 : decode cX1_sumOfNeeds 6 = .ok (.if_icmp .ge 18, 3) := by decide +kernel
theorem dX1_sumOfNeeds_9 : decode cX1_sumOfNeeds 9 = .ok (.dload_n 1, 1) := by decide +kernel
theorem dX1_sumOfNeeds_10 : decode cX1_sumOfNeeds 10 = .ok (.aload_n 0, 1) := by decide +kernel
theorem dX1_sumOfNeeds_11 : decode cX1_sumOfNeeds 11 = .ok (.getfield 50, 3) := by decide +kernel
theorem dX1_sumOfNeeds_14 : decode cX1_sumOfNeeds 14 = .ok (.iload_n 3, 1) := by decide +kernel
theorem dX1_sumOfNeeds_15 : decode cX1_sumOfNeeds 15 = .ok (.daload, 1) := by decide +kernel
theorem dX1_sumOfNeeds_16 : decode cX1_sumOfNeeds 16 = .ok (.dadd, 1) := by decide +kernel
theorem dX1_sumOfNeeds_17 : decode cX1_sumOfNeeds 17 = .ok (.dstore_n 1, 1) := by decide +kernel
theorem dX1_sumOfNeeds_18 : decode cX1_sumOfNeeds 18 = .ok (.iinc 3 1, 3) := by decide +kernel
theorem dX1_sumOfNeeds_21 : decode cX1_sumOfNeeds 21 = .ok (.goto (-17), 3) := by decide +kernel
theorem dX1_sumOfNeeds_24 : decode cX1_sumOfNeeds 24 = .ok (.dload_n 1, 1) := by decide +kernel
theorem dX1_sumOfNeeds_25 : decode cX1_sumOfNeeds 25 = .ok (.dreturn, 1) := by decide +kernel
set_option maxRecDepth 20000 in
theorem ggX1_behind_J9_floorMod_7cf53 : GoodIn wsX1_behind wsJ9_floorMod_7cf53 := goodIn_r _ [4] (by decide +kernel) (by decide +kernel)
set_option maxRecDepth 20000 in
theorem gX1_behind_J9_floorMod_7cf53 : GoodIn wsX1_behind (va_wsS RX1 187 yJ9_floorMod_7cf53 wsJ9_floorMod_7cf53) := goodIn_app (goodIn_of _ (by decide +kernel)) ggX1_behind_J9_floorMod_7cf53
theorem dX1_behind_0 : decode cX1_behind 0 = .ok (.iload_n 0, 1) := by decide +kernel
theorem dX1_behind_1 : decode cX1_behind 1 = .ok (.iconst 1, 1) := by decide +kernel
theorem dX1_behind_2 : decode cX1_behind 2 = .ok (.iadd, 1) := by decide +kernel
theorem dX1_behind_3 : decode cX1_behind 3 = .ok (.iconst 5, 1) := by decide +kernel
theorem dX1_behind_4 : decode cX1_behind 4 = .ok (.invokestatic 187, 3) := by decide +kernel
theorem dX1_behind_7 : decode cX1_behind 7 = .ok (.ireturn, 1) := by decide +kernel
theorem dX1_lesser_0 : decode cX1_lesser 0 = .ok (.dload_n 0, 1) := by decide +kernel
theorem dX1_lesser_1 : decode cX1_lesser 1 = .ok (.dload_n 2, 1) := by decide +kernel
theorem dX1_lesser_2 : decode cX1_lesser 2 = .ok (.dcmp .g, 1) := by decide +kernel
theorem dX1_lesser_3 : decode cX1_lesser 3 = .ok (.ifCond .ge 7, 3) := by decide +kernel
theorem dX1_lesser_6 : decode cX1_lesser 6 = .ok (.dload_n 0, 1) := by decide +kernel
theorem dX1_lesser_7 : decode cX1_lesser 7 = .ok (.goto 4, 3) := by decide +kernel
theorem dX1_lesser_10 : decode cX1_lesser 10 = .ok (.dload_n 2, 1) := by decide +kernel
theorem dX1_lesser_11 : decode cX1_lesser 11 = .ok (.dreturn, 1) := by decide +kernel
theorem dX2_init_0 : decode cX2_init 0 = .ok (.aload_n 0, 1) := by decide +kernel
theorem dX2_init_1 : decode cX2_init 1 = .ok (.invokespecial 1, 3) := by decide +kernel
theorem dX2_init_4 : decode cX2_init 4 = .ok (.aload_n 0, 1) := by decide +kernel
theorem dX2_init_5 : decode cX2_init 5 = .ok (.iconst 5, 1) := by decide +kernel
theorem dX2_init_6 : decode cX2_init 6 = .ok (.newarray .int, 2) := by decide +kernel
theorem dX2_init_8 : decode cX2_init 8 = .ok (.putfield 7, 3) := by decide +kernel
theorem dX2_init_11 : decode cX2_init 11 = .ok (.aload_n 0, 1) := by decide +kernel
theorem dX2_init_12 : decode cX2_init 12 = .ok (.iconst 5, 1) := by decide +kernel
theorem dX2_init_13 : decode cX2_init 13 = .ok (.newarray .boolean, 2) := by decide +kernel
theorem dX2_init_15 : decode cX2_init 15 = .ok (.putfield 13, 3) := by decide +kernel
theorem dX2_init_18 : decode cX2_init 18 = .ok (.aload_n 0, 1) := by decide +kernel
theorem dX2_init_19 : decode cX2_init 19 = .ok (.iconst 5, 1) := by decide +kernel
theorem dX2_init_20 : decode cX2_init 20 = .ok (.newarray .int, 2) := by decide +kernel
theorem dX2_init_22 : decode cX2_init 22 = .ok (.putfield 17, 3) := by decide +kernel
theorem dX2_init_25 : decode cX2_init 25 = .ok (.aload_n 0, 1) := by decide +kernel
theorem dX2_init_26 : decode cX2_init 26 = .ok (.iconst 5, 1) := by decide +kernel
theorem dX2_init_27 : decode cX2_init 27 = .ok (.newarray .double, 2) := by decide +kernel
theorem dX2_init_29 : decode cX2_init 29 = .ok (.putfield 20, 3) := by decide +kernel
theorem dX2_init_32 : decode cX2_init 32 = .ok (.aload_n 0, 1) := by decide +kernel
theorem dX2_init_33 : decode cX2_init 33 = .ok (.ldc2_w 24, 3) := by decide +kernel
theorem dX2_init_36 : decode cX2_init 36 = .ok (.putfield 26, 3) := by decide +kernel
theorem dX2_init_39 : decode cX2_init 39 = .ok (.aload_n 0, 1) := by decide +kernel
theorem dX2_init_40 : decode cX2_init 40 = .ok (.iconst 5, 1) := by decide +kernel
theorem dX2_init_41 : decode cX2_init 41 = .ok (.newarray .boolean, 2) := by decide +kernel
theorem dX2_init_43 : decode cX2_init 43 = .ok (.putfield 30, 3) := by decide +kernel
theorem dX2_init_46 : decode cX2_init 46 = .ok (.aload_n 0, 1) := by decide +kernel
theorem dX2_init_47 : decode cX2_init 47 = .ok (.iconst 5, 1) := by decide +kernel
theorem dX2_init_48 : decode cX2_init 48 = .ok (.newarray .int, 2) := by decide +kernel
theorem dX2_init_50 : decode cX2_init 50 = .ok (.putfield 33, 3) := by decide +kernel
theorem dX2_init_53 : decode cX2_init 53 = .ok (.aload_n 0, 1) := by decide +kernel
theorem dX2_init_54 : decode cX2_init 54 = .ok (.sipush 300, 3) := by decide +kernel
theorem dX2_init_57 : decode cX2_init 57 = .ok (.newarray .boolean, 2) := by decide +kernel
theorem dX2_init_59 : decode cX2_init 59 = .ok (.putfield 36, 3) := by decide +kernel
theorem dX2_init_62 : decode cX2_init 62 = .ok (.aload_n 0, 1) := by decide +kernel
theorem dX2_init_63 : decode cX2_init 63 = .ok (.sipush 300, 3) := by decide +kernel
theorem dX2_init_66 : decode cX2_init 66 = .ok (.newarray .double, 2) := by decide +kernel
theorem dX2_init_68 : decode cX2_init 68 = .ok (.putfield 39, 3) := by decide +kernel
theorem dX2_init_71 : decode cX2_init 71 = .ok (.aload_n 0, 1) := by decide +kernel
theorem dX2_init_72 : decode cX2_init 72 = .ok (.sipush 300, 3) := by decide +kernel
theorem dX2_init_75 : decode cX2_init 75 = .ok (.newarray .double, 2) := by decide +kernel
theorem dX2_init_77 : decode cX2_init 77 = .ok (.putfield 42, 3) := by decide +kernel
theorem dX2_init_80 : decode cX2_init 80 = .ok (.aload_n 0, 1) := by decide +kernel
theorem dX2_init_81 : decode cX2_init 81 = .ok (.sipush 300, 3) := by decide +kernel
theorem dX2_init_84 : decode cX2_init 84 = .ok (.newarray .double, 2) := by decide +kernel
theorem dX2_init_86 : decode cX2_init 86 = .ok (.putfield 45, 3) := by decide +kernel
theorem dX2_init_89 : decode cX2_init 89 = .ok (.aload_n 0, 1) := by decide +kernel
theorem dX2_init_90 : decode cX2_init 90 = .ok (.sipush 300, 3) := by decide +kernel
theorem dX2_init_93 : decode cX2_init 93 = .ok (.newarray .double, 2) := by decide +kernel
theorem dX2_init_95 : decode cX2_init 95 = .ok (.putfield 48, 3) := by decide +kernel
theorem dX2_init_98 : decode cX2_init 98 = .ok (.aload_n 0, 1) := by decide +kernel
theorem dX2_init_99 : decode cX2_init 99 = .ok (.sipush 300, 3) := by decide +kernel
theorem dX2_init_102 : decode cX2_init 102 = .ok (.newarray .double, 2) := by decide +kernel
theorem dX2_init_104 : decode cX2_init 104 = .ok (.putfield 51, 3) := by decide +kernel
theorem dX2_init_107 : decode cX2_init 107 = .ok (.aload_n 0, 1) := by decide +kernel
theorem dX2_init_108 : decode cX2_init 108 = .ok (.bipush 60, 2) := by decide +kernel
theorem dX2_init_110 : decode cX2_init 110 = .ok (.newarray .double, 2) := by decide +kernel
theorem dX2_init_112 : decode cX2_init 112 = .ok (.putfield 54, 3) := by decide +kernel
theorem dX2_init_115 : decode cX2_init 115 = .ok (.aload_n 0, 1) := by decide +kernel
theorem dX2_init_116 : decode cX2_init 116 = .ok (.bipush 60, 2) := by decide +kernel
theorem dX2_init_118 : decode cX2_init 118 = .ok (.newarray .double, 2) := by decide +kernel
theorem dX2_init_120 : decode cX2_init 120 = .ok (.putfield 57, 3) := by decide +kernel
theorem dX2_init_123 : decode cX2_init 123 = .ok (.aload_n 0, 1) := by decide +kernel
theorem dX2_init_124 : decode cX2_init 124 = .ok (.iconst 5, 1) := by decide +kernel
theorem dX2_init_125 : decode cX2_init 125 = .ok (.newarray .double, 2) := by decide +kernel
theorem dX2_init_127 : decode cX2_init 127 = .ok (.putfield 60, 3) := by decide +kernel
theorem dX2_init_130 : decode cX2_init 130 = .ok (.return_, 1) := by decide +kernel
theorem dX2_thrown_0 : decode cX2_thrown 0 = .ok (.aload_n 0, 1) := by decide +kernel
theorem dX2_thrown_1 : decode cX2_thrown 1 = .ok (.getfield 63, 3) := by decide +kernel
theorem dX2_thrown_4 : decode cX2_thrown 4 = .ok (.ireturn, 1) := by decide +kernel
theorem dX2_holds_0 : decode cX2_holds 0 = .ok (.aload_n 0, 1) := by decide +kernel
theorem dX2_holds_1 : decode cX2_holds 1 = .ok (.iload_n 1, 1) := by decide +kernel
theorem dX2_holds_2 : decode cX2_holds 2 = .ok (.putfield 63, 3) := by decide +kernel
theorem dX2_holds_5 : decode cX2_holds 5 = .ok (.iload_n 1, 1) := by decide +kernel
theorem dX2_holds_6 : decode cX2_holds 6 = .ok (.ifCond .ne 7, 3) := by decide +kernel
theorem dX2_holds_9 : decode cX2_holds 9 = .ok (.iconst 1, 1) := by decide +kernel
theorem dX2_holds_10 : decode cX2_holds 10 = .ok (.goto 4, 3) := by decide +kernel
theorem dX2_holds_13 : decode cX2_holds 13 = .ok (.iconst 0, 1) := by decide +kernel
theorem dX2_holds_14 : decode cX2_holds 14 = .ok (.ireturn, 1) := by decide +kernel
theorem dX2_in_0 : decode cX2_in 0 = .ok (.iload_n 0, 1) := by decide +kernel
theorem dX2_in_1 : decode cX2_in 1 = .ok (.iload_n 1, 1) := by decide +kernel
theorem dX2_in_2 : decode cX2_in 2 = .ok (.if_icmp .lt 12, 3) := by decide +kernel
theorem dX2_in_5 : decode cX2_in 5 = .ok (.iload_n 0, 1) := by decide +kernel
theorem dX2_in_6 : decode cX2_in 6 = .ok (.iload_n 2, 1) := by decide +kernel
theorem dX2_in_7 : decode cX2_in 7 = .ok (.if_icmp .gt 7, 3) := by decide +kernel
theorem dX2_in_10 : decode cX2_in 10 = .ok (.iconst 1, 1) := by decide +kernel
theorem dX2_in_11 : decode cX2_in 11 = .ok (.goto 4, 3) := by decide +kernel
theorem dX2_in_14 : decode cX2_in 14 = .ok (.iconst 0, 1) := by decide +kernel
theorem dX2_in_15 : decode cX2_in 15 = .ok (.ireturn, 1) := by decide +kernel
set_option maxRecDepth 20000 in
theorem ggX2_isOwner_X2_in : GoodIn wsX2_isOwner wsX2_in := goodIn_r _ [4] (by decide +kernel) (by decide +kernel)
set_option maxRecDepth 20000 in
theorem gX2_isOwner_X2_in : GoodIn wsX2_isOwner (va_wsS RX2 67 yX2_in wsX2_in) := goodIn_app (goodIn_of _ (by decide +kernel)) ggX2_isOwner_X2_in
theorem dX2_isOwner_0 : decode cX2_isOwner 0 = .ok (.iload_n 0, 1) := by decide +kernel
theorem dX2_isOwner_1 : decode cX2_isOwner 1 = .ok (.iconst 0, 1) := by decide +kernel
theorem dX2_isOwner_2 : decode cX2_isOwner 2 = .ok (.iconst 4, 1) := by decide +kernel
theorem dX2_isOwner_3 : decode cX2_isOwner 3 = .ok (.invokestatic 67, 3) := by decide +kernel
theorem dX2_isOwner_6 : decode cX2_isOwner 6 = .ok (.ireturn, 1) := by decide +kernel
theorem dX2_least_0 : decode cX2_least 0 = .ok (.dload_n 0, 1) := by decide +kernel
theorem dX2_least_1 : decode cX2_least 1 = .ok (.dload_n 2, 1) := by decide +kernel
theorem dX2_least_2 : decode cX2_least 2 = .ok (.dcmp .g, 1) := by decide +kernel
theorem dX2_least_3 : decode cX2_least 3 = .ok (.ifCond .ge 7, 3) := by decide +kernel
theorem dX2_least_6 : decode cX2_least 6 = .ok (.dload_n 0, 1) := by decide +kernel
theorem dX2_least_7 : decode cX2_least 7 = .ok (.goto 4, 3) := by decide +kernel
theorem dX2_least_10 : decode cX2_least 10 = .ok (.dload_n 2, 1) := by decide +kernel
theorem dX2_least_11 : decode cX2_least 11 = .ok (.dreturn, 1) := by decide +kernel
theorem dX2_others_0 : decode cX2_others 0 = .ok (.iconst 0, 1) := by decide +kernel
theorem dX2_others_1 : decode cX2_others 1 = .ok (.istore_n 2, 1) := by decide +kernel
theorem dX2_others_2 : decode cX2_others 2 = .ok (.iconst 0, 1) := by decide +kernel
theorem dX2_others_3 : decode cX2_others 3 = .ok (.istore_n 3, 1) := by decide +kernel
theorem dX2_others_4 : decode cX2_others 4 = .ok (.iload_n 3, 1) := by decide +kernel
theorem dX2_others_5 : decode cX2_others 5 = .ok (.iconst 5, 1) := by decide +kernel
theorem dX2_others_6 : decode cX2_others 6 = .ok (.if_icmp .ge 27, 3) := by decide +kernel
theorem dX2_others_9 : decode cX2_others 9 = .ok (.iload_n 2, 1) := by decide +kernel
theorem dX2_others_10 : decode cX2_others 10 = .ok (.iload_n 3, 1) := by decide +kernel
theorem dX2_others_11 : decode cX2_others 11 = .ok (.iload_n 1, 1) := by decide +kernel
theorem dX2_others_12 : decode cX2_others 12 = .ok (.if_icmp .ne 7, 3) := by decide +kernel
theorem dX2_others_15 : decode cX2_others 15 = .ok (.iconst 0, 1) := by decide +kernel
theorem dX2_others_16 : decode cX2_others 16 = .ok (.goto 9, 3) := by decide +kernel
theorem dX2_others_19 : decode cX2_others 19 = .ok (.aload_n 0, 1) := by decide +kernel
theorem dX2_others_20 : decode cX2_others 20 = .ok (.getfield 7, 3) := by decide +kernel
theorem dX2_others_23 : decode cX2_others 23 = .ok (.iload_n 3, 1) := by decide +kernel
theorem dX2_others_24 : decode cX2_others 24 = .ok (.iaload, 1) := by decide +kernel
theorem dX2_others_25 : decode cX2_others 25 = .ok (.iadd, 1) := by decide +kernel
theorem dX2_others_26 : decode cX2_others 26 = .ok (.istore_n 2, 1) := by decide +kernel
theorem dX2_others_27 : decode cX2_others 27 = .ok (.iinc 3 1, 3) := by decide +kernel
theorem dX2_others_30 : decode cX2_others 30 = .ok (.goto (-26), 3) := by decide +kernel
theorem dX2_others_33 : decode cX2_others 33 = .ok (.iload_n 2, 1) := by decide +kernel
theorem dX2_others_34 : decode cX2_others 34 = .ok (.ireturn, 1) := by decide +kernel
set_option maxRecDepth 20000 in
theorem ggX2_setShare_X2_isOwner : GoodIn wsX2_setShare wsX2_isOwner := goodIn_r _ [5, 6, 7, 4, 8] (by decide +kernel) (by decide +kernel)
set_option maxRecDepth 20000 in
theorem gX2_setShare_X2_isOwner : GoodIn wsX2_setShare (va_wsS RX2 71 yX2_isOwner wsX2_isOwner) := goodIn_app (goodIn_of _ (by decide +kernel)) ggX2_setShare_X2_isOwner
set_option maxRecDepth 20000 in
theorem ggX2_setShare_X2_in : GoodIn wsX2_setShare wsX2_in := goodIn_r _ [8] (by decide +kernel) (by decide +kernel)
set_option maxRecDepth 20000 in
theorem gX2_setShare_X2_in : GoodIn wsX2_setShare (va_wsS RX2 67 yX2_in wsX2_in) := goodIn_app (goodIn_of _ (by decide +kernel)) ggX2_setShare_X2_in
set_option maxRecDepth 20000 in
theorem ggX2_setShare_X2_others : GoodIn wsX2_setShare wsX2_others := goodIn_r _ [12, 1, 18, 19, 20, 21, 22, 23, 24, 25, 26, 27, 28, 29, 30, 31, 32, 33, 34, 35, 36, 37] (by decide +kernel) (by decide +kernel)
set_option maxRecDepth 20000 in
theorem gX2_setShare_X2_others : GoodIn wsX2_setShare (wsV RX2 75 RX2 yX2_others wsX2_others) := goodIn_app (goodIn_of _ (by decide +kernel)) ggX2_setShare_X2_others
set_option maxRecDepth 20000 in
theorem ggX2_setShare_X2_holds : GoodIn wsX2_setShare wsX2_holds := goodIn_r _ [16, 17, 18, 19, 20, 21, 22, 23, 24, 25, 26, 27, 28, 29, 30, 31, 32, 33, 34, 35, 36, 37] (by decide +kernel) (by decide +kernel)
set_option maxRecDepth 20000 in
theorem gX2_setShare_X2_holds : GoodIn wsX2_setShare (wsV RX2 79 RX2 yX2_holds wsX2_holds) := goodIn_app (goodIn_of _ (by decide +kernel)) ggX2_setShare_X2_holds
theorem dX2_setShare_0 : decode cX2_setShare 0 = .ok (.iload_n 1, 1) := by decide +kernel
theorem dX2_setShare_1 : decode cX2_setShare 1 = .ok (.invokestatic 71, 3) := by decide +kernel
theorem dX2_setShare_4 : decode cX2_setShare 4 = .ok (.ifCond .eq 16, 3) := by decide +kernel
theorem dX2_setShare_7 : decode cX2_setShare 7 = .ok (.iload_n 2, 1) := by decide +kernel
theorem dX2_setShare_8 : decode cX2_setShare 8 = .ok (.iconst 0, 1) := by decide +kernel
theorem dX2_setShare_9 : decode cX2_setShare 9 = .ok (.iconst 4, 1) := by decide +kernel
theorem dX2_setShare_10 : decode cX2_setShare 10 = .ok (.invokestatic 67, 3) := by decide +kernel
theorem dX2_setShare_13 : decode cX2_setShare 13 = .ok (.ifCond .eq 7, 3) := by decide +kernel
theorem dX2_setShare_16 : decode cX2_setShare 16 = .ok (.iconst 1, 1) := by decide +kernel
theorem dX2_setShare_17 : decode cX2_setShare 17 = .ok (.goto 4, 3) := by decide +kernel
theorem dX2_setShare_20 : decode cX2_setShare 20 = .ok (.iconst 0, 1) := by decide +kernel
theorem dX2_setShare_21 : decode cX2_setShare 21 = .ok (.istore_n 3, 1) := by decide +kernel
theorem dX2_setShare_22 : decode cX2_setShare 22 = .ok (.aload_n 0, 1) := by decide +kernel
theorem dX2_setShare_23 : decode cX2_setShare 23 = .ok (.iload_n 3, 1) := by decide +kernel
theorem dX2_setShare_24 : decode cX2_setShare 24 = .ok (.ifCond .ne 7, 3) := by decide +kernel
theorem dX2_setShare_27 : decode cX2_setShare 27 = .ok (.iconst 1, 1) := by decide +kernel
theorem dX2_setShare_28 : decode cX2_setShare 28 = .ok (.goto 19, 3) := by decide +kernel
theorem dX2_setShare_31 : decode cX2_setShare 31 = .ok (.aload_n 0, 1) := by decide +kernel
theorem dX2_setShare_32 : decode cX2_setShare 32 = .ok (.iload_n 1, 1) := by decide +kernel
theorem dX2_setShare_33 : decode cX2_setShare 33 = .ok (.invokevirtual 75, 3) := by decide +kernel
theorem dX2_setShare_36 : decode cX2_setShare 36 = .ok (.iload_n 2, 1) := by decide +kernel
theorem dX2_setShare_37 : decode cX2_setShare 37 = .ok (.iadd, 1) := by decide +kernel
theorem dX2_setShare_38 : decode cX2_setShare 38 = .ok (.iconst 4, 1) := by decide +kernel
theorem dX2_setShare_39 : decode cX2_setShare 39 = .ok (.if_icmp .le 7, 3) := by decide +kernel
theorem dX2_setShare_42 : decode cX2_setShare 42 = .ok (.iconst 2, 1) := by decide +kernel
theorem dX2_setShare_43 : decode cX2_setShare 43 = .ok (.goto 4, 3) := by decide +kernel
theorem dX2_setShare_46 : decode cX2_setShare 46 = .ok (.iconst 0, 1) := by decide +kernel
theorem dX2_setShare_47 : decode cX2_setShare 47 = .ok (.invokevirtual 79, 3) := by decide +kernel
theorem dX2_setShare_50 : decode cX2_setShare 50 = .ok (.ifCond .ne 5, 3) := by decide +kernel
theorem dX2_setShare_53 : decode cX2_setShare 53 = .ok (.iconst 0, 1) := by decide +kernel
theorem dX2_setShare_54 : decode cX2_setShare 54 = .ok (.ireturn, 1) := by decide +kernel
theorem dX2_setShare_55 : decode cX2_setShare 55 = .ok (.aload_n 0, 1) := by decide +kernel
theorem dX2_setShare_56 : decode cX2_setShare 56 = .ok (.getfield 7, 3) := by decide +kernel
theorem dX2_setShare_59 : decode cX2_setShare 59 = .ok (.iload_n 1, 1) := by decide +kernel
theorem dX2_setShare_60 : decode cX2_setShare 60 = .ok (.iaload, 1) := by decide +kernel
theorem dX2_setShare_61 : decode cX2_setShare 61 = .ok (.istore 4, 2) := by decide +kernel
theorem dX2_setShare_63 : decode cX2_setShare 63 = .ok (.aload_n 0, 1) := by decide +kernel
theorem dX2_setShare_64 : decode cX2_setShare 64 = .ok (.getfield 7, 3) := by decide +kernel
theorem dX2_setShare_67 : decode cX2_setShare 67 = .ok (.iload_n 1, 1) := by decide +kernel
theorem dX2_setShare_68 : decode cX2_setShare 68 = .ok (.iload_n 2, 1) := by decide +kernel
theorem dX2_setShare_69 : decode cX2_setShare 69 = .ok (.iastore, 1) := by decide +kernel
theorem dX2_setShare_70 : decode cX2_setShare 70 = .ok (.iload 4, 2) := by decide +kernel
theorem dX2_setShare_72 : decode cX2_setShare 72 = .ok (.ireturn, 1) := by decide +kernel
set_option maxRecDepth 20000 in
theorem ggX2_setSwitch_X2_isOwner : GoodIn wsX2_setSwitch wsX2_isOwner := goodIn_r _ [5, 6, 7, 4, 8] (by decide +kernel) (by decide +kernel)
set_option maxRecDepth 20000 in
theorem gX2_setSwitch_X2_isOwner : GoodIn wsX2_setSwitch (va_wsS RX2 71 yX2_isOwner wsX2_isOwner) := goodIn_app (goodIn_of _ (by decide +kernel)) ggX2_setSwitch_X2_isOwner
set_option maxRecDepth 20000 in
theorem ggX2_setSwitch_X2_holds : GoodIn wsX2_setSwitch wsX2_holds := goodIn_r _ [12, 13, 14, 15, 16, 17, 18, 19, 20, 21, 22, 23, 24, 25, 26, 27, 28, 29, 30, 31, 32, 33] (by decide +kernel) (by decide +kernel)
set_option maxRecDepth 20000 in
theorem gX2_setSwitch_X2_holds : GoodIn wsX2_setSwitch (wsV RX2 79 RX2 yX2_holds wsX2_holds) := goodIn_app (goodIn_of _ (by decide +kernel)) ggX2_setSwitch_X2_holds
theorem dX2_setSwitch_0 : decode cX2_setSwitch 0 = .ok (.aload_n 0, 1) := by decide +kernel
theorem dX2_setSwitch_1 : decode cX2_setSwitch 1 = .ok (.iload_n 1, 1) := by decide +kernel
theorem dX2_setSwitch_2 : decode cX2_setSwitch 2 = .ok (.invokestatic 71, 3) := by decide +kernel
theorem dX2_setSwitch_5 : decode cX2_setSwitch 5 = .ok (.ifCond .eq 7, 3) := by decide +kernel
theorem dX2_setSwitch_8 : decode cX2_setSwitch 8 = .ok (.iconst 0, 1) := by decide +kernel
theorem dX2_setSwitch_9 : decode cX2_setSwitch 9 = .ok (.goto 4, 3) := by decide +kernel
theorem dX2_setSwitch_12 : decode cX2_setSwitch 12 = .ok (.iconst 1, 1) := by decide +kernel
theorem dX2_setSwitch_13 : decode cX2_setSwitch 13 = .ok (.invokevirtual 79, 3) := by decide +kernel
theorem dX2_setSwitch_16 : decode cX2_setSwitch 16 = .ok (.ifCond .ne 5, 3) := by decide +kernel
theorem dX2_setSwitch_19 : decode cX2_setSwitch 19 = .ok (.iconst 0, 1) := by decide +kernel
theorem dX2_setSwitch_20 : decode cX2_setSwitch 20 = .ok (.ireturn, 1) := by decide +kernel
theorem dX2_setSwitch_21 : decode cX2_setSwitch 21 = .ok (.aload_n 0, 1) := by decide +kernel
theorem dX2_setSwitch_22 : decode cX2_setSwitch 22 = .ok (.getfield 13, 3) := by decide +kernel
theorem dX2_setSwitch_25 : decode cX2_setSwitch 25 = .ok (.iload_n 1, 1) := by decide +kernel
theorem dX2_setSwitch_26 : decode cX2_setSwitch 26 = .ok (.baload, 1) := by decide +kernel
theorem dX2_setSwitch_27 : decode cX2_setSwitch 27 = .ok (.ifCond .ne 7, 3) := by decide +kernel
theorem dX2_setSwitch_30 : decode cX2_setSwitch 30 = .ok (.iconst 1, 1) := by decide +kernel
theorem dX2_setSwitch_31 : decode cX2_setSwitch 31 = .ok (.goto 4, 3) := by decide +kernel
theorem dX2_setSwitch_34 : decode cX2_setSwitch 34 = .ok (.iconst 0, 1) := by decide +kernel
theorem dX2_setSwitch_35 : decode cX2_setSwitch 35 = .ok (.istore_n 3, 1) := by decide +kernel
theorem dX2_setSwitch_36 : decode cX2_setSwitch 36 = .ok (.aload_n 0, 1) := by decide +kernel
theorem dX2_setSwitch_37 : decode cX2_setSwitch 37 = .ok (.getfield 13, 3) := by decide +kernel
theorem dX2_setSwitch_40 : decode cX2_setSwitch 40 = .ok (.iload_n 1, 1) := by decide +kernel
theorem dX2_setSwitch_41 : decode cX2_setSwitch 41 = .ok (.iload_n 2, 1) := by decide +kernel
theorem dX2_setSwitch_42 : decode cX2_setSwitch 42 = .ok (.ifCond .ne 7, 3) := by decide +kernel
theorem dX2_setSwitch_45 : decode cX2_setSwitch 45 = .ok (.iconst 1, 1) := by decide +kernel
theorem dX2_setSwitch_46 : decode cX2_setSwitch 46 = .ok (.goto 4, 3) := by decide +kernel
theorem dX2_setSwitch_49 : decode cX2_setSwitch 49 = .ok (.iconst 0, 1) := by decide +kernel
theorem dX2_setSwitch_50 : decode cX2_setSwitch 50 = .ok (.bastore, 1) := by decide +kernel
theorem dX2_setSwitch_51 : decode cX2_setSwitch 51 = .ok (.iload_n 3, 1) := by decide +kernel
theorem dX2_setSwitch_52 : decode cX2_setSwitch 52 = .ok (.ireturn, 1) := by decide +kernel
set_option maxRecDepth 20000 in
theorem ggX2_setPrice_X2_in : GoodIn wsX2_setPrice wsX2_in := goodIn_r _ [6] (by decide +kernel) (by decide +kernel)
set_option maxRecDepth 20000 in
theorem gX2_setPrice_X2_in : GoodIn wsX2_setPrice (va_wsS RX2 67 yX2_in wsX2_in) := goodIn_app (goodIn_of _ (by decide +kernel)) ggX2_setPrice_X2_in
set_option maxRecDepth 20000 in
theorem ggX2_setPrice_X2_holds : GoodIn wsX2_setPrice wsX2_holds := goodIn_r _ [10, 11, 12, 13, 14, 15, 16, 17, 18, 19, 20, 21, 22, 23, 24, 25, 26, 27, 28, 29, 30, 31] (by decide +kernel) (by decide +kernel)
set_option maxRecDepth 20000 in
theorem gX2_setPrice_X2_holds : GoodIn wsX2_setPrice (wsV RX2 79 RX2 yX2_holds wsX2_holds) := goodIn_app (goodIn_of _ (by decide +kernel)) ggX2_setPrice_X2_holds
theorem dX2_setPrice_0 : decode cX2_setPrice 0 = .ok (.aload_n 0, 1) := by decide +kernel
theorem dX2_setPrice_1 : decode cX2_setPrice 1 = .ok (.iload_n 1, 1) := by decide +kernel
theorem dX2_setPrice_2 : decode cX2_setPrice 2 = .ok (.iconst 1, 1) := by decide +kernel
theorem dX2_setPrice_3 : decode cX2_setPrice 3 = .ok (.iconst 4, 1) := by decide +kernel
theorem dX2_setPrice_4 : decode cX2_setPrice 4 = .ok (.invokestatic 67, 3) := by decide +kernel
theorem dX2_setPrice_7 : decode cX2_setPrice 7 = .ok (.ifCond .eq 7, 3) := by decide +kernel
theorem dX2_setPrice_10 : decode cX2_setPrice 10 = .ok (.iconst 0, 1) := by decide +kernel
theorem dX2_setPrice_11 : decode cX2_setPrice 11 = .ok (.goto 4, 3) := by decide +kernel
theorem dX2_setPrice_14 : decode cX2_setPrice 14 = .ok (.iconst 1, 1) := by decide +kernel
theorem dX2_setPrice_15 : decode cX2_setPrice 15 = .ok (.invokevirtual 79, 3) := by decide +kernel
theorem dX2_setPrice_18 : decode cX2_setPrice 18 = .ok (.ifCond .ne 5, 3) := by decide +kernel
theorem dX2_setPrice_21 : decode cX2_setPrice 21 = .ok (.dconst 0, 1) := by decide +kernel
theorem dX2_setPrice_22 : decode cX2_setPrice 22 = .ok (.dreturn, 1) := by decide +kernel
theorem dX2_setPrice_23 : decode cX2_setPrice 23 = .ok (.aload_n 0, 1) := by decide +kernel
theorem dX2_setPrice_24 : decode cX2_setPrice 24 = .ok (.iload_n 1, 1) := by decide +kernel
theorem dX2_setPrice_25 : decode cX2_setPrice 25 = .ok (.i2d, 1) := by decide +kernel
theorem dX2_setPrice_26 : decode cX2_setPrice 26 = .ok (.ldc2_w 82, 3) := by decide +kernel
theorem dX2_setPrice_29 : decode cX2_setPrice 29 = .ok (.ddiv, 1) := by decide +kernel
theorem dX2_setPrice_30 : decode cX2_setPrice 30 = .ok (.putfield 26, 3) := by decide +kernel
theorem dX2_setPrice_33 : decode cX2_setPrice 33 = .ok (.aload_n 0, 1) := by decide +kernel
theorem dX2_setPrice_34 : decode cX2_setPrice 34 = .ok (.getfield 26, 3) := by decide +kernel
theorem dX2_setPrice_37 : decode cX2_setPrice 37 = .ok (.dreturn, 1) := by decide +kernel
set_option maxRecDepth 20000 in
theorem ggX2_tell_X2_isOwner : GoodIn wsX2_tell wsX2_isOwner := goodIn_r _ [6, 7, 8, 5, 9] (by decide +kernel) (by decide +kernel)
set_option maxRecDepth 20000 in
theorem gX2_tell_X2_isOwner : GoodIn wsX2_tell (va_wsS RX2 71 yX2_isOwner wsX2_isOwner) := goodIn_app (goodIn_of _ (by decide +kernel)) ggX2_tell_X2_isOwner
set_option maxRecDepth 20000 in
theorem ggX2_tell_X2_in : GoodIn wsX2_tell wsX2_in := goodIn_r _ [9] (by decide +kernel) (by decide +kernel)
set_option maxRecDepth 20000 in
theorem gX2_tell_X2_in : GoodIn wsX2_tell (va_wsS RX2 67 yX2_in wsX2_in) := goodIn_app (goodIn_of _ (by decide +kernel)) ggX2_tell_X2_in
set_option maxRecDepth 20000 in
theorem ggX2_tell_X2_holds : GoodIn wsX2_tell wsX2_holds := goodIn_r _ [13, 14, 15, 16, 17, 18, 19, 20, 21, 22, 23, 24, 25, 26, 27, 28, 29, 30, 31, 32, 33, 34] (by decide +kernel) (by decide +kernel)
set_option maxRecDepth 20000 in
theorem gX2_tell_X2_holds : GoodIn wsX2_tell (wsV RX2 79 RX2 yX2_holds wsX2_holds) := goodIn_app (goodIn_of _ (by decide +kernel)) ggX2_tell_X2_holds
theorem dX2_tell_0 : decode cX2_tell 0 = .ok (.aload_n 0, 1) := by decide +kernel
theorem dX2_tell_1 : decode cX2_tell 1 = .ok (.iload_n 1, 1) := by decide +kernel
theorem dX2_tell_2 : decode cX2_tell 2 = .ok (.invokestatic 71, 3) := by decide +kernel
theorem dX2_tell_5 : decode cX2_tell 5 = .ok (.ifCond .eq 17, 3) := by decide +kernel
theorem dX2_tell_8 : decode cX2_tell 8 = .ok (.iload_n 2, 1) := by decide +kernel
theorem dX2_tell_9 : decode cX2_tell 9 = .ok (.iconst 0, 1) := by decide +kernel
theorem dX2_tell_10 : decode cX2_tell 10 = .ok (.bipush 50, 2) := by decide +kernel
theorem dX2_tell_12 : decode cX2_tell 12 = .ok (.invokestatic 67, 3) := by decide +kernel
theorem dX2_tell_15 : decode cX2_tell 15 = .ok (.ifCond .eq 7, 3) := by decide +kernel
theorem dX2_tell_18 : decode cX2_tell 18 = .ok (.iconst 0, 1) := by decide +kernel
theorem dX2_tell_19 : decode cX2_tell 19 = .ok (.goto 4, 3) := by decide +kernel
theorem dX2_tell_22 : decode cX2_tell 22 = .ok (.iconst 1, 1) := by decide +kernel
theorem dX2_tell_23 : decode cX2_tell 23 = .ok (.invokevirtual 79, 3) := by decide +kernel
theorem dX2_tell_26 : decode cX2_tell 26 = .ok (.ifCond .ne 5, 3) := by decide +kernel
theorem dX2_tell_29 : decode cX2_tell 29 = .ok (.iconst 0, 1) := by decide +kernel
theorem dX2_tell_30 : decode cX2_tell 30 = .ok (.ireturn, 1) := by decide +kernel
theorem dX2_tell_31 : decode cX2_tell 31 = .ok (.aload_n 0, 1) := by decide +kernel
theorem dX2_tell_32 : decode cX2_tell 32 = .ok (.getfield 30, 3) := by decide +kernel
theorem dX2_tell_35 : decode cX2_tell 35 = .ok (.iload_n 1, 1) := by decide +kernel
theorem dX2_tell_36 : decode cX2_tell 36 = .ok (.baload, 1) := by decide +kernel
theorem dX2_tell_37 : decode cX2_tell 37 = .ok (.istore_n 3, 1) := by decide +kernel
theorem dX2_tell_38 : decode cX2_tell 38 = .ok (.aload_n 0, 1) := by decide +kernel
theorem dX2_tell_39 : decode cX2_tell 39 = .ok (.getfield 30, 3) := by decide +kernel
theorem dX2_tell_42 : decode cX2_tell 42 = .ok (.iload_n 1, 1) := by decide +kernel
theorem dX2_tell_43 : decode cX2_tell 43 = .ok (.iconst 1, 1) := by decide +kernel
theorem dX2_tell_44 : decode cX2_tell 44 = .ok (.bastore, 1) := by decide +kernel
theorem dX2_tell_45 : decode cX2_tell 45 = .ok (.aload_n 0, 1) := by decide +kernel
theorem dX2_tell_46 : decode cX2_tell 46 = .ok (.getfield 33, 3) := by decide +kernel
theorem dX2_tell_49 : decode cX2_tell 49 = .ok (.iload_n 1, 1) := by decide +kernel
theorem dX2_tell_50 : decode cX2_tell 50 = .ok (.iload_n 2, 1) := by decide +kernel
theorem dX2_tell_51 : decode cX2_tell 51 = .ok (.iastore, 1) := by decide +kernel
theorem dX2_tell_52 : decode cX2_tell 52 = .ok (.iload_n 3, 1) := by decide +kernel
theorem dX2_tell_53 : decode cX2_tell 53 = .ok (.ireturn, 1) := by decide +kernel
theorem dX2_guess_0 : decode cX2_guess 0 = .ok (.iconst 0, 1) := by decide +kernel
theorem dX2_guess_1 : decode cX2_guess 1 = .ok (.istore_n 2, 1) := by decide +kernel
theorem dX2_guess_2 : decode cX2_guess 2 = .ok (.dconst 0, 1) := by decide +kernel
theorem dX2_guess_3 : decode cX2_guess 3 = .ok (.dstore_n 3, 1) := by decide +kernel
theorem dX2_guess_4 : decode cX2_guess 4 = .ok (.aload_n 0, 1) := by decide +kernel
theorem dX2_guess_5 : decode cX2_guess 5 = .ok (.getfield 84, 3) := by decide +kernel
theorem dX2_guess_8 : decode cX2_guess 8 = .ok (.iconst 1, 1) := by decide +kernel
theorem dX2_guess_9 : decode cX2_guess 9 = .ok (.isub, 1) := by decide +kernel
theorem dX2_guess_10 : decode cX2_guess 10 = .ok (.istore 5, 2) := by decide +kernel
theorem dX2_guess_12 : decode cX2_guess 12 = .ok (.iload 5, 2) := by decide +kernel
theorem dX2_guess_14 : decode cX2_guess 14 = .ok (.ifCond .lt 45, 3) := by decide +kernel
theorem dX2_guess_17 : decode cX2_guess 17 = .ok (.iload_n 2, 1) := by decide +kernel
theorem dX2_guess_18 : decode cX2_guess 18 = .ok (.iconst 2, 1) := by decide +kernel
theorem dX2_guess_19 : decode cX2_guess 19 = .ok (.if_icmp .ge 40, 3) := by decide +kernel
theorem dX2_guess_22 : decode cX2_guess 22 = .ok (.aload_n 0, 1) := by decide +kernel
theorem dX2_guess_23 : decode cX2_guess 23 = .ok (.getfield 36, 3) := by decide +kernel
theorem dX2_guess_26 : decode cX2_guess 26 = .ok (.iconst 5, 1) := by decide +kernel
theorem dX2_guess_27 : decode cX2_guess 27 = .ok (.iload 5, 2) := by decide +kernel
theorem dX2_guess_29 : decode cX2_guess 29 = .ok (.imul, 1) := by decide +kernel
theorem dX2_guess_30 : decode cX2_guess 30 = .ok (.iload_n 1, 1) := by decide +kernel
theorem dX2_guess_31 : decode cX2_guess 31 = .ok (.iadd, 1) := by decide +kernel
theorem dX2_guess_32 : decode cX2_guess 32 = .ok (.baload, 1) := by decide +kernel
theorem dX2_guess_33 : decode cX2_guess 33 = .ok (.ifCond .eq 20, 3) := by decide +kernel
theorem dX2_guess_36 : decode cX2_guess 36 = .ok (.dload_n 3, 1) := by decide +kernel
theorem dX2_guess_37 : decode cX2_guess 37 = .ok (.aload_n 0, 1) := by decide +kernel
theorem dX2_guess_38 : decode cX2_guess 38 = .ok (.getfield 39, 3) := by decide +kernel
theorem dX2_guess_41 : decode cX2_guess 41 = .ok (.iconst 5, 1) := by decide +kernel
theorem dX2_guess_42 : decode cX2_guess 42 = .ok (.iload 5, 2) := by decide +kernel
theorem dX2_guess_44 : decode cX2_guess 44 = .ok (.imul, 1) := by decide +kernel
theorem dX2_guess_45 : decode cX2_guess 45 = .ok (.iload_n 1, 1) := by decide +kernel
theorem dX2_guess_46 : decode cX2_guess 46 = .ok (.iadd, 1) := by decide +kernel
theorem dX2_guess_47 : decode cX2_guess 47 = .ok (.daload, 1) := by decide +kernel
theorem dX2_guess_48 : decode cX2_guess 48 = .ok (.dadd, 1) := by decide +kernel
theorem dX2_guess_49 : decode cX2_guess 49 = .ok (.dstore_n 3, 1) := by decide +kernel
theorem dX2_guess_50 : decode cX2_guess 50 = .ok (.iinc 2 1, 3) := by decide +kernel
theorem dX2_guess_53 : decode cX2_guess 53 = .ok (.iinc 5 (-1), 3) := by decide +kernel
theorem dX2_guess_56 : decode cX2_guess 56 = .ok (.goto (-44), 3) := by decide +kernel
theorem dX2_guess_59 : decode cX2_guess 59 = .ok (.iload_n 2, 1) := by decide +kernel
theorem dX2_guess_60 : decode cX2_guess 60 = .ok (.iconst 2, 1) := by decide +kernel
theorem dX2_guess_61 : decode cX2_guess 61 = .ok (.if_icmp .ne 11, 3) := by decide +kernel
theorem dX2_guess_64 : decode cX2_guess 64 = .ok (.dload_n 3, 1) := by decide +kernel
theorem dX2_guess_65 : decode cX2_guess 65 = .ok (.ldc2_w 87, 3) := by decide +kernel
theorem dX2_guess_68 : decode cX2_guess 68 = .ok (.ddiv, 1) := by decide +kernel
theorem dX2_guess_69 : decode cX2_guess 69 = .ok (.goto 4, 3) := by decide +kernel
theorem dX2_guess_72 : decode cX2_guess 72 = .ok (.dload_n 3, 1) := by decide +kernel
theorem dX2_guess_73 : decode cX2_guess 73 = .ok (.dreturn, 1) := by decide +kernel
theorem dX2_sum_0 : decode cX2_sum 0 = .ok (.dconst 0, 1) := by decide +kernel
theorem dX2_sum_1 : decode cX2_sum 1 = .ok (.dstore_n 3, 1) := by decide +kernel
theorem dX2_sum_2 : decode cX2_sum 2 = .ok (.iconst 0, 1) := by decide +kernel
theorem dX2_sum_3 : decode cX2_sum 3 = .ok (.istore 5, 2) := by decide +kernel
theorem dX2_sum_5 : decode cX2_sum 5 = .ok (.iload 5, 2) := by decide +kernel
theorem dX2_sum_7 : decode cX2_sum 7 = .ok (.iconst 5, 1) := by decide +kernel
theorem dX2_sum_8 : decode cX2_sum 8 = .ok (.if_icmp .ge 18, 3) := by decide +kernel
theorem dX2_sum_11 : decode cX2_sum 11 = .ok (.dload_n 3, 1) := by decide +kernel
theorem dX2_sum_12 : decode cX2_sum 12 = .ok (.aload_n 1, 1) := by decide +kernel
theorem dX2_sum_13 : decode cX2_sum 13 = .ok (.iload_n 2, 1) := by decide +kernel
theorem dX2_sum_14 : decode cX2_sum 14 = .ok (.iload 5, 2) := by decide +kernel
theorem dX2_sum_16 : decode cX2_sum 16 = .ok (.iadd, 1) := by decide +kernel
theorem dX2_sum_17 : decode cX2_sum 17 = .ok (.daload, 1) := by decide +kernel
theorem dX2_sum_18 : decode cX2_sum 18 = .ok (.dadd, 1) := by decide +kernel
theorem dX2_sum_19 : decode cX2_sum 19 = .ok (.dstore_n 3, 1) := by decide +kernel
theorem dX2_sum_20 : decode cX2_sum 20 = .ok (.iinc 5 1, 3) := by decide +kernel
theorem dX2_sum_23 : decode cX2_sum 23 = .ok (.goto (-18), 3) := by decide +kernel
theorem dX2_sum_26 : decode cX2_sum 26 = .ok (.dload_n 3, 1) := by decide +kernel
theorem dX2_sum_27 : decode cX2_sum 27 = .ok (.dreturn, 1) := by decide +kernel
theorem dX2_nextToShed_0 : decode cX2_nextToShed 0 = .ok (.iconst (-1), 1) := by decide +kernel
theorem dX2_nextToShed_1 : decode cX2_nextToShed 1 = .ok (.istore_n 2, 1) := by decide +kernel
theorem dX2_nextToShed_2 : decode cX2_nextToShed 2 = .ok (.iconst 0, 1) := by decide +kernel
theorem dX2_nextToShed_3 : decode cX2_nextToShed 3 = .ok (.istore_n 3, 1) := by decide +kernel
theorem dX2_nextToShed_4 : decode cX2_nextToShed 4 = .ok (.iload_n 3, 1) := by decide +kernel
theorem dX2_nextToShed_5 : decode cX2_nextToShed 5 = .ok (.iconst 5, 1) := by decide +kernel
theorem dX2_nextToShed_6 : decode cX2_nextToShed 6 = .ok (.if_icmp .ge 64, 3) := by decide +kernel
theorem dX2_nextToShed_9 : decode cX2_nextToShed 9 = .ok (.aload_n 0, 1) := by decide +kernel
theorem dX2_nextToShed_10 : decode cX2_nextToShed 10 = .ok (.getfield 42, 3) := by decide +kernel
theorem dX2_nextToShed_13 : decode cX2_nextToShed 13 = .ok (.iload_n 1, 1) := by decide +kernel
theorem dX2_nextToShed_14 : decode cX2_nextToShed 14 = .ok (.iload_n 3, 1) := by decide +kernel
theorem dX2_nextToShed_15 : decode cX2_nextToShed 15 = .ok (.iadd, 1) := by decide +kernel
theorem dX2_nextToShed_16 : decode cX2_nextToShed 16 = .ok (.daload, 1) := by decide +kernel
theorem dX2_nextToShed_17 : decode cX2_nextToShed 17 = .ok (.dconst 0, 1) := by decide +kernel
theorem dX2_nextToShed_18 : decode cX2_nextToShed 18 = .ok (.dcmp .l, 1) := by decide +kernel
theorem dX2_nextToShed_19 : decode cX2_nextToShed 19 = .ok (.ifCond .le 16, 3) := by decide +kernel
theorem dX2_nextToShed_22 : decode cX2_nextToShed 22 = .ok (.aload_n 0, 1) := by decide +kernel
theorem dX2_nextToShed_23 : decode cX2_nextToShed 23 = .ok (.getfield 13, 3) := by decide +kernel
theorem dX2_nextToShed_26 : decode cX2_nextToShed 26 = .ok (.iload_n 3, 1) := by decide +kernel
theorem dX2_nextToShed_27 : decode cX2_nextToShed 27 = .ok (.baload, 1) := by decide +kernel
theorem dX2_nextToShed_28 : decode cX2_nextToShed 28 = .ok (.ifCond .ne 7, 3) := by decide +kernel
theorem dX2_nextToShed_31 : decode cX2_nextToShed 31 = .ok (.iconst 1, 1) := by decide +kernel
theorem dX2_nextToShed_32 : decode cX2_nextToShed 32 = .ok (.goto 4, 3) := by decide +kernel
theorem dX2_nextToShed_35 : decode cX2_nextToShed 35 = .ok (.iconst 0, 1) := by decide +kernel
theorem dX2_nextToShed_36 : decode cX2_nextToShed 36 = .ok (.istore 4, 2) := by decide +kernel
theorem dX2_nextToShed_38 : decode cX2_nextToShed 38 = .ok (.iload 4, 2) := by decide +kernel
theorem dX2_nextToShed_40 : decode cX2_nextToShed 40 = .ok (.ifCond .eq 24, 3) := by decide +kernel
theorem dX2_nextToShed_43 : decode cX2_nextToShed 43 = .ok (.iload_n 2, 1) := by decide +kernel
theorem dX2_nextToShed_44 : decode cX2_nextToShed 44 = .ok (.ifCond .lt 18, 3) := by decide +kernel
theorem dX2_nextToShed_47 : decode cX2_nextToShed 47 = .ok (.aload_n 0, 1) := by decide +kernel
theorem dX2_nextToShed_48 : decode cX2_nextToShed 48 = .ok (.getfield 17, 3) := by decide +kernel
theorem dX2_nextToShed_51 : decode cX2_nextToShed 51 = .ok (.iload_n 3, 1) := by decide +kernel
theorem dX2_nextToShed_52 : decode cX2_nextToShed 52 = .ok (.iaload, 1) := by decide +kernel
theorem dX2_nextToShed_53 : decode cX2_nextToShed 53 = .ok (.aload_n 0, 1) := by decide +kernel
theorem dX2_nextToShed_54 : decode cX2_nextToShed 54 = .ok (.getfield 17, 3) := by decide +kernel
theorem dX2_nextToShed_57 : decode cX2_nextToShed 57 = .ok (.iload_n 2, 1) := by decide +kernel
theorem dX2_nextToShed_58 : decode cX2_nextToShed 58 = .ok (.iaload, 1) := by decide +kernel
theorem dX2_nextToShed_59 : decode cX2_nextToShed 59 = .ok (.if_icmp .ge 5, 3) := by decide +kernel
theorem dX2_nextToShed_62 : decode cX2_nextToShed 62 = .ok (.iload_n 3, 1) := by decide +kernel
theorem dX2_nextToShed_63 : decode cX2_nextToShed 63 = .ok (.istore_n 2, 1) := by decide +kernel
theorem dX2_nextToShed_64 : decode cX2_nextToShed 64 = .ok (.iinc 3 1, 3) := by decide +kernel
theorem dX2_nextToShed_67 : decode cX2_nextToShed 67 = .ok (.goto (-63), 3) := by decide +kernel
theorem dX2_nextToShed_70 : decode cX2_nextToShed 70 = .ok (.iload_n 2, 1) := by decide +kernel
theorem dX2_nextToShed_71 : decode cX2_nextToShed 71 = .ok (.ireturn, 1) := by decide +kernel
set_option maxRecDepth 20000 in
theorem ggX2_shed_X2_sum : GoodIn wsX2_shed wsX2_sum := goodIn_r _ [8] (by decide +kernel) (by decide +kernel)
set_option maxRecDepth 20000 in
theorem gX2_shed_X2_sum : GoodIn wsX2_shed (wsV RX2 89 RX2 yX2_sum wsX2_sum) := goodIn_app (goodIn_of _ (by decide +kernel)) ggX2_shed_X2_sum
set_option maxRecDepth 20000 in
theorem ggX2_shed_X2_nextToShed : GoodIn wsX2_shed wsX2_nextToShed := goodIn_r _ [12, 1, 13, 3, 14, 15, 16, 17, 18, 19, 20, 21, 22, 23, 24, 25, 26, 27, 28, 29, 30, 31, 32, 33] (by decide +kernel) (by decide +kernel)
set_option maxRecDepth 20000 in
theorem gX2_shed_X2_nextToShed : GoodIn wsX2_shed (wsV RX2 95 RX2 yX2_nextToShed wsX2_nextToShed) := goodIn_app (goodIn_of _ (by decide +kernel)) ggX2_shed_X2_nextToShed
theorem dX2_shed_0 : decode cX2_shed 0 = .ok (.aload_n 0, 1) := by decide +kernel
theorem dX2_shed_1 : decode cX2_shed 1 = .ok (.aload_n 0, 1) := by decide +kernel
theorem dX2_shed_2 : decode cX2_shed 2 = .ok (.getfield 42, 3) := by decide +kernel
theorem dX2_shed_5 : decode cX2_shed 5 = .ok (.iload_n 1, 1) := by decide +kernel
theorem dX2_shed_6 : decode cX2_shed 6 = .ok (.invokevirtual 89, 3) := by decide +kernel
theorem dX2_shed_9 : decode cX2_shed 9 = .ok (.ldc2_w 93, 3) := by decide +kernel
theorem dX2_shed_12 : decode cX2_shed 12 = .ok (.dcmp .l, 1) := by decide +kernel
theorem dX2_shed_13 : decode cX2_shed 13 = .ok (.ifCond .le 37, 3) := by decide +kernel
theorem dX2_shed_16 : decode cX2_shed 16 = .ok (.aload_n 0, 1) := by decide +kernel
theorem dX2_shed_17 : decode cX2_shed 17 = .ok (.iload_n 1, 1) := by decide +kernel
theorem dX2_shed_18 : decode cX2_shed 18 = .ok (.invokevirtual 95, 3) := by decide +kernel
theorem dX2_shed_21 : decode cX2_shed 21 = .ok (.istore_n 2, 1) := by decide +kernel
theorem dX2_shed_22 : decode cX2_shed 22 = .ok (.iload_n 2, 1) := by decide +kernel
theorem dX2_shed_23 : decode cX2_shed 23 = .ok (.ifCond .ge 5, 3) := by decide +kernel
theorem dX2_shed_26 : decode cX2_shed 26 = .ok (.iconst 1, 1) := by decide +kernel
theorem dX2_shed_27 : decode cX2_shed 27 = .ok (.ireturn, 1) := by decide +kernel
theorem dX2_shed_28 : decode cX2_shed 28 = .ok (.aload_n 0, 1) := by decide +kernel
theorem dX2_shed_29 : decode cX2_shed 29 = .ok (.getfield 42, 3) := by decide +kernel
theorem dX2_shed_32 : decode cX2_shed 32 = .ok (.iload_n 1, 1) := by decide +kernel
theorem dX2_shed_33 : decode cX2_shed 33 = .ok (.iload_n 2, 1) := by decide +kernel
theorem dX2_shed_34 : decode cX2_shed 34 = .ok (.iadd, 1) := by decide +kernel
theorem dX2_shed_35 : decode cX2_shed 35 = .ok (.dconst 0, 1) := by decide +kernel
theorem dX2_shed_36 : decode cX2_shed 36 = .ok (.dastore, 1) := by decide +kernel
theorem dX2_shed_37 : decode cX2_shed 37 = .ok (.aload_n 0, 1) := by decide +kernel
theorem dX2_shed_38 : decode cX2_shed 38 = .ok (.getfield 17, 3) := by decide +kernel
theorem dX2_shed_41 : decode cX2_shed 41 = .ok (.iload_n 2, 1) := by decide +kernel
theorem dX2_shed_42 : decode cX2_shed 42 = .ok (.dup2, 1) := by decide +kernel
theorem dX2_shed_43 : decode cX2_shed 43 = .ok (.iaload, 1) := by decide +kernel
theorem dX2_shed_44 : decode cX2_shed 44 = .ok (.iconst 1, 1) := by decide +kernel
theorem dX2_shed_45 : decode cX2_shed 45 = .ok (.iadd, 1) := by decide +kernel
theorem dX2_shed_46 : decode cX2_shed 46 = .ok (.iastore, 1) := by decide +kernel
theorem dX2_shed_47 : decode cX2_shed 47 = .ok (.goto (-47), 3) := by decide +kernel
theorem dX2_shed_50 : decode cX2_shed 50 = .ok (.iconst 0, 1) := by decide +kernel
theorem dX2_shed_51 : decode cX2_shed 51 = .ok (.ireturn, 1) := by decide +kernel
set_option maxRecDepth 20000 in
theorem ggX2_shares_X2_least : GoodIn wsX2_shares wsX2_least := goodIn_r _ [8] (by decide +kernel) (by decide +kernel)
set_option maxRecDepth 20000 in
theorem gX2_shares_X2_least : GoodIn wsX2_shares (va_wsS RX2 98 yX2_least wsX2_least) := goodIn_app (goodIn_of _ (by decide +kernel)) ggX2_shares_X2_least
set_option maxRecDepth 20000 in
theorem ggX2_shares_X2_sum : GoodIn wsX2_shares wsX2_sum := goodIn_r _ [12] (by decide +kernel) (by decide +kernel)
set_option maxRecDepth 20000 in
theorem gX2_shares_X2_sum : GoodIn wsX2_shares (wsV RX2 89 RX2 yX2_sum wsX2_sum) := goodIn_app (goodIn_of _ (by decide +kernel)) ggX2_shares_X2_sum
theorem dX2_shares_0 : decode cX2_shares 0 = .ok (.iload_n 2, 1) := by decide +kernel
theorem dX2_shares_1 : decode cX2_shares 1 = .ok (.i2d, 1) := by decide +kernel
theorem dX2_shares_2 : decode cX2_shares 2 = .ok (.dstore_n 3, 1) := by decide +kernel
theorem dX2_shares_3 : decode cX2_shares 3 = .ok (.iconst 0, 1) := by decide +kernel
theorem dX2_shares_4 : decode cX2_shares 4 = .ok (.istore 5, 2) := by decide +kernel
theorem dX2_shares_6 : decode cX2_shares 6 = .ok (.iload 5, 2) := by decide +kernel
theorem dX2_shares_8 : decode cX2_shares 8 = .ok (.iconst 5, 1) := by decide +kernel
theorem dX2_shares_9 : decode cX2_shares 9 = .ok (.if_icmp .ge 64, 3) := by decide +kernel
theorem dX2_shares_12 : decode cX2_shares 12 = .ok (.iload_n 2, 1) := by decide +kernel
theorem dX2_shares_13 : decode cX2_shares 13 = .ok (.i2d, 1) := by decide +kernel
theorem dX2_shares_14 : decode cX2_shares 14 = .ok (.aload_n 0, 1) := by decide +kernel
theorem dX2_shares_15 : decode cX2_shares 15 = .ok (.getfield 7, 3) := by decide +kernel
theorem dX2_shares_18 : decode cX2_shares 18 = .ok (.iload 5, 2) := by decide +kernel
theorem dX2_shares_20 : decode cX2_shares 20 = .ok (.iaload, 1) := by decide +kernel
theorem dX2_shares_21 : decode cX2_shares 21 = .ok (.i2d, 1) := by decide +kernel
theorem dX2_shares_22 : decode cX2_shares 22 = .ok (.dmul, 1) := by decide +kernel
theorem dX2_shares_23 : decode cX2_shares 23 = .ok (.ldc2_w 82, 3) := by decide +kernel
theorem dX2_shares_26 : decode cX2_shares 26 = .ok (.ddiv, 1) := by decide +kernel
theorem dX2_shares_27 : decode cX2_shares 27 = .ok (.aload_n 0, 1) := by decide +kernel
theorem dX2_shares_28 : decode cX2_shares 28 = .ok (.getfield 60, 3) := by decide +kernel
theorem dX2_shares_31 : decode cX2_shares 31 = .ok (.iload 5, 2) := by decide +kernel
theorem dX2_shares_33 : decode cX2_shares 33 = .ok (.daload, 1) := by decide +kernel
theorem dX2_shares_34 : decode cX2_shares 34 = .ok (.invokestatic 98, 3) := by decide +kernel
theorem dX2_shares_37 : decode cX2_shares 37 = .ok (.dstore 6, 2) := by decide +kernel
theorem dX2_shares_39 : decode cX2_shares 39 = .ok (.aload_n 0, 1) := by decide +kernel
theorem dX2_shares_40 : decode cX2_shares 40 = .ok (.getfield 45, 3) := by decide +kernel
theorem dX2_shares_43 : decode cX2_shares 43 = .ok (.iload_n 1, 1) := by decide +kernel
theorem dX2_shares_44 : decode cX2_shares 44 = .ok (.iload 5, 2) := by decide +kernel
theorem dX2_shares_46 : decode cX2_shares 46 = .ok (.iadd, 1) := by decide +kernel
theorem dX2_shares_47 : decode cX2_shares 47 = .ok (.dload 6, 2) := by decide +kernel
theorem dX2_shares_49 : decode cX2_shares 49 = .ok (.dastore, 1) := by decide +kernel
theorem dX2_shares_50 : decode cX2_shares 50 = .ok (.aload_n 0, 1) := by decide +kernel
theorem dX2_shares_51 : decode cX2_shares 51 = .ok (.getfield 60, 3) := by decide +kernel
theorem dX2_shares_54 : decode cX2_shares 54 = .ok (.iload 5, 2) := by decide +kernel
theorem dX2_shares_56 : decode cX2_shares 56 = .ok (.dup2, 1) := by decide +kernel
theorem dX2_shares_57 : decode cX2_shares 57 = .ok (.daload, 1) := by decide +kernel
theorem dX2_shares_58 : decode cX2_shares 58 = .ok (.dload 6, 2) := by decide +kernel
theorem dX2_shares_60 : decode cX2_shares 60 = .ok (.dsub, 1) := by decide +kernel
theorem dX2_shares_61 : decode cX2_shares 61 = .ok (.dastore, 1) := by decide +kernel
theorem dX2_shares_62 : decode cX2_shares 62 = .ok (.dload_n 3, 1) := by decide +kernel
theorem dX2_shares_63 : decode cX2_shares 63 = .ok (.dload 6, 2) := by decide +kernel
theorem dX2_shares_65 : decode cX2_shares 65 = .ok (.dsub, 1) := by decide +kernel
theorem dX2_shares_66 : decode cX2_shares 66 = .ok (.dstore_n 3, 1) := by decide +kernel
theorem dX2_shares_67 : decode cX2_shares 67 = .ok (.iinc 5 1, 3) := by decide +kernel
theorem dX2_shares_70 : decode cX2_shares 70 = .ok (.goto (-64), 3) := by decide +kernel
theorem dX2_shares_73 : decode cX2_shares 73 = .ok (.aload_n 0, 1) := by decide +kernel
theorem dX2_shares_74 : decode cX2_shares 74 = .ok (.aload_n 0, 1) := by decide +kernel
theorem dX2_shares_75 : decode cX2_shares 75 = .ok (.getfield 60, 3) := by decide +kernel
theorem dX2_shares_78 : decode cX2_shares 78 = .ok (.iconst 0, 1) := by decide +kernel
theorem dX2_shares_79 : decode cX2_shares 79 = .ok (.invokevirtual 89, 3) := by decide +kernel
theorem dX2_shares_82 : decode cX2_shares 82 = .ok (.dstore 5, 2) := by decide +kernel
theorem dX2_shares_84 : decode cX2_shares 84 = .ok (.dload 5, 2) := by decide +kernel
theorem dX2_shares_86 : decode cX2_shares 86 = .ok (.dconst 0, 1) := by decide +kernel
theorem dX2_shares_87 : decode cX2_shares 87 = .ok (.dcmp .l, 1) := by decide +kernel
theorem dX2_shares_88 : decode cX2_shares 88 = .ok (.ifCond .ne 5, 3) := by decide +kernel
theorem dX2_shares_91 : decode cX2_shares 91 = .ok (.dload_n 3, 1) := by decide +kernel
theorem dX2_shares_92 : decode cX2_shares 92 = .ok (.dreturn, 1) := by decide +kernel
theorem dX2_shares_93 : decode cX2_shares 93 = .ok (.dload 5, 2) := by decide +kernel
theorem dX2_shares_95 : decode cX2_shares 95 = .ok (.dload_n 3, 1) := by decide +kernel
theorem dX2_shares_96 : decode cX2_shares 96 = .ok (.dcmp .g, 1) := by decide +kernel
theorem dX2_shares_97 : decode cX2_shares 97 = .ok (.ifCond .gt 7, 3) := by decide +kernel
theorem dX2_shares_100 : decode cX2_shares 100 = .ok (.iconst 1, 1) := by decide +kernel
theorem dX2_shares_101 : decode cX2_shares 101 = .ok (.goto 4, 3) := by decide +kernel
theorem dX2_shares_104 : decode cX2_shares 104 = .ok (.iconst 0, 1) := by decide +kernel
theorem dX2_shares_105 : decode cX2_shares 105 = .ok (.istore 7, 2) := by decide +kernel
theorem dX2_shares_107 : decode cX2_shares 107 = .ok (.iconst 0, 1) := by decide +kernel
theorem dX2_shares_108 : decode cX2_shares 108 = .ok (.istore 8, 2) := by decide +kernel
theorem dX2_shares_110 : decode cX2_shares 110 = .ok (.iload 8, 2) := by decide +kernel
theorem dX2_shares_112 : decode cX2_shares 112 = .ok (.iconst 5, 1) := by decide +kernel
theorem dX2_shares_113 : decode cX2_shares 113 = .ok (.if_icmp .ge 64, 3) := by decide +kernel
theorem dX2_shares_116 : decode cX2_shares 116 = .ok (.iload 7, 2) := by decide +kernel
theorem dX2_shares_118 : decode cX2_shares 118 = .ok (.ifCond .eq 13, 3) := by decide +kernel
theorem dX2_shares_121 : decode cX2_shares 121 = .ok (.aload_n 0, 1) := by decide +kernel
theorem dX2_shares_122 : decode cX2_shares 122 = .ok (.getfield 60, 3) := by decide +kernel
theorem dX2_shares_125 : decode cX2_shares 125 = .ok (.iload 8, 2) := by decide +kernel
theorem dX2_shares_127 : decode cX2_shares 127 = .ok (.daload, 1) := by decide +kernel
theorem dX2_shares_128 : decode cX2_shares 128 = .ok (.goto 15, 3) := by decide +kernel
theorem dX2_shares_131 : decode cX2_shares 131 = .ok (.dload_n 3, 1) := by decide +kernel
theorem dX2_shares_132 : decode cX2_shares 132 = .ok (.aload_n 0, 1) := by decide +kernel
theorem dX2_shares_133 : decode cX2_shares 133 = .ok (.getfield 60, 3) := by decide +kernel
theorem dX2_shares_136 : decode cX2_shares 136 = .ok (.iload 8, 2) := by decide +kernel
theorem dX2_shares_138 : decode cX2_shares 138 = .ok (.daload, 1) := by decide +kernel
theorem dX2_shares_139 : decode cX2_shares 139 = .ok (.dmul, 1) := by decide +kernel
theorem dX2_shares_140 : decode cX2_shares 140 = .ok (.dload 5, 2) := by decide +kernel
theorem dX2_shares_142 : decode cX2_shares 142 = .ok (.ddiv, 1) := by decide +kernel
theorem dX2_shares_143 : decode cX2_shares 143 = .ok (.dstore 9, 2) := by decide +kernel
theorem dX2_shares_145 : decode cX2_shares 145 = .ok (.aload_n 0, 1) := by decide +kernel
theorem dX2_shares_146 : decode cX2_shares 146 = .ok (.getfield 45, 3) := by decide +kernel
theorem dX2_shares_149 : decode cX2_shares 149 = .ok (.iload_n 1, 1) := by decide +kernel
theorem dX2_shares_150 : decode cX2_shares 150 = .ok (.iload 8, 2) := by decide +kernel
theorem dX2_shares_152 : decode cX2_shares 152 = .ok (.iadd, 1) := by decide +kernel
theorem dX2_shares_153 : decode cX2_shares 153 = .ok (.dup2, 1) := by decide +kernel
theorem dX2_shares_154 : decode cX2_shares 154 = .ok (.daload, 1) := by decide +kernel
theorem dX2_shares_155 : decode cX2_shares 155 = .ok (.dload 9, 2) := by decide +kernel
theorem dX2_shares_157 : decode cX2_shares 157 = .ok (.dadd, 1) := by decide +kernel
theorem dX2_shares_158 : decode cX2_shares 158 = .ok (.dastore, 1) := by decide +kernel
theorem dX2_shares_159 : decode cX2_shares 159 = .ok (.aload_n 0, 1) := by decide +kernel
theorem dX2_shares_160 : decode cX2_shares 160 = .ok (.getfield 60, 3) := by decide +kernel
theorem dX2_shares_163 : decode cX2_shares 163 = .ok (.iload 8, 2) := by decide +kernel
theorem dX2_shares_165 : decode cX2_shares 165 = .ok (.dup2, 1) := by decide +kernel
theorem dX2_shares_166 : decode cX2_shares 166 = .ok (.daload, 1) := by decide +kernel
theorem dX2_shares_167 : decode cX2_shares 167 = .ok (.dload 9, 2) := by decide +kernel
theorem dX2_shares_169 : decode cX2_shares 169 = .ok (.dsub, 1) := by decide +kernel
theorem dX2_shares_170 : decode cX2_shares 170 = .ok (.dastore, 1) := by decide +kernel
theorem dX2_shares_171 : decode cX2_shares 171 = .ok (.iinc 8 1, 3) := by decide +kernel
theorem dX2_shares_174 : decode cX2_shares 174 = .ok (.goto (-64), 3) := by decide +kernel
theorem dX2_shares_177 : decode cX2_shares 177 = .ok (.iload 7, 2) := by decide +kernel
theorem dX2_shares_179 : decode cX2_shares 179 = .ok (.ifCond .eq 10, 3) := by decide +kernel
theorem dX2_shares_182 : decode cX2_shares 182 = .ok (.dload_n 3, 1) := by decide +kernel
theorem dX2_shares_183 : decode cX2_shares 183 = .ok (.dload 5, 2) := by decide +kernel
theorem dX2_shares_185 : decode cX2_shares 185 = .ok (.dsub, 1) := by decide +kernel
theorem dX2_shares_186 : decode cX2_shares 186 = .ok (.goto 4, 3) := by decide +kernel
theorem dX2_shares_189 : decode cX2_shares 189 = .ok (.dconst 0, 1) := by decide +kernel
theorem dX2_shares_190 : decode cX2_shares 190 = .ok (.dreturn, 1) := by decide +kernel
set_option maxRecDepth 20000 in
theorem ggX2_gives_X2_least : GoodIn wsX2_gives wsX2_least := goodIn_r _ [8] (by decide +kernel) (by decide +kernel)
set_option maxRecDepth 20000 in
theorem gX2_gives_X2_least : GoodIn wsX2_gives (va_wsS RX2 98 yX2_least wsX2_least) := goodIn_app (goodIn_of _ (by decide +kernel)) ggX2_gives_X2_least
theorem dX2_gives_0 : decode cX2_gives 0 = .ok (.aload_n 0, 1) := by decide +kernel
theorem dX2_gives_1 : decode cX2_gives 1 = .ok (.getfield 102, 3) := by decide +kernel
theorem dX2_gives_4 : decode cX2_gives 4 = .ok (.istore_n 2, 1) := by decide +kernel
theorem dX2_gives_5 : decode cX2_gives 5 = .ok (.iconst 0, 1) := by decide +kernel
theorem dX2_gives_6 : decode cX2_gives 6 = .ok (.istore_n 3, 1) := by decide +kernel
theorem dX2_gives_7 : decode cX2_gives 7 = .ok (.iload_n 3, 1) := by decide +kernel
theorem dX2_gives_8 : decode cX2_gives 8 = .ok (.iconst 5, 1) := by decide +kernel
theorem dX2_gives_9 : decode cX2_gives 9 = .ok (.if_icmp .ge 90, 3) := by decide +kernel
theorem dX2_gives_12 : decode cX2_gives 12 = .ok (.iload_n 2, 1) := by decide +kernel
theorem dX2_gives_13 : decode cX2_gives 13 = .ok (.iload_n 3, 1) := by decide +kernel
theorem dX2_gives_14 : decode cX2_gives 14 = .ok (.iadd, 1) := by decide +kernel
theorem dX2_gives_15 : decode cX2_gives 15 = .ok (.iconst 5, 1) := by decide +kernel
theorem dX2_gives_16 : decode cX2_gives 16 = .ok (.irem, 1) := by decide +kernel
theorem dX2_gives_17 : decode cX2_gives 17 = .ok (.istore 4, 2) := by decide +kernel
theorem dX2_gives_19 : decode cX2_gives 19 = .ok (.aload_n 0, 1) := by decide +kernel
theorem dX2_gives_20 : decode cX2_gives 20 = .ok (.getfield 60, 3) := by decide +kernel
theorem dX2_gives_23 : decode cX2_gives 23 = .ok (.iload 4, 2) := by decide +kernel
theorem dX2_gives_25 : decode cX2_gives 25 = .ok (.daload, 1) := by decide +kernel
theorem dX2_gives_26 : decode cX2_gives 26 = .ok (.aload_n 0, 1) := by decide +kernel
theorem dX2_gives_27 : decode cX2_gives 27 = .ok (.getfield 105, 3) := by decide +kernel
theorem dX2_gives_30 : decode cX2_gives 30 = .ok (.invokestatic 98, 3) := by decide +kernel
theorem dX2_gives_33 : decode cX2_gives 33 = .ok (.dstore 5, 2) := by decide +kernel
theorem dX2_gives_35 : decode cX2_gives 35 = .ok (.aload_n 0, 1) := by decide +kernel
theorem dX2_gives_36 : decode cX2_gives 36 = .ok (.getfield 48, 3) := by decide +kernel
theorem dX2_gives_39 : decode cX2_gives 39 = .ok (.iload_n 1, 1) := by decide +kernel
theorem dX2_gives_40 : decode cX2_gives 40 = .ok (.iload 4, 2) := by decide +kernel
theorem dX2_gives_42 : decode cX2_gives 42 = .ok (.iadd, 1) := by decide +kernel
theorem dX2_gives_43 : decode cX2_gives 43 = .ok (.dload 5, 2) := by decide +kernel
theorem dX2_gives_45 : decode cX2_gives 45 = .ok (.dastore, 1) := by decide +kernel
theorem dX2_gives_46 : decode cX2_gives 46 = .ok (.aload_n 0, 1) := by decide +kernel
theorem dX2_gives_47 : decode cX2_gives 47 = .ok (.getfield 60, 3) := by decide +kernel
theorem dX2_gives_50 : decode cX2_gives 50 = .ok (.iload 4, 2) := by decide +kernel
theorem dX2_gives_52 : decode cX2_gives 52 = .ok (.dup2, 1) := by decide +kernel
theorem dX2_gives_53 : decode cX2_gives 53 = .ok (.daload, 1) := by decide +kernel
theorem dX2_gives_54 : decode cX2_gives 54 = .ok (.dload 5, 2) := by decide +kernel
theorem dX2_gives_56 : decode cX2_gives 56 = .ok (.dsub, 1) := by decide +kernel
theorem dX2_gives_57 : decode cX2_gives 57 = .ok (.dastore, 1) := by decide +kernel
theorem dX2_gives_58 : decode cX2_gives 58 = .ok (.aload_n 0, 1) := by decide +kernel
theorem dX2_gives_59 : decode cX2_gives 59 = .ok (.dup, 1) := by decide +kernel
theorem dX2_gives_60 : decode cX2_gives 60 = .ok (.getfield 105, 3) := by decide +kernel
theorem dX2_gives_63 : decode cX2_gives 63 = .ok (.dload 5, 2) := by decide +kernel
theorem dX2_gives_65 : decode cX2_gives 65 = .ok (.dsub, 1) := by decide +kernel
theorem dX2_gives_66 : decode cX2_gives 66 = .ok (.putfield 105, 3) := by decide +kernel
theorem dX2_gives_69 : decode cX2_gives 69 = .ok (.aload_n 0, 1) := by decide +kernel
theorem dX2_gives_70 : decode cX2_gives 70 = .ok (.dload 5, 2) := by decide +kernel
theorem dX2_gives_72 : decode cX2_gives 72 = .ok (.dconst 0, 1) := by decide +kernel
theorem dX2_gives_73 : decode cX2_gives 73 = .ok (.dcmp .l, 1) := by decide +kernel
theorem dX2_gives_74 : decode cX2_gives 74 = .ok (.ifCond .le 12, 3) := by decide +kernel
theorem dX2_gives_77 : decode cX2_gives 77 = .ok (.iload 4, 2) := by decide +kernel
theorem dX2_gives_79 : decode cX2_gives 79 = .ok (.iconst 1, 1) := by decide +kernel
theorem dX2_gives_80 : decode cX2_gives 80 = .ok (.iadd, 1) := by decide +kernel
theorem dX2_gives_81 : decode cX2_gives 81 = .ok (.iconst 5, 1) := by decide +kernel
theorem dX2_gives_82 : decode cX2_gives 82 = .ok (.irem, 1) := by decide +kernel
theorem dX2_gives_83 : decode cX2_gives 83 = .ok (.goto 7, 3) := by decide +kernel
theorem dX2_gives_86 : decode cX2_gives 86 = .ok (.aload_n 0, 1) := by decide +kernel
theorem dX2_gives_87 : decode cX2_gives 87 = .ok (.getfield 102, 3) := by decide +kernel
theorem dX2_gives_90 : decode cX2_gives 90 = .ok (.putfield 102, 3) := by decide +kernel
theorem dX2_gives_93 : decode cX2_gives 93 = .ok (.iinc 3 1, 3) := by decide +kernel
theorem dX2_gives_96 : decode cX2_gives 96 = .ok (.goto (-89), 3) := by decide +kernel
theorem dX2_gives_99 : decode cX2_gives 99 = .ok (.return_, 1) := by decide +kernel
theorem dX2_pays_0 : decode cX2_pays 0 = .ok (.iconst 0, 1) := by decide +kernel
theorem dX2_pays_1 : decode cX2_pays 1 = .ok (.istore_n 2, 1) := by decide +kernel
theorem dX2_pays_2 : decode cX2_pays 2 = .ok (.iload_n 2, 1) := by decide +kernel
theorem dX2_pays_3 : decode cX2_pays 3 = .ok (.iconst 5, 1) := by decide +kernel
theorem dX2_pays_4 : decode cX2_pays 4 = .ok (.if_icmp .ge 43, 3) := by decide +kernel
theorem dX2_pays_7 : decode cX2_pays 7 = .ok (.aload_n 0, 1) := by decide +kernel
theorem dX2_pays_8 : decode cX2_pays 8 = .ok (.getfield 51, 3) := by decide +kernel
theorem dX2_pays_11 : decode cX2_pays 11 = .ok (.iload_n 1, 1) := by decide +kernel
theorem dX2_pays_12 : decode cX2_pays 12 = .ok (.iload_n 2, 1) := by decide +kernel
theorem dX2_pays_13 : decode cX2_pays 13 = .ok (.iadd, 1) := by decide +kernel
theorem dX2_pays_14 : decode cX2_pays 14 = .ok (.aload_n 0, 1) := by decide +kernel
theorem dX2_pays_15 : decode cX2_pays 15 = .ok (.getfield 60, 3) := by decide +kernel
theorem dX2_pays_18 : decode cX2_pays 18 = .ok (.iload_n 2, 1) := by decide +kernel
theorem dX2_pays_19 : decode cX2_pays 19 = .ok (.daload, 1) := by decide +kernel
theorem dX2_pays_20 : decode cX2_pays 20 = .ok (.dastore, 1) := by decide +kernel
theorem dX2_pays_21 : decode cX2_pays 21 = .ok (.aload_n 0, 1) := by decide +kernel
theorem dX2_pays_22 : decode cX2_pays 22 = .ok (.getfield 20, 3) := by decide +kernel
theorem dX2_pays_25 : decode cX2_pays 25 = .ok (.iload_n 2, 1) := by decide +kernel
theorem dX2_pays_26 : decode cX2_pays 26 = .ok (.dup2, 1) := by decide +kernel
theorem dX2_pays_27 : decode cX2_pays 27 = .ok (.daload, 1) := by decide +kernel
theorem dX2_pays_28 : decode cX2_pays 28 = .ok (.aload_n 0, 1) := by decide +kernel
theorem dX2_pays_29 : decode cX2_pays 29 = .ok (.getfield 60, 3) := by decide +kernel
theorem dX2_pays_32 : decode cX2_pays 32 = .ok (.iload_n 2, 1) := by decide +kernel
theorem dX2_pays_33 : decode cX2_pays 33 = .ok (.daload, 1) := by decide +kernel
theorem dX2_pays_34 : decode cX2_pays 34 = .ok (.aload_n 0, 1) := by decide +kernel
theorem dX2_pays_35 : decode cX2_pays 35 = .ok (.getfield 26, 3) := by decide +kernel
theorem dX2_pays_38 : decode cX2_pays 38 = .ok (.dmul, 1) := by decide +kernel
theorem dX2_pays_39 : decode cX2_pays 39 = .ok (.dadd, 1) := by decide +kernel
theorem dX2_pays_40 : decode cX2_pays 40 = .ok (.dastore, 1) := by decide +kernel
theorem dX2_pays_41 : decode cX2_pays 41 = .ok (.iinc 2 1, 3) := by decide +kernel
theorem dX2_pays_44 : decode cX2_pays 44 = .ok (.goto (-42), 3) := by decide +kernel
theorem dX2_pays_47 : decode cX2_pays 47 = .ok (.iconst 0, 1) := by decide +kernel
theorem dX2_pays_48 : decode cX2_pays 48 = .ok (.istore_n 2, 1) := by decide +kernel
theorem dX2_pays_49 : decode cX2_pays 49 = .ok (.iload_n 2, 1) := by decide +kernel
theorem dX2_pays_50 : decode cX2_pays 50 = .ok (.iconst 5, 1) := by decide +kernel
theorem dX2_pays_51 : decode cX2_pays 51 = .ok (.if_icmp .ge 36, 3) := by decide +kernel
theorem dX2_pays_54 : decode cX2_pays 54 = .ok (.aload_n 0, 1) := by decide +kernel
theorem dX2_pays_55 : decode cX2_pays 55 = .ok (.getfield 20, 3) := by decide +kernel
theorem dX2_pays_58 : decode cX2_pays 58 = .ok (.iload_n 2, 1) := by decide +kernel
theorem dX2_pays_59 : decode cX2_pays 59 = .ok (.dup2, 1) := by decide +kernel
theorem dX2_pays_60 : decode cX2_pays 60 = .ok (.daload, 1) := by decide +kernel
theorem dX2_pays_61 : decode cX2_pays 61 = .ok (.aload_n 0, 1) := by decide +kernel
theorem dX2_pays_62 : decode cX2_pays 62 = .ok (.getfield 54, 3) := by decide +kernel
theorem dX2_pays_65 : decode cX2_pays 65 = .ok (.aload_n 0, 1) := by decide +kernel
theorem dX2_pays_66 : decode cX2_pays 66 = .ok (.getfield 84, 3) := by decide +kernel
theorem dX2_pays_69 : decode cX2_pays 69 = .ok (.daload, 1) := by decide +kernel
theorem dX2_pays_70 : decode cX2_pays 70 = .ok (.aload_n 0, 1) := by decide +kernel
theorem dX2_pays_71 : decode cX2_pays 71 = .ok (.getfield 26, 3) := by decide +kernel
theorem dX2_pays_74 : decode cX2_pays 74 = .ok (.dmul, 1) := by decide +kernel
theorem dX2_pays_75 : decode cX2_pays 75 = .ok (.ldc2_w 108, 3) := by decide +kernel
theorem dX2_pays_78 : decode cX2_pays 78 = .ok (.ddiv, 1) := by decide +kernel
theorem dX2_pays_79 : decode cX2_pays 79 = .ok (.dsub, 1) := by decide +kernel
theorem dX2_pays_80 : decode cX2_pays 80 = .ok (.dastore, 1) := by decide +kernel
theorem dX2_pays_81 : decode cX2_pays 81 = .ok (.iinc 2 1, 3) := by decide +kernel
theorem dX2_pays_84 : decode cX2_pays 84 = .ok (.goto (-35), 3) := by decide +kernel
theorem dX2_pays_87 : decode cX2_pays 87 = .ok (.return_, 1) := by decide +kernel
set_option maxRecDepth 20000 in
theorem ggX2_close_X2_in : GoodIn wsX2_close wsX2_in := goodIn_r _ [16] (by decide +kernel) (by decide +kernel)
set_option maxRecDepth 20000 in
theorem gX2_close_X2_in : GoodIn wsX2_close (va_wsS RX2 67 yX2_in wsX2_in) := goodIn_app (goodIn_of _ (by decide +kernel)) ggX2_close_X2_in
set_option maxRecDepth 20000 in
theorem ggX2_close_X2_holds : GoodIn wsX2_close wsX2_holds := goodIn_r _ [20, 21, 65, 66, 67, 68, 69, 70, 71, 72, 73, 74, 75, 76, 77, 78, 79, 80, 81, 82, 83, 84] (by decide +kernel) (by decide +kernel)
set_option maxRecDepth 20000 in
theorem gX2_close_X2_holds : GoodIn wsX2_close (wsV RX2 79 RX2 yX2_holds wsX2_holds) := goodIn_app (goodIn_of _ (by decide +kernel)) ggX2_close_X2_holds
set_option maxRecDepth 20000 in
theorem ggX2_close_X2_guess : GoodIn wsX2_close wsX2_guess := goodIn_r _ [25, 1, 2, 4, 26, 65, 66, 67, 68, 69, 70, 71, 72, 73, 74, 75, 76, 77, 78, 79, 80, 81, 82, 83, 84] (by decide +kernel) (by decide +kernel)
set_option maxRecDepth 20000 in
theorem gX2_close_X2_guess : GoodIn wsX2_close (wsV RX2 110 RX2 yX2_guess wsX2_guess) := goodIn_app (goodIn_of _ (by decide +kernel)) ggX2_close_X2_guess
set_option maxRecDepth 20000 in
theorem ggX2_close_X2_shed : GoodIn wsX2_close wsX2_shed := goodIn_r _ [30, 6, 31, 32, 33, 34, 35, 15, 36, 37, 38, 39, 40, 41, 65, 66, 67, 68, 69, 70, 71, 72, 73, 74, 75, 76, 77, 78, 79, 80, 81, 82, 83, 84] (by decide +kernel) (by decide +kernel)
set_option maxRecDepth 20000 in
theorem gX2_close_X2_shed : GoodIn wsX2_close (wsV RX2 114 RX2 yX2_shed wsX2_shed) := goodIn_app (goodIn_of _ (by decide +kernel)) ggX2_close_X2_shed
set_option maxRecDepth 20000 in
theorem ggX2_close_X2_shares : GoodIn wsX2_close wsX2_shares := goodIn_r _ [45, 46, 47, 7, 48, 49, 50, 15, 51, 33, 34, 35, 36, 65, 66, 67, 68, 69, 70, 71, 72, 73, 74, 75, 76, 77, 78, 79, 80, 81, 82, 83, 84] (by decide +kernel) (by decide +kernel)
set_option maxRecDepth 20000 in
theorem gX2_close_X2_shares : GoodIn wsX2_close (wsV RX2 117 RX2 yX2_shares wsX2_shares) := goodIn_app (goodIn_of _ (by decide +kernel)) ggX2_close_X2_shares
set_option maxRecDepth 20000 in
theorem ggX2_close_X2_gives : GoodIn wsX2_close wsX2_gives := goodIn_r _ [55, 56, 7, 9, 57, 49, 50, 15, 51, 65, 66, 67, 68, 69, 70, 71, 72, 73, 74, 75, 76, 77, 78, 79, 80, 81, 82, 83, 84] (by decide +kernel) (by decide +kernel)
set_option maxRecDepth 20000 in
theorem gX2_close_X2_gives : GoodIn wsX2_close (wsV RX2 122 RX2 yX2_gives wsX2_gives) := goodIn_app (goodIn_of _ (by decide +kernel)) ggX2_close_X2_gives
set_option maxRecDepth 20000 in
theorem ggX2_close_X2_pays : GoodIn wsX2_close wsX2_pays := goodIn_r _ [61, 62, 7, 63, 12, 10, 1, 64, 65, 66, 67, 68, 69, 70, 71, 72, 73, 74, 75, 76, 77, 78, 79, 80, 81, 82, 83, 84] (by decide +kernel) (by decide +kernel)
set_option maxRecDepth 20000 in
theorem gX2_close_X2_pays : GoodIn wsX2_close (wsV RX2 126 RX2 yX2_pays wsX2_pays) := goodIn_app (goodIn_of _ (by decide +kernel)) ggX2_close_X2_pays
theorem dX2_close_0 : decode cX2_close 0 = .ok (.aload_n 0, 1) := by decide +kernel
theorem dX2_close_1 : decode cX2_close 1 = .ok (.iload_n 1, 1) := by decide +kernel
theorem dX2_close_2 : decode cX2_close 2 = .ok (.iconst 0, 1) := by decide +kernel
theorem dX2_close_3 : decode cX2_close 3 = .ok (.bipush 100, 2) := by decide +kernel
theorem dX2_close_5 : decode cX2_close 5 = .ok (.invokestatic 67, 3) := by decide +kernel
theorem dX2_close_8 : decode cX2_close 8 = .ok (.ifCond .ne 7, 3) := by decide +kernel
theorem dX2_close_11 : decode cX2_close 11 = .ok (.iconst 1, 1) := by decide +kernel
theorem dX2_close_12 : decode cX2_close 12 = .ok (.goto 17, 3) := by decide +kernel
theorem dX2_close_15 : decode cX2_close 15 = .ok (.aload_n 0, 1) := by decide +kernel
theorem dX2_close_16 : decode cX2_close 16 = .ok (.getfield 84, 3) := by decide +kernel
theorem dX2_close_19 : decode cX2_close 19 = .ok (.bipush 60, 2) := by decide +kernel
theorem dX2_close_21 : decode cX2_close 21 = .ok (.if_icmp .ne 7, 3) := by decide +kernel
theorem dX2_close_24 : decode cX2_close 24 = .ok (.iconst 2, 1) := by decide +kernel
theorem dX2_close_25 : decode cX2_close 25 = .ok (.goto 4, 3) := by decide +kernel
theorem dX2_close_28 : decode cX2_close 28 = .ok (.iconst 0, 1) := by decide +kernel
theorem dX2_close_29 : decode cX2_close 29 = .ok (.invokevirtual 79, 3) := by decide +kernel
theorem dX2_close_32 : decode cX2_close 32 = .ok (.ifCond .ne 5, 3) := by decide +kernel
theorem dX2_close_35 : decode cX2_close 35 = .ok (.iconst 0, 1) := by decide +kernel
theorem dX2_close_36 : decode cX2_close 36 = .ok (.ireturn, 1) := by decide +kernel
theorem dX2_close_37 : decode cX2_close 37 = .ok (.iconst 5, 1) := by decide +kernel
theorem dX2_close_38 : decode cX2_close 38 = .ok (.aload_n 0, 1) := by decide +kernel
theorem dX2_close_39 : decode cX2_close 39 = .ok (.getfield 84, 3) := by decide +kernel
theorem dX2_close_42 : decode cX2_close 42 = .ok (.imul, 1) := by decide +kernel
theorem dX2_close_43 : decode cX2_close 43 = .ok (.istore_n 2, 1) := by decide +kernel
theorem dX2_close_44 : decode cX2_close 44 = .ok (.iconst 0, 1) := by decide +kernel
theorem dX2_close_45 : decode cX2_close 45 = .ok (.istore_n 3, 1) := by decide +kernel
theorem dX2_close_46 : decode cX2_close 46 = .ok (.iload_n 3, 1) := by decide +kernel
theorem dX2_close_47 : decode cX2_close 47 = .ok (.iconst 5, 1) := by decide +kernel
theorem dX2_close_48 : decode cX2_close 48 = .ok (.if_icmp .ge 78, 3) := by decide +kernel
theorem dX2_close_51 : decode cX2_close 51 = .ok (.aload_n 0, 1) := by decide +kernel
theorem dX2_close_52 : decode cX2_close 52 = .ok (.getfield 36, 3) := by decide +kernel
theorem dX2_close_55 : decode cX2_close 55 = .ok (.iload_n 2, 1) := by decide +kernel
theorem dX2_close_56 : decode cX2_close 56 = .ok (.iload_n 3, 1) := by decide +kernel
theorem dX2_close_57 : decode cX2_close 57 = .ok (.iadd, 1) := by decide +kernel
theorem dX2_close_58 : decode cX2_close 58 = .ok (.aload_n 0, 1) := by decide +kernel
theorem dX2_close_59 : decode cX2_close 59 = .ok (.getfield 30, 3) := by decide +kernel
theorem dX2_close_62 : decode cX2_close 62 = .ok (.iload_n 3, 1) := by decide +kernel
theorem dX2_close_63 : decode cX2_close 63 = .ok (.baload, 1) := by decide +kernel
theorem dX2_close_64 : decode cX2_close 64 = .ok (.bastore, 1) := by decide +kernel
theorem dX2_close_65 : decode cX2_close 65 = .ok (.aload_n 0, 1) := by decide +kernel
theorem dX2_close_66 : decode cX2_close 66 = .ok (.getfield 39, 3) := by decide +kernel
theorem dX2_close_69 : decode cX2_close 69 = .ok (.iload_n 2, 1) := by decide +kernel
theorem dX2_close_70 : decode cX2_close 70 = .ok (.iload_n 3, 1) := by decide +kernel
theorem dX2_close_71 : decode cX2_close 71 = .ok (.iadd, 1) := by decide +kernel
theorem dX2_close_72 : decode cX2_close 72 = .ok (.aload_n 0, 1) := by decide +kernel
theorem dX2_close_73 : decode cX2_close 73 = .ok (.getfield 30, 3) := by decide +kernel
theorem dX2_close_76 : decode cX2_close 76 = .ok (.iload_n 3, 1) := by decide +kernel
theorem dX2_close_77 : decode cX2_close 77 = .ok (.baload, 1) := by decide +kernel
theorem dX2_close_78 : decode cX2_close 78 = .ok (.ifCond .eq 13, 3) := by decide +kernel
theorem dX2_close_81 : decode cX2_close 81 = .ok (.aload_n 0, 1) := by decide +kernel
theorem dX2_close_82 : decode cX2_close 82 = .ok (.getfield 33, 3) := by decide +kernel
theorem dX2_close_85 : decode cX2_close 85 = .ok (.iload_n 3, 1) := by decide +kernel
theorem dX2_close_86 : decode cX2_close 86 = .ok (.iaload, 1) := by decide +kernel
theorem dX2_close_87 : decode cX2_close 87 = .ok (.i2d, 1) := by decide +kernel
theorem dX2_close_88 : decode cX2_close 88 = .ok (.goto 8, 3) := by decide +kernel
theorem dX2_close_91 : decode cX2_close 91 = .ok (.aload_n 0, 1) := by decide +kernel
theorem dX2_close_92 : decode cX2_close 92 = .ok (.iload_n 3, 1) := by decide +kernel
theorem dX2_close_93 : decode cX2_close 93 = .ok (.invokevirtual 110, 3) := by decide +kernel
theorem dX2_close_96 : decode cX2_close 96 = .ok (.dastore, 1) := by decide +kernel
theorem dX2_close_97 : decode cX2_close 97 = .ok (.aload_n 0, 1) := by decide +kernel
theorem dX2_close_98 : decode cX2_close 98 = .ok (.getfield 42, 3) := by decide +kernel
theorem dX2_close_101 : decode cX2_close 101 = .ok (.iload_n 2, 1) := by decide +kernel
theorem dX2_close_102 : decode cX2_close 102 = .ok (.iload_n 3, 1) := by decide +kernel
theorem dX2_close_103 : decode cX2_close 103 = .ok (.iadd, 1) := by decide +kernel
theorem dX2_close_104 : decode cX2_close 104 = .ok (.aload_n 0, 1) := by decide +kernel
theorem dX2_close_105 : decode cX2_close 105 = .ok (.getfield 39, 3) := by decide +kernel
theorem dX2_close_108 : decode cX2_close 108 = .ok (.iload_n 2, 1) := by decide +kernel
theorem dX2_close_109 : decode cX2_close 109 = .ok (.iload_n 3, 1) := by decide +kernel
theorem dX2_close_110 : decode cX2_close 110 = .ok (.iadd, 1) := by decide +kernel
theorem dX2_close_111 : decode cX2_close 111 = .ok (.daload, 1) := by decide +kernel
theorem dX2_close_112 : decode cX2_close 112 = .ok (.dastore, 1) := by decide +kernel
theorem dX2_close_113 : decode cX2_close 113 = .ok (.aload_n 0, 1) := by decide +kernel
theorem dX2_close_114 : decode cX2_close 114 = .ok (.getfield 30, 3) := by decide +kernel
theorem dX2_close_117 : decode cX2_close 117 = .ok (.iload_n 3, 1) := by decide +kernel
theorem dX2_close_118 : decode cX2_close 118 = .ok (.iconst 0, 1) := by decide +kernel
theorem dX2_close_119 : decode cX2_close 119 = .ok (.bastore, 1) := by decide +kernel
theorem dX2_close_120 : decode cX2_close 120 = .ok (.iinc 3 1, 3) := by decide +kernel
theorem dX2_close_123 : decode cX2_close 123 = .ok (.goto (-77), 3) := by decide +kernel
theorem dX2_close_126 : decode cX2_close 126 = .ok (.aload_n 0, 1) := by decide +kernel
theorem dX2_close_127 : decode cX2_close 127 = .ok (.iload_n 2, 1) := by decide +kernel
theorem dX2_close_128 : decode cX2_close 128 = .ok (.invokevirtual 114, 3) := by decide +kernel
theorem dX2_close_131 : decode cX2_close 131 = .ok (.istore_n 3, 1) := by decide +kernel
theorem dX2_close_132 : decode cX2_close 132 = .ok (.iconst 0, 1) := by decide +kernel
theorem dX2_close_133 : decode cX2_close 133 = .ok (.istore 4, 2) := by decide +kernel
theorem dX2_close_135 : decode cX2_close 135 = .ok (.iload 4, 2) := by decide +kernel
theorem dX2_close_137 : decode cX2_close 137 = .ok (.iconst 5, 1) := by decide +kernel
theorem dX2_close_138 : decode cX2_close 138 = .ok (.if_icmp .ge 25, 3) := by decide +kernel
theorem dX2_close_141 : decode cX2_close 141 = .ok (.aload_n 0, 1) := by decide +kernel
theorem dX2_close_142 : decode cX2_close 142 = .ok (.getfield 60, 3) := by decide +kernel
theorem dX2_close_145 : decode cX2_close 145 = .ok (.iload 4, 2) := by decide +kernel
theorem dX2_close_147 : decode cX2_close 147 = .ok (.aload_n 0, 1) := by decide +kernel
theorem dX2_close_148 : decode cX2_close 148 = .ok (.getfield 42, 3) := by decide +kernel
theorem dX2_close_151 : decode cX2_close 151 = .ok (.iload_n 2, 1) := by decide +kernel
theorem dX2_close_152 : decode cX2_close 152 = .ok (.iload 4, 2) := by decide +kernel
theorem dX2_close_154 : decode cX2_close 154 = .ok (.iadd, 1) := by decide +kernel
theorem dX2_close_155 : decode cX2_close 155 = .ok (.daload, 1) := by decide +kernel
theorem dX2_close_156 : decode cX2_close 156 = .ok (.dastore, 1) := by decide +kernel
theorem dX2_close_157 : decode cX2_close 157 = .ok (.iinc 4 1, 3) := by decide +kernel
theorem dX2_close_160 : decode cX2_close 160 = .ok (.goto (-25), 3) := by decide +kernel
theorem dX2_close_163 : decode cX2_close 163 = .ok (.aload_n 0, 1) := by decide +kernel
theorem dX2_close_164 : decode cX2_close 164 = .ok (.iload_n 2, 1) := by decide +kernel
theorem dX2_close_165 : decode cX2_close 165 = .ok (.iload_n 1, 1) := by decide +kernel
theorem dX2_close_166 : decode cX2_close 166 = .ok (.invokevirtual 117, 3) := by decide +kernel
theorem dX2_close_169 : decode cX2_close 169 = .ok (.dstore 4, 2) := by decide +kernel
theorem dX2_close_171 : decode cX2_close 171 = .ok (.ldc2_w 120, 3) := by decide +kernel
theorem dX2_close_174 : decode cX2_close 174 = .ok (.aload_n 0, 1) := by decide +kernel
theorem dX2_close_175 : decode cX2_close 175 = .ok (.getfield 105, 3) := by decide +kernel
theorem dX2_close_178 : decode cX2_close 178 = .ok (.dsub, 1) := by decide +kernel
theorem dX2_close_179 : decode cX2_close 179 = .ok (.dstore 6, 2) := by decide +kernel
theorem dX2_close_181 : decode cX2_close 181 = .ok (.aload_n 0, 1) := by decide +kernel
theorem dX2_close_182 : decode cX2_close 182 = .ok (.getfield 54, 3) := by decide +kernel
theorem dX2_close_185 : decode cX2_close 185 = .ok (.aload_n 0, 1) := by decide +kernel
theorem dX2_close_186 : decode cX2_close 186 = .ok (.getfield 84, 3) := by decide +kernel
theorem dX2_close_189 : decode cX2_close 189 = .ok (.dload 4, 2) := by decide +kernel
theorem dX2_close_191 : decode cX2_close 191 = .ok (.dload 6, 2) := by decide +kernel
theorem dX2_close_193 : decode cX2_close 193 = .ok (.dcmp .g, 1) := by decide +kernel
theorem dX2_close_194 : decode cX2_close 194 = .ok (.ifCond .ge 7, 3) := by decide +kernel
theorem dX2_close_197 : decode cX2_close 197 = .ok (.dconst 0, 1) := by decide +kernel
theorem dX2_close_198 : decode cX2_close 198 = .ok (.goto 8, 3) := by decide +kernel
theorem dX2_close_201 : decode cX2_close 201 = .ok (.dload 4, 2) := by decide +kernel
theorem dX2_close_203 : decode cX2_close 203 = .ok (.dload 6, 2) := by decide +kernel
theorem dX2_close_205 : decode cX2_close 205 = .ok (.dsub, 1) := by decide +kernel
theorem dX2_close_206 : decode cX2_close 206 = .ok (.dastore, 1) := by decide +kernel
theorem dX2_close_207 : decode cX2_close 207 = .ok (.aload_n 0, 1) := by decide +kernel
theorem dX2_close_208 : decode cX2_close 208 = .ok (.dload 4, 2) := by decide +kernel
theorem dX2_close_210 : decode cX2_close 210 = .ok (.dload 6, 2) := by decide +kernel
theorem dX2_close_212 : decode cX2_close 212 = .ok (.dcmp .g, 1) := by decide +kernel
theorem dX2_close_213 : decode cX2_close 213 = .ok (.ifCond .ge 13, 3) := by decide +kernel
theorem dX2_close_216 : decode cX2_close 216 = .ok (.aload_n 0, 1) := by decide +kernel
theorem dX2_close_217 : decode cX2_close 217 = .ok (.getfield 105, 3) := by decide +kernel
theorem dX2_close_220 : decode cX2_close 220 = .ok (.dload 4, 2) := by decide +kernel
theorem dX2_close_222 : decode cX2_close 222 = .ok (.dadd, 1) := by decide +kernel
theorem dX2_close_223 : decode cX2_close 223 = .ok (.goto 6, 3) := by decide +kernel
theorem dX2_close_226 : decode cX2_close 226 = .ok (.ldc2_w 120, 3) := by decide +kernel
theorem dX2_close_229 : decode cX2_close 229 = .ok (.putfield 105, 3) := by decide +kernel
theorem dX2_close_232 : decode cX2_close 232 = .ok (.dload 4, 2) := by decide +kernel
theorem dX2_close_234 : decode cX2_close 234 = .ok (.dconst 0, 1) := by decide +kernel
theorem dX2_close_235 : decode cX2_close 235 = .ok (.dcmp .l, 1) := by decide +kernel
theorem dX2_close_236 : decode cX2_close 236 = .ok (.ifCond .ne 8, 3) := by decide +kernel
theorem dX2_close_239 : decode cX2_close 239 = .ok (.aload_n 0, 1) := by decide +kernel
theorem dX2_close_240 : decode cX2_close 240 = .ok (.iload_n 2, 1) := by decide +kernel
theorem dX2_close_241 : decode cX2_close 241 = .ok (.invokevirtual 122, 3) := by decide +kernel
theorem dX2_close_244 : decode cX2_close 244 = .ok (.aload_n 0, 1) := by decide +kernel
theorem dX2_close_245 : decode cX2_close 245 = .ok (.iload_n 2, 1) := by decide +kernel
theorem dX2_close_246 : decode cX2_close 246 = .ok (.invokevirtual 126, 3) := by decide +kernel
theorem dX2_close_249 : decode cX2_close 249 = .ok (.aload_n 0, 1) := by decide +kernel
theorem dX2_close_250 : decode cX2_close 250 = .ok (.getfield 57, 3) := by decide +kernel
theorem dX2_close_253 : decode cX2_close 253 = .ok (.aload_n 0, 1) := by decide +kernel
theorem dX2_close_254 : decode cX2_close 254 = .ok (.getfield 84, 3) := by decide +kernel
theorem dX2_close_257 : decode cX2_close 257 = .ok (.aload_n 0, 1) := by decide +kernel
theorem dX2_close_258 : decode cX2_close 258 = .ok (.getfield 26, 3) := by decide +kernel
theorem dX2_close_261 : decode cX2_close 261 = .ok (.dastore, 1) := by decide +kernel
theorem dX2_close_262 : decode cX2_close 262 = .ok (.aload_n 0, 1) := by decide +kernel
theorem dX2_close_263 : decode cX2_close 263 = .ok (.dup, 1) := by decide +kernel
theorem dX2_close_264 : decode cX2_close 264 = .ok (.getfield 84, 3) := by decide +kernel
theorem dX2_close_267 : decode cX2_close 267 = .ok (.iconst 1, 1) := by decide +kernel
theorem dX2_close_268 : decode cX2_close 268 = .ok (.iadd, 1) := by decide +kernel
theorem dX2_close_269 : decode cX2_close 269 = .ok (.putfield 84, 3) := by decide +kernel
theorem dX2_close_272 : decode cX2_close 272 = .ok (.iload_n 3, 1) := by decide +kernel
theorem dX2_close_273 : decode cX2_close 273 = .ok (.ireturn, 1) := by decide +kernel
theorem dX2_closed_0 : decode cX2_closed 0 = .ok (.aload_n 0, 1) := by decide +kernel
theorem dX2_closed_1 : decode cX2_closed 1 = .ok (.iconst 0, 1) := by decide +kernel
theorem dX2_closed_2 : decode cX2_closed 2 = .ok (.putfield 63, 3) := by decide +kernel
theorem dX2_closed_5 : decode cX2_closed 5 = .ok (.aload_n 0, 1) := by decide +kernel
theorem dX2_closed_6 : decode cX2_closed 6 = .ok (.getfield 84, 3) := by decide +kernel
theorem dX2_closed_9 : decode cX2_closed 9 = .ok (.ireturn, 1) := by decide +kernel
set_option maxRecDepth 20000 in
theorem ggX2_isQuarter_X2_in : GoodIn wsX2_isQuarter wsX2_in := goodIn_r _ [5] (by decide +kernel) (by decide +kernel)
set_option maxRecDepth 20000 in
theorem gX2_isQuarter_X2_in : GoodIn wsX2_isQuarter (va_wsS RX2 67 yX2_in wsX2_in) := goodIn_app (goodIn_of _ (by decide +kernel)) ggX2_isQuarter_X2_in
theorem dX2_isQuarter_0 : decode cX2_isQuarter 0 = .ok (.iload_n 1, 1) := by decide +kernel
theorem dX2_isQuarter_1 : decode cX2_isQuarter 1 = .ok (.iconst 0, 1) := by decide +kernel
theorem dX2_isQuarter_2 : decode cX2_isQuarter 2 = .ok (.aload_n 0, 1) := by decide +kernel
theorem dX2_isQuarter_3 : decode cX2_isQuarter 3 = .ok (.getfield 84, 3) := by decide +kernel
theorem dX2_isQuarter_6 : decode cX2_isQuarter 6 = .ok (.iconst 1, 1) := by decide +kernel
theorem dX2_isQuarter_7 : decode cX2_isQuarter 7 = .ok (.isub, 1) := by decide +kernel
theorem dX2_isQuarter_8 : decode cX2_isQuarter 8 = .ok (.invokestatic 67, 3) := by decide +kernel
theorem dX2_isQuarter_11 : decode cX2_isQuarter 11 = .ok (.ireturn, 1) := by decide +kernel
set_option maxRecDepth 20000 in
theorem ggX2_errorOfReplace_X2_isOwner : GoodIn wsX2_errorOfReplace wsX2_isOwner := goodIn_r _ [5, 6, 7, 4, 8] (by decide +kernel) (by decide +kernel)
set_option maxRecDepth 20000 in
theorem gX2_errorOfReplace_X2_isOwner : GoodIn wsX2_errorOfReplace (va_wsS RX2 71 yX2_isOwner wsX2_isOwner) := goodIn_app (goodIn_of _ (by decide +kernel)) ggX2_errorOfReplace_X2_isOwner
set_option maxRecDepth 20000 in
theorem ggX2_errorOfReplace_X2_in : GoodIn wsX2_errorOfReplace wsX2_in := goodIn_r _ [8] (by decide +kernel) (by decide +kernel)
set_option maxRecDepth 20000 in
theorem gX2_errorOfReplace_X2_in : GoodIn wsX2_errorOfReplace (va_wsS RX2 67 yX2_in wsX2_in) := goodIn_app (goodIn_of _ (by decide +kernel)) ggX2_errorOfReplace_X2_in
set_option maxRecDepth 20000 in
theorem ggX2_errorOfReplace_X2_isQuarter : GoodIn wsX2_errorOfReplace wsX2_isQuarter := goodIn_r _ [12, 13, 6, 7, 4, 8, 14, 15, 16, 17, 18, 19, 20, 21, 22, 23, 24, 25, 26, 27, 28, 29, 30, 31, 32, 33] (by decide +kernel) (by decide +kernel)
set_option maxRecDepth 20000 in
theorem gX2_errorOfReplace_X2_isQuarter : GoodIn wsX2_errorOfReplace (wsV RX2 129 RX2 yX2_isQuarter wsX2_isQuarter) := goodIn_app (goodIn_of _ (by decide +kernel)) ggX2_errorOfReplace_X2_isQuarter
theorem dX2_errorOfReplace_0 : decode cX2_errorOfReplace 0 = .ok (.iload_n 1, 1) := by decide +kernel
theorem dX2_errorOfReplace_1 : decode cX2_errorOfReplace 1 = .ok (.invokestatic 71, 3) := by decide +kernel
theorem dX2_errorOfReplace_4 : decode cX2_errorOfReplace 4 = .ok (.ifCond .eq 13, 3) := by decide +kernel
theorem dX2_errorOfReplace_7 : decode cX2_errorOfReplace 7 = .ok (.iload_n 3, 1) := by decide +kernel
theorem dX2_errorOfReplace_8 : decode cX2_errorOfReplace 8 = .ok (.iconst 0, 1) := by decide +kernel
theorem dX2_errorOfReplace_9 : decode cX2_errorOfReplace 9 = .ok (.bipush 50, 2) := by decide +kernel
theorem dX2_errorOfReplace_11 : decode cX2_errorOfReplace 11 = .ok (.invokestatic 67, 3) := by decide +kernel
theorem dX2_errorOfReplace_14 : decode cX2_errorOfReplace 14 = .ok (.ifCond .ne 5, 3) := by decide +kernel
theorem dX2_errorOfReplace_17 : decode cX2_errorOfReplace 17 = .ok (.iconst 1, 1) := by decide +kernel
theorem dX2_errorOfReplace_18 : decode cX2_errorOfReplace 18 = .ok (.ireturn, 1) := by decide +kernel
theorem dX2_errorOfReplace_19 : decode cX2_errorOfReplace 19 = .ok (.aload_n 0, 1) := by decide +kernel
theorem dX2_errorOfReplace_20 : decode cX2_errorOfReplace 20 = .ok (.iload_n 2, 1) := by decide +kernel
theorem dX2_errorOfReplace_21 : decode cX2_errorOfReplace 21 = .ok (.invokevirtual 129, 3) := by decide +kernel
theorem dX2_errorOfReplace_24 : decode cX2_errorOfReplace 24 = .ok (.ifCond .ne 7, 3) := by decide +kernel
theorem dX2_errorOfReplace_27 : decode cX2_errorOfReplace 27 = .ok (.iconst 2, 1) := by decide +kernel
theorem dX2_errorOfReplace_28 : decode cX2_errorOfReplace 28 = .ok (.goto 21, 3) := by decide +kernel
theorem dX2_errorOfReplace_31 : decode cX2_errorOfReplace 31 = .ok (.aload_n 0, 1) := by decide +kernel
theorem dX2_errorOfReplace_32 : decode cX2_errorOfReplace 32 = .ok (.getfield 36, 3) := by decide +kernel
theorem dX2_errorOfReplace_35 : decode cX2_errorOfReplace 35 = .ok (.iconst 5, 1) := by decide +kernel
theorem dX2_errorOfReplace_36 : decode cX2_errorOfReplace 36 = .ok (.iload_n 2, 1) := by decide +kernel
theorem dX2_errorOfReplace_37 : decode cX2_errorOfReplace 37 = .ok (.imul, 1) := by decide +kernel
theorem dX2_errorOfReplace_38 : decode cX2_errorOfReplace 38 = .ok (.iload_n 1, 1) := by decide +kernel
theorem dX2_errorOfReplace_39 : decode cX2_errorOfReplace 39 = .ok (.iadd, 1) := by decide +kernel
theorem dX2_errorOfReplace_40 : decode cX2_errorOfReplace 40 = .ok (.baload, 1) := by decide +kernel
theorem dX2_errorOfReplace_41 : decode cX2_errorOfReplace 41 = .ok (.ifCond .eq 7, 3) := by decide +kernel
theorem dX2_errorOfReplace_44 : decode cX2_errorOfReplace 44 = .ok (.iconst 3, 1) := by decide +kernel
theorem dX2_errorOfReplace_45 : decode cX2_errorOfReplace 45 = .ok (.goto 4, 3) := by decide +kernel
theorem dX2_errorOfReplace_48 : decode cX2_errorOfReplace 48 = .ok (.iconst 0, 1) := by decide +kernel
theorem dX2_errorOfReplace_49 : decode cX2_errorOfReplace 49 = .ok (.ireturn, 1) := by decide +kernel
set_option maxRecDepth 20000 in
theorem ggX2_replace_X2_errorOfReplace : GoodIn wsX2_replace wsX2_errorOfReplace := goodIn_r _ [10, 3, 11, 12, 9, 13, 14, 15, 16, 17, 18, 19, 20, 21, 27, 28, 29, 30, 31, 32, 33, 34, 35, 36, 37, 38, 39, 40, 41, 42, 43, 44, 45, 46] (by decide +kernel) (by decide +kernel)
set_option maxRecDepth 20000 in
theorem gX2_replace_X2_errorOfReplace : GoodIn wsX2_replace (wsV RX2 132 RX2 yX2_errorOfReplace wsX2_errorOfReplace) := goodIn_app (goodIn_of _ (by decide +kernel)) ggX2_replace_X2_errorOfReplace
set_option maxRecDepth 20000 in
theorem ggX2_replace_X2_holds : GoodIn wsX2_replace wsX2_holds := goodIn_r _ [25, 26, 27, 28, 29, 30, 31, 32, 33, 34, 35, 36, 37, 38, 39, 40, 41, 42, 43, 44, 45, 46] (by decide +kernel) (by decide +kernel)
set_option maxRecDepth 20000 in
theorem gX2_replace_X2_holds : GoodIn wsX2_replace (wsV RX2 79 RX2 yX2_holds wsX2_holds) := goodIn_app (goodIn_of _ (by decide +kernel)) ggX2_replace_X2_holds
theorem dX2_replace_0 : decode cX2_replace 0 = .ok (.aload_n 0, 1) := by decide +kernel
theorem dX2_replace_1 : decode cX2_replace 1 = .ok (.aload_n 0, 1) := by decide +kernel
theorem dX2_replace_2 : decode cX2_replace 2 = .ok (.iload_n 1, 1) := by decide +kernel
theorem dX2_replace_3 : decode cX2_replace 3 = .ok (.iload_n 2, 1) := by decide +kernel
theorem dX2_replace_4 : decode cX2_replace 4 = .ok (.iload_n 3, 1) := by decide +kernel
theorem dX2_replace_5 : decode cX2_replace 5 = .ok (.invokevirtual 132, 3) := by decide +kernel
theorem dX2_replace_8 : decode cX2_replace 8 = .ok (.invokevirtual 79, 3) := by decide +kernel
theorem dX2_replace_11 : decode cX2_replace 11 = .ok (.ifCond .ne 5, 3) := by decide +kernel
theorem dX2_replace_14 : decode cX2_replace 14 = .ok (.dconst 0, 1) := by decide +kernel
theorem dX2_replace_15 : decode cX2_replace 15 = .ok (.dreturn, 1) := by decide +kernel
theorem dX2_replace_16 : decode cX2_replace 16 = .ok (.iconst 5, 1) := by decide +kernel
theorem dX2_replace_17 : decode cX2_replace 17 = .ok (.iload_n 2, 1) := by decide +kernel
theorem dX2_replace_18 : decode cX2_replace 18 = .ok (.imul, 1) := by decide +kernel
theorem dX2_replace_19 : decode cX2_replace 19 = .ok (.iload_n 1, 1) := by decide +kernel
theorem dX2_replace_20 : decode cX2_replace 20 = .ok (.iadd, 1) := by decide +kernel
theorem dX2_replace_21 : decode cX2_replace 21 = .ok (.istore 4, 2) := by decide +kernel
theorem dX2_replace_23 : decode cX2_replace 23 = .ok (.iload_n 3, 1) := by decide +kernel
theorem dX2_replace_24 : decode cX2_replace 24 = .ok (.i2d, 1) := by decide +kernel
theorem dX2_replace_25 : decode cX2_replace 25 = .ok (.aload_n 0, 1) := by decide +kernel
theorem dX2_replace_26 : decode cX2_replace 26 = .ok (.getfield 42, 3) := by decide +kernel
theorem dX2_replace_29 : decode cX2_replace 29 = .ok (.iload 4, 2) := by decide +kernel
theorem dX2_replace_31 : decode cX2_replace 31 = .ok (.daload, 1) := by decide +kernel
theorem dX2_replace_32 : decode cX2_replace 32 = .ok (.dsub, 1) := by decide +kernel
theorem dX2_replace_33 : decode cX2_replace 33 = .ok (.aload_n 0, 1) := by decide +kernel
theorem dX2_replace_34 : decode cX2_replace 34 = .ok (.getfield 57, 3) := by decide +kernel
theorem dX2_replace_37 : decode cX2_replace 37 = .ok (.iload_n 2, 1) := by decide +kernel
theorem dX2_replace_38 : decode cX2_replace 38 = .ok (.daload, 1) := by decide +kernel
theorem dX2_replace_39 : decode cX2_replace 39 = .ok (.dmul, 1) := by decide +kernel
theorem dX2_replace_40 : decode cX2_replace 40 = .ok (.dstore 5, 2) := by decide +kernel
theorem dX2_replace_42 : decode cX2_replace 42 = .ok (.aload_n 0, 1) := by decide +kernel
theorem dX2_replace_43 : decode cX2_replace 43 = .ok (.getfield 36, 3) := by decide +kernel
theorem dX2_replace_46 : decode cX2_replace 46 = .ok (.iload 4, 2) := by decide +kernel
theorem dX2_replace_48 : decode cX2_replace 48 = .ok (.iconst 1, 1) := by decide +kernel
theorem dX2_replace_49 : decode cX2_replace 49 = .ok (.bastore, 1) := by decide +kernel
theorem dX2_replace_50 : decode cX2_replace 50 = .ok (.aload_n 0, 1) := by decide +kernel
theorem dX2_replace_51 : decode cX2_replace 51 = .ok (.getfield 39, 3) := by decide +kernel
theorem dX2_replace_54 : decode cX2_replace 54 = .ok (.iload 4, 2) := by decide +kernel
theorem dX2_replace_56 : decode cX2_replace 56 = .ok (.iload_n 3, 1) := by decide +kernel
theorem dX2_replace_57 : decode cX2_replace 57 = .ok (.i2d, 1) := by decide +kernel
theorem dX2_replace_58 : decode cX2_replace 58 = .ok (.dastore, 1) := by decide +kernel
theorem dX2_replace_59 : decode cX2_replace 59 = .ok (.aload_n 0, 1) := by decide +kernel
theorem dX2_replace_60 : decode cX2_replace 60 = .ok (.getfield 20, 3) := by decide +kernel
theorem dX2_replace_63 : decode cX2_replace 63 = .ok (.iload_n 1, 1) := by decide +kernel
theorem dX2_replace_64 : decode cX2_replace 64 = .ok (.dup2, 1) := by decide +kernel
theorem dX2_replace_65 : decode cX2_replace 65 = .ok (.daload, 1) := by decide +kernel
theorem dX2_replace_66 : decode cX2_replace 66 = .ok (.dload 5, 2) := by decide +kernel
theorem dX2_replace_68 : decode cX2_replace 68 = .ok (.dadd, 1) := by decide +kernel
theorem dX2_replace_69 : decode cX2_replace 69 = .ok (.dastore, 1) := by decide +kernel
theorem dX2_replace_70 : decode cX2_replace 70 = .ok (.dload 5, 2) := by decide +kernel
theorem dX2_replace_72 : decode cX2_replace 72 = .ok (.dreturn, 1) := by decide +kernel
set_option maxRecDepth 20000 in
theorem ggX2_isAt_X2_isOwner : GoodIn wsX2_isAt wsX2_isOwner := goodIn_r _ [4, 5, 6, 3, 7] (by decide +kernel) (by decide +kernel)
set_option maxRecDepth 20000 in
theorem gX2_isAt_X2_isOwner : GoodIn wsX2_isAt (va_wsS RX2 71 yX2_isOwner wsX2_isOwner) := goodIn_app (goodIn_of _ (by decide +kernel)) ggX2_isAt_X2_isOwner
set_option maxRecDepth 20000 in
theorem ggX2_isAt_X2_isQuarter : GoodIn wsX2_isAt wsX2_isQuarter := goodIn_r _ [11, 12, 5, 6, 3, 7, 18, 19, 20, 21, 22, 23, 24, 25, 26, 27, 28, 29, 30, 31, 32, 33, 34, 35, 36, 37] (by decide +kernel) (by decide +kernel)
set_option maxRecDepth 20000 in
theorem gX2_isAt_X2_isQuarter : GoodIn wsX2_isAt (wsV RX2 129 RX2 yX2_isQuarter wsX2_isQuarter) := goodIn_app (goodIn_of _ (by decide +kernel)) ggX2_isAt_X2_isQuarter
set_option maxRecDepth 20000 in
theorem ggX2_isAt_X2_holds : GoodIn wsX2_isAt wsX2_holds := goodIn_r _ [16, 17, 18, 19, 20, 21, 22, 23, 24, 25, 26, 27, 28, 29, 30, 31, 32, 33, 34, 35, 36, 37] (by decide +kernel) (by decide +kernel)
set_option maxRecDepth 20000 in
theorem gX2_isAt_X2_holds : GoodIn wsX2_isAt (wsV RX2 79 RX2 yX2_holds wsX2_holds) := goodIn_app (goodIn_of _ (by decide +kernel)) ggX2_isAt_X2_holds
theorem dX2_isAt_0 : decode cX2_isAt 0 = .ok (.aload_n 0, 1) := by decide +kernel
theorem dX2_isAt_1 : decode cX2_isAt 1 = .ok (.iload_n 1, 1) := by decide +kernel
theorem dX2_isAt_2 : decode cX2_isAt 2 = .ok (.invokestatic 71, 3) := by decide +kernel
theorem dX2_isAt_5 : decode cX2_isAt 5 = .ok (.ifCond .ne 7, 3) := by decide +kernel
theorem dX2_isAt_8 : decode cX2_isAt 8 = .ok (.iconst 1, 1) := by decide +kernel
theorem dX2_isAt_9 : decode cX2_isAt 9 = .ok (.goto 16, 3) := by decide +kernel
theorem dX2_isAt_12 : decode cX2_isAt 12 = .ok (.aload_n 0, 1) := by decide +kernel
theorem dX2_isAt_13 : decode cX2_isAt 13 = .ok (.iload_n 2, 1) := by decide +kernel
theorem dX2_isAt_14 : decode cX2_isAt 14 = .ok (.invokevirtual 129, 3) := by decide +kernel
theorem dX2_isAt_17 : decode cX2_isAt 17 = .ok (.ifCond .eq 7, 3) := by decide +kernel
theorem dX2_isAt_20 : decode cX2_isAt 20 = .ok (.iconst 0, 1) := by decide +kernel
theorem dX2_isAt_21 : decode cX2_isAt 21 = .ok (.goto 4, 3) := by decide +kernel
theorem dX2_isAt_24 : decode cX2_isAt 24 = .ok (.iconst 2, 1) := by decide +kernel
theorem dX2_isAt_25 : decode cX2_isAt 25 = .ok (.invokevirtual 79, 3) := by decide +kernel
theorem dX2_isAt_28 : decode cX2_isAt 28 = .ok (.ireturn, 1) := by decide +kernel
set_option maxRecDepth 20000 in
theorem ggX2_use_X2_isAt : GoodIn wsX2_use wsX2_isAt := goodIn_r _ [6, 7, 8, 5, 9, 10, 11, 12, 13, 14, 15, 16, 17, 18, 19, 20, 21, 22, 23, 24, 25, 26, 27, 28, 29, 30, 31, 32, 33, 34, 35, 36, 37, 38, 39, 40, 41, 42] (by decide +kernel) (by decide +kernel)
set_option maxRecDepth 20000 in
theorem gX2_use_X2_isAt : GoodIn wsX2_use (wsV RX2 136 RX2 yX2_isAt wsX2_isAt) := goodIn_app (goodIn_of _ (by decide +kernel)) ggX2_use_X2_isAt
theorem dX2_use_0 : decode cX2_use 0 = .ok (.aload_n 0, 1) := by decide +kernel
theorem dX2_use_1 : decode cX2_use 1 = .ok (.iload_n 1, 1) := by decide +kernel
theorem dX2_use_2 : decode cX2_use 2 = .ok (.iload_n 2, 1) := by decide +kernel
theorem dX2_use_3 : decode cX2_use 3 = .ok (.invokevirtual 136, 3) := by decide +kernel
theorem dX2_use_6 : decode cX2_use 6 = .ok (.ifCond .eq 16, 3) := by decide +kernel
theorem dX2_use_9 : decode cX2_use 9 = .ok (.aload_n 0, 1) := by decide +kernel
theorem dX2_use_10 : decode cX2_use 10 = .ok (.getfield 39, 3) := by decide +kernel
theorem dX2_use_13 : decode cX2_use 13 = .ok (.iconst 5, 1) := by decide +kernel
theorem dX2_use_14 : decode cX2_use 14 = .ok (.iload_n 2, 1) := by decide +kernel
theorem dX2_use_15 : decode cX2_use 15 = .ok (.imul, 1) := by decide +kernel
theorem dX2_use_16 : decode cX2_use 16 = .ok (.iload_n 1, 1) := by decide +kernel
theorem dX2_use_17 : decode cX2_use 17 = .ok (.iadd, 1) := by decide +kernel
theorem dX2_use_18 : decode cX2_use 18 = .ok (.daload, 1) := by decide +kernel
theorem dX2_use_19 : decode cX2_use 19 = .ok (.goto 4, 3) := by decide +kernel
theorem dX2_use_22 : decode cX2_use 22 = .ok (.dconst 0, 1) := by decide +kernel
theorem dX2_use_23 : decode cX2_use 23 = .ok (.dreturn, 1) := by decide +kernel
set_option maxRecDepth 20000 in
theorem ggX2_fromSun_X2_isAt : GoodIn wsX2_fromSun wsX2_isAt := goodIn_r _ [6, 7, 8, 5, 9, 10, 11, 12, 13, 14, 15, 16, 17, 18, 19, 20, 21, 22, 23, 24, 25, 26, 27, 28, 29, 30, 31, 32, 33, 34, 35, 36, 37, 38, 39, 40, 41, 42] (by decide +kernel) (by decide +kernel)
set_option maxRecDepth 20000 in
theorem gX2_fromSun_X2_isAt : GoodIn wsX2_fromSun (wsV RX2 136 RX2 yX2_isAt wsX2_isAt) := goodIn_app (goodIn_of _ (by decide +kernel)) ggX2_fromSun_X2_isAt
theorem dX2_fromSun_0 : decode cX2_fromSun 0 = .ok (.aload_n 0, 1) := by decide +kernel
theorem dX2_fromSun_1 : decode cX2_fromSun 1 = .ok (.iload_n 1, 1) := by decide +kernel
theorem dX2_fromSun_2 : decode cX2_fromSun 2 = .ok (.iload_n 2, 1) := by decide +kernel
theorem dX2_fromSun_3 : decode cX2_fromSun 3 = .ok (.invokevirtual 136, 3) := by decide +kernel
theorem dX2_fromSun_6 : decode cX2_fromSun 6 = .ok (.ifCond .eq 16, 3) := by decide +kernel
theorem dX2_fromSun_9 : decode cX2_fromSun 9 = .ok (.aload_n 0, 1) := by decide +kernel
theorem dX2_fromSun_10 : decode cX2_fromSun 10 = .ok (.getfield 45, 3) := by decide +kernel
theorem dX2_fromSun_13 : decode cX2_fromSun 13 = .ok (.iconst 5, 1) := by decide +kernel
theorem dX2_fromSun_14 : decode cX2_fromSun 14 = .ok (.iload_n 2, 1) := by decide +kernel
theorem dX2_fromSun_15 : decode cX2_fromSun 15 = .ok (.imul, 1) := by decide +kernel
theorem dX2_fromSun_16 : decode cX2_fromSun 16 = .ok (.iload_n 1, 1) := by decide +kernel
theorem dX2_fromSun_17 : decode cX2_fromSun 17 = .ok (.iadd, 1) := by decide +kernel
theorem dX2_fromSun_18 : decode cX2_fromSun 18 = .ok (.daload, 1) := by decide +kernel
theorem dX2_fromSun_19 : decode cX2_fromSun 19 = .ok (.goto 4, 3) := by decide +kernel
theorem dX2_fromSun_22 : decode cX2_fromSun 22 = .ok (.dconst 0, 1) := by decide +kernel
theorem dX2_fromSun_23 : decode cX2_fromSun 23 = .ok (.dreturn, 1) := by decide +kernel
set_option maxRecDepth 20000 in
theorem ggX2_fromBattery_X2_isAt : GoodIn wsX2_fromBattery wsX2_isAt := goodIn_r _ [6, 7, 8, 5, 9, 10, 11, 12, 13, 14, 15, 16, 17, 18, 19, 20, 21, 22, 23, 24, 25, 26, 27, 28, 29, 30, 31, 32, 33, 34, 35, 36, 37, 38, 39, 40, 41, 42] (by decide +kernel) (by decide +kernel)
set_option maxRecDepth 20000 in
theorem gX2_fromBattery_X2_isAt : GoodIn wsX2_fromBattery (wsV RX2 136 RX2 yX2_isAt wsX2_isAt) := goodIn_app (goodIn_of _ (by decide +kernel)) ggX2_fromBattery_X2_isAt
theorem dX2_fromBattery_0 : decode cX2_fromBattery 0 = .ok (.aload_n 0, 1) := by decide +kernel
theorem dX2_fromBattery_1 : decode cX2_fromBattery 1 = .ok (.iload_n 1, 1) := by decide +kernel
theorem dX2_fromBattery_2 : decode cX2_fromBattery 2 = .ok (.iload_n 2, 1) := by decide +kernel
theorem dX2_fromBattery_3 : decode cX2_fromBattery 3 = .ok (.invokevirtual 136, 3) := by decide +kernel
theorem dX2_fromBattery_6 : decode cX2_fromBattery 6 = .ok (.ifCond .eq 16, 3) := by decide +kernel
theorem dX2_fromBattery_9 : decode cX2_fromBattery 9 = .ok (.aload_n 0, 1) := by decide +kernel
theorem dX2_fromBattery_10 : decode cX2_fromBattery 10 = .ok (.getfield 48, 3) := by decide +kernel
theorem dX2_fromBattery_13 : decode cX2_fromBattery 13 = .ok (.iconst 5, 1) := by decide +kernel
theorem dX2_fromBattery_14 : decode cX2_fromBattery 14 = .ok (.iload_n 2, 1) := by decide +kernel
theorem dX2_fromBattery_15 : decode cX2_fromBattery 15 = .ok (.imul, 1) := by decide +kernel
theorem dX2_fromBattery_16 : decode cX2_fromBattery 16 = .ok (.iload_n 1, 1) := by decide +kernel
theorem dX2_fromBattery_17 : decode cX2_fromBattery 17 = .ok (.iadd, 1) := by decide +kernel
theorem dX2_fromBattery_18 : decode cX2_fromBattery 18 = .ok (.daload, 1) := by decide +kernel
theorem dX2_fromBattery_19 : decode cX2_fromBattery 19 = .ok (.goto 4, 3) := by decide +kernel
theorem dX2_fromBattery_22 : decode cX2_fromBattery 22 = .ok (.dconst 0, 1) := by decide +kernel
theorem dX2_fromBattery_23 : decode cX2_fromBattery 23 = .ok (.dreturn, 1) := by decide +kernel
set_option maxRecDepth 20000 in
theorem ggX2_bought_X2_isAt : GoodIn wsX2_bought wsX2_isAt := goodIn_r _ [6, 7, 8, 5, 9, 10, 11, 12, 13, 14, 15, 16, 17, 18, 19, 20, 21, 22, 23, 24, 25, 26, 27, 28, 29, 30, 31, 32, 33, 34, 35, 36, 37, 38, 39, 40, 41, 42] (by decide +kernel) (by decide +kernel)
set_option maxRecDepth 20000 in
theorem gX2_bought_X2_isAt : GoodIn wsX2_bought (wsV RX2 136 RX2 yX2_isAt wsX2_isAt) := goodIn_app (goodIn_of _ (by decide +kernel)) ggX2_bought_X2_isAt
theorem dX2_bought_0 : decode cX2_bought 0 = .ok (.aload_n 0, 1) := by decide +kernel
theorem dX2_bought_1 : decode cX2_bought 1 = .ok (.iload_n 1, 1) := by decide +kernel
theorem dX2_bought_2 : decode cX2_bought 2 = .ok (.iload_n 2, 1) := by decide +kernel
theorem dX2_bought_3 : decode cX2_bought 3 = .ok (.invokevirtual 136, 3) := by decide +kernel
theorem dX2_bought_6 : decode cX2_bought 6 = .ok (.ifCond .eq 16, 3) := by decide +kernel
theorem dX2_bought_9 : decode cX2_bought 9 = .ok (.aload_n 0, 1) := by decide +kernel
theorem dX2_bought_10 : decode cX2_bought 10 = .ok (.getfield 51, 3) := by decide +kernel
theorem dX2_bought_13 : decode cX2_bought 13 = .ok (.iconst 5, 1) := by decide +kernel
theorem dX2_bought_14 : decode cX2_bought 14 = .ok (.iload_n 2, 1) := by decide +kernel
theorem dX2_bought_15 : decode cX2_bought 15 = .ok (.imul, 1) := by decide +kernel
theorem dX2_bought_16 : decode cX2_bought 16 = .ok (.iload_n 1, 1) := by decide +kernel
theorem dX2_bought_17 : decode cX2_bought 17 = .ok (.iadd, 1) := by decide +kernel
theorem dX2_bought_18 : decode cX2_bought 18 = .ok (.daload, 1) := by decide +kernel
theorem dX2_bought_19 : decode cX2_bought 19 = .ok (.goto 4, 3) := by decide +kernel
theorem dX2_bought_22 : decode cX2_bought 22 = .ok (.dconst 0, 1) := by decide +kernel
theorem dX2_bought_23 : decode cX2_bought 23 = .ok (.dreturn, 1) := by decide +kernel
set_option maxRecDepth 20000 in
theorem ggX2_sold_X2_isQuarter : GoodIn wsX2_sold wsX2_isQuarter := goodIn_r _ [6, 7, 8, 9, 5, 10, 16, 17, 18, 19, 20, 21, 22, 23, 24, 25, 26, 27, 28, 29, 30, 31, 32, 33, 34, 35] (by decide +kernel) (by decide +kernel)
set_option maxRecDepth 20000 in
theorem gX2_sold_X2_isQuarter : GoodIn wsX2_sold (wsV RX2 129 RX2 yX2_isQuarter wsX2_isQuarter) := goodIn_app (goodIn_of _ (by decide +kernel)) ggX2_sold_X2_isQuarter
set_option maxRecDepth 20000 in
theorem ggX2_sold_X2_holds : GoodIn wsX2_sold wsX2_holds := goodIn_r _ [14, 15, 16, 17, 18, 19, 20, 21, 22, 23, 24, 25, 26, 27, 28, 29, 30, 31, 32, 33, 34, 35] (by decide +kernel) (by decide +kernel)
set_option maxRecDepth 20000 in
theorem gX2_sold_X2_holds : GoodIn wsX2_sold (wsV RX2 79 RX2 yX2_holds wsX2_holds) := goodIn_app (goodIn_of _ (by decide +kernel)) ggX2_sold_X2_holds
theorem dX2_sold_0 : decode cX2_sold 0 = .ok (.aload_n 0, 1) := by decide +kernel
theorem dX2_sold_1 : decode cX2_sold 1 = .ok (.aload_n 0, 1) := by decide +kernel
theorem dX2_sold_2 : decode cX2_sold 2 = .ok (.iload_n 1, 1) := by decide +kernel
theorem dX2_sold_3 : decode cX2_sold 3 = .ok (.invokevirtual 129, 3) := by decide +kernel
theorem dX2_sold_6 : decode cX2_sold 6 = .ok (.ifCond .eq 7, 3) := by decide +kernel
theorem dX2_sold_9 : decode cX2_sold 9 = .ok (.iconst 0, 1) := by decide +kernel
theorem dX2_sold_10 : decode cX2_sold 10 = .ok (.goto 4, 3) := by decide +kernel
theorem dX2_sold_13 : decode cX2_sold 13 = .ok (.iconst 1, 1) := by decide +kernel
theorem dX2_sold_14 : decode cX2_sold 14 = .ok (.invokevirtual 79, 3) := by decide +kernel
theorem dX2_sold_17 : decode cX2_sold 17 = .ok (.ifCond .eq 12, 3) := by decide +kernel
theorem dX2_sold_20 : decode cX2_sold 20 = .ok (.aload_n 0, 1) := by decide +kernel
theorem dX2_sold_21 : decode cX2_sold 21 = .ok (.getfield 54, 3) := by decide +kernel
theorem dX2_sold_24 : decode cX2_sold 24 = .ok (.iload_n 1, 1) := by decide +kernel
theorem dX2_sold_25 : decode cX2_sold 25 = .ok (.daload, 1) := by decide +kernel
theorem dX2_sold_26 : decode cX2_sold 26 = .ok (.goto 4, 3) := by decide +kernel
theorem dX2_sold_29 : decode cX2_sold 29 = .ok (.dconst 0, 1) := by decide +kernel
theorem dX2_sold_30 : decode cX2_sold 30 = .ok (.dreturn, 1) := by decide +kernel
theorem dX2_battery_0 : decode cX2_battery 0 = .ok (.aload_n 0, 1) := by decide +kernel
theorem dX2_battery_1 : decode cX2_battery 1 = .ok (.iconst 0, 1) := by decide +kernel
theorem dX2_battery_2 : decode cX2_battery 2 = .ok (.putfield 63, 3) := by decide +kernel
theorem dX2_battery_5 : decode cX2_battery 5 = .ok (.aload_n 0, 1) := by decide +kernel
theorem dX2_battery_6 : decode cX2_battery 6 = .ok (.getfield 105, 3) := by decide +kernel
theorem dX2_battery_9 : decode cX2_battery 9 = .ok (.dreturn, 1) := by decide +kernel
theorem dX2_turn_0 : decode cX2_turn 0 = .ok (.aload_n 0, 1) := by decide +kernel
theorem dX2_turn_1 : decode cX2_turn 1 = .ok (.iconst 0, 1) := by decide +kernel
theorem dX2_turn_2 : decode cX2_turn 2 = .ok (.putfield 63, 3) := by decide +kernel
theorem dX2_turn_5 : decode cX2_turn 5 = .ok (.aload_n 0, 1) := by decide +kernel
theorem dX2_turn_6 : decode cX2_turn 6 = .ok (.getfield 102, 3) := by decide +kernel
theorem dX2_turn_9 : decode cX2_turn 9 = .ok (.ireturn, 1) := by decide +kernel
set_option maxRecDepth 20000 in
theorem ggX2_sheds_X2_isOwner : GoodIn wsX2_sheds wsX2_isOwner := goodIn_r _ [5, 6, 7, 4, 8] (by decide +kernel) (by decide +kernel)
set_option maxRecDepth 20000 in
theorem gX2_sheds_X2_isOwner : GoodIn wsX2_sheds (va_wsS RX2 71 yX2_isOwner wsX2_isOwner) := goodIn_app (goodIn_of _ (by decide +kernel)) ggX2_sheds_X2_isOwner
set_option maxRecDepth 20000 in
theorem ggX2_sheds_X2_holds : GoodIn wsX2_sheds wsX2_holds := goodIn_r _ [12, 13, 14, 15, 16, 17, 18, 19, 20, 21, 22, 23, 24, 25, 26, 27, 28, 29, 30, 31, 32, 33] (by decide +kernel) (by decide +kernel)
set_option maxRecDepth 20000 in
theorem gX2_sheds_X2_holds : GoodIn wsX2_sheds (wsV RX2 79 RX2 yX2_holds wsX2_holds) := goodIn_app (goodIn_of _ (by decide +kernel)) ggX2_sheds_X2_holds
theorem dX2_sheds_0 : decode cX2_sheds 0 = .ok (.aload_n 0, 1) := by decide +kernel
theorem dX2_sheds_1 : decode cX2_sheds 1 = .ok (.iload_n 1, 1) := by decide +kernel
theorem dX2_sheds_2 : decode cX2_sheds 2 = .ok (.invokestatic 71, 3) := by decide +kernel
theorem dX2_sheds_5 : decode cX2_sheds 5 = .ok (.ifCond .eq 7, 3) := by decide +kernel
theorem dX2_sheds_8 : decode cX2_sheds 8 = .ok (.iconst 0, 1) := by decide +kernel
theorem dX2_sheds_9 : decode cX2_sheds 9 = .ok (.goto 4, 3) := by decide +kernel
theorem dX2_sheds_12 : decode cX2_sheds 12 = .ok (.iconst 1, 1) := by decide +kernel
theorem dX2_sheds_13 : decode cX2_sheds 13 = .ok (.invokevirtual 79, 3) := by decide +kernel
theorem dX2_sheds_16 : decode cX2_sheds 16 = .ok (.ifCond .eq 12, 3) := by decide +kernel
theorem dX2_sheds_19 : decode cX2_sheds 19 = .ok (.aload_n 0, 1) := by decide +kernel
theorem dX2_sheds_20 : decode cX2_sheds 20 = .ok (.getfield 17, 3) := by decide +kernel
theorem dX2_sheds_23 : decode cX2_sheds 23 = .ok (.iload_n 1, 1) := by decide +kernel
theorem dX2_sheds_24 : decode cX2_sheds 24 = .ok (.iaload, 1) := by decide +kernel
theorem dX2_sheds_25 : decode cX2_sheds 25 = .ok (.goto 4, 3) := by decide +kernel
theorem dX2_sheds_28 : decode cX2_sheds 28 = .ok (.iconst 0, 1) := by decide +kernel
theorem dX2_sheds_29 : decode cX2_sheds 29 = .ok (.ireturn, 1) := by decide +kernel
set_option maxRecDepth 20000 in
theorem ggX2_bill_X2_isOwner : GoodIn wsX2_bill wsX2_isOwner := goodIn_r _ [5, 6, 7, 4, 8] (by decide +kernel) (by decide +kernel)
set_option maxRecDepth 20000 in
theorem gX2_bill_X2_isOwner : GoodIn wsX2_bill (va_wsS RX2 71 yX2_isOwner wsX2_isOwner) := goodIn_app (goodIn_of _ (by decide +kernel)) ggX2_bill_X2_isOwner
set_option maxRecDepth 20000 in
theorem ggX2_bill_X2_holds : GoodIn wsX2_bill wsX2_holds := goodIn_r _ [12, 13, 14, 15, 16, 17, 18, 19, 20, 21, 22, 23, 24, 25, 26, 27, 28, 29, 30, 31, 32, 33] (by decide +kernel) (by decide +kernel)
set_option maxRecDepth 20000 in
theorem gX2_bill_X2_holds : GoodIn wsX2_bill (wsV RX2 79 RX2 yX2_holds wsX2_holds) := goodIn_app (goodIn_of _ (by decide +kernel)) ggX2_bill_X2_holds
theorem dX2_bill_0 : decode cX2_bill 0 = .ok (.aload_n 0, 1) := by decide +kernel
theorem dX2_bill_1 : decode cX2_bill 1 = .ok (.iload_n 1, 1) := by decide +kernel
theorem dX2_bill_2 : decode cX2_bill 2 = .ok (.invokestatic 71, 3) := by decide +kernel
theorem dX2_bill_5 : decode cX2_bill 5 = .ok (.ifCond .eq 7, 3) := by decide +kernel
theorem dX2_bill_8 : decode cX2_bill 8 = .ok (.iconst 0, 1) := by decide +kernel
theorem dX2_bill_9 : decode cX2_bill 9 = .ok (.goto 4, 3) := by decide +kernel
theorem dX2_bill_12 : decode cX2_bill 12 = .ok (.iconst 1, 1) := by decide +kernel
theorem dX2_bill_13 : decode cX2_bill 13 = .ok (.invokevirtual 79, 3) := by decide +kernel
theorem dX2_bill_16 : decode cX2_bill 16 = .ok (.ifCond .eq 12, 3) := by decide +kernel
theorem dX2_bill_19 : decode cX2_bill 19 = .ok (.aload_n 0, 1) := by decide +kernel
theorem dX2_bill_20 : decode cX2_bill 20 = .ok (.getfield 20, 3) := by decide +kernel
theorem dX2_bill_23 : decode cX2_bill 23 = .ok (.iload_n 1, 1) := by decide +kernel
theorem dX2_bill_24 : decode cX2_bill 24 = .ok (.daload, 1) := by decide +kernel
theorem dX2_bill_25 : decode cX2_bill 25 = .ok (.goto 4, 3) := by decide +kernel
theorem dX2_bill_28 : decode cX2_bill 28 = .ok (.dconst 0, 1) := by decide +kernel
theorem dX2_bill_29 : decode cX2_bill 29 = .ok (.dreturn, 1) := by decide +kernel
theorem dJ9_floorMod_7cf53_0 : decode cJ9_floorMod_7cf53 0 = .ok (.iload_n 0, 1) := by decide +kernel
theorem dJ9_floorMod_7cf53_1 : decode cJ9_floorMod_7cf53 1 = .ok (.iload_n 1, 1) := by decide +kernel
theorem dJ9_floorMod_7cf53_2 : decode cJ9_floorMod_7cf53 2 = .ok (.irem, 1) := by decide +kernel
theorem dJ9_floorMod_7cf53_3 : decode cJ9_floorMod_7cf53 3 = .ok (.istore_n 2, 1) := by decide +kernel
theorem dJ9_floorMod_7cf53_4 : decode cJ9_floorMod_7cf53 4 = .ok (.iload_n 0, 1) := by decide +kernel
theorem dJ9_floorMod_7cf53_5 : decode cJ9_floorMod_7cf53 5 = .ok (.iload_n 1, 1) := by decide +kernel
theorem dJ9_floorMod_7cf53_6 : decode cJ9_floorMod_7cf53 6 = .ok (.ixor, 1) := by decide +kernel
theorem dJ9_floorMod_7cf53_7 : decode cJ9_floorMod_7cf53 7 = .ok (.ifCond .ge 11, 3) := by decide +kernel
theorem dJ9_floorMod_7cf53_10 : decode cJ9_floorMod_7cf53 10 = .ok (.iload_n 2, 1) := by decide +kernel
theorem dJ9_floorMod_7cf53_11 : decode cJ9_floorMod_7cf53 11 = .ok (.ifCond .eq 7, 3) := by decide +kernel
theorem dJ9_floorMod_7cf53_14 : decode cJ9_floorMod_7cf53 14 = .ok (.iload_n 2, 1) := by decide +kernel
theorem dJ9_floorMod_7cf53_15 : decode cJ9_floorMod_7cf53 15 = .ok (.iload_n 1, 1) := by decide +kernel
theorem dJ9_floorMod_7cf53_16 : decode cJ9_floorMod_7cf53 16 = .ok (.iadd, 1) := by decide +kernel
theorem dJ9_floorMod_7cf53_17 : decode cJ9_floorMod_7cf53 17 = .ok (.ireturn, 1) := by decide +kernel
theorem dJ9_floorMod_7cf53_18 : decode cJ9_floorMod_7cf53 18 = .ok (.iload_n 2, 1) := by decide +kernel
theorem dJ9_floorMod_7cf53_19 : decode cJ9_floorMod_7cf53 19 = .ok (.ireturn, 1) := by decide +kernel
set_option maxRecDepth 20000 in
theorem ggL_setShare_X1_setShare : GoodIn wsL_setShare wsX1_setShare := goodIn_ca (goodIn_ca (goodIn_r _ [7, 8, 9, 10, 11, 12, 6, 13, 14, 15, 16, 17, 18, 19, 20, 21, 22, 23, 24, 25, 26, 27, 28, 29, 30, 31, 32, 33, 34] (by decide +kernel) (by decide +kernel)) (goodIn_sub (fun _ h => List.mem_cons_of_mem _ (List.mem_append_left _ (List.mem_append_right _ h))) (by decide +kernel))) (goodIn_sub (fun _ h => List.mem_cons_of_mem _ (List.mem_append_right _ h)) (by decide +kernel))
set_option maxRecDepth 20000 in
theorem gL_setShare_X1_setShare : GoodIn wsL_setShare (wsV RL 7 RX1 yX1_setShare wsX1_setShare) := goodIn_app (goodIn_of _ (by decide +kernel)) ggL_setShare_X1_setShare
theorem dL_setShare_0 : decode cL_setShare 0 = .ok (.aload_n 3, 1) := by decide +kernel
theorem dL_setShare_1 : decode cL_setShare 1 = .ok (.iconst 0, 1) := by decide +kernel
theorem dL_setShare_2 : decode cL_setShare 2 = .ok (.aload_n 0, 1) := by decide +kernel
theorem dL_setShare_3 : decode cL_setShare 3 = .ok (.iload_n 1, 1) := by decide +kernel
theorem dL_setShare_4 : decode cL_setShare 4 = .ok (.iload_n 2, 1) := by decide +kernel
theorem dL_setShare_5 : decode cL_setShare 5 = .ok (.invokevirtual 7, 3) := by decide +kernel
theorem dL_setShare_8 : decode cL_setShare 8 = .ok (.i2l, 1) := by decide +kernel
theorem dL_setShare_9 : decode cL_setShare 9 = .ok (.lastore, 1) := by decide +kernel
theorem dL_setShare_10 : decode cL_setShare 10 = .ok (.goto 11, 3) := by decide +kernel
theorem dL_setShare_13 : decode cL_setShare 13 = .ok (.astore 4, 2) := by decide +kernel
theorem dL_setShare_15 : decode cL_setShare 15 = .ok (.iconst 1, 1) := by decide +kernel
theorem dL_setShare_16 : decode cL_setShare 16 = .ok (.ireturn, 1) := by decide +kernel
theorem dL_setShare_17 : decode cL_setShare 17 = .ok (.astore 4, 2) := by decide +kernel
theorem dL_setShare_19 : decode cL_setShare 19 = .ok (.iconst 2, 1) := by decide +kernel
theorem dL_setShare_20 : decode cL_setShare 20 = .ok (.ireturn, 1) := by decide +kernel
theorem dL_setShare_21 : decode cL_setShare 21 = .ok (.iconst 0, 1) := by decide +kernel
theorem dL_setShare_22 : decode cL_setShare 22 = .ok (.ireturn, 1) := by decide +kernel
set_option maxRecDepth 20000 in
theorem ggL_setSwitch_X1_setSwitch : GoodIn wsL_setSwitch wsX1_setSwitch := goodIn_ca (goodIn_r _ [6, 7, 8, 9, 5, 10, 11, 12, 13, 14, 15, 16, 17, 18, 19, 20, 21, 22, 23, 24] (by decide +kernel) (by decide +kernel)) (goodIn_sub (fun _ h => List.mem_cons_of_mem _ (List.mem_append_right _ h)) (by decide +kernel))
set_option maxRecDepth 20000 in
theorem gL_setSwitch_X1_setSwitch : GoodIn wsL_setSwitch (wsV RL 17 RX1 yX1_setSwitch wsX1_setSwitch) := goodIn_app (goodIn_of _ (by decide +kernel)) ggL_setSwitch_X1_setSwitch
theorem dL_setSwitch_0 : decode cL_setSwitch 0 = .ok (.aload_n 3, 1) := by decide +kernel
theorem dL_setSwitch_1 : decode cL_setSwitch 1 = .ok (.iconst 0, 1) := by decide +kernel
theorem dL_setSwitch_2 : decode cL_setSwitch 2 = .ok (.aload_n 0, 1) := by decide +kernel
theorem dL_setSwitch_3 : decode cL_setSwitch 3 = .ok (.iload_n 1, 1) := by decide +kernel
theorem dL_setSwitch_4 : decode cL_setSwitch 4 = .ok (.iload_n 2, 1) := by decide +kernel
theorem dL_setSwitch_5 : decode cL_setSwitch 5 = .ok (.invokevirtual 17, 3) := by decide +kernel
theorem dL_setSwitch_8 : decode cL_setSwitch 8 = .ok (.ifCond .eq 7, 3) := by decide +kernel
theorem dL_setSwitch_11 : decode cL_setSwitch 11 = .ok (.lconst 1, 1) := by decide +kernel
theorem dL_setSwitch_12 : decode cL_setSwitch 12 = .ok (.goto 4, 3) := by decide +kernel
theorem dL_setSwitch_15 : decode cL_setSwitch 15 = .ok (.lconst 0, 1) := by decide +kernel
theorem dL_setSwitch_16 : decode cL_setSwitch 16 = .ok (.lastore, 1) := by decide +kernel
theorem dL_setSwitch_17 : decode cL_setSwitch 17 = .ok (.goto 7, 3) := by decide +kernel
theorem dL_setSwitch_20 : decode cL_setSwitch 20 = .ok (.astore 4, 2) := by decide +kernel
theorem dL_setSwitch_22 : decode cL_setSwitch 22 = .ok (.iconst 1, 1) := by decide +kernel
theorem dL_setSwitch_23 : decode cL_setSwitch 23 = .ok (.ireturn, 1) := by decide +kernel
theorem dL_setSwitch_24 : decode cL_setSwitch 24 = .ok (.iconst 0, 1) := by decide +kernel
theorem dL_setSwitch_25 : decode cL_setSwitch 25 = .ok (.ireturn, 1) := by decide +kernel
set_option maxRecDepth 20000 in
theorem ggL_setPrice_X1_setPrice : GoodIn wsL_setPrice wsX1_setPrice := goodIn_ca (goodIn_r _ [6, 7, 8, 9, 10, 5, 11, 12, 13, 14, 15, 16, 17, 18, 19, 20, 21, 22, 23, 24, 25] (by decide +kernel) (by decide +kernel)) (goodIn_sub (fun _ h => List.mem_cons_of_mem _ (List.mem_append_right _ h)) (by decide +kernel))
set_option maxRecDepth 20000 in
theorem gL_setPrice_X1_setPrice : GoodIn wsL_setPrice (wsV RL 21 RX1 yX1_setPrice wsX1_setPrice) := goodIn_app (goodIn_of _ (by decide +kernel)) ggL_setPrice_X1_setPrice
theorem dL_setPrice_0 : decode cL_setPrice 0 = .ok (.aload_n 2, 1) := by decide +kernel
theorem dL_setPrice_1 : decode cL_setPrice 1 = .ok (.iconst 0, 1) := by decide +kernel
theorem dL_setPrice_2 : decode cL_setPrice 2 = .ok (.aload_n 0, 1) := by decide +kernel
theorem dL_setPrice_3 : decode cL_setPrice 3 = .ok (.iload_n 1, 1) := by decide +kernel
theorem dL_setPrice_4 : decode cL_setPrice 4 = .ok (.invokevirtual 21, 3) := by decide +kernel
theorem dL_setPrice_7 : decode cL_setPrice 7 = .ok (.dastore, 1) := by decide +kernel
theorem dL_setPrice_8 : decode cL_setPrice 8 = .ok (.goto 6, 3) := by decide +kernel
theorem dL_setPrice_11 : decode cL_setPrice 11 = .ok (.astore_n 3, 1) := by decide +kernel
theorem dL_setPrice_12 : decode cL_setPrice 12 = .ok (.iconst 1, 1) := by decide +kernel
theorem dL_setPrice_13 : decode cL_setPrice 13 = .ok (.ireturn, 1) := by decide +kernel
theorem dL_setPrice_14 : decode cL_setPrice 14 = .ok (.iconst 0, 1) := by decide +kernel
theorem dL_setPrice_15 : decode cL_setPrice 15 = .ok (.ireturn, 1) := by decide +kernel
set_option maxRecDepth 20000 in
theorem ggL_tell_X1_tell : GoodIn wsL_tell wsX1_tell := goodIn_ca (goodIn_r _ [6, 7, 8, 9, 10, 5, 11, 12, 13, 14, 15, 16, 17, 18, 19, 20, 21, 22, 23, 24, 25, 26, 27, 28] (by decide +kernel) (by decide +kernel)) (goodIn_sub (fun _ h => List.mem_cons_of_mem _ (List.mem_append_right _ h)) (by decide +kernel))
set_option maxRecDepth 20000 in
theorem gL_tell_X1_tell : GoodIn wsL_tell (wsV RL 25 RX1 yX1_tell wsX1_tell) := goodIn_app (goodIn_of _ (by decide +kernel)) ggL_tell_X1_tell
theorem dL_tell_0 : decode cL_tell 0 = .ok (.aload_n 3, 1) := by decide +kernel
theorem dL_tell_1 : decode cL_tell 1 = .ok (.iconst 0, 1) := by decide +kernel
theorem dL_tell_2 : decode cL_tell 2 = .ok (.aload_n 0, 1) := by decide +kernel
theorem dL_tell_3 : decode cL_tell 3 = .ok (.iload_n 1, 1) := by decide +kernel
theorem dL_tell_4 : decode cL_tell 4 = .ok (.iload_n 2, 1) := by decide +kernel
theorem dL_tell_5 : decode cL_tell 5 = .ok (.invokevirtual 25, 3) := by decide +kernel
theorem dL_tell_8 : decode cL_tell 8 = .ok (.ifCond .eq 7, 3) := by decide +kernel
theorem dL_tell_11 : decode cL_tell 11 = .ok (.lconst 1, 1) := by decide +kernel
theorem dL_tell_12 : decode cL_tell 12 = .ok (.goto 4, 3) := by decide +kernel
theorem dL_tell_15 : decode cL_tell 15 = .ok (.lconst 0, 1) := by decide +kernel
theorem dL_tell_16 : decode cL_tell 16 = .ok (.lastore, 1) := by decide +kernel
theorem dL_tell_17 : decode cL_tell 17 = .ok (.goto 7, 3) := by decide +kernel
theorem dL_tell_20 : decode cL_tell 20 = .ok (.astore 4, 2) := by decide +kernel
theorem dL_tell_22 : decode cL_tell 22 = .ok (.iconst 1, 1) := by decide +kernel
theorem dL_tell_23 : decode cL_tell 23 = .ok (.ireturn, 1) := by decide +kernel
theorem dL_tell_24 : decode cL_tell 24 = .ok (.iconst 0, 1) := by decide +kernel
theorem dL_tell_25 : decode cL_tell 25 = .ok (.ireturn, 1) := by decide +kernel
set_option maxRecDepth 20000 in
theorem ggL_close_X1_close : GoodIn wsL_close wsX1_close := goodIn_ca (goodIn_ca (goodIn_r _ [7, 8, 9, 10, 11, 12, 13, 14, 15, 16, 6, 17, 18, 19, 20, 21, 22, 23, 24, 25, 26, 27, 28, 29, 30, 31, 32, 33, 34, 35, 36, 37, 38, 39, 40, 41, 42, 43, 44, 45, 46, 47, 48, 49, 50, 51, 52, 53, 54, 55, 56, 57, 58, 59, 60, 61, 62, 63, 64, 65, 66, 67, 68, 69, 70, 71, 72, 73, 74, 75, 76, 77, 78, 79, 80, 81, 82, 83, 84, 85, 86, 87, 88, 89, 90, 91, 92, 93, 94, 95, 96, 97, 98, 99, 100, 101, 102, 103, 104, 105, 106, 107, 108, 109, 110, 111, 112, 113, 114, 115, 116, 117, 118, 119, 120, 121, 122, 123, 124, 125, 126, 127, 128, 129, 130, 131] (by decide +kernel) (by decide +kernel)) (goodIn_sub (fun _ h => List.mem_cons_of_mem _ (List.mem_append_left _ (List.mem_append_right _ h))) (by decide +kernel))) (goodIn_sub (fun _ h => List.mem_cons_of_mem _ (List.mem_append_right _ h)) (by decide +kernel))
set_option maxRecDepth 20000 in
theorem gL_close_X1_close : GoodIn wsL_close (wsV RL 29 RX1 yX1_close wsX1_close) := goodIn_app (goodIn_of _ (by decide +kernel)) ggL_close_X1_close
theorem dL_close_0 : decode cL_close 0 = .ok (.aload_n 2, 1) := by decide +kernel
theorem dL_close_1 : decode cL_close 1 = .ok (.iconst 0, 1) := by decide +kernel
theorem dL_close_2 : decode cL_close 2 = .ok (.aload_n 0, 1) := by decide +kernel
theorem dL_close_3 : decode cL_close 3 = .ok (.iload_n 1, 1) := by decide +kernel
theorem dL_close_4 : decode cL_close 4 = .ok (.invokevirtual 29, 3) := by decide +kernel
theorem dL_close_7 : decode cL_close 7 = .ok (.ifCond .eq 7, 3) := by decide +kernel
theorem dL_close_10 : decode cL_close 10 = .ok (.lconst 1, 1) := by decide +kernel
theorem dL_close_11 : decode cL_close 11 = .ok (.goto 4, 3) := by decide +kernel
theorem dL_close_14 : decode cL_close 14 = .ok (.lconst 0, 1) := by decide +kernel
theorem dL_close_15 : decode cL_close 15 = .ok (.lastore, 1) := by decide +kernel
theorem dL_close_16 : decode cL_close 16 = .ok (.goto 9, 3) := by decide +kernel
theorem dL_close_19 : decode cL_close 19 = .ok (.astore_n 3, 1) := by decide +kernel
theorem dL_close_20 : decode cL_close 20 = .ok (.iconst 1, 1) := by decide +kernel
theorem dL_close_21 : decode cL_close 21 = .ok (.ireturn, 1) := by decide +kernel
theorem dL_close_22 : decode cL_close 22 = .ok (.astore_n 3, 1) := by decide +kernel
theorem dL_close_23 : decode cL_close 23 = .ok (.iconst 2, 1) := by decide +kernel
theorem dL_close_24 : decode cL_close 24 = .ok (.ireturn, 1) := by decide +kernel
theorem dL_close_25 : decode cL_close 25 = .ok (.iconst 0, 1) := by decide +kernel
theorem dL_close_26 : decode cL_close 26 = .ok (.ireturn, 1) := by decide +kernel
set_option maxRecDepth 20000 in
theorem ggL_replace_X1_replace : GoodIn wsL_replace wsX1_replace := goodIn_ca (goodIn_ca (goodIn_ca (goodIn_r _ [8, 9, 10, 11, 12, 13, 14, 15, 16, 17, 18, 7, 19, 20, 21, 22, 23, 24, 25, 26, 27, 28, 29, 30, 31, 32, 33, 34, 35, 36, 37, 38, 39, 40, 41, 42, 43, 44, 45, 46, 47, 48, 49, 50, 51, 52, 53, 54, 55, 56] (by decide +kernel) (by decide +kernel)) (goodIn_sub (fun _ h => List.mem_cons_of_mem _ (List.mem_append_left _ (List.mem_append_left _ (List.mem_append_right _ h)))) (by decide +kernel))) (goodIn_sub (fun _ h => List.mem_cons_of_mem _ (List.mem_append_left _ (List.mem_append_right _ h))) (by decide +kernel))) (goodIn_sub (fun _ h => List.mem_cons_of_mem _ (List.mem_append_right _ h)) (by decide +kernel))
set_option maxRecDepth 20000 in
theorem gL_replace_X1_replace : GoodIn wsL_replace (wsV RL 33 RX1 yX1_replace wsX1_replace) := goodIn_app (goodIn_of _ (by decide +kernel)) ggL_replace_X1_replace
theorem dL_replace_0 : decode cL_replace 0 = .ok (.aload 4, 2) := by decide +kernel
theorem dL_replace_2 : decode cL_replace 2 = .ok (.iconst 0, 1) := by decide +kernel
theorem dL_replace_3 : decode cL_replace 3 = .ok (.aload_n 0, 1) := by decide +kernel
theorem dL_replace_4 : decode cL_replace 4 = .ok (.iload_n 1, 1) := by decide +kernel
theorem dL_replace_5 : decode cL_replace 5 = .ok (.iload_n 2, 1) := by decide +kernel
theorem dL_replace_6 : decode cL_replace 6 = .ok (.iload_n 3, 1) := by decide +kernel
theorem dL_replace_7 : decode cL_replace 7 = .ok (.invokevirtual 33, 3) := by decide +kernel
theorem dL_replace_10 : decode cL_replace 10 = .ok (.dastore, 1) := by decide +kernel
theorem dL_replace_11 : decode cL_replace 11 = .ok (.goto 15, 3) := by decide +kernel
theorem dL_replace_14 : decode cL_replace 14 = .ok (.astore 5, 2) := by decide +kernel
theorem dL_replace_16 : decode cL_replace 16 = .ok (.iconst 1, 1) := by decide +kernel
theorem dL_replace_17 : decode cL_replace 17 = .ok (.ireturn, 1) := by decide +kernel
theorem dL_replace_18 : decode cL_replace 18 = .ok (.astore 5, 2) := by decide +kernel
theorem dL_replace_20 : decode cL_replace 20 = .ok (.iconst 2, 1) := by decide +kernel
theorem dL_replace_21 : decode cL_replace 21 = .ok (.ireturn, 1) := by decide +kernel
theorem dL_replace_22 : decode cL_replace 22 = .ok (.astore 5, 2) := by decide +kernel
theorem dL_replace_24 : decode cL_replace 24 = .ok (.iconst 3, 1) := by decide +kernel
theorem dL_replace_25 : decode cL_replace 25 = .ok (.ireturn, 1) := by decide +kernel
theorem dL_replace_26 : decode cL_replace 26 = .ok (.iconst 0, 1) := by decide +kernel
theorem dL_replace_27 : decode cL_replace 27 = .ok (.ireturn, 1) := by decide +kernel
set_option maxRecDepth 20000 in
theorem ggL_use_X1_use : GoodIn wsL_use wsX1_use := goodIn_ca (goodIn_ca (goodIn_r _ [7, 8, 9, 10, 11, 12, 6, 13, 14, 15, 16, 17, 18, 19, 20, 21, 22, 23, 24, 25, 26, 27, 28, 29, 30, 31, 32, 33, 34, 35, 36, 37, 38, 39, 40, 41, 42, 43, 44, 45, 46, 47, 48, 49, 50] (by decide +kernel) (by decide +kernel)) (goodIn_sub (fun _ h => List.mem_cons_of_mem _ (List.mem_append_left _ (List.mem_append_right _ h))) (by decide +kernel))) (goodIn_sub (fun _ h => List.mem_cons_of_mem _ (List.mem_append_right _ h)) (by decide +kernel))
set_option maxRecDepth 20000 in
theorem gL_use_X1_use : GoodIn wsL_use (wsV RL 39 RX1 yX1_use wsX1_use) := goodIn_app (goodIn_of _ (by decide +kernel)) ggL_use_X1_use
theorem dL_use_0 : decode cL_use 0 = .ok (.aload_n 3, 1) := by decide +kernel
theorem dL_use_1 : decode cL_use 1 = .ok (.iconst 0, 1) := by decide +kernel
theorem dL_use_2 : decode cL_use 2 = .ok (.aload_n 0, 1) := by decide +kernel
theorem dL_use_3 : decode cL_use 3 = .ok (.iload_n 1, 1) := by decide +kernel
theorem dL_use_4 : decode cL_use 4 = .ok (.iload_n 2, 1) := by decide +kernel
theorem dL_use_5 : decode cL_use 5 = .ok (.invokevirtual 39, 3) := by decide +kernel
theorem dL_use_8 : decode cL_use 8 = .ok (.dastore, 1) := by decide +kernel
theorem dL_use_9 : decode cL_use 9 = .ok (.goto 11, 3) := by decide +kernel
theorem dL_use_12 : decode cL_use 12 = .ok (.astore 4, 2) := by decide +kernel
theorem dL_use_14 : decode cL_use 14 = .ok (.iconst 1, 1) := by decide +kernel
theorem dL_use_15 : decode cL_use 15 = .ok (.ireturn, 1) := by decide +kernel
theorem dL_use_16 : decode cL_use 16 = .ok (.astore 4, 2) := by decide +kernel
theorem dL_use_18 : decode cL_use 18 = .ok (.iconst 2, 1) := by decide +kernel
theorem dL_use_19 : decode cL_use 19 = .ok (.ireturn, 1) := by decide +kernel
theorem dL_use_20 : decode cL_use 20 = .ok (.iconst 0, 1) := by decide +kernel
theorem dL_use_21 : decode cL_use 21 = .ok (.ireturn, 1) := by decide +kernel
set_option maxRecDepth 20000 in
theorem ggL_fromSun_X1_fromSun : GoodIn wsL_fromSun wsX1_fromSun := goodIn_ca (goodIn_ca (goodIn_r _ [7, 8, 9, 10, 11, 12, 6, 13, 14, 15, 16, 17, 18, 19, 20, 21, 22, 23, 24, 25, 26, 27, 28, 29, 30, 31, 32, 33, 34, 35, 36, 37, 38, 39, 40, 41, 42, 43, 44, 45, 46, 47, 48, 49, 50] (by decide +kernel) (by decide +kernel)) (goodIn_sub (fun _ h => List.mem_cons_of_mem _ (List.mem_append_left _ (List.mem_append_right _ h))) (by decide +kernel))) (goodIn_sub (fun _ h => List.mem_cons_of_mem _ (List.mem_append_right _ h)) (by decide +kernel))
set_option maxRecDepth 20000 in
theorem gL_fromSun_X1_fromSun : GoodIn wsL_fromSun (wsV RL 43 RX1 yX1_fromSun wsX1_fromSun) := goodIn_app (goodIn_of _ (by decide +kernel)) ggL_fromSun_X1_fromSun
theorem dL_fromSun_0 : decode cL_fromSun 0 = .ok (.aload_n 3, 1) := by decide +kernel
theorem dL_fromSun_1 : decode cL_fromSun 1 = .ok (.iconst 0, 1) := by decide +kernel
theorem dL_fromSun_2 : decode cL_fromSun 2 = .ok (.aload_n 0, 1) := by decide +kernel
theorem dL_fromSun_3 : decode cL_fromSun 3 = .ok (.iload_n 1, 1) := by decide +kernel
theorem dL_fromSun_4 : decode cL_fromSun 4 = .ok (.iload_n 2, 1) := by decide +kernel
theorem dL_fromSun_5 : decode cL_fromSun 5 = .ok (.invokevirtual 43, 3) := by decide +kernel
theorem dL_fromSun_8 : decode cL_fromSun 8 = .ok (.dastore, 1) := by decide +kernel
theorem dL_fromSun_9 : decode cL_fromSun 9 = .ok (.goto 11, 3) := by decide +kernel
theorem dL_fromSun_12 : decode cL_fromSun 12 = .ok (.astore 4, 2) := by decide +kernel
theorem dL_fromSun_14 : decode cL_fromSun 14 = .ok (.iconst 1, 1) := by decide +kernel
theorem dL_fromSun_15 : decode cL_fromSun 15 = .ok (.ireturn, 1) := by decide +kernel
theorem dL_fromSun_16 : decode cL_fromSun 16 = .ok (.astore 4, 2) := by decide +kernel
theorem dL_fromSun_18 : decode cL_fromSun 18 = .ok (.iconst 2, 1) := by decide +kernel
theorem dL_fromSun_19 : decode cL_fromSun 19 = .ok (.ireturn, 1) := by decide +kernel
theorem dL_fromSun_20 : decode cL_fromSun 20 = .ok (.iconst 0, 1) := by decide +kernel
theorem dL_fromSun_21 : decode cL_fromSun 21 = .ok (.ireturn, 1) := by decide +kernel
set_option maxRecDepth 20000 in
theorem ggL_fromBattery_X1_fromBattery : GoodIn wsL_fromBattery wsX1_fromBattery := goodIn_ca (goodIn_ca (goodIn_r _ [7, 8, 9, 10, 11, 12, 6, 13, 14, 15, 16, 17, 18, 19, 20, 21, 22, 23, 24, 25, 26, 27, 28, 29, 30, 31, 32, 33, 34, 35, 36, 37, 38, 39, 40, 41, 42, 43, 44, 45, 46, 47, 48, 49, 50] (by decide +kernel) (by decide +kernel)) (goodIn_sub (fun _ h => List.mem_cons_of_mem _ (List.mem_append_left _ (List.mem_append_right _ h))) (by decide +kernel))) (goodIn_sub (fun _ h => List.mem_cons_of_mem _ (List.mem_append_right _ h)) (by decide +kernel))
set_option maxRecDepth 20000 in
theorem gL_fromBattery_X1_fromBattery : GoodIn wsL_fromBattery (wsV RL 46 RX1 yX1_fromBattery wsX1_fromBattery) := goodIn_app (goodIn_of _ (by decide +kernel)) ggL_fromBattery_X1_fromBattery
theorem dL_fromBattery_0 : decode cL_fromBattery 0 = .ok (.aload_n 3, 1) := by decide +kernel
theorem dL_fromBattery_1 : decode cL_fromBattery 1 = .ok (.iconst 0, 1) := by decide +kernel
theorem dL_fromBattery_2 : decode cL_fromBattery 2 = .ok (.aload_n 0, 1) := by decide +kernel
theorem dL_fromBattery_3 : decode cL_fromBattery 3 = .ok (.iload_n 1, 1) := by decide +kernel
theorem dL_fromBattery_4 : decode cL_fromBattery 4 = .ok (.iload_n 2, 1) := by decide +kernel
theorem dL_fromBattery_5 : decode cL_fromBattery 5 = .ok (.invokevirtual 46, 3) := by decide +kernel
theorem dL_fromBattery_8 : decode cL_fromBattery 8 = .ok (.dastore, 1) := by decide +kernel
theorem dL_fromBattery_9 : decode cL_fromBattery 9 = .ok (.goto 11, 3) := by decide +kernel
theorem dL_fromBattery_12 : decode cL_fromBattery 12 = .ok (.astore 4, 2) := by decide +kernel
theorem dL_fromBattery_14 : decode cL_fromBattery 14 = .ok (.iconst 1, 1) := by decide +kernel
theorem dL_fromBattery_15 : decode cL_fromBattery 15 = .ok (.ireturn, 1) := by decide +kernel
theorem dL_fromBattery_16 : decode cL_fromBattery 16 = .ok (.astore 4, 2) := by decide +kernel
theorem dL_fromBattery_18 : decode cL_fromBattery 18 = .ok (.iconst 2, 1) := by decide +kernel
theorem dL_fromBattery_19 : decode cL_fromBattery 19 = .ok (.ireturn, 1) := by decide +kernel
theorem dL_fromBattery_20 : decode cL_fromBattery 20 = .ok (.iconst 0, 1) := by decide +kernel
theorem dL_fromBattery_21 : decode cL_fromBattery 21 = .ok (.ireturn, 1) := by decide +kernel
set_option maxRecDepth 20000 in
theorem ggL_bought_X1_bought : GoodIn wsL_bought wsX1_bought := goodIn_ca (goodIn_ca (goodIn_r _ [7, 8, 9, 10, 11, 12, 6, 13, 14, 15, 16, 17, 18, 19, 20, 21, 22, 23, 24, 25, 26, 27, 28, 29, 30, 31, 32, 33, 34, 35, 36, 37, 38, 39, 40, 41, 42, 43, 44, 45, 46, 47, 48, 49, 50] (by decide +kernel) (by decide +kernel)) (goodIn_sub (fun _ h => List.mem_cons_of_mem _ (List.mem_append_left _ (List.mem_append_right _ h))) (by decide +kernel))) (goodIn_sub (fun _ h => List.mem_cons_of_mem _ (List.mem_append_right _ h)) (by decide +kernel))
set_option maxRecDepth 20000 in
theorem gL_bought_X1_bought : GoodIn wsL_bought (wsV RL 49 RX1 yX1_bought wsX1_bought) := goodIn_app (goodIn_of _ (by decide +kernel)) ggL_bought_X1_bought
theorem dL_bought_0 : decode cL_bought 0 = .ok (.aload_n 3, 1) := by decide +kernel
theorem dL_bought_1 : decode cL_bought 1 = .ok (.iconst 0, 1) := by decide +kernel
theorem dL_bought_2 : decode cL_bought 2 = .ok (.aload_n 0, 1) := by decide +kernel
theorem dL_bought_3 : decode cL_bought 3 = .ok (.iload_n 1, 1) := by decide +kernel
theorem dL_bought_4 : decode cL_bought 4 = .ok (.iload_n 2, 1) := by decide +kernel
theorem dL_bought_5 : decode cL_bought 5 = .ok (.invokevirtual 49, 3) := by decide +kernel
theorem dL_bought_8 : decode cL_bought 8 = .ok (.dastore, 1) := by decide +kernel
theorem dL_bought_9 : decode cL_bought 9 = .ok (.goto 11, 3) := by decide +kernel
theorem dL_bought_12 : decode cL_bought 12 = .ok (.astore 4, 2) := by decide +kernel
theorem dL_bought_14 : decode cL_bought 14 = .ok (.iconst 1, 1) := by decide +kernel
theorem dL_bought_15 : decode cL_bought 15 = .ok (.ireturn, 1) := by decide +kernel
theorem dL_bought_16 : decode cL_bought 16 = .ok (.astore 4, 2) := by decide +kernel
theorem dL_bought_18 : decode cL_bought 18 = .ok (.iconst 2, 1) := by decide +kernel
theorem dL_bought_19 : decode cL_bought 19 = .ok (.ireturn, 1) := by decide +kernel
theorem dL_bought_20 : decode cL_bought 20 = .ok (.iconst 0, 1) := by decide +kernel
theorem dL_bought_21 : decode cL_bought 21 = .ok (.ireturn, 1) := by decide +kernel
set_option maxRecDepth 20000 in
theorem ggL_sold_X1_sold : GoodIn wsL_sold wsX1_sold := goodIn_ca (goodIn_r _ [6, 7, 8, 9, 10, 11, 5, 12, 13, 14, 15, 16, 17, 18, 19, 20, 21, 22, 23, 24, 25, 26, 27, 28, 29, 30, 31, 32, 33, 34, 35, 36] (by decide +kernel) (by decide +kernel)) (goodIn_sub (fun _ h => List.mem_cons_of_mem _ (List.mem_append_right _ h)) (by decide +kernel))
set_option maxRecDepth 20000 in
theorem gL_sold_X1_sold : GoodIn wsL_sold (wsV RL 52 RX1 yX1_sold wsX1_sold) := goodIn_app (goodIn_of _ (by decide +kernel)) ggL_sold_X1_sold
theorem dL_sold_0 : decode cL_sold 0 = .ok (.aload_n 2, 1) := by decide +kernel
theorem dL_sold_1 : decode cL_sold 1 = .ok (.iconst 0, 1) := by decide +kernel
theorem dL_sold_2 : decode cL_sold 2 = .ok (.aload_n 0, 1) := by decide +kernel
theorem dL_sold_3 : decode cL_sold 3 = .ok (.iload_n 1, 1) := by decide +kernel
theorem dL_sold_4 : decode cL_sold 4 = .ok (.invokevirtual 52, 3) := by decide +kernel
theorem dL_sold_7 : decode cL_sold 7 = .ok (.dastore, 1) := by decide +kernel
theorem dL_sold_8 : decode cL_sold 8 = .ok (.goto 6, 3) := by decide +kernel
theorem dL_sold_11 : decode cL_sold 11 = .ok (.astore_n 3, 1) := by decide +kernel
theorem dL_sold_12 : decode cL_sold 12 = .ok (.iconst 1, 1) := by decide +kernel
theorem dL_sold_13 : decode cL_sold 13 = .ok (.ireturn, 1) := by decide +kernel
theorem dL_sold_14 : decode cL_sold 14 = .ok (.iconst 0, 1) := by decide +kernel
theorem dL_sold_15 : decode cL_sold 15 = .ok (.ireturn, 1) := by decide +kernel
set_option maxRecDepth 20000 in
theorem ggL_sheds_X1_sheds : GoodIn wsL_sheds wsX1_sheds := goodIn_ca (goodIn_r _ [6, 7, 8, 9, 5, 10, 11, 12, 13, 14, 15, 16, 17, 18, 19, 20, 21, 22, 23, 24] (by decide +kernel) (by decide +kernel)) (goodIn_sub (fun _ h => List.mem_cons_of_mem _ (List.mem_append_right _ h)) (by decide +kernel))
set_option maxRecDepth 20000 in
theorem gL_sheds_X1_sheds : GoodIn wsL_sheds (wsV RL 55 RX1 yX1_sheds wsX1_sheds) := goodIn_app (goodIn_of _ (by decide +kernel)) ggL_sheds_X1_sheds
theorem dL_sheds_0 : decode cL_sheds 0 = .ok (.aload_n 2, 1) := by decide +kernel
theorem dL_sheds_1 : decode cL_sheds 1 = .ok (.iconst 0, 1) := by decide +kernel
theorem dL_sheds_2 : decode cL_sheds 2 = .ok (.aload_n 0, 1) := by decide +kernel
theorem dL_sheds_3 : decode cL_sheds 3 = .ok (.iload_n 1, 1) := by decide +kernel
theorem dL_sheds_4 : decode cL_sheds 4 = .ok (.invokevirtual 55, 3) := by decide +kernel
theorem dL_sheds_7 : decode cL_sheds 7 = .ok (.i2l, 1) := by decide +kernel
theorem dL_sheds_8 : decode cL_sheds 8 = .ok (.lastore, 1) := by decide +kernel
theorem dL_sheds_9 : decode cL_sheds 9 = .ok (.goto 6, 3) := by decide +kernel
theorem dL_sheds_12 : decode cL_sheds 12 = .ok (.astore_n 3, 1) := by decide +kernel
theorem dL_sheds_13 : decode cL_sheds 13 = .ok (.iconst 1, 1) := by decide +kernel
theorem dL_sheds_14 : decode cL_sheds 14 = .ok (.ireturn, 1) := by decide +kernel
theorem dL_sheds_15 : decode cL_sheds 15 = .ok (.iconst 0, 1) := by decide +kernel
theorem dL_sheds_16 : decode cL_sheds 16 = .ok (.ireturn, 1) := by decide +kernel
set_option maxRecDepth 20000 in
theorem ggL_bill_X1_bill : GoodIn wsL_bill wsX1_bill := goodIn_ca (goodIn_r _ [6, 7, 8, 9, 5, 10, 11, 12, 13, 14, 15, 16, 17, 18, 19, 20, 21, 22, 23, 24] (by decide +kernel) (by decide +kernel)) (goodIn_sub (fun _ h => List.mem_cons_of_mem _ (List.mem_append_right _ h)) (by decide +kernel))
set_option maxRecDepth 20000 in
theorem gL_bill_X1_bill : GoodIn wsL_bill (wsV RL 59 RX1 yX1_bill wsX1_bill) := goodIn_app (goodIn_of _ (by decide +kernel)) ggL_bill_X1_bill
theorem dL_bill_0 : decode cL_bill 0 = .ok (.aload_n 2, 1) := by decide +kernel
theorem dL_bill_1 : decode cL_bill 1 = .ok (.iconst 0, 1) := by decide +kernel
theorem dL_bill_2 : decode cL_bill 2 = .ok (.aload_n 0, 1) := by decide +kernel
theorem dL_bill_3 : decode cL_bill 3 = .ok (.iload_n 1, 1) := by decide +kernel
theorem dL_bill_4 : decode cL_bill 4 = .ok (.invokevirtual 59, 3) := by decide +kernel
theorem dL_bill_7 : decode cL_bill 7 = .ok (.dastore, 1) := by decide +kernel
theorem dL_bill_8 : decode cL_bill 8 = .ok (.goto 6, 3) := by decide +kernel
theorem dL_bill_11 : decode cL_bill 11 = .ok (.astore_n 3, 1) := by decide +kernel
theorem dL_bill_12 : decode cL_bill 12 = .ok (.iconst 1, 1) := by decide +kernel
theorem dL_bill_13 : decode cL_bill 13 = .ok (.ireturn, 1) := by decide +kernel
theorem dL_bill_14 : decode cL_bill 14 = .ok (.iconst 0, 1) := by decide +kernel
theorem dL_bill_15 : decode cL_bill 15 = .ok (.ireturn, 1) := by decide +kernel
set_option maxRecDepth 20000 in
theorem ggL_law_X1_init : GoodIn wsL_law wsX1_init := goodIn_r _ [10, 11, 12, 13, 14, 15, 16, 17, 18, 7, 19, 20, 21, 22, 23, 24, 25, 26, 27, 28, 29, 30, 31, 32, 33, 34, 35, 36, 37, 38, 39, 40, 41, 42, 43, 410, 411, 412, 413, 414, 415, 416, 417, 418, 419, 420, 421, 442, 443, 444, 445, 446, 447, 448, 449, 450] (by decide +kernel) (by decide +kernel)
set_option maxRecDepth 20000 in
theorem gL_law_X1_init : GoodIn wsL_law (wsX1_init) := ggL_law_X1_init
set_option maxRecDepth 20000 in
theorem ggL_law_X2_init : GoodIn wsL_law wsX2_init := goodIn_r _ [46, 47, 12, 13, 14, 48, 16, 49, 50, 7, 51, 52, 53, 54, 55, 56, 57, 58, 59, 60, 61, 62, 63, 64, 422, 423, 424, 425, 426, 427, 428, 429, 430, 431, 432, 433, 434, 435, 436, 437, 438, 439, 440, 441] (by decide +kernel) (by decide +kernel)
set_option maxRecDepth 20000 in
theorem gL_law_X2_init : GoodIn wsL_law (wsX2_init) := ggL_law_X2_init
set_option maxRecDepth 20000 in
theorem ggL_law_L_setShare : GoodIn wsL_law wsL_setShare := goodIn_ca (goodIn_ca (goodIn_r _ [68, 69, 70, 71, 72, 73, 2, 74, 75, 76, 15, 77, 78, 79, 80, 81, 82, 83, 84, 85, 86, 87, 88, 410, 411, 412, 413, 414, 415, 416, 417, 418, 419, 420, 421] (by decide +kernel) (by decide +kernel)) (goodIn_sub (fun _ h => List.mem_append_left _ (List.mem_append_left _ (List.mem_append_right _ h))) (by decide +kernel))) (goodIn_sub (fun _ h => List.mem_append_left _ (List.mem_append_right _ h)) (by decide +kernel))
set_option maxRecDepth 20000 in
theorem gL_law_L_setShare : GoodIn wsL_law (va_wsS RL 66 yL_setShare wsL_setShare) := goodIn_app (goodIn_of _ (by decide +kernel)) ggL_law_L_setShare
set_option maxRecDepth 20000 in
theorem ggL_law_X2_setShare : GoodIn wsL_law wsX2_setShare := goodIn_r _ [92, 48, 93, 94, 5, 95, 96, 97, 98, 99, 100, 101, 102, 103, 104, 105, 106, 107, 422, 423, 424, 425, 426, 427, 428, 429, 430, 431, 432, 433, 434, 435, 436, 437, 438, 439, 440, 441] (by decide +kernel) (by decide +kernel)
set_option maxRecDepth 20000 in
theorem gL_law_X2_setShare : GoodIn wsL_law (wsV RL 71 RX2 yX2_setShare wsX2_setShare) := goodIn_app (goodIn_of _ (by decide +kernel)) ggL_law_X2_setShare
set_option maxRecDepth 20000 in
theorem ggL_law_X2_thrown : GoodIn wsL_law wsX2_thrown := goodIn_r _ [111, 107, 422, 423, 424, 425, 426, 427, 428, 429, 430, 431, 432, 433, 434, 435, 436, 437, 438, 439, 440, 441] (by decide +kernel) (by decide +kernel)
set_option maxRecDepth 20000 in
theorem gL_law_X2_thrown : GoodIn wsL_law (wsV RL 72 RX2 yX2_thrown wsX2_thrown) := goodIn_app (goodIn_of _ (by decide +kernel)) ggL_law_X2_thrown
set_option maxRecDepth 20000 in
theorem ggL_law_L_setSwitch : GoodIn wsL_law wsL_setSwitch := goodIn_ca (goodIn_r _ [114, 69, 115, 116, 117, 2, 118, 17, 77, 78, 79, 80, 81, 410, 411, 412, 413, 414, 415, 416, 417, 418, 419, 420, 421] (by decide +kernel) (by decide +kernel)) (goodIn_sub (fun _ h => List.mem_append_left _ (List.mem_append_right _ h)) (by decide +kernel))
set_option maxRecDepth 20000 in
theorem gL_law_L_setSwitch : GoodIn wsL_law (va_wsS RL 76 yL_setSwitch wsL_setSwitch) := goodIn_app (goodIn_of _ (by decide +kernel)) ggL_law_L_setSwitch
set_option maxRecDepth 20000 in
theorem ggL_law_X2_setSwitch : GoodIn wsL_law wsX2_setSwitch := goodIn_r _ [122, 49, 93, 94, 5, 95, 96, 97, 98, 103, 104, 105, 106, 107, 422, 423, 424, 425, 426, 427, 428, 429, 430, 431, 432, 433, 434, 435, 436, 437, 438, 439, 440, 441] (by decide +kernel) (by decide +kernel)
set_option maxRecDepth 20000 in
theorem gL_law_X2_setSwitch : GoodIn wsL_law (wsV RL 79 RX2 yX2_setSwitch wsX2_setSwitch) := goodIn_app (goodIn_of _ (by decide +kernel)) ggL_law_X2_setSwitch
set_option maxRecDepth 20000 in
theorem ggL_law_L_setPrice : GoodIn wsL_law wsL_setPrice := goodIn_ca (goodIn_r _ [125, 69, 126, 127, 128, 2, 129, 130, 27, 82, 83, 84, 80, 81, 410, 411, 412, 413, 414, 415, 416, 417, 418, 419, 420, 421] (by decide +kernel) (by decide +kernel)) (goodIn_sub (fun _ h => List.mem_append_left _ (List.mem_append_right _ h)) (by decide +kernel))
set_option maxRecDepth 20000 in
theorem gL_law_L_setPrice : GoodIn wsL_law (va_wsS RL 80 yL_setPrice wsL_setPrice) := goodIn_app (goodIn_of _ (by decide +kernel)) ggL_law_L_setPrice
set_option maxRecDepth 20000 in
theorem ggL_law_X2_setPrice : GoodIn wsL_law wsX2_setPrice := goodIn_r _ [134, 135, 53, 96, 97, 5, 98, 103, 104, 105, 106, 107, 422, 423, 424, 425, 426, 427, 428, 429, 430, 431, 432, 433, 434, 435, 436, 437, 438, 439, 440, 441] (by decide +kernel) (by decide +kernel)
set_option maxRecDepth 20000 in
theorem gL_law_X2_setPrice : GoodIn wsL_law (wsV RL 83 RX2 yX2_setPrice wsX2_setPrice) := goodIn_app (goodIn_of _ (by decide +kernel)) ggL_law_X2_setPrice
set_option maxRecDepth 20000 in
theorem ggL_law_L_tell : GoodIn wsL_law wsL_tell := goodIn_ca (goodIn_r _ [138, 69, 139, 140, 141, 2, 142, 20, 21, 77, 78, 79, 80, 81, 82, 83, 84, 410, 411, 412, 413, 414, 415, 416, 417, 418, 419, 420, 421] (by decide +kernel) (by decide +kernel)) (goodIn_sub (fun _ h => List.mem_append_left _ (List.mem_append_right _ h)) (by decide +kernel))
set_option maxRecDepth 20000 in
theorem gL_law_L_tell : GoodIn wsL_law (va_wsS RL 84 yL_tell wsL_tell) := goodIn_app (goodIn_of _ (by decide +kernel)) ggL_law_L_tell
set_option maxRecDepth 20000 in
theorem ggL_law_X2_tell : GoodIn wsL_law wsX2_tell := goodIn_r _ [146, 54, 55, 93, 94, 5, 95, 96, 97, 98, 103, 104, 105, 106, 107, 422, 423, 424, 425, 426, 427, 428, 429, 430, 431, 432, 433, 434, 435, 436, 437, 438, 439, 440, 441] (by decide +kernel) (by decide +kernel)
set_option maxRecDepth 20000 in
theorem gL_law_X2_tell : GoodIn wsL_law (wsV RL 86 RX2 yX2_tell wsX2_tell) := goodIn_app (goodIn_of _ (by decide +kernel)) ggL_law_X2_tell
set_option maxRecDepth 20000 in
theorem ggL_law_L_close : GoodIn wsL_law wsL_close := goodIn_ca (goodIn_ca (goodIn_r _ [149, 69, 70, 150, 151, 152, 2, 153, 75, 76, 25, 154, 155, 27, 31, 82, 83, 84, 80, 81, 156, 157, 158, 159, 20, 21, 160, 161, 30, 162, 163, 24, 164, 165, 166, 167, 168, 35, 39, 38, 169, 170, 171, 172, 173, 174, 18, 175, 176, 177, 178, 17, 179, 180, 181, 182, 183, 184, 185, 186, 187, 188, 189, 190, 191, 192, 193, 194, 195, 196, 15, 130, 197, 198, 199, 200, 201, 202, 203, 204, 205, 206, 207, 208, 209, 210, 211, 212, 213, 28, 214, 215, 216, 217, 218, 29, 219, 220, 221, 222, 223, 224, 225, 226, 227, 228, 229, 230, 231, 232, 19, 410, 411, 412, 413, 414, 415, 416, 417, 418, 419, 420, 421, 442, 443, 444, 445, 446, 447, 448, 449, 450] (by decide +kernel) (by decide +kernel)) (goodIn_sub (fun _ h => List.mem_append_left _ (List.mem_append_left _ (List.mem_append_right _ h))) (by decide +kernel))) (goodIn_sub (fun _ h => List.mem_append_left _ (List.mem_append_right _ h)) (by decide +kernel))
set_option maxRecDepth 20000 in
theorem gL_law_L_close : GoodIn wsL_law (va_wsS RL 87 yL_close wsL_close) := goodIn_app (goodIn_of _ (by decide +kernel)) ggL_law_L_close
set_option maxRecDepth 20000 in
theorem ggL_law_X2_close : GoodIn wsL_law wsX2_close := goodIn_r _ [236, 237, 56, 54, 57, 55, 58, 64, 238, 239, 62, 63, 53, 96, 97, 5, 98, 103, 104, 105, 106, 107, 240, 241, 242, 243, 244, 245, 246, 247, 248, 249, 50, 250, 251, 252, 253, 254, 255, 256, 257, 49, 258, 259, 260, 261, 48, 135, 59, 262, 263, 264, 265, 266, 267, 268, 269, 60, 270, 271, 272, 273, 61, 51, 274, 422, 423, 424, 425, 426, 427, 428, 429, 430, 431, 432, 433, 434, 435, 436, 437, 438, 439, 440, 441] (by decide +kernel) (by decide +kernel)
set_option maxRecDepth 20000 in
theorem gL_law_X2_close : GoodIn wsL_law (wsV RL 90 RX2 yX2_close wsX2_close) := goodIn_app (goodIn_of _ (by decide +kernel)) ggL_law_X2_close
set_option maxRecDepth 20000 in
theorem ggL_law_X1_closed : GoodIn wsL_law wsX1_closed := goodIn_r _ [278, 25, 154, 410, 411, 412, 413, 414, 415, 416, 417, 418, 419, 420, 421, 442, 443, 444, 445, 446, 447, 448, 449, 450] (by decide +kernel) (by decide +kernel)
set_option maxRecDepth 20000 in
theorem gL_law_X1_closed : GoodIn wsL_law (wsV RL 91 RX1 yX1_closed wsX1_closed) := goodIn_app (goodIn_of _ (by decide +kernel)) ggL_law_X1_closed
set_option maxRecDepth 20000 in
theorem ggL_law_X2_closed : GoodIn wsL_law wsX2_closed := goodIn_r _ [282, 107, 237, 422, 423, 424, 425, 426, 427, 428, 429, 430, 431, 432, 433, 434, 435, 436, 437, 438, 439, 440, 441] (by decide +kernel) (by decide +kernel)
set_option maxRecDepth 20000 in
theorem gL_law_X2_closed : GoodIn wsL_law (wsV RL 94 RX2 yX2_closed wsX2_closed) := goodIn_app (goodIn_of _ (by decide +kernel)) ggL_law_X2_closed
set_option maxRecDepth 20000 in
theorem ggL_law_L_replace : GoodIn wsL_law wsL_replace := goodIn_ca (goodIn_ca (goodIn_ca (goodIn_r _ [285, 69, 286, 70, 287, 288, 289, 2, 290, 75, 76, 25, 160, 161, 192, 155, 19, 77, 78, 79, 80, 81, 82, 83, 84, 291, 292, 293, 294, 295, 296, 154, 162, 163, 24, 164, 410, 411, 412, 413, 414, 415, 416, 417, 418, 419, 420, 421, 442, 443, 444, 445, 446, 447, 448, 449, 450] (by decide +kernel) (by decide +kernel)) (goodIn_sub (fun _ h => List.mem_append_left _ (List.mem_append_left _ (List.mem_append_right _ h))) (by decide +kernel))) (goodIn_sub (fun _ h => List.mem_append_left _ (List.mem_append_right _ h)) (by decide +kernel))) (goodIn_sub (fun _ h => List.mem_append_right _ h) (by decide +kernel))
set_option maxRecDepth 20000 in
theorem gL_law_L_replace : GoodIn wsL_law (va_wsS RL 95 yL_replace wsL_replace) := goodIn_app (goodIn_of _ (by decide +kernel)) ggL_law_L_replace
set_option maxRecDepth 20000 in
theorem ggL_law_X2_replace : GoodIn wsL_law wsX2_replace := goodIn_r _ [300, 58, 63, 56, 57, 51, 301, 302, 303, 5, 304, 93, 94, 95, 96, 97, 98, 305, 306, 307, 308, 237, 103, 104, 105, 106, 107, 422, 423, 424, 425, 426, 427, 428, 429, 430, 431, 432, 433, 434, 435, 436, 437, 438, 439, 440, 441] (by decide +kernel) (by decide +kernel)
set_option maxRecDepth 20000 in
theorem gL_law_X2_replace : GoodIn wsL_law (wsV RL 98 RX2 yX2_replace wsX2_replace) := goodIn_app (goodIn_of _ (by decide +kernel)) ggL_law_X2_replace
set_option maxRecDepth 20000 in
theorem ggL_law_L_use : GoodIn wsL_law wsL_use := goodIn_ca (goodIn_ca (goodIn_r _ [311, 69, 286, 312, 313, 314, 2, 315, 25, 161, 316, 317, 318, 319, 77, 78, 79, 80, 81, 291, 292, 293, 294, 295, 296, 154, 162, 163, 24, 164, 410, 411, 412, 413, 414, 415, 416, 417, 418, 419, 420, 421, 442, 443, 444, 445, 446, 447, 448, 449, 450] (by decide +kernel) (by decide +kernel)) (goodIn_sub (fun _ h => List.mem_append_left _ (List.mem_append_right _ h)) (by decide +kernel))) (goodIn_sub (fun _ h => List.mem_append_right _ h) (by decide +kernel))
set_option maxRecDepth 20000 in
theorem gL_law_L_use : GoodIn wsL_law (va_wsS RL 99 yL_use wsL_use) := goodIn_app (goodIn_of _ (by decide +kernel)) ggL_law_L_use
set_option maxRecDepth 20000 in
theorem ggL_law_X2_use : GoodIn wsL_law wsX2_use := goodIn_r _ [323, 57, 324, 325, 326, 5, 327, 93, 94, 95, 96, 97, 98, 305, 306, 307, 308, 237, 103, 104, 105, 106, 107, 422, 423, 424, 425, 426, 427, 428, 429, 430, 431, 432, 433, 434, 435, 436, 437, 438, 439, 440, 441] (by decide +kernel) (by decide +kernel)
set_option maxRecDepth 20000 in
theorem gL_law_X2_use : GoodIn wsL_law (wsV RL 102 RX2 yX2_use wsX2_use) := goodIn_app (goodIn_of _ (by decide +kernel)) ggL_law_X2_use
set_option maxRecDepth 20000 in
theorem ggL_law_L_fromSun : GoodIn wsL_law wsL_fromSun := goodIn_ca (goodIn_ca (goodIn_r _ [330, 69, 286, 331, 332, 333, 2, 334, 25, 204, 316, 317, 318, 319, 77, 78, 79, 80, 81, 291, 292, 293, 294, 295, 296, 154, 162, 163, 24, 164, 410, 411, 412, 413, 414, 415, 416, 417, 418, 419, 420, 421, 442, 443, 444, 445, 446, 447, 448, 449, 450] (by decide +kernel) (by decide +kernel)) (goodIn_sub (fun _ h => List.mem_append_left _ (List.mem_append_right _ h)) (by decide +kernel))) (goodIn_sub (fun _ h => List.mem_append_right _ h) (by decide +kernel))
set_option maxRecDepth 20000 in
theorem gL_law_L_fromSun : GoodIn wsL_law (va_wsS RL 103 yL_fromSun wsL_fromSun) := goodIn_app (goodIn_of _ (by decide +kernel)) ggL_law_L_fromSun
set_option maxRecDepth 20000 in
theorem ggL_law_X2_fromSun : GoodIn wsL_law wsX2_fromSun := goodIn_r _ [338, 59, 324, 325, 326, 5, 327, 93, 94, 95, 96, 97, 98, 305, 306, 307, 308, 237, 103, 104, 105, 106, 107, 422, 423, 424, 425, 426, 427, 428, 429, 430, 431, 432, 433, 434, 435, 436, 437, 438, 439, 440, 441] (by decide +kernel) (by decide +kernel)
set_option maxRecDepth 20000 in
theorem gL_law_X2_fromSun : GoodIn wsL_law (wsV RL 105 RX2 yX2_fromSun wsX2_fromSun) := goodIn_app (goodIn_of _ (by decide +kernel)) ggL_law_X2_fromSun
set_option maxRecDepth 20000 in
theorem ggL_law_L_fromBattery : GoodIn wsL_law wsL_fromBattery := goodIn_ca (goodIn_ca (goodIn_r _ [341, 69, 286, 342, 343, 344, 2, 345, 25, 219, 316, 317, 318, 319, 77, 78, 79, 80, 81, 291, 292, 293, 294, 295, 296, 154, 162, 163, 24, 164, 410, 411, 412, 413, 414, 415, 416, 417, 418, 419, 420, 421, 442, 443, 444, 445, 446, 447, 448, 449, 450] (by decide +kernel) (by decide +kernel)) (goodIn_sub (fun _ h => List.mem_append_left _ (List.mem_append_right _ h)) (by decide +kernel))) (goodIn_sub (fun _ h => List.mem_append_right _ h) (by decide +kernel))
set_option maxRecDepth 20000 in
theorem gL_law_L_fromBattery : GoodIn wsL_law (va_wsS RL 106 yL_fromBattery wsL_fromBattery) := goodIn_app (goodIn_of _ (by decide +kernel)) ggL_law_L_fromBattery
set_option maxRecDepth 20000 in
theorem ggL_law_X2_fromBattery : GoodIn wsL_law wsX2_fromBattery := goodIn_r _ [349, 60, 324, 325, 326, 5, 327, 93, 94, 95, 96, 97, 98, 305, 306, 307, 308, 237, 103, 104, 105, 106, 107, 422, 423, 424, 425, 426, 427, 428, 429, 430, 431, 432, 433, 434, 435, 436, 437, 438, 439, 440, 441] (by decide +kernel) (by decide +kernel)
set_option maxRecDepth 20000 in
theorem gL_law_X2_fromBattery : GoodIn wsL_law (wsV RL 108 RX2 yX2_fromBattery wsX2_fromBattery) := goodIn_app (goodIn_of _ (by decide +kernel)) ggL_law_X2_fromBattery
set_option maxRecDepth 20000 in
theorem ggL_law_L_bought : GoodIn wsL_law wsL_bought := goodIn_ca (goodIn_ca (goodIn_r _ [352, 69, 286, 353, 354, 355, 2, 356, 25, 232, 316, 317, 318, 319, 77, 78, 79, 80, 81, 291, 292, 293, 294, 295, 296, 154, 162, 163, 24, 164, 410, 411, 412, 413, 414, 415, 416, 417, 418, 419, 420, 421, 442, 443, 444, 445, 446, 447, 448, 449, 450] (by decide +kernel) (by decide +kernel)) (goodIn_sub (fun _ h => List.mem_append_left _ (List.mem_append_right _ h)) (by decide +kernel))) (goodIn_sub (fun _ h => List.mem_append_right _ h) (by decide +kernel))
set_option maxRecDepth 20000 in
theorem gL_law_L_bought : GoodIn wsL_law (va_wsS RL 109 yL_bought wsL_bought) := goodIn_app (goodIn_of _ (by decide +kernel)) ggL_law_L_bought
set_option maxRecDepth 20000 in
theorem ggL_law_X2_bought : GoodIn wsL_law wsX2_bought := goodIn_r _ [360, 61, 324, 325, 326, 5, 327, 93, 94, 95, 96, 97, 98, 305, 306, 307, 308, 237, 103, 104, 105, 106, 107, 422, 423, 424, 425, 426, 427, 428, 429, 430, 431, 432, 433, 434, 435, 436, 437, 438, 439, 440, 441] (by decide +kernel) (by decide +kernel)
set_option maxRecDepth 20000 in
theorem gL_law_X2_bought : GoodIn wsL_law (wsV RL 111 RX2 yX2_bought wsX2_bought) := goodIn_app (goodIn_of _ (by decide +kernel)) ggL_law_X2_bought
set_option maxRecDepth 20000 in
theorem ggL_law_L_sold : GoodIn wsL_law wsL_sold := goodIn_ca (goodIn_r _ [363, 286, 364, 365, 366, 2, 367, 25, 214, 291, 292, 293, 294, 295, 296, 154, 410, 411, 412, 413, 414, 415, 416, 417, 418, 419, 420, 421, 442, 443, 444, 445, 446, 447, 448, 449, 450] (by decide +kernel) (by decide +kernel)) (goodIn_sub (fun _ h => List.mem_append_right _ h) (by decide +kernel))
set_option maxRecDepth 20000 in
theorem gL_law_L_sold : GoodIn wsL_law (va_wsS RL 112 yL_sold wsL_sold) := goodIn_app (goodIn_of _ (by decide +kernel)) ggL_law_L_sold
set_option maxRecDepth 20000 in
theorem ggL_law_X2_sold : GoodIn wsL_law wsX2_sold := goodIn_r _ [371, 62, 305, 306, 307, 5, 308, 237, 96, 97, 98, 103, 104, 105, 106, 107, 422, 423, 424, 425, 426, 427, 428, 429, 430, 431, 432, 433, 434, 435, 436, 437, 438, 439, 440, 441] (by decide +kernel) (by decide +kernel)
set_option maxRecDepth 20000 in
theorem gL_law_X2_sold : GoodIn wsL_law (wsV RL 114 RX2 yX2_sold wsX2_sold) := goodIn_app (goodIn_of _ (by decide +kernel)) ggL_law_X2_sold
set_option maxRecDepth 20000 in
theorem ggL_law_X1_battery : GoodIn wsL_law wsX1_battery := goodIn_r _ [375, 28, 410, 411, 412, 413, 414, 415, 416, 417, 418, 419, 420, 421] (by decide +kernel) (by decide +kernel)
set_option maxRecDepth 20000 in
theorem gL_law_X1_battery : GoodIn wsL_law (wsV RL 115 RX1 yX1_battery wsX1_battery) := goodIn_app (goodIn_of _ (by decide +kernel)) ggL_law_X1_battery
set_option maxRecDepth 20000 in
theorem ggL_law_X2_battery : GoodIn wsL_law wsX2_battery := goodIn_r _ [379, 107, 239, 422, 423, 424, 425, 426, 427, 428, 429, 430, 431, 432, 433, 434, 435, 436, 437, 438, 439, 440, 441] (by decide +kernel) (by decide +kernel)
set_option maxRecDepth 20000 in
theorem gL_law_X2_battery : GoodIn wsL_law (wsV RL 119 RX2 yX2_battery wsX2_battery) := goodIn_app (goodIn_of _ (by decide +kernel)) ggL_law_X2_battery
set_option maxRecDepth 20000 in
theorem ggL_law_X1_turn : GoodIn wsL_law wsX1_turn := goodIn_r _ [383, 29, 410, 411, 412, 413, 414, 415, 416, 417, 418, 419, 420, 421] (by decide +kernel) (by decide +kernel)
set_option maxRecDepth 20000 in
theorem gL_law_X1_turn : GoodIn wsL_law (wsV RL 120 RX1 yX1_turn wsX1_turn) := goodIn_app (goodIn_of _ (by decide +kernel)) ggL_law_X1_turn
set_option maxRecDepth 20000 in
theorem ggL_law_X2_turn : GoodIn wsL_law wsX2_turn := goodIn_r _ [387, 107, 269, 422, 423, 424, 425, 426, 427, 428, 429, 430, 431, 432, 433, 434, 435, 436, 437, 438, 439, 440, 441] (by decide +kernel) (by decide +kernel)
set_option maxRecDepth 20000 in
theorem gL_law_X2_turn : GoodIn wsL_law (wsV RL 123 RX2 yX2_turn wsX2_turn) := goodIn_app (goodIn_of _ (by decide +kernel)) ggL_law_X2_turn
set_option maxRecDepth 20000 in
theorem ggL_law_L_sheds : GoodIn wsL_law wsL_sheds := goodIn_ca (goodIn_r _ [390, 69, 391, 392, 393, 2, 394, 18, 77, 78, 79, 80, 81, 410, 411, 412, 413, 414, 415, 416, 417, 418, 419, 420, 421] (by decide +kernel) (by decide +kernel)) (goodIn_sub (fun _ h => List.mem_append_left _ (List.mem_append_right _ h)) (by decide +kernel))
set_option maxRecDepth 20000 in
theorem gL_law_L_sheds : GoodIn wsL_law (va_wsS RL 124 yL_sheds wsL_sheds) := goodIn_app (goodIn_of _ (by decide +kernel)) ggL_law_L_sheds
set_option maxRecDepth 20000 in
theorem ggL_law_X2_sheds : GoodIn wsL_law wsX2_sheds := goodIn_r _ [398, 50, 93, 94, 5, 95, 96, 97, 98, 103, 104, 105, 106, 107, 422, 423, 424, 425, 426, 427, 428, 429, 430, 431, 432, 433, 434, 435, 436, 437, 438, 439, 440, 441] (by decide +kernel) (by decide +kernel)
set_option maxRecDepth 20000 in
theorem gL_law_X2_sheds : GoodIn wsL_law (wsV RL 126 RX2 yX2_sheds wsX2_sheds) := goodIn_app (goodIn_of _ (by decide +kernel)) ggL_law_X2_sheds
set_option maxRecDepth 20000 in
theorem ggL_law_L_bill : GoodIn wsL_law wsL_bill := goodIn_ca (goodIn_r _ [401, 69, 402, 403, 404, 2, 405, 19, 77, 78, 79, 80, 81, 410, 411, 412, 413, 414, 415, 416, 417, 418, 419, 420, 421] (by decide +kernel) (by decide +kernel)) (goodIn_sub (fun _ h => List.mem_append_left _ (List.mem_append_right _ h)) (by decide +kernel))
set_option maxRecDepth 20000 in
theorem gL_law_L_bill : GoodIn wsL_law (va_wsS RL 127 yL_bill wsL_bill) := goodIn_app (goodIn_of _ (by decide +kernel)) ggL_law_L_bill
set_option maxRecDepth 20000 in
theorem ggL_law_X2_bill : GoodIn wsL_law wsX2_bill := goodIn_r _ [409, 51, 93, 94, 5, 95, 96, 97, 98, 103, 104, 105, 106, 107, 422, 423, 424, 425, 426, 427, 428, 429, 430, 431, 432, 433, 434, 435, 436, 437, 438, 439, 440, 441] (by decide +kernel) (by decide +kernel)
set_option maxRecDepth 20000 in
theorem gL_law_X2_bill : GoodIn wsL_law (wsV RL 129 RX2 yX2_bill wsX2_bill) := goodIn_app (goodIn_of _ (by decide +kernel)) ggL_law_X2_bill
theorem dL_law_0 : decode cL_law 0 = .ok (.new 8, 3) := by decide +kernel
theorem dL_law_3 : decode cL_law 3 = .ok (.dup, 1) := by decide +kernel
theorem dL_law_4 : decode cL_law 4 = .ok (.invokespecial 62, 3) := by decide +kernel
theorem dL_law_7 : decode cL_law 7 = .ok (.astore_n 1, 1) := by decide +kernel
theorem dL_law_8 : decode cL_law 8 = .ok (.new 63, 3) := by decide +kernel
theorem dL_law_11 : decode cL_law 11 = .ok (.dup, 1) := by decide +kernel
theorem dL_law_12 : decode cL_law 12 = .ok (.invokespecial 65, 3) := by decide +kernel
theorem dL_law_15 : decode cL_law 15 = .ok (.astore_n 2, 1) := by decide +kernel
theorem dL_law_16 : decode cL_law 16 = .ok (.iconst 1, 1) := by decide +kernel
theorem dL_law_17 : decode cL_law 17 = .ok (.newarray .long, 2) := by decide +kernel
theorem dL_law_19 : decode cL_law 19 = .ok (.astore_n 3, 1) := by decide +kernel
theorem dL_law_20 : decode cL_law 20 = .ok (.iconst 1, 1) := by decide +kernel
theorem dL_law_21 : decode cL_law 21 = .ok (.newarray .double, 2) := by decide +kernel
theorem dL_law_23 : decode cL_law 23 = .ok (.astore 4, 2) := by decide +kernel
theorem dL_law_25 : decode cL_law 25 = .ok (.iconst 0, 1) := by decide +kernel
theorem dL_law_26 : decode cL_law 26 = .ok (.istore 5, 2) := by decide +kernel
theorem dL_law_28 : decode cL_law 28 = .ok (.iload 5, 2) := by decide +kernel
theorem dL_law_30 : decode cL_law 30 = .ok (.aload_n 0, 1) := by decide +kernel
theorem dL_law_31 : decode cL_law 31 = .ok (.arraylength, 1) := by decide +kernel
theorem dL_law_32 : decode cL_law 32 = .ok (.iconst 4, 1) := by decide +kernel
theorem dL_law_33 : decode cL_law 33 = .ok (.isub, 1) := by decide +kernel
theorem dL_law_34 : decode cL_law 34 = .ok (.if_icmp .gt 1204, 3) := by decide +kernel
theorem dL_law_37 : decode cL_law 37 = .ok (.aload_n 0, 1) := by decide +kernel
theorem dL_law_38 : decode cL_law 38 = .ok (.iload 5, 2) := by decide +kernel
theorem dL_law_40 : decode cL_law 40 = .ok (.iaload, 1) := by decide +kernel
theorem dL_law_41 : decode cL_law 41 = .ok (.bipush 15, 2) := by decide +kernel
theorem dL_law_43 : decode cL_law 43 = .ok (.iand, 1) := by decide +kernel
theorem dL_law_44 : decode cL_law 44 = .ok (.tableswitch 1188 0 15 #[80, 148, 239, 316, 391, 454, 467, 568, 657, 746, 835, 924, 1001, 1042, 1055, 1111], 80) := by decide +kernel
theorem dL_law_124 : decode cL_law 124 = .ok (.aload_n 1, 1) := by decide +kernel
theorem dL_law_125 : decode cL_law 125 = .ok (.aload_n 0, 1) := by decide +kernel
theorem dL_law_126 : decode cL_law 126 = .ok (.iload 5, 2) := by decide +kernel
theorem dL_law_128 : decode cL_law 128 = .ok (.iconst 1, 1) := by decide +kernel
theorem dL_law_129 : decode cL_law 129 = .ok (.iadd, 1) := by decide +kernel
theorem dL_law_130 : decode cL_law 130 = .ok (.iaload, 1) := by decide +kernel
theorem dL_law_131 : decode cL_law 131 = .ok (.aload_n 0, 1) := by decide +kernel
theorem dL_law_132 : decode cL_law 132 = .ok (.iload 5, 2) := by decide +kernel
theorem dL_law_134 : decode cL_law 134 = .ok (.iconst 2, 1) := by decide +kernel
theorem dL_law_135 : decode cL_law 135 = .ok (.iadd, 1) := by decide +kernel
theorem dL_law_136 : decode cL_law 136 = .ok (.iaload, 1) := by decide +kernel
theorem dL_law_137 : decode cL_law 137 = .ok (.aload_n 3, 1) := by decide +kernel
theorem dL_law_138 : decode cL_law 138 = .ok (.invokestatic 66, 3) := by decide +kernel
theorem dL_law_141 : decode cL_law 141 = .ok (.istore 6, 2) := by decide +kernel
theorem dL_law_143 : decode cL_law 143 = .ok (.aload_n 2, 1) := by decide +kernel
theorem dL_law_144 : decode cL_law 144 = .ok (.aload_n 0, 1) := by decide +kernel
theorem dL_law_145 : decode cL_law 145 = .ok (.iload 5, 2) := by decide +kernel
theorem dL_law_147 : decode cL_law 147 = .ok (.iconst 1, 1) := by decide +kernel
theorem dL_law_148 : decode cL_law 148 = .ok (.iadd, 1) := by decide +kernel
theorem dL_law_149 : decode cL_law 149 = .ok (.iaload, 1) := by decide +kernel
theorem dL_law_150 : decode cL_law 150 = .ok (.aload_n 0, 1) := by decide +kernel
theorem dL_law_151 : decode cL_law 151 = .ok (.iload 5, 2) := by decide +kernel
theorem dL_law_153 : decode cL_law 153 = .ok (.iconst 2, 1) := by decide +kernel
theorem dL_law_154 : decode cL_law 154 = .ok (.iadd, 1) := by decide +kernel
theorem dL_law_155 : decode cL_law 155 = .ok (.iaload, 1) := by decide +kernel
theorem dL_law_156 : decode cL_law 156 = .ok (.invokevirtual 71, 3) := by decide +kernel
theorem dL_law_159 : decode cL_law 159 = .ok (.istore 7, 2) := by decide +kernel
theorem dL_law_161 : decode cL_law 161 = .ok (.aload_n 2, 1) := by decide +kernel
theorem dL_law_162 : decode cL_law 162 = .ok (.invokevirtual 72, 3) := by decide +kernel
theorem dL_law_165 : decode cL_law 165 = .ok (.iload 6, 2) := by decide +kernel
theorem dL_law_167 : decode cL_law 167 = .ok (.if_icmp .eq 5, 3) := by decide +kernel
theorem dL_law_170 : decode cL_law 170 = .ok (.iconst 0, 1) := by decide +kernel
theorem dL_law_171 : decode cL_law 171 = .ok (.ireturn, 1) := by decide +kernel
theorem dL_law_172 : decode cL_law 172 = .ok (.iload 6, 2) := by decide +kernel
theorem dL_law_174 : decode cL_law 174 = .ok (.ifCond .ne 15, 3) := by decide +kernel
theorem dL_law_177 : decode cL_law 177 = .ok (.aload_n 3, 1) := by decide +kernel
theorem dL_law_178 : decode cL_law 178 = .ok (.iconst 0, 1) := by decide +kernel
theorem dL_law_179 : decode cL_law 179 = .ok (.laload, 1) := by decide +kernel
theorem dL_law_180 : decode cL_law 180 = .ok (.iload 7, 2) := by decide +kernel
theorem dL_law_182 : decode cL_law 182 = .ok (.i2l, 1) := by decide +kernel
theorem dL_law_183 : decode cL_law 183 = .ok (.lcmp, 1) := by decide +kernel
theorem dL_law_184 : decode cL_law 184 = .ok (.ifCond .eq 5, 3) := by decide +kernel
theorem dL_law_187 : decode cL_law 187 = .ok (.iconst 0, 1) := by decide +kernel
theorem dL_law_188 : decode cL_law 188 = .ok (.ireturn, 1) := by decide +kernel
theorem dL_law_189 : decode cL_law 189 = .ok (.goto 1043, 3) := by decide +kernel
theorem dL_law_192 : decode cL_law 192 = .ok (.aload_n 1, 1) := by decide +kernel
theorem dL_law_193 : decode cL_law 193 = .ok (.aload_n 0, 1) := by decide +kernel
theorem dL_law_194 : decode cL_law 194 = .ok (.iload 5, 2) := by decide +kernel
theorem dL_law_196 : decode cL_law 196 = .ok (.iconst 1, 1) := by decide +kernel
theorem dL_law_197 : decode cL_law 197 = .ok (.iadd, 1) := by decide +kernel
theorem dL_law_198 : decode cL_law 198 = .ok (.iaload, 1) := by decide +kernel
theorem dL_law_199 : decode cL_law 199 = .ok (.aload_n 0, 1) := by decide +kernel
theorem dL_law_200 : decode cL_law 200 = .ok (.iload 5, 2) := by decide +kernel
theorem dL_law_202 : decode cL_law 202 = .ok (.iconst 2, 1) := by decide +kernel
theorem dL_law_203 : decode cL_law 203 = .ok (.iadd, 1) := by decide +kernel
theorem dL_law_204 : decode cL_law 204 = .ok (.iaload, 1) := by decide +kernel
theorem dL_law_205 : decode cL_law 205 = .ok (.ifCond .eq 7, 3) := by decide +kernel
theorem dL_law_208 : decode cL_law 208 = .ok (.iconst 1, 1) := by decide +kernel
theorem dL_law_209 : decode cL_law 209 = .ok (.goto 4, 3) := by decide +kernel
theorem dL_law_212 : decode cL_law 212 = .ok (.iconst 0, 1) := by decide +kernel
theorem dL_law_213 : decode cL_law 213 = .ok (.aload_n 3, 1) := by decide +kernel
theorem dL_law_214 : decode cL_law 214 = .ok (.invokestatic 76, 3) := by decide +kernel
theorem dL_law_217 : decode cL_law 217 = .ok (.istore 6, 2) := by decide +kernel
theorem dL_law_219 : decode cL_law 219 = .ok (.aload_n 2, 1) := by decide +kernel
theorem dL_law_220 : decode cL_law 220 = .ok (.aload_n 0, 1) := by decide +kernel
theorem dL_law_221 : decode cL_law 221 = .ok (.iload 5, 2) := by decide +kernel
theorem dL_law_223 : decode cL_law 223 = .ok (.iconst 1, 1) := by decide +kernel
theorem dL_law_224 : decode cL_law 224 = .ok (.iadd, 1) := by decide +kernel
theorem dL_law_225 : decode cL_law 225 = .ok (.iaload, 1) := by decide +kernel
theorem dL_law_226 : decode cL_law 226 = .ok (.aload_n 0, 1) := by decide +kernel
theorem dL_law_227 : decode cL_law 227 = .ok (.iload 5, 2) := by decide +kernel
theorem dL_law_229 : decode cL_law 229 = .ok (.iconst 2, 1) := by decide +kernel
theorem dL_law_230 : decode cL_law 230 = .ok (.iadd, 1) := by decide +kernel
theorem dL_law_231 : decode cL_law 231 = .ok (.iaload, 1) := by decide +kernel
theorem dL_law_232 : decode cL_law 232 = .ok (.ifCond .eq 7, 3) := by decide +kernel
theorem dL_law_235 : decode cL_law 235 = .ok (.iconst 1, 1) := by decide +kernel
theorem dL_law_236 : decode cL_law 236 = .ok (.goto 4, 3) := by decide +kernel
theorem dL_law_239 : decode cL_law 239 = .ok (.iconst 0, 1) := by decide +kernel
theorem dL_law_240 : decode cL_law 240 = .ok (.invokevirtual 79, 3) := by decide +kernel
theorem dL_law_243 : decode cL_law 243 = .ok (.istore 7, 2) := by decide +kernel
theorem dL_law_245 : decode cL_law 245 = .ok (.aload_n 2, 1) := by decide +kernel
theorem dL_law_246 : decode cL_law 246 = .ok (.invokevirtual 72, 3) := by decide +kernel
theorem dL_law_249 : decode cL_law 249 = .ok (.iload 6, 2) := by decide +kernel
theorem dL_law_251 : decode cL_law 251 = .ok (.if_icmp .eq 5, 3) := by decide +kernel
theorem dL_law_254 : decode cL_law 254 = .ok (.iconst 0, 1) := by decide +kernel
theorem dL_law_255 : decode cL_law 255 = .ok (.ireturn, 1) := by decide +kernel
theorem dL_law_256 : decode cL_law 256 = .ok (.iload 6, 2) := by decide +kernel
theorem dL_law_258 : decode cL_law 258 = .ok (.ifCond .ne 22, 3) := by decide +kernel
theorem dL_law_261 : decode cL_law 261 = .ok (.aload_n 3, 1) := by decide +kernel
theorem dL_law_262 : decode cL_law 262 = .ok (.iconst 0, 1) := by decide +kernel
theorem dL_law_263 : decode cL_law 263 = .ok (.laload, 1) := by decide +kernel
theorem dL_law_264 : decode cL_law 264 = .ok (.iload 7, 2) := by decide +kernel
theorem dL_law_266 : decode cL_law 266 = .ok (.ifCond .eq 7, 3) := by decide +kernel
theorem dL_law_269 : decode cL_law 269 = .ok (.lconst 1, 1) := by decide +kernel
theorem dL_law_270 : decode cL_law 270 = .ok (.goto 4, 3) := by decide +kernel
theorem dL_law_273 : decode cL_law 273 = .ok (.lconst 0, 1) := by decide +kernel
theorem dL_law_274 : decode cL_law 274 = .ok (.lcmp, 1) := by decide +kernel
theorem dL_law_275 : decode cL_law 275 = .ok (.ifCond .eq 5, 3) := by decide +kernel
theorem dL_law_278 : decode cL_law 278 = .ok (.iconst 0, 1) := by decide +kernel
theorem dL_law_279 : decode cL_law 279 = .ok (.ireturn, 1) := by decide +kernel
theorem dL_law_280 : decode cL_law 280 = .ok (.goto 952, 3) := by decide +kernel
theorem dL_law_283 : decode cL_law 283 = .ok (.aload_n 1, 1) := by decide +kernel
theorem dL_law_284 : decode cL_law 284 = .ok (.aload_n 0, 1) := by decide +kernel
theorem dL_law_285 : decode cL_law 285 = .ok (.iload 5, 2) := by decide +kernel
theorem dL_law_287 : decode cL_law 287 = .ok (.iconst 1, 1) := by decide +kernel
theorem dL_law_288 : decode cL_law 288 = .ok (.iadd, 1) := by decide +kernel
theorem dL_law_289 : decode cL_law 289 = .ok (.iaload, 1) := by decide +kernel
theorem dL_law_290 : decode cL_law 290 = .ok (.aload 4, 2) := by decide +kernel
theorem dL_law_292 : decode cL_law 292 = .ok (.invokestatic 80, 3) := by decide +kernel
theorem dL_law_295 : decode cL_law 295 = .ok (.istore 6, 2) := by decide +kernel
theorem dL_law_297 : decode cL_law 297 = .ok (.aload_n 2, 1) := by decide +kernel
theorem dL_law_298 : decode cL_law 298 = .ok (.aload_n 0, 1) := by decide +kernel
theorem dL_law_299 : decode cL_law 299 = .ok (.iload 5, 2) := by decide +kernel
theorem dL_law_301 : decode cL_law 301 = .ok (.iconst 1, 1) := by decide +kernel
theorem dL_law_302 : decode cL_law 302 = .ok (.iadd, 1) := by decide +kernel
theorem dL_law_303 : decode cL_law 303 = .ok (.iaload, 1) := by decide +kernel
theorem dL_law_304 : decode cL_law 304 = .ok (.invokevirtual 83, 3) := by decide +kernel
theorem dL_law_307 : decode cL_law 307 = .ok (.dstore 7, 2) := by decide +kernel
theorem dL_law_309 : decode cL_law 309 = .ok (.aload_n 2, 1) := by decide +kernel
theorem dL_law_310 : decode cL_law 310 = .ok (.invokevirtual 72, 3) := by decide +kernel
theorem dL_law_313 : decode cL_law 313 = .ok (.iload 6, 2) := by decide +kernel
theorem dL_law_315 : decode cL_law 315 = .ok (.if_icmp .eq 5, 3) := by decide +kernel
theorem dL_law_318 : decode cL_law 318 = .ok (.iconst 0, 1) := by decide +kernel
theorem dL_law_319 : decode cL_law 319 = .ok (.ireturn, 1) := by decide +kernel
theorem dL_law_320 : decode cL_law 320 = .ok (.iload 6, 2) := by decide +kernel
theorem dL_law_322 : decode cL_law 322 = .ok (.ifCond .ne 35, 3) := by decide +kernel
theorem dL_law_325 : decode cL_law 325 = .ok (.aload 4, 2) := by decide +kernel
theorem dL_law_327 : decode cL_law 327 = .ok (.iconst 0, 1) := by decide +kernel
theorem dL_law_328 : decode cL_law 328 = .ok (.daload, 1) := by decide +kernel
theorem dL_law_329 : decode cL_law 329 = .ok (.dload 7, 2) := by decide +kernel
theorem dL_law_331 : decode cL_law 331 = .ok (.dcmp .l, 1) := by decide +kernel
theorem dL_law_332 : decode cL_law 332 = .ok (.ifCond .eq 25, 3) := by decide +kernel
theorem dL_law_335 : decode cL_law 335 = .ok (.aload 4, 2) := by decide +kernel
theorem dL_law_337 : decode cL_law 337 = .ok (.iconst 0, 1) := by decide +kernel
theorem dL_law_338 : decode cL_law 338 = .ok (.daload, 1) := by decide +kernel
theorem dL_law_339 : decode cL_law 339 = .ok (.aload 4, 2) := by decide +kernel
theorem dL_law_341 : decode cL_law 341 = .ok (.iconst 0, 1) := by decide +kernel
theorem dL_law_342 : decode cL_law 342 = .ok (.daload, 1) := by decide +kernel
theorem dL_law_343 : decode cL_law 343 = .ok (.dcmp .l, 1) := by decide +kernel
theorem dL_law_344 : decode cL_law 344 = .ok (.ifCond .eq 11, 3) := by decide +kernel
theorem dL_law_347 : decode cL_law 347 = .ok (.dload 7, 2) := by decide +kernel
theorem dL_law_349 : decode cL_law 349 = .ok (.dload 7, 2) := by decide +kernel
theorem dL_law_351 : decode cL_law 351 = .ok (.dcmp .l, 1) := by decide +kernel
theorem dL_law_352 : decode cL_law 352 = .ok (.ifCond .ne 5, 3) := by decide +kernel
theorem dL_law_355 : decode cL_law 355 = .ok (.iconst 0, 1) := by decide +kernel
theorem dL_law_356 : decode cL_law 356 = .ok (.ireturn, 1) := by decide +kernel
theorem dL_law_357 : decode cL_law 357 = .ok (.goto 875, 3) := by decide +kernel
theorem dL_law_360 : decode cL_law 360 = .ok (.aload_n 1, 1) := by decide +kernel
theorem dL_law_361 : decode cL_law 361 = .ok (.aload_n 0, 1) := by decide +kernel
theorem dL_law_362 : decode cL_law 362 = .ok (.iload 5, 2) := by decide +kernel
theorem dL_law_364 : decode cL_law 364 = .ok (.iconst 1, 1) := by decide +kernel
theorem dL_law_365 : decode cL_law 365 = .ok (.iadd, 1) := by decide +kernel
theorem dL_law_366 : decode cL_law 366 = .ok (.iaload, 1) := by decide +kernel
theorem dL_law_367 : decode cL_law 367 = .ok (.aload_n 0, 1) := by decide +kernel
theorem dL_law_368 : decode cL_law 368 = .ok (.iload 5, 2) := by decide +kernel
theorem dL_law_370 : decode cL_law 370 = .ok (.iconst 2, 1) := by decide +kernel
theorem dL_law_371 : decode cL_law 371 = .ok (.iadd, 1) := by decide +kernel
theorem dL_law_372 : decode cL_law 372 = .ok (.iaload, 1) := by decide +kernel
theorem dL_law_373 : decode cL_law 373 = .ok (.aload_n 3, 1) := by decide +kernel
theorem dL_law_374 : decode cL_law 374 = .ok (.invokestatic 84, 3) := by decide +kernel
theorem dL_law_377 : decode cL_law 377 = .ok (.istore 6, 2) := by decide +kernel
theorem dL_law_379 : decode cL_law 379 = .ok (.aload_n 2, 1) := by decide +kernel
theorem dL_law_380 : decode cL_law 380 = .ok (.aload_n 0, 1) := by decide +kernel
theorem dL_law_381 : decode cL_law 381 = .ok (.iload 5, 2) := by decide +kernel
theorem dL_law_383 : decode cL_law 383 = .ok (.iconst 1, 1) := by decide +kernel
theorem dL_law_384 : decode cL_law 384 = .ok (.iadd, 1) := by decide +kernel
theorem dL_law_385 : decode cL_law 385 = .ok (.iaload, 1) := by decide +kernel
theorem dL_law_386 : decode cL_law 386 = .ok (.aload_n 0, 1) := by decide +kernel
theorem dL_law_387 : decode cL_law 387 = .ok (.iload 5, 2) := by decide +kernel
theorem dL_law_389 : decode cL_law 389 = .ok (.iconst 2, 1) := by decide +kernel
theorem dL_law_390 : decode cL_law 390 = .ok (.iadd, 1) := by decide +kernel
theorem dL_law_391 : decode cL_law 391 = .ok (.iaload, 1) := by decide +kernel
theorem dL_law_392 : decode cL_law 392 = .ok (.invokevirtual 86, 3) := by decide +kernel
theorem dL_law_395 : decode cL_law 395 = .ok (.istore 7, 2) := by decide +kernel
theorem dL_law_397 : decode cL_law 397 = .ok (.aload_n 2, 1) := by decide +kernel
theorem dL_law_398 : decode cL_law 398 = .ok (.invokevirtual 72, 3) := by decide +kernel
theorem dL_law_401 : decode cL_law 401 = .ok (.iload 6, 2) := by decide +kernel
theorem dL_law_403 : decode cL_law 403 = .ok (.if_icmp .eq 5, 3) := by decide +kernel
theorem dL_law_406 : decode cL_law 406 = .ok (.iconst 0, 1) := by decide +kernel
theorem dL_law_407 : decode cL_law 407 = .ok (.ireturn, 1) := by decide +kernel
theorem dL_law_408 : decode cL_law 408 = .ok (.iload 6, 2) := by decide +kernel
theorem dL_law_410 : decode cL_law 410 = .ok (.ifCond .ne 22, 3) := by decide +kernel
theorem dL_law_413 : decode cL_law 413 = .ok (.aload_n 3, 1) := by decide +kernel
theorem dL_law_414 : decode cL_law 414 = .ok (.iconst 0, 1) := by decide +kernel
theorem dL_law_415 : decode cL_law 415 = .ok (.laload, 1) := by decide +kernel
theorem dL_law_416 : decode cL_law 416 = .ok (.iload 7, 2) := by decide +kernel
theorem dL_law_418 : decode cL_law 418 = .ok (.ifCond .eq 7, 3) := by decide +kernel
theorem dL_law_421 : decode cL_law 421 = .ok (.lconst 1, 1) := by decide +kernel
theorem dL_law_422 : decode cL_law 422 = .ok (.goto 4, 3) := by decide +kernel
theorem dL_law_425 : decode cL_law 425 = .ok (.lconst 0, 1) := by decide +kernel
theorem dL_law_426 : decode cL_law 426 = .ok (.lcmp, 1) := by decide +kernel
theorem dL_law_427 : decode cL_law 427 = .ok (.ifCond .eq 5, 3) := by decide +kernel
theorem dL_law_430 : decode cL_law 430 = .ok (.iconst 0, 1) := by decide +kernel
theorem dL_law_431 : decode cL_law 431 = .ok (.ireturn, 1) := by decide +kernel
theorem dL_law_432 : decode cL_law 432 = .ok (.goto 800, 3) := by decide +kernel
theorem dL_law_435 : decode cL_law 435 = .ok (.aload_n 1, 1) := by decide +kernel
theorem dL_law_436 : decode cL_law 436 = .ok (.aload_n 0, 1) := by decide +kernel
theorem dL_law_437 : decode cL_law 437 = .ok (.iload 5, 2) := by decide +kernel
theorem dL_law_439 : decode cL_law 439 = .ok (.iconst 1, 1) := by decide +kernel
theorem dL_law_440 : decode cL_law 440 = .ok (.iadd, 1) := by decide +kernel
theorem dL_law_441 : decode cL_law 441 = .ok (.iaload, 1) := by decide +kernel
theorem dL_law_442 : decode cL_law 442 = .ok (.aload_n 3, 1) := by decide +kernel
theorem dL_law_443 : decode cL_law 443 = .ok (.invokestatic 87, 3) := by decide +kernel
theorem dL_law_446 : decode cL_law 446 = .ok (.istore 6, 2) := by decide +kernel
theorem dL_law_448 : decode cL_law 448 = .ok (.aload_n 2, 1) := by decide +kernel
theorem dL_law_449 : decode cL_law 449 = .ok (.aload_n 0, 1) := by decide +kernel
theorem dL_law_450 : decode cL_law 450 = .ok (.iload 5, 2) := by decide +kernel
theorem dL_law_452 : decode cL_law 452 = .ok (.iconst 1, 1) := by decide +kernel
theorem dL_law_453 : decode cL_law 453 = .ok (.iadd, 1) := by decide +kernel
theorem dL_law_454 : decode cL_law 454 = .ok (.iaload, 1) := by decide +kernel
theorem dL_law_455 : decode cL_law 455 = .ok (.invokevirtual 90, 3) := by decide +kernel
theorem dL_law_458 : decode cL_law 458 = .ok (.istore 7, 2) := by decide +kernel
theorem dL_law_460 : decode cL_law 460 = .ok (.aload_n 2, 1) := by decide +kernel
theorem dL_law_461 : decode cL_law 461 = .ok (.invokevirtual 72, 3) := by decide +kernel
theorem dL_law_464 : decode cL_law 464 = .ok (.iload 6, 2) := by decide +kernel
theorem dL_law_466 : decode cL_law 466 = .ok (.if_icmp .eq 5, 3) := by decide +kernel
theorem dL_law_469 : decode cL_law 469 = .ok (.iconst 0, 1) := by decide +kernel
theorem dL_law_470 : decode cL_law 470 = .ok (.ireturn, 1) := by decide +kernel
theorem dL_law_471 : decode cL_law 471 = .ok (.iload 6, 2) := by decide +kernel
theorem dL_law_473 : decode cL_law 473 = .ok (.ifCond .ne 22, 3) := by decide +kernel
theorem dL_law_476 : decode cL_law 476 = .ok (.aload_n 3, 1) := by decide +kernel
theorem dL_law_477 : decode cL_law 477 = .ok (.iconst 0, 1) := by decide +kernel
theorem dL_law_478 : decode cL_law 478 = .ok (.laload, 1) := by decide +kernel
theorem dL_law_479 : decode cL_law 479 = .ok (.iload 7, 2) := by decide +kernel
theorem dL_law_481 : decode cL_law 481 = .ok (.ifCond .eq 7, 3) := by decide +kernel
theorem dL_law_484 : decode cL_law 484 = .ok (.lconst 1, 1) := by decide +kernel
theorem dL_law_485 : decode cL_law 485 = .ok (.goto 4, 3) := by decide +kernel
theorem dL_law_488 : decode cL_law 488 = .ok (.lconst 0, 1) := by decide +kernel
theorem dL_law_489 : decode cL_law 489 = .ok (.lcmp, 1) := by decide +kernel
theorem dL_law_490 : decode cL_law 490 = .ok (.ifCond .eq 5, 3) := by decide +kernel
theorem dL_law_493 : decode cL_law 493 = .ok (.iconst 0, 1) := by decide +kernel
theorem dL_law_494 : decode cL_law 494 = .ok (.ireturn, 1) := by decide +kernel
theorem dL_law_495 : decode cL_law 495 = .ok (.goto 737, 3) := by decide +kernel
theorem dL_law_498 : decode cL_law 498 = .ok (.aload_n 1, 1) := by decide +kernel
theorem dL_law_499 : decode cL_law 499 = .ok (.invokevirtual 91, 3) := by decide +kernel
theorem dL_law_502 : decode cL_law 502 = .ok (.aload_n 2, 1) := by decide +kernel
theorem dL_law_503 : decode cL_law 503 = .ok (.invokevirtual 94, 3) := by decide +kernel
theorem dL_law_506 : decode cL_law 506 = .ok (.if_icmp .eq 726, 3) := by decide +kernel
theorem dL_law_509 : decode cL_law 509 = .ok (.iconst 0, 1) := by decide +kernel
theorem dL_law_510 : decode cL_law 510 = .ok (.ireturn, 1) := by decide +kernel
theorem dL_law_511 : decode cL_law 511 = .ok (.aload_n 1, 1) := by decide +kernel
theorem dL_law_512 : decode cL_law 512 = .ok (.aload_n 0, 1) := by decide +kernel
theorem dL_law_513 : decode cL_law 513 = .ok (.iload 5, 2) := by decide +kernel
theorem dL_law_515 : decode cL_law 515 = .ok (.iconst 1, 1) := by decide +kernel
theorem dL_law_516 : decode cL_law 516 = .ok (.iadd, 1) := by decide +kernel
theorem dL_law_517 : decode cL_law 517 = .ok (.iaload, 1) := by decide +kernel
theorem dL_law_518 : decode cL_law 518 = .ok (.aload_n 0, 1) := by decide +kernel
theorem dL_law_519 : decode cL_law 519 = .ok (.iload 5, 2) := by decide +kernel
theorem dL_law_521 : decode cL_law 521 = .ok (.iconst 2, 1) := by decide +kernel
theorem dL_law_522 : decode cL_law 522 = .ok (.iadd, 1) := by decide +kernel
theorem dL_law_523 : decode cL_law 523 = .ok (.iaload, 1) := by decide +kernel
theorem dL_law_524 : decode cL_law 524 = .ok (.aload_n 0, 1) := by decide +kernel
theorem dL_law_525 : decode cL_law 525 = .ok (.iload 5, 2) := by decide +kernel
theorem dL_law_527 : decode cL_law 527 = .ok (.iconst 3, 1) := by decide +kernel
theorem dL_law_528 : decode cL_law 528 = .ok (.iadd, 1) := by decide +kernel
theorem dL_law_529 : decode cL_law 529 = .ok (.iaload, 1) := by decide +kernel
theorem dL_law_530 : decode cL_law 530 = .ok (.aload 4, 2) := by decide +kernel
theorem dL_law_532 : decode cL_law 532 = .ok (.invokestatic 95, 3) := by decide +kernel
theorem dL_law_535 : decode cL_law 535 = .ok (.istore 6, 2) := by decide +kernel
theorem dL_law_537 : decode cL_law 537 = .ok (.aload_n 2, 1) := by decide +kernel
theorem dL_law_538 : decode cL_law 538 = .ok (.aload_n 0, 1) := by decide +kernel
theorem dL_law_539 : decode cL_law 539 = .ok (.iload 5, 2) := by decide +kernel
theorem dL_law_541 : decode cL_law 541 = .ok (.iconst 1, 1) := by decide +kernel
theorem dL_law_542 : decode cL_law 542 = .ok (.iadd, 1) := by decide +kernel
theorem dL_law_543 : decode cL_law 543 = .ok (.iaload, 1) := by decide +kernel
theorem dL_law_544 : decode cL_law 544 = .ok (.aload_n 0, 1) := by decide +kernel
theorem dL_law_545 : decode cL_law 545 = .ok (.iload 5, 2) := by decide +kernel
theorem dL_law_547 : decode cL_law 547 = .ok (.iconst 2, 1) := by decide +kernel
theorem dL_law_548 : decode cL_law 548 = .ok (.iadd, 1) := by decide +kernel
theorem dL_law_549 : decode cL_law 549 = .ok (.iaload, 1) := by decide +kernel
theorem dL_law_550 : decode cL_law 550 = .ok (.aload_n 0, 1) := by decide +kernel
theorem dL_law_551 : decode cL_law 551 = .ok (.iload 5, 2) := by decide +kernel
theorem dL_law_553 : decode cL_law 553 = .ok (.iconst 3, 1) := by decide +kernel
theorem dL_law_554 : decode cL_law 554 = .ok (.iadd, 1) := by decide +kernel
theorem dL_law_555 : decode cL_law 555 = .ok (.iaload, 1) := by decide +kernel
theorem dL_law_556 : decode cL_law 556 = .ok (.invokevirtual 98, 3) := by decide +kernel
theorem dL_law_559 : decode cL_law 559 = .ok (.dstore 7, 2) := by decide +kernel
theorem dL_law_561 : decode cL_law 561 = .ok (.aload_n 2, 1) := by decide +kernel
theorem dL_law_562 : decode cL_law 562 = .ok (.invokevirtual 72, 3) := by decide +kernel
theorem dL_law_565 : decode cL_law 565 = .ok (.iload 6, 2) := by decide +kernel
theorem dL_law_567 : decode cL_law 567 = .ok (.if_icmp .eq 5, 3) := by decide +kernel
theorem dL_law_570 : decode cL_law 570 = .ok (.iconst 0, 1) := by decide +kernel
theorem dL_law_571 : decode cL_law 571 = .ok (.ireturn, 1) := by decide +kernel
theorem dL_law_572 : decode cL_law 572 = .ok (.iload 6, 2) := by decide +kernel
theorem dL_law_574 : decode cL_law 574 = .ok (.ifCond .ne 35, 3) := by decide +kernel
theorem dL_law_577 : decode cL_law 577 = .ok (.aload 4, 2) := by decide +kernel
theorem dL_law_579 : decode cL_law 579 = .ok (.iconst 0, 1) := by decide +kernel
theorem dL_law_580 : decode cL_law 580 = .ok (.daload, 1) := by decide +kernel
theorem dL_law_581 : decode cL_law 581 = .ok (.dload 7, 2) := by decide +kernel
theorem dL_law_583 : decode cL_law 583 = .ok (.dcmp .l, 1) := by decide +kernel
theorem dL_law_584 : decode cL_law 584 = .ok (.ifCond .eq 25, 3) := by decide +kernel
theorem dL_law_587 : decode cL_law 587 = .ok (.aload 4, 2) := by decide +kernel
theorem dL_law_589 : decode cL_law 589 = .ok (.iconst 0, 1) := by decide +kernel
theorem dL_law_590 : decode cL_law 590 = .ok (.daload, 1) := by decide +kernel
theorem dL_law_591 : decode cL_law 591 = .ok (.aload 4, 2) := by decide +kernel
theorem dL_law_593 : decode cL_law 593 = .ok (.iconst 0, 1) := by decide +kernel
theorem dL_law_594 : decode cL_law 594 = .ok (.daload, 1) := by decide +kernel
theorem dL_law_595 : decode cL_law 595 = .ok (.dcmp .l, 1) := by decide +kernel
theorem dL_law_596 : decode cL_law 596 = .ok (.ifCond .eq 11, 3) := by decide +kernel
theorem dL_law_599 : decode cL_law 599 = .ok (.dload 7, 2) := by decide +kernel
theorem dL_law_601 : decode cL_law 601 = .ok (.dload 7, 2) := by decide +kernel
theorem dL_law_603 : decode cL_law 603 = .ok (.dcmp .l, 1) := by decide +kernel
theorem dL_law_604 : decode cL_law 604 = .ok (.ifCond .ne 5, 3) := by decide +kernel
theorem dL_law_607 : decode cL_law 607 = .ok (.iconst 0, 1) := by decide +kernel
theorem dL_law_608 : decode cL_law 608 = .ok (.ireturn, 1) := by decide +kernel
theorem dL_law_609 : decode cL_law 609 = .ok (.goto 623, 3) := by decide +kernel
theorem dL_law_612 : decode cL_law 612 = .ok (.aload_n 1, 1) := by decide +kernel
theorem dL_law_613 : decode cL_law 613 = .ok (.aload_n 0, 1) := by decide +kernel
theorem dL_law_614 : decode cL_law 614 = .ok (.iload 5, 2) := by decide +kernel
theorem dL_law_616 : decode cL_law 616 = .ok (.iconst 1, 1) := by decide +kernel
theorem dL_law_617 : decode cL_law 617 = .ok (.iadd, 1) := by decide +kernel
theorem dL_law_618 : decode cL_law 618 = .ok (.iaload, 1) := by decide +kernel
theorem dL_law_619 : decode cL_law 619 = .ok (.aload_n 0, 1) := by decide +kernel
theorem dL_law_620 : decode cL_law 620 = .ok (.iload 5, 2) := by decide +kernel
theorem dL_law_622 : decode cL_law 622 = .ok (.iconst 2, 1) := by decide +kernel
theorem dL_law_623 : decode cL_law 623 = .ok (.iadd, 1) := by decide +kernel
theorem dL_law_624 : decode cL_law 624 = .ok (.iaload, 1) := by decide +kernel
theorem dL_law_625 : decode cL_law 625 = .ok (.aload 4, 2) := by decide +kernel
theorem dL_law_627 : decode cL_law 627 = .ok (.invokestatic 99, 3) := by decide +kernel
theorem dL_law_630 : decode cL_law 630 = .ok (.istore 6, 2) := by decide +kernel
theorem dL_law_632 : decode cL_law 632 = .ok (.aload_n 2, 1) := by decide +kernel
theorem dL_law_633 : decode cL_law 633 = .ok (.aload_n 0, 1) := by decide +kernel
theorem dL_law_634 : decode cL_law 634 = .ok (.iload 5, 2) := by decide +kernel
theorem dL_law_636 : decode cL_law 636 = .ok (.iconst 1, 1) := by decide +kernel
theorem dL_law_637 : decode cL_law 637 = .ok (.iadd, 1) := by decide +kernel
theorem dL_law_638 : decode cL_law 638 = .ok (.iaload, 1) := by decide +kernel
theorem dL_law_639 : decode cL_law 639 = .ok (.aload_n 0, 1) := by decide +kernel
theorem dL_law_640 : decode cL_law 640 = .ok (.iload 5, 2) := by decide +kernel
theorem dL_law_642 : decode cL_law 642 = .ok (.iconst 2, 1) := by decide +kernel
theorem dL_law_643 : decode cL_law 643 = .ok (.iadd, 1) := by decide +kernel
theorem dL_law_644 : decode cL_law 644 = .ok (.iaload, 1) := by decide +kernel
theorem dL_law_645 : decode cL_law 645 = .ok (.invokevirtual 102, 3) := by decide +kernel
theorem dL_law_648 : decode cL_law 648 = .ok (.dstore 7, 2) := by decide +kernel
theorem dL_law_650 : decode cL_law 650 = .ok (.aload_n 2, 1) := by decide +kernel
theorem dL_law_651 : decode cL_law 651 = .ok (.invokevirtual 72, 3) := by decide +kernel
theorem dL_law_654 : decode cL_law 654 = .ok (.iload 6, 2) := by decide +kernel
theorem dL_law_656 : decode cL_law 656 = .ok (.if_icmp .eq 5, 3) := by decide +kernel
theorem dL_law_659 : decode cL_law 659 = .ok (.iconst 0, 1) := by decide +kernel
theorem dL_law_660 : decode cL_law 660 = .ok (.ireturn, 1) := by decide +kernel
theorem dL_law_661 : decode cL_law 661 = .ok (.iload 6, 2) := by decide +kernel
theorem dL_law_663 : decode cL_law 663 = .ok (.ifCond .ne 35, 3) := by decide +kernel
theorem dL_law_666 : decode cL_law 666 = .ok (.aload 4, 2) := by decide +kernel
theorem dL_law_668 : decode cL_law 668 = .ok (.iconst 0, 1) := by decide +kernel
theorem dL_law_669 : decode cL_law 669 = .ok (.daload, 1) := by decide +kernel
theorem dL_law_670 : decode cL_law 670 = .ok (.dload 7, 2) := by decide +kernel
theorem dL_law_672 : decode cL_law 672 = .ok (.dcmp .l, 1) := by decide +kernel
theorem dL_law_673 : decode cL_law 673 = .ok (.ifCond .eq 25, 3) := by decide +kernel
theorem dL_law_676 : decode cL_law 676 = .ok (.aload 4, 2) := by decide +kernel
theorem dL_law_678 : decode cL_law 678 = .ok (.iconst 0, 1) := by decide +kernel
theorem dL_law_679 : decode cL_law 679 = .ok (.daload, 1) := by decide +kernel
theorem dL_law_680 : decode cL_law 680 = .ok (.aload 4, 2) := by decide +kernel
theorem dL_law_682 : decode cL_law 682 = .ok (.iconst 0, 1) := by decide +kernel
theorem dL_law_683 : decode cL_law 683 = .ok (.daload, 1) := by decide +kernel
theorem dL_law_684 : decode cL_law 684 = .ok (.dcmp .l, 1) := by decide +kernel
theorem dL_law_685 : decode cL_law 685 = .ok (.ifCond .eq 11, 3) := by decide +kernel
theorem dL_law_688 : decode cL_law 688 = .ok (.dload 7, 2) := by decide +kernel
theorem dL_law_690 : decode cL_law 690 = .ok (.dload 7, 2) := by decide +kernel
theorem dL_law_692 : decode cL_law 692 = .ok (.dcmp .l, 1) := by decide +kernel
theorem dL_law_693 : decode cL_law 693 = .ok (.ifCond .ne 5, 3) := by decide +kernel
theorem dL_law_696 : decode cL_law 696 = .ok (.iconst 0, 1) := by decide +kernel
theorem dL_law_697 : decode cL_law 697 = .ok (.ireturn, 1) := by decide +kernel
theorem dL_law_698 : decode cL_law 698 = .ok (.goto 534, 3) := by decide +kernel
theorem dL_law_701 : decode cL_law 701 = .ok (.aload_n 1, 1) := by decide +kernel
theorem dL_law_702 : decode cL_law 702 = .ok (.aload_n 0, 1) := by decide +kernel
theorem dL_law_703 : decode cL_law 703 = .ok (.iload 5, 2) := by decide +kernel
theorem dL_law_705 : decode cL_law 705 = .ok (.iconst 1, 1) := by decide +kernel
theorem dL_law_706 : decode cL_law 706 = .ok (.iadd, 1) := by decide +kernel
theorem dL_law_707 : decode cL_law 707 = .ok (.iaload, 1) := by decide +kernel
theorem dL_law_708 : decode cL_law 708 = .ok (.aload_n 0, 1) := by decide +kernel
theorem dL_law_709 : decode cL_law 709 = .ok (.iload 5, 2) := by decide +kernel
theorem dL_law_711 : decode cL_law 711 = .ok (.iconst 2, 1) := by decide +kernel
theorem dL_law_712 : decode cL_law 712 = .ok (.iadd, 1) := by decide +kernel
theorem dL_law_713 : decode cL_law 713 = .ok (.iaload, 1) := by decide +kernel
theorem dL_law_714 : decode cL_law 714 = .ok (.aload 4, 2) := by decide +kernel
theorem dL_law_716 : decode cL_law 716 = .ok (.invokestatic 103, 3) := by decide +kernel
theorem dL_law_719 : decode cL_law 719 = .ok (.istore 6, 2) := by decide +kernel
theorem dL_law_721 : decode cL_law 721 = .ok (.aload_n 2, 1) := by decide +kernel
theorem dL_law_722 : decode cL_law 722 = .ok (.aload_n 0, 1) := by decide +kernel
theorem dL_law_723 : decode cL_law 723 = .ok (.iload 5, 2) := by decide +kernel
theorem dL_law_725 : decode cL_law 725 = .ok (.iconst 1, 1) := by decide +kernel
theorem dL_law_726 : decode cL_law 726 = .ok (.iadd, 1) := by decide +kernel
theorem dL_law_727 : decode cL_law 727 = .ok (.iaload, 1) := by decide +kernel
theorem dL_law_728 : decode cL_law 728 = .ok (.aload_n 0, 1) := by decide +kernel
theorem dL_law_729 : decode cL_law 729 = .ok (.iload 5, 2) := by decide +kernel
theorem dL_law_731 : decode cL_law 731 = .ok (.iconst 2, 1) := by decide +kernel
theorem dL_law_732 : decode cL_law 732 = .ok (.iadd, 1) := by decide +kernel
theorem dL_law_733 : decode cL_law 733 = .ok (.iaload, 1) := by decide +kernel
theorem dL_law_734 : decode cL_law 734 = .ok (.invokevirtual 105, 3) := by decide +kernel
theorem dL_law_737 : decode cL_law 737 = .ok (.dstore 7, 2) := by decide +kernel
theorem dL_law_739 : decode cL_law 739 = .ok (.aload_n 2, 1) := by decide +kernel
theorem dL_law_740 : decode cL_law 740 = .ok (.invokevirtual 72, 3) := by decide +kernel
theorem dL_law_743 : decode cL_law 743 = .ok (.iload 6, 2) := by decide +kernel
theorem dL_law_745 : decode cL_law 745 = .ok (.if_icmp .eq 5, 3) := by decide +kernel
theorem dL_law_748 : decode cL_law 748 = .ok (.iconst 0, 1) := by decide +kernel
theorem dL_law_749 : decode cL_law 749 = .ok (.ireturn, 1) := by decide +kernel
theorem dL_law_750 : decode cL_law 750 = .ok (.iload 6, 2) := by decide +kernel
theorem dL_law_752 : decode cL_law 752 = .ok (.ifCond .ne 35, 3) := by decide +kernel
theorem dL_law_755 : decode cL_law 755 = .ok (.aload 4, 2) := by decide +kernel
theorem dL_law_757 : decode cL_law 757 = .ok (.iconst 0, 1) := by decide +kernel
theorem dL_law_758 : decode cL_law 758 = .ok (.daload, 1) := by decide +kernel
theorem dL_law_759 : decode cL_law 759 = .ok (.dload 7, 2) := by decide +kernel
theorem dL_law_761 : decode cL_law 761 = .ok (.dcmp .l, 1) := by decide +kernel
theorem dL_law_762 : decode cL_law 762 = .ok (.ifCond .eq 25, 3) := by decide +kernel
theorem dL_law_765 : decode cL_law 765 = .ok (.aload 4, 2) := by decide +kernel
theorem dL_law_767 : decode cL_law 767 = .ok (.iconst 0, 1) := by decide +kernel
theorem dL_law_768 : decode cL_law 768 = .ok (.daload, 1) := by decide +kernel
theorem dL_law_769 : decode cL_law 769 = .ok (.aload 4, 2) := by decide +kernel
theorem dL_law_771 : decode cL_law 771 = .ok (.iconst 0, 1) := by decide +kernel
theorem dL_law_772 : decode cL_law 772 = .ok (.daload, 1) := by decide +kernel
theorem dL_law_773 : decode cL_law 773 = .ok (.dcmp .l, 1) := by decide +kernel
theorem dL_law_774 : decode cL_law 774 = .ok (.ifCond .eq 11, 3) := by decide +kernel
theorem dL_law_777 : decode cL_law 777 = .ok (.dload 7, 2) := by decide +kernel
theorem dL_law_779 : decode cL_law 779 = .ok (.dload 7, 2) := by decide +kernel
theorem dL_law_781 : decode cL_law 781 = .ok (.dcmp .l, 1) := by decide +kernel
theorem dL_law_782 : decode cL_law 782 = .ok (.ifCond .ne 5, 3) := by decide +kernel
theorem dL_law_785 : decode cL_law 785 = .ok (.iconst 0, 1) := by decide +kernel
theorem dL_law_786 : decode cL_law 786 = .ok (.ireturn, 1) := by decide +kernel
theorem dL_law_787 : decode cL_law 787 = .ok (.goto 445, 3) := by decide +kernel
theorem dL_law_790 : decode cL_law 790 = .ok (.aload_n 1, 1) := by decide +kernel
theorem dL_law_791 : decode cL_law 791 = .ok (.aload_n 0, 1) := by decide +kernel
theorem dL_law_792 : decode cL_law 792 = .ok (.iload 5, 2) := by decide +kernel
theorem dL_law_794 : decode cL_law 794 = .ok (.iconst 1, 1) := by decide +kernel
theorem dL_law_795 : decode cL_law 795 = .ok (.iadd, 1) := by decide +kernel
theorem dL_law_796 : decode cL_law 796 = .ok (.iaload, 1) := by decide +kernel
theorem dL_law_797 : decode cL_law 797 = .ok (.aload_n 0, 1) := by decide +kernel
theorem dL_law_798 : decode cL_law 798 = .ok (.iload 5, 2) := by decide +kernel
theorem dL_law_800 : decode cL_law 800 = .ok (.iconst 2, 1) := by decide +kernel
theorem dL_law_801 : decode cL_law 801 = .ok (.iadd, 1) := by decide +kernel
theorem dL_law_802 : decode cL_law 802 = .ok (.iaload, 1) := by decide +kernel
theorem dL_law_803 : decode cL_law 803 = .ok (.aload 4, 2) := by decide +kernel
theorem dL_law_805 : decode cL_law 805 = .ok (.invokestatic 106, 3) := by decide +kernel
theorem dL_law_808 : decode cL_law 808 = .ok (.istore 6, 2) := by decide +kernel
theorem dL_law_810 : decode cL_law 810 = .ok (.aload_n 2, 1) := by decide +kernel
theorem dL_law_811 : decode cL_law 811 = .ok (.aload_n 0, 1) := by decide +kernel
theorem dL_law_812 : decode cL_law 812 = .ok (.iload 5, 2) := by decide +kernel
theorem dL_law_814 : decode cL_law 814 = .ok (.iconst 1, 1) := by decide +kernel
theorem dL_law_815 : decode cL_law 815 = .ok (.iadd, 1) := by decide +kernel
theorem dL_law_816 : decode cL_law 816 = .ok (.iaload, 1) := by decide +kernel
theorem dL_law_817 : decode cL_law 817 = .ok (.aload_n 0, 1) := by decide +kernel
theorem dL_law_818 : decode cL_law 818 = .ok (.iload 5, 2) := by decide +kernel
theorem dL_law_820 : decode cL_law 820 = .ok (.iconst 2, 1) := by decide +kernel
theorem dL_law_821 : decode cL_law 821 = .ok (.iadd, 1) := by decide +kernel
theorem dL_law_822 : decode cL_law 822 = .ok (.iaload, 1) := by decide +kernel
theorem dL_law_823 : decode cL_law 823 = .ok (.invokevirtual 108, 3) := by decide +kernel
theorem dL_law_826 : decode cL_law 826 = .ok (.dstore 7, 2) := by decide +kernel
theorem dL_law_828 : decode cL_law 828 = .ok (.aload_n 2, 1) := by decide +kernel
theorem dL_law_829 : decode cL_law 829 = .ok (.invokevirtual 72, 3) := by decide +kernel
theorem dL_law_832 : decode cL_law 832 = .ok (.iload 6, 2) := by decide +kernel
theorem dL_law_834 : decode cL_law 834 = .ok (.if_icmp .eq 5, 3) := by decide +kernel
theorem dL_law_837 : decode cL_law 837 = .ok (.iconst 0, 1) := by decide +kernel
theorem dL_law_838 : decode cL_law 838 = .ok (.ireturn, 1) := by decide +kernel
theorem dL_law_839 : decode cL_law 839 = .ok (.iload 6, 2) := by decide +kernel
theorem dL_law_841 : decode cL_law 841 = .ok (.ifCond .ne 35, 3) := by decide +kernel
theorem dL_law_844 : decode cL_law 844 = .ok (.aload 4, 2) := by decide +kernel
theorem dL_law_846 : decode cL_law 846 = .ok (.iconst 0, 1) := by decide +kernel
theorem dL_law_847 : decode cL_law 847 = .ok (.daload, 1) := by decide +kernel
theorem dL_law_848 : decode cL_law 848 = .ok (.dload 7, 2) := by decide +kernel
theorem dL_law_850 : decode cL_law 850 = .ok (.dcmp .l, 1) := by decide +kernel
theorem dL_law_851 : decode cL_law 851 = .ok (.ifCond .eq 25, 3) := by decide +kernel
theorem dL_law_854 : decode cL_law 854 = .ok (.aload 4, 2) := by decide +kernel
theorem dL_law_856 : decode cL_law 856 = .ok (.iconst 0, 1) := by decide +kernel
theorem dL_law_857 : decode cL_law 857 = .ok (.daload, 1) := by decide +kernel
theorem dL_law_858 : decode cL_law 858 = .ok (.aload 4, 2) := by decide +kernel
theorem dL_law_860 : decode cL_law 860 = .ok (.iconst 0, 1) := by decide +kernel
theorem dL_law_861 : decode cL_law 861 = .ok (.daload, 1) := by decide +kernel
theorem dL_law_862 : decode cL_law 862 = .ok (.dcmp .l, 1) := by decide +kernel
theorem dL_law_863 : decode cL_law 863 = .ok (.ifCond .eq 11, 3) := by decide +kernel
theorem dL_law_866 : decode cL_law 866 = .ok (.dload 7, 2) := by decide +kernel
theorem dL_law_868 : decode cL_law 868 = .ok (.dload 7, 2) := by decide +kernel
theorem dL_law_870 : decode cL_law 870 = .ok (.dcmp .l, 1) := by decide +kernel
theorem dL_law_871 : decode cL_law 871 = .ok (.ifCond .ne 5, 3) := by decide +kernel
theorem dL_law_874 : decode cL_law 874 = .ok (.iconst 0, 1) := by decide +kernel
theorem dL_law_875 : decode cL_law 875 = .ok (.ireturn, 1) := by decide +kernel
theorem dL_law_876 : decode cL_law 876 = .ok (.goto 356, 3) := by decide +kernel
theorem dL_law_879 : decode cL_law 879 = .ok (.aload_n 1, 1) := by decide +kernel
theorem dL_law_880 : decode cL_law 880 = .ok (.aload_n 0, 1) := by decide +kernel
theorem dL_law_881 : decode cL_law 881 = .ok (.iload 5, 2) := by decide +kernel
theorem dL_law_883 : decode cL_law 883 = .ok (.iconst 1, 1) := by decide +kernel
theorem dL_law_884 : decode cL_law 884 = .ok (.iadd, 1) := by decide +kernel
theorem dL_law_885 : decode cL_law 885 = .ok (.iaload, 1) := by decide +kernel
theorem dL_law_886 : decode cL_law 886 = .ok (.aload_n 0, 1) := by decide +kernel
theorem dL_law_887 : decode cL_law 887 = .ok (.iload 5, 2) := by decide +kernel
theorem dL_law_889 : decode cL_law 889 = .ok (.iconst 2, 1) := by decide +kernel
theorem dL_law_890 : decode cL_law 890 = .ok (.iadd, 1) := by decide +kernel
theorem dL_law_891 : decode cL_law 891 = .ok (.iaload, 1) := by decide +kernel
theorem dL_law_892 : decode cL_law 892 = .ok (.aload 4, 2) := by decide +kernel
theorem dL_law_894 : decode cL_law 894 = .ok (.invokestatic 109, 3) := by decide +kernel
theorem dL_law_897 : decode cL_law 897 = .ok (.istore 6, 2) := by decide +kernel
theorem dL_law_899 : decode cL_law 899 = .ok (.aload_n 2, 1) := by decide +kernel
theorem dL_law_900 : decode cL_law 900 = .ok (.aload_n 0, 1) := by decide +kernel
theorem dL_law_901 : decode cL_law 901 = .ok (.iload 5, 2) := by decide +kernel
theorem dL_law_903 : decode cL_law 903 = .ok (.iconst 1, 1) := by decide +kernel
theorem dL_law_904 : decode cL_law 904 = .ok (.iadd, 1) := by decide +kernel
theorem dL_law_905 : decode cL_law 905 = .ok (.iaload, 1) := by decide +kernel
theorem dL_law_906 : decode cL_law 906 = .ok (.aload_n 0, 1) := by decide +kernel
theorem dL_law_907 : decode cL_law 907 = .ok (.iload 5, 2) := by decide +kernel
theorem dL_law_909 : decode cL_law 909 = .ok (.iconst 2, 1) := by decide +kernel
theorem dL_law_910 : decode cL_law 910 = .ok (.iadd, 1) := by decide +kernel
theorem dL_law_911 : decode cL_law 911 = .ok (.iaload, 1) := by decide +kernel
theorem dL_law_912 : decode cL_law 912 = .ok (.invokevirtual 111, 3) := by decide +kernel
theorem dL_law_915 : decode cL_law 915 = .ok (.dstore 7, 2) := by decide +kernel
theorem dL_law_917 : decode cL_law 917 = .ok (.aload_n 2, 1) := by decide +kernel
theorem dL_law_918 : decode cL_law 918 = .ok (.invokevirtual 72, 3) := by decide +kernel
theorem dL_law_921 : decode cL_law 921 = .ok (.iload 6, 2) := by decide +kernel
theorem dL_law_923 : decode cL_law 923 = .ok (.if_icmp .eq 5, 3) := by decide +kernel
theorem dL_law_926 : decode cL_law 926 = .ok (.iconst 0, 1) := by decide +kernel
theorem dL_law_927 : decode cL_law 927 = .ok (.ireturn, 1) := by decide +kernel
theorem dL_law_928 : decode cL_law 928 = .ok (.iload 6, 2) := by decide +kernel
theorem dL_law_930 : decode cL_law 930 = .ok (.ifCond .ne 35, 3) := by decide +kernel
theorem dL_law_933 : decode cL_law 933 = .ok (.aload 4, 2) := by decide +kernel
theorem dL_law_935 : decode cL_law 935 = .ok (.iconst 0, 1) := by decide +kernel
theorem dL_law_936 : decode cL_law 936 = .ok (.daload, 1) := by decide +kernel
theorem dL_law_937 : decode cL_law 937 = .ok (.dload 7, 2) := by decide +kernel
theorem dL_law_939 : decode cL_law 939 = .ok (.dcmp .l, 1) := by decide +kernel
theorem dL_law_940 : decode cL_law 940 = .ok (.ifCond .eq 25, 3) := by decide +kernel
theorem dL_law_943 : decode cL_law 943 = .ok (.aload 4, 2) := by decide +kernel
theorem dL_law_945 : decode cL_law 945 = .ok (.iconst 0, 1) := by decide +kernel
theorem dL_law_946 : decode cL_law 946 = .ok (.daload, 1) := by decide +kernel
theorem dL_law_947 : decode cL_law 947 = .ok (.aload 4, 2) := by decide +kernel
theorem dL_law_949 : decode cL_law 949 = .ok (.iconst 0, 1) := by decide +kernel
theorem dL_law_950 : decode cL_law 950 = .ok (.daload, 1) := by decide +kernel
theorem dL_law_951 : decode cL_law 951 = .ok (.dcmp .l, 1) := by decide +kernel
theorem dL_law_952 : decode cL_law 952 = .ok (.ifCond .eq 11, 3) := by decide +kernel
theorem dL_law_955 : decode cL_law 955 = .ok (.dload 7, 2) := by decide +kernel
theorem dL_law_957 : decode cL_law 957 = .ok (.dload 7, 2) := by decide +kernel
theorem dL_law_959 : decode cL_law 959 = .ok (.dcmp .l, 1) := by decide +kernel
theorem dL_law_960 : decode cL_law 960 = .ok (.ifCond .ne 5, 3) := by decide +kernel
theorem dL_law_963 : decode cL_law 963 = .ok (.iconst 0, 1) := by decide +kernel
theorem dL_law_964 : decode cL_law 964 = .ok (.ireturn, 1) := by decide +kernel
theorem dL_law_965 : decode cL_law 965 = .ok (.goto 267, 3) := by decide +kernel
theorem dL_law_968 : decode cL_law 968 = .ok (.aload_n 1, 1) := by decide +kernel
theorem dL_law_969 : decode cL_law 969 = .ok (.aload_n 0, 1) := by decide +kernel
theorem dL_law_970 : decode cL_law 970 = .ok (.iload 5, 2) := by decide +kernel
theorem dL_law_972 : decode cL_law 972 = .ok (.iconst 1, 1) := by decide +kernel
theorem dL_law_973 : decode cL_law 973 = .ok (.iadd, 1) := by decide +kernel
theorem dL_law_974 : decode cL_law 974 = .ok (.iaload, 1) := by decide +kernel
theorem dL_law_975 : decode cL_law 975 = .ok (.aload 4, 2) := by decide +kernel
theorem dL_law_977 : decode cL_law 977 = .ok (.invokestatic 112, 3) := by decide +kernel
theorem dL_law_980 : decode cL_law 980 = .ok (.istore 6, 2) := by decide +kernel
theorem dL_law_982 : decode cL_law 982 = .ok (.aload_n 2, 1) := by decide +kernel
theorem dL_law_983 : decode cL_law 983 = .ok (.aload_n 0, 1) := by decide +kernel
theorem dL_law_984 : decode cL_law 984 = .ok (.iload 5, 2) := by decide +kernel
theorem dL_law_986 : decode cL_law 986 = .ok (.iconst 1, 1) := by decide +kernel
theorem dL_law_987 : decode cL_law 987 = .ok (.iadd, 1) := by decide +kernel
theorem dL_law_988 : decode cL_law 988 = .ok (.iaload, 1) := by decide +kernel
theorem dL_law_989 : decode cL_law 989 = .ok (.invokevirtual 114, 3) := by decide +kernel
theorem dL_law_992 : decode cL_law 992 = .ok (.dstore 7, 2) := by decide +kernel
theorem dL_law_994 : decode cL_law 994 = .ok (.aload_n 2, 1) := by decide +kernel
theorem dL_law_995 : decode cL_law 995 = .ok (.invokevirtual 72, 3) := by decide +kernel
theorem dL_law_998 : decode cL_law 998 = .ok (.iload 6, 2) := by decide +kernel
theorem dL_law_1000 : decode cL_law 1000 = .ok (.if_icmp .eq 5, 3) := by decide +kernel
theorem dL_law_1003 : decode cL_law 1003 = .ok (.iconst 0, 1) := by decide +kernel
theorem dL_law_1004 : decode cL_law 1004 = .ok (.ireturn, 1) := by decide +kernel
theorem dL_law_1005 : decode cL_law 1005 = .ok (.iload 6, 2) := by decide +kernel
theorem dL_law_1007 : decode cL_law 1007 = .ok (.ifCond .ne 35, 3) := by decide +kernel
theorem dL_law_1010 : decode cL_law 1010 = .ok (.aload 4, 2) := by decide +kernel
theorem dL_law_1012 : decode cL_law 1012 = .ok (.iconst 0, 1) := by decide +kernel
theorem dL_law_1013 : decode cL_law 1013 = .ok (.daload, 1) := by decide +kernel
theorem dL_law_1014 : decode cL_law 1014 = .ok (.dload 7, 2) := by decide +kernel
theorem dL_law_1016 : decode cL_law 1016 = .ok (.dcmp .l, 1) := by decide +kernel
theorem dL_law_1017 : decode cL_law 1017 = .ok (.ifCond .eq 25, 3) := by decide +kernel
theorem dL_law_1020 : decode cL_law 1020 = .ok (.aload 4, 2) := by decide +kernel
theorem dL_law_1022 : decode cL_law 1022 = .ok (.iconst 0, 1) := by decide +kernel
theorem dL_law_1023 : decode cL_law 1023 = .ok (.daload, 1) := by decide +kernel
theorem dL_law_1024 : decode cL_law 1024 = .ok (.aload 4, 2) := by decide +kernel
theorem dL_law_1026 : decode cL_law 1026 = .ok (.iconst 0, 1) := by decide +kernel
theorem dL_law_1027 : decode cL_law 1027 = .ok (.daload, 1) := by decide +kernel
theorem dL_law_1028 : decode cL_law 1028 = .ok (.dcmp .l, 1) := by decide +kernel
theorem dL_law_1029 : decode cL_law 1029 = .ok (.ifCond .eq 11, 3) := by decide +kernel
theorem dL_law_1032 : decode cL_law 1032 = .ok (.dload 7, 2) := by decide +kernel
theorem dL_law_1034 : decode cL_law 1034 = .ok (.dload 7, 2) := by decide +kernel
theorem dL_law_1036 : decode cL_law 1036 = .ok (.dcmp .l, 1) := by decide +kernel
theorem dL_law_1037 : decode cL_law 1037 = .ok (.ifCond .ne 5, 3) := by decide +kernel
theorem dL_law_1040 : decode cL_law 1040 = .ok (.iconst 0, 1) := by decide +kernel
theorem dL_law_1041 : decode cL_law 1041 = .ok (.ireturn, 1) := by decide +kernel
theorem dL_law_1042 : decode cL_law 1042 = .ok (.goto 190, 3) := by decide +kernel
theorem dL_law_1045 : decode cL_law 1045 = .ok (.aload_n 1, 1) := by decide +kernel
theorem dL_law_1046 : decode cL_law 1046 = .ok (.invokevirtual 115, 3) := by decide +kernel
theorem dL_law_1049 : decode cL_law 1049 = .ok (.dstore 6, 2) := by decide +kernel
theorem dL_law_1051 : decode cL_law 1051 = .ok (.aload_n 2, 1) := by decide +kernel
theorem dL_law_1052 : decode cL_law 1052 = .ok (.invokevirtual 119, 3) := by decide +kernel
theorem dL_law_1055 : decode cL_law 1055 = .ok (.dstore 8, 2) := by decide +kernel
theorem dL_law_1057 : decode cL_law 1057 = .ok (.dload 6, 2) := by decide +kernel
theorem dL_law_1059 : decode cL_law 1059 = .ok (.dload 8, 2) := by decide +kernel
theorem dL_law_1061 : decode cL_law 1061 = .ok (.dcmp .l, 1) := by decide +kernel
theorem dL_law_1062 : decode cL_law 1062 = .ok (.ifCond .eq 21, 3) := by decide +kernel
theorem dL_law_1065 : decode cL_law 1065 = .ok (.dload 6, 2) := by decide +kernel
theorem dL_law_1067 : decode cL_law 1067 = .ok (.dload 6, 2) := by decide +kernel
theorem dL_law_1069 : decode cL_law 1069 = .ok (.dcmp .l, 1) := by decide +kernel
theorem dL_law_1070 : decode cL_law 1070 = .ok (.ifCond .eq 11, 3) := by decide +kernel
theorem dL_law_1073 : decode cL_law 1073 = .ok (.dload 8, 2) := by decide +kernel
theorem dL_law_1075 : decode cL_law 1075 = .ok (.dload 8, 2) := by decide +kernel
theorem dL_law_1077 : decode cL_law 1077 = .ok (.dcmp .l, 1) := by decide +kernel
theorem dL_law_1078 : decode cL_law 1078 = .ok (.ifCond .ne 5, 3) := by decide +kernel
theorem dL_law_1081 : decode cL_law 1081 = .ok (.iconst 0, 1) := by decide +kernel
theorem dL_law_1082 : decode cL_law 1082 = .ok (.ireturn, 1) := by decide +kernel
theorem dL_law_1083 : decode cL_law 1083 = .ok (.goto 149, 3) := by decide +kernel
theorem dL_law_1086 : decode cL_law 1086 = .ok (.aload_n 1, 1) := by decide +kernel
theorem dL_law_1087 : decode cL_law 1087 = .ok (.invokevirtual 120, 3) := by decide +kernel
theorem dL_law_1090 : decode cL_law 1090 = .ok (.aload_n 2, 1) := by decide +kernel
theorem dL_law_1091 : decode cL_law 1091 = .ok (.invokevirtual 123, 3) := by decide +kernel
theorem dL_law_1094 : decode cL_law 1094 = .ok (.if_icmp .eq 138, 3) := by decide +kernel
theorem dL_law_1097 : decode cL_law 1097 = .ok (.iconst 0, 1) := by decide +kernel
theorem dL_law_1098 : decode cL_law 1098 = .ok (.ireturn, 1) := by decide +kernel
theorem dL_law_1099 : decode cL_law 1099 = .ok (.aload_n 1, 1) := by decide +kernel
theorem dL_law_1100 : decode cL_law 1100 = .ok (.aload_n 0, 1) := by decide +kernel
theorem dL_law_1101 : decode cL_law 1101 = .ok (.iload 5, 2) := by decide +kernel
theorem dL_law_1103 : decode cL_law 1103 = .ok (.iconst 1, 1) := by decide +kernel
theorem dL_law_1104 : decode cL_law 1104 = .ok (.iadd, 1) := by decide +kernel
theorem dL_law_1105 : decode cL_law 1105 = .ok (.iaload, 1) := by decide +kernel
theorem dL_law_1106 : decode cL_law 1106 = .ok (.aload_n 3, 1) := by decide +kernel
theorem dL_law_1107 : decode cL_law 1107 = .ok (.invokestatic 124, 3) := by decide +kernel
theorem dL_law_1110 : decode cL_law 1110 = .ok (.istore 6, 2) := by decide +kernel
theorem dL_law_1112 : decode cL_law 1112 = .ok (.aload_n 2, 1) := by decide +kernel
theorem dL_law_1113 : decode cL_law 1113 = .ok (.aload_n 0, 1) := by decide +kernel
theorem dL_law_1114 : decode cL_law 1114 = .ok (.iload 5, 2) := by decide +kernel
theorem dL_law_1116 : decode cL_law 1116 = .ok (.iconst 1, 1) := by decide +kernel
theorem dL_law_1117 : decode cL_law 1117 = .ok (.iadd, 1) := by decide +kernel
theorem dL_law_1118 : decode cL_law 1118 = .ok (.iaload, 1) := by decide +kernel
theorem dL_law_1119 : decode cL_law 1119 = .ok (.invokevirtual 126, 3) := by decide +kernel
theorem dL_law_1122 : decode cL_law 1122 = .ok (.istore 7, 2) := by decide +kernel
theorem dL_law_1124 : decode cL_law 1124 = .ok (.aload_n 2, 1) := by decide +kernel
theorem dL_law_1125 : decode cL_law 1125 = .ok (.invokevirtual 72, 3) := by decide +kernel
theorem dL_law_1128 : decode cL_law 1128 = .ok (.iload 6, 2) := by decide +kernel
theorem dL_law_1130 : decode cL_law 1130 = .ok (.if_icmp .eq 5, 3) := by decide +kernel
theorem dL_law_1133 : decode cL_law 1133 = .ok (.iconst 0, 1) := by decide +kernel
theorem dL_law_1134 : decode cL_law 1134 = .ok (.ireturn, 1) := by decide +kernel
theorem dL_law_1135 : decode cL_law 1135 = .ok (.iload 6, 2) := by decide +kernel
theorem dL_law_1137 : decode cL_law 1137 = .ok (.ifCond .ne 15, 3) := by decide +kernel
theorem dL_law_1140 : decode cL_law 1140 = .ok (.aload_n 3, 1) := by decide +kernel
theorem dL_law_1141 : decode cL_law 1141 = .ok (.iconst 0, 1) := by decide +kernel
theorem dL_law_1142 : decode cL_law 1142 = .ok (.laload, 1) := by decide +kernel
theorem dL_law_1143 : decode cL_law 1143 = .ok (.iload 7, 2) := by decide +kernel
theorem dL_law_1145 : decode cL_law 1145 = .ok (.i2l, 1) := by decide +kernel
theorem dL_law_1146 : decode cL_law 1146 = .ok (.lcmp, 1) := by decide +kernel
theorem dL_law_1147 : decode cL_law 1147 = .ok (.ifCond .eq 5, 3) := by decide +kernel
theorem dL_law_1150 : decode cL_law 1150 = .ok (.iconst 0, 1) := by decide +kernel
theorem dL_law_1151 : decode cL_law 1151 = .ok (.ireturn, 1) := by decide +kernel
theorem dL_law_1152 : decode cL_law 1152 = .ok (.goto 80, 3) := by decide +kernel
theorem dL_law_1155 : decode cL_law 1155 = .ok (.aload_n 1, 1) := by decide +kernel
theorem dL_law_1156 : decode cL_law 1156 = .ok (.aload_n 0, 1) := by decide +kernel
theorem dL_law_1157 : decode cL_law 1157 = .ok (.iload 5, 2) := by decide +kernel
theorem dL_law_1159 : decode cL_law 1159 = .ok (.iconst 1, 1) := by decide +kernel
theorem dL_law_1160 : decode cL_law 1160 = .ok (.iadd, 1) := by decide +kernel
theorem dL_law_1161 : decode cL_law 1161 = .ok (.iaload, 1) := by decide +kernel
theorem dL_law_1162 : decode cL_law 1162 = .ok (.aload 4, 2) := by decide +kernel
theorem dL_law_1164 : decode cL_law 1164 = .ok (.invokestatic 127, 3) := by decide +kernel
theorem dL_law_1167 : decode cL_law 1167 = .ok (.istore 6, 2) := by decide +kernel
theorem dL_law_1169 : decode cL_law 1169 = .ok (.aload_n 2, 1) := by decide +kernel
theorem dL_law_1170 : decode cL_law 1170 = .ok (.aload_n 0, 1) := by decide +kernel
theorem dL_law_1171 : decode cL_law 1171 = .ok (.iload 5, 2) := by decide +kernel
theorem dL_law_1173 : decode cL_law 1173 = .ok (.iconst 1, 1) := by decide +kernel
theorem dL_law_1174 : decode cL_law 1174 = .ok (.iadd, 1) := by decide +kernel
theorem dL_law_1175 : decode cL_law 1175 = .ok (.iaload, 1) := by decide +kernel
theorem dL_law_1176 : decode cL_law 1176 = .ok (.invokevirtual 129, 3) := by decide +kernel
theorem dL_law_1179 : decode cL_law 1179 = .ok (.dstore 7, 2) := by decide +kernel
theorem dL_law_1181 : decode cL_law 1181 = .ok (.aload_n 2, 1) := by decide +kernel
theorem dL_law_1182 : decode cL_law 1182 = .ok (.invokevirtual 72, 3) := by decide +kernel
theorem dL_law_1185 : decode cL_law 1185 = .ok (.iload 6, 2) := by decide +kernel
theorem dL_law_1187 : decode cL_law 1187 = .ok (.if_icmp .eq 5, 3) := by decide +kernel
theorem dL_law_1190 : decode cL_law 1190 = .ok (.iconst 0, 1) := by decide +kernel
theorem dL_law_1191 : decode cL_law 1191 = .ok (.ireturn, 1) := by decide +kernel
theorem dL_law_1192 : decode cL_law 1192 = .ok (.iload 6, 2) := by decide +kernel
theorem dL_law_1194 : decode cL_law 1194 = .ok (.ifCond .ne 35, 3) := by decide +kernel
theorem dL_law_1197 : decode cL_law 1197 = .ok (.aload 4, 2) := by decide +kernel
theorem dL_law_1199 : decode cL_law 1199 = .ok (.iconst 0, 1) := by decide +kernel
theorem dL_law_1200 : decode cL_law 1200 = .ok (.daload, 1) := by decide +kernel
theorem dL_law_1201 : decode cL_law 1201 = .ok (.dload 7, 2) := by decide +kernel
theorem dL_law_1203 : decode cL_law 1203 = .ok (.dcmp .l, 1) := by decide +kernel
theorem dL_law_1204 : decode cL_law 1204 = .ok (.ifCond .eq 25, 3) := by decide +kernel
theorem dL_law_1207 : decode cL_law 1207 = .ok (.aload 4, 2) := by decide +kernel
theorem dL_law_1209 : decode cL_law 1209 = .ok (.iconst 0, 1) := by decide +kernel
theorem dL_law_1210 : decode cL_law 1210 = .ok (.daload, 1) := by decide +kernel
theorem dL_law_1211 : decode cL_law 1211 = .ok (.aload 4, 2) := by decide +kernel
theorem dL_law_1213 : decode cL_law 1213 = .ok (.iconst 0, 1) := by decide +kernel
theorem dL_law_1214 : decode cL_law 1214 = .ok (.daload, 1) := by decide +kernel
theorem dL_law_1215 : decode cL_law 1215 = .ok (.dcmp .l, 1) := by decide +kernel
theorem dL_law_1216 : decode cL_law 1216 = .ok (.ifCond .eq 11, 3) := by decide +kernel
theorem dL_law_1219 : decode cL_law 1219 = .ok (.dload 7, 2) := by decide +kernel
theorem dL_law_1221 : decode cL_law 1221 = .ok (.dload 7, 2) := by decide +kernel
theorem dL_law_1223 : decode cL_law 1223 = .ok (.dcmp .l, 1) := by decide +kernel
theorem dL_law_1224 : decode cL_law 1224 = .ok (.ifCond .ne 5, 3) := by decide +kernel
theorem dL_law_1227 : decode cL_law 1227 = .ok (.iconst 0, 1) := by decide +kernel
theorem dL_law_1228 : decode cL_law 1228 = .ok (.ireturn, 1) := by decide +kernel
theorem dL_law_1229 : decode cL_law 1229 = .ok (.goto 3, 3) := by decide +kernel
theorem dL_law_1232 : decode cL_law 1232 = .ok (.iinc 5 4, 3) := by decide +kernel
theorem dL_law_1235 : decode cL_law 1235 = .ok (.goto (-1207), 3) := by decide +kernel
theorem dL_law_1238 : decode cL_law 1238 = .ok (.iconst 1, 1) := by decide +kernel
theorem dL_law_1239 : decode cL_law 1239 = .ok (.ireturn, 1) := by decide +kernel
abbrev vwCl : List vw_C := [(RX0, TX0, 9), (RX1, TX1, 12), (RX2, TX2, 20)]
/-! ===== END printed: names ===== -/
end
section
/-! A method with a table of its own that may draw: its contract by a walk, its call. (The road of vx_backW, vx_callSX, vx_runSX of the exceptions' rows, over a start with another record of draws.) -/
section XDA
variable {cs : List Choice} {l : Launch} {R : Room} {p : Program} {e : Env} {below : List Frame} {s : State} {sargs : Array Value} {y : MethodName} {len W9 : Nat}
theorem xd_backW {ws : List Cond} {rm : Room} {Pc : Array Value → State → Prop} {Qc : Array Value → State → Outcome → State → Prop} {mc ms : Nat} {free : Addr → Prop} {bytes : ByteArray} {maxL : Nat} {ret : Option FieldType} {hh : List (Nat × Nat × Nat × Nat)}
    (hM : MetD cs l y ws rm Pc Qc mc ms free) (hblind : FrameBlind Pc) (hrc : rm.cells = mc) (hrs : rm.slots = ms)
    (hframes : rm.frames + 1 ≤ R.frames) (hlocals : W9 + (maxL + 11) + rm.locals ≤ R.locals)
    (hws : ∀ w ∈ ws, ∀ a' U, s.WarmedH U.vm → w.before a' U = true) (hcode : Cond.codeWith y bytes maxL ret hh ∈ ws) (hinit : ∀ a' U, s.WarmedH U.vm → (Cond.initialized y.cls).before a' U = true) :
    BackD cs l R p e below s sargs y len W9 (PreOf R mc ms Pc) (PostOf Qc mc ms free) := by
  intro m meth c A g ig mk a X hg hsize hdg hW hn hp
  have h1 : (headSpec ws rm).pre.before a A.U = true := atoms_intro fun w hw => hws w hw _ _ X.warmed
  have h2 : (Cond.codeWith y bytes maxL ret hh).before a A.U = true := hws _ hcode _ _ X.warmed
  have h3 : (Cond.initialized y.cls).before a A.U = true := hinit _ _ X.warmed
  have h4 : A.cells + (headSpec ws rm).room.cells ≤ R.cells := by rw [show (headSpec ws rm).room.cells = mc from hrc]; exact hp.1
  have h5 : A.slots + (headSpec ws rm).room.slots ≤ R.slots := by rw [show (headSpec ws rm).room.slots = ms from hrs]; exact hp.2.1
  have hPc : Pc a (A.U.calling g mk a) := hblind _ _ _ _ hp.2.2
  obtain ⟨U, Ls, c0, s0⟩ := A
  dsimp only [Pt.U, Pt.locs, Pt.cells, Pt.slots] at h1 h2 h3 h4 h5 X hn hPc ⊢
  obtain ⟨m9, methY, cY, hn9, hmY, hcY, -, hlY, -⟩ := Cond.codeWith_spec h2
  cases Option.some.inj (hn9.symm.trans hn)
  obtain ⟨kY, hkY, -⟩ := className_of_methodNamed hn
  have hinitY : kY.init = .initialized := Cond.initialized_spec (findClass_of_methodNamed hn) hkY h3
  have h : At U g.method c below := by rw [hg]; exact X.here
  have hlocals9 : W9 + (maxL + 11) + (headSpec ws rm).room.locals ≤ R.locals := hlocals
  have happ : (headSpec ws rm).appliesLoose y e.platform (U.calling g mk a) = true :=
    Spec.appliesLoose_calling (g := g) h hdg hn hkY hinitY
      (X.room_calling (g := g) (R' := (headSpec ws rm).room) hsize hmY hcY hframes (by rw [hlY]; omega) h4 h5) h1
  obtain ⟨mid, hmid⟩ := h.above
  have hfr : (U.setTop g).frames = (.java g :: mid) ++ below := by rw [State.frames_setTop' g h.top, hmid]; rfl
  obtain ⟨o, s₂, hsteps, -, hend, hq⟩ := Steps.callFree hM p X.admits X.cas X.clock (acts := []) hfr happ hPc trivial
  have hq' : ∃ d : Drawn, (U.calling g mk a).drawn.sameBut d cs ∧ (Qc a ((U.calling g mk a).setDrawn d) o s₂ ∧ ∃ L, FrameEnd ((U.calling g mk a).setDrawn d) o s₂ L mc ms ∧ ∀ q ∈ L, free q.base) := hq
  rw [State.frames_setTop' g h.top] at hend
  obtain ⟨d, hd, hqd⟩ := hq'
  have hcdr : (U.calling g mk a).drawn = s.drawn := by
    rw [State.calling_eq h.top]
    exact X.drawn_eq
  rw [hcdr] at hd
  have h' : At (U.setDrawn d) g.method c below := h.setDrawn d
  have X' : Stand p l e R (s.setDrawn d) m sargs below meth c (U.setDrawn d) Ls c0 s0 := X.drew d
  have hcd : (U.calling g mk a).setDrawn d = (U.setDrawn d).calling g mk a := by
    rw [State.calling_eq h.top, State.calling_eq h'.top]
    rfl
  rw [hcd] at hqd
  obtain ⟨hqc, L, hfe, hL⟩ := hqd
  obtain ⟨g₀, hg0⟩ := Option.isSome_iff_exists.mp h.top
  obtain ⟨r, hr⟩ := State.topJava?_eq_some.mp hg0
  have hrV : (U.setDrawn d).frames = .java g₀ :: r := hr
  have hr' : (({ U.setDrawn d with heap := s₂.heap, slotsUsed := s₂.slotsUsed } : State).setVm s₂.vm).frames = .java g₀ :: r := hr
  obtain ⟨⟨v, rfl⟩, hW₂, e2, q2, q3, q4, q5, q6⟩ := id hfe
  have e3 : s₂ = ({ ((U.setDrawn d).calling g mk a).setFrames s₂.frames with heap := s₂.heap, slotsUsed := s₂.slotsUsed } : State).setVm s₂.vm := by
    have : s₂ = ({ s₂ with vm := ((U.setDrawn d).calling g mk a).vm } : State).setVm s₂.vm := rfl
    rw [e2] at this
    exact this
  obtain ⟨c₂, i₂, len₂, hc₂, hd₂, hf₂⟩ := hend
  have hW' : (U.setDrawn d).WarmedH s₂.vm := hW₂
  have hcc : c₂ = c := by
    have h1 : s₂.code? g.method = (U.setDrawn d).code? g.method := by
      rw [State.code?_eq, State.code?_eq, hW'.alike.method?]
    exact Option.some.inj (hc₂.symm.trans (h1.trans h'.code))
  subst hcc
  have hlen : len₂ = len := by rw [hdg] at hd₂; cases hd₂; rfl
  subst hlen
  have hs₂ : s₂ = (({ U.setDrawn d with heap := s₂.heap, slotsUsed := s₂.slotsUsed } : State).setVm s₂.vm).setTop { g with pc := g.pc + len₂, stack := v.toList ++ g.stack } := by
    refine e3.trans ?_
    rw [hf₂, State.calling_eq h'.top, State.setFrames_setFrames, State.setTop_of_frames _ hr', hr]
    rfl
  have hsame : (U.setDrawn d).sameButNew ({ U.setDrawn d with heap := s₂.heap, slotsUsed := s₂.slotsUsed } : State) L mc ms := by
    refine ⟨?_, q2, q3, q4, q5, q6⟩
    obtain ⟨t, ht, -⟩ := State.frames_cons hrV
    show ({ U.setDrawn d with heap := s₂.heap, slotsUsed := s₂.slotsUsed } : State) = { (U.setDrawn d).setFrames (U.setDrawn d).frames with heap := s₂.heap, slotsUsed := s₂.slotsUsed }
    rw [State.setFrames_self ht]
  subst hg
  refine ⟨v, ⟨(({ U.setDrawn d with heap := s₂.heap, slotsUsed := s₂.slotsUsed } : State).setVm s₂.vm), Ls ++ L, c0 + mc, s0 + ms⟩, d, hd,
    ⟨X'.admits, X'.cas, X'.clock, X'.frames, X'.room, X'.hears, X'.method, X'.code, (X'.here.setHeapUsed s₂.heap s₂.slotsUsed).setVm hW'.alike, X'.tail, State.WarmedH.trans X'.warmed hW', X'.limits, X'.bytes, X'.same.trans (hsame.setVm (s.setDrawn d).vm)⟩,
    ⟨g, mk, s₂, L, rfl, rfl, hqc, rfl, hL, rfl, rfl⟩, ?_⟩
  show Steps p.tables e below _ ((({ U.setDrawn d with heap := s₂.heap, slotsUsed := s₂.slotsUsed } : State).setVm s₂.vm).setTop { g with pc := g.pc + len₂, stack := v.toList ++ g.stack })
  rw [← hs₂]
  exact hsteps
end XDA
section XDB
variable {cs : List Choice}
variable {p : Program} {l : Launch} {e : Env} {R : Room} {s : State} {m : MethodId} {args : Array Value} {below : List Frame} {meth : Method} {c : Code} {T : State} {H : Heap} {locs : List Loc} {cells slots : Nat}
theorem xd_callSX (X : Stand p l e R s m args below meth c T locs cells slots) (hexec : p.tables.exec = Jvm.exec) {own : String} {index : Nat} {y : MethodName} {bytes : ByteArray} {maxL : Nat} {ret : Option FieldType} {hh : List (Nat × Nat × Nat × Nat)}
    (hown : s.vm.findClass own = some m.cls) (hlink : (Cond.methodLink own index y).before args s = true) (hstat : (Cond.static y).before args s = true) (hinit : (Cond.initialized y.cls).before args s = true)
    (hcode : (Cond.codeWith y bytes maxL ret hh).before args s = true) (hy : y.cls ≠ "java/lang/invoke/MethodHandle" ∧ y.cls ≠ "java/lang/invoke/VarHandle")
    {W9 : Nat} {Pre : Pt → Array Value → Prop} {Post : Pt → Array Value → Option Value → Pt → Prop} (hK : BackD cs l R p e below s args y 3 W9 Pre Post)
    {g : JFrame} (hg : g.method = m) (hsize : g.locals.size = c.maxLocals) {argsL rest : List Value} (hlen : ∀ sig, parseMethodDescriptor y.desc = some sig → argsL.length = sig.parameters.length)
    (hstack : g.stack = argsL.reverse ++ rest) (hW : 2 * g.monitorRoom + (rest.map fun v => v.category).sum ≤ W9) (hdg : decode c.code g.pc = .ok (.invokestatic index, 3))
    (hpre : ∀ vm₁, s.WarmedH vm₁ → Pre ⟨T.setVm vm₁, locs, cells, slots⟩ argsL.toArray) :
    ∃ (v : Option Value) (vm₁ : Vm) (B : Pt) (d' : Drawn), s.drawn.sameBut d' cs ∧ s.WarmedH vm₁ ∧ Stand p l e R (s.setDrawn d') m args below meth c B.U B.locs B.cells B.slots ∧ Post ⟨(T.setVm vm₁).setDrawn d', locs, cells, slots⟩ argsL.toArray v B ∧
      ∀ target, Steps p.tables e below (B.U.setTop { g with pc := g.pc + 3, stack := v.toList ++ rest }) target → Steps p.tables e below (T.setTop g) target := by
  obtain ⟨mk, methM, cM, hnamed, hmethM, -, -, -, -, -, -, hsigM⟩ := Cond.codeWith_spec hcode
  have hstatic : methM.isStatic = true := Cond.static_spec hnamed hmethM hstat
  obtain ⟨kP, hkP, -⟩ := className_of_methodNamed hnamed
  have hinitP : kP.init = .initialized := Cond.initialized_spec (findClass_of_methodNamed hnamed) hkP hinit
  obtain ⟨vm₁, X₁, hstep₁⟩ := X.invokestatic hexec hown hlink hnamed hmethM hstatic hkP hinitP hy (g := g) hg (argsL := argsL) (rest := rest) (hlen _ hsigM) hstack hdg
  obtain ⟨v, B, d', hd', X', hpost, hsteps⟩ := hK m meth c ⟨T.setVm vm₁, locs, cells, slots⟩ { g with stack := rest } (.invokestatic index) mk argsL.toArray X₁ hg hsize hdg hW (X₁.named hnamed) (hpre vm₁ X₁.warmed)
  exact ⟨v, vm₁, B, d', hd', X₁.warmed, X', hpost, fun target h => hstep₁ _ fun acts => by rw [doInvoke_state]; exact hsteps.trans h⟩
theorem xd_runSX {y : MethodName} {bytes cc : ByteArray} {maxL nL mc ms n index : Nat} {ret : Option FieldType} {hh : List (Nat × Nat × Nat × Nat)} {ws : List Cond} {rm : Room} {Pc : Array Value → State → Prop} {Qc : Array Value → State → Outcome → State → Prop} {free : Addr → Prop} {Ts : List Cond} {own : String} {As rest : List Value} {g : JFrame}
    (S : CallFix p m c cc nL s args Ts own) (hM : MetD cs l y ws rm Pc Qc mc ms free) (cw : vx_CSW R s args own index y bytes maxL ret hh ws rm mc ms n) (hp : PreS s H Pc As)
    (hg : g.method = m) (hn : As.length = n) (hsize : g.locals.size = nL) (hstack : g.stack = As.reverse ++ rest) (hW : 2 * g.monitorRoom + (rest.map fun v => v.category).sum ≤ 8) (hdg : decode cc g.pc = .ok (.invokestatic index, 3)) (hf : cells + mc ≤ R.cells ∧ slots + ms ≤ R.slots) :
    va_RunD cs p l e R s m args below meth c H locs cells slots mc ms g rest (Qc As.toArray) free := by
  obtain ⟨⟨hrc, hrs, hfr, hlo, hws, hcw⟩, hcode, hini, hy, hlen, hl, hstt⟩ := cw
  have hK : BackD cs l R p e below s args y 3 8 (PreOf R mc ms Pc) (PostOf Qc mc ms free) := xd_backW (hh := hh) (bytes := bytes) (maxL := maxL) (ret := ret) hM hp.1 hrc hrs hfr hlo hws hcw (fun a' U hW => word_at hW (Or.inl (by first | rfl | simp [Cond.onTables, Cond.keeps, Cond.steady])) hini)
  obtain ⟨hx, hb, hml, ho, -⟩ := S
  intro T hT X
  obtain ⟨v, vm₁, ⟨U', l2, c2, s2⟩, d', hd', hW₁, X', ⟨g', mk, t, L, e1, e2, hq, h1, hL, h2, h3⟩, st⟩ := xd_callSX X hx (hh := hh) (bytes := bytes) (maxL := maxL) (ret := ret) ho hl hstt hini hcode hy hK hg (hsize.trans hml.symm) (argsL := As) (rest := rest) (fun sig h => hn.trans (hlen sig h)) hstack hW (by rw [hb]; exact hdg)
    (fun vm₁ hW₁ => ⟨hf.1, hf.2, hp.2 (T.setVm vm₁) hT hW₁⟩)
  dsimp only [Pt.U, Pt.locs, Pt.cells, Pt.slots] at X' e1 e2 h1 h2 h3 st
  subst h1; subst h2; subst h3
  exact ⟨v, ((T.setVm vm₁).setDrawn d').calling g' mk As.toArray, t, U', L, d', hd', hT, X', hL, e1, e2, hq, st⟩
end XDB
/-- goal first: the body of a method with a table, that may draw -/
theorem xd_MetW {cs : List Choice} {l : Launch} {y : MethodName} {ws ws' : List Cond} {rm : Room} {Pc : Array Value → State → Prop} {Qc : Array Value → State → Outcome → State → Prop} {mc ms : Nat} {free : Addr → Prop} {cc : ByteArray} {maxL : Nat} {ret : Option FieldType} {hh : List (Nat × Nat × Nat × Nat)}
    (hy : plainName y.cls = true) (hw : ws = Cond.codeWith y cc maxL ret hh :: ws')
    (body : ∀ p e s m args below meth c s₁, BodyLoose p l y (headSpec ws rm) cc maxL ret e s m args below meth c s₁ → c.maxLocals = maxL → Pc args s → s.drawn.sameBut s.drawn cs →
      W p l e (headSpec ws rm).room (s.setDrawn s.drawn) m args below meth c s.heap [] 0 0 (MQD cs below Qc args s mc ms free) (entryFrame m args maxL)) : MetD cs l y ws rm Pc Qc mc ms free := by
  refine MetFree.of_bodyS (code := cc) (maxLocals := maxL) (ret := ret) hy ?_ ?_
  · intro args s m h hn
    obtain ⟨m9, meth, c, hn9, h1, h2, h3, h4, -, h5, h6, -⟩ := Cond.codeWith_spec (atoms_spec (ws := ws) h _ (by rw [hw]; exact List.mem_cons_self))
    cases hn.symm.trans hn9
    exact ⟨meth, c, h1, h2, h3, h4, h5, h6⟩
  · intro p e s m args below meth c s₁ B hml hP _
    have hh0 : s₁.heap = s.heap := by rw [B.state]; rfl
    have X0 : Stand p l e (headSpec ws rm).room (s.setDrawn s.drawn) m args below meth c s₁ [] 0 0 := Stand.of_body B
    obtain ⟨t, a1, d, hd, o, b1, b2, b3, b4⟩ := body p e s m args below meth c s₁ B hml hP (Drawn.sameBut.refl _ _) s₁ hh0 X0
    exact ⟨t, o, a1, b1, b2, d, hd, b3, b4⟩
end
section
/-! NUMBERS: a double by its datum (what is a NaN, of whatever bits, is one datum) -/
abbrev Dm : Type := FP.Core.Datum
def dt (x : UInt64) : Dm := FP.Core.decode FP.Core.b64 x.toNat
/-- what bits make of a datum -/
def en (d : Dm) : Dm := dt (UInt64.ofNat (FP.Core.encode FP.Core.b64 d))
def dAdd (x y : Dm) : Dm := en (FP.Core.round FP.Core.b64 (FP.Core.exactSum x y))
def dSub (x y : Dm) : Dm := en (FP.Core.round FP.Core.b64 (FP.Core.exactSum x (FP.Core.negate y)))
def dMul (x y : Dm) : Dm := en (FP.Core.round FP.Core.b64 (FP.Core.exactProduct x y))
def dDiv (x y : Dm) : Dm := en (FP.Core.quotient FP.Core.b64 x y)
def dCmp (x y : Dm) : Option Ordering := FP.Core.order x y
def dI (i : Int32) : Dm := dt (FP.i2d i)
def dZ : Dm := dt 0
theorem tails_b : FP.Core.Fmt.tails FP.Core.b64 = 4503599627370496 := by decide +kernel
theorem exps_b : FP.Core.Fmt.exps FP.Core.b64 = 2048 := by decide +kernel
theorem qmin_b : FP.Core.Fmt.qmin FP.Core.b64 = -1074 := by decide +kernel
theorem qmax_b : FP.Core.Fmt.qmax FP.Core.b64 = 971 := by decide +kernel
theorem decode_b (n : Nat) : FP.Core.decode FP.Core.b64 n = if n / 4503599627370496 % 2048 = 2047 then (if n % 4503599627370496 = 0 then .inf (n / 4503599627370496 / 2048 % 2 == 1) else .nan) else if n / 4503599627370496 % 2048 = 0 then .fin (n / 4503599627370496 / 2048 % 2 == 1) (n % 4503599627370496) (-1074) else .fin (n / 4503599627370496 / 2048 % 2 == 1) (4503599627370496 + n % 4503599627370496) (-1074 + (((n / 4503599627370496 % 2048 : Nat) : Int) - 1)) := by
  unfold FP.Core.decode FP.Core.fieldE FP.Core.fieldT FP.Core.fieldS
  rw [tails_b, exps_b, qmin_b]
theorem dt_nan {x : UInt64} (h : isNaN64 x = true) : dt x = .nan := by
  have h1 := isNaN64_iff.mp h
  have h2 : x.toNat &&& 0x7fffffffffffffff = x.toNat % 2 ^ 63 := Nat.and_two_pow_sub_one_eq_mod x.toNat 63
  rw [h2] at h1
  have h3 : x.toNat < 18446744073709551616 := x.toNat_lt
  unfold dt
  rw [decode_b, if_pos (by omega), if_neg (by omega)]
theorem dt_alike {r z : UInt64} (h : alike64 r z = true) : dt r = dt z := by
  simp only [alike64, Bool.or_eq_true, Bool.and_eq_true, decide_eq_true_eq] at h
  rcases h with rfl | ⟨h1, h2⟩
  · rfl
  · rw [dt_nan h1, dt_nan h2]
theorem dt_add {r x y : UInt64} (h : alike64 r (FP.dadd x y) = true) : dt r = dAdd (dt x) (dt y) := dt_alike h
theorem dt_sub {r x y : UInt64} (h : alike64 r (FP.dsub x y) = true) : dt r = dSub (dt x) (dt y) := dt_alike h
theorem dt_mul {r x y : UInt64} (h : alike64 r (FP.dmul x y) = true) : dt r = dMul (dt x) (dt y) := dt_alike h
theorem dt_div {r x y : UInt64} (h : alike64 r (FP.ddiv x y) = true) : dt r = dDiv (dt x) (dt y) := dt_alike h
theorem dt_cmp (x y : UInt64) : FP.dcmp x y = dCmp (dt x) (dt y) := rfl
theorem dCmp_self (x : Dm) : dCmp x x = some .eq ∨ x = .nan := by
  cases x with
  | nan => exact Or.inr rfl
  | inf s => left; cases s <;> decide
  | fin s c q =>
    left
    show some (compare _ _) = _
    rw [Int.compare_eq_eq.mpr rfl]
theorem dCmp_nanL (x : Dm) : dCmp .nan x = none := rfl
theorem dCmp_nanR (x : Dm) : dCmp x .nan = none := by cases x <;> rfl
/-- a datum that bits stand for -/
def dOk (d : Dm) : Prop := ∃ x : UInt64, dt x = d
theorem dt_ok (x : UInt64) : dOk (dt x) := ⟨x, rfl⟩
theorem dAdd_ok (x y : Dm) : dOk (dAdd x y) := ⟨_, rfl⟩
theorem dI_ok (i : Int32) : dOk (dI i) := ⟨_, rfl⟩
theorem dZ_fin : dZ = .fin false 0 (-1074) := by decide +kernel
theorem enc_dec {n : Nat} (hn : n < 18446744073709551616) (h : FP.Core.decode FP.Core.b64 n ≠ .nan) : FP.Core.encode FP.Core.b64 (FP.Core.decode FP.Core.b64 n) = n := by
  have hs : (n / 4503599627370496 / 2048 % 2 == 1).toNat = n / 4503599627370496 / 2048 % 2 := by
    rcases Nat.mod_two_eq_zero_or_one (n / 4503599627370496 / 2048) with e | e <;> rw [e] <;> rfl
  rw [decode_b] at h ⊢
  by_cases hE : n / 4503599627370496 % 2048 = 2047
  · rw [if_pos hE] at h ⊢
    by_cases hT : n % 4503599627370496 = 0
    · rw [if_pos hT]
      show FP.Core.assemble FP.Core.b64 _ (FP.Core.Fmt.exps FP.Core.b64 - 1) 0 = n
      unfold FP.Core.assemble
      rw [hs, exps_b, tails_b]
      omega
    · rw [if_neg hT] at h
      exact absurd rfl h
  · rw [if_neg hE] at h ⊢
    by_cases h0 : n / 4503599627370496 % 2048 = 0
    · rw [if_pos h0]
      show (if n % 4503599627370496 < FP.Core.Fmt.tails FP.Core.b64 then FP.Core.assemble FP.Core.b64 _ 0 (n % 4503599627370496) else _) = n
      rw [tails_b, if_pos (Nat.mod_lt _ (by decide))]
      unfold FP.Core.assemble
      rw [hs, exps_b, tails_b]
      omega
    · rw [if_neg h0]
      show (if 4503599627370496 + n % 4503599627370496 < FP.Core.Fmt.tails FP.Core.b64 then _ else FP.Core.assemble FP.Core.b64 _ ((-1074 + (((n / 4503599627370496 % 2048 : Nat) : Int) - 1) - FP.Core.Fmt.qmin FP.Core.b64).toNat + 1) (4503599627370496 + n % 4503599627370496 - FP.Core.Fmt.tails FP.Core.b64)) = n
      rw [tails_b, qmin_b, if_neg (by omega)]
      unfold FP.Core.assemble
      rw [hs, exps_b, tails_b]
      omega
theorem en_ok {d : Dm} (h : dOk d) (hn : d ≠ .nan) : en d = d := by
  obtain ⟨x, rfl⟩ := h
  unfold en
  have h1 : FP.Core.encode FP.Core.b64 (dt x) = x.toNat := enc_dec x.toNat_lt hn
  rw [h1, UInt64.ofNat_toNat]
theorem dOk_fin {s : Bool} {c : Nat} {q : Int} (h : dOk (.fin s c q)) : c < 9007199254740992 ∧ -1074 ≤ q ∧ q ≤ 971 ∧ (q = -1074 ∨ 4503599627370496 ≤ c) := by
  obtain ⟨x, hx⟩ := h
  unfold dt at hx
  rw [decode_b] at hx
  by_cases hE : x.toNat / 4503599627370496 % 2048 = 2047
  · rw [if_pos hE] at hx
    by_cases hT : x.toNat % 4503599627370496 = 0
    · rw [if_pos hT] at hx; cases hx
    · rw [if_neg hT] at hx; cases hx
  · rw [if_neg hE] at hx
    by_cases h0 : x.toNat / 4503599627370496 % 2048 = 0
    · rw [if_pos h0] at hx
      cases hx
      omega
    · rw [if_neg h0] at hx
      cases hx
      omega
theorem log2_lo {c j : Nat} (h1 : 4503599627370496 ≤ c) (h2 : c < 9007199254740992) : (c * 2 ^ j).log2 = 52 + j := by
  have hp : 0 < 2 ^ j := Nat.two_pow_pos j
  have hn : c * 2 ^ j ≠ 0 := Nat.ne_of_gt (Nat.mul_pos (by omega) hp)
  have a1 : 52 + j ≤ (c * 2 ^ j).log2 := by
    rw [Nat.le_log2 hn, Nat.pow_add]
    exact Nat.mul_le_mul_right _ h1
  have a2 : (c * 2 ^ j).log2 < 53 + j := by
    rw [Nat.log2_lt hn, Nat.pow_add]
    exact Nat.mul_lt_mul_of_pos_right h2 hp
  omega
theorem rnd_units {s : Bool} {c : Nat} {q : Int} (hc : c ≠ 0) (h1 : c < 9007199254740992) (h2 : -1074 ≤ q) (h3 : q ≤ 971) (h4 : q = -1074 ∨ 4503599627370496 ≤ c) : FP.Core.round FP.Core.b64 (.fin s (c * 2 ^ (q + 1074).toNat) (-1074)) = .fin s c q := by
  obtain ⟨j, hj⟩ : ∃ j : Nat, j = (q + 1074).toNat := ⟨_, rfl⟩
  rw [← hj]
  have hq : q = (j : Int) - 1074 := by omega
  have hp : 0 < 2 ^ j := Nat.two_pow_pos j
  have hn : c * 2 ^ j ≠ 0 := Nat.ne_of_gt (Nat.mul_pos (by omega) hp)
  show FP.Core.roundRatio FP.Core.b64 s (c * 2 ^ j) 1 (-1074) = _
  unfold FP.Core.roundRatio
  rw [if_neg hn]
  have hl : FP.Core.leading (c * 2 ^ j) 1 = ((c * 2 ^ j).log2 : Int) := by
    unfold FP.Core.leading
    have e1 : (1 : Nat).log2 = 0 := by decide
    rw [e1]
    simp only [Int.ofNat_zero, Int.natCast_zero, Int.sub_zero, Nat.one_mul]
    have e2 : ((((c * 2 ^ j).log2 : Nat) : Int)).toNat = (c * 2 ^ j).log2 := by omega
    have e3 : (-(((c * 2 ^ j).log2 : Nat) : Int)).toNat = 0 := by omega
    rw [e2, e3, Nat.pow_zero, Nat.mul_one, if_pos (Nat.log2_self_le hn)]
  have hqu : FP.Core.quantum FP.Core.b64 (c * 2 ^ j) 1 (-1074) = q := by
    unfold FP.Core.quantum
    rw [hl, qmin_b]
    have e4 : ((FP.Core.b64.p : Nat) : Int) = 53 := rfl
    rw [e4]
    rcases h4 with h4 | h4
    · have hj0 : j = 0 := by omega
      subst hj0
      rw [Nat.pow_zero, Nat.mul_one]
      by_cases hb : 4503599627370496 ≤ c
      · have := log2_lo (j := 0) hb h1
        rw [Nat.pow_zero, Nat.mul_one] at this
        rw [this]
        omega
      · have : c.log2 < 52 := (Nat.log2_lt hc).mpr (by omega)
        omega
    · rw [log2_lo h4 h1]
      omega
  rw [hqu]
  unfold FP.Core.roundAt FP.Core.unitsNum FP.Core.unitsDen
  have e5 : (-1074 - q).toNat = 0 := by omega
  have e6 : (q - -1074).toNat = j := by omega
  rw [e5, e6, Nat.pow_zero, Nat.mul_one, Nat.one_mul]
  have e7 : FP.Core.nearest (c * 2 ^ j) (2 ^ j) = c := by
    unfold FP.Core.nearest
    rw [Nat.mul_mod_left, Nat.mul_zero, if_pos hp, Nat.mul_div_cancel _ hp]
  rw [e7]
  unfold FP.Core.settle FP.Core.bound
  rw [if_pos (show c < 2 ^ FP.Core.b64.p from h1), qmax_b, if_pos h3]
def isZ (d : Dm) : Prop := ∃ s q, d = .fin s 0 q
/-- near: one number, or both zero -/
def nz (d e : Dm) : Prop := d = e ∨ (isZ d ∧ isZ e)
theorem nz.rf (d : Dm) : nz d d := Or.inl rfl
theorem dAdd_zz (s u : Bool) : isZ (dAdd (.fin s 0 (-1074)) (.fin u 0 (-1074))) := by
  cases s <;> cases u
  · exact ⟨false, -1074, by decide +kernel⟩
  · exact ⟨false, -1074, by decide +kernel⟩
  · exact ⟨false, -1074, by decide +kernel⟩
  · exact ⟨true, -1074, by decide +kernel⟩
theorem dOk_zero {s : Bool} {q : Int} (h : dOk (.fin s 0 q)) : q = -1074 := by
  have h1 := dOk_fin h
  omega
theorem exact_zero (z s : Bool) {c : Nat} {q : Int} (hc : c ≠ 0) (hq : -1074 ≤ q) : FP.Core.exactSum (.fin z 0 (-1074)) (.fin s c q) = .fin s (c * 2 ^ (q + 1074).toNat) (-1074) := by
  have hm : min (-1074) q = -1074 := by omega
  have hN : 0 < c * 2 ^ (q + 1074).toNat := Nat.mul_pos (by omega) (Nat.two_pow_pos _)
  have e1 : FP.Core.inUnits 0 (-1074) (-1074) = 0 := by decide
  have e2 : FP.Core.inUnits c q (-1074) = c * 2 ^ (q + 1074).toNat := by
    unfold FP.Core.inUnits
    rw [show q - -1074 = q + 1074 by omega]
  have e3 : FP.Core.sumUnits z 0 (-1074) s c q (-1074) = FP.Core.signed s (c * 2 ^ (q + 1074).toNat) := by
    unfold FP.Core.sumUnits
    rw [e1, e2]
    cases z <;> simp [FP.Core.signed]
  show FP.Core.Datum.fin (FP.Core.sumSign z s (FP.Core.sumUnits z 0 (-1074) s c q (min (-1074) q))) (FP.Core.sumUnits z 0 (-1074) s c q (min (-1074) q)).natAbs (min (-1074) q) = _
  rw [hm, e3]
  generalize c * 2 ^ (q + 1074).toNat = N at hN ⊢
  have e4 : (FP.Core.signed s N).natAbs = N := by cases s <;> simp [FP.Core.signed]
  have e5 : FP.Core.sumSign z s (FP.Core.signed s N) = s := by
    unfold FP.Core.sumSign
    cases s
    · have h0 : ¬ FP.Core.signed false N = 0 := by show ¬ ((N : Int) = 0); omega
      rw [if_neg h0]
      exact decide_eq_false (by show ¬ ((N : Int) < 0); omega)
    · have h0 : ¬ FP.Core.signed true N = 0 := by show ¬ (-(N : Int) = 0); omega
      rw [if_neg h0]
      exact decide_eq_true (by show (-(N : Int) < 0); omega)
  rw [e4, e5]
theorem dAdd_zero {d : Dm} (h : dOk d) (s : Bool) : nz (dAdd (.fin s 0 (-1074)) d) d := by
  cases d with
  | nan => left; cases s <;> decide +kernel
  | inf u => left; cases s <;> cases u <;> decide +kernel
  | fin u c q =>
    by_cases hc : c = 0
    · subst hc
      have hq := dOk_zero h
      subst hq
      exact Or.inr ⟨dAdd_zz s u, ⟨_, _, rfl⟩⟩
    · left
      obtain ⟨h1, h2, h3, h4⟩ := dOk_fin h
      unfold dAdd
      rw [exact_zero s u hc h2, rnd_units hc h1 h2 h3 h4]
      exact en_ok h (fun e => by cases e)
theorem dAdd_nz {d e b : Dm} (h : nz d e) (hd : dOk d) (he : dOk e) (hb : dOk b) : nz (dAdd d b) (dAdd e b) := by
  rcases h with rfl | ⟨⟨s, q, rfl⟩, ⟨u, r, rfl⟩⟩
  · exact nz.rf _
  · have hq := dOk_zero hd
    have hr := dOk_zero he
    subst hq
    subst hr
    have h1 := dAdd_zero hb s
    have h2 := dAdd_zero hb u
    rcases h1 with h1 | ⟨h1, h1'⟩ <;> rcases h2 with h2 | ⟨h2, h2'⟩
    · rw [h1, h2]; exact nz.rf _
    · exact Or.inr ⟨by rw [h1]; exact h2', h2⟩
    · exact Or.inr ⟨h1, by rw [h2]; exact h1'⟩
    · exact Or.inr ⟨h1, h2⟩
/-- what the law asks of two answers -/
theorem dCmp_nz {d e : Dm} (h : nz d e) : dCmp d e = some .eq ∨ (d = .nan ∧ e = .nan) := by
  rcases h with rfl | ⟨⟨s, q, rfl⟩, ⟨u, r, rfl⟩⟩
  · rcases dCmp_self d with h | h
    · exact Or.inl h
    · exact Or.inr ⟨h, h⟩
  · left
    show some (compare (FP.Core.signed s (FP.Core.inUnits 0 q (min q r))) (FP.Core.signed u (FP.Core.inUnits 0 r (min q r)))) = _
    have e0 : ∀ a b, FP.Core.inUnits 0 a b = 0 := fun a b => by unfold FP.Core.inUnits; simp
    rw [e0, e0]
    cases s <;> cases u <;> rfl
/-! comparisons, by what they push -/
theorem cv_g_ge (o : Option Ordering) : (0 ≤ Op.cmpValue o .g) ↔ ¬ o = some .lt := by
  rcases o with _ | o
  · decide
  · cases o <;> decide
theorem cv_l_le (o : Option Ordering) : (Op.cmpValue o .l ≤ 0) ↔ ¬ o = some .gt := by
  rcases o with _ | o
  · decide
  · cases o <;> decide
theorem cv_l_eq (o : Option Ordering) : (Op.cmpValue o .l = 0) ↔ o = some .eq := by
  rcases o with _ | o
  · decide
  · cases o <;> decide
theorem cv_g_gt (o : Option Ordering) : (0 < Op.cmpValue o .g) ↔ ¬ (o = some .lt ∨ o = some .eq) := by
  rcases o with _ | o
  · decide
  · cases o <;> decide
/-! the lesser one -/
def dMin (x y : Dm) : Dm := if dCmp x y = some .lt then x else y
/-! rows by places: filled from b on, k of them -/
def po {α : Type} (b k : Nat) (f g : Nat → α) : Nat → α := fun j => if b ≤ j ∧ j < b + k then g (j - b) else f j
theorem po_0 {α : Type} (b : Nat) (f g : Nat → α) : po b 0 f g = f := by
  funext j
  unfold po
  rw [if_neg (by omega)]
theorem po_s {α : Type} (b k : Nat) (f g : Nat → α) : va_up (po b k f g) (b + k) (g k) = po b (k + 1) f g := by
  funext j
  unfold va_up po
  by_cases h : j = b + k
  · subst h
    rw [if_pos rfl, if_pos (by omega), Nat.add_sub_cancel_left]
  · rw [if_neg h]
    by_cases h2 : b ≤ j ∧ j < b + k
    · rw [if_pos h2, if_pos (by omega)]
    · rw [if_neg h2, if_neg (by omega)]
theorem po_at {α : Type} (b k : Nat) (f g : Nat → α) : po b k f g (b + k) = f (b + k) := by
  unfold po
  rw [if_neg (by omega)]
theorem po_in {α : Type} {b k i : Nat} (f g : Nat → α) (h : i < k) : po b k f g (b + i) = g i := by
  unfold po
  rw [if_pos (by omega), Nat.add_sub_cancel_left]
theorem po_out {α : Type} {b k j : Nat} (f g : Nat → α) (h : j < b) : po b k f g j = f j := by
  unfold po
  rw [if_neg (by omega)]
theorem po_hi {α : Type} {b k j : Nat} (f g : Nat → α) (h : b + k ≤ j) : po b k f g j = f j := by
  unfold po
  rw [if_neg (by omega)]
theorem po_po {α : Type} (b k : Nat) (f g h : Nat → α) : po b k (po b k f g) h = po b k f h := by
  funext j
  unfold po
  by_cases c : b ≤ j ∧ j < b + k
  · rw [if_pos c, if_pos c]
  · rw [if_neg c, if_neg c, if_neg c]
theorem po_c {α : Type} {b k : Nat} {f g h : Nat → α} (e : ∀ i, i < k → g i = h i) : po b k f g = po b k f h := by
  funext j
  unfold po
  by_cases c : b ≤ j ∧ j < b + k
  · rw [if_pos c, if_pos c, e _ (by omega)]
  · rw [if_neg c, if_neg c]
theorem upd_up (f : Nat → Int32) (k : Nat) (x : Int32) : upd f k x = va_up f k x := rfl
/-- a row of doubles by its data -/
def dts (f : Nat → UInt64) : Nat → Dm := fun j => dt (f j)
theorem dts_up (f : Nat → UInt64) (k : Nat) (x : UInt64) : dts (vf_upd f k x) = va_up (dts f) k (dt x) := by
  funext j
  unfold dts vf_upd va_up
  by_cases h : j = k
  · rw [if_pos h, if_pos h]
  · rw [if_neg h, if_neg h]
/-- the first n of a row are .. -/
def is5 (f : Nat → UInt64) (F : Nat → Dm) : Prop := ∀ j, j < 5 → dt (f j) = F j
theorem is5.up {f : Nat → UInt64} {F : Nat → Dm} (h : is5 f F) (k : Nat) {x : UInt64} {d : Dm} (e : dt x = d) : is5 (vf_upd f k x) (va_up F k d) := by
  intro j hj
  unfold vf_upd va_up
  by_cases c : j = k
  · rw [if_pos c, if_pos c]; exact e
  · rw [if_neg c, if_neg c]; exact h j hj
theorem is5.to {f : Nat → UInt64} {F G : Nat → Dm} (h : is5 f F) (e : ∀ j, j < 5 → F j = G j) : is5 f G := fun j hj => (h j hj).trans (e j hj)
end
section
/-! ROWS OF OUR OWN over the kit's: indices by numbers, loops, worlds -/
section XK
variable {p : Program} {l : Launch} {e : Env} {R : Room} {s : State} {m : MethodId} {args : Array Value} {below : List Frame} {meth : Method} {c : Code} {H : Heap} {locs : List Loc} {cells slots : Nat} {Q : State → Prop}
variable {cc : ByteArray} {pc : Nat} {ls : Array Slot} {rest : List Value} {D : va_G} {cl : List vw_C} {A : Nat → Prop} {a : Nat} {tys : List (ClassId × FieldType)} {ws : va_W} {H0 : Heap}
theorem xk_i {x y : Int32} (h : x = y) (k : W p l e R s m args below meth c H locs cells slots Q (F0 m pc ls (.int y :: rest))) : W p l e R s m args below meth c H locs cells slots Q (F0 m pc ls (.int x :: rest)) := h ▸ k
theorem xk_iald (hexec : p.tables.exec = Jvm.exec) (hb : c.code = cc) (hK : va_K D cl tys s) (hP : va_P D cl ws H) (q0 t0 : Nat) {cA : ClassId} {n : Nat} {f : Nat → Int32} (ha : ws[q0]? = some (a, .inl (cA, n, .inl f))) (ht : tys[t0]? = some (cA, .int)) {o : Nat} (ho : o < n) (hn : n < 2 ^ 31) (hdg : decode cc pc = .ok (.iaload, 1))
    (kk : W p l e R s m args below meth c H locs cells slots Q (F0 m (pc + 1) ls (.int (f o) :: rest))) : W p l e R s m args below meth c H locs cells slots Q (F0 m pc ls (.int (nI o) :: .ref a :: rest)) :=
  va_iald hexec hb hK hP q0 t0 ha ht (vp_in_nI ho hn) hdg (by rw [nI_clamp (Nat.lt_trans ho hn)]; exact kk)
theorem xk_zald (hexec : p.tables.exec = Jvm.exec) (hb : c.code = cc) (hK : va_K D cl tys s) (hP : va_P D cl ws H) (q0 t0 : Nat) {cA : ClassId} {n : Nat} {f : Nat → Int32} (ha : ws[q0]? = some (a, .inl (cA, n, .inl f))) (ht : tys[t0]? = some (cA, .boolean)) {o : Nat} (ho : o < n) (hn : n < 2 ^ 31) (hdg : decode cc pc = .ok (.baload, 1))
    (kk : W p l e R s m args below meth c H locs cells slots Q (F0 m (pc + 1) ls (.int (f o) :: rest))) : W p l e R s m args below meth c H locs cells slots Q (F0 m pc ls (.int (nI o) :: .ref a :: rest)) :=
  va_zald hexec hb hK hP q0 t0 ha ht (vp_in_nI ho hn) hdg (by rw [nI_clamp (Nat.lt_trans ho hn)]; exact kk)
theorem xk_dald (hexec : p.tables.exec = Jvm.exec) (hb : c.code = cc) (hK : va_K D cl tys s) (hP : va_P D cl ws H) (q0 t0 : Nat) {cA : ClassId} {n : Nat} {f : Nat → UInt64} (ha : ws[q0]? = some (a, .inl (cA, n, .inr (.inr (.inr (.inl f)))))) (ht : tys[t0]? = some (cA, .double)) {o : Nat} (ho : o < n) (hn : n < 2 ^ 31) (hdg : decode cc pc = .ok (.daload, 1))
    (kk : W p l e R s m args below meth c H locs cells slots Q (F0 m (pc + 1) ls (.double (f o) :: rest))) : W p l e R s m args below meth c H locs cells slots Q (F0 m pc ls (.int (nI o) :: .ref a :: rest)) :=
  va_dald hexec hb hK hP q0 t0 ha ht (vp_in_nI ho hn) hdg (by rw [nI_clamp (Nat.lt_trans ho hn)]; exact kk)
theorem xk_iast (hexec : p.tables.exec = Jvm.exec) (hb : c.code = cc) (hK : va_K D cl tys s) (hP : va_P D cl ws H) (hD : va_D A ws) (hS : va_S A H0 H locs) (q0 t0 : Nat) {cA : ClassId} {n : Nat} {f : Nat → Int32} (ha : ws[q0]? = some (a, .inl (cA, n, .inl f))) (ht : tys[t0]? = some (cA, .int)) {o : Nat} {x : Int32} (ho : o < n) (hn : n < 2 ^ 31) (hdg : decode cc pc = .ok (.iastore, 1))
    (kk : ∀ (H1 : Heap) (locs1 : List Loc), va_P D cl (ws.set q0 (a, .inl (cA, n, .inl (upd f o x)))) H1 → va_D A (ws.set q0 (a, .inl (cA, n, .inl (upd f o x)))) → va_S A H0 H1 locs1 → W p l e R s m args below meth c H1 locs1 cells slots Q (F0 m (pc + 1) ls rest)) : W p l e R s m args below meth c H locs cells slots Q (F0 m pc ls (.int x :: .int (nI o) :: .ref a :: rest)) :=
  va_iast hexec hb hK hP hD hS q0 t0 ha ht (vp_in_nI ho hn) hdg (by rw [nI_clamp (Nat.lt_trans ho hn)]; exact kk)
theorem xk_zast (hexec : p.tables.exec = Jvm.exec) (hb : c.code = cc) (hK : va_K D cl tys s) (hP : va_P D cl ws H) (hD : va_D A ws) (hS : va_S A H0 H locs) (q0 t0 : Nat) {cA : ClassId} {n : Nat} {f : Nat → Int32} (ha : ws[q0]? = some (a, .inl (cA, n, .inl f))) (ht : tys[t0]? = some (cA, .boolean)) {o : Nat} {x x' : Int32} (ho : o < n) (hn : n < 2 ^ 31) (hx : vp_nar .boolean x = x') (hdg : decode cc pc = .ok (.bastore, 1))
    (kk : ∀ (H1 : Heap) (locs1 : List Loc), va_P D cl (ws.set q0 (a, .inl (cA, n, .inl (upd f o x')))) H1 → va_D A (ws.set q0 (a, .inl (cA, n, .inl (upd f o x')))) → va_S A H0 H1 locs1 → W p l e R s m args below meth c H1 locs1 cells slots Q (F0 m (pc + 1) ls rest)) : W p l e R s m args below meth c H locs cells slots Q (F0 m pc ls (.int x :: .int (nI o) :: .ref a :: rest)) :=
  va_zast hexec hb hK hP hD hS q0 t0 ha ht (vp_in_nI ho hn) hdg (by rw [nI_clamp (Nat.lt_trans ho hn), hx]; exact kk)
theorem xk_dast (hexec : p.tables.exec = Jvm.exec) (hb : c.code = cc) (hK : va_K D cl tys s) (hP : va_P D cl ws H) (hD : va_D A ws) (hS : va_S A H0 H locs) (q0 t0 : Nat) {cA : ClassId} {n : Nat} {f : Nat → UInt64} (ha : ws[q0]? = some (a, .inl (cA, n, .inr (.inr (.inr (.inl f)))))) (ht : tys[t0]? = some (cA, .double)) {o : Nat} {x : UInt64} (ho : o < n) (hn : n < 2 ^ 31) (hdg : decode cc pc = .ok (.dastore, 1))
    (kk : ∀ (H1 : Heap) (locs1 : List Loc), va_P D cl (ws.set q0 (a, .inl (cA, n, .inr (.inr (.inr (.inl (vf_upd f o x))))))) H1 → va_D A (ws.set q0 (a, .inl (cA, n, .inr (.inr (.inr (.inl (vf_upd f o x))))))) → va_S A H0 H1 locs1 → W p l e R s m args below meth c H1 locs1 cells slots Q (F0 m (pc + 1) ls rest)) : W p l e R s m args below meth c H locs cells slots Q (F0 m pc ls (.double x :: .int (nI o) :: .ref a :: rest)) :=
  va_dast hexec hb hK hP hD hS q0 t0 ha ht (vp_in_nI ho hn) hdg (by rw [nI_clamp (Nat.lt_trans ho hn)]; exact kk)
/-- a loop of at most n turns, over a start with some record of draws -/
theorem xk_loop (Inv : Nat → Heap → List Loc → Array Slot → Drawn → Prop) (n : Nat)
    (step : ∀ (i : Nat) (H : Heap) (locs : List Loc) (ls : Array Slot) (d : Drawn), i ≤ n → Inv i H locs ls d → (∀ (H' : Heap) (locs' : List Loc) (ls' : Array Slot) (d' : Drawn), i < n → Inv (i + 1) H' locs' ls' d' → W p l e R (s.setDrawn d') m args below meth c H' locs' cells slots Q (F0 m pc ls' rest)) → W p l e R (s.setDrawn d) m args below meth c H locs cells slots Q (F0 m pc ls rest))
    {i : Nat} {d : Drawn} (hi : i ≤ n) (h : Inv i H locs ls d) : W p l e R (s.setDrawn d) m args below meth c H locs cells slots Q (F0 m pc ls rest) := by
  obtain ⟨k, hk⟩ : ∃ k, k = n - i := ⟨_, rfl⟩
  induction k generalizing i H locs ls d with
  | zero => exact step i H locs ls d hi h (fun _ _ _ _ h9 _ => absurd h9 (by omega))
  | succ k ih => exact step i H locs ls d hi h (fun H' locs' ls' d' h9 h8 => ih (i := i + 1) (H := H') (locs := locs') (ls := ls') (d := d') (by omega) h8 (by omega))
/-- .. over the start itself -/
theorem xk_loopP (Inv : Nat → Heap → List Loc → Array Slot → Prop) (n : Nat)
    (step : ∀ (i : Nat) (H : Heap) (locs : List Loc) (ls : Array Slot), i ≤ n → Inv i H locs ls → (∀ (H' : Heap) (locs' : List Loc) (ls' : Array Slot), i < n → Inv (i + 1) H' locs' ls' → W p l e R s m args below meth c H' locs' cells slots Q (F0 m pc ls' rest)) → W p l e R s m args below meth c H locs cells slots Q (F0 m pc ls rest))
    {i : Nat} (hi : i ≤ n) (h : Inv i H locs ls) : W p l e R s m args below meth c H locs cells slots Q (F0 m pc ls rest) := by
  obtain ⟨k, hk⟩ : ∃ k, k = n - i := ⟨_, rfl⟩
  induction k generalizing i H locs ls with
  | zero => exact step i H locs ls hi h (fun _ _ _ h9 _ => absurd h9 (by omega))
  | succ k ih => exact step i H locs ls hi h (fun H' locs' ls' h9 h8 => ih (i := i + 1) (H := H') (locs := locs') (ls := ls') (by omega) h8 (by omega))
end XK
/-- a counter against a bound -/
theorem xk_ge {i n : Nat} (hi : i ≤ n) (hn : n < 2 ^ 31) (h : nI n ≤ nI i) : i = n := by
  have := (nI_leI hn (Nat.lt_of_le_of_lt hi hn)).mp h
  omega
theorem xk_nge {i n : Nat} (hi : i ≤ n) (hn : n < 2 ^ 31) (h : ¬ nI n ≤ nI i) : i < n := by
  rcases Nat.lt_or_ge i n with q | q
  · exact q
  · exact absurd ((nI_leI hn (Nat.lt_of_le_of_lt hi hn)).mpr q) h
abbrev T3 (cI cZ cD : ClassId) : List (ClassId × FieldType) := [(cI, .int), (cZ, .boolean), (cD, .double)]
/-- a world w at a state, its addresses apart and in A -/
abbrev XB (D : va_G) (cI cZ cD : ClassId) (w : va_W) (A : Nat → Prop) (t : State) : Prop := va_P D vwCl w t.heap ∧ va_K D vwCl (T3 cI cZ cD) t ∧ va_D A w
/-- .. a method's start -/
abbrev XP (D : va_G) (cI cZ cD : ClassId) (w : va_W) (sz : Nat) (U : State) : Prop := U.heap.size = sz ∧ XB D cI cZ cD w (fun _ => True) U
theorem xk_Kd {D : va_G} {cl : List vw_C} {tys : List (ClassId × FieldType)} {s : State} {d : Drawn} (h : va_K D cl tys s) : va_K D cl tys (s.setDrawn d) := va_K.moved (u := s) (U := s.setDrawn d) (Vm.Alike.refl s.vm) h
theorem xk_od {s : State} {d : Drawn} {own : String} {c : ClassId} (h : s.vm.findClass own = some c) : (s.setDrawn d).vm.findClass own = some c := h
theorem xk_blind {av : List Value} {D : va_G} {cI cZ cD : ClassId} {w : va_W} {sz : Nat} : FrameBlind (va_Pc av (XP D cI cZ cD w sz)) := fun a U g mk q => by
  obtain ⟨q0, q1, qP, qK, qD⟩ := q
  exact ⟨q0, q1, qP, va_K.moved (u := U) (U := U.calling g mk a) (Vm.Alike.refl U.vm) qK, qD⟩
theorem xk_pre {av : List Value} {D : va_G} {cI cZ cD : ClassId} {w : va_W} {A : Nat → Prop} {H : Heap} {s : State} (hP : va_P D vwCl w H) (hK : va_K D vwCl (T3 cI cZ cD) s) (hD : va_D A w) : ∀ U : State, U.heap = H → s.WarmedH U.vm → va_Pc av (XP D cI cZ cD w H.size) av.toArray U :=
  fun U hU hW => ⟨rfl, by rw [hU], by rw [hU]; exact hP, va_K.moved hW.alike hK, hD.weaken (fun _ _ _ _ => trivial)⟩
abbrev XW (a : Nat → Nat) (cI cZ cD : ClassId) (sh sw ts : Nat → Int32) (bi : Nat → UInt64) (it tu : Nat → Int32) (ne : Nat → UInt64) (pr so lo : UInt64) (wt cn : Int32) (lp lz lu : Nat → UInt64) (lk : Nat → Int32) (ld lf lb lw : Nat → UInt64) : va_W := [(a 0, .inr (1, [.ref (a 1), .ref (a 2), .ref (a 3), .ref (a 4), .ref (a 5), .ref (a 6), .ref (a 8), .double pr, .double so, .int wt, .ref (a 7), .double lo])), (a 1, .inl (cI, 5, .inl sh)), (a 2, .inl (cZ, 5, .inl sw)), (a 3, .inl (cI, 5, .inl ts)), (a 4, .inl (cD, 5, .inr (.inr (.inr (.inl bi))))), (a 5, .inl (cZ, 5, .inl it)), (a 6, .inl (cI, 5, .inl tu)), (a 7, .inl (cD, 5, .inr (.inr (.inr (.inl ne))))), (a 8, .inr (0, [.int cn, .ref (a 9), .ref (a 10), .ref (a 11), .ref (a 12), .ref (a 13), .ref (a 14), .ref (a 15), .ref (a 16)])), (a 9, .inl (cD, 60, .inr (.inr (.inr (.inl lp))))), (a 10, .inl (cD, 60, .inr (.inr (.inr (.inl lz))))), (a 11, .inl (cD, 300, .inr (.inr (.inr (.inl lu))))), (a 12, .inl (cZ, 300, .inl lk)), (a 13, .inl (cD, 300, .inr (.inr (.inr (.inl ld))))), (a 14, .inl (cD, 300, .inr (.inr (.inr (.inl lf))))), (a 15, .inl (cD, 300, .inr (.inr (.inr (.inl lb))))), (a 16, .inl (cD, 300, .inr (.inr (.inr (.inl lw)))))]
abbrev MW (b : Nat → Nat) (cI cZ cD : ClassId) (mth : Int32) (msh mst msd : Nat → Int32) (mbi : Nat → UInt64) (mpr mba : UInt64) (mtn mcl : Int32) (mat mto mak : Nat → Int32) (mus mud mfs mfb mbo mso mpc mne : Nat → UInt64) : va_W := [(b 0, .inr (2, [.int mth, .ref (b 1), .ref (b 2), .ref (b 3), .ref (b 4), .double mpr, .double mba, .int mtn, .int mcl, .ref (b 5), .ref (b 6), .ref (b 7), .ref (b 8), .ref (b 9), .ref (b 10), .ref (b 11), .ref (b 12), .ref (b 13), .ref (b 14), .ref (b 15)])), (b 1, .inl (cI, 5, .inl msh)), (b 2, .inl (cZ, 5, .inl mst)), (b 3, .inl (cI, 5, .inl msd)), (b 4, .inl (cD, 5, .inr (.inr (.inr (.inl mbi))))), (b 5, .inl (cZ, 5, .inl mat)), (b 6, .inl (cI, 5, .inl mto)), (b 7, .inl (cZ, 300, .inl mak)), (b 8, .inl (cD, 300, .inr (.inr (.inr (.inl mus))))), (b 9, .inl (cD, 300, .inr (.inr (.inr (.inl mud))))), (b 10, .inl (cD, 300, .inr (.inr (.inr (.inl mfs))))), (b 11, .inl (cD, 300, .inr (.inr (.inr (.inl mfb))))), (b 12, .inl (cD, 300, .inr (.inr (.inr (.inl mbo))))), (b 13, .inl (cD, 60, .inr (.inr (.inr (.inl mso))))), (b 14, .inl (cD, 60, .inr (.inr (.inr (.inl mpc))))), (b 15, .inl (cD, 5, .inr (.inr (.inr (.inl mne)))))]
end
section
/-! WHAT THE METHODS WORK OUT, over data -/
abbrev d2 : Dm := dt 4611686018427387904
abbrev d4 : Dm := dt 4616189618054758400
abbrev d10 : Dm := dt 4621819117588971520
abbrev d40 : Dm := dt 4630826316843712512
abbrev d100 : Dm := dt 4636737291354636288
def sumD (V : Nat → Dm) : Nat → Dm
  | 0 => dZ
  | k + 1 => dAdd (sumD V k) (V k)
theorem sumD_c {V U : Nat → Dm} : ∀ {k : Nat}, (∀ j, j < k → V j = U j) → sumD V k = sumD U k
  | 0, _ => rfl
  | k + 1, h => by
    show dAdd (sumD V k) (V k) = dAdd (sumD U k) (U k)
    rw [sumD_c (k := k) (fun j hj => h j (by omega)), h k (by omega)]
def sumI (f : Nat → Int32) : Nat → Int32
  | 0 => 0
  | k + 1 => sumI f k + f k
/-- i quarters back from n on: how many are known (at most two), and their sum -/
def gst (K : Nat → Int32) (U : Nat → Dm) (o n : Nat) : Nat → Nat × Dm
  | 0 => (0, dZ)
  | i + 1 => if (gst K U o n i).1 < 2 ∧ ¬ K (5 * (n - 1 - i) + o) = 0 then ((gst K U o n i).1 + 1, dAdd (gst K U o n i).2 (U (5 * (n - 1 - i) + o))) else gst K U o n i
def guess (K : Nat → Int32) (U : Nat → Dm) (o n : Nat) : Dm := if (gst K U o n n).1 = 2 then dDiv (gst K U o n n).2 d2 else (gst K U o n n).2
theorem gst_le (K : Nat → Int32) (U : Nat → Dm) (o n : Nat) : ∀ i, (gst K U o n i).1 ≤ 2
  | 0 => Nat.zero_le _
  | i + 1 => by
    have h := gst_le K U o n i
    unfold gst
    by_cases c : (gst K U o n i).1 < 2 ∧ ¬ K (5 * (n - 1 - i) + o) = 0
    · rw [if_pos c]
      show (gst K U o n i).1 + 1 ≤ 2
      omega
    · rw [if_neg c]; exact h
theorem gst_stop {K : Nat → Int32} {U : Nat → Dm} {o n i : Nat} (h : ¬ (gst K U o n i).1 < 2) : ∀ k, gst K U o n (i + k) = gst K U o n i
  | 0 => rfl
  | k + 1 => by
    have e := gst_stop h k
    show (if (gst K U o n (i + k)).1 < 2 ∧ ¬ K (5 * (n - 1 - (i + k)) + o) = 0 then _ else gst K U o n (i + k)) = _
    rw [e, if_neg (fun q => h q.1)]
theorem gst_c {K K' : Nat → Int32} {U U' : Nat → Dm} {o n : Nat} (ho : o < 5) (hK : ∀ j, j < 5 * n → K j = K' j) (hU : ∀ j, j < 5 * n → U j = U' j) : ∀ i, i ≤ n → gst K U o n i = gst K' U' o n i
  | 0, _ => rfl
  | i + 1, hi => by
    have e := gst_c ho hK hU i (by omega)
    have hb : 5 * (n - 1 - i) + o < 5 * n := by omega
    show (if _ then _ else _) = (if _ then _ else _)
    rw [e, hK _ hb, hU _ hb]
theorem guess_c {K K' : Nat → Int32} {U U' : Nat → Dm} {o n : Nat} (ho : o < 5) (hK : ∀ j, j < 5 * n → K j = K' j) (hU : ∀ j, j < 5 * n → U j = U' j) : guess K U o n = guess K' U' o n := by
  unfold guess
  rw [gst_c ho hK hU n (Nat.le_refl n)]
/-- what an owner uses at first -/
def use0 (it tu : Nat → Int32) (K : Nat → Int32) (U : Nat → Dm) (n : Nat) : Nat → Dm := fun o => if it o = 0 then guess K U o n else dI (tu o)
def oi : Option Nat → Int32
  | none => -1
  | some k => nI k
abbrev may (S : Nat → Int32) (V : Nat → Dm) (k : Nat) : Prop := ¬ S k = 0 ∧ dCmp (V k) dZ = some .gt
/-- who is shed next, among the first k -/
def nx (S T : Nat → Int32) (V : Nat → Dm) : Nat → Option Nat
  | 0 => none
  | k + 1 => match nx S T V k with
    | none => if may S V k then some k else none
    | some j => if may S V k ∧ T k < T j then some k else some j
theorem nx_lt {S T : Nat → Int32} {V : Nat → Dm} : ∀ {k o : Nat}, nx S T V k = some o → o < k ∧ may S V o
  | 0, o, h => by cases h
  | k + 1, o, h => by
    unfold nx at h
    cases e : nx S T V k with
    | none =>
      rw [e] at h
      dsimp only at h
      by_cases c : may S V k
      · rw [if_pos c] at h; cases h; exact ⟨by omega, c⟩
      · rw [if_neg c] at h; cases h
    | some j =>
      rw [e] at h
      dsimp only at h
      by_cases c : may S V k ∧ T k < T j
      · rw [if_pos c] at h; cases h; exact ⟨by omega, c.1⟩
      · rw [if_neg c] at h
        cases h
        have := nx_lt e
        exact ⟨by omega, this.2⟩
theorem nx_none {S T : Nat → Int32} {V : Nat → Dm} : ∀ {k : Nat}, (∀ o, o < k → ¬ may S V o) → nx S T V k = none
  | 0, _ => rfl
  | k + 1, h => by
    unfold nx
    rw [nx_none (fun o ho => h o (by omega))]
    dsimp only
    rw [if_neg (h k (by omega))]
theorem nx_c {S T : Nat → Int32} {V U : Nat → Dm} : ∀ {k : Nat}, (∀ j, j < k → V j = U j) → nx S T V k = nx S T U k
  | 0, _ => rfl
  | k + 1, h => by
    unfold nx
    rw [nx_c (k := k) (fun j hj => h j (by omega))]
    have e : may S V k ↔ may S U k := by
      unfold may
      rw [h k (by omega)]
    cases nx S T U k with
    | none => dsimp only; simp only [e]
    | some j => dsimp only; simp only [e]
abbrev over (V : Nat → Dm) : Prop := dCmp (sumD V 5) d100 = some .gt
/-- shedding, f times at most -/
def shd (S : Nat → Int32) : Nat → (Nat → Int32) → (Nat → Dm) → (Nat → Int32) × (Nat → Dm)
  | 0, T, V => (T, V)
  | f + 1, T, V => if over V then (match nx S T V 5 with
    | none => (T, V)
    | some o => shd S f (upd T o (T o + 1)) (va_up V o dZ)) else (T, V)
theorem shd_done {S T : Nat → Int32} {V : Nat → Dm} (h : ¬ over V ∨ nx S T V 5 = none) : ∀ f, shd S f T V = (T, V)
  | 0 => rfl
  | f + 1 => by
    unfold shd
    by_cases c : over V
    · rw [if_pos c]
      rcases h with h | h
      · exact absurd c h
      · rw [h]
    · rw [if_neg c]
theorem shd_go {S T : Nat → Int32} {V : Nat → Dm} {o : Nat} (h1 : over V) (h2 : nx S T V 5 = some o) (f : Nat) : shd S (f + 1) T V = shd S f (upd T o (T o + 1)) (va_up V o dZ) := by
  show (if over V then _ else _) = _
  rw [if_pos h1, h2]
/-- the sun by shares -/
def uS (sun : Int32) (sh : Nat → Int32) (V : Nat → Dm) (i : Nat) : Dm := dMin (dDiv (dMul (dI sun) (dI (sh i))) d4) (V i)
def lS (sun : Int32) (sh : Nat → Int32) (V : Nat → Dm) (L : Dm) : Nat → Dm
  | 0 => L
  | k + 1 => dSub (lS sun sh V L k) (uS sun sh V k)
/-- .. by needs -/
abbrev enough (V : Nat → Dm) (L : Dm) : Prop := dCmp (sumD V 5) L = some .lt ∨ dCmp (sumD V 5) L = some .eq
def gE (V : Nat → Dm) (L : Dm) (i : Nat) : Dm := if enough V L then V i else dDiv (dMul L (V i)) (sumD V 5)
abbrev noNeed (V : Nat → Dm) : Prop := dCmp (sumD V 5) dZ = some .eq
def lE (V : Nat → Dm) (L : Dm) : Dm := if noNeed V then L else if enough V L then dSub L (sumD V 5) else dZ
def nE (V : Nat → Dm) (L : Dm) (i : Nat) : Dm := if noNeed V then V i else dSub (V i) (gE V L i)
/-- the battery's turns: needs, what it holds, what it gave, who got last -/
def gbs (t b : Nat) (V : Nat → Dm) (B : Dm) (G : Nat → Dm) : Nat → (Nat → Dm) × Dm × (Nat → Dm) × Option Nat
  | 0 => (V, B, G, none)
  | k + 1 =>
    let r := gbs t b V B G k
    let o := (t + k) % 5
    let u := dMin (r.1 o) r.2.1
    (va_up r.1 o (dSub (r.1 o) u), dSub r.2.1 u, va_up r.2.2.1 (b + o) u, if dCmp u dZ = some .gt then some o else r.2.2.2)
def tnx (t : Nat) : Option Nat → Nat
  | none => t
  | some o => (o + 1) % 5
end
section
/-! LEAVES: static methods without a world -/
def bI (c : Prop) [Decidable c] : Int32 := if c then 1 else 0
theorem bI_t {c : Prop} [Decidable c] (h : c) : bI c = 1 := if_pos h
theorem bI_f {c : Prop} [Decidable c] (h : ¬ c) : bI c = 0 := if_neg h
theorem bI_nar (c : Prop) [Decidable c] : narrow .boolean (.int (bI c)) = .int (bI c) := by
  unfold bI
  by_cases h : c
  · rw [if_pos h]; rfl
  · rw [if_neg h]; rfl
theorem bI_vn (c : Prop) [Decidable c] : vp_nar .boolean (bI c) = bI c := by
  unfold bI
  by_cases h : c
  · rw [if_pos h]; rfl
  · rw [if_neg h]; rfl
theorem bI_0 {c : Prop} [Decidable c] : bI c = 0 ↔ ¬ c := by
  unfold bI
  by_cases h : c
  · rw [if_pos h]; exact ⟨fun e => absurd e (by decide), fun e => absurd h e⟩
  · rw [if_neg h]; exact ⟨fun _ => h, fun _ => rfl⟩
theorem fm_x : ∀ x, x < 6 → 0 ≤ nI x ^^^ nI 5 := by decide
set_option maxHeartbeats 4000000 in
set_option maxRecDepth 100000 in
theorem mX0_slot (l : Launch) (o q : Nat)  : Met l yX0_slot wsX0_slot ({ frames := 0, cells := 0, slots := 0, locals := 0 } : Room) (va_Pc [.int (nI o), .int (nI q)] (fun _ => True)) (vp_Si (fun r => r = nI (5 * q + o))) 0 0 (fun _ => False) := by
  refine Met.ofW (cc := cX0_slot) (maxL := 2) (ret := (some .int)) (by decide +kernel) rfl ?_
  intro p e s m args below meth c s₁ B hml hv
  obtain ⟨rfl, -⟩ := hv
  have hx := B.exec
  have hb := B.bytes
  have hr := B.returns
  have hts := atoms_spec (ws := wsX0_slot) B.pre
  have hown : s.vm.findClass RX0 = some m.cls := findClass_of_methodNamed B.named
  have hlocks := B.notSynchronized
  have hl := lv_entry ([.int (nI o), .int (nI q)]) (n := 2) (Nat.le_of_ble_eq_true rfl)
  rw [lg_entry_eq]
  generalize (lg_sl ([.int (nI o), .int (nI q)]) ++ List.replicate (2 - (lg_sl ([.int (nI o), .int (nI q)])).length) Slot.unset).toArray = ls at hl ⊢
  have hl : lv_has ls 2 [(0, .int (nI o)), (1, .int (nI q))] := hl
  refine lv_iload_n hx hb dX0_slot_0 rfl (lv_at hl 1 rfl) ?_
  refine lv_iconst (v := nI 5) hx hb dX0_slot_1 (by decide) ?_
  refine lv_imul hx hb dX0_slot_2 ?_
  refine lv_iload_n hx hb dX0_slot_3 rfl (lv_at hl 0 rfl) ?_
  refine lv_iadd hx hb dX0_slot_4 ?_
  refine xk_i (y := nI (5 * q + o)) (by rw [show (nI 5 : Int32) = nI 5 from rfl, pk_mul, nI_add, Nat.mul_comm]) ?_
  exact W.iret hx hb hr (fun t ht hW => ⟨_, rfl, rfl, ht⟩) (fun q hq => absurd hq List.not_mem_nil) dX0_slot_5
set_option maxHeartbeats 4000000 in
set_option maxRecDepth 100000 in
theorem mX1_lesser (l : Launch) (x y : UInt64)  : Met l yX1_lesser wsX1_lesser ({ frames := 0, cells := 0, slots := 0, locals := 0 } : Room) (va_Pc [.double x, .double y] (fun _ => True)) (vp_Sd (fun r => dt r = dMin (dt x) (dt y))) 0 0 (fun _ => False) := by
  refine Met.ofW (cc := cX1_lesser) (maxL := 4) (ret := (some .double)) (by decide +kernel) rfl ?_
  intro p e s m args below meth c s₁ B hml hv
  obtain ⟨rfl, -⟩ := hv
  have hx := B.exec
  have hb := B.bytes
  have hr := B.returns
  have hts := atoms_spec (ws := wsX1_lesser) B.pre
  have hown : s.vm.findClass RX1 = some m.cls := findClass_of_methodNamed B.named
  have hlocks := B.notSynchronized
  have hl := lv_entry ([.double x, .double y]) (n := 4) (Nat.le_of_ble_eq_true rfl)
  rw [lg_entry_eq]
  generalize (lg_sl ([.double x, .double y]) ++ List.replicate (4 - (lg_sl ([.double x, .double y])).length) Slot.unset).toArray = ls at hl ⊢
  have hl : lv_has ls 4 [(0, .double x), (2, .double y)] := hl
  refine lv_dload_n hx hb dX1_lesser_0 rfl (lv_at hl 0 rfl) ?_
  refine lv_dload_n hx hb dX1_lesser_1 rfl (lv_at hl 1 rfl) ?_
  refine lv_dcmp hx hb dX1_lesser_2 ?_
  refine lv_if_ge (tgt := 10) hx hb dX1_lesser_3 (by decide) (fun c => ?_) (fun c => ?_)
  · skip
    have c' : ¬ dCmp (dt x) (dt y) = some .lt := (cv_g_ge _).mp c
    refine lv_dload_n hx hb dX1_lesser_10 rfl (lv_at hl 1 rfl) ?_
    have e9 : dt y = dMin (dt x) (dt y) := by unfold dMin; rw [if_neg c']
    exact W.dret hx hb hr (fun t ht hW => ⟨_, rfl, e9, ht⟩) (fun q hq => absurd hq List.not_mem_nil) dX1_lesser_11
  · skip
    have c' : dCmp (dt x) (dt y) = some .lt := Decidable.of_not_not (fun q => c ((cv_g_ge _).mpr q))
    refine lv_dload_n hx hb dX1_lesser_6 rfl (lv_at hl 0 rfl) ?_
    refine lv_goto (tgt := 11) hx hb dX1_lesser_7 (by decide) ?_
    have e9 : dt x = dMin (dt x) (dt y) := by unfold dMin; rw [if_pos c']
    exact W.dret hx hb hr (fun t ht hW => ⟨_, rfl, e9, ht⟩) (fun q hq => absurd hq List.not_mem_nil) dX1_lesser_11
set_option maxHeartbeats 4000000 in
set_option maxRecDepth 100000 in
theorem mX2_least (l : Launch) (x y : UInt64)  : Met l yX2_least wsX2_least ({ frames := 0, cells := 0, slots := 0, locals := 0 } : Room) (va_Pc [.double x, .double y] (fun _ => True)) (vp_Sd (fun r => dt r = dMin (dt x) (dt y))) 0 0 (fun _ => False) := by
  refine Met.ofW (cc := cX2_least) (maxL := 4) (ret := (some .double)) (by decide +kernel) rfl ?_
  intro p e s m args below meth c s₁ B hml hv
  obtain ⟨rfl, -⟩ := hv
  have hx := B.exec
  have hb := B.bytes
  have hr := B.returns
  have hts := atoms_spec (ws := wsX2_least) B.pre
  have hown : s.vm.findClass RX2 = some m.cls := findClass_of_methodNamed B.named
  have hlocks := B.notSynchronized
  have hl := lv_entry ([.double x, .double y]) (n := 4) (Nat.le_of_ble_eq_true rfl)
  rw [lg_entry_eq]
  generalize (lg_sl ([.double x, .double y]) ++ List.replicate (4 - (lg_sl ([.double x, .double y])).length) Slot.unset).toArray = ls at hl ⊢
  have hl : lv_has ls 4 [(0, .double x), (2, .double y)] := hl
  refine lv_dload_n hx hb dX2_least_0 rfl (lv_at hl 0 rfl) ?_
  refine lv_dload_n hx hb dX2_least_1 rfl (lv_at hl 1 rfl) ?_
  refine lv_dcmp hx hb dX2_least_2 ?_
  refine lv_if_ge (tgt := 10) hx hb dX2_least_3 (by decide) (fun c => ?_) (fun c => ?_)
  · skip
    have c' : ¬ dCmp (dt x) (dt y) = some .lt := (cv_g_ge _).mp c
    refine lv_dload_n hx hb dX2_least_10 rfl (lv_at hl 1 rfl) ?_
    have e9 : dt y = dMin (dt x) (dt y) := by unfold dMin; rw [if_neg c']
    exact W.dret hx hb hr (fun t ht hW => ⟨_, rfl, e9, ht⟩) (fun q hq => absurd hq List.not_mem_nil) dX2_least_11
  · skip
    have c' : dCmp (dt x) (dt y) = some .lt := Decidable.of_not_not (fun q => c ((cv_g_ge _).mpr q))
    refine lv_dload_n hx hb dX2_least_6 rfl (lv_at hl 0 rfl) ?_
    refine lv_goto (tgt := 11) hx hb dX2_least_7 (by decide) ?_
    have e9 : dt x = dMin (dt x) (dt y) := by unfold dMin; rw [if_pos c']
    exact W.dret hx hb hr (fun t ht hW => ⟨_, rfl, e9, ht⟩) (fun q hq => absurd hq List.not_mem_nil) dX2_least_11
set_option maxHeartbeats 4000000 in
set_option maxRecDepth 100000 in
theorem mJ9_floorMod_7cf53 (l : Launch) (x : Nat) (hx5 : x < 6) : Met l yJ9_floorMod_7cf53 wsJ9_floorMod_7cf53 ({ frames := 0, cells := 0, slots := 0, locals := 0 } : Room) (va_Pc [.int (nI x), .int (nI 5)] (fun _ => True)) (vp_Si (fun r => r = nI (x % 5))) 0 0 (fun _ => False) := by
  refine va_MetF (cc := cJ9_floorMod_7cf53) (maxL := 3) (ret := (some .int)) (by decide +kernel) rfl ?_
  intro p e s m args below meth c s₁ B hml hv
  obtain ⟨rfl, -⟩ := hv
  have hx := B.exec
  have hb := B.bytes
  have hr := B.returns
  have hts := atoms_spec (ws := wsJ9_floorMod_7cf53) B.pre
  have hown : s.vm.findClass RJ9 = some m.cls := findClass_of_methodNamed B.named
  have hlocks := B.notSynchronized
  have hl := lv_entry ([.int (nI x), .int (nI 5)]) (n := 3) (Nat.le_of_ble_eq_true rfl)
  rw [lg_entry_eq]
  generalize (lg_sl ([.int (nI x), .int (nI 5)]) ++ List.replicate (3 - (lg_sl ([.int (nI x), .int (nI 5)])).length) Slot.unset).toArray = ls at hl ⊢
  have hl : lv_has ls 3 [(0, .int (nI x)), (1, .int (nI 5))] := hl
  refine lv_iload_n hx hb dJ9_floorMod_7cf53_0 rfl (lv_at hl 0 rfl) ?_
  refine lv_iload_n hx hb dJ9_floorMod_7cf53_1 rfl (lv_at hl 1 rfl) ?_
  refine lv_irem hx hb dJ9_floorMod_7cf53_2 (by decide) ?_
  refine xk_i (y := nI (x % 5)) (pk_rem (by omega) (by omega) (by omega)) ?_
  refine lv_istore_n (lv' := [(2, .int (nI (x % 5))), (0, .int (nI x)), (1, .int (nI 5))]) hx hb dJ9_floorMod_7cf53_3 rfl hl (by decide) rfl (fun ls hl => ?_)
  refine lv_iload_n hx hb dJ9_floorMod_7cf53_4 rfl (lv_at hl 1 rfl) ?_
  refine lv_iload_n hx hb dJ9_floorMod_7cf53_5 rfl (lv_at hl 2 rfl) ?_
  refine lv_ixor hx hb dJ9_floorMod_7cf53_6 ?_
  refine lv_if_ge (tgt := 18) hx hb dJ9_floorMod_7cf53_7 (by decide) (fun c => ?_) (fun c => ?_)
  · skip
    refine lv_iload_n hx hb dJ9_floorMod_7cf53_18 rfl (lv_at hl 0 rfl) ?_
    exact W.iret hx hb hr (fun t ht hW => ⟨_, rfl, rfl, ht⟩) (fun q hq => absurd hq List.not_mem_nil) dJ9_floorMod_7cf53_19
  · skip
    exact absurd (fm_x x hx5) c
set_option maxHeartbeats 4000000 in
set_option maxRecDepth 100000 in
theorem mX1_behind (l : Launch) (o : Nat) (ho : o < 5) : Met l yX1_behind wsX1_behind ({ frames := 1, cells := 0, slots := 0, locals := 22 } : Room) (va_Pc [.int (nI o)] (fun _ => True)) (vp_Si (fun r => r = nI ((o + 1) % 5))) 0 0 (fun _ => False) := by
  refine Met.ofW (cc := cX1_behind) (maxL := 1) (ret := (some .int)) (by decide +kernel) rfl ?_
  intro p e s m args below meth c s₁ B hml hv
  obtain ⟨rfl, -⟩ := hv
  have hx := B.exec
  have hb := B.bytes
  have hr := B.returns
  have hts := atoms_spec (ws := wsX1_behind) B.pre
  have hown : s.vm.findClass RX1 = some m.cls := findClass_of_methodNamed B.named
  have hlocks := B.notSynchronized
  have hl := lv_entry ([.int (nI o)]) (n := 1) (Nat.le_of_ble_eq_true rfl)
  rw [lg_entry_eq]
  generalize (lg_sl ([.int (nI o)]) ++ List.replicate (1 - (lg_sl ([.int (nI o)])).length) Slot.unset).toArray = ls at hl ⊢
  have hl : lv_has ls 1 [(0, .int (nI o))] := hl
  refine lv_iload_n hx hb dX1_behind_0 rfl (lv_at hl 0 rfl) ?_
  refine lv_iconst (v := nI 1) hx hb dX1_behind_1 (by decide) ?_
  refine lv_iadd hx hb dX1_behind_2 ?_
  refine xk_i (y := nI (o + 1)) (nI_1 o) ?_
  refine lv_iconst (v := nI 5) hx hb dX1_behind_3 (by decide) ?_
  refine vp_callSi (va_Run.run (va_runS (As := [.int (nI (o + 1)), .int (nI 5)]) (rest := []) ⟨hx, hb, hml, hown, hts⟩ (mJ9_floorMod_7cf53 l (o + 1) (by omega)) (va_cwS 2 hts gX1_behind_J9_floorMod_7cf53 rfl rfl rfl (by decide +kernel) ⟨Nat.le_of_ble_eq_true rfl, Nat.le_of_ble_eq_true rfl⟩) ⟨fun a U g mk q => q, fun U hU hW => ⟨rfl, trivial⟩⟩ rfl rfl hl.1 rfl (lv_room (Nat.le_of_ble_eq_true rfl)) dX1_behind_4 ⟨Nat.le_of_ble_eq_true rfl, Nat.le_of_ble_eq_true rfl⟩)) (fun r hr1 => ?_)
  exact W.iret hx hb hr (fun t ht hW => ⟨_, rfl, hr1, ht⟩) (fun q hq => absurd hq List.not_mem_nil) dX1_behind_7
set_option maxHeartbeats 4000000 in
set_option maxRecDepth 100000 in
theorem mX2_in (l : Launch) (v x y : Int32)  : Met l yX2_in wsX2_in ({ frames := 0, cells := 0, slots := 0, locals := 0 } : Room) (va_Pc [.int v, .int x, .int y] (fun _ => True)) (vp_Si (fun r => r = bI (x ≤ v ∧ v ≤ y))) 0 0 (fun _ => False) := by
  refine Met.ofW (cc := cX2_in) (maxL := 3) (ret := (some .boolean)) (by decide +kernel) rfl ?_
  intro p e s m args below meth c s₁ B hml hv
  obtain ⟨rfl, -⟩ := hv
  have hx := B.exec
  have hb := B.bytes
  have hr := B.returns
  have hts := atoms_spec (ws := wsX2_in) B.pre
  have hown : s.vm.findClass RX2 = some m.cls := findClass_of_methodNamed B.named
  have hlocks := B.notSynchronized
  have hl := lv_entry ([.int v, .int x, .int y]) (n := 3) (Nat.le_of_ble_eq_true rfl)
  rw [lg_entry_eq]
  generalize (lg_sl ([.int v, .int x, .int y]) ++ List.replicate (3 - (lg_sl ([.int v, .int x, .int y])).length) Slot.unset).toArray = ls at hl ⊢
  have hl : lv_has ls 3 [(0, .int v), (1, .int x), (2, .int y)] := hl
  refine lv_iload_n hx hb dX2_in_0 rfl (lv_at hl 0 rfl) ?_
  refine lv_iload_n hx hb dX2_in_1 rfl (lv_at hl 1 rfl) ?_
  refine lv_icmp_lt (tgt := 14) hx hb dX2_in_2 (by decide) (fun c => ?_) (fun c => ?_)
  · skip
    refine lv_iconst (v := nI 0) hx hb dX2_in_14 (by decide) ?_
    have e9 : (nI 0 : Int32) = bI (x ≤ v ∧ v ≤ y) := (bI_f (fun q => absurd q.1 (Int32.not_le.mpr c))).symm
    exact W.zret hx hb hr rfl (fun t ht hW => ⟨_, rfl, e9, ht⟩) (fun q hq => absurd hq List.not_mem_nil) dX2_in_15
  · skip
    refine lv_iload_n hx hb dX2_in_5 rfl (lv_at hl 0 rfl) ?_
    refine lv_iload_n hx hb dX2_in_6 rfl (lv_at hl 2 rfl) ?_
    refine lv_icmp_gt (tgt := 14) hx hb dX2_in_7 (by decide) (fun c2 => ?_) (fun c2 => ?_)
    · skip
      refine lv_iconst (v := nI 0) hx hb dX2_in_14 (by decide) ?_
      have e9 : (nI 0 : Int32) = bI (x ≤ v ∧ v ≤ y) := (bI_f (fun q => absurd q.2 (Int32.not_le.mpr c2))).symm
      exact W.zret hx hb hr rfl (fun t ht hW => ⟨_, rfl, e9, ht⟩) (fun q hq => absurd hq List.not_mem_nil) dX2_in_15
    · skip
      refine lv_iconst (v := nI 1) hx hb dX2_in_10 (by decide) ?_
      refine lv_goto (tgt := 15) hx hb dX2_in_11 (by decide) ?_
      have e9 : (nI 1 : Int32) = bI (x ≤ v ∧ v ≤ y) := (bI_t ⟨Int32.not_lt.mp c, Int32.not_lt.mp c2⟩).symm
      exact W.zret hx hb hr rfl (fun t ht hW => ⟨_, rfl, e9, ht⟩) (fun q hq => absurd hq List.not_mem_nil) dX2_in_15
set_option maxHeartbeats 4000000 in
set_option maxRecDepth 100000 in
theorem mX2_isOwner (l : Launch) (v : Int32)  : Met l yX2_isOwner wsX2_isOwner ({ frames := 1, cells := 0, slots := 0, locals := 22 } : Room) (va_Pc [.int v] (fun _ => True)) (vp_Si (fun r => r = bI (0 ≤ v ∧ v ≤ 4))) 0 0 (fun _ => False) := by
  refine Met.ofW (cc := cX2_isOwner) (maxL := 1) (ret := (some .boolean)) (by decide +kernel) rfl ?_
  intro p e s m args below meth c s₁ B hml hv
  obtain ⟨rfl, -⟩ := hv
  have hx := B.exec
  have hb := B.bytes
  have hr := B.returns
  have hts := atoms_spec (ws := wsX2_isOwner) B.pre
  have hown : s.vm.findClass RX2 = some m.cls := findClass_of_methodNamed B.named
  have hlocks := B.notSynchronized
  have hl := lv_entry ([.int v]) (n := 1) (Nat.le_of_ble_eq_true rfl)
  rw [lg_entry_eq]
  generalize (lg_sl ([.int v]) ++ List.replicate (1 - (lg_sl ([.int v])).length) Slot.unset).toArray = ls at hl ⊢
  have hl : lv_has ls 1 [(0, .int v)] := hl
  refine lv_iload_n hx hb dX2_isOwner_0 rfl (lv_at hl 0 rfl) ?_
  refine lv_iconst (v := nI 0) hx hb dX2_isOwner_1 (by decide) ?_
  refine lv_iconst (v := nI 4) hx hb dX2_isOwner_2 (by decide) ?_
  refine vp_callSi (va_Run.run (va_runS (As := [.int v, .int (nI 0), .int (nI 4)]) (rest := []) ⟨hx, hb, hml, hown, hts⟩ (mX2_in l v (nI 0) (nI 4)) (va_cwS 3 hts gX2_isOwner_X2_in rfl rfl rfl (by decide +kernel) ⟨Nat.le_of_ble_eq_true rfl, Nat.le_of_ble_eq_true rfl⟩) ⟨fun a U g mk q => q, fun U hU hW => ⟨rfl, trivial⟩⟩ rfl rfl hl.1 rfl (lv_room (Nat.le_of_ble_eq_true rfl)) dX2_isOwner_3 ⟨Nat.le_of_ble_eq_true rfl, Nat.le_of_ble_eq_true rfl⟩)) (fun r hr1 => ?_)
  subst hr1
  exact W.zret hx hb hr (bI_nar _) (fun t ht hW => ⟨_, rfl, rfl, ht⟩) (fun q hq => absurd hq List.not_mem_nil) dX2_isOwner_6
end
section
/-! GridCommons: what only reads -/
theorem nI_nm1 : ∀ j, j < 5 → ¬ nI j = -1 := by decide
set_option maxHeartbeats 4000000 in
set_option maxRecDepth 100000 in
theorem mX1_sumOfNeeds (l : Launch) (D : va_G) (cI cZ cD : ClassId) (a : Nat → Nat) (sz : Nat) (sh sw ts : Nat → Int32) (bi : Nat → UInt64) (it tu : Nat → Int32) (ne : Nat → UInt64) (pr so lo : UInt64) (wt cn : Int32) (lp lz lu : Nat → UInt64) (lk : Nat → Int32) (ld lf lb lw : Nat → UInt64) (V : Nat → Dm) (hV : is5 ne V) : MetD lw_cs l yX1_sumOfNeeds wsX1_sumOfNeeds ({ frames := 0, cells := 0, slots := 0, locals := 0 } : Room) (va_Pc [.ref (a 0)] (XP D cI cZ cD (XW a cI cZ cD sh sw ts bi it tu ne pr so lo wt cn lp lz lu lk ld lf lb lw) sz)) (va_Qd (fun (r : UInt64) (u : Unit) => dt r = sumD V 5) (fun (u : Unit) t => XB D cI cZ cD (XW a cI cZ cD sh sw ts bi it tu ne pr so lo wt cn lp lz lu lk ld lf lb lw) (va_A (XW a cI cZ cD sh sw ts bi it tu ne pr so lo wt cn lp lz lu lk ld lf lb lw) sz) t) (va_A (XW a cI cZ cD sh sw ts bi it tu ne pr so lo wt cn lp lz lu lk ld lf lb lw) sz)) 0 0 (va_A (XW a cI cZ cD sh sw ts bi it tu ne pr so lo wt cn lp lz lu lk ld lf lb lw) sz) := by
  refine MetD.ofW (cc := cX1_sumOfNeeds) (maxL := 4) (ret := (some .double)) (by decide +kernel) rfl ?_
  intro p e s m args below meth c s₁ B hml hv hd0
  obtain ⟨rfl, hsz, hP, hK, hD0⟩ := hv
  have hx := B.exec
  have hb := B.bytes
  have hr := B.returns
  have hts := atoms_spec (ws := wsX1_sumOfNeeds) B.pre
  have hown : s.vm.findClass RX1 = some m.cls := findClass_of_methodNamed B.named
  have hlocks := B.notSynchronized
  subst hsz
  have hD := hD0.self (sz := s.heap.size)
  generalize hAe : va_A (XW a cI cZ cD sh sw ts bi it tu ne pr so lo wt cn lp lz lu lk ld lf lb lw) s.heap.size = A at hD ⊢
  have hA : ∀ q : Nat, s.heap.size ≤ q → A q := fun q h => by rw [← hAe]; exact Or.inr h
  have hS : va_S A s.heap s.heap [] := va_S.rf
  have hl := lv_entry ([.ref (a 0)]) (n := 4) (Nat.le_of_ble_eq_true rfl)
  rw [lg_entry_eq]
  generalize (lg_sl ([.ref (a 0)]) ++ List.replicate (4 - (lg_sl ([.ref (a 0)])).length) Slot.unset).toArray = ls at hl ⊢
  have hl : lv_has ls 4 [(0, .ref (a 0))] := hl
  have inX1 : ∀ w ∈ wsX10, w ∈ wsX1_sumOfNeeds := by decide +kernel
  refine lv_dconst0 hx hb dX1_sumOfNeeds_0 ?_
  refine lv_dstore_n (lv' := [(1, .double FP.dconst0), (0, .ref (a 0))]) hx hb dX1_sumOfNeeds_1 rfl hl (by decide) rfl (fun ls hl => ?_)
  refine lv_iconst (v := nI 0) hx hb dX1_sumOfNeeds_2 (by decide) ?_
  refine lv_istore_n (lv' := [(3, .int (nI 0)), (1, .double FP.dconst0), (0, .ref (a 0))]) hx hb dX1_sumOfNeeds_3 rfl hl (by decide) rfl (fun ls hl => ?_)
  refine xk_loop (fun i H locs ls d => ∃ (x : UInt64), (dt x = sumD V i) ∧ (va_P D vwCl (XW a cI cZ cD sh sw ts bi it tu ne pr so lo wt cn lp lz lu lk ld lf lb lw) H) ∧ (va_D A (XW a cI cZ cD sh sw ts bi it tu ne pr so lo wt cn lp lz lu lk ld lf lb lw)) ∧ (va_S A s.heap H locs) ∧ (s.drawn.sameBut d lw_cs) ∧ (lv_has ls 4 [(0, .ref (a 0)), (1, .double x), (3, .int (nI i))])) 5 ?_ (i := 0) (Nat.zero_le _) ⟨FP.dconst0, rfl, hP, hD, hS, hd0, lv_sub hl [2, 1, 0] rfl⟩
  intro i H locs ls d hi hI next
  obtain ⟨x, hq0, hP, hD, hS, hdl, hl⟩ := hI
  refine lv_iload_n hx hb dX1_sumOfNeeds_4 rfl (lv_at hl 2 rfl) ?_
  refine lv_iconst (v := nI 5) hx hb dX1_sumOfNeeds_5 (by decide) ?_
  refine lv_icmp_ge (tgt := 24) hx hb dX1_sumOfNeeds_6 (by decide) (fun c => ?_) (fun c => ?_)
  · skip
    obtain rfl := xk_ge hi (by decide) c
    refine lv_dload_n hx hb dX1_sumOfNeeds_24 rfl (lv_at hl 1 rfl) ?_
    refine W.endD hdl ?_
    exact W.dret hx hb hr (fun t ht hW => ⟨⟨_, (), rfl, hq0, by rw [ht]; exact hP, va_K.moved hW.alike (xk_Kd hK), hD⟩, hS.F ht⟩) hS.2.2 dX1_sumOfNeeds_25
  · skip
    have hlt := xk_nge hi (by decide) c
    refine lv_dload_n hx hb dX1_sumOfNeeds_9 rfl (lv_at hl 1 rfl) ?_
    refine lv_aload_n hx hb dX1_sumOfNeeds_10 rfl (lv_at hl 0 rfl) ?_
    refine va_get (D := D) (ci := 1) (v := .ref (a 7)) (C := RX1) (T := TX1) (N := 12) hx hb (dr_words hts _) inX1 (xk_od hown) (xk_Kd hK) hP 0 rfl rfl 10 (by decide) (dr_words hts _ (.fieldLink RX1 50 "GridCommons" "needs" "[D") (by decide +kernel)) (fun _ h9 => h9) rfl dX1_sumOfNeeds_11 ?_
    refine lv_iload_n hx hb dX1_sumOfNeeds_14 rfl (lv_at hl 2 rfl) ?_
    refine xk_dald hx hb (xk_Kd hK) hP 7 2 rfl rfl (o := i) (by omega) (by decide) dX1_sumOfNeeds_15 ?_
    refine lv_dadd_any hdl lw_bits hx hb dX1_sumOfNeeds_16 (fun r1 _ hal hd2 => ?_)
    have er1 := dt_add hal
    refine lv_dstore_n (lv' := [(1, .double r1), (0, .ref (a 0)), (3, .int (nI i))]) hx hb dX1_sumOfNeeds_17 rfl hl (by decide) rfl (fun ls hl => ?_)
    refine lv_iinc (v := nI (i + 1)) (lv' := [(3, .int (nI (i + 1))), (1, .double r1), (0, .ref (a 0))]) hx hb dX1_sumOfNeeds_18 hl (k := 2) rfl (nI_1 i) (by decide) rfl (fun ls hl => ?_)
    refine lv_goto (tgt := 4) hx hb dX1_sumOfNeeds_21 (by decide) ?_
    exact next _ _ _ _ hlt ⟨r1, (by rw [er1, hq0, hV i hlt]; rfl), hP, hD, hS, hd2, lv_sub hl [2, 1, 0] rfl⟩
set_option maxHeartbeats 4000000 in
set_option maxRecDepth 100000 in
theorem mX1_isOverLine (l : Launch) (D : va_G) (cI cZ cD : ClassId) (a : Nat → Nat) (sz : Nat) (sh sw ts : Nat → Int32) (bi : Nat → UInt64) (it tu : Nat → Int32) (ne : Nat → UInt64) (pr so lo : UInt64) (wt cn : Int32) (lp lz lu : Nat → UInt64) (lk : Nat → Int32) (ld lf lb lw : Nat → UInt64) (V : Nat → Dm) (hV : is5 ne V) : MetD lw_cs l yX1_isOverLine wsX1_isOverLine ({ frames := 1, cells := 0, slots := 0, locals := 23 } : Room) (va_Pc [.ref (a 0)] (XP D cI cZ cD (XW a cI cZ cD sh sw ts bi it tu ne pr so lo wt cn lp lz lu lk ld lf lb lw) sz)) (va_Qi (fun (r : Int32) (u : Unit) => r = bI (over V)) (fun (u : Unit) t => XB D cI cZ cD (XW a cI cZ cD sh sw ts bi it tu ne pr so lo wt cn lp lz lu lk ld lf lb lw) (va_A (XW a cI cZ cD sh sw ts bi it tu ne pr so lo wt cn lp lz lu lk ld lf lb lw) sz) t) (va_A (XW a cI cZ cD sh sw ts bi it tu ne pr so lo wt cn lp lz lu lk ld lf lb lw) sz)) 0 0 (va_A (XW a cI cZ cD sh sw ts bi it tu ne pr so lo wt cn lp lz lu lk ld lf lb lw) sz) := by
  refine MetD.ofW (cc := cX1_isOverLine) (maxL := 1) (ret := (some .boolean)) (by decide +kernel) rfl ?_
  intro p e s m args below meth c s₁ B hml hv hd0
  obtain ⟨rfl, hsz, hP, hK, hD0⟩ := hv
  have hx := B.exec
  have hb := B.bytes
  have hr := B.returns
  have hts := atoms_spec (ws := wsX1_isOverLine) B.pre
  have hown : s.vm.findClass RX1 = some m.cls := findClass_of_methodNamed B.named
  have hlocks := B.notSynchronized
  subst hsz
  have hD := hD0.self (sz := s.heap.size)
  generalize hAe : va_A (XW a cI cZ cD sh sw ts bi it tu ne pr so lo wt cn lp lz lu lk ld lf lb lw) s.heap.size = A at hD ⊢
  have hA : ∀ q : Nat, s.heap.size ≤ q → A q := fun q h => by rw [← hAe]; exact Or.inr h
  have hS : va_S A s.heap s.heap [] := va_S.rf
  have hl := lv_entry ([.ref (a 0)]) (n := 1) (Nat.le_of_ble_eq_true rfl)
  rw [lg_entry_eq]
  generalize (lg_sl ([.ref (a 0)]) ++ List.replicate (1 - (lg_sl ([.ref (a 0)])).length) Slot.unset).toArray = ls at hl ⊢
  have hl : lv_has ls 1 [(0, .ref (a 0))] := hl
  refine lv_aload_n hx hb dX1_isOverLine_0 rfl (lv_at hl 0 rfl) ?_
  have hFc := va_free (wc := XW a cI cZ cD sh sw ts bi it tu ne pr so lo wt cn lp lz lu lk ld lf lb lw) hD hS hA [0, 1, 2, 3, 4, 5, 6, 7, 8, 9, 10, 11, 12, 13, 14, 15, 16] rfl
  refine va_calldD hd0 (va_runV_D (As := []) (rest := []) ⟨hx, hb, hml, (xk_od hown), (dr_words hts _)⟩ (mX1_sumOfNeeds l D cI cZ cD a _ sh sw ts bi it tu ne pr so lo wt cn lp lz lu lk ld lf lb lw V hV) (cwV 0 (dr_words hts _) gX1_isOverLine_X1_sumOfNeeds rfl rfl rfl (by decide +kernel) ⟨Nat.le_of_ble_eq_true rfl, Nat.le_of_ble_eq_true rfl⟩) ⟨xk_blind, va_recv (xk_Kd hK) hP (ci := 1) (q0 := 0) rfl rfl, xk_pre hP (xk_Kd hK) hD⟩ rfl rfl hl.1 rfl (lv_room (Nat.le_of_ble_eq_true rfl)) dX1_isOverLine_1 ⟨Nat.le_of_ble_eq_true rfl, Nat.le_of_ble_eq_true rfl⟩) hS (fun q _ h => hFc q h) hFc (fun r u t H locs ht hvm hw hB hz1 hk1 hS _ hd1 => ?_)
  obtain ⟨hP, -, hD1⟩ := hB
  rw [ht] at hP
  have hD := hD1.weaken (B := A) (fun _ _ _ h => hFc _ h)
  have hP : va_P D vwCl (XW a cI cZ cD sh sw ts bi it tu ne pr so lo wt cn lp lz lu lk ld lf lb lw) H := hP
  have hD : va_D A (XW a cI cZ cD sh sw ts bi it tu ne pr so lo wt cn lp lz lu lk ld lf lb lw) := hD
  refine lv_ldc2d hx hb (xk_od hown) (dr_words hts _ (.constantDouble RX1 169 4636737291354636288) (by decide +kernel)) dX1_isOverLine_4 ?_
  refine lv_dcmp hx hb dX1_isOverLine_7 ?_
  refine lv_if_le (tgt := 15) hx hb dX1_isOverLine_8 (by decide) (fun c => ?_) (fun c => ?_)
  · skip
    refine lv_iconst (v := nI 0) hx hb dX1_isOverLine_15 (by decide) ?_
    have e9 : (nI 0 : Int32) = bI (over V) := (bI_f (fun q => (cv_l_le _).mp c (show dCmp (dt r) d100 = some .gt by rw [hw]; exact q))).symm
    refine W.endD hd1 ?_
    exact W.zret hx hb hr rfl (fun t ht hW => ⟨⟨_, (), rfl, e9, by rw [ht]; exact hP, va_K.moved hW.alike (xk_Kd hK), hD⟩, hS.F ht⟩) hS.2.2 dX1_isOverLine_16
  · skip
    refine lv_iconst (v := nI 1) hx hb dX1_isOverLine_11 (by decide) ?_
    refine lv_goto (tgt := 16) hx hb dX1_isOverLine_12 (by decide) ?_
    have e9 : (nI 1 : Int32) = bI (over V) := (bI_t (by have q := Decidable.of_not_not (fun q => c ((cv_l_le _).mpr q)); have q2 : dCmp (dt r) d100 = some .gt := q; rw [hw] at q2; exact q2)).symm
    refine W.endD hd1 ?_
    exact W.zret hx hb hr rfl (fun t ht hW => ⟨⟨_, (), rfl, e9, by rw [ht]; exact hP, va_K.moved hW.alike (xk_Kd hK), hD⟩, hS.F ht⟩) hS.2.2 dX1_isOverLine_16
set_option maxHeartbeats 4000000 in
set_option maxRecDepth 100000 in
theorem mX1_sumOfShares (l : Launch) (D : va_G) (cI cZ cD : ClassId) (a : Nat → Nat) (sz : Nat) (sh sw ts : Nat → Int32) (bi : Nat → UInt64) (it tu : Nat → Int32) (ne : Nat → UInt64) (pr so lo : UInt64) (wt cn : Int32) (lp lz lu : Nat → UInt64) (lk : Nat → Int32) (ld lf lb lw : Nat → UInt64)  : Met l yX1_sumOfShares wsX1_sumOfShares ({ frames := 0, cells := 0, slots := 0, locals := 0 } : Room) (va_Pc [.ref (a 0)] (XP D cI cZ cD (XW a cI cZ cD sh sw ts bi it tu ne pr so lo wt cn lp lz lu lk ld lf lb lw) sz)) (va_Qi (fun (r : Int32) (u : Unit) => r = sumI sh 5) (fun (u : Unit) t => XB D cI cZ cD (XW a cI cZ cD sh sw ts bi it tu ne pr so lo wt cn lp lz lu lk ld lf lb lw) (va_A (XW a cI cZ cD sh sw ts bi it tu ne pr so lo wt cn lp lz lu lk ld lf lb lw) sz) t) (va_A (XW a cI cZ cD sh sw ts bi it tu ne pr so lo wt cn lp lz lu lk ld lf lb lw) sz)) 0 0 (va_A (XW a cI cZ cD sh sw ts bi it tu ne pr so lo wt cn lp lz lu lk ld lf lb lw) sz) := by
  refine Met.ofW (cc := cX1_sumOfShares) (maxL := 3) (ret := (some .int)) (by decide +kernel) rfl ?_
  intro p e s m args below meth c s₁ B hml hv
  obtain ⟨rfl, hsz, hP, hK, hD0⟩ := hv
  have hx := B.exec
  have hb := B.bytes
  have hr := B.returns
  have hts := atoms_spec (ws := wsX1_sumOfShares) B.pre
  have hown : s.vm.findClass RX1 = some m.cls := findClass_of_methodNamed B.named
  have hlocks := B.notSynchronized
  subst hsz
  have hD := hD0.self (sz := s.heap.size)
  generalize hAe : va_A (XW a cI cZ cD sh sw ts bi it tu ne pr so lo wt cn lp lz lu lk ld lf lb lw) s.heap.size = A at hD ⊢
  have hA : ∀ q : Nat, s.heap.size ≤ q → A q := fun q h => by rw [← hAe]; exact Or.inr h
  have hS : va_S A s.heap s.heap [] := va_S.rf
  have hl := lv_entry ([.ref (a 0)]) (n := 3) (Nat.le_of_ble_eq_true rfl)
  rw [lg_entry_eq]
  generalize (lg_sl ([.ref (a 0)]) ++ List.replicate (3 - (lg_sl ([.ref (a 0)])).length) Slot.unset).toArray = ls at hl ⊢
  have hl : lv_has ls 3 [(0, .ref (a 0))] := hl
  have inX1 : ∀ w ∈ wsX10, w ∈ wsX1_sumOfShares := by decide +kernel
  refine lv_iconst (v := nI 0) hx hb dX1_sumOfShares_0 (by decide) ?_
  refine lv_istore_n (lv' := [(1, .int (nI 0)), (0, .ref (a 0))]) hx hb dX1_sumOfShares_1 rfl hl (by decide) rfl (fun ls hl => ?_)
  refine lv_iconst (v := nI 0) hx hb dX1_sumOfShares_2 (by decide) ?_
  refine lv_istore_n (lv' := [(2, .int (nI 0)), (1, .int (nI 0)), (0, .ref (a 0))]) hx hb dX1_sumOfShares_3 rfl hl (by decide) rfl (fun ls hl => ?_)
  refine xk_loopP (fun i H locs ls => (va_P D vwCl (XW a cI cZ cD sh sw ts bi it tu ne pr so lo wt cn lp lz lu lk ld lf lb lw) H) ∧ (va_D A (XW a cI cZ cD sh sw ts bi it tu ne pr so lo wt cn lp lz lu lk ld lf lb lw)) ∧ (va_S A s.heap H locs) ∧ (lv_has ls 3 [(0, .ref (a 0)), (1, .int (sumI sh i)), (2, .int (nI i))])) 5 ?_ (i := 0) (Nat.zero_le _) ⟨hP, hD, hS, lv_sub hl [2, 1, 0] rfl⟩
  intro i H locs ls hi hI next
  obtain ⟨hP, hD, hS, hl⟩ := hI
  refine lv_iload_n hx hb dX1_sumOfShares_4 rfl (lv_at hl 2 rfl) ?_
  refine lv_iconst (v := nI 5) hx hb dX1_sumOfShares_5 (by decide) ?_
  refine lv_icmp_ge (tgt := 24) hx hb dX1_sumOfShares_6 (by decide) (fun c => ?_) (fun c => ?_)
  · skip
    obtain rfl := xk_ge hi (by decide) c
    refine lv_iload_n hx hb dX1_sumOfShares_24 rfl (lv_at hl 1 rfl) ?_
    exact W.iret hx hb hr (fun t ht hW => ⟨⟨_, (), rfl, rfl, by rw [ht]; exact hP, va_K.moved hW.alike hK, hD⟩, hS.F ht⟩) hS.2.2 dX1_sumOfShares_25
  · skip
    have hlt := xk_nge hi (by decide) c
    refine lv_iload_n hx hb dX1_sumOfShares_9 rfl (lv_at hl 1 rfl) ?_
    refine lv_aload_n hx hb dX1_sumOfShares_10 rfl (lv_at hl 0 rfl) ?_
    refine va_get (D := D) (ci := 1) (v := .ref (a 1)) (C := RX1) (T := TX1) (N := 12) hx hb hts inX1 hown hK hP 0 rfl rfl 0 (by decide) (hts (.fieldLink RX1 9 "GridCommons" "shares" "[I") (by decide +kernel)) (fun _ h9 => h9) rfl dX1_sumOfShares_11 ?_
    refine lv_iload_n hx hb dX1_sumOfShares_14 rfl (lv_at hl 2 rfl) ?_
    refine xk_iald hx hb hK hP 1 0 rfl rfl (o := i) (by omega) (by decide) dX1_sumOfShares_15 ?_
    refine lv_iadd hx hb dX1_sumOfShares_16 ?_
    refine lv_istore_n (lv' := [(1, .int ((sumI sh i) + (sh i))), (0, .ref (a 0)), (2, .int (nI i))]) hx hb dX1_sumOfShares_17 rfl hl (by decide) rfl (fun ls hl => ?_)
    refine lv_iinc (v := nI (i + 1)) (lv' := [(2, .int (nI (i + 1))), (1, .int ((sumI sh i) + (sh i))), (0, .ref (a 0))]) hx hb dX1_sumOfShares_18 hl (k := 2) rfl (nI_1 i) (by decide) rfl (fun ls hl => ?_)
    refine lv_goto (tgt := 4) hx hb dX1_sumOfShares_21 (by decide) ?_
    exact next _ _ _ hlt ⟨hP, hD, hS, lv_sub hl [2, 1, 0] rfl⟩
set_option maxHeartbeats 4000000 in
set_option maxRecDepth 100000 in
theorem mX1_nextToShed (l : Launch) (D : va_G) (cI cZ cD : ClassId) (a : Nat → Nat) (sz : Nat) (sh sw ts : Nat → Int32) (bi : Nat → UInt64) (it tu : Nat → Int32) (ne : Nat → UInt64) (pr so lo : UInt64) (wt cn : Int32) (lp lz lu : Nat → UInt64) (lk : Nat → Int32) (ld lf lb lw : Nat → UInt64) (V : Nat → Dm) (hV : is5 ne V) : Met l yX1_nextToShed wsX1_nextToShed ({ frames := 0, cells := 0, slots := 0, locals := 0 } : Room) (va_Pc [.ref (a 0)] (XP D cI cZ cD (XW a cI cZ cD sh sw ts bi it tu ne pr so lo wt cn lp lz lu lk ld lf lb lw) sz)) (va_Qi (fun (r : Int32) (u : Unit) => r = oi (nx sw ts V 5)) (fun (u : Unit) t => XB D cI cZ cD (XW a cI cZ cD sh sw ts bi it tu ne pr so lo wt cn lp lz lu lk ld lf lb lw) (va_A (XW a cI cZ cD sh sw ts bi it tu ne pr so lo wt cn lp lz lu lk ld lf lb lw) sz) t) (va_A (XW a cI cZ cD sh sw ts bi it tu ne pr so lo wt cn lp lz lu lk ld lf lb lw) sz)) 0 0 (va_A (XW a cI cZ cD sh sw ts bi it tu ne pr so lo wt cn lp lz lu lk ld lf lb lw) sz) := by
  refine Met.ofW (cc := cX1_nextToShed) (maxL := 4) (ret := (some .int)) (by decide +kernel) rfl ?_
  intro p e s m args below meth c s₁ B hml hv
  obtain ⟨rfl, hsz, hP, hK, hD0⟩ := hv
  have hx := B.exec
  have hb := B.bytes
  have hr := B.returns
  have hts := atoms_spec (ws := wsX1_nextToShed) B.pre
  have hown : s.vm.findClass RX1 = some m.cls := findClass_of_methodNamed B.named
  have hlocks := B.notSynchronized
  subst hsz
  have hD := hD0.self (sz := s.heap.size)
  generalize hAe : va_A (XW a cI cZ cD sh sw ts bi it tu ne pr so lo wt cn lp lz lu lk ld lf lb lw) s.heap.size = A at hD ⊢
  have hA : ∀ q : Nat, s.heap.size ≤ q → A q := fun q h => by rw [← hAe]; exact Or.inr h
  have hS : va_S A s.heap s.heap [] := va_S.rf
  have hl := lv_entry ([.ref (a 0)]) (n := 4) (Nat.le_of_ble_eq_true rfl)
  rw [lg_entry_eq]
  generalize (lg_sl ([.ref (a 0)]) ++ List.replicate (4 - (lg_sl ([.ref (a 0)])).length) Slot.unset).toArray = ls at hl ⊢
  have hl : lv_has ls 4 [(0, .ref (a 0))] := hl
  have inX1 : ∀ w ∈ wsX10, w ∈ wsX1_nextToShed := by decide +kernel
  refine lv_iconst (v := (-1)) hx hb dX1_nextToShed_0 (by decide) ?_
  refine lv_istore_n (lv' := [(1, .int (-1)), (0, .ref (a 0))]) hx hb dX1_nextToShed_1 rfl hl (by decide) rfl (fun ls hl => ?_)
  refine lv_iconst (v := nI 0) hx hb dX1_nextToShed_2 (by decide) ?_
  refine lv_istore_n (lv' := [(2, .int (nI 0)), (1, .int (-1)), (0, .ref (a 0))]) hx hb dX1_nextToShed_3 rfl hl (by decide) rfl (fun ls hl => ?_)
  refine xk_loopP (fun i H locs ls => (va_P D vwCl (XW a cI cZ cD sh sw ts bi it tu ne pr so lo wt cn lp lz lu lk ld lf lb lw) H) ∧ (va_D A (XW a cI cZ cD sh sw ts bi it tu ne pr so lo wt cn lp lz lu lk ld lf lb lw)) ∧ (va_S A s.heap H locs) ∧ (lv_has ls 4 [(0, .ref (a 0)), (1, .int (oi (nx sw ts V i))), (2, .int (nI i))])) 5 ?_ (i := 0) (Nat.zero_le _) ⟨hP, hD, hS, lv_sub hl [2, 1, 0] rfl⟩
  intro i H locs ls hi hI next
  obtain ⟨hP, hD, hS, hl⟩ := hI
  refine lv_iload_n hx hb dX1_nextToShed_4 rfl (lv_at hl 2 rfl) ?_
  refine lv_iconst (v := nI 5) hx hb dX1_nextToShed_5 (by decide) ?_
  refine lv_icmp_ge (tgt := 67) hx hb dX1_nextToShed_6 (by decide) (fun c => ?_) (fun c => ?_)
  · skip
    obtain rfl := xk_ge hi (by decide) c
    refine lv_iload_n hx hb dX1_nextToShed_67 rfl (lv_at hl 1 rfl) ?_
    exact W.iret hx hb hr (fun t ht hW => ⟨⟨_, (), rfl, rfl, by rw [ht]; exact hP, va_K.moved hW.alike hK, hD⟩, hS.F ht⟩) hS.2.2 dX1_nextToShed_68
  · skip
    have hlt := xk_nge hi (by decide) c
    have e0 : nx sw ts V (i + 1) = match nx sw ts V i with | none => if may sw V i then some i else none | some j => if may sw V i ∧ ts i < ts j then some i else some j := rfl
    obtain ⟨y, hy⟩ : ∃ y, y = nx sw ts V i := ⟨_, rfl⟩
    rw [← hy] at e0 hl
    refine lv_aload_n hx hb dX1_nextToShed_9 rfl (lv_at hl 0 rfl) ?_
    refine va_get (D := D) (ci := 1) (v := .ref (a 2)) (C := RX1) (T := TX1) (N := 12) hx hb hts inX1 hown hK hP 0 rfl rfl 1 (by decide) (hts (.fieldLink RX1 13 "GridCommons" "switches" "[Z") (by decide +kernel)) (fun _ h9 => h9) rfl dX1_nextToShed_10 ?_
    refine lv_iload_n hx hb dX1_nextToShed_13 rfl (lv_at hl 2 rfl) ?_
    refine xk_zald hx hb hK hP 2 1 rfl rfl (o := i) (by omega) (by decide) dX1_nextToShed_14 ?_
    refine lv_if_eq (tgt := 33) hx hb dX1_nextToShed_15 (by decide) (fun c1 => ?_) (fun c1 => ?_)
    · skip
      refine lv_iconst (v := nI 0) hx hb dX1_nextToShed_33 (by decide) ?_
      refine lv_istore_n (lv' := [(3, .int (nI 0)), (0, .ref (a 0)), (1, .int (oi y)), (2, .int (nI i))]) hx hb dX1_nextToShed_34 rfl hl (by decide) rfl (fun ls hl => ?_)
      refine lv_iload_n hx hb dX1_nextToShed_35 rfl (lv_at hl 0 rfl) ?_
      refine lv_if_eq (tgt := 61) hx hb dX1_nextToShed_36 (by decide) (fun c9 => ?_) (fun c9 => ?_)
      · skip
        have hm : ¬ may sw V i := fun q => q.1 c1
        have e9 : nx sw ts V (i + 1) = y := by
          rw [e0]
          cases y with
          | none => dsimp only; rw [if_neg hm]
          | some j => dsimp only; rw [if_neg (fun q => hm q.1)]
        refine lv_iinc (v := nI (i + 1)) (lv' := [(2, .int (nI (i + 1))), (3, .int (nI 0)), (0, .ref (a 0)), (1, .int (oi y))]) hx hb dX1_nextToShed_61 hl (k := 3) rfl (nI_1 i) (by decide) rfl (fun ls hl => ?_)
        refine lv_goto (tgt := 4) hx hb dX1_nextToShed_64 (by decide) ?_
        have hl : lv_has ls 4 [(2, .int (nI (i + 1))), (3, .int (nI 0)), (0, .ref (a 0)), (1, .int (oi (nx sw ts V (i + 1))))] := (by rw [e9]; exact hl)
        exact next _ _ _ hlt ⟨hP, hD, hS, lv_sub hl [2, 3, 0] rfl⟩
      · skip
        exact absurd rfl c9
    · skip
      refine lv_aload_n hx hb dX1_nextToShed_18 rfl (lv_at hl 0 rfl) ?_
      refine va_get (D := D) (ci := 1) (v := .ref (a 7)) (C := RX1) (T := TX1) (N := 12) hx hb hts inX1 hown hK hP 0 rfl rfl 10 (by decide) (hts (.fieldLink RX1 50 "GridCommons" "needs" "[D") (by decide +kernel)) (fun _ h9 => h9) rfl dX1_nextToShed_19 ?_
      refine lv_iload_n hx hb dX1_nextToShed_22 rfl (lv_at hl 2 rfl) ?_
      refine xk_dald hx hb hK hP 7 2 rfl rfl (o := i) (by omega) (by decide) dX1_nextToShed_23 ?_
      refine lv_dconst0 hx hb dX1_nextToShed_24 ?_
      refine lv_dcmp hx hb dX1_nextToShed_25 ?_
      refine lv_if_le (tgt := 33) hx hb dX1_nextToShed_26 (by decide) (fun c2 => ?_) (fun c2 => ?_)
      · skip
        refine lv_iconst (v := nI 0) hx hb dX1_nextToShed_33 (by decide) ?_
        refine lv_istore_n (lv' := [(3, .int (nI 0)), (0, .ref (a 0)), (1, .int (oi y)), (2, .int (nI i))]) hx hb dX1_nextToShed_34 rfl hl (by decide) rfl (fun ls hl => ?_)
        refine lv_iload_n hx hb dX1_nextToShed_35 rfl (lv_at hl 0 rfl) ?_
        refine lv_if_eq (tgt := 61) hx hb dX1_nextToShed_36 (by decide) (fun c9 => ?_) (fun c9 => ?_)
        · skip
          have hm : ¬ may sw V i := fun q => (cv_l_le _).mp c2 (by show dCmp _ _ = _; have q2 := q.2; rw [← hV i hlt] at q2; exact q2)
          have e9 : nx sw ts V (i + 1) = y := by
            rw [e0]
            cases y with
            | none => dsimp only; rw [if_neg hm]
            | some j => dsimp only; rw [if_neg (fun q => hm q.1)]
          refine lv_iinc (v := nI (i + 1)) (lv' := [(2, .int (nI (i + 1))), (3, .int (nI 0)), (0, .ref (a 0)), (1, .int (oi y))]) hx hb dX1_nextToShed_61 hl (k := 3) rfl (nI_1 i) (by decide) rfl (fun ls hl => ?_)
          refine lv_goto (tgt := 4) hx hb dX1_nextToShed_64 (by decide) ?_
          have hl : lv_has ls 4 [(2, .int (nI (i + 1))), (3, .int (nI 0)), (0, .ref (a 0)), (1, .int (oi (nx sw ts V (i + 1))))] := (by rw [e9]; exact hl)
          exact next _ _ _ hlt ⟨hP, hD, hS, lv_sub hl [2, 3, 0] rfl⟩
        · skip
          exact absurd rfl c9
      · skip
        have hm : may sw V i := ⟨c1, by have q := Decidable.of_not_not (fun q => c2 ((cv_l_le _).mpr q)); have q2 : dCmp (dt (ne i)) dZ = some .gt := q; rw [hV i hlt] at q2; exact q2⟩
        refine lv_iconst (v := nI 1) hx hb dX1_nextToShed_29 (by decide) ?_
        refine lv_goto (tgt := 34) hx hb dX1_nextToShed_30 (by decide) ?_
        refine lv_istore_n (lv' := [(3, .int (nI 1)), (0, .ref (a 0)), (1, .int (oi y)), (2, .int (nI i))]) hx hb dX1_nextToShed_34 rfl hl (by decide) rfl (fun ls hl => ?_)
        refine lv_iload_n hx hb dX1_nextToShed_35 rfl (lv_at hl 0 rfl) ?_
        refine lv_if_eq (tgt := 61) hx hb dX1_nextToShed_36 (by decide) (fun c3 => ?_) (fun c3 => ?_)
        · skip
          exact absurd c3 (by decide)
        · skip
          cases y with
          | none =>
            have hl : lv_has ls 4 [(3, .int (nI 1)), (0, .ref (a 0)), (1, .int (-1)), (2, .int (nI i))] := hl
            refine lv_iload_n hx hb dX1_nextToShed_39 rfl (lv_at hl 2 rfl) ?_
            refine lv_iconst (v := (-1)) hx hb dX1_nextToShed_40 (by decide) ?_
            refine lv_icmp_eq (tgt := 59) hx hb dX1_nextToShed_41 (by decide) (fun c4 => ?_) (fun c4 => ?_)
            · skip
              refine lv_iload_n hx hb dX1_nextToShed_59 rfl (lv_at hl 3 rfl) ?_
              refine lv_istore_n (lv' := [(1, .int (nI i)), (3, .int (nI 1)), (0, .ref (a 0)), (2, .int (nI i))]) hx hb dX1_nextToShed_60 rfl hl (by decide) rfl (fun ls hl => ?_)
              have e9 : nx sw ts V (i + 1) = some i := by rw [e0]; dsimp only; rw [if_pos hm]
              refine lv_iinc (v := nI (i + 1)) (lv' := [(2, .int (nI (i + 1))), (1, .int (nI i)), (3, .int (nI 1)), (0, .ref (a 0))]) hx hb dX1_nextToShed_61 hl (k := 3) rfl (nI_1 i) (by decide) rfl (fun ls hl => ?_)
              refine lv_goto (tgt := 4) hx hb dX1_nextToShed_64 (by decide) ?_
              have hl : lv_has ls 4 [(2, .int (nI (i + 1))), (1, .int (oi (nx sw ts V (i + 1)))), (3, .int (nI 1)), (0, .ref (a 0))] := (by rw [e9]; exact hl)
              exact next _ _ _ hlt ⟨hP, hD, hS, lv_sub hl [3, 1, 0] rfl⟩
            · skip
              exact absurd rfl c4
          | some j =>
            have hl : lv_has ls 4 [(3, .int (nI 1)), (0, .ref (a 0)), (1, .int (nI j)), (2, .int (nI i))] := hl
            have hj := (nx_lt hy.symm).1
            refine lv_iload_n hx hb dX1_nextToShed_39 rfl (lv_at hl 2 rfl) ?_
            refine lv_iconst (v := (-1)) hx hb dX1_nextToShed_40 (by decide) ?_
            refine lv_icmp_eq (tgt := 59) hx hb dX1_nextToShed_41 (by decide) (fun c4 => ?_) (fun c4 => ?_)
            · skip
              exact absurd c4 (nI_nm1 j (by omega))
            · skip
              refine lv_aload_n hx hb dX1_nextToShed_44 rfl (lv_at hl 1 rfl) ?_
              refine va_get (D := D) (ci := 1) (v := .ref (a 3)) (C := RX1) (T := TX1) (N := 12) hx hb hts inX1 hown hK hP 0 rfl rfl 2 (by decide) (hts (.fieldLink RX1 17 "GridCommons" "timesShed" "[I") (by decide +kernel)) (fun _ h9 => h9) rfl dX1_nextToShed_45 ?_
              refine lv_iload_n hx hb dX1_nextToShed_48 rfl (lv_at hl 3 rfl) ?_
              refine xk_iald hx hb hK hP 3 0 rfl rfl (o := i) (by omega) (by decide) dX1_nextToShed_49 ?_
              refine lv_aload_n hx hb dX1_nextToShed_50 rfl (lv_at hl 1 rfl) ?_
              refine va_get (D := D) (ci := 1) (v := .ref (a 3)) (C := RX1) (T := TX1) (N := 12) hx hb hts inX1 hown hK hP 0 rfl rfl 2 (by decide) (hts (.fieldLink RX1 17 "GridCommons" "timesShed" "[I") (by decide +kernel)) (fun _ h9 => h9) rfl dX1_nextToShed_51 ?_
              refine lv_iload_n hx hb dX1_nextToShed_54 rfl (lv_at hl 2 rfl) ?_
              refine xk_iald hx hb hK hP 3 0 rfl rfl (o := j) (by omega) (by decide) dX1_nextToShed_55 ?_
              refine lv_icmp_ge (tgt := 61) hx hb dX1_nextToShed_56 (by decide) (fun c5 => ?_) (fun c5 => ?_)
              · skip
                have e9 : nx sw ts V (i + 1) = some j := by rw [e0]; dsimp only; rw [if_neg (fun q => absurd q.2 (Int32.not_lt.mpr c5))]
                refine lv_iinc (v := nI (i + 1)) (lv' := [(2, .int (nI (i + 1))), (3, .int (nI 1)), (0, .ref (a 0)), (1, .int (nI j))]) hx hb dX1_nextToShed_61 hl (k := 3) rfl (nI_1 i) (by decide) rfl (fun ls hl => ?_)
                refine lv_goto (tgt := 4) hx hb dX1_nextToShed_64 (by decide) ?_
                have hl : lv_has ls 4 [(2, .int (nI (i + 1))), (3, .int (nI 1)), (0, .ref (a 0)), (1, .int (oi (nx sw ts V (i + 1))))] := (by rw [e9]; exact hl)
                exact next _ _ _ hlt ⟨hP, hD, hS, lv_sub hl [2, 3, 0] rfl⟩
              · skip
                refine lv_iload_n hx hb dX1_nextToShed_59 rfl (lv_at hl 3 rfl) ?_
                refine lv_istore_n (lv' := [(1, .int (nI i)), (3, .int (nI 1)), (0, .ref (a 0)), (2, .int (nI i))]) hx hb dX1_nextToShed_60 rfl hl (by decide) rfl (fun ls hl => ?_)
                have e9 : nx sw ts V (i + 1) = some i := by rw [e0]; dsimp only; rw [if_pos ⟨hm, Int32.not_le.mp c5⟩]
                refine lv_iinc (v := nI (i + 1)) (lv' := [(2, .int (nI (i + 1))), (1, .int (nI i)), (3, .int (nI 1)), (0, .ref (a 0))]) hx hb dX1_nextToShed_61 hl (k := 3) rfl (nI_1 i) (by decide) rfl (fun ls hl => ?_)
                refine lv_goto (tgt := 4) hx hb dX1_nextToShed_64 (by decide) ?_
                have hl : lv_has ls 4 [(2, .int (nI (i + 1))), (1, .int (oi (nx sw ts V (i + 1)))), (3, .int (nI 1)), (0, .ref (a 0))] := (by rw [e9]; exact hl)
                exact next _ _ _ hlt ⟨hP, hD, hS, lv_sub hl [3, 1, 0] rfl⟩
end
section
/-! GridCommons and its Ledger: the steps of closing a quarter -/
theorem po_step {b k : Nat} {f g F : Nat → Dm} {d : Dm} (h : F = po b k f g) (e : d = g k) : va_up F (b + k) d = po b (k + 1) f g := by rw [h, e, po_s]
theorem po_rd {α : Type} {b k : Nat} {f g F : Nat → α} (h : F = po b k f g) : F (b + k) = f (b + k) := by rw [h, po_at]
theorem po_s0 {α : Type} (k : Nat) (f g : Nat → α) : va_up (po 0 k f g) k (g k) = po 0 (k + 1) f g := by
  have h := po_s 0 k f g
  rw [Nat.zero_add] at h
  exact h
theorem po_at0 {α : Type} (k : Nat) (f g : Nat → α) : po 0 k f g k = f k := by
  have h := po_at 0 k f g
  rw [Nat.zero_add] at h
  exact h
theorem po_in0 {α : Type} {k i : Nat} (f g : Nat → α) (h : i < k) : po 0 k f g i = g i := by
  have h := po_in (b := 0) f g h
  rw [Nat.zero_add] at h
  exact h
theorem po_step0 {k : Nat} {f g F : Nat → Dm} {d : Dm} (h : F = po 0 k f g) (e : d = g k) : va_up F k d = po 0 (k + 1) f g := by rw [h, e, po_s0]
theorem is5_done {f : Nat → UInt64} {V g : Nat → Dm} (h : is5 f (po 0 5 V g)) : is5 f g := h.to (fun j hj => po_in0 V g hj)
theorem nar01 {x : Int32} (h : x = 0 ∨ x = 1) : vp_nar .boolean x = x := by rcases h with rfl | rfl <;> rfl
theorem i32_back (a b : Int32) : a - b + (-1) = a - (b + 1) := by
  apply Int32.toBitVec_inj.mp
  simp only [Int32.toBitVec_add, Int32.toBitVec_sub]
  rw [show (-1 : Int32).toBitVec = 4294967295#32 from by decide, show (1 : Int32).toBitVec = 1#32 from by decide]
  bv_omega
theorem iinc_back (n i : Nat) : nI n - nI (i + 1) + Int32.ofInt (-1) = nI n - nI (i + 1 + 1) := by
  rw [← nI_1 (i + 1)]
  exact i32_back _ _
theorem upto_step {f : Nat → UInt64} {U : Nat → Dm} {i : Nat} {r : UInt64} (h : ∀ j, j < i → dt (f j) = U j) (e : dt r = U i) : ∀ j, j < i + 1 → dt (vf_upd f i r j) = U j := by
  intro j hj
  unfold vf_upd
  by_cases q : j = i
  · rw [if_pos q, q]; exact e
  · rw [if_neg q]; exact h j (by omega)
set_option maxHeartbeats 4000000 in
set_option maxRecDepth 100000 in
theorem mX0_guess (l : Launch) (D : va_G) (cI cZ cD : ClassId) (a : Nat → Nat) (sz : Nat) (sh sw ts : Nat → Int32) (bi : Nat → UInt64) (it tu : Nat → Int32) (ne : Nat → UInt64) (pr so lo : UInt64) (wt : Int32) (lp lz lu : Nat → UInt64) (lk : Nat → Int32) (ld lf lb lw : Nat → UInt64) (o n : Nat) (ho : o < 5) (hn : n ≤ 60) : MetD lw_cs l yX0_guess wsX0_guess ({ frames := 1, cells := 0, slots := 0, locals := 21 } : Room) (va_Pc [.ref (a 8), .int (nI o)] (XP D cI cZ cD (XW a cI cZ cD sh sw ts bi it tu ne pr so lo wt (nI n) lp lz lu lk ld lf lb lw) sz)) (va_Qd (fun (r : UInt64) (u : Unit) => dt r = guess lk (dts lu) o n) (fun (u : Unit) t => XB D cI cZ cD (XW a cI cZ cD sh sw ts bi it tu ne pr so lo wt (nI n) lp lz lu lk ld lf lb lw) (va_A (XW a cI cZ cD sh sw ts bi it tu ne pr so lo wt (nI n) lp lz lu lk ld lf lb lw) sz) t) (va_A (XW a cI cZ cD sh sw ts bi it tu ne pr so lo wt (nI n) lp lz lu lk ld lf lb lw) sz)) 0 0 (va_A (XW a cI cZ cD sh sw ts bi it tu ne pr so lo wt (nI n) lp lz lu lk ld lf lb lw) sz) := by
  refine MetD.ofW (cc := cX0_guess) (maxL := 7) (ret := (some .double)) (by decide +kernel) rfl ?_
  intro p e s m args below meth c s₁ B hml hv hd0
  obtain ⟨rfl, hsz, hP, hK, hD0⟩ := hv
  have hx := B.exec
  have hb := B.bytes
  have hr := B.returns
  have hts := atoms_spec (ws := wsX0_guess) B.pre
  have hown : s.vm.findClass RX0 = some m.cls := findClass_of_methodNamed B.named
  have hlocks := B.notSynchronized
  subst hsz
  have hD := hD0.self (sz := s.heap.size)
  generalize hAe : va_A (XW a cI cZ cD sh sw ts bi it tu ne pr so lo wt (nI n) lp lz lu lk ld lf lb lw) s.heap.size = A at hD ⊢
  have hA : ∀ q : Nat, s.heap.size ≤ q → A q := fun q h => by rw [← hAe]; exact Or.inr h
  have hS : va_S A s.heap s.heap [] := va_S.rf
  have hl := lv_entry ([.ref (a 8), .int (nI o)]) (n := 7) (Nat.le_of_ble_eq_true rfl)
  rw [lg_entry_eq]
  generalize (lg_sl ([.ref (a 8), .int (nI o)]) ++ List.replicate (7 - (lg_sl ([.ref (a 8), .int (nI o)])).length) Slot.unset).toArray = ls at hl ⊢
  have hl : lv_has ls 7 [(0, .ref (a 8)), (1, .int (nI o))] := hl
  have inX0 : ∀ w ∈ wsX00, w ∈ wsX0_guess := by decide +kernel
  refine lv_dconst0 hx hb dX0_guess_0 ?_
  refine lv_dstore_n (lv' := [(2, .double FP.dconst0), (0, .ref (a 8)), (1, .int (nI o))]) hx hb dX0_guess_1 rfl hl (by decide) rfl (fun ls hl => ?_)
  refine lv_iconst (v := nI 0) hx hb dX0_guess_2 (by decide) ?_
  refine lv_istore (lv' := [(4, .int (nI 0)), (2, .double FP.dconst0), (0, .ref (a 8)), (1, .int (nI o))]) hx hb dX0_guess_3 hl (by decide) rfl (fun ls hl => ?_)
  refine lv_aload_n hx hb dX0_guess_5 rfl (lv_at hl 2 rfl) ?_
  refine va_get (D := D) (ci := 0) (v := .int (nI n)) (C := RX0) (T := TX0) (N := 9) hx hb (dr_words hts _) inX0 (xk_od hown) (xk_Kd hK) hP 8 rfl rfl 0 (by decide) (dr_words hts _ (.fieldLink RX0 9 "GridCommons$Ledger" "count" "I") (by decide +kernel)) (fun _ h9 => h9) rfl dX0_guess_6 ?_
  refine lv_iconst (v := nI 1) hx hb dX0_guess_9 (by decide) ?_
  refine lv_isub hx hb dX0_guess_10 ?_
  refine lv_istore (lv' := [(5, .int ((nI n) - (nI 1))), (4, .int (nI 0)), (2, .double FP.dconst0), (0, .ref (a 8)), (1, .int (nI o))]) hx hb dX0_guess_11 hl (by decide) rfl (fun ls hl => ?_)
  refine xk_loop (fun i H locs ls d => ∃ (f : Nat) (x : UInt64), (f = (gst lk (dts lu) o n i).1) ∧ (dt x = (gst lk (dts lu) o n i).2) ∧ (va_P D vwCl (XW a cI cZ cD sh sw ts bi it tu ne pr so lo wt (nI n) lp lz lu lk ld lf lb lw) H) ∧ (va_D A (XW a cI cZ cD sh sw ts bi it tu ne pr so lo wt (nI n) lp lz lu lk ld lf lb lw)) ∧ (va_S A s.heap H locs) ∧ (s.drawn.sameBut d lw_cs) ∧ (lv_has ls 7 [(0, .ref (a 8)), (1, .int (nI o)), (2, .double x), (4, .int (nI f)), (5, .int (nI n - nI (i + 1)))])) n ?_ (i := 0) (Nat.zero_le _) ⟨0, FP.dconst0, rfl, rfl, hP, hD, hS, hd0, lv_sub hl [3, 4, 2, 1, 0] rfl⟩
  intro i H locs ls d hi hI next
  obtain ⟨f, x, hq0, hq1, hP, hD, hS, hdl, hl⟩ := hI
  have hf2 := gst_le lk (dts lu) o n i
  rw [← hq0] at hf2
  refine lv_iload hx hb dX0_guess_13 (lv_at hl 4 rfl) ?_
  refine lv_if_lt (tgt := 61) hx hb dX0_guess_15 (by decide) (fun c => ?_) (fun c => ?_)
  · skip
    have hin : i = n := by
      rcases Nat.lt_or_ge i n with q | q
      · have e5 : nI n - nI (i + 1) = nI (n - (i + 1)) := pk_sub (by omega)
        rw [e5] at c
        exact absurd c (nI_pos (by omega))
      · omega
    have e1 : f = (gst lk (dts lu) o n n).1 := by rw [hq0, hin]
    have e2 : dt x = (gst lk (dts lu) o n n).2 := by rw [hq1, hin]
    refine lv_iload hx hb dX0_guess_61 (lv_at hl 3 rfl) ?_
    refine lv_iconst (v := nI 2) hx hb dX0_guess_63 (by decide) ?_
    refine lv_icmp_ne (tgt := 75) hx hb dX0_guess_64 (by decide) (fun c4 => ?_) (fun c4 => ?_)
    · skip
      refine lv_dload_n hx hb dX0_guess_75 rfl (lv_at hl 2 rfl) ?_
      have e9 : dt x = guess lk (dts lu) o n := by unfold guess; rw [if_neg (fun q => c4 (by rw [e1, q])), e2]
      refine W.endD hdl ?_
      exact W.dret hx hb hr (fun t ht hW => ⟨⟨_, (), rfl, e9, by rw [ht]; exact hP, va_K.moved hW.alike (xk_Kd hK), hD⟩, hS.F ht⟩) hS.2.2 dX0_guess_76
    · skip
      refine lv_dload_n hx hb dX0_guess_67 rfl (lv_at hl 2 rfl) ?_
      refine lv_ldc2d hx hb (xk_od hown) (dr_words hts _ (.constantDouble RX0 45 4611686018427387904) (by decide +kernel)) dX0_guess_68 ?_
      refine lv_ddiv_any hdl lw_bits hx hb dX0_guess_71 (fun r1 _ hal hd2 => ?_)
      have er1 := dt_div hal
      refine lv_goto (tgt := 76) hx hb dX0_guess_72 (by decide) ?_
      have e9 : dt r1 = guess lk (dts lu) o n := by unfold guess; rw [if_pos (by rw [← e1]; exact (nI_eq (by omega) (by omega)).mp c4), er1, e2]
      refine W.endD hd2 ?_
      exact W.dret hx hb hr (fun t ht hW => ⟨⟨_, (), rfl, e9, by rw [ht]; exact hP, va_K.moved hW.alike (xk_Kd hK), hD⟩, hS.F ht⟩) hS.2.2 dX0_guess_76
  · skip
    have hlt : i < n := by
      rcases Nat.lt_or_ge i n with q | q
      · exact q
      · exact absurd (pk_sneg (by omega) (by omega)) c
    refine lv_iload hx hb dX0_guess_18 (lv_at hl 3 rfl) ?_
    refine lv_iconst (v := nI 2) hx hb dX0_guess_20 (by decide) ?_
    refine lv_icmp_ge (tgt := 61) hx hb dX0_guess_21 (by decide) (fun c2 => ?_) (fun c2 => ?_)
    · skip
      have hstop : ¬ (gst lk (dts lu) o n i).1 < 2 := by rw [← hq0]; have := (nI_leI (by omega) (by omega)).mp c2; omega
      have e0 := gst_stop hstop (n - i)
      rw [show i + (n - i) = n by omega] at e0
      have e1 : f = (gst lk (dts lu) o n n).1 := by rw [hq0, e0]
      have e2 : dt x = (gst lk (dts lu) o n n).2 := by rw [hq1, e0]
      refine lv_iload hx hb dX0_guess_61 (lv_at hl 3 rfl) ?_
      refine lv_iconst (v := nI 2) hx hb dX0_guess_63 (by decide) ?_
      refine lv_icmp_ne (tgt := 75) hx hb dX0_guess_64 (by decide) (fun c4 => ?_) (fun c4 => ?_)
      · skip
        refine lv_dload_n hx hb dX0_guess_75 rfl (lv_at hl 2 rfl) ?_
        have e9 : dt x = guess lk (dts lu) o n := by unfold guess; rw [if_neg (fun q => c4 (by rw [e1, q])), e2]
        refine W.endD hdl ?_
        exact W.dret hx hb hr (fun t ht hW => ⟨⟨_, (), rfl, e9, by rw [ht]; exact hP, va_K.moved hW.alike (xk_Kd hK), hD⟩, hS.F ht⟩) hS.2.2 dX0_guess_76
      · skip
        refine lv_dload_n hx hb dX0_guess_67 rfl (lv_at hl 2 rfl) ?_
        refine lv_ldc2d hx hb (xk_od hown) (dr_words hts _ (.constantDouble RX0 45 4611686018427387904) (by decide +kernel)) dX0_guess_68 ?_
        refine lv_ddiv_any hdl lw_bits hx hb dX0_guess_71 (fun r3 _ hal hd4 => ?_)
        have er3 := dt_div hal
        refine lv_goto (tgt := 76) hx hb dX0_guess_72 (by decide) ?_
        have e9 : dt r3 = guess lk (dts lu) o n := by unfold guess; rw [if_pos (by rw [← e1]; exact (nI_eq (by omega) (by omega)).mp c4), er3, e2]
        refine W.endD hd4 ?_
        exact W.dret hx hb hr (fun t ht hW => ⟨⟨_, (), rfl, e9, by rw [ht]; exact hP, va_K.moved hW.alike (xk_Kd hK), hD⟩, hS.F ht⟩) hS.2.2 dX0_guess_76
    · skip
      have hf1 : f < 2 := by
        rcases Nat.lt_or_ge f 2 with q | q
        · exact q
        · exact absurd ((nI_leI (by omega) (by omega)).mpr q) c2
      have e5 : nI n - nI (i + 1) = nI (n - 1 - i) := by rw [pk_sub (by omega), show n - (i + 1) = n - 1 - i by omega]
      refine lv_iload_n hx hb dX0_guess_24 rfl (lv_at hl 1 rfl) ?_
      refine lv_iload hx hb dX0_guess_25 (lv_at hl 4 rfl) ?_
      refine xk_i (y := nI (n - 1 - i)) e5 ?_
      refine vp_callSi (va_Run.run (va_runS (As := [.int (nI o), .int (nI (n - 1 - i))]) (rest := []) ⟨hx, hb, hml, (xk_od hown), (dr_words hts _)⟩ (mX0_slot l o (n - 1 - i)) (va_cwS 2 (dr_words hts _) gX0_guess_X0_slot rfl rfl rfl (by decide +kernel) ⟨Nat.le_of_ble_eq_true rfl, Nat.le_of_ble_eq_true rfl⟩) ⟨fun a U g mk q => q, fun U hU hW => ⟨rfl, trivial⟩⟩ rfl rfl hl.1 rfl (lv_room (Nat.le_of_ble_eq_true rfl)) dX0_guess_27 ⟨Nat.le_of_ble_eq_true rfl, Nat.le_of_ble_eq_true rfl⟩)) (fun r hr1 => ?_)
      subst hr1
      refine lv_istore (lv' := [(6, .int (nI (5 * (n - 1 - i) + o))), (0, .ref (a 8)), (1, .int (nI o)), (2, .double x), (4, .int (nI f)), (5, .int (nI n - nI (i + 1)))]) hx hb dX0_guess_30 hl (by decide) rfl (fun ls hl => ?_)
      refine lv_aload_n hx hb dX0_guess_32 rfl (lv_at hl 1 rfl) ?_
      refine va_get (D := D) (ci := 0) (v := .ref (a 12)) (C := RX0) (T := TX0) (N := 9) hx hb (dr_words hts _) inX0 (xk_od hown) (xk_Kd hK) hP 8 rfl rfl 4 (by decide) (dr_words hts _ (.fieldLink RX0 25 "GridCommons$Ledger" "known" "[Z") (by decide +kernel)) (fun _ h9 => h9) rfl dX0_guess_33 ?_
      refine lv_iload hx hb dX0_guess_36 (lv_at hl 0 rfl) ?_
      refine xk_zald hx hb (xk_Kd hK) hP 12 1 rfl rfl (o := (5 * (n - 1 - i) + o)) (by omega) (by decide) dX0_guess_38 ?_
      refine lv_if_eq (tgt := 55) hx hb dX0_guess_39 (by decide) (fun c3 => ?_) (fun c3 => ?_)
      · skip
        have e9 : gst lk (dts lu) o n (i + 1) = gst lk (dts lu) o n i := if_neg (fun q => q.2 c3)
        refine lv_iinc (v := nI n - nI (i + 1 + 1)) (lv' := [(5, .int (nI n - nI (i + 1 + 1))), (6, .int (nI (5 * (n - 1 - i) + o))), (0, .ref (a 8)), (1, .int (nI o)), (2, .double x), (4, .int (nI f))]) hx hb dX0_guess_55 hl (k := 5) rfl (iinc_back n i) (by decide) rfl (fun ls hl => ?_)
        refine lv_goto (tgt := 13) hx hb dX0_guess_58 (by decide) ?_
        exact next _ _ _ _ hlt ⟨f, x, (by rw [e9]; exact hq0), (by rw [e9]; exact hq1), hP, hD, hS, hdl, lv_sub hl [2, 3, 4, 5, 0] rfl⟩
      · skip
        refine lv_dload_n hx hb dX0_guess_42 rfl (lv_at hl 3 rfl) ?_
        refine lv_aload_n hx hb dX0_guess_43 rfl (lv_at hl 1 rfl) ?_
        refine va_get (D := D) (ci := 0) (v := .ref (a 11)) (C := RX0) (T := TX0) (N := 9) hx hb (dr_words hts _) inX0 (xk_od hown) (xk_Kd hK) hP 8 rfl rfl 3 (by decide) (dr_words hts _ (.fieldLink RX0 22 "GridCommons$Ledger" "use" "[D") (by decide +kernel)) (fun _ h9 => h9) rfl dX0_guess_44 ?_
        refine lv_iload hx hb dX0_guess_47 (lv_at hl 0 rfl) ?_
        refine xk_dald hx hb (xk_Kd hK) hP 11 2 rfl rfl (o := (5 * (n - 1 - i) + o)) (by omega) (by decide) dX0_guess_49 ?_
        refine lv_dadd_any hdl lw_bits hx hb dX0_guess_50 (fun r5 _ hal hd6 => ?_)
        have er5 := dt_add hal
        refine lv_dstore_n (lv' := [(2, .double r5), (6, .int (nI (5 * (n - 1 - i) + o))), (0, .ref (a 8)), (1, .int (nI o)), (4, .int (nI f)), (5, .int (nI n - nI (i + 1)))]) hx hb dX0_guess_51 rfl hl (by decide) rfl (fun ls hl => ?_)
        refine lv_iinc (v := nI (f + 1)) (lv' := [(4, .int (nI (f + 1))), (2, .double r5), (6, .int (nI (5 * (n - 1 - i) + o))), (0, .ref (a 8)), (1, .int (nI o)), (5, .int (nI n - nI (i + 1)))]) hx hb dX0_guess_52 hl (k := 4) rfl (nI_1 f) (by decide) rfl (fun ls hl => ?_)
        have e9 : gst lk (dts lu) o n (i + 1) = ((gst lk (dts lu) o n i).1 + 1, dAdd (gst lk (dts lu) o n i).2 (dts lu (5 * (n - 1 - i) + o))) := if_pos ⟨by rw [← hq0]; exact hf1, c3⟩
        refine lv_iinc (v := nI n - nI (i + 1 + 1)) (lv' := [(5, .int (nI n - nI (i + 1 + 1))), (4, .int (nI (f + 1))), (2, .double r5), (6, .int (nI (5 * (n - 1 - i) + o))), (0, .ref (a 8)), (1, .int (nI o))]) hx hb dX0_guess_55 hl (k := 5) rfl (iinc_back n i) (by decide) rfl (fun ls hl => ?_)
        refine lv_goto (tgt := 13) hx hb dX0_guess_58 (by decide) ?_
        exact next _ _ _ _ hlt ⟨(f + 1), r5, (by rw [e9, ← hq0]), (by rw [e9, er5, hq1]; rfl), hP, hD, hS, hd6, lv_sub hl [4, 5, 2, 1, 0] rfl⟩
set_option maxHeartbeats 4000000 in
set_option maxRecDepth 100000 in
theorem mX1_writeUses (l : Launch) (D : va_G) (cI cZ cD : ClassId) (a : Nat → Nat) (sz : Nat) (sh sw ts : Nat → Int32) (bi : Nat → UInt64) (it tu : Nat → Int32) (ne : Nat → UInt64) (pr so lo : UInt64) (wt : Int32) (lp lz lu : Nat → UInt64) (lk : Nat → Int32) (ld lf lb lw : Nat → UInt64) (n : Nat) (hn : n < 60) (hit : ∀ j, it j = 0 ∨ it j = 1) : MetD lw_cs l yX1_writeUses wsX1_writeUses ({ frames := 2, cells := 0, slots := 0, locals := 47 } : Room) (va_Pc [.ref (a 0), .int (nI n)] (XP D cI cZ cD (XW a cI cZ cD sh sw ts bi it tu ne pr so lo wt (nI n) lp lz lu lk ld lf lb lw) sz)) (va_Qv (fun (u : (Nat → UInt64) × (Nat → UInt64)) => dts u.1 = po (5 * n) 5 (dts lu) (use0 it tu lk (dts lu) n) ∧ is5 u.2 (use0 it tu lk (dts lu) n)) (fun (u : (Nat → UInt64) × (Nat → UInt64)) t => XB D cI cZ cD (XW a cI cZ cD sh sw ts bi (po 0 5 it (fun _ => 0)) tu u.2 pr so lo wt (nI n) lp lz u.1 (po (5 * n) 5 lk it) ld lf lb lw) (va_A (XW a cI cZ cD sh sw ts bi it tu ne pr so lo wt (nI n) lp lz lu lk ld lf lb lw) sz) t) (va_A (XW a cI cZ cD sh sw ts bi it tu ne pr so lo wt (nI n) lp lz lu lk ld lf lb lw) sz)) 0 0 (va_A (XW a cI cZ cD sh sw ts bi it tu ne pr so lo wt (nI n) lp lz lu lk ld lf lb lw) sz) := by
  refine MetD.ofW (cc := cX1_writeUses) (maxL := 6) (ret := none) (by decide +kernel) rfl ?_
  intro p e s m args below meth c s₁ B hml hv hd0
  obtain ⟨rfl, hsz, hP, hK, hD0⟩ := hv
  have hx := B.exec
  have hb := B.bytes
  have hr := B.returns
  have hts := atoms_spec (ws := wsX1_writeUses) B.pre
  have hown : s.vm.findClass RX1 = some m.cls := findClass_of_methodNamed B.named
  have hlocks := B.notSynchronized
  subst hsz
  have hD := hD0.self (sz := s.heap.size)
  generalize hAe : va_A (XW a cI cZ cD sh sw ts bi it tu ne pr so lo wt (nI n) lp lz lu lk ld lf lb lw) s.heap.size = A at hD ⊢
  have hA : ∀ q : Nat, s.heap.size ≤ q → A q := fun q h => by rw [← hAe]; exact Or.inr h
  have hS : va_S A s.heap s.heap [] := va_S.rf
  have hl := lv_entry ([.ref (a 0), .int (nI n)]) (n := 6) (Nat.le_of_ble_eq_true rfl)
  rw [lg_entry_eq]
  generalize (lg_sl ([.ref (a 0), .int (nI n)]) ++ List.replicate (6 - (lg_sl ([.ref (a 0), .int (nI n)])).length) Slot.unset).toArray = ls at hl ⊢
  have hl : lv_has ls 6 [(0, .ref (a 0)), (1, .int (nI n))] := hl
  have inX1 : ∀ w ∈ wsX10, w ∈ wsX1_writeUses := by decide +kernel
  have inX0 : ∀ w ∈ wsX00, w ∈ wsX1_writeUses := by decide +kernel
  refine lv_iconst (v := nI 0) hx hb dX1_writeUses_0 (by decide) ?_
  refine lv_istore_n (lv' := [(2, .int (nI 0)), (0, .ref (a 0)), (1, .int (nI n))]) hx hb dX1_writeUses_1 rfl hl (by decide) rfl (fun ls hl => ?_)
  rw [← po_0 (5 * n) lk it, ← po_0 0 it (fun _ => (0 : Int32))] at hP hD
  refine xk_loop (fun i H locs ls d => ∃ (lu' : Nat → UInt64) (ne' : Nat → UInt64), (dts lu' = po (5 * n) i (dts lu) (use0 it tu lk (dts lu) n)) ∧ (∀ j, j < i → dt (ne' j) = use0 it tu lk (dts lu) n j) ∧ (va_P D vwCl (XW a cI cZ cD sh sw ts bi (po 0 i it (fun _ => (0 : Int32))) tu ne' pr so lo wt (nI n) lp lz lu' (po (5 * n) i lk it) ld lf lb lw) H) ∧ (va_D A (XW a cI cZ cD sh sw ts bi (po 0 i it (fun _ => (0 : Int32))) tu ne' pr so lo wt (nI n) lp lz lu' (po (5 * n) i lk it) ld lf lb lw)) ∧ (va_S A s.heap H locs) ∧ (s.drawn.sameBut d lw_cs) ∧ (lv_has ls 6 [(0, .ref (a 0)), (1, .int (nI n)), (2, .int (nI i))])) 5 ?_ (i := 0) (Nat.zero_le _) ⟨lu, ne, (po_0 _ _ _).symm, (fun j hj => absurd hj (Nat.not_lt_zero j)), hP, hD, hS, hd0, lv_sub hl [1, 2, 0] rfl⟩
  intro i H locs ls d hi hI next
  obtain ⟨lu', ne', hq0, hq1, hP, hD, hS, hdl, hl⟩ := hI
  refine lv_iload_n hx hb dX1_writeUses_2 rfl (lv_at hl 2 rfl) ?_
  refine lv_iconst (v := nI 5) hx hb dX1_writeUses_3 (by decide) ?_
  refine lv_icmp_ge (tgt := 89) hx hb dX1_writeUses_4 (by decide) (fun c => ?_) (fun c => ?_)
  · skip
    obtain rfl := xk_ge hi (by decide) c
    refine W.endD hdl ?_
    exact W.vret hx hb hr (fun t ht hW => ⟨⟨(lu', ne'), rfl, ⟨hq0, hq1⟩, by rw [ht]; exact hP, va_K.moved hW.alike (xk_Kd hK), hD⟩, hS.F ht⟩) hS.2.2 dX1_writeUses_89
  · skip
    have hlt := xk_nge hi (by decide) c
    refine lv_iload_n hx hb dX1_writeUses_7 rfl (lv_at hl 2 rfl) ?_
    refine lv_iload_n hx hb dX1_writeUses_8 rfl (lv_at hl 1 rfl) ?_
    refine vp_callSi (va_Run.run (va_runS (As := [.int (nI i), .int (nI n)]) (rest := []) ⟨hx, hb, hml, (xk_od hown), (dr_words hts _)⟩ (mX0_slot l i n) (va_cwS 2 (dr_words hts _) gX1_writeUses_X0_slot rfl rfl rfl (by decide +kernel) ⟨Nat.le_of_ble_eq_true rfl, Nat.le_of_ble_eq_true rfl⟩) ⟨fun a U g mk q => q, fun U hU hW => ⟨rfl, trivial⟩⟩ rfl rfl hl.1 rfl (lv_room (Nat.le_of_ble_eq_true rfl)) dX1_writeUses_9 ⟨Nat.le_of_ble_eq_true rfl, Nat.le_of_ble_eq_true rfl⟩)) (fun r hr1 => ?_)
    subst hr1
    refine lv_istore_n (lv' := [(3, .int (nI (5 * n + i))), (0, .ref (a 0)), (1, .int (nI n)), (2, .int (nI i))]) hx hb dX1_writeUses_12 rfl hl (by decide) rfl (fun ls hl => ?_)
    refine lv_aload_n hx hb dX1_writeUses_13 rfl (lv_at hl 1 rfl) ?_
    refine va_get (D := D) (ci := 1) (v := .ref (a 5)) (C := RX1) (T := TX1) (N := 12) hx hb (dr_words hts _) inX1 (xk_od hown) (xk_Kd hK) hP 0 rfl rfl 4 (by decide) (dr_words hts _ (.fieldLink RX1 24 "GridCommons" "isTold" "[Z") (by decide +kernel)) (fun _ h9 => h9) rfl dX1_writeUses_14 ?_
    refine lv_iload_n hx hb dX1_writeUses_17 rfl (lv_at hl 3 rfl) ?_
    refine xk_zald hx hb (xk_Kd hK) hP 5 1 rfl rfl (o := i) (by omega) (by decide) dX1_writeUses_18 ?_
    refine xk_i (y := it i) (po_at0 i it _) ?_
    refine lv_if_eq (tgt := 32) hx hb dX1_writeUses_19 (by decide) (fun c1 => ?_) (fun c1 => ?_)
    · skip
      refine lv_aload_n hx hb dX1_writeUses_32 rfl (lv_at hl 1 rfl) ?_
      refine va_get (D := D) (ci := 1) (v := .ref (a 8)) (C := RX1) (T := TX1) (N := 12) hx hb (dr_words hts _) inX1 (xk_od hown) (xk_Kd hK) hP 0 rfl rfl 6 (by decide) (dr_words hts _ (.fieldLink RX1 33 "GridCommons" "ledger" "LGridCommons$Ledger;") (by decide +kernel)) (fun _ h9 => h9) rfl dX1_writeUses_33 ?_
      refine lv_iload_n hx hb dX1_writeUses_36 rfl (lv_at hl 3 rfl) ?_
      have hFc := va_free (wc := XW a cI cZ cD sh sw ts bi (po 0 i it (fun _ => (0 : Int32))) tu ne' pr so lo wt (nI n) lp lz lu' (po (5 * n) i lk it) ld lf lb lw) hD hS hA [0, 1, 2, 3, 4, 5, 6, 7, 8, 9, 10, 11, 12, 13, 14, 15, 16] rfl
      refine va_calldD hdl (va_runV_D (As := [.int (nI i)]) (rest := []) ⟨hx, hb, hml, (xk_od hown), (dr_words hts _)⟩ (mX0_guess l D cI cZ cD a _ sh sw ts bi (po 0 i it (fun _ => (0 : Int32))) tu ne' pr so lo wt lp lz lu' (po (5 * n) i lk it) ld lf lb lw i n (by omega) (by omega)) (cwV 1 (dr_words hts _) gX1_writeUses_X0_guess rfl rfl rfl (by decide +kernel) ⟨Nat.le_of_ble_eq_true rfl, Nat.le_of_ble_eq_true rfl⟩) ⟨xk_blind, va_recv (xk_Kd hK) hP (ci := 0) (q0 := 8) rfl rfl, xk_pre hP (xk_Kd hK) hD⟩ rfl rfl hl.1 rfl (lv_room (Nat.le_of_ble_eq_true rfl)) dX1_writeUses_37 ⟨Nat.le_of_ble_eq_true rfl, Nat.le_of_ble_eq_true rfl⟩) hS (fun q _ h => hFc q h) hFc (fun r u t H locs ht hvm hw hB hz1 hk1 hS _ hd1 => ?_)
      obtain ⟨hP, -, hD1⟩ := hB
      rw [ht] at hP
      have hD := hD1.weaken (B := A) (fun _ _ _ h => hFc _ h)
      have hP : va_P D vwCl (XW a cI cZ cD sh sw ts bi (po 0 i it (fun _ => (0 : Int32))) tu ne' pr so lo wt (nI n) lp lz lu' (po (5 * n) i lk it) ld lf lb lw) H := hP
      have hD : va_D A (XW a cI cZ cD sh sw ts bi (po 0 i it (fun _ => (0 : Int32))) tu ne' pr so lo wt (nI n) lp lz lu' (po (5 * n) i lk it) ld lf lb lw) := hD
      have e8 : dt r = use0 it tu lk (dts lu) n i := by rw [hw]; unfold use0; rw [if_pos c1]; exact guess_c hlt (fun j hj => po_out _ _ hj) (fun j hj => by rw [hq0]; exact po_out _ _ hj)
      refine lv_dstore (lv' := [(4, .double r), (3, .int (nI (5 * n + i))), (0, .ref (a 0)), (1, .int (nI n)), (2, .int (nI i))]) hx hb dX1_writeUses_40 hl (by decide) rfl (fun ls hl => ?_)
      refine lv_aload_n hx hb dX1_writeUses_42 rfl (lv_at hl 2 rfl) ?_
      refine va_get (D := D) (ci := 1) (v := .ref (a 8)) (C := RX1) (T := TX1) (N := 12) hx hb (dr_words hts _) inX1 (xk_od hown) (xk_Kd hK) hP 0 rfl rfl 6 (by decide) (dr_words hts _ (.fieldLink RX1 33 "GridCommons" "ledger" "LGridCommons$Ledger;") (by decide +kernel)) (fun _ h9 => h9) rfl dX1_writeUses_43 ?_
      refine va_get (D := D) (ci := 0) (v := .ref (a 12)) (C := RX0) (T := TX0) (N := 9) hx hb (dr_words hts _) inX0 (xk_od hown) (xk_Kd hK) hP 8 rfl rfl 4 (by decide) (dr_words hts _ (.fieldLink RX1 120 "GridCommons$Ledger" "known" "[Z") (by decide +kernel)) (fun _ h9 => h9) rfl dX1_writeUses_46 ?_
      refine lv_iload_n hx hb dX1_writeUses_49 rfl (lv_at hl 1 rfl) ?_
      refine lv_aload_n hx hb dX1_writeUses_50 rfl (lv_at hl 2 rfl) ?_
      refine va_get (D := D) (ci := 1) (v := .ref (a 5)) (C := RX1) (T := TX1) (N := 12) hx hb (dr_words hts _) inX1 (xk_od hown) (xk_Kd hK) hP 0 rfl rfl 4 (by decide) (dr_words hts _ (.fieldLink RX1 24 "GridCommons" "isTold" "[Z") (by decide +kernel)) (fun _ h9 => h9) rfl dX1_writeUses_51 ?_
      refine lv_iload_n hx hb dX1_writeUses_54 rfl (lv_at hl 4 rfl) ?_
      refine xk_zald hx hb (xk_Kd hK) hP 5 1 rfl rfl (o := i) (by omega) (by decide) dX1_writeUses_55 ?_
      refine xk_i (y := it i) (po_at0 i it _) ?_
      refine xk_zast (x' := it i) hx hb (xk_Kd hK) hP hD hS 12 1 rfl rfl (o := (5 * n + i)) (by omega) (by decide) (nar01 (hit i)) dX1_writeUses_56 (fun H locs hP hD hS => ?_)
      have hP : va_P D vwCl (XW a cI cZ cD sh sw ts bi (po 0 i it (fun _ => (0 : Int32))) tu ne' pr so lo wt (nI n) lp lz lu' (upd (po (5 * n) i lk it) (5 * n + i) (it i)) ld lf lb lw) H := hP
      have hD : va_D A (XW a cI cZ cD sh sw ts bi (po 0 i it (fun _ => (0 : Int32))) tu ne' pr so lo wt (nI n) lp lz lu' (upd (po (5 * n) i lk it) (5 * n + i) (it i)) ld lf lb lw) := hD
      refine lv_aload_n hx hb dX1_writeUses_57 rfl (lv_at hl 2 rfl) ?_
      refine va_get (D := D) (ci := 1) (v := .ref (a 8)) (C := RX1) (T := TX1) (N := 12) hx hb (dr_words hts _) inX1 (xk_od hown) (xk_Kd hK) hP 0 rfl rfl 6 (by decide) (dr_words hts _ (.fieldLink RX1 33 "GridCommons" "ledger" "LGridCommons$Ledger;") (by decide +kernel)) (fun _ h9 => h9) rfl dX1_writeUses_58 ?_
      refine va_get (D := D) (ci := 0) (v := .ref (a 11)) (C := RX0) (T := TX0) (N := 9) hx hb (dr_words hts _) inX0 (xk_od hown) (xk_Kd hK) hP 8 rfl rfl 3 (by decide) (dr_words hts _ (.fieldLink RX1 125 "GridCommons$Ledger" "use" "[D") (by decide +kernel)) (fun _ h9 => h9) rfl dX1_writeUses_61 ?_
      refine lv_iload_n hx hb dX1_writeUses_64 rfl (lv_at hl 1 rfl) ?_
      refine lv_dload hx hb dX1_writeUses_65 (lv_at hl 0 rfl) ?_
      refine xk_dast hx hb (xk_Kd hK) hP hD hS 11 2 rfl rfl (o := (5 * n + i)) (by omega) (by decide) dX1_writeUses_67 (fun H locs hP hD hS => ?_)
      have hP : va_P D vwCl (XW a cI cZ cD sh sw ts bi (po 0 i it (fun _ => (0 : Int32))) tu ne' pr so lo wt (nI n) lp lz (vf_upd lu' (5 * n + i) r) (upd (po (5 * n) i lk it) (5 * n + i) (it i)) ld lf lb lw) H := hP
      have hD : va_D A (XW a cI cZ cD sh sw ts bi (po 0 i it (fun _ => (0 : Int32))) tu ne' pr so lo wt (nI n) lp lz (vf_upd lu' (5 * n + i) r) (upd (po (5 * n) i lk it) (5 * n + i) (it i)) ld lf lb lw) := hD
      refine lv_aload_n hx hb dX1_writeUses_68 rfl (lv_at hl 2 rfl) ?_
      refine va_get (D := D) (ci := 1) (v := .ref (a 7)) (C := RX1) (T := TX1) (N := 12) hx hb (dr_words hts _) inX1 (xk_od hown) (xk_Kd hK) hP 0 rfl rfl 10 (by decide) (dr_words hts _ (.fieldLink RX1 50 "GridCommons" "needs" "[D") (by decide +kernel)) (fun _ h9 => h9) rfl dX1_writeUses_69 ?_
      refine lv_iload_n hx hb dX1_writeUses_72 rfl (lv_at hl 4 rfl) ?_
      refine lv_dload hx hb dX1_writeUses_73 (lv_at hl 0 rfl) ?_
      refine xk_dast hx hb (xk_Kd hK) hP hD hS 7 2 rfl rfl (o := i) (by omega) (by decide) dX1_writeUses_75 (fun H locs hP hD hS => ?_)
      have hP : va_P D vwCl (XW a cI cZ cD sh sw ts bi (po 0 i it (fun _ => (0 : Int32))) tu (vf_upd ne' i r) pr so lo wt (nI n) lp lz (vf_upd lu' (5 * n + i) r) (upd (po (5 * n) i lk it) (5 * n + i) (it i)) ld lf lb lw) H := hP
      have hD : va_D A (XW a cI cZ cD sh sw ts bi (po 0 i it (fun _ => (0 : Int32))) tu (vf_upd ne' i r) pr so lo wt (nI n) lp lz (vf_upd lu' (5 * n + i) r) (upd (po (5 * n) i lk it) (5 * n + i) (it i)) ld lf lb lw) := hD
      refine lv_aload_n hx hb dX1_writeUses_76 rfl (lv_at hl 2 rfl) ?_
      refine va_get (D := D) (ci := 1) (v := .ref (a 5)) (C := RX1) (T := TX1) (N := 12) hx hb (dr_words hts _) inX1 (xk_od hown) (xk_Kd hK) hP 0 rfl rfl 4 (by decide) (dr_words hts _ (.fieldLink RX1 24 "GridCommons" "isTold" "[Z") (by decide +kernel)) (fun _ h9 => h9) rfl dX1_writeUses_77 ?_
      refine lv_iload_n hx hb dX1_writeUses_80 rfl (lv_at hl 4 rfl) ?_
      refine lv_iconst (v := nI 0) hx hb dX1_writeUses_81 (by decide) ?_
      refine xk_zast (x' := 0) hx hb (xk_Kd hK) hP hD hS 5 1 rfl rfl (o := i) (by omega) (by decide) rfl dX1_writeUses_82 (fun H locs hP hD hS => ?_)
      have hP : va_P D vwCl (XW a cI cZ cD sh sw ts bi (upd (po 0 i it (fun _ => (0 : Int32))) i 0) tu (vf_upd ne' i r) pr so lo wt (nI n) lp lz (vf_upd lu' (5 * n + i) r) (upd (po (5 * n) i lk it) (5 * n + i) (it i)) ld lf lb lw) H := hP
      have hD : va_D A (XW a cI cZ cD sh sw ts bi (upd (po 0 i it (fun _ => (0 : Int32))) i 0) tu (vf_upd ne' i r) pr so lo wt (nI n) lp lz (vf_upd lu' (5 * n + i) r) (upd (po (5 * n) i lk it) (5 * n + i) (it i)) ld lf lb lw) := hD
      have e1 : upd (po (5 * n) i lk it) (5 * n + i) (it i) = po (5 * n) (i + 1) lk it := po_s _ _ _ _
      have e2 : upd (po 0 i it (fun _ => (0 : Int32))) i 0 = po 0 (i + 1) it (fun _ => (0 : Int32)) := po_s0 i it (fun _ => (0 : Int32))
      rw [e1, e2] at hP hD
      refine lv_iinc (v := nI (i + 1)) (lv' := [(2, .int (nI (i + 1))), (4, .double r), (3, .int (nI (5 * n + i))), (0, .ref (a 0)), (1, .int (nI n))]) hx hb dX1_writeUses_83 hl (k := 4) rfl (nI_1 i) (by decide) rfl (fun ls hl => ?_)
      refine lv_goto (tgt := 2) hx hb dX1_writeUses_86 (by decide) ?_
      exact next _ _ _ _ hlt ⟨(vf_upd lu' (5 * n + i) r), (vf_upd ne' i r), (by rw [dts_up]; exact po_step hq0 e8), (upto_step hq1 e8), hP, hD, hS, hd1, lv_sub hl [3, 4, 0] rfl⟩
    · skip
      refine lv_aload_n hx hb dX1_writeUses_22 rfl (lv_at hl 1 rfl) ?_
      refine va_get (D := D) (ci := 1) (v := .ref (a 6)) (C := RX1) (T := TX1) (N := 12) hx hb (dr_words hts _) inX1 (xk_od hown) (xk_Kd hK) hP 0 rfl rfl 5 (by decide) (dr_words hts _ (.fieldLink RX1 27 "GridCommons" "toldUse" "[I") (by decide +kernel)) (fun _ h9 => h9) rfl dX1_writeUses_23 ?_
      refine lv_iload_n hx hb dX1_writeUses_26 rfl (lv_at hl 3 rfl) ?_
      refine xk_iald hx hb (xk_Kd hK) hP 6 0 rfl rfl (o := i) (by omega) (by decide) dX1_writeUses_27 ?_
      refine lv_i2d hx hb dX1_writeUses_28 ?_
      refine lv_goto (tgt := 40) hx hb dX1_writeUses_29 (by decide) ?_
      have e8 : dt (FP.i2d (tu i)) = use0 it tu lk (dts lu) n i := by unfold use0; rw [if_neg c1]; rfl
      refine lv_dstore (lv' := [(4, .double (FP.i2d (tu i))), (3, .int (nI (5 * n + i))), (0, .ref (a 0)), (1, .int (nI n)), (2, .int (nI i))]) hx hb dX1_writeUses_40 hl (by decide) rfl (fun ls hl => ?_)
      refine lv_aload_n hx hb dX1_writeUses_42 rfl (lv_at hl 2 rfl) ?_
      refine va_get (D := D) (ci := 1) (v := .ref (a 8)) (C := RX1) (T := TX1) (N := 12) hx hb (dr_words hts _) inX1 (xk_od hown) (xk_Kd hK) hP 0 rfl rfl 6 (by decide) (dr_words hts _ (.fieldLink RX1 33 "GridCommons" "ledger" "LGridCommons$Ledger;") (by decide +kernel)) (fun _ h9 => h9) rfl dX1_writeUses_43 ?_
      refine va_get (D := D) (ci := 0) (v := .ref (a 12)) (C := RX0) (T := TX0) (N := 9) hx hb (dr_words hts _) inX0 (xk_od hown) (xk_Kd hK) hP 8 rfl rfl 4 (by decide) (dr_words hts _ (.fieldLink RX1 120 "GridCommons$Ledger" "known" "[Z") (by decide +kernel)) (fun _ h9 => h9) rfl dX1_writeUses_46 ?_
      refine lv_iload_n hx hb dX1_writeUses_49 rfl (lv_at hl 1 rfl) ?_
      refine lv_aload_n hx hb dX1_writeUses_50 rfl (lv_at hl 2 rfl) ?_
      refine va_get (D := D) (ci := 1) (v := .ref (a 5)) (C := RX1) (T := TX1) (N := 12) hx hb (dr_words hts _) inX1 (xk_od hown) (xk_Kd hK) hP 0 rfl rfl 4 (by decide) (dr_words hts _ (.fieldLink RX1 24 "GridCommons" "isTold" "[Z") (by decide +kernel)) (fun _ h9 => h9) rfl dX1_writeUses_51 ?_
      refine lv_iload_n hx hb dX1_writeUses_54 rfl (lv_at hl 4 rfl) ?_
      refine xk_zald hx hb (xk_Kd hK) hP 5 1 rfl rfl (o := i) (by omega) (by decide) dX1_writeUses_55 ?_
      refine xk_i (y := it i) (po_at0 i it _) ?_
      refine xk_zast (x' := it i) hx hb (xk_Kd hK) hP hD hS 12 1 rfl rfl (o := (5 * n + i)) (by omega) (by decide) (nar01 (hit i)) dX1_writeUses_56 (fun H locs hP hD hS => ?_)
      have hP : va_P D vwCl (XW a cI cZ cD sh sw ts bi (po 0 i it (fun _ => (0 : Int32))) tu ne' pr so lo wt (nI n) lp lz lu' (upd (po (5 * n) i lk it) (5 * n + i) (it i)) ld lf lb lw) H := hP
      have hD : va_D A (XW a cI cZ cD sh sw ts bi (po 0 i it (fun _ => (0 : Int32))) tu ne' pr so lo wt (nI n) lp lz lu' (upd (po (5 * n) i lk it) (5 * n + i) (it i)) ld lf lb lw) := hD
      refine lv_aload_n hx hb dX1_writeUses_57 rfl (lv_at hl 2 rfl) ?_
      refine va_get (D := D) (ci := 1) (v := .ref (a 8)) (C := RX1) (T := TX1) (N := 12) hx hb (dr_words hts _) inX1 (xk_od hown) (xk_Kd hK) hP 0 rfl rfl 6 (by decide) (dr_words hts _ (.fieldLink RX1 33 "GridCommons" "ledger" "LGridCommons$Ledger;") (by decide +kernel)) (fun _ h9 => h9) rfl dX1_writeUses_58 ?_
      refine va_get (D := D) (ci := 0) (v := .ref (a 11)) (C := RX0) (T := TX0) (N := 9) hx hb (dr_words hts _) inX0 (xk_od hown) (xk_Kd hK) hP 8 rfl rfl 3 (by decide) (dr_words hts _ (.fieldLink RX1 125 "GridCommons$Ledger" "use" "[D") (by decide +kernel)) (fun _ h9 => h9) rfl dX1_writeUses_61 ?_
      refine lv_iload_n hx hb dX1_writeUses_64 rfl (lv_at hl 1 rfl) ?_
      refine lv_dload hx hb dX1_writeUses_65 (lv_at hl 0 rfl) ?_
      refine xk_dast hx hb (xk_Kd hK) hP hD hS 11 2 rfl rfl (o := (5 * n + i)) (by omega) (by decide) dX1_writeUses_67 (fun H locs hP hD hS => ?_)
      have hP : va_P D vwCl (XW a cI cZ cD sh sw ts bi (po 0 i it (fun _ => (0 : Int32))) tu ne' pr so lo wt (nI n) lp lz (vf_upd lu' (5 * n + i) (FP.i2d (tu i))) (upd (po (5 * n) i lk it) (5 * n + i) (it i)) ld lf lb lw) H := hP
      have hD : va_D A (XW a cI cZ cD sh sw ts bi (po 0 i it (fun _ => (0 : Int32))) tu ne' pr so lo wt (nI n) lp lz (vf_upd lu' (5 * n + i) (FP.i2d (tu i))) (upd (po (5 * n) i lk it) (5 * n + i) (it i)) ld lf lb lw) := hD
      refine lv_aload_n hx hb dX1_writeUses_68 rfl (lv_at hl 2 rfl) ?_
      refine va_get (D := D) (ci := 1) (v := .ref (a 7)) (C := RX1) (T := TX1) (N := 12) hx hb (dr_words hts _) inX1 (xk_od hown) (xk_Kd hK) hP 0 rfl rfl 10 (by decide) (dr_words hts _ (.fieldLink RX1 50 "GridCommons" "needs" "[D") (by decide +kernel)) (fun _ h9 => h9) rfl dX1_writeUses_69 ?_
      refine lv_iload_n hx hb dX1_writeUses_72 rfl (lv_at hl 4 rfl) ?_
      refine lv_dload hx hb dX1_writeUses_73 (lv_at hl 0 rfl) ?_
      refine xk_dast hx hb (xk_Kd hK) hP hD hS 7 2 rfl rfl (o := i) (by omega) (by decide) dX1_writeUses_75 (fun H locs hP hD hS => ?_)
      have hP : va_P D vwCl (XW a cI cZ cD sh sw ts bi (po 0 i it (fun _ => (0 : Int32))) tu (vf_upd ne' i (FP.i2d (tu i))) pr so lo wt (nI n) lp lz (vf_upd lu' (5 * n + i) (FP.i2d (tu i))) (upd (po (5 * n) i lk it) (5 * n + i) (it i)) ld lf lb lw) H := hP
      have hD : va_D A (XW a cI cZ cD sh sw ts bi (po 0 i it (fun _ => (0 : Int32))) tu (vf_upd ne' i (FP.i2d (tu i))) pr so lo wt (nI n) lp lz (vf_upd lu' (5 * n + i) (FP.i2d (tu i))) (upd (po (5 * n) i lk it) (5 * n + i) (it i)) ld lf lb lw) := hD
      refine lv_aload_n hx hb dX1_writeUses_76 rfl (lv_at hl 2 rfl) ?_
      refine va_get (D := D) (ci := 1) (v := .ref (a 5)) (C := RX1) (T := TX1) (N := 12) hx hb (dr_words hts _) inX1 (xk_od hown) (xk_Kd hK) hP 0 rfl rfl 4 (by decide) (dr_words hts _ (.fieldLink RX1 24 "GridCommons" "isTold" "[Z") (by decide +kernel)) (fun _ h9 => h9) rfl dX1_writeUses_77 ?_
      refine lv_iload_n hx hb dX1_writeUses_80 rfl (lv_at hl 4 rfl) ?_
      refine lv_iconst (v := nI 0) hx hb dX1_writeUses_81 (by decide) ?_
      refine xk_zast (x' := 0) hx hb (xk_Kd hK) hP hD hS 5 1 rfl rfl (o := i) (by omega) (by decide) rfl dX1_writeUses_82 (fun H locs hP hD hS => ?_)
      have hP : va_P D vwCl (XW a cI cZ cD sh sw ts bi (upd (po 0 i it (fun _ => (0 : Int32))) i 0) tu (vf_upd ne' i (FP.i2d (tu i))) pr so lo wt (nI n) lp lz (vf_upd lu' (5 * n + i) (FP.i2d (tu i))) (upd (po (5 * n) i lk it) (5 * n + i) (it i)) ld lf lb lw) H := hP
      have hD : va_D A (XW a cI cZ cD sh sw ts bi (upd (po 0 i it (fun _ => (0 : Int32))) i 0) tu (vf_upd ne' i (FP.i2d (tu i))) pr so lo wt (nI n) lp lz (vf_upd lu' (5 * n + i) (FP.i2d (tu i))) (upd (po (5 * n) i lk it) (5 * n + i) (it i)) ld lf lb lw) := hD
      have e1 : upd (po (5 * n) i lk it) (5 * n + i) (it i) = po (5 * n) (i + 1) lk it := po_s _ _ _ _
      have e2 : upd (po 0 i it (fun _ => (0 : Int32))) i 0 = po 0 (i + 1) it (fun _ => (0 : Int32)) := po_s0 i it (fun _ => (0 : Int32))
      rw [e1, e2] at hP hD
      refine lv_iinc (v := nI (i + 1)) (lv' := [(2, .int (nI (i + 1))), (4, .double (FP.i2d (tu i))), (3, .int (nI (5 * n + i))), (0, .ref (a 0)), (1, .int (nI n))]) hx hb dX1_writeUses_83 hl (k := 4) rfl (nI_1 i) (by decide) rfl (fun ls hl => ?_)
      refine lv_goto (tgt := 2) hx hb dX1_writeUses_86 (by decide) ?_
      exact next _ _ _ _ hlt ⟨(vf_upd lu' (5 * n + i) (FP.i2d (tu i))), (vf_upd ne' i (FP.i2d (tu i))), (by rw [dts_up]; exact po_step hq0 e8), (upto_step hq1 e8), hP, hD, hS, hdl, lv_sub hl [3, 4, 0] rfl⟩
set_option maxHeartbeats 4000000 in
set_option maxRecDepth 100000 in
theorem mX1_writeUsed (l : Launch) (D : va_G) (cI cZ cD : ClassId) (a : Nat → Nat) (sz : Nat) (sh sw ts : Nat → Int32) (bi : Nat → UInt64) (it tu : Nat → Int32) (ne : Nat → UInt64) (pr so lo : UInt64) (wt cn : Int32) (lp lz lu : Nat → UInt64) (lk : Nat → Int32) (ld lf lb lw : Nat → UInt64) (n : Nat) (hn : n < 60) (V : Nat → Dm) (hV : is5 ne V) : Met l yX1_writeUsed wsX1_writeUsed ({ frames := 1, cells := 0, slots := 0, locals := 21 } : Room) (va_Pc [.ref (a 0), .int (nI n)] (XP D cI cZ cD (XW a cI cZ cD sh sw ts bi it tu ne pr so lo wt cn lp lz lu lk ld lf lb lw) sz)) (va_Qv (fun (u : Nat → UInt64) => dts u = po (5 * n) 5 (dts ld) V) (fun (u : Nat → UInt64) t => XB D cI cZ cD (XW a cI cZ cD sh sw ts bi it tu ne pr so lo wt cn lp lz lu lk u lf lb lw) (va_A (XW a cI cZ cD sh sw ts bi it tu ne pr so lo wt cn lp lz lu lk ld lf lb lw) sz) t) (va_A (XW a cI cZ cD sh sw ts bi it tu ne pr so lo wt cn lp lz lu lk ld lf lb lw) sz)) 0 0 (va_A (XW a cI cZ cD sh sw ts bi it tu ne pr so lo wt cn lp lz lu lk ld lf lb lw) sz) := by
  refine Met.ofW (cc := cX1_writeUsed) (maxL := 3) (ret := none) (by decide +kernel) rfl ?_
  intro p e s m args below meth c s₁ B hml hv
  obtain ⟨rfl, hsz, hP, hK, hD0⟩ := hv
  have hx := B.exec
  have hb := B.bytes
  have hr := B.returns
  have hts := atoms_spec (ws := wsX1_writeUsed) B.pre
  have hown : s.vm.findClass RX1 = some m.cls := findClass_of_methodNamed B.named
  have hlocks := B.notSynchronized
  subst hsz
  have hD := hD0.self (sz := s.heap.size)
  generalize hAe : va_A (XW a cI cZ cD sh sw ts bi it tu ne pr so lo wt cn lp lz lu lk ld lf lb lw) s.heap.size = A at hD ⊢
  have hA : ∀ q : Nat, s.heap.size ≤ q → A q := fun q h => by rw [← hAe]; exact Or.inr h
  have hS : va_S A s.heap s.heap [] := va_S.rf
  have hl := lv_entry ([.ref (a 0), .int (nI n)]) (n := 3) (Nat.le_of_ble_eq_true rfl)
  rw [lg_entry_eq]
  generalize (lg_sl ([.ref (a 0), .int (nI n)]) ++ List.replicate (3 - (lg_sl ([.ref (a 0), .int (nI n)])).length) Slot.unset).toArray = ls at hl ⊢
  have hl : lv_has ls 3 [(0, .ref (a 0)), (1, .int (nI n))] := hl
  have inX1 : ∀ w ∈ wsX10, w ∈ wsX1_writeUsed := by decide +kernel
  have inX0 : ∀ w ∈ wsX00, w ∈ wsX1_writeUsed := by decide +kernel
  refine lv_iconst (v := nI 0) hx hb dX1_writeUsed_0 (by decide) ?_
  refine lv_istore_n (lv' := [(2, .int (nI 0)), (0, .ref (a 0)), (1, .int (nI n))]) hx hb dX1_writeUsed_1 rfl hl (by decide) rfl (fun ls hl => ?_)
  refine xk_loopP (fun i H locs ls => ∃ (ld' : Nat → UInt64), (dts ld' = po (5 * n) i (dts ld) V) ∧ (va_P D vwCl (XW a cI cZ cD sh sw ts bi it tu ne pr so lo wt cn lp lz lu lk ld' lf lb lw) H) ∧ (va_D A (XW a cI cZ cD sh sw ts bi it tu ne pr so lo wt cn lp lz lu lk ld' lf lb lw)) ∧ (va_S A s.heap H locs) ∧ (lv_has ls 3 [(0, .ref (a 0)), (1, .int (nI n)), (2, .int (nI i))])) 5 ?_ (i := 0) (Nat.zero_le _) ⟨ld, (po_0 _ _ _).symm, hP, hD, hS, lv_sub hl [1, 2, 0] rfl⟩
  intro i H locs ls hi hI next
  obtain ⟨ld', hq0, hP, hD, hS, hl⟩ := hI
  refine lv_iload_n hx hb dX1_writeUsed_2 rfl (lv_at hl 2 rfl) ?_
  refine lv_iconst (v := nI 5) hx hb dX1_writeUsed_3 (by decide) ?_
  refine lv_icmp_ge (tgt := 32) hx hb dX1_writeUsed_4 (by decide) (fun c => ?_) (fun c => ?_)
  · skip
    obtain rfl := xk_ge hi (by decide) c
    exact W.vret hx hb hr (fun t ht hW => ⟨⟨ld', rfl, hq0, by rw [ht]; exact hP, va_K.moved hW.alike hK, hD⟩, hS.F ht⟩) hS.2.2 dX1_writeUsed_32
  · skip
    have hlt := xk_nge hi (by decide) c
    refine lv_aload_n hx hb dX1_writeUsed_7 rfl (lv_at hl 0 rfl) ?_
    refine va_get (D := D) (ci := 1) (v := .ref (a 8)) (C := RX1) (T := TX1) (N := 12) hx hb hts inX1 hown hK hP 0 rfl rfl 6 (by decide) (hts (.fieldLink RX1 33 "GridCommons" "ledger" "LGridCommons$Ledger;") (by decide +kernel)) (fun _ h9 => h9) rfl dX1_writeUsed_8 ?_
    refine va_get (D := D) (ci := 0) (v := .ref (a 13)) (C := RX0) (T := TX0) (N := 9) hx hb hts inX0 hown hK hP 8 rfl rfl 5 (by decide) (hts (.fieldLink RX1 128 "GridCommons$Ledger" "used" "[D") (by decide +kernel)) (fun _ h9 => h9) rfl dX1_writeUsed_11 ?_
    refine lv_iload_n hx hb dX1_writeUsed_14 rfl (lv_at hl 2 rfl) ?_
    refine lv_iload_n hx hb dX1_writeUsed_15 rfl (lv_at hl 1 rfl) ?_
    refine vp_callSi (va_Run.run (va_runS (As := [.int (nI i), .int (nI n)]) (rest := [.ref (a 13)]) ⟨hx, hb, hml, hown, hts⟩ (mX0_slot l i n) (va_cwS 2 hts gX1_writeUsed_X0_slot rfl rfl rfl (by decide +kernel) ⟨Nat.le_of_ble_eq_true rfl, Nat.le_of_ble_eq_true rfl⟩) ⟨fun a U g mk q => q, fun U hU hW => ⟨rfl, trivial⟩⟩ rfl rfl hl.1 rfl (lv_room (Nat.le_of_ble_eq_true rfl)) dX1_writeUsed_16 ⟨Nat.le_of_ble_eq_true rfl, Nat.le_of_ble_eq_true rfl⟩)) (fun r hr1 => ?_)
    subst hr1
    refine lv_aload_n hx hb dX1_writeUsed_19 rfl (lv_at hl 0 rfl) ?_
    refine va_get (D := D) (ci := 1) (v := .ref (a 7)) (C := RX1) (T := TX1) (N := 12) hx hb hts inX1 hown hK hP 0 rfl rfl 10 (by decide) (hts (.fieldLink RX1 50 "GridCommons" "needs" "[D") (by decide +kernel)) (fun _ h9 => h9) rfl dX1_writeUsed_20 ?_
    refine lv_iload_n hx hb dX1_writeUsed_23 rfl (lv_at hl 2 rfl) ?_
    refine xk_dald hx hb hK hP 7 2 rfl rfl (o := i) (by omega) (by decide) dX1_writeUsed_24 ?_
    refine xk_dast hx hb hK hP hD hS 13 2 rfl rfl (o := (5 * n + i)) (by omega) (by decide) dX1_writeUsed_25 (fun H locs hP hD hS => ?_)
    have hP : va_P D vwCl (XW a cI cZ cD sh sw ts bi it tu ne pr so lo wt cn lp lz lu lk (vf_upd ld' (5 * n + i) (ne i)) lf lb lw) H := hP
    have hD : va_D A (XW a cI cZ cD sh sw ts bi it tu ne pr so lo wt cn lp lz lu lk (vf_upd ld' (5 * n + i) (ne i)) lf lb lw) := hD
    refine lv_iinc (v := nI (i + 1)) (lv' := [(2, .int (nI (i + 1))), (0, .ref (a 0)), (1, .int (nI n))]) hx hb dX1_writeUsed_26 hl (k := 2) rfl (nI_1 i) (by decide) rfl (fun ls hl => ?_)
    refine lv_goto (tgt := 2) hx hb dX1_writeUsed_29 (by decide) ?_
    exact next _ _ _ hlt ⟨(vf_upd ld' (5 * n + i) (ne i)), (by rw [dts_up]; exact po_step hq0 (hV i hlt)), hP, hD, hS, lv_sub hl [1, 2, 0] rfl⟩
set_option maxHeartbeats 4000000 in
set_option maxRecDepth 100000 in
theorem mX1_shedUntilCarried (l : Launch) (D : va_G) (cI cZ cD : ClassId) (a : Nat → Nat) (sz : Nat) (sh sw ts : Nat → Int32) (bi : Nat → UInt64) (it tu : Nat → Int32) (ne : Nat → UInt64) (pr so lo : UInt64) (wt cn : Int32) (lp lz lu : Nat → UInt64) (lk : Nat → Int32) (ld lf lb lw : Nat → UInt64) (V : Nat → Dm) (hV : is5 ne V) : MetD lw_cs l yX1_shedUntilCarried wsX1_shedUntilCarried ({ frames := 2, cells := 0, slots := 0, locals := 43 } : Room) (va_Pc [.ref (a 0)] (XP D cI cZ cD (XW a cI cZ cD sh sw ts bi it tu ne pr so lo wt cn lp lz lu lk ld lf lb lw) sz)) (va_Qv (fun (u : (Nat → Int32) × (Nat → UInt64)) => u.1 = (shd sw 5 ts V).1 ∧ is5 u.2 (shd sw 5 ts V).2) (fun (u : (Nat → Int32) × (Nat → UInt64)) t => XB D cI cZ cD (XW a cI cZ cD sh sw u.1 bi it tu u.2 pr so lo wt cn lp lz lu lk ld lf lb lw) (va_A (XW a cI cZ cD sh sw ts bi it tu ne pr so lo wt cn lp lz lu lk ld lf lb lw) sz) t) (va_A (XW a cI cZ cD sh sw ts bi it tu ne pr so lo wt cn lp lz lu lk ld lf lb lw) sz)) 0 0 (va_A (XW a cI cZ cD sh sw ts bi it tu ne pr so lo wt cn lp lz lu lk ld lf lb lw) sz) := by
  refine MetD.ofW (cc := cX1_shedUntilCarried) (maxL := 3) (ret := none) (by decide +kernel) rfl ?_
  intro p e s m args below meth c s₁ B hml hv hd0
  obtain ⟨rfl, hsz, hP, hK, hD0⟩ := hv
  have hx := B.exec
  have hb := B.bytes
  have hr := B.returns
  have hts := atoms_spec (ws := wsX1_shedUntilCarried) B.pre
  have hown : s.vm.findClass RX1 = some m.cls := findClass_of_methodNamed B.named
  have hlocks := B.notSynchronized
  subst hsz
  have hD := hD0.self (sz := s.heap.size)
  generalize hAe : va_A (XW a cI cZ cD sh sw ts bi it tu ne pr so lo wt cn lp lz lu lk ld lf lb lw) s.heap.size = A at hD ⊢
  have hA : ∀ q : Nat, s.heap.size ≤ q → A q := fun q h => by rw [← hAe]; exact Or.inr h
  have hS : va_S A s.heap s.heap [] := va_S.rf
  have hl := lv_entry ([.ref (a 0)]) (n := 3) (Nat.le_of_ble_eq_true rfl)
  rw [lg_entry_eq]
  generalize (lg_sl ([.ref (a 0)]) ++ List.replicate (3 - (lg_sl ([.ref (a 0)])).length) Slot.unset).toArray = ls at hl ⊢
  have hl : lv_has ls 3 [(0, .ref (a 0))] := hl
  have inX1 : ∀ w ∈ wsX10, w ∈ wsX1_shedUntilCarried := by decide +kernel
  refine lv_aload_n hx hb dX1_shedUntilCarried_0 rfl (lv_at hl 0 rfl) ?_
  have hFc := va_free (wc := XW a cI cZ cD sh sw ts bi it tu ne pr so lo wt cn lp lz lu lk ld lf lb lw) hD hS hA [0, 1, 2, 3, 4, 5, 6, 7, 8, 9, 10, 11, 12, 13, 14, 15, 16] rfl
  refine va_calli (va_runV (As := []) (rest := []) ⟨hx, hb, hml, (xk_od hown), (dr_words hts _)⟩ (mX1_nextToShed l D cI cZ cD a _ sh sw ts bi it tu ne pr so lo wt cn lp lz lu lk ld lf lb lw V hV) (cwV 0 (dr_words hts _) gX1_shedUntilCarried_X1_nextToShed rfl rfl rfl (by decide +kernel) ⟨Nat.le_of_ble_eq_true rfl, Nat.le_of_ble_eq_true rfl⟩) ⟨xk_blind, va_recv (xk_Kd hK) hP (ci := 1) (q0 := 0) rfl rfl, xk_pre hP (xk_Kd hK) hD⟩ rfl rfl hl.1 rfl (lv_room (Nat.le_of_ble_eq_true rfl)) dX1_shedUntilCarried_1 ⟨Nat.le_of_ble_eq_true rfl, Nat.le_of_ble_eq_true rfl⟩) hS (fun q _ h => hFc q h) hFc (fun r u t H locs ht hvm hw hB hz1 hk1 hS => ?_)
  obtain ⟨hP, -, hD1⟩ := hB
  rw [ht] at hP
  have hD := hD1.weaken (B := A) (fun _ _ _ h => hFc _ h)
  have hP : va_P D vwCl (XW a cI cZ cD sh sw ts bi it tu ne pr so lo wt cn lp lz lu lk ld lf lb lw) H := hP
  have hD : va_D A (XW a cI cZ cD sh sw ts bi it tu ne pr so lo wt cn lp lz lu lk ld lf lb lw) := hD
  subst hw
  refine lv_istore_n (lv' := [(1, .int (oi (nx sw ts V 5))), (0, .ref (a 0))]) hx hb dX1_shedUntilCarried_4 rfl hl (by decide) rfl (fun ls hl => ?_)
  refine lv_iconst (v := nI 0) hx hb dX1_shedUntilCarried_5 (by decide) ?_
  refine lv_istore_n (lv' := [(2, .int (nI 0)), (1, .int (oi (nx sw ts V 5))), (0, .ref (a 0))]) hx hb dX1_shedUntilCarried_6 rfl hl (by decide) rfl (fun ls hl => ?_)
  refine xk_loop (fun i H locs ls d => ∃ (ts' : Nat → Int32) (ne' : Nat → UInt64) (V' : Nat → Dm) (y : Option Nat), (shd sw (5 - i) ts' V' = shd sw 5 ts V) ∧ (is5 ne' V') ∧ (y = nx sw ts' V' 5) ∧ (va_P D vwCl (XW a cI cZ cD sh sw ts' bi it tu ne' pr so lo wt cn lp lz lu lk ld lf lb lw) H) ∧ (va_D A (XW a cI cZ cD sh sw ts' bi it tu ne' pr so lo wt cn lp lz lu lk ld lf lb lw)) ∧ (va_S A s.heap H locs) ∧ (s.drawn.sameBut d lw_cs) ∧ (lv_has ls 3 [(0, .ref (a 0)), (1, .int (oi y)), (2, .int (nI i))])) 5 ?_ (i := 0) (Nat.zero_le _) ⟨ts, ne, V, (nx sw ts V 5), rfl, hV, rfl, hP, hD, hS, hd0, lv_sub hl [2, 1, 0] rfl⟩
  intro i H locs ls d hi hI next
  obtain ⟨ts', ne', V', y, hq0, hq1, hq2, hP, hD, hS, hdl, hl⟩ := hI
  refine lv_iload_n hx hb dX1_shedUntilCarried_7 rfl (lv_at hl 2 rfl) ?_
  refine lv_iconst (v := nI 5) hx hb dX1_shedUntilCarried_8 (by decide) ?_
  refine lv_icmp_ge (tgt := 52) hx hb dX1_shedUntilCarried_9 (by decide) (fun c => ?_) (fun c => ?_)
  · skip
    obtain rfl := xk_ge hi (by decide) c
    have e9 : shd sw 5 ts V = (ts', V') := by rw [← hq0]; rfl
    refine W.endD hdl ?_
    exact W.vret hx hb hr (fun t ht hW => ⟨⟨(ts', ne'), rfl, ⟨by rw [e9], by rw [e9]; exact hq1⟩, by rw [ht]; exact hP, va_K.moved hW.alike (xk_Kd hK), hD⟩, hS.F ht⟩) hS.2.2 dX1_shedUntilCarried_52
  · skip
    have hlt := xk_nge hi (by decide) c
    cases y with
    | none =>
      have hl : lv_has ls 3 [(0, .ref (a 0)), (1, .int (-1)), (2, .int (nI i))] := hl
      refine lv_iload_n hx hb dX1_shedUntilCarried_12 rfl (lv_at hl 1 rfl) ?_
      refine lv_iconst (v := (-1)) hx hb dX1_shedUntilCarried_13 (by decide) ?_
      refine lv_icmp_eq (tgt := 52) hx hb dX1_shedUntilCarried_14 (by decide) (fun c1 => ?_) (fun c1 => ?_)
      · skip
        have e9 : shd sw 5 ts V = (ts', V') := by rw [← hq0]; exact shd_done (Or.inr hq2.symm) _
        refine W.endD hdl ?_
        exact W.vret hx hb hr (fun t ht hW => ⟨⟨(ts', ne'), rfl, ⟨by rw [e9], by rw [e9]; exact hq1⟩, by rw [ht]; exact hP, va_K.moved hW.alike (xk_Kd hK), hD⟩, hS.F ht⟩) hS.2.2 dX1_shedUntilCarried_52
      · skip
        exact absurd rfl c1
    | some o =>
      have hl : lv_has ls 3 [(0, .ref (a 0)), (1, .int (nI o)), (2, .int (nI i))] := hl
      have ho := (nx_lt hq2.symm).1
      refine lv_iload_n hx hb dX1_shedUntilCarried_12 rfl (lv_at hl 1 rfl) ?_
      refine lv_iconst (v := (-1)) hx hb dX1_shedUntilCarried_13 (by decide) ?_
      refine lv_icmp_eq (tgt := 52) hx hb dX1_shedUntilCarried_14 (by decide) (fun c1 => ?_) (fun c1 => ?_)
      · skip
        exact absurd c1 (nI_nm1 o (by omega))
      · skip
        refine lv_aload_n hx hb dX1_shedUntilCarried_17 rfl (lv_at hl 0 rfl) ?_
        have hFc := va_free (wc := XW a cI cZ cD sh sw ts' bi it tu ne' pr so lo wt cn lp lz lu lk ld lf lb lw) hD hS hA [0, 1, 2, 3, 4, 5, 6, 7, 8, 9, 10, 11, 12, 13, 14, 15, 16] rfl
        refine va_calliD hdl (va_runV_D (As := []) (rest := []) ⟨hx, hb, hml, (xk_od hown), (dr_words hts _)⟩ (mX1_isOverLine l D cI cZ cD a _ sh sw ts' bi it tu ne' pr so lo wt cn lp lz lu lk ld lf lb lw V' hq1) (cwV 0 (dr_words hts _) gX1_shedUntilCarried_X1_isOverLine rfl rfl rfl (by decide +kernel) ⟨Nat.le_of_ble_eq_true rfl, Nat.le_of_ble_eq_true rfl⟩) ⟨xk_blind, va_recv (xk_Kd hK) hP (ci := 1) (q0 := 0) rfl rfl, xk_pre hP (xk_Kd hK) hD⟩ rfl rfl hl.1 rfl (lv_room (Nat.le_of_ble_eq_true rfl)) dX1_shedUntilCarried_18 ⟨Nat.le_of_ble_eq_true rfl, Nat.le_of_ble_eq_true rfl⟩) hS (fun q _ h => hFc q h) hFc (fun r u t H locs ht hvm hw hB hz1 hk1 hS _ hd2 => ?_)
        obtain ⟨hP, -, hD1⟩ := hB
        rw [ht] at hP
        have hD := hD1.weaken (B := A) (fun _ _ _ h => hFc _ h)
        have hP : va_P D vwCl (XW a cI cZ cD sh sw ts' bi it tu ne' pr so lo wt cn lp lz lu lk ld lf lb lw) H := hP
        have hD : va_D A (XW a cI cZ cD sh sw ts' bi it tu ne' pr so lo wt cn lp lz lu lk ld lf lb lw) := hD
        subst hw
        refine lv_if_eq (tgt := 52) hx hb dX1_shedUntilCarried_21 (by decide) (fun c2 => ?_) (fun c2 => ?_)
        · skip
          have e9 : shd sw 5 ts V = (ts', V') := by rw [← hq0]; exact shd_done (Or.inl (bI_0.mp c2)) _
          refine W.endD hd2 ?_
          exact W.vret hx hb hr (fun t ht hW => ⟨⟨(ts', ne'), rfl, ⟨by rw [e9], by rw [e9]; exact hq1⟩, by rw [ht]; exact hP, va_K.moved hW.alike (xk_Kd hK), hD⟩, hS.F ht⟩) hS.2.2 dX1_shedUntilCarried_52
        · skip
          have hov : over V' := Decidable.of_not_not (fun q => c2 (bI_0.mpr q))
          refine lv_aload_n hx hb dX1_shedUntilCarried_24 rfl (lv_at hl 0 rfl) ?_
          refine va_get (D := D) (ci := 1) (v := .ref (a 7)) (C := RX1) (T := TX1) (N := 12) hx hb (dr_words hts _) inX1 (xk_od hown) (xk_Kd hK) hP 0 rfl rfl 10 (by decide) (dr_words hts _ (.fieldLink RX1 50 "GridCommons" "needs" "[D") (by decide +kernel)) (fun _ h9 => h9) rfl dX1_shedUntilCarried_25 ?_
          refine lv_iload_n hx hb dX1_shedUntilCarried_28 rfl (lv_at hl 1 rfl) ?_
          refine lv_dconst0 hx hb dX1_shedUntilCarried_29 ?_
          refine xk_dast hx hb (xk_Kd hK) hP hD hS 7 2 rfl rfl (o := o) (by omega) (by decide) dX1_shedUntilCarried_30 (fun H locs hP hD hS => ?_)
          have hP : va_P D vwCl (XW a cI cZ cD sh sw ts' bi it tu (vf_upd ne' o FP.dconst0) pr so lo wt cn lp lz lu lk ld lf lb lw) H := hP
          have hD : va_D A (XW a cI cZ cD sh sw ts' bi it tu (vf_upd ne' o FP.dconst0) pr so lo wt cn lp lz lu lk ld lf lb lw) := hD
          refine lv_aload_n hx hb dX1_shedUntilCarried_31 rfl (lv_at hl 0 rfl) ?_
          refine va_get (D := D) (ci := 1) (v := .ref (a 3)) (C := RX1) (T := TX1) (N := 12) hx hb (dr_words hts _) inX1 (xk_od hown) (xk_Kd hK) hP 0 rfl rfl 2 (by decide) (dr_words hts _ (.fieldLink RX1 17 "GridCommons" "timesShed" "[I") (by decide +kernel)) (fun _ h9 => h9) rfl dX1_shedUntilCarried_32 ?_
          refine lv_iload_n hx hb dX1_shedUntilCarried_35 rfl (lv_at hl 1 rfl) ?_
          refine lv_dup2_11 hx hb dX1_shedUntilCarried_36 rfl rfl ?_
          refine xk_iald hx hb (xk_Kd hK) hP 3 0 rfl rfl (o := o) (by omega) (by decide) dX1_shedUntilCarried_37 ?_
          refine lv_iconst (v := nI 1) hx hb dX1_shedUntilCarried_38 (by decide) ?_
          refine lv_iadd hx hb dX1_shedUntilCarried_39 ?_
          refine xk_iast hx hb (xk_Kd hK) hP hD hS 3 0 rfl rfl (o := o) (by omega) (by decide) dX1_shedUntilCarried_40 (fun H locs hP hD hS => ?_)
          have hP : va_P D vwCl (XW a cI cZ cD sh sw (upd ts' o ((ts' o) + (nI 1))) bi it tu (vf_upd ne' o FP.dconst0) pr so lo wt cn lp lz lu lk ld lf lb lw) H := hP
          have hD : va_D A (XW a cI cZ cD sh sw (upd ts' o ((ts' o) + (nI 1))) bi it tu (vf_upd ne' o FP.dconst0) pr so lo wt cn lp lz lu lk ld lf lb lw) := hD
          refine lv_aload_n hx hb dX1_shedUntilCarried_41 rfl (lv_at hl 0 rfl) ?_
          have hFc := va_free (wc := XW a cI cZ cD sh sw (upd ts' o ((ts' o) + (nI 1))) bi it tu (vf_upd ne' o FP.dconst0) pr so lo wt cn lp lz lu lk ld lf lb lw) hD hS hA [0, 1, 2, 3, 4, 5, 6, 7, 8, 9, 10, 11, 12, 13, 14, 15, 16] rfl
          refine va_calli (va_runV (As := []) (rest := []) ⟨hx, hb, hml, (xk_od hown), (dr_words hts _)⟩ (mX1_nextToShed l D cI cZ cD a _ sh sw (upd ts' o ((ts' o) + (nI 1))) bi it tu (vf_upd ne' o FP.dconst0) pr so lo wt cn lp lz lu lk ld lf lb lw (va_up V' o dZ) (hq1.up o rfl)) (cwV 0 (dr_words hts _) gX1_shedUntilCarried_X1_nextToShed rfl rfl rfl (by decide +kernel) ⟨Nat.le_of_ble_eq_true rfl, Nat.le_of_ble_eq_true rfl⟩) ⟨xk_blind, va_recv (xk_Kd hK) hP (ci := 1) (q0 := 0) rfl rfl, xk_pre hP (xk_Kd hK) hD⟩ rfl rfl hl.1 rfl (lv_room (Nat.le_of_ble_eq_true rfl)) dX1_shedUntilCarried_42 ⟨Nat.le_of_ble_eq_true rfl, Nat.le_of_ble_eq_true rfl⟩) hS (fun q _ h => hFc q h) hFc (fun r u t H locs ht hvm hw hB hz1 hk1 hS => ?_)
          obtain ⟨hP, -, hD1⟩ := hB
          rw [ht] at hP
          have hD := hD1.weaken (B := A) (fun _ _ _ h => hFc _ h)
          have hP : va_P D vwCl (XW a cI cZ cD sh sw (upd ts' o ((ts' o) + (nI 1))) bi it tu (vf_upd ne' o FP.dconst0) pr so lo wt cn lp lz lu lk ld lf lb lw) H := hP
          have hD : va_D A (XW a cI cZ cD sh sw (upd ts' o ((ts' o) + (nI 1))) bi it tu (vf_upd ne' o FP.dconst0) pr so lo wt cn lp lz lu lk ld lf lb lw) := hD
          subst hw
          refine lv_istore_n (lv' := [(1, .int (oi (nx sw (upd ts' o (ts' o + nI 1)) (va_up V' o dZ) 5))), (0, .ref (a 0)), (2, .int (nI i))]) hx hb dX1_shedUntilCarried_45 rfl hl (by decide) rfl (fun ls hl => ?_)
          refine lv_iinc (v := nI (i + 1)) (lv' := [(2, .int (nI (i + 1))), (1, .int (oi (nx sw (upd ts' o (ts' o + nI 1)) (va_up V' o dZ) 5))), (0, .ref (a 0))]) hx hb dX1_shedUntilCarried_46 hl (k := 2) rfl (nI_1 i) (by decide) rfl (fun ls hl => ?_)
          refine lv_goto (tgt := 7) hx hb dX1_shedUntilCarried_49 (by decide) ?_
          exact next _ _ _ _ hlt ⟨(upd ts' o (ts' o + nI 1)), (vf_upd ne' o FP.dconst0), (va_up V' o dZ), (nx sw (upd ts' o (ts' o + nI 1)) (va_up V' o dZ) 5), (by rw [← hq0, show 5 - i = (5 - (i + 1)) + 1 by omega]; exact (shd_go hov hq2.symm _).symm), (hq1.up o rfl), rfl, hP, hD, hS, hd2, lv_sub hl [2, 1, 0] rfl⟩
end
section
/-! GridCommons: the sun, the battery, the bills -/
theorem is5_cg {f : Nat → UInt64} {F G : Nat → Dm} (h : is5 f F) (e : F = G) : is5 f G := e ▸ h
theorem vf_self {α : Type} (f : Nat → α) (k : Nat) (x : α) : vf_upd f k x k = x := if_pos rfl
theorem dts_up2 (f : Nat → UInt64) (k : Nat) (x y : UInt64) : dts (vf_upd (vf_upd f k x) k y) = va_up (dts f) k (dt y) := by
  rw [dts_up, dts_up]
  funext j
  unfold va_up
  by_cases h : j = k
  · rw [if_pos h, if_pos h]
  · rw [if_neg h, if_neg h, if_neg h]
def soN (S L : Dm) : Dm := if dCmp L (dSub d40 S) = some .lt then dAdd S L else d40
def szN (S L : Dm) : Dm := if dCmp L (dSub d40 S) = some .lt then dZ else dSub L (dSub d40 S)
set_option maxHeartbeats 4000000 in
set_option maxRecDepth 100000 in
theorem mX1_giveSun (l : Launch) (D : va_G) (cI cZ cD : ClassId) (a : Nat → Nat) (sz : Nat) (sh sw ts : Nat → Int32) (bi : Nat → UInt64) (it tu : Nat → Int32) (ne : Nat → UInt64) (pr so lo : UInt64) (wt cn : Int32) (lp lz lu : Nat → UInt64) (lk : Nat → Int32) (ld lf lb lw : Nat → UInt64) (o n : Nat) (x : UInt64) (ho : o < 5) (hn : n < 60) (V : Nat → Dm) (hV : is5 ne V) : MetD lw_cs l yX1_giveSun wsX1_giveSun ({ frames := 1, cells := 0, slots := 0, locals := 21 } : Room) (va_Pc [.ref (a 0), .int (nI o), .int (nI n), .double x] (XP D cI cZ cD (XW a cI cZ cD sh sw ts bi it tu ne pr so lo wt cn lp lz lu lk ld lf lb lw) sz)) (va_Qv (fun (u : (Nat → UInt64) × (Nat → UInt64)) => dts u.1 = va_up (dts lf) (5 * n + o) (dAdd (dts lf (5 * n + o)) (dt x)) ∧ is5 u.2 (va_up V o (dSub (V o) (dt x)))) (fun (u : (Nat → UInt64) × (Nat → UInt64)) t => XB D cI cZ cD (XW a cI cZ cD sh sw ts bi it tu u.2 pr so lo wt cn lp lz lu lk ld u.1 lb lw) (va_A (XW a cI cZ cD sh sw ts bi it tu ne pr so lo wt cn lp lz lu lk ld lf lb lw) sz) t) (va_A (XW a cI cZ cD sh sw ts bi it tu ne pr so lo wt cn lp lz lu lk ld lf lb lw) sz)) 0 0 (va_A (XW a cI cZ cD sh sw ts bi it tu ne pr so lo wt cn lp lz lu lk ld lf lb lw) sz) := by
  refine MetD.ofW (cc := cX1_giveSun) (maxL := 5) (ret := none) (by decide +kernel) rfl ?_
  intro p e s m args below meth c s₁ B hml hv hd0
  obtain ⟨rfl, hsz, hP, hK, hD0⟩ := hv
  have hx := B.exec
  have hb := B.bytes
  have hr := B.returns
  have hts := atoms_spec (ws := wsX1_giveSun) B.pre
  have hown : s.vm.findClass RX1 = some m.cls := findClass_of_methodNamed B.named
  have hlocks := B.notSynchronized
  subst hsz
  have hD := hD0.self (sz := s.heap.size)
  generalize hAe : va_A (XW a cI cZ cD sh sw ts bi it tu ne pr so lo wt cn lp lz lu lk ld lf lb lw) s.heap.size = A at hD ⊢
  have hA : ∀ q : Nat, s.heap.size ≤ q → A q := fun q h => by rw [← hAe]; exact Or.inr h
  have hS : va_S A s.heap s.heap [] := va_S.rf
  have hl := lv_entry ([.ref (a 0), .int (nI o), .int (nI n), .double x]) (n := 5) (Nat.le_of_ble_eq_true rfl)
  rw [lg_entry_eq]
  generalize (lg_sl ([.ref (a 0), .int (nI o), .int (nI n), .double x]) ++ List.replicate (5 - (lg_sl ([.ref (a 0), .int (nI o), .int (nI n), .double x])).length) Slot.unset).toArray = ls at hl ⊢
  have hl : lv_has ls 5 [(0, .ref (a 0)), (1, .int (nI o)), (2, .int (nI n)), (3, .double x)] := hl
  have inX1 : ∀ w ∈ wsX10, w ∈ wsX1_giveSun := by decide +kernel
  have inX0 : ∀ w ∈ wsX00, w ∈ wsX1_giveSun := by decide +kernel
  refine lv_aload_n hx hb dX1_giveSun_0 rfl (lv_at hl 0 rfl) ?_
  refine va_get (D := D) (ci := 1) (v := .ref (a 8)) (C := RX1) (T := TX1) (N := 12) hx hb (dr_words hts _) inX1 (xk_od hown) (xk_Kd hK) hP 0 rfl rfl 6 (by decide) (dr_words hts _ (.fieldLink RX1 33 "GridCommons" "ledger" "LGridCommons$Ledger;") (by decide +kernel)) (fun _ h9 => h9) rfl dX1_giveSun_1 ?_
  refine va_get (D := D) (ci := 0) (v := .ref (a 14)) (C := RX0) (T := TX0) (N := 9) hx hb (dr_words hts _) inX0 (xk_od hown) (xk_Kd hK) hP 8 rfl rfl 6 (by decide) (dr_words hts _ (.fieldLink RX1 134 "GridCommons$Ledger" "fromSun" "[D") (by decide +kernel)) (fun _ h9 => h9) rfl dX1_giveSun_4 ?_
  refine lv_iload_n hx hb dX1_giveSun_7 rfl (lv_at hl 1 rfl) ?_
  refine lv_iload_n hx hb dX1_giveSun_8 rfl (lv_at hl 2 rfl) ?_
  refine vp_callSi (va_Run.run (va_runS (As := [.int (nI o), .int (nI n)]) (rest := [.ref (a 14)]) ⟨hx, hb, hml, (xk_od hown), (dr_words hts _)⟩ (mX0_slot l o n) (va_cwS 2 (dr_words hts _) gX1_giveSun_X0_slot rfl rfl rfl (by decide +kernel) ⟨Nat.le_of_ble_eq_true rfl, Nat.le_of_ble_eq_true rfl⟩) ⟨fun a U g mk q => q, fun U hU hW => ⟨rfl, trivial⟩⟩ rfl rfl hl.1 rfl (lv_room (Nat.le_of_ble_eq_true rfl)) dX1_giveSun_9 ⟨Nat.le_of_ble_eq_true rfl, Nat.le_of_ble_eq_true rfl⟩)) (fun r hr1 => ?_)
  subst hr1
  refine lv_dup2_11 hx hb dX1_giveSun_12 rfl rfl ?_
  refine xk_dald hx hb (xk_Kd hK) hP 14 2 rfl rfl (o := (5 * n + o)) (by omega) (by decide) dX1_giveSun_13 ?_
  refine lv_dload_n hx hb dX1_giveSun_14 rfl (lv_at hl 3 rfl) ?_
  refine lv_dadd_any hd0 lw_bits hx hb dX1_giveSun_15 (fun r1 _ hal hd2 => ?_)
  have er1 := dt_add hal
  refine xk_dast hx hb (xk_Kd hK) hP hD hS 14 2 rfl rfl (o := (5 * n + o)) (by omega) (by decide) dX1_giveSun_16 (fun H locs hP hD hS => ?_)
  have hP : va_P D vwCl (XW a cI cZ cD sh sw ts bi it tu ne pr so lo wt cn lp lz lu lk ld (vf_upd lf (5 * n + o) r1) lb lw) H := hP
  have hD : va_D A (XW a cI cZ cD sh sw ts bi it tu ne pr so lo wt cn lp lz lu lk ld (vf_upd lf (5 * n + o) r1) lb lw) := hD
  refine lv_aload_n hx hb dX1_giveSun_17 rfl (lv_at hl 0 rfl) ?_
  refine va_get (D := D) (ci := 1) (v := .ref (a 7)) (C := RX1) (T := TX1) (N := 12) hx hb (dr_words hts _) inX1 (xk_od hown) (xk_Kd hK) hP 0 rfl rfl 10 (by decide) (dr_words hts _ (.fieldLink RX1 50 "GridCommons" "needs" "[D") (by decide +kernel)) (fun _ h9 => h9) rfl dX1_giveSun_18 ?_
  refine lv_iload_n hx hb dX1_giveSun_21 rfl (lv_at hl 1 rfl) ?_
  refine lv_dup2_11 hx hb dX1_giveSun_22 rfl rfl ?_
  refine xk_dald hx hb (xk_Kd hK) hP 7 2 rfl rfl (o := o) (by omega) (by decide) dX1_giveSun_23 ?_
  refine lv_dload_n hx hb dX1_giveSun_24 rfl (lv_at hl 3 rfl) ?_
  refine lv_dsub_any hd2 lw_bits hx hb dX1_giveSun_25 (fun r3 _ hal hd4 => ?_)
  have er3 := dt_sub hal
  refine xk_dast hx hb (xk_Kd hK) hP hD hS 7 2 rfl rfl (o := o) (by omega) (by decide) dX1_giveSun_26 (fun H locs hP hD hS => ?_)
  have hP : va_P D vwCl (XW a cI cZ cD sh sw ts bi it tu (vf_upd ne o r3) pr so lo wt cn lp lz lu lk ld (vf_upd lf (5 * n + o) r1) lb lw) H := hP
  have hD : va_D A (XW a cI cZ cD sh sw ts bi it tu (vf_upd ne o r3) pr so lo wt cn lp lz lu lk ld (vf_upd lf (5 * n + o) r1) lb lw) := hD
  refine W.endD hd4 ?_
  exact W.vret hx hb hr (fun t ht hW => ⟨⟨(vf_upd lf (5 * n + o) r1, vf_upd ne o r3), rfl, ⟨by rw [dts_up, er1]; rfl, hV.up o (by rw [er3, hV o ho])⟩, by rw [ht]; exact hP, va_K.moved hW.alike (xk_Kd hK), hD⟩, hS.F ht⟩) hS.2.2 dX1_giveSun_27
set_option maxHeartbeats 4000000 in
set_option maxRecDepth 100000 in
theorem mX1_giveByShare (l : Launch) (D : va_G) (cI cZ cD : ClassId) (a : Nat → Nat) (sz : Nat) (sh sw ts : Nat → Int32) (bi : Nat → UInt64) (it tu : Nat → Int32) (ne : Nat → UInt64) (pr so lo : UInt64) (wt cn : Int32) (lp lz lu : Nat → UInt64) (lk : Nat → Int32) (ld lf lb lw : Nat → UInt64) (n : Nat) (sun : Int32) (hn : n < 60) (V : Nat → Dm) (hV : is5 ne V) : MetD lw_cs l yX1_giveByShare wsX1_giveByShare ({ frames := 2, cells := 0, slots := 0, locals := 45 } : Room) (va_Pc [.ref (a 0), .int (nI n), .int sun] (XP D cI cZ cD (XW a cI cZ cD sh sw ts bi it tu ne pr so lo wt cn lp lz lu lk ld lf lb lw) sz)) (va_Qv (fun (u : (Nat → UInt64) × (Nat → UInt64) × UInt64) => dts u.1 = po (5 * n) 5 (dts lf) (fun k => dAdd (dts lf (5 * n + k)) (uS sun sh V k)) ∧ is5 u.2.1 (fun k => dSub (V k) (uS sun sh V k)) ∧ dt u.2.2 = lS sun sh V (dt lo) 5) (fun (u : (Nat → UInt64) × (Nat → UInt64) × UInt64) t => XB D cI cZ cD (XW a cI cZ cD sh sw ts bi it tu u.2.1 pr so u.2.2 wt cn lp lz lu lk ld u.1 lb lw) (va_A (XW a cI cZ cD sh sw ts bi it tu ne pr so lo wt cn lp lz lu lk ld lf lb lw) sz) t) (va_A (XW a cI cZ cD sh sw ts bi it tu ne pr so lo wt cn lp lz lu lk ld lf lb lw) sz)) 0 0 (va_A (XW a cI cZ cD sh sw ts bi it tu ne pr so lo wt cn lp lz lu lk ld lf lb lw) sz) := by
  refine MetD.ofW (cc := cX1_giveByShare) (maxL := 6) (ret := none) (by decide +kernel) rfl ?_
  intro p e s m args below meth c s₁ B hml hv hd0
  obtain ⟨rfl, hsz, hP, hK, hD0⟩ := hv
  have hx := B.exec
  have hb := B.bytes
  have hr := B.returns
  have hts := atoms_spec (ws := wsX1_giveByShare) B.pre
  have hown : s.vm.findClass RX1 = some m.cls := findClass_of_methodNamed B.named
  have hlocks := B.notSynchronized
  subst hsz
  have hD := hD0.self (sz := s.heap.size)
  generalize hAe : va_A (XW a cI cZ cD sh sw ts bi it tu ne pr so lo wt cn lp lz lu lk ld lf lb lw) s.heap.size = A at hD ⊢
  have hA : ∀ q : Nat, s.heap.size ≤ q → A q := fun q h => by rw [← hAe]; exact Or.inr h
  have hS : va_S A s.heap s.heap [] := va_S.rf
  have hl := lv_entry ([.ref (a 0), .int (nI n), .int sun]) (n := 6) (Nat.le_of_ble_eq_true rfl)
  rw [lg_entry_eq]
  generalize (lg_sl ([.ref (a 0), .int (nI n), .int sun]) ++ List.replicate (6 - (lg_sl ([.ref (a 0), .int (nI n), .int sun])).length) Slot.unset).toArray = ls at hl ⊢
  have hl : lv_has ls 6 [(0, .ref (a 0)), (1, .int (nI n)), (2, .int sun)] := hl
  have inX1 : ∀ w ∈ wsX10, w ∈ wsX1_giveByShare := by decide +kernel
  refine lv_iconst (v := nI 0) hx hb dX1_giveByShare_0 (by decide) ?_
  refine lv_istore_n (lv' := [(3, .int (nI 0)), (0, .ref (a 0)), (1, .int (nI n)), (2, .int sun)]) hx hb dX1_giveByShare_1 rfl hl (by decide) rfl (fun ls hl => ?_)
  refine xk_loop (fun i H locs ls d => ∃ (lf' : Nat → UInt64) (ne' : Nat → UInt64) (lo' : UInt64), (dts lf' = po (5 * n) i (dts lf) (fun k => dAdd (dts lf (5 * n + k)) (uS sun sh V k))) ∧ (is5 ne' (po 0 i V (fun k => dSub (V k) (uS sun sh V k)))) ∧ (dt lo' = lS sun sh V (dt lo) i) ∧ (va_P D vwCl (XW a cI cZ cD sh sw ts bi it tu ne' pr so lo' wt cn lp lz lu lk ld lf' lb lw) H) ∧ (va_D A (XW a cI cZ cD sh sw ts bi it tu ne' pr so lo' wt cn lp lz lu lk ld lf' lb lw)) ∧ (va_S A s.heap H locs) ∧ (s.drawn.sameBut d lw_cs) ∧ (lv_has ls 6 [(0, .ref (a 0)), (1, .int (nI n)), (2, .int sun), (3, .int (nI i))])) 5 ?_ (i := 0) (Nat.zero_le _) ⟨lf, ne, lo, (po_0 _ _ _).symm, (is5_cg hV (po_0 _ _ _).symm), rfl, hP, hD, hS, hd0, lv_sub hl [1, 2, 3, 0] rfl⟩
  intro i H locs ls d hi hI next
  obtain ⟨lf', ne', lo', hq0, hq1, hq2, hP, hD, hS, hdl, hl⟩ := hI
  refine lv_iload_n hx hb dX1_giveByShare_2 rfl (lv_at hl 3 rfl) ?_
  refine lv_iconst (v := nI 5) hx hb dX1_giveByShare_3 (by decide) ?_
  refine lv_icmp_ge (tgt := 57) hx hb dX1_giveByShare_4 (by decide) (fun c => ?_) (fun c => ?_)
  · skip
    obtain rfl := xk_ge hi (by decide) c
    refine W.endD hdl ?_
    exact W.vret hx hb hr (fun t ht hW => ⟨⟨(lf', ne', lo'), rfl, ⟨hq0, is5_done hq1, hq2⟩, by rw [ht]; exact hP, va_K.moved hW.alike (xk_Kd hK), hD⟩, hS.F ht⟩) hS.2.2 dX1_giveByShare_57
  · skip
    have hlt := xk_nge hi (by decide) c
    refine lv_iload_n hx hb dX1_giveByShare_7 rfl (lv_at hl 2 rfl) ?_
    refine lv_i2d hx hb dX1_giveByShare_8 ?_
    refine lv_aload_n hx hb dX1_giveByShare_9 rfl (lv_at hl 0 rfl) ?_
    refine va_get (D := D) (ci := 1) (v := .ref (a 1)) (C := RX1) (T := TX1) (N := 12) hx hb (dr_words hts _) inX1 (xk_od hown) (xk_Kd hK) hP 0 rfl rfl 0 (by decide) (dr_words hts _ (.fieldLink RX1 9 "GridCommons" "shares" "[I") (by decide +kernel)) (fun _ h9 => h9) rfl dX1_giveByShare_10 ?_
    refine lv_iload_n hx hb dX1_giveByShare_13 rfl (lv_at hl 3 rfl) ?_
    refine xk_iald hx hb (xk_Kd hK) hP 1 0 rfl rfl (o := i) (by omega) (by decide) dX1_giveByShare_14 ?_
    refine lv_i2d hx hb dX1_giveByShare_15 ?_
    refine lv_dmul_any hdl lw_bits hx hb dX1_giveByShare_16 (fun r1 _ hal hd2 => ?_)
    have er1 := dt_mul hal
    refine lv_ldc2d hx hb (xk_od hown) (dr_words hts _ (.constantDouble RX1 75 4616189618054758400) (by decide +kernel)) dX1_giveByShare_17 ?_
    refine lv_ddiv_any hd2 lw_bits hx hb dX1_giveByShare_20 (fun r3 _ hal hd4 => ?_)
    have er3 := dt_div hal
    refine lv_aload_n hx hb dX1_giveByShare_21 rfl (lv_at hl 0 rfl) ?_
    refine va_get (D := D) (ci := 1) (v := .ref (a 7)) (C := RX1) (T := TX1) (N := 12) hx hb (dr_words hts _) inX1 (xk_od hown) (xk_Kd hK) hP 0 rfl rfl 10 (by decide) (dr_words hts _ (.fieldLink RX1 50 "GridCommons" "needs" "[D") (by decide +kernel)) (fun _ h9 => h9) rfl dX1_giveByShare_22 ?_
    refine lv_iload_n hx hb dX1_giveByShare_25 rfl (lv_at hl 3 rfl) ?_
    refine xk_dald hx hb (xk_Kd hK) hP 7 2 rfl rfl (o := i) (by omega) (by decide) dX1_giveByShare_26 ?_
    refine vp_callSd (va_Run.run (va_runS (As := [.double r3, .double (ne' i)]) (rest := []) ⟨hx, hb, hml, (xk_od hown), (dr_words hts _)⟩ (mX1_lesser l r3 (ne' i)) (va_cwS 2 (dr_words hts _) gX1_giveByShare_X1_lesser rfl rfl rfl (by decide +kernel) ⟨Nat.le_of_ble_eq_true rfl, Nat.le_of_ble_eq_true rfl⟩) ⟨fun a U g mk q => q, fun U hU hW => ⟨rfl, trivial⟩⟩ rfl rfl hl.1 rfl (lv_room (Nat.le_of_ble_eq_true rfl)) dX1_giveByShare_27 ⟨Nat.le_of_ble_eq_true rfl, Nat.le_of_ble_eq_true rfl⟩)) (fun x hx1 => ?_)
    have eu : dt x = uS sun sh V i := by rw [hx1, er3, er1, hq1 i hlt, po_at0]; rfl
    refine lv_dstore (lv' := [(4, .double x), (0, .ref (a 0)), (1, .int (nI n)), (2, .int sun), (3, .int (nI i))]) hx hb dX1_giveByShare_30 hl (by decide) rfl (fun ls hl => ?_)
    refine lv_aload_n hx hb dX1_giveByShare_32 rfl (lv_at hl 1 rfl) ?_
    refine lv_iload_n hx hb dX1_giveByShare_33 rfl (lv_at hl 4 rfl) ?_
    refine lv_iload_n hx hb dX1_giveByShare_34 rfl (lv_at hl 2 rfl) ?_
    refine lv_dload hx hb dX1_giveByShare_35 (lv_at hl 0 rfl) ?_
    have hFc := va_free (wc := XW a cI cZ cD sh sw ts bi it tu ne' pr so lo' wt cn lp lz lu lk ld lf' lb lw) hD hS hA [0, 1, 2, 3, 4, 5, 6, 7, 8, 9, 10, 11, 12, 13, 14, 15, 16] rfl
    refine va_callvD hd4 (va_runV_D (As := [.int (nI i), .int (nI n), .double x]) (rest := []) ⟨hx, hb, hml, (xk_od hown), (dr_words hts _)⟩ (mX1_giveSun l D cI cZ cD a _ sh sw ts bi it tu ne' pr so lo' wt cn lp lz lu lk ld lf' lb lw i n x hlt hn _ hq1) (cwV 3 (dr_words hts _) gX1_giveByShare_X1_giveSun rfl rfl rfl (by decide +kernel) ⟨Nat.le_of_ble_eq_true rfl, Nat.le_of_ble_eq_true rfl⟩) ⟨xk_blind, va_recv (xk_Kd hK) hP (ci := 1) (q0 := 0) rfl rfl, xk_pre hP (xk_Kd hK) hD⟩ rfl rfl hl.1 rfl (lv_room (Nat.le_of_ble_eq_true rfl)) dX1_giveByShare_37 ⟨Nat.le_of_ble_eq_true rfl, Nat.le_of_ble_eq_true rfl⟩) hS (fun q _ h => hFc q h) hFc (fun u t H locs ht hvm hw hB hz1 hk1 hS _ hd5 => ?_)
    obtain ⟨lf2, ne2⟩ := u
    obtain ⟨hP, -, hD1⟩ := hB
    rw [ht] at hP
    have hD := hD1.weaken (B := A) (fun _ _ _ h => hFc _ h)
    have hP : va_P D vwCl (XW a cI cZ cD sh sw ts bi it tu ne2 pr so lo' wt cn lp lz lu lk ld lf2 lb lw) H := hP
    have hD : va_D A (XW a cI cZ cD sh sw ts bi it tu ne2 pr so lo' wt cn lp lz lu lk ld lf2 lb lw) := hD
    obtain ⟨hw1, hw2⟩ := hw
    refine lv_aload_n hx hb dX1_giveByShare_40 rfl (lv_at hl 1 rfl) ?_
    refine lv_dup hx hb dX1_giveByShare_41 rfl ?_
    refine va_get (D := D) (ci := 1) (v := .double lo') (C := RX1) (T := TX1) (N := 12) hx hb (dr_words hts _) inX1 (xk_od hown) (xk_Kd hK) hP 0 rfl rfl 11 (by decide) (dr_words hts _ (.fieldLink RX1 53 "GridCommons" "leftOver" "D") (by decide +kernel)) (fun _ h9 => h9) rfl dX1_giveByShare_42 ?_
    refine lv_dload hx hb dX1_giveByShare_45 (lv_at hl 0 rfl) ?_
    refine lv_dsub_any hd5 lw_bits hx hb dX1_giveByShare_47 (fun r6 _ hal hd7 => ?_)
    have er6 := dt_sub hal
    refine va_put (D := D) (ci := 1) (v := .double r6) (ty := .double) (C := RX1) (T := TX1) (N := 12) hx hb (dr_words hts _) inX1 tyX1 tyX1_ok nmX1 (xk_od hown) (xk_Kd hK) hP hD hS 0 rfl rfl 11 (by decide) (dr_words hts _ (.fieldLink RX1 53 "GridCommons" "leftOver" "D") (by decide +kernel)) (fun _ h9 => h9) rfl (by decide +kernel) rfl rfl (Nat.le_of_ble_eq_true rfl) dX1_giveByShare_48 (fun H locs hP hD hS => ?_)
    have hP : va_P D vwCl (XW a cI cZ cD sh sw ts bi it tu ne2 pr so r6 wt cn lp lz lu lk ld lf2 lb lw) H := hP
    have hD : va_D A (XW a cI cZ cD sh sw ts bi it tu ne2 pr so r6 wt cn lp lz lu lk ld lf2 lb lw) := hD
    refine lv_iinc (v := nI (i + 1)) (lv' := [(3, .int (nI (i + 1))), (4, .double x), (0, .ref (a 0)), (1, .int (nI n)), (2, .int sun)]) hx hb dX1_giveByShare_51 hl (k := 4) rfl (nI_1 i) (by decide) rfl (fun ls hl => ?_)
    refine lv_goto (tgt := 2) hx hb dX1_giveByShare_54 (by decide) ?_
    exact next _ _ _ _ hlt ⟨lf2, ne2, r6, (hw1.trans (po_step hq0 (by rw [po_rd hq0, eu]))), (is5_cg hw2 (po_step0 rfl (by rw [po_at0, eu]))), (by rw [er6, hq2, eu]; rfl), hP, hD, hS, hd7, lv_sub hl [2, 3, 4, 0] rfl⟩
set_option maxHeartbeats 4000000 in
set_option maxRecDepth 100000 in
theorem mX1_giveByNeed (l : Launch) (D : va_G) (cI cZ cD : ClassId) (a : Nat → Nat) (sz : Nat) (sh sw ts : Nat → Int32) (bi : Nat → UInt64) (it tu : Nat → Int32) (ne : Nat → UInt64) (pr so lo : UInt64) (wt cn : Int32) (lp lz lu : Nat → UInt64) (lk : Nat → Int32) (ld lf lb lw : Nat → UInt64) (n : Nat) (hn : n < 60) (V : Nat → Dm) (hV : is5 ne V) : MetD lw_cs l yX1_giveByNeed wsX1_giveByNeed ({ frames := 2, cells := 0, slots := 0, locals := 45 } : Room) (va_Pc [.ref (a 0), .int (nI n)] (XP D cI cZ cD (XW a cI cZ cD sh sw ts bi it tu ne pr so lo wt cn lp lz lu lk ld lf lb lw) sz)) (va_Qv (fun (u : (Nat → UInt64) × (Nat → UInt64) × UInt64) => dts u.1 = (if noNeed V then dts lf else po (5 * n) 5 (dts lf) (fun k => dAdd (dts lf (5 * n + k)) (gE V (dt lo) k))) ∧ is5 u.2.1 (nE V (dt lo)) ∧ dt u.2.2 = lE V (dt lo)) (fun (u : (Nat → UInt64) × (Nat → UInt64) × UInt64) t => XB D cI cZ cD (XW a cI cZ cD sh sw ts bi it tu u.2.1 pr so u.2.2 wt cn lp lz lu lk ld u.1 lb lw) (va_A (XW a cI cZ cD sh sw ts bi it tu ne pr so lo wt cn lp lz lu lk ld lf lb lw) sz) t) (va_A (XW a cI cZ cD sh sw ts bi it tu ne pr so lo wt cn lp lz lu lk ld lf lb lw) sz)) 0 0 (va_A (XW a cI cZ cD sh sw ts bi it tu ne pr so lo wt cn lp lz lu lk ld lf lb lw) sz) := by
  refine MetD.ofW (cc := cX1_giveByNeed) (maxL := 5) (ret := none) (by decide +kernel) rfl ?_
  intro p e s m args below meth c s₁ B hml hv hd0
  obtain ⟨rfl, hsz, hP, hK, hD0⟩ := hv
  have hx := B.exec
  have hb := B.bytes
  have hr := B.returns
  have hts := atoms_spec (ws := wsX1_giveByNeed) B.pre
  have hown : s.vm.findClass RX1 = some m.cls := findClass_of_methodNamed B.named
  have hlocks := B.notSynchronized
  subst hsz
  have hD := hD0.self (sz := s.heap.size)
  generalize hAe : va_A (XW a cI cZ cD sh sw ts bi it tu ne pr so lo wt cn lp lz lu lk ld lf lb lw) s.heap.size = A at hD ⊢
  have hA : ∀ q : Nat, s.heap.size ≤ q → A q := fun q h => by rw [← hAe]; exact Or.inr h
  have hS : va_S A s.heap s.heap [] := va_S.rf
  have hl := lv_entry ([.ref (a 0), .int (nI n)]) (n := 5) (Nat.le_of_ble_eq_true rfl)
  rw [lg_entry_eq]
  generalize (lg_sl ([.ref (a 0), .int (nI n)]) ++ List.replicate (5 - (lg_sl ([.ref (a 0), .int (nI n)])).length) Slot.unset).toArray = ls at hl ⊢
  have hl : lv_has ls 5 [(0, .ref (a 0)), (1, .int (nI n))] := hl
  have inX1 : ∀ w ∈ wsX10, w ∈ wsX1_giveByNeed := by decide +kernel
  refine lv_aload_n hx hb dX1_giveByNeed_0 rfl (lv_at hl 0 rfl) ?_
  have hFc := va_free (wc := XW a cI cZ cD sh sw ts bi it tu ne pr so lo wt cn lp lz lu lk ld lf lb lw) hD hS hA [0, 1, 2, 3, 4, 5, 6, 7, 8, 9, 10, 11, 12, 13, 14, 15, 16] rfl
  refine va_calldD hd0 (va_runV_D (As := []) (rest := []) ⟨hx, hb, hml, (xk_od hown), (dr_words hts _)⟩ (mX1_sumOfNeeds l D cI cZ cD a _ sh sw ts bi it tu ne pr so lo wt cn lp lz lu lk ld lf lb lw V hV) (cwV 0 (dr_words hts _) gX1_giveByNeed_X1_sumOfNeeds rfl rfl rfl (by decide +kernel) ⟨Nat.le_of_ble_eq_true rfl, Nat.le_of_ble_eq_true rfl⟩) ⟨xk_blind, va_recv (xk_Kd hK) hP (ci := 1) (q0 := 0) rfl rfl, xk_pre hP (xk_Kd hK) hD⟩ rfl rfl hl.1 rfl (lv_room (Nat.le_of_ble_eq_true rfl)) dX1_giveByNeed_1 ⟨Nat.le_of_ble_eq_true rfl, Nat.le_of_ble_eq_true rfl⟩) hS (fun q _ h => hFc q h) hFc (fun sm u t H locs ht hvm hw hB hz1 hk1 hS _ hd1 => ?_)
  obtain ⟨hP, -, hD1⟩ := hB
  rw [ht] at hP
  have hD := hD1.weaken (B := A) (fun _ _ _ h => hFc _ h)
  have hP : va_P D vwCl (XW a cI cZ cD sh sw ts bi it tu ne pr so lo wt cn lp lz lu lk ld lf lb lw) H := hP
  have hD : va_D A (XW a cI cZ cD sh sw ts bi it tu ne pr so lo wt cn lp lz lu lk ld lf lb lw) := hD
  refine lv_dstore_n (lv' := [(2, .double sm), (0, .ref (a 0)), (1, .int (nI n))]) hx hb dX1_giveByNeed_4 rfl hl (by decide) rfl (fun ls hl => ?_)
  refine lv_dload_n hx hb dX1_giveByNeed_5 rfl (lv_at hl 0 rfl) ?_
  refine lv_dconst0 hx hb dX1_giveByNeed_6 ?_
  refine lv_dcmp hx hb dX1_giveByNeed_7 ?_
  refine lv_if_ne (tgt := 12) hx hb dX1_giveByNeed_8 (by decide) (fun c => ?_) (fun c => ?_)
  · skip
    have hN : ¬ noNeed V := fun q => c ((cv_l_eq _).mpr (show dCmp (dt sm) dZ = some .eq by rw [hw]; exact q))
    refine lv_dload_n hx hb dX1_giveByNeed_12 rfl (lv_at hl 0 rfl) ?_
    refine lv_aload_n hx hb dX1_giveByNeed_13 rfl (lv_at hl 1 rfl) ?_
    refine va_get (D := D) (ci := 1) (v := .double lo) (C := RX1) (T := TX1) (N := 12) hx hb (dr_words hts _) inX1 (xk_od hown) (xk_Kd hK) hP 0 rfl rfl 11 (by decide) (dr_words hts _ (.fieldLink RX1 53 "GridCommons" "leftOver" "D") (by decide +kernel)) (fun _ h9 => h9) rfl dX1_giveByNeed_14 ?_
    refine lv_dcmp hx hb dX1_giveByNeed_17 ?_
    refine lv_if_gt (tgt := 61) hx hb dX1_giveByNeed_18 (by decide) (fun c1 => ?_) (fun c1 => ?_)
    · skip
      have hE : ¬ enough V (dt lo) := by have q := (cv_g_gt _).mp c1; have q2 : ¬ (dCmp (dt sm) (dt lo) = some .lt ∨ dCmp (dt sm) (dt lo) = some .eq) := q; rw [hw] at q2; exact q2
      refine lv_iconst (v := nI 0) hx hb dX1_giveByNeed_61 (by decide) ?_
      refine lv_istore (lv' := [(4, .int (nI 0)), (2, .double sm), (0, .ref (a 0)), (1, .int (nI n))]) hx hb dX1_giveByNeed_62 hl (by decide) rfl (fun ls hl => ?_)
      refine xk_loop (fun i H locs ls d => ∃ (lf' : Nat → UInt64) (ne' : Nat → UInt64), (dts lf' = po (5 * n) i (dts lf) (fun k => dAdd (dts lf (5 * n + k)) (gE V (dt lo) k))) ∧ (is5 ne' (po 0 i V (fun k => dSub (V k) (gE V (dt lo) k)))) ∧ (va_P D vwCl (XW a cI cZ cD sh sw ts bi it tu ne' pr so lo wt cn lp lz lu lk ld lf' lb lw) H) ∧ (va_D A (XW a cI cZ cD sh sw ts bi it tu ne' pr so lo wt cn lp lz lu lk ld lf' lb lw)) ∧ (va_S A s.heap H locs) ∧ (s.drawn.sameBut d lw_cs) ∧ (lv_has ls 5 [(0, .ref (a 0)), (1, .int (nI n)), (2, .double sm), (4, .int (nI i))])) 5 ?_ (i := 0) (Nat.zero_le _) ⟨lf, ne, (po_0 _ _ _).symm, (is5_cg hV (po_0 _ _ _).symm), hP, hD, hS, hd1, lv_sub hl [2, 3, 1, 0] rfl⟩
      intro i H locs ls d hi hI next
      obtain ⟨lf', ne', hq0, hq1, hP, hD, hS, hdl, hl⟩ := hI
      refine lv_iload hx hb dX1_giveByNeed_64 (lv_at hl 3 rfl) ?_
      refine lv_iconst (v := nI 5) hx hb dX1_giveByNeed_66 (by decide) ?_
      refine lv_icmp_ge (tgt := 97) hx hb dX1_giveByNeed_67 (by decide) (fun c2 => ?_) (fun c2 => ?_)
      · skip
        obtain rfl := xk_ge hi (by decide) c2
        refine lv_aload_n hx hb dX1_giveByNeed_97 rfl (lv_at hl 0 rfl) ?_
        refine lv_dconst0 hx hb dX1_giveByNeed_98 ?_
        refine va_put (D := D) (ci := 1) (v := .double FP.dconst0) (ty := .double) (C := RX1) (T := TX1) (N := 12) hx hb (dr_words hts _) inX1 tyX1 tyX1_ok nmX1 (xk_od hown) (xk_Kd hK) hP hD hS 0 rfl rfl 11 (by decide) (dr_words hts _ (.fieldLink RX1 53 "GridCommons" "leftOver" "D") (by decide +kernel)) (fun _ h9 => h9) rfl (by decide +kernel) rfl rfl (Nat.le_of_ble_eq_true rfl) dX1_giveByNeed_99 (fun H locs hP hD hS => ?_)
        have hP : va_P D vwCl (XW a cI cZ cD sh sw ts bi it tu ne' pr so FP.dconst0 wt cn lp lz lu lk ld lf' lb lw) H := hP
        have hD : va_D A (XW a cI cZ cD sh sw ts bi it tu ne' pr so FP.dconst0 wt cn lp lz lu lk ld lf' lb lw) := hD
        refine W.endD hdl ?_
        exact W.vret hx hb hr (fun t ht hW => ⟨⟨(lf', ne', FP.dconst0), rfl, ⟨by rw [if_neg hN]; exact hq0, (is5_done hq1).to (fun j hj => by unfold nE; rw [if_neg hN]), by unfold lE; rw [if_neg hN, if_neg hE]; rfl⟩, by rw [ht]; exact hP, va_K.moved hW.alike (xk_Kd hK), hD⟩, hS.F ht⟩) hS.2.2 dX1_giveByNeed_102
      · skip
        have hlt := xk_nge hi (by decide) c2
        refine lv_aload_n hx hb dX1_giveByNeed_70 rfl (lv_at hl 0 rfl) ?_
        refine lv_iload hx hb dX1_giveByNeed_71 (lv_at hl 3 rfl) ?_
        refine lv_iload_n hx hb dX1_giveByNeed_73 rfl (lv_at hl 1 rfl) ?_
        refine lv_aload_n hx hb dX1_giveByNeed_74 rfl (lv_at hl 0 rfl) ?_
        refine va_get (D := D) (ci := 1) (v := .double lo) (C := RX1) (T := TX1) (N := 12) hx hb (dr_words hts _) inX1 (xk_od hown) (xk_Kd hK) hP 0 rfl rfl 11 (by decide) (dr_words hts _ (.fieldLink RX1 53 "GridCommons" "leftOver" "D") (by decide +kernel)) (fun _ h9 => h9) rfl dX1_giveByNeed_75 ?_
        refine lv_aload_n hx hb dX1_giveByNeed_78 rfl (lv_at hl 0 rfl) ?_
        refine va_get (D := D) (ci := 1) (v := .ref (a 7)) (C := RX1) (T := TX1) (N := 12) hx hb (dr_words hts _) inX1 (xk_od hown) (xk_Kd hK) hP 0 rfl rfl 10 (by decide) (dr_words hts _ (.fieldLink RX1 50 "GridCommons" "needs" "[D") (by decide +kernel)) (fun _ h9 => h9) rfl dX1_giveByNeed_79 ?_
        refine lv_iload hx hb dX1_giveByNeed_82 (lv_at hl 3 rfl) ?_
        refine xk_dald hx hb (xk_Kd hK) hP 7 2 rfl rfl (o := i) (by omega) (by decide) dX1_giveByNeed_84 ?_
        refine lv_dmul_any hdl lw_bits hx hb dX1_giveByNeed_85 (fun r2 _ hal hd3 => ?_)
        have er2 := dt_mul hal
        refine lv_dload_n hx hb dX1_giveByNeed_86 rfl (lv_at hl 2 rfl) ?_
        refine lv_ddiv_any hd3 lw_bits hx hb dX1_giveByNeed_87 (fun r4 _ hal hd5 => ?_)
        have er4 := dt_div hal
        have eu : dt r4 = gE V (dt lo) i := by unfold gE; rw [if_neg hE, er4, er2, hq1 i hlt, po_at0, hw]
        have hFc := va_free (wc := XW a cI cZ cD sh sw ts bi it tu ne' pr so lo wt cn lp lz lu lk ld lf' lb lw) hD hS hA [0, 1, 2, 3, 4, 5, 6, 7, 8, 9, 10, 11, 12, 13, 14, 15, 16] rfl
        refine va_callvD hd5 (va_runV_D (As := [.int (nI i), .int (nI n), .double r4]) (rest := []) ⟨hx, hb, hml, (xk_od hown), (dr_words hts _)⟩ (mX1_giveSun l D cI cZ cD a _ sh sw ts bi it tu ne' pr so lo wt cn lp lz lu lk ld lf' lb lw i n r4 hlt hn _ hq1) (cwV 3 (dr_words hts _) gX1_giveByNeed_X1_giveSun rfl rfl rfl (by decide +kernel) ⟨Nat.le_of_ble_eq_true rfl, Nat.le_of_ble_eq_true rfl⟩) ⟨xk_blind, va_recv (xk_Kd hK) hP (ci := 1) (q0 := 0) rfl rfl, xk_pre hP (xk_Kd hK) hD⟩ rfl rfl hl.1 rfl (lv_room (Nat.le_of_ble_eq_true rfl)) dX1_giveByNeed_88 ⟨Nat.le_of_ble_eq_true rfl, Nat.le_of_ble_eq_true rfl⟩) hS (fun q _ h => hFc q h) hFc (fun u t H locs ht hvm hw hB hz1 hk1 hS _ hd6 => ?_)
        obtain ⟨lf2, ne2⟩ := u
        obtain ⟨hP, -, hD1⟩ := hB
        rw [ht] at hP
        have hD := hD1.weaken (B := A) (fun _ _ _ h => hFc _ h)
        have hP : va_P D vwCl (XW a cI cZ cD sh sw ts bi it tu ne2 pr so lo wt cn lp lz lu lk ld lf2 lb lw) H := hP
        have hD : va_D A (XW a cI cZ cD sh sw ts bi it tu ne2 pr so lo wt cn lp lz lu lk ld lf2 lb lw) := hD
        obtain ⟨hw1, hw2⟩ := hw
        refine lv_iinc (v := nI (i + 1)) (lv' := [(4, .int (nI (i + 1))), (0, .ref (a 0)), (1, .int (nI n)), (2, .double sm)]) hx hb dX1_giveByNeed_91 hl (k := 3) rfl (nI_1 i) (by decide) rfl (fun ls hl => ?_)
        refine lv_goto (tgt := 64) hx hb dX1_giveByNeed_94 (by decide) ?_
        exact next _ _ _ _ hlt ⟨lf2, ne2, (hw1.trans (po_step hq0 (by rw [po_rd hq0, eu]))), (is5_cg hw2 (po_step0 rfl (by rw [po_at0, eu]))), hP, hD, hS, hd6, lv_sub hl [1, 2, 3, 0] rfl⟩
    · skip
      have hE : enough V (dt lo) := by have q := Decidable.of_not_not (fun q => c1 ((cv_g_gt _).mpr q)); have q2 : dCmp (dt sm) (dt lo) = some .lt ∨ dCmp (dt sm) (dt lo) = some .eq := q; rw [hw] at q2; exact q2
      refine lv_aload_n hx hb dX1_giveByNeed_21 rfl (lv_at hl 1 rfl) ?_
      refine lv_dup hx hb dX1_giveByNeed_22 rfl ?_
      refine va_get (D := D) (ci := 1) (v := .double lo) (C := RX1) (T := TX1) (N := 12) hx hb (dr_words hts _) inX1 (xk_od hown) (xk_Kd hK) hP 0 rfl rfl 11 (by decide) (dr_words hts _ (.fieldLink RX1 53 "GridCommons" "leftOver" "D") (by decide +kernel)) (fun _ h9 => h9) rfl dX1_giveByNeed_23 ?_
      refine lv_dload_n hx hb dX1_giveByNeed_26 rfl (lv_at hl 0 rfl) ?_
      refine lv_dsub_any hd1 lw_bits hx hb dX1_giveByNeed_27 (fun r7 _ hal hd8 => ?_)
      have er7 := dt_sub hal
      refine va_put (D := D) (ci := 1) (v := .double r7) (ty := .double) (C := RX1) (T := TX1) (N := 12) hx hb (dr_words hts _) inX1 tyX1 tyX1_ok nmX1 (xk_od hown) (xk_Kd hK) hP hD hS 0 rfl rfl 11 (by decide) (dr_words hts _ (.fieldLink RX1 53 "GridCommons" "leftOver" "D") (by decide +kernel)) (fun _ h9 => h9) rfl (by decide +kernel) rfl rfl (Nat.le_of_ble_eq_true rfl) dX1_giveByNeed_28 (fun H locs hP hD hS => ?_)
      have hP : va_P D vwCl (XW a cI cZ cD sh sw ts bi it tu ne pr so r7 wt cn lp lz lu lk ld lf lb lw) H := hP
      have hD : va_D A (XW a cI cZ cD sh sw ts bi it tu ne pr so r7 wt cn lp lz lu lk ld lf lb lw) := hD
      refine lv_iconst (v := nI 0) hx hb dX1_giveByNeed_31 (by decide) ?_
      refine lv_istore (lv' := [(4, .int (nI 0)), (2, .double sm), (0, .ref (a 0)), (1, .int (nI n))]) hx hb dX1_giveByNeed_32 hl (by decide) rfl (fun ls hl => ?_)
      refine xk_loop (fun i H locs ls d => ∃ (lf' : Nat → UInt64) (ne' : Nat → UInt64), (dts lf' = po (5 * n) i (dts lf) (fun k => dAdd (dts lf (5 * n + k)) (gE V (dt lo) k))) ∧ (is5 ne' (po 0 i V (fun k => dSub (V k) (gE V (dt lo) k)))) ∧ (va_P D vwCl (XW a cI cZ cD sh sw ts bi it tu ne' pr so r7 wt cn lp lz lu lk ld lf' lb lw) H) ∧ (va_D A (XW a cI cZ cD sh sw ts bi it tu ne' pr so r7 wt cn lp lz lu lk ld lf' lb lw)) ∧ (va_S A s.heap H locs) ∧ (s.drawn.sameBut d lw_cs) ∧ (lv_has ls 5 [(0, .ref (a 0)), (1, .int (nI n)), (2, .double sm), (4, .int (nI i))])) 5 ?_ (i := 0) (Nat.zero_le _) ⟨lf, ne, (po_0 _ _ _).symm, (is5_cg hV (po_0 _ _ _).symm), hP, hD, hS, hd8, lv_sub hl [2, 3, 1, 0] rfl⟩
      intro i H locs ls d hi hI next
      obtain ⟨lf', ne', hq0, hq1, hP, hD, hS, hdl, hl⟩ := hI
      refine lv_iload hx hb dX1_giveByNeed_34 (lv_at hl 3 rfl) ?_
      refine lv_iconst (v := nI 5) hx hb dX1_giveByNeed_36 (by decide) ?_
      refine lv_icmp_ge (tgt := 60) hx hb dX1_giveByNeed_37 (by decide) (fun c2 => ?_) (fun c2 => ?_)
      · skip
        obtain rfl := xk_ge hi (by decide) c2
        refine W.endD hdl ?_
        exact W.vret hx hb hr (fun t ht hW => ⟨⟨(lf', ne', r7), rfl, ⟨by rw [if_neg hN]; exact hq0, (is5_done hq1).to (fun j hj => by unfold nE; rw [if_neg hN]), by unfold lE; rw [if_neg hN, if_pos hE, er7, hw]⟩, by rw [ht]; exact hP, va_K.moved hW.alike (xk_Kd hK), hD⟩, hS.F ht⟩) hS.2.2 dX1_giveByNeed_60
      · skip
        have hlt := xk_nge hi (by decide) c2
        refine lv_aload_n hx hb dX1_giveByNeed_40 rfl (lv_at hl 0 rfl) ?_
        refine lv_iload hx hb dX1_giveByNeed_41 (lv_at hl 3 rfl) ?_
        refine lv_iload_n hx hb dX1_giveByNeed_43 rfl (lv_at hl 1 rfl) ?_
        refine lv_aload_n hx hb dX1_giveByNeed_44 rfl (lv_at hl 0 rfl) ?_
        refine va_get (D := D) (ci := 1) (v := .ref (a 7)) (C := RX1) (T := TX1) (N := 12) hx hb (dr_words hts _) inX1 (xk_od hown) (xk_Kd hK) hP 0 rfl rfl 10 (by decide) (dr_words hts _ (.fieldLink RX1 50 "GridCommons" "needs" "[D") (by decide +kernel)) (fun _ h9 => h9) rfl dX1_giveByNeed_45 ?_
        refine lv_iload hx hb dX1_giveByNeed_48 (lv_at hl 3 rfl) ?_
        refine xk_dald hx hb (xk_Kd hK) hP 7 2 rfl rfl (o := i) (by omega) (by decide) dX1_giveByNeed_50 ?_
        have eu : dt (ne' i) = gE V (dt lo) i := by unfold gE; rw [if_pos hE, hq1 i hlt, po_at0]
        have hFc := va_free (wc := XW a cI cZ cD sh sw ts bi it tu ne' pr so r7 wt cn lp lz lu lk ld lf' lb lw) hD hS hA [0, 1, 2, 3, 4, 5, 6, 7, 8, 9, 10, 11, 12, 13, 14, 15, 16] rfl
        refine va_callvD hdl (va_runV_D (As := [.int (nI i), .int (nI n), .double (ne' i)]) (rest := []) ⟨hx, hb, hml, (xk_od hown), (dr_words hts _)⟩ (mX1_giveSun l D cI cZ cD a _ sh sw ts bi it tu ne' pr so r7 wt cn lp lz lu lk ld lf' lb lw i n (ne' i) hlt hn _ hq1) (cwV 3 (dr_words hts _) gX1_giveByNeed_X1_giveSun rfl rfl rfl (by decide +kernel) ⟨Nat.le_of_ble_eq_true rfl, Nat.le_of_ble_eq_true rfl⟩) ⟨xk_blind, va_recv (xk_Kd hK) hP (ci := 1) (q0 := 0) rfl rfl, xk_pre hP (xk_Kd hK) hD⟩ rfl rfl hl.1 rfl (lv_room (Nat.le_of_ble_eq_true rfl)) dX1_giveByNeed_51 ⟨Nat.le_of_ble_eq_true rfl, Nat.le_of_ble_eq_true rfl⟩) hS (fun q _ h => hFc q h) hFc (fun u t H locs ht hvm hw hB hz1 hk1 hS _ hd9 => ?_)
        obtain ⟨lf2, ne2⟩ := u
        obtain ⟨hP, -, hD1⟩ := hB
        rw [ht] at hP
        have hD := hD1.weaken (B := A) (fun _ _ _ h => hFc _ h)
        have hP : va_P D vwCl (XW a cI cZ cD sh sw ts bi it tu ne2 pr so r7 wt cn lp lz lu lk ld lf2 lb lw) H := hP
        have hD : va_D A (XW a cI cZ cD sh sw ts bi it tu ne2 pr so r7 wt cn lp lz lu lk ld lf2 lb lw) := hD
        obtain ⟨hw1, hw2⟩ := hw
        refine lv_iinc (v := nI (i + 1)) (lv' := [(4, .int (nI (i + 1))), (0, .ref (a 0)), (1, .int (nI n)), (2, .double sm)]) hx hb dX1_giveByNeed_54 hl (k := 3) rfl (nI_1 i) (by decide) rfl (fun ls hl => ?_)
        refine lv_goto (tgt := 34) hx hb dX1_giveByNeed_57 (by decide) ?_
        exact next _ _ _ _ hlt ⟨lf2, ne2, (hw1.trans (po_step hq0 (by rw [po_rd hq0, eu]))), (is5_cg hw2 (po_step0 rfl (by rw [po_at0, eu]))), hP, hD, hS, hd9, lv_sub hl [1, 2, 3, 0] rfl⟩
  · skip
    have hN : noNeed V := by have q := (cv_l_eq _).mp c; have q2 : dCmp (dt sm) dZ = some .eq := q; rw [hw] at q2; exact q2
    refine W.endD hd1 ?_
    exact W.vret hx hb hr (fun t ht hW => ⟨⟨(lf, ne, lo), rfl, ⟨by rw [if_pos hN], hV.to (fun j hj => by unfold nE; rw [if_pos hN]), by unfold lE; rw [if_pos hN]⟩, by rw [ht]; exact hP, va_K.moved hW.alike (xk_Kd hK), hD⟩, hS.F ht⟩) hS.2.2 dX1_giveByNeed_11
set_option maxHeartbeats 4000000 in
set_option maxRecDepth 100000 in
theorem mX1_storeOrSell (l : Launch) (D : va_G) (cI cZ cD : ClassId) (a : Nat → Nat) (sz : Nat) (sh sw ts : Nat → Int32) (bi : Nat → UInt64) (it tu : Nat → Int32) (ne : Nat → UInt64) (pr so lo : UInt64) (wt cn : Int32) (lp lz lu : Nat → UInt64) (lk : Nat → Int32) (ld lf lb lw : Nat → UInt64) (n : Nat) (hn : n < 60) : MetD lw_cs l yX1_storeOrSell wsX1_storeOrSell ({ frames := 0, cells := 0, slots := 0, locals := 0 } : Room) (va_Pc [.ref (a 0), .int (nI n)] (XP D cI cZ cD (XW a cI cZ cD sh sw ts bi it tu ne pr so lo wt cn lp lz lu lk ld lf lb lw) sz)) (va_Qv (fun (u : UInt64 × (Nat → UInt64)) => dt u.1 = soN (dt so) (dt lo) ∧ dts u.2 = va_up (dts lz) n (szN (dt so) (dt lo))) (fun (u : UInt64 × (Nat → UInt64)) t => XB D cI cZ cD (XW a cI cZ cD sh sw ts bi it tu ne pr u.1 lo wt cn lp u.2 lu lk ld lf lb lw) (va_A (XW a cI cZ cD sh sw ts bi it tu ne pr so lo wt cn lp lz lu lk ld lf lb lw) sz) t) (va_A (XW a cI cZ cD sh sw ts bi it tu ne pr so lo wt cn lp lz lu lk ld lf lb lw) sz)) 0 0 (va_A (XW a cI cZ cD sh sw ts bi it tu ne pr so lo wt cn lp lz lu lk ld lf lb lw) sz) := by
  refine MetD.ofW (cc := cX1_storeOrSell) (maxL := 4) (ret := none) (by decide +kernel) rfl ?_
  intro p e s m args below meth c s₁ B hml hv hd0
  obtain ⟨rfl, hsz, hP, hK, hD0⟩ := hv
  have hx := B.exec
  have hb := B.bytes
  have hr := B.returns
  have hts := atoms_spec (ws := wsX1_storeOrSell) B.pre
  have hown : s.vm.findClass RX1 = some m.cls := findClass_of_methodNamed B.named
  have hlocks := B.notSynchronized
  subst hsz
  have hD := hD0.self (sz := s.heap.size)
  generalize hAe : va_A (XW a cI cZ cD sh sw ts bi it tu ne pr so lo wt cn lp lz lu lk ld lf lb lw) s.heap.size = A at hD ⊢
  have hA : ∀ q : Nat, s.heap.size ≤ q → A q := fun q h => by rw [← hAe]; exact Or.inr h
  have hS : va_S A s.heap s.heap [] := va_S.rf
  have hl := lv_entry ([.ref (a 0), .int (nI n)]) (n := 4) (Nat.le_of_ble_eq_true rfl)
  rw [lg_entry_eq]
  generalize (lg_sl ([.ref (a 0), .int (nI n)]) ++ List.replicate (4 - (lg_sl ([.ref (a 0), .int (nI n)])).length) Slot.unset).toArray = ls at hl ⊢
  have hl : lv_has ls 4 [(0, .ref (a 0)), (1, .int (nI n))] := hl
  have inX1 : ∀ w ∈ wsX10, w ∈ wsX1_storeOrSell := by decide +kernel
  have inX0 : ∀ w ∈ wsX00, w ∈ wsX1_storeOrSell := by decide +kernel
  refine lv_ldc2d hx hb (xk_od hown) (dr_words hts _ (.constantDouble RX1 179 4630826316843712512) (by decide +kernel)) dX1_storeOrSell_0 ?_
  refine lv_aload_n hx hb dX1_storeOrSell_3 rfl (lv_at hl 0 rfl) ?_
  refine va_get (D := D) (ci := 1) (v := .double so) (C := RX1) (T := TX1) (N := 12) hx hb (dr_words hts _) inX1 (xk_od hown) (xk_Kd hK) hP 0 rfl rfl 8 (by decide) (dr_words hts _ (.fieldLink RX1 43 "GridCommons" "stored" "D") (by decide +kernel)) (fun _ h9 => h9) rfl dX1_storeOrSell_4 ?_
  refine lv_dsub_any hd0 lw_bits hx hb dX1_storeOrSell_7 (fun r1 _ hal hd2 => ?_)
  have er1 := dt_sub hal
  refine lv_dstore_n (lv' := [(2, .double r1), (0, .ref (a 0)), (1, .int (nI n))]) hx hb dX1_storeOrSell_8 rfl hl (by decide) rfl (fun ls hl => ?_)
  refine lv_aload_n hx hb dX1_storeOrSell_9 rfl (lv_at hl 1 rfl) ?_
  refine va_get (D := D) (ci := 1) (v := .double lo) (C := RX1) (T := TX1) (N := 12) hx hb (dr_words hts _) inX1 (xk_od hown) (xk_Kd hK) hP 0 rfl rfl 11 (by decide) (dr_words hts _ (.fieldLink RX1 53 "GridCommons" "leftOver" "D") (by decide +kernel)) (fun _ h9 => h9) rfl dX1_storeOrSell_10 ?_
  refine lv_dload_n hx hb dX1_storeOrSell_13 rfl (lv_at hl 0 rfl) ?_
  refine lv_dcmp hx hb dX1_storeOrSell_14 ?_
  refine lv_if_ge (tgt := 44) hx hb dX1_storeOrSell_15 (by decide) (fun c => ?_) (fun c => ?_)
  · skip
    have hc : ¬ dCmp (dt lo) (dSub d40 (dt so)) = some .lt := by have q := (cv_g_ge _).mp c; have q2 : ¬ dCmp (dt lo) (dt r1) = some .lt := q; rw [er1] at q2; exact q2
    refine lv_aload_n hx hb dX1_storeOrSell_44 rfl (lv_at hl 1 rfl) ?_
    refine lv_ldc2d hx hb (xk_od hown) (dr_words hts _ (.constantDouble RX1 179 4630826316843712512) (by decide +kernel)) dX1_storeOrSell_45 ?_
    refine va_put (D := D) (ci := 1) (v := .double 4630826316843712512) (ty := .double) (C := RX1) (T := TX1) (N := 12) hx hb (dr_words hts _) inX1 tyX1 tyX1_ok nmX1 (xk_od hown) (xk_Kd hK) hP hD hS 0 rfl rfl 8 (by decide) (dr_words hts _ (.fieldLink RX1 43 "GridCommons" "stored" "D") (by decide +kernel)) (fun _ h9 => h9) rfl (by decide +kernel) rfl rfl (Nat.le_of_ble_eq_true rfl) dX1_storeOrSell_48 (fun H locs hP hD hS => ?_)
    have hP : va_P D vwCl (XW a cI cZ cD sh sw ts bi it tu ne pr 4630826316843712512 lo wt cn lp lz lu lk ld lf lb lw) H := hP
    have hD : va_D A (XW a cI cZ cD sh sw ts bi it tu ne pr 4630826316843712512 lo wt cn lp lz lu lk ld lf lb lw) := hD
    refine lv_aload_n hx hb dX1_storeOrSell_51 rfl (lv_at hl 1 rfl) ?_
    refine va_get (D := D) (ci := 1) (v := .ref (a 8)) (C := RX1) (T := TX1) (N := 12) hx hb (dr_words hts _) inX1 (xk_od hown) (xk_Kd hK) hP 0 rfl rfl 6 (by decide) (dr_words hts _ (.fieldLink RX1 33 "GridCommons" "ledger" "LGridCommons$Ledger;") (by decide +kernel)) (fun _ h9 => h9) rfl dX1_storeOrSell_52 ?_
    refine va_get (D := D) (ci := 0) (v := .ref (a 10)) (C := RX0) (T := TX0) (N := 9) hx hb (dr_words hts _) inX0 (xk_od hown) (xk_Kd hK) hP 8 rfl rfl 2 (by decide) (dr_words hts _ (.fieldLink RX1 143 "GridCommons$Ledger" "sold" "[D") (by decide +kernel)) (fun _ h9 => h9) rfl dX1_storeOrSell_55 ?_
    refine lv_iload_n hx hb dX1_storeOrSell_58 rfl (lv_at hl 2 rfl) ?_
    refine lv_aload_n hx hb dX1_storeOrSell_59 rfl (lv_at hl 1 rfl) ?_
    refine va_get (D := D) (ci := 1) (v := .double lo) (C := RX1) (T := TX1) (N := 12) hx hb (dr_words hts _) inX1 (xk_od hown) (xk_Kd hK) hP 0 rfl rfl 11 (by decide) (dr_words hts _ (.fieldLink RX1 53 "GridCommons" "leftOver" "D") (by decide +kernel)) (fun _ h9 => h9) rfl dX1_storeOrSell_60 ?_
    refine lv_dload_n hx hb dX1_storeOrSell_63 rfl (lv_at hl 0 rfl) ?_
    refine lv_dsub_any hd2 lw_bits hx hb dX1_storeOrSell_64 (fun r3 _ hal hd4 => ?_)
    have er3 := dt_sub hal
    refine xk_dast hx hb (xk_Kd hK) hP hD hS 10 2 rfl rfl (o := n) (by omega) (by decide) dX1_storeOrSell_65 (fun H locs hP hD hS => ?_)
    have hP : va_P D vwCl (XW a cI cZ cD sh sw ts bi it tu ne pr 4630826316843712512 lo wt cn lp (vf_upd lz n r3) lu lk ld lf lb lw) H := hP
    have hD : va_D A (XW a cI cZ cD sh sw ts bi it tu ne pr 4630826316843712512 lo wt cn lp (vf_upd lz n r3) lu lk ld lf lb lw) := hD
    refine W.endD hd4 ?_
    exact W.vret hx hb hr (fun t ht hW => ⟨⟨(4630826316843712512, vf_upd lz n r3), rfl, ⟨by unfold soN; rw [if_neg hc], by unfold szN; rw [if_neg hc, dts_up, er3, er1]⟩, by rw [ht]; exact hP, va_K.moved hW.alike (xk_Kd hK), hD⟩, hS.F ht⟩) hS.2.2 dX1_storeOrSell_66
  · skip
    have hc : dCmp (dt lo) (dSub d40 (dt so)) = some .lt := by have q := Decidable.of_not_not (fun q => c ((cv_g_ge _).mpr q)); have q2 : dCmp (dt lo) (dt r1) = some .lt := q; rw [er1] at q2; exact q2
    refine lv_aload_n hx hb dX1_storeOrSell_18 rfl (lv_at hl 1 rfl) ?_
    refine lv_dup hx hb dX1_storeOrSell_19 rfl ?_
    refine va_get (D := D) (ci := 1) (v := .double so) (C := RX1) (T := TX1) (N := 12) hx hb (dr_words hts _) inX1 (xk_od hown) (xk_Kd hK) hP 0 rfl rfl 8 (by decide) (dr_words hts _ (.fieldLink RX1 43 "GridCommons" "stored" "D") (by decide +kernel)) (fun _ h9 => h9) rfl dX1_storeOrSell_20 ?_
    refine lv_aload_n hx hb dX1_storeOrSell_23 rfl (lv_at hl 1 rfl) ?_
    refine va_get (D := D) (ci := 1) (v := .double lo) (C := RX1) (T := TX1) (N := 12) hx hb (dr_words hts _) inX1 (xk_od hown) (xk_Kd hK) hP 0 rfl rfl 11 (by decide) (dr_words hts _ (.fieldLink RX1 53 "GridCommons" "leftOver" "D") (by decide +kernel)) (fun _ h9 => h9) rfl dX1_storeOrSell_24 ?_
    refine lv_dadd_any hd2 lw_bits hx hb dX1_storeOrSell_27 (fun r5 _ hal hd6 => ?_)
    have er5 := dt_add hal
    refine va_put (D := D) (ci := 1) (v := .double r5) (ty := .double) (C := RX1) (T := TX1) (N := 12) hx hb (dr_words hts _) inX1 tyX1 tyX1_ok nmX1 (xk_od hown) (xk_Kd hK) hP hD hS 0 rfl rfl 8 (by decide) (dr_words hts _ (.fieldLink RX1 43 "GridCommons" "stored" "D") (by decide +kernel)) (fun _ h9 => h9) rfl (by decide +kernel) rfl rfl (Nat.le_of_ble_eq_true rfl) dX1_storeOrSell_28 (fun H locs hP hD hS => ?_)
    have hP : va_P D vwCl (XW a cI cZ cD sh sw ts bi it tu ne pr r5 lo wt cn lp lz lu lk ld lf lb lw) H := hP
    have hD : va_D A (XW a cI cZ cD sh sw ts bi it tu ne pr r5 lo wt cn lp lz lu lk ld lf lb lw) := hD
    refine lv_aload_n hx hb dX1_storeOrSell_31 rfl (lv_at hl 1 rfl) ?_
    refine va_get (D := D) (ci := 1) (v := .ref (a 8)) (C := RX1) (T := TX1) (N := 12) hx hb (dr_words hts _) inX1 (xk_od hown) (xk_Kd hK) hP 0 rfl rfl 6 (by decide) (dr_words hts _ (.fieldLink RX1 33 "GridCommons" "ledger" "LGridCommons$Ledger;") (by decide +kernel)) (fun _ h9 => h9) rfl dX1_storeOrSell_32 ?_
    refine va_get (D := D) (ci := 0) (v := .ref (a 10)) (C := RX0) (T := TX0) (N := 9) hx hb (dr_words hts _) inX0 (xk_od hown) (xk_Kd hK) hP 8 rfl rfl 2 (by decide) (dr_words hts _ (.fieldLink RX1 143 "GridCommons$Ledger" "sold" "[D") (by decide +kernel)) (fun _ h9 => h9) rfl dX1_storeOrSell_35 ?_
    refine lv_iload_n hx hb dX1_storeOrSell_38 rfl (lv_at hl 2 rfl) ?_
    refine lv_dconst0 hx hb dX1_storeOrSell_39 ?_
    refine xk_dast hx hb (xk_Kd hK) hP hD hS 10 2 rfl rfl (o := n) (by omega) (by decide) dX1_storeOrSell_40 (fun H locs hP hD hS => ?_)
    have hP : va_P D vwCl (XW a cI cZ cD sh sw ts bi it tu ne pr r5 lo wt cn lp (vf_upd lz n FP.dconst0) lu lk ld lf lb lw) H := hP
    have hD : va_D A (XW a cI cZ cD sh sw ts bi it tu ne pr r5 lo wt cn lp (vf_upd lz n FP.dconst0) lu lk ld lf lb lw) := hD
    refine lv_goto (tgt := 66) hx hb dX1_storeOrSell_41 (by decide) ?_
    refine W.endD hd6 ?_
    exact W.vret hx hb hr (fun t ht hW => ⟨⟨(r5, vf_upd lz n FP.dconst0), rfl, ⟨by unfold soN; rw [if_pos hc, er5], by unfold szN; rw [if_pos hc, dts_up]; rfl⟩, by rw [ht]; exact hP, va_K.moved hW.alike (xk_Kd hK), hD⟩, hS.F ht⟩) hS.2.2 dX1_storeOrSell_66
set_option maxHeartbeats 4000000 in
set_option maxRecDepth 100000 in
theorem mX1_giveFromBattery (l : Launch) (D : va_G) (cI cZ cD : ClassId) (a : Nat → Nat) (sz : Nat) (sh sw ts : Nat → Int32) (bi : Nat → UInt64) (it tu : Nat → Int32) (ne : Nat → UInt64) (pr so lo : UInt64) (cn : Int32) (lp lz lu : Nat → UInt64) (lk : Nat → Int32) (ld lf lb lw : Nat → UInt64) (n tr : Nat) (hn : n < 60) (ht5 : tr < 5) (V : Nat → Dm) (hV : is5 ne V) : MetD lw_cs l yX1_giveFromBattery wsX1_giveFromBattery ({ frames := 2, cells := 0, slots := 0, locals := 42 } : Room) (va_Pc [.ref (a 0), .int (nI n)] (XP D cI cZ cD (XW a cI cZ cD sh sw ts bi it tu ne pr so lo (nI tr) cn lp lz lu lk ld lf lb lw) sz)) (va_Qv (fun (u : (Nat → UInt64) × UInt64 × (Nat → UInt64) × Nat) => is5 u.1 (gbs tr (5 * n) V (dt so) (dts lb) 5).1 ∧ dt u.2.1 = (gbs tr (5 * n) V (dt so) (dts lb) 5).2.1 ∧ dts u.2.2.1 = (gbs tr (5 * n) V (dt so) (dts lb) 5).2.2.1 ∧ u.2.2.2 = tnx tr (gbs tr (5 * n) V (dt so) (dts lb) 5).2.2.2) (fun (u : (Nat → UInt64) × UInt64 × (Nat → UInt64) × Nat) t => XB D cI cZ cD (XW a cI cZ cD sh sw ts bi it tu u.1 pr u.2.1 lo (nI u.2.2.2) cn lp lz lu lk ld lf u.2.2.1 lw) (va_A (XW a cI cZ cD sh sw ts bi it tu ne pr so lo (nI tr) cn lp lz lu lk ld lf lb lw) sz) t) (va_A (XW a cI cZ cD sh sw ts bi it tu ne pr so lo (nI tr) cn lp lz lu lk ld lf lb lw) sz)) 0 0 (va_A (XW a cI cZ cD sh sw ts bi it tu ne pr so lo (nI tr) cn lp lz lu lk ld lf lb lw) sz) := by
  refine MetD.ofW (cc := cX1_giveFromBattery) (maxL := 7) (ret := none) (by decide +kernel) rfl ?_
  intro p e s m args below meth c s₁ B hml hv hd0
  obtain ⟨rfl, hsz, hP, hK, hD0⟩ := hv
  have hx := B.exec
  have hb := B.bytes
  have hr := B.returns
  have hts := atoms_spec (ws := wsX1_giveFromBattery) B.pre
  have hown : s.vm.findClass RX1 = some m.cls := findClass_of_methodNamed B.named
  have hlocks := B.notSynchronized
  subst hsz
  have hD := hD0.self (sz := s.heap.size)
  generalize hAe : va_A (XW a cI cZ cD sh sw ts bi it tu ne pr so lo (nI tr) cn lp lz lu lk ld lf lb lw) s.heap.size = A at hD ⊢
  have hA : ∀ q : Nat, s.heap.size ≤ q → A q := fun q h => by rw [← hAe]; exact Or.inr h
  have hS : va_S A s.heap s.heap [] := va_S.rf
  have hl := lv_entry ([.ref (a 0), .int (nI n)]) (n := 7) (Nat.le_of_ble_eq_true rfl)
  rw [lg_entry_eq]
  generalize (lg_sl ([.ref (a 0), .int (nI n)]) ++ List.replicate (7 - (lg_sl ([.ref (a 0), .int (nI n)])).length) Slot.unset).toArray = ls at hl ⊢
  have hl : lv_has ls 7 [(0, .ref (a 0)), (1, .int (nI n))] := hl
  have inX1 : ∀ w ∈ wsX10, w ∈ wsX1_giveFromBattery := by decide +kernel
  have inX0 : ∀ w ∈ wsX00, w ∈ wsX1_giveFromBattery := by decide +kernel
  refine lv_iconst (v := (-1)) hx hb dX1_giveFromBattery_0 (by decide) ?_
  refine lv_istore_n (lv' := [(2, .int (-1)), (0, .ref (a 0)), (1, .int (nI n))]) hx hb dX1_giveFromBattery_1 rfl hl (by decide) rfl (fun ls hl => ?_)
  refine lv_aload_n hx hb dX1_giveFromBattery_2 rfl (lv_at hl 1 rfl) ?_
  refine va_get (D := D) (ci := 1) (v := .int (nI tr)) (C := RX1) (T := TX1) (N := 12) hx hb (dr_words hts _) inX1 (xk_od hown) (xk_Kd hK) hP 0 rfl rfl 9 (by decide) (dr_words hts _ (.fieldLink RX1 46 "GridCommons" "whoseTurn" "I") (by decide +kernel)) (fun _ h9 => h9) rfl dX1_giveFromBattery_3 ?_
  refine lv_istore_n (lv' := [(3, .int (nI tr)), (2, .int (-1)), (0, .ref (a 0)), (1, .int (nI n))]) hx hb dX1_giveFromBattery_6 rfl hl (by decide) rfl (fun ls hl => ?_)
  refine lv_iconst (v := nI 0) hx hb dX1_giveFromBattery_7 (by decide) ?_
  refine lv_istore (lv' := [(4, .int (nI 0)), (3, .int (nI tr)), (2, .int (-1)), (0, .ref (a 0)), (1, .int (nI n))]) hx hb dX1_giveFromBattery_8 hl (by decide) rfl (fun ls hl => ?_)
  have hl : lv_has ls 7 [(4, .int (nI 0)), (3, .int (nI ((tr + 0) % 5))), (2, .int (-1)), (0, .ref (a 0)), (1, .int (nI n))] := (by rw [show (tr + 0) % 5 = tr by omega]; exact hl)
  refine xk_loop (fun i H locs ls d => ∃ (ne' : Nat → UInt64) (so' : UInt64) (lb' : Nat → UInt64) (y : Option Nat), (is5 ne' (gbs tr (5 * n) V (dt so) (dts lb) i).1) ∧ (dt so' = (gbs tr (5 * n) V (dt so) (dts lb) i).2.1) ∧ (dts lb' = (gbs tr (5 * n) V (dt so) (dts lb) i).2.2.1) ∧ (y = (gbs tr (5 * n) V (dt so) (dts lb) i).2.2.2) ∧ (∀ o, y = some o → o < 5) ∧ (va_P D vwCl (XW a cI cZ cD sh sw ts bi it tu ne' pr so' lo (nI tr) cn lp lz lu lk ld lf lb' lw) H) ∧ (va_D A (XW a cI cZ cD sh sw ts bi it tu ne' pr so' lo (nI tr) cn lp lz lu lk ld lf lb' lw)) ∧ (va_S A s.heap H locs) ∧ (s.drawn.sameBut d lw_cs) ∧ (lv_has ls 7 [(0, .ref (a 0)), (1, .int (nI n)), (2, .int (oi y)), (3, .int (nI ((tr + i) % 5))), (4, .int (nI i))])) 5 ?_ (i := 0) (Nat.zero_le _) ⟨ne, so, lb, none, hV, rfl, rfl, rfl, (fun o h => nomatch h), hP, hD, hS, hd0, lv_sub hl [3, 4, 2, 1, 0] rfl⟩
  intro i H locs ls d hi hI next
  obtain ⟨ne', so', lb', y, hq0, hq1, hq2, hq3, hq4, hP, hD, hS, hdl, hl⟩ := hI
  refine lv_iload hx hb dX1_giveFromBattery_10 (lv_at hl 4 rfl) ?_
  refine lv_iconst (v := nI 5) hx hb dX1_giveFromBattery_12 (by decide) ?_
  refine lv_icmp_ge (tgt := 88) hx hb dX1_giveFromBattery_13 (by decide) (fun c => ?_) (fun c => ?_)
  · skip
    obtain rfl := xk_ge hi (by decide) c
    cases y with
    | none =>
      have hl : lv_has ls 7 [(0, .ref (a 0)), (1, .int (nI n)), (2, .int (-1)), (3, .int (nI ((tr + 5) % 5))), (4, .int (nI 5))] := hl
      refine lv_iload_n hx hb dX1_giveFromBattery_88 rfl (lv_at hl 2 rfl) ?_
      refine lv_iconst (v := (-1)) hx hb dX1_giveFromBattery_89 (by decide) ?_
      refine lv_icmp_eq (tgt := 101) hx hb dX1_giveFromBattery_90 (by decide) (fun c1 => ?_) (fun c1 => ?_)
      · skip
        refine W.endD hdl ?_
        exact W.vret hx hb hr (fun t ht hW => ⟨⟨(ne', so', lb', tr), rfl, ⟨hq0, hq1, hq2, by rw [← hq3]; rfl⟩, by rw [ht]; exact hP, va_K.moved hW.alike (xk_Kd hK), hD⟩, hS.F ht⟩) hS.2.2 dX1_giveFromBattery_101
      · skip
        exact absurd rfl c1
    | some o =>
      have hl : lv_has ls 7 [(0, .ref (a 0)), (1, .int (nI n)), (2, .int (nI o)), (3, .int (nI ((tr + 5) % 5))), (4, .int (nI 5))] := hl
      have ho := hq4 o rfl
      refine lv_iload_n hx hb dX1_giveFromBattery_88 rfl (lv_at hl 2 rfl) ?_
      refine lv_iconst (v := (-1)) hx hb dX1_giveFromBattery_89 (by decide) ?_
      refine lv_icmp_eq (tgt := 101) hx hb dX1_giveFromBattery_90 (by decide) (fun c1 => ?_) (fun c1 => ?_)
      · skip
        exact absurd c1 (nI_nm1 o ho)
      · skip
        refine lv_aload_n hx hb dX1_giveFromBattery_93 rfl (lv_at hl 0 rfl) ?_
        refine lv_iload_n hx hb dX1_giveFromBattery_94 rfl (lv_at hl 2 rfl) ?_
        refine vp_callSi (va_Run.run (va_runS (As := [.int (nI o)]) (rest := [.ref (a 0)]) ⟨hx, hb, hml, (xk_od hown), (dr_words hts _)⟩ (mX1_behind l o ho) (va_cwS 1 (dr_words hts _) gX1_giveFromBattery_X1_behind rfl rfl rfl (by decide +kernel) ⟨Nat.le_of_ble_eq_true rfl, Nat.le_of_ble_eq_true rfl⟩) ⟨fun a U g mk q => q, fun U hU hW => ⟨rfl, trivial⟩⟩ rfl rfl hl.1 rfl (lv_room (Nat.le_of_ble_eq_true rfl)) dX1_giveFromBattery_95 ⟨Nat.le_of_ble_eq_true rfl, Nat.le_of_ble_eq_true rfl⟩)) (fun r hr1 => ?_)
        subst hr1
        refine va_put (D := D) (ci := 1) (v := .int (nI ((o + 1) % 5))) (ty := .int) (C := RX1) (T := TX1) (N := 12) hx hb (dr_words hts _) inX1 tyX1 tyX1_ok nmX1 (xk_od hown) (xk_Kd hK) hP hD hS 0 rfl rfl 9 (by decide) (dr_words hts _ (.fieldLink RX1 46 "GridCommons" "whoseTurn" "I") (by decide +kernel)) (fun _ h9 => h9) rfl (by decide +kernel) rfl rfl (Nat.le_of_ble_eq_true rfl) dX1_giveFromBattery_98 (fun H locs hP hD hS => ?_)
        have hP : va_P D vwCl (XW a cI cZ cD sh sw ts bi it tu ne' pr so' lo (nI ((o + 1) % 5)) cn lp lz lu lk ld lf lb' lw) H := hP
        have hD : va_D A (XW a cI cZ cD sh sw ts bi it tu ne' pr so' lo (nI ((o + 1) % 5)) cn lp lz lu lk ld lf lb' lw) := hD
        refine W.endD hdl ?_
        exact W.vret hx hb hr (fun t ht hW => ⟨⟨(ne', so', lb', (o + 1) % 5), rfl, ⟨hq0, hq1, hq2, by rw [← hq3]; rfl⟩, by rw [ht]; exact hP, va_K.moved hW.alike (xk_Kd hK), hD⟩, hS.F ht⟩) hS.2.2 dX1_giveFromBattery_101
  · skip
    have hlt := xk_nge hi (by decide) c
    obtain ⟨o, hoe⟩ : ∃ o, o = (tr + i) % 5 := ⟨_, rfl⟩
    have ho : o < 5 := by omega
    rw [← hoe] at hl
    refine lv_aload_n hx hb dX1_giveFromBattery_16 rfl (lv_at hl 0 rfl) ?_
    refine va_get (D := D) (ci := 1) (v := .ref (a 7)) (C := RX1) (T := TX1) (N := 12) hx hb (dr_words hts _) inX1 (xk_od hown) (xk_Kd hK) hP 0 rfl rfl 10 (by decide) (dr_words hts _ (.fieldLink RX1 50 "GridCommons" "needs" "[D") (by decide +kernel)) (fun _ h9 => h9) rfl dX1_giveFromBattery_17 ?_
    refine lv_iload_n hx hb dX1_giveFromBattery_20 rfl (lv_at hl 3 rfl) ?_
    refine xk_dald hx hb (xk_Kd hK) hP 7 2 rfl rfl (o := o) (by omega) (by decide) dX1_giveFromBattery_21 ?_
    refine lv_aload_n hx hb dX1_giveFromBattery_22 rfl (lv_at hl 0 rfl) ?_
    refine va_get (D := D) (ci := 1) (v := .double so') (C := RX1) (T := TX1) (N := 12) hx hb (dr_words hts _) inX1 (xk_od hown) (xk_Kd hK) hP 0 rfl rfl 8 (by decide) (dr_words hts _ (.fieldLink RX1 43 "GridCommons" "stored" "D") (by decide +kernel)) (fun _ h9 => h9) rfl dX1_giveFromBattery_23 ?_
    refine vp_callSd (va_Run.run (va_runS (As := [.double (ne' o), .double so']) (rest := []) ⟨hx, hb, hml, (xk_od hown), (dr_words hts _)⟩ (mX1_lesser l (ne' o) so') (va_cwS 2 (dr_words hts _) gX1_giveFromBattery_X1_lesser rfl rfl rfl (by decide +kernel) ⟨Nat.le_of_ble_eq_true rfl, Nat.le_of_ble_eq_true rfl⟩) ⟨fun a U g mk q => q, fun U hU hW => ⟨rfl, trivial⟩⟩ rfl rfl hl.1 rfl (lv_room (Nat.le_of_ble_eq_true rfl)) dX1_giveFromBattery_26 ⟨Nat.le_of_ble_eq_true rfl, Nat.le_of_ble_eq_true rfl⟩)) (fun x hx1 => ?_)
    have eu : dt x = dMin ((gbs tr (5 * n) V (dt so) (dts lb) i).1 o) (gbs tr (5 * n) V (dt so) (dts lb) i).2.1 := by rw [hx1, hq0 o ho, hq1]
    refine lv_dstore (lv' := [(5, .double x), (0, .ref (a 0)), (1, .int (nI n)), (2, .int (oi y)), (3, .int (nI o)), (4, .int (nI i))]) hx hb dX1_giveFromBattery_29 hl (by decide) rfl (fun ls hl => ?_)
    refine lv_aload_n hx hb dX1_giveFromBattery_31 rfl (lv_at hl 1 rfl) ?_
    refine va_get (D := D) (ci := 1) (v := .ref (a 8)) (C := RX1) (T := TX1) (N := 12) hx hb (dr_words hts _) inX1 (xk_od hown) (xk_Kd hK) hP 0 rfl rfl 6 (by decide) (dr_words hts _ (.fieldLink RX1 33 "GridCommons" "ledger" "LGridCommons$Ledger;") (by decide +kernel)) (fun _ h9 => h9) rfl dX1_giveFromBattery_32 ?_
    refine va_get (D := D) (ci := 0) (v := .ref (a 15)) (C := RX0) (T := TX0) (N := 9) hx hb (dr_words hts _) inX0 (xk_od hown) (xk_Kd hK) hP 8 rfl rfl 7 (by decide) (dr_words hts _ (.fieldLink RX1 137 "GridCommons$Ledger" "fromBattery" "[D") (by decide +kernel)) (fun _ h9 => h9) rfl dX1_giveFromBattery_35 ?_
    refine lv_iload_n hx hb dX1_giveFromBattery_38 rfl (lv_at hl 4 rfl) ?_
    refine lv_iload_n hx hb dX1_giveFromBattery_39 rfl (lv_at hl 2 rfl) ?_
    refine vp_callSi (va_Run.run (va_runS (As := [.int (nI o), .int (nI n)]) (rest := [.ref (a 15)]) ⟨hx, hb, hml, (xk_od hown), (dr_words hts _)⟩ (mX0_slot l o n) (va_cwS 2 (dr_words hts _) gX1_giveFromBattery_X0_slot rfl rfl rfl (by decide +kernel) ⟨Nat.le_of_ble_eq_true rfl, Nat.le_of_ble_eq_true rfl⟩) ⟨fun a U g mk q => q, fun U hU hW => ⟨rfl, trivial⟩⟩ rfl rfl hl.1 rfl (lv_room (Nat.le_of_ble_eq_true rfl)) dX1_giveFromBattery_40 ⟨Nat.le_of_ble_eq_true rfl, Nat.le_of_ble_eq_true rfl⟩)) (fun r hr1 => ?_)
    subst hr1
    refine lv_dload hx hb dX1_giveFromBattery_43 (lv_at hl 0 rfl) ?_
    refine xk_dast hx hb (xk_Kd hK) hP hD hS 15 2 rfl rfl (o := (5 * n + o)) (by omega) (by decide) dX1_giveFromBattery_45 (fun H locs hP hD hS => ?_)
    have hP : va_P D vwCl (XW a cI cZ cD sh sw ts bi it tu ne' pr so' lo (nI tr) cn lp lz lu lk ld lf (vf_upd lb' (5 * n + o) x) lw) H := hP
    have hD : va_D A (XW a cI cZ cD sh sw ts bi it tu ne' pr so' lo (nI tr) cn lp lz lu lk ld lf (vf_upd lb' (5 * n + o) x) lw) := hD
    refine lv_aload_n hx hb dX1_giveFromBattery_46 rfl (lv_at hl 1 rfl) ?_
    refine va_get (D := D) (ci := 1) (v := .ref (a 7)) (C := RX1) (T := TX1) (N := 12) hx hb (dr_words hts _) inX1 (xk_od hown) (xk_Kd hK) hP 0 rfl rfl 10 (by decide) (dr_words hts _ (.fieldLink RX1 50 "GridCommons" "needs" "[D") (by decide +kernel)) (fun _ h9 => h9) rfl dX1_giveFromBattery_47 ?_
    refine lv_iload_n hx hb dX1_giveFromBattery_50 rfl (lv_at hl 4 rfl) ?_
    refine lv_dup2_11 hx hb dX1_giveFromBattery_51 rfl rfl ?_
    refine xk_dald hx hb (xk_Kd hK) hP 7 2 rfl rfl (o := o) (by omega) (by decide) dX1_giveFromBattery_52 ?_
    refine lv_dload hx hb dX1_giveFromBattery_53 (lv_at hl 0 rfl) ?_
    refine lv_dsub_any hdl lw_bits hx hb dX1_giveFromBattery_55 (fun r1 _ hal hd2 => ?_)
    have er1 := dt_sub hal
    refine xk_dast hx hb (xk_Kd hK) hP hD hS 7 2 rfl rfl (o := o) (by omega) (by decide) dX1_giveFromBattery_56 (fun H locs hP hD hS => ?_)
    have hP : va_P D vwCl (XW a cI cZ cD sh sw ts bi it tu (vf_upd ne' o r1) pr so' lo (nI tr) cn lp lz lu lk ld lf (vf_upd lb' (5 * n + o) x) lw) H := hP
    have hD : va_D A (XW a cI cZ cD sh sw ts bi it tu (vf_upd ne' o r1) pr so' lo (nI tr) cn lp lz lu lk ld lf (vf_upd lb' (5 * n + o) x) lw) := hD
    refine lv_aload_n hx hb dX1_giveFromBattery_57 rfl (lv_at hl 1 rfl) ?_
    refine lv_dup hx hb dX1_giveFromBattery_58 rfl ?_
    refine va_get (D := D) (ci := 1) (v := .double so') (C := RX1) (T := TX1) (N := 12) hx hb (dr_words hts _) inX1 (xk_od hown) (xk_Kd hK) hP 0 rfl rfl 8 (by decide) (dr_words hts _ (.fieldLink RX1 43 "GridCommons" "stored" "D") (by decide +kernel)) (fun _ h9 => h9) rfl dX1_giveFromBattery_59 ?_
    refine lv_dload hx hb dX1_giveFromBattery_62 (lv_at hl 0 rfl) ?_
    refine lv_dsub_any hd2 lw_bits hx hb dX1_giveFromBattery_64 (fun r3 _ hal hd4 => ?_)
    have er3 := dt_sub hal
    refine va_put (D := D) (ci := 1) (v := .double r3) (ty := .double) (C := RX1) (T := TX1) (N := 12) hx hb (dr_words hts _) inX1 tyX1 tyX1_ok nmX1 (xk_od hown) (xk_Kd hK) hP hD hS 0 rfl rfl 8 (by decide) (dr_words hts _ (.fieldLink RX1 43 "GridCommons" "stored" "D") (by decide +kernel)) (fun _ h9 => h9) rfl (by decide +kernel) rfl rfl (Nat.le_of_ble_eq_true rfl) dX1_giveFromBattery_65 (fun H locs hP hD hS => ?_)
    have hP : va_P D vwCl (XW a cI cZ cD sh sw ts bi it tu (vf_upd ne' o r1) pr r3 lo (nI tr) cn lp lz lu lk ld lf (vf_upd lb' (5 * n + o) x) lw) H := hP
    have hD : va_D A (XW a cI cZ cD sh sw ts bi it tu (vf_upd ne' o r1) pr r3 lo (nI tr) cn lp lz lu lk ld lf (vf_upd lb' (5 * n + o) x) lw) := hD
    refine lv_dload hx hb dX1_giveFromBattery_68 (lv_at hl 0 rfl) ?_
    refine lv_dconst0 hx hb dX1_giveFromBattery_70 ?_
    refine lv_dcmp hx hb dX1_giveFromBattery_71 ?_
    have e0 : gbs tr (5 * n) V (dt so) (dts lb) (i + 1) = (va_up (gbs tr (5 * n) V (dt so) (dts lb) i).1 o (dSub ((gbs tr (5 * n) V (dt so) (dts lb) i).1 o) (dt x)), dSub (gbs tr (5 * n) V (dt so) (dts lb) i).2.1 (dt x), va_up (gbs tr (5 * n) V (dt so) (dts lb) i).2.2.1 (5 * n + o) (dt x), if dCmp (dt x) dZ = some .gt then some o else (gbs tr (5 * n) V (dt so) (dts lb) i).2.2.2) := by rw [eu, hoe]; rfl
    have k1 : is5 (vf_upd ne' o r1) (gbs tr (5 * n) V (dt so) (dts lb) (i + 1)).1 := by rw [e0]; exact hq0.up o (by rw [er1, hq0 o ho])
    have k2 : dt r3 = (gbs tr (5 * n) V (dt so) (dts lb) (i + 1)).2.1 := by rw [e0, er3, hq1]
    have k3 : dts (vf_upd lb' (5 * n + o) x) = (gbs tr (5 * n) V (dt so) (dts lb) (i + 1)).2.2.1 := by rw [e0, dts_up, hq2]
    refine lv_if_le (tgt := 77) hx hb dX1_giveFromBattery_72 (by decide) (fun c2 => ?_) (fun c2 => ?_)
    · skip
      have hc : ¬ dCmp (dt x) dZ = some .gt := (cv_l_le _).mp c2
      refine lv_iload_n hx hb dX1_giveFromBattery_77 rfl (lv_at hl 4 rfl) ?_
      refine vp_callSi (va_Run.run (va_runS (As := [.int (nI o)]) (rest := []) ⟨hx, hb, hml, (xk_od hown), (dr_words hts _)⟩ (mX1_behind l o ho) (va_cwS 1 (dr_words hts _) gX1_giveFromBattery_X1_behind rfl rfl rfl (by decide +kernel) ⟨Nat.le_of_ble_eq_true rfl, Nat.le_of_ble_eq_true rfl⟩) ⟨fun a U g mk q => q, fun U hU hW => ⟨rfl, trivial⟩⟩ rfl rfl hl.1 rfl (lv_room (Nat.le_of_ble_eq_true rfl)) dX1_giveFromBattery_78 ⟨Nat.le_of_ble_eq_true rfl, Nat.le_of_ble_eq_true rfl⟩)) (fun r hr1 => ?_)
      subst hr1
      refine xk_i (y := nI ((tr + (i + 1)) % 5)) (by rw [hoe]; congr 1; omega) ?_
      refine lv_istore_n (lv' := [(3, .int (nI ((tr + (i + 1)) % 5))), (5, .double x), (0, .ref (a 0)), (1, .int (nI n)), (2, .int (oi y)), (4, .int (nI i))]) hx hb dX1_giveFromBattery_81 rfl hl (by decide) rfl (fun ls hl => ?_)
      refine lv_iinc (v := nI (i + 1)) (lv' := [(4, .int (nI (i + 1))), (3, .int (nI ((tr + (i + 1)) % 5))), (5, .double x), (0, .ref (a 0)), (1, .int (nI n)), (2, .int (oi y))]) hx hb dX1_giveFromBattery_82 hl (k := 5) rfl (nI_1 i) (by decide) rfl (fun ls hl => ?_)
      refine lv_goto (tgt := 10) hx hb dX1_giveFromBattery_85 (by decide) ?_
      exact next _ _ _ _ hlt ⟨(vf_upd ne' o r1), r3, (vf_upd lb' (5 * n + o) x), y, k1, k2, k3, (by rw [e0]; dsimp only; rw [if_neg hc]; exact hq3), hq4, hP, hD, hS, hd4, lv_sub hl [3, 4, 5, 1, 0] rfl⟩
    · skip
      have hc : dCmp (dt x) dZ = some .gt := Decidable.of_not_not (fun q => c2 ((cv_l_le _).mpr q))
      refine lv_iload_n hx hb dX1_giveFromBattery_75 rfl (lv_at hl 4 rfl) ?_
      refine lv_istore_n (lv' := [(2, .int (nI o)), (5, .double x), (0, .ref (a 0)), (1, .int (nI n)), (3, .int (nI o)), (4, .int (nI i))]) hx hb dX1_giveFromBattery_76 rfl hl (by decide) rfl (fun ls hl => ?_)
      refine lv_iload_n hx hb dX1_giveFromBattery_77 rfl (lv_at hl 4 rfl) ?_
      refine vp_callSi (va_Run.run (va_runS (As := [.int (nI o)]) (rest := []) ⟨hx, hb, hml, (xk_od hown), (dr_words hts _)⟩ (mX1_behind l o ho) (va_cwS 1 (dr_words hts _) gX1_giveFromBattery_X1_behind rfl rfl rfl (by decide +kernel) ⟨Nat.le_of_ble_eq_true rfl, Nat.le_of_ble_eq_true rfl⟩) ⟨fun a U g mk q => q, fun U hU hW => ⟨rfl, trivial⟩⟩ rfl rfl hl.1 rfl (lv_room (Nat.le_of_ble_eq_true rfl)) dX1_giveFromBattery_78 ⟨Nat.le_of_ble_eq_true rfl, Nat.le_of_ble_eq_true rfl⟩)) (fun r hr1 => ?_)
      subst hr1
      refine xk_i (y := nI ((tr + (i + 1)) % 5)) (by rw [hoe]; congr 1; omega) ?_
      refine lv_istore_n (lv' := [(3, .int (nI ((tr + (i + 1)) % 5))), (2, .int (nI o)), (5, .double x), (0, .ref (a 0)), (1, .int (nI n)), (4, .int (nI i))]) hx hb dX1_giveFromBattery_81 rfl hl (by decide) rfl (fun ls hl => ?_)
      refine lv_iinc (v := nI (i + 1)) (lv' := [(4, .int (nI (i + 1))), (3, .int (nI ((tr + (i + 1)) % 5))), (2, .int (nI o)), (5, .double x), (0, .ref (a 0)), (1, .int (nI n))]) hx hb dX1_giveFromBattery_82 hl (k := 5) rfl (nI_1 i) (by decide) rfl (fun ls hl => ?_)
      refine lv_goto (tgt := 10) hx hb dX1_giveFromBattery_85 (by decide) ?_
      exact next _ _ _ _ hlt ⟨(vf_upd ne' o r1), r3, (vf_upd lb' (5 * n + o) x), (some o), k1, k2, k3, (by rw [e0]; dsimp only; rw [if_pos hc]), (fun o9 h9 => by cases h9; exact ho), hP, hD, hS, hd4, lv_sub hl [4, 5, 2, 1, 0] rfl⟩
set_option maxHeartbeats 4000000 in
set_option maxRecDepth 100000 in
theorem mX1_writeBills (l : Launch) (D : va_G) (cI cZ cD : ClassId) (a : Nat → Nat) (sz : Nat) (sh sw ts : Nat → Int32) (bi : Nat → UInt64) (it tu : Nat → Int32) (ne : Nat → UInt64) (pr so lo : UInt64) (wt cn : Int32) (lp lz lu : Nat → UInt64) (lk : Nat → Int32) (ld lf lb lw : Nat → UInt64) (n : Nat) (hn : n < 60) (V : Nat → Dm) (hV : is5 ne V) : MetD lw_cs l yX1_writeBills wsX1_writeBills ({ frames := 1, cells := 0, slots := 0, locals := 21 } : Room) (va_Pc [.ref (a 0), .int (nI n)] (XP D cI cZ cD (XW a cI cZ cD sh sw ts bi it tu ne pr so lo wt cn lp lz lu lk ld lf lb lw) sz)) (va_Qv (fun (u : (Nat → UInt64) × (Nat → UInt64)) => dts u.1 = po (5 * n) 5 (dts lw) V ∧ dts u.2 = po 0 5 (dts bi) (fun k => dSub (dAdd (dts bi k) (dMul (V k) (dt pr))) (dDiv (dMul (dts lz n) (dt pr)) d10))) (fun (u : (Nat → UInt64) × (Nat → UInt64)) t => XB D cI cZ cD (XW a cI cZ cD sh sw ts u.2 it tu ne pr so lo wt cn lp lz lu lk ld lf lb u.1) (va_A (XW a cI cZ cD sh sw ts bi it tu ne pr so lo wt cn lp lz lu lk ld lf lb lw) sz) t) (va_A (XW a cI cZ cD sh sw ts bi it tu ne pr so lo wt cn lp lz lu lk ld lf lb lw) sz)) 0 0 (va_A (XW a cI cZ cD sh sw ts bi it tu ne pr so lo wt cn lp lz lu lk ld lf lb lw) sz) := by
  refine MetD.ofW (cc := cX1_writeBills) (maxL := 5) (ret := none) (by decide +kernel) rfl ?_
  intro p e s m args below meth c s₁ B hml hv hd0
  obtain ⟨rfl, hsz, hP, hK, hD0⟩ := hv
  have hx := B.exec
  have hb := B.bytes
  have hr := B.returns
  have hts := atoms_spec (ws := wsX1_writeBills) B.pre
  have hown : s.vm.findClass RX1 = some m.cls := findClass_of_methodNamed B.named
  have hlocks := B.notSynchronized
  subst hsz
  have hD := hD0.self (sz := s.heap.size)
  generalize hAe : va_A (XW a cI cZ cD sh sw ts bi it tu ne pr so lo wt cn lp lz lu lk ld lf lb lw) s.heap.size = A at hD ⊢
  have hA : ∀ q : Nat, s.heap.size ≤ q → A q := fun q h => by rw [← hAe]; exact Or.inr h
  have hS : va_S A s.heap s.heap [] := va_S.rf
  have hl := lv_entry ([.ref (a 0), .int (nI n)]) (n := 5) (Nat.le_of_ble_eq_true rfl)
  rw [lg_entry_eq]
  generalize (lg_sl ([.ref (a 0), .int (nI n)]) ++ List.replicate (5 - (lg_sl ([.ref (a 0), .int (nI n)])).length) Slot.unset).toArray = ls at hl ⊢
  have hl : lv_has ls 5 [(0, .ref (a 0)), (1, .int (nI n))] := hl
  have inX1 : ∀ w ∈ wsX10, w ∈ wsX1_writeBills := by decide +kernel
  have inX0 : ∀ w ∈ wsX00, w ∈ wsX1_writeBills := by decide +kernel
  refine lv_aload_n hx hb dX1_writeBills_0 rfl (lv_at hl 0 rfl) ?_
  refine va_get (D := D) (ci := 1) (v := .ref (a 8)) (C := RX1) (T := TX1) (N := 12) hx hb (dr_words hts _) inX1 (xk_od hown) (xk_Kd hK) hP 0 rfl rfl 6 (by decide) (dr_words hts _ (.fieldLink RX1 33 "GridCommons" "ledger" "LGridCommons$Ledger;") (by decide +kernel)) (fun _ h9 => h9) rfl dX1_writeBills_1 ?_
  refine va_get (D := D) (ci := 0) (v := .ref (a 10)) (C := RX0) (T := TX0) (N := 9) hx hb (dr_words hts _) inX0 (xk_od hown) (xk_Kd hK) hP 8 rfl rfl 2 (by decide) (dr_words hts _ (.fieldLink RX1 143 "GridCommons$Ledger" "sold" "[D") (by decide +kernel)) (fun _ h9 => h9) rfl dX1_writeBills_4 ?_
  refine lv_iload_n hx hb dX1_writeBills_7 rfl (lv_at hl 1 rfl) ?_
  refine xk_dald hx hb (xk_Kd hK) hP 10 2 rfl rfl (o := n) (by omega) (by decide) dX1_writeBills_8 ?_
  refine lv_aload_n hx hb dX1_writeBills_9 rfl (lv_at hl 0 rfl) ?_
  refine va_get (D := D) (ci := 1) (v := .double pr) (C := RX1) (T := TX1) (N := 12) hx hb (dr_words hts _) inX1 (xk_od hown) (xk_Kd hK) hP 0 rfl rfl 7 (by decide) (dr_words hts _ (.fieldLink RX1 39 "GridCommons" "price" "D") (by decide +kernel)) (fun _ h9 => h9) rfl dX1_writeBills_10 ?_
  refine lv_dmul_any hd0 lw_bits hx hb dX1_writeBills_13 (fun r1 _ hal hd2 => ?_)
  have er1 := dt_mul hal
  refine lv_ldc2d hx hb (xk_od hown) (dr_words hts _ (.constantDouble RX1 185 4621819117588971520) (by decide +kernel)) dX1_writeBills_14 ?_
  refine lv_ddiv_any hd2 lw_bits hx hb dX1_writeBills_17 (fun r3 _ hal hd4 => ?_)
  have er3 := dt_div hal
  have ei : dt r3 = dDiv (dMul (dts lz n) (dt pr)) d10 := by rw [er3, er1]; rfl
  refine lv_dstore_n (lv' := [(2, .double r3), (0, .ref (a 0)), (1, .int (nI n))]) hx hb dX1_writeBills_18 rfl hl (by decide) rfl (fun ls hl => ?_)
  refine lv_iconst (v := nI 0) hx hb dX1_writeBills_19 (by decide) ?_
  refine lv_istore (lv' := [(4, .int (nI 0)), (2, .double r3), (0, .ref (a 0)), (1, .int (nI n))]) hx hb dX1_writeBills_20 hl (by decide) rfl (fun ls hl => ?_)
  refine xk_loop (fun i H locs ls d => ∃ (lw' : Nat → UInt64) (bi' : Nat → UInt64), (dts lw' = po (5 * n) i (dts lw) V) ∧ (dts bi' = po 0 i (dts bi) (fun k => dSub (dAdd (dts bi k) (dMul (V k) (dt pr))) (dDiv (dMul (dts lz n) (dt pr)) d10))) ∧ (va_P D vwCl (XW a cI cZ cD sh sw ts bi' it tu ne pr so lo wt cn lp lz lu lk ld lf lb lw') H) ∧ (va_D A (XW a cI cZ cD sh sw ts bi' it tu ne pr so lo wt cn lp lz lu lk ld lf lb lw')) ∧ (va_S A s.heap H locs) ∧ (s.drawn.sameBut d lw_cs) ∧ (lv_has ls 5 [(0, .ref (a 0)), (1, .int (nI n)), (2, .double r3), (4, .int (nI i))])) 5 ?_ (i := 0) (Nat.zero_le _) ⟨lw, bi, (po_0 _ _ _).symm, (po_0 _ _ _).symm, hP, hD, hS, hd4, lv_sub hl [2, 3, 1, 0] rfl⟩
  intro i H locs ls d hi hI next
  obtain ⟨lw', bi', hq0, hq1, hP, hD, hS, hdl, hl⟩ := hI
  refine lv_iload hx hb dX1_writeBills_22 (lv_at hl 3 rfl) ?_
  refine lv_iconst (v := nI 5) hx hb dX1_writeBills_24 (by decide) ?_
  refine lv_icmp_ge (tgt := 88) hx hb dX1_writeBills_25 (by decide) (fun c => ?_) (fun c => ?_)
  · skip
    obtain rfl := xk_ge hi (by decide) c
    refine W.endD hdl ?_
    exact W.vret hx hb hr (fun t ht hW => ⟨⟨(lw', bi'), rfl, ⟨hq0, hq1⟩, by rw [ht]; exact hP, va_K.moved hW.alike (xk_Kd hK), hD⟩, hS.F ht⟩) hS.2.2 dX1_writeBills_88
  · skip
    have hlt := xk_nge hi (by decide) c
    refine lv_aload_n hx hb dX1_writeBills_28 rfl (lv_at hl 0 rfl) ?_
    refine va_get (D := D) (ci := 1) (v := .ref (a 8)) (C := RX1) (T := TX1) (N := 12) hx hb (dr_words hts _) inX1 (xk_od hown) (xk_Kd hK) hP 0 rfl rfl 6 (by decide) (dr_words hts _ (.fieldLink RX1 33 "GridCommons" "ledger" "LGridCommons$Ledger;") (by decide +kernel)) (fun _ h9 => h9) rfl dX1_writeBills_29 ?_
    refine va_get (D := D) (ci := 0) (v := .ref (a 16)) (C := RX0) (T := TX0) (N := 9) hx hb (dr_words hts _) inX0 (xk_od hown) (xk_Kd hK) hP 8 rfl rfl 8 (by decide) (dr_words hts _ (.fieldLink RX1 140 "GridCommons$Ledger" "bought" "[D") (by decide +kernel)) (fun _ h9 => h9) rfl dX1_writeBills_32 ?_
    refine lv_iload hx hb dX1_writeBills_35 (lv_at hl 3 rfl) ?_
    refine lv_iload_n hx hb dX1_writeBills_37 rfl (lv_at hl 1 rfl) ?_
    refine vp_callSi (va_Run.run (va_runS (As := [.int (nI i), .int (nI n)]) (rest := [.ref (a 16)]) ⟨hx, hb, hml, (xk_od hown), (dr_words hts _)⟩ (mX0_slot l i n) (va_cwS 2 (dr_words hts _) gX1_writeBills_X0_slot rfl rfl rfl (by decide +kernel) ⟨Nat.le_of_ble_eq_true rfl, Nat.le_of_ble_eq_true rfl⟩) ⟨fun a U g mk q => q, fun U hU hW => ⟨rfl, trivial⟩⟩ rfl rfl hl.1 rfl (lv_room (Nat.le_of_ble_eq_true rfl)) dX1_writeBills_38 ⟨Nat.le_of_ble_eq_true rfl, Nat.le_of_ble_eq_true rfl⟩)) (fun r hr1 => ?_)
    subst hr1
    refine lv_aload_n hx hb dX1_writeBills_41 rfl (lv_at hl 0 rfl) ?_
    refine va_get (D := D) (ci := 1) (v := .ref (a 7)) (C := RX1) (T := TX1) (N := 12) hx hb (dr_words hts _) inX1 (xk_od hown) (xk_Kd hK) hP 0 rfl rfl 10 (by decide) (dr_words hts _ (.fieldLink RX1 50 "GridCommons" "needs" "[D") (by decide +kernel)) (fun _ h9 => h9) rfl dX1_writeBills_42 ?_
    refine lv_iload hx hb dX1_writeBills_45 (lv_at hl 3 rfl) ?_
    refine xk_dald hx hb (xk_Kd hK) hP 7 2 rfl rfl (o := i) (by omega) (by decide) dX1_writeBills_47 ?_
    refine xk_dast hx hb (xk_Kd hK) hP hD hS 16 2 rfl rfl (o := (5 * n + i)) (by omega) (by decide) dX1_writeBills_48 (fun H locs hP hD hS => ?_)
    have hP : va_P D vwCl (XW a cI cZ cD sh sw ts bi' it tu ne pr so lo wt cn lp lz lu lk ld lf lb (vf_upd lw' (5 * n + i) (ne i))) H := hP
    have hD : va_D A (XW a cI cZ cD sh sw ts bi' it tu ne pr so lo wt cn lp lz lu lk ld lf lb (vf_upd lw' (5 * n + i) (ne i))) := hD
    refine lv_aload_n hx hb dX1_writeBills_49 rfl (lv_at hl 0 rfl) ?_
    refine va_get (D := D) (ci := 1) (v := .ref (a 4)) (C := RX1) (T := TX1) (N := 12) hx hb (dr_words hts _) inX1 (xk_od hown) (xk_Kd hK) hP 0 rfl rfl 3 (by decide) (dr_words hts _ (.fieldLink RX1 20 "GridCommons" "bills" "[D") (by decide +kernel)) (fun _ h9 => h9) rfl dX1_writeBills_50 ?_
    refine lv_iload hx hb dX1_writeBills_53 (lv_at hl 3 rfl) ?_
    refine lv_dup2_11 hx hb dX1_writeBills_55 rfl rfl ?_
    refine xk_dald hx hb (xk_Kd hK) hP 4 2 rfl rfl (o := i) (by omega) (by decide) dX1_writeBills_56 ?_
    refine lv_aload_n hx hb dX1_writeBills_57 rfl (lv_at hl 0 rfl) ?_
    refine va_get (D := D) (ci := 1) (v := .ref (a 7)) (C := RX1) (T := TX1) (N := 12) hx hb (dr_words hts _) inX1 (xk_od hown) (xk_Kd hK) hP 0 rfl rfl 10 (by decide) (dr_words hts _ (.fieldLink RX1 50 "GridCommons" "needs" "[D") (by decide +kernel)) (fun _ h9 => h9) rfl dX1_writeBills_58 ?_
    refine lv_iload hx hb dX1_writeBills_61 (lv_at hl 3 rfl) ?_
    refine xk_dald hx hb (xk_Kd hK) hP 7 2 rfl rfl (o := i) (by omega) (by decide) dX1_writeBills_63 ?_
    refine lv_aload_n hx hb dX1_writeBills_64 rfl (lv_at hl 0 rfl) ?_
    refine va_get (D := D) (ci := 1) (v := .double pr) (C := RX1) (T := TX1) (N := 12) hx hb (dr_words hts _) inX1 (xk_od hown) (xk_Kd hK) hP 0 rfl rfl 7 (by decide) (dr_words hts _ (.fieldLink RX1 39 "GridCommons" "price" "D") (by decide +kernel)) (fun _ h9 => h9) rfl dX1_writeBills_65 ?_
    refine lv_dmul_any hdl lw_bits hx hb dX1_writeBills_68 (fun r5 _ hal hd6 => ?_)
    have er5 := dt_mul hal
    refine lv_dadd_any hd6 lw_bits hx hb dX1_writeBills_69 (fun r7 _ hal hd8 => ?_)
    have er7 := dt_add hal
    refine xk_dast hx hb (xk_Kd hK) hP hD hS 4 2 rfl rfl (o := i) (by omega) (by decide) dX1_writeBills_70 (fun H locs hP hD hS => ?_)
    have hP : va_P D vwCl (XW a cI cZ cD sh sw ts (vf_upd bi' i r7) it tu ne pr so lo wt cn lp lz lu lk ld lf lb (vf_upd lw' (5 * n + i) (ne i))) H := hP
    have hD : va_D A (XW a cI cZ cD sh sw ts (vf_upd bi' i r7) it tu ne pr so lo wt cn lp lz lu lk ld lf lb (vf_upd lw' (5 * n + i) (ne i))) := hD
    refine lv_aload_n hx hb dX1_writeBills_71 rfl (lv_at hl 0 rfl) ?_
    refine va_get (D := D) (ci := 1) (v := .ref (a 4)) (C := RX1) (T := TX1) (N := 12) hx hb (dr_words hts _) inX1 (xk_od hown) (xk_Kd hK) hP 0 rfl rfl 3 (by decide) (dr_words hts _ (.fieldLink RX1 20 "GridCommons" "bills" "[D") (by decide +kernel)) (fun _ h9 => h9) rfl dX1_writeBills_72 ?_
    refine lv_iload hx hb dX1_writeBills_75 (lv_at hl 3 rfl) ?_
    refine lv_dup2_11 hx hb dX1_writeBills_77 rfl rfl ?_
    refine xk_dald hx hb (xk_Kd hK) hP 4 2 rfl rfl (o := i) (by omega) (by decide) dX1_writeBills_78 ?_
    refine lv_dload_n hx hb dX1_writeBills_79 rfl (lv_at hl 2 rfl) ?_
    refine lv_dsub_any hd8 lw_bits hx hb dX1_writeBills_80 (fun r9 _ hal hd10 => ?_)
    have er9 := dt_sub hal
    refine xk_dast hx hb (xk_Kd hK) hP hD hS 4 2 rfl rfl (o := i) (by omega) (by decide) dX1_writeBills_81 (fun H locs hP hD hS => ?_)
    have hP : va_P D vwCl (XW a cI cZ cD sh sw ts (vf_upd (vf_upd bi' i r7) i r9) it tu ne pr so lo wt cn lp lz lu lk ld lf lb (vf_upd lw' (5 * n + i) (ne i))) H := hP
    have hD : va_D A (XW a cI cZ cD sh sw ts (vf_upd (vf_upd bi' i r7) i r9) it tu ne pr so lo wt cn lp lz lu lk ld lf lb (vf_upd lw' (5 * n + i) (ne i))) := hD
    have hbi : dt (bi' i) = dts bi i := by have q := congrFun hq1 i; rw [po_at0] at q; exact q
    refine lv_iinc (v := nI (i + 1)) (lv' := [(4, .int (nI (i + 1))), (0, .ref (a 0)), (1, .int (nI n)), (2, .double r3)]) hx hb dX1_writeBills_82 hl (k := 3) rfl (nI_1 i) (by decide) rfl (fun ls hl => ?_)
    refine lv_goto (tgt := 22) hx hb dX1_writeBills_85 (by decide) ?_
    exact next _ _ _ _ hlt ⟨(vf_upd lw' (5 * n + i) (ne i)), (vf_upd (vf_upd bi' i r7) i r9), (by rw [dts_up]; exact po_step hq0 (hV i hlt)), (by rw [dts_up2]; exact po_step0 hq1 (by rw [er9, vf_self, er7, er5, hbi, hV i hlt, ei])), hP, hD, hS, hd10, lv_sub hl [1, 2, 3, 0] rfl⟩
end
section
/-! WHAT IS ASKED OF ARGUMENTS: methods that return or throw -/
/-- words that the exceptions' constructors need and that a warm-up doesn't keep by itself -/
def exW : List Cond := [.declares (Bundle.initS "java/lang/RuntimeException"), .declares (Bundle.initS "java/lang/Exception"), .declares (Bundle.initS "java/lang/Throwable"), .castable "java/lang/IllegalArgumentException" "java/lang/IllegalArgumentException", .castable "java/lang/IllegalStateException" "java/lang/IllegalStateException", .castable "java/lang/IndexOutOfBoundsException" "java/lang/IndexOutOfBoundsException"]
def exS : List (Nat × String) := [(70, "all shares together would be more than 4"), (80, "60 quarters are closed"), (123, "the use was told, or the gap was replaced"), (148, "a number is out of range"), (151, "owner is out of range"), (155, "there is no such quarter")]
/-- what throwing takes: the two statics of Throwable outside A, the words, the texts -/
def EX (A : Nat → Prop) (U : State) (H : Heap) : Prop := vx_Zq Bundle.tN "UNASSIGNED_STACK" Bundle.steD A U H ∧ vx_Zq Bundle.tN "SUPPRESSED_SENTINEL" Bundle.listD A U H ∧ (∀ w ∈ exW, w.before #[] U = true) ∧ ∀ q ∈ exS, ∃ sa : Nat, vk_R RX1 q.1 q.2 sa U
theorem exW_face : ∀ w ∈ exW, w.faceAtom = true ∧ w.onTables = true := by decide +kernel
/-- .. handed to a callee *-/
theorem EX.pass {A B : Nat → Prop} {s U : State} {H : Heap} {locs : List Loc} (h : EX A s s.heap) (hS : va_S A s.heap H locs) (hU : U.heap = H) (hW : s.WarmedH U.vm) (hAB : ∀ q, B q → A q) : EX B U U.heap := by
  obtain ⟨h1, h2, h3, h4⟩ := h
  rw [hU]
  have hk : ∀ a : Nat, a < s.heap.size → ¬ A a → H[a]? = s.heap[a]? := hS.2.1
  refine ⟨((vx_Zq.kept h1 hk).moved hW.alike).narrow hAB, ((vx_Zq.kept h2 hk).moved hW.alike).narrow hAB, fun w hw => ?_, fun q hq => ?_⟩
  · have e1 := Cond.faceAtom_setVm hW.alike w (exW_face w hw).1 (h3 w hw)
    exact va_tabs (u := s.setVm U.vm) (exW_face w hw).2 rfl e1
  · obtain ⟨sa, h9⟩ := h4 q hq
    exact ⟨sa, vk_R.warm hW h9⟩
theorem EX.blind {A : Nat → Prop} {U : State} {H : Heap} {g : JFrame} {mk : MethodId} {av : Array Value} (h : EX A U H) : EX A (U.calling g mk av) H := by
  obtain ⟨h1, h2, h3, h4⟩ := h
  refine ⟨vx_Zq.moved (u := U) (U := U.calling g mk av) (Vm.Alike.refl U.vm) h1, vx_Zq.moved (u := U) (U := U.calling g mk av) (Vm.Alike.refl U.vm) h2, fun w hw => va_tabs (u := U) (exW_face w hw).2 rfl (h3 w hw), fun q hq => ?_⟩
  obtain ⟨sa, h9⟩ := h4 q hq
  exact ⟨sa, vk_R.same (u := U) rfl h9⟩
theorem EX.words {A : Nat → Prop} {U : State} {H : Heap} {av : Array Value} (h : EX A U H) : ∀ w ∈ exW, w.before av U = true := fun w hw => va_any (exW_face w hw).2 (h.2.2.1 w hw)
/-- E is thrown for a reason; all that was there before stays -/
abbrev XE (pE : String → Prop) (sz : Nat) : String → State → State → Prop := vx_X (fun _ : Unit => True) (fun E _ _ => pE E) (fun q => sz ≤ q)
/-- a start at a heap of its own, for what only looks -/
abbrev XH (Hp : Heap) (U : State) : Prop := U.heap = Hp ∧ EX (fun q => Hp.size ≤ q) U U.heap
theorem xh_blind {av : List Value} {Hp : Heap} : FrameBlind (va_Pc av (XH Hp)) := fun a U g mk q => by
  obtain ⟨q0, q1, q2⟩ := q
  exact ⟨q0, q1, q2.blind⟩
theorem xh_pre {av : List Value} {s : State} {A : Nat → Prop} {H : Heap} {locs : List Loc} (hE : EX A s s.heap) (hS : va_S A s.heap H locs) (hA : ∀ q, s.heap.size ≤ q → A q) : ∀ U : State, U.heap = H → s.WarmedH U.vm → va_Pc av (XH H) av.toArray U :=
  fun U hU hW => ⟨rfl, hU, hE.pass hS hU hW (fun q hq => hA q (Nat.le_trans hS.1 hq))⟩
abbrev XQ (D : va_G) (cI cZ cD : ClassId) (w : va_W) (Hp : Heap) (U : State) : Prop := U.heap = Hp ∧ XB D cI cZ cD w (fun _ => True) U ∧ EX (fun q => Hp.size ≤ q) U U.heap
theorem xq_blind {av : List Value} {D : va_G} {cI cZ cD : ClassId} {w : va_W} {Hp : Heap} : FrameBlind (va_Pc av (XQ D cI cZ cD w Hp)) := fun a U g mk q => by
  obtain ⟨q0, q1, ⟨qP, qK, qD⟩, q2⟩ := q
  exact ⟨q0, q1, ⟨qP, va_K.moved (u := U) (U := U.calling g mk a) (Vm.Alike.refl U.vm) qK, qD⟩, q2.blind⟩
theorem xq_pre {av : List Value} {D : va_G} {cI cZ cD : ClassId} {w : va_W} {A A1 : Nat → Prop} {H : Heap} {s : State} {locs : List Loc} (hP : va_P D vwCl w H) (hK : va_K D vwCl (T3 cI cZ cD) s) (hD : va_D A1 w) (hE : EX A s s.heap) (hS : va_S A s.heap H locs) (hA : ∀ q, s.heap.size ≤ q → A q) : ∀ U : State, U.heap = H → s.WarmedH U.vm → va_Pc av (XQ D cI cZ cD w H) av.toArray U :=
  fun U hU hW => ⟨rfl, hU, ⟨by rw [hU]; exact hP, va_K.moved hW.alike hK, hD.weaken (fun _ _ _ _ => trivial)⟩, hE.pass hS hU hW (fun q hq => hA q (Nat.le_trans hS.1 hq))⟩
/-! numbers in range -/
abbrev inR (x lo hi : Int32) : Prop := lo ≤ x ∧ x ≤ hi
theorem inR_nI {x : Int32} {hi : Int32} {n : Nat} (hn : hi.toInt = n) (h : inR x 0 hi) : ∃ o, o ≤ n ∧ x = nI o := nI_of2 hn (fun q => absurd h.1 (Int32.not_le.mpr q)) h.2
theorem nI_inR {o n : Nat} (h : o ≤ n) (hn : n < 2 ^ 31) : inR (nI o) 0 (nI n) := ⟨nI_pos' (by omega), nI_le h hn⟩
theorem lt_of_le1 {x a b : Int32} (hab : b.toInt = a.toInt + 1) : x < b ↔ x ≤ a := by
  rw [Int32.lt_iff_toInt_lt, Int32.le_iff_toInt_le, hab]
  omega
set_option maxHeartbeats 4000000 in
set_option maxRecDepth 100000 in
theorem mX1_requireOwnerV (l : Launch) (x : Int32) (hin : inR x 0 4) : Met l yX1_requireOwner wsX1_requireOwner ({ frames := 0, cells := 0, slots := 0, locals := 0 } : Room) (va_Pc [.int x] (fun _ => True)) (va_Sv (fun _ => True)) 0 0 (fun _ => False) := by
  refine Met.ofW (cc := cX1_requireOwner) (maxL := 1) (ret := none) (by decide +kernel) rfl ?_
  intro p e s m args below meth c s₁ B hml hv
  obtain ⟨rfl, -⟩ := hv
  have hx := B.exec
  have hb := B.bytes
  have hr := B.returns
  have hts := atoms_spec (ws := wsX1_requireOwner) B.pre
  have hown : s.vm.findClass RX1 = some m.cls := findClass_of_methodNamed B.named
  have hlocks := B.notSynchronized
  have hl := lv_entry ([.int x]) (n := 1) (Nat.le_of_ble_eq_true rfl)
  rw [lg_entry_eq]
  generalize (lg_sl ([.int x]) ++ List.replicate (1 - (lg_sl ([.int x])).length) Slot.unset).toArray = ls at hl ⊢
  have hl : lv_has ls 1 [(0, .int x)] := hl
  refine lv_iload_n hx hb dX1_requireOwner_0 rfl (lv_at hl 0 rfl) ?_
  refine lv_if_lt (tgt := 9) hx hb dX1_requireOwner_1 (by decide) (fun c => ?_) (fun c => ?_)
  · skip
    exact absurd hin.1 (Int32.not_le.mpr c)
  · skip
    refine lv_iload_n hx hb dX1_requireOwner_4 rfl (lv_at hl 0 rfl) ?_
    refine lv_iconst (v := nI 5) hx hb dX1_requireOwner_5 (by decide) ?_
    refine lv_icmp_lt (tgt := 19) hx hb dX1_requireOwner_6 (by decide) (fun c1 => ?_) (fun c1 => ?_)
    · skip
      exact W.vret hx hb hr (fun t ht hW => ⟨rfl, trivial, ht⟩) (fun q hq => absurd hq List.not_mem_nil) dX1_requireOwner_19
    · skip
      exact absurd ((lt_of_le1 (a := 4) (by decide)).mpr hin.2) c1
set_option maxHeartbeats 4000000 in
set_option maxRecDepth 100000 in
theorem mX1_requireWithinV (l : Launch) (x lo up : Int32) (hin : inR x lo up) : Met l yX1_requireWithin wsX1_requireWithin ({ frames := 0, cells := 0, slots := 0, locals := 0 } : Room) (va_Pc [.int x, .int lo, .int up] (fun _ => True)) (va_Sv (fun _ => True)) 0 0 (fun _ => False) := by
  refine Met.ofW (cc := cX1_requireWithin) (maxL := 3) (ret := none) (by decide +kernel) rfl ?_
  intro p e s m args below meth c s₁ B hml hv
  obtain ⟨rfl, -⟩ := hv
  have hx := B.exec
  have hb := B.bytes
  have hr := B.returns
  have hts := atoms_spec (ws := wsX1_requireWithin) B.pre
  have hown : s.vm.findClass RX1 = some m.cls := findClass_of_methodNamed B.named
  have hlocks := B.notSynchronized
  have hl := lv_entry ([.int x, .int lo, .int up]) (n := 3) (Nat.le_of_ble_eq_true rfl)
  rw [lg_entry_eq]
  generalize (lg_sl ([.int x, .int lo, .int up]) ++ List.replicate (3 - (lg_sl ([.int x, .int lo, .int up])).length) Slot.unset).toArray = ls at hl ⊢
  have hl : lv_has ls 3 [(0, .int x), (1, .int lo), (2, .int up)] := hl
  refine lv_iload_n hx hb dX1_requireWithin_0 rfl (lv_at hl 0 rfl) ?_
  refine lv_iload_n hx hb dX1_requireWithin_1 rfl (lv_at hl 1 rfl) ?_
  refine lv_icmp_lt (tgt := 10) hx hb dX1_requireWithin_2 (by decide) (fun c => ?_) (fun c => ?_)
  · skip
    exact absurd hin.1 (Int32.not_le.mpr c)
  · skip
    refine lv_iload_n hx hb dX1_requireWithin_5 rfl (lv_at hl 0 rfl) ?_
    refine lv_iload_n hx hb dX1_requireWithin_6 rfl (lv_at hl 2 rfl) ?_
    refine lv_icmp_le (tgt := 20) hx hb dX1_requireWithin_7 (by decide) (fun c1 => ?_) (fun c1 => ?_)
    · skip
      exact W.vret hx hb hr (fun t ht hW => ⟨rfl, trivial, ht⟩) (fun q hq => absurd hq List.not_mem_nil) dX1_requireWithin_20
    · skip
      exact absurd hin.2 c1
set_option maxHeartbeats 4000000 in
set_option maxRecDepth 100000 in
theorem mX1_requireOwner (l : Launch) (hst : l.stackTraces = false) (Hp : Heap) (x : Int32) : vx_Met l yX1_requireOwner wsX1_requireOwner ({ frames := 6, cells := 1, slots := 6, locals := 82 } : Room) (va_Pc [.int x] (XH Hp)) (va_Qv (fun _ : Unit => inR x 0 4) (fun _ t => t.heap = Hp) (fun q => Hp.size ≤ q)) (XE (fun E => E = "java/lang/IllegalArgumentException" ∧ ¬ inR x 0 4) Hp.size) 1 6 (fun q => Hp.size ≤ q) := by
  refine vx_ofW (cc := cX1_requireOwner) (maxL := 1) (ret := none) (by decide +kernel) rfl ?_
  intro p e s m args below meth c s₁ B hml htab hv
  obtain ⟨rfl, hsz, hE⟩ := hv
  have hx := B.exec
  have hb := B.bytes
  have hr := B.returns
  have hts := atoms_spec (ws := wsX1_requireOwner) B.pre
  have hown : s.vm.findClass RX1 = some m.cls := findClass_of_methodNamed B.named
  have hlocks := B.notSynchronized
  subst hsz
  have hA : ∀ q : Nat, s.heap.size ≤ q → (fun q => s.heap.size ≤ q) q := fun q h => h
  have hS : va_S (fun q => s.heap.size ≤ q) s.heap s.heap [] := va_S.rf
  have hl := lv_entry ([.int x]) (n := 1) (Nat.le_of_ble_eq_true rfl)
  rw [lg_entry_eq]
  generalize (lg_sl ([.int x]) ++ List.replicate (1 - (lg_sl ([.int x])).length) Slot.unset).toArray = ls at hl ⊢
  have hl : lv_has ls 1 [(0, .int x)] := hl
  refine lv_iload_n hx hb dX1_requireOwner_0 rfl (lv_at hl 0 rfl) ?_
  refine lv_if_lt (tgt := 9) hx hb dX1_requireOwner_1 (by decide) (fun c => ?_) (fun c => ?_)
  · skip
    obtain ⟨sa, hstr⟩ := hE.2.2.2 (151, "owner is out of range") (by decide)
    have hat0 : ∀ w ∈ (vx_atS RX1 150 "java/lang/IllegalArgumentException" ["java/lang/RuntimeException", "java/lang/Exception"]).filter goodWord, w ∈ wsX1_requireOwner := by decide +kernel
    exact vx_throwS (text := "owner is out of range") (names := ["java/lang/RuntimeException", "java/lang/Exception"]) hx hb hst hown (by decide +kernel) (by decide +kernel) (hts (.classLink RX1 146 "java/lang/IllegalArgumentException") (by decide +kernel)) (hts (.initialized "java/lang/IllegalArgumentException") (by decide +kernel)) hstr (vx_hat (B := exW) (fun w h => hts w (hat0 w h)) (by decide +kernel) hE.words) (by decide +kernel) hE.1 hE.2.1 hS (hl.1.trans hml.symm) dX1_requireOwner_9 dX1_requireOwner_12 dX1_requireOwner_13 dX1_requireOwner_15 dX1_requireOwner_18 (fun x h => (htab x h).elim) (Nat.le_of_ble_eq_true rfl) (Nat.le_of_ble_eq_true rfl) (Nat.le_of_ble_eq_true rfl) (Nat.le_of_ble_eq_true rfl) hlocks (fun t ht hz hk => ⟨(), trivial, ⟨rfl, fun q => absurd q.1 (Int32.not_le.mpr c)⟩, hz, fun q h1 _ => hk q h1⟩) hS.2.2 (Nat.le_refl _) (Nat.le_refl _)
  · skip
    refine lv_iload_n hx hb dX1_requireOwner_4 rfl (lv_at hl 0 rfl) ?_
    refine lv_iconst (v := nI 5) hx hb dX1_requireOwner_5 (by decide) ?_
    refine lv_icmp_lt (tgt := 19) hx hb dX1_requireOwner_6 (by decide) (fun c1 => ?_) (fun c1 => ?_)
    · skip
      refine W.widen (k := 1) (n := 6) (Nat.zero_le _) (Nat.zero_le _) (vx_ret ?_)
      exact W.vret hx hb hr (fun t ht hW => ⟨⟨(), rfl, ⟨Int32.not_lt.mp c, (lt_of_le1 (a := 4) (by decide)).mp c1⟩, ht⟩, hS.F ht⟩) hS.2.2 dX1_requireOwner_19
    · skip
      obtain ⟨sa, hstr⟩ := hE.2.2.2 (151, "owner is out of range") (by decide)
      have hat0 : ∀ w ∈ (vx_atS RX1 150 "java/lang/IllegalArgumentException" ["java/lang/RuntimeException", "java/lang/Exception"]).filter goodWord, w ∈ wsX1_requireOwner := by decide +kernel
      exact vx_throwS (text := "owner is out of range") (names := ["java/lang/RuntimeException", "java/lang/Exception"]) hx hb hst hown (by decide +kernel) (by decide +kernel) (hts (.classLink RX1 146 "java/lang/IllegalArgumentException") (by decide +kernel)) (hts (.initialized "java/lang/IllegalArgumentException") (by decide +kernel)) hstr (vx_hat (B := exW) (fun w h => hts w (hat0 w h)) (by decide +kernel) hE.words) (by decide +kernel) hE.1 hE.2.1 hS (hl.1.trans hml.symm) dX1_requireOwner_9 dX1_requireOwner_12 dX1_requireOwner_13 dX1_requireOwner_15 dX1_requireOwner_18 (fun x h => (htab x h).elim) (Nat.le_of_ble_eq_true rfl) (Nat.le_of_ble_eq_true rfl) (Nat.le_of_ble_eq_true rfl) (Nat.le_of_ble_eq_true rfl) hlocks (fun t ht hz hk => ⟨(), trivial, ⟨rfl, fun q => c1 ((lt_of_le1 (a := 4) (by decide)).mpr q.2)⟩, hz, fun q h1 _ => hk q h1⟩) hS.2.2 (Nat.le_refl _) (Nat.le_refl _)
set_option maxHeartbeats 4000000 in
set_option maxRecDepth 100000 in
theorem mX1_requireWithin (l : Launch) (hst : l.stackTraces = false) (Hp : Heap) (x lo up : Int32) : vx_Met l yX1_requireWithin wsX1_requireWithin ({ frames := 6, cells := 1, slots := 6, locals := 82 } : Room) (va_Pc [.int x, .int lo, .int up] (XH Hp)) (va_Qv (fun _ : Unit => inR x lo up) (fun _ t => t.heap = Hp) (fun q => Hp.size ≤ q)) (XE (fun E => E = "java/lang/IllegalArgumentException" ∧ ¬ inR x lo up) Hp.size) 1 6 (fun q => Hp.size ≤ q) := by
  refine vx_ofW (cc := cX1_requireWithin) (maxL := 3) (ret := none) (by decide +kernel) rfl ?_
  intro p e s m args below meth c s₁ B hml htab hv
  obtain ⟨rfl, hsz, hE⟩ := hv
  have hx := B.exec
  have hb := B.bytes
  have hr := B.returns
  have hts := atoms_spec (ws := wsX1_requireWithin) B.pre
  have hown : s.vm.findClass RX1 = some m.cls := findClass_of_methodNamed B.named
  have hlocks := B.notSynchronized
  subst hsz
  have hA : ∀ q : Nat, s.heap.size ≤ q → (fun q => s.heap.size ≤ q) q := fun q h => h
  have hS : va_S (fun q => s.heap.size ≤ q) s.heap s.heap [] := va_S.rf
  have hl := lv_entry ([.int x, .int lo, .int up]) (n := 3) (Nat.le_of_ble_eq_true rfl)
  rw [lg_entry_eq]
  generalize (lg_sl ([.int x, .int lo, .int up]) ++ List.replicate (3 - (lg_sl ([.int x, .int lo, .int up])).length) Slot.unset).toArray = ls at hl ⊢
  have hl : lv_has ls 3 [(0, .int x), (1, .int lo), (2, .int up)] := hl
  refine lv_iload_n hx hb dX1_requireWithin_0 rfl (lv_at hl 0 rfl) ?_
  refine lv_iload_n hx hb dX1_requireWithin_1 rfl (lv_at hl 1 rfl) ?_
  refine lv_icmp_lt (tgt := 10) hx hb dX1_requireWithin_2 (by decide) (fun c => ?_) (fun c => ?_)
  · skip
    obtain ⟨sa, hstr⟩ := hE.2.2.2 (148, "a number is out of range") (by decide)
    have hat0 : ∀ w ∈ (vx_atS RX1 150 "java/lang/IllegalArgumentException" ["java/lang/RuntimeException", "java/lang/Exception"]).filter goodWord, w ∈ wsX1_requireWithin := by decide +kernel
    exact vx_throwS (text := "a number is out of range") (names := ["java/lang/RuntimeException", "java/lang/Exception"]) hx hb hst hown (by decide +kernel) (by decide +kernel) (hts (.classLink RX1 146 "java/lang/IllegalArgumentException") (by decide +kernel)) (hts (.initialized "java/lang/IllegalArgumentException") (by decide +kernel)) hstr (vx_hat (B := exW) (fun w h => hts w (hat0 w h)) (by decide +kernel) hE.words) (by decide +kernel) hE.1 hE.2.1 hS (hl.1.trans hml.symm) dX1_requireWithin_10 dX1_requireWithin_13 dX1_requireWithin_14 dX1_requireWithin_16 dX1_requireWithin_19 (fun x h => (htab x h).elim) (Nat.le_of_ble_eq_true rfl) (Nat.le_of_ble_eq_true rfl) (Nat.le_of_ble_eq_true rfl) (Nat.le_of_ble_eq_true rfl) hlocks (fun t ht hz hk => ⟨(), trivial, ⟨rfl, fun q => absurd q.1 (Int32.not_le.mpr c)⟩, hz, fun q h1 _ => hk q h1⟩) hS.2.2 (Nat.le_refl _) (Nat.le_refl _)
  · skip
    refine lv_iload_n hx hb dX1_requireWithin_5 rfl (lv_at hl 0 rfl) ?_
    refine lv_iload_n hx hb dX1_requireWithin_6 rfl (lv_at hl 2 rfl) ?_
    refine lv_icmp_le (tgt := 20) hx hb dX1_requireWithin_7 (by decide) (fun c1 => ?_) (fun c1 => ?_)
    · skip
      refine W.widen (k := 1) (n := 6) (Nat.zero_le _) (Nat.zero_le _) (vx_ret ?_)
      exact W.vret hx hb hr (fun t ht hW => ⟨⟨(), rfl, ⟨Int32.not_lt.mp c, c1⟩, ht⟩, hS.F ht⟩) hS.2.2 dX1_requireWithin_20
    · skip
      obtain ⟨sa, hstr⟩ := hE.2.2.2 (148, "a number is out of range") (by decide)
      have hat0 : ∀ w ∈ (vx_atS RX1 150 "java/lang/IllegalArgumentException" ["java/lang/RuntimeException", "java/lang/Exception"]).filter goodWord, w ∈ wsX1_requireWithin := by decide +kernel
      exact vx_throwS (text := "a number is out of range") (names := ["java/lang/RuntimeException", "java/lang/Exception"]) hx hb hst hown (by decide +kernel) (by decide +kernel) (hts (.classLink RX1 146 "java/lang/IllegalArgumentException") (by decide +kernel)) (hts (.initialized "java/lang/IllegalArgumentException") (by decide +kernel)) hstr (vx_hat (B := exW) (fun w h => hts w (hat0 w h)) (by decide +kernel) hE.words) (by decide +kernel) hE.1 hE.2.1 hS (hl.1.trans hml.symm) dX1_requireWithin_10 dX1_requireWithin_13 dX1_requireWithin_14 dX1_requireWithin_16 dX1_requireWithin_19 (fun x h => (htab x h).elim) (Nat.le_of_ble_eq_true rfl) (Nat.le_of_ble_eq_true rfl) (Nat.le_of_ble_eq_true rfl) (Nat.le_of_ble_eq_true rfl) hlocks (fun t ht hz hk => ⟨(), trivial, ⟨rfl, fun q => c1 q.2⟩, hz, fun q h1 _ => hk q h1⟩) hS.2.2 (Nat.le_refl _) (Nat.le_refl _)
end
section
/-! GridCommons: the face, but for close and replace: each by two contracts, V: the arguments are good; X: they are not -/
abbrev isQ (n : Nat) (q : Int32) : Prop := 0 ≤ q ∧ q < nI n
theorem isQ_nI {n : Nat} {q : Int32} (hn : n < 2 ^ 31) (h : isQ n q) : ∃ j, j < n ∧ q = nI j := by
  obtain ⟨j, hj, rfl⟩ := nI_of (fun z => absurd h.1 (Int32.not_le.mpr z))
  exact ⟨j, (nI_ltI hj hn).mp h.2, rfl⟩
set_option maxHeartbeats 4000000 in
set_option maxRecDepth 100000 in
theorem mX1_requireQuarterV (l : Launch) (D : va_G) (cI cZ cD : ClassId) (a : Nat → Nat) (sz : Nat) (sh sw ts : Nat → Int32) (bi : Nat → UInt64) (it tu : Nat → Int32) (ne : Nat → UInt64) (pr so lo : UInt64) (wt : Int32) (lp lz lu : Nat → UInt64) (lk : Nat → Int32) (ld lf lb lw : Nat → UInt64) (n : Nat) (q : Int32) (hq : isQ n q) : Met l yX1_requireQuarter wsX1_requireQuarter ({ frames := 0, cells := 0, slots := 0, locals := 0 } : Room) (va_Pc [.ref (a 0), .int q] (XP D cI cZ cD (XW a cI cZ cD sh sw ts bi it tu ne pr so lo wt (nI n) lp lz lu lk ld lf lb lw) sz)) (va_Sv (fun _ => True)) 0 0 (fun _ => False) := by
  refine Met.ofW (cc := cX1_requireQuarter) (maxL := 2) (ret := none) (by decide +kernel) rfl ?_
  intro p e s m args below meth c s₁ B hml hv
  obtain ⟨rfl, hsz, hP, hK, hD0⟩ := hv
  have hx := B.exec
  have hb := B.bytes
  have hr := B.returns
  have hts := atoms_spec (ws := wsX1_requireQuarter) B.pre
  have hown : s.vm.findClass RX1 = some m.cls := findClass_of_methodNamed B.named
  have hlocks := B.notSynchronized
  subst hsz
  have hD := hD0.self (sz := s.heap.size)
  generalize hAe : va_A (XW a cI cZ cD sh sw ts bi it tu ne pr so lo wt (nI n) lp lz lu lk ld lf lb lw) s.heap.size = A at hD ⊢
  have hA : ∀ q : Nat, s.heap.size ≤ q → A q := fun q h => by rw [← hAe]; exact Or.inr h
  have hS : va_S A s.heap s.heap [] := va_S.rf
  have hl := lv_entry ([.ref (a 0), .int q]) (n := 2) (Nat.le_of_ble_eq_true rfl)
  rw [lg_entry_eq]
  generalize (lg_sl ([.ref (a 0), .int q]) ++ List.replicate (2 - (lg_sl ([.ref (a 0), .int q])).length) Slot.unset).toArray = ls at hl ⊢
  have hl : lv_has ls 2 [(0, .ref (a 0)), (1, .int q)] := hl
  have inX1 : ∀ w ∈ wsX10, w ∈ wsX1_requireQuarter := by decide +kernel
  have inX0 : ∀ w ∈ wsX00, w ∈ wsX1_requireQuarter := by decide +kernel
  refine lv_iload_n hx hb dX1_requireQuarter_0 rfl (lv_at hl 1 rfl) ?_
  refine lv_if_lt (tgt := 15) hx hb dX1_requireQuarter_1 (by decide) (fun c => ?_) (fun c => ?_)
  · skip
    exact absurd hq.1 (Int32.not_le.mpr c)
  · skip
    refine lv_iload_n hx hb dX1_requireQuarter_4 rfl (lv_at hl 1 rfl) ?_
    refine lv_aload_n hx hb dX1_requireQuarter_5 rfl (lv_at hl 0 rfl) ?_
    refine va_get (D := D) (ci := 1) (v := .ref (a 8)) (C := RX1) (T := TX1) (N := 12) hx hb hts inX1 hown hK hP 0 rfl rfl 6 (by decide) (hts (.fieldLink RX1 33 "GridCommons" "ledger" "LGridCommons$Ledger;") (by decide +kernel)) (fun _ h9 => h9) rfl dX1_requireQuarter_6 ?_
    refine va_get (D := D) (ci := 0) (v := .int (nI n)) (C := RX0) (T := TX0) (N := 9) hx hb hts inX0 hown hK hP 8 rfl rfl 0 (by decide) (hts (.fieldLink RX1 77 "GridCommons$Ledger" "count" "I") (by decide +kernel)) (fun _ h9 => h9) rfl dX1_requireQuarter_9 ?_
    refine lv_icmp_lt (tgt := 25) hx hb dX1_requireQuarter_12 (by decide) (fun c1 => ?_) (fun c1 => ?_)
    · skip
      exact W.vret hx hb hr (fun t ht hW => ⟨rfl, trivial, ht⟩) (fun q hq => absurd hq List.not_mem_nil) dX1_requireQuarter_25
    · skip
      exact absurd hq.2 c1
set_option maxHeartbeats 4000000 in
set_option maxRecDepth 100000 in
theorem mX1_requireQuarterX (l : Launch) (hst : l.stackTraces = false) (D : va_G) (cI cZ cD : ClassId) (a : Nat → Nat) (Hp : Heap) (sh sw ts : Nat → Int32) (bi : Nat → UInt64) (it tu : Nat → Int32) (ne : Nat → UInt64) (pr so lo : UInt64) (wt : Int32) (lp lz lu : Nat → UInt64) (lk : Nat → Int32) (ld lf lb lw : Nat → UInt64) (n : Nat) (q : Int32) (hq : ¬ isQ n q) : vx_Met l yX1_requireQuarter wsX1_requireQuarter ({ frames := 6, cells := 1, slots := 6, locals := 82 } : Room) (va_Pc [.ref (a 0), .int q] (XQ D cI cZ cD (XW a cI cZ cD sh sw ts bi it tu ne pr so lo wt (nI n) lp lz lu lk ld lf lb lw) Hp)) (va_Qv (fun (_ : Unit) => False) (fun _ _ => True) (fun q => Hp.size ≤ q)) (XE (fun E => E = "java/lang/IndexOutOfBoundsException") Hp.size) 1 6 (fun q => Hp.size ≤ q) := by
  refine vx_ofW (cc := cX1_requireQuarter) (maxL := 2) (ret := none) (by decide +kernel) rfl ?_
  intro p e s m args below meth c s₁ B hml htab hv
  obtain ⟨rfl, hsz, ⟨hP, hK, hD⟩, hE⟩ := hv
  have hx := B.exec
  have hb := B.bytes
  have hr := B.returns
  have hts := atoms_spec (ws := wsX1_requireQuarter) B.pre
  have hown : s.vm.findClass RX1 = some m.cls := findClass_of_methodNamed B.named
  have hlocks := B.notSynchronized
  subst hsz
  have hA : ∀ q : Nat, s.heap.size ≤ q → (fun q => s.heap.size ≤ q) q := fun q h => h
  have hS : va_S (fun q => s.heap.size ≤ q) s.heap s.heap [] := va_S.rf
  have hl := lv_entry ([.ref (a 0), .int q]) (n := 2) (Nat.le_of_ble_eq_true rfl)
  rw [lg_entry_eq]
  generalize (lg_sl ([.ref (a 0), .int q]) ++ List.replicate (2 - (lg_sl ([.ref (a 0), .int q])).length) Slot.unset).toArray = ls at hl ⊢
  have hl : lv_has ls 2 [(0, .ref (a 0)), (1, .int q)] := hl
  have inX1 : ∀ w ∈ wsX10, w ∈ wsX1_requireQuarter := by decide +kernel
  have inX0 : ∀ w ∈ wsX00, w ∈ wsX1_requireQuarter := by decide +kernel
  refine lv_iload_n hx hb dX1_requireQuarter_0 rfl (lv_at hl 1 rfl) ?_
  refine lv_if_lt (tgt := 15) hx hb dX1_requireQuarter_1 (by decide) (fun c => ?_) (fun c => ?_)
  · skip
    obtain ⟨sa, hstr⟩ := hE.2.2.2 (155, "there is no such quarter") (by decide)
    have hat0 : ∀ w ∈ (vx_atS RX1 157 "java/lang/IndexOutOfBoundsException" ["java/lang/RuntimeException", "java/lang/Exception"]).filter goodWord, w ∈ wsX1_requireQuarter := by decide +kernel
    exact vx_throwS (text := "there is no such quarter") (names := ["java/lang/RuntimeException", "java/lang/Exception"]) hx hb hst hown (by decide +kernel) (by decide +kernel) (hts (.classLink RX1 153 "java/lang/IndexOutOfBoundsException") (by decide +kernel)) (hts (.initialized "java/lang/IndexOutOfBoundsException") (by decide +kernel)) hstr (vx_hat (B := exW) (fun w h => hts w (hat0 w h)) (by decide +kernel) hE.words) (by decide +kernel) hE.1 hE.2.1 hS (hl.1.trans hml.symm) dX1_requireQuarter_15 dX1_requireQuarter_18 dX1_requireQuarter_19 dX1_requireQuarter_21 dX1_requireQuarter_24 (fun x h => (htab x h).elim) (Nat.le_of_ble_eq_true rfl) (Nat.le_of_ble_eq_true rfl) (Nat.le_of_ble_eq_true rfl) (Nat.le_of_ble_eq_true rfl) hlocks (fun t ht hz hk => ⟨(), trivial, rfl, hz, fun q h1 _ => hk q h1⟩) hS.2.2 (Nat.le_refl _) (Nat.le_refl _)
  · skip
    refine lv_iload_n hx hb dX1_requireQuarter_4 rfl (lv_at hl 1 rfl) ?_
    refine lv_aload_n hx hb dX1_requireQuarter_5 rfl (lv_at hl 0 rfl) ?_
    refine va_get (D := D) (ci := 1) (v := .ref (a 8)) (C := RX1) (T := TX1) (N := 12) hx hb hts inX1 hown hK hP 0 rfl rfl 6 (by decide) (hts (.fieldLink RX1 33 "GridCommons" "ledger" "LGridCommons$Ledger;") (by decide +kernel)) (fun _ h9 => h9) rfl dX1_requireQuarter_6 ?_
    refine va_get (D := D) (ci := 0) (v := .int (nI n)) (C := RX0) (T := TX0) (N := 9) hx hb hts inX0 hown hK hP 8 rfl rfl 0 (by decide) (hts (.fieldLink RX1 77 "GridCommons$Ledger" "count" "I") (by decide +kernel)) (fun _ h9 => h9) rfl dX1_requireQuarter_9 ?_
    refine lv_icmp_lt (tgt := 25) hx hb dX1_requireQuarter_12 (by decide) (fun c1 => ?_) (fun c1 => ?_)
    · skip
      exact absurd ⟨Int32.not_lt.mp c, c1⟩ hq
    · skip
      obtain ⟨sa, hstr⟩ := hE.2.2.2 (155, "there is no such quarter") (by decide)
      have hat0 : ∀ w ∈ (vx_atS RX1 157 "java/lang/IndexOutOfBoundsException" ["java/lang/RuntimeException", "java/lang/Exception"]).filter goodWord, w ∈ wsX1_requireQuarter := by decide +kernel
      exact vx_throwS (text := "there is no such quarter") (names := ["java/lang/RuntimeException", "java/lang/Exception"]) hx hb hst hown (by decide +kernel) (by decide +kernel) (hts (.classLink RX1 153 "java/lang/IndexOutOfBoundsException") (by decide +kernel)) (hts (.initialized "java/lang/IndexOutOfBoundsException") (by decide +kernel)) hstr (vx_hat (B := exW) (fun w h => hts w (hat0 w h)) (by decide +kernel) hE.words) (by decide +kernel) hE.1 hE.2.1 hS (hl.1.trans hml.symm) dX1_requireQuarter_15 dX1_requireQuarter_18 dX1_requireQuarter_19 dX1_requireQuarter_21 dX1_requireQuarter_24 (fun x h => (htab x h).elim) (Nat.le_of_ble_eq_true rfl) (Nat.le_of_ble_eq_true rfl) (Nat.le_of_ble_eq_true rfl) (Nat.le_of_ble_eq_true rfl) hlocks (fun t ht hz hk => ⟨(), trivial, rfl, hz, fun q h1 _ => hk q h1⟩) hS.2.2 (Nat.le_refl _) (Nat.le_refl _)
set_option maxHeartbeats 4000000 in
set_option maxRecDepth 100000 in
theorem mX1_closedSlotV (l : Launch) (D : va_G) (cI cZ cD : ClassId) (a : Nat → Nat) (sz : Nat) (sh sw ts : Nat → Int32) (bi : Nat → UInt64) (it tu : Nat → Int32) (ne : Nat → UInt64) (pr so lo : UInt64) (wt : Int32) (lp lz lu : Nat → UInt64) (lk : Nat → Int32) (ld lf lb lw : Nat → UInt64) (n o q : Nat) (hn : n ≤ 60) (ho : o < 5) (hq : q < n) : Met l yX1_closedSlot wsX1_closedSlot ({ frames := 1, cells := 0, slots := 0, locals := 21 } : Room) (va_Pc [.ref (a 0), .int (nI o), .int (nI q)] (XP D cI cZ cD (XW a cI cZ cD sh sw ts bi it tu ne pr so lo wt (nI n) lp lz lu lk ld lf lb lw) sz)) (vp_Si (fun r => r = nI (5 * q + o))) 0 0 (fun _ => False) := by
  refine Met.ofW (cc := cX1_closedSlot) (maxL := 3) (ret := (some .int)) (by decide +kernel) rfl ?_
  intro p e s m args below meth c s₁ B hml hv
  obtain ⟨rfl, hsz, hP, hK, hD0⟩ := hv
  have hx := B.exec
  have hb := B.bytes
  have hr := B.returns
  have hts := atoms_spec (ws := wsX1_closedSlot) B.pre
  have hown : s.vm.findClass RX1 = some m.cls := findClass_of_methodNamed B.named
  have hlocks := B.notSynchronized
  subst hsz
  have hD := hD0.self (sz := s.heap.size)
  generalize hAe : va_A (XW a cI cZ cD sh sw ts bi it tu ne pr so lo wt (nI n) lp lz lu lk ld lf lb lw) s.heap.size = A at hD ⊢
  have hA : ∀ q : Nat, s.heap.size ≤ q → A q := fun q h => by rw [← hAe]; exact Or.inr h
  have hS : va_S A s.heap s.heap [] := va_S.rf
  have hl := lv_entry ([.ref (a 0), .int (nI o), .int (nI q)]) (n := 3) (Nat.le_of_ble_eq_true rfl)
  rw [lg_entry_eq]
  generalize (lg_sl ([.ref (a 0), .int (nI o), .int (nI q)]) ++ List.replicate (3 - (lg_sl ([.ref (a 0), .int (nI o), .int (nI q)])).length) Slot.unset).toArray = ls at hl ⊢
  have hl : lv_has ls 3 [(0, .ref (a 0)), (1, .int (nI o)), (2, .int (nI q))] := hl
  refine lv_iload_n hx hb dX1_closedSlot_0 rfl (lv_at hl 1 rfl) ?_
  refine va_csv (va_Run.run (va_runS (As := [.int (nI o)]) (rest := []) ⟨hx, hb, hml, hown, hts⟩ (mX1_requireOwnerV l (nI o) (nI_inR (n := 4) (by omega) (by decide))) (va_cwS 1 hts gX1_closedSlot_X1_requireOwner rfl rfl rfl (by decide +kernel) ⟨Nat.le_of_ble_eq_true rfl, Nat.le_of_ble_eq_true rfl⟩) ⟨fun a U g mk q => q, fun U hU hW => ⟨rfl, trivial⟩⟩ rfl rfl hl.1 rfl (lv_room (Nat.le_of_ble_eq_true rfl)) dX1_closedSlot_1 ⟨Nat.le_of_ble_eq_true rfl, Nat.le_of_ble_eq_true rfl⟩)) (fun _ => ?_)
  refine lv_aload_n hx hb dX1_closedSlot_4 rfl (lv_at hl 0 rfl) ?_
  refine lv_iload_n hx hb dX1_closedSlot_5 rfl (lv_at hl 2 rfl) ?_
  refine va_csv (va_Run.run (va_runV (As := [.int (nI q)]) (rest := []) ⟨hx, hb, hml, hown, hts⟩ (mX1_requireQuarterV l D cI cZ cD a _ sh sw ts bi it tu ne pr so lo wt lp lz lu lk ld lf lb lw n (nI q) ⟨nI_pos' (by omega), nI_lt hq (by omega)⟩) (cwV 1 hts gX1_closedSlot_X1_requireQuarter rfl rfl rfl (by decide +kernel) ⟨Nat.le_of_ble_eq_true rfl, Nat.le_of_ble_eq_true rfl⟩) ⟨xk_blind, va_recv hK hP (ci := 1) (q0 := 0) rfl rfl, xk_pre hP hK hD⟩ rfl rfl hl.1 rfl (lv_room (Nat.le_of_ble_eq_true rfl)) dX1_closedSlot_6 ⟨Nat.le_of_ble_eq_true rfl, Nat.le_of_ble_eq_true rfl⟩)) (fun _ => ?_)
  refine lv_iload_n hx hb dX1_closedSlot_9 rfl (lv_at hl 1 rfl) ?_
  refine lv_iload_n hx hb dX1_closedSlot_10 rfl (lv_at hl 2 rfl) ?_
  refine vp_callSi (va_Run.run (va_runS (As := [.int (nI o), .int (nI q)]) (rest := []) ⟨hx, hb, hml, hown, hts⟩ (mX0_slot l o q) (va_cwS 2 hts gX1_closedSlot_X0_slot rfl rfl rfl (by decide +kernel) ⟨Nat.le_of_ble_eq_true rfl, Nat.le_of_ble_eq_true rfl⟩) ⟨fun a U g mk q => q, fun U hU hW => ⟨rfl, trivial⟩⟩ rfl rfl hl.1 rfl (lv_room (Nat.le_of_ble_eq_true rfl)) dX1_closedSlot_11 ⟨Nat.le_of_ble_eq_true rfl, Nat.le_of_ble_eq_true rfl⟩)) (fun r hr1 => ?_)
  exact W.iret hx hb hr (fun t ht hW => ⟨_, rfl, hr1, ht⟩) (fun q hq => absurd hq List.not_mem_nil) dX1_closedSlot_14
set_option maxHeartbeats 4000000 in
set_option maxRecDepth 100000 in
theorem mX1_closedSlotX (l : Launch) (hst : l.stackTraces = false) (D : va_G) (cI cZ cD : ClassId) (a : Nat → Nat) (Hp : Heap) (sh sw ts : Nat → Int32) (bi : Nat → UInt64) (it tu : Nat → Int32) (ne : Nat → UInt64) (pr so lo : UInt64) (wt : Int32) (lp lz lu : Nat → UInt64) (lk : Nat → Int32) (ld lf lb lw : Nat → UInt64) (n : Nat) (x q : Int32) (hbad : ¬ (inR x 0 4 ∧ isQ n q)) : vx_Met l yX1_closedSlot wsX1_closedSlot ({ frames := 7, cells := 1, slots := 6, locals := 103 } : Room) (va_Pc [.ref (a 0), .int x, .int q] (XQ D cI cZ cD (XW a cI cZ cD sh sw ts bi it tu ne pr so lo wt (nI n) lp lz lu lk ld lf lb lw) Hp)) (va_Qi (fun _ (_ : Unit) => False) (fun _ _ => True) (fun q => Hp.size ≤ q)) (XE (fun E => (E = "java/lang/IllegalArgumentException" ∧ ¬ inR x 0 4) ∨ (E = "java/lang/IndexOutOfBoundsException" ∧ inR x 0 4 ∧ ¬ isQ n q)) Hp.size) 1 6 (fun q => Hp.size ≤ q) := by
  refine vx_ofW (cc := cX1_closedSlot) (maxL := 3) (ret := (some .int)) (by decide +kernel) rfl ?_
  intro p e s m args below meth c s₁ B hml htab hv
  obtain ⟨rfl, hsz, ⟨hP, hK, hD⟩, hE⟩ := hv
  have hx := B.exec
  have hb := B.bytes
  have hr := B.returns
  have hts := atoms_spec (ws := wsX1_closedSlot) B.pre
  have hown : s.vm.findClass RX1 = some m.cls := findClass_of_methodNamed B.named
  have hlocks := B.notSynchronized
  subst hsz
  have hA : ∀ q : Nat, s.heap.size ≤ q → (fun q => s.heap.size ≤ q) q := fun q h => h
  have hS : va_S (fun q => s.heap.size ≤ q) s.heap s.heap [] := va_S.rf
  have hl := lv_entry ([.ref (a 0), .int x, .int q]) (n := 3) (Nat.le_of_ble_eq_true rfl)
  rw [lg_entry_eq]
  generalize (lg_sl ([.ref (a 0), .int x, .int q]) ++ List.replicate (3 - (lg_sl ([.ref (a 0), .int x, .int q])).length) Slot.unset).toArray = ls at hl ⊢
  have hl : lv_has ls 3 [(0, .ref (a 0)), (1, .int x), (2, .int q)] := hl
  refine lv_iload_n hx hb dX1_closedSlot_0 rfl (lv_at hl 1 rfl) ?_
  by_cases hin : inR x 0 4
  · skip
    refine va_csv (va_Run.run (va_runS (As := [.int x]) (rest := []) ⟨hx, hb, hml, hown, hts⟩ (mX1_requireOwnerV l x hin) (va_cwS 1 hts gX1_closedSlot_X1_requireOwner rfl rfl rfl (by decide +kernel) ⟨Nat.le_of_ble_eq_true rfl, Nat.le_of_ble_eq_true rfl⟩) ⟨fun a U g mk q => q, fun U hU hW => ⟨rfl, trivial⟩⟩ rfl rfl hl.1 rfl (lv_room (Nat.le_of_ble_eq_true rfl)) dX1_closedSlot_1 ⟨Nat.le_of_ble_eq_true rfl, Nat.le_of_ble_eq_true rfl⟩)) (fun _ => ?_)
    refine lv_aload_n hx hb dX1_closedSlot_4 rfl (lv_at hl 0 rfl) ?_
    refine lv_iload_n hx hb dX1_closedSlot_5 rfl (lv_at hl 2 rfl) ?_
    exact vx_callv (vx_runV (As := [.int q]) (rest := []) ⟨hx, hb, hml, hown, hts⟩ (mX1_requireQuarterX l hst D cI cZ cD a s.heap sh sw ts bi it tu ne pr so lo wt lp lz lu lk ld lf lb lw n q (fun z => hbad ⟨hin, z⟩)) (cwV 1 hts gX1_closedSlot_X1_requireQuarter rfl rfl rfl (by decide +kernel) ⟨Nat.le_of_ble_eq_true rfl, Nat.le_of_ble_eq_true rfl⟩) ⟨xq_blind, va_recv hK hP (ci := 1) (q0 := 0) rfl rfl, xq_pre hP hK hD hE hS hA⟩ rfl rfl hl.1 rfl (lv_room (Nat.le_of_ble_eq_true rfl)) dX1_closedSlot_6 ⟨Nat.le_of_ble_eq_true rfl, Nat.le_of_ble_eq_true rfl⟩) hS (fun q h1 h2 => absurd h2 (Nat.not_le.mpr h1)) (fun q h => hA q (Nat.le_trans hS.1 h)) (fun q h1 h2 => absurd h2 (Nat.not_le.mpr h1)) (fun E ce q9 u9 t9 H9 locs9 ht9 hvm9 hpx9 hB9 hz9 hk9 hS9 hce9 hcv9 hcl9 => vx_out (fun x h => (htab x h).elim) hlocks hce9 hcv9 hcl9 (fun t8 ht8 hvm8 => ⟨(), trivial, Or.inr ⟨hB9, hin, fun z => hbad ⟨hin, z⟩⟩, by rw [ht8]; exact hz9, fun q h1 h2 => by rw [ht8]; exact hk9 q h1 h2⟩) hS9.2.2 (Nat.le_refl _) (Nat.le_refl _)) (fun u t H1 locs1 ht hvm hw hB hz1 hk1 hS1 => hw.elim)
  · skip
    exact vx_callv (vx_runS (As := [.int x]) (rest := []) ⟨hx, hb, hml, hown, hts⟩ (mX1_requireOwner l hst s.heap x) (va_cwS 1 hts gX1_closedSlot_X1_requireOwner rfl rfl rfl (by decide +kernel) ⟨Nat.le_of_ble_eq_true rfl, Nat.le_of_ble_eq_true rfl⟩) ⟨xh_blind, xh_pre hE hS hA⟩ rfl rfl hl.1 rfl (lv_room (Nat.le_of_ble_eq_true rfl)) dX1_closedSlot_1 ⟨Nat.le_of_ble_eq_true rfl, Nat.le_of_ble_eq_true rfl⟩) hS (fun q h1 h2 => absurd h2 (Nat.not_le.mpr h1)) (fun q h => hA q (Nat.le_trans hS.1 h)) (fun q h1 h2 => absurd h2 (Nat.not_le.mpr h1)) (fun E ce q9 u9 t9 H9 locs9 ht9 hvm9 hpx9 hB9 hz9 hk9 hS9 hce9 hcv9 hcl9 => vx_out (fun x h => (htab x h).elim) hlocks hce9 hcv9 hcl9 (fun t8 ht8 hvm8 => ⟨(), trivial, Or.inl ⟨hB9.1, hB9.2⟩, by rw [ht8]; exact hz9, fun q h1 h2 => by rw [ht8]; exact hk9 q h1 h2⟩) hS9.2.2 (Nat.le_refl _) (Nat.le_refl _)) (fun u t H1 locs1 ht hvm hw hB hz1 hk1 hS1 => absurd hw hin)
set_option maxHeartbeats 4000000 in
set_option maxRecDepth 100000 in
theorem mX1_useV (l : Launch) (D : va_G) (cI cZ cD : ClassId) (a : Nat → Nat) (sz : Nat) (sh sw ts : Nat → Int32) (bi : Nat → UInt64) (it tu : Nat → Int32) (ne : Nat → UInt64) (pr so lo : UInt64) (wt : Int32) (lp lz lu : Nat → UInt64) (lk : Nat → Int32) (ld lf lb lw : Nat → UInt64) (n o q : Nat) (hn : n ≤ 60) (ho : o < 5) (hq : q < n) : Met l yX1_use wsX1_use ({ frames := 2, cells := 0, slots := 0, locals := 43 } : Room) (va_Pc [.ref (a 0), .int (nI o), .int (nI q)] (XP D cI cZ cD (XW a cI cZ cD sh sw ts bi it tu ne pr so lo wt (nI n) lp lz lu lk ld lf lb lw) sz)) (vp_Sd (fun r => r = lu (5 * q + o))) 0 0 (fun _ => False) := by
  refine Met.ofW (cc := cX1_use) (maxL := 3) (ret := (some .double)) (by decide +kernel) rfl ?_
  intro p e s m args below meth c s₁ B hml hv
  obtain ⟨rfl, hsz, hP, hK, hD0⟩ := hv
  have hx := B.exec
  have hb := B.bytes
  have hr := B.returns
  have hts := atoms_spec (ws := wsX1_use) B.pre
  have hown : s.vm.findClass RX1 = some m.cls := findClass_of_methodNamed B.named
  have hlocks := B.notSynchronized
  subst hsz
  have hD := hD0.self (sz := s.heap.size)
  generalize hAe : va_A (XW a cI cZ cD sh sw ts bi it tu ne pr so lo wt (nI n) lp lz lu lk ld lf lb lw) s.heap.size = A at hD ⊢
  have hA : ∀ q : Nat, s.heap.size ≤ q → A q := fun q h => by rw [← hAe]; exact Or.inr h
  have hS : va_S A s.heap s.heap [] := va_S.rf
  have hl := lv_entry ([.ref (a 0), .int (nI o), .int (nI q)]) (n := 3) (Nat.le_of_ble_eq_true rfl)
  rw [lg_entry_eq]
  generalize (lg_sl ([.ref (a 0), .int (nI o), .int (nI q)]) ++ List.replicate (3 - (lg_sl ([.ref (a 0), .int (nI o), .int (nI q)])).length) Slot.unset).toArray = ls at hl ⊢
  have hl : lv_has ls 3 [(0, .ref (a 0)), (1, .int (nI o)), (2, .int (nI q))] := hl
  have inX1 : ∀ w ∈ wsX10, w ∈ wsX1_use := by decide +kernel
  have inX0 : ∀ w ∈ wsX00, w ∈ wsX1_use := by decide +kernel
  refine lv_aload_n hx hb dX1_use_0 rfl (lv_at hl 0 rfl) ?_
  refine va_get (D := D) (ci := 1) (v := .ref (a 8)) (C := RX1) (T := TX1) (N := 12) hx hb hts inX1 hown hK hP 0 rfl rfl 6 (by decide) (hts (.fieldLink RX1 33 "GridCommons" "ledger" "LGridCommons$Ledger;") (by decide +kernel)) (fun _ h9 => h9) rfl dX1_use_1 ?_
  refine va_get (D := D) (ci := 0) (v := .ref (a 11)) (C := RX0) (T := TX0) (N := 9) hx hb hts inX0 hown hK hP 8 rfl rfl 3 (by decide) (hts (.fieldLink RX1 125 "GridCommons$Ledger" "use" "[D") (by decide +kernel)) (fun _ h9 => h9) rfl dX1_use_4 ?_
  refine lv_aload_n hx hb dX1_use_7 rfl (lv_at hl 0 rfl) ?_
  refine lv_iload_n hx hb dX1_use_8 rfl (lv_at hl 1 rfl) ?_
  refine lv_iload_n hx hb dX1_use_9 rfl (lv_at hl 2 rfl) ?_
  refine vp_callSi (va_Run.run (va_runV (As := [.int (nI o), .int (nI q)]) (rest := [.ref (a 11)]) ⟨hx, hb, hml, hown, hts⟩ (mX1_closedSlotV l D cI cZ cD a _ sh sw ts bi it tu ne pr so lo wt lp lz lu lk ld lf lb lw n o q hn ho hq) (cwV 2 hts gX1_use_X1_closedSlot rfl rfl rfl (by decide +kernel) ⟨Nat.le_of_ble_eq_true rfl, Nat.le_of_ble_eq_true rfl⟩) ⟨xk_blind, va_recv hK hP (ci := 1) (q0 := 0) rfl rfl, xk_pre hP hK hD⟩ rfl rfl hl.1 rfl (lv_room (Nat.le_of_ble_eq_true rfl)) dX1_use_10 ⟨Nat.le_of_ble_eq_true rfl, Nat.le_of_ble_eq_true rfl⟩)) (fun r hr1 => ?_)
  subst hr1
  refine xk_dald hx hb hK hP 11 2 rfl rfl (o := (5 * q + o)) (by omega) (by decide) dX1_use_13 ?_
  exact W.dret hx hb hr (fun t ht hW => ⟨_, rfl, rfl, ht⟩) (fun q hq => absurd hq List.not_mem_nil) dX1_use_14
set_option maxHeartbeats 4000000 in
set_option maxRecDepth 100000 in
theorem mX1_useX (l : Launch) (hst : l.stackTraces = false) (D : va_G) (cI cZ cD : ClassId) (a : Nat → Nat) (Hp : Heap) (sh sw ts : Nat → Int32) (bi : Nat → UInt64) (it tu : Nat → Int32) (ne : Nat → UInt64) (pr so lo : UInt64) (wt : Int32) (lp lz lu : Nat → UInt64) (lk : Nat → Int32) (ld lf lb lw : Nat → UInt64) (n : Nat) (x q : Int32) (hbad : ¬ (inR x 0 4 ∧ isQ n q)) : vx_Met l yX1_use wsX1_use ({ frames := 8, cells := 1, slots := 6, locals := 125 } : Room) (va_Pc [.ref (a 0), .int x, .int q] (XQ D cI cZ cD (XW a cI cZ cD sh sw ts bi it tu ne pr so lo wt (nI n) lp lz lu lk ld lf lb lw) Hp)) (va_Qd (fun _ (_ : Unit) => False) (fun _ _ => True) (fun q => Hp.size ≤ q)) (XE (fun E => (E = "java/lang/IllegalArgumentException" ∧ ¬ inR x 0 4) ∨ (E = "java/lang/IndexOutOfBoundsException" ∧ inR x 0 4 ∧ ¬ isQ n q)) Hp.size) 1 6 (fun q => Hp.size ≤ q) := by
  refine vx_ofW (cc := cX1_use) (maxL := 3) (ret := (some .double)) (by decide +kernel) rfl ?_
  intro p e s m args below meth c s₁ B hml htab hv
  obtain ⟨rfl, hsz, ⟨hP, hK, hD⟩, hE⟩ := hv
  have hx := B.exec
  have hb := B.bytes
  have hr := B.returns
  have hts := atoms_spec (ws := wsX1_use) B.pre
  have hown : s.vm.findClass RX1 = some m.cls := findClass_of_methodNamed B.named
  have hlocks := B.notSynchronized
  subst hsz
  have hA : ∀ q : Nat, s.heap.size ≤ q → (fun q => s.heap.size ≤ q) q := fun q h => h
  have hS : va_S (fun q => s.heap.size ≤ q) s.heap s.heap [] := va_S.rf
  have hl := lv_entry ([.ref (a 0), .int x, .int q]) (n := 3) (Nat.le_of_ble_eq_true rfl)
  rw [lg_entry_eq]
  generalize (lg_sl ([.ref (a 0), .int x, .int q]) ++ List.replicate (3 - (lg_sl ([.ref (a 0), .int x, .int q])).length) Slot.unset).toArray = ls at hl ⊢
  have hl : lv_has ls 3 [(0, .ref (a 0)), (1, .int x), (2, .int q)] := hl
  have inX1 : ∀ w ∈ wsX10, w ∈ wsX1_use := by decide +kernel
  have inX0 : ∀ w ∈ wsX00, w ∈ wsX1_use := by decide +kernel
  refine lv_aload_n hx hb dX1_use_0 rfl (lv_at hl 0 rfl) ?_
  refine va_get (D := D) (ci := 1) (v := .ref (a 8)) (C := RX1) (T := TX1) (N := 12) hx hb hts inX1 hown hK hP 0 rfl rfl 6 (by decide) (hts (.fieldLink RX1 33 "GridCommons" "ledger" "LGridCommons$Ledger;") (by decide +kernel)) (fun _ h9 => h9) rfl dX1_use_1 ?_
  refine va_get (D := D) (ci := 0) (v := .ref (a 11)) (C := RX0) (T := TX0) (N := 9) hx hb hts inX0 hown hK hP 8 rfl rfl 3 (by decide) (hts (.fieldLink RX1 125 "GridCommons$Ledger" "use" "[D") (by decide +kernel)) (fun _ h9 => h9) rfl dX1_use_4 ?_
  refine lv_aload_n hx hb dX1_use_7 rfl (lv_at hl 0 rfl) ?_
  refine lv_iload_n hx hb dX1_use_8 rfl (lv_at hl 1 rfl) ?_
  refine lv_iload_n hx hb dX1_use_9 rfl (lv_at hl 2 rfl) ?_
  exact vx_calli (vx_runV (As := [.int x, .int q]) (rest := [.ref (a 11)]) ⟨hx, hb, hml, hown, hts⟩ (mX1_closedSlotX l hst D cI cZ cD a s.heap sh sw ts bi it tu ne pr so lo wt lp lz lu lk ld lf lb lw n x q hbad) (cwV 2 hts gX1_use_X1_closedSlot rfl rfl rfl (by decide +kernel) ⟨Nat.le_of_ble_eq_true rfl, Nat.le_of_ble_eq_true rfl⟩) ⟨xq_blind, va_recv hK hP (ci := 1) (q0 := 0) rfl rfl, xq_pre hP hK hD hE hS hA⟩ rfl rfl hl.1 rfl (lv_room (Nat.le_of_ble_eq_true rfl)) dX1_use_10 ⟨Nat.le_of_ble_eq_true rfl, Nat.le_of_ble_eq_true rfl⟩) hS (fun q h1 h2 => absurd h2 (Nat.not_le.mpr h1)) (fun q h => hA q (Nat.le_trans hS.1 h)) (fun q h1 h2 => absurd h2 (Nat.not_le.mpr h1)) (fun E ce q9 u9 t9 H9 locs9 ht9 hvm9 hpx9 hB9 hz9 hk9 hS9 hce9 hcv9 hcl9 => vx_out (fun x h => (htab x h).elim) hlocks hce9 hcv9 hcl9 (fun t8 ht8 hvm8 => ⟨(), trivial, hB9, by rw [ht8]; exact hz9, fun q h1 h2 => by rw [ht8]; exact hk9 q h1 h2⟩) hS9.2.2 (Nat.le_refl _) (Nat.le_refl _)) (fun r u t H1 locs1 ht hvm hw hB hz1 hk1 hS1 => hw.elim)
set_option maxHeartbeats 4000000 in
set_option maxRecDepth 100000 in
theorem mX1_fromSunV (l : Launch) (D : va_G) (cI cZ cD : ClassId) (a : Nat → Nat) (sz : Nat) (sh sw ts : Nat → Int32) (bi : Nat → UInt64) (it tu : Nat → Int32) (ne : Nat → UInt64) (pr so lo : UInt64) (wt : Int32) (lp lz lu : Nat → UInt64) (lk : Nat → Int32) (ld lf lb lw : Nat → UInt64) (n o q : Nat) (hn : n ≤ 60) (ho : o < 5) (hq : q < n) : Met l yX1_fromSun wsX1_fromSun ({ frames := 2, cells := 0, slots := 0, locals := 43 } : Room) (va_Pc [.ref (a 0), .int (nI o), .int (nI q)] (XP D cI cZ cD (XW a cI cZ cD sh sw ts bi it tu ne pr so lo wt (nI n) lp lz lu lk ld lf lb lw) sz)) (vp_Sd (fun r => r = lf (5 * q + o))) 0 0 (fun _ => False) := by
  refine Met.ofW (cc := cX1_fromSun) (maxL := 3) (ret := (some .double)) (by decide +kernel) rfl ?_
  intro p e s m args below meth c s₁ B hml hv
  obtain ⟨rfl, hsz, hP, hK, hD0⟩ := hv
  have hx := B.exec
  have hb := B.bytes
  have hr := B.returns
  have hts := atoms_spec (ws := wsX1_fromSun) B.pre
  have hown : s.vm.findClass RX1 = some m.cls := findClass_of_methodNamed B.named
  have hlocks := B.notSynchronized
  subst hsz
  have hD := hD0.self (sz := s.heap.size)
  generalize hAe : va_A (XW a cI cZ cD sh sw ts bi it tu ne pr so lo wt (nI n) lp lz lu lk ld lf lb lw) s.heap.size = A at hD ⊢
  have hA : ∀ q : Nat, s.heap.size ≤ q → A q := fun q h => by rw [← hAe]; exact Or.inr h
  have hS : va_S A s.heap s.heap [] := va_S.rf
  have hl := lv_entry ([.ref (a 0), .int (nI o), .int (nI q)]) (n := 3) (Nat.le_of_ble_eq_true rfl)
  rw [lg_entry_eq]
  generalize (lg_sl ([.ref (a 0), .int (nI o), .int (nI q)]) ++ List.replicate (3 - (lg_sl ([.ref (a 0), .int (nI o), .int (nI q)])).length) Slot.unset).toArray = ls at hl ⊢
  have hl : lv_has ls 3 [(0, .ref (a 0)), (1, .int (nI o)), (2, .int (nI q))] := hl
  have inX1 : ∀ w ∈ wsX10, w ∈ wsX1_fromSun := by decide +kernel
  have inX0 : ∀ w ∈ wsX00, w ∈ wsX1_fromSun := by decide +kernel
  refine lv_aload_n hx hb dX1_fromSun_0 rfl (lv_at hl 0 rfl) ?_
  refine va_get (D := D) (ci := 1) (v := .ref (a 8)) (C := RX1) (T := TX1) (N := 12) hx hb hts inX1 hown hK hP 0 rfl rfl 6 (by decide) (hts (.fieldLink RX1 33 "GridCommons" "ledger" "LGridCommons$Ledger;") (by decide +kernel)) (fun _ h9 => h9) rfl dX1_fromSun_1 ?_
  refine va_get (D := D) (ci := 0) (v := .ref (a 14)) (C := RX0) (T := TX0) (N := 9) hx hb hts inX0 hown hK hP 8 rfl rfl 6 (by decide) (hts (.fieldLink RX1 134 "GridCommons$Ledger" "fromSun" "[D") (by decide +kernel)) (fun _ h9 => h9) rfl dX1_fromSun_4 ?_
  refine lv_aload_n hx hb dX1_fromSun_7 rfl (lv_at hl 0 rfl) ?_
  refine lv_iload_n hx hb dX1_fromSun_8 rfl (lv_at hl 1 rfl) ?_
  refine lv_iload_n hx hb dX1_fromSun_9 rfl (lv_at hl 2 rfl) ?_
  refine vp_callSi (va_Run.run (va_runV (As := [.int (nI o), .int (nI q)]) (rest := [.ref (a 14)]) ⟨hx, hb, hml, hown, hts⟩ (mX1_closedSlotV l D cI cZ cD a _ sh sw ts bi it tu ne pr so lo wt lp lz lu lk ld lf lb lw n o q hn ho hq) (cwV 2 hts gX1_fromSun_X1_closedSlot rfl rfl rfl (by decide +kernel) ⟨Nat.le_of_ble_eq_true rfl, Nat.le_of_ble_eq_true rfl⟩) ⟨xk_blind, va_recv hK hP (ci := 1) (q0 := 0) rfl rfl, xk_pre hP hK hD⟩ rfl rfl hl.1 rfl (lv_room (Nat.le_of_ble_eq_true rfl)) dX1_fromSun_10 ⟨Nat.le_of_ble_eq_true rfl, Nat.le_of_ble_eq_true rfl⟩)) (fun r hr1 => ?_)
  subst hr1
  refine xk_dald hx hb hK hP 14 2 rfl rfl (o := (5 * q + o)) (by omega) (by decide) dX1_fromSun_13 ?_
  exact W.dret hx hb hr (fun t ht hW => ⟨_, rfl, rfl, ht⟩) (fun q hq => absurd hq List.not_mem_nil) dX1_fromSun_14
set_option maxHeartbeats 4000000 in
set_option maxRecDepth 100000 in
theorem mX1_fromSunX (l : Launch) (hst : l.stackTraces = false) (D : va_G) (cI cZ cD : ClassId) (a : Nat → Nat) (Hp : Heap) (sh sw ts : Nat → Int32) (bi : Nat → UInt64) (it tu : Nat → Int32) (ne : Nat → UInt64) (pr so lo : UInt64) (wt : Int32) (lp lz lu : Nat → UInt64) (lk : Nat → Int32) (ld lf lb lw : Nat → UInt64) (n : Nat) (x q : Int32) (hbad : ¬ (inR x 0 4 ∧ isQ n q)) : vx_Met l yX1_fromSun wsX1_fromSun ({ frames := 8, cells := 1, slots := 6, locals := 125 } : Room) (va_Pc [.ref (a 0), .int x, .int q] (XQ D cI cZ cD (XW a cI cZ cD sh sw ts bi it tu ne pr so lo wt (nI n) lp lz lu lk ld lf lb lw) Hp)) (va_Qd (fun _ (_ : Unit) => False) (fun _ _ => True) (fun q => Hp.size ≤ q)) (XE (fun E => (E = "java/lang/IllegalArgumentException" ∧ ¬ inR x 0 4) ∨ (E = "java/lang/IndexOutOfBoundsException" ∧ inR x 0 4 ∧ ¬ isQ n q)) Hp.size) 1 6 (fun q => Hp.size ≤ q) := by
  refine vx_ofW (cc := cX1_fromSun) (maxL := 3) (ret := (some .double)) (by decide +kernel) rfl ?_
  intro p e s m args below meth c s₁ B hml htab hv
  obtain ⟨rfl, hsz, ⟨hP, hK, hD⟩, hE⟩ := hv
  have hx := B.exec
  have hb := B.bytes
  have hr := B.returns
  have hts := atoms_spec (ws := wsX1_fromSun) B.pre
  have hown : s.vm.findClass RX1 = some m.cls := findClass_of_methodNamed B.named
  have hlocks := B.notSynchronized
  subst hsz
  have hA : ∀ q : Nat, s.heap.size ≤ q → (fun q => s.heap.size ≤ q) q := fun q h => h
  have hS : va_S (fun q => s.heap.size ≤ q) s.heap s.heap [] := va_S.rf
  have hl := lv_entry ([.ref (a 0), .int x, .int q]) (n := 3) (Nat.le_of_ble_eq_true rfl)
  rw [lg_entry_eq]
  generalize (lg_sl ([.ref (a 0), .int x, .int q]) ++ List.replicate (3 - (lg_sl ([.ref (a 0), .int x, .int q])).length) Slot.unset).toArray = ls at hl ⊢
  have hl : lv_has ls 3 [(0, .ref (a 0)), (1, .int x), (2, .int q)] := hl
  have inX1 : ∀ w ∈ wsX10, w ∈ wsX1_fromSun := by decide +kernel
  have inX0 : ∀ w ∈ wsX00, w ∈ wsX1_fromSun := by decide +kernel
  refine lv_aload_n hx hb dX1_fromSun_0 rfl (lv_at hl 0 rfl) ?_
  refine va_get (D := D) (ci := 1) (v := .ref (a 8)) (C := RX1) (T := TX1) (N := 12) hx hb hts inX1 hown hK hP 0 rfl rfl 6 (by decide) (hts (.fieldLink RX1 33 "GridCommons" "ledger" "LGridCommons$Ledger;") (by decide +kernel)) (fun _ h9 => h9) rfl dX1_fromSun_1 ?_
  refine va_get (D := D) (ci := 0) (v := .ref (a 14)) (C := RX0) (T := TX0) (N := 9) hx hb hts inX0 hown hK hP 8 rfl rfl 6 (by decide) (hts (.fieldLink RX1 134 "GridCommons$Ledger" "fromSun" "[D") (by decide +kernel)) (fun _ h9 => h9) rfl dX1_fromSun_4 ?_
  refine lv_aload_n hx hb dX1_fromSun_7 rfl (lv_at hl 0 rfl) ?_
  refine lv_iload_n hx hb dX1_fromSun_8 rfl (lv_at hl 1 rfl) ?_
  refine lv_iload_n hx hb dX1_fromSun_9 rfl (lv_at hl 2 rfl) ?_
  exact vx_calli (vx_runV (As := [.int x, .int q]) (rest := [.ref (a 14)]) ⟨hx, hb, hml, hown, hts⟩ (mX1_closedSlotX l hst D cI cZ cD a s.heap sh sw ts bi it tu ne pr so lo wt lp lz lu lk ld lf lb lw n x q hbad) (cwV 2 hts gX1_fromSun_X1_closedSlot rfl rfl rfl (by decide +kernel) ⟨Nat.le_of_ble_eq_true rfl, Nat.le_of_ble_eq_true rfl⟩) ⟨xq_blind, va_recv hK hP (ci := 1) (q0 := 0) rfl rfl, xq_pre hP hK hD hE hS hA⟩ rfl rfl hl.1 rfl (lv_room (Nat.le_of_ble_eq_true rfl)) dX1_fromSun_10 ⟨Nat.le_of_ble_eq_true rfl, Nat.le_of_ble_eq_true rfl⟩) hS (fun q h1 h2 => absurd h2 (Nat.not_le.mpr h1)) (fun q h => hA q (Nat.le_trans hS.1 h)) (fun q h1 h2 => absurd h2 (Nat.not_le.mpr h1)) (fun E ce q9 u9 t9 H9 locs9 ht9 hvm9 hpx9 hB9 hz9 hk9 hS9 hce9 hcv9 hcl9 => vx_out (fun x h => (htab x h).elim) hlocks hce9 hcv9 hcl9 (fun t8 ht8 hvm8 => ⟨(), trivial, hB9, by rw [ht8]; exact hz9, fun q h1 h2 => by rw [ht8]; exact hk9 q h1 h2⟩) hS9.2.2 (Nat.le_refl _) (Nat.le_refl _)) (fun r u t H1 locs1 ht hvm hw hB hz1 hk1 hS1 => hw.elim)
set_option maxHeartbeats 4000000 in
set_option maxRecDepth 100000 in
theorem mX1_fromBatteryV (l : Launch) (D : va_G) (cI cZ cD : ClassId) (a : Nat → Nat) (sz : Nat) (sh sw ts : Nat → Int32) (bi : Nat → UInt64) (it tu : Nat → Int32) (ne : Nat → UInt64) (pr so lo : UInt64) (wt : Int32) (lp lz lu : Nat → UInt64) (lk : Nat → Int32) (ld lf lb lw : Nat → UInt64) (n o q : Nat) (hn : n ≤ 60) (ho : o < 5) (hq : q < n) : Met l yX1_fromBattery wsX1_fromBattery ({ frames := 2, cells := 0, slots := 0, locals := 43 } : Room) (va_Pc [.ref (a 0), .int (nI o), .int (nI q)] (XP D cI cZ cD (XW a cI cZ cD sh sw ts bi it tu ne pr so lo wt (nI n) lp lz lu lk ld lf lb lw) sz)) (vp_Sd (fun r => r = lb (5 * q + o))) 0 0 (fun _ => False) := by
  refine Met.ofW (cc := cX1_fromBattery) (maxL := 3) (ret := (some .double)) (by decide +kernel) rfl ?_
  intro p e s m args below meth c s₁ B hml hv
  obtain ⟨rfl, hsz, hP, hK, hD0⟩ := hv
  have hx := B.exec
  have hb := B.bytes
  have hr := B.returns
  have hts := atoms_spec (ws := wsX1_fromBattery) B.pre
  have hown : s.vm.findClass RX1 = some m.cls := findClass_of_methodNamed B.named
  have hlocks := B.notSynchronized
  subst hsz
  have hD := hD0.self (sz := s.heap.size)
  generalize hAe : va_A (XW a cI cZ cD sh sw ts bi it tu ne pr so lo wt (nI n) lp lz lu lk ld lf lb lw) s.heap.size = A at hD ⊢
  have hA : ∀ q : Nat, s.heap.size ≤ q → A q := fun q h => by rw [← hAe]; exact Or.inr h
  have hS : va_S A s.heap s.heap [] := va_S.rf
  have hl := lv_entry ([.ref (a 0), .int (nI o), .int (nI q)]) (n := 3) (Nat.le_of_ble_eq_true rfl)
  rw [lg_entry_eq]
  generalize (lg_sl ([.ref (a 0), .int (nI o), .int (nI q)]) ++ List.replicate (3 - (lg_sl ([.ref (a 0), .int (nI o), .int (nI q)])).length) Slot.unset).toArray = ls at hl ⊢
  have hl : lv_has ls 3 [(0, .ref (a 0)), (1, .int (nI o)), (2, .int (nI q))] := hl
  have inX1 : ∀ w ∈ wsX10, w ∈ wsX1_fromBattery := by decide +kernel
  have inX0 : ∀ w ∈ wsX00, w ∈ wsX1_fromBattery := by decide +kernel
  refine lv_aload_n hx hb dX1_fromBattery_0 rfl (lv_at hl 0 rfl) ?_
  refine va_get (D := D) (ci := 1) (v := .ref (a 8)) (C := RX1) (T := TX1) (N := 12) hx hb hts inX1 hown hK hP 0 rfl rfl 6 (by decide) (hts (.fieldLink RX1 33 "GridCommons" "ledger" "LGridCommons$Ledger;") (by decide +kernel)) (fun _ h9 => h9) rfl dX1_fromBattery_1 ?_
  refine va_get (D := D) (ci := 0) (v := .ref (a 15)) (C := RX0) (T := TX0) (N := 9) hx hb hts inX0 hown hK hP 8 rfl rfl 7 (by decide) (hts (.fieldLink RX1 137 "GridCommons$Ledger" "fromBattery" "[D") (by decide +kernel)) (fun _ h9 => h9) rfl dX1_fromBattery_4 ?_
  refine lv_aload_n hx hb dX1_fromBattery_7 rfl (lv_at hl 0 rfl) ?_
  refine lv_iload_n hx hb dX1_fromBattery_8 rfl (lv_at hl 1 rfl) ?_
  refine lv_iload_n hx hb dX1_fromBattery_9 rfl (lv_at hl 2 rfl) ?_
  refine vp_callSi (va_Run.run (va_runV (As := [.int (nI o), .int (nI q)]) (rest := [.ref (a 15)]) ⟨hx, hb, hml, hown, hts⟩ (mX1_closedSlotV l D cI cZ cD a _ sh sw ts bi it tu ne pr so lo wt lp lz lu lk ld lf lb lw n o q hn ho hq) (cwV 2 hts gX1_fromBattery_X1_closedSlot rfl rfl rfl (by decide +kernel) ⟨Nat.le_of_ble_eq_true rfl, Nat.le_of_ble_eq_true rfl⟩) ⟨xk_blind, va_recv hK hP (ci := 1) (q0 := 0) rfl rfl, xk_pre hP hK hD⟩ rfl rfl hl.1 rfl (lv_room (Nat.le_of_ble_eq_true rfl)) dX1_fromBattery_10 ⟨Nat.le_of_ble_eq_true rfl, Nat.le_of_ble_eq_true rfl⟩)) (fun r hr1 => ?_)
  subst hr1
  refine xk_dald hx hb hK hP 15 2 rfl rfl (o := (5 * q + o)) (by omega) (by decide) dX1_fromBattery_13 ?_
  exact W.dret hx hb hr (fun t ht hW => ⟨_, rfl, rfl, ht⟩) (fun q hq => absurd hq List.not_mem_nil) dX1_fromBattery_14
set_option maxHeartbeats 4000000 in
set_option maxRecDepth 100000 in
theorem mX1_fromBatteryX (l : Launch) (hst : l.stackTraces = false) (D : va_G) (cI cZ cD : ClassId) (a : Nat → Nat) (Hp : Heap) (sh sw ts : Nat → Int32) (bi : Nat → UInt64) (it tu : Nat → Int32) (ne : Nat → UInt64) (pr so lo : UInt64) (wt : Int32) (lp lz lu : Nat → UInt64) (lk : Nat → Int32) (ld lf lb lw : Nat → UInt64) (n : Nat) (x q : Int32) (hbad : ¬ (inR x 0 4 ∧ isQ n q)) : vx_Met l yX1_fromBattery wsX1_fromBattery ({ frames := 8, cells := 1, slots := 6, locals := 125 } : Room) (va_Pc [.ref (a 0), .int x, .int q] (XQ D cI cZ cD (XW a cI cZ cD sh sw ts bi it tu ne pr so lo wt (nI n) lp lz lu lk ld lf lb lw) Hp)) (va_Qd (fun _ (_ : Unit) => False) (fun _ _ => True) (fun q => Hp.size ≤ q)) (XE (fun E => (E = "java/lang/IllegalArgumentException" ∧ ¬ inR x 0 4) ∨ (E = "java/lang/IndexOutOfBoundsException" ∧ inR x 0 4 ∧ ¬ isQ n q)) Hp.size) 1 6 (fun q => Hp.size ≤ q) := by
  refine vx_ofW (cc := cX1_fromBattery) (maxL := 3) (ret := (some .double)) (by decide +kernel) rfl ?_
  intro p e s m args below meth c s₁ B hml htab hv
  obtain ⟨rfl, hsz, ⟨hP, hK, hD⟩, hE⟩ := hv
  have hx := B.exec
  have hb := B.bytes
  have hr := B.returns
  have hts := atoms_spec (ws := wsX1_fromBattery) B.pre
  have hown : s.vm.findClass RX1 = some m.cls := findClass_of_methodNamed B.named
  have hlocks := B.notSynchronized
  subst hsz
  have hA : ∀ q : Nat, s.heap.size ≤ q → (fun q => s.heap.size ≤ q) q := fun q h => h
  have hS : va_S (fun q => s.heap.size ≤ q) s.heap s.heap [] := va_S.rf
  have hl := lv_entry ([.ref (a 0), .int x, .int q]) (n := 3) (Nat.le_of_ble_eq_true rfl)
  rw [lg_entry_eq]
  generalize (lg_sl ([.ref (a 0), .int x, .int q]) ++ List.replicate (3 - (lg_sl ([.ref (a 0), .int x, .int q])).length) Slot.unset).toArray = ls at hl ⊢
  have hl : lv_has ls 3 [(0, .ref (a 0)), (1, .int x), (2, .int q)] := hl
  have inX1 : ∀ w ∈ wsX10, w ∈ wsX1_fromBattery := by decide +kernel
  have inX0 : ∀ w ∈ wsX00, w ∈ wsX1_fromBattery := by decide +kernel
  refine lv_aload_n hx hb dX1_fromBattery_0 rfl (lv_at hl 0 rfl) ?_
  refine va_get (D := D) (ci := 1) (v := .ref (a 8)) (C := RX1) (T := TX1) (N := 12) hx hb hts inX1 hown hK hP 0 rfl rfl 6 (by decide) (hts (.fieldLink RX1 33 "GridCommons" "ledger" "LGridCommons$Ledger;") (by decide +kernel)) (fun _ h9 => h9) rfl dX1_fromBattery_1 ?_
  refine va_get (D := D) (ci := 0) (v := .ref (a 15)) (C := RX0) (T := TX0) (N := 9) hx hb hts inX0 hown hK hP 8 rfl rfl 7 (by decide) (hts (.fieldLink RX1 137 "GridCommons$Ledger" "fromBattery" "[D") (by decide +kernel)) (fun _ h9 => h9) rfl dX1_fromBattery_4 ?_
  refine lv_aload_n hx hb dX1_fromBattery_7 rfl (lv_at hl 0 rfl) ?_
  refine lv_iload_n hx hb dX1_fromBattery_8 rfl (lv_at hl 1 rfl) ?_
  refine lv_iload_n hx hb dX1_fromBattery_9 rfl (lv_at hl 2 rfl) ?_
  exact vx_calli (vx_runV (As := [.int x, .int q]) (rest := [.ref (a 15)]) ⟨hx, hb, hml, hown, hts⟩ (mX1_closedSlotX l hst D cI cZ cD a s.heap sh sw ts bi it tu ne pr so lo wt lp lz lu lk ld lf lb lw n x q hbad) (cwV 2 hts gX1_fromBattery_X1_closedSlot rfl rfl rfl (by decide +kernel) ⟨Nat.le_of_ble_eq_true rfl, Nat.le_of_ble_eq_true rfl⟩) ⟨xq_blind, va_recv hK hP (ci := 1) (q0 := 0) rfl rfl, xq_pre hP hK hD hE hS hA⟩ rfl rfl hl.1 rfl (lv_room (Nat.le_of_ble_eq_true rfl)) dX1_fromBattery_10 ⟨Nat.le_of_ble_eq_true rfl, Nat.le_of_ble_eq_true rfl⟩) hS (fun q h1 h2 => absurd h2 (Nat.not_le.mpr h1)) (fun q h => hA q (Nat.le_trans hS.1 h)) (fun q h1 h2 => absurd h2 (Nat.not_le.mpr h1)) (fun E ce q9 u9 t9 H9 locs9 ht9 hvm9 hpx9 hB9 hz9 hk9 hS9 hce9 hcv9 hcl9 => vx_out (fun x h => (htab x h).elim) hlocks hce9 hcv9 hcl9 (fun t8 ht8 hvm8 => ⟨(), trivial, hB9, by rw [ht8]; exact hz9, fun q h1 h2 => by rw [ht8]; exact hk9 q h1 h2⟩) hS9.2.2 (Nat.le_refl _) (Nat.le_refl _)) (fun r u t H1 locs1 ht hvm hw hB hz1 hk1 hS1 => hw.elim)
set_option maxHeartbeats 4000000 in
set_option maxRecDepth 100000 in
theorem mX1_boughtV (l : Launch) (D : va_G) (cI cZ cD : ClassId) (a : Nat → Nat) (sz : Nat) (sh sw ts : Nat → Int32) (bi : Nat → UInt64) (it tu : Nat → Int32) (ne : Nat → UInt64) (pr so lo : UInt64) (wt : Int32) (lp lz lu : Nat → UInt64) (lk : Nat → Int32) (ld lf lb lw : Nat → UInt64) (n o q : Nat) (hn : n ≤ 60) (ho : o < 5) (hq : q < n) : Met l yX1_bought wsX1_bought ({ frames := 2, cells := 0, slots := 0, locals := 43 } : Room) (va_Pc [.ref (a 0), .int (nI o), .int (nI q)] (XP D cI cZ cD (XW a cI cZ cD sh sw ts bi it tu ne pr so lo wt (nI n) lp lz lu lk ld lf lb lw) sz)) (vp_Sd (fun r => r = lw (5 * q + o))) 0 0 (fun _ => False) := by
  refine Met.ofW (cc := cX1_bought) (maxL := 3) (ret := (some .double)) (by decide +kernel) rfl ?_
  intro p e s m args below meth c s₁ B hml hv
  obtain ⟨rfl, hsz, hP, hK, hD0⟩ := hv
  have hx := B.exec
  have hb := B.bytes
  have hr := B.returns
  have hts := atoms_spec (ws := wsX1_bought) B.pre
  have hown : s.vm.findClass RX1 = some m.cls := findClass_of_methodNamed B.named
  have hlocks := B.notSynchronized
  subst hsz
  have hD := hD0.self (sz := s.heap.size)
  generalize hAe : va_A (XW a cI cZ cD sh sw ts bi it tu ne pr so lo wt (nI n) lp lz lu lk ld lf lb lw) s.heap.size = A at hD ⊢
  have hA : ∀ q : Nat, s.heap.size ≤ q → A q := fun q h => by rw [← hAe]; exact Or.inr h
  have hS : va_S A s.heap s.heap [] := va_S.rf
  have hl := lv_entry ([.ref (a 0), .int (nI o), .int (nI q)]) (n := 3) (Nat.le_of_ble_eq_true rfl)
  rw [lg_entry_eq]
  generalize (lg_sl ([.ref (a 0), .int (nI o), .int (nI q)]) ++ List.replicate (3 - (lg_sl ([.ref (a 0), .int (nI o), .int (nI q)])).length) Slot.unset).toArray = ls at hl ⊢
  have hl : lv_has ls 3 [(0, .ref (a 0)), (1, .int (nI o)), (2, .int (nI q))] := hl
  have inX1 : ∀ w ∈ wsX10, w ∈ wsX1_bought := by decide +kernel
  have inX0 : ∀ w ∈ wsX00, w ∈ wsX1_bought := by decide +kernel
  refine lv_aload_n hx hb dX1_bought_0 rfl (lv_at hl 0 rfl) ?_
  refine va_get (D := D) (ci := 1) (v := .ref (a 8)) (C := RX1) (T := TX1) (N := 12) hx hb hts inX1 hown hK hP 0 rfl rfl 6 (by decide) (hts (.fieldLink RX1 33 "GridCommons" "ledger" "LGridCommons$Ledger;") (by decide +kernel)) (fun _ h9 => h9) rfl dX1_bought_1 ?_
  refine va_get (D := D) (ci := 0) (v := .ref (a 16)) (C := RX0) (T := TX0) (N := 9) hx hb hts inX0 hown hK hP 8 rfl rfl 8 (by decide) (hts (.fieldLink RX1 140 "GridCommons$Ledger" "bought" "[D") (by decide +kernel)) (fun _ h9 => h9) rfl dX1_bought_4 ?_
  refine lv_aload_n hx hb dX1_bought_7 rfl (lv_at hl 0 rfl) ?_
  refine lv_iload_n hx hb dX1_bought_8 rfl (lv_at hl 1 rfl) ?_
  refine lv_iload_n hx hb dX1_bought_9 rfl (lv_at hl 2 rfl) ?_
  refine vp_callSi (va_Run.run (va_runV (As := [.int (nI o), .int (nI q)]) (rest := [.ref (a 16)]) ⟨hx, hb, hml, hown, hts⟩ (mX1_closedSlotV l D cI cZ cD a _ sh sw ts bi it tu ne pr so lo wt lp lz lu lk ld lf lb lw n o q hn ho hq) (cwV 2 hts gX1_bought_X1_closedSlot rfl rfl rfl (by decide +kernel) ⟨Nat.le_of_ble_eq_true rfl, Nat.le_of_ble_eq_true rfl⟩) ⟨xk_blind, va_recv hK hP (ci := 1) (q0 := 0) rfl rfl, xk_pre hP hK hD⟩ rfl rfl hl.1 rfl (lv_room (Nat.le_of_ble_eq_true rfl)) dX1_bought_10 ⟨Nat.le_of_ble_eq_true rfl, Nat.le_of_ble_eq_true rfl⟩)) (fun r hr1 => ?_)
  subst hr1
  refine xk_dald hx hb hK hP 16 2 rfl rfl (o := (5 * q + o)) (by omega) (by decide) dX1_bought_13 ?_
  exact W.dret hx hb hr (fun t ht hW => ⟨_, rfl, rfl, ht⟩) (fun q hq => absurd hq List.not_mem_nil) dX1_bought_14
set_option maxHeartbeats 4000000 in
set_option maxRecDepth 100000 in
theorem mX1_boughtX (l : Launch) (hst : l.stackTraces = false) (D : va_G) (cI cZ cD : ClassId) (a : Nat → Nat) (Hp : Heap) (sh sw ts : Nat → Int32) (bi : Nat → UInt64) (it tu : Nat → Int32) (ne : Nat → UInt64) (pr so lo : UInt64) (wt : Int32) (lp lz lu : Nat → UInt64) (lk : Nat → Int32) (ld lf lb lw : Nat → UInt64) (n : Nat) (x q : Int32) (hbad : ¬ (inR x 0 4 ∧ isQ n q)) : vx_Met l yX1_bought wsX1_bought ({ frames := 8, cells := 1, slots := 6, locals := 125 } : Room) (va_Pc [.ref (a 0), .int x, .int q] (XQ D cI cZ cD (XW a cI cZ cD sh sw ts bi it tu ne pr so lo wt (nI n) lp lz lu lk ld lf lb lw) Hp)) (va_Qd (fun _ (_ : Unit) => False) (fun _ _ => True) (fun q => Hp.size ≤ q)) (XE (fun E => (E = "java/lang/IllegalArgumentException" ∧ ¬ inR x 0 4) ∨ (E = "java/lang/IndexOutOfBoundsException" ∧ inR x 0 4 ∧ ¬ isQ n q)) Hp.size) 1 6 (fun q => Hp.size ≤ q) := by
  refine vx_ofW (cc := cX1_bought) (maxL := 3) (ret := (some .double)) (by decide +kernel) rfl ?_
  intro p e s m args below meth c s₁ B hml htab hv
  obtain ⟨rfl, hsz, ⟨hP, hK, hD⟩, hE⟩ := hv
  have hx := B.exec
  have hb := B.bytes
  have hr := B.returns
  have hts := atoms_spec (ws := wsX1_bought) B.pre
  have hown : s.vm.findClass RX1 = some m.cls := findClass_of_methodNamed B.named
  have hlocks := B.notSynchronized
  subst hsz
  have hA : ∀ q : Nat, s.heap.size ≤ q → (fun q => s.heap.size ≤ q) q := fun q h => h
  have hS : va_S (fun q => s.heap.size ≤ q) s.heap s.heap [] := va_S.rf
  have hl := lv_entry ([.ref (a 0), .int x, .int q]) (n := 3) (Nat.le_of_ble_eq_true rfl)
  rw [lg_entry_eq]
  generalize (lg_sl ([.ref (a 0), .int x, .int q]) ++ List.replicate (3 - (lg_sl ([.ref (a 0), .int x, .int q])).length) Slot.unset).toArray = ls at hl ⊢
  have hl : lv_has ls 3 [(0, .ref (a 0)), (1, .int x), (2, .int q)] := hl
  have inX1 : ∀ w ∈ wsX10, w ∈ wsX1_bought := by decide +kernel
  have inX0 : ∀ w ∈ wsX00, w ∈ wsX1_bought := by decide +kernel
  refine lv_aload_n hx hb dX1_bought_0 rfl (lv_at hl 0 rfl) ?_
  refine va_get (D := D) (ci := 1) (v := .ref (a 8)) (C := RX1) (T := TX1) (N := 12) hx hb hts inX1 hown hK hP 0 rfl rfl 6 (by decide) (hts (.fieldLink RX1 33 "GridCommons" "ledger" "LGridCommons$Ledger;") (by decide +kernel)) (fun _ h9 => h9) rfl dX1_bought_1 ?_
  refine va_get (D := D) (ci := 0) (v := .ref (a 16)) (C := RX0) (T := TX0) (N := 9) hx hb hts inX0 hown hK hP 8 rfl rfl 8 (by decide) (hts (.fieldLink RX1 140 "GridCommons$Ledger" "bought" "[D") (by decide +kernel)) (fun _ h9 => h9) rfl dX1_bought_4 ?_
  refine lv_aload_n hx hb dX1_bought_7 rfl (lv_at hl 0 rfl) ?_
  refine lv_iload_n hx hb dX1_bought_8 rfl (lv_at hl 1 rfl) ?_
  refine lv_iload_n hx hb dX1_bought_9 rfl (lv_at hl 2 rfl) ?_
  exact vx_calli (vx_runV (As := [.int x, .int q]) (rest := [.ref (a 16)]) ⟨hx, hb, hml, hown, hts⟩ (mX1_closedSlotX l hst D cI cZ cD a s.heap sh sw ts bi it tu ne pr so lo wt lp lz lu lk ld lf lb lw n x q hbad) (cwV 2 hts gX1_bought_X1_closedSlot rfl rfl rfl (by decide +kernel) ⟨Nat.le_of_ble_eq_true rfl, Nat.le_of_ble_eq_true rfl⟩) ⟨xq_blind, va_recv hK hP (ci := 1) (q0 := 0) rfl rfl, xq_pre hP hK hD hE hS hA⟩ rfl rfl hl.1 rfl (lv_room (Nat.le_of_ble_eq_true rfl)) dX1_bought_10 ⟨Nat.le_of_ble_eq_true rfl, Nat.le_of_ble_eq_true rfl⟩) hS (fun q h1 h2 => absurd h2 (Nat.not_le.mpr h1)) (fun q h => hA q (Nat.le_trans hS.1 h)) (fun q h1 h2 => absurd h2 (Nat.not_le.mpr h1)) (fun E ce q9 u9 t9 H9 locs9 ht9 hvm9 hpx9 hB9 hz9 hk9 hS9 hce9 hcv9 hcl9 => vx_out (fun x h => (htab x h).elim) hlocks hce9 hcv9 hcl9 (fun t8 ht8 hvm8 => ⟨(), trivial, hB9, by rw [ht8]; exact hz9, fun q h1 h2 => by rw [ht8]; exact hk9 q h1 h2⟩) hS9.2.2 (Nat.le_refl _) (Nat.le_refl _)) (fun r u t H1 locs1 ht hvm hw hB hz1 hk1 hS1 => hw.elim)
set_option maxHeartbeats 4000000 in
set_option maxRecDepth 100000 in
theorem mX1_soldV (l : Launch) (D : va_G) (cI cZ cD : ClassId) (a : Nat → Nat) (sz : Nat) (sh sw ts : Nat → Int32) (bi : Nat → UInt64) (it tu : Nat → Int32) (ne : Nat → UInt64) (pr so lo : UInt64) (wt : Int32) (lp lz lu : Nat → UInt64) (lk : Nat → Int32) (ld lf lb lw : Nat → UInt64) (n q : Nat) (hn : n ≤ 60) (hq : q < n) : Met l yX1_sold wsX1_sold ({ frames := 1, cells := 0, slots := 0, locals := 21 } : Room) (va_Pc [.ref (a 0), .int (nI q)] (XP D cI cZ cD (XW a cI cZ cD sh sw ts bi it tu ne pr so lo wt (nI n) lp lz lu lk ld lf lb lw) sz)) (vp_Sd (fun r => r = lz q)) 0 0 (fun _ => False) := by
  refine Met.ofW (cc := cX1_sold) (maxL := 2) (ret := (some .double)) (by decide +kernel) rfl ?_
  intro p e s m args below meth c s₁ B hml hv
  obtain ⟨rfl, hsz, hP, hK, hD0⟩ := hv
  have hx := B.exec
  have hb := B.bytes
  have hr := B.returns
  have hts := atoms_spec (ws := wsX1_sold) B.pre
  have hown : s.vm.findClass RX1 = some m.cls := findClass_of_methodNamed B.named
  have hlocks := B.notSynchronized
  subst hsz
  have hD := hD0.self (sz := s.heap.size)
  generalize hAe : va_A (XW a cI cZ cD sh sw ts bi it tu ne pr so lo wt (nI n) lp lz lu lk ld lf lb lw) s.heap.size = A at hD ⊢
  have hA : ∀ q : Nat, s.heap.size ≤ q → A q := fun q h => by rw [← hAe]; exact Or.inr h
  have hS : va_S A s.heap s.heap [] := va_S.rf
  have hl := lv_entry ([.ref (a 0), .int (nI q)]) (n := 2) (Nat.le_of_ble_eq_true rfl)
  rw [lg_entry_eq]
  generalize (lg_sl ([.ref (a 0), .int (nI q)]) ++ List.replicate (2 - (lg_sl ([.ref (a 0), .int (nI q)])).length) Slot.unset).toArray = ls at hl ⊢
  have hl : lv_has ls 2 [(0, .ref (a 0)), (1, .int (nI q))] := hl
  have inX1 : ∀ w ∈ wsX10, w ∈ wsX1_sold := by decide +kernel
  have inX0 : ∀ w ∈ wsX00, w ∈ wsX1_sold := by decide +kernel
  refine lv_aload_n hx hb dX1_sold_0 rfl (lv_at hl 0 rfl) ?_
  refine lv_iload_n hx hb dX1_sold_1 rfl (lv_at hl 1 rfl) ?_
  refine va_csv (va_Run.run (va_runV (As := [.int (nI q)]) (rest := []) ⟨hx, hb, hml, hown, hts⟩ (mX1_requireQuarterV l D cI cZ cD a _ sh sw ts bi it tu ne pr so lo wt lp lz lu lk ld lf lb lw n (nI q) ⟨nI_pos' (by omega), nI_lt hq (by omega)⟩) (cwV 1 hts gX1_sold_X1_requireQuarter rfl rfl rfl (by decide +kernel) ⟨Nat.le_of_ble_eq_true rfl, Nat.le_of_ble_eq_true rfl⟩) ⟨xk_blind, va_recv hK hP (ci := 1) (q0 := 0) rfl rfl, xk_pre hP hK hD⟩ rfl rfl hl.1 rfl (lv_room (Nat.le_of_ble_eq_true rfl)) dX1_sold_2 ⟨Nat.le_of_ble_eq_true rfl, Nat.le_of_ble_eq_true rfl⟩)) (fun _ => ?_)
  refine lv_aload_n hx hb dX1_sold_5 rfl (lv_at hl 0 rfl) ?_
  refine va_get (D := D) (ci := 1) (v := .ref (a 8)) (C := RX1) (T := TX1) (N := 12) hx hb hts inX1 hown hK hP 0 rfl rfl 6 (by decide) (hts (.fieldLink RX1 33 "GridCommons" "ledger" "LGridCommons$Ledger;") (by decide +kernel)) (fun _ h9 => h9) rfl dX1_sold_6 ?_
  refine va_get (D := D) (ci := 0) (v := .ref (a 10)) (C := RX0) (T := TX0) (N := 9) hx hb hts inX0 hown hK hP 8 rfl rfl 2 (by decide) (hts (.fieldLink RX1 143 "GridCommons$Ledger" "sold" "[D") (by decide +kernel)) (fun _ h9 => h9) rfl dX1_sold_9 ?_
  refine lv_iload_n hx hb dX1_sold_12 rfl (lv_at hl 1 rfl) ?_
  refine xk_dald hx hb hK hP 10 2 rfl rfl (o := q) (by omega) (by decide) dX1_sold_13 ?_
  exact W.dret hx hb hr (fun t ht hW => ⟨_, rfl, rfl, ht⟩) (fun q hq => absurd hq List.not_mem_nil) dX1_sold_14
set_option maxHeartbeats 4000000 in
set_option maxRecDepth 100000 in
theorem mX1_soldX (l : Launch) (hst : l.stackTraces = false) (D : va_G) (cI cZ cD : ClassId) (a : Nat → Nat) (Hp : Heap) (sh sw ts : Nat → Int32) (bi : Nat → UInt64) (it tu : Nat → Int32) (ne : Nat → UInt64) (pr so lo : UInt64) (wt : Int32) (lp lz lu : Nat → UInt64) (lk : Nat → Int32) (ld lf lb lw : Nat → UInt64) (n : Nat) (q : Int32) (hbad : ¬ isQ n q) : vx_Met l yX1_sold wsX1_sold ({ frames := 7, cells := 1, slots := 6, locals := 103 } : Room) (va_Pc [.ref (a 0), .int q] (XQ D cI cZ cD (XW a cI cZ cD sh sw ts bi it tu ne pr so lo wt (nI n) lp lz lu lk ld lf lb lw) Hp)) (va_Qd (fun _ (_ : Unit) => False) (fun _ _ => True) (fun q => Hp.size ≤ q)) (XE (fun E => E = "java/lang/IndexOutOfBoundsException") Hp.size) 1 6 (fun q => Hp.size ≤ q) := by
  refine vx_ofW (cc := cX1_sold) (maxL := 2) (ret := (some .double)) (by decide +kernel) rfl ?_
  intro p e s m args below meth c s₁ B hml htab hv
  obtain ⟨rfl, hsz, ⟨hP, hK, hD⟩, hE⟩ := hv
  have hx := B.exec
  have hb := B.bytes
  have hr := B.returns
  have hts := atoms_spec (ws := wsX1_sold) B.pre
  have hown : s.vm.findClass RX1 = some m.cls := findClass_of_methodNamed B.named
  have hlocks := B.notSynchronized
  subst hsz
  have hA : ∀ q : Nat, s.heap.size ≤ q → (fun q => s.heap.size ≤ q) q := fun q h => h
  have hS : va_S (fun q => s.heap.size ≤ q) s.heap s.heap [] := va_S.rf
  have hl := lv_entry ([.ref (a 0), .int q]) (n := 2) (Nat.le_of_ble_eq_true rfl)
  rw [lg_entry_eq]
  generalize (lg_sl ([.ref (a 0), .int q]) ++ List.replicate (2 - (lg_sl ([.ref (a 0), .int q])).length) Slot.unset).toArray = ls at hl ⊢
  have hl : lv_has ls 2 [(0, .ref (a 0)), (1, .int q)] := hl
  refine lv_aload_n hx hb dX1_sold_0 rfl (lv_at hl 0 rfl) ?_
  refine lv_iload_n hx hb dX1_sold_1 rfl (lv_at hl 1 rfl) ?_
  exact vx_callv (vx_runV (As := [.int q]) (rest := []) ⟨hx, hb, hml, hown, hts⟩ (mX1_requireQuarterX l hst D cI cZ cD a s.heap sh sw ts bi it tu ne pr so lo wt lp lz lu lk ld lf lb lw n q hbad) (cwV 1 hts gX1_sold_X1_requireQuarter rfl rfl rfl (by decide +kernel) ⟨Nat.le_of_ble_eq_true rfl, Nat.le_of_ble_eq_true rfl⟩) ⟨xq_blind, va_recv hK hP (ci := 1) (q0 := 0) rfl rfl, xq_pre hP hK hD hE hS hA⟩ rfl rfl hl.1 rfl (lv_room (Nat.le_of_ble_eq_true rfl)) dX1_sold_2 ⟨Nat.le_of_ble_eq_true rfl, Nat.le_of_ble_eq_true rfl⟩) hS (fun q h1 h2 => absurd h2 (Nat.not_le.mpr h1)) (fun q h => hA q (Nat.le_trans hS.1 h)) (fun q h1 h2 => absurd h2 (Nat.not_le.mpr h1)) (fun E ce q9 u9 t9 H9 locs9 ht9 hvm9 hpx9 hB9 hz9 hk9 hS9 hce9 hcv9 hcl9 => vx_out (fun x h => (htab x h).elim) hlocks hce9 hcv9 hcl9 (fun t8 ht8 hvm8 => ⟨(), trivial, hB9, by rw [ht8]; exact hz9, fun q h1 h2 => by rw [ht8]; exact hk9 q h1 h2⟩) hS9.2.2 (Nat.le_refl _) (Nat.le_refl _)) (fun u t H1 locs1 ht hvm hw hB hz1 hk1 hS1 => hw.elim)
set_option maxHeartbeats 4000000 in
set_option maxRecDepth 100000 in
theorem mX1_shedsV (l : Launch) (D : va_G) (cI cZ cD : ClassId) (a : Nat → Nat) (sz : Nat) (sh sw ts : Nat → Int32) (bi : Nat → UInt64) (it tu : Nat → Int32) (ne : Nat → UInt64) (pr so lo : UInt64) (wt cn : Int32) (lp lz lu : Nat → UInt64) (lk : Nat → Int32) (ld lf lb lw : Nat → UInt64) (o : Nat) (ho : o < 5) : Met l yX1_sheds wsX1_sheds ({ frames := 1, cells := 0, slots := 0, locals := 20 } : Room) (va_Pc [.ref (a 0), .int (nI o)] (XP D cI cZ cD (XW a cI cZ cD sh sw ts bi it tu ne pr so lo wt cn lp lz lu lk ld lf lb lw) sz)) (vp_Si (fun r => r = ts o)) 0 0 (fun _ => False) := by
  refine Met.ofW (cc := cX1_sheds) (maxL := 2) (ret := (some .int)) (by decide +kernel) rfl ?_
  intro p e s m args below meth c s₁ B hml hv
  obtain ⟨rfl, hsz, hP, hK, hD0⟩ := hv
  have hx := B.exec
  have hb := B.bytes
  have hr := B.returns
  have hts := atoms_spec (ws := wsX1_sheds) B.pre
  have hown : s.vm.findClass RX1 = some m.cls := findClass_of_methodNamed B.named
  have hlocks := B.notSynchronized
  subst hsz
  have hD := hD0.self (sz := s.heap.size)
  generalize hAe : va_A (XW a cI cZ cD sh sw ts bi it tu ne pr so lo wt cn lp lz lu lk ld lf lb lw) s.heap.size = A at hD ⊢
  have hA : ∀ q : Nat, s.heap.size ≤ q → A q := fun q h => by rw [← hAe]; exact Or.inr h
  have hS : va_S A s.heap s.heap [] := va_S.rf
  have hl := lv_entry ([.ref (a 0), .int (nI o)]) (n := 2) (Nat.le_of_ble_eq_true rfl)
  rw [lg_entry_eq]
  generalize (lg_sl ([.ref (a 0), .int (nI o)]) ++ List.replicate (2 - (lg_sl ([.ref (a 0), .int (nI o)])).length) Slot.unset).toArray = ls at hl ⊢
  have hl : lv_has ls 2 [(0, .ref (a 0)), (1, .int (nI o))] := hl
  have inX1 : ∀ w ∈ wsX10, w ∈ wsX1_sheds := by decide +kernel
  refine lv_iload_n hx hb dX1_sheds_0 rfl (lv_at hl 1 rfl) ?_
  refine va_csv (va_Run.run (va_runS (As := [.int (nI o)]) (rest := []) ⟨hx, hb, hml, hown, hts⟩ (mX1_requireOwnerV l (nI o) (nI_inR (n := 4) (by omega) (by decide))) (va_cwS 1 hts gX1_sheds_X1_requireOwner rfl rfl rfl (by decide +kernel) ⟨Nat.le_of_ble_eq_true rfl, Nat.le_of_ble_eq_true rfl⟩) ⟨fun a U g mk q => q, fun U hU hW => ⟨rfl, trivial⟩⟩ rfl rfl hl.1 rfl (lv_room (Nat.le_of_ble_eq_true rfl)) dX1_sheds_1 ⟨Nat.le_of_ble_eq_true rfl, Nat.le_of_ble_eq_true rfl⟩)) (fun _ => ?_)
  refine lv_aload_n hx hb dX1_sheds_4 rfl (lv_at hl 0 rfl) ?_
  refine va_get (D := D) (ci := 1) (v := .ref (a 3)) (C := RX1) (T := TX1) (N := 12) hx hb hts inX1 hown hK hP 0 rfl rfl 2 (by decide) (hts (.fieldLink RX1 17 "GridCommons" "timesShed" "[I") (by decide +kernel)) (fun _ h9 => h9) rfl dX1_sheds_5 ?_
  refine lv_iload_n hx hb dX1_sheds_8 rfl (lv_at hl 1 rfl) ?_
  refine xk_iald hx hb hK hP 3 0 rfl rfl (o := o) (by omega) (by decide) dX1_sheds_9 ?_
  exact W.iret hx hb hr (fun t ht hW => ⟨_, rfl, rfl, ht⟩) (fun q hq => absurd hq List.not_mem_nil) dX1_sheds_10
set_option maxHeartbeats 4000000 in
set_option maxRecDepth 100000 in
theorem mX1_shedsX (l : Launch) (hst : l.stackTraces = false) (D : va_G) (cI cZ cD : ClassId) (a : Nat → Nat) (Hp : Heap) (sh sw ts : Nat → Int32) (bi : Nat → UInt64) (it tu : Nat → Int32) (ne : Nat → UInt64) (pr so lo : UInt64) (wt cn : Int32) (lp lz lu : Nat → UInt64) (lk : Nat → Int32) (ld lf lb lw : Nat → UInt64) (x : Int32) (hbad : ¬ inR x 0 4) : vx_Met l yX1_sheds wsX1_sheds ({ frames := 7, cells := 1, slots := 6, locals := 102 } : Room) (va_Pc [.ref (a 0), .int x] (XQ D cI cZ cD (XW a cI cZ cD sh sw ts bi it tu ne pr so lo wt cn lp lz lu lk ld lf lb lw) Hp)) (va_Qi (fun _ (_ : Unit) => False) (fun _ _ => True) (fun q => Hp.size ≤ q)) (XE (fun E => E = "java/lang/IllegalArgumentException") Hp.size) 1 6 (fun q => Hp.size ≤ q) := by
  refine vx_ofW (cc := cX1_sheds) (maxL := 2) (ret := (some .int)) (by decide +kernel) rfl ?_
  intro p e s m args below meth c s₁ B hml htab hv
  obtain ⟨rfl, hsz, ⟨hP, hK, hD⟩, hE⟩ := hv
  have hx := B.exec
  have hb := B.bytes
  have hr := B.returns
  have hts := atoms_spec (ws := wsX1_sheds) B.pre
  have hown : s.vm.findClass RX1 = some m.cls := findClass_of_methodNamed B.named
  have hlocks := B.notSynchronized
  subst hsz
  have hA : ∀ q : Nat, s.heap.size ≤ q → (fun q => s.heap.size ≤ q) q := fun q h => h
  have hS : va_S (fun q => s.heap.size ≤ q) s.heap s.heap [] := va_S.rf
  have hl := lv_entry ([.ref (a 0), .int x]) (n := 2) (Nat.le_of_ble_eq_true rfl)
  rw [lg_entry_eq]
  generalize (lg_sl ([.ref (a 0), .int x]) ++ List.replicate (2 - (lg_sl ([.ref (a 0), .int x])).length) Slot.unset).toArray = ls at hl ⊢
  have hl : lv_has ls 2 [(0, .ref (a 0)), (1, .int x)] := hl
  refine lv_iload_n hx hb dX1_sheds_0 rfl (lv_at hl 1 rfl) ?_
  exact vx_callv (vx_runS (As := [.int x]) (rest := []) ⟨hx, hb, hml, hown, hts⟩ (mX1_requireOwner l hst s.heap x) (va_cwS 1 hts gX1_sheds_X1_requireOwner rfl rfl rfl (by decide +kernel) ⟨Nat.le_of_ble_eq_true rfl, Nat.le_of_ble_eq_true rfl⟩) ⟨xh_blind, xh_pre hE hS hA⟩ rfl rfl hl.1 rfl (lv_room (Nat.le_of_ble_eq_true rfl)) dX1_sheds_1 ⟨Nat.le_of_ble_eq_true rfl, Nat.le_of_ble_eq_true rfl⟩) hS (fun q h1 h2 => absurd h2 (Nat.not_le.mpr h1)) (fun q h => hA q (Nat.le_trans hS.1 h)) (fun q h1 h2 => absurd h2 (Nat.not_le.mpr h1)) (fun E ce q9 u9 t9 H9 locs9 ht9 hvm9 hpx9 hB9 hz9 hk9 hS9 hce9 hcv9 hcl9 => vx_out (fun x h => (htab x h).elim) hlocks hce9 hcv9 hcl9 (fun t8 ht8 hvm8 => ⟨(), trivial, hB9.1, by rw [ht8]; exact hz9, fun q h1 h2 => by rw [ht8]; exact hk9 q h1 h2⟩) hS9.2.2 (Nat.le_refl _) (Nat.le_refl _)) (fun u t H1 locs1 ht hvm hw hB hz1 hk1 hS1 => absurd hw hbad)
set_option maxHeartbeats 4000000 in
set_option maxRecDepth 100000 in
theorem mX1_billV (l : Launch) (D : va_G) (cI cZ cD : ClassId) (a : Nat → Nat) (sz : Nat) (sh sw ts : Nat → Int32) (bi : Nat → UInt64) (it tu : Nat → Int32) (ne : Nat → UInt64) (pr so lo : UInt64) (wt cn : Int32) (lp lz lu : Nat → UInt64) (lk : Nat → Int32) (ld lf lb lw : Nat → UInt64) (o : Nat) (ho : o < 5) : Met l yX1_bill wsX1_bill ({ frames := 1, cells := 0, slots := 0, locals := 20 } : Room) (va_Pc [.ref (a 0), .int (nI o)] (XP D cI cZ cD (XW a cI cZ cD sh sw ts bi it tu ne pr so lo wt cn lp lz lu lk ld lf lb lw) sz)) (vp_Sd (fun r => r = bi o)) 0 0 (fun _ => False) := by
  refine Met.ofW (cc := cX1_bill) (maxL := 2) (ret := (some .double)) (by decide +kernel) rfl ?_
  intro p e s m args below meth c s₁ B hml hv
  obtain ⟨rfl, hsz, hP, hK, hD0⟩ := hv
  have hx := B.exec
  have hb := B.bytes
  have hr := B.returns
  have hts := atoms_spec (ws := wsX1_bill) B.pre
  have hown : s.vm.findClass RX1 = some m.cls := findClass_of_methodNamed B.named
  have hlocks := B.notSynchronized
  subst hsz
  have hD := hD0.self (sz := s.heap.size)
  generalize hAe : va_A (XW a cI cZ cD sh sw ts bi it tu ne pr so lo wt cn lp lz lu lk ld lf lb lw) s.heap.size = A at hD ⊢
  have hA : ∀ q : Nat, s.heap.size ≤ q → A q := fun q h => by rw [← hAe]; exact Or.inr h
  have hS : va_S A s.heap s.heap [] := va_S.rf
  have hl := lv_entry ([.ref (a 0), .int (nI o)]) (n := 2) (Nat.le_of_ble_eq_true rfl)
  rw [lg_entry_eq]
  generalize (lg_sl ([.ref (a 0), .int (nI o)]) ++ List.replicate (2 - (lg_sl ([.ref (a 0), .int (nI o)])).length) Slot.unset).toArray = ls at hl ⊢
  have hl : lv_has ls 2 [(0, .ref (a 0)), (1, .int (nI o))] := hl
  have inX1 : ∀ w ∈ wsX10, w ∈ wsX1_bill := by decide +kernel
  refine lv_iload_n hx hb dX1_bill_0 rfl (lv_at hl 1 rfl) ?_
  refine va_csv (va_Run.run (va_runS (As := [.int (nI o)]) (rest := []) ⟨hx, hb, hml, hown, hts⟩ (mX1_requireOwnerV l (nI o) (nI_inR (n := 4) (by omega) (by decide))) (va_cwS 1 hts gX1_bill_X1_requireOwner rfl rfl rfl (by decide +kernel) ⟨Nat.le_of_ble_eq_true rfl, Nat.le_of_ble_eq_true rfl⟩) ⟨fun a U g mk q => q, fun U hU hW => ⟨rfl, trivial⟩⟩ rfl rfl hl.1 rfl (lv_room (Nat.le_of_ble_eq_true rfl)) dX1_bill_1 ⟨Nat.le_of_ble_eq_true rfl, Nat.le_of_ble_eq_true rfl⟩)) (fun _ => ?_)
  refine lv_aload_n hx hb dX1_bill_4 rfl (lv_at hl 0 rfl) ?_
  refine va_get (D := D) (ci := 1) (v := .ref (a 4)) (C := RX1) (T := TX1) (N := 12) hx hb hts inX1 hown hK hP 0 rfl rfl 3 (by decide) (hts (.fieldLink RX1 20 "GridCommons" "bills" "[D") (by decide +kernel)) (fun _ h9 => h9) rfl dX1_bill_5 ?_
  refine lv_iload_n hx hb dX1_bill_8 rfl (lv_at hl 1 rfl) ?_
  refine xk_dald hx hb hK hP 4 2 rfl rfl (o := o) (by omega) (by decide) dX1_bill_9 ?_
  exact W.dret hx hb hr (fun t ht hW => ⟨_, rfl, rfl, ht⟩) (fun q hq => absurd hq List.not_mem_nil) dX1_bill_10
set_option maxHeartbeats 4000000 in
set_option maxRecDepth 100000 in
theorem mX1_billX (l : Launch) (hst : l.stackTraces = false) (D : va_G) (cI cZ cD : ClassId) (a : Nat → Nat) (Hp : Heap) (sh sw ts : Nat → Int32) (bi : Nat → UInt64) (it tu : Nat → Int32) (ne : Nat → UInt64) (pr so lo : UInt64) (wt cn : Int32) (lp lz lu : Nat → UInt64) (lk : Nat → Int32) (ld lf lb lw : Nat → UInt64) (x : Int32) (hbad : ¬ inR x 0 4) : vx_Met l yX1_bill wsX1_bill ({ frames := 7, cells := 1, slots := 6, locals := 102 } : Room) (va_Pc [.ref (a 0), .int x] (XQ D cI cZ cD (XW a cI cZ cD sh sw ts bi it tu ne pr so lo wt cn lp lz lu lk ld lf lb lw) Hp)) (va_Qd (fun _ (_ : Unit) => False) (fun _ _ => True) (fun q => Hp.size ≤ q)) (XE (fun E => E = "java/lang/IllegalArgumentException") Hp.size) 1 6 (fun q => Hp.size ≤ q) := by
  refine vx_ofW (cc := cX1_bill) (maxL := 2) (ret := (some .double)) (by decide +kernel) rfl ?_
  intro p e s m args below meth c s₁ B hml htab hv
  obtain ⟨rfl, hsz, ⟨hP, hK, hD⟩, hE⟩ := hv
  have hx := B.exec
  have hb := B.bytes
  have hr := B.returns
  have hts := atoms_spec (ws := wsX1_bill) B.pre
  have hown : s.vm.findClass RX1 = some m.cls := findClass_of_methodNamed B.named
  have hlocks := B.notSynchronized
  subst hsz
  have hA : ∀ q : Nat, s.heap.size ≤ q → (fun q => s.heap.size ≤ q) q := fun q h => h
  have hS : va_S (fun q => s.heap.size ≤ q) s.heap s.heap [] := va_S.rf
  have hl := lv_entry ([.ref (a 0), .int x]) (n := 2) (Nat.le_of_ble_eq_true rfl)
  rw [lg_entry_eq]
  generalize (lg_sl ([.ref (a 0), .int x]) ++ List.replicate (2 - (lg_sl ([.ref (a 0), .int x])).length) Slot.unset).toArray = ls at hl ⊢
  have hl : lv_has ls 2 [(0, .ref (a 0)), (1, .int x)] := hl
  refine lv_iload_n hx hb dX1_bill_0 rfl (lv_at hl 1 rfl) ?_
  exact vx_callv (vx_runS (As := [.int x]) (rest := []) ⟨hx, hb, hml, hown, hts⟩ (mX1_requireOwner l hst s.heap x) (va_cwS 1 hts gX1_bill_X1_requireOwner rfl rfl rfl (by decide +kernel) ⟨Nat.le_of_ble_eq_true rfl, Nat.le_of_ble_eq_true rfl⟩) ⟨xh_blind, xh_pre hE hS hA⟩ rfl rfl hl.1 rfl (lv_room (Nat.le_of_ble_eq_true rfl)) dX1_bill_1 ⟨Nat.le_of_ble_eq_true rfl, Nat.le_of_ble_eq_true rfl⟩) hS (fun q h1 h2 => absurd h2 (Nat.not_le.mpr h1)) (fun q h => hA q (Nat.le_trans hS.1 h)) (fun q h1 h2 => absurd h2 (Nat.not_le.mpr h1)) (fun E ce q9 u9 t9 H9 locs9 ht9 hvm9 hpx9 hB9 hz9 hk9 hS9 hce9 hcv9 hcl9 => vx_out (fun x h => (htab x h).elim) hlocks hce9 hcv9 hcl9 (fun t8 ht8 hvm8 => ⟨(), trivial, hB9.1, by rw [ht8]; exact hz9, fun q h1 h2 => by rw [ht8]; exact hk9 q h1 h2⟩) hS9.2.2 (Nat.le_refl _) (Nat.le_refl _)) (fun u t H1 locs1 ht hvm hw hB hz1 hk1 hS1 => absurd hw hbad)
set_option maxHeartbeats 4000000 in
set_option maxRecDepth 100000 in
theorem mX1_batteryV (l : Launch) (D : va_G) (cI cZ cD : ClassId) (a : Nat → Nat) (sz : Nat) (sh sw ts : Nat → Int32) (bi : Nat → UInt64) (it tu : Nat → Int32) (ne : Nat → UInt64) (pr so lo : UInt64) (wt cn : Int32) (lp lz lu : Nat → UInt64) (lk : Nat → Int32) (ld lf lb lw : Nat → UInt64)  : Met l yX1_battery wsX1_battery ({ frames := 0, cells := 0, slots := 0, locals := 0 } : Room) (va_Pc [.ref (a 0)] (XP D cI cZ cD (XW a cI cZ cD sh sw ts bi it tu ne pr so lo wt cn lp lz lu lk ld lf lb lw) sz)) (vp_Sd (fun r => r = so)) 0 0 (fun _ => False) := by
  refine Met.ofW (cc := cX1_battery) (maxL := 1) (ret := (some .double)) (by decide +kernel) rfl ?_
  intro p e s m args below meth c s₁ B hml hv
  obtain ⟨rfl, hsz, hP, hK, hD0⟩ := hv
  have hx := B.exec
  have hb := B.bytes
  have hr := B.returns
  have hts := atoms_spec (ws := wsX1_battery) B.pre
  have hown : s.vm.findClass RX1 = some m.cls := findClass_of_methodNamed B.named
  have hlocks := B.notSynchronized
  subst hsz
  have hD := hD0.self (sz := s.heap.size)
  generalize hAe : va_A (XW a cI cZ cD sh sw ts bi it tu ne pr so lo wt cn lp lz lu lk ld lf lb lw) s.heap.size = A at hD ⊢
  have hA : ∀ q : Nat, s.heap.size ≤ q → A q := fun q h => by rw [← hAe]; exact Or.inr h
  have hS : va_S A s.heap s.heap [] := va_S.rf
  have hl := lv_entry ([.ref (a 0)]) (n := 1) (Nat.le_of_ble_eq_true rfl)
  rw [lg_entry_eq]
  generalize (lg_sl ([.ref (a 0)]) ++ List.replicate (1 - (lg_sl ([.ref (a 0)])).length) Slot.unset).toArray = ls at hl ⊢
  have hl : lv_has ls 1 [(0, .ref (a 0))] := hl
  have inX1 : ∀ w ∈ wsX10, w ∈ wsX1_battery := by decide +kernel
  refine lv_aload_n hx hb dX1_battery_0 rfl (lv_at hl 0 rfl) ?_
  refine va_get (D := D) (ci := 1) (v := .double so) (C := RX1) (T := TX1) (N := 12) hx hb hts inX1 hown hK hP 0 rfl rfl 8 (by decide) (hts (.fieldLink RX1 43 "GridCommons" "stored" "D") (by decide +kernel)) (fun _ h9 => h9) rfl dX1_battery_1 ?_
  exact W.dret hx hb hr (fun t ht hW => ⟨_, rfl, rfl, ht⟩) (fun q hq => absurd hq List.not_mem_nil) dX1_battery_4
set_option maxHeartbeats 4000000 in
set_option maxRecDepth 100000 in
theorem mX1_turnV (l : Launch) (D : va_G) (cI cZ cD : ClassId) (a : Nat → Nat) (sz : Nat) (sh sw ts : Nat → Int32) (bi : Nat → UInt64) (it tu : Nat → Int32) (ne : Nat → UInt64) (pr so lo : UInt64) (wt cn : Int32) (lp lz lu : Nat → UInt64) (lk : Nat → Int32) (ld lf lb lw : Nat → UInt64)  : Met l yX1_turn wsX1_turn ({ frames := 0, cells := 0, slots := 0, locals := 0 } : Room) (va_Pc [.ref (a 0)] (XP D cI cZ cD (XW a cI cZ cD sh sw ts bi it tu ne pr so lo wt cn lp lz lu lk ld lf lb lw) sz)) (vp_Si (fun r => r = wt)) 0 0 (fun _ => False) := by
  refine Met.ofW (cc := cX1_turn) (maxL := 1) (ret := (some .int)) (by decide +kernel) rfl ?_
  intro p e s m args below meth c s₁ B hml hv
  obtain ⟨rfl, hsz, hP, hK, hD0⟩ := hv
  have hx := B.exec
  have hb := B.bytes
  have hr := B.returns
  have hts := atoms_spec (ws := wsX1_turn) B.pre
  have hown : s.vm.findClass RX1 = some m.cls := findClass_of_methodNamed B.named
  have hlocks := B.notSynchronized
  subst hsz
  have hD := hD0.self (sz := s.heap.size)
  generalize hAe : va_A (XW a cI cZ cD sh sw ts bi it tu ne pr so lo wt cn lp lz lu lk ld lf lb lw) s.heap.size = A at hD ⊢
  have hA : ∀ q : Nat, s.heap.size ≤ q → A q := fun q h => by rw [← hAe]; exact Or.inr h
  have hS : va_S A s.heap s.heap [] := va_S.rf
  have hl := lv_entry ([.ref (a 0)]) (n := 1) (Nat.le_of_ble_eq_true rfl)
  rw [lg_entry_eq]
  generalize (lg_sl ([.ref (a 0)]) ++ List.replicate (1 - (lg_sl ([.ref (a 0)])).length) Slot.unset).toArray = ls at hl ⊢
  have hl : lv_has ls 1 [(0, .ref (a 0))] := hl
  have inX1 : ∀ w ∈ wsX10, w ∈ wsX1_turn := by decide +kernel
  refine lv_aload_n hx hb dX1_turn_0 rfl (lv_at hl 0 rfl) ?_
  refine va_get (D := D) (ci := 1) (v := .int wt) (C := RX1) (T := TX1) (N := 12) hx hb hts inX1 hown hK hP 0 rfl rfl 9 (by decide) (hts (.fieldLink RX1 46 "GridCommons" "whoseTurn" "I") (by decide +kernel)) (fun _ h9 => h9) rfl dX1_turn_1 ?_
  exact W.iret hx hb hr (fun t ht hW => ⟨_, rfl, rfl, ht⟩) (fun q hq => absurd hq List.not_mem_nil) dX1_turn_4
set_option maxHeartbeats 4000000 in
set_option maxRecDepth 100000 in
theorem mX1_closedV (l : Launch) (D : va_G) (cI cZ cD : ClassId) (a : Nat → Nat) (sz : Nat) (sh sw ts : Nat → Int32) (bi : Nat → UInt64) (it tu : Nat → Int32) (ne : Nat → UInt64) (pr so lo : UInt64) (wt cn : Int32) (lp lz lu : Nat → UInt64) (lk : Nat → Int32) (ld lf lb lw : Nat → UInt64)  : Met l yX1_closed wsX1_closed ({ frames := 0, cells := 0, slots := 0, locals := 0 } : Room) (va_Pc [.ref (a 0)] (XP D cI cZ cD (XW a cI cZ cD sh sw ts bi it tu ne pr so lo wt cn lp lz lu lk ld lf lb lw) sz)) (vp_Si (fun r => r = cn)) 0 0 (fun _ => False) := by
  refine Met.ofW (cc := cX1_closed) (maxL := 1) (ret := (some .int)) (by decide +kernel) rfl ?_
  intro p e s m args below meth c s₁ B hml hv
  obtain ⟨rfl, hsz, hP, hK, hD0⟩ := hv
  have hx := B.exec
  have hb := B.bytes
  have hr := B.returns
  have hts := atoms_spec (ws := wsX1_closed) B.pre
  have hown : s.vm.findClass RX1 = some m.cls := findClass_of_methodNamed B.named
  have hlocks := B.notSynchronized
  subst hsz
  have hD := hD0.self (sz := s.heap.size)
  generalize hAe : va_A (XW a cI cZ cD sh sw ts bi it tu ne pr so lo wt cn lp lz lu lk ld lf lb lw) s.heap.size = A at hD ⊢
  have hA : ∀ q : Nat, s.heap.size ≤ q → A q := fun q h => by rw [← hAe]; exact Or.inr h
  have hS : va_S A s.heap s.heap [] := va_S.rf
  have hl := lv_entry ([.ref (a 0)]) (n := 1) (Nat.le_of_ble_eq_true rfl)
  rw [lg_entry_eq]
  generalize (lg_sl ([.ref (a 0)]) ++ List.replicate (1 - (lg_sl ([.ref (a 0)])).length) Slot.unset).toArray = ls at hl ⊢
  have hl : lv_has ls 1 [(0, .ref (a 0))] := hl
  have inX1 : ∀ w ∈ wsX10, w ∈ wsX1_closed := by decide +kernel
  have inX0 : ∀ w ∈ wsX00, w ∈ wsX1_closed := by decide +kernel
  refine lv_aload_n hx hb dX1_closed_0 rfl (lv_at hl 0 rfl) ?_
  refine va_get (D := D) (ci := 1) (v := .ref (a 8)) (C := RX1) (T := TX1) (N := 12) hx hb hts inX1 hown hK hP 0 rfl rfl 6 (by decide) (hts (.fieldLink RX1 33 "GridCommons" "ledger" "LGridCommons$Ledger;") (by decide +kernel)) (fun _ h9 => h9) rfl dX1_closed_1 ?_
  refine va_get (D := D) (ci := 0) (v := .int cn) (C := RX0) (T := TX0) (N := 9) hx hb hts inX0 hown hK hP 8 rfl rfl 0 (by decide) (hts (.fieldLink RX1 77 "GridCommons$Ledger" "count" "I") (by decide +kernel)) (fun _ h9 => h9) rfl dX1_closed_4 ?_
  exact W.iret hx hb hr (fun t ht hW => ⟨_, rfl, rfl, ht⟩) (fun q hq => absurd hq List.not_mem_nil) dX1_closed_7
end
section
/-! GridCommons: the face, what writes -/
theorem nar01n {x : Int32} (h : x = 0 ∨ x = 1) : narrow .boolean (.int x) = .int x := by rcases h with rfl | rfl <;> rfl
def okS (sh : Nat → Int32) (x share : Int32) : Prop := sumI sh 5 - sh x.toNatClampNeg + share ≤ 4
def kn (lk : Nat → Int32) (x q : Int32) : Prop := ¬ lk (5 * q.toNatClampNeg + x.toNatClampNeg) = 0
theorem kn_nI {lk : Nat → Int32} {o q : Nat} (ho : o < 5) (hq : q < 60) : kn lk (nI o) (nI q) ↔ ¬ lk (5 * q + o) = 0 := by
  unfold kn
  rw [nI_clamp (by omega), nI_clamp (by omega)]
theorem okS_nI {sh : Nat → Int32} {o : Nat} {share : Int32} (ho : o < 5) : okS sh (nI o) share ↔ sumI sh 5 - sh o + share ≤ 4 := by
  unfold okS
  rw [nI_clamp (by omega)]
theorem pr_ok : ∀ k, k < 5 → vf_n64 (FP.ddiv (FP.i2d (nI k)) 4616189618054758400) := by
  intro k hk
  rcases (show k = 0 ∨ k = 1 ∨ k = 2 ∨ k = 3 ∨ k = 4 by omega) with rfl | rfl | rfl | rfl | rfl <;> (unfold vf_n64; decide +kernel)
/-! a quarter's closing, in one piece -/
def fS (sun : Int32) (sh : Nat → Int32) (V : Nat → Dm) (n : Nat) (F : Nat → Dm) : Nat → Dm := po (5 * n) 5 F (fun k => dAdd (F (5 * n + k)) (uS sun sh V k))
def fE (V : Nat → Dm) (L : Dm) (n : Nat) (F : Nat → Dm) : Nat → Dm := if noNeed V then F else po (5 * n) 5 F (fun k => dAdd (F (5 * n + k)) (gE V L k))
def gB (tr n : Nat) (V : Nat → Dm) (L S : Dm) (G : Nat → Dm) : (Nat → Dm) × Dm × (Nat → Dm) × Nat := if dCmp L dZ = some .eq then ((gbs tr (5 * n) V S G 5).1, (gbs tr (5 * n) V S G 5).2.1, (gbs tr (5 * n) V S G 5).2.2.1, tnx tr (gbs tr (5 * n) V S G 5).2.2.2) else (V, S, G, tr)
def kV2 (sun : Int32) (sh : Nat → Int32) (V : Nat → Dm) : Nat → Dm := fun k => dSub (V k) (uS sun sh V k)
def kL1 (sun : Int32) (sh : Nat → Int32) (V : Nat → Dm) : Dm := lS sun sh V (dI sun) 5
def kV3 (sun : Int32) (sh : Nat → Int32) (V : Nat → Dm) : Nat → Dm := nE (kV2 sun sh V) (kL1 sun sh V)
def kL2 (sun : Int32) (sh : Nat → Int32) (V : Nat → Dm) : Dm := lE (kV2 sun sh V) (kL1 sun sh V)
def kF (sun : Int32) (sh : Nat → Int32) (V : Nat → Dm) (n : Nat) (F : Nat → Dm) : Nat → Dm := fE (kV2 sun sh V) (kL1 sun sh V) n (fS sun sh V n F)
def kS (sun : Int32) (sh : Nat → Int32) (V : Nat → Dm) (S : Dm) : Dm := soN S (kL2 sun sh V)
def kZ (sun : Int32) (sh : Nat → Int32) (V : Nat → Dm) (S : Dm) (Z : Nat → Dm) (n : Nat) : Nat → Dm := va_up Z n (szN S (kL2 sun sh V))
def kB (sun : Int32) (sh : Nat → Int32) (V : Nat → Dm) (S : Dm) (G : Nat → Dm) (tr n : Nat) : (Nat → Dm) × Dm × (Nat → Dm) × Nat := gB tr n (kV3 sun sh V) (kL2 sun sh V) (kS sun sh V S) G
def kI (sun : Int32) (sh : Nat → Int32) (V : Nat → Dm) (S : Dm) (Z B : Nat → Dm) (P : Dm) (G : Nat → Dm) (tr n : Nat) : Nat → Dm := po 0 5 B (fun k => dSub (dAdd (B k) (dMul ((kB sun sh V S G tr n).1 k) P)) (dDiv (dMul (kZ sun sh V S Z n n) P) d10))
abbrev cT (sw ts it tu lk : Nat → Int32) (U : Nat → Dm) (n : Nat) : (Nat → Int32) × (Nat → Dm) := shd sw 5 ts (use0 it tu lk U n)
set_option maxHeartbeats 4000000 in
set_option maxRecDepth 100000 in
theorem mX1_sumOfSharesV (l : Launch) (D : va_G) (cI cZ cD : ClassId) (a : Nat → Nat) (sz : Nat) (sh sw ts : Nat → Int32) (bi : Nat → UInt64) (it tu : Nat → Int32) (ne : Nat → UInt64) (pr so lo : UInt64) (wt cn : Int32) (lp lz lu : Nat → UInt64) (lk : Nat → Int32) (ld lf lb lw : Nat → UInt64)  : Met l yX1_sumOfShares wsX1_sumOfShares ({ frames := 0, cells := 0, slots := 0, locals := 0 } : Room) (va_Pc [.ref (a 0)] (XP D cI cZ cD (XW a cI cZ cD sh sw ts bi it tu ne pr so lo wt cn lp lz lu lk ld lf lb lw) sz)) (vp_Si (fun r => r = sumI sh 5)) 0 0 (fun _ => False) := by
  refine Met.ofW (cc := cX1_sumOfShares) (maxL := 3) (ret := (some .int)) (by decide +kernel) rfl ?_
  intro p e s m args below meth c s₁ B hml hv
  obtain ⟨rfl, hsz, hP, hK, hD0⟩ := hv
  have hx := B.exec
  have hb := B.bytes
  have hr := B.returns
  have hts := atoms_spec (ws := wsX1_sumOfShares) B.pre
  have hown : s.vm.findClass RX1 = some m.cls := findClass_of_methodNamed B.named
  have hlocks := B.notSynchronized
  subst hsz
  have hD := hD0.self (sz := s.heap.size)
  generalize hAe : va_A (XW a cI cZ cD sh sw ts bi it tu ne pr so lo wt cn lp lz lu lk ld lf lb lw) s.heap.size = A at hD ⊢
  have hA : ∀ q : Nat, s.heap.size ≤ q → A q := fun q h => by rw [← hAe]; exact Or.inr h
  have hS : va_S A s.heap s.heap [] := va_S.rf
  have hl := lv_entry ([.ref (a 0)]) (n := 3) (Nat.le_of_ble_eq_true rfl)
  rw [lg_entry_eq]
  generalize (lg_sl ([.ref (a 0)]) ++ List.replicate (3 - (lg_sl ([.ref (a 0)])).length) Slot.unset).toArray = ls at hl ⊢
  have hl : lv_has ls 3 [(0, .ref (a 0))] := hl
  have inX1 : ∀ w ∈ wsX10, w ∈ wsX1_sumOfShares := by decide +kernel
  refine lv_iconst (v := nI 0) hx hb dX1_sumOfShares_0 (by decide) ?_
  refine lv_istore_n (lv' := [(1, .int (nI 0)), (0, .ref (a 0))]) hx hb dX1_sumOfShares_1 rfl hl (by decide) rfl (fun ls hl => ?_)
  refine lv_iconst (v := nI 0) hx hb dX1_sumOfShares_2 (by decide) ?_
  refine lv_istore_n (lv' := [(2, .int (nI 0)), (1, .int (nI 0)), (0, .ref (a 0))]) hx hb dX1_sumOfShares_3 rfl hl (by decide) rfl (fun ls hl => ?_)
  refine xk_loopP (fun i H locs ls => H = s.heap ∧ locs = [] ∧ lv_has ls 3 [(0, .ref (a 0)), (1, .int (sumI sh i)), (2, .int (nI i))]) 5 ?_ (i := 0) (Nat.zero_le _) ⟨rfl, rfl, lv_sub hl [2, 1, 0] rfl⟩
  intro i H locs ls hi hI next
  obtain ⟨rfl, rfl, hl⟩ := hI
  refine lv_iload_n hx hb dX1_sumOfShares_4 rfl (lv_at hl 2 rfl) ?_
  refine lv_iconst (v := nI 5) hx hb dX1_sumOfShares_5 (by decide) ?_
  refine lv_icmp_ge (tgt := 24) hx hb dX1_sumOfShares_6 (by decide) (fun c => ?_) (fun c => ?_)
  · skip
    obtain rfl := xk_ge hi (by decide) c
    refine lv_iload_n hx hb dX1_sumOfShares_24 rfl (lv_at hl 1 rfl) ?_
    exact W.iret hx hb hr (fun t ht hW => ⟨_, rfl, rfl, ht⟩) (fun q hq => absurd hq List.not_mem_nil) dX1_sumOfShares_25
  · skip
    have hlt := xk_nge hi (by decide) c
    refine lv_iload_n hx hb dX1_sumOfShares_9 rfl (lv_at hl 1 rfl) ?_
    refine lv_aload_n hx hb dX1_sumOfShares_10 rfl (lv_at hl 0 rfl) ?_
    refine va_get (D := D) (ci := 1) (v := .ref (a 1)) (C := RX1) (T := TX1) (N := 12) hx hb hts inX1 hown hK hP 0 rfl rfl 0 (by decide) (hts (.fieldLink RX1 9 "GridCommons" "shares" "[I") (by decide +kernel)) (fun _ h9 => h9) rfl dX1_sumOfShares_11 ?_
    refine lv_iload_n hx hb dX1_sumOfShares_14 rfl (lv_at hl 2 rfl) ?_
    refine xk_iald hx hb hK hP 1 0 rfl rfl (o := i) (by omega) (by decide) dX1_sumOfShares_15 ?_
    refine lv_iadd hx hb dX1_sumOfShares_16 ?_
    refine lv_istore_n (lv' := [(1, .int ((sumI sh i) + (sh i))), (0, .ref (a 0)), (2, .int (nI i))]) hx hb dX1_sumOfShares_17 rfl hl (by decide) rfl (fun ls hl => ?_)
    refine lv_iinc (v := nI (i + 1)) (lv' := [(2, .int (nI (i + 1))), (1, .int ((sumI sh i) + (sh i))), (0, .ref (a 0))]) hx hb dX1_sumOfShares_18 hl (k := 2) rfl (nI_1 i) (by decide) rfl (fun ls hl => ?_)
    refine lv_goto (tgt := 4) hx hb dX1_sumOfShares_21 (by decide) ?_
    exact next _ _ _ hlt ⟨rfl, rfl, lv_sub hl [2, 1, 0] rfl⟩
set_option maxHeartbeats 4000000 in
set_option maxRecDepth 100000 in
theorem mX1_setShareV (l : Launch) (D : va_G) (cI cZ cD : ClassId) (a : Nat → Nat) (sz : Nat) (sh sw ts : Nat → Int32) (bi : Nat → UInt64) (it tu : Nat → Int32) (ne : Nat → UInt64) (pr so lo : UInt64) (wt cn : Int32) (lp lz lu : Nat → UInt64) (lk : Nat → Int32) (ld lf lb lw : Nat → UInt64) (o : Nat) (share : Int32) (ho : o < 5) (hsh : inR share 0 4) (hok : okS sh (nI o) share) : Met l yX1_setShare wsX1_setShare ({ frames := 1, cells := 0, slots := 0, locals := 22 } : Room) (va_Pc [.ref (a 0), .int (nI o), .int share] (XP D cI cZ cD (XW a cI cZ cD sh sw ts bi it tu ne pr so lo wt cn lp lz lu lk ld lf lb lw) sz)) (va_Qi (fun (r : Int32) (u : Unit) => r = sh o) (fun (u : Unit) t => XB D cI cZ cD (XW a cI cZ cD (upd sh o share) sw ts bi it tu ne pr so lo wt cn lp lz lu lk ld lf lb lw) (va_A (XW a cI cZ cD sh sw ts bi it tu ne pr so lo wt cn lp lz lu lk ld lf lb lw) sz) t) (va_A (XW a cI cZ cD sh sw ts bi it tu ne pr so lo wt cn lp lz lu lk ld lf lb lw) sz)) 0 0 (va_A (XW a cI cZ cD sh sw ts bi it tu ne pr so lo wt cn lp lz lu lk ld lf lb lw) sz) := by
  refine Met.ofW (cc := cX1_setShare) (maxL := 4) (ret := (some .int)) (by decide +kernel) rfl ?_
  intro p e s m args below meth c s₁ B hml hv
  obtain ⟨rfl, hsz, hP, hK, hD0⟩ := hv
  have hx := B.exec
  have hb := B.bytes
  have hr := B.returns
  have hts := atoms_spec (ws := wsX1_setShare) B.pre
  have hown : s.vm.findClass RX1 = some m.cls := findClass_of_methodNamed B.named
  have hlocks := B.notSynchronized
  subst hsz
  have hD := hD0.self (sz := s.heap.size)
  generalize hAe : va_A (XW a cI cZ cD sh sw ts bi it tu ne pr so lo wt cn lp lz lu lk ld lf lb lw) s.heap.size = A at hD ⊢
  have hA : ∀ q : Nat, s.heap.size ≤ q → A q := fun q h => by rw [← hAe]; exact Or.inr h
  have hS : va_S A s.heap s.heap [] := va_S.rf
  have hl := lv_entry ([.ref (a 0), .int (nI o), .int share]) (n := 4) (Nat.le_of_ble_eq_true rfl)
  rw [lg_entry_eq]
  generalize (lg_sl ([.ref (a 0), .int (nI o), .int share]) ++ List.replicate (4 - (lg_sl ([.ref (a 0), .int (nI o), .int share])).length) Slot.unset).toArray = ls at hl ⊢
  have hl : lv_has ls 4 [(0, .ref (a 0)), (1, .int (nI o)), (2, .int share)] := hl
  have inX1 : ∀ w ∈ wsX10, w ∈ wsX1_setShare := by decide +kernel
  have hok := (okS_nI ho).mp hok
  refine lv_iload_n hx hb dX1_setShare_0 rfl (lv_at hl 1 rfl) ?_
  refine va_csv (va_Run.run (va_runS (As := [.int (nI o)]) (rest := []) ⟨hx, hb, hml, hown, hts⟩ (mX1_requireOwnerV l (nI o) (nI_inR (n := 4) (by omega) (by decide))) (va_cwS 1 hts gX1_setShare_X1_requireOwner rfl rfl rfl (by decide +kernel) ⟨Nat.le_of_ble_eq_true rfl, Nat.le_of_ble_eq_true rfl⟩) ⟨fun a U g mk q => q, fun U hU hW => ⟨rfl, trivial⟩⟩ rfl rfl hl.1 rfl (lv_room (Nat.le_of_ble_eq_true rfl)) dX1_setShare_1 ⟨Nat.le_of_ble_eq_true rfl, Nat.le_of_ble_eq_true rfl⟩)) (fun _ => ?_)
  refine lv_iload_n hx hb dX1_setShare_4 rfl (lv_at hl 2 rfl) ?_
  refine lv_iconst (v := nI 0) hx hb dX1_setShare_5 (by decide) ?_
  refine lv_iconst (v := nI 4) hx hb dX1_setShare_6 (by decide) ?_
  refine va_csv (va_Run.run (va_runS (As := [.int share, .int (nI 0), .int (nI 4)]) (rest := []) ⟨hx, hb, hml, hown, hts⟩ (mX1_requireWithinV l share (nI 0) (nI 4) hsh) (va_cwS 3 hts gX1_setShare_X1_requireWithin rfl rfl rfl (by decide +kernel) ⟨Nat.le_of_ble_eq_true rfl, Nat.le_of_ble_eq_true rfl⟩) ⟨fun a U g mk q => q, fun U hU hW => ⟨rfl, trivial⟩⟩ rfl rfl hl.1 rfl (lv_room (Nat.le_of_ble_eq_true rfl)) dX1_setShare_7 ⟨Nat.le_of_ble_eq_true rfl, Nat.le_of_ble_eq_true rfl⟩)) (fun _ => ?_)
  refine lv_aload_n hx hb dX1_setShare_10 rfl (lv_at hl 0 rfl) ?_
  refine va_get (D := D) (ci := 1) (v := .ref (a 1)) (C := RX1) (T := TX1) (N := 12) hx hb hts inX1 hown hK hP 0 rfl rfl 0 (by decide) (hts (.fieldLink RX1 9 "GridCommons" "shares" "[I") (by decide +kernel)) (fun _ h9 => h9) rfl dX1_setShare_11 ?_
  refine lv_iload_n hx hb dX1_setShare_14 rfl (lv_at hl 1 rfl) ?_
  refine xk_iald hx hb hK hP 1 0 rfl rfl (o := o) (by omega) (by decide) dX1_setShare_15 ?_
  refine lv_istore_n (lv' := [(3, .int (sh o)), (0, .ref (a 0)), (1, .int (nI o)), (2, .int share)]) hx hb dX1_setShare_16 rfl hl (by decide) rfl (fun ls hl => ?_)
  refine lv_aload_n hx hb dX1_setShare_17 rfl (lv_at hl 1 rfl) ?_
  refine vp_callSi (va_Run.run (va_runV (As := []) (rest := []) ⟨hx, hb, hml, hown, hts⟩ (mX1_sumOfSharesV l D cI cZ cD a _ sh sw ts bi it tu ne pr so lo wt cn lp lz lu lk ld lf lb lw) (cwV 0 hts gX1_setShare_X1_sumOfShares rfl rfl rfl (by decide +kernel) ⟨Nat.le_of_ble_eq_true rfl, Nat.le_of_ble_eq_true rfl⟩) ⟨xk_blind, va_recv hK hP (ci := 1) (q0 := 0) rfl rfl, xk_pre hP hK hD⟩ rfl rfl hl.1 rfl (lv_room (Nat.le_of_ble_eq_true rfl)) dX1_setShare_18 ⟨Nat.le_of_ble_eq_true rfl, Nat.le_of_ble_eq_true rfl⟩)) (fun r hr1 => ?_)
  subst hr1
  refine lv_iload_n hx hb dX1_setShare_21 rfl (lv_at hl 0 rfl) ?_
  refine lv_isub hx hb dX1_setShare_22 ?_
  refine lv_iload_n hx hb dX1_setShare_23 rfl (lv_at hl 3 rfl) ?_
  refine lv_iadd hx hb dX1_setShare_24 ?_
  refine lv_iconst (v := nI 4) hx hb dX1_setShare_25 (by decide) ?_
  refine lv_icmp_le (tgt := 39) hx hb dX1_setShare_26 (by decide) (fun c => ?_) (fun c => ?_)
  · skip
    refine lv_aload_n hx hb dX1_setShare_39 rfl (lv_at hl 1 rfl) ?_
    refine va_get (D := D) (ci := 1) (v := .ref (a 1)) (C := RX1) (T := TX1) (N := 12) hx hb hts inX1 hown hK hP 0 rfl rfl 0 (by decide) (hts (.fieldLink RX1 9 "GridCommons" "shares" "[I") (by decide +kernel)) (fun _ h9 => h9) rfl dX1_setShare_40 ?_
    refine lv_iload_n hx hb dX1_setShare_43 rfl (lv_at hl 2 rfl) ?_
    refine lv_iload_n hx hb dX1_setShare_44 rfl (lv_at hl 3 rfl) ?_
    refine xk_iast hx hb hK hP hD hS 1 0 rfl rfl (o := o) (by omega) (by decide) dX1_setShare_45 (fun H locs hP hD hS => ?_)
    have hP : va_P D vwCl (XW a cI cZ cD (upd sh o share) sw ts bi it tu ne pr so lo wt cn lp lz lu lk ld lf lb lw) H := hP
    have hD : va_D A (XW a cI cZ cD (upd sh o share) sw ts bi it tu ne pr so lo wt cn lp lz lu lk ld lf lb lw) := hD
    refine lv_iload_n hx hb dX1_setShare_46 rfl (lv_at hl 0 rfl) ?_
    exact W.iret hx hb hr (fun t ht hW => ⟨⟨_, (), rfl, rfl, by rw [ht]; exact hP, va_K.moved hW.alike hK, hD⟩, hS.F ht⟩) hS.2.2 dX1_setShare_47
  · skip
    exact absurd hok c
set_option maxHeartbeats 4000000 in
set_option maxRecDepth 100000 in
theorem mX1_setShareX (l : Launch) (hst : l.stackTraces = false) (D : va_G) (cI cZ cD : ClassId) (a : Nat → Nat) (Hp : Heap) (sh sw ts : Nat → Int32) (bi : Nat → UInt64) (it tu : Nat → Int32) (ne : Nat → UInt64) (pr so lo : UInt64) (wt cn : Int32) (lp lz lu : Nat → UInt64) (lk : Nat → Int32) (ld lf lb lw : Nat → UInt64) (x share : Int32) (hbad : ¬ (inR x 0 4 ∧ inR share 0 4 ∧ okS sh x share)) : vx_Met l yX1_setShare wsX1_setShare ({ frames := 7, cells := 1, slots := 6, locals := 104 } : Room) (va_Pc [.ref (a 0), .int x, .int share] (XQ D cI cZ cD (XW a cI cZ cD sh sw ts bi it tu ne pr so lo wt cn lp lz lu lk ld lf lb lw) Hp)) (va_Qi (fun _ (_ : Unit) => False) (fun _ _ => True) (fun q => Hp.size ≤ q)) (XE (fun E => (E = "java/lang/IllegalArgumentException" ∧ ¬ (inR x 0 4 ∧ inR share 0 4)) ∨ (E = "java/lang/IllegalStateException" ∧ inR x 0 4 ∧ inR share 0 4 ∧ ¬ okS sh x share)) Hp.size) 1 6 (fun q => Hp.size ≤ q) := by
  refine vx_ofW (cc := cX1_setShare) (maxL := 4) (ret := (some .int)) (by decide +kernel) rfl ?_
  intro p e s m args below meth c s₁ B hml htab hv
  obtain ⟨rfl, hsz, ⟨hP, hK, hD⟩, hE⟩ := hv
  have hx := B.exec
  have hb := B.bytes
  have hr := B.returns
  have hts := atoms_spec (ws := wsX1_setShare) B.pre
  have hown : s.vm.findClass RX1 = some m.cls := findClass_of_methodNamed B.named
  have hlocks := B.notSynchronized
  subst hsz
  have hA : ∀ q : Nat, s.heap.size ≤ q → (fun q => s.heap.size ≤ q) q := fun q h => h
  have hS : va_S (fun q => s.heap.size ≤ q) s.heap s.heap [] := va_S.rf
  have hl := lv_entry ([.ref (a 0), .int x, .int share]) (n := 4) (Nat.le_of_ble_eq_true rfl)
  rw [lg_entry_eq]
  generalize (lg_sl ([.ref (a 0), .int x, .int share]) ++ List.replicate (4 - (lg_sl ([.ref (a 0), .int x, .int share])).length) Slot.unset).toArray = ls at hl ⊢
  have hl : lv_has ls 4 [(0, .ref (a 0)), (1, .int x), (2, .int share)] := hl
  have inX1 : ∀ w ∈ wsX10, w ∈ wsX1_setShare := by decide +kernel
  refine lv_iload_n hx hb dX1_setShare_0 rfl (lv_at hl 1 rfl) ?_
  by_cases hin : inR x 0 4
  · skip
    refine va_csv (va_Run.run (va_runS (As := [.int x]) (rest := []) ⟨hx, hb, hml, hown, hts⟩ (mX1_requireOwnerV l x hin) (va_cwS 1 hts gX1_setShare_X1_requireOwner rfl rfl rfl (by decide +kernel) ⟨Nat.le_of_ble_eq_true rfl, Nat.le_of_ble_eq_true rfl⟩) ⟨fun a U g mk q => q, fun U hU hW => ⟨rfl, trivial⟩⟩ rfl rfl hl.1 rfl (lv_room (Nat.le_of_ble_eq_true rfl)) dX1_setShare_1 ⟨Nat.le_of_ble_eq_true rfl, Nat.le_of_ble_eq_true rfl⟩)) (fun _ => ?_)
    refine lv_iload_n hx hb dX1_setShare_4 rfl (lv_at hl 2 rfl) ?_
    refine lv_iconst (v := nI 0) hx hb dX1_setShare_5 (by decide) ?_
    refine lv_iconst (v := nI 4) hx hb dX1_setShare_6 (by decide) ?_
    by_cases hsh : inR share 0 4
    · skip
      refine va_csv (va_Run.run (va_runS (As := [.int share, .int (nI 0), .int (nI 4)]) (rest := []) ⟨hx, hb, hml, hown, hts⟩ (mX1_requireWithinV l share (nI 0) (nI 4) hsh) (va_cwS 3 hts gX1_setShare_X1_requireWithin rfl rfl rfl (by decide +kernel) ⟨Nat.le_of_ble_eq_true rfl, Nat.le_of_ble_eq_true rfl⟩) ⟨fun a U g mk q => q, fun U hU hW => ⟨rfl, trivial⟩⟩ rfl rfl hl.1 rfl (lv_room (Nat.le_of_ble_eq_true rfl)) dX1_setShare_7 ⟨Nat.le_of_ble_eq_true rfl, Nat.le_of_ble_eq_true rfl⟩)) (fun _ => ?_)
      obtain ⟨o, ho4, rfl⟩ := inR_nI (n := 4) (by decide) hin
      have ho : o < 5 := by omega
      refine lv_aload_n hx hb dX1_setShare_10 rfl (lv_at hl 0 rfl) ?_
      refine va_get (D := D) (ci := 1) (v := .ref (a 1)) (C := RX1) (T := TX1) (N := 12) hx hb hts inX1 hown hK hP 0 rfl rfl 0 (by decide) (hts (.fieldLink RX1 9 "GridCommons" "shares" "[I") (by decide +kernel)) (fun _ h9 => h9) rfl dX1_setShare_11 ?_
      refine lv_iload_n hx hb dX1_setShare_14 rfl (lv_at hl 1 rfl) ?_
      refine xk_iald hx hb hK hP 1 0 rfl rfl (o := o) (by omega) (by decide) dX1_setShare_15 ?_
      refine lv_istore_n (lv' := [(3, .int (sh o)), (0, .ref (a 0)), (1, .int (nI o)), (2, .int share)]) hx hb dX1_setShare_16 rfl hl (by decide) rfl (fun ls hl => ?_)
      refine lv_aload_n hx hb dX1_setShare_17 rfl (lv_at hl 1 rfl) ?_
      refine vp_callSi (va_Run.run (va_runV (As := []) (rest := []) ⟨hx, hb, hml, hown, hts⟩ (mX1_sumOfSharesV l D cI cZ cD a _ sh sw ts bi it tu ne pr so lo wt cn lp lz lu lk ld lf lb lw) (cwV 0 hts gX1_setShare_X1_sumOfShares rfl rfl rfl (by decide +kernel) ⟨Nat.le_of_ble_eq_true rfl, Nat.le_of_ble_eq_true rfl⟩) ⟨xk_blind, va_recv hK hP (ci := 1) (q0 := 0) rfl rfl, xk_pre hP hK hD⟩ rfl rfl hl.1 rfl (lv_room (Nat.le_of_ble_eq_true rfl)) dX1_setShare_18 ⟨Nat.le_of_ble_eq_true rfl, Nat.le_of_ble_eq_true rfl⟩)) (fun r hr1 => ?_)
      subst hr1
      refine lv_iload_n hx hb dX1_setShare_21 rfl (lv_at hl 0 rfl) ?_
      refine lv_isub hx hb dX1_setShare_22 ?_
      refine lv_iload_n hx hb dX1_setShare_23 rfl (lv_at hl 3 rfl) ?_
      refine lv_iadd hx hb dX1_setShare_24 ?_
      refine lv_iconst (v := nI 4) hx hb dX1_setShare_25 (by decide) ?_
      refine lv_icmp_le (tgt := 39) hx hb dX1_setShare_26 (by decide) (fun c => ?_) (fun c => ?_)
      · skip
        exact absurd ⟨hin, hsh, (okS_nI ho).mpr c⟩ hbad
      · skip
        obtain ⟨sa, hstr⟩ := hE.2.2.2 (70, "all shares together would be more than 4") (by decide)
        have hat0 : ∀ w ∈ (vx_atS RX1 72 "java/lang/IllegalStateException" ["java/lang/RuntimeException", "java/lang/Exception"]).filter goodWord, w ∈ wsX1_setShare := by decide +kernel
        exact vx_throwS (text := "all shares together would be more than 4") (names := ["java/lang/RuntimeException", "java/lang/Exception"]) hx hb hst hown (by decide +kernel) (by decide +kernel) (hts (.classLink RX1 68 "java/lang/IllegalStateException") (by decide +kernel)) (hts (.initialized "java/lang/IllegalStateException") (by decide +kernel)) hstr (vx_hat (B := exW) (fun w h => hts w (hat0 w h)) (by decide +kernel) hE.words) (by decide +kernel) hE.1 hE.2.1 hS (hl.1.trans hml.symm) dX1_setShare_29 dX1_setShare_32 dX1_setShare_33 dX1_setShare_35 dX1_setShare_38 (fun x h => (htab x h).elim) (Nat.le_of_ble_eq_true rfl) (Nat.le_of_ble_eq_true rfl) (Nat.le_of_ble_eq_true rfl) (Nat.le_of_ble_eq_true rfl) hlocks (fun t ht hz hk => ⟨(), trivial, Or.inr ⟨rfl, hin, hsh, fun z => c ((okS_nI ho).mp z)⟩, hz, fun q h1 _ => hk q h1⟩) hS.2.2 (Nat.le_refl _) (Nat.le_refl _)
    · skip
      exact vx_callv (vx_runS (As := [.int share, .int (nI 0), .int (nI 4)]) (rest := []) ⟨hx, hb, hml, hown, hts⟩ (mX1_requireWithin l hst s.heap share (nI 0) (nI 4)) (va_cwS 3 hts gX1_setShare_X1_requireWithin rfl rfl rfl (by decide +kernel) ⟨Nat.le_of_ble_eq_true rfl, Nat.le_of_ble_eq_true rfl⟩) ⟨xh_blind, xh_pre hE hS hA⟩ rfl rfl hl.1 rfl (lv_room (Nat.le_of_ble_eq_true rfl)) dX1_setShare_7 ⟨Nat.le_of_ble_eq_true rfl, Nat.le_of_ble_eq_true rfl⟩) hS (fun q h1 h2 => absurd h2 (Nat.not_le.mpr h1)) (fun q h => hA q (Nat.le_trans hS.1 h)) (fun q h1 h2 => absurd h2 (Nat.not_le.mpr h1)) (fun E ce q9 u9 t9 H9 locs9 ht9 hvm9 hpx9 hB9 hz9 hk9 hS9 hce9 hcv9 hcl9 => vx_out (fun x h => (htab x h).elim) hlocks hce9 hcv9 hcl9 (fun t8 ht8 hvm8 => ⟨(), trivial, Or.inl ⟨hB9.1, fun z => hB9.2 z.2⟩, by rw [ht8]; exact hz9, fun q h1 h2 => by rw [ht8]; exact hk9 q h1 h2⟩) hS9.2.2 (Nat.le_refl _) (Nat.le_refl _)) (fun u t H1 locs1 ht hvm hw hB hz1 hk1 hS1 => absurd hw hsh)
  · skip
    exact vx_callv (vx_runS (As := [.int x]) (rest := []) ⟨hx, hb, hml, hown, hts⟩ (mX1_requireOwner l hst s.heap x) (va_cwS 1 hts gX1_setShare_X1_requireOwner rfl rfl rfl (by decide +kernel) ⟨Nat.le_of_ble_eq_true rfl, Nat.le_of_ble_eq_true rfl⟩) ⟨xh_blind, xh_pre hE hS hA⟩ rfl rfl hl.1 rfl (lv_room (Nat.le_of_ble_eq_true rfl)) dX1_setShare_1 ⟨Nat.le_of_ble_eq_true rfl, Nat.le_of_ble_eq_true rfl⟩) hS (fun q h1 h2 => absurd h2 (Nat.not_le.mpr h1)) (fun q h => hA q (Nat.le_trans hS.1 h)) (fun q h1 h2 => absurd h2 (Nat.not_le.mpr h1)) (fun E ce q9 u9 t9 H9 locs9 ht9 hvm9 hpx9 hB9 hz9 hk9 hS9 hce9 hcv9 hcl9 => vx_out (fun x h => (htab x h).elim) hlocks hce9 hcv9 hcl9 (fun t8 ht8 hvm8 => ⟨(), trivial, Or.inl ⟨hB9.1, fun z => hB9.2 z.1⟩, by rw [ht8]; exact hz9, fun q h1 h2 => by rw [ht8]; exact hk9 q h1 h2⟩) hS9.2.2 (Nat.le_refl _) (Nat.le_refl _)) (fun u t H1 locs1 ht hvm hw hB hz1 hk1 hS1 => absurd hw hin)
set_option maxHeartbeats 4000000 in
set_option maxRecDepth 100000 in
theorem mX1_setSwitchV (l : Launch) (D : va_G) (cI cZ cD : ClassId) (a : Nat → Nat) (sz : Nat) (sh sw ts : Nat → Int32) (bi : Nat → UInt64) (it tu : Nat → Int32) (ne : Nat → UInt64) (pr so lo : UInt64) (wt cn : Int32) (lp lz lu : Nat → UInt64) (lk : Nat → Int32) (ld lf lb lw : Nat → UInt64) (o : Nat) (can : Int32) (ho : o < 5) (hcan : can = 0 ∨ can = 1) (hsw : ∀ j, sw j = 0 ∨ sw j = 1) : Met l yX1_setSwitch wsX1_setSwitch ({ frames := 1, cells := 0, slots := 0, locals := 20 } : Room) (va_Pc [.ref (a 0), .int (nI o), .int can] (XP D cI cZ cD (XW a cI cZ cD sh sw ts bi it tu ne pr so lo wt cn lp lz lu lk ld lf lb lw) sz)) (va_Qi (fun (r : Int32) (u : Unit) => r = sw o) (fun (u : Unit) t => XB D cI cZ cD (XW a cI cZ cD sh (upd sw o can) ts bi it tu ne pr so lo wt cn lp lz lu lk ld lf lb lw) (va_A (XW a cI cZ cD sh sw ts bi it tu ne pr so lo wt cn lp lz lu lk ld lf lb lw) sz) t) (va_A (XW a cI cZ cD sh sw ts bi it tu ne pr so lo wt cn lp lz lu lk ld lf lb lw) sz)) 0 0 (va_A (XW a cI cZ cD sh sw ts bi it tu ne pr so lo wt cn lp lz lu lk ld lf lb lw) sz) := by
  refine Met.ofW (cc := cX1_setSwitch) (maxL := 4) (ret := (some .boolean)) (by decide +kernel) rfl ?_
  intro p e s m args below meth c s₁ B hml hv
  obtain ⟨rfl, hsz, hP, hK, hD0⟩ := hv
  have hx := B.exec
  have hb := B.bytes
  have hr := B.returns
  have hts := atoms_spec (ws := wsX1_setSwitch) B.pre
  have hown : s.vm.findClass RX1 = some m.cls := findClass_of_methodNamed B.named
  have hlocks := B.notSynchronized
  subst hsz
  have hD := hD0.self (sz := s.heap.size)
  generalize hAe : va_A (XW a cI cZ cD sh sw ts bi it tu ne pr so lo wt cn lp lz lu lk ld lf lb lw) s.heap.size = A at hD ⊢
  have hA : ∀ q : Nat, s.heap.size ≤ q → A q := fun q h => by rw [← hAe]; exact Or.inr h
  have hS : va_S A s.heap s.heap [] := va_S.rf
  have hl := lv_entry ([.ref (a 0), .int (nI o), .int can]) (n := 4) (Nat.le_of_ble_eq_true rfl)
  rw [lg_entry_eq]
  generalize (lg_sl ([.ref (a 0), .int (nI o), .int can]) ++ List.replicate (4 - (lg_sl ([.ref (a 0), .int (nI o), .int can])).length) Slot.unset).toArray = ls at hl ⊢
  have hl : lv_has ls 4 [(0, .ref (a 0)), (1, .int (nI o)), (2, .int can)] := hl
  have inX1 : ∀ w ∈ wsX10, w ∈ wsX1_setSwitch := by decide +kernel
  refine lv_iload_n hx hb dX1_setSwitch_0 rfl (lv_at hl 1 rfl) ?_
  refine va_csv (va_Run.run (va_runS (As := [.int (nI o)]) (rest := []) ⟨hx, hb, hml, hown, hts⟩ (mX1_requireOwnerV l (nI o) (nI_inR (n := 4) (by omega) (by decide))) (va_cwS 1 hts gX1_setSwitch_X1_requireOwner rfl rfl rfl (by decide +kernel) ⟨Nat.le_of_ble_eq_true rfl, Nat.le_of_ble_eq_true rfl⟩) ⟨fun a U g mk q => q, fun U hU hW => ⟨rfl, trivial⟩⟩ rfl rfl hl.1 rfl (lv_room (Nat.le_of_ble_eq_true rfl)) dX1_setSwitch_1 ⟨Nat.le_of_ble_eq_true rfl, Nat.le_of_ble_eq_true rfl⟩)) (fun _ => ?_)
  refine lv_aload_n hx hb dX1_setSwitch_4 rfl (lv_at hl 0 rfl) ?_
  refine va_get (D := D) (ci := 1) (v := .ref (a 2)) (C := RX1) (T := TX1) (N := 12) hx hb hts inX1 hown hK hP 0 rfl rfl 1 (by decide) (hts (.fieldLink RX1 13 "GridCommons" "switches" "[Z") (by decide +kernel)) (fun _ h9 => h9) rfl dX1_setSwitch_5 ?_
  refine lv_iload_n hx hb dX1_setSwitch_8 rfl (lv_at hl 1 rfl) ?_
  refine xk_zald hx hb hK hP 2 1 rfl rfl (o := o) (by omega) (by decide) dX1_setSwitch_9 ?_
  refine lv_istore_n (lv' := [(3, .int (sw o)), (0, .ref (a 0)), (1, .int (nI o)), (2, .int can)]) hx hb dX1_setSwitch_10 rfl hl (by decide) rfl (fun ls hl => ?_)
  refine lv_aload_n hx hb dX1_setSwitch_11 rfl (lv_at hl 1 rfl) ?_
  refine va_get (D := D) (ci := 1) (v := .ref (a 2)) (C := RX1) (T := TX1) (N := 12) hx hb hts inX1 hown hK hP 0 rfl rfl 1 (by decide) (hts (.fieldLink RX1 13 "GridCommons" "switches" "[Z") (by decide +kernel)) (fun _ h9 => h9) rfl dX1_setSwitch_12 ?_
  refine lv_iload_n hx hb dX1_setSwitch_15 rfl (lv_at hl 2 rfl) ?_
  refine lv_iload_n hx hb dX1_setSwitch_16 rfl (lv_at hl 3 rfl) ?_
  refine xk_zast (x' := can) hx hb hK hP hD hS 2 1 rfl rfl (o := o) (by omega) (by decide) (nar01 hcan) dX1_setSwitch_17 (fun H locs hP hD hS => ?_)
  have hP : va_P D vwCl (XW a cI cZ cD sh (upd sw o can) ts bi it tu ne pr so lo wt cn lp lz lu lk ld lf lb lw) H := hP
  have hD : va_D A (XW a cI cZ cD sh (upd sw o can) ts bi it tu ne pr so lo wt cn lp lz lu lk ld lf lb lw) := hD
  refine lv_iload_n hx hb dX1_setSwitch_18 rfl (lv_at hl 0 rfl) ?_
  exact W.zret hx hb hr (nar01n (hsw o)) (fun t ht hW => ⟨⟨_, (), rfl, rfl, by rw [ht]; exact hP, va_K.moved hW.alike hK, hD⟩, hS.F ht⟩) hS.2.2 dX1_setSwitch_19
set_option maxHeartbeats 4000000 in
set_option maxRecDepth 100000 in
theorem mX1_setSwitchX (l : Launch) (hst : l.stackTraces = false) (D : va_G) (cI cZ cD : ClassId) (a : Nat → Nat) (Hp : Heap) (sh sw ts : Nat → Int32) (bi : Nat → UInt64) (it tu : Nat → Int32) (ne : Nat → UInt64) (pr so lo : UInt64) (wt cn : Int32) (lp lz lu : Nat → UInt64) (lk : Nat → Int32) (ld lf lb lw : Nat → UInt64) (x can : Int32) (hbad : ¬ inR x 0 4) : vx_Met l yX1_setSwitch wsX1_setSwitch ({ frames := 7, cells := 1, slots := 6, locals := 102 } : Room) (va_Pc [.ref (a 0), .int x, .int can] (XQ D cI cZ cD (XW a cI cZ cD sh sw ts bi it tu ne pr so lo wt cn lp lz lu lk ld lf lb lw) Hp)) (va_Qi (fun _ (_ : Unit) => False) (fun _ _ => True) (fun q => Hp.size ≤ q)) (XE (fun E => E = "java/lang/IllegalArgumentException") Hp.size) 1 6 (fun q => Hp.size ≤ q) := by
  refine vx_ofW (cc := cX1_setSwitch) (maxL := 4) (ret := (some .boolean)) (by decide +kernel) rfl ?_
  intro p e s m args below meth c s₁ B hml htab hv
  obtain ⟨rfl, hsz, ⟨hP, hK, hD⟩, hE⟩ := hv
  have hx := B.exec
  have hb := B.bytes
  have hr := B.returns
  have hts := atoms_spec (ws := wsX1_setSwitch) B.pre
  have hown : s.vm.findClass RX1 = some m.cls := findClass_of_methodNamed B.named
  have hlocks := B.notSynchronized
  subst hsz
  have hA : ∀ q : Nat, s.heap.size ≤ q → (fun q => s.heap.size ≤ q) q := fun q h => h
  have hS : va_S (fun q => s.heap.size ≤ q) s.heap s.heap [] := va_S.rf
  have hl := lv_entry ([.ref (a 0), .int x, .int can]) (n := 4) (Nat.le_of_ble_eq_true rfl)
  rw [lg_entry_eq]
  generalize (lg_sl ([.ref (a 0), .int x, .int can]) ++ List.replicate (4 - (lg_sl ([.ref (a 0), .int x, .int can])).length) Slot.unset).toArray = ls at hl ⊢
  have hl : lv_has ls 4 [(0, .ref (a 0)), (1, .int x), (2, .int can)] := hl
  refine lv_iload_n hx hb dX1_setSwitch_0 rfl (lv_at hl 1 rfl) ?_
  exact vx_callv (vx_runS (As := [.int x]) (rest := []) ⟨hx, hb, hml, hown, hts⟩ (mX1_requireOwner l hst s.heap x) (va_cwS 1 hts gX1_setSwitch_X1_requireOwner rfl rfl rfl (by decide +kernel) ⟨Nat.le_of_ble_eq_true rfl, Nat.le_of_ble_eq_true rfl⟩) ⟨xh_blind, xh_pre hE hS hA⟩ rfl rfl hl.1 rfl (lv_room (Nat.le_of_ble_eq_true rfl)) dX1_setSwitch_1 ⟨Nat.le_of_ble_eq_true rfl, Nat.le_of_ble_eq_true rfl⟩) hS (fun q h1 h2 => absurd h2 (Nat.not_le.mpr h1)) (fun q h => hA q (Nat.le_trans hS.1 h)) (fun q h1 h2 => absurd h2 (Nat.not_le.mpr h1)) (fun E ce q9 u9 t9 H9 locs9 ht9 hvm9 hpx9 hB9 hz9 hk9 hS9 hce9 hcv9 hcl9 => vx_out (fun x h => (htab x h).elim) hlocks hce9 hcv9 hcl9 (fun t8 ht8 hvm8 => ⟨(), trivial, hB9.1, by rw [ht8]; exact hz9, fun q h1 h2 => by rw [ht8]; exact hk9 q h1 h2⟩) hS9.2.2 (Nat.le_refl _) (Nat.le_refl _)) (fun u t H1 locs1 ht hvm hw hB hz1 hk1 hS1 => absurd hw hbad)
set_option maxHeartbeats 4000000 in
set_option maxRecDepth 100000 in
theorem mX1_setPriceV (l : Launch) (D : va_G) (cI cZ cD : ClassId) (a : Nat → Nat) (sz : Nat) (sh sw ts : Nat → Int32) (bi : Nat → UInt64) (it tu : Nat → Int32) (ne : Nat → UInt64) (pr so lo : UInt64) (wt cn : Int32) (lp lz lu : Nat → UInt64) (lk : Nat → Int32) (ld lf lb lw : Nat → UInt64) (k : Nat) (hk : 1 ≤ k ∧ k < 5) : Met l yX1_setPrice wsX1_setPrice ({ frames := 1, cells := 0, slots := 0, locals := 22 } : Room) (va_Pc [.ref (a 0), .int (nI k)] (XP D cI cZ cD (XW a cI cZ cD sh sw ts bi it tu ne pr so lo wt cn lp lz lu lk ld lf lb lw) sz)) (va_Qd (fun (r : UInt64) (u : Unit) => r = FP.ddiv (FP.i2d (nI k)) 4616189618054758400) (fun (u : Unit) t => XB D cI cZ cD (XW a cI cZ cD sh sw ts bi it tu ne (FP.ddiv (FP.i2d (nI k)) 4616189618054758400) so lo wt cn lp lz lu lk ld lf lb lw) (va_A (XW a cI cZ cD sh sw ts bi it tu ne pr so lo wt cn lp lz lu lk ld lf lb lw) sz) t) (va_A (XW a cI cZ cD sh sw ts bi it tu ne pr so lo wt cn lp lz lu lk ld lf lb lw) sz)) 0 0 (va_A (XW a cI cZ cD sh sw ts bi it tu ne pr so lo wt cn lp lz lu lk ld lf lb lw) sz) := by
  refine Met.ofW (cc := cX1_setPrice) (maxL := 2) (ret := (some .double)) (by decide +kernel) rfl ?_
  intro p e s m args below meth c s₁ B hml hv
  obtain ⟨rfl, hsz, hP, hK, hD0⟩ := hv
  have hx := B.exec
  have hb := B.bytes
  have hr := B.returns
  have hts := atoms_spec (ws := wsX1_setPrice) B.pre
  have hown : s.vm.findClass RX1 = some m.cls := findClass_of_methodNamed B.named
  have hlocks := B.notSynchronized
  subst hsz
  have hD := hD0.self (sz := s.heap.size)
  generalize hAe : va_A (XW a cI cZ cD sh sw ts bi it tu ne pr so lo wt cn lp lz lu lk ld lf lb lw) s.heap.size = A at hD ⊢
  have hA : ∀ q : Nat, s.heap.size ≤ q → A q := fun q h => by rw [← hAe]; exact Or.inr h
  have hS : va_S A s.heap s.heap [] := va_S.rf
  have hl := lv_entry ([.ref (a 0), .int (nI k)]) (n := 2) (Nat.le_of_ble_eq_true rfl)
  rw [lg_entry_eq]
  generalize (lg_sl ([.ref (a 0), .int (nI k)]) ++ List.replicate (2 - (lg_sl ([.ref (a 0), .int (nI k)])).length) Slot.unset).toArray = ls at hl ⊢
  have hl : lv_has ls 2 [(0, .ref (a 0)), (1, .int (nI k))] := hl
  have inX1 : ∀ w ∈ wsX10, w ∈ wsX1_setPrice := by decide +kernel
  refine lv_iload_n hx hb dX1_setPrice_0 rfl (lv_at hl 1 rfl) ?_
  refine lv_iconst (v := nI 1) hx hb dX1_setPrice_1 (by decide) ?_
  refine lv_iconst (v := nI 4) hx hb dX1_setPrice_2 (by decide) ?_
  refine va_csv (va_Run.run (va_runS (As := [.int (nI k), .int (nI 1), .int (nI 4)]) (rest := []) ⟨hx, hb, hml, hown, hts⟩ (mX1_requireWithinV l (nI k) (nI 1) (nI 4) ⟨nI_le hk.1 (by omega), nI_le (by omega) (by decide)⟩) (va_cwS 3 hts gX1_setPrice_X1_requireWithin rfl rfl rfl (by decide +kernel) ⟨Nat.le_of_ble_eq_true rfl, Nat.le_of_ble_eq_true rfl⟩) ⟨fun a U g mk q => q, fun U hU hW => ⟨rfl, trivial⟩⟩ rfl rfl hl.1 rfl (lv_room (Nat.le_of_ble_eq_true rfl)) dX1_setPrice_3 ⟨Nat.le_of_ble_eq_true rfl, Nat.le_of_ble_eq_true rfl⟩)) (fun _ => ?_)
  refine lv_aload_n hx hb dX1_setPrice_6 rfl (lv_at hl 0 rfl) ?_
  refine lv_iload_n hx hb dX1_setPrice_7 rfl (lv_at hl 1 rfl) ?_
  refine lv_i2d hx hb dX1_setPrice_8 ?_
  refine lv_ldc2d hx hb hown (hts (.constantDouble RX1 75 4616189618054758400) (by decide +kernel)) dX1_setPrice_9 ?_
  refine lv_ddiv hx hb dX1_setPrice_12 (pr_ok k hk.2) ?_
  refine va_put (D := D) (ci := 1) (v := .double (FP.ddiv (FP.i2d (nI k)) 4616189618054758400)) (ty := .double) (C := RX1) (T := TX1) (N := 12) hx hb hts inX1 tyX1 tyX1_ok nmX1 hown hK hP hD hS 0 rfl rfl 7 (by decide) (hts (.fieldLink RX1 39 "GridCommons" "price" "D") (by decide +kernel)) (fun _ h9 => h9) rfl (by decide +kernel) rfl rfl (Nat.le_of_ble_eq_true rfl) dX1_setPrice_13 (fun H locs hP hD hS => ?_)
  have hP : va_P D vwCl (XW a cI cZ cD sh sw ts bi it tu ne (FP.ddiv (FP.i2d (nI k)) 4616189618054758400) so lo wt cn lp lz lu lk ld lf lb lw) H := hP
  have hD : va_D A (XW a cI cZ cD sh sw ts bi it tu ne (FP.ddiv (FP.i2d (nI k)) 4616189618054758400) so lo wt cn lp lz lu lk ld lf lb lw) := hD
  refine lv_aload_n hx hb dX1_setPrice_16 rfl (lv_at hl 0 rfl) ?_
  refine va_get (D := D) (ci := 1) (v := .double (FP.ddiv (FP.i2d (nI k)) 4616189618054758400)) (C := RX1) (T := TX1) (N := 12) hx hb hts inX1 hown hK hP 0 rfl rfl 7 (by decide) (hts (.fieldLink RX1 39 "GridCommons" "price" "D") (by decide +kernel)) (fun _ h9 => h9) rfl dX1_setPrice_17 ?_
  exact W.dret hx hb hr (fun t ht hW => ⟨⟨_, (), rfl, rfl, by rw [ht]; exact hP, va_K.moved hW.alike hK, hD⟩, hS.F ht⟩) hS.2.2 dX1_setPrice_20
set_option maxHeartbeats 4000000 in
set_option maxRecDepth 100000 in
theorem mX1_setPriceX (l : Launch) (hst : l.stackTraces = false) (D : va_G) (cI cZ cD : ClassId) (a : Nat → Nat) (Hp : Heap) (sh sw ts : Nat → Int32) (bi : Nat → UInt64) (it tu : Nat → Int32) (ne : Nat → UInt64) (pr so lo : UInt64) (wt cn : Int32) (lp lz lu : Nat → UInt64) (lk : Nat → Int32) (ld lf lb lw : Nat → UInt64) (x : Int32) (hbad : ¬ inR x 1 4) : vx_Met l yX1_setPrice wsX1_setPrice ({ frames := 7, cells := 1, slots := 6, locals := 104 } : Room) (va_Pc [.ref (a 0), .int x] (XQ D cI cZ cD (XW a cI cZ cD sh sw ts bi it tu ne pr so lo wt cn lp lz lu lk ld lf lb lw) Hp)) (va_Qd (fun _ (_ : Unit) => False) (fun _ _ => True) (fun q => Hp.size ≤ q)) (XE (fun E => E = "java/lang/IllegalArgumentException") Hp.size) 1 6 (fun q => Hp.size ≤ q) := by
  refine vx_ofW (cc := cX1_setPrice) (maxL := 2) (ret := (some .double)) (by decide +kernel) rfl ?_
  intro p e s m args below meth c s₁ B hml htab hv
  obtain ⟨rfl, hsz, ⟨hP, hK, hD⟩, hE⟩ := hv
  have hx := B.exec
  have hb := B.bytes
  have hr := B.returns
  have hts := atoms_spec (ws := wsX1_setPrice) B.pre
  have hown : s.vm.findClass RX1 = some m.cls := findClass_of_methodNamed B.named
  have hlocks := B.notSynchronized
  subst hsz
  have hA : ∀ q : Nat, s.heap.size ≤ q → (fun q => s.heap.size ≤ q) q := fun q h => h
  have hS : va_S (fun q => s.heap.size ≤ q) s.heap s.heap [] := va_S.rf
  have hl := lv_entry ([.ref (a 0), .int x]) (n := 2) (Nat.le_of_ble_eq_true rfl)
  rw [lg_entry_eq]
  generalize (lg_sl ([.ref (a 0), .int x]) ++ List.replicate (2 - (lg_sl ([.ref (a 0), .int x])).length) Slot.unset).toArray = ls at hl ⊢
  have hl : lv_has ls 2 [(0, .ref (a 0)), (1, .int x)] := hl
  refine lv_iload_n hx hb dX1_setPrice_0 rfl (lv_at hl 1 rfl) ?_
  refine lv_iconst (v := nI 1) hx hb dX1_setPrice_1 (by decide) ?_
  refine lv_iconst (v := nI 4) hx hb dX1_setPrice_2 (by decide) ?_
  exact vx_callv (vx_runS (As := [.int x, .int (nI 1), .int (nI 4)]) (rest := []) ⟨hx, hb, hml, hown, hts⟩ (mX1_requireWithin l hst s.heap x (nI 1) (nI 4)) (va_cwS 3 hts gX1_setPrice_X1_requireWithin rfl rfl rfl (by decide +kernel) ⟨Nat.le_of_ble_eq_true rfl, Nat.le_of_ble_eq_true rfl⟩) ⟨xh_blind, xh_pre hE hS hA⟩ rfl rfl hl.1 rfl (lv_room (Nat.le_of_ble_eq_true rfl)) dX1_setPrice_3 ⟨Nat.le_of_ble_eq_true rfl, Nat.le_of_ble_eq_true rfl⟩) hS (fun q h1 h2 => absurd h2 (Nat.not_le.mpr h1)) (fun q h => hA q (Nat.le_trans hS.1 h)) (fun q h1 h2 => absurd h2 (Nat.not_le.mpr h1)) (fun E ce q9 u9 t9 H9 locs9 ht9 hvm9 hpx9 hB9 hz9 hk9 hS9 hce9 hcv9 hcl9 => vx_out (fun x h => (htab x h).elim) hlocks hce9 hcv9 hcl9 (fun t8 ht8 hvm8 => ⟨(), trivial, hB9.1, by rw [ht8]; exact hz9, fun q h1 h2 => by rw [ht8]; exact hk9 q h1 h2⟩) hS9.2.2 (Nat.le_refl _) (Nat.le_refl _)) (fun u t H1 locs1 ht hvm hw hB hz1 hk1 hS1 => absurd hw hbad)
set_option maxHeartbeats 4000000 in
set_option maxRecDepth 100000 in
theorem mX1_tellV (l : Launch) (D : va_G) (cI cZ cD : ClassId) (a : Nat → Nat) (sz : Nat) (sh sw ts : Nat → Int32) (bi : Nat → UInt64) (it tu : Nat → Int32) (ne : Nat → UInt64) (pr so lo : UInt64) (wt cn : Int32) (lp lz lu : Nat → UInt64) (lk : Nat → Int32) (ld lf lb lw : Nat → UInt64) (o : Nat) (use : Int32) (ho : o < 5) (hus : inR use 0 50) (hit : ∀ j, it j = 0 ∨ it j = 1) : Met l yX1_tell wsX1_tell ({ frames := 1, cells := 0, slots := 0, locals := 22 } : Room) (va_Pc [.ref (a 0), .int (nI o), .int use] (XP D cI cZ cD (XW a cI cZ cD sh sw ts bi it tu ne pr so lo wt cn lp lz lu lk ld lf lb lw) sz)) (va_Qi (fun (r : Int32) (u : Unit) => r = it o) (fun (u : Unit) t => XB D cI cZ cD (XW a cI cZ cD sh sw ts bi (upd it o 1) (upd tu o use) ne pr so lo wt cn lp lz lu lk ld lf lb lw) (va_A (XW a cI cZ cD sh sw ts bi it tu ne pr so lo wt cn lp lz lu lk ld lf lb lw) sz) t) (va_A (XW a cI cZ cD sh sw ts bi it tu ne pr so lo wt cn lp lz lu lk ld lf lb lw) sz)) 0 0 (va_A (XW a cI cZ cD sh sw ts bi it tu ne pr so lo wt cn lp lz lu lk ld lf lb lw) sz) := by
  refine Met.ofW (cc := cX1_tell) (maxL := 4) (ret := (some .boolean)) (by decide +kernel) rfl ?_
  intro p e s m args below meth c s₁ B hml hv
  obtain ⟨rfl, hsz, hP, hK, hD0⟩ := hv
  have hx := B.exec
  have hb := B.bytes
  have hr := B.returns
  have hts := atoms_spec (ws := wsX1_tell) B.pre
  have hown : s.vm.findClass RX1 = some m.cls := findClass_of_methodNamed B.named
  have hlocks := B.notSynchronized
  subst hsz
  have hD := hD0.self (sz := s.heap.size)
  generalize hAe : va_A (XW a cI cZ cD sh sw ts bi it tu ne pr so lo wt cn lp lz lu lk ld lf lb lw) s.heap.size = A at hD ⊢
  have hA : ∀ q : Nat, s.heap.size ≤ q → A q := fun q h => by rw [← hAe]; exact Or.inr h
  have hS : va_S A s.heap s.heap [] := va_S.rf
  have hl := lv_entry ([.ref (a 0), .int (nI o), .int use]) (n := 4) (Nat.le_of_ble_eq_true rfl)
  rw [lg_entry_eq]
  generalize (lg_sl ([.ref (a 0), .int (nI o), .int use]) ++ List.replicate (4 - (lg_sl ([.ref (a 0), .int (nI o), .int use])).length) Slot.unset).toArray = ls at hl ⊢
  have hl : lv_has ls 4 [(0, .ref (a 0)), (1, .int (nI o)), (2, .int use)] := hl
  have inX1 : ∀ w ∈ wsX10, w ∈ wsX1_tell := by decide +kernel
  refine lv_iload_n hx hb dX1_tell_0 rfl (lv_at hl 1 rfl) ?_
  refine va_csv (va_Run.run (va_runS (As := [.int (nI o)]) (rest := []) ⟨hx, hb, hml, hown, hts⟩ (mX1_requireOwnerV l (nI o) (nI_inR (n := 4) (by omega) (by decide))) (va_cwS 1 hts gX1_tell_X1_requireOwner rfl rfl rfl (by decide +kernel) ⟨Nat.le_of_ble_eq_true rfl, Nat.le_of_ble_eq_true rfl⟩) ⟨fun a U g mk q => q, fun U hU hW => ⟨rfl, trivial⟩⟩ rfl rfl hl.1 rfl (lv_room (Nat.le_of_ble_eq_true rfl)) dX1_tell_1 ⟨Nat.le_of_ble_eq_true rfl, Nat.le_of_ble_eq_true rfl⟩)) (fun _ => ?_)
  refine lv_iload_n hx hb dX1_tell_4 rfl (lv_at hl 2 rfl) ?_
  refine lv_iconst (v := nI 0) hx hb dX1_tell_5 (by decide) ?_
  refine lv_bipush (v := nI 50) hx hb dX1_tell_6 (by decide) ?_
  refine va_csv (va_Run.run (va_runS (As := [.int use, .int (nI 0), .int (nI 50)]) (rest := []) ⟨hx, hb, hml, hown, hts⟩ (mX1_requireWithinV l use (nI 0) (nI 50) hus) (va_cwS 3 hts gX1_tell_X1_requireWithin rfl rfl rfl (by decide +kernel) ⟨Nat.le_of_ble_eq_true rfl, Nat.le_of_ble_eq_true rfl⟩) ⟨fun a U g mk q => q, fun U hU hW => ⟨rfl, trivial⟩⟩ rfl rfl hl.1 rfl (lv_room (Nat.le_of_ble_eq_true rfl)) dX1_tell_8 ⟨Nat.le_of_ble_eq_true rfl, Nat.le_of_ble_eq_true rfl⟩)) (fun _ => ?_)
  refine lv_aload_n hx hb dX1_tell_11 rfl (lv_at hl 0 rfl) ?_
  refine va_get (D := D) (ci := 1) (v := .ref (a 5)) (C := RX1) (T := TX1) (N := 12) hx hb hts inX1 hown hK hP 0 rfl rfl 4 (by decide) (hts (.fieldLink RX1 24 "GridCommons" "isTold" "[Z") (by decide +kernel)) (fun _ h9 => h9) rfl dX1_tell_12 ?_
  refine lv_iload_n hx hb dX1_tell_15 rfl (lv_at hl 1 rfl) ?_
  refine xk_zald hx hb hK hP 5 1 rfl rfl (o := o) (by omega) (by decide) dX1_tell_16 ?_
  refine lv_istore_n (lv' := [(3, .int (it o)), (0, .ref (a 0)), (1, .int (nI o)), (2, .int use)]) hx hb dX1_tell_17 rfl hl (by decide) rfl (fun ls hl => ?_)
  refine lv_aload_n hx hb dX1_tell_18 rfl (lv_at hl 1 rfl) ?_
  refine va_get (D := D) (ci := 1) (v := .ref (a 5)) (C := RX1) (T := TX1) (N := 12) hx hb hts inX1 hown hK hP 0 rfl rfl 4 (by decide) (hts (.fieldLink RX1 24 "GridCommons" "isTold" "[Z") (by decide +kernel)) (fun _ h9 => h9) rfl dX1_tell_19 ?_
  refine lv_iload_n hx hb dX1_tell_22 rfl (lv_at hl 2 rfl) ?_
  refine lv_iconst (v := nI 1) hx hb dX1_tell_23 (by decide) ?_
  refine xk_zast (x' := 1) hx hb hK hP hD hS 5 1 rfl rfl (o := o) (by omega) (by decide) rfl dX1_tell_24 (fun H locs hP hD hS => ?_)
  have hP : va_P D vwCl (XW a cI cZ cD sh sw ts bi (upd it o 1) tu ne pr so lo wt cn lp lz lu lk ld lf lb lw) H := hP
  have hD : va_D A (XW a cI cZ cD sh sw ts bi (upd it o 1) tu ne pr so lo wt cn lp lz lu lk ld lf lb lw) := hD
  refine lv_aload_n hx hb dX1_tell_25 rfl (lv_at hl 1 rfl) ?_
  refine va_get (D := D) (ci := 1) (v := .ref (a 6)) (C := RX1) (T := TX1) (N := 12) hx hb hts inX1 hown hK hP 0 rfl rfl 5 (by decide) (hts (.fieldLink RX1 27 "GridCommons" "toldUse" "[I") (by decide +kernel)) (fun _ h9 => h9) rfl dX1_tell_26 ?_
  refine lv_iload_n hx hb dX1_tell_29 rfl (lv_at hl 2 rfl) ?_
  refine lv_iload_n hx hb dX1_tell_30 rfl (lv_at hl 3 rfl) ?_
  refine xk_iast hx hb hK hP hD hS 6 0 rfl rfl (o := o) (by omega) (by decide) dX1_tell_31 (fun H locs hP hD hS => ?_)
  have hP : va_P D vwCl (XW a cI cZ cD sh sw ts bi (upd it o 1) (upd tu o use) ne pr so lo wt cn lp lz lu lk ld lf lb lw) H := hP
  have hD : va_D A (XW a cI cZ cD sh sw ts bi (upd it o 1) (upd tu o use) ne pr so lo wt cn lp lz lu lk ld lf lb lw) := hD
  refine lv_iload_n hx hb dX1_tell_32 rfl (lv_at hl 0 rfl) ?_
  exact W.zret hx hb hr (nar01n (hit o)) (fun t ht hW => ⟨⟨_, (), rfl, rfl, by rw [ht]; exact hP, va_K.moved hW.alike hK, hD⟩, hS.F ht⟩) hS.2.2 dX1_tell_33
set_option maxHeartbeats 4000000 in
set_option maxRecDepth 100000 in
theorem mX1_tellX (l : Launch) (hst : l.stackTraces = false) (D : va_G) (cI cZ cD : ClassId) (a : Nat → Nat) (Hp : Heap) (sh sw ts : Nat → Int32) (bi : Nat → UInt64) (it tu : Nat → Int32) (ne : Nat → UInt64) (pr so lo : UInt64) (wt cn : Int32) (lp lz lu : Nat → UInt64) (lk : Nat → Int32) (ld lf lb lw : Nat → UInt64) (x use : Int32) (hbad : ¬ (inR x 0 4 ∧ inR use 0 50)) : vx_Met l yX1_tell wsX1_tell ({ frames := 7, cells := 1, slots := 6, locals := 104 } : Room) (va_Pc [.ref (a 0), .int x, .int use] (XQ D cI cZ cD (XW a cI cZ cD sh sw ts bi it tu ne pr so lo wt cn lp lz lu lk ld lf lb lw) Hp)) (va_Qi (fun _ (_ : Unit) => False) (fun _ _ => True) (fun q => Hp.size ≤ q)) (XE (fun E => E = "java/lang/IllegalArgumentException") Hp.size) 1 6 (fun q => Hp.size ≤ q) := by
  refine vx_ofW (cc := cX1_tell) (maxL := 4) (ret := (some .boolean)) (by decide +kernel) rfl ?_
  intro p e s m args below meth c s₁ B hml htab hv
  obtain ⟨rfl, hsz, ⟨hP, hK, hD⟩, hE⟩ := hv
  have hx := B.exec
  have hb := B.bytes
  have hr := B.returns
  have hts := atoms_spec (ws := wsX1_tell) B.pre
  have hown : s.vm.findClass RX1 = some m.cls := findClass_of_methodNamed B.named
  have hlocks := B.notSynchronized
  subst hsz
  have hA : ∀ q : Nat, s.heap.size ≤ q → (fun q => s.heap.size ≤ q) q := fun q h => h
  have hS : va_S (fun q => s.heap.size ≤ q) s.heap s.heap [] := va_S.rf
  have hl := lv_entry ([.ref (a 0), .int x, .int use]) (n := 4) (Nat.le_of_ble_eq_true rfl)
  rw [lg_entry_eq]
  generalize (lg_sl ([.ref (a 0), .int x, .int use]) ++ List.replicate (4 - (lg_sl ([.ref (a 0), .int x, .int use])).length) Slot.unset).toArray = ls at hl ⊢
  have hl : lv_has ls 4 [(0, .ref (a 0)), (1, .int x), (2, .int use)] := hl
  refine lv_iload_n hx hb dX1_tell_0 rfl (lv_at hl 1 rfl) ?_
  by_cases hin : inR x 0 4
  · skip
    refine va_csv (va_Run.run (va_runS (As := [.int x]) (rest := []) ⟨hx, hb, hml, hown, hts⟩ (mX1_requireOwnerV l x hin) (va_cwS 1 hts gX1_tell_X1_requireOwner rfl rfl rfl (by decide +kernel) ⟨Nat.le_of_ble_eq_true rfl, Nat.le_of_ble_eq_true rfl⟩) ⟨fun a U g mk q => q, fun U hU hW => ⟨rfl, trivial⟩⟩ rfl rfl hl.1 rfl (lv_room (Nat.le_of_ble_eq_true rfl)) dX1_tell_1 ⟨Nat.le_of_ble_eq_true rfl, Nat.le_of_ble_eq_true rfl⟩)) (fun _ => ?_)
    refine lv_iload_n hx hb dX1_tell_4 rfl (lv_at hl 2 rfl) ?_
    refine lv_iconst (v := nI 0) hx hb dX1_tell_5 (by decide) ?_
    refine lv_bipush (v := nI 50) hx hb dX1_tell_6 (by decide) ?_
    exact vx_callv (vx_runS (As := [.int use, .int (nI 0), .int (nI 50)]) (rest := []) ⟨hx, hb, hml, hown, hts⟩ (mX1_requireWithin l hst s.heap use (nI 0) (nI 50)) (va_cwS 3 hts gX1_tell_X1_requireWithin rfl rfl rfl (by decide +kernel) ⟨Nat.le_of_ble_eq_true rfl, Nat.le_of_ble_eq_true rfl⟩) ⟨xh_blind, xh_pre hE hS hA⟩ rfl rfl hl.1 rfl (lv_room (Nat.le_of_ble_eq_true rfl)) dX1_tell_8 ⟨Nat.le_of_ble_eq_true rfl, Nat.le_of_ble_eq_true rfl⟩) hS (fun q h1 h2 => absurd h2 (Nat.not_le.mpr h1)) (fun q h => hA q (Nat.le_trans hS.1 h)) (fun q h1 h2 => absurd h2 (Nat.not_le.mpr h1)) (fun E ce q9 u9 t9 H9 locs9 ht9 hvm9 hpx9 hB9 hz9 hk9 hS9 hce9 hcv9 hcl9 => vx_out (fun x h => (htab x h).elim) hlocks hce9 hcv9 hcl9 (fun t8 ht8 hvm8 => ⟨(), trivial, hB9.1, by rw [ht8]; exact hz9, fun q h1 h2 => by rw [ht8]; exact hk9 q h1 h2⟩) hS9.2.2 (Nat.le_refl _) (Nat.le_refl _)) (fun u t H1 locs1 ht hvm hw hB hz1 hk1 hS1 => absurd ⟨hin, hw⟩ hbad)
  · skip
    exact vx_callv (vx_runS (As := [.int x]) (rest := []) ⟨hx, hb, hml, hown, hts⟩ (mX1_requireOwner l hst s.heap x) (va_cwS 1 hts gX1_tell_X1_requireOwner rfl rfl rfl (by decide +kernel) ⟨Nat.le_of_ble_eq_true rfl, Nat.le_of_ble_eq_true rfl⟩) ⟨xh_blind, xh_pre hE hS hA⟩ rfl rfl hl.1 rfl (lv_room (Nat.le_of_ble_eq_true rfl)) dX1_tell_1 ⟨Nat.le_of_ble_eq_true rfl, Nat.le_of_ble_eq_true rfl⟩) hS (fun q h1 h2 => absurd h2 (Nat.not_le.mpr h1)) (fun q h => hA q (Nat.le_trans hS.1 h)) (fun q h1 h2 => absurd h2 (Nat.not_le.mpr h1)) (fun E ce q9 u9 t9 H9 locs9 ht9 hvm9 hpx9 hB9 hz9 hk9 hS9 hce9 hcv9 hcl9 => vx_out (fun x h => (htab x h).elim) hlocks hce9 hcv9 hcl9 (fun t8 ht8 hvm8 => ⟨(), trivial, hB9.1, by rw [ht8]; exact hz9, fun q h1 h2 => by rw [ht8]; exact hk9 q h1 h2⟩) hS9.2.2 (Nat.le_refl _) (Nat.le_refl _)) (fun u t H1 locs1 ht hvm hw hB hz1 hk1 hS1 => absurd hw hin)
set_option maxHeartbeats 4000000 in
set_option maxRecDepth 100000 in
theorem mX1_replaceV (l : Launch) (D : va_G) (cI cZ cD : ClassId) (a : Nat → Nat) (sz : Nat) (sh sw ts : Nat → Int32) (bi : Nat → UInt64) (it tu : Nat → Int32) (ne : Nat → UInt64) (pr so lo : UInt64) (wt : Int32) (lp lz lu : Nat → UInt64) (lk : Nat → Int32) (ld lf lb lw : Nat → UInt64) (n o q : Nat) (use : Int32) (hn : n ≤ 60) (ho : o < 5) (hq : q < n) (hus : inR use 0 50) (hkn : lk (5 * q + o) = 0) : MetD lw_cs l yX1_replace wsX1_replace ({ frames := 1, cells := 0, slots := 0, locals := 22 } : Room) (va_Pc [.ref (a 0), .int (nI o), .int (nI q), .int use] (XP D cI cZ cD (XW a cI cZ cD sh sw ts bi it tu ne pr so lo wt (nI n) lp lz lu lk ld lf lb lw) sz)) (va_Qd (fun (r : UInt64) (u : Nat → UInt64) => dt r = dMul (dSub (dI use) (dts ld (5 * q + o))) (dts lp q) ∧ dts u = va_up (dts bi) o (dAdd (dts bi o) (dMul (dSub (dI use) (dts ld (5 * q + o))) (dts lp q)))) (fun (u : Nat → UInt64) t => XB D cI cZ cD (XW a cI cZ cD sh sw ts u it tu ne pr so lo wt (nI n) lp lz (vf_upd lu (5 * q + o) (FP.i2d use)) (upd lk (5 * q + o) 1) ld lf lb lw) (va_A (XW a cI cZ cD sh sw ts bi it tu ne pr so lo wt (nI n) lp lz lu lk ld lf lb lw) sz) t) (va_A (XW a cI cZ cD sh sw ts bi it tu ne pr so lo wt (nI n) lp lz lu lk ld lf lb lw) sz)) 0 0 (va_A (XW a cI cZ cD sh sw ts bi it tu ne pr so lo wt (nI n) lp lz lu lk ld lf lb lw) sz) := by
  refine MetD.ofW (cc := cX1_replace) (maxL := 7) (ret := (some .double)) (by decide +kernel) rfl ?_
  intro p e s m args below meth c s₁ B hml hv hd0
  obtain ⟨rfl, hsz, hP, hK, hD0⟩ := hv
  have hx := B.exec
  have hb := B.bytes
  have hr := B.returns
  have hts := atoms_spec (ws := wsX1_replace) B.pre
  have hown : s.vm.findClass RX1 = some m.cls := findClass_of_methodNamed B.named
  have hlocks := B.notSynchronized
  subst hsz
  have hD := hD0.self (sz := s.heap.size)
  generalize hAe : va_A (XW a cI cZ cD sh sw ts bi it tu ne pr so lo wt (nI n) lp lz lu lk ld lf lb lw) s.heap.size = A at hD ⊢
  have hA : ∀ q : Nat, s.heap.size ≤ q → A q := fun q h => by rw [← hAe]; exact Or.inr h
  have hS : va_S A s.heap s.heap [] := va_S.rf
  have hl := lv_entry ([.ref (a 0), .int (nI o), .int (nI q), .int use]) (n := 7) (Nat.le_of_ble_eq_true rfl)
  rw [lg_entry_eq]
  generalize (lg_sl ([.ref (a 0), .int (nI o), .int (nI q), .int use]) ++ List.replicate (7 - (lg_sl ([.ref (a 0), .int (nI o), .int (nI q), .int use])).length) Slot.unset).toArray = ls at hl ⊢
  have hl : lv_has ls 7 [(0, .ref (a 0)), (1, .int (nI o)), (2, .int (nI q)), (3, .int use)] := hl
  have inX1 : ∀ w ∈ wsX10, w ∈ wsX1_replace := by decide +kernel
  have inX0 : ∀ w ∈ wsX00, w ∈ wsX1_replace := by decide +kernel
  refine lv_iload_n hx hb dX1_replace_0 rfl (lv_at hl 1 rfl) ?_
  refine va_csv (va_Run.run (va_runS (As := [.int (nI o)]) (rest := []) ⟨hx, hb, hml, (xk_od hown), (dr_words hts _)⟩ (mX1_requireOwnerV l (nI o) (nI_inR (n := 4) (by omega) (by decide))) (va_cwS 1 (dr_words hts _) gX1_replace_X1_requireOwner rfl rfl rfl (by decide +kernel) ⟨Nat.le_of_ble_eq_true rfl, Nat.le_of_ble_eq_true rfl⟩) ⟨fun a U g mk q => q, fun U hU hW => ⟨rfl, trivial⟩⟩ rfl rfl hl.1 rfl (lv_room (Nat.le_of_ble_eq_true rfl)) dX1_replace_1 ⟨Nat.le_of_ble_eq_true rfl, Nat.le_of_ble_eq_true rfl⟩)) (fun _ => ?_)
  refine lv_iload_n hx hb dX1_replace_4 rfl (lv_at hl 3 rfl) ?_
  refine lv_iconst (v := nI 0) hx hb dX1_replace_5 (by decide) ?_
  refine lv_bipush (v := nI 50) hx hb dX1_replace_6 (by decide) ?_
  refine va_csv (va_Run.run (va_runS (As := [.int use, .int (nI 0), .int (nI 50)]) (rest := []) ⟨hx, hb, hml, (xk_od hown), (dr_words hts _)⟩ (mX1_requireWithinV l use (nI 0) (nI 50) hus) (va_cwS 3 (dr_words hts _) gX1_replace_X1_requireWithin rfl rfl rfl (by decide +kernel) ⟨Nat.le_of_ble_eq_true rfl, Nat.le_of_ble_eq_true rfl⟩) ⟨fun a U g mk q => q, fun U hU hW => ⟨rfl, trivial⟩⟩ rfl rfl hl.1 rfl (lv_room (Nat.le_of_ble_eq_true rfl)) dX1_replace_8 ⟨Nat.le_of_ble_eq_true rfl, Nat.le_of_ble_eq_true rfl⟩)) (fun _ => ?_)
  refine lv_aload_n hx hb dX1_replace_11 rfl (lv_at hl 0 rfl) ?_
  refine lv_iload_n hx hb dX1_replace_12 rfl (lv_at hl 2 rfl) ?_
  refine va_csv (va_Run.run (va_runV (As := [.int (nI q)]) (rest := []) ⟨hx, hb, hml, (xk_od hown), (dr_words hts _)⟩ (mX1_requireQuarterV l D cI cZ cD a _ sh sw ts bi it tu ne pr so lo wt lp lz lu lk ld lf lb lw n (nI q) ⟨nI_pos' (by omega), nI_lt hq (by omega)⟩) (cwV 1 (dr_words hts _) gX1_replace_X1_requireQuarter rfl rfl rfl (by decide +kernel) ⟨Nat.le_of_ble_eq_true rfl, Nat.le_of_ble_eq_true rfl⟩) ⟨xk_blind, va_recv (xk_Kd hK) hP (ci := 1) (q0 := 0) rfl rfl, xk_pre hP (xk_Kd hK) hD⟩ rfl rfl hl.1 rfl (lv_room (Nat.le_of_ble_eq_true rfl)) dX1_replace_13 ⟨Nat.le_of_ble_eq_true rfl, Nat.le_of_ble_eq_true rfl⟩)) (fun _ => ?_)
  refine lv_iload_n hx hb dX1_replace_16 rfl (lv_at hl 1 rfl) ?_
  refine lv_iload_n hx hb dX1_replace_17 rfl (lv_at hl 2 rfl) ?_
  refine vp_callSi (va_Run.run (va_runS (As := [.int (nI o), .int (nI q)]) (rest := []) ⟨hx, hb, hml, (xk_od hown), (dr_words hts _)⟩ (mX0_slot l o q) (va_cwS 2 (dr_words hts _) gX1_replace_X0_slot rfl rfl rfl (by decide +kernel) ⟨Nat.le_of_ble_eq_true rfl, Nat.le_of_ble_eq_true rfl⟩) ⟨fun a U g mk q => q, fun U hU hW => ⟨rfl, trivial⟩⟩ rfl rfl hl.1 rfl (lv_room (Nat.le_of_ble_eq_true rfl)) dX1_replace_18 ⟨Nat.le_of_ble_eq_true rfl, Nat.le_of_ble_eq_true rfl⟩)) (fun r hr1 => ?_)
  subst hr1
  refine lv_istore (lv' := [(4, .int (nI (5 * q + o))), (0, .ref (a 0)), (1, .int (nI o)), (2, .int (nI q)), (3, .int use)]) hx hb dX1_replace_21 hl (by decide) rfl (fun ls hl => ?_)
  refine lv_aload_n hx hb dX1_replace_23 rfl (lv_at hl 1 rfl) ?_
  refine va_get (D := D) (ci := 1) (v := .ref (a 8)) (C := RX1) (T := TX1) (N := 12) hx hb (dr_words hts _) inX1 (xk_od hown) (xk_Kd hK) hP 0 rfl rfl 6 (by decide) (dr_words hts _ (.fieldLink RX1 33 "GridCommons" "ledger" "LGridCommons$Ledger;") (by decide +kernel)) (fun _ h9 => h9) rfl dX1_replace_24 ?_
  refine va_get (D := D) (ci := 0) (v := .ref (a 12)) (C := RX0) (T := TX0) (N := 9) hx hb (dr_words hts _) inX0 (xk_od hown) (xk_Kd hK) hP 8 rfl rfl 4 (by decide) (dr_words hts _ (.fieldLink RX1 120 "GridCommons$Ledger" "known" "[Z") (by decide +kernel)) (fun _ h9 => h9) rfl dX1_replace_27 ?_
  refine lv_iload hx hb dX1_replace_30 (lv_at hl 0 rfl) ?_
  refine xk_zald hx hb (xk_Kd hK) hP 12 1 rfl rfl (o := (5 * q + o)) (by omega) (by decide) dX1_replace_32 ?_
  refine lv_if_eq (tgt := 46) hx hb dX1_replace_33 (by decide) (fun c => ?_) (fun c => ?_)
  · skip
    refine lv_aload_n hx hb dX1_replace_46 rfl (lv_at hl 1 rfl) ?_
    refine va_get (D := D) (ci := 1) (v := .ref (a 8)) (C := RX1) (T := TX1) (N := 12) hx hb (dr_words hts _) inX1 (xk_od hown) (xk_Kd hK) hP 0 rfl rfl 6 (by decide) (dr_words hts _ (.fieldLink RX1 33 "GridCommons" "ledger" "LGridCommons$Ledger;") (by decide +kernel)) (fun _ h9 => h9) rfl dX1_replace_47 ?_
    refine va_get (D := D) (ci := 0) (v := .ref (a 12)) (C := RX0) (T := TX0) (N := 9) hx hb (dr_words hts _) inX0 (xk_od hown) (xk_Kd hK) hP 8 rfl rfl 4 (by decide) (dr_words hts _ (.fieldLink RX1 120 "GridCommons$Ledger" "known" "[Z") (by decide +kernel)) (fun _ h9 => h9) rfl dX1_replace_50 ?_
    refine lv_iload hx hb dX1_replace_53 (lv_at hl 0 rfl) ?_
    refine lv_iconst (v := nI 1) hx hb dX1_replace_55 (by decide) ?_
    refine xk_zast (x' := 1) hx hb (xk_Kd hK) hP hD hS 12 1 rfl rfl (o := (5 * q + o)) (by omega) (by decide) rfl dX1_replace_56 (fun H locs hP hD hS => ?_)
    have hP : va_P D vwCl (XW a cI cZ cD sh sw ts bi it tu ne pr so lo wt (nI n) lp lz lu (upd lk (5 * q + o) 1) ld lf lb lw) H := hP
    have hD : va_D A (XW a cI cZ cD sh sw ts bi it tu ne pr so lo wt (nI n) lp lz lu (upd lk (5 * q + o) 1) ld lf lb lw) := hD
    refine lv_aload_n hx hb dX1_replace_57 rfl (lv_at hl 1 rfl) ?_
    refine va_get (D := D) (ci := 1) (v := .ref (a 8)) (C := RX1) (T := TX1) (N := 12) hx hb (dr_words hts _) inX1 (xk_od hown) (xk_Kd hK) hP 0 rfl rfl 6 (by decide) (dr_words hts _ (.fieldLink RX1 33 "GridCommons" "ledger" "LGridCommons$Ledger;") (by decide +kernel)) (fun _ h9 => h9) rfl dX1_replace_58 ?_
    refine va_get (D := D) (ci := 0) (v := .ref (a 11)) (C := RX0) (T := TX0) (N := 9) hx hb (dr_words hts _) inX0 (xk_od hown) (xk_Kd hK) hP 8 rfl rfl 3 (by decide) (dr_words hts _ (.fieldLink RX1 125 "GridCommons$Ledger" "use" "[D") (by decide +kernel)) (fun _ h9 => h9) rfl dX1_replace_61 ?_
    refine lv_iload hx hb dX1_replace_64 (lv_at hl 0 rfl) ?_
    refine lv_iload_n hx hb dX1_replace_66 rfl (lv_at hl 4 rfl) ?_
    refine lv_i2d hx hb dX1_replace_67 ?_
    refine xk_dast hx hb (xk_Kd hK) hP hD hS 11 2 rfl rfl (o := (5 * q + o)) (by omega) (by decide) dX1_replace_68 (fun H locs hP hD hS => ?_)
    have hP : va_P D vwCl (XW a cI cZ cD sh sw ts bi it tu ne pr so lo wt (nI n) lp lz (vf_upd lu (5 * q + o) (FP.i2d use)) (upd lk (5 * q + o) 1) ld lf lb lw) H := hP
    have hD : va_D A (XW a cI cZ cD sh sw ts bi it tu ne pr so lo wt (nI n) lp lz (vf_upd lu (5 * q + o) (FP.i2d use)) (upd lk (5 * q + o) 1) ld lf lb lw) := hD
    refine lv_iload_n hx hb dX1_replace_69 rfl (lv_at hl 4 rfl) ?_
    refine lv_i2d hx hb dX1_replace_70 ?_
    refine lv_aload_n hx hb dX1_replace_71 rfl (lv_at hl 1 rfl) ?_
    refine va_get (D := D) (ci := 1) (v := .ref (a 8)) (C := RX1) (T := TX1) (N := 12) hx hb (dr_words hts _) inX1 (xk_od hown) (xk_Kd hK) hP 0 rfl rfl 6 (by decide) (dr_words hts _ (.fieldLink RX1 33 "GridCommons" "ledger" "LGridCommons$Ledger;") (by decide +kernel)) (fun _ h9 => h9) rfl dX1_replace_72 ?_
    refine va_get (D := D) (ci := 0) (v := .ref (a 13)) (C := RX0) (T := TX0) (N := 9) hx hb (dr_words hts _) inX0 (xk_od hown) (xk_Kd hK) hP 8 rfl rfl 5 (by decide) (dr_words hts _ (.fieldLink RX1 128 "GridCommons$Ledger" "used" "[D") (by decide +kernel)) (fun _ h9 => h9) rfl dX1_replace_75 ?_
    refine lv_iload hx hb dX1_replace_78 (lv_at hl 0 rfl) ?_
    refine xk_dald hx hb (xk_Kd hK) hP 13 2 rfl rfl (o := (5 * q + o)) (by omega) (by decide) dX1_replace_80 ?_
    refine lv_dsub_any hd0 lw_bits hx hb dX1_replace_81 (fun r1 _ hal hd2 => ?_)
    have er1 := dt_sub hal
    refine lv_aload_n hx hb dX1_replace_82 rfl (lv_at hl 1 rfl) ?_
    refine va_get (D := D) (ci := 1) (v := .ref (a 8)) (C := RX1) (T := TX1) (N := 12) hx hb (dr_words hts _) inX1 (xk_od hown) (xk_Kd hK) hP 0 rfl rfl 6 (by decide) (dr_words hts _ (.fieldLink RX1 33 "GridCommons" "ledger" "LGridCommons$Ledger;") (by decide +kernel)) (fun _ h9 => h9) rfl dX1_replace_83 ?_
    refine va_get (D := D) (ci := 0) (v := .ref (a 9)) (C := RX0) (T := TX0) (N := 9) hx hb (dr_words hts _) inX0 (xk_od hown) (xk_Kd hK) hP 8 rfl rfl 1 (by decide) (dr_words hts _ (.fieldLink RX1 82 "GridCommons$Ledger" "price" "[D") (by decide +kernel)) (fun _ h9 => h9) rfl dX1_replace_86 ?_
    refine lv_iload_n hx hb dX1_replace_89 rfl (lv_at hl 3 rfl) ?_
    refine xk_dald hx hb (xk_Kd hK) hP 9 2 rfl rfl (o := q) (by omega) (by decide) dX1_replace_90 ?_
    refine lv_dmul_any hd2 lw_bits hx hb dX1_replace_91 (fun r3 _ hal hd4 => ?_)
    have er3 := dt_mul hal
    refine lv_dstore (lv' := [(5, .double r3), (4, .int (nI (5 * q + o))), (0, .ref (a 0)), (1, .int (nI o)), (2, .int (nI q)), (3, .int use)]) hx hb dX1_replace_92 hl (by decide) rfl (fun ls hl => ?_)
    refine lv_aload_n hx hb dX1_replace_94 rfl (lv_at hl 2 rfl) ?_
    refine va_get (D := D) (ci := 1) (v := .ref (a 4)) (C := RX1) (T := TX1) (N := 12) hx hb (dr_words hts _) inX1 (xk_od hown) (xk_Kd hK) hP 0 rfl rfl 3 (by decide) (dr_words hts _ (.fieldLink RX1 20 "GridCommons" "bills" "[D") (by decide +kernel)) (fun _ h9 => h9) rfl dX1_replace_95 ?_
    refine lv_iload_n hx hb dX1_replace_98 rfl (lv_at hl 3 rfl) ?_
    refine lv_dup2_11 hx hb dX1_replace_99 rfl rfl ?_
    refine xk_dald hx hb (xk_Kd hK) hP 4 2 rfl rfl (o := o) (by omega) (by decide) dX1_replace_100 ?_
    refine lv_dload hx hb dX1_replace_101 (lv_at hl 0 rfl) ?_
    refine lv_dadd_any hd4 lw_bits hx hb dX1_replace_103 (fun r5 _ hal hd6 => ?_)
    have er5 := dt_add hal
    refine xk_dast hx hb (xk_Kd hK) hP hD hS 4 2 rfl rfl (o := o) (by omega) (by decide) dX1_replace_104 (fun H locs hP hD hS => ?_)
    have hP : va_P D vwCl (XW a cI cZ cD sh sw ts (vf_upd bi o r5) it tu ne pr so lo wt (nI n) lp lz (vf_upd lu (5 * q + o) (FP.i2d use)) (upd lk (5 * q + o) 1) ld lf lb lw) H := hP
    have hD : va_D A (XW a cI cZ cD sh sw ts (vf_upd bi o r5) it tu ne pr so lo wt (nI n) lp lz (vf_upd lu (5 * q + o) (FP.i2d use)) (upd lk (5 * q + o) 1) ld lf lb lw) := hD
    refine lv_dload hx hb dX1_replace_105 (lv_at hl 0 rfl) ?_
    have ec : dt r3 = dMul (dSub (dI use) (dts ld (5 * q + o))) (dts lp q) := by rw [er3, er1]; rfl
    refine W.endD hd6 ?_
    exact W.dret hx hb hr (fun t ht hW => ⟨⟨_, (vf_upd bi o r5), rfl, ⟨ec, by rw [dts_up, er5, ec]; rfl⟩, by rw [ht]; exact hP, va_K.moved hW.alike (xk_Kd hK), hD⟩, hS.F ht⟩) hS.2.2 dX1_replace_107
  · skip
    exact absurd hkn c
set_option maxHeartbeats 4000000 in
set_option maxRecDepth 100000 in
theorem mX1_replaceX (l : Launch) (hst : l.stackTraces = false) (D : va_G) (cI cZ cD : ClassId) (a : Nat → Nat) (Hp : Heap) (sh sw ts : Nat → Int32) (bi : Nat → UInt64) (it tu : Nat → Int32) (ne : Nat → UInt64) (pr so lo : UInt64) (wt : Int32) (lp lz lu : Nat → UInt64) (lk : Nat → Int32) (ld lf lb lw : Nat → UInt64) (n : Nat) (hn : n ≤ 60) (x q use : Int32) (hbad : ¬ (inR x 0 4 ∧ inR use 0 50 ∧ isQ n q ∧ ¬ kn lk x q)) : vx_Met l yX1_replace wsX1_replace ({ frames := 7, cells := 1, slots := 6, locals := 104 } : Room) (va_Pc [.ref (a 0), .int x, .int q, .int use] (XQ D cI cZ cD (XW a cI cZ cD sh sw ts bi it tu ne pr so lo wt (nI n) lp lz lu lk ld lf lb lw) Hp)) (va_Qd (fun _ (_ : Unit) => False) (fun _ _ => True) (fun q => Hp.size ≤ q)) (XE (fun E => (E = "java/lang/IllegalArgumentException" ∧ ¬ (inR x 0 4 ∧ inR use 0 50)) ∨ (E = "java/lang/IndexOutOfBoundsException" ∧ inR x 0 4 ∧ inR use 0 50 ∧ ¬ isQ n q) ∨ (E = "java/lang/IllegalStateException" ∧ inR x 0 4 ∧ inR use 0 50 ∧ isQ n q ∧ kn lk x q)) Hp.size) 1 6 (fun q => Hp.size ≤ q) := by
  refine vx_ofW (cc := cX1_replace) (maxL := 7) (ret := (some .double)) (by decide +kernel) rfl ?_
  intro p e s m args below meth c s₁ B hml htab hv
  obtain ⟨rfl, hsz, ⟨hP, hK, hD⟩, hE⟩ := hv
  have hx := B.exec
  have hb := B.bytes
  have hr := B.returns
  have hts := atoms_spec (ws := wsX1_replace) B.pre
  have hown : s.vm.findClass RX1 = some m.cls := findClass_of_methodNamed B.named
  have hlocks := B.notSynchronized
  subst hsz
  have hA : ∀ q : Nat, s.heap.size ≤ q → (fun q => s.heap.size ≤ q) q := fun q h => h
  have hS : va_S (fun q => s.heap.size ≤ q) s.heap s.heap [] := va_S.rf
  have hl := lv_entry ([.ref (a 0), .int x, .int q, .int use]) (n := 7) (Nat.le_of_ble_eq_true rfl)
  rw [lg_entry_eq]
  generalize (lg_sl ([.ref (a 0), .int x, .int q, .int use]) ++ List.replicate (7 - (lg_sl ([.ref (a 0), .int x, .int q, .int use])).length) Slot.unset).toArray = ls at hl ⊢
  have hl : lv_has ls 7 [(0, .ref (a 0)), (1, .int x), (2, .int q), (3, .int use)] := hl
  have inX1 : ∀ w ∈ wsX10, w ∈ wsX1_replace := by decide +kernel
  have inX0 : ∀ w ∈ wsX00, w ∈ wsX1_replace := by decide +kernel
  refine lv_iload_n hx hb dX1_replace_0 rfl (lv_at hl 1 rfl) ?_
  by_cases hin : inR x 0 4
  · skip
    refine va_csv (va_Run.run (va_runS (As := [.int x]) (rest := []) ⟨hx, hb, hml, hown, hts⟩ (mX1_requireOwnerV l x hin) (va_cwS 1 hts gX1_replace_X1_requireOwner rfl rfl rfl (by decide +kernel) ⟨Nat.le_of_ble_eq_true rfl, Nat.le_of_ble_eq_true rfl⟩) ⟨fun a U g mk q => q, fun U hU hW => ⟨rfl, trivial⟩⟩ rfl rfl hl.1 rfl (lv_room (Nat.le_of_ble_eq_true rfl)) dX1_replace_1 ⟨Nat.le_of_ble_eq_true rfl, Nat.le_of_ble_eq_true rfl⟩)) (fun _ => ?_)
    refine lv_iload_n hx hb dX1_replace_4 rfl (lv_at hl 3 rfl) ?_
    refine lv_iconst (v := nI 0) hx hb dX1_replace_5 (by decide) ?_
    refine lv_bipush (v := nI 50) hx hb dX1_replace_6 (by decide) ?_
    by_cases hus : inR use 0 50
    · skip
      refine va_csv (va_Run.run (va_runS (As := [.int use, .int (nI 0), .int (nI 50)]) (rest := []) ⟨hx, hb, hml, hown, hts⟩ (mX1_requireWithinV l use (nI 0) (nI 50) hus) (va_cwS 3 hts gX1_replace_X1_requireWithin rfl rfl rfl (by decide +kernel) ⟨Nat.le_of_ble_eq_true rfl, Nat.le_of_ble_eq_true rfl⟩) ⟨fun a U g mk q => q, fun U hU hW => ⟨rfl, trivial⟩⟩ rfl rfl hl.1 rfl (lv_room (Nat.le_of_ble_eq_true rfl)) dX1_replace_8 ⟨Nat.le_of_ble_eq_true rfl, Nat.le_of_ble_eq_true rfl⟩)) (fun _ => ?_)
      refine lv_aload_n hx hb dX1_replace_11 rfl (lv_at hl 0 rfl) ?_
      refine lv_iload_n hx hb dX1_replace_12 rfl (lv_at hl 2 rfl) ?_
      by_cases hqq : isQ n q
      · skip
        refine va_csv (va_Run.run (va_runV (As := [.int q]) (rest := []) ⟨hx, hb, hml, hown, hts⟩ (mX1_requireQuarterV l D cI cZ cD a _ sh sw ts bi it tu ne pr so lo wt lp lz lu lk ld lf lb lw n q hqq) (cwV 1 hts gX1_replace_X1_requireQuarter rfl rfl rfl (by decide +kernel) ⟨Nat.le_of_ble_eq_true rfl, Nat.le_of_ble_eq_true rfl⟩) ⟨xk_blind, va_recv hK hP (ci := 1) (q0 := 0) rfl rfl, xk_pre hP hK hD⟩ rfl rfl hl.1 rfl (lv_room (Nat.le_of_ble_eq_true rfl)) dX1_replace_13 ⟨Nat.le_of_ble_eq_true rfl, Nat.le_of_ble_eq_true rfl⟩)) (fun _ => ?_)
        obtain ⟨o, ho4, rfl⟩ := inR_nI (n := 4) (by decide) hin
        have ho : o < 5 := by omega
        obtain ⟨j, hj, rfl⟩ := isQ_nI (by omega) hqq
        refine lv_iload_n hx hb dX1_replace_16 rfl (lv_at hl 1 rfl) ?_
        refine lv_iload_n hx hb dX1_replace_17 rfl (lv_at hl 2 rfl) ?_
        refine vp_callSi (va_Run.run (va_runS (As := [.int (nI o), .int (nI j)]) (rest := []) ⟨hx, hb, hml, hown, hts⟩ (mX0_slot l o j) (va_cwS 2 hts gX1_replace_X0_slot rfl rfl rfl (by decide +kernel) ⟨Nat.le_of_ble_eq_true rfl, Nat.le_of_ble_eq_true rfl⟩) ⟨fun a U g mk q => q, fun U hU hW => ⟨rfl, trivial⟩⟩ rfl rfl hl.1 rfl (lv_room (Nat.le_of_ble_eq_true rfl)) dX1_replace_18 ⟨Nat.le_of_ble_eq_true rfl, Nat.le_of_ble_eq_true rfl⟩)) (fun r hr1 => ?_)
        subst hr1
        refine lv_istore (lv' := [(4, .int (nI (5 * j + o))), (0, .ref (a 0)), (1, .int (nI o)), (2, .int (nI j)), (3, .int use)]) hx hb dX1_replace_21 hl (by decide) rfl (fun ls hl => ?_)
        refine lv_aload_n hx hb dX1_replace_23 rfl (lv_at hl 1 rfl) ?_
        refine va_get (D := D) (ci := 1) (v := .ref (a 8)) (C := RX1) (T := TX1) (N := 12) hx hb hts inX1 hown hK hP 0 rfl rfl 6 (by decide) (hts (.fieldLink RX1 33 "GridCommons" "ledger" "LGridCommons$Ledger;") (by decide +kernel)) (fun _ h9 => h9) rfl dX1_replace_24 ?_
        refine va_get (D := D) (ci := 0) (v := .ref (a 12)) (C := RX0) (T := TX0) (N := 9) hx hb hts inX0 hown hK hP 8 rfl rfl 4 (by decide) (hts (.fieldLink RX1 120 "GridCommons$Ledger" "known" "[Z") (by decide +kernel)) (fun _ h9 => h9) rfl dX1_replace_27 ?_
        refine lv_iload hx hb dX1_replace_30 (lv_at hl 0 rfl) ?_
        refine xk_zald hx hb hK hP 12 1 rfl rfl (o := (5 * j + o)) (by omega) (by decide) dX1_replace_32 ?_
        refine lv_if_eq (tgt := 46) hx hb dX1_replace_33 (by decide) (fun c => ?_) (fun c => ?_)
        · skip
          exact absurd ⟨hin, hus, hqq, fun z => (kn_nI ho (by omega)).mp z c⟩ hbad
        · skip
          obtain ⟨sa, hstr⟩ := hE.2.2.2 (123, "the use was told, or the gap was replaced") (by decide)
          have hat0 : ∀ w ∈ (vx_atS RX1 72 "java/lang/IllegalStateException" ["java/lang/RuntimeException", "java/lang/Exception"]).filter goodWord, w ∈ wsX1_replace := by decide +kernel
          exact vx_throwS (text := "the use was told, or the gap was replaced") (names := ["java/lang/RuntimeException", "java/lang/Exception"]) hx hb hst hown (by decide +kernel) (by decide +kernel) (hts (.classLink RX1 68 "java/lang/IllegalStateException") (by decide +kernel)) (hts (.initialized "java/lang/IllegalStateException") (by decide +kernel)) hstr (vx_hat (B := exW) (fun w h => hts w (hat0 w h)) (by decide +kernel) hE.words) (by decide +kernel) hE.1 hE.2.1 hS (hl.1.trans hml.symm) dX1_replace_36 dX1_replace_39 dX1_replace_40 dX1_replace_42 dX1_replace_45 (fun x h => (htab x h).elim) (Nat.le_of_ble_eq_true rfl) (Nat.le_of_ble_eq_true rfl) (Nat.le_of_ble_eq_true rfl) (Nat.le_of_ble_eq_true rfl) hlocks (fun t ht hz hk => ⟨(), trivial, Or.inr (Or.inr ⟨rfl, hin, hus, hqq, (kn_nI ho (by omega)).mpr c⟩), hz, fun q h1 _ => hk q h1⟩) hS.2.2 (Nat.le_refl _) (Nat.le_refl _)
      · skip
        exact vx_callv (vx_runV (As := [.int q]) (rest := []) ⟨hx, hb, hml, hown, hts⟩ (mX1_requireQuarterX l hst D cI cZ cD a s.heap sh sw ts bi it tu ne pr so lo wt lp lz lu lk ld lf lb lw n q hqq) (cwV 1 hts gX1_replace_X1_requireQuarter rfl rfl rfl (by decide +kernel) ⟨Nat.le_of_ble_eq_true rfl, Nat.le_of_ble_eq_true rfl⟩) ⟨xq_blind, va_recv hK hP (ci := 1) (q0 := 0) rfl rfl, xq_pre hP hK hD hE hS hA⟩ rfl rfl hl.1 rfl (lv_room (Nat.le_of_ble_eq_true rfl)) dX1_replace_13 ⟨Nat.le_of_ble_eq_true rfl, Nat.le_of_ble_eq_true rfl⟩) hS (fun q h1 h2 => absurd h2 (Nat.not_le.mpr h1)) (fun q h => hA q (Nat.le_trans hS.1 h)) (fun q h1 h2 => absurd h2 (Nat.not_le.mpr h1)) (fun E ce q9 u9 t9 H9 locs9 ht9 hvm9 hpx9 hB9 hz9 hk9 hS9 hce9 hcv9 hcl9 => vx_out (fun x h => (htab x h).elim) hlocks hce9 hcv9 hcl9 (fun t8 ht8 hvm8 => ⟨(), trivial, Or.inr (Or.inl ⟨hB9, hin, hus, hqq⟩), by rw [ht8]; exact hz9, fun q h1 h2 => by rw [ht8]; exact hk9 q h1 h2⟩) hS9.2.2 (Nat.le_refl _) (Nat.le_refl _)) (fun u t H1 locs1 ht hvm hw hB hz1 hk1 hS1 => hw.elim)
    · skip
      exact vx_callv (vx_runS (As := [.int use, .int (nI 0), .int (nI 50)]) (rest := []) ⟨hx, hb, hml, hown, hts⟩ (mX1_requireWithin l hst s.heap use (nI 0) (nI 50)) (va_cwS 3 hts gX1_replace_X1_requireWithin rfl rfl rfl (by decide +kernel) ⟨Nat.le_of_ble_eq_true rfl, Nat.le_of_ble_eq_true rfl⟩) ⟨xh_blind, xh_pre hE hS hA⟩ rfl rfl hl.1 rfl (lv_room (Nat.le_of_ble_eq_true rfl)) dX1_replace_8 ⟨Nat.le_of_ble_eq_true rfl, Nat.le_of_ble_eq_true rfl⟩) hS (fun q h1 h2 => absurd h2 (Nat.not_le.mpr h1)) (fun q h => hA q (Nat.le_trans hS.1 h)) (fun q h1 h2 => absurd h2 (Nat.not_le.mpr h1)) (fun E ce q9 u9 t9 H9 locs9 ht9 hvm9 hpx9 hB9 hz9 hk9 hS9 hce9 hcv9 hcl9 => vx_out (fun x h => (htab x h).elim) hlocks hce9 hcv9 hcl9 (fun t8 ht8 hvm8 => ⟨(), trivial, Or.inl ⟨hB9.1, fun z => hB9.2 z.2⟩, by rw [ht8]; exact hz9, fun q h1 h2 => by rw [ht8]; exact hk9 q h1 h2⟩) hS9.2.2 (Nat.le_refl _) (Nat.le_refl _)) (fun u t H1 locs1 ht hvm hw hB hz1 hk1 hS1 => absurd hw hus)
  · skip
    exact vx_callv (vx_runS (As := [.int x]) (rest := []) ⟨hx, hb, hml, hown, hts⟩ (mX1_requireOwner l hst s.heap x) (va_cwS 1 hts gX1_replace_X1_requireOwner rfl rfl rfl (by decide +kernel) ⟨Nat.le_of_ble_eq_true rfl, Nat.le_of_ble_eq_true rfl⟩) ⟨xh_blind, xh_pre hE hS hA⟩ rfl rfl hl.1 rfl (lv_room (Nat.le_of_ble_eq_true rfl)) dX1_replace_1 ⟨Nat.le_of_ble_eq_true rfl, Nat.le_of_ble_eq_true rfl⟩) hS (fun q h1 h2 => absurd h2 (Nat.not_le.mpr h1)) (fun q h => hA q (Nat.le_trans hS.1 h)) (fun q h1 h2 => absurd h2 (Nat.not_le.mpr h1)) (fun E ce q9 u9 t9 H9 locs9 ht9 hvm9 hpx9 hB9 hz9 hk9 hS9 hce9 hcv9 hcl9 => vx_out (fun x h => (htab x h).elim) hlocks hce9 hcv9 hcl9 (fun t8 ht8 hvm8 => ⟨(), trivial, Or.inl ⟨hB9.1, fun z => hB9.2 z.1⟩, by rw [ht8]; exact hz9, fun q h1 h2 => by rw [ht8]; exact hk9 q h1 h2⟩) hS9.2.2 (Nat.le_refl _) (Nat.le_refl _)) (fun u t H1 locs1 ht hvm hw hB hz1 hk1 hS1 => absurd hw hin)
end
section
/-! GridCommons.close -/
set_option maxHeartbeats 4000000 in
set_option maxRecDepth 100000 in
theorem mX1_closeV (l : Launch) (D : va_G) (cI cZ cD : ClassId) (a : Nat → Nat) (sz : Nat) (sh sw ts : Nat → Int32) (bi : Nat → UInt64) (it tu : Nat → Int32) (ne : Nat → UInt64) (pr so lo : UInt64) (lp lz lu : Nat → UInt64) (lk : Nat → Int32) (ld lf lb lw : Nat → UInt64) (n tr : Nat) (sun : Int32) (hn : n < 60) (htr : tr < 5) (hsun : inR sun 0 100) (hit : ∀ j, it j = 0 ∨ it j = 1) : MetD lw_cs l yX1_close wsX1_close ({ frames := 3, cells := 0, slots := 0, locals := 72 } : Room) (va_Pc [.ref (a 0), .int sun] (XP D cI cZ cD (XW a cI cZ cD sh sw ts bi it tu ne pr so lo (nI tr) (nI n) lp lz lu lk ld lf lb lw) sz)) (va_Qi (fun (r : Int32) (u : ((Nat → Int32) × (Nat → UInt64) × (Nat → UInt64) × UInt64) × ((Nat → UInt64) × (Nat → UInt64) × UInt64 × (Nat → UInt64)) × ((Nat → UInt64) × Nat × (Nat → UInt64) × (Nat → UInt64))) => r = bI (over ((cT sw ts it tu lk (dts lu) n).2)) ∧ u.1.1 = (cT sw ts it tu lk (dts lu) n).1 ∧ dts u.1.2.1 = po (5 * n) 5 (dts lu) (use0 it tu lk (dts lu) n) ∧ dts u.2.1.1 = po (5 * n) 5 (dts ld) ((cT sw ts it tu lk (dts lu) n).2) ∧ dts u.2.1.2.1 = kF sun sh ((cT sw ts it tu lk (dts lu) n).2) n (dts lf) ∧ dts u.2.1.2.2.2 = kZ sun sh ((cT sw ts it tu lk (dts lu) n).2) (dt so) (dts lz) n ∧ dt u.2.1.2.2.1 = (kB sun sh ((cT sw ts it tu lk (dts lu) n).2) (dt so) (dts lb) tr n).2.1 ∧ dts u.2.2.1 = (kB sun sh ((cT sw ts it tu lk (dts lu) n).2) (dt so) (dts lb) tr n).2.2.1 ∧ u.2.2.2.1 = (kB sun sh ((cT sw ts it tu lk (dts lu) n).2) (dt so) (dts lb) tr n).2.2.2 ∧ dts u.2.2.2.2.1 = po (5 * n) 5 (dts lw) (kB sun sh ((cT sw ts it tu lk (dts lu) n).2) (dt so) (dts lb) tr n).1 ∧ dts u.2.2.2.2.2 = kI sun sh ((cT sw ts it tu lk (dts lu) n).2) (dt so) (dts lz) (dts bi) (dt pr) (dts lb) tr n) (fun (u : ((Nat → Int32) × (Nat → UInt64) × (Nat → UInt64) × UInt64) × ((Nat → UInt64) × (Nat → UInt64) × UInt64 × (Nat → UInt64)) × ((Nat → UInt64) × Nat × (Nat → UInt64) × (Nat → UInt64))) t => XB D cI cZ cD (XW a cI cZ cD sh sw u.1.1 u.2.2.2.2.2 (po 0 5 it (fun _ => 0)) tu u.1.2.2.1 pr u.2.1.2.2.1 u.1.2.2.2 (nI u.2.2.2.1) (nI (n + 1)) (vf_upd lp n pr) u.2.1.2.2.2 u.1.2.1 (po (5 * n) 5 lk it) u.2.1.1 u.2.1.2.1 u.2.2.1 u.2.2.2.2.1) (va_A (XW a cI cZ cD sh sw ts bi it tu ne pr so lo (nI tr) (nI n) lp lz lu lk ld lf lb lw) sz) t) (va_A (XW a cI cZ cD sh sw ts bi it tu ne pr so lo (nI tr) (nI n) lp lz lu lk ld lf lb lw) sz)) 0 0 (va_A (XW a cI cZ cD sh sw ts bi it tu ne pr so lo (nI tr) (nI n) lp lz lu lk ld lf lb lw) sz) := by
  refine MetD.ofW (cc := cX1_close) (maxL := 4) (ret := (some .boolean)) (by decide +kernel) rfl ?_
  intro p e s m args below meth c s₁ B hml hv hd0
  obtain ⟨rfl, hsz, hP, hK, hD0⟩ := hv
  have hx := B.exec
  have hb := B.bytes
  have hr := B.returns
  have hts := atoms_spec (ws := wsX1_close) B.pre
  have hown : s.vm.findClass RX1 = some m.cls := findClass_of_methodNamed B.named
  have hlocks := B.notSynchronized
  subst hsz
  have hD := hD0.self (sz := s.heap.size)
  generalize hAe : va_A (XW a cI cZ cD sh sw ts bi it tu ne pr so lo (nI tr) (nI n) lp lz lu lk ld lf lb lw) s.heap.size = A at hD ⊢
  have hA : ∀ q : Nat, s.heap.size ≤ q → A q := fun q h => by rw [← hAe]; exact Or.inr h
  have hS : va_S A s.heap s.heap [] := va_S.rf
  have hl := lv_entry ([.ref (a 0), .int sun]) (n := 4) (Nat.le_of_ble_eq_true rfl)
  rw [lg_entry_eq]
  generalize (lg_sl ([.ref (a 0), .int sun]) ++ List.replicate (4 - (lg_sl ([.ref (a 0), .int sun])).length) Slot.unset).toArray = ls at hl ⊢
  have hl : lv_has ls 4 [(0, .ref (a 0)), (1, .int sun)] := hl
  have inX1 : ∀ w ∈ wsX10, w ∈ wsX1_close := by decide +kernel
  have inX0 : ∀ w ∈ wsX00, w ∈ wsX1_close := by decide +kernel
  refine lv_iload_n hx hb dX1_close_0 rfl (lv_at hl 1 rfl) ?_
  refine lv_iconst (v := nI 0) hx hb dX1_close_1 (by decide) ?_
  refine lv_bipush (v := nI 100) hx hb dX1_close_2 (by decide) ?_
  refine va_csv (va_Run.run (va_runS (As := [.int sun, .int (nI 0), .int (nI 100)]) (rest := []) ⟨hx, hb, hml, (xk_od hown), (dr_words hts _)⟩ (mX1_requireWithinV l sun (nI 0) (nI 100) hsun) (va_cwS 3 (dr_words hts _) gX1_close_X1_requireWithin rfl rfl rfl (by decide +kernel) ⟨Nat.le_of_ble_eq_true rfl, Nat.le_of_ble_eq_true rfl⟩) ⟨fun a U g mk q => q, fun U hU hW => ⟨rfl, trivial⟩⟩ rfl rfl hl.1 rfl (lv_room (Nat.le_of_ble_eq_true rfl)) dX1_close_4 ⟨Nat.le_of_ble_eq_true rfl, Nat.le_of_ble_eq_true rfl⟩)) (fun _ => ?_)
  refine lv_aload_n hx hb dX1_close_7 rfl (lv_at hl 0 rfl) ?_
  refine va_get (D := D) (ci := 1) (v := .ref (a 8)) (C := RX1) (T := TX1) (N := 12) hx hb (dr_words hts _) inX1 (xk_od hown) (xk_Kd hK) hP 0 rfl rfl 6 (by decide) (dr_words hts _ (.fieldLink RX1 33 "GridCommons" "ledger" "LGridCommons$Ledger;") (by decide +kernel)) (fun _ h9 => h9) rfl dX1_close_8 ?_
  refine va_get (D := D) (ci := 0) (v := .int (nI n)) (C := RX0) (T := TX0) (N := 9) hx hb (dr_words hts _) inX0 (xk_od hown) (xk_Kd hK) hP 8 rfl rfl 0 (by decide) (dr_words hts _ (.fieldLink RX1 77 "GridCommons$Ledger" "count" "I") (by decide +kernel)) (fun _ h9 => h9) rfl dX1_close_11 ?_
  refine lv_istore_n (lv' := [(2, .int (nI n)), (0, .ref (a 0)), (1, .int sun)]) hx hb dX1_close_14 rfl hl (by decide) rfl (fun ls hl => ?_)
  refine lv_iload_n hx hb dX1_close_15 rfl (lv_at hl 0 rfl) ?_
  refine lv_bipush (v := nI 60) hx hb dX1_close_16 (by decide) ?_
  refine lv_icmp_lt (tgt := 31) hx hb dX1_close_18 (by decide) (fun c => ?_) (fun c => ?_)
  · skip
    refine lv_aload_n hx hb dX1_close_31 rfl (lv_at hl 1 rfl) ?_
    refine va_get (D := D) (ci := 1) (v := .ref (a 8)) (C := RX1) (T := TX1) (N := 12) hx hb (dr_words hts _) inX1 (xk_od hown) (xk_Kd hK) hP 0 rfl rfl 6 (by decide) (dr_words hts _ (.fieldLink RX1 33 "GridCommons" "ledger" "LGridCommons$Ledger;") (by decide +kernel)) (fun _ h9 => h9) rfl dX1_close_32 ?_
    refine va_get (D := D) (ci := 0) (v := .ref (a 9)) (C := RX0) (T := TX0) (N := 9) hx hb (dr_words hts _) inX0 (xk_od hown) (xk_Kd hK) hP 8 rfl rfl 1 (by decide) (dr_words hts _ (.fieldLink RX1 82 "GridCommons$Ledger" "price" "[D") (by decide +kernel)) (fun _ h9 => h9) rfl dX1_close_35 ?_
    refine lv_iload_n hx hb dX1_close_38 rfl (lv_at hl 0 rfl) ?_
    refine lv_aload_n hx hb dX1_close_39 rfl (lv_at hl 1 rfl) ?_
    refine va_get (D := D) (ci := 1) (v := .double pr) (C := RX1) (T := TX1) (N := 12) hx hb (dr_words hts _) inX1 (xk_od hown) (xk_Kd hK) hP 0 rfl rfl 7 (by decide) (dr_words hts _ (.fieldLink RX1 39 "GridCommons" "price" "D") (by decide +kernel)) (fun _ h9 => h9) rfl dX1_close_40 ?_
    refine xk_dast hx hb (xk_Kd hK) hP hD hS 9 2 rfl rfl (o := n) (by omega) (by decide) dX1_close_43 (fun H locs hP hD hS => ?_)
    have hP : va_P D vwCl (XW a cI cZ cD sh sw ts bi it tu ne pr so lo (nI tr) (nI n) (vf_upd lp n pr) lz lu lk ld lf lb lw) H := hP
    have hD : va_D A (XW a cI cZ cD sh sw ts bi it tu ne pr so lo (nI tr) (nI n) (vf_upd lp n pr) lz lu lk ld lf lb lw) := hD
    refine lv_aload_n hx hb dX1_close_44 rfl (lv_at hl 1 rfl) ?_
    refine lv_iload_n hx hb dX1_close_45 rfl (lv_at hl 0 rfl) ?_
    have hFc := va_free (wc := XW a cI cZ cD sh sw ts bi it tu ne pr so lo (nI tr) (nI n) (vf_upd lp n pr) lz lu lk ld lf lb lw) hD hS hA [0, 1, 2, 3, 4, 5, 6, 7, 8, 9, 10, 11, 12, 13, 14, 15, 16] rfl
    refine va_callvD hd0 (va_runV_D (As := [.int (nI n)]) (rest := []) ⟨hx, hb, hml, (xk_od hown), (dr_words hts _)⟩ (mX1_writeUses l D cI cZ cD a _ sh sw ts bi it tu ne pr so lo (nI tr) (vf_upd lp n pr) lz lu lk ld lf lb lw n hn hit) (cwV 1 (dr_words hts _) gX1_close_X1_writeUses rfl rfl rfl (by decide +kernel) ⟨Nat.le_of_ble_eq_true rfl, Nat.le_of_ble_eq_true rfl⟩) ⟨xk_blind, va_recv (xk_Kd hK) hP (ci := 1) (q0 := 0) rfl rfl, xk_pre hP (xk_Kd hK) hD⟩ rfl rfl hl.1 rfl (lv_room (Nat.le_of_ble_eq_true rfl)) dX1_close_46 ⟨Nat.le_of_ble_eq_true rfl, Nat.le_of_ble_eq_true rfl⟩) hS (fun q _ h => hFc q h) hFc (fun u t H locs ht hvm hw hB hz1 hk1 hS _ hd1 => ?_)
    obtain ⟨lu1, ne1⟩ := u
    obtain ⟨hP, -, hD1⟩ := hB
    rw [ht] at hP
    have hD := hD1.weaken (B := A) (fun _ _ _ h => hFc _ h)
    have hP : va_P D vwCl (XW a cI cZ cD sh sw ts bi (po 0 5 it (fun _ => 0)) tu ne1 pr so lo (nI tr) (nI n) (vf_upd lp n pr) lz lu1 (po (5 * n) 5 lk it) ld lf lb lw) H := hP
    have hD : va_D A (XW a cI cZ cD sh sw ts bi (po 0 5 it (fun _ => 0)) tu ne1 pr so lo (nI tr) (nI n) (vf_upd lp n pr) lz lu1 (po (5 * n) 5 lk it) ld lf lb lw) := hD
    obtain ⟨ha1, ha2⟩ := hw
    refine lv_aload_n hx hb dX1_close_49 rfl (lv_at hl 1 rfl) ?_
    have hFc := va_free (wc := XW a cI cZ cD sh sw ts bi (po 0 5 it (fun _ => 0)) tu ne1 pr so lo (nI tr) (nI n) (vf_upd lp n pr) lz lu1 (po (5 * n) 5 lk it) ld lf lb lw) hD hS hA [0, 1, 2, 3, 4, 5, 6, 7, 8, 9, 10, 11, 12, 13, 14, 15, 16] rfl
    refine va_callvD hd1 (va_runV_D (As := []) (rest := []) ⟨hx, hb, hml, (xk_od hown), (dr_words hts _)⟩ (mX1_shedUntilCarried l D cI cZ cD a _ sh sw ts bi (po 0 5 it (fun _ => 0)) tu ne1 pr so lo (nI tr) (nI n) (vf_upd lp n pr) lz lu1 (po (5 * n) 5 lk it) ld lf lb lw _ ha2) (cwV 0 (dr_words hts _) gX1_close_X1_shedUntilCarried rfl rfl rfl (by decide +kernel) ⟨Nat.le_of_ble_eq_true rfl, Nat.le_of_ble_eq_true rfl⟩) ⟨xk_blind, va_recv (xk_Kd hK) hP (ci := 1) (q0 := 0) rfl rfl, xk_pre hP (xk_Kd hK) hD⟩ rfl rfl hl.1 rfl (lv_room (Nat.le_of_ble_eq_true rfl)) dX1_close_50 ⟨Nat.le_of_ble_eq_true rfl, Nat.le_of_ble_eq_true rfl⟩) hS (fun q _ h => hFc q h) hFc (fun u t H locs ht hvm hw hB hz1 hk1 hS _ hd2 => ?_)
    obtain ⟨ts1, ne2⟩ := u
    obtain ⟨hP, -, hD1⟩ := hB
    rw [ht] at hP
    have hD := hD1.weaken (B := A) (fun _ _ _ h => hFc _ h)
    have hP : va_P D vwCl (XW a cI cZ cD sh sw ts1 bi (po 0 5 it (fun _ => 0)) tu ne2 pr so lo (nI tr) (nI n) (vf_upd lp n pr) lz lu1 (po (5 * n) 5 lk it) ld lf lb lw) H := hP
    have hD : va_D A (XW a cI cZ cD sh sw ts1 bi (po 0 5 it (fun _ => 0)) tu ne2 pr so lo (nI tr) (nI n) (vf_upd lp n pr) lz lu1 (po (5 * n) 5 lk it) ld lf lb lw) := hD
    obtain ⟨hb1, hb2⟩ := hw
    refine lv_aload_n hx hb dX1_close_53 rfl (lv_at hl 1 rfl) ?_
    have hFc := va_free (wc := XW a cI cZ cD sh sw ts1 bi (po 0 5 it (fun _ => 0)) tu ne2 pr so lo (nI tr) (nI n) (vf_upd lp n pr) lz lu1 (po (5 * n) 5 lk it) ld lf lb lw) hD hS hA [0, 1, 2, 3, 4, 5, 6, 7, 8, 9, 10, 11, 12, 13, 14, 15, 16] rfl
    refine va_calliD hd2 (va_runV_D (As := []) (rest := []) ⟨hx, hb, hml, (xk_od hown), (dr_words hts _)⟩ (mX1_isOverLine l D cI cZ cD a _ sh sw ts1 bi (po 0 5 it (fun _ => 0)) tu ne2 pr so lo (nI tr) (nI n) (vf_upd lp n pr) lz lu1 (po (5 * n) 5 lk it) ld lf lb lw _ hb2) (cwV 0 (dr_words hts _) gX1_close_X1_isOverLine rfl rfl rfl (by decide +kernel) ⟨Nat.le_of_ble_eq_true rfl, Nat.le_of_ble_eq_true rfl⟩) ⟨xk_blind, va_recv (xk_Kd hK) hP (ci := 1) (q0 := 0) rfl rfl, xk_pre hP (xk_Kd hK) hD⟩ rfl rfl hl.1 rfl (lv_room (Nat.le_of_ble_eq_true rfl)) dX1_close_54 ⟨Nat.le_of_ble_eq_true rfl, Nat.le_of_ble_eq_true rfl⟩) hS (fun q _ h => hFc q h) hFc (fun ov u t H locs ht hvm hw hB hz1 hk1 hS _ hd3 => ?_)
    obtain ⟨hP, -, hD1⟩ := hB
    rw [ht] at hP
    have hD := hD1.weaken (B := A) (fun _ _ _ h => hFc _ h)
    have hP : va_P D vwCl (XW a cI cZ cD sh sw ts1 bi (po 0 5 it (fun _ => 0)) tu ne2 pr so lo (nI tr) (nI n) (vf_upd lp n pr) lz lu1 (po (5 * n) 5 lk it) ld lf lb lw) H := hP
    have hD : va_D A (XW a cI cZ cD sh sw ts1 bi (po 0 5 it (fun _ => 0)) tu ne2 pr so lo (nI tr) (nI n) (vf_upd lp n pr) lz lu1 (po (5 * n) 5 lk it) ld lf lb lw) := hD
    have hov := hw
    refine lv_istore_n (lv' := [(3, .int ov), (2, .int (nI n)), (0, .ref (a 0)), (1, .int sun)]) hx hb dX1_close_57 rfl hl (by decide) rfl (fun ls hl => ?_)
    refine lv_aload_n hx hb dX1_close_58 rfl (lv_at hl 2 rfl) ?_
    refine lv_iload_n hx hb dX1_close_59 rfl (lv_at hl 1 rfl) ?_
    have hFc := va_free (wc := XW a cI cZ cD sh sw ts1 bi (po 0 5 it (fun _ => 0)) tu ne2 pr so lo (nI tr) (nI n) (vf_upd lp n pr) lz lu1 (po (5 * n) 5 lk it) ld lf lb lw) hD hS hA [0, 1, 2, 3, 4, 5, 6, 7, 8, 9, 10, 11, 12, 13, 14, 15, 16] rfl
    refine va_callv (va_runV (As := [.int (nI n)]) (rest := []) ⟨hx, hb, hml, (xk_od hown), (dr_words hts _)⟩ (mX1_writeUsed l D cI cZ cD a _ sh sw ts1 bi (po 0 5 it (fun _ => 0)) tu ne2 pr so lo (nI tr) (nI n) (vf_upd lp n pr) lz lu1 (po (5 * n) 5 lk it) ld lf lb lw n hn _ hb2) (cwV 1 (dr_words hts _) gX1_close_X1_writeUsed rfl rfl rfl (by decide +kernel) ⟨Nat.le_of_ble_eq_true rfl, Nat.le_of_ble_eq_true rfl⟩) ⟨xk_blind, va_recv (xk_Kd hK) hP (ci := 1) (q0 := 0) rfl rfl, xk_pre hP (xk_Kd hK) hD⟩ rfl rfl hl.1 rfl (lv_room (Nat.le_of_ble_eq_true rfl)) dX1_close_60 ⟨Nat.le_of_ble_eq_true rfl, Nat.le_of_ble_eq_true rfl⟩) hS (fun q _ h => hFc q h) hFc (fun u t H locs ht hvm hw hB hz1 hk1 hS => ?_)
    obtain ⟨ld1, rfl⟩ : ∃ z, z = u := ⟨_, rfl⟩
    obtain ⟨hP, -, hD1⟩ := hB
    rw [ht] at hP
    have hD := hD1.weaken (B := A) (fun _ _ _ h => hFc _ h)
    have hP : va_P D vwCl (XW a cI cZ cD sh sw ts1 bi (po 0 5 it (fun _ => 0)) tu ne2 pr so lo (nI tr) (nI n) (vf_upd lp n pr) lz lu1 (po (5 * n) 5 lk it) ld1 lf lb lw) H := hP
    have hD : va_D A (XW a cI cZ cD sh sw ts1 bi (po 0 5 it (fun _ => 0)) tu ne2 pr so lo (nI tr) (nI n) (vf_upd lp n pr) lz lu1 (po (5 * n) 5 lk it) ld1 lf lb lw) := hD
    have hc1 := hw
    refine lv_aload_n hx hb dX1_close_63 rfl (lv_at hl 2 rfl) ?_
    refine lv_iload_n hx hb dX1_close_64 rfl (lv_at hl 3 rfl) ?_
    refine lv_i2d hx hb dX1_close_65 ?_
    refine va_put (D := D) (ci := 1) (v := .double (FP.i2d sun)) (ty := .double) (C := RX1) (T := TX1) (N := 12) hx hb (dr_words hts _) inX1 tyX1 tyX1_ok nmX1 (xk_od hown) (xk_Kd hK) hP hD hS 0 rfl rfl 11 (by decide) (dr_words hts _ (.fieldLink RX1 53 "GridCommons" "leftOver" "D") (by decide +kernel)) (fun _ h9 => h9) rfl (by decide +kernel) rfl rfl (Nat.le_of_ble_eq_true rfl) dX1_close_66 (fun H locs hP hD hS => ?_)
    have hP : va_P D vwCl (XW a cI cZ cD sh sw ts1 bi (po 0 5 it (fun _ => 0)) tu ne2 pr so (FP.i2d sun) (nI tr) (nI n) (vf_upd lp n pr) lz lu1 (po (5 * n) 5 lk it) ld1 lf lb lw) H := hP
    have hD : va_D A (XW a cI cZ cD sh sw ts1 bi (po 0 5 it (fun _ => 0)) tu ne2 pr so (FP.i2d sun) (nI tr) (nI n) (vf_upd lp n pr) lz lu1 (po (5 * n) 5 lk it) ld1 lf lb lw) := hD
    refine lv_aload_n hx hb dX1_close_69 rfl (lv_at hl 2 rfl) ?_
    refine lv_iload_n hx hb dX1_close_70 rfl (lv_at hl 1 rfl) ?_
    refine lv_iload_n hx hb dX1_close_71 rfl (lv_at hl 3 rfl) ?_
    have hFc := va_free (wc := XW a cI cZ cD sh sw ts1 bi (po 0 5 it (fun _ => 0)) tu ne2 pr so (FP.i2d sun) (nI tr) (nI n) (vf_upd lp n pr) lz lu1 (po (5 * n) 5 lk it) ld1 lf lb lw) hD hS hA [0, 1, 2, 3, 4, 5, 6, 7, 8, 9, 10, 11, 12, 13, 14, 15, 16] rfl
    refine va_callvD hd3 (va_runV_D (As := [.int (nI n), .int sun]) (rest := []) ⟨hx, hb, hml, (xk_od hown), (dr_words hts _)⟩ (mX1_giveByShare l D cI cZ cD a _ sh sw ts1 bi (po 0 5 it (fun _ => 0)) tu ne2 pr so (FP.i2d sun) (nI tr) (nI n) (vf_upd lp n pr) lz lu1 (po (5 * n) 5 lk it) ld1 lf lb lw n sun hn _ hb2) (cwV 2 (dr_words hts _) gX1_close_X1_giveByShare rfl rfl rfl (by decide +kernel) ⟨Nat.le_of_ble_eq_true rfl, Nat.le_of_ble_eq_true rfl⟩) ⟨xk_blind, va_recv (xk_Kd hK) hP (ci := 1) (q0 := 0) rfl rfl, xk_pre hP (xk_Kd hK) hD⟩ rfl rfl hl.1 rfl (lv_room (Nat.le_of_ble_eq_true rfl)) dX1_close_72 ⟨Nat.le_of_ble_eq_true rfl, Nat.le_of_ble_eq_true rfl⟩) hS (fun q _ h => hFc q h) hFc (fun u t H locs ht hvm hw hB hz1 hk1 hS _ hd5 => ?_)
    obtain ⟨lf1, ne3, lo1⟩ := u
    obtain ⟨hP, -, hD1⟩ := hB
    rw [ht] at hP
    have hD := hD1.weaken (B := A) (fun _ _ _ h => hFc _ h)
    have hP : va_P D vwCl (XW a cI cZ cD sh sw ts1 bi (po 0 5 it (fun _ => 0)) tu ne3 pr so lo1 (nI tr) (nI n) (vf_upd lp n pr) lz lu1 (po (5 * n) 5 lk it) ld1 lf1 lb lw) H := hP
    have hD : va_D A (XW a cI cZ cD sh sw ts1 bi (po 0 5 it (fun _ => 0)) tu ne3 pr so lo1 (nI tr) (nI n) (vf_upd lp n pr) lz lu1 (po (5 * n) 5 lk it) ld1 lf1 lb lw) := hD
    obtain ⟨hd1, hd2, hd3⟩ := hw
    refine lv_aload_n hx hb dX1_close_75 rfl (lv_at hl 2 rfl) ?_
    refine lv_iload_n hx hb dX1_close_76 rfl (lv_at hl 1 rfl) ?_
    have hFc := va_free (wc := XW a cI cZ cD sh sw ts1 bi (po 0 5 it (fun _ => 0)) tu ne3 pr so lo1 (nI tr) (nI n) (vf_upd lp n pr) lz lu1 (po (5 * n) 5 lk it) ld1 lf1 lb lw) hD hS hA [0, 1, 2, 3, 4, 5, 6, 7, 8, 9, 10, 11, 12, 13, 14, 15, 16] rfl
    refine va_callvD hd5 (va_runV_D (As := [.int (nI n)]) (rest := []) ⟨hx, hb, hml, (xk_od hown), (dr_words hts _)⟩ (mX1_giveByNeed l D cI cZ cD a _ sh sw ts1 bi (po 0 5 it (fun _ => 0)) tu ne3 pr so lo1 (nI tr) (nI n) (vf_upd lp n pr) lz lu1 (po (5 * n) 5 lk it) ld1 lf1 lb lw n hn _ hd2) (cwV 1 (dr_words hts _) gX1_close_X1_giveByNeed rfl rfl rfl (by decide +kernel) ⟨Nat.le_of_ble_eq_true rfl, Nat.le_of_ble_eq_true rfl⟩) ⟨xk_blind, va_recv (xk_Kd hK) hP (ci := 1) (q0 := 0) rfl rfl, xk_pre hP (xk_Kd hK) hD⟩ rfl rfl hl.1 rfl (lv_room (Nat.le_of_ble_eq_true rfl)) dX1_close_77 ⟨Nat.le_of_ble_eq_true rfl, Nat.le_of_ble_eq_true rfl⟩) hS (fun q _ h => hFc q h) hFc (fun u t H locs ht hvm hw hB hz1 hk1 hS _ hd6 => ?_)
    obtain ⟨lf2, ne4, lo2⟩ := u
    obtain ⟨hP, -, hD1⟩ := hB
    rw [ht] at hP
    have hD := hD1.weaken (B := A) (fun _ _ _ h => hFc _ h)
    have hP : va_P D vwCl (XW a cI cZ cD sh sw ts1 bi (po 0 5 it (fun _ => 0)) tu ne4 pr so lo2 (nI tr) (nI n) (vf_upd lp n pr) lz lu1 (po (5 * n) 5 lk it) ld1 lf2 lb lw) H := hP
    have hD : va_D A (XW a cI cZ cD sh sw ts1 bi (po 0 5 it (fun _ => 0)) tu ne4 pr so lo2 (nI tr) (nI n) (vf_upd lp n pr) lz lu1 (po (5 * n) 5 lk it) ld1 lf2 lb lw) := hD
    obtain ⟨he1, he2, he3⟩ := hw
    dsimp only at hd1 hd2 hd3 he1 he2 he3
    have hd3 : dt lo1 = kL1 sun sh ((cT sw ts it tu lk (dts lu) n).2) := hd3
    rw [hd3] at he1 he2 he3
    have he2 : is5 ne4 (kV3 sun sh ((cT sw ts it tu lk (dts lu) n).2)) := he2
    have he3 : dt lo2 = kL2 sun sh ((cT sw ts it tu lk (dts lu) n).2) := he3
    have he1 : dts lf2 = kF sun sh ((cT sw ts it tu lk (dts lu) n).2) n (dts lf) := by rw [he1, hd1]; rfl
    refine lv_aload_n hx hb dX1_close_80 rfl (lv_at hl 2 rfl) ?_
    refine lv_iload_n hx hb dX1_close_81 rfl (lv_at hl 1 rfl) ?_
    have hFc := va_free (wc := XW a cI cZ cD sh sw ts1 bi (po 0 5 it (fun _ => 0)) tu ne4 pr so lo2 (nI tr) (nI n) (vf_upd lp n pr) lz lu1 (po (5 * n) 5 lk it) ld1 lf2 lb lw) hD hS hA [0, 1, 2, 3, 4, 5, 6, 7, 8, 9, 10, 11, 12, 13, 14, 15, 16] rfl
    refine va_callvD hd6 (va_runV_D (As := [.int (nI n)]) (rest := []) ⟨hx, hb, hml, (xk_od hown), (dr_words hts _)⟩ (mX1_storeOrSell l D cI cZ cD a _ sh sw ts1 bi (po 0 5 it (fun _ => 0)) tu ne4 pr so lo2 (nI tr) (nI n) (vf_upd lp n pr) lz lu1 (po (5 * n) 5 lk it) ld1 lf2 lb lw n hn) (cwV 1 (dr_words hts _) gX1_close_X1_storeOrSell rfl rfl rfl (by decide +kernel) ⟨Nat.le_of_ble_eq_true rfl, Nat.le_of_ble_eq_true rfl⟩) ⟨xk_blind, va_recv (xk_Kd hK) hP (ci := 1) (q0 := 0) rfl rfl, xk_pre hP (xk_Kd hK) hD⟩ rfl rfl hl.1 rfl (lv_room (Nat.le_of_ble_eq_true rfl)) dX1_close_82 ⟨Nat.le_of_ble_eq_true rfl, Nat.le_of_ble_eq_true rfl⟩) hS (fun q _ h => hFc q h) hFc (fun u t H locs ht hvm hw hB hz1 hk1 hS _ hd7 => ?_)
    obtain ⟨so1, lz1⟩ := u
    obtain ⟨hP, -, hD1⟩ := hB
    rw [ht] at hP
    have hD := hD1.weaken (B := A) (fun _ _ _ h => hFc _ h)
    have hP : va_P D vwCl (XW a cI cZ cD sh sw ts1 bi (po 0 5 it (fun _ => 0)) tu ne4 pr so1 lo2 (nI tr) (nI n) (vf_upd lp n pr) lz1 lu1 (po (5 * n) 5 lk it) ld1 lf2 lb lw) H := hP
    have hD : va_D A (XW a cI cZ cD sh sw ts1 bi (po 0 5 it (fun _ => 0)) tu ne4 pr so1 lo2 (nI tr) (nI n) (vf_upd lp n pr) lz1 lu1 (po (5 * n) 5 lk it) ld1 lf2 lb lw) := hD
    obtain ⟨hf1, hf2⟩ := hw
    dsimp only at hf1 hf2
    rw [he3] at hf1 hf2
    have hf1 : dt so1 = kS sun sh ((cT sw ts it tu lk (dts lu) n).2) (dt so) := hf1
    have hf2 : dts lz1 = kZ sun sh ((cT sw ts it tu lk (dts lu) n).2) (dt so) (dts lz) n := hf2
    refine lv_aload_n hx hb dX1_close_85 rfl (lv_at hl 2 rfl) ?_
    refine va_get (D := D) (ci := 1) (v := .double lo2) (C := RX1) (T := TX1) (N := 12) hx hb (dr_words hts _) inX1 (xk_od hown) (xk_Kd hK) hP 0 rfl rfl 11 (by decide) (dr_words hts _ (.fieldLink RX1 53 "GridCommons" "leftOver" "D") (by decide +kernel)) (fun _ h9 => h9) rfl dX1_close_86 ?_
    refine lv_dconst0 hx hb dX1_close_89 ?_
    refine lv_dcmp hx hb dX1_close_90 ?_
    refine lv_if_ne (tgt := 99) hx hb dX1_close_91 (by decide) (fun c1 => ?_) (fun c1 => ?_)
    · skip
      have hL : ¬ dCmp (kL2 sun sh ((cT sw ts it tu lk (dts lu) n).2)) dZ = some .eq := fun q => c1 ((cv_l_eq _).mpr (show dCmp (dt lo2) dZ = some .eq by rw [he3]; exact q))
      have hk : kB sun sh ((cT sw ts it tu lk (dts lu) n).2) (dt so) (dts lb) tr n = (kV3 sun sh ((cT sw ts it tu lk (dts lu) n).2), kS sun sh ((cT sw ts it tu lk (dts lu) n).2) (dt so), dts lb, tr) := if_neg hL
      have hV4 : is5 ne4 (kB sun sh ((cT sw ts it tu lk (dts lu) n).2) (dt so) (dts lb) tr n).1 := by rw [hk]; exact he2
      refine lv_aload_n hx hb dX1_close_99 rfl (lv_at hl 2 rfl) ?_
      refine lv_iload_n hx hb dX1_close_100 rfl (lv_at hl 1 rfl) ?_
      have hFc := va_free (wc := XW a cI cZ cD sh sw ts1 bi (po 0 5 it (fun _ => 0)) tu ne4 pr so1 lo2 (nI tr) (nI n) (vf_upd lp n pr) lz1 lu1 (po (5 * n) 5 lk it) ld1 lf2 lb lw) hD hS hA [0, 1, 2, 3, 4, 5, 6, 7, 8, 9, 10, 11, 12, 13, 14, 15, 16] rfl
      refine va_callvD hd7 (va_runV_D (As := [.int (nI n)]) (rest := []) ⟨hx, hb, hml, (xk_od hown), (dr_words hts _)⟩ (mX1_writeBills l D cI cZ cD a _ sh sw ts1 bi (po 0 5 it (fun _ => 0)) tu ne4 pr so1 lo2 (nI tr) (nI n) (vf_upd lp n pr) lz1 lu1 (po (5 * n) 5 lk it) ld1 lf2 lb lw n hn _ hV4) (cwV 1 (dr_words hts _) gX1_close_X1_writeBills rfl rfl rfl (by decide +kernel) ⟨Nat.le_of_ble_eq_true rfl, Nat.le_of_ble_eq_true rfl⟩) ⟨xk_blind, va_recv (xk_Kd hK) hP (ci := 1) (q0 := 0) rfl rfl, xk_pre hP (xk_Kd hK) hD⟩ rfl rfl hl.1 rfl (lv_room (Nat.le_of_ble_eq_true rfl)) dX1_close_101 ⟨Nat.le_of_ble_eq_true rfl, Nat.le_of_ble_eq_true rfl⟩) hS (fun q _ h => hFc q h) hFc (fun u t H locs ht hvm hw hB hz1 hk1 hS _ hd8 => ?_)
      obtain ⟨lw1, bi1⟩ := u
      obtain ⟨hP, -, hD1⟩ := hB
      rw [ht] at hP
      have hD := hD1.weaken (B := A) (fun _ _ _ h => hFc _ h)
      have hP : va_P D vwCl (XW a cI cZ cD sh sw ts1 bi1 (po 0 5 it (fun _ => 0)) tu ne4 pr so1 lo2 (nI tr) (nI n) (vf_upd lp n pr) lz1 lu1 (po (5 * n) 5 lk it) ld1 lf2 lb lw1) H := hP
      have hD : va_D A (XW a cI cZ cD sh sw ts1 bi1 (po 0 5 it (fun _ => 0)) tu ne4 pr so1 lo2 (nI tr) (nI n) (vf_upd lp n pr) lz1 lu1 (po (5 * n) 5 lk it) ld1 lf2 lb lw1) := hD
      obtain ⟨hg1, hg2⟩ := hw
      dsimp only at hg1 hg2
      rw [hf2] at hg2
      refine lv_aload_n hx hb dX1_close_104 rfl (lv_at hl 2 rfl) ?_
      refine va_get (D := D) (ci := 1) (v := .ref (a 8)) (C := RX1) (T := TX1) (N := 12) hx hb (dr_words hts _) inX1 (xk_od hown) (xk_Kd hK) hP 0 rfl rfl 6 (by decide) (dr_words hts _ (.fieldLink RX1 33 "GridCommons" "ledger" "LGridCommons$Ledger;") (by decide +kernel)) (fun _ h9 => h9) rfl dX1_close_105 ?_
      refine lv_iload_n hx hb dX1_close_108 rfl (lv_at hl 1 rfl) ?_
      refine lv_iconst (v := nI 1) hx hb dX1_close_109 (by decide) ?_
      refine lv_iadd hx hb dX1_close_110 ?_
      refine xk_i (y := nI (n + 1)) (nI_1 n) ?_
      refine va_put (D := D) (ci := 0) (v := .int (nI (n + 1))) (ty := .int) (C := RX0) (T := TX0) (N := 9) hx hb (dr_words hts _) inX0 tyX0 tyX0_ok nmX0 (xk_od hown) (xk_Kd hK) hP hD hS 8 rfl rfl 0 (by decide) (dr_words hts _ (.fieldLink RX1 77 "GridCommons$Ledger" "count" "I") (by decide +kernel)) (fun _ h9 => h9) rfl (by decide +kernel) rfl rfl (Nat.le_of_ble_eq_true rfl) dX1_close_111 (fun H locs hP hD hS => ?_)
      have hP : va_P D vwCl (XW a cI cZ cD sh sw ts1 bi1 (po 0 5 it (fun _ => 0)) tu ne4 pr so1 lo2 (nI tr) (nI (n + 1)) (vf_upd lp n pr) lz1 lu1 (po (5 * n) 5 lk it) ld1 lf2 lb lw1) H := hP
      have hD : va_D A (XW a cI cZ cD sh sw ts1 bi1 (po 0 5 it (fun _ => 0)) tu ne4 pr so1 lo2 (nI tr) (nI (n + 1)) (vf_upd lp n pr) lz1 lu1 (po (5 * n) 5 lk it) ld1 lf2 lb lw1) := hD
      refine lv_iload_n hx hb dX1_close_114 rfl (lv_at hl 0 rfl) ?_
      subst hov
      refine W.endD hd8 ?_
      exact W.zret hx hb hr (bI_nar _) (fun t ht hW => ⟨⟨_, ((ts1, lu1, ne4, lo2), (ld1, lf2, so1, lz1), (lb, tr, lw1, bi1)), rfl, ⟨rfl, hb1, ha1, hc1, he1, hf2, by rw [hk]; exact hf1, by rw [hk], by rw [hk], hg1, hg2⟩, by rw [ht]; exact hP, va_K.moved hW.alike (xk_Kd hK), hD⟩, hS.F ht⟩) hS.2.2 dX1_close_115
    · skip
      have hL : dCmp (kL2 sun sh ((cT sw ts it tu lk (dts lu) n).2)) dZ = some .eq := by have q := (cv_l_eq _).mp c1; have q2 : dCmp (dt lo2) dZ = some .eq := q; rw [he3] at q2; exact q2
      refine lv_aload_n hx hb dX1_close_94 rfl (lv_at hl 2 rfl) ?_
      refine lv_iload_n hx hb dX1_close_95 rfl (lv_at hl 1 rfl) ?_
      have hFc := va_free (wc := XW a cI cZ cD sh sw ts1 bi (po 0 5 it (fun _ => 0)) tu ne4 pr so1 lo2 (nI tr) (nI n) (vf_upd lp n pr) lz1 lu1 (po (5 * n) 5 lk it) ld1 lf2 lb lw) hD hS hA [0, 1, 2, 3, 4, 5, 6, 7, 8, 9, 10, 11, 12, 13, 14, 15, 16] rfl
      refine va_callvD hd7 (va_runV_D (As := [.int (nI n)]) (rest := []) ⟨hx, hb, hml, (xk_od hown), (dr_words hts _)⟩ (mX1_giveFromBattery l D cI cZ cD a _ sh sw ts1 bi (po 0 5 it (fun _ => 0)) tu ne4 pr so1 lo2 (nI n) (vf_upd lp n pr) lz1 lu1 (po (5 * n) 5 lk it) ld1 lf2 lb lw n tr hn htr _ he2) (cwV 1 (dr_words hts _) gX1_close_X1_giveFromBattery rfl rfl rfl (by decide +kernel) ⟨Nat.le_of_ble_eq_true rfl, Nat.le_of_ble_eq_true rfl⟩) ⟨xk_blind, va_recv (xk_Kd hK) hP (ci := 1) (q0 := 0) rfl rfl, xk_pre hP (xk_Kd hK) hD⟩ rfl rfl hl.1 rfl (lv_room (Nat.le_of_ble_eq_true rfl)) dX1_close_96 ⟨Nat.le_of_ble_eq_true rfl, Nat.le_of_ble_eq_true rfl⟩) hS (fun q _ h => hFc q h) hFc (fun u t H locs ht hvm hw hB hz1 hk1 hS _ hd9 => ?_)
      obtain ⟨ne5, so2, lb1, tr1⟩ := u
      obtain ⟨hP, -, hD1⟩ := hB
      rw [ht] at hP
      have hD := hD1.weaken (B := A) (fun _ _ _ h => hFc _ h)
      have hP : va_P D vwCl (XW a cI cZ cD sh sw ts1 bi (po 0 5 it (fun _ => 0)) tu ne5 pr so2 lo2 (nI tr1) (nI n) (vf_upd lp n pr) lz1 lu1 (po (5 * n) 5 lk it) ld1 lf2 lb1 lw) H := hP
      have hD : va_D A (XW a cI cZ cD sh sw ts1 bi (po 0 5 it (fun _ => 0)) tu ne5 pr so2 lo2 (nI tr1) (nI n) (vf_upd lp n pr) lz1 lu1 (po (5 * n) 5 lk it) ld1 lf2 lb1 lw) := hD
      obtain ⟨hh1, hh2, hh3, hh4⟩ := hw
      dsimp only at hh1 hh2 hh3 hh4
      rw [hf1] at hh1 hh2 hh3 hh4
      have hk : kB sun sh ((cT sw ts it tu lk (dts lu) n).2) (dt so) (dts lb) tr n = ((gbs tr (5 * n) (kV3 sun sh ((cT sw ts it tu lk (dts lu) n).2)) (kS sun sh ((cT sw ts it tu lk (dts lu) n).2) (dt so)) (dts lb) 5).1, (gbs tr (5 * n) (kV3 sun sh ((cT sw ts it tu lk (dts lu) n).2)) (kS sun sh ((cT sw ts it tu lk (dts lu) n).2) (dt so)) (dts lb) 5).2.1, (gbs tr (5 * n) (kV3 sun sh ((cT sw ts it tu lk (dts lu) n).2)) (kS sun sh ((cT sw ts it tu lk (dts lu) n).2) (dt so)) (dts lb) 5).2.2.1, tnx tr (gbs tr (5 * n) (kV3 sun sh ((cT sw ts it tu lk (dts lu) n).2)) (kS sun sh ((cT sw ts it tu lk (dts lu) n).2) (dt so)) (dts lb) 5).2.2.2) := if_pos hL
      have hV4 : is5 ne5 (kB sun sh ((cT sw ts it tu lk (dts lu) n).2) (dt so) (dts lb) tr n).1 := by rw [hk]; exact hh1
      refine lv_aload_n hx hb dX1_close_99 rfl (lv_at hl 2 rfl) ?_
      refine lv_iload_n hx hb dX1_close_100 rfl (lv_at hl 1 rfl) ?_
      have hFc := va_free (wc := XW a cI cZ cD sh sw ts1 bi (po 0 5 it (fun _ => 0)) tu ne5 pr so2 lo2 (nI tr1) (nI n) (vf_upd lp n pr) lz1 lu1 (po (5 * n) 5 lk it) ld1 lf2 lb1 lw) hD hS hA [0, 1, 2, 3, 4, 5, 6, 7, 8, 9, 10, 11, 12, 13, 14, 15, 16] rfl
      refine va_callvD hd9 (va_runV_D (As := [.int (nI n)]) (rest := []) ⟨hx, hb, hml, (xk_od hown), (dr_words hts _)⟩ (mX1_writeBills l D cI cZ cD a _ sh sw ts1 bi (po 0 5 it (fun _ => 0)) tu ne5 pr so2 lo2 (nI tr1) (nI n) (vf_upd lp n pr) lz1 lu1 (po (5 * n) 5 lk it) ld1 lf2 lb1 lw n hn _ hV4) (cwV 1 (dr_words hts _) gX1_close_X1_writeBills rfl rfl rfl (by decide +kernel) ⟨Nat.le_of_ble_eq_true rfl, Nat.le_of_ble_eq_true rfl⟩) ⟨xk_blind, va_recv (xk_Kd hK) hP (ci := 1) (q0 := 0) rfl rfl, xk_pre hP (xk_Kd hK) hD⟩ rfl rfl hl.1 rfl (lv_room (Nat.le_of_ble_eq_true rfl)) dX1_close_101 ⟨Nat.le_of_ble_eq_true rfl, Nat.le_of_ble_eq_true rfl⟩) hS (fun q _ h => hFc q h) hFc (fun u t H locs ht hvm hw hB hz1 hk1 hS _ hd10 => ?_)
      obtain ⟨lw1, bi1⟩ := u
      obtain ⟨hP, -, hD1⟩ := hB
      rw [ht] at hP
      have hD := hD1.weaken (B := A) (fun _ _ _ h => hFc _ h)
      have hP : va_P D vwCl (XW a cI cZ cD sh sw ts1 bi1 (po 0 5 it (fun _ => 0)) tu ne5 pr so2 lo2 (nI tr1) (nI n) (vf_upd lp n pr) lz1 lu1 (po (5 * n) 5 lk it) ld1 lf2 lb1 lw1) H := hP
      have hD : va_D A (XW a cI cZ cD sh sw ts1 bi1 (po 0 5 it (fun _ => 0)) tu ne5 pr so2 lo2 (nI tr1) (nI n) (vf_upd lp n pr) lz1 lu1 (po (5 * n) 5 lk it) ld1 lf2 lb1 lw1) := hD
      obtain ⟨hg1, hg2⟩ := hw
      dsimp only at hg1 hg2
      rw [hf2] at hg2
      refine lv_aload_n hx hb dX1_close_104 rfl (lv_at hl 2 rfl) ?_
      refine va_get (D := D) (ci := 1) (v := .ref (a 8)) (C := RX1) (T := TX1) (N := 12) hx hb (dr_words hts _) inX1 (xk_od hown) (xk_Kd hK) hP 0 rfl rfl 6 (by decide) (dr_words hts _ (.fieldLink RX1 33 "GridCommons" "ledger" "LGridCommons$Ledger;") (by decide +kernel)) (fun _ h9 => h9) rfl dX1_close_105 ?_
      refine lv_iload_n hx hb dX1_close_108 rfl (lv_at hl 1 rfl) ?_
      refine lv_iconst (v := nI 1) hx hb dX1_close_109 (by decide) ?_
      refine lv_iadd hx hb dX1_close_110 ?_
      refine xk_i (y := nI (n + 1)) (nI_1 n) ?_
      refine va_put (D := D) (ci := 0) (v := .int (nI (n + 1))) (ty := .int) (C := RX0) (T := TX0) (N := 9) hx hb (dr_words hts _) inX0 tyX0 tyX0_ok nmX0 (xk_od hown) (xk_Kd hK) hP hD hS 8 rfl rfl 0 (by decide) (dr_words hts _ (.fieldLink RX1 77 "GridCommons$Ledger" "count" "I") (by decide +kernel)) (fun _ h9 => h9) rfl (by decide +kernel) rfl rfl (Nat.le_of_ble_eq_true rfl) dX1_close_111 (fun H locs hP hD hS => ?_)
      have hP : va_P D vwCl (XW a cI cZ cD sh sw ts1 bi1 (po 0 5 it (fun _ => 0)) tu ne5 pr so2 lo2 (nI tr1) (nI (n + 1)) (vf_upd lp n pr) lz1 lu1 (po (5 * n) 5 lk it) ld1 lf2 lb1 lw1) H := hP
      have hD : va_D A (XW a cI cZ cD sh sw ts1 bi1 (po 0 5 it (fun _ => 0)) tu ne5 pr so2 lo2 (nI tr1) (nI (n + 1)) (vf_upd lp n pr) lz1 lu1 (po (5 * n) 5 lk it) ld1 lf2 lb1 lw1) := hD
      refine lv_iload_n hx hb dX1_close_114 rfl (lv_at hl 0 rfl) ?_
      subst hov
      refine W.endD hd10 ?_
      exact W.zret hx hb hr (bI_nar _) (fun t ht hW => ⟨⟨_, ((ts1, lu1, ne5, lo2), (ld1, lf2, so2, lz1), (lb1, tr1, lw1, bi1)), rfl, ⟨rfl, hb1, ha1, hc1, he1, hf2, by rw [hk]; exact hh2, by rw [hk]; exact hh3, by rw [hk]; exact hh4, hg1, hg2⟩, by rw [ht]; exact hP, va_K.moved hW.alike (xk_Kd hK), hD⟩, hS.F ht⟩) hS.2.2 dX1_close_115
  · skip
    exact absurd (nI_lt hn (by decide)) c
set_option maxHeartbeats 4000000 in
set_option maxRecDepth 100000 in
theorem mX1_closeX (l : Launch) (hst : l.stackTraces = false) (D : va_G) (cI cZ cD : ClassId) (a : Nat → Nat) (Hp : Heap) (sh sw ts : Nat → Int32) (bi : Nat → UInt64) (it tu : Nat → Int32) (ne : Nat → UInt64) (pr so lo : UInt64) (wt : Int32) (lp lz lu : Nat → UInt64) (lk : Nat → Int32) (ld lf lb lw : Nat → UInt64) (n : Nat) (hn : n ≤ 60) (sun : Int32) (hbad : ¬ (inR sun 0 100 ∧ n < 60)) : vx_Met l yX1_close wsX1_close ({ frames := 7, cells := 1, slots := 6, locals := 104 } : Room) (va_Pc [.ref (a 0), .int sun] (XQ D cI cZ cD (XW a cI cZ cD sh sw ts bi it tu ne pr so lo wt (nI n) lp lz lu lk ld lf lb lw) Hp)) (va_Qi (fun _ (_ : Unit) => False) (fun _ _ => True) (fun q => Hp.size ≤ q)) (XE (fun E => (E = "java/lang/IllegalArgumentException" ∧ ¬ inR sun 0 100) ∨ (E = "java/lang/IllegalStateException" ∧ inR sun 0 100 ∧ ¬ n < 60)) Hp.size) 1 6 (fun q => Hp.size ≤ q) := by
  refine vx_ofW (cc := cX1_close) (maxL := 4) (ret := (some .boolean)) (by decide +kernel) rfl ?_
  intro p e s m args below meth c s₁ B hml htab hv
  obtain ⟨rfl, hsz, ⟨hP, hK, hD⟩, hE⟩ := hv
  have hx := B.exec
  have hb := B.bytes
  have hr := B.returns
  have hts := atoms_spec (ws := wsX1_close) B.pre
  have hown : s.vm.findClass RX1 = some m.cls := findClass_of_methodNamed B.named
  have hlocks := B.notSynchronized
  subst hsz
  have hA : ∀ q : Nat, s.heap.size ≤ q → (fun q => s.heap.size ≤ q) q := fun q h => h
  have hS : va_S (fun q => s.heap.size ≤ q) s.heap s.heap [] := va_S.rf
  have hl := lv_entry ([.ref (a 0), .int sun]) (n := 4) (Nat.le_of_ble_eq_true rfl)
  rw [lg_entry_eq]
  generalize (lg_sl ([.ref (a 0), .int sun]) ++ List.replicate (4 - (lg_sl ([.ref (a 0), .int sun])).length) Slot.unset).toArray = ls at hl ⊢
  have hl : lv_has ls 4 [(0, .ref (a 0)), (1, .int sun)] := hl
  have inX1 : ∀ w ∈ wsX10, w ∈ wsX1_close := by decide +kernel
  have inX0 : ∀ w ∈ wsX00, w ∈ wsX1_close := by decide +kernel
  refine lv_iload_n hx hb dX1_close_0 rfl (lv_at hl 1 rfl) ?_
  refine lv_iconst (v := nI 0) hx hb dX1_close_1 (by decide) ?_
  refine lv_bipush (v := nI 100) hx hb dX1_close_2 (by decide) ?_
  by_cases hin : inR sun 0 100
  · skip
    refine va_csv (va_Run.run (va_runS (As := [.int sun, .int (nI 0), .int (nI 100)]) (rest := []) ⟨hx, hb, hml, hown, hts⟩ (mX1_requireWithinV l sun (nI 0) (nI 100) hin) (va_cwS 3 hts gX1_close_X1_requireWithin rfl rfl rfl (by decide +kernel) ⟨Nat.le_of_ble_eq_true rfl, Nat.le_of_ble_eq_true rfl⟩) ⟨fun a U g mk q => q, fun U hU hW => ⟨rfl, trivial⟩⟩ rfl rfl hl.1 rfl (lv_room (Nat.le_of_ble_eq_true rfl)) dX1_close_4 ⟨Nat.le_of_ble_eq_true rfl, Nat.le_of_ble_eq_true rfl⟩)) (fun _ => ?_)
    refine lv_aload_n hx hb dX1_close_7 rfl (lv_at hl 0 rfl) ?_
    refine va_get (D := D) (ci := 1) (v := .ref (a 8)) (C := RX1) (T := TX1) (N := 12) hx hb hts inX1 hown hK hP 0 rfl rfl 6 (by decide) (hts (.fieldLink RX1 33 "GridCommons" "ledger" "LGridCommons$Ledger;") (by decide +kernel)) (fun _ h9 => h9) rfl dX1_close_8 ?_
    refine va_get (D := D) (ci := 0) (v := .int (nI n)) (C := RX0) (T := TX0) (N := 9) hx hb hts inX0 hown hK hP 8 rfl rfl 0 (by decide) (hts (.fieldLink RX1 77 "GridCommons$Ledger" "count" "I") (by decide +kernel)) (fun _ h9 => h9) rfl dX1_close_11 ?_
    refine lv_istore_n (lv' := [(2, .int (nI n)), (0, .ref (a 0)), (1, .int sun)]) hx hb dX1_close_14 rfl hl (by decide) rfl (fun ls hl => ?_)
    refine lv_iload_n hx hb dX1_close_15 rfl (lv_at hl 0 rfl) ?_
    refine lv_bipush (v := nI 60) hx hb dX1_close_16 (by decide) ?_
    refine lv_icmp_lt (tgt := 31) hx hb dX1_close_18 (by decide) (fun c => ?_) (fun c => ?_)
    · skip
      exact absurd ⟨hin, (nI_ltI (by omega) (by decide)).mp c⟩ hbad
    · skip
      obtain ⟨sa, hstr⟩ := hE.2.2.2 (80, "60 quarters are closed") (by decide)
      have hat0 : ∀ w ∈ (vx_atS RX1 72 "java/lang/IllegalStateException" ["java/lang/RuntimeException", "java/lang/Exception"]).filter goodWord, w ∈ wsX1_close := by decide +kernel
      exact vx_throwS (text := "60 quarters are closed") (names := ["java/lang/RuntimeException", "java/lang/Exception"]) hx hb hst hown (by decide +kernel) (by decide +kernel) (hts (.classLink RX1 68 "java/lang/IllegalStateException") (by decide +kernel)) (hts (.initialized "java/lang/IllegalStateException") (by decide +kernel)) hstr (vx_hat (B := exW) (fun w h => hts w (hat0 w h)) (by decide +kernel) hE.words) (by decide +kernel) hE.1 hE.2.1 hS (hl.1.trans hml.symm) dX1_close_21 dX1_close_24 dX1_close_25 dX1_close_27 dX1_close_30 (fun x h => (htab x h).elim) (Nat.le_of_ble_eq_true rfl) (Nat.le_of_ble_eq_true rfl) (Nat.le_of_ble_eq_true rfl) (Nat.le_of_ble_eq_true rfl) hlocks (fun t ht hz hk => ⟨(), trivial, Or.inr ⟨rfl, hin, fun z => hbad ⟨hin, z⟩⟩, hz, fun q h1 _ => hk q h1⟩) hS.2.2 (Nat.le_refl _) (Nat.le_refl _)
  · skip
    exact vx_callv (vx_runS (As := [.int sun, .int (nI 0), .int (nI 100)]) (rest := []) ⟨hx, hb, hml, hown, hts⟩ (mX1_requireWithin l hst s.heap sun (nI 0) (nI 100)) (va_cwS 3 hts gX1_close_X1_requireWithin rfl rfl rfl (by decide +kernel) ⟨Nat.le_of_ble_eq_true rfl, Nat.le_of_ble_eq_true rfl⟩) ⟨xh_blind, xh_pre hE hS hA⟩ rfl rfl hl.1 rfl (lv_room (Nat.le_of_ble_eq_true rfl)) dX1_close_4 ⟨Nat.le_of_ble_eq_true rfl, Nat.le_of_ble_eq_true rfl⟩) hS (fun q h1 h2 => absurd h2 (Nat.not_le.mpr h1)) (fun q h => hA q (Nat.le_trans hS.1 h)) (fun q h1 h2 => absurd h2 (Nat.not_le.mpr h1)) (fun E ce q9 u9 t9 H9 locs9 ht9 hvm9 hpx9 hB9 hz9 hk9 hS9 hce9 hcv9 hcl9 => vx_out (fun x h => (htab x h).elim) hlocks hce9 hcv9 hcl9 (fun t8 ht8 hvm8 => ⟨(), trivial, Or.inl ⟨hB9.1, hB9.2⟩, by rw [ht8]; exact hz9, fun q h1 h2 => by rw [ht8]; exact hk9 q h1 h2⟩) hS9.2.2 (Nat.le_refl _) (Nat.le_refl _)) (fun u t H1 locs1 ht hvm hw hB hz1 hk1 hS1 => absurd hw hin)
end
