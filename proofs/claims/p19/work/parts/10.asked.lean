/-! WHAT IS ASKED OF ARGUMENTS: methods that return or throw -/
/-- words that the exceptions' constructors need and that a warm-up doesn't keep by itself -/
def exW : List Cond := [.declares (Bundle.initS "java/lang/RuntimeException"), .declares (Bundle.initS "java/lang/Exception"), .declares (Bundle.initS "java/lang/Throwable"), .castable "java/lang/IllegalArgumentException" "java/lang/IllegalArgumentException", .castable "java/lang/IllegalStateException" "java/lang/IllegalStateException", .castable "java/lang/IndexOutOfBoundsException" "java/lang/IndexOutOfBoundsException"]
def exS : List (Nat × String) := [(70, "all shares together would be more than 4"), (80, "60 quarters are closed"), (123, "the use was told, or the gap was replaced"), (148, "a number is out of range"), (151, "owner is out of range"), (155, "there is no such quarter")]
/-- what throwing takes: the two statics of Throwable outside A, the words, the texts -/
def EX (A : Nat → Prop) (U : State) (H : Heap) : Prop := vx_Zq Bundle.tN "UNASSIGNED_STACK" Bundle.steD A U H ∧ vx_Zq Bundle.tN "SUPPRESSED_SENTINEL" Bundle.listD A U H ∧ (∀ w ∈ exW, w.before #[] U = true) ∧ ∀ q ∈ exS, ∃ sa : Nat, vk_R RX1 q.1 q.2 sa U
theorem exW_face : ∀ w ∈ exW, w.faceAtom = true ∧ w.onTables = true := by decide +kernel
/-- .. handed to a callee *-/
theorem EX.pass {A B : Nat → Prop} {s U : State} {H : Heap} {locs : List Loc} (h : EX A s s.heap) (hS : va_S A s.heap H locs) (hU : U.heap = H) (hW : s.WarmedH U.vm) (hAB : ∀ q, B q → A q) : EX B U U.heap := by
  obtain ⟨h1, h2, h3, h4⟩ := h
  rw [hU]
  have hk : ∀ a : Nat, a < s.heap.size → ¬ A a → H[a]? = s.heap[a]? := hS.2.1
  refine ⟨((vx_Zq.kept h1 hk).moved hW.alike).narrow hAB, ((vx_Zq.kept h2 hk).moved hW.alike).narrow hAB, fun w hw => ?_, fun q hq => ?_⟩
  · have e1 := Cond.faceAtom_setVm hW.alike w (exW_face w hw).1 (h3 w hw)
    exact va_tabs (u := s.setVm U.vm) (exW_face w hw).2 rfl e1
  · obtain ⟨sa, h9⟩ := h4 q hq
    exact ⟨sa, vk_R.warm hW h9⟩
theorem EX.blind {A : Nat → Prop} {U : State} {H : Heap} {g : JFrame} {mk : MethodId} {av : Array Value} (h : EX A U H) : EX A (U.calling g mk av) H := by
  obtain ⟨h1, h2, h3, h4⟩ := h
  refine ⟨vx_Zq.moved (u := U) (U := U.calling g mk av) (Vm.Alike.refl U.vm) h1, vx_Zq.moved (u := U) (U := U.calling g mk av) (Vm.Alike.refl U.vm) h2, fun w hw => va_tabs (u := U) (exW_face w hw).2 rfl (h3 w hw), fun q hq => ?_⟩
  obtain ⟨sa, h9⟩ := h4 q hq
  exact ⟨sa, vk_R.same (u := U) rfl h9⟩
theorem EX.words {A : Nat → Prop} {U : State} {H : Heap} {av : Array Value} (h : EX A U H) : ∀ w ∈ exW, w.before av U = true := fun w hw => va_any (exW_face w hw).2 (h.2.2.1 w hw)
/-- E is thrown for a reason; all that was there before stays -/
abbrev XE (pE : String → Prop) (sz : Nat) : String → State → State → Prop := vx_X (fun _ : Unit => True) (fun E _ _ => pE E) (fun q => sz ≤ q)
/-- a start at a heap of its own, for what only looks -/
abbrev XH (Hp : Heap) (U : State) : Prop := U.heap = Hp ∧ EX (fun q => Hp.size ≤ q) U U.heap
theorem xh_blind {av : List Value} {Hp : Heap} : FrameBlind (va_Pc av (XH Hp)) := fun a U g mk q => by
  obtain ⟨q0, q1, q2⟩ := q
  exact ⟨q0, q1, q2.blind⟩
theorem xh_pre {av : List Value} {s : State} {A : Nat → Prop} {H : Heap} {locs : List Loc} (hE : EX A s s.heap) (hS : va_S A s.heap H locs) (hA : ∀ q, s.heap.size ≤ q → A q) : ∀ U : State, U.heap = H → s.WarmedH U.vm → va_Pc av (XH H) av.toArray U :=
  fun U hU hW => ⟨rfl, hU, hE.pass hS hU hW (fun q hq => hA q (Nat.le_trans hS.1 hq))⟩
abbrev XQ (D : va_G) (cI cZ cD : ClassId) (w : va_W) (Hp : Heap) (U : State) : Prop := U.heap = Hp ∧ XB D cI cZ cD w (fun _ => True) U ∧ EX (fun q => Hp.size ≤ q) U U.heap
theorem xq_blind {av : List Value} {D : va_G} {cI cZ cD : ClassId} {w : va_W} {Hp : Heap} : FrameBlind (va_Pc av (XQ D cI cZ cD w Hp)) := fun a U g mk q => by
  obtain ⟨q0, q1, ⟨qP, qK, qD⟩, q2⟩ := q
  exact ⟨q0, q1, ⟨qP, va_K.moved (u := U) (U := U.calling g mk a) (Vm.Alike.refl U.vm) qK, qD⟩, q2.blind⟩
theorem xq_pre {av : List Value} {D : va_G} {cI cZ cD : ClassId} {w : va_W} {A A1 : Nat → Prop} {H : Heap} {s : State} {locs : List Loc} (hP : va_P D vwCl w H) (hK : va_K D vwCl (T3 cI cZ cD) s) (hD : va_D A1 w) (hE : EX A s s.heap) (hS : va_S A s.heap H locs) (hA : ∀ q, s.heap.size ≤ q → A q) : ∀ U : State, U.heap = H → s.WarmedH U.vm → va_Pc av (XQ D cI cZ cD w H) av.toArray U :=
  fun U hU hW => ⟨rfl, hU, ⟨by rw [hU]; exact hP, va_K.moved hW.alike hK, hD.weaken (fun _ _ _ _ => trivial)⟩, hE.pass hS hU hW (fun q hq => hA q (Nat.le_trans hS.1 hq))⟩
/-! numbers in range -/
abbrev inR (x lo hi : Int32) : Prop := lo ≤ x ∧ x ≤ hi
theorem inR_nI {x : Int32} {hi : Int32} {n : Nat} (hn : hi.toInt = n) (h : inR x 0 hi) : ∃ o, o ≤ n ∧ x = nI o := nI_of2 hn (fun q => absurd h.1 (Int32.not_le.mpr q)) h.2
theorem nI_inR {o n : Nat} (h : o ≤ n) (hn : n < 2 ^ 31) : inR (nI o) 0 (nI n) := ⟨nI_pos' (by omega), nI_le h hn⟩
theorem lt_of_le1 {x a b : Int32} (hab : b.toInt = a.toInt + 1) : x < b ↔ x ≤ a := by
  rw [Int32.lt_iff_toInt_lt, Int32.le_iff_toInt_le, hab]
  omega
set_option maxHeartbeats 4000000 in
set_option maxRecDepth 100000 in
theorem mX1_requireOwnerV (l : Launch) (x : Int32) (hin : inR x 0 4) : Met l yX1_requireOwner wsX1_requireOwner ({ frames := 0, cells := 0, slots := 0, locals := 0 } : Room) (va_Pc [.int x] (fun _ => True)) (va_Sv (fun _ => True)) 0 0 (fun _ => False) := by
  refine Met.ofW (cc := cX1_requireOwner) (maxL := 1) (ret := none) (by decide +kernel) rfl ?_
  intro p e s m args below meth c s₁ B hml hv
  obtain ⟨rfl, -⟩ := hv
  have hx := B.exec
  have hb := B.bytes
  have hr := B.returns
  have hts := atoms_spec (ws := wsX1_requireOwner) B.pre
  have hown : s.vm.findClass RX1 = some m.cls := findClass_of_methodNamed B.named
  have hlocks := B.notSynchronized
  have hl := lv_entry ([.int x]) (n := 1) (Nat.le_of_ble_eq_true rfl)
  rw [lg_entry_eq]
  generalize (lg_sl ([.int x]) ++ List.replicate (1 - (lg_sl ([.int x])).length) Slot.unset).toArray = ls at hl ⊢
  have hl : lv_has ls 1 [(0, .int x)] := hl
  refine lv_iload_n hx hb dX1_requireOwner_0 rfl (lv_at hl 0 rfl) ?_
  refine lv_if_lt (tgt := 9) hx hb dX1_requireOwner_1 (by decide) (fun c => ?_) (fun c => ?_)
  · skip
    exact absurd hin.1 (Int32.not_le.mpr c)
  · skip
    refine lv_iload_n hx hb dX1_requireOwner_4 rfl (lv_at hl 0 rfl) ?_
    refine lv_iconst (v := nI 5) hx hb dX1_requireOwner_5 (by decide) ?_
    refine lv_icmp_lt (tgt := 19) hx hb dX1_requireOwner_6 (by decide) (fun c1 => ?_) (fun c1 => ?_)
    · skip
      exact W.vret hx hb hr (fun t ht hW => ⟨rfl, trivial, ht⟩) (fun q hq => absurd hq List.not_mem_nil) dX1_requireOwner_19
    · skip
      exact absurd ((lt_of_le1 (a := 4) (by decide)).mpr hin.2) c1
set_option maxHeartbeats 4000000 in
set_option maxRecDepth 100000 in
theorem mX1_requireWithinV (l : Launch) (x lo up : Int32) (hin : inR x lo up) : Met l yX1_requireWithin wsX1_requireWithin ({ frames := 0, cells := 0, slots := 0, locals := 0 } : Room) (va_Pc [.int x, .int lo, .int up] (fun _ => True)) (va_Sv (fun _ => True)) 0 0 (fun _ => False) := by
  refine Met.ofW (cc := cX1_requireWithin) (maxL := 3) (ret := none) (by decide +kernel) rfl ?_
  intro p e s m args below meth c s₁ B hml hv
  obtain ⟨rfl, -⟩ := hv
  have hx := B.exec
  have hb := B.bytes
  have hr := B.returns
  have hts := atoms_spec (ws := wsX1_requireWithin) B.pre
  have hown : s.vm.findClass RX1 = some m.cls := findClass_of_methodNamed B.named
  have hlocks := B.notSynchronized
  have hl := lv_entry ([.int x, .int lo, .int up]) (n := 3) (Nat.le_of_ble_eq_true rfl)
  rw [lg_entry_eq]
  generalize (lg_sl ([.int x, .int lo, .int up]) ++ List.replicate (3 - (lg_sl ([.int x, .int lo, .int up])).length) Slot.unset).toArray = ls at hl ⊢
  have hl : lv_has ls 3 [(0, .int x), (1, .int lo), (2, .int up)] := hl
  refine lv_iload_n hx hb dX1_requireWithin_0 rfl (lv_at hl 0 rfl) ?_
  refine lv_iload_n hx hb dX1_requireWithin_1 rfl (lv_at hl 1 rfl) ?_
  refine lv_icmp_lt (tgt := 10) hx hb dX1_requireWithin_2 (by decide) (fun c => ?_) (fun c => ?_)
  · skip
    exact absurd hin.1 (Int32.not_le.mpr c)
  · skip
    refine lv_iload_n hx hb dX1_requireWithin_5 rfl (lv_at hl 0 rfl) ?_
    refine lv_iload_n hx hb dX1_requireWithin_6 rfl (lv_at hl 2 rfl) ?_
    refine lv_icmp_le (tgt := 20) hx hb dX1_requireWithin_7 (by decide) (fun c1 => ?_) (fun c1 => ?_)
    · skip
      exact W.vret hx hb hr (fun t ht hW => ⟨rfl, trivial, ht⟩) (fun q hq => absurd hq List.not_mem_nil) dX1_requireWithin_20
    · skip
      exact absurd hin.2 c1
set_option maxHeartbeats 4000000 in
set_option maxRecDepth 100000 in
theorem mX1_requireOwner (l : Launch) (hst : l.stackTraces = false) (Hp : Heap) (x : Int32) : vx_Met l yX1_requireOwner wsX1_requireOwner ({ frames := 6, cells := 1, slots := 6, locals := 82 } : Room) (va_Pc [.int x] (XH Hp)) (va_Qv (fun _ : Unit => inR x 0 4) (fun _ t => t.heap = Hp) (fun q => Hp.size ≤ q)) (XE (fun E => E = "java/lang/IllegalArgumentException" ∧ ¬ inR x 0 4) Hp.size) 1 6 (fun q => Hp.size ≤ q) := by
  refine vx_ofW (cc := cX1_requireOwner) (maxL := 1) (ret := none) (by decide +kernel) rfl ?_
  intro p e s m args below meth c s₁ B hml htab hv
  obtain ⟨rfl, hsz, hE⟩ := hv
  have hx := B.exec
  have hb := B.bytes
  have hr := B.returns
  have hts := atoms_spec (ws := wsX1_requireOwner) B.pre
  have hown : s.vm.findClass RX1 = some m.cls := findClass_of_methodNamed B.named
  have hlocks := B.notSynchronized
  subst hsz
  have hA : ∀ q : Nat, s.heap.size ≤ q → (fun q => s.heap.size ≤ q) q := fun q h => h
  have hS : va_S (fun q => s.heap.size ≤ q) s.heap s.heap [] := va_S.rf
  have hl := lv_entry ([.int x]) (n := 1) (Nat.le_of_ble_eq_true rfl)
  rw [lg_entry_eq]
  generalize (lg_sl ([.int x]) ++ List.replicate (1 - (lg_sl ([.int x])).length) Slot.unset).toArray = ls at hl ⊢
  have hl : lv_has ls 1 [(0, .int x)] := hl
  refine lv_iload_n hx hb dX1_requireOwner_0 rfl (lv_at hl 0 rfl) ?_
  refine lv_if_lt (tgt := 9) hx hb dX1_requireOwner_1 (by decide) (fun c => ?_) (fun c => ?_)
  · skip
    obtain ⟨sa, hstr⟩ := hE.2.2.2 (151, "owner is out of range") (by decide)
    have hat0 : ∀ w ∈ (vx_atS RX1 150 "java/lang/IllegalArgumentException" ["java/lang/RuntimeException", "java/lang/Exception"]).filter goodWord, w ∈ wsX1_requireOwner := by decide +kernel
    exact vx_throwS (text := "owner is out of range") (names := ["java/lang/RuntimeException", "java/lang/Exception"]) hx hb hst hown (by decide +kernel) (by decide +kernel) (hts (.classLink RX1 146 "java/lang/IllegalArgumentException") (by decide +kernel)) (hts (.initialized "java/lang/IllegalArgumentException") (by decide +kernel)) hstr (vx_hat (B := exW) (fun w h => hts w (hat0 w h)) (by decide +kernel) hE.words) (by decide +kernel) hE.1 hE.2.1 hS (hl.1.trans hml.symm) dX1_requireOwner_9 dX1_requireOwner_12 dX1_requireOwner_13 dX1_requireOwner_15 dX1_requireOwner_18 (fun x h => (htab x h).elim) (Nat.le_of_ble_eq_true rfl) (Nat.le_of_ble_eq_true rfl) (Nat.le_of_ble_eq_true rfl) (Nat.le_of_ble_eq_true rfl) hlocks (fun t ht hz hk => ⟨(), trivial, ⟨rfl, fun q => absurd q.1 (Int32.not_le.mpr c)⟩, hz, fun q h1 _ => hk q h1⟩) hS.2.2 (Nat.le_refl _) (Nat.le_refl _)
  · skip
    refine lv_iload_n hx hb dX1_requireOwner_4 rfl (lv_at hl 0 rfl) ?_
    refine lv_iconst (v := nI 5) hx hb dX1_requireOwner_5 (by decide) ?_
    refine lv_icmp_lt (tgt := 19) hx hb dX1_requireOwner_6 (by decide) (fun c1 => ?_) (fun c1 => ?_)
    · skip
      refine W.widen (k := 1) (n := 6) (Nat.zero_le _) (Nat.zero_le _) (vx_ret ?_)
      exact W.vret hx hb hr (fun t ht hW => ⟨⟨(), rfl, ⟨Int32.not_lt.mp c, (lt_of_le1 (a := 4) (by decide)).mp c1⟩, ht⟩, hS.F ht⟩) hS.2.2 dX1_requireOwner_19
    · skip
      obtain ⟨sa, hstr⟩ := hE.2.2.2 (151, "owner is out of range") (by decide)
      have hat0 : ∀ w ∈ (vx_atS RX1 150 "java/lang/IllegalArgumentException" ["java/lang/RuntimeException", "java/lang/Exception"]).filter goodWord, w ∈ wsX1_requireOwner := by decide +kernel
      exact vx_throwS (text := "owner is out of range") (names := ["java/lang/RuntimeException", "java/lang/Exception"]) hx hb hst hown (by decide +kernel) (by decide +kernel) (hts (.classLink RX1 146 "java/lang/IllegalArgumentException") (by decide +kernel)) (hts (.initialized "java/lang/IllegalArgumentException") (by decide +kernel)) hstr (vx_hat (B := exW) (fun w h => hts w (hat0 w h)) (by decide +kernel) hE.words) (by decide +kernel) hE.1 hE.2.1 hS (hl.1.trans hml.symm) dX1_requireOwner_9 dX1_requireOwner_12 dX1_requireOwner_13 dX1_requireOwner_15 dX1_requireOwner_18 (fun x h => (htab x h).elim) (Nat.le_of_ble_eq_true rfl) (Nat.le_of_ble_eq_true rfl) (Nat.le_of_ble_eq_true rfl) (Nat.le_of_ble_eq_true rfl) hlocks (fun t ht hz hk => ⟨(), trivial, ⟨rfl, fun q => c1 ((lt_of_le1 (a := 4) (by decide)).mpr q.2)⟩, hz, fun q h1 _ => hk q h1⟩) hS.2.2 (Nat.le_refl _) (Nat.le_refl _)
set_option maxHeartbeats 4000000 in
set_option maxRecDepth 100000 in
theorem mX1_requireWithin (l : Launch) (hst : l.stackTraces = false) (Hp : Heap) (x lo up : Int32) : vx_Met l yX1_requireWithin wsX1_requireWithin ({ frames := 6, cells := 1, slots := 6, locals := 82 } : Room) (va_Pc [.int x, .int lo, .int up] (XH Hp)) (va_Qv (fun _ : Unit => inR x lo up) (fun _ t => t.heap = Hp) (fun q => Hp.size ≤ q)) (XE (fun E => E = "java/lang/IllegalArgumentException" ∧ ¬ inR x lo up) Hp.size) 1 6 (fun q => Hp.size ≤ q) := by
  refine vx_ofW (cc := cX1_requireWithin) (maxL := 3) (ret := none) (by decide +kernel) rfl ?_
  intro p e s m args below meth c s₁ B hml htab hv
  obtain ⟨rfl, hsz, hE⟩ := hv
  have hx := B.exec
  have hb := B.bytes
  have hr := B.returns
  have hts := atoms_spec (ws := wsX1_requireWithin) B.pre
  have hown : s.vm.findClass RX1 = some m.cls := findClass_of_methodNamed B.named
  have hlocks := B.notSynchronized
  subst hsz
  have hA : ∀ q : Nat, s.heap.size ≤ q → (fun q => s.heap.size ≤ q) q := fun q h => h
  have hS : va_S (fun q => s.heap.size ≤ q) s.heap s.heap [] := va_S.rf
  have hl := lv_entry ([.int x, .int lo, .int up]) (n := 3) (Nat.le_of_ble_eq_true rfl)
  rw [lg_entry_eq]
  generalize (lg_sl ([.int x, .int lo, .int up]) ++ List.replicate (3 - (lg_sl ([.int x, .int lo, .int up])).length) Slot.unset).toArray = ls at hl ⊢
  have hl : lv_has ls 3 [(0, .int x), (1, .int lo), (2, .int up)] := hl
  refine lv_iload_n hx hb dX1_requireWithin_0 rfl (lv_at hl 0 rfl) ?_
  refine lv_iload_n hx hb dX1_requireWithin_1 rfl (lv_at hl 1 rfl) ?_
  refine lv_icmp_lt (tgt := 10) hx hb dX1_requireWithin_2 (by decide) (fun c => ?_) (fun c => ?_)
  · skip
    obtain ⟨sa, hstr⟩ := hE.2.2.2 (148, "a number is out of range") (by decide)
    have hat0 : ∀ w ∈ (vx_atS RX1 150 "java/lang/IllegalArgumentException" ["java/lang/RuntimeException", "java/lang/Exception"]).filter goodWord, w ∈ wsX1_requireWithin := by decide +kernel
    exact vx_throwS (text := "a number is out of range") (names := ["java/lang/RuntimeException", "java/lang/Exception"]) hx hb hst hown (by decide +kernel) (by decide +kernel) (hts (.classLink RX1 146 "java/lang/IllegalArgumentException") (by decide +kernel)) (hts (.initialized "java/lang/IllegalArgumentException") (by decide +kernel)) hstr (vx_hat (B := exW) (fun w h => hts w (hat0 w h)) (by decide +kernel) hE.words) (by decide +kernel) hE.1 hE.2.1 hS (hl.1.trans hml.symm) dX1_requireWithin_10 dX1_requireWithin_13 dX1_requireWithin_14 dX1_requireWithin_16 dX1_requireWithin_19 (fun x h => (htab x h).elim) (Nat.le_of_ble_eq_true rfl) (Nat.le_of_ble_eq_true rfl) (Nat.le_of_ble_eq_true rfl) (Nat.le_of_ble_eq_true rfl) hlocks (fun t ht hz hk => ⟨(), trivial, ⟨rfl, fun q => absurd q.1 (Int32.not_le.mpr c)⟩, hz, fun q h1 _ => hk q h1⟩) hS.2.2 (Nat.le_refl _) (Nat.le_refl _)
  · skip
    refine lv_iload_n hx hb dX1_requireWithin_5 rfl (lv_at hl 0 rfl) ?_
    refine lv_iload_n hx hb dX1_requireWithin_6 rfl (lv_at hl 2 rfl) ?_
    refine lv_icmp_le (tgt := 20) hx hb dX1_requireWithin_7 (by decide) (fun c1 => ?_) (fun c1 => ?_)
    · skip
      refine W.widen (k := 1) (n := 6) (Nat.zero_le _) (Nat.zero_le _) (vx_ret ?_)
      exact W.vret hx hb hr (fun t ht hW => ⟨⟨(), rfl, ⟨Int32.not_lt.mp c, c1⟩, ht⟩, hS.F ht⟩) hS.2.2 dX1_requireWithin_20
    · skip
      obtain ⟨sa, hstr⟩ := hE.2.2.2 (148, "a number is out of range") (by decide)
      have hat0 : ∀ w ∈ (vx_atS RX1 150 "java/lang/IllegalArgumentException" ["java/lang/RuntimeException", "java/lang/Exception"]).filter goodWord, w ∈ wsX1_requireWithin := by decide +kernel
      exact vx_throwS (text := "a number is out of range") (names := ["java/lang/RuntimeException", "java/lang/Exception"]) hx hb hst hown (by decide +kernel) (by decide +kernel) (hts (.classLink RX1 146 "java/lang/IllegalArgumentException") (by decide +kernel)) (hts (.initialized "java/lang/IllegalArgumentException") (by decide +kernel)) hstr (vx_hat (B := exW) (fun w h => hts w (hat0 w h)) (by decide +kernel) hE.words) (by decide +kernel) hE.1 hE.2.1 hS (hl.1.trans hml.symm) dX1_requireWithin_10 dX1_requireWithin_13 dX1_requireWithin_14 dX1_requireWithin_16 dX1_requireWithin_19 (fun x h => (htab x h).elim) (Nat.le_of_ble_eq_true rfl) (Nat.le_of_ble_eq_true rfl) (Nat.le_of_ble_eq_true rfl) (Nat.le_of_ble_eq_true rfl) hlocks (fun t ht hz hk => ⟨(), trivial, ⟨rfl, fun q => c1 q.2⟩, hz, fun q h1 _ => hk q h1⟩) hS.2.2 (Nat.le_refl _) (Nat.le_refl _)
