/-! GridCommons: the face, but for close and replace: each by two contracts, V: the arguments are good; X: they are not -/
abbrev isQ (n : Nat) (q : Int32) : Prop := 0 ≤ q ∧ q < nI n
theorem isQ_nI {n : Nat} {q : Int32} (hn : n < 2 ^ 31) (h : isQ n q) : ∃ j, j < n ∧ q = nI j := by
  obtain ⟨j, hj, rfl⟩ := nI_of (fun z => absurd h.1 (Int32.not_le.mpr z))
  exact ⟨j, (nI_ltI hj hn).mp h.2, rfl⟩
set_option maxHeartbeats 4000000 in
set_option maxRecDepth 100000 in
theorem mX1_requireQuarterV (l : Launch) (D : va_G) (cI cZ cD : ClassId) (a : Nat → Nat) (sz : Nat) (sh sw ts : Nat → Int32) (bi : Nat → UInt64) (it tu : Nat → Int32) (ne : Nat → UInt64) (pr so lo : UInt64) (wt : Int32) (lp lz lu : Nat → UInt64) (lk : Nat → Int32) (ld lf lb lw : Nat → UInt64) (n : Nat) (q : Int32) (hq : isQ n q) : Met l yX1_requireQuarter wsX1_requireQuarter ({ frames := 0, cells := 0, slots := 0, locals := 0 } : Room) (va_Pc [.ref (a 0), .int q] (XP D cI cZ cD (XW a cI cZ cD sh sw ts bi it tu ne pr so lo wt (nI n) lp lz lu lk ld lf lb lw) sz)) (va_Sv (fun _ => True)) 0 0 (fun _ => False) := by
  refine Met.ofW (cc := cX1_requireQuarter) (maxL := 2) (ret := none) (by decide +kernel) rfl ?_
  intro p e s m args below meth c s₁ B hml hv
  obtain ⟨rfl, hsz, hP, hK, hD0⟩ := hv
  have hx := B.exec
  have hb := B.bytes
  have hr := B.returns
  have hts := atoms_spec (ws := wsX1_requireQuarter) B.pre
  have hown : s.vm.findClass RX1 = some m.cls := findClass_of_methodNamed B.named
  have hlocks := B.notSynchronized
  subst hsz
  have hD := hD0.self (sz := s.heap.size)
  generalize hAe : va_A (XW a cI cZ cD sh sw ts bi it tu ne pr so lo wt (nI n) lp lz lu lk ld lf lb lw) s.heap.size = A at hD ⊢
  have hA : ∀ q : Nat, s.heap.size ≤ q → A q := fun q h => by rw [← hAe]; exact Or.inr h
  have hS : va_S A s.heap s.heap [] := va_S.rf
  have hl := lv_entry ([.ref (a 0), .int q]) (n := 2) (Nat.le_of_ble_eq_true rfl)
  rw [lg_entry_eq]
  generalize (lg_sl ([.ref (a 0), .int q]) ++ List.replicate (2 - (lg_sl ([.ref (a 0), .int q])).length) Slot.unset).toArray = ls at hl ⊢
  have hl : lv_has ls 2 [(0, .ref (a 0)), (1, .int q)] := hl
  have inX1 : ∀ w ∈ wsX10, w ∈ wsX1_requireQuarter := by decide +kernel
  have inX0 : ∀ w ∈ wsX00, w ∈ wsX1_requireQuarter := by decide +kernel
  refine lv_iload_n hx hb dX1_requireQuarter_0 rfl (lv_at hl 1 rfl) ?_
  refine lv_if_lt (tgt := 15) hx hb dX1_requireQuarter_1 (by decide) (fun c => ?_) (fun c => ?_)
  · skip
    exact absurd hq.1 (Int32.not_le.mpr c)
  · skip
    refine lv_iload_n hx hb dX1_requireQuarter_4 rfl (lv_at hl 1 rfl) ?_
    refine lv_aload_n hx hb dX1_requireQuarter_5 rfl (lv_at hl 0 rfl) ?_
    refine va_get (D := D) (ci := 1) (v := .ref (a 8)) (C := RX1) (T := TX1) (N := 12) hx hb hts inX1 hown hK hP 0 rfl rfl 6 (by decide) (hts (.fieldLink RX1 33 "GridCommons" "ledger" "LGridCommons$Ledger;") (by decide +kernel)) (fun _ h9 => h9) rfl dX1_requireQuarter_6 ?_
    refine va_get (D := D) (ci := 0) (v := .int (nI n)) (C := RX0) (T := TX0) (N := 9) hx hb hts inX0 hown hK hP 8 rfl rfl 0 (by decide) (hts (.fieldLink RX1 77 "GridCommons$Ledger" "count" "I") (by decide +kernel)) (fun _ h9 => h9) rfl dX1_requireQuarter_9 ?_
    refine lv_icmp_lt (tgt := 25) hx hb dX1_requireQuarter_12 (by decide) (fun c1 => ?_) (fun c1 => ?_)
    · skip
      exact W.vret hx hb hr (fun t ht hW => ⟨rfl, trivial, ht⟩) (fun q hq => absurd hq List.not_mem_nil) dX1_requireQuarter_25
    · skip
      exact absurd hq.2 c1
set_option maxHeartbeats 4000000 in
set_option maxRecDepth 100000 in
theorem mX1_requireQuarterX (l : Launch) (hst : l.stackTraces = false) (D : va_G) (cI cZ cD : ClassId) (a : Nat → Nat) (Hp : Heap) (sh sw ts : Nat → Int32) (bi : Nat → UInt64) (it tu : Nat → Int32) (ne : Nat → UInt64) (pr so lo : UInt64) (wt : Int32) (lp lz lu : Nat → UInt64) (lk : Nat → Int32) (ld lf lb lw : Nat → UInt64) (n : Nat) (q : Int32) (hq : ¬ isQ n q) : vx_Met l yX1_requireQuarter wsX1_requireQuarter ({ frames := 6, cells := 1, slots := 6, locals := 82 } : Room) (va_Pc [.ref (a 0), .int q] (XQ D cI cZ cD (XW a cI cZ cD sh sw ts bi it tu ne pr so lo wt (nI n) lp lz lu lk ld lf lb lw) Hp)) (va_Qv (fun (_ : Unit) => False) (fun _ _ => True) (fun q => Hp.size ≤ q)) (XE (fun E => E = "java/lang/IndexOutOfBoundsException") Hp.size) 1 6 (fun q => Hp.size ≤ q) := by
  refine vx_ofW (cc := cX1_requireQuarter) (maxL := 2) (ret := none) (by decide +kernel) rfl ?_
  intro p e s m args below meth c s₁ B hml htab hv
  obtain ⟨rfl, hsz, ⟨hP, hK, hD⟩, hE⟩ := hv
  have hx := B.exec
  have hb := B.bytes
  have hr := B.returns
  have hts := atoms_spec (ws := wsX1_requireQuarter) B.pre
  have hown : s.vm.findClass RX1 = some m.cls := findClass_of_methodNamed B.named
  have hlocks := B.notSynchronized
  subst hsz
  have hA : ∀ q : Nat, s.heap.size ≤ q → (fun q => s.heap.size ≤ q) q := fun q h => h
  have hS : va_S (fun q => s.heap.size ≤ q) s.heap s.heap [] := va_S.rf
  have hl := lv_entry ([.ref (a 0), .int q]) (n := 2) (Nat.le_of_ble_eq_true rfl)
  rw [lg_entry_eq]
  generalize (lg_sl ([.ref (a 0), .int q]) ++ List.replicate (2 - (lg_sl ([.ref (a 0), .int q])).length) Slot.unset).toArray = ls at hl ⊢
  have hl : lv_has ls 2 [(0, .ref (a 0)), (1, .int q)] := hl
  have inX1 : ∀ w ∈ wsX10, w ∈ wsX1_requireQuarter := by decide +kernel
  have inX0 : ∀ w ∈ wsX00, w ∈ wsX1_requireQuarter := by decide +kernel
  refine lv_iload_n hx hb dX1_requireQuarter_0 rfl (lv_at hl 1 rfl) ?_
  refine lv_if_lt (tgt := 15) hx hb dX1_requireQuarter_1 (by decide) (fun c => ?_) (fun c => ?_)
  · skip
    obtain ⟨sa, hstr⟩ := hE.2.2.2 (155, "there is no such quarter") (by decide)
    have hat0 : ∀ w ∈ (vx_atS RX1 157 "java/lang/IndexOutOfBoundsException" ["java/lang/RuntimeException", "java/lang/Exception"]).filter goodWord, w ∈ wsX1_requireQuarter := by decide +kernel
    exact vx_throwS (text := "there is no such quarter") (names := ["java/lang/RuntimeException", "java/lang/Exception"]) hx hb hst hown (by decide +kernel) (by decide +kernel) (hts (.classLink RX1 153 "java/lang/IndexOutOfBoundsException") (by decide +kernel)) (hts (.initialized "java/lang/IndexOutOfBoundsException") (by decide +kernel)) hstr (vx_hat (B := exW) (fun w h => hts w (hat0 w h)) (by decide +kernel) hE.words) (by decide +kernel) hE.1 hE.2.1 hS (hl.1.trans hml.symm) dX1_requireQuarter_15 dX1_requireQuarter_18 dX1_requireQuarter_19 dX1_requireQuarter_21 dX1_requireQuarter_24 (fun x h => (htab x h).elim) (Nat.le_of_ble_eq_true rfl) (Nat.le_of_ble_eq_true rfl) (Nat.le_of_ble_eq_true rfl) (Nat.le_of_ble_eq_true rfl) hlocks (fun t ht hz hk => ⟨(), trivial, rfl, hz, fun q h1 _ => hk q h1⟩) hS.2.2 (Nat.le_refl _) (Nat.le_refl _)
  · skip
    refine lv_iload_n hx hb dX1_requireQuarter_4 rfl (lv_at hl 1 rfl) ?_
    refine lv_aload_n hx hb dX1_requireQuarter_5 rfl (lv_at hl 0 rfl) ?_
    refine va_get (D := D) (ci := 1) (v := .ref (a 8)) (C := RX1) (T := TX1) (N := 12) hx hb hts inX1 hown hK hP 0 rfl rfl 6 (by decide) (hts (.fieldLink RX1 33 "GridCommons" "ledger" "LGridCommons$Ledger;") (by decide +kernel)) (fun _ h9 => h9) rfl dX1_requireQuarter_6 ?_
    refine va_get (D := D) (ci := 0) (v := .int (nI n)) (C := RX0) (T := TX0) (N := 9) hx hb hts inX0 hown hK hP 8 rfl rfl 0 (by decide) (hts (.fieldLink RX1 77 "GridCommons$Ledger" "count" "I") (by decide +kernel)) (fun _ h9 => h9) rfl dX1_requireQuarter_9 ?_
    refine lv_icmp_lt (tgt := 25) hx hb dX1_requireQuarter_12 (by decide) (fun c1 => ?_) (fun c1 => ?_)
    · skip
      exact absurd ⟨Int32.not_lt.mp c, c1⟩ hq
    · skip
      obtain ⟨sa, hstr⟩ := hE.2.2.2 (155, "there is no such quarter") (by decide)
      have hat0 : ∀ w ∈ (vx_atS RX1 157 "java/lang/IndexOutOfBoundsException" ["java/lang/RuntimeException", "java/lang/Exception"]).filter goodWord, w ∈ wsX1_requireQuarter := by decide +kernel
      exact vx_throwS (text := "there is no such quarter") (names := ["java/lang/RuntimeException", "java/lang/Exception"]) hx hb hst hown (by decide +kernel) (by decide +kernel) (hts (.classLink RX1 153 "java/lang/IndexOutOfBoundsException") (by decide +kernel)) (hts (.initialized "java/lang/IndexOutOfBoundsException") (by decide +kernel)) hstr (vx_hat (B := exW) (fun w h => hts w (hat0 w h)) (by decide +kernel) hE.words) (by decide +kernel) hE.1 hE.2.1 hS (hl.1.trans hml.symm) dX1_requireQuarter_15 dX1_requireQuarter_18 dX1_requireQuarter_19 dX1_requireQuarter_21 dX1_requireQuarter_24 (fun x h => (htab x h).elim) (Nat.le_of_ble_eq_true rfl) (Nat.le_of_ble_eq_true rfl) (Nat.le_of_ble_eq_true rfl) (Nat.le_of_ble_eq_true rfl) hlocks (fun t ht hz hk => ⟨(), trivial, rfl, hz, fun q h1 _ => hk q h1⟩) hS.2.2 (Nat.le_refl _) (Nat.le_refl _)
set_option maxHeartbeats 4000000 in
set_option maxRecDepth 100000 in
theorem mX1_closedSlotV (l : Launch) (D : va_G) (cI cZ cD : ClassId) (a : Nat → Nat) (sz : Nat) (sh sw ts : Nat → Int32) (bi : Nat → UInt64) (it tu : Nat → Int32) (ne : Nat → UInt64) (pr so lo : UInt64) (wt : Int32) (lp lz lu : Nat → UInt64) (lk : Nat → Int32) (ld lf lb lw : Nat → UInt64) (n o q : Nat) (hn : n ≤ 60) (ho : o < 5) (hq : q < n) : Met l yX1_closedSlot wsX1_closedSlot ({ frames := 1, cells := 0, slots := 0, locals := 21 } : Room) (va_Pc [.ref (a 0), .int (nI o), .int (nI q)] (XP D cI cZ cD (XW a cI cZ cD sh sw ts bi it tu ne pr so lo wt (nI n) lp lz lu lk ld lf lb lw) sz)) (vp_Si (fun r => r = nI (5 * q + o))) 0 0 (fun _ => False) := by
  refine Met.ofW (cc := cX1_closedSlot) (maxL := 3) (ret := (some .int)) (by decide +kernel) rfl ?_
  intro p e s m args below meth c s₁ B hml hv
  obtain ⟨rfl, hsz, hP, hK, hD0⟩ := hv
  have hx := B.exec
  have hb := B.bytes
  have hr := B.returns
  have hts := atoms_spec (ws := wsX1_closedSlot) B.pre
  have hown : s.vm.findClass RX1 = some m.cls := findClass_of_methodNamed B.named
  have hlocks := B.notSynchronized
  subst hsz
  have hD := hD0.self (sz := s.heap.size)
  generalize hAe : va_A (XW a cI cZ cD sh sw ts bi it tu ne pr so lo wt (nI n) lp lz lu lk ld lf lb lw) s.heap.size = A at hD ⊢
  have hA : ∀ q : Nat, s.heap.size ≤ q → A q := fun q h => by rw [← hAe]; exact Or.inr h
  have hS : va_S A s.heap s.heap [] := va_S.rf
  have hl := lv_entry ([.ref (a 0), .int (nI o), .int (nI q)]) (n := 3) (Nat.le_of_ble_eq_true rfl)
  rw [lg_entry_eq]
  generalize (lg_sl ([.ref (a 0), .int (nI o), .int (nI q)]) ++ List.replicate (3 - (lg_sl ([.ref (a 0), .int (nI o), .int (nI q)])).length) Slot.unset).toArray = ls at hl ⊢
  have hl : lv_has ls 3 [(0, .ref (a 0)), (1, .int (nI o)), (2, .int (nI q))] := hl
  refine lv_iload_n hx hb dX1_closedSlot_0 rfl (lv_at hl 1 rfl) ?_
  refine va_csv (va_Run.run (va_runS (As := [.int (nI o)]) (rest := []) ⟨hx, hb, hml, hown, hts⟩ (mX1_requireOwnerV l (nI o) (nI_inR (n := 4) (by omega) (by decide))) (va_cwS 1 hts gX1_closedSlot_X1_requireOwner rfl rfl rfl (by decide +kernel) ⟨Nat.le_of_ble_eq_true rfl, Nat.le_of_ble_eq_true rfl⟩) ⟨fun a U g mk q => q, fun U hU hW => ⟨rfl, trivial⟩⟩ rfl rfl hl.1 rfl (lv_room (Nat.le_of_ble_eq_true rfl)) dX1_closedSlot_1 ⟨Nat.le_of_ble_eq_true rfl, Nat.le_of_ble_eq_true rfl⟩)) (fun _ => ?_)
  refine lv_aload_n hx hb dX1_closedSlot_4 rfl (lv_at hl 0 rfl) ?_
  refine lv_iload_n hx hb dX1_closedSlot_5 rfl (lv_at hl 2 rfl) ?_
  refine va_csv (va_Run.run (va_runV (As := [.int (nI q)]) (rest := []) ⟨hx, hb, hml, hown, hts⟩ (mX1_requireQuarterV l D cI cZ cD a _ sh sw ts bi it tu ne pr so lo wt lp lz lu lk ld lf lb lw n (nI q) ⟨nI_pos' (by omega), nI_lt hq (by omega)⟩) (cwV 1 hts gX1_closedSlot_X1_requireQuarter rfl rfl rfl (by decide +kernel) ⟨Nat.le_of_ble_eq_true rfl, Nat.le_of_ble_eq_true rfl⟩) ⟨xk_blind, va_recv hK hP (ci := 1) (q0 := 0) rfl rfl, xk_pre hP hK hD⟩ rfl rfl hl.1 rfl (lv_room (Nat.le_of_ble_eq_true rfl)) dX1_closedSlot_6 ⟨Nat.le_of_ble_eq_true rfl, Nat.le_of_ble_eq_true rfl⟩)) (fun _ => ?_)
  refine lv_iload_n hx hb dX1_closedSlot_9 rfl (lv_at hl 1 rfl) ?_
  refine lv_iload_n hx hb dX1_closedSlot_10 rfl (lv_at hl 2 rfl) ?_
  refine vp_callSi (va_Run.run (va_runS (As := [.int (nI o), .int (nI q)]) (rest := []) ⟨hx, hb, hml, hown, hts⟩ (mX0_slot l o q) (va_cwS 2 hts gX1_closedSlot_X0_slot rfl rfl rfl (by decide +kernel) ⟨Nat.le_of_ble_eq_true rfl, Nat.le_of_ble_eq_true rfl⟩) ⟨fun a U g mk q => q, fun U hU hW => ⟨rfl, trivial⟩⟩ rfl rfl hl.1 rfl (lv_room (Nat.le_of_ble_eq_true rfl)) dX1_closedSlot_11 ⟨Nat.le_of_ble_eq_true rfl, Nat.le_of_ble_eq_true rfl⟩)) (fun r hr1 => ?_)
  exact W.iret hx hb hr (fun t ht hW => ⟨_, rfl, hr1, ht⟩) (fun q hq => absurd hq List.not_mem_nil) dX1_closedSlot_14
set_option maxHeartbeats 4000000 in
set_option maxRecDepth 100000 in
theorem mX1_closedSlotX (l : Launch) (hst : l.stackTraces = false) (D : va_G) (cI cZ cD : ClassId) (a : Nat → Nat) (Hp : Heap) (sh sw ts : Nat → Int32) (bi : Nat → UInt64) (it tu : Nat → Int32) (ne : Nat → UInt64) (pr so lo : UInt64) (wt : Int32) (lp lz lu : Nat → UInt64) (lk : Nat → Int32) (ld lf lb lw : Nat → UInt64) (n : Nat) (x q : Int32) (hbad : ¬ (inR x 0 4 ∧ isQ n q)) : vx_Met l yX1_closedSlot wsX1_closedSlot ({ frames := 7, cells := 1, slots := 6, locals := 103 } : Room) (va_Pc [.ref (a 0), .int x, .int q] (XQ D cI cZ cD (XW a cI cZ cD sh sw ts bi it tu ne pr so lo wt (nI n) lp lz lu lk ld lf lb lw) Hp)) (va_Qi (fun _ (_ : Unit) => False) (fun _ _ => True) (fun q => Hp.size ≤ q)) (XE (fun E => (E = "java/lang/IllegalArgumentException" ∧ ¬ inR x 0 4) ∨ (E = "java/lang/IndexOutOfBoundsException" ∧ inR x 0 4 ∧ ¬ isQ n q)) Hp.size) 1 6 (fun q => Hp.size ≤ q) := by
  refine vx_ofW (cc := cX1_closedSlot) (maxL := 3) (ret := (some .int)) (by decide +kernel) rfl ?_
  intro p e s m args below meth c s₁ B hml htab hv
  obtain ⟨rfl, hsz, ⟨hP, hK, hD⟩, hE⟩ := hv
  have hx := B.exec
  have hb := B.bytes
  have hr := B.returns
  have hts := atoms_spec (ws := wsX1_closedSlot) B.pre
  have hown : s.vm.findClass RX1 = some m.cls := findClass_of_methodNamed B.named
  have hlocks := B.notSynchronized
  subst hsz
  have hA : ∀ q : Nat, s.heap.size ≤ q → (fun q => s.heap.size ≤ q) q := fun q h => h
  have hS : va_S (fun q => s.heap.size ≤ q) s.heap s.heap [] := va_S.rf
  have hl := lv_entry ([.ref (a 0), .int x, .int q]) (n := 3) (Nat.le_of_ble_eq_true rfl)
  rw [lg_entry_eq]
  generalize (lg_sl ([.ref (a 0), .int x, .int q]) ++ List.replicate (3 - (lg_sl ([.ref (a 0), .int x, .int q])).length) Slot.unset).toArray = ls at hl ⊢
  have hl : lv_has ls 3 [(0, .ref (a 0)), (1, .int x), (2, .int q)] := hl
  refine lv_iload_n hx hb dX1_closedSlot_0 rfl (lv_at hl 1 rfl) ?_
  by_cases hin : inR x 0 4
  · skip
    refine va_csv (va_Run.run (va_runS (As := [.int x]) (rest := []) ⟨hx, hb, hml, hown, hts⟩ (mX1_requireOwnerV l x hin) (va_cwS 1 hts gX1_closedSlot_X1_requireOwner rfl rfl rfl (by decide +kernel) ⟨Nat.le_of_ble_eq_true rfl, Nat.le_of_ble_eq_true rfl⟩) ⟨fun a U g mk q => q, fun U hU hW => ⟨rfl, trivial⟩⟩ rfl rfl hl.1 rfl (lv_room (Nat.le_of_ble_eq_true rfl)) dX1_closedSlot_1 ⟨Nat.le_of_ble_eq_true rfl, Nat.le_of_ble_eq_true rfl⟩)) (fun _ => ?_)
    refine lv_aload_n hx hb dX1_closedSlot_4 rfl (lv_at hl 0 rfl) ?_
    refine lv_iload_n hx hb dX1_closedSlot_5 rfl (lv_at hl 2 rfl) ?_
    exact vx_callv (vx_runV (As := [.int q]) (rest := []) ⟨hx, hb, hml, hown, hts⟩ (mX1_requireQuarterX l hst D cI cZ cD a s.heap sh sw ts bi it tu ne pr so lo wt lp lz lu lk ld lf lb lw n q (fun z => hbad ⟨hin, z⟩)) (cwV 1 hts gX1_closedSlot_X1_requireQuarter rfl rfl rfl (by decide +kernel) ⟨Nat.le_of_ble_eq_true rfl, Nat.le_of_ble_eq_true rfl⟩) ⟨xq_blind, va_recv hK hP (ci := 1) (q0 := 0) rfl rfl, xq_pre hP hK hD hE hS hA⟩ rfl rfl hl.1 rfl (lv_room (Nat.le_of_ble_eq_true rfl)) dX1_closedSlot_6 ⟨Nat.le_of_ble_eq_true rfl, Nat.le_of_ble_eq_true rfl⟩) hS (fun q h1 h2 => absurd h2 (Nat.not_le.mpr h1)) (fun q h => hA q (Nat.le_trans hS.1 h)) (fun q h1 h2 => absurd h2 (Nat.not_le.mpr h1)) (fun E ce q9 u9 t9 H9 locs9 ht9 hvm9 hpx9 hB9 hz9 hk9 hS9 hce9 hcv9 hcl9 => vx_out (fun x h => (htab x h).elim) hlocks hce9 hcv9 hcl9 (fun t8 ht8 hvm8 => ⟨(), trivial, Or.inr ⟨hB9, hin, fun z => hbad ⟨hin, z⟩⟩, by rw [ht8]; exact hz9, fun q h1 h2 => by rw [ht8]; exact hk9 q h1 h2⟩) hS9.2.2 (Nat.le_refl _) (Nat.le_refl _)) (fun u t H1 locs1 ht hvm hw hB hz1 hk1 hS1 => hw.elim)
  · skip
    exact vx_callv (vx_runS (As := [.int x]) (rest := []) ⟨hx, hb, hml, hown, hts⟩ (mX1_requireOwner l hst s.heap x) (va_cwS 1 hts gX1_closedSlot_X1_requireOwner rfl rfl rfl (by decide +kernel) ⟨Nat.le_of_ble_eq_true rfl, Nat.le_of_ble_eq_true rfl⟩) ⟨xh_blind, xh_pre hE hS hA⟩ rfl rfl hl.1 rfl (lv_room (Nat.le_of_ble_eq_true rfl)) dX1_closedSlot_1 ⟨Nat.le_of_ble_eq_true rfl, Nat.le_of_ble_eq_true rfl⟩) hS (fun q h1 h2 => absurd h2 (Nat.not_le.mpr h1)) (fun q h => hA q (Nat.le_trans hS.1 h)) (fun q h1 h2 => absurd h2 (Nat.not_le.mpr h1)) (fun E ce q9 u9 t9 H9 locs9 ht9 hvm9 hpx9 hB9 hz9 hk9 hS9 hce9 hcv9 hcl9 => vx_out (fun x h => (htab x h).elim) hlocks hce9 hcv9 hcl9 (fun t8 ht8 hvm8 => ⟨(), trivial, Or.inl ⟨hB9.1, hB9.2⟩, by rw [ht8]; exact hz9, fun q h1 h2 => by rw [ht8]; exact hk9 q h1 h2⟩) hS9.2.2 (Nat.le_refl _) (Nat.le_refl _)) (fun u t H1 locs1 ht hvm hw hB hz1 hk1 hS1 => absurd hw hin)
set_option maxHeartbeats 4000000 in
set_option maxRecDepth 100000 in
theorem mX1_useV (l : Launch) (D : va_G) (cI cZ cD : ClassId) (a : Nat → Nat) (sz : Nat) (sh sw ts : Nat → Int32) (bi : Nat → UInt64) (it tu : Nat → Int32) (ne : Nat → UInt64) (pr so lo : UInt64) (wt : Int32) (lp lz lu : Nat → UInt64) (lk : Nat → Int32) (ld lf lb lw : Nat → UInt64) (n o q : Nat) (hn : n ≤ 60) (ho : o < 5) (hq : q < n) : Met l yX1_use wsX1_use ({ frames := 2, cells := 0, slots := 0, locals := 43 } : Room) (va_Pc [.ref (a 0), .int (nI o), .int (nI q)] (XP D cI cZ cD (XW a cI cZ cD sh sw ts bi it tu ne pr so lo wt (nI n) lp lz lu lk ld lf lb lw) sz)) (vp_Sd (fun r => r = lu (5 * q + o))) 0 0 (fun _ => False) := by
  refine Met.ofW (cc := cX1_use) (maxL := 3) (ret := (some .double)) (by decide +kernel) rfl ?_
  intro p e s m args below meth c s₁ B hml hv
  obtain ⟨rfl, hsz, hP, hK, hD0⟩ := hv
  have hx := B.exec
  have hb := B.bytes
  have hr := B.returns
  have hts := atoms_spec (ws := wsX1_use) B.pre
  have hown : s.vm.findClass RX1 = some m.cls := findClass_of_methodNamed B.named
  have hlocks := B.notSynchronized
  subst hsz
  have hD := hD0.self (sz := s.heap.size)
  generalize hAe : va_A (XW a cI cZ cD sh sw ts bi it tu ne pr so lo wt (nI n) lp lz lu lk ld lf lb lw) s.heap.size = A at hD ⊢
  have hA : ∀ q : Nat, s.heap.size ≤ q → A q := fun q h => by rw [← hAe]; exact Or.inr h
  have hS : va_S A s.heap s.heap [] := va_S.rf
  have hl := lv_entry ([.ref (a 0), .int (nI o), .int (nI q)]) (n := 3) (Nat.le_of_ble_eq_true rfl)
  rw [lg_entry_eq]
  generalize (lg_sl ([.ref (a 0), .int (nI o), .int (nI q)]) ++ List.replicate (3 - (lg_sl ([.ref (a 0), .int (nI o), .int (nI q)])).length) Slot.unset).toArray = ls at hl ⊢
  have hl : lv_has ls 3 [(0, .ref (a 0)), (1, .int (nI o)), (2, .int (nI q))] := hl
  have inX1 : ∀ w ∈ wsX10, w ∈ wsX1_use := by decide +kernel
  have inX0 : ∀ w ∈ wsX00, w ∈ wsX1_use := by decide +kernel
  refine lv_aload_n hx hb dX1_use_0 rfl (lv_at hl 0 rfl) ?_
  refine va_get (D := D) (ci := 1) (v := .ref (a 8)) (C := RX1) (T := TX1) (N := 12) hx hb hts inX1 hown hK hP 0 rfl rfl 6 (by decide) (hts (.fieldLink RX1 33 "GridCommons" "ledger" "LGridCommons$Ledger;") (by decide +kernel)) (fun _ h9 => h9) rfl dX1_use_1 ?_
  refine va_get (D := D) (ci := 0) (v := .ref (a 11)) (C := RX0) (T := TX0) (N := 9) hx hb hts inX0 hown hK hP 8 rfl rfl 3 (by decide) (hts (.fieldLink RX1 125 "GridCommons$Ledger" "use" "[D") (by decide +kernel)) (fun _ h9 => h9) rfl dX1_use_4 ?_
  refine lv_aload_n hx hb dX1_use_7 rfl (lv_at hl 0 rfl) ?_
  refine lv_iload_n hx hb dX1_use_8 rfl (lv_at hl 1 rfl) ?_
  refine lv_iload_n hx hb dX1_use_9 rfl (lv_at hl 2 rfl) ?_
  refine vp_callSi (va_Run.run (va_runV (As := [.int (nI o), .int (nI q)]) (rest := [.ref (a 11)]) ⟨hx, hb, hml, hown, hts⟩ (mX1_closedSlotV l D cI cZ cD a _ sh sw ts bi it tu ne pr so lo wt lp lz lu lk ld lf lb lw n o q hn ho hq) (cwV 2 hts gX1_use_X1_closedSlot rfl rfl rfl (by decide +kernel) ⟨Nat.le_of_ble_eq_true rfl, Nat.le_of_ble_eq_true rfl⟩) ⟨xk_blind, va_recv hK hP (ci := 1) (q0 := 0) rfl rfl, xk_pre hP hK hD⟩ rfl rfl hl.1 rfl (lv_room (Nat.le_of_ble_eq_true rfl)) dX1_use_10 ⟨Nat.le_of_ble_eq_true rfl, Nat.le_of_ble_eq_true rfl⟩)) (fun r hr1 => ?_)
  subst hr1
  refine xk_dald hx hb hK hP 11 2 rfl rfl (o := (5 * q + o)) (by omega) (by decide) dX1_use_13 ?_
  exact W.dret hx hb hr (fun t ht hW => ⟨_, rfl, rfl, ht⟩) (fun q hq => absurd hq List.not_mem_nil) dX1_use_14
set_option maxHeartbeats 4000000 in
set_option maxRecDepth 100000 in
theorem mX1_useX (l : Launch) (hst : l.stackTraces = false) (D : va_G) (cI cZ cD : ClassId) (a : Nat → Nat) (Hp : Heap) (sh sw ts : Nat → Int32) (bi : Nat → UInt64) (it tu : Nat → Int32) (ne : Nat → UInt64) (pr so lo : UInt64) (wt : Int32) (lp lz lu : Nat → UInt64) (lk : Nat → Int32) (ld lf lb lw : Nat → UInt64) (n : Nat) (x q : Int32) (hbad : ¬ (inR x 0 4 ∧ isQ n q)) : vx_Met l yX1_use wsX1_use ({ frames := 8, cells := 1, slots := 6, locals := 125 } : Room) (va_Pc [.ref (a 0), .int x, .int q] (XQ D cI cZ cD (XW a cI cZ cD sh sw ts bi it tu ne pr so lo wt (nI n) lp lz lu lk ld lf lb lw) Hp)) (va_Qd (fun _ (_ : Unit) => False) (fun _ _ => True) (fun q => Hp.size ≤ q)) (XE (fun E => (E = "java/lang/IllegalArgumentException" ∧ ¬ inR x 0 4) ∨ (E = "java/lang/IndexOutOfBoundsException" ∧ inR x 0 4 ∧ ¬ isQ n q)) Hp.size) 1 6 (fun q => Hp.size ≤ q) := by
  refine vx_ofW (cc := cX1_use) (maxL := 3) (ret := (some .double)) (by decide +kernel) rfl ?_
  intro p e s m args below meth c s₁ B hml htab hv
  obtain ⟨rfl, hsz, ⟨hP, hK, hD⟩, hE⟩ := hv
  have hx := B.exec
  have hb := B.bytes
  have hr := B.returns
  have hts := atoms_spec (ws := wsX1_use) B.pre
  have hown : s.vm.findClass RX1 = some m.cls := findClass_of_methodNamed B.named
  have hlocks := B.notSynchronized
  subst hsz
  have hA : ∀ q : Nat, s.heap.size ≤ q → (fun q => s.heap.size ≤ q) q := fun q h => h
  have hS : va_S (fun q => s.heap.size ≤ q) s.heap s.heap [] := va_S.rf
  have hl := lv_entry ([.ref (a 0), .int x, .int q]) (n := 3) (Nat.le_of_ble_eq_true rfl)
  rw [lg_entry_eq]
  generalize (lg_sl ([.ref (a 0), .int x, .int q]) ++ List.replicate (3 - (lg_sl ([.ref (a 0), .int x, .int q])).length) Slot.unset).toArray = ls at hl ⊢
  have hl : lv_has ls 3 [(0, .ref (a 0)), (1, .int x), (2, .int q)] := hl
  have inX1 : ∀ w ∈ wsX10, w ∈ wsX1_use := by decide +kernel
  have inX0 : ∀ w ∈ wsX00, w ∈ wsX1_use := by decide +kernel
  refine lv_aload_n hx hb dX1_use_0 rfl (lv_at hl 0 rfl) ?_
  refine va_get (D := D) (ci := 1) (v := .ref (a 8)) (C := RX1) (T := TX1) (N := 12) hx hb hts inX1 hown hK hP 0 rfl rfl 6 (by decide) (hts (.fieldLink RX1 33 "GridCommons" "ledger" "LGridCommons$Ledger;") (by decide +kernel)) (fun _ h9 => h9) rfl dX1_use_1 ?_
  refine va_get (D := D) (ci := 0) (v := .ref (a 11)) (C := RX0) (T := TX0) (N := 9) hx hb hts inX0 hown hK hP 8 rfl rfl 3 (by decide) (hts (.fieldLink RX1 125 "GridCommons$Ledger" "use" "[D") (by decide +kernel)) (fun _ h9 => h9) rfl dX1_use_4 ?_
  refine lv_aload_n hx hb dX1_use_7 rfl (lv_at hl 0 rfl) ?_
  refine lv_iload_n hx hb dX1_use_8 rfl (lv_at hl 1 rfl) ?_
  refine lv_iload_n hx hb dX1_use_9 rfl (lv_at hl 2 rfl) ?_
  exact vx_calli (vx_runV (As := [.int x, .int q]) (rest := [.ref (a 11)]) ⟨hx, hb, hml, hown, hts⟩ (mX1_closedSlotX l hst D cI cZ cD a s.heap sh sw ts bi it tu ne pr so lo wt lp lz lu lk ld lf lb lw n x q hbad) (cwV 2 hts gX1_use_X1_closedSlot rfl rfl rfl (by decide +kernel) ⟨Nat.le_of_ble_eq_true rfl, Nat.le_of_ble_eq_true rfl⟩) ⟨xq_blind, va_recv hK hP (ci := 1) (q0 := 0) rfl rfl, xq_pre hP hK hD hE hS hA⟩ rfl rfl hl.1 rfl (lv_room (Nat.le_of_ble_eq_true rfl)) dX1_use_10 ⟨Nat.le_of_ble_eq_true rfl, Nat.le_of_ble_eq_true rfl⟩) hS (fun q h1 h2 => absurd h2 (Nat.not_le.mpr h1)) (fun q h => hA q (Nat.le_trans hS.1 h)) (fun q h1 h2 => absurd h2 (Nat.not_le.mpr h1)) (fun E ce q9 u9 t9 H9 locs9 ht9 hvm9 hpx9 hB9 hz9 hk9 hS9 hce9 hcv9 hcl9 => vx_out (fun x h => (htab x h).elim) hlocks hce9 hcv9 hcl9 (fun t8 ht8 hvm8 => ⟨(), trivial, hB9, by rw [ht8]; exact hz9, fun q h1 h2 => by rw [ht8]; exact hk9 q h1 h2⟩) hS9.2.2 (Nat.le_refl _) (Nat.le_refl _)) (fun r u t H1 locs1 ht hvm hw hB hz1 hk1 hS1 => hw.elim)
set_option maxHeartbeats 4000000 in
set_option maxRecDepth 100000 in
theorem mX1_fromSunV (l : Launch) (D : va_G) (cI cZ cD : ClassId) (a : Nat → Nat) (sz : Nat) (sh sw ts : Nat → Int32) (bi : Nat → UInt64) (it tu : Nat → Int32) (ne : Nat → UInt64) (pr so lo : UInt64) (wt : Int32) (lp lz lu : Nat → UInt64) (lk : Nat → Int32) (ld lf lb lw : Nat → UInt64) (n o q : Nat) (hn : n ≤ 60) (ho : o < 5) (hq : q < n) : Met l yX1_fromSun wsX1_fromSun ({ frames := 2, cells := 0, slots := 0, locals := 43 } : Room) (va_Pc [.ref (a 0), .int (nI o), .int (nI q)] (XP D cI cZ cD (XW a cI cZ cD sh sw ts bi it tu ne pr so lo wt (nI n) lp lz lu lk ld lf lb lw) sz)) (vp_Sd (fun r => r = lf (5 * q + o))) 0 0 (fun _ => False) := by
  refine Met.ofW (cc := cX1_fromSun) (maxL := 3) (ret := (some .double)) (by decide +kernel) rfl ?_
  intro p e s m args below meth c s₁ B hml hv
  obtain ⟨rfl, hsz, hP, hK, hD0⟩ := hv
  have hx := B.exec
  have hb := B.bytes
  have hr := B.returns
  have hts := atoms_spec (ws := wsX1_fromSun) B.pre
  have hown : s.vm.findClass RX1 = some m.cls := findClass_of_methodNamed B.named
  have hlocks := B.notSynchronized
  subst hsz
  have hD := hD0.self (sz := s.heap.size)
  generalize hAe : va_A (XW a cI cZ cD sh sw ts bi it tu ne pr so lo wt (nI n) lp lz lu lk ld lf lb lw) s.heap.size = A at hD ⊢
  have hA : ∀ q : Nat, s.heap.size ≤ q → A q := fun q h => by rw [← hAe]; exact Or.inr h
  have hS : va_S A s.heap s.heap [] := va_S.rf
  have hl := lv_entry ([.ref (a 0), .int (nI o), .int (nI q)]) (n := 3) (Nat.le_of_ble_eq_true rfl)
  rw [lg_entry_eq]
  generalize (lg_sl ([.ref (a 0), .int (nI o), .int (nI q)]) ++ List.replicate (3 - (lg_sl ([.ref (a 0), .int (nI o), .int (nI q)])).length) Slot.unset).toArray = ls at hl ⊢
  have hl : lv_has ls 3 [(0, .ref (a 0)), (1, .int (nI o)), (2, .int (nI q))] := hl
  have inX1 : ∀ w ∈ wsX10, w ∈ wsX1_fromSun := by decide +kernel
  have inX0 : ∀ w ∈ wsX00, w ∈ wsX1_fromSun := by decide +kernel
  refine lv_aload_n hx hb dX1_fromSun_0 rfl (lv_at hl 0 rfl) ?_
  refine va_get (D := D) (ci := 1) (v := .ref (a 8)) (C := RX1) (T := TX1) (N := 12) hx hb hts inX1 hown hK hP 0 rfl rfl 6 (by decide) (hts (.fieldLink RX1 33 "GridCommons" "ledger" "LGridCommons$Ledger;") (by decide +kernel)) (fun _ h9 => h9) rfl dX1_fromSun_1 ?_
  refine va_get (D := D) (ci := 0) (v := .ref (a 14)) (C := RX0) (T := TX0) (N := 9) hx hb hts inX0 hown hK hP 8 rfl rfl 6 (by decide) (hts (.fieldLink RX1 134 "GridCommons$Ledger" "fromSun" "[D") (by decide +kernel)) (fun _ h9 => h9) rfl dX1_fromSun_4 ?_
  refine lv_aload_n hx hb dX1_fromSun_7 rfl (lv_at hl 0 rfl) ?_
  refine lv_iload_n hx hb dX1_fromSun_8 rfl (lv_at hl 1 rfl) ?_
  refine lv_iload_n hx hb dX1_fromSun_9 rfl (lv_at hl 2 rfl) ?_
  refine vp_callSi (va_Run.run (va_runV (As := [.int (nI o), .int (nI q)]) (rest := [.ref (a 14)]) ⟨hx, hb, hml, hown, hts⟩ (mX1_closedSlotV l D cI cZ cD a _ sh sw ts bi it tu ne pr so lo wt lp lz lu lk ld lf lb lw n o q hn ho hq) (cwV 2 hts gX1_fromSun_X1_closedSlot rfl rfl rfl (by decide +kernel) ⟨Nat.le_of_ble_eq_true rfl, Nat.le_of_ble_eq_true rfl⟩) ⟨xk_blind, va_recv hK hP (ci := 1) (q0 := 0) rfl rfl, xk_pre hP hK hD⟩ rfl rfl hl.1 rfl (lv_room (Nat.le_of_ble_eq_true rfl)) dX1_fromSun_10 ⟨Nat.le_of_ble_eq_true rfl, Nat.le_of_ble_eq_true rfl⟩)) (fun r hr1 => ?_)
  subst hr1
  refine xk_dald hx hb hK hP 14 2 rfl rfl (o := (5 * q + o)) (by omega) (by decide) dX1_fromSun_13 ?_
  exact W.dret hx hb hr (fun t ht hW => ⟨_, rfl, rfl, ht⟩) (fun q hq => absurd hq List.not_mem_nil) dX1_fromSun_14
set_option maxHeartbeats 4000000 in
set_option maxRecDepth 100000 in
theorem mX1_fromSunX (l : Launch) (hst : l.stackTraces = false) (D : va_G) (cI cZ cD : ClassId) (a : Nat → Nat) (Hp : Heap) (sh sw ts : Nat → Int32) (bi : Nat → UInt64) (it tu : Nat → Int32) (ne : Nat → UInt64) (pr so lo : UInt64) (wt : Int32) (lp lz lu : Nat → UInt64) (lk : Nat → Int32) (ld lf lb lw : Nat → UInt64) (n : Nat) (x q : Int32) (hbad : ¬ (inR x 0 4 ∧ isQ n q)) : vx_Met l yX1_fromSun wsX1_fromSun ({ frames := 8, cells := 1, slots := 6, locals := 125 } : Room) (va_Pc [.ref (a 0), .int x, .int q] (XQ D cI cZ cD (XW a cI cZ cD sh sw ts bi it tu ne pr so lo wt (nI n) lp lz lu lk ld lf lb lw) Hp)) (va_Qd (fun _ (_ : Unit) => False) (fun _ _ => True) (fun q => Hp.size ≤ q)) (XE (fun E => (E = "java/lang/IllegalArgumentException" ∧ ¬ inR x 0 4) ∨ (E = "java/lang/IndexOutOfBoundsException" ∧ inR x 0 4 ∧ ¬ isQ n q)) Hp.size) 1 6 (fun q => Hp.size ≤ q) := by
  refine vx_ofW (cc := cX1_fromSun) (maxL := 3) (ret := (some .double)) (by decide +kernel) rfl ?_
  intro p e s m args below meth c s₁ B hml htab hv
  obtain ⟨rfl, hsz, ⟨hP, hK, hD⟩, hE⟩ := hv
  have hx := B.exec
  have hb := B.bytes
  have hr := B.returns
  have hts := atoms_spec (ws := wsX1_fromSun) B.pre
  have hown : s.vm.findClass RX1 = some m.cls := findClass_of_methodNamed B.named
  have hlocks := B.notSynchronized
  subst hsz
  have hA : ∀ q : Nat, s.heap.size ≤ q → (fun q => s.heap.size ≤ q) q := fun q h => h
  have hS : va_S (fun q => s.heap.size ≤ q) s.heap s.heap [] := va_S.rf
  have hl := lv_entry ([.ref (a 0), .int x, .int q]) (n := 3) (Nat.le_of_ble_eq_true rfl)
  rw [lg_entry_eq]
  generalize (lg_sl ([.ref (a 0), .int x, .int q]) ++ List.replicate (3 - (lg_sl ([.ref (a 0), .int x, .int q])).length) Slot.unset).toArray = ls at hl ⊢
  have hl : lv_has ls 3 [(0, .ref (a 0)), (1, .int x), (2, .int q)] := hl
  have inX1 : ∀ w ∈ wsX10, w ∈ wsX1_fromSun := by decide +kernel
  have inX0 : ∀ w ∈ wsX00, w ∈ wsX1_fromSun := by decide +kernel
  refine lv_aload_n hx hb dX1_fromSun_0 rfl (lv_at hl 0 rfl) ?_
  refine va_get (D := D) (ci := 1) (v := .ref (a 8)) (C := RX1) (T := TX1) (N := 12) hx hb hts inX1 hown hK hP 0 rfl rfl 6 (by decide) (hts (.fieldLink RX1 33 "GridCommons" "ledger" "LGridCommons$Ledger;") (by decide +kernel)) (fun _ h9 => h9) rfl dX1_fromSun_1 ?_
  refine va_get (D := D) (ci := 0) (v := .ref (a 14)) (C := RX0) (T := TX0) (N := 9) hx hb hts inX0 hown hK hP 8 rfl rfl 6 (by decide) (hts (.fieldLink RX1 134 "GridCommons$Ledger" "fromSun" "[D") (by decide +kernel)) (fun _ h9 => h9) rfl dX1_fromSun_4 ?_
  refine lv_aload_n hx hb dX1_fromSun_7 rfl (lv_at hl 0 rfl) ?_
  refine lv_iload_n hx hb dX1_fromSun_8 rfl (lv_at hl 1 rfl) ?_
  refine lv_iload_n hx hb dX1_fromSun_9 rfl (lv_at hl 2 rfl) ?_
  exact vx_calli (vx_runV (As := [.int x, .int q]) (rest := [.ref (a 14)]) ⟨hx, hb, hml, hown, hts⟩ (mX1_closedSlotX l hst D cI cZ cD a s.heap sh sw ts bi it tu ne pr so lo wt lp lz lu lk ld lf lb lw n x q hbad) (cwV 2 hts gX1_fromSun_X1_closedSlot rfl rfl rfl (by decide +kernel) ⟨Nat.le_of_ble_eq_true rfl, Nat.le_of_ble_eq_true rfl⟩) ⟨xq_blind, va_recv hK hP (ci := 1) (q0 := 0) rfl rfl, xq_pre hP hK hD hE hS hA⟩ rfl rfl hl.1 rfl (lv_room (Nat.le_of_ble_eq_true rfl)) dX1_fromSun_10 ⟨Nat.le_of_ble_eq_true rfl, Nat.le_of_ble_eq_true rfl⟩) hS (fun q h1 h2 => absurd h2 (Nat.not_le.mpr h1)) (fun q h => hA q (Nat.le_trans hS.1 h)) (fun q h1 h2 => absurd h2 (Nat.not_le.mpr h1)) (fun E ce q9 u9 t9 H9 locs9 ht9 hvm9 hpx9 hB9 hz9 hk9 hS9 hce9 hcv9 hcl9 => vx_out (fun x h => (htab x h).elim) hlocks hce9 hcv9 hcl9 (fun t8 ht8 hvm8 => ⟨(), trivial, hB9, by rw [ht8]; exact hz9, fun q h1 h2 => by rw [ht8]; exact hk9 q h1 h2⟩) hS9.2.2 (Nat.le_refl _) (Nat.le_refl _)) (fun r u t H1 locs1 ht hvm hw hB hz1 hk1 hS1 => hw.elim)
set_option maxHeartbeats 4000000 in
set_option maxRecDepth 100000 in
theorem mX1_fromBatteryV (l : Launch) (D : va_G) (cI cZ cD : ClassId) (a : Nat → Nat) (sz : Nat) (sh sw ts : Nat → Int32) (bi : Nat → UInt64) (it tu : Nat → Int32) (ne : Nat → UInt64) (pr so lo : UInt64) (wt : Int32) (lp lz lu : Nat → UInt64) (lk : Nat → Int32) (ld lf lb lw : Nat → UInt64) (n o q : Nat) (hn : n ≤ 60) (ho : o < 5) (hq : q < n) : Met l yX1_fromBattery wsX1_fromBattery ({ frames := 2, cells := 0, slots := 0, locals := 43 } : Room) (va_Pc [.ref (a 0), .int (nI o), .int (nI q)] (XP D cI cZ cD (XW a cI cZ cD sh sw ts bi it tu ne pr so lo wt (nI n) lp lz lu lk ld lf lb lw) sz)) (vp_Sd (fun r => r = lb (5 * q + o))) 0 0 (fun _ => False) := by
  refine Met.ofW (cc := cX1_fromBattery) (maxL := 3) (ret := (some .double)) (by decide +kernel) rfl ?_
  intro p e s m args below meth c s₁ B hml hv
  obtain ⟨rfl, hsz, hP, hK, hD0⟩ := hv
  have hx := B.exec
  have hb := B.bytes
  have hr := B.returns
  have hts := atoms_spec (ws := wsX1_fromBattery) B.pre
  have hown : s.vm.findClass RX1 = some m.cls := findClass_of_methodNamed B.named
  have hlocks := B.notSynchronized
  subst hsz
  have hD := hD0.self (sz := s.heap.size)
  generalize hAe : va_A (XW a cI cZ cD sh sw ts bi it tu ne pr so lo wt (nI n) lp lz lu lk ld lf lb lw) s.heap.size = A at hD ⊢
  have hA : ∀ q : Nat, s.heap.size ≤ q → A q := fun q h => by rw [← hAe]; exact Or.inr h
  have hS : va_S A s.heap s.heap [] := va_S.rf
  have hl := lv_entry ([.ref (a 0), .int (nI o), .int (nI q)]) (n := 3) (Nat.le_of_ble_eq_true rfl)
  rw [lg_entry_eq]
  generalize (lg_sl ([.ref (a 0), .int (nI o), .int (nI q)]) ++ List.replicate (3 - (lg_sl ([.ref (a 0), .int (nI o), .int (nI q)])).length) Slot.unset).toArray = ls at hl ⊢
  have hl : lv_has ls 3 [(0, .ref (a 0)), (1, .int (nI o)), (2, .int (nI q))] := hl
  have inX1 : ∀ w ∈ wsX10, w ∈ wsX1_fromBattery := by decide +kernel
  have inX0 : ∀ w ∈ wsX00, w ∈ wsX1_fromBattery := by decide +kernel
  refine lv_aload_n hx hb dX1_fromBattery_0 rfl (lv_at hl 0 rfl) ?_
  refine va_get (D := D) (ci := 1) (v := .ref (a 8)) (C := RX1) (T := TX1) (N := 12) hx hb hts inX1 hown hK hP 0 rfl rfl 6 (by decide) (hts (.fieldLink RX1 33 "GridCommons" "ledger" "LGridCommons$Ledger;") (by decide +kernel)) (fun _ h9 => h9) rfl dX1_fromBattery_1 ?_
  refine va_get (D := D) (ci := 0) (v := .ref (a 15)) (C := RX0) (T := TX0) (N := 9) hx hb hts inX0 hown hK hP 8 rfl rfl 7 (by decide) (hts (.fieldLink RX1 137 "GridCommons$Ledger" "fromBattery" "[D") (by decide +kernel)) (fun _ h9 => h9) rfl dX1_fromBattery_4 ?_
  refine lv_aload_n hx hb dX1_fromBattery_7 rfl (lv_at hl 0 rfl) ?_
  refine lv_iload_n hx hb dX1_fromBattery_8 rfl (lv_at hl 1 rfl) ?_
  refine lv_iload_n hx hb dX1_fromBattery_9 rfl (lv_at hl 2 rfl) ?_
  refine vp_callSi (va_Run.run (va_runV (As := [.int (nI o), .int (nI q)]) (rest := [.ref (a 15)]) ⟨hx, hb, hml, hown, hts⟩ (mX1_closedSlotV l D cI cZ cD a _ sh sw ts bi it tu ne pr so lo wt lp lz lu lk ld lf lb lw n o q hn ho hq) (cwV 2 hts gX1_fromBattery_X1_closedSlot rfl rfl rfl (by decide +kernel) ⟨Nat.le_of_ble_eq_true rfl, Nat.le_of_ble_eq_true rfl⟩) ⟨xk_blind, va_recv hK hP (ci := 1) (q0 := 0) rfl rfl, xk_pre hP hK hD⟩ rfl rfl hl.1 rfl (lv_room (Nat.le_of_ble_eq_true rfl)) dX1_fromBattery_10 ⟨Nat.le_of_ble_eq_true rfl, Nat.le_of_ble_eq_true rfl⟩)) (fun r hr1 => ?_)
  subst hr1
  refine xk_dald hx hb hK hP 15 2 rfl rfl (o := (5 * q + o)) (by omega) (by decide) dX1_fromBattery_13 ?_
  exact W.dret hx hb hr (fun t ht hW => ⟨_, rfl, rfl, ht⟩) (fun q hq => absurd hq List.not_mem_nil) dX1_fromBattery_14
set_option maxHeartbeats 4000000 in
set_option maxRecDepth 100000 in
theorem mX1_fromBatteryX (l : Launch) (hst : l.stackTraces = false) (D : va_G) (cI cZ cD : ClassId) (a : Nat → Nat) (Hp : Heap) (sh sw ts : Nat → Int32) (bi : Nat → UInt64) (it tu : Nat → Int32) (ne : Nat → UInt64) (pr so lo : UInt64) (wt : Int32) (lp lz lu : Nat → UInt64) (lk : Nat → Int32) (ld lf lb lw : Nat → UInt64) (n : Nat) (x q : Int32) (hbad : ¬ (inR x 0 4 ∧ isQ n q)) : vx_Met l yX1_fromBattery wsX1_fromBattery ({ frames := 8, cells := 1, slots := 6, locals := 125 } : Room) (va_Pc [.ref (a 0), .int x, .int q] (XQ D cI cZ cD (XW a cI cZ cD sh sw ts bi it tu ne pr so lo wt (nI n) lp lz lu lk ld lf lb lw) Hp)) (va_Qd (fun _ (_ : Unit) => False) (fun _ _ => True) (fun q => Hp.size ≤ q)) (XE (fun E => (E = "java/lang/IllegalArgumentException" ∧ ¬ inR x 0 4) ∨ (E = "java/lang/IndexOutOfBoundsException" ∧ inR x 0 4 ∧ ¬ isQ n q)) Hp.size) 1 6 (fun q => Hp.size ≤ q) := by
  refine vx_ofW (cc := cX1_fromBattery) (maxL := 3) (ret := (some .double)) (by decide +kernel) rfl ?_
  intro p e s m args below meth c s₁ B hml htab hv
  obtain ⟨rfl, hsz, ⟨hP, hK, hD⟩, hE⟩ := hv
  have hx := B.exec
  have hb := B.bytes
  have hr := B.returns
  have hts := atoms_spec (ws := wsX1_fromBattery) B.pre
  have hown : s.vm.findClass RX1 = some m.cls := findClass_of_methodNamed B.named
  have hlocks := B.notSynchronized
  subst hsz
  have hA : ∀ q : Nat, s.heap.size ≤ q → (fun q => s.heap.size ≤ q) q := fun q h => h
  have hS : va_S (fun q => s.heap.size ≤ q) s.heap s.heap [] := va_S.rf
  have hl := lv_entry ([.ref (a 0), .int x, .int q]) (n := 3) (Nat.le_of_ble_eq_true rfl)
  rw [lg_entry_eq]
  generalize (lg_sl ([.ref (a 0), .int x, .int q]) ++ List.replicate (3 - (lg_sl ([.ref (a 0), .int x, .int q])).length) Slot.unset).toArray = ls at hl ⊢
  have hl : lv_has ls 3 [(0, .ref (a 0)), (1, .int x), (2, .int q)] := hl
  have inX1 : ∀ w ∈ wsX10, w ∈ wsX1_fromBattery := by decide +kernel
  have inX0 : ∀ w ∈ wsX00, w ∈ wsX1_fromBattery := by decide +kernel
  refine lv_aload_n hx hb dX1_fromBattery_0 rfl (lv_at hl 0 rfl) ?_
  refine va_get (D := D) (ci := 1) (v := .ref (a 8)) (C := RX1) (T := TX1) (N := 12) hx hb hts inX1 hown hK hP 0 rfl rfl 6 (by decide) (hts (.fieldLink RX1 33 "GridCommons" "ledger" "LGridCommons$Ledger;") (by decide +kernel)) (fun _ h9 => h9) rfl dX1_fromBattery_1 ?_
  refine va_get (D := D) (ci := 0) (v := .ref (a 15)) (C := RX0) (T := TX0) (N := 9) hx hb hts inX0 hown hK hP 8 rfl rfl 7 (by decide) (hts (.fieldLink RX1 137 "GridCommons$Ledger" "fromBattery" "[D") (by decide +kernel)) (fun _ h9 => h9) rfl dX1_fromBattery_4 ?_
  refine lv_aload_n hx hb dX1_fromBattery_7 rfl (lv_at hl 0 rfl) ?_
  refine lv_iload_n hx hb dX1_fromBattery_8 rfl (lv_at hl 1 rfl) ?_
  refine lv_iload_n hx hb dX1_fromBattery_9 rfl (lv_at hl 2 rfl) ?_
  exact vx_calli (vx_runV (As := [.int x, .int q]) (rest := [.ref (a 15)]) ⟨hx, hb, hml, hown, hts⟩ (mX1_closedSlotX l hst D cI cZ cD a s.heap sh sw ts bi it tu ne pr so lo wt lp lz lu lk ld lf lb lw n x q hbad) (cwV 2 hts gX1_fromBattery_X1_closedSlot rfl rfl rfl (by decide +kernel) ⟨Nat.le_of_ble_eq_true rfl, Nat.le_of_ble_eq_true rfl⟩) ⟨xq_blind, va_recv hK hP (ci := 1) (q0 := 0) rfl rfl, xq_pre hP hK hD hE hS hA⟩ rfl rfl hl.1 rfl (lv_room (Nat.le_of_ble_eq_true rfl)) dX1_fromBattery_10 ⟨Nat.le_of_ble_eq_true rfl, Nat.le_of_ble_eq_true rfl⟩) hS (fun q h1 h2 => absurd h2 (Nat.not_le.mpr h1)) (fun q h => hA q (Nat.le_trans hS.1 h)) (fun q h1 h2 => absurd h2 (Nat.not_le.mpr h1)) (fun E ce q9 u9 t9 H9 locs9 ht9 hvm9 hpx9 hB9 hz9 hk9 hS9 hce9 hcv9 hcl9 => vx_out (fun x h => (htab x h).elim) hlocks hce9 hcv9 hcl9 (fun t8 ht8 hvm8 => ⟨(), trivial, hB9, by rw [ht8]; exact hz9, fun q h1 h2 => by rw [ht8]; exact hk9 q h1 h2⟩) hS9.2.2 (Nat.le_refl _) (Nat.le_refl _)) (fun r u t H1 locs1 ht hvm hw hB hz1 hk1 hS1 => hw.elim)
set_option maxHeartbeats 4000000 in
set_option maxRecDepth 100000 in
theorem mX1_boughtV (l : Launch) (D : va_G) (cI cZ cD : ClassId) (a : Nat → Nat) (sz : Nat) (sh sw ts : Nat → Int32) (bi : Nat → UInt64) (it tu : Nat → Int32) (ne : Nat → UInt64) (pr so lo : UInt64) (wt : Int32) (lp lz lu : Nat → UInt64) (lk : Nat → Int32) (ld lf lb lw : Nat → UInt64) (n o q : Nat) (hn : n ≤ 60) (ho : o < 5) (hq : q < n) : Met l yX1_bought wsX1_bought ({ frames := 2, cells := 0, slots := 0, locals := 43 } : Room) (va_Pc [.ref (a 0), .int (nI o), .int (nI q)] (XP D cI cZ cD (XW a cI cZ cD sh sw ts bi it tu ne pr so lo wt (nI n) lp lz lu lk ld lf lb lw) sz)) (vp_Sd (fun r => r = lw (5 * q + o))) 0 0 (fun _ => False) := by
  refine Met.ofW (cc := cX1_bought) (maxL := 3) (ret := (some .double)) (by decide +kernel) rfl ?_
  intro p e s m args below meth c s₁ B hml hv
  obtain ⟨rfl, hsz, hP, hK, hD0⟩ := hv
  have hx := B.exec
  have hb := B.bytes
  have hr := B.returns
  have hts := atoms_spec (ws := wsX1_bought) B.pre
  have hown : s.vm.findClass RX1 = some m.cls := findClass_of_methodNamed B.named
  have hlocks := B.notSynchronized
  subst hsz
  have hD := hD0.self (sz := s.heap.size)
  generalize hAe : va_A (XW a cI cZ cD sh sw ts bi it tu ne pr so lo wt (nI n) lp lz lu lk ld lf lb lw) s.heap.size = A at hD ⊢
  have hA : ∀ q : Nat, s.heap.size ≤ q → A q := fun q h => by rw [← hAe]; exact Or.inr h
  have hS : va_S A s.heap s.heap [] := va_S.rf
  have hl := lv_entry ([.ref (a 0), .int (nI o), .int (nI q)]) (n := 3) (Nat.le_of_ble_eq_true rfl)
  rw [lg_entry_eq]
  generalize (lg_sl ([.ref (a 0), .int (nI o), .int (nI q)]) ++ List.replicate (3 - (lg_sl ([.ref (a 0), .int (nI o), .int (nI q)])).length) Slot.unset).toArray = ls at hl ⊢
  have hl : lv_has ls 3 [(0, .ref (a 0)), (1, .int (nI o)), (2, .int (nI q))] := hl
  have inX1 : ∀ w ∈ wsX10, w ∈ wsX1_bought := by decide +kernel
  have inX0 : ∀ w ∈ wsX00, w ∈ wsX1_bought := by decide +kernel
  refine lv_aload_n hx hb dX1_bought_0 rfl (lv_at hl 0 rfl) ?_
  refine va_get (D := D) (ci := 1) (v := .ref (a 8)) (C := RX1) (T := TX1) (N := 12) hx hb hts inX1 hown hK hP 0 rfl rfl 6 (by decide) (hts (.fieldLink RX1 33 "GridCommons" "ledger" "LGridCommons$Ledger;") (by decide +kernel)) (fun _ h9 => h9) rfl dX1_bought_1 ?_
  refine va_get (D := D) (ci := 0) (v := .ref (a 16)) (C := RX0) (T := TX0) (N := 9) hx hb hts inX0 hown hK hP 8 rfl rfl 8 (by decide) (hts (.fieldLink RX1 140 "GridCommons$Ledger" "bought" "[D") (by decide +kernel)) (fun _ h9 => h9) rfl dX1_bought_4 ?_
  refine lv_aload_n hx hb dX1_bought_7 rfl (lv_at hl 0 rfl) ?_
  refine lv_iload_n hx hb dX1_bought_8 rfl (lv_at hl 1 rfl) ?_
  refine lv_iload_n hx hb dX1_bought_9 rfl (lv_at hl 2 rfl) ?_
  refine vp_callSi (va_Run.run (va_runV (As := [.int (nI o), .int (nI q)]) (rest := [.ref (a 16)]) ⟨hx, hb, hml, hown, hts⟩ (mX1_closedSlotV l D cI cZ cD a _ sh sw ts bi it tu ne pr so lo wt lp lz lu lk ld lf lb lw n o q hn ho hq) (cwV 2 hts gX1_bought_X1_closedSlot rfl rfl rfl (by decide +kernel) ⟨Nat.le_of_ble_eq_true rfl, Nat.le_of_ble_eq_true rfl⟩) ⟨xk_blind, va_recv hK hP (ci := 1) (q0 := 0) rfl rfl, xk_pre hP hK hD⟩ rfl rfl hl.1 rfl (lv_room (Nat.le_of_ble_eq_true rfl)) dX1_bought_10 ⟨Nat.le_of_ble_eq_true rfl, Nat.le_of_ble_eq_true rfl⟩)) (fun r hr1 => ?_)
  subst hr1
  refine xk_dald hx hb hK hP 16 2 rfl rfl (o := (5 * q + o)) (by omega) (by decide) dX1_bought_13 ?_
  exact W.dret hx hb hr (fun t ht hW => ⟨_, rfl, rfl, ht⟩) (fun q hq => absurd hq List.not_mem_nil) dX1_bought_14
set_option maxHeartbeats 4000000 in
set_option maxRecDepth 100000 in
theorem mX1_boughtX (l : Launch) (hst : l.stackTraces = false) (D : va_G) (cI cZ cD : ClassId) (a : Nat → Nat) (Hp : Heap) (sh sw ts : Nat → Int32) (bi : Nat → UInt64) (it tu : Nat → Int32) (ne : Nat → UInt64) (pr so lo : UInt64) (wt : Int32) (lp lz lu : Nat → UInt64) (lk : Nat → Int32) (ld lf lb lw : Nat → UInt64) (n : Nat) (x q : Int32) (hbad : ¬ (inR x 0 4 ∧ isQ n q)) : vx_Met l yX1_bought wsX1_bought ({ frames := 8, cells := 1, slots := 6, locals := 125 } : Room) (va_Pc [.ref (a 0), .int x, .int q] (XQ D cI cZ cD (XW a cI cZ cD sh sw ts bi it tu ne pr so lo wt (nI n) lp lz lu lk ld lf lb lw) Hp)) (va_Qd (fun _ (_ : Unit) => False) (fun _ _ => True) (fun q => Hp.size ≤ q)) (XE (fun E => (E = "java/lang/IllegalArgumentException" ∧ ¬ inR x 0 4) ∨ (E = "java/lang/IndexOutOfBoundsException" ∧ inR x 0 4 ∧ ¬ isQ n q)) Hp.size) 1 6 (fun q => Hp.size ≤ q) := by
  refine vx_ofW (cc := cX1_bought) (maxL := 3) (ret := (some .double)) (by decide +kernel) rfl ?_
  intro p e s m args below meth c s₁ B hml htab hv
  obtain ⟨rfl, hsz, ⟨hP, hK, hD⟩, hE⟩ := hv
  have hx := B.exec
  have hb := B.bytes
  have hr := B.returns
  have hts := atoms_spec (ws := wsX1_bought) B.pre
  have hown : s.vm.findClass RX1 = some m.cls := findClass_of_methodNamed B.named
  have hlocks := B.notSynchronized
  subst hsz
  have hA : ∀ q : Nat, s.heap.size ≤ q → (fun q => s.heap.size ≤ q) q := fun q h => h
  have hS : va_S (fun q => s.heap.size ≤ q) s.heap s.heap [] := va_S.rf
  have hl := lv_entry ([.ref (a 0), .int x, .int q]) (n := 3) (Nat.le_of_ble_eq_true rfl)
  rw [lg_entry_eq]
  generalize (lg_sl ([.ref (a 0), .int x, .int q]) ++ List.replicate (3 - (lg_sl ([.ref (a 0), .int x, .int q])).length) Slot.unset).toArray = ls at hl ⊢
  have hl : lv_has ls 3 [(0, .ref (a 0)), (1, .int x), (2, .int q)] := hl
  have inX1 : ∀ w ∈ wsX10, w ∈ wsX1_bought := by decide +kernel
  have inX0 : ∀ w ∈ wsX00, w ∈ wsX1_bought := by decide +kernel
  refine lv_aload_n hx hb dX1_bought_0 rfl (lv_at hl 0 rfl) ?_
  refine va_get (D := D) (ci := 1) (v := .ref (a 8)) (C := RX1) (T := TX1) (N := 12) hx hb hts inX1 hown hK hP 0 rfl rfl 6 (by decide) (hts (.fieldLink RX1 33 "GridCommons" "ledger" "LGridCommons$Ledger;") (by decide +kernel)) (fun _ h9 => h9) rfl dX1_bought_1 ?_
  refine va_get (D := D) (ci := 0) (v := .ref (a 16)) (C := RX0) (T := TX0) (N := 9) hx hb hts inX0 hown hK hP 8 rfl rfl 8 (by decide) (hts (.fieldLink RX1 140 "GridCommons$Ledger" "bought" "[D") (by decide +kernel)) (fun _ h9 => h9) rfl dX1_bought_4 ?_
  refine lv_aload_n hx hb dX1_bought_7 rfl (lv_at hl 0 rfl) ?_
  refine lv_iload_n hx hb dX1_bought_8 rfl (lv_at hl 1 rfl) ?_
  refine lv_iload_n hx hb dX1_bought_9 rfl (lv_at hl 2 rfl) ?_
  exact vx_calli (vx_runV (As := [.int x, .int q]) (rest := [.ref (a 16)]) ⟨hx, hb, hml, hown, hts⟩ (mX1_closedSlotX l hst D cI cZ cD a s.heap sh sw ts bi it tu ne pr so lo wt lp lz lu lk ld lf lb lw n x q hbad) (cwV 2 hts gX1_bought_X1_closedSlot rfl rfl rfl (by decide +kernel) ⟨Nat.le_of_ble_eq_true rfl, Nat.le_of_ble_eq_true rfl⟩) ⟨xq_blind, va_recv hK hP (ci := 1) (q0 := 0) rfl rfl, xq_pre hP hK hD hE hS hA⟩ rfl rfl hl.1 rfl (lv_room (Nat.le_of_ble_eq_true rfl)) dX1_bought_10 ⟨Nat.le_of_ble_eq_true rfl, Nat.le_of_ble_eq_true rfl⟩) hS (fun q h1 h2 => absurd h2 (Nat.not_le.mpr h1)) (fun q h => hA q (Nat.le_trans hS.1 h)) (fun q h1 h2 => absurd h2 (Nat.not_le.mpr h1)) (fun E ce q9 u9 t9 H9 locs9 ht9 hvm9 hpx9 hB9 hz9 hk9 hS9 hce9 hcv9 hcl9 => vx_out (fun x h => (htab x h).elim) hlocks hce9 hcv9 hcl9 (fun t8 ht8 hvm8 => ⟨(), trivial, hB9, by rw [ht8]; exact hz9, fun q h1 h2 => by rw [ht8]; exact hk9 q h1 h2⟩) hS9.2.2 (Nat.le_refl _) (Nat.le_refl _)) (fun r u t H1 locs1 ht hvm hw hB hz1 hk1 hS1 => hw.elim)
set_option maxHeartbeats 4000000 in
set_option maxRecDepth 100000 in
theorem mX1_soldV (l : Launch) (D : va_G) (cI cZ cD : ClassId) (a : Nat → Nat) (sz : Nat) (sh sw ts : Nat → Int32) (bi : Nat → UInt64) (it tu : Nat → Int32) (ne : Nat → UInt64) (pr so lo : UInt64) (wt : Int32) (lp lz lu : Nat → UInt64) (lk : Nat → Int32) (ld lf lb lw : Nat → UInt64) (n q : Nat) (hn : n ≤ 60) (hq : q < n) : Met l yX1_sold wsX1_sold ({ frames := 1, cells := 0, slots := 0, locals := 21 } : Room) (va_Pc [.ref (a 0), .int (nI q)] (XP D cI cZ cD (XW a cI cZ cD sh sw ts bi it tu ne pr so lo wt (nI n) lp lz lu lk ld lf lb lw) sz)) (vp_Sd (fun r => r = lz q)) 0 0 (fun _ => False) := by
  refine Met.ofW (cc := cX1_sold) (maxL := 2) (ret := (some .double)) (by decide +kernel) rfl ?_
  intro p e s m args below meth c s₁ B hml hv
  obtain ⟨rfl, hsz, hP, hK, hD0⟩ := hv
  have hx := B.exec
  have hb := B.bytes
  have hr := B.returns
  have hts := atoms_spec (ws := wsX1_sold) B.pre
  have hown : s.vm.findClass RX1 = some m.cls := findClass_of_methodNamed B.named
  have hlocks := B.notSynchronized
  subst hsz
  have hD := hD0.self (sz := s.heap.size)
  generalize hAe : va_A (XW a cI cZ cD sh sw ts bi it tu ne pr so lo wt (nI n) lp lz lu lk ld lf lb lw) s.heap.size = A at hD ⊢
  have hA : ∀ q : Nat, s.heap.size ≤ q → A q := fun q h => by rw [← hAe]; exact Or.inr h
  have hS : va_S A s.heap s.heap [] := va_S.rf
  have hl := lv_entry ([.ref (a 0), .int (nI q)]) (n := 2) (Nat.le_of_ble_eq_true rfl)
  rw [lg_entry_eq]
  generalize (lg_sl ([.ref (a 0), .int (nI q)]) ++ List.replicate (2 - (lg_sl ([.ref (a 0), .int (nI q)])).length) Slot.unset).toArray = ls at hl ⊢
  have hl : lv_has ls 2 [(0, .ref (a 0)), (1, .int (nI q))] := hl
  have inX1 : ∀ w ∈ wsX10, w ∈ wsX1_sold := by decide +kernel
  have inX0 : ∀ w ∈ wsX00, w ∈ wsX1_sold := by decide +kernel
  refine lv_aload_n hx hb dX1_sold_0 rfl (lv_at hl 0 rfl) ?_
  refine lv_iload_n hx hb dX1_sold_1 rfl (lv_at hl 1 rfl) ?_
  refine va_csv (va_Run.run (va_runV (As := [.int (nI q)]) (rest := []) ⟨hx, hb, hml, hown, hts⟩ (mX1_requireQuarterV l D cI cZ cD a _ sh sw ts bi it tu ne pr so lo wt lp lz lu lk ld lf lb lw n (nI q) ⟨nI_pos' (by omega), nI_lt hq (by omega)⟩) (cwV 1 hts gX1_sold_X1_requireQuarter rfl rfl rfl (by decide +kernel) ⟨Nat.le_of_ble_eq_true rfl, Nat.le_of_ble_eq_true rfl⟩) ⟨xk_blind, va_recv hK hP (ci := 1) (q0 := 0) rfl rfl, xk_pre hP hK hD⟩ rfl rfl hl.1 rfl (lv_room (Nat.le_of_ble_eq_true rfl)) dX1_sold_2 ⟨Nat.le_of_ble_eq_true rfl, Nat.le_of_ble_eq_true rfl⟩)) (fun _ => ?_)
  refine lv_aload_n hx hb dX1_sold_5 rfl (lv_at hl 0 rfl) ?_
  refine va_get (D := D) (ci := 1) (v := .ref (a 8)) (C := RX1) (T := TX1) (N := 12) hx hb hts inX1 hown hK hP 0 rfl rfl 6 (by decide) (hts (.fieldLink RX1 33 "GridCommons" "ledger" "LGridCommons$Ledger;") (by decide +kernel)) (fun _ h9 => h9) rfl dX1_sold_6 ?_
  refine va_get (D := D) (ci := 0) (v := .ref (a 10)) (C := RX0) (T := TX0) (N := 9) hx hb hts inX0 hown hK hP 8 rfl rfl 2 (by decide) (hts (.fieldLink RX1 143 "GridCommons$Ledger" "sold" "[D") (by decide +kernel)) (fun _ h9 => h9) rfl dX1_sold_9 ?_
  refine lv_iload_n hx hb dX1_sold_12 rfl (lv_at hl 1 rfl) ?_
  refine xk_dald hx hb hK hP 10 2 rfl rfl (o := q) (by omega) (by decide) dX1_sold_13 ?_
  exact W.dret hx hb hr (fun t ht hW => ⟨_, rfl, rfl, ht⟩) (fun q hq => absurd hq List.not_mem_nil) dX1_sold_14
set_option maxHeartbeats 4000000 in
set_option maxRecDepth 100000 in
theorem mX1_soldX (l : Launch) (hst : l.stackTraces = false) (D : va_G) (cI cZ cD : ClassId) (a : Nat → Nat) (Hp : Heap) (sh sw ts : Nat → Int32) (bi : Nat → UInt64) (it tu : Nat → Int32) (ne : Nat → UInt64) (pr so lo : UInt64) (wt : Int32) (lp lz lu : Nat → UInt64) (lk : Nat → Int32) (ld lf lb lw : Nat → UInt64) (n : Nat) (q : Int32) (hbad : ¬ isQ n q) : vx_Met l yX1_sold wsX1_sold ({ frames := 7, cells := 1, slots := 6, locals := 103 } : Room) (va_Pc [.ref (a 0), .int q] (XQ D cI cZ cD (XW a cI cZ cD sh sw ts bi it tu ne pr so lo wt (nI n) lp lz lu lk ld lf lb lw) Hp)) (va_Qd (fun _ (_ : Unit) => False) (fun _ _ => True) (fun q => Hp.size ≤ q)) (XE (fun E => E = "java/lang/IndexOutOfBoundsException") Hp.size) 1 6 (fun q => Hp.size ≤ q) := by
  refine vx_ofW (cc := cX1_sold) (maxL := 2) (ret := (some .double)) (by decide +kernel) rfl ?_
  intro p e s m args below meth c s₁ B hml htab hv
  obtain ⟨rfl, hsz, ⟨hP, hK, hD⟩, hE⟩ := hv
  have hx := B.exec
  have hb := B.bytes
  have hr := B.returns
  have hts := atoms_spec (ws := wsX1_sold) B.pre
  have hown : s.vm.findClass RX1 = some m.cls := findClass_of_methodNamed B.named
  have hlocks := B.notSynchronized
  subst hsz
  have hA : ∀ q : Nat, s.heap.size ≤ q → (fun q => s.heap.size ≤ q) q := fun q h => h
  have hS : va_S (fun q => s.heap.size ≤ q) s.heap s.heap [] := va_S.rf
  have hl := lv_entry ([.ref (a 0), .int q]) (n := 2) (Nat.le_of_ble_eq_true rfl)
  rw [lg_entry_eq]
  generalize (lg_sl ([.ref (a 0), .int q]) ++ List.replicate (2 - (lg_sl ([.ref (a 0), .int q])).length) Slot.unset).toArray = ls at hl ⊢
  have hl : lv_has ls 2 [(0, .ref (a 0)), (1, .int q)] := hl
  refine lv_aload_n hx hb dX1_sold_0 rfl (lv_at hl 0 rfl) ?_
  refine lv_iload_n hx hb dX1_sold_1 rfl (lv_at hl 1 rfl) ?_
  exact vx_callv (vx_runV (As := [.int q]) (rest := []) ⟨hx, hb, hml, hown, hts⟩ (mX1_requireQuarterX l hst D cI cZ cD a s.heap sh sw ts bi it tu ne pr so lo wt lp lz lu lk ld lf lb lw n q hbad) (cwV 1 hts gX1_sold_X1_requireQuarter rfl rfl rfl (by decide +kernel) ⟨Nat.le_of_ble_eq_true rfl, Nat.le_of_ble_eq_true rfl⟩) ⟨xq_blind, va_recv hK hP (ci := 1) (q0 := 0) rfl rfl, xq_pre hP hK hD hE hS hA⟩ rfl rfl hl.1 rfl (lv_room (Nat.le_of_ble_eq_true rfl)) dX1_sold_2 ⟨Nat.le_of_ble_eq_true rfl, Nat.le_of_ble_eq_true rfl⟩) hS (fun q h1 h2 => absurd h2 (Nat.not_le.mpr h1)) (fun q h => hA q (Nat.le_trans hS.1 h)) (fun q h1 h2 => absurd h2 (Nat.not_le.mpr h1)) (fun E ce q9 u9 t9 H9 locs9 ht9 hvm9 hpx9 hB9 hz9 hk9 hS9 hce9 hcv9 hcl9 => vx_out (fun x h => (htab x h).elim) hlocks hce9 hcv9 hcl9 (fun t8 ht8 hvm8 => ⟨(), trivial, hB9, by rw [ht8]; exact hz9, fun q h1 h2 => by rw [ht8]; exact hk9 q h1 h2⟩) hS9.2.2 (Nat.le_refl _) (Nat.le_refl _)) (fun u t H1 locs1 ht hvm hw hB hz1 hk1 hS1 => hw.elim)
set_option maxHeartbeats 4000000 in
set_option maxRecDepth 100000 in
theorem mX1_shedsV (l : Launch) (D : va_G) (cI cZ cD : ClassId) (a : Nat → Nat) (sz : Nat) (sh sw ts : Nat → Int32) (bi : Nat → UInt64) (it tu : Nat → Int32) (ne : Nat → UInt64) (pr so lo : UInt64) (wt cn : Int32) (lp lz lu : Nat → UInt64) (lk : Nat → Int32) (ld lf lb lw : Nat → UInt64) (o : Nat) (ho : o < 5) : Met l yX1_sheds wsX1_sheds ({ frames := 1, cells := 0, slots := 0, locals := 20 } : Room) (va_Pc [.ref (a 0), .int (nI o)] (XP D cI cZ cD (XW a cI cZ cD sh sw ts bi it tu ne pr so lo wt cn lp lz lu lk ld lf lb lw) sz)) (vp_Si (fun r => r = ts o)) 0 0 (fun _ => False) := by
  refine Met.ofW (cc := cX1_sheds) (maxL := 2) (ret := (some .int)) (by decide +kernel) rfl ?_
  intro p e s m args below meth c s₁ B hml hv
  obtain ⟨rfl, hsz, hP, hK, hD0⟩ := hv
  have hx := B.exec
  have hb := B.bytes
  have hr := B.returns
  have hts := atoms_spec (ws := wsX1_sheds) B.pre
  have hown : s.vm.findClass RX1 = some m.cls := findClass_of_methodNamed B.named
  have hlocks := B.notSynchronized
  subst hsz
  have hD := hD0.self (sz := s.heap.size)
  generalize hAe : va_A (XW a cI cZ cD sh sw ts bi it tu ne pr so lo wt cn lp lz lu lk ld lf lb lw) s.heap.size = A at hD ⊢
  have hA : ∀ q : Nat, s.heap.size ≤ q → A q := fun q h => by rw [← hAe]; exact Or.inr h
  have hS : va_S A s.heap s.heap [] := va_S.rf
  have hl := lv_entry ([.ref (a 0), .int (nI o)]) (n := 2) (Nat.le_of_ble_eq_true rfl)
  rw [lg_entry_eq]
  generalize (lg_sl ([.ref (a 0), .int (nI o)]) ++ List.replicate (2 - (lg_sl ([.ref (a 0), .int (nI o)])).length) Slot.unset).toArray = ls at hl ⊢
  have hl : lv_has ls 2 [(0, .ref (a 0)), (1, .int (nI o))] := hl
  have inX1 : ∀ w ∈ wsX10, w ∈ wsX1_sheds := by decide +kernel
  refine lv_iload_n hx hb dX1_sheds_0 rfl (lv_at hl 1 rfl) ?_
  refine va_csv (va_Run.run (va_runS (As := [.int (nI o)]) (rest := []) ⟨hx, hb, hml, hown, hts⟩ (mX1_requireOwnerV l (nI o) (nI_inR (n := 4) (by omega) (by decide))) (va_cwS 1 hts gX1_sheds_X1_requireOwner rfl rfl rfl (by decide +kernel) ⟨Nat.le_of_ble_eq_true rfl, Nat.le_of_ble_eq_true rfl⟩) ⟨fun a U g mk q => q, fun U hU hW => ⟨rfl, trivial⟩⟩ rfl rfl hl.1 rfl (lv_room (Nat.le_of_ble_eq_true rfl)) dX1_sheds_1 ⟨Nat.le_of_ble_eq_true rfl, Nat.le_of_ble_eq_true rfl⟩)) (fun _ => ?_)
  refine lv_aload_n hx hb dX1_sheds_4 rfl (lv_at hl 0 rfl) ?_
  refine va_get (D := D) (ci := 1) (v := .ref (a 3)) (C := RX1) (T := TX1) (N := 12) hx hb hts inX1 hown hK hP 0 rfl rfl 2 (by decide) (hts (.fieldLink RX1 17 "GridCommons" "timesShed" "[I") (by decide +kernel)) (fun _ h9 => h9) rfl dX1_sheds_5 ?_
  refine lv_iload_n hx hb dX1_sheds_8 rfl (lv_at hl 1 rfl) ?_
  refine xk_iald hx hb hK hP 3 0 rfl rfl (o := o) (by omega) (by decide) dX1_sheds_9 ?_
  exact W.iret hx hb hr (fun t ht hW => ⟨_, rfl, rfl, ht⟩) (fun q hq => absurd hq List.not_mem_nil) dX1_sheds_10
set_option maxHeartbeats 4000000 in
set_option maxRecDepth 100000 in
theorem mX1_shedsX (l : Launch) (hst : l.stackTraces = false) (D : va_G) (cI cZ cD : ClassId) (a : Nat → Nat) (Hp : Heap) (sh sw ts : Nat → Int32) (bi : Nat → UInt64) (it tu : Nat → Int32) (ne : Nat → UInt64) (pr so lo : UInt64) (wt cn : Int32) (lp lz lu : Nat → UInt64) (lk : Nat → Int32) (ld lf lb lw : Nat → UInt64) (x : Int32) (hbad : ¬ inR x 0 4) : vx_Met l yX1_sheds wsX1_sheds ({ frames := 7, cells := 1, slots := 6, locals := 102 } : Room) (va_Pc [.ref (a 0), .int x] (XQ D cI cZ cD (XW a cI cZ cD sh sw ts bi it tu ne pr so lo wt cn lp lz lu lk ld lf lb lw) Hp)) (va_Qi (fun _ (_ : Unit) => False) (fun _ _ => True) (fun q => Hp.size ≤ q)) (XE (fun E => E = "java/lang/IllegalArgumentException") Hp.size) 1 6 (fun q => Hp.size ≤ q) := by
  refine vx_ofW (cc := cX1_sheds) (maxL := 2) (ret := (some .int)) (by decide +kernel) rfl ?_
  intro p e s m args below meth c s₁ B hml htab hv
  obtain ⟨rfl, hsz, ⟨hP, hK, hD⟩, hE⟩ := hv
  have hx := B.exec
  have hb := B.bytes
  have hr := B.returns
  have hts := atoms_spec (ws := wsX1_sheds) B.pre
  have hown : s.vm.findClass RX1 = some m.cls := findClass_of_methodNamed B.named
  have hlocks := B.notSynchronized
  subst hsz
  have hA : ∀ q : Nat, s.heap.size ≤ q → (fun q => s.heap.size ≤ q) q := fun q h => h
  have hS : va_S (fun q => s.heap.size ≤ q) s.heap s.heap [] := va_S.rf
  have hl := lv_entry ([.ref (a 0), .int x]) (n := 2) (Nat.le_of_ble_eq_true rfl)
  rw [lg_entry_eq]
  generalize (lg_sl ([.ref (a 0), .int x]) ++ List.replicate (2 - (lg_sl ([.ref (a 0), .int x])).length) Slot.unset).toArray = ls at hl ⊢
  have hl : lv_has ls 2 [(0, .ref (a 0)), (1, .int x)] := hl
  refine lv_iload_n hx hb dX1_sheds_0 rfl (lv_at hl 1 rfl) ?_
  exact vx_callv (vx_runS (As := [.int x]) (rest := []) ⟨hx, hb, hml, hown, hts⟩ (mX1_requireOwner l hst s.heap x) (va_cwS 1 hts gX1_sheds_X1_requireOwner rfl rfl rfl (by decide +kernel) ⟨Nat.le_of_ble_eq_true rfl, Nat.le_of_ble_eq_true rfl⟩) ⟨xh_blind, xh_pre hE hS hA⟩ rfl rfl hl.1 rfl (lv_room (Nat.le_of_ble_eq_true rfl)) dX1_sheds_1 ⟨Nat.le_of_ble_eq_true rfl, Nat.le_of_ble_eq_true rfl⟩) hS (fun q h1 h2 => absurd h2 (Nat.not_le.mpr h1)) (fun q h => hA q (Nat.le_trans hS.1 h)) (fun q h1 h2 => absurd h2 (Nat.not_le.mpr h1)) (fun E ce q9 u9 t9 H9 locs9 ht9 hvm9 hpx9 hB9 hz9 hk9 hS9 hce9 hcv9 hcl9 => vx_out (fun x h => (htab x h).elim) hlocks hce9 hcv9 hcl9 (fun t8 ht8 hvm8 => ⟨(), trivial, hB9.1, by rw [ht8]; exact hz9, fun q h1 h2 => by rw [ht8]; exact hk9 q h1 h2⟩) hS9.2.2 (Nat.le_refl _) (Nat.le_refl _)) (fun u t H1 locs1 ht hvm hw hB hz1 hk1 hS1 => absurd hw hbad)
set_option maxHeartbeats 4000000 in
set_option maxRecDepth 100000 in
theorem mX1_billV (l : Launch) (D : va_G) (cI cZ cD : ClassId) (a : Nat → Nat) (sz : Nat) (sh sw ts : Nat → Int32) (bi : Nat → UInt64) (it tu : Nat → Int32) (ne : Nat → UInt64) (pr so lo : UInt64) (wt cn : Int32) (lp lz lu : Nat → UInt64) (lk : Nat → Int32) (ld lf lb lw : Nat → UInt64) (o : Nat) (ho : o < 5) : Met l yX1_bill wsX1_bill ({ frames := 1, cells := 0, slots := 0, locals := 20 } : Room) (va_Pc [.ref (a 0), .int (nI o)] (XP D cI cZ cD (XW a cI cZ cD sh sw ts bi it tu ne pr so lo wt cn lp lz lu lk ld lf lb lw) sz)) (vp_Sd (fun r => r = bi o)) 0 0 (fun _ => False) := by
  refine Met.ofW (cc := cX1_bill) (maxL := 2) (ret := (some .double)) (by decide +kernel) rfl ?_
  intro p e s m args below meth c s₁ B hml hv
  obtain ⟨rfl, hsz, hP, hK, hD0⟩ := hv
  have hx := B.exec
  have hb := B.bytes
  have hr := B.returns
  have hts := atoms_spec (ws := wsX1_bill) B.pre
  have hown : s.vm.findClass RX1 = some m.cls := findClass_of_methodNamed B.named
  have hlocks := B.notSynchronized
  subst hsz
  have hD := hD0.self (sz := s.heap.size)
  generalize hAe : va_A (XW a cI cZ cD sh sw ts bi it tu ne pr so lo wt cn lp lz lu lk ld lf lb lw) s.heap.size = A at hD ⊢
  have hA : ∀ q : Nat, s.heap.size ≤ q → A q := fun q h => by rw [← hAe]; exact Or.inr h
  have hS : va_S A s.heap s.heap [] := va_S.rf
  have hl := lv_entry ([.ref (a 0), .int (nI o)]) (n := 2) (Nat.le_of_ble_eq_true rfl)
  rw [lg_entry_eq]
  generalize (lg_sl ([.ref (a 0), .int (nI o)]) ++ List.replicate (2 - (lg_sl ([.ref (a 0), .int (nI o)])).length) Slot.unset).toArray = ls at hl ⊢
  have hl : lv_has ls 2 [(0, .ref (a 0)), (1, .int (nI o))] := hl
  have inX1 : ∀ w ∈ wsX10, w ∈ wsX1_bill := by decide +kernel
  refine lv_iload_n hx hb dX1_bill_0 rfl (lv_at hl 1 rfl) ?_
  refine va_csv (va_Run.run (va_runS (As := [.int (nI o)]) (rest := []) ⟨hx, hb, hml, hown, hts⟩ (mX1_requireOwnerV l (nI o) (nI_inR (n := 4) (by omega) (by decide))) (va_cwS 1 hts gX1_bill_X1_requireOwner rfl rfl rfl (by decide +kernel) ⟨Nat.le_of_ble_eq_true rfl, Nat.le_of_ble_eq_true rfl⟩) ⟨fun a U g mk q => q, fun U hU hW => ⟨rfl, trivial⟩⟩ rfl rfl hl.1 rfl (lv_room (Nat.le_of_ble_eq_true rfl)) dX1_bill_1 ⟨Nat.le_of_ble_eq_true rfl, Nat.le_of_ble_eq_true rfl⟩)) (fun _ => ?_)
  refine lv_aload_n hx hb dX1_bill_4 rfl (lv_at hl 0 rfl) ?_
  refine va_get (D := D) (ci := 1) (v := .ref (a 4)) (C := RX1) (T := TX1) (N := 12) hx hb hts inX1 hown hK hP 0 rfl rfl 3 (by decide) (hts (.fieldLink RX1 20 "GridCommons" "bills" "[D") (by decide +kernel)) (fun _ h9 => h9) rfl dX1_bill_5 ?_
  refine lv_iload_n hx hb dX1_bill_8 rfl (lv_at hl 1 rfl) ?_
  refine xk_dald hx hb hK hP 4 2 rfl rfl (o := o) (by omega) (by decide) dX1_bill_9 ?_
  exact W.dret hx hb hr (fun t ht hW => ⟨_, rfl, rfl, ht⟩) (fun q hq => absurd hq List.not_mem_nil) dX1_bill_10
set_option maxHeartbeats 4000000 in
set_option maxRecDepth 100000 in
theorem mX1_billX (l : Launch) (hst : l.stackTraces = false) (D : va_G) (cI cZ cD : ClassId) (a : Nat → Nat) (Hp : Heap) (sh sw ts : Nat → Int32) (bi : Nat → UInt64) (it tu : Nat → Int32) (ne : Nat → UInt64) (pr so lo : UInt64) (wt cn : Int32) (lp lz lu : Nat → UInt64) (lk : Nat → Int32) (ld lf lb lw : Nat → UInt64) (x : Int32) (hbad : ¬ inR x 0 4) : vx_Met l yX1_bill wsX1_bill ({ frames := 7, cells := 1, slots := 6, locals := 102 } : Room) (va_Pc [.ref (a 0), .int x] (XQ D cI cZ cD (XW a cI cZ cD sh sw ts bi it tu ne pr so lo wt cn lp lz lu lk ld lf lb lw) Hp)) (va_Qd (fun _ (_ : Unit) => False) (fun _ _ => True) (fun q => Hp.size ≤ q)) (XE (fun E => E = "java/lang/IllegalArgumentException") Hp.size) 1 6 (fun q => Hp.size ≤ q) := by
  refine vx_ofW (cc := cX1_bill) (maxL := 2) (ret := (some .double)) (by decide +kernel) rfl ?_
  intro p e s m args below meth c s₁ B hml htab hv
  obtain ⟨rfl, hsz, ⟨hP, hK, hD⟩, hE⟩ := hv
  have hx := B.exec
  have hb := B.bytes
  have hr := B.returns
  have hts := atoms_spec (ws := wsX1_bill) B.pre
  have hown : s.vm.findClass RX1 = some m.cls := findClass_of_methodNamed B.named
  have hlocks := B.notSynchronized
  subst hsz
  have hA : ∀ q : Nat, s.heap.size ≤ q → (fun q => s.heap.size ≤ q) q := fun q h => h
  have hS : va_S (fun q => s.heap.size ≤ q) s.heap s.heap [] := va_S.rf
  have hl := lv_entry ([.ref (a 0), .int x]) (n := 2) (Nat.le_of_ble_eq_true rfl)
  rw [lg_entry_eq]
  generalize (lg_sl ([.ref (a 0), .int x]) ++ List.replicate (2 - (lg_sl ([.ref (a 0), .int x])).length) Slot.unset).toArray = ls at hl ⊢
  have hl : lv_has ls 2 [(0, .ref (a 0)), (1, .int x)] := hl
  refine lv_iload_n hx hb dX1_bill_0 rfl (lv_at hl 1 rfl) ?_
  exact vx_callv (vx_runS (As := [.int x]) (rest := []) ⟨hx, hb, hml, hown, hts⟩ (mX1_requireOwner l hst s.heap x) (va_cwS 1 hts gX1_bill_X1_requireOwner rfl rfl rfl (by decide +kernel) ⟨Nat.le_of_ble_eq_true rfl, Nat.le_of_ble_eq_true rfl⟩) ⟨xh_blind, xh_pre hE hS hA⟩ rfl rfl hl.1 rfl (lv_room (Nat.le_of_ble_eq_true rfl)) dX1_bill_1 ⟨Nat.le_of_ble_eq_true rfl, Nat.le_of_ble_eq_true rfl⟩) hS (fun q h1 h2 => absurd h2 (Nat.not_le.mpr h1)) (fun q h => hA q (Nat.le_trans hS.1 h)) (fun q h1 h2 => absurd h2 (Nat.not_le.mpr h1)) (fun E ce q9 u9 t9 H9 locs9 ht9 hvm9 hpx9 hB9 hz9 hk9 hS9 hce9 hcv9 hcl9 => vx_out (fun x h => (htab x h).elim) hlocks hce9 hcv9 hcl9 (fun t8 ht8 hvm8 => ⟨(), trivial, hB9.1, by rw [ht8]; exact hz9, fun q h1 h2 => by rw [ht8]; exact hk9 q h1 h2⟩) hS9.2.2 (Nat.le_refl _) (Nat.le_refl _)) (fun u t H1 locs1 ht hvm hw hB hz1 hk1 hS1 => absurd hw hbad)
set_option maxHeartbeats 4000000 in
set_option maxRecDepth 100000 in
theorem mX1_batteryV (l : Launch) (D : va_G) (cI cZ cD : ClassId) (a : Nat → Nat) (sz : Nat) (sh sw ts : Nat → Int32) (bi : Nat → UInt64) (it tu : Nat → Int32) (ne : Nat → UInt64) (pr so lo : UInt64) (wt cn : Int32) (lp lz lu : Nat → UInt64) (lk : Nat → Int32) (ld lf lb lw : Nat → UInt64)  : Met l yX1_battery wsX1_battery ({ frames := 0, cells := 0, slots := 0, locals := 0 } : Room) (va_Pc [.ref (a 0)] (XP D cI cZ cD (XW a cI cZ cD sh sw ts bi it tu ne pr so lo wt cn lp lz lu lk ld lf lb lw) sz)) (vp_Sd (fun r => r = so)) 0 0 (fun _ => False) := by
  refine Met.ofW (cc := cX1_battery) (maxL := 1) (ret := (some .double)) (by decide +kernel) rfl ?_
  intro p e s m args below meth c s₁ B hml hv
  obtain ⟨rfl, hsz, hP, hK, hD0⟩ := hv
  have hx := B.exec
  have hb := B.bytes
  have hr := B.returns
  have hts := atoms_spec (ws := wsX1_battery) B.pre
  have hown : s.vm.findClass RX1 = some m.cls := findClass_of_methodNamed B.named
  have hlocks := B.notSynchronized
  subst hsz
  have hD := hD0.self (sz := s.heap.size)
  generalize hAe : va_A (XW a cI cZ cD sh sw ts bi it tu ne pr so lo wt cn lp lz lu lk ld lf lb lw) s.heap.size = A at hD ⊢
  have hA : ∀ q : Nat, s.heap.size ≤ q → A q := fun q h => by rw [← hAe]; exact Or.inr h
  have hS : va_S A s.heap s.heap [] := va_S.rf
  have hl := lv_entry ([.ref (a 0)]) (n := 1) (Nat.le_of_ble_eq_true rfl)
  rw [lg_entry_eq]
  generalize (lg_sl ([.ref (a 0)]) ++ List.replicate (1 - (lg_sl ([.ref (a 0)])).length) Slot.unset).toArray = ls at hl ⊢
  have hl : lv_has ls 1 [(0, .ref (a 0))] := hl
  have inX1 : ∀ w ∈ wsX10, w ∈ wsX1_battery := by decide +kernel
  refine lv_aload_n hx hb dX1_battery_0 rfl (lv_at hl 0 rfl) ?_
  refine va_get (D := D) (ci := 1) (v := .double so) (C := RX1) (T := TX1) (N := 12) hx hb hts inX1 hown hK hP 0 rfl rfl 8 (by decide) (hts (.fieldLink RX1 43 "GridCommons" "stored" "D") (by decide +kernel)) (fun _ h9 => h9) rfl dX1_battery_1 ?_
  exact W.dret hx hb hr (fun t ht hW => ⟨_, rfl, rfl, ht⟩) (fun q hq => absurd hq List.not_mem_nil) dX1_battery_4
set_option maxHeartbeats 4000000 in
set_option maxRecDepth 100000 in
theorem mX1_turnV (l : Launch) (D : va_G) (cI cZ cD : ClassId) (a : Nat → Nat) (sz : Nat) (sh sw ts : Nat → Int32) (bi : Nat → UInt64) (it tu : Nat → Int32) (ne : Nat → UInt64) (pr so lo : UInt64) (wt cn : Int32) (lp lz lu : Nat → UInt64) (lk : Nat → Int32) (ld lf lb lw : Nat → UInt64)  : Met l yX1_turn wsX1_turn ({ frames := 0, cells := 0, slots := 0, locals := 0 } : Room) (va_Pc [.ref (a 0)] (XP D cI cZ cD (XW a cI cZ cD sh sw ts bi it tu ne pr so lo wt cn lp lz lu lk ld lf lb lw) sz)) (vp_Si (fun r => r = wt)) 0 0 (fun _ => False) := by
  refine Met.ofW (cc := cX1_turn) (maxL := 1) (ret := (some .int)) (by decide +kernel) rfl ?_
  intro p e s m args below meth c s₁ B hml hv
  obtain ⟨rfl, hsz, hP, hK, hD0⟩ := hv
  have hx := B.exec
  have hb := B.bytes
  have hr := B.returns
  have hts := atoms_spec (ws := wsX1_turn) B.pre
  have hown : s.vm.findClass RX1 = some m.cls := findClass_of_methodNamed B.named
  have hlocks := B.notSynchronized
  subst hsz
  have hD := hD0.self (sz := s.heap.size)
  generalize hAe : va_A (XW a cI cZ cD sh sw ts bi it tu ne pr so lo wt cn lp lz lu lk ld lf lb lw) s.heap.size = A at hD ⊢
  have hA : ∀ q : Nat, s.heap.size ≤ q → A q := fun q h => by rw [← hAe]; exact Or.inr h
  have hS : va_S A s.heap s.heap [] := va_S.rf
  have hl := lv_entry ([.ref (a 0)]) (n := 1) (Nat.le_of_ble_eq_true rfl)
  rw [lg_entry_eq]
  generalize (lg_sl ([.ref (a 0)]) ++ List.replicate (1 - (lg_sl ([.ref (a 0)])).length) Slot.unset).toArray = ls at hl ⊢
  have hl : lv_has ls 1 [(0, .ref (a 0))] := hl
  have inX1 : ∀ w ∈ wsX10, w ∈ wsX1_turn := by decide +kernel
  refine lv_aload_n hx hb dX1_turn_0 rfl (lv_at hl 0 rfl) ?_
  refine va_get (D := D) (ci := 1) (v := .int wt) (C := RX1) (T := TX1) (N := 12) hx hb hts inX1 hown hK hP 0 rfl rfl 9 (by decide) (hts (.fieldLink RX1 46 "GridCommons" "whoseTurn" "I") (by decide +kernel)) (fun _ h9 => h9) rfl dX1_turn_1 ?_
  exact W.iret hx hb hr (fun t ht hW => ⟨_, rfl, rfl, ht⟩) (fun q hq => absurd hq List.not_mem_nil) dX1_turn_4
set_option maxHeartbeats 4000000 in
set_option maxRecDepth 100000 in
theorem mX1_closedV (l : Launch) (D : va_G) (cI cZ cD : ClassId) (a : Nat → Nat) (sz : Nat) (sh sw ts : Nat → Int32) (bi : Nat → UInt64) (it tu : Nat → Int32) (ne : Nat → UInt64) (pr so lo : UInt64) (wt cn : Int32) (lp lz lu : Nat → UInt64) (lk : Nat → Int32) (ld lf lb lw : Nat → UInt64)  : Met l yX1_closed wsX1_closed ({ frames := 0, cells := 0, slots := 0, locals := 0 } : Room) (va_Pc [.ref (a 0)] (XP D cI cZ cD (XW a cI cZ cD sh sw ts bi it tu ne pr so lo wt cn lp lz lu lk ld lf lb lw) sz)) (vp_Si (fun r => r = cn)) 0 0 (fun _ => False) := by
  refine Met.ofW (cc := cX1_closed) (maxL := 1) (ret := (some .int)) (by decide +kernel) rfl ?_
  intro p e s m args below meth c s₁ B hml hv
  obtain ⟨rfl, hsz, hP, hK, hD0⟩ := hv
  have hx := B.exec
  have hb := B.bytes
  have hr := B.returns
  have hts := atoms_spec (ws := wsX1_closed) B.pre
  have hown : s.vm.findClass RX1 = some m.cls := findClass_of_methodNamed B.named
  have hlocks := B.notSynchronized
  subst hsz
  have hD := hD0.self (sz := s.heap.size)
  generalize hAe : va_A (XW a cI cZ cD sh sw ts bi it tu ne pr so lo wt cn lp lz lu lk ld lf lb lw) s.heap.size = A at hD ⊢
  have hA : ∀ q : Nat, s.heap.size ≤ q → A q := fun q h => by rw [← hAe]; exact Or.inr h
  have hS : va_S A s.heap s.heap [] := va_S.rf
  have hl := lv_entry ([.ref (a 0)]) (n := 1) (Nat.le_of_ble_eq_true rfl)
  rw [lg_entry_eq]
  generalize (lg_sl ([.ref (a 0)]) ++ List.replicate (1 - (lg_sl ([.ref (a 0)])).length) Slot.unset).toArray = ls at hl ⊢
  have hl : lv_has ls 1 [(0, .ref (a 0))] := hl
  have inX1 : ∀ w ∈ wsX10, w ∈ wsX1_closed := by decide +kernel
  have inX0 : ∀ w ∈ wsX00, w ∈ wsX1_closed := by decide +kernel
  refine lv_aload_n hx hb dX1_closed_0 rfl (lv_at hl 0 rfl) ?_
  refine va_get (D := D) (ci := 1) (v := .ref (a 8)) (C := RX1) (T := TX1) (N := 12) hx hb hts inX1 hown hK hP 0 rfl rfl 6 (by decide) (hts (.fieldLink RX1 33 "GridCommons" "ledger" "LGridCommons$Ledger;") (by decide +kernel)) (fun _ h9 => h9) rfl dX1_closed_1 ?_
  refine va_get (D := D) (ci := 0) (v := .int cn) (C := RX0) (T := TX0) (N := 9) hx hb hts inX0 hown hK hP 8 rfl rfl 0 (by decide) (hts (.fieldLink RX1 77 "GridCommons$Ledger" "count" "I") (by decide +kernel)) (fun _ h9 => h9) rfl dX1_closed_4 ?_
  exact W.iret hx hb hr (fun t ht hW => ⟨_, rfl, rfl, ht⟩) (fun q hq => absurd hq List.not_mem_nil) dX1_closed_7
