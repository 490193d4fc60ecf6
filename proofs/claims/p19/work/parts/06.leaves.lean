/-! LEAVES: static methods without a world -/
def bI (c : Prop) [Decidable c] : Int32 := if c then 1 else 0
theorem bI_t {c : Prop} [Decidable c] (h : c) : bI c = 1 := if_pos h
theorem bI_f {c : Prop} [Decidable c] (h : ¬ c) : bI c = 0 := if_neg h
theorem bI_nar (c : Prop) [Decidable c] : narrow .boolean (.int (bI c)) = .int (bI c) := by
  unfold bI
  by_cases h : c
  · rw [if_pos h]; rfl
  · rw [if_neg h]; rfl
theorem bI_vn (c : Prop) [Decidable c] : vp_nar .boolean (bI c) = bI c := by
  unfold bI
  by_cases h : c
  · rw [if_pos h]; rfl
  · rw [if_neg h]; rfl
theorem bI_0 {c : Prop} [Decidable c] : bI c = 0 ↔ ¬ c := by
  unfold bI
  by_cases h : c
  · rw [if_pos h]; exact ⟨fun e => absurd e (by decide), fun e => absurd h e⟩
  · rw [if_neg h]; exact ⟨fun _ => h, fun _ => rfl⟩
theorem fm_x : ∀ x, x < 6 → 0 ≤ nI x ^^^ nI 5 := by decide
set_option maxHeartbeats 4000000 in
set_option maxRecDepth 100000 in
theorem mX0_slot (l : Launch) (o q : Nat)  : Met l yX0_slot wsX0_slot ({ frames := 0, cells := 0, slots := 0, locals := 0 } : Room) (va_Pc [.int (nI o), .int (nI q)] (fun _ => True)) (vp_Si (fun r => r = nI (5 * q + o))) 0 0 (fun _ => False) := by
  refine Met.ofW (cc := cX0_slot) (maxL := 2) (ret := (some .int)) (by decide +kernel) rfl ?_
  intro p e s m args below meth c s₁ B hml hv
  obtain ⟨rfl, -⟩ := hv
  have hx := B.exec
  have hb := B.bytes
  have hr := B.returns
  have hts := atoms_spec (ws := wsX0_slot) B.pre
  have hown : s.vm.findClass RX0 = some m.cls := findClass_of_methodNamed B.named
  have hlocks := B.notSynchronized
  have hl := lv_entry ([.int (nI o), .int (nI q)]) (n := 2) (Nat.le_of_ble_eq_true rfl)
  rw [lg_entry_eq]
  generalize (lg_sl ([.int (nI o), .int (nI q)]) ++ List.replicate (2 - (lg_sl ([.int (nI o), .int (nI q)])).length) Slot.unset).toArray = ls at hl ⊢
  have hl : lv_has ls 2 [(0, .int (nI o)), (1, .int (nI q))] := hl
  refine lv_iload_n hx hb dX0_slot_0 rfl (lv_at hl 1 rfl) ?_
  refine lv_iconst (v := nI 5) hx hb dX0_slot_1 (by decide) ?_
  refine lv_imul hx hb dX0_slot_2 ?_
  refine lv_iload_n hx hb dX0_slot_3 rfl (lv_at hl 0 rfl) ?_
  refine lv_iadd hx hb dX0_slot_4 ?_
  refine xk_i (y := nI (5 * q + o)) (by rw [show (nI 5 : Int32) = nI 5 from rfl, pk_mul, nI_add, Nat.mul_comm]) ?_
  exact W.iret hx hb hr (fun t ht hW => ⟨_, rfl, rfl, ht⟩) (fun q hq => absurd hq List.not_mem_nil) dX0_slot_5
set_option maxHeartbeats 4000000 in
set_option maxRecDepth 100000 in
theorem mX1_lesser (l : Launch) (x y : UInt64)  : Met l yX1_lesser wsX1_lesser ({ frames := 0, cells := 0, slots := 0, locals := 0 } : Room) (va_Pc [.double x, .double y] (fun _ => True)) (vp_Sd (fun r => dt r = dMin (dt x) (dt y))) 0 0 (fun _ => False) := by
  refine Met.ofW (cc := cX1_lesser) (maxL := 4) (ret := (some .double)) (by decide +kernel) rfl ?_
  intro p e s m args below meth c s₁ B hml hv
  obtain ⟨rfl, -⟩ := hv
  have hx := B.exec
  have hb := B.bytes
  have hr := B.returns
  have hts := atoms_spec (ws := wsX1_lesser) B.pre
  have hown : s.vm.findClass RX1 = some m.cls := findClass_of_methodNamed B.named
  have hlocks := B.notSynchronized
  have hl := lv_entry ([.double x, .double y]) (n := 4) (Nat.le_of_ble_eq_true rfl)
  rw [lg_entry_eq]
  generalize (lg_sl ([.double x, .double y]) ++ List.replicate (4 - (lg_sl ([.double x, .double y])).length) Slot.unset).toArray = ls at hl ⊢
  have hl : lv_has ls 4 [(0, .double x), (2, .double y)] := hl
  refine lv_dload_n hx hb dX1_lesser_0 rfl (lv_at hl 0 rfl) ?_
  refine lv_dload_n hx hb dX1_lesser_1 rfl (lv_at hl 1 rfl) ?_
  refine lv_dcmp hx hb dX1_lesser_2 ?_
  refine lv_if_ge (tgt := 10) hx hb dX1_lesser_3 (by decide) (fun c => ?_) (fun c => ?_)
  · skip
    have c' : ¬ dCmp (dt x) (dt y) = some .lt := (cv_g_ge _).mp c
    refine lv_dload_n hx hb dX1_lesser_10 rfl (lv_at hl 1 rfl) ?_
    have e9 : dt y = dMin (dt x) (dt y) := by unfold dMin; rw [if_neg c']
    exact W.dret hx hb hr (fun t ht hW => ⟨_, rfl, e9, ht⟩) (fun q hq => absurd hq List.not_mem_nil) dX1_lesser_11
  · skip
    have c' : dCmp (dt x) (dt y) = some .lt := Decidable.of_not_not (fun q => c ((cv_g_ge _).mpr q))
    refine lv_dload_n hx hb dX1_lesser_6 rfl (lv_at hl 0 rfl) ?_
    refine lv_goto (tgt := 11) hx hb dX1_lesser_7 (by decide) ?_
    have e9 : dt x = dMin (dt x) (dt y) := by unfold dMin; rw [if_pos c']
    exact W.dret hx hb hr (fun t ht hW => ⟨_, rfl, e9, ht⟩) (fun q hq => absurd hq List.not_mem_nil) dX1_lesser_11
set_option maxHeartbeats 4000000 in
set_option maxRecDepth 100000 in
theorem mJ9_floorMod_7cf53 (l : Launch) (x : Nat) (hx5 : x < 6) : Met l yJ9_floorMod_7cf53 wsJ9_floorMod_7cf53 ({ frames := 0, cells := 0, slots := 0, locals := 0 } : Room) (va_Pc [.int (nI x), .int (nI 5)] (fun _ => True)) (vp_Si (fun r => r = nI (x % 5))) 0 0 (fun _ => False) := by
  refine va_MetF (cc := cJ9_floorMod_7cf53) (maxL := 3) (ret := (some .int)) (by decide +kernel) rfl ?_
  intro p e s m args below meth c s₁ B hml hv
  obtain ⟨rfl, -⟩ := hv
  have hx := B.exec
  have hb := B.bytes
  have hr := B.returns
  have hts := atoms_spec (ws := wsJ9_floorMod_7cf53) B.pre
  have hown : s.vm.findClass RJ9 = some m.cls := findClass_of_methodNamed B.named
  have hlocks := B.notSynchronized
  have hl := lv_entry ([.int (nI x), .int (nI 5)]) (n := 3) (Nat.le_of_ble_eq_true rfl)
  rw [lg_entry_eq]
  generalize (lg_sl ([.int (nI x), .int (nI 5)]) ++ List.replicate (3 - (lg_sl ([.int (nI x), .int (nI 5)])).length) Slot.unset).toArray = ls at hl ⊢
  have hl : lv_has ls 3 [(0, .int (nI x)), (1, .int (nI 5))] := hl
  refine lv_iload_n hx hb dJ9_floorMod_7cf53_0 rfl (lv_at hl 0 rfl) ?_
  refine lv_iload_n hx hb dJ9_floorMod_7cf53_1 rfl (lv_at hl 1 rfl) ?_
  refine lv_irem hx hb dJ9_floorMod_7cf53_2 (by decide) ?_
  refine xk_i (y := nI (x % 5)) (pk_rem (by omega) (by omega) (by omega)) ?_
  refine lv_istore_n (lv' := [(2, .int (nI (x % 5))), (0, .int (nI x)), (1, .int (nI 5))]) hx hb dJ9_floorMod_7cf53_3 rfl hl (by decide) rfl (fun ls hl => ?_)
  refine lv_iload_n hx hb dJ9_floorMod_7cf53_4 rfl (lv_at hl 1 rfl) ?_
  refine lv_iload_n hx hb dJ9_floorMod_7cf53_5 rfl (lv_at hl 2 rfl) ?_
  refine lv_ixor hx hb dJ9_floorMod_7cf53_6 ?_
  refine lv_if_ge (tgt := 18) hx hb dJ9_floorMod_7cf53_7 (by decide) (fun c => ?_) (fun c => ?_)
  · skip
    refine lv_iload_n hx hb dJ9_floorMod_7cf53_18 rfl (lv_at hl 0 rfl) ?_
    exact W.iret hx hb hr (fun t ht hW => ⟨_, rfl, rfl, ht⟩) (fun q hq => absurd hq List.not_mem_nil) dJ9_floorMod_7cf53_19
  · skip
    exact absurd (fm_x x hx5) c
set_option maxHeartbeats 4000000 in
set_option maxRecDepth 100000 in
theorem mX1_behind (l : Launch) (o : Nat) (ho : o < 5) : Met l yX1_behind wsX1_behind ({ frames := 1, cells := 0, slots := 0, locals := 22 } : Room) (va_Pc [.int (nI o)] (fun _ => True)) (vp_Si (fun r => r = nI ((o + 1) % 5))) 0 0 (fun _ => False) := by
  refine Met.ofW (cc := cX1_behind) (maxL := 1) (ret := (some .int)) (by decide +kernel) rfl ?_
  intro p e s m args below meth c s₁ B hml hv
  obtain ⟨rfl, -⟩ := hv
  have hx := B.exec
  have hb := B.bytes
  have hr := B.returns
  have hts := atoms_spec (ws := wsX1_behind) B.pre
  have hown : s.vm.findClass RX1 = some m.cls := findClass_of_methodNamed B.named
  have hlocks := B.notSynchronized
  have hl := lv_entry ([.int (nI o)]) (n := 1) (Nat.le_of_ble_eq_true rfl)
  rw [lg_entry_eq]
  generalize (lg_sl ([.int (nI o)]) ++ List.replicate (1 - (lg_sl ([.int (nI o)])).length) Slot.unset).toArray = ls at hl ⊢
  have hl : lv_has ls 1 [(0, .int (nI o))] := hl
  refine lv_iload_n hx hb dX1_behind_0 rfl (lv_at hl 0 rfl) ?_
  refine lv_iconst (v := nI 1) hx hb dX1_behind_1 (by decide) ?_
  refine lv_iadd hx hb dX1_behind_2 ?_
  refine xk_i (y := nI (o + 1)) (nI_1 o) ?_
  refine lv_iconst (v := nI 5) hx hb dX1_behind_3 (by decide) ?_
  refine vp_callSi (va_Run.run (va_runS (As := [.int (nI (o + 1)), .int (nI 5)]) (rest := []) ⟨hx, hb, hml, hown, hts⟩ (mJ9_floorMod_7cf53 l (o + 1) (by omega)) (va_cwS 2 hts gX1_behind_J9_floorMod_7cf53 rfl rfl rfl (by decide +kernel) ⟨Nat.le_of_ble_eq_true rfl, Nat.le_of_ble_eq_true rfl⟩) ⟨fun a U g mk q => q, fun U hU hW => ⟨rfl, trivial⟩⟩ rfl rfl hl.1 rfl (lv_room (Nat.le_of_ble_eq_true rfl)) dX1_behind_4 ⟨Nat.le_of_ble_eq_true rfl, Nat.le_of_ble_eq_true rfl⟩)) (fun r hr1 => ?_)
  exact W.iret hx hb hr (fun t ht hW => ⟨_, rfl, hr1, ht⟩) (fun q hq => absurd hq List.not_mem_nil) dX1_behind_7
