/-! GridCommons: what only reads -/
theorem nI_nm1 : ∀ j, j < 5 → ¬ nI j = -1 := by decide
set_option maxHeartbeats 4000000 in
set_option maxRecDepth 100000 in
theorem mX1_sumOfNeeds (l : Launch) (D : va_G) (cI cZ cD : ClassId) (a : Nat → Nat) (sz : Nat) (sh sw ts : Nat → Int32) (bi : Nat → UInt64) (it tu : Nat → Int32) (ne : Nat → UInt64) (pr so lo : UInt64) (wt cn : Int32) (lp lz lu : Nat → UInt64) (lk : Nat → Int32) (ld lf lb lw : Nat → UInt64) (V : Nat → Dm) (hV : is5 ne V) : MetD lw_cs l yX1_sumOfNeeds wsX1_sumOfNeeds ({ frames := 0, cells := 0, slots := 0, locals := 0 } : Room) (va_Pc [.ref (a 0)] (XP D cI cZ cD (XW a cI cZ cD sh sw ts bi it tu ne pr so lo wt cn lp lz lu lk ld lf lb lw) sz)) (va_Qd (fun (r : UInt64) (u : Unit) => dt r = sumD V 5) (fun (u : Unit) t => XB D cI cZ cD (XW a cI cZ cD sh sw ts bi it tu ne pr so lo wt cn lp lz lu lk ld lf lb lw) (va_A (XW a cI cZ cD sh sw ts bi it tu ne pr so lo wt cn lp lz lu lk ld lf lb lw) sz) t) (va_A (XW a cI cZ cD sh sw ts bi it tu ne pr so lo wt cn lp lz lu lk ld lf lb lw) sz)) 0 0 (va_A (XW a cI cZ cD sh sw ts bi it tu ne pr so lo wt cn lp lz lu lk ld lf lb lw) sz) := by
  refine MetD.ofW (cc := cX1_sumOfNeeds) (maxL := 4) (ret := (some .double)) (by decide +kernel) rfl ?_
  intro p e s m args below meth c s₁ B hml hv hd0
  obtain ⟨rfl, hsz, hP, hK, hD0⟩ := hv
  have hx := B.exec
  have hb := B.bytes
  have hr := B.returns
  have hts := atoms_spec (ws := wsX1_sumOfNeeds) B.pre
  have hown : s.vm.findClass RX1 = some m.cls := findClass_of_methodNamed B.named
  have hlocks := B.notSynchronized
  subst hsz
  have hD := hD0.self (sz := s.heap.size)
  generalize hAe : va_A (XW a cI cZ cD sh sw ts bi it tu ne pr so lo wt cn lp lz lu lk ld lf lb lw) s.heap.size = A at hD ⊢
  have hA : ∀ q : Nat, s.heap.size ≤ q → A q := fun q h => by rw [← hAe]; exact Or.inr h
  have hS : va_S A s.heap s.heap [] := va_S.rf
  have hl := lv_entry ([.ref (a 0)]) (n := 4) (Nat.le_of_ble_eq_true rfl)
  rw [lg_entry_eq]
  generalize (lg_sl ([.ref (a 0)]) ++ List.replicate (4 - (lg_sl ([.ref (a 0)])).length) Slot.unset).toArray = ls at hl ⊢
  have hl : lv_has ls 4 [(0, .ref (a 0))] := hl
  have inX1 : ∀ w ∈ wsX10, w ∈ wsX1_sumOfNeeds := by decide +kernel
  refine lv_dconst0 hx hb dX1_sumOfNeeds_0 ?_
  refine lv_dstore_n (lv' := [(1, .double FP.dconst0), (0, .ref (a 0))]) hx hb dX1_sumOfNeeds_1 rfl hl (by decide) rfl (fun ls hl => ?_)
  refine lv_iconst (v := nI 0) hx hb dX1_sumOfNeeds_2 (by decide) ?_
  refine lv_istore_n (lv' := [(3, .int (nI 0)), (1, .double FP.dconst0), (0, .ref (a 0))]) hx hb dX1_sumOfNeeds_3 rfl hl (by decide) rfl (fun ls hl => ?_)
  refine xk_loop (fun i H locs ls d => ∃ (x : UInt64), (dt x = sumD V i) ∧ (va_P D vwCl (XW a cI cZ cD sh sw ts bi it tu ne pr so lo wt cn lp lz lu lk ld lf lb lw) H) ∧ (va_D A (XW a cI cZ cD sh sw ts bi it tu ne pr so lo wt cn lp lz lu lk ld lf lb lw)) ∧ (va_S A s.heap H locs) ∧ (s.drawn.sameBut d lw_cs) ∧ (lv_has ls 4 [(0, .ref (a 0)), (1, .double x), (3, .int (nI i))])) 5 ?_ (i := 0) (Nat.zero_le _) ⟨FP.dconst0, rfl, hP, hD, hS, hd0, lv_sub hl [2, 1, 0] rfl⟩
  intro i H locs ls d hi hI next
  obtain ⟨x, hq0, hP, hD, hS, hdl, hl⟩ := hI
  refine lv_iload_n hx hb dX1_sumOfNeeds_4 rfl (lv_at hl 2 rfl) ?_
  refine lv_iconst (v := nI 5) hx hb dX1_sumOfNeeds_5 (by decide) ?_
  refine lv_icmp_ge (tgt := 24) hx hb dX1_sumOfNeeds_6 (by decide) (fun c => ?_) (fun c => ?_)
  · skip
    obtain rfl := xk_ge hi (by decide) c
    refine lv_dload_n hx hb dX1_sumOfNeeds_24 rfl (lv_at hl 1 rfl) ?_
    refine W.endD hdl ?_
    exact W.dret hx hb hr (fun t ht hW => ⟨⟨_, (), rfl, hq0, by rw [ht]; exact hP, va_K.moved hW.alike (xk_Kd hK), hD⟩, hS.F ht⟩) hS.2.2 dX1_sumOfNeeds_25
  · skip
    have hlt := xk_nge hi (by decide) c
    refine lv_dload_n hx hb dX1_sumOfNeeds_9 rfl (lv_at hl 1 rfl) ?_
    refine lv_aload_n hx hb dX1_sumOfNeeds_10 rfl (lv_at hl 0 rfl) ?_
    refine va_get (D := D) (ci := 1) (v := .ref (a 7)) (C := RX1) (T := TX1) (N := 12) hx hb (dr_words hts _) inX1 (xk_od hown) (xk_Kd hK) hP 0 rfl rfl 10 (by decide) (dr_words hts _ (.fieldLink RX1 50 "GridCommons" "needs" "[D") (by decide +kernel)) (fun _ h9 => h9) rfl dX1_sumOfNeeds_11 ?_
    refine lv_iload_n hx hb dX1_sumOfNeeds_14 rfl (lv_at hl 2 rfl) ?_
    refine xk_dald hx hb (xk_Kd hK) hP 7 2 rfl rfl (o := i) (by omega) (by decide) dX1_sumOfNeeds_15 ?_
    refine lv_dadd_any hdl lw_bits hx hb dX1_sumOfNeeds_16 (fun r1 _ hal hd2 => ?_)
    have er1 := dt_add hal
    refine lv_dstore_n (lv' := [(1, .double r1), (0, .ref (a 0)), (3, .int (nI i))]) hx hb dX1_sumOfNeeds_17 rfl hl (by decide) rfl (fun ls hl => ?_)
    refine lv_iinc (v := nI (i + 1)) (lv' := [(3, .int (nI (i + 1))), (1, .double r1), (0, .ref (a 0))]) hx hb dX1_sumOfNeeds_18 hl (k := 2) rfl (nI_1 i) (by decide) rfl (fun ls hl => ?_)
    refine lv_goto (tgt := 4) hx hb dX1_sumOfNeeds_21 (by decide) ?_
    exact next _ _ _ _ hlt ⟨r1, (by rw [er1, hq0, hV i hlt]; rfl), hP, hD, hS, hd2, lv_sub hl [2, 1, 0] rfl⟩
set_option maxHeartbeats 4000000 in
set_option maxRecDepth 100000 in
theorem mX1_isOverLine (l : Launch) (D : va_G) (cI cZ cD : ClassId) (a : Nat → Nat) (sz : Nat) (sh sw ts : Nat → Int32) (bi : Nat → UInt64) (it tu : Nat → Int32) (ne : Nat → UInt64) (pr so lo : UInt64) (wt cn : Int32) (lp lz lu : Nat → UInt64) (lk : Nat → Int32) (ld lf lb lw : Nat → UInt64) (V : Nat → Dm) (hV : is5 ne V) : MetD lw_cs l yX1_isOverLine wsX1_isOverLine ({ frames := 1, cells := 0, slots := 0, locals := 23 } : Room) (va_Pc [.ref (a 0)] (XP D cI cZ cD (XW a cI cZ cD sh sw ts bi it tu ne pr so lo wt cn lp lz lu lk ld lf lb lw) sz)) (va_Qi (fun (r : Int32) (u : Unit) => r = bI (over V)) (fun (u : Unit) t => XB D cI cZ cD (XW a cI cZ cD sh sw ts bi it tu ne pr so lo wt cn lp lz lu lk ld lf lb lw) (va_A (XW a cI cZ cD sh sw ts bi it tu ne pr so lo wt cn lp lz lu lk ld lf lb lw) sz) t) (va_A (XW a cI cZ cD sh sw ts bi it tu ne pr so lo wt cn lp lz lu lk ld lf lb lw) sz)) 0 0 (va_A (XW a cI cZ cD sh sw ts bi it tu ne pr so lo wt cn lp lz lu lk ld lf lb lw) sz) := by
  refine MetD.ofW (cc := cX1_isOverLine) (maxL := 1) (ret := (some .boolean)) (by decide +kernel) rfl ?_
  intro p e s m args below meth c s₁ B hml hv hd0
  obtain ⟨rfl, hsz, hP, hK, hD0⟩ := hv
  have hx := B.exec
  have hb := B.bytes
  have hr := B.returns
  have hts := atoms_spec (ws := wsX1_isOverLine) B.pre
  have hown : s.vm.findClass RX1 = some m.cls := findClass_of_methodNamed B.named
  have hlocks := B.notSynchronized
  subst hsz
  have hD := hD0.self (sz := s.heap.size)
  generalize hAe : va_A (XW a cI cZ cD sh sw ts bi it tu ne pr so lo wt cn lp lz lu lk ld lf lb lw) s.heap.size = A at hD ⊢
  have hA : ∀ q : Nat, s.heap.size ≤ q → A q := fun q h => by rw [← hAe]; exact Or.inr h
  have hS : va_S A s.heap s.heap [] := va_S.rf
  have hl := lv_entry ([.ref (a 0)]) (n := 1) (Nat.le_of_ble_eq_true rfl)
  rw [lg_entry_eq]
  generalize (lg_sl ([.ref (a 0)]) ++ List.replicate (1 - (lg_sl ([.ref (a 0)])).length) Slot.unset).toArray = ls at hl ⊢
  have hl : lv_has ls 1 [(0, .ref (a 0))] := hl
  refine lv_aload_n hx hb dX1_isOverLine_0 rfl (lv_at hl 0 rfl) ?_
  have hFc := va_free (wc := XW a cI cZ cD sh sw ts bi it tu ne pr so lo wt cn lp lz lu lk ld lf lb lw) hD hS hA [0, 1, 2, 3, 4, 5, 6, 7, 8, 9, 10, 11, 12, 13, 14, 15, 16] rfl
  refine va_calldD hd0 (va_runV_D (As := []) (rest := []) ⟨hx, hb, hml, (xk_od hown), (dr_words hts _)⟩ (mX1_sumOfNeeds l D cI cZ cD a _ sh sw ts bi it tu ne pr so lo wt cn lp lz lu lk ld lf lb lw V hV) (cwV 0 (dr_words hts _) gX1_isOverLine_X1_sumOfNeeds rfl rfl rfl (by decide +kernel) ⟨Nat.le_of_ble_eq_true rfl, Nat.le_of_ble_eq_true rfl⟩) ⟨xk_blind, va_recv (xk_Kd hK) hP (ci := 1) (q0 := 0) rfl rfl, xk_pre hP (xk_Kd hK) hD⟩ rfl rfl hl.1 rfl (lv_room (Nat.le_of_ble_eq_true rfl)) dX1_isOverLine_1 ⟨Nat.le_of_ble_eq_true rfl, Nat.le_of_ble_eq_true rfl⟩) hS (fun q _ h => hFc q h) hFc (fun r u t H locs ht hvm hw hB hz1 hk1 hS _ hd1 => ?_)
  obtain ⟨hP, -, hD1⟩ := hB
  rw [ht] at hP
  have hD := hD1.weaken (B := A) (fun _ _ _ h => hFc _ h)
  have hP : va_P D vwCl (XW a cI cZ cD sh sw ts bi it tu ne pr so lo wt cn lp lz lu lk ld lf lb lw) H := hP
  have hD : va_D A (XW a cI cZ cD sh sw ts bi it tu ne pr so lo wt cn lp lz lu lk ld lf lb lw) := hD
  refine lv_ldc2d hx hb (xk_od hown) (dr_words hts _ (.constantDouble RX1 169 4636737291354636288) (by decide +kernel)) dX1_isOverLine_4 ?_
  refine lv_dcmp hx hb dX1_isOverLine_7 ?_
  refine lv_if_le (tgt := 15) hx hb dX1_isOverLine_8 (by decide) (fun c => ?_) (fun c => ?_)
  · skip
    refine lv_iconst (v := nI 0) hx hb dX1_isOverLine_15 (by decide) ?_
    have e9 : (nI 0 : Int32) = bI (over V) := (bI_f (fun q => (cv_l_le _).mp c (show dCmp (dt r) d100 = some .gt by rw [hw]; exact q))).symm
    refine W.endD hd1 ?_
    exact W.zret hx hb hr rfl (fun t ht hW => ⟨⟨_, (), rfl, e9, by rw [ht]; exact hP, va_K.moved hW.alike (xk_Kd hK), hD⟩, hS.F ht⟩) hS.2.2 dX1_isOverLine_16
  · skip
    refine lv_iconst (v := nI 1) hx hb dX1_isOverLine_11 (by decide) ?_
    refine lv_goto (tgt := 16) hx hb dX1_isOverLine_12 (by decide) ?_
    have e9 : (nI 1 : Int32) = bI (over V) := (bI_t (by have q := Decidable.of_not_not (fun q => c ((cv_l_le _).mpr q)); have q2 : dCmp (dt r) d100 = some .gt := q; rw [hw] at q2; exact q2)).symm
    refine W.endD hd1 ?_
    exact W.zret hx hb hr rfl (fun t ht hW => ⟨⟨_, (), rfl, e9, by rw [ht]; exact hP, va_K.moved hW.alike (xk_Kd hK), hD⟩, hS.F ht⟩) hS.2.2 dX1_isOverLine_16
set_option maxHeartbeats 4000000 in
set_option maxRecDepth 100000 in
theorem mX1_sumOfShares (l : Launch) (D : va_G) (cI cZ cD : ClassId) (a : Nat → Nat) (sz : Nat) (sh sw ts : Nat → Int32) (bi : Nat → UInt64) (it tu : Nat → Int32) (ne : Nat → UInt64) (pr so lo : UInt64) (wt cn : Int32) (lp lz lu : Nat → UInt64) (lk : Nat → Int32) (ld lf lb lw : Nat → UInt64)  : Met l yX1_sumOfShares wsX1_sumOfShares ({ frames := 0, cells := 0, slots := 0, locals := 0 } : Room) (va_Pc [.ref (a 0)] (XP D cI cZ cD (XW a cI cZ cD sh sw ts bi it tu ne pr so lo wt cn lp lz lu lk ld lf lb lw) sz)) (va_Qi (fun (r : Int32) (u : Unit) => r = sumI sh 5) (fun (u : Unit) t => XB D cI cZ cD (XW a cI cZ cD sh sw ts bi it tu ne pr so lo wt cn lp lz lu lk ld lf lb lw) (va_A (XW a cI cZ cD sh sw ts bi it tu ne pr so lo wt cn lp lz lu lk ld lf lb lw) sz) t) (va_A (XW a cI cZ cD sh sw ts bi it tu ne pr so lo wt cn lp lz lu lk ld lf lb lw) sz)) 0 0 (va_A (XW a cI cZ cD sh sw ts bi it tu ne pr so lo wt cn lp lz lu lk ld lf lb lw) sz) := by
  refine Met.ofW (cc := cX1_sumOfShares) (maxL := 3) (ret := (some .int)) (by decide +kernel) rfl ?_
  intro p e s m args below meth c s₁ B hml hv
  obtain ⟨rfl, hsz, hP, hK, hD0⟩ := hv
  have hx := B.exec
  have hb := B.bytes
  have hr := B.returns
  have hts := atoms_spec (ws := wsX1_sumOfShares) B.pre
  have hown : s.vm.findClass RX1 = some m.cls := findClass_of_methodNamed B.named
  have hlocks := B.notSynchronized
  subst hsz
  have hD := hD0.self (sz := s.heap.size)
  generalize hAe : va_A (XW a cI cZ cD sh sw ts bi it tu ne pr so lo wt cn lp lz lu lk ld lf lb lw) s.heap.size = A at hD ⊢
  have hA : ∀ q : Nat, s.heap.size ≤ q → A q := fun q h => by rw [← hAe]; exact Or.inr h
  have hS : va_S A s.heap s.heap [] := va_S.rf
  have hl := lv_entry ([.ref (a 0)]) (n := 3) (Nat.le_of_ble_eq_true rfl)
  rw [lg_entry_eq]
  generalize (lg_sl ([.ref (a 0)]) ++ List.replicate (3 - (lg_sl ([.ref (a 0)])).length) Slot.unset).toArray = ls at hl ⊢
  have hl : lv_has ls 3 [(0, .ref (a 0))] := hl
  have inX1 : ∀ w ∈ wsX10, w ∈ wsX1_sumOfShares := by decide +kernel
  refine lv_iconst (v := nI 0) hx hb dX1_sumOfShares_0 (by decide) ?_
  refine lv_istore_n (lv' := [(1, .int (nI 0)), (0, .ref (a 0))]) hx hb dX1_sumOfShares_1 rfl hl (by decide) rfl (fun ls hl => ?_)
  refine lv_iconst (v := nI 0) hx hb dX1_sumOfShares_2 (by decide) ?_
  refine lv_istore_n (lv' := [(2, .int (nI 0)), (1, .int (nI 0)), (0, .ref (a 0))]) hx hb dX1_sumOfShares_3 rfl hl (by decide) rfl (fun ls hl => ?_)
  refine xk_loopP (fun i H locs ls => (va_P D vwCl (XW a cI cZ cD sh sw ts bi it tu ne pr so lo wt cn lp lz lu lk ld lf lb lw) H) ∧ (va_D A (XW a cI cZ cD sh sw ts bi it tu ne pr so lo wt cn lp lz lu lk ld lf lb lw)) ∧ (va_S A s.heap H locs) ∧ (lv_has ls 3 [(0, .ref (a 0)), (1, .int (sumI sh i)), (2, .int (nI i))])) 5 ?_ (i := 0) (Nat.zero_le _) ⟨hP, hD, hS, lv_sub hl [2, 1, 0] rfl⟩
  intro i H locs ls hi hI next
  obtain ⟨hP, hD, hS, hl⟩ := hI
  refine lv_iload_n hx hb dX1_sumOfShares_4 rfl (lv_at hl 2 rfl) ?_
  refine lv_iconst (v := nI 5) hx hb dX1_sumOfShares_5 (by decide) ?_
  refine lv_icmp_ge (tgt := 24) hx hb dX1_sumOfShares_6 (by decide) (fun c => ?_) (fun c => ?_)
  · skip
    obtain rfl := xk_ge hi (by decide) c
    refine lv_iload_n hx hb dX1_sumOfShares_24 rfl (lv_at hl 1 rfl) ?_
    exact W.iret hx hb hr (fun t ht hW => ⟨⟨_, (), rfl, rfl, by rw [ht]; exact hP, va_K.moved hW.alike hK, hD⟩, hS.F ht⟩) hS.2.2 dX1_sumOfShares_25
  · skip
    have hlt := xk_nge hi (by decide) c
    refine lv_iload_n hx hb dX1_sumOfShares_9 rfl (lv_at hl 1 rfl) ?_
    refine lv_aload_n hx hb dX1_sumOfShares_10 rfl (lv_at hl 0 rfl) ?_
    refine va_get (D := D) (ci := 1) (v := .ref (a 1)) (C := RX1) (T := TX1) (N := 12) hx hb hts inX1 hown hK hP 0 rfl rfl 0 (by decide) (hts (.fieldLink RX1 9 "GridCommons" "shares" "[I") (by decide +kernel)) (fun _ h9 => h9) rfl dX1_sumOfShares_11 ?_
    refine lv_iload_n hx hb dX1_sumOfShares_14 rfl (lv_at hl 2 rfl) ?_
    refine xk_iald hx hb hK hP 1 0 rfl rfl (o := i) (by omega) (by decide) dX1_sumOfShares_15 ?_
    refine lv_iadd hx hb dX1_sumOfShares_16 ?_
    refine lv_istore_n (lv' := [(1, .int ((sumI sh i) + (sh i))), (0, .ref (a 0)), (2, .int (nI i))]) hx hb dX1_sumOfShares_17 rfl hl (by decide) rfl (fun ls hl => ?_)
    refine lv_iinc (v := nI (i + 1)) (lv' := [(2, .int (nI (i + 1))), (1, .int ((sumI sh i) + (sh i))), (0, .ref (a 0))]) hx hb dX1_sumOfShares_18 hl (k := 2) rfl (nI_1 i) (by decide) rfl (fun ls hl => ?_)
    refine lv_goto (tgt := 4) hx hb dX1_sumOfShares_21 (by decide) ?_
    exact next _ _ _ hlt ⟨hP, hD, hS, lv_sub hl [2, 1, 0] rfl⟩
set_option maxHeartbeats 4000000 in
set_option maxRecDepth 100000 in
theorem mX1_nextToShed (l : Launch) (D : va_G) (cI cZ cD : ClassId) (a : Nat → Nat) (sz : Nat) (sh sw ts : Nat → Int32) (bi : Nat → UInt64) (it tu : Nat → Int32) (ne : Nat → UInt64) (pr so lo : UInt64) (wt cn : Int32) (lp lz lu : Nat → UInt64) (lk : Nat → Int32) (ld lf lb lw : Nat → UInt64) (V : Nat → Dm) (hV : is5 ne V) : Met l yX1_nextToShed wsX1_nextToShed ({ frames := 0, cells := 0, slots := 0, locals := 0 } : Room) (va_Pc [.ref (a 0)] (XP D cI cZ cD (XW a cI cZ cD sh sw ts bi it tu ne pr so lo wt cn lp lz lu lk ld lf lb lw) sz)) (va_Qi (fun (r : Int32) (u : Unit) => r = oi (nx sw ts V 5)) (fun (u : Unit) t => XB D cI cZ cD (XW a cI cZ cD sh sw ts bi it tu ne pr so lo wt cn lp lz lu lk ld lf lb lw) (va_A (XW a cI cZ cD sh sw ts bi it tu ne pr so lo wt cn lp lz lu lk ld lf lb lw) sz) t) (va_A (XW a cI cZ cD sh sw ts bi it tu ne pr so lo wt cn lp lz lu lk ld lf lb lw) sz)) 0 0 (va_A (XW a cI cZ cD sh sw ts bi it tu ne pr so lo wt cn lp lz lu lk ld lf lb lw) sz) := by
  refine Met.ofW (cc := cX1_nextToShed) (maxL := 4) (ret := (some .int)) (by decide +kernel) rfl ?_
  intro p e s m args below meth c s₁ B hml hv
  obtain ⟨rfl, hsz, hP, hK, hD0⟩ := hv
  have hx := B.exec
  have hb := B.bytes
  have hr := B.returns
  have hts := atoms_spec (ws := wsX1_nextToShed) B.pre
  have hown : s.vm.findClass RX1 = some m.cls := findClass_of_methodNamed B.named
  have hlocks := B.notSynchronized
  subst hsz
  have hD := hD0.self (sz := s.heap.size)
  generalize hAe : va_A (XW a cI cZ cD sh sw ts bi it tu ne pr so lo wt cn lp lz lu lk ld lf lb lw) s.heap.size = A at hD ⊢
  have hA : ∀ q : Nat, s.heap.size ≤ q → A q := fun q h => by rw [← hAe]; exact Or.inr h
  have hS : va_S A s.heap s.heap [] := va_S.rf
  have hl := lv_entry ([.ref (a 0)]) (n := 4) (Nat.le_of_ble_eq_true rfl)
  rw [lg_entry_eq]
  generalize (lg_sl ([.ref (a 0)]) ++ List.replicate (4 - (lg_sl ([.ref (a 0)])).length) Slot.unset).toArray = ls at hl ⊢
  have hl : lv_has ls 4 [(0, .ref (a 0))] := hl
  have inX1 : ∀ w ∈ wsX10, w ∈ wsX1_nextToShed := by decide +kernel
  refine lv_iconst (v := (-1)) hx hb dX1_nextToShed_0 (by decide) ?_
  refine lv_istore_n (lv' := [(1, .int (-1)), (0, .ref (a 0))]) hx hb dX1_nextToShed_1 rfl hl (by decide) rfl (fun ls hl => ?_)
  refine lv_iconst (v := nI 0) hx hb dX1_nextToShed_2 (by decide) ?_
  refine lv_istore_n (lv' := [(2, .int (nI 0)), (1, .int (-1)), (0, .ref (a 0))]) hx hb dX1_nextToShed_3 rfl hl (by decide) rfl (fun ls hl => ?_)
  refine xk_loopP (fun i H locs ls => (va_P D vwCl (XW a cI cZ cD sh sw ts bi it tu ne pr so lo wt cn lp lz lu lk ld lf lb lw) H) ∧ (va_D A (XW a cI cZ cD sh sw ts bi it tu ne pr so lo wt cn lp lz lu lk ld lf lb lw)) ∧ (va_S A s.heap H locs) ∧ (lv_has ls 4 [(0, .ref (a 0)), (1, .int (oi (nx sw ts V i))), (2, .int (nI i))])) 5 ?_ (i := 0) (Nat.zero_le _) ⟨hP, hD, hS, lv_sub hl [2, 1, 0] rfl⟩
  intro i H locs ls hi hI next
  obtain ⟨hP, hD, hS, hl⟩ := hI
  refine lv_iload_n hx hb dX1_nextToShed_4 rfl (lv_at hl 2 rfl) ?_
  refine lv_iconst (v := nI 5) hx hb dX1_nextToShed_5 (by decide) ?_
  refine lv_icmp_ge (tgt := 67) hx hb dX1_nextToShed_6 (by decide) (fun c => ?_) (fun c => ?_)
  · skip
    obtain rfl := xk_ge hi (by decide) c
    refine lv_iload_n hx hb dX1_nextToShed_67 rfl (lv_at hl 1 rfl) ?_
    exact W.iret hx hb hr (fun t ht hW => ⟨⟨_, (), rfl, rfl, by rw [ht]; exact hP, va_K.moved hW.alike hK, hD⟩, hS.F ht⟩) hS.2.2 dX1_nextToShed_68
  · skip
    have hlt := xk_nge hi (by decide) c
    have e0 : nx sw ts V (i + 1) = match nx sw ts V i with | none => if may sw V i then some i else none | some j => if may sw V i ∧ ts i < ts j then some i else some j := rfl
    obtain ⟨y, hy⟩ : ∃ y, y = nx sw ts V i := ⟨_, rfl⟩
    rw [← hy] at e0 hl
    refine lv_aload_n hx hb dX1_nextToShed_9 rfl (lv_at hl 0 rfl) ?_
    refine va_get (D := D) (ci := 1) (v := .ref (a 2)) (C := RX1) (T := TX1) (N := 12) hx hb hts inX1 hown hK hP 0 rfl rfl 1 (by decide) (hts (.fieldLink RX1 13 "GridCommons" "switches" "[Z") (by decide +kernel)) (fun _ h9 => h9) rfl dX1_nextToShed_10 ?_
    refine lv_iload_n hx hb dX1_nextToShed_13 rfl (lv_at hl 2 rfl) ?_
    refine xk_zald hx hb hK hP 2 1 rfl rfl (o := i) (by omega) (by decide) dX1_nextToShed_14 ?_
    refine lv_if_eq (tgt := 33) hx hb dX1_nextToShed_15 (by decide) (fun c1 => ?_) (fun c1 => ?_)
    · skip
      refine lv_iconst (v := nI 0) hx hb dX1_nextToShed_33 (by decide) ?_
      refine lv_istore_n (lv' := [(3, .int (nI 0)), (0, .ref (a 0)), (1, .int (oi y)), (2, .int (nI i))]) hx hb dX1_nextToShed_34 rfl hl (by decide) rfl (fun ls hl => ?_)
      refine lv_iload_n hx hb dX1_nextToShed_35 rfl (lv_at hl 0 rfl) ?_
      refine lv_if_eq (tgt := 61) hx hb dX1_nextToShed_36 (by decide) (fun c9 => ?_) (fun c9 => ?_)
      · skip
        have hm : ¬ may sw V i := fun q => q.1 c1
        have e9 : nx sw ts V (i + 1) = y := by
          rw [e0]
          cases y with
          | none => dsimp only; rw [if_neg hm]
          | some j => dsimp only; rw [if_neg (fun q => hm q.1)]
        refine lv_iinc (v := nI (i + 1)) (lv' := [(2, .int (nI (i + 1))), (3, .int (nI 0)), (0, .ref (a 0)), (1, .int (oi y))]) hx hb dX1_nextToShed_61 hl (k := 3) rfl (nI_1 i) (by decide) rfl (fun ls hl => ?_)
        refine lv_goto (tgt := 4) hx hb dX1_nextToShed_64 (by decide) ?_
        have hl : lv_has ls 4 [(2, .int (nI (i + 1))), (3, .int (nI 0)), (0, .ref (a 0)), (1, .int (oi (nx sw ts V (i + 1))))] := (by rw [e9]; exact hl)
        exact next _ _ _ hlt ⟨hP, hD, hS, lv_sub hl [2, 3, 0] rfl⟩
      · skip
        exact absurd rfl c9
    · skip
      refine lv_aload_n hx hb dX1_nextToShed_18 rfl (lv_at hl 0 rfl) ?_
      refine va_get (D := D) (ci := 1) (v := .ref (a 7)) (C := RX1) (T := TX1) (N := 12) hx hb hts inX1 hown hK hP 0 rfl rfl 10 (by decide) (hts (.fieldLink RX1 50 "GridCommons" "needs" "[D") (by decide +kernel)) (fun _ h9 => h9) rfl dX1_nextToShed_19 ?_
      refine lv_iload_n hx hb dX1_nextToShed_22 rfl (lv_at hl 2 rfl) ?_
      refine xk_dald hx hb hK hP 7 2 rfl rfl (o := i) (by omega) (by decide) dX1_nextToShed_23 ?_
      refine lv_dconst0 hx hb dX1_nextToShed_24 ?_
      refine lv_dcmp hx hb dX1_nextToShed_25 ?_
      refine lv_if_le (tgt := 33) hx hb dX1_nextToShed_26 (by decide) (fun c2 => ?_) (fun c2 => ?_)
      · skip
        refine lv_iconst (v := nI 0) hx hb dX1_nextToShed_33 (by decide) ?_
        refine lv_istore_n (lv' := [(3, .int (nI 0)), (0, .ref (a 0)), (1, .int (oi y)), (2, .int (nI i))]) hx hb dX1_nextToShed_34 rfl hl (by decide) rfl (fun ls hl => ?_)
        refine lv_iload_n hx hb dX1_nextToShed_35 rfl (lv_at hl 0 rfl) ?_
        refine lv_if_eq (tgt := 61) hx hb dX1_nextToShed_36 (by decide) (fun c9 => ?_) (fun c9 => ?_)
        · skip
          have hm : ¬ may sw V i := fun q => (cv_l_le _).mp c2 (by show dCmp _ _ = _; have q2 := q.2; rw [← hV i hlt] at q2; exact q2)
          have e9 : nx sw ts V (i + 1) = y := by
            rw [e0]
            cases y with
            | none => dsimp only; rw [if_neg hm]
            | some j => dsimp only; rw [if_neg (fun q => hm q.1)]
          refine lv_iinc (v := nI (i + 1)) (lv' := [(2, .int (nI (i + 1))), (3, .int (nI 0)), (0, .ref (a 0)), (1, .int (oi y))]) hx hb dX1_nextToShed_61 hl (k := 3) rfl (nI_1 i) (by decide) rfl (fun ls hl => ?_)
          refine lv_goto (tgt := 4) hx hb dX1_nextToShed_64 (by decide) ?_
          have hl : lv_has ls 4 [(2, .int (nI (i + 1))), (3, .int (nI 0)), (0, .ref (a 0)), (1, .int (oi (nx sw ts V (i + 1))))] := (by rw [e9]; exact hl)
          exact next _ _ _ hlt ⟨hP, hD, hS, lv_sub hl [2, 3, 0] rfl⟩
        · skip
          exact absurd rfl c9
      · skip
        have hm : may sw V i := ⟨c1, by have q := Decidable.of_not_not (fun q => c2 ((cv_l_le _).mpr q)); have q2 : dCmp (dt (ne i)) dZ = some .gt := q; rw [hV i hlt] at q2; exact q2⟩
        refine lv_iconst (v := nI 1) hx hb dX1_nextToShed_29 (by decide) ?_
        refine lv_goto (tgt := 34) hx hb dX1_nextToShed_30 (by decide) ?_
        refine lv_istore_n (lv' := [(3, .int (nI 1)), (0, .ref (a 0)), (1, .int (oi y)), (2, .int (nI i))]) hx hb dX1_nextToShed_34 rfl hl (by decide) rfl (fun ls hl => ?_)
        refine lv_iload_n hx hb dX1_nextToShed_35 rfl (lv_at hl 0 rfl) ?_
        refine lv_if_eq (tgt := 61) hx hb dX1_nextToShed_36 (by decide) (fun c3 => ?_) (fun c3 => ?_)
        · skip
          exact absurd c3 (by decide)
        · skip
          cases y with
          | none =>
            have hl : lv_has ls 4 [(3, .int (nI 1)), (0, .ref (a 0)), (1, .int (-1)), (2, .int (nI i))] := hl
            refine lv_iload_n hx hb dX1_nextToShed_39 rfl (lv_at hl 2 rfl) ?_
            refine lv_iconst (v := (-1)) hx hb dX1_nextToShed_40 (by decide) ?_
            refine lv_icmp_eq (tgt := 59) hx hb dX1_nextToShed_41 (by decide) (fun c4 => ?_) (fun c4 => ?_)
            · skip
              refine lv_iload_n hx hb dX1_nextToShed_59 rfl (lv_at hl 3 rfl) ?_
              refine lv_istore_n (lv' := [(1, .int (nI i)), (3, .int (nI 1)), (0, .ref (a 0)), (2, .int (nI i))]) hx hb dX1_nextToShed_60 rfl hl (by decide) rfl (fun ls hl => ?_)
              have e9 : nx sw ts V (i + 1) = some i := by rw [e0]; dsimp only; rw [if_pos hm]
              refine lv_iinc (v := nI (i + 1)) (lv' := [(2, .int (nI (i + 1))), (1, .int (nI i)), (3, .int (nI 1)), (0, .ref (a 0))]) hx hb dX1_nextToShed_61 hl (k := 3) rfl (nI_1 i) (by decide) rfl (fun ls hl => ?_)
              refine lv_goto (tgt := 4) hx hb dX1_nextToShed_64 (by decide) ?_
              have hl : lv_has ls 4 [(2, .int (nI (i + 1))), (1, .int (oi (nx sw ts V (i + 1)))), (3, .int (nI 1)), (0, .ref (a 0))] := (by rw [e9]; exact hl)
              exact next _ _ _ hlt ⟨hP, hD, hS, lv_sub hl [3, 1, 0] rfl⟩
            · skip
              exact absurd rfl c4
          | some j =>
            have hl : lv_has ls 4 [(3, .int (nI 1)), (0, .ref (a 0)), (1, .int (nI j)), (2, .int (nI i))] := hl
            have hj := (nx_lt hy.symm).1
            refine lv_iload_n hx hb dX1_nextToShed_39 rfl (lv_at hl 2 rfl) ?_
            refine lv_iconst (v := (-1)) hx hb dX1_nextToShed_40 (by decide) ?_
            refine lv_icmp_eq (tgt := 59) hx hb dX1_nextToShed_41 (by decide) (fun c4 => ?_) (fun c4 => ?_)
            · skip
              exact absurd c4 (nI_nm1 j (by omega))
            · skip
              refine lv_aload_n hx hb dX1_nextToShed_44 rfl (lv_at hl 1 rfl) ?_
              refine va_get (D := D) (ci := 1) (v := .ref (a 3)) (C := RX1) (T := TX1) (N := 12) hx hb hts inX1 hown hK hP 0 rfl rfl 2 (by decide) (hts (.fieldLink RX1 17 "GridCommons" "timesShed" "[I") (by decide +kernel)) (fun _ h9 => h9) rfl dX1_nextToShed_45 ?_
              refine lv_iload_n hx hb dX1_nextToShed_48 rfl (lv_at hl 3 rfl) ?_
              refine xk_iald hx hb hK hP 3 0 rfl rfl (o := i) (by omega) (by decide) dX1_nextToShed_49 ?_
              refine lv_aload_n hx hb dX1_nextToShed_50 rfl (lv_at hl 1 rfl) ?_
              refine va_get (D := D) (ci := 1) (v := .ref (a 3)) (C := RX1) (T := TX1) (N := 12) hx hb hts inX1 hown hK hP 0 rfl rfl 2 (by decide) (hts (.fieldLink RX1 17 "GridCommons" "timesShed" "[I") (by decide +kernel)) (fun _ h9 => h9) rfl dX1_nextToShed_51 ?_
              refine lv_iload_n hx hb dX1_nextToShed_54 rfl (lv_at hl 2 rfl) ?_
              refine xk_iald hx hb hK hP 3 0 rfl rfl (o := j) (by omega) (by decide) dX1_nextToShed_55 ?_
              refine lv_icmp_ge (tgt := 61) hx hb dX1_nextToShed_56 (by decide) (fun c5 => ?_) (fun c5 => ?_)
              · skip
                have e9 : nx sw ts V (i + 1) = some j := by rw [e0]; dsimp only; rw [if_neg (fun q => absurd q.2 (Int32.not_lt.mpr c5))]
                refine lv_iinc (v := nI (i + 1)) (lv' := [(2, .int (nI (i + 1))), (3, .int (nI 1)), (0, .ref (a 0)), (1, .int (nI j))]) hx hb dX1_nextToShed_61 hl (k := 3) rfl (nI_1 i) (by decide) rfl (fun ls hl => ?_)
                refine lv_goto (tgt := 4) hx hb dX1_nextToShed_64 (by decide) ?_
                have hl : lv_has ls 4 [(2, .int (nI (i + 1))), (3, .int (nI 1)), (0, .ref (a 0)), (1, .int (oi (nx sw ts V (i + 1))))] := (by rw [e9]; exact hl)
                exact next _ _ _ hlt ⟨hP, hD, hS, lv_sub hl [2, 3, 0] rfl⟩
              · skip
                refine lv_iload_n hx hb dX1_nextToShed_59 rfl (lv_at hl 3 rfl) ?_
                refine lv_istore_n (lv' := [(1, .int (nI i)), (3, .int (nI 1)), (0, .ref (a 0)), (2, .int (nI i))]) hx hb dX1_nextToShed_60 rfl hl (by decide) rfl (fun ls hl => ?_)
                have e9 : nx sw ts V (i + 1) = some i := by rw [e0]; dsimp only; rw [if_pos ⟨hm, Int32.not_le.mp c5⟩]
                refine lv_iinc (v := nI (i + 1)) (lv' := [(2, .int (nI (i + 1))), (1, .int (nI i)), (3, .int (nI 1)), (0, .ref (a 0))]) hx hb dX1_nextToShed_61 hl (k := 3) rfl (nI_1 i) (by decide) rfl (fun ls hl => ?_)
                refine lv_goto (tgt := 4) hx hb dX1_nextToShed_64 (by decide) ?_
                have hl : lv_has ls 4 [(2, .int (nI (i + 1))), (1, .int (oi (nx sw ts V (i + 1)))), (3, .int (nI 1)), (0, .ref (a 0))] := (by rw [e9]; exact hl)
                exact next _ _ _ hlt ⟨hP, hD, hS, lv_sub hl [3, 1, 0] rfl⟩
