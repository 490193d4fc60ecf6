/-! cell, low, isNear, act -/
def lowS (v m : Int32) : Int32 := (v &&& 2147483647) - (v &&& 2147483647) / m * m
theorem x_blind {av : List Value} {b L : Nat} {xs : Nat → Int32} {Hp : Heap} : FrameBlind (va_Pc av (fun U => U.heap = Hp ∧ va_X b L xs U Hp ∧ b < Hp.size)) := fun a U g mk q => ⟨q.1, q.2.1, va_X.moved (u := U) (U := U.calling g mk a) (Vm.Alike.refl U.vm) q.2.2.1, q.2.2.2⟩
set_option maxHeartbeats 4000000 in
set_option maxRecDepth 100000 in
theorem mL_low (l : Launch) (v m : Int32) (hm : ¬ m = 0) : Met l yL_low wsL_low ({ frames := 0, cells := 0, slots := 0, locals := 0 } : Room) (va_Pc [.int v, .int m] (fun _ => True)) (vp_Si (fun r => r = lowS v m)) 0 0 (fun _ => False) := by
  refine Met.ofW (cc := cL_low) (maxL := 2) (ret := (some .int)) (by decide +kernel) rfl ?_
  intro p e s m9 args below meth c s₁ B hml hv
  obtain ⟨rfl, -⟩ := hv
  have hx := B.exec
  have hb := B.bytes
  have hr := B.returns
  have hts := atoms_spec (ws := wsL_low) B.pre
  have hown : s.vm.findClass RL = some m9.cls := findClass_of_methodNamed B.named
  have hlocks := B.notSynchronized
  have hl := lv_entry ([.int v, .int m]) (n := 2) (Nat.le_of_ble_eq_true rfl)
  rw [lg_entry_eq]
  generalize (lg_sl ([.int v, .int m]) ++ List.replicate (2 - (lg_sl ([.int v, .int m])).length) Slot.unset).toArray = ls at hl ⊢
  have hl : lv_has ls 2 [(0, .int v), (1, .int m)] := hl
  refine lv_iload_n hx hb dL_low_0 rfl (lv_at hl 0 rfl) ?_
  refine lv_ldc (v := 2147483647) hx hb hown (hts (.constant RL 7 (2147483647)) (by decide +kernel)) dL_low_1 ?_
  refine lv_iand hx hb dL_low_3 ?_
  refine lv_iload_n hx hb dL_low_4 rfl (lv_at hl 1 rfl) ?_
  refine lv_irem hx hb dL_low_5 hm ?_
  exact W.iret hx hb hr (fun t ht hW => ⟨_, rfl, rfl, ht⟩) (fun q hq => absurd hq List.not_mem_nil) dL_low_6
set_option maxHeartbeats 4000000 in
theorem mL_cell (l : Launch) (b L k : Nat) (xs : Nat → Int32) (Hp : Heap) (hL : L ≤ 260) (hk : k < 61) : Met l yL_cell wsL_cell ({ frames := 0, cells := 0, slots := 0, locals := 0 } : Room) (va_Pc [.ref b, .int (nI k)] (fun U => U.heap = Hp ∧ va_X b L xs U Hp ∧ b < Hp.size)) (vp_Si (fun _ => True)) 0 0 (fun _ => False) := by
  refine Met.ofW (cc := cL_cell) (maxL := 2) (ret := (some .int)) (by decide +kernel) rfl ?_
  intro p e s m args below meth c s₁ B hml hv
  obtain ⟨rfl, hsz, hX, hbl⟩ := hv
  subst hsz
  have hx := B.exec
  have hb := B.bytes
  have hr := B.returns
  have hts := atoms_spec (ws := wsL_cell) B.pre
  have hown : s.vm.findClass RL = some m.cls := findClass_of_methodNamed B.named
  have hlocks := B.notSynchronized
  have hl := lv_entry ([.ref b, .int (nI k)]) (n := 2) (Nat.le_of_ble_eq_true rfl)
  rw [lg_entry_eq]
  generalize (lg_sl ([.ref b, .int (nI k)]) ++ List.replicate (2 - (lg_sl ([.ref b, .int (nI k)])).length) Slot.unset).toArray = ls at hl ⊢
  have hl : lv_has ls 2 [(0, .ref b), (1, .int (nI k))] := hl
  have hS : va_S (fun q => s.heap.size ≤ q) s.heap s.heap [] := va_S.rf
  have hbA : ¬ (fun q : Nat => s.heap.size ≤ q) b := Nat.not_le.mpr hbl
  refine lv_iload_n hx hb dL_cell_0 rfl (lv_at hl 1 rfl) ?_
  refine lv_aload_n hx hb dL_cell_1 rfl (lv_at hl 0 rfl) ?_
  refine va_slen hx hb hX hbl hbA hS dL_cell_2 ?_
  refine lv_icmp_ge (tgt := 12) hx hb dL_cell_3 (by decide) (fun c => ?_) (fun c => ?_)
  · skip
    refine lv_sipush (v := nI 7919) hx hb dL_cell_12 (by decide) ?_
    refine lv_iload_n hx hb dL_cell_15 rfl (lv_at hl 1 rfl) ?_
    refine lv_sipush (v := nI 937) hx hb dL_cell_16 (by decide) ?_
    refine lv_iadd hx hb dL_cell_19 ?_
    refine lv_imul hx hb dL_cell_20 ?_
    refine lv_iload_n hx hb dL_cell_21 rfl (lv_at hl 1 rfl) ?_
    refine lv_sipush (v := nI 3347) hx hb dL_cell_22 (by decide) ?_
    refine lv_iadd hx hb dL_cell_25 ?_
    refine lv_imul hx hb dL_cell_26 ?_
    exact W.iret hx hb hr (fun t ht hW => ⟨_, rfl, trivial, ht⟩) (fun q hq => absurd hq List.not_mem_nil) dL_cell_27
  · skip
    refine lv_aload_n hx hb dL_cell_6 rfl (lv_at hl 0 rfl) ?_
    refine lv_iload_n hx hb dL_cell_7 rfl (lv_at hl 1 rfl) ?_
    refine va_sld hx hb hX hbl hbA hS (i := nI k) (vp_in_nI (Nat.not_le.mp (fun z => c ((nI_leI (by omega) (by omega)).mpr z))) (by omega)) dL_cell_8 ?_
    refine lv_goto (tgt := 27) hx hb dL_cell_9 (by decide) ?_
    exact W.iret hx hb hr (fun t ht hW => ⟨_, rfl, trivial, ht⟩) (fun q hq => absurd hq List.not_mem_nil) dL_cell_27
set_option maxHeartbeats 4000000 in
set_option maxRecDepth 100000 in
theorem mL_isNear (l : Launch) (x y : UInt64) (h : isNr (dt x) (dt y)) : MetD lw_cs l yL_isNear wsL_isNear ({ frames := 0, cells := 0, slots := 0, locals := 0 } : Room) (va_Pc [.double x, .double y] (fun _ => True)) (va_Qi (fun (r : Int32) (_ : Unit) => r = nI 1) (fun _ _ => True) (fun _ => False)) 0 0 (fun _ => False) := by
  refine MetD.ofW (cc := cL_isNear) (maxL := 4) (ret := (some .boolean)) (by decide +kernel) rfl ?_
  intro p e s m args below meth c s₁ B hml hv hd0
  obtain ⟨rfl, -⟩ := hv
  have hx := B.exec
  have hb := B.bytes
  have hr := B.returns
  have hts := atoms_spec (ws := wsL_isNear) B.pre
  have hown : s.vm.findClass RL = some m.cls := findClass_of_methodNamed B.named
  have hlocks := B.notSynchronized
  have hl := lv_entry ([.double x, .double y]) (n := 4) (Nat.le_of_ble_eq_true rfl)
  rw [lg_entry_eq]
  generalize (lg_sl ([.double x, .double y]) ++ List.replicate (4 - (lg_sl ([.double x, .double y])).length) Slot.unset).toArray = ls at hl ⊢
  have hl : lv_has ls 4 [(0, .double x), (2, .double y)] := hl
  have hS : va_S (fun _ => False) s.heap s.heap [] := va_S.rf
  refine lv_dload_n hx hb dL_isNear_0 rfl (lv_at hl 0 rfl) ?_
  refine lv_dload_n hx hb dL_isNear_1 rfl (lv_at hl 1 rfl) ?_
  refine lv_dsub_any hd0 lw_bits hx hb dL_isNear_2 (fun r1 _ hal hd2 => ?_)
  have er1 := dt_sub hal
  refine lv_ldc2d hx hb (xk_od hown) (dr_words hts _ (.constantDouble RL 63 4517329193108106637) (by decide +kernel)) dL_isNear_3 ?_
  refine lv_dcmp hx hb dL_isNear_6 ?_
  refine lv_if_ge (tgt := 24) hx hb dL_isNear_7 (by decide) (fun c => absurd (show dCmp (dt r1) (dt 4517329193108106637) = some .lt by rw [er1]; exact h.1) ((cv_g_ge _).mp c)) (fun c => ?_)
  refine lv_dload_n hx hb dL_isNear_10 rfl (lv_at hl 1 rfl) ?_
  refine lv_dload_n hx hb dL_isNear_11 rfl (lv_at hl 0 rfl) ?_
  refine lv_dsub_any hd2 lw_bits hx hb dL_isNear_12 (fun r3 _ hal hd4 => ?_)
  have er3 := dt_sub hal
  refine lv_ldc2d hx hb (xk_od hown) (dr_words hts _ (.constantDouble RL 63 4517329193108106637) (by decide +kernel)) dL_isNear_13 ?_
  refine lv_dcmp hx hb dL_isNear_16 ?_
  refine lv_if_ge (tgt := 24) hx hb dL_isNear_17 (by decide) (fun c => absurd (show dCmp (dt r3) (dt 4517329193108106637) = some .lt by rw [er3]; exact h.2) ((cv_g_ge _).mp c)) (fun c => ?_)
  refine lv_iconst (v := nI 1) hx hb dL_isNear_20 (by decide) ?_
  refine lv_goto (tgt := 25) hx hb dL_isNear_21 (by decide) ?_
  refine W.endD hd4 ?_
  exact W.zret hx hb hr rfl (fun t ht hW => ⟨⟨_, (), rfl, rfl, trivial⟩, hS.F ht⟩) hS.2.2 dL_isNear_25
abbrev sr (v : Int32) (k : Nat) : Int32 := v >>> (nI k &&& 31)
abbrev oddS (v : Int32) : Prop := sr v 18 &&& nI 7 = nI 7
abbrev ownS (v : Int32) : Int32 := if oddS v then lowS (sr v 6) (nI 8) - nI 1 else lowS (sr v 6) (nI 5)
abbrev dd (r : St × Int32) : St × Dm := (r.1, dI r.2)
noncomputable def actS (v : Int32) (σ : St) : St × Dm :=
  if lowS v (nI 30) < nI 7 then
    (if lowS v (nI 30) < nI 5 then dd (sSh σ (ownS v) (if oddS v then lowS (sr v 9) (nI 9) - nI 2 else lowS (sr v 9) (nI 4)))
    else dd (sSw σ (ownS v) (sr v 9 &&& nI 1)))
  else if lowS v (nI 30) < nI 23 then dd (sTl σ (ownS v) (if oddS v then lowS (sr v 9) (nI 70) - nI 9 else lowS (sr v 9) (nI 51)))
  else if lowS v (nI 30) < nI 26 then
    (if lowS v (nI 30) < nI 25 then sRe σ (ownS v) (if oddS v then lowS (sr v 9) (nI 70) - nI 3 else lowS (sr v 9) (nI (s_n σ) + nI 1)) (if oddS v then lowS (sr v 12) (nI 70) - nI 9 else lowS (sr v 12) (nI 51))
    else sPr σ (if oddS v then lowS (sr v 9) (nI 8) - nI 1 else nI 1 + (sr v 9 &&& nI 3)))
  else dd (sCl σ (if oddS v then lowS (sr v 6) (nI 130) - nI 9 else lowS (sr v 6) (nI 101)))
theorem n1_ne {n : Nat} (h : n ≤ 60) : ¬ nI n + nI 1 = 0 := by
  rw [nI_add]
  intro z
  have := (nI_eq (a := n + 1) (b := 0) (by omega) (by decide)).mp z
  omega
set_option maxHeartbeats 4000000 in
set_option maxRecDepth 100000 in
theorem mL_act (l : Launch) (hst : l.stackTraces = false) (D : va_G) (cI cZ cD : ClassId) (a : Nat → Nat) (sz : Nat) (u : Bt) (v : Int32) (hok : Ok (dat u)) : MetD lw_cs l yL_act wsL_act ({ frames := 10, cells := 1, slots := 6, locals := 172 } : Room) (va_Pc [.ref (a 0), .int v] (LQ D cI cZ cD (XU a cI cZ cD u) sz)) (va_Qd (fun (r : UInt64) (z : Bt) => (dat z, dt r) = actS v (dat u)) (fun (z : Bt) t => XB D cI cZ cD (XU a cI cZ cD z) (va_A (XU a cI cZ cD u) sz) t) (va_A (XU a cI cZ cD u) sz)) 1 6 (va_A (XU a cI cZ cD u) sz) := by
  refine MetD.ofW (cc := cL_act) (maxL := 6) (ret := (some .double)) (by decide +kernel) rfl ?_
  intro p e s m args below meth c s₁ B hml hv hd0
  obtain ⟨rfl, hsz, ⟨hP, hK, hD0⟩, hE, hN⟩ := hv
  have hx := B.exec
  have hb := B.bytes
  have hr := B.returns
  have hts := atoms_spec (ws := wsL_act) B.pre
  have hown : s.vm.findClass RL = some m.cls := findClass_of_methodNamed B.named
  have hlocks := B.notSynchronized
  subst hsz
  have hD := hD0.self (sz := s.heap.size)
  generalize hAe : va_A (XU a cI cZ cD u) s.heap.size = A at hD hE ⊢
  have hA : ∀ q : Nat, s.heap.size ≤ q → A q := fun q h => by rw [← hAe]; exact Or.inr h
  have hS : va_S A s.heap s.heap [] := va_S.rf
  have hl := lv_entry ([.ref (a 0), .int v]) (n := 6) (Nat.le_of_ble_eq_true rfl)
  rw [lg_entry_eq]
  generalize (lg_sl ([.ref (a 0), .int v]) ++ List.replicate (6 - (lg_sl ([.ref (a 0), .int v])).length) Slot.unset).toArray = ls at hl ⊢
  have hl : lv_has ls 6 [(0, .ref (a 0)), (1, .int v)] := hl
  refine lv_iload_n hx hb dL_act_0 rfl (lv_at hl 1 rfl) ?_
  refine lv_bipush (v := nI 18) hx hb dL_act_1 (by decide) ?_
  refine lv_ishr hx hb dL_act_3 ?_
  refine lv_bipush (v := nI 7) hx hb dL_act_4 (by decide) ?_
  refine lv_iand hx hb dL_act_6 ?_
  refine lv_bipush (v := nI 7) hx hb dL_act_7 (by decide) ?_
  refine lv_icmp_ne (tgt := 16) hx hb dL_act_9 (by decide) (fun co => ?_) (fun co => ?_)
  · skip
    refine lv_iconst (v := nI 0) hx hb dL_act_16 (by decide) ?_
    refine lv_istore_n (lv' := [(2, .int (nI 0)), (0, .ref (a 0)), (1, .int v)]) hx hb dL_act_17 rfl hl (by decide) rfl (fun ls hl => ?_)
    refine lv_iload_n hx hb dL_act_18 rfl (lv_at hl 2 rfl) ?_
    refine lv_bipush (v := nI 30) hx hb dL_act_19 (by decide) ?_
    refine vp_callSi (va_Run.run (va_runS (As := [.int v, .int (nI 30)]) (rest := []) ⟨hx, hb, hml, (xk_od hown), (dr_words hts _)⟩ (mL_low l v (nI 30) (by decide)) (va_cwS 2 (dr_words hts _) gL_act_L_low rfl rfl rfl (by decide +kernel) ⟨Nat.le_of_ble_eq_true rfl, Nat.le_of_ble_eq_true rfl⟩) ⟨fun a U g mk q => q, fun U hU hW => ⟨rfl, trivial⟩⟩ rfl rfl hl.1 rfl (lv_room (Nat.le_of_ble_eq_true rfl)) dL_act_21 ⟨Nat.le_of_ble_eq_true rfl, Nat.le_of_ble_eq_true rfl⟩)) (fun r hr1 => ?_)
    subst hr1
    refine lv_istore_n (lv' := [(3, .int (lowS v (nI 30))), (2, .int (nI 0)), (0, .ref (a 0)), (1, .int v)]) hx hb dL_act_24 rfl hl (by decide) rfl (fun ls hl => ?_)
    refine lv_iload_n hx hb dL_act_25 rfl (lv_at hl 1 rfl) ?_
    refine lv_if_eq (tgt := 43) hx hb dL_act_26 (by decide) (fun c => ?_) (fun c => by first | exact absurd c (by decide) | exact absurd rfl c | exact (c (by decide)).elim)
    refine lv_iload_n hx hb dL_act_43 rfl (lv_at hl 3 rfl) ?_
    refine lv_bipush (v := nI 6) hx hb dL_act_44 (by decide) ?_
    refine lv_ishr hx hb dL_act_46 ?_
    refine lv_iconst (v := nI 5) hx hb dL_act_47 (by decide) ?_
    refine vp_callSi (va_Run.run (va_runS (As := [.int (sr v 6), .int (nI 5)]) (rest := []) ⟨hx, hb, hml, (xk_od hown), (dr_words hts _)⟩ (mL_low l (sr v 6) (nI 5) (by decide)) (va_cwS 2 (dr_words hts _) gL_act_L_low rfl rfl rfl (by decide +kernel) ⟨Nat.le_of_ble_eq_true rfl, Nat.le_of_ble_eq_true rfl⟩) ⟨fun a U g mk q => q, fun U hU hW => ⟨rfl, trivial⟩⟩ rfl rfl hl.1 rfl (lv_room (Nat.le_of_ble_eq_true rfl)) dL_act_48 ⟨Nat.le_of_ble_eq_true rfl, Nat.le_of_ble_eq_true rfl⟩)) (fun r hr1 => ?_)
    subst hr1
    have eo : ownS v = lowS (sr v 6) (nI 5) := if_neg co
    refine lv_istore (lv' := [(4, .int (lowS (sr v 6) (nI 5))), (3, .int (lowS v (nI 30))), (2, .int (nI 0)), (0, .ref (a 0)), (1, .int v)]) hx hb dL_act_51 hl (by decide) rfl (fun ls hl => ?_)
    refine lv_iload_n hx hb dL_act_53 rfl (lv_at hl 1 rfl) ?_
    refine lv_bipush (v := nI 7) hx hb dL_act_54 (by decide) ?_
    refine lv_icmp_ge (tgt := 116) hx hb dL_act_56 (by decide) (fun c1 => ?_) (fun c1 => ?_)
    · skip
      refine lv_iload_n hx hb dL_act_116 rfl (lv_at hl 1 rfl) ?_
      refine lv_bipush (v := nI 23) hx hb dL_act_117 (by decide) ?_
      refine lv_icmp_ge (tgt := 159) hx hb dL_act_119 (by decide) (fun c3 => ?_) (fun c3 => ?_)
      · skip
        refine lv_iload_n hx hb dL_act_159 rfl (lv_at hl 1 rfl) ?_
        refine lv_bipush (v := nI 26) hx hb dL_act_160 (by decide) ?_
        refine lv_icmp_ge (tgt := 278) hx hb dL_act_162 (by decide) (fun c4 => ?_) (fun c4 => ?_)
        · skip
          refine lv_aload_n hx hb dL_act_278 rfl (lv_at hl 3 rfl) ?_
          refine lv_iconst (v := nI 3) hx hb dL_act_279 (by decide) ?_
          refine lv_iload_n hx hb dL_act_280 rfl (lv_at hl 2 rfl) ?_
          refine lv_if_eq (tgt := 300) hx hb dL_act_281 (by decide) (fun c => ?_) (fun c => by first | exact absurd c (by decide) | exact absurd rfl c | exact (c (by decide)).elim)
          refine lv_iload_n hx hb dL_act_300 rfl (lv_at hl 4 rfl) ?_
          refine lv_bipush (v := nI 6) hx hb dL_act_301 (by decide) ?_
          refine lv_ishr hx hb dL_act_303 ?_
          refine lv_bipush (v := nI 101) hx hb dL_act_304 (by decide) ?_
          refine vp_callSi (va_Run.run (va_runS (As := [.int (sr v 6), .int (nI 101)]) (rest := [.int (nI 3), .ref (a 0)]) ⟨hx, hb, hml, (xk_od hown), (dr_words hts _)⟩ (mL_low l (sr v 6) (nI 101) (by decide)) (va_cwS 2 (dr_words hts _) gL_act_L_low rfl rfl rfl (by decide +kernel) ⟨Nat.le_of_ble_eq_true rfl, Nat.le_of_ble_eq_true rfl⟩) ⟨fun a U g mk q => q, fun U hU hW => ⟨rfl, trivial⟩⟩ rfl rfl hl.1 rfl (lv_room (Nat.le_of_ble_eq_true rfl)) dL_act_306 ⟨Nat.le_of_ble_eq_true rfl, Nat.le_of_ble_eq_true rfl⟩)) (fun r hr1 => ?_)
          subst hr1
          refine lv_iconst (v := nI 0) hx hb dL_act_309 (by decide) ?_
          have hPx : va_P D vwCl (XU a cI cZ cD u) s.heap := hP.sub [0, 1, 2, 3, 4, 5, 6, 7, 8, 9, 10, 11, 12, 13, 14, 15, 16] rfl
          have hDx : va_D A (XU a cI cZ cD u) := hD.sub [0, 1, 2, 3, 4, 5, 6, 7, 8, 9, 10, 11, 12, 13, 14, 15, 16] (by decide) rfl
          have hFc := va_free (wc := XU a cI cZ cD u) hD hS hA [0, 1, 2, 3, 4, 5, 6, 7, 8, 9, 10, 11, 12, 13, 14, 15, 16] rfl
          refine va_calliD hd0 (xd_runSX (As := [.ref (a 0), .int (nI 3), .int (lowS (sr v 6) (nI 101)), .int (nI 0)]) (rest := []) ⟨hx, hb, hml, (xk_od hown), (dr_words hts _)⟩ (mL_does3 l hst D cI cZ cD a _ u (lowS (sr v 6) (nI 101)) (nI 0) hok) (vx_cwSW 4 (dr_words hts _) gL_act_L_does rfl rfl rfl (by decide +kernel) ⟨Nat.le_of_ble_eq_true rfl, Nat.le_of_ble_eq_true rfl⟩) ⟨lp_blind, lp_pre hPx (xk_Kd hK) hDx hE.drawn hN.drawn hS hFc⟩ rfl rfl hl.1 rfl (lv_room (Nat.le_of_ble_eq_true rfl)) dL_act_310 ⟨Nat.le_of_ble_eq_true rfl, Nat.le_of_ble_eq_true rfl⟩) hS (fun q _ h => hFc q h) hFc (fun r9 z t9 H locs ht hvm hw hB hz1 hk1 hS _ hd1 => ?_)
          obtain ⟨hP1, -, hD1⟩ := hB
          rw [ht] at hP1
          obtain ⟨hP, hD⟩ := va_join (wr := []) (w1 := XU a cI cZ cD z) hP hD [0, 1, 2, 3, 4, 5, 6, 7, 8, 9, 10, 11, 12, 13, 14, 15, 16] [] rfl rfl (by decide) (by decide) hk1 hFc hP1 hD1
          have hP : va_P D vwCl (XU a cI cZ cD z) H := hP.sub [0, 1, 2, 3, 4, 5, 6, 7, 8, 9, 10, 11, 12, 13, 14, 15, 16] rfl
          have hD : va_D A (XU a cI cZ cD z) := hD.sub [0, 1, 2, 3, 4, 5, 6, 7, 8, 9, 10, 11, 12, 13, 14, 15, 16] (by decide) rfl
          refine lv_i2d hx hb dL_act_313 ?_
          refine W.endD hd1 ?_
          exact W.dret hx hb hr (fun t ht hW => ⟨⟨_, z, rfl, (by unfold actS; rw [if_neg (fun z => absurd c1 (Int32.not_le.mpr z)), if_neg (fun z => absurd c3 (Int32.not_le.mpr z)), if_neg (fun z => absurd c4 (Int32.not_le.mpr z)), if_neg co, ← hw]; rfl), by rw [ht]; exact hP, va_K.moved hW.alike (xk_Kd hK), hD⟩, hS.F ht⟩) hS.2.2 dL_act_314
        · skip
          refine lv_iload_n hx hb dL_act_165 rfl (lv_at hl 2 rfl) ?_
          refine lv_if_eq (tgt := 183) hx hb dL_act_166 (by decide) (fun c => ?_) (fun c => by first | exact absurd c (by decide) | exact absurd rfl c | exact (c (by decide)).elim)
          refine lv_iload_n hx hb dL_act_183 rfl (lv_at hl 4 rfl) ?_
          refine lv_bipush (v := nI 9) hx hb dL_act_184 (by decide) ?_
          refine lv_ishr hx hb dL_act_186 ?_
          refine lv_aload_n hx hb dL_act_187 rfl (lv_at hl 3 rfl) ?_
          have hPx : va_P D vwCl (XU a cI cZ cD u) s.heap := hP.sub [0, 1, 2, 3, 4, 5, 6, 7, 8, 9, 10, 11, 12, 13, 14, 15, 16] rfl
          have hDx : va_D A (XU a cI cZ cD u) := hD.sub [0, 1, 2, 3, 4, 5, 6, 7, 8, 9, 10, 11, 12, 13, 14, 15, 16] (by decide) rfl
          refine vp_callSi (va_Run.run (va_runV (As := []) (rest := [.int (sr v 9)]) ⟨hx, hb, hml, (xk_od hown), (dr_words hts _)⟩ (mX1_closedV l D cI cZ cD a _ u.1 u.2.1 u.2.2.1 u.2.2.2.1 u.2.2.2.2.1 u.2.2.2.2.2.1 u.2.2.2.2.2.2.1 u.2.2.2.2.2.2.2.1 u.2.2.2.2.2.2.2.2.1 u.2.2.2.2.2.2.2.2.2.1 (nI u.2.2.2.2.2.2.2.2.2.2.1) (nI u.2.2.2.2.2.2.2.2.2.2.2.1) u.2.2.2.2.2.2.2.2.2.2.2.2.1 u.2.2.2.2.2.2.2.2.2.2.2.2.2.1 u.2.2.2.2.2.2.2.2.2.2.2.2.2.2.1 u.2.2.2.2.2.2.2.2.2.2.2.2.2.2.2.1 u.2.2.2.2.2.2.2.2.2.2.2.2.2.2.2.2.1 u.2.2.2.2.2.2.2.2.2.2.2.2.2.2.2.2.2.1 u.2.2.2.2.2.2.2.2.2.2.2.2.2.2.2.2.2.2.1 u.2.2.2.2.2.2.2.2.2.2.2.2.2.2.2.2.2.2.2 ) (cwV 0 (dr_words hts _) gL_act_X1_closed rfl rfl rfl (by decide +kernel) ⟨Nat.le_of_ble_eq_true rfl, Nat.le_of_ble_eq_true rfl⟩) ⟨xk_blind, va_recv (xk_Kd hK) hP (ci := 1) (q0 := 0) rfl rfl, xk_pre hPx (xk_Kd hK) hDx⟩ rfl rfl hl.1 rfl (lv_room (Nat.le_of_ble_eq_true rfl)) dL_act_188 ⟨Nat.le_of_ble_eq_true rfl, Nat.le_of_ble_eq_true rfl⟩)) (fun r hr1 => ?_)
          refine xk_i (y := nI (b_n u)) hr1 ?_
          refine lv_iconst (v := nI 1) hx hb dL_act_191 (by decide) ?_
          refine lv_iadd hx hb dL_act_192 ?_
          refine vp_callSi (va_Run.run (va_runS (As := [.int (sr v 9), .int (nI (b_n u) + nI 1)]) (rest := []) ⟨hx, hb, hml, (xk_od hown), (dr_words hts _)⟩ (mL_low l (sr v 9) (nI (b_n u) + nI 1) (n1_ne hok.1)) (va_cwS 2 (dr_words hts _) gL_act_L_low rfl rfl rfl (by decide +kernel) ⟨Nat.le_of_ble_eq_true rfl, Nat.le_of_ble_eq_true rfl⟩) ⟨fun a U g mk q => q, fun U hU hW => ⟨rfl, trivial⟩⟩ rfl rfl hl.1 rfl (lv_room (Nat.le_of_ble_eq_true rfl)) dL_act_193 ⟨Nat.le_of_ble_eq_true rfl, Nat.le_of_ble_eq_true rfl⟩)) (fun r hr1 => ?_)
          subst hr1
          refine lv_istore (lv' := [(5, .int (lowS (sr v 9) (nI (b_n u) + nI 1))), (4, .int (lowS (sr v 6) (nI 5))), (3, .int (lowS v (nI 30))), (2, .int (nI 0)), (0, .ref (a 0)), (1, .int v)]) hx hb dL_act_196 hl (by decide) rfl (fun ls hl => ?_)
          refine lv_iload_n hx hb dL_act_198 rfl (lv_at hl 2 rfl) ?_
          refine lv_bipush (v := nI 25) hx hb dL_act_199 (by decide) ?_
          refine lv_icmp_ge (tgt := 244) hx hb dL_act_201 (by decide) (fun c5 => ?_) (fun c5 => ?_)
          · skip
            refine lv_aload_n hx hb dL_act_244 rfl (lv_at hl 4 rfl) ?_
            refine lv_iconst (v := nI 0) hx hb dL_act_245 (by decide) ?_
            refine lv_iload_n hx hb dL_act_246 rfl (lv_at hl 3 rfl) ?_
            refine lv_if_eq (tgt := 264) hx hb dL_act_247 (by decide) (fun c => ?_) (fun c => by first | exact absurd c (by decide) | exact absurd rfl c | exact (c (by decide)).elim)
            refine lv_iconst (v := nI 1) hx hb dL_act_264 (by decide) ?_
            refine lv_iload_n hx hb dL_act_265 rfl (lv_at hl 5 rfl) ?_
            refine lv_bipush (v := nI 9) hx hb dL_act_266 (by decide) ?_
            refine lv_ishr hx hb dL_act_268 ?_
            refine lv_iconst (v := nI 3) hx hb dL_act_269 (by decide) ?_
            refine lv_iand hx hb dL_act_270 ?_
            refine lv_iadd hx hb dL_act_271 ?_
            refine lv_iconst (v := nI 0) hx hb dL_act_272 (by decide) ?_
            refine lv_iconst (v := nI 0) hx hb dL_act_273 (by decide) ?_
            have hPx : va_P D vwCl (XU a cI cZ cD u) s.heap := hP.sub [0, 1, 2, 3, 4, 5, 6, 7, 8, 9, 10, 11, 12, 13, 14, 15, 16] rfl
            have hDx : va_D A (XU a cI cZ cD u) := hD.sub [0, 1, 2, 3, 4, 5, 6, 7, 8, 9, 10, 11, 12, 13, 14, 15, 16] (by decide) rfl
            have hFc := va_free (wc := XU a cI cZ cD u) hD hS hA [0, 1, 2, 3, 4, 5, 6, 7, 8, 9, 10, 11, 12, 13, 14, 15, 16] rfl
            refine va_calld (vx_runSW (As := [.ref (a 0), .int (nI 0), .int (nI 1 + (sr v 9 &&& nI 3)), .int (nI 0), .int (nI 0)]) (rest := []) ⟨hx, hb, hml, (xk_od hown), (dr_words hts _)⟩ (mL_looks0 l hst D cI cZ cD a _ u (nI 1 + (sr v 9 &&& nI 3)) (nI 0) (nI 0)) (vx_cwSW 5 (dr_words hts _) gL_act_L_looks rfl rfl rfl (by decide +kernel) ⟨Nat.le_of_ble_eq_true rfl, Nat.le_of_ble_eq_true rfl⟩) ⟨lp_blind, lp_pre hPx (xk_Kd hK) hDx hE.drawn hN.drawn hS hFc⟩ rfl rfl hl.1 rfl (lv_room (Nat.le_of_ble_eq_true rfl)) dL_act_274 ⟨Nat.le_of_ble_eq_true rfl, Nat.le_of_ble_eq_true rfl⟩) hS (fun q _ h => hFc q h) hFc (fun r9 z t9 H locs ht hvm hw hB hz1 hk1 hS => ?_)
            obtain ⟨hP1, -, hD1⟩ := hB
            rw [ht] at hP1
            obtain ⟨hP, hD⟩ := va_join (wr := []) (w1 := XU a cI cZ cD z) hP hD [0, 1, 2, 3, 4, 5, 6, 7, 8, 9, 10, 11, 12, 13, 14, 15, 16] [] rfl rfl (by decide) (by decide) hk1 hFc hP1 hD1
            have hP : va_P D vwCl (XU a cI cZ cD z) H := hP.sub [0, 1, 2, 3, 4, 5, 6, 7, 8, 9, 10, 11, 12, 13, 14, 15, 16] rfl
            have hD : va_D A (XU a cI cZ cD z) := hD.sub [0, 1, 2, 3, 4, 5, 6, 7, 8, 9, 10, 11, 12, 13, 14, 15, 16] (by decide) rfl
            refine W.endD hd0 ?_
            exact W.dret hx hb hr (fun t ht hW => ⟨⟨_, z, rfl, (by unfold actS; rw [if_neg (fun z => absurd c1 (Int32.not_le.mpr z)), if_neg (fun z => absurd c3 (Int32.not_le.mpr z)), if_pos (Int32.not_le.mp c4), if_neg (fun z => absurd c5 (Int32.not_le.mpr z)), if_neg co]; exact hw), by rw [ht]; exact hP, va_K.moved hW.alike (xk_Kd hK), hD⟩, hS.F ht⟩) hS.2.2 dL_act_277
          · skip
            refine lv_aload_n hx hb dL_act_204 rfl (lv_at hl 4 rfl) ?_
            refine lv_iconst (v := nI 1) hx hb dL_act_205 (by decide) ?_
            refine lv_iload hx hb dL_act_206 (lv_at hl 1 rfl) ?_
            refine lv_iload hx hb dL_act_208 (lv_at hl 0 rfl) ?_
            refine lv_iload_n hx hb dL_act_210 rfl (lv_at hl 3 rfl) ?_
            refine lv_if_eq (tgt := 229) hx hb dL_act_211 (by decide) (fun c => ?_) (fun c => by first | exact absurd c (by decide) | exact absurd rfl c | exact (c (by decide)).elim)
            refine lv_iload_n hx hb dL_act_229 rfl (lv_at hl 5 rfl) ?_
            refine lv_bipush (v := nI 12) hx hb dL_act_230 (by decide) ?_
            refine lv_ishr hx hb dL_act_232 ?_
            refine lv_bipush (v := nI 51) hx hb dL_act_233 (by decide) ?_
            refine vp_callSi (va_Run.run (va_runS (As := [.int (sr v 12), .int (nI 51)]) (rest := [.int (lowS (sr v 9) (nI (b_n u) + nI 1)), .int (lowS (sr v 6) (nI 5)), .int (nI 1), .ref (a 0)]) ⟨hx, hb, hml, (xk_od hown), (dr_words hts _)⟩ (mL_low l (sr v 12) (nI 51) (by decide)) (va_cwS 2 (dr_words hts _) gL_act_L_low rfl rfl rfl (by decide +kernel) ⟨Nat.le_of_ble_eq_true rfl, Nat.le_of_ble_eq_true rfl⟩) ⟨fun a U g mk q => q, fun U hU hW => ⟨rfl, trivial⟩⟩ rfl rfl hl.1 rfl (lv_room (Nat.le_of_ble_eq_true rfl)) dL_act_235 ⟨Nat.le_of_ble_eq_true rfl, Nat.le_of_ble_eq_true rfl⟩)) (fun r hr1 => ?_)
            subst hr1
            have hPx : va_P D vwCl (XU a cI cZ cD u) s.heap := hP.sub [0, 1, 2, 3, 4, 5, 6, 7, 8, 9, 10, 11, 12, 13, 14, 15, 16] rfl
            have hDx : va_D A (XU a cI cZ cD u) := hD.sub [0, 1, 2, 3, 4, 5, 6, 7, 8, 9, 10, 11, 12, 13, 14, 15, 16] (by decide) rfl
            have hFc := va_free (wc := XU a cI cZ cD u) hD hS hA [0, 1, 2, 3, 4, 5, 6, 7, 8, 9, 10, 11, 12, 13, 14, 15, 16] rfl
            refine va_calldD hd0 (xd_runSX (As := [.ref (a 0), .int (nI 1), .int (lowS (sr v 6) (nI 5)), .int (lowS (sr v 9) (nI (b_n u) + nI 1)), .int (lowS (sr v 12) (nI 51))]) (rest := []) ⟨hx, hb, hml, (xk_od hown), (dr_words hts _)⟩ (mL_looks1 l hst D cI cZ cD a _ u (lowS (sr v 6) (nI 5)) (lowS (sr v 9) (nI (b_n u) + nI 1)) (lowS (sr v 12) (nI 51)) hok) (vx_cwSW 5 (dr_words hts _) gL_act_L_looks rfl rfl rfl (by decide +kernel) ⟨Nat.le_of_ble_eq_true rfl, Nat.le_of_ble_eq_true rfl⟩) ⟨lp_blind, lp_pre hPx (xk_Kd hK) hDx hE.drawn hN.drawn hS hFc⟩ rfl rfl hl.1 rfl (lv_room (Nat.le_of_ble_eq_true rfl)) dL_act_238 ⟨Nat.le_of_ble_eq_true rfl, Nat.le_of_ble_eq_true rfl⟩) hS (fun q _ h => hFc q h) hFc (fun r9 z t9 H locs ht hvm hw hB hz1 hk1 hS _ hd3 => ?_)
            obtain ⟨hP1, -, hD1⟩ := hB
            rw [ht] at hP1
            obtain ⟨hP, hD⟩ := va_join (wr := []) (w1 := XU a cI cZ cD z) hP hD [0, 1, 2, 3, 4, 5, 6, 7, 8, 9, 10, 11, 12, 13, 14, 15, 16] [] rfl rfl (by decide) (by decide) hk1 hFc hP1 hD1
            have hP : va_P D vwCl (XU a cI cZ cD z) H := hP.sub [0, 1, 2, 3, 4, 5, 6, 7, 8, 9, 10, 11, 12, 13, 14, 15, 16] rfl
            have hD : va_D A (XU a cI cZ cD z) := hD.sub [0, 1, 2, 3, 4, 5, 6, 7, 8, 9, 10, 11, 12, 13, 14, 15, 16] (by decide) rfl
            refine lv_goto (tgt := 277) hx hb dL_act_241 (by decide) ?_
            refine W.endD hd3 ?_
            exact W.dret hx hb hr (fun t ht hW => ⟨⟨_, z, rfl, (by unfold actS; rw [if_neg (fun z => absurd c1 (Int32.not_le.mpr z)), if_neg (fun z => absurd c3 (Int32.not_le.mpr z)), if_pos (Int32.not_le.mp c4), if_pos (Int32.not_le.mp c5), eo, if_neg co, if_neg co]; exact hw), by rw [ht]; exact hP, va_K.moved hW.alike (xk_Kd hK), hD⟩, hS.F ht⟩) hS.2.2 dL_act_277
      · skip
        refine lv_aload_n hx hb dL_act_122 rfl (lv_at hl 3 rfl) ?_
        refine lv_iconst (v := nI 2) hx hb dL_act_123 (by decide) ?_
        refine lv_iload hx hb dL_act_124 (lv_at hl 0 rfl) ?_
        refine lv_iload_n hx hb dL_act_126 rfl (lv_at hl 2 rfl) ?_
        refine lv_if_eq (tgt := 145) hx hb dL_act_127 (by decide) (fun c => ?_) (fun c => by first | exact absurd c (by decide) | exact absurd rfl c | exact (c (by decide)).elim)
        refine lv_iload_n hx hb dL_act_145 rfl (lv_at hl 4 rfl) ?_
        refine lv_bipush (v := nI 9) hx hb dL_act_146 (by decide) ?_
        refine lv_ishr hx hb dL_act_148 ?_
        refine lv_bipush (v := nI 51) hx hb dL_act_149 (by decide) ?_
        refine vp_callSi (va_Run.run (va_runS (As := [.int (sr v 9), .int (nI 51)]) (rest := [.int (lowS (sr v 6) (nI 5)), .int (nI 2), .ref (a 0)]) ⟨hx, hb, hml, (xk_od hown), (dr_words hts _)⟩ (mL_low l (sr v 9) (nI 51) (by decide)) (va_cwS 2 (dr_words hts _) gL_act_L_low rfl rfl rfl (by decide +kernel) ⟨Nat.le_of_ble_eq_true rfl, Nat.le_of_ble_eq_true rfl⟩) ⟨fun a U g mk q => q, fun U hU hW => ⟨rfl, trivial⟩⟩ rfl rfl hl.1 rfl (lv_room (Nat.le_of_ble_eq_true rfl)) dL_act_151 ⟨Nat.le_of_ble_eq_true rfl, Nat.le_of_ble_eq_true rfl⟩)) (fun r hr1 => ?_)
        subst hr1
        have hPx : va_P D vwCl (XU a cI cZ cD u) s.heap := hP.sub [0, 1, 2, 3, 4, 5, 6, 7, 8, 9, 10, 11, 12, 13, 14, 15, 16] rfl
        have hDx : va_D A (XU a cI cZ cD u) := hD.sub [0, 1, 2, 3, 4, 5, 6, 7, 8, 9, 10, 11, 12, 13, 14, 15, 16] (by decide) rfl
        have hFc := va_free (wc := XU a cI cZ cD u) hD hS hA [0, 1, 2, 3, 4, 5, 6, 7, 8, 9, 10, 11, 12, 13, 14, 15, 16] rfl
        refine va_calli (vx_runSW (As := [.ref (a 0), .int (nI 2), .int (lowS (sr v 6) (nI 5)), .int (lowS (sr v 9) (nI 51))]) (rest := []) ⟨hx, hb, hml, (xk_od hown), (dr_words hts _)⟩ (mL_does2 l hst D cI cZ cD a _ u (lowS (sr v 6) (nI 5)) (lowS (sr v 9) (nI 51)) hok) (vx_cwSW 4 (dr_words hts _) gL_act_L_does rfl rfl rfl (by decide +kernel) ⟨Nat.le_of_ble_eq_true rfl, Nat.le_of_ble_eq_true rfl⟩) ⟨lp_blind, lp_pre hPx (xk_Kd hK) hDx hE.drawn hN.drawn hS hFc⟩ rfl rfl hl.1 rfl (lv_room (Nat.le_of_ble_eq_true rfl)) dL_act_154 ⟨Nat.le_of_ble_eq_true rfl, Nat.le_of_ble_eq_true rfl⟩) hS (fun q _ h => hFc q h) hFc (fun r9 z t9 H locs ht hvm hw hB hz1 hk1 hS => ?_)
        obtain ⟨hP1, -, hD1⟩ := hB
        rw [ht] at hP1
        obtain ⟨hP, hD⟩ := va_join (wr := []) (w1 := XU a cI cZ cD z) hP hD [0, 1, 2, 3, 4, 5, 6, 7, 8, 9, 10, 11, 12, 13, 14, 15, 16] [] rfl rfl (by decide) (by decide) hk1 hFc hP1 hD1
        have hP : va_P D vwCl (XU a cI cZ cD z) H := hP.sub [0, 1, 2, 3, 4, 5, 6, 7, 8, 9, 10, 11, 12, 13, 14, 15, 16] rfl
        have hD : va_D A (XU a cI cZ cD z) := hD.sub [0, 1, 2, 3, 4, 5, 6, 7, 8, 9, 10, 11, 12, 13, 14, 15, 16] (by decide) rfl
        refine lv_i2d hx hb dL_act_157 ?_
        refine W.endD hd0 ?_
        exact W.dret hx hb hr (fun t ht hW => ⟨⟨_, z, rfl, (by unfold actS; rw [if_neg (fun z => absurd c1 (Int32.not_le.mpr z)), if_pos (Int32.not_le.mp c3), eo, if_neg co, ← hw]; rfl), by rw [ht]; exact hP, va_K.moved hW.alike (xk_Kd hK), hD⟩, hS.F ht⟩) hS.2.2 dL_act_158
    · skip
      refine lv_iload_n hx hb dL_act_59 rfl (lv_at hl 1 rfl) ?_
      refine lv_iconst (v := nI 5) hx hb dL_act_60 (by decide) ?_
      refine lv_icmp_ge (tgt := 101) hx hb dL_act_61 (by decide) (fun c2 => ?_) (fun c2 => ?_)
      · skip
        refine lv_aload_n hx hb dL_act_101 rfl (lv_at hl 3 rfl) ?_
        refine lv_iconst (v := nI 1) hx hb dL_act_102 (by decide) ?_
        refine lv_iload hx hb dL_act_103 (lv_at hl 0 rfl) ?_
        refine lv_iload_n hx hb dL_act_105 rfl (lv_at hl 4 rfl) ?_
        refine lv_bipush (v := nI 9) hx hb dL_act_106 (by decide) ?_
        refine lv_ishr hx hb dL_act_108 ?_
        refine lv_iconst (v := nI 1) hx hb dL_act_109 (by decide) ?_
        refine lv_iand hx hb dL_act_110 ?_
        have hPx : va_P D vwCl (XU a cI cZ cD u) s.heap := hP.sub [0, 1, 2, 3, 4, 5, 6, 7, 8, 9, 10, 11, 12, 13, 14, 15, 16] rfl
        have hDx : va_D A (XU a cI cZ cD u) := hD.sub [0, 1, 2, 3, 4, 5, 6, 7, 8, 9, 10, 11, 12, 13, 14, 15, 16] (by decide) rfl
        have hFc := va_free (wc := XU a cI cZ cD u) hD hS hA [0, 1, 2, 3, 4, 5, 6, 7, 8, 9, 10, 11, 12, 13, 14, 15, 16] rfl
        refine va_calli (vx_runSW (As := [.ref (a 0), .int (nI 1), .int (lowS (sr v 6) (nI 5)), .int (sr v 9 &&& nI 1)]) (rest := []) ⟨hx, hb, hml, (xk_od hown), (dr_words hts _)⟩ (mL_does1 l hst D cI cZ cD a _ u (lowS (sr v 6) (nI 5)) (sr v 9 &&& nI 1) hok) (vx_cwSW 4 (dr_words hts _) gL_act_L_does rfl rfl rfl (by decide +kernel) ⟨Nat.le_of_ble_eq_true rfl, Nat.le_of_ble_eq_true rfl⟩) ⟨lp_blind, lp_pre hPx (xk_Kd hK) hDx hE.drawn hN.drawn hS hFc⟩ rfl rfl hl.1 rfl (lv_room (Nat.le_of_ble_eq_true rfl)) dL_act_111 ⟨Nat.le_of_ble_eq_true rfl, Nat.le_of_ble_eq_true rfl⟩) hS (fun q _ h => hFc q h) hFc (fun r9 z t9 H locs ht hvm hw hB hz1 hk1 hS => ?_)
        obtain ⟨hP1, -, hD1⟩ := hB
        rw [ht] at hP1
        obtain ⟨hP, hD⟩ := va_join (wr := []) (w1 := XU a cI cZ cD z) hP hD [0, 1, 2, 3, 4, 5, 6, 7, 8, 9, 10, 11, 12, 13, 14, 15, 16] [] rfl rfl (by decide) (by decide) hk1 hFc hP1 hD1
        have hP : va_P D vwCl (XU a cI cZ cD z) H := hP.sub [0, 1, 2, 3, 4, 5, 6, 7, 8, 9, 10, 11, 12, 13, 14, 15, 16] rfl
        have hD : va_D A (XU a cI cZ cD z) := hD.sub [0, 1, 2, 3, 4, 5, 6, 7, 8, 9, 10, 11, 12, 13, 14, 15, 16] (by decide) rfl
        refine lv_i2d hx hb dL_act_114 ?_
        refine W.endD hd0 ?_
        exact W.dret hx hb hr (fun t ht hW => ⟨⟨_, z, rfl, (by unfold actS; rw [if_pos (Int32.not_le.mp c1), if_neg (fun z => absurd c2 (Int32.not_le.mpr z)), eo, ← hw]; rfl), by rw [ht]; exact hP, va_K.moved hW.alike (xk_Kd hK), hD⟩, hS.F ht⟩) hS.2.2 dL_act_115
      · skip
        refine lv_aload_n hx hb dL_act_64 rfl (lv_at hl 3 rfl) ?_
        refine lv_iconst (v := nI 0) hx hb dL_act_65 (by decide) ?_
        refine lv_iload hx hb dL_act_66 (lv_at hl 0 rfl) ?_
        refine lv_iload_n hx hb dL_act_68 rfl (lv_at hl 2 rfl) ?_
        refine lv_if_eq (tgt := 86) hx hb dL_act_69 (by decide) (fun c => ?_) (fun c => by first | exact absurd c (by decide) | exact absurd rfl c | exact (c (by decide)).elim)
        refine lv_iload_n hx hb dL_act_86 rfl (lv_at hl 4 rfl) ?_
        refine lv_bipush (v := nI 9) hx hb dL_act_87 (by decide) ?_
        refine lv_ishr hx hb dL_act_89 ?_
        refine lv_iconst (v := nI 4) hx hb dL_act_90 (by decide) ?_
        refine vp_callSi (va_Run.run (va_runS (As := [.int (sr v 9), .int (nI 4)]) (rest := [.int (lowS (sr v 6) (nI 5)), .int (nI 0), .ref (a 0)]) ⟨hx, hb, hml, (xk_od hown), (dr_words hts _)⟩ (mL_low l (sr v 9) (nI 4) (by decide)) (va_cwS 2 (dr_words hts _) gL_act_L_low rfl rfl rfl (by decide +kernel) ⟨Nat.le_of_ble_eq_true rfl, Nat.le_of_ble_eq_true rfl⟩) ⟨fun a U g mk q => q, fun U hU hW => ⟨rfl, trivial⟩⟩ rfl rfl hl.1 rfl (lv_room (Nat.le_of_ble_eq_true rfl)) dL_act_91 ⟨Nat.le_of_ble_eq_true rfl, Nat.le_of_ble_eq_true rfl⟩)) (fun r hr1 => ?_)
        subst hr1
        have hPx : va_P D vwCl (XU a cI cZ cD u) s.heap := hP.sub [0, 1, 2, 3, 4, 5, 6, 7, 8, 9, 10, 11, 12, 13, 14, 15, 16] rfl
        have hDx : va_D A (XU a cI cZ cD u) := hD.sub [0, 1, 2, 3, 4, 5, 6, 7, 8, 9, 10, 11, 12, 13, 14, 15, 16] (by decide) rfl
        have hFc := va_free (wc := XU a cI cZ cD u) hD hS hA [0, 1, 2, 3, 4, 5, 6, 7, 8, 9, 10, 11, 12, 13, 14, 15, 16] rfl
        refine va_calli (vx_runSW (As := [.ref (a 0), .int (nI 0), .int (lowS (sr v 6) (nI 5)), .int (lowS (sr v 9) (nI 4))]) (rest := []) ⟨hx, hb, hml, (xk_od hown), (dr_words hts _)⟩ (mL_does0 l hst D cI cZ cD a _ u (lowS (sr v 6) (nI 5)) (lowS (sr v 9) (nI 4))) (vx_cwSW 4 (dr_words hts _) gL_act_L_does rfl rfl rfl (by decide +kernel) ⟨Nat.le_of_ble_eq_true rfl, Nat.le_of_ble_eq_true rfl⟩) ⟨lp_blind, lp_pre hPx (xk_Kd hK) hDx hE.drawn hN.drawn hS hFc⟩ rfl rfl hl.1 rfl (lv_room (Nat.le_of_ble_eq_true rfl)) dL_act_94 ⟨Nat.le_of_ble_eq_true rfl, Nat.le_of_ble_eq_true rfl⟩) hS (fun q _ h => hFc q h) hFc (fun r9 z t9 H locs ht hvm hw hB hz1 hk1 hS => ?_)
        obtain ⟨hP1, -, hD1⟩ := hB
        rw [ht] at hP1
        obtain ⟨hP, hD⟩ := va_join (wr := []) (w1 := XU a cI cZ cD z) hP hD [0, 1, 2, 3, 4, 5, 6, 7, 8, 9, 10, 11, 12, 13, 14, 15, 16] [] rfl rfl (by decide) (by decide) hk1 hFc hP1 hD1
        have hP : va_P D vwCl (XU a cI cZ cD z) H := hP.sub [0, 1, 2, 3, 4, 5, 6, 7, 8, 9, 10, 11, 12, 13, 14, 15, 16] rfl
        have hD : va_D A (XU a cI cZ cD z) := hD.sub [0, 1, 2, 3, 4, 5, 6, 7, 8, 9, 10, 11, 12, 13, 14, 15, 16] (by decide) rfl
        refine lv_i2d hx hb dL_act_97 ?_
        refine lv_goto (tgt := 115) hx hb dL_act_98 (by decide) ?_
        refine W.endD hd0 ?_
        exact W.dret hx hb hr (fun t ht hW => ⟨⟨_, z, rfl, (by unfold actS; rw [if_pos (Int32.not_le.mp c1), if_pos (Int32.not_le.mp c2), eo, if_neg co, ← hw]; rfl), by rw [ht]; exact hP, va_K.moved hW.alike (xk_Kd hK), hD⟩, hS.F ht⟩) hS.2.2 dL_act_115
  · skip
    refine lv_iconst (v := nI 1) hx hb dL_act_12 (by decide) ?_
    refine lv_goto (tgt := 17) hx hb dL_act_13 (by decide) ?_
    refine lv_istore_n (lv' := [(2, .int (nI 1)), (0, .ref (a 0)), (1, .int v)]) hx hb dL_act_17 rfl hl (by decide) rfl (fun ls hl => ?_)
    have co : oddS v := co
    refine lv_iload_n hx hb dL_act_18 rfl (lv_at hl 2 rfl) ?_
    refine lv_bipush (v := nI 30) hx hb dL_act_19 (by decide) ?_
    refine vp_callSi (va_Run.run (va_runS (As := [.int v, .int (nI 30)]) (rest := []) ⟨hx, hb, hml, (xk_od hown), (dr_words hts _)⟩ (mL_low l v (nI 30) (by decide)) (va_cwS 2 (dr_words hts _) gL_act_L_low rfl rfl rfl (by decide +kernel) ⟨Nat.le_of_ble_eq_true rfl, Nat.le_of_ble_eq_true rfl⟩) ⟨fun a U g mk q => q, fun U hU hW => ⟨rfl, trivial⟩⟩ rfl rfl hl.1 rfl (lv_room (Nat.le_of_ble_eq_true rfl)) dL_act_21 ⟨Nat.le_of_ble_eq_true rfl, Nat.le_of_ble_eq_true rfl⟩)) (fun r hr1 => ?_)
    subst hr1
    refine lv_istore_n (lv' := [(3, .int (lowS v (nI 30))), (2, .int (nI 1)), (0, .ref (a 0)), (1, .int v)]) hx hb dL_act_24 rfl hl (by decide) rfl (fun ls hl => ?_)
    refine lv_iload_n hx hb dL_act_25 rfl (lv_at hl 1 rfl) ?_
    refine lv_if_eq (tgt := 43) hx hb dL_act_26 (by decide) (fun c => by first | exact absurd c (by decide) | exact absurd rfl c | exact (c (by decide)).elim) (fun c => ?_)
    refine lv_iload_n hx hb dL_act_29 rfl (lv_at hl 3 rfl) ?_
    refine lv_bipush (v := nI 6) hx hb dL_act_30 (by decide) ?_
    refine lv_ishr hx hb dL_act_32 ?_
    refine lv_bipush (v := nI 8) hx hb dL_act_33 (by decide) ?_
    refine vp_callSi (va_Run.run (va_runS (As := [.int (sr v 6), .int (nI 8)]) (rest := []) ⟨hx, hb, hml, (xk_od hown), (dr_words hts _)⟩ (mL_low l (sr v 6) (nI 8) (by decide)) (va_cwS 2 (dr_words hts _) gL_act_L_low rfl rfl rfl (by decide +kernel) ⟨Nat.le_of_ble_eq_true rfl, Nat.le_of_ble_eq_true rfl⟩) ⟨fun a U g mk q => q, fun U hU hW => ⟨rfl, trivial⟩⟩ rfl rfl hl.1 rfl (lv_room (Nat.le_of_ble_eq_true rfl)) dL_act_35 ⟨Nat.le_of_ble_eq_true rfl, Nat.le_of_ble_eq_true rfl⟩)) (fun r hr1 => ?_)
    subst hr1
    refine lv_iconst (v := nI 1) hx hb dL_act_38 (by decide) ?_
    refine lv_isub hx hb dL_act_39 ?_
    refine lv_goto (tgt := 51) hx hb dL_act_40 (by decide) ?_
    have eo : ownS v = lowS (sr v 6) (nI 8) - nI 1 := if_pos co
    refine lv_istore (lv' := [(4, .int (lowS (sr v 6) (nI 8) - nI 1)), (3, .int (lowS v (nI 30))), (2, .int (nI 1)), (0, .ref (a 0)), (1, .int v)]) hx hb dL_act_51 hl (by decide) rfl (fun ls hl => ?_)
    refine lv_iload_n hx hb dL_act_53 rfl (lv_at hl 1 rfl) ?_
    refine lv_bipush (v := nI 7) hx hb dL_act_54 (by decide) ?_
    refine lv_icmp_ge (tgt := 116) hx hb dL_act_56 (by decide) (fun c1 => ?_) (fun c1 => ?_)
    · skip
      refine lv_iload_n hx hb dL_act_116 rfl (lv_at hl 1 rfl) ?_
      refine lv_bipush (v := nI 23) hx hb dL_act_117 (by decide) ?_
      refine lv_icmp_ge (tgt := 159) hx hb dL_act_119 (by decide) (fun c3 => ?_) (fun c3 => ?_)
      · skip
        refine lv_iload_n hx hb dL_act_159 rfl (lv_at hl 1 rfl) ?_
        refine lv_bipush (v := nI 26) hx hb dL_act_160 (by decide) ?_
        refine lv_icmp_ge (tgt := 278) hx hb dL_act_162 (by decide) (fun c4 => ?_) (fun c4 => ?_)
        · skip
          refine lv_aload_n hx hb dL_act_278 rfl (lv_at hl 3 rfl) ?_
          refine lv_iconst (v := nI 3) hx hb dL_act_279 (by decide) ?_
          refine lv_iload_n hx hb dL_act_280 rfl (lv_at hl 2 rfl) ?_
          refine lv_if_eq (tgt := 300) hx hb dL_act_281 (by decide) (fun c => by first | exact absurd c (by decide) | exact absurd rfl c | exact (c (by decide)).elim) (fun c => ?_)
          refine lv_iload_n hx hb dL_act_284 rfl (lv_at hl 4 rfl) ?_
          refine lv_bipush (v := nI 6) hx hb dL_act_285 (by decide) ?_
          refine lv_ishr hx hb dL_act_287 ?_
          refine lv_sipush (v := nI 130) hx hb dL_act_288 (by decide) ?_
          refine vp_callSi (va_Run.run (va_runS (As := [.int (sr v 6), .int (nI 130)]) (rest := [.int (nI 3), .ref (a 0)]) ⟨hx, hb, hml, (xk_od hown), (dr_words hts _)⟩ (mL_low l (sr v 6) (nI 130) (by decide)) (va_cwS 2 (dr_words hts _) gL_act_L_low rfl rfl rfl (by decide +kernel) ⟨Nat.le_of_ble_eq_true rfl, Nat.le_of_ble_eq_true rfl⟩) ⟨fun a U g mk q => q, fun U hU hW => ⟨rfl, trivial⟩⟩ rfl rfl hl.1 rfl (lv_room (Nat.le_of_ble_eq_true rfl)) dL_act_291 ⟨Nat.le_of_ble_eq_true rfl, Nat.le_of_ble_eq_true rfl⟩)) (fun r hr1 => ?_)
          subst hr1
          refine lv_bipush (v := nI 9) hx hb dL_act_294 (by decide) ?_
          refine lv_isub hx hb dL_act_296 ?_
          refine lv_goto (tgt := 309) hx hb dL_act_297 (by decide) ?_
          refine lv_iconst (v := nI 0) hx hb dL_act_309 (by decide) ?_
          have hPx : va_P D vwCl (XU a cI cZ cD u) s.heap := hP.sub [0, 1, 2, 3, 4, 5, 6, 7, 8, 9, 10, 11, 12, 13, 14, 15, 16] rfl
          have hDx : va_D A (XU a cI cZ cD u) := hD.sub [0, 1, 2, 3, 4, 5, 6, 7, 8, 9, 10, 11, 12, 13, 14, 15, 16] (by decide) rfl
          have hFc := va_free (wc := XU a cI cZ cD u) hD hS hA [0, 1, 2, 3, 4, 5, 6, 7, 8, 9, 10, 11, 12, 13, 14, 15, 16] rfl
          refine va_calliD hd0 (xd_runSX (As := [.ref (a 0), .int (nI 3), .int (lowS (sr v 6) (nI 130) - nI 9), .int (nI 0)]) (rest := []) ⟨hx, hb, hml, (xk_od hown), (dr_words hts _)⟩ (mL_does3 l hst D cI cZ cD a _ u (lowS (sr v 6) (nI 130) - nI 9) (nI 0) hok) (vx_cwSW 4 (dr_words hts _) gL_act_L_does rfl rfl rfl (by decide +kernel) ⟨Nat.le_of_ble_eq_true rfl, Nat.le_of_ble_eq_true rfl⟩) ⟨lp_blind, lp_pre hPx (xk_Kd hK) hDx hE.drawn hN.drawn hS hFc⟩ rfl rfl hl.1 rfl (lv_room (Nat.le_of_ble_eq_true rfl)) dL_act_310 ⟨Nat.le_of_ble_eq_true rfl, Nat.le_of_ble_eq_true rfl⟩) hS (fun q _ h => hFc q h) hFc (fun r9 z t9 H locs ht hvm hw hB hz1 hk1 hS _ hd7 => ?_)
          obtain ⟨hP1, -, hD1⟩ := hB
          rw [ht] at hP1
          obtain ⟨hP, hD⟩ := va_join (wr := []) (w1 := XU a cI cZ cD z) hP hD [0, 1, 2, 3, 4, 5, 6, 7, 8, 9, 10, 11, 12, 13, 14, 15, 16] [] rfl rfl (by decide) (by decide) hk1 hFc hP1 hD1
          have hP : va_P D vwCl (XU a cI cZ cD z) H := hP.sub [0, 1, 2, 3, 4, 5, 6, 7, 8, 9, 10, 11, 12, 13, 14, 15, 16] rfl
          have hD : va_D A (XU a cI cZ cD z) := hD.sub [0, 1, 2, 3, 4, 5, 6, 7, 8, 9, 10, 11, 12, 13, 14, 15, 16] (by decide) rfl
          refine lv_i2d hx hb dL_act_313 ?_
          refine W.endD hd7 ?_
          exact W.dret hx hb hr (fun t ht hW => ⟨⟨_, z, rfl, (by unfold actS; rw [if_neg (fun z => absurd c1 (Int32.not_le.mpr z)), if_neg (fun z => absurd c3 (Int32.not_le.mpr z)), if_neg (fun z => absurd c4 (Int32.not_le.mpr z)), if_pos co, ← hw]; rfl), by rw [ht]; exact hP, va_K.moved hW.alike (xk_Kd hK), hD⟩, hS.F ht⟩) hS.2.2 dL_act_314
        · skip
          refine lv_iload_n hx hb dL_act_165 rfl (lv_at hl 2 rfl) ?_
          refine lv_if_eq (tgt := 183) hx hb dL_act_166 (by decide) (fun c => by first | exact absurd c (by decide) | exact absurd rfl c | exact (c (by decide)).elim) (fun c => ?_)
          refine lv_iload_n hx hb dL_act_169 rfl (lv_at hl 4 rfl) ?_
          refine lv_bipush (v := nI 9) hx hb dL_act_170 (by decide) ?_
          refine lv_ishr hx hb dL_act_172 ?_
          refine lv_bipush (v := nI 70) hx hb dL_act_173 (by decide) ?_
          refine vp_callSi (va_Run.run (va_runS (As := [.int (sr v 9), .int (nI 70)]) (rest := []) ⟨hx, hb, hml, (xk_od hown), (dr_words hts _)⟩ (mL_low l (sr v 9) (nI 70) (by decide)) (va_cwS 2 (dr_words hts _) gL_act_L_low rfl rfl rfl (by decide +kernel) ⟨Nat.le_of_ble_eq_true rfl, Nat.le_of_ble_eq_true rfl⟩) ⟨fun a U g mk q => q, fun U hU hW => ⟨rfl, trivial⟩⟩ rfl rfl hl.1 rfl (lv_room (Nat.le_of_ble_eq_true rfl)) dL_act_175 ⟨Nat.le_of_ble_eq_true rfl, Nat.le_of_ble_eq_true rfl⟩)) (fun r hr1 => ?_)
          subst hr1
          refine lv_iconst (v := nI 3) hx hb dL_act_178 (by decide) ?_
          refine lv_isub hx hb dL_act_179 ?_
          refine lv_goto (tgt := 196) hx hb dL_act_180 (by decide) ?_
          refine lv_istore (lv' := [(5, .int (lowS (sr v 9) (nI 70) - nI 3)), (4, .int (lowS (sr v 6) (nI 8) - nI 1)), (3, .int (lowS v (nI 30))), (2, .int (nI 1)), (0, .ref (a 0)), (1, .int v)]) hx hb dL_act_196 hl (by decide) rfl (fun ls hl => ?_)
          refine lv_iload_n hx hb dL_act_198 rfl (lv_at hl 2 rfl) ?_
          refine lv_bipush (v := nI 25) hx hb dL_act_199 (by decide) ?_
          refine lv_icmp_ge (tgt := 244) hx hb dL_act_201 (by decide) (fun c5 => ?_) (fun c5 => ?_)
          · skip
            refine lv_aload_n hx hb dL_act_244 rfl (lv_at hl 4 rfl) ?_
            refine lv_iconst (v := nI 0) hx hb dL_act_245 (by decide) ?_
            refine lv_iload_n hx hb dL_act_246 rfl (lv_at hl 3 rfl) ?_
            refine lv_if_eq (tgt := 264) hx hb dL_act_247 (by decide) (fun c => by first | exact absurd c (by decide) | exact absurd rfl c | exact (c (by decide)).elim) (fun c => ?_)
            refine lv_iload_n hx hb dL_act_250 rfl (lv_at hl 5 rfl) ?_
            refine lv_bipush (v := nI 9) hx hb dL_act_251 (by decide) ?_
            refine lv_ishr hx hb dL_act_253 ?_
            refine lv_bipush (v := nI 8) hx hb dL_act_254 (by decide) ?_
            refine vp_callSi (va_Run.run (va_runS (As := [.int (sr v 9), .int (nI 8)]) (rest := [.int (nI 0), .ref (a 0)]) ⟨hx, hb, hml, (xk_od hown), (dr_words hts _)⟩ (mL_low l (sr v 9) (nI 8) (by decide)) (va_cwS 2 (dr_words hts _) gL_act_L_low rfl rfl rfl (by decide +kernel) ⟨Nat.le_of_ble_eq_true rfl, Nat.le_of_ble_eq_true rfl⟩) ⟨fun a U g mk q => q, fun U hU hW => ⟨rfl, trivial⟩⟩ rfl rfl hl.1 rfl (lv_room (Nat.le_of_ble_eq_true rfl)) dL_act_256 ⟨Nat.le_of_ble_eq_true rfl, Nat.le_of_ble_eq_true rfl⟩)) (fun r hr1 => ?_)
            subst hr1
            refine lv_iconst (v := nI 1) hx hb dL_act_259 (by decide) ?_
            refine lv_isub hx hb dL_act_260 ?_
            refine lv_goto (tgt := 272) hx hb dL_act_261 (by decide) ?_
            refine lv_iconst (v := nI 0) hx hb dL_act_272 (by decide) ?_
            refine lv_iconst (v := nI 0) hx hb dL_act_273 (by decide) ?_
            have hPx : va_P D vwCl (XU a cI cZ cD u) s.heap := hP.sub [0, 1, 2, 3, 4, 5, 6, 7, 8, 9, 10, 11, 12, 13, 14, 15, 16] rfl
            have hDx : va_D A (XU a cI cZ cD u) := hD.sub [0, 1, 2, 3, 4, 5, 6, 7, 8, 9, 10, 11, 12, 13, 14, 15, 16] (by decide) rfl
            have hFc := va_free (wc := XU a cI cZ cD u) hD hS hA [0, 1, 2, 3, 4, 5, 6, 7, 8, 9, 10, 11, 12, 13, 14, 15, 16] rfl
            refine va_calld (vx_runSW (As := [.ref (a 0), .int (nI 0), .int (lowS (sr v 9) (nI 8) - nI 1), .int (nI 0), .int (nI 0)]) (rest := []) ⟨hx, hb, hml, (xk_od hown), (dr_words hts _)⟩ (mL_looks0 l hst D cI cZ cD a _ u (lowS (sr v 9) (nI 8) - nI 1) (nI 0) (nI 0)) (vx_cwSW 5 (dr_words hts _) gL_act_L_looks rfl rfl rfl (by decide +kernel) ⟨Nat.le_of_ble_eq_true rfl, Nat.le_of_ble_eq_true rfl⟩) ⟨lp_blind, lp_pre hPx (xk_Kd hK) hDx hE.drawn hN.drawn hS hFc⟩ rfl rfl hl.1 rfl (lv_room (Nat.le_of_ble_eq_true rfl)) dL_act_274 ⟨Nat.le_of_ble_eq_true rfl, Nat.le_of_ble_eq_true rfl⟩) hS (fun q _ h => hFc q h) hFc (fun r9 z t9 H locs ht hvm hw hB hz1 hk1 hS => ?_)
            obtain ⟨hP1, -, hD1⟩ := hB
            rw [ht] at hP1
            obtain ⟨hP, hD⟩ := va_join (wr := []) (w1 := XU a cI cZ cD z) hP hD [0, 1, 2, 3, 4, 5, 6, 7, 8, 9, 10, 11, 12, 13, 14, 15, 16] [] rfl rfl (by decide) (by decide) hk1 hFc hP1 hD1
            have hP : va_P D vwCl (XU a cI cZ cD z) H := hP.sub [0, 1, 2, 3, 4, 5, 6, 7, 8, 9, 10, 11, 12, 13, 14, 15, 16] rfl
            have hD : va_D A (XU a cI cZ cD z) := hD.sub [0, 1, 2, 3, 4, 5, 6, 7, 8, 9, 10, 11, 12, 13, 14, 15, 16] (by decide) rfl
            refine W.endD hd0 ?_
            exact W.dret hx hb hr (fun t ht hW => ⟨⟨_, z, rfl, (by unfold actS; rw [if_neg (fun z => absurd c1 (Int32.not_le.mpr z)), if_neg (fun z => absurd c3 (Int32.not_le.mpr z)), if_pos (Int32.not_le.mp c4), if_neg (fun z => absurd c5 (Int32.not_le.mpr z)), if_pos co]; exact hw), by rw [ht]; exact hP, va_K.moved hW.alike (xk_Kd hK), hD⟩, hS.F ht⟩) hS.2.2 dL_act_277
          · skip
            refine lv_aload_n hx hb dL_act_204 rfl (lv_at hl 4 rfl) ?_
            refine lv_iconst (v := nI 1) hx hb dL_act_205 (by decide) ?_
            refine lv_iload hx hb dL_act_206 (lv_at hl 1 rfl) ?_
            refine lv_iload hx hb dL_act_208 (lv_at hl 0 rfl) ?_
            refine lv_iload_n hx hb dL_act_210 rfl (lv_at hl 3 rfl) ?_
            refine lv_if_eq (tgt := 229) hx hb dL_act_211 (by decide) (fun c => by first | exact absurd c (by decide) | exact absurd rfl c | exact (c (by decide)).elim) (fun c => ?_)
            refine lv_iload_n hx hb dL_act_214 rfl (lv_at hl 5 rfl) ?_
            refine lv_bipush (v := nI 12) hx hb dL_act_215 (by decide) ?_
            refine lv_ishr hx hb dL_act_217 ?_
            refine lv_bipush (v := nI 70) hx hb dL_act_218 (by decide) ?_
            refine vp_callSi (va_Run.run (va_runS (As := [.int (sr v 12), .int (nI 70)]) (rest := [.int (lowS (sr v 9) (nI 70) - nI 3), .int (lowS (sr v 6) (nI 8) - nI 1), .int (nI 1), .ref (a 0)]) ⟨hx, hb, hml, (xk_od hown), (dr_words hts _)⟩ (mL_low l (sr v 12) (nI 70) (by decide)) (va_cwS 2 (dr_words hts _) gL_act_L_low rfl rfl rfl (by decide +kernel) ⟨Nat.le_of_ble_eq_true rfl, Nat.le_of_ble_eq_true rfl⟩) ⟨fun a U g mk q => q, fun U hU hW => ⟨rfl, trivial⟩⟩ rfl rfl hl.1 rfl (lv_room (Nat.le_of_ble_eq_true rfl)) dL_act_220 ⟨Nat.le_of_ble_eq_true rfl, Nat.le_of_ble_eq_true rfl⟩)) (fun r hr1 => ?_)
            subst hr1
            refine lv_bipush (v := nI 9) hx hb dL_act_223 (by decide) ?_
            refine lv_isub hx hb dL_act_225 ?_
            refine lv_goto (tgt := 238) hx hb dL_act_226 (by decide) ?_
            have hPx : va_P D vwCl (XU a cI cZ cD u) s.heap := hP.sub [0, 1, 2, 3, 4, 5, 6, 7, 8, 9, 10, 11, 12, 13, 14, 15, 16] rfl
            have hDx : va_D A (XU a cI cZ cD u) := hD.sub [0, 1, 2, 3, 4, 5, 6, 7, 8, 9, 10, 11, 12, 13, 14, 15, 16] (by decide) rfl
            have hFc := va_free (wc := XU a cI cZ cD u) hD hS hA [0, 1, 2, 3, 4, 5, 6, 7, 8, 9, 10, 11, 12, 13, 14, 15, 16] rfl
            refine va_calldD hd0 (xd_runSX (As := [.ref (a 0), .int (nI 1), .int (lowS (sr v 6) (nI 8) - nI 1), .int (lowS (sr v 9) (nI 70) - nI 3), .int (lowS (sr v 12) (nI 70) - nI 9)]) (rest := []) ⟨hx, hb, hml, (xk_od hown), (dr_words hts _)⟩ (mL_looks1 l hst D cI cZ cD a _ u (lowS (sr v 6) (nI 8) - nI 1) (lowS (sr v 9) (nI 70) - nI 3) (lowS (sr v 12) (nI 70) - nI 9) hok) (vx_cwSW 5 (dr_words hts _) gL_act_L_looks rfl rfl rfl (by decide +kernel) ⟨Nat.le_of_ble_eq_true rfl, Nat.le_of_ble_eq_true rfl⟩) ⟨lp_blind, lp_pre hPx (xk_Kd hK) hDx hE.drawn hN.drawn hS hFc⟩ rfl rfl hl.1 rfl (lv_room (Nat.le_of_ble_eq_true rfl)) dL_act_238 ⟨Nat.le_of_ble_eq_true rfl, Nat.le_of_ble_eq_true rfl⟩) hS (fun q _ h => hFc q h) hFc (fun r9 z t9 H locs ht hvm hw hB hz1 hk1 hS _ hd9 => ?_)
            obtain ⟨hP1, -, hD1⟩ := hB
            rw [ht] at hP1
            obtain ⟨hP, hD⟩ := va_join (wr := []) (w1 := XU a cI cZ cD z) hP hD [0, 1, 2, 3, 4, 5, 6, 7, 8, 9, 10, 11, 12, 13, 14, 15, 16] [] rfl rfl (by decide) (by decide) hk1 hFc hP1 hD1
            have hP : va_P D vwCl (XU a cI cZ cD z) H := hP.sub [0, 1, 2, 3, 4, 5, 6, 7, 8, 9, 10, 11, 12, 13, 14, 15, 16] rfl
            have hD : va_D A (XU a cI cZ cD z) := hD.sub [0, 1, 2, 3, 4, 5, 6, 7, 8, 9, 10, 11, 12, 13, 14, 15, 16] (by decide) rfl
            refine lv_goto (tgt := 277) hx hb dL_act_241 (by decide) ?_
            refine W.endD hd9 ?_
            exact W.dret hx hb hr (fun t ht hW => ⟨⟨_, z, rfl, (by unfold actS; rw [if_neg (fun z => absurd c1 (Int32.not_le.mpr z)), if_neg (fun z => absurd c3 (Int32.not_le.mpr z)), if_pos (Int32.not_le.mp c4), if_pos (Int32.not_le.mp c5), eo, if_pos co, if_pos co]; exact hw), by rw [ht]; exact hP, va_K.moved hW.alike (xk_Kd hK), hD⟩, hS.F ht⟩) hS.2.2 dL_act_277
      · skip
        refine lv_aload_n hx hb dL_act_122 rfl (lv_at hl 3 rfl) ?_
        refine lv_iconst (v := nI 2) hx hb dL_act_123 (by decide) ?_
        refine lv_iload hx hb dL_act_124 (lv_at hl 0 rfl) ?_
        refine lv_iload_n hx hb dL_act_126 rfl (lv_at hl 2 rfl) ?_
        refine lv_if_eq (tgt := 145) hx hb dL_act_127 (by decide) (fun c => by first | exact absurd c (by decide) | exact absurd rfl c | exact (c (by decide)).elim) (fun c => ?_)
        refine lv_iload_n hx hb dL_act_130 rfl (lv_at hl 4 rfl) ?_
        refine lv_bipush (v := nI 9) hx hb dL_act_131 (by decide) ?_
        refine lv_ishr hx hb dL_act_133 ?_
        refine lv_bipush (v := nI 70) hx hb dL_act_134 (by decide) ?_
        refine vp_callSi (va_Run.run (va_runS (As := [.int (sr v 9), .int (nI 70)]) (rest := [.int (lowS (sr v 6) (nI 8) - nI 1), .int (nI 2), .ref (a 0)]) ⟨hx, hb, hml, (xk_od hown), (dr_words hts _)⟩ (mL_low l (sr v 9) (nI 70) (by decide)) (va_cwS 2 (dr_words hts _) gL_act_L_low rfl rfl rfl (by decide +kernel) ⟨Nat.le_of_ble_eq_true rfl, Nat.le_of_ble_eq_true rfl⟩) ⟨fun a U g mk q => q, fun U hU hW => ⟨rfl, trivial⟩⟩ rfl rfl hl.1 rfl (lv_room (Nat.le_of_ble_eq_true rfl)) dL_act_136 ⟨Nat.le_of_ble_eq_true rfl, Nat.le_of_ble_eq_true rfl⟩)) (fun r hr1 => ?_)
        subst hr1
        refine lv_bipush (v := nI 9) hx hb dL_act_139 (by decide) ?_
        refine lv_isub hx hb dL_act_141 ?_
        refine lv_goto (tgt := 154) hx hb dL_act_142 (by decide) ?_
        have hPx : va_P D vwCl (XU a cI cZ cD u) s.heap := hP.sub [0, 1, 2, 3, 4, 5, 6, 7, 8, 9, 10, 11, 12, 13, 14, 15, 16] rfl
        have hDx : va_D A (XU a cI cZ cD u) := hD.sub [0, 1, 2, 3, 4, 5, 6, 7, 8, 9, 10, 11, 12, 13, 14, 15, 16] (by decide) rfl
        have hFc := va_free (wc := XU a cI cZ cD u) hD hS hA [0, 1, 2, 3, 4, 5, 6, 7, 8, 9, 10, 11, 12, 13, 14, 15, 16] rfl
        refine va_calli (vx_runSW (As := [.ref (a 0), .int (nI 2), .int (lowS (sr v 6) (nI 8) - nI 1), .int (lowS (sr v 9) (nI 70) - nI 9)]) (rest := []) ⟨hx, hb, hml, (xk_od hown), (dr_words hts _)⟩ (mL_does2 l hst D cI cZ cD a _ u (lowS (sr v 6) (nI 8) - nI 1) (lowS (sr v 9) (nI 70) - nI 9) hok) (vx_cwSW 4 (dr_words hts _) gL_act_L_does rfl rfl rfl (by decide +kernel) ⟨Nat.le_of_ble_eq_true rfl, Nat.le_of_ble_eq_true rfl⟩) ⟨lp_blind, lp_pre hPx (xk_Kd hK) hDx hE.drawn hN.drawn hS hFc⟩ rfl rfl hl.1 rfl (lv_room (Nat.le_of_ble_eq_true rfl)) dL_act_154 ⟨Nat.le_of_ble_eq_true rfl, Nat.le_of_ble_eq_true rfl⟩) hS (fun q _ h => hFc q h) hFc (fun r9 z t9 H locs ht hvm hw hB hz1 hk1 hS => ?_)
        obtain ⟨hP1, -, hD1⟩ := hB
        rw [ht] at hP1
        obtain ⟨hP, hD⟩ := va_join (wr := []) (w1 := XU a cI cZ cD z) hP hD [0, 1, 2, 3, 4, 5, 6, 7, 8, 9, 10, 11, 12, 13, 14, 15, 16] [] rfl rfl (by decide) (by decide) hk1 hFc hP1 hD1
        have hP : va_P D vwCl (XU a cI cZ cD z) H := hP.sub [0, 1, 2, 3, 4, 5, 6, 7, 8, 9, 10, 11, 12, 13, 14, 15, 16] rfl
        have hD : va_D A (XU a cI cZ cD z) := hD.sub [0, 1, 2, 3, 4, 5, 6, 7, 8, 9, 10, 11, 12, 13, 14, 15, 16] (by decide) rfl
        refine lv_i2d hx hb dL_act_157 ?_
        refine W.endD hd0 ?_
        exact W.dret hx hb hr (fun t ht hW => ⟨⟨_, z, rfl, (by unfold actS; rw [if_neg (fun z => absurd c1 (Int32.not_le.mpr z)), if_pos (Int32.not_le.mp c3), eo, if_pos co, ← hw]; rfl), by rw [ht]; exact hP, va_K.moved hW.alike (xk_Kd hK), hD⟩, hS.F ht⟩) hS.2.2 dL_act_158
    · skip
      refine lv_iload_n hx hb dL_act_59 rfl (lv_at hl 1 rfl) ?_
      refine lv_iconst (v := nI 5) hx hb dL_act_60 (by decide) ?_
      refine lv_icmp_ge (tgt := 101) hx hb dL_act_61 (by decide) (fun c2 => ?_) (fun c2 => ?_)
      · skip
        refine lv_aload_n hx hb dL_act_101 rfl (lv_at hl 3 rfl) ?_
        refine lv_iconst (v := nI 1) hx hb dL_act_102 (by decide) ?_
        refine lv_iload hx hb dL_act_103 (lv_at hl 0 rfl) ?_
        refine lv_iload_n hx hb dL_act_105 rfl (lv_at hl 4 rfl) ?_
        refine lv_bipush (v := nI 9) hx hb dL_act_106 (by decide) ?_
        refine lv_ishr hx hb dL_act_108 ?_
        refine lv_iconst (v := nI 1) hx hb dL_act_109 (by decide) ?_
        refine lv_iand hx hb dL_act_110 ?_
        have hPx : va_P D vwCl (XU a cI cZ cD u) s.heap := hP.sub [0, 1, 2, 3, 4, 5, 6, 7, 8, 9, 10, 11, 12, 13, 14, 15, 16] rfl
        have hDx : va_D A (XU a cI cZ cD u) := hD.sub [0, 1, 2, 3, 4, 5, 6, 7, 8, 9, 10, 11, 12, 13, 14, 15, 16] (by decide) rfl
        have hFc := va_free (wc := XU a cI cZ cD u) hD hS hA [0, 1, 2, 3, 4, 5, 6, 7, 8, 9, 10, 11, 12, 13, 14, 15, 16] rfl
        refine va_calli (vx_runSW (As := [.ref (a 0), .int (nI 1), .int (lowS (sr v 6) (nI 8) - nI 1), .int (sr v 9 &&& nI 1)]) (rest := []) ⟨hx, hb, hml, (xk_od hown), (dr_words hts _)⟩ (mL_does1 l hst D cI cZ cD a _ u (lowS (sr v 6) (nI 8) - nI 1) (sr v 9 &&& nI 1) hok) (vx_cwSW 4 (dr_words hts _) gL_act_L_does rfl rfl rfl (by decide +kernel) ⟨Nat.le_of_ble_eq_true rfl, Nat.le_of_ble_eq_true rfl⟩) ⟨lp_blind, lp_pre hPx (xk_Kd hK) hDx hE.drawn hN.drawn hS hFc⟩ rfl rfl hl.1 rfl (lv_room (Nat.le_of_ble_eq_true rfl)) dL_act_111 ⟨Nat.le_of_ble_eq_true rfl, Nat.le_of_ble_eq_true rfl⟩) hS (fun q _ h => hFc q h) hFc (fun r9 z t9 H locs ht hvm hw hB hz1 hk1 hS => ?_)
        obtain ⟨hP1, -, hD1⟩ := hB
        rw [ht] at hP1
        obtain ⟨hP, hD⟩ := va_join (wr := []) (w1 := XU a cI cZ cD z) hP hD [0, 1, 2, 3, 4, 5, 6, 7, 8, 9, 10, 11, 12, 13, 14, 15, 16] [] rfl rfl (by decide) (by decide) hk1 hFc hP1 hD1
        have hP : va_P D vwCl (XU a cI cZ cD z) H := hP.sub [0, 1, 2, 3, 4, 5, 6, 7, 8, 9, 10, 11, 12, 13, 14, 15, 16] rfl
        have hD : va_D A (XU a cI cZ cD z) := hD.sub [0, 1, 2, 3, 4, 5, 6, 7, 8, 9, 10, 11, 12, 13, 14, 15, 16] (by decide) rfl
        refine lv_i2d hx hb dL_act_114 ?_
        refine W.endD hd0 ?_
        exact W.dret hx hb hr (fun t ht hW => ⟨⟨_, z, rfl, (by unfold actS; rw [if_pos (Int32.not_le.mp c1), if_neg (fun z => absurd c2 (Int32.not_le.mpr z)), eo, ← hw]; rfl), by rw [ht]; exact hP, va_K.moved hW.alike (xk_Kd hK), hD⟩, hS.F ht⟩) hS.2.2 dL_act_115
      · skip
        refine lv_aload_n hx hb dL_act_64 rfl (lv_at hl 3 rfl) ?_
        refine lv_iconst (v := nI 0) hx hb dL_act_65 (by decide) ?_
        refine lv_iload hx hb dL_act_66 (lv_at hl 0 rfl) ?_
        refine lv_iload_n hx hb dL_act_68 rfl (lv_at hl 2 rfl) ?_
        refine lv_if_eq (tgt := 86) hx hb dL_act_69 (by decide) (fun c => by first | exact absurd c (by decide) | exact absurd rfl c | exact (c (by decide)).elim) (fun c => ?_)
        refine lv_iload_n hx hb dL_act_72 rfl (lv_at hl 4 rfl) ?_
        refine lv_bipush (v := nI 9) hx hb dL_act_73 (by decide) ?_
        refine lv_ishr hx hb dL_act_75 ?_
        refine lv_bipush (v := nI 9) hx hb dL_act_76 (by decide) ?_
        refine vp_callSi (va_Run.run (va_runS (As := [.int (sr v 9), .int (nI 9)]) (rest := [.int (lowS (sr v 6) (nI 8) - nI 1), .int (nI 0), .ref (a 0)]) ⟨hx, hb, hml, (xk_od hown), (dr_words hts _)⟩ (mL_low l (sr v 9) (nI 9) (by decide)) (va_cwS 2 (dr_words hts _) gL_act_L_low rfl rfl rfl (by decide +kernel) ⟨Nat.le_of_ble_eq_true rfl, Nat.le_of_ble_eq_true rfl⟩) ⟨fun a U g mk q => q, fun U hU hW => ⟨rfl, trivial⟩⟩ rfl rfl hl.1 rfl (lv_room (Nat.le_of_ble_eq_true rfl)) dL_act_78 ⟨Nat.le_of_ble_eq_true rfl, Nat.le_of_ble_eq_true rfl⟩)) (fun r hr1 => ?_)
        subst hr1
        refine lv_iconst (v := nI 2) hx hb dL_act_81 (by decide) ?_
        refine lv_isub hx hb dL_act_82 ?_
        refine lv_goto (tgt := 94) hx hb dL_act_83 (by decide) ?_
        have hPx : va_P D vwCl (XU a cI cZ cD u) s.heap := hP.sub [0, 1, 2, 3, 4, 5, 6, 7, 8, 9, 10, 11, 12, 13, 14, 15, 16] rfl
        have hDx : va_D A (XU a cI cZ cD u) := hD.sub [0, 1, 2, 3, 4, 5, 6, 7, 8, 9, 10, 11, 12, 13, 14, 15, 16] (by decide) rfl
        have hFc := va_free (wc := XU a cI cZ cD u) hD hS hA [0, 1, 2, 3, 4, 5, 6, 7, 8, 9, 10, 11, 12, 13, 14, 15, 16] rfl
        refine va_calli (vx_runSW (As := [.ref (a 0), .int (nI 0), .int (lowS (sr v 6) (nI 8) - nI 1), .int (lowS (sr v 9) (nI 9) - nI 2)]) (rest := []) ⟨hx, hb, hml, (xk_od hown), (dr_words hts _)⟩ (mL_does0 l hst D cI cZ cD a _ u (lowS (sr v 6) (nI 8) - nI 1) (lowS (sr v 9) (nI 9) - nI 2)) (vx_cwSW 4 (dr_words hts _) gL_act_L_does rfl rfl rfl (by decide +kernel) ⟨Nat.le_of_ble_eq_true rfl, Nat.le_of_ble_eq_true rfl⟩) ⟨lp_blind, lp_pre hPx (xk_Kd hK) hDx hE.drawn hN.drawn hS hFc⟩ rfl rfl hl.1 rfl (lv_room (Nat.le_of_ble_eq_true rfl)) dL_act_94 ⟨Nat.le_of_ble_eq_true rfl, Nat.le_of_ble_eq_true rfl⟩) hS (fun q _ h => hFc q h) hFc (fun r9 z t9 H locs ht hvm hw hB hz1 hk1 hS => ?_)
        obtain ⟨hP1, -, hD1⟩ := hB
        rw [ht] at hP1
        obtain ⟨hP, hD⟩ := va_join (wr := []) (w1 := XU a cI cZ cD z) hP hD [0, 1, 2, 3, 4, 5, 6, 7, 8, 9, 10, 11, 12, 13, 14, 15, 16] [] rfl rfl (by decide) (by decide) hk1 hFc hP1 hD1
        have hP : va_P D vwCl (XU a cI cZ cD z) H := hP.sub [0, 1, 2, 3, 4, 5, 6, 7, 8, 9, 10, 11, 12, 13, 14, 15, 16] rfl
        have hD : va_D A (XU a cI cZ cD z) := hD.sub [0, 1, 2, 3, 4, 5, 6, 7, 8, 9, 10, 11, 12, 13, 14, 15, 16] (by decide) rfl
        refine lv_i2d hx hb dL_act_97 ?_
        refine lv_goto (tgt := 115) hx hb dL_act_98 (by decide) ?_
        refine W.endD hd0 ?_
        exact W.dret hx hb hr (fun t ht hW => ⟨⟨_, z, rfl, (by unfold actS; rw [if_pos (Int32.not_le.mp c1), if_pos (Int32.not_le.mp c2), eo, if_pos co, ← hw]; rfl), by rw [ht]; exact hP, va_K.moved hW.alike (xk_Kd hK), hD⟩, hS.F ht⟩) hS.2.2 dL_act_115
