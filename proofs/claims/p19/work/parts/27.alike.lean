/-! areAlike: two objects of the same data say the same -/
set_option maxHeartbeats 4000000 in
set_option maxRecDepth 100000 in
theorem mL_areAlike (l : Launch) (hst : l.stackTraces = false) (D : va_G) (cI cZ cD : ClassId) (a b : Nat → Nat) (Hp : Heap) (u : Bt) (w : Bt) (q : Int32) (hok : Ok (dat u)) (heq : dat w = dat u) (hal : Alk (dat u) q) : Met l yL_areAlike wsL_areAlike ({ frames := 10, cells := 32, slots := 192, locals := 172 } : Room) (va_Pc [.ref (a 0), .ref (b 0), .int q] (ZQ D cI cZ cD (XU a cI cZ cD u ++ XU b cI cZ cD w) Hp)) (va_Qi (fun (r : Int32) (_ : Unit) => r = nI 1) (fun _ _ => True) (fun q => Hp.size ≤ q)) 32 192 (fun q => Hp.size ≤ q) := by
  refine Met.ofW (cc := cL_areAlike) (maxL := 5) (ret := (some .boolean)) (by decide +kernel) rfl ?_
  intro p e s m args below meth c s₁ B hml hv
  obtain ⟨rfl, hsz, ⟨hP, hK, hD0⟩, hE, hN⟩ := hv
  have hx := B.exec
  have hb := B.bytes
  have hr := B.returns
  have hts := atoms_spec (ws := wsL_areAlike) B.pre
  have hown : s.vm.findClass RL = some m.cls := findClass_of_methodNamed B.named
  have hlocks := B.notSynchronized
  subst hsz
  have hD := hD0
  have hA : ∀ q : Nat, s.heap.size ≤ q → (fun q => s.heap.size ≤ q) q := fun q h => h
  have hS : va_S (fun q => s.heap.size ≤ q) s.heap s.heap [] := va_S.rf
  have hl := lv_entry ([.ref (a 0), .ref (b 0), .int q]) (n := 5) (Nat.le_of_ble_eq_true rfl)
  rw [lg_entry_eq]
  generalize (lg_sl ([.ref (a 0), .ref (b 0), .int q]) ++ List.replicate (5 - (lg_sl ([.ref (a 0), .ref (b 0), .int q])).length) Slot.unset).toArray = ls at hl ⊢
  have hl : lv_has ls 5 [(0, .ref (a 0)), (1, .ref (b 0)), (2, .int q)] := hl
  have hokw : Ok (dat w) := by rw [heq]; exact hok
  have en : b_n w = b_n u := congrArg s_n heq
  have et : b_t w = b_t u := congrArg s_t heq
  have es : dt (b_so w) = dt (b_so u) := congrArg s_so heq
  have eb : dts (b_bi w) = dts (b_bi u) := congrArg s_bi heq
  have ets : b_ts w = b_ts u := congrArg s_ts heq
  obtain ⟨a1, a2, a3⟩ := hal
  refine lv_aload_n hx hb dL_areAlike_0 rfl (lv_at hl 0 rfl) ?_
  have hPx : va_P D vwCl (XU a cI cZ cD u) s.heap := hP.sub [0, 1, 2, 3, 4, 5, 6, 7, 8, 9, 10, 11, 12, 13, 14, 15, 16] rfl
  have hDx : va_D (fun _ => True) (XU a cI cZ cD u) := hD.sub [0, 1, 2, 3, 4, 5, 6, 7, 8, 9, 10, 11, 12, 13, 14, 15, 16] (by decide) rfl
  refine vp_callSi (va_Run.run (va_runV (As := []) (rest := []) ⟨hx, hb, hml, hown, hts⟩ (mX1_closedV l D cI cZ cD a _ u.1 u.2.1 u.2.2.1 u.2.2.2.1 u.2.2.2.2.1 u.2.2.2.2.2.1 u.2.2.2.2.2.2.1 u.2.2.2.2.2.2.2.1 u.2.2.2.2.2.2.2.2.1 u.2.2.2.2.2.2.2.2.2.1 (nI u.2.2.2.2.2.2.2.2.2.2.1) (nI u.2.2.2.2.2.2.2.2.2.2.2.1) u.2.2.2.2.2.2.2.2.2.2.2.2.1 u.2.2.2.2.2.2.2.2.2.2.2.2.2.1 u.2.2.2.2.2.2.2.2.2.2.2.2.2.2.1 u.2.2.2.2.2.2.2.2.2.2.2.2.2.2.2.1 u.2.2.2.2.2.2.2.2.2.2.2.2.2.2.2.2.1 u.2.2.2.2.2.2.2.2.2.2.2.2.2.2.2.2.2.1 u.2.2.2.2.2.2.2.2.2.2.2.2.2.2.2.2.2.2.1 u.2.2.2.2.2.2.2.2.2.2.2.2.2.2.2.2.2.2.2 ) (cwV 0 hts gL_areAlike_X1_closed rfl rfl rfl (by decide +kernel) ⟨Nat.le_of_ble_eq_true rfl, Nat.le_of_ble_eq_true rfl⟩) ⟨xk_blind, va_recv hK hP (ci := 1) (q0 := 0) rfl rfl, xk_pre hPx hK hDx⟩ rfl rfl hl.1 rfl (lv_room (Nat.le_of_ble_eq_true rfl)) dL_areAlike_1 ⟨Nat.le_of_ble_eq_true rfl, Nat.le_of_ble_eq_true rfl⟩)) (fun r hr1 => ?_)
  refine xk_i (y := nI (b_n u)) hr1 ?_
  refine lv_aload_n hx hb dL_areAlike_4 rfl (lv_at hl 1 rfl) ?_
  have hPx : va_P D vwCl (XU b cI cZ cD w) s.heap := hP.sub [17, 18, 19, 20, 21, 22, 23, 24, 25, 26, 27, 28, 29, 30, 31, 32, 33] rfl
  have hDx : va_D (fun _ => True) (XU b cI cZ cD w) := hD.sub [17, 18, 19, 20, 21, 22, 23, 24, 25, 26, 27, 28, 29, 30, 31, 32, 33] (by decide) rfl
  refine vp_callSi (va_Run.run (va_runV (As := []) (rest := [.int (nI (b_n u))]) ⟨hx, hb, hml, hown, hts⟩ (mX1_closedV l D cI cZ cD b _ w.1 w.2.1 w.2.2.1 w.2.2.2.1 w.2.2.2.2.1 w.2.2.2.2.2.1 w.2.2.2.2.2.2.1 w.2.2.2.2.2.2.2.1 w.2.2.2.2.2.2.2.2.1 w.2.2.2.2.2.2.2.2.2.1 (nI w.2.2.2.2.2.2.2.2.2.2.1) (nI w.2.2.2.2.2.2.2.2.2.2.2.1) w.2.2.2.2.2.2.2.2.2.2.2.2.1 w.2.2.2.2.2.2.2.2.2.2.2.2.2.1 w.2.2.2.2.2.2.2.2.2.2.2.2.2.2.1 w.2.2.2.2.2.2.2.2.2.2.2.2.2.2.2.1 w.2.2.2.2.2.2.2.2.2.2.2.2.2.2.2.2.1 w.2.2.2.2.2.2.2.2.2.2.2.2.2.2.2.2.2.1 w.2.2.2.2.2.2.2.2.2.2.2.2.2.2.2.2.2.2.1 w.2.2.2.2.2.2.2.2.2.2.2.2.2.2.2.2.2.2.2 ) (cwV 0 hts gL_areAlike_X1_closed rfl rfl rfl (by decide +kernel) ⟨Nat.le_of_ble_eq_true rfl, Nat.le_of_ble_eq_true rfl⟩) ⟨xk_blind, va_recv hK hP (ci := 1) (q0 := 17) rfl rfl, xk_pre hPx hK hDx⟩ rfl rfl hl.1 rfl (lv_room (Nat.le_of_ble_eq_true rfl)) dL_areAlike_5 ⟨Nat.le_of_ble_eq_true rfl, Nat.le_of_ble_eq_true rfl⟩)) (fun r hr1 => ?_)
  refine xk_i (y := nI (b_n w)) hr1 ?_
  refine lv_icmp_ne (tgt := 60) hx hb dL_areAlike_8 (by decide) (fun c => absurd (by rw [en]) c) (fun c => ?_)
  refine lv_aload_n hx hb dL_areAlike_11 rfl (lv_at hl 0 rfl) ?_
  have hPx : va_P D vwCl (XU a cI cZ cD u) s.heap := hP.sub [0, 1, 2, 3, 4, 5, 6, 7, 8, 9, 10, 11, 12, 13, 14, 15, 16] rfl
  have hDx : va_D (fun _ => True) (XU a cI cZ cD u) := hD.sub [0, 1, 2, 3, 4, 5, 6, 7, 8, 9, 10, 11, 12, 13, 14, 15, 16] (by decide) rfl
  refine vp_callSd (va_Run.run (va_runV (As := []) (rest := []) ⟨hx, hb, hml, hown, hts⟩ (mX1_batteryV l D cI cZ cD a _ u.1 u.2.1 u.2.2.1 u.2.2.2.1 u.2.2.2.2.1 u.2.2.2.2.2.1 u.2.2.2.2.2.2.1 u.2.2.2.2.2.2.2.1 u.2.2.2.2.2.2.2.2.1 u.2.2.2.2.2.2.2.2.2.1 (nI u.2.2.2.2.2.2.2.2.2.2.1) (nI u.2.2.2.2.2.2.2.2.2.2.2.1) u.2.2.2.2.2.2.2.2.2.2.2.2.1 u.2.2.2.2.2.2.2.2.2.2.2.2.2.1 u.2.2.2.2.2.2.2.2.2.2.2.2.2.2.1 u.2.2.2.2.2.2.2.2.2.2.2.2.2.2.2.1 u.2.2.2.2.2.2.2.2.2.2.2.2.2.2.2.2.1 u.2.2.2.2.2.2.2.2.2.2.2.2.2.2.2.2.2.1 u.2.2.2.2.2.2.2.2.2.2.2.2.2.2.2.2.2.2.1 u.2.2.2.2.2.2.2.2.2.2.2.2.2.2.2.2.2.2.2 ) (cwV 0 hts gL_areAlike_X1_battery rfl rfl rfl (by decide +kernel) ⟨Nat.le_of_ble_eq_true rfl, Nat.le_of_ble_eq_true rfl⟩) ⟨xk_blind, va_recv hK hP (ci := 1) (q0 := 0) rfl rfl, xk_pre hPx hK hDx⟩ rfl rfl hl.1 rfl (lv_room (Nat.le_of_ble_eq_true rfl)) dL_areAlike_12 ⟨Nat.le_of_ble_eq_true rfl, Nat.le_of_ble_eq_true rfl⟩)) (fun r hr1 => ?_)
  refine xk_d (y := b_so u) hr1 ?_
  refine lv_aload_n hx hb dL_areAlike_15 rfl (lv_at hl 1 rfl) ?_
  have hPx : va_P D vwCl (XU b cI cZ cD w) s.heap := hP.sub [17, 18, 19, 20, 21, 22, 23, 24, 25, 26, 27, 28, 29, 30, 31, 32, 33] rfl
  have hDx : va_D (fun _ => True) (XU b cI cZ cD w) := hD.sub [17, 18, 19, 20, 21, 22, 23, 24, 25, 26, 27, 28, 29, 30, 31, 32, 33] (by decide) rfl
  refine vp_callSd (va_Run.run (va_runV (As := []) (rest := [.double (b_so u)]) ⟨hx, hb, hml, hown, hts⟩ (mX1_batteryV l D cI cZ cD b _ w.1 w.2.1 w.2.2.1 w.2.2.2.1 w.2.2.2.2.1 w.2.2.2.2.2.1 w.2.2.2.2.2.2.1 w.2.2.2.2.2.2.2.1 w.2.2.2.2.2.2.2.2.1 w.2.2.2.2.2.2.2.2.2.1 (nI w.2.2.2.2.2.2.2.2.2.2.1) (nI w.2.2.2.2.2.2.2.2.2.2.2.1) w.2.2.2.2.2.2.2.2.2.2.2.2.1 w.2.2.2.2.2.2.2.2.2.2.2.2.2.1 w.2.2.2.2.2.2.2.2.2.2.2.2.2.2.1 w.2.2.2.2.2.2.2.2.2.2.2.2.2.2.2.1 w.2.2.2.2.2.2.2.2.2.2.2.2.2.2.2.2.1 w.2.2.2.2.2.2.2.2.2.2.2.2.2.2.2.2.2.1 w.2.2.2.2.2.2.2.2.2.2.2.2.2.2.2.2.2.2.1 w.2.2.2.2.2.2.2.2.2.2.2.2.2.2.2.2.2.2.2 ) (cwV 0 hts gL_areAlike_X1_battery rfl rfl rfl (by decide +kernel) ⟨Nat.le_of_ble_eq_true rfl, Nat.le_of_ble_eq_true rfl⟩) ⟨xk_blind, va_recv hK hP (ci := 1) (q0 := 17) rfl rfl, xk_pre hPx hK hDx⟩ rfl rfl hl.1 rfl (lv_room (Nat.le_of_ble_eq_true rfl)) dL_areAlike_16 ⟨Nat.le_of_ble_eq_true rfl, Nat.le_of_ble_eq_true rfl⟩)) (fun r hr1 => ?_)
  refine xk_d (y := b_so w) hr1 ?_
  refine lv_dcmp hx hb dL_areAlike_19 ?_
  refine lv_if_ne (tgt := 60) hx hb dL_areAlike_20 (by decide) (fun c => absurd ((cv_l_eq _).mpr (show dCmp (dt (b_so u)) (dt (b_so w)) = some .eq from (by rw [es]; exact self_eq a1))) c) (fun c => ?_)
  refine lv_aload_n hx hb dL_areAlike_23 rfl (lv_at hl 0 rfl) ?_
  have hPx : va_P D vwCl (XU a cI cZ cD u) s.heap := hP.sub [0, 1, 2, 3, 4, 5, 6, 7, 8, 9, 10, 11, 12, 13, 14, 15, 16] rfl
  have hDx : va_D (fun _ => True) (XU a cI cZ cD u) := hD.sub [0, 1, 2, 3, 4, 5, 6, 7, 8, 9, 10, 11, 12, 13, 14, 15, 16] (by decide) rfl
  refine vp_callSi (va_Run.run (va_runV (As := []) (rest := []) ⟨hx, hb, hml, hown, hts⟩ (mX1_turnV l D cI cZ cD a _ u.1 u.2.1 u.2.2.1 u.2.2.2.1 u.2.2.2.2.1 u.2.2.2.2.2.1 u.2.2.2.2.2.2.1 u.2.2.2.2.2.2.2.1 u.2.2.2.2.2.2.2.2.1 u.2.2.2.2.2.2.2.2.2.1 (nI u.2.2.2.2.2.2.2.2.2.2.1) (nI u.2.2.2.2.2.2.2.2.2.2.2.1) u.2.2.2.2.2.2.2.2.2.2.2.2.1 u.2.2.2.2.2.2.2.2.2.2.2.2.2.1 u.2.2.2.2.2.2.2.2.2.2.2.2.2.2.1 u.2.2.2.2.2.2.2.2.2.2.2.2.2.2.2.1 u.2.2.2.2.2.2.2.2.2.2.2.2.2.2.2.2.1 u.2.2.2.2.2.2.2.2.2.2.2.2.2.2.2.2.2.1 u.2.2.2.2.2.2.2.2.2.2.2.2.2.2.2.2.2.2.1 u.2.2.2.2.2.2.2.2.2.2.2.2.2.2.2.2.2.2.2 ) (cwV 0 hts gL_areAlike_X1_turn rfl rfl rfl (by decide +kernel) ⟨Nat.le_of_ble_eq_true rfl, Nat.le_of_ble_eq_true rfl⟩) ⟨xk_blind, va_recv hK hP (ci := 1) (q0 := 0) rfl rfl, xk_pre hPx hK hDx⟩ rfl rfl hl.1 rfl (lv_room (Nat.le_of_ble_eq_true rfl)) dL_areAlike_24 ⟨Nat.le_of_ble_eq_true rfl, Nat.le_of_ble_eq_true rfl⟩)) (fun r hr1 => ?_)
  refine xk_i (y := nI (b_t u)) hr1 ?_
  refine lv_aload_n hx hb dL_areAlike_27 rfl (lv_at hl 1 rfl) ?_
  have hPx : va_P D vwCl (XU b cI cZ cD w) s.heap := hP.sub [17, 18, 19, 20, 21, 22, 23, 24, 25, 26, 27, 28, 29, 30, 31, 32, 33] rfl
  have hDx : va_D (fun _ => True) (XU b cI cZ cD w) := hD.sub [17, 18, 19, 20, 21, 22, 23, 24, 25, 26, 27, 28, 29, 30, 31, 32, 33] (by decide) rfl
  refine vp_callSi (va_Run.run (va_runV (As := []) (rest := [.int (nI (b_t u))]) ⟨hx, hb, hml, hown, hts⟩ (mX1_turnV l D cI cZ cD b _ w.1 w.2.1 w.2.2.1 w.2.2.2.1 w.2.2.2.2.1 w.2.2.2.2.2.1 w.2.2.2.2.2.2.1 w.2.2.2.2.2.2.2.1 w.2.2.2.2.2.2.2.2.1 w.2.2.2.2.2.2.2.2.2.1 (nI w.2.2.2.2.2.2.2.2.2.2.1) (nI w.2.2.2.2.2.2.2.2.2.2.2.1) w.2.2.2.2.2.2.2.2.2.2.2.2.1 w.2.2.2.2.2.2.2.2.2.2.2.2.2.1 w.2.2.2.2.2.2.2.2.2.2.2.2.2.2.1 w.2.2.2.2.2.2.2.2.2.2.2.2.2.2.2.1 w.2.2.2.2.2.2.2.2.2.2.2.2.2.2.2.2.1 w.2.2.2.2.2.2.2.2.2.2.2.2.2.2.2.2.2.1 w.2.2.2.2.2.2.2.2.2.2.2.2.2.2.2.2.2.2.1 w.2.2.2.2.2.2.2.2.2.2.2.2.2.2.2.2.2.2.2 ) (cwV 0 hts gL_areAlike_X1_turn rfl rfl rfl (by decide +kernel) ⟨Nat.le_of_ble_eq_true rfl, Nat.le_of_ble_eq_true rfl⟩) ⟨xk_blind, va_recv hK hP (ci := 1) (q0 := 17) rfl rfl, xk_pre hPx hK hDx⟩ rfl rfl hl.1 rfl (lv_room (Nat.le_of_ble_eq_true rfl)) dL_areAlike_28 ⟨Nat.le_of_ble_eq_true rfl, Nat.le_of_ble_eq_true rfl⟩)) (fun r hr1 => ?_)
  refine xk_i (y := nI (b_t w)) hr1 ?_
  refine lv_icmp_ne (tgt := 60) hx hb dL_areAlike_31 (by decide) (fun c => absurd (by rw [et]) c) (fun c => ?_)
  refine lv_aload_n hx hb dL_areAlike_34 rfl (lv_at hl 0 rfl) ?_
  refine lv_bipush (v := nI 6) hx hb dL_areAlike_35 (by decide) ?_
  refine lv_iload_n hx hb dL_areAlike_37 rfl (lv_at hl 2 rfl) ?_
  refine lv_iconst (v := nI 0) hx hb dL_areAlike_38 (by decide) ?_
  refine lv_iconst (v := nI 0) hx hb dL_areAlike_39 (by decide) ?_
  have hPx : va_P D vwCl (XU a cI cZ cD u) s.heap := hP.sub [0, 1, 2, 3, 4, 5, 6, 7, 8, 9, 10, 11, 12, 13, 14, 15, 16] rfl
  have hDx : va_D (fun _ => True) (XU a cI cZ cD u) := hD.sub [0, 1, 2, 3, 4, 5, 6, 7, 8, 9, 10, 11, 12, 13, 14, 15, 16] (by decide) rfl
  refine va_calld (vx_runSW (As := [.ref (a 0), .int (nI 6), .int q, .int (nI 0), .int (nI 0)]) (rest := []) ⟨hx, hb, hml, hown, hts⟩ (mL_looks6 l hst D cI cZ cD a s.heap u q (nI 0) (nI 0) hok) (vx_cwSW 5 hts gL_areAlike_L_looks rfl rfl rfl (by decide +kernel) ⟨Nat.le_of_ble_eq_true rfl, Nat.le_of_ble_eq_true rfl⟩) ⟨zq_blind, zq_pre hPx hK hDx hE hN hS hA⟩ rfl rfl hl.1 rfl (lv_room (Nat.le_of_ble_eq_true rfl)) dL_areAlike_40 ⟨Nat.le_of_ble_eq_true rfl, Nat.le_of_ble_eq_true rfl⟩) hS (fun q h1 h2 => absurd h2 (Nat.not_le.mpr h1)) (fun q h => hA q (Nat.le_trans hS.1 h)) (fun r1 _ t9 H9 locs ht hvm h1 hB hz1 hk1 hS => ?_)
  have hP : va_P D vwCl (XU a cI cZ cD u ++ XU b cI cZ cD w) H9 := hP.kept (fun k q hq => hk1 q.1 (hP k q hq).lt (Nat.not_le.mpr (hP k q hq).lt))
  generalize H9 = H at hP hS ⊢
  refine lv_aload_n hx hb dL_areAlike_43 rfl (lv_at hl 1 rfl) ?_
  refine lv_bipush (v := nI 6) hx hb dL_areAlike_44 (by decide) ?_
  refine lv_iload_n hx hb dL_areAlike_46 rfl (lv_at hl 2 rfl) ?_
  refine lv_iconst (v := nI 0) hx hb dL_areAlike_47 (by decide) ?_
  refine lv_iconst (v := nI 0) hx hb dL_areAlike_48 (by decide) ?_
  have hPx : va_P D vwCl (XU b cI cZ cD w) H := hP.sub [17, 18, 19, 20, 21, 22, 23, 24, 25, 26, 27, 28, 29, 30, 31, 32, 33] rfl
  have hDx : va_D (fun _ => True) (XU b cI cZ cD w) := hD.sub [17, 18, 19, 20, 21, 22, 23, 24, 25, 26, 27, 28, 29, 30, 31, 32, 33] (by decide) rfl
  refine va_calld (vx_runSW (As := [.ref (b 0), .int (nI 6), .int q, .int (nI 0), .int (nI 0)]) (rest := [.double r1]) ⟨hx, hb, hml, hown, hts⟩ (mL_looks6 l hst D cI cZ cD b H w q (nI 0) (nI 0) hokw) (vx_cwSW 5 hts gL_areAlike_L_looks rfl rfl rfl (by decide +kernel) ⟨Nat.le_of_ble_eq_true rfl, Nat.le_of_ble_eq_true rfl⟩) ⟨zq_blind, zq_pre hPx hK hDx hE hN hS hA⟩ rfl rfl hl.1 rfl (lv_room (Nat.le_of_ble_eq_true rfl)) dL_areAlike_49 ⟨Nat.le_of_ble_eq_true rfl, Nat.le_of_ble_eq_true rfl⟩) hS (fun q h1 h2 => absurd h2 (Nat.not_le.mpr h1)) (fun q h => hA q (Nat.le_trans hS.1 h)) (fun r2 _ t9 H9 locs ht hvm h2 hB hz1 hk1 hS => ?_)
  have hP : va_P D vwCl (XU a cI cZ cD u ++ XU b cI cZ cD w) H9 := hP.kept (fun k q hq => hk1 q.1 (hP k q hq).lt (Nat.not_le.mpr (hP k q hq).lt))
  generalize H9 = H at hP hS ⊢
  refine lv_dcmp hx hb dL_areAlike_52 ?_
  refine lv_if_ne (tgt := 60) hx hb dL_areAlike_53 (by decide) (fun c => absurd ((cv_l_eq _).mpr (show dCmp (dt r1) (dt r2) = some .eq from (by rw [h1, h2, heq]; exact self_eq a2))) c) (fun c => ?_)
  refine lv_iconst (v := nI 1) hx hb dL_areAlike_56 (by decide) ?_
  refine lv_goto (tgt := 61) hx hb dL_areAlike_57 (by decide) ?_
  refine lv_istore_n (lv' := [(3, .int (nI 1)), (0, .ref (a 0)), (1, .ref (b 0)), (2, .int q)]) hx hb dL_areAlike_61 rfl hl (by decide) rfl (fun ls hl => ?_)
  refine lv_iconst (v := nI 0) hx hb dL_areAlike_62 (by decide) ?_
  refine lv_istore (lv' := [(4, .int (nI 0)), (3, .int (nI 1)), (0, .ref (a 0)), (1, .ref (b 0)), (2, .int q)]) hx hb dL_areAlike_63 hl (by decide) rfl (fun ls hl => ?_)
  refine W.widen (k := 2) (n := 12) (Nat.le_of_ble_eq_true rfl) (Nat.le_of_ble_eq_true rfl) ?_
  refine xk_loopQ (fun i H locs ls => va_P D vwCl (XU a cI cZ cD u ++ XU b cI cZ cD w) H ∧ va_S (fun q => s.heap.size ≤ q) s.heap H locs ∧ lv_has ls 5 [(4, .int (nI i)), (3, .int (nI 1)), (0, .ref (a 0)), (1, .ref (b 0)), (2, .int q)]) (fun i => 2 + 6 * i) (fun i => 12 + 36 * i) 5 ?_ (i := 0) (Nat.zero_le _) ⟨hP, hS, lv_sub hl [0, 1, 2, 3, 4] rfl⟩
  intro i H locs ls hi hI next
  obtain ⟨hP, hS, hl⟩ := hI
  show W _ _ _ _ _ _ _ _ _ _ H locs (2 + 6 * i) (12 + 36 * i) _ _
  refine lv_iload hx hb dL_areAlike_65 (lv_at hl 0 rfl) ?_
  refine lv_iconst (v := nI 5) hx hb dL_areAlike_67 (by decide) ?_
  refine lv_icmp_ge (tgt := 184) hx hb dL_areAlike_68 (by decide) (fun c => ?_) (fun c => ?_)
  · skip
    obtain rfl := xk_ge hi (by decide) c
    refine lv_iload_n hx hb dL_areAlike_184 rfl (lv_at hl 1 rfl) ?_
    refine W.widen (k := 32) (n := 192) (Nat.le_of_ble_eq_true rfl) (Nat.le_of_ble_eq_true rfl) ?_
    exact W.zret hx hb hr rfl (fun t ht hW => ⟨⟨_, (), rfl, rfl, trivial⟩, hS.F ht⟩) hS.2.2 dL_areAlike_185
  · skip
    have hlt := xk_nge hi (by decide) c
    obtain ⟨d1, d2, d3, d4⟩ := a3 i hlt
    refine lv_iload_n hx hb dL_areAlike_71 rfl (lv_at hl 1 rfl) ?_
    refine lv_if_eq (tgt := 184) hx hb dL_areAlike_72 (by decide) (fun c => by first | exact absurd c (by decide) | exact absurd rfl c | exact (c (by decide)).elim) (fun c => ?_)
    refine lv_aload_n hx hb dL_areAlike_75 rfl (lv_at hl 2 rfl) ?_
    refine lv_iload hx hb dL_areAlike_76 (lv_at hl 0 rfl) ?_
    have hPx : va_P D vwCl (XU a cI cZ cD u) H := hP.sub [0, 1, 2, 3, 4, 5, 6, 7, 8, 9, 10, 11, 12, 13, 14, 15, 16] rfl
    have hDx : va_D (fun _ => True) (XU a cI cZ cD u) := hD.sub [0, 1, 2, 3, 4, 5, 6, 7, 8, 9, 10, 11, 12, 13, 14, 15, 16] (by decide) rfl
    refine vp_callSd (va_Run.run (va_runV (As := [.int (nI i)]) (rest := []) ⟨hx, hb, hml, hown, hts⟩ (mX1_billV l D cI cZ cD a _ u.1 u.2.1 u.2.2.1 u.2.2.2.1 u.2.2.2.2.1 u.2.2.2.2.2.1 u.2.2.2.2.2.2.1 u.2.2.2.2.2.2.2.1 u.2.2.2.2.2.2.2.2.1 u.2.2.2.2.2.2.2.2.2.1 (nI u.2.2.2.2.2.2.2.2.2.2.1) (nI u.2.2.2.2.2.2.2.2.2.2.2.1) u.2.2.2.2.2.2.2.2.2.2.2.2.1 u.2.2.2.2.2.2.2.2.2.2.2.2.2.1 u.2.2.2.2.2.2.2.2.2.2.2.2.2.2.1 u.2.2.2.2.2.2.2.2.2.2.2.2.2.2.2.1 u.2.2.2.2.2.2.2.2.2.2.2.2.2.2.2.2.1 u.2.2.2.2.2.2.2.2.2.2.2.2.2.2.2.2.2.1 u.2.2.2.2.2.2.2.2.2.2.2.2.2.2.2.2.2.2.1 u.2.2.2.2.2.2.2.2.2.2.2.2.2.2.2.2.2.2.2 i hlt) (cwV 1 hts gL_areAlike_X1_bill rfl rfl rfl (by decide +kernel) ⟨Nat.le_of_ble_eq_true rfl, Nat.le_of_ble_eq_true rfl⟩) ⟨xk_blind, va_recv hK hP (ci := 1) (q0 := 0) rfl rfl, xk_pre hPx hK hDx⟩ rfl rfl hl.1 rfl (lv_room (Nat.le_of_ble_eq_true rfl)) dL_areAlike_78 ⟨(by show _ ≤ 32; omega), (by show _ ≤ 192; omega)⟩)) (fun r hr1 => ?_)
    refine xk_d (y := b_bi u i) hr1 ?_
    refine lv_aload_n hx hb dL_areAlike_81 rfl (lv_at hl 3 rfl) ?_
    refine lv_iload hx hb dL_areAlike_82 (lv_at hl 0 rfl) ?_
    have hPx : va_P D vwCl (XU b cI cZ cD w) H := hP.sub [17, 18, 19, 20, 21, 22, 23, 24, 25, 26, 27, 28, 29, 30, 31, 32, 33] rfl
    have hDx : va_D (fun _ => True) (XU b cI cZ cD w) := hD.sub [17, 18, 19, 20, 21, 22, 23, 24, 25, 26, 27, 28, 29, 30, 31, 32, 33] (by decide) rfl
    refine vp_callSd (va_Run.run (va_runV (As := [.int (nI i)]) (rest := [.double (b_bi u i)]) ⟨hx, hb, hml, hown, hts⟩ (mX1_billV l D cI cZ cD b _ w.1 w.2.1 w.2.2.1 w.2.2.2.1 w.2.2.2.2.1 w.2.2.2.2.2.1 w.2.2.2.2.2.2.1 w.2.2.2.2.2.2.2.1 w.2.2.2.2.2.2.2.2.1 w.2.2.2.2.2.2.2.2.2.1 (nI w.2.2.2.2.2.2.2.2.2.2.1) (nI w.2.2.2.2.2.2.2.2.2.2.2.1) w.2.2.2.2.2.2.2.2.2.2.2.2.1 w.2.2.2.2.2.2.2.2.2.2.2.2.2.1 w.2.2.2.2.2.2.2.2.2.2.2.2.2.2.1 w.2.2.2.2.2.2.2.2.2.2.2.2.2.2.2.1 w.2.2.2.2.2.2.2.2.2.2.2.2.2.2.2.2.1 w.2.2.2.2.2.2.2.2.2.2.2.2.2.2.2.2.2.1 w.2.2.2.2.2.2.2.2.2.2.2.2.2.2.2.2.2.2.1 w.2.2.2.2.2.2.2.2.2.2.2.2.2.2.2.2.2.2.2 i hlt) (cwV 1 hts gL_areAlike_X1_bill rfl rfl rfl (by decide +kernel) ⟨Nat.le_of_ble_eq_true rfl, Nat.le_of_ble_eq_true rfl⟩) ⟨xk_blind, va_recv hK hP (ci := 1) (q0 := 17) rfl rfl, xk_pre hPx hK hDx⟩ rfl rfl hl.1 rfl (lv_room (Nat.le_of_ble_eq_true rfl)) dL_areAlike_84 ⟨(by show _ ≤ 32; omega), (by show _ ≤ 192; omega)⟩)) (fun r hr1 => ?_)
    refine xk_d (y := b_bi w i) hr1 ?_
    refine lv_dcmp hx hb dL_areAlike_87 ?_
    refine lv_if_ne (tgt := 176) hx hb dL_areAlike_88 (by decide) (fun c => absurd ((cv_l_eq _).mpr (show dCmp (dt (b_bi u i)) (dt (b_bi w i)) = some .eq from (by rw [show dt (b_bi w i) = dt (b_bi u i) from congrFun eb i]; exact self_eq d1))) c) (fun c => ?_)
    refine lv_aload_n hx hb dL_areAlike_91 rfl (lv_at hl 2 rfl) ?_
    refine lv_iload hx hb dL_areAlike_92 (lv_at hl 0 rfl) ?_
    have hPx : va_P D vwCl (XU a cI cZ cD u) H := hP.sub [0, 1, 2, 3, 4, 5, 6, 7, 8, 9, 10, 11, 12, 13, 14, 15, 16] rfl
    have hDx : va_D (fun _ => True) (XU a cI cZ cD u) := hD.sub [0, 1, 2, 3, 4, 5, 6, 7, 8, 9, 10, 11, 12, 13, 14, 15, 16] (by decide) rfl
    refine vp_callSi (va_Run.run (va_runV (As := [.int (nI i)]) (rest := []) ⟨hx, hb, hml, hown, hts⟩ (mX1_shedsV l D cI cZ cD a _ u.1 u.2.1 u.2.2.1 u.2.2.2.1 u.2.2.2.2.1 u.2.2.2.2.2.1 u.2.2.2.2.2.2.1 u.2.2.2.2.2.2.2.1 u.2.2.2.2.2.2.2.2.1 u.2.2.2.2.2.2.2.2.2.1 (nI u.2.2.2.2.2.2.2.2.2.2.1) (nI u.2.2.2.2.2.2.2.2.2.2.2.1) u.2.2.2.2.2.2.2.2.2.2.2.2.1 u.2.2.2.2.2.2.2.2.2.2.2.2.2.1 u.2.2.2.2.2.2.2.2.2.2.2.2.2.2.1 u.2.2.2.2.2.2.2.2.2.2.2.2.2.2.2.1 u.2.2.2.2.2.2.2.2.2.2.2.2.2.2.2.2.1 u.2.2.2.2.2.2.2.2.2.2.2.2.2.2.2.2.2.1 u.2.2.2.2.2.2.2.2.2.2.2.2.2.2.2.2.2.2.1 u.2.2.2.2.2.2.2.2.2.2.2.2.2.2.2.2.2.2.2 i hlt) (cwV 1 hts gL_areAlike_X1_sheds rfl rfl rfl (by decide +kernel) ⟨Nat.le_of_ble_eq_true rfl, Nat.le_of_ble_eq_true rfl⟩) ⟨xk_blind, va_recv hK hP (ci := 1) (q0 := 0) rfl rfl, xk_pre hPx hK hDx⟩ rfl rfl hl.1 rfl (lv_room (Nat.le_of_ble_eq_true rfl)) dL_areAlike_94 ⟨(by show _ ≤ 32; omega), (by show _ ≤ 192; omega)⟩)) (fun r hr1 => ?_)
    refine xk_i (y := b_ts u i) hr1 ?_
    refine lv_aload_n hx hb dL_areAlike_97 rfl (lv_at hl 3 rfl) ?_
    refine lv_iload hx hb dL_areAlike_98 (lv_at hl 0 rfl) ?_
    have hPx : va_P D vwCl (XU b cI cZ cD w) H := hP.sub [17, 18, 19, 20, 21, 22, 23, 24, 25, 26, 27, 28, 29, 30, 31, 32, 33] rfl
    have hDx : va_D (fun _ => True) (XU b cI cZ cD w) := hD.sub [17, 18, 19, 20, 21, 22, 23, 24, 25, 26, 27, 28, 29, 30, 31, 32, 33] (by decide) rfl
    refine vp_callSi (va_Run.run (va_runV (As := [.int (nI i)]) (rest := [.int (b_ts u i)]) ⟨hx, hb, hml, hown, hts⟩ (mX1_shedsV l D cI cZ cD b _ w.1 w.2.1 w.2.2.1 w.2.2.2.1 w.2.2.2.2.1 w.2.2.2.2.2.1 w.2.2.2.2.2.2.1 w.2.2.2.2.2.2.2.1 w.2.2.2.2.2.2.2.2.1 w.2.2.2.2.2.2.2.2.2.1 (nI w.2.2.2.2.2.2.2.2.2.2.1) (nI w.2.2.2.2.2.2.2.2.2.2.2.1) w.2.2.2.2.2.2.2.2.2.2.2.2.1 w.2.2.2.2.2.2.2.2.2.2.2.2.2.1 w.2.2.2.2.2.2.2.2.2.2.2.2.2.2.1 w.2.2.2.2.2.2.2.2.2.2.2.2.2.2.2.1 w.2.2.2.2.2.2.2.2.2.2.2.2.2.2.2.2.1 w.2.2.2.2.2.2.2.2.2.2.2.2.2.2.2.2.2.1 w.2.2.2.2.2.2.2.2.2.2.2.2.2.2.2.2.2.2.1 w.2.2.2.2.2.2.2.2.2.2.2.2.2.2.2.2.2.2.2 i hlt) (cwV 1 hts gL_areAlike_X1_sheds rfl rfl rfl (by decide +kernel) ⟨Nat.le_of_ble_eq_true rfl, Nat.le_of_ble_eq_true rfl⟩) ⟨xk_blind, va_recv hK hP (ci := 1) (q0 := 17) rfl rfl, xk_pre hPx hK hDx⟩ rfl rfl hl.1 rfl (lv_room (Nat.le_of_ble_eq_true rfl)) dL_areAlike_100 ⟨(by show _ ≤ 32; omega), (by show _ ≤ 192; omega)⟩)) (fun r hr1 => ?_)
    refine xk_i (y := b_ts w i) hr1 ?_
    refine lv_icmp_ne (tgt := 176) hx hb dL_areAlike_103 (by decide) (fun c => absurd (by rw [ets]) c) (fun c => ?_)
    refine lv_aload_n hx hb dL_areAlike_106 rfl (lv_at hl 2 rfl) ?_
    refine lv_iconst (v := nI 2) hx hb dL_areAlike_107 (by decide) ?_
    refine lv_iload hx hb dL_areAlike_108 (lv_at hl 0 rfl) ?_
    refine lv_iload_n hx hb dL_areAlike_110 rfl (lv_at hl 4 rfl) ?_
    refine lv_iconst (v := nI 0) hx hb dL_areAlike_111 (by decide) ?_
    have hPx : va_P D vwCl (XU a cI cZ cD u) H := hP.sub [0, 1, 2, 3, 4, 5, 6, 7, 8, 9, 10, 11, 12, 13, 14, 15, 16] rfl
    have hDx : va_D (fun _ => True) (XU a cI cZ cD u) := hD.sub [0, 1, 2, 3, 4, 5, 6, 7, 8, 9, 10, 11, 12, 13, 14, 15, 16] (by decide) rfl
    refine va_calld (vx_runSW (As := [.ref (a 0), .int (nI 2), .int (nI i), .int q, .int (nI 0)]) (rest := []) ⟨hx, hb, hml, hown, hts⟩ (mL_looks2 l hst D cI cZ cD a H u (nI i) q (nI 0) hok) (vx_cwSW 5 hts gL_areAlike_L_looks rfl rfl rfl (by decide +kernel) ⟨Nat.le_of_ble_eq_true rfl, Nat.le_of_ble_eq_true rfl⟩) ⟨zq_blind, zq_pre hPx hK hDx hE hN hS hA⟩ rfl rfl hl.1 rfl (lv_room (Nat.le_of_ble_eq_true rfl)) dL_areAlike_112 ⟨(by show _ ≤ 32; omega), (by show _ ≤ 192; omega)⟩) hS (fun q h1 h2 => absurd h2 (Nat.not_le.mpr h1)) (fun q h => hA q (Nat.le_trans hS.1 h)) (fun r3 _ t9 H9 locs ht hvm h2 hB hz1 hk1 hS => ?_)
    have hP : va_P D vwCl (XU a cI cZ cD u ++ XU b cI cZ cD w) H9 := hP.kept (fun k q hq => hk1 q.1 (hP k q hq).lt (Nat.not_le.mpr (hP k q hq).lt))
    generalize H9 = H at hP hS ⊢
    refine lv_aload_n hx hb dL_areAlike_115 rfl (lv_at hl 3 rfl) ?_
    refine lv_iconst (v := nI 2) hx hb dL_areAlike_116 (by decide) ?_
    refine lv_iload hx hb dL_areAlike_117 (lv_at hl 0 rfl) ?_
    refine lv_iload_n hx hb dL_areAlike_119 rfl (lv_at hl 4 rfl) ?_
    refine lv_iconst (v := nI 0) hx hb dL_areAlike_120 (by decide) ?_
    have hPx : va_P D vwCl (XU b cI cZ cD w) H := hP.sub [17, 18, 19, 20, 21, 22, 23, 24, 25, 26, 27, 28, 29, 30, 31, 32, 33] rfl
    have hDx : va_D (fun _ => True) (XU b cI cZ cD w) := hD.sub [17, 18, 19, 20, 21, 22, 23, 24, 25, 26, 27, 28, 29, 30, 31, 32, 33] (by decide) rfl
    refine va_calld (vx_runSW (As := [.ref (b 0), .int (nI 2), .int (nI i), .int q, .int (nI 0)]) (rest := [.double r3]) ⟨hx, hb, hml, hown, hts⟩ (mL_looks2 l hst D cI cZ cD b H w (nI i) q (nI 0) hokw) (vx_cwSW 5 hts gL_areAlike_L_looks rfl rfl rfl (by decide +kernel) ⟨Nat.le_of_ble_eq_true rfl, Nat.le_of_ble_eq_true rfl⟩) ⟨zq_blind, zq_pre hPx hK hDx hE hN hS hA⟩ rfl rfl hl.1 rfl (lv_room (Nat.le_of_ble_eq_true rfl)) dL_areAlike_121 ⟨(by show _ ≤ 32; omega), (by show _ ≤ 192; omega)⟩) hS (fun q h1 h2 => absurd h2 (Nat.not_le.mpr h1)) (fun q h => hA q (Nat.le_trans hS.1 h)) (fun r4 _ t9 H9 locs ht hvm g2 hB hz1 hk1 hS => ?_)
    have hP : va_P D vwCl (XU a cI cZ cD u ++ XU b cI cZ cD w) H9 := hP.kept (fun k q hq => hk1 q.1 (hP k q hq).lt (Nat.not_le.mpr (hP k q hq).lt))
    generalize H9 = H at hP hS ⊢
    refine lv_dcmp hx hb dL_areAlike_124 ?_
    refine lv_if_ne (tgt := 176) hx hb dL_areAlike_125 (by decide) (fun c => absurd ((cv_l_eq _).mpr (show dCmp (dt r3) (dt r4) = some .eq from (by rw [h2, g2, heq]; exact self_eq d2))) c) (fun c => ?_)
    refine lv_aload_n hx hb dL_areAlike_128 rfl (lv_at hl 2 rfl) ?_
    refine lv_iconst (v := nI 3) hx hb dL_areAlike_129 (by decide) ?_
    refine lv_iload hx hb dL_areAlike_130 (lv_at hl 0 rfl) ?_
    refine lv_iload_n hx hb dL_areAlike_132 rfl (lv_at hl 4 rfl) ?_
    refine lv_iconst (v := nI 0) hx hb dL_areAlike_133 (by decide) ?_
    have hPx : va_P D vwCl (XU a cI cZ cD u) H := hP.sub [0, 1, 2, 3, 4, 5, 6, 7, 8, 9, 10, 11, 12, 13, 14, 15, 16] rfl
    have hDx : va_D (fun _ => True) (XU a cI cZ cD u) := hD.sub [0, 1, 2, 3, 4, 5, 6, 7, 8, 9, 10, 11, 12, 13, 14, 15, 16] (by decide) rfl
    refine va_calld (vx_runSW (As := [.ref (a 0), .int (nI 3), .int (nI i), .int q, .int (nI 0)]) (rest := []) ⟨hx, hb, hml, hown, hts⟩ (mL_looks3 l hst D cI cZ cD a H u (nI i) q (nI 0) hok) (vx_cwSW 5 hts gL_areAlike_L_looks rfl rfl rfl (by decide +kernel) ⟨Nat.le_of_ble_eq_true rfl, Nat.le_of_ble_eq_true rfl⟩) ⟨zq_blind, zq_pre hPx hK hDx hE hN hS hA⟩ rfl rfl hl.1 rfl (lv_room (Nat.le_of_ble_eq_true rfl)) dL_areAlike_134 ⟨(by show _ ≤ 32; omega), (by show _ ≤ 192; omega)⟩) hS (fun q h1 h2 => absurd h2 (Nat.not_le.mpr h1)) (fun q h => hA q (Nat.le_trans hS.1 h)) (fun r5 _ t9 H9 locs ht hvm h3 hB hz1 hk1 hS => ?_)
    have hP : va_P D vwCl (XU a cI cZ cD u ++ XU b cI cZ cD w) H9 := hP.kept (fun k q hq => hk1 q.1 (hP k q hq).lt (Nat.not_le.mpr (hP k q hq).lt))
    generalize H9 = H at hP hS ⊢
    refine lv_aload_n hx hb dL_areAlike_137 rfl (lv_at hl 3 rfl) ?_
    refine lv_iconst (v := nI 3) hx hb dL_areAlike_138 (by decide) ?_
    refine lv_iload hx hb dL_areAlike_139 (lv_at hl 0 rfl) ?_
    refine lv_iload_n hx hb dL_areAlike_141 rfl (lv_at hl 4 rfl) ?_
    refine lv_iconst (v := nI 0) hx hb dL_areAlike_142 (by decide) ?_
    have hPx : va_P D vwCl (XU b cI cZ cD w) H := hP.sub [17, 18, 19, 20, 21, 22, 23, 24, 25, 26, 27, 28, 29, 30, 31, 32, 33] rfl
    have hDx : va_D (fun _ => True) (XU b cI cZ cD w) := hD.sub [17, 18, 19, 20, 21, 22, 23, 24, 25, 26, 27, 28, 29, 30, 31, 32, 33] (by decide) rfl
    refine va_calld (vx_runSW (As := [.ref (b 0), .int (nI 3), .int (nI i), .int q, .int (nI 0)]) (rest := [.double r5]) ⟨hx, hb, hml, hown, hts⟩ (mL_looks3 l hst D cI cZ cD b H w (nI i) q (nI 0) hokw) (vx_cwSW 5 hts gL_areAlike_L_looks rfl rfl rfl (by decide +kernel) ⟨Nat.le_of_ble_eq_true rfl, Nat.le_of_ble_eq_true rfl⟩) ⟨zq_blind, zq_pre hPx hK hDx hE hN hS hA⟩ rfl rfl hl.1 rfl (lv_room (Nat.le_of_ble_eq_true rfl)) dL_areAlike_143 ⟨(by show _ ≤ 32; omega), (by show _ ≤ 192; omega)⟩) hS (fun q h1 h2 => absurd h2 (Nat.not_le.mpr h1)) (fun q h => hA q (Nat.le_trans hS.1 h)) (fun r6 _ t9 H9 locs ht hvm g3 hB hz1 hk1 hS => ?_)
    have hP : va_P D vwCl (XU a cI cZ cD u ++ XU b cI cZ cD w) H9 := hP.kept (fun k q hq => hk1 q.1 (hP k q hq).lt (Nat.not_le.mpr (hP k q hq).lt))
    generalize H9 = H at hP hS ⊢
    refine lv_dcmp hx hb dL_areAlike_146 ?_
    refine lv_if_ne (tgt := 176) hx hb dL_areAlike_147 (by decide) (fun c => absurd ((cv_l_eq _).mpr (show dCmp (dt r5) (dt r6) = some .eq from (by rw [h3, g3, heq]; exact self_eq d3))) c) (fun c => ?_)
    refine lv_aload_n hx hb dL_areAlike_150 rfl (lv_at hl 2 rfl) ?_
    refine lv_iconst (v := nI 5) hx hb dL_areAlike_151 (by decide) ?_
    refine lv_iload hx hb dL_areAlike_152 (lv_at hl 0 rfl) ?_
    refine lv_iload_n hx hb dL_areAlike_154 rfl (lv_at hl 4 rfl) ?_
    refine lv_iconst (v := nI 0) hx hb dL_areAlike_155 (by decide) ?_
    have hPx : va_P D vwCl (XU a cI cZ cD u) H := hP.sub [0, 1, 2, 3, 4, 5, 6, 7, 8, 9, 10, 11, 12, 13, 14, 15, 16] rfl
    have hDx : va_D (fun _ => True) (XU a cI cZ cD u) := hD.sub [0, 1, 2, 3, 4, 5, 6, 7, 8, 9, 10, 11, 12, 13, 14, 15, 16] (by decide) rfl
    refine va_calld (vx_runSW (As := [.ref (a 0), .int (nI 5), .int (nI i), .int q, .int (nI 0)]) (rest := []) ⟨hx, hb, hml, hown, hts⟩ (mL_looks5 l hst D cI cZ cD a H u (nI i) q (nI 0) hok) (vx_cwSW 5 hts gL_areAlike_L_looks rfl rfl rfl (by decide +kernel) ⟨Nat.le_of_ble_eq_true rfl, Nat.le_of_ble_eq_true rfl⟩) ⟨zq_blind, zq_pre hPx hK hDx hE hN hS hA⟩ rfl rfl hl.1 rfl (lv_room (Nat.le_of_ble_eq_true rfl)) dL_areAlike_156 ⟨(by show _ ≤ 32; omega), (by show _ ≤ 192; omega)⟩) hS (fun q h1 h2 => absurd h2 (Nat.not_le.mpr h1)) (fun q h => hA q (Nat.le_trans hS.1 h)) (fun r7 _ t9 H9 locs ht hvm h5 hB hz1 hk1 hS => ?_)
    have hP : va_P D vwCl (XU a cI cZ cD u ++ XU b cI cZ cD w) H9 := hP.kept (fun k q hq => hk1 q.1 (hP k q hq).lt (Nat.not_le.mpr (hP k q hq).lt))
    generalize H9 = H at hP hS ⊢
    refine lv_aload_n hx hb dL_areAlike_159 rfl (lv_at hl 3 rfl) ?_
    refine lv_iconst (v := nI 5) hx hb dL_areAlike_160 (by decide) ?_
    refine lv_iload hx hb dL_areAlike_161 (lv_at hl 0 rfl) ?_
    refine lv_iload_n hx hb dL_areAlike_163 rfl (lv_at hl 4 rfl) ?_
    refine lv_iconst (v := nI 0) hx hb dL_areAlike_164 (by decide) ?_
    have hPx : va_P D vwCl (XU b cI cZ cD w) H := hP.sub [17, 18, 19, 20, 21, 22, 23, 24, 25, 26, 27, 28, 29, 30, 31, 32, 33] rfl
    have hDx : va_D (fun _ => True) (XU b cI cZ cD w) := hD.sub [17, 18, 19, 20, 21, 22, 23, 24, 25, 26, 27, 28, 29, 30, 31, 32, 33] (by decide) rfl
    refine va_calld (vx_runSW (As := [.ref (b 0), .int (nI 5), .int (nI i), .int q, .int (nI 0)]) (rest := [.double r7]) ⟨hx, hb, hml, hown, hts⟩ (mL_looks5 l hst D cI cZ cD b H w (nI i) q (nI 0) hokw) (vx_cwSW 5 hts gL_areAlike_L_looks rfl rfl rfl (by decide +kernel) ⟨Nat.le_of_ble_eq_true rfl, Nat.le_of_ble_eq_true rfl⟩) ⟨zq_blind, zq_pre hPx hK hDx hE hN hS hA⟩ rfl rfl hl.1 rfl (lv_room (Nat.le_of_ble_eq_true rfl)) dL_areAlike_165 ⟨(by show _ ≤ 32; omega), (by show _ ≤ 192; omega)⟩) hS (fun q h1 h2 => absurd h2 (Nat.not_le.mpr h1)) (fun q h => hA q (Nat.le_trans hS.1 h)) (fun r8 _ t9 H9 locs ht hvm g5 hB hz1 hk1 hS => ?_)
    have hP : va_P D vwCl (XU a cI cZ cD u ++ XU b cI cZ cD w) H9 := hP.kept (fun k q hq => hk1 q.1 (hP k q hq).lt (Nat.not_le.mpr (hP k q hq).lt))
    generalize H9 = H at hP hS ⊢
    refine lv_dcmp hx hb dL_areAlike_168 ?_
    refine lv_if_ne (tgt := 176) hx hb dL_areAlike_169 (by decide) (fun c => absurd ((cv_l_eq _).mpr (show dCmp (dt r7) (dt r8) = some .eq from (by rw [h5, g5, heq]; exact self_eq d4))) c) (fun c => ?_)
    refine lv_iconst (v := nI 1) hx hb dL_areAlike_172 (by decide) ?_
    refine lv_goto (tgt := 177) hx hb dL_areAlike_173 (by decide) ?_
    refine lv_istore_n (lv' := [(3, .int (nI 1)), (4, .int (nI i)), (0, .ref (a 0)), (1, .ref (b 0)), (2, .int q)]) hx hb dL_areAlike_177 rfl hl (by decide) rfl (fun ls hl => ?_)
    refine lv_iinc (v := nI (i + 1)) (lv' := [(4, .int (nI (i + 1))), (3, .int (nI 1)), (0, .ref (a 0)), (1, .ref (b 0)), (2, .int q)]) hx hb dL_areAlike_178 hl (k := 1) rfl (nI_1 i) (by decide) rfl (fun ls hl => ?_)
    refine lv_goto (tgt := 65) hx hb dL_areAlike_181 (by decide) ?_
    refine W.widen (k := 2 + 6 * (i + 1)) (n := 12 + 36 * (i + 1)) (by omega) (by omega) ?_
    exact next _ _ _ hlt ⟨hP, hS, lv_sub hl [0, 1, 2, 3, 4] rfl⟩
