/-! isReplacedSo: a gap is replaced once -/
theorem dat_bi (u : Bt) (o : Nat) : s_bi (dat u) o = dt (b_bi u o) := congrFun (show s_bi (dat u) = dts (b_bi u) from rfl) o
theorem dat_lu (u : Bt) (j : Nat) : s_lu (dat u) j = dt (b_lu u j) := congrFun (show s_lu (dat u) = dts (b_lu u) from rfl) j
theorem dat_lf (u : Bt) (j : Nat) : s_lf (dat u) j = dt (b_lf u j) := congrFun (show s_lf (dat u) = dts (b_lf u) from rfl) j
theorem dat_lb (u : Bt) (j : Nat) : s_lb (dat u) j = dt (b_lb u j) := congrFun (show s_lb (dat u) = dts (b_lb u) from rfl) j
theorem dat_lw (u : Bt) (j : Nat) : s_lw (dat u) j = dt (b_lw u j) := congrFun (show s_lw (dat u) = dts (b_lw u) from rfl) j
theorem dat_lz (u : Bt) (j : Nat) : s_lz (dat u) j = dt (b_lz u j) := congrFun (show s_lz (dat u) = dts (b_lz u) from rfl) j
theorem cv_l_lt (o : Option Ordering) : (Op.cmpValue o .l < 0) ↔ ¬ (o = some .gt ∨ o = some .eq) := by
  rcases o with _ | o
  · decide
  · cases o <;> decide
theorem rep_get {σ τ : St} {d : Dm} {o j : Nat} {y : Int32} (hok : Ok σ) (ho : o < 5) (hj : j < s_n σ) (hg : gRe σ (nI o) (nI j) y) (h : (τ, d) = sRe σ (nI o) (nI j) y) : d = chg σ (nI o) (nI j) y ∧ s_bi τ o = dAdd (s_bi σ o) d ∧ s_lu τ (5 * j + o) = dI y ∧ s_n τ = s_n σ ∧ (∀ x q, rd (s_lw τ) τ x q = rd (s_lw σ) σ x q) ∧ ¬ gRe τ (nI o) (nI j) y ∧ Ok τ := by
  have hn := hok.1
  rw [sRe_get ho (by omega) hg] at h
  have h1 := congrArg Prod.fst h
  have h2 : d = chg σ (nI o) (nI j) y := congrArg Prod.snd h
  dsimp only at h1
  subst h1
  refine ⟨h2, ?_, up_at _ _ _, rfl, fun x q => rfl, fun z => ?_, hok⟩
  · show va_up (s_bi σ) o (dAdd (s_bi σ o) (chg σ (nI o) (nI j) y)) o = _
    rw [up_at, h2]
  · have h3 := z.2.2.2
    refine h3 ((kn_nI ho (by omega)).mpr ?_)
    show ¬ upd (s_lk σ) (5 * j + o) 1 (5 * j + o) = 0
    rw [upd_at]
    decide
theorem rep_bad {σ τ : St} {d : Dm} {x q y : Int32} (hg : ¬ gRe σ x q y) (h : (τ, d) = sRe σ x q y) : τ = σ ∧ d = eD := by
  have e : sRe σ x q y = (σ, eD) := by unfold sRe; rw [if_neg hg]
  rw [e] at h
  exact ⟨congrArg Prod.fst h, congrArg Prod.snd h⟩
set_option maxHeartbeats 4000000 in
set_option maxRecDepth 100000 in
theorem mL_isReplacedSo (l : Launch) (hst : l.stackTraces = false) (D : va_G) (cI cZ cD : ClassId) (a b : Nat → Nat) (sz : Nat) (u : Bt) (w : Bt) (o : Nat) (q y : Int32) (ho : o < 5) (hok : Ok (dat u)) (heq : dat w = dat u) (hbi : s_bi (dat u) o ≠ .nan) (hlu : rd (s_lu (dat u)) (dat u) (nI o) q ≠ .nan) (hlw : rd (s_lw (dat u)) (dat u) (nI o) q ≠ .nan) (hF : ∀ j, q = nI j → j < s_n (dat u) → gRe (dat u) (nI o) (nI j) y → repF (dat u) o j y (chg (dat u) (nI o) (nI j) y)) : MetD lw_cs l yL_isReplacedSo wsL_isReplacedSo ({ frames := 10, cells := 6, slots := 36, locals := 172 } : Room) (va_Pc [.ref (a 0), .ref (b 0), .int (nI o), .int q, .int y] (LQ D cI cZ cD (XU a cI cZ cD u ++ XU b cI cZ cD w) sz)) (va_Qi (fun (r : Int32) (z : Bt × Bt) => r = nI 1 ∧ dat z.1 = (sRe (dat u) (nI o) q y).1 ∧ dat z.2 = (sRe (dat u) (nI o) q y).1) (fun (z : Bt × Bt) t => XB D cI cZ cD (XU a cI cZ cD z.1 ++ XU b cI cZ cD z.2) (va_A (XU a cI cZ cD u ++ XU b cI cZ cD w) sz) t) (va_A (XU a cI cZ cD u ++ XU b cI cZ cD w) sz)) 6 36 (va_A (XU a cI cZ cD u ++ XU b cI cZ cD w) sz) := by
  refine MetD.ofW (cc := cL_isReplacedSo) (maxL := 14) (ret := (some .boolean)) (by decide +kernel) rfl ?_
  intro p e s m args below meth c s₁ B hml hv hd0
  obtain ⟨rfl, hsz, ⟨hP, hK, hD0⟩, hE, hN⟩ := hv
  have hx := B.exec
  have hb := B.bytes
  have hr := B.returns
  have hts := atoms_spec (ws := wsL_isReplacedSo) B.pre
  have hown : s.vm.findClass RL = some m.cls := findClass_of_methodNamed B.named
  have hlocks := B.notSynchronized
  subst hsz
  have hD := hD0.self (sz := s.heap.size)
  generalize hAe : va_A (XU a cI cZ cD u ++ XU b cI cZ cD w) s.heap.size = A at hD hE ⊢
  have hA : ∀ q : Nat, s.heap.size ≤ q → A q := fun q h => by rw [← hAe]; exact Or.inr h
  have hS : va_S A s.heap s.heap [] := va_S.rf
  have hl := lv_entry ([.ref (a 0), .ref (b 0), .int (nI o), .int q, .int y]) (n := 14) (Nat.le_of_ble_eq_true rfl)
  rw [lg_entry_eq]
  generalize (lg_sl ([.ref (a 0), .ref (b 0), .int (nI o), .int q, .int y]) ++ List.replicate (14 - (lg_sl ([.ref (a 0), .ref (b 0), .int (nI o), .int q, .int y])).length) Slot.unset).toArray = ls at hl ⊢
  have hl : lv_has ls 14 [(0, .ref (a 0)), (1, .ref (b 0)), (2, .int (nI o)), (3, .int q), (4, .int y)] := hl
  have hokw : Ok (dat w) := by rw [heq]; exact hok
  refine lv_aload_n hx hb dL_isReplacedSo_0 rfl (lv_at hl 0 rfl) ?_
  refine lv_iload_n hx hb dL_isReplacedSo_1 rfl (lv_at hl 2 rfl) ?_
  have hPx : va_P D vwCl (XU a cI cZ cD u) s.heap := hP.sub [0, 1, 2, 3, 4, 5, 6, 7, 8, 9, 10, 11, 12, 13, 14, 15, 16] rfl
  have hDx : va_D A (XU a cI cZ cD u) := hD.sub [0, 1, 2, 3, 4, 5, 6, 7, 8, 9, 10, 11, 12, 13, 14, 15, 16] (by decide) rfl
  refine vp_callSd (va_Run.run (va_runV (As := [.int (nI o)]) (rest := []) ⟨hx, hb, hml, (xk_od hown), (dr_words hts _)⟩ (mX1_billV l D cI cZ cD a _ u.1 u.2.1 u.2.2.1 u.2.2.2.1 u.2.2.2.2.1 u.2.2.2.2.2.1 u.2.2.2.2.2.2.1 u.2.2.2.2.2.2.2.1 u.2.2.2.2.2.2.2.2.1 u.2.2.2.2.2.2.2.2.2.1 (nI u.2.2.2.2.2.2.2.2.2.2.1) (nI u.2.2.2.2.2.2.2.2.2.2.2.1) u.2.2.2.2.2.2.2.2.2.2.2.2.1 u.2.2.2.2.2.2.2.2.2.2.2.2.2.1 u.2.2.2.2.2.2.2.2.2.2.2.2.2.2.1 u.2.2.2.2.2.2.2.2.2.2.2.2.2.2.2.1 u.2.2.2.2.2.2.2.2.2.2.2.2.2.2.2.2.1 u.2.2.2.2.2.2.2.2.2.2.2.2.2.2.2.2.2.1 u.2.2.2.2.2.2.2.2.2.2.2.2.2.2.2.2.2.2.1 u.2.2.2.2.2.2.2.2.2.2.2.2.2.2.2.2.2.2.2 o ho) (cwV 1 (dr_words hts _) gL_isReplacedSo_X1_bill rfl rfl rfl (by decide +kernel) ⟨Nat.le_of_ble_eq_true rfl, Nat.le_of_ble_eq_true rfl⟩) ⟨xk_blind, va_recv (xk_Kd hK) hP (ci := 1) (q0 := 0) rfl rfl, xk_pre hPx (xk_Kd hK) hDx⟩ rfl rfl hl.1 rfl (lv_room (Nat.le_of_ble_eq_true rfl)) dL_isReplacedSo_2 ⟨Nat.le_of_ble_eq_true rfl, Nat.le_of_ble_eq_true rfl⟩)) (fun r hr1 => ?_)
  refine xk_d (y := b_bi u o) hr1 ?_
  refine lv_dstore (lv' := [(5, .double (b_bi u o)), (0, .ref (a 0)), (1, .ref (b 0)), (2, .int (nI o)), (3, .int q), (4, .int y)]) hx hb dL_isReplacedSo_5 hl (by decide) rfl (fun ls hl => ?_)
  refine lv_aload_n hx hb dL_isReplacedSo_7 rfl (lv_at hl 1 rfl) ?_
  refine lv_iconst (v := nI 2) hx hb dL_isReplacedSo_8 (by decide) ?_
  refine lv_iload_n hx hb dL_isReplacedSo_9 rfl (lv_at hl 3 rfl) ?_
  refine lv_iload_n hx hb dL_isReplacedSo_10 rfl (lv_at hl 4 rfl) ?_
  refine lv_iconst (v := nI 0) hx hb dL_isReplacedSo_11 (by decide) ?_
  have hPx : va_P D vwCl (XU a cI cZ cD u) s.heap := hP.sub [0, 1, 2, 3, 4, 5, 6, 7, 8, 9, 10, 11, 12, 13, 14, 15, 16] rfl
  have hDx : va_D A (XU a cI cZ cD u) := hD.sub [0, 1, 2, 3, 4, 5, 6, 7, 8, 9, 10, 11, 12, 13, 14, 15, 16] (by decide) rfl
  refine va_calld (vx_runSW (As := [.ref (a 0), .int (nI 2), .int (nI o), .int q, .int (nI 0)]) (rest := []) ⟨hx, hb, hml, (xk_od hown), (dr_words hts _)⟩ (mL_looks2 l hst D cI cZ cD a s.heap u (nI o) q (nI 0) hok) (vx_cwSW 5 (dr_words hts _) gL_isReplacedSo_L_looks rfl rfl rfl (by decide +kernel) ⟨Nat.le_of_ble_eq_true rfl, Nat.le_of_ble_eq_true rfl⟩) ⟨zq_blind, zq_pre hPx (xk_Kd hK) hDx hE.drawn hN.drawn hS hA⟩ rfl rfl hl.1 rfl (lv_room (Nat.le_of_ble_eq_true rfl)) dL_isReplacedSo_12 ⟨Nat.le_of_ble_eq_true rfl, Nat.le_of_ble_eq_true rfl⟩) hS (fun q h1 h2 => absurd h2 (Nat.not_le.mpr h1)) (fun q h => hA q (Nat.le_trans hS.1 h)) (fun r1 _ t9 H9 locs ht hvm h2 hB hz1 hk1 hS => ?_)
  have hP : va_P D vwCl (XU a cI cZ cD u ++ XU b cI cZ cD w) H9 := hP.kept (fun k q hq => hk1 q.1 (hP k q hq).lt (Nat.not_le.mpr (hP k q hq).lt))
  generalize H9 = H at hP hS ⊢
  refine lv_dstore (lv' := [(7, .double r1), (5, .double (b_bi u o)), (0, .ref (a 0)), (1, .ref (b 0)), (2, .int (nI o)), (3, .int q), (4, .int y)]) hx hb dL_isReplacedSo_15 hl (by decide) rfl (fun ls hl => ?_)
  refine lv_aload_n hx hb dL_isReplacedSo_17 rfl (lv_at hl 2 rfl) ?_
  refine lv_iconst (v := nI 5) hx hb dL_isReplacedSo_18 (by decide) ?_
  refine lv_iload_n hx hb dL_isReplacedSo_19 rfl (lv_at hl 4 rfl) ?_
  refine lv_iload_n hx hb dL_isReplacedSo_20 rfl (lv_at hl 5 rfl) ?_
  refine lv_iconst (v := nI 0) hx hb dL_isReplacedSo_21 (by decide) ?_
  have hPx : va_P D vwCl (XU a cI cZ cD u) H := hP.sub [0, 1, 2, 3, 4, 5, 6, 7, 8, 9, 10, 11, 12, 13, 14, 15, 16] rfl
  have hDx : va_D A (XU a cI cZ cD u) := hD.sub [0, 1, 2, 3, 4, 5, 6, 7, 8, 9, 10, 11, 12, 13, 14, 15, 16] (by decide) rfl
  refine va_calld (vx_runSW (As := [.ref (a 0), .int (nI 5), .int (nI o), .int q, .int (nI 0)]) (rest := []) ⟨hx, hb, hml, (xk_od hown), (dr_words hts _)⟩ (mL_looks5 l hst D cI cZ cD a H u (nI o) q (nI 0) hok) (vx_cwSW 5 (dr_words hts _) gL_isReplacedSo_L_looks rfl rfl rfl (by decide +kernel) ⟨Nat.le_of_ble_eq_true rfl, Nat.le_of_ble_eq_true rfl⟩) ⟨zq_blind, zq_pre hPx (xk_Kd hK) hDx hE.drawn hN.drawn hS hA⟩ rfl rfl hl.1 rfl (lv_room (Nat.le_of_ble_eq_true rfl)) dL_isReplacedSo_22 ⟨Nat.le_of_ble_eq_true rfl, Nat.le_of_ble_eq_true rfl⟩) hS (fun q h1 h2 => absurd h2 (Nat.not_le.mpr h1)) (fun q h => hA q (Nat.le_trans hS.1 h)) (fun r2 _ t9 H9 locs ht hvm h5 hB hz1 hk1 hS => ?_)
  have hP : va_P D vwCl (XU a cI cZ cD u ++ XU b cI cZ cD w) H9 := hP.kept (fun k q hq => hk1 q.1 (hP k q hq).lt (Nat.not_le.mpr (hP k q hq).lt))
  generalize H9 = H at hP hS ⊢
  refine lv_dstore (lv' := [(9, .double r2), (7, .double r1), (5, .double (b_bi u o)), (0, .ref (a 0)), (1, .ref (b 0)), (2, .int (nI o)), (3, .int q), (4, .int y)]) hx hb dL_isReplacedSo_25 hl (by decide) rfl (fun ls hl => ?_)
  refine lv_aload_n hx hb dL_isReplacedSo_27 rfl (lv_at hl 3 rfl) ?_
  refine lv_iconst (v := nI 1) hx hb dL_isReplacedSo_28 (by decide) ?_
  refine lv_iload_n hx hb dL_isReplacedSo_29 rfl (lv_at hl 5 rfl) ?_
  refine lv_iload_n hx hb dL_isReplacedSo_30 rfl (lv_at hl 6 rfl) ?_
  refine lv_iload hx hb dL_isReplacedSo_31 (lv_at hl 7 rfl) ?_
  have hPx : va_P D vwCl (XU a cI cZ cD u) H := hP.sub [0, 1, 2, 3, 4, 5, 6, 7, 8, 9, 10, 11, 12, 13, 14, 15, 16] rfl
  have hDx : va_D A (XU a cI cZ cD u) := hD.sub [0, 1, 2, 3, 4, 5, 6, 7, 8, 9, 10, 11, 12, 13, 14, 15, 16] (by decide) rfl
  have hFc := va_free (wc := XU a cI cZ cD u) hD hS hA [0, 1, 2, 3, 4, 5, 6, 7, 8, 9, 10, 11, 12, 13, 14, 15, 16] rfl
  refine va_calldD hd0 (xd_runSX (As := [.ref (a 0), .int (nI 1), .int (nI o), .int q, .int y]) (rest := []) ⟨hx, hb, hml, (xk_od hown), (dr_words hts _)⟩ (mL_looks1 l hst D cI cZ cD a _ u (nI o) q y hok) (vx_cwSW 5 (dr_words hts _) gL_isReplacedSo_L_looks rfl rfl rfl (by decide +kernel) ⟨Nat.le_of_ble_eq_true rfl, Nat.le_of_ble_eq_true rfl⟩) ⟨lp_blind, lp_pre hPx (xk_Kd hK) hDx hE.drawn hN.drawn hS hFc⟩ rfl rfl hl.1 rfl (lv_room (Nat.le_of_ble_eq_true rfl)) dL_isReplacedSo_33 ⟨Nat.le_of_ble_eq_true rfl, Nat.le_of_ble_eq_true rfl⟩) hS (fun q _ h => hFc q h) hFc (fun r3 u1 t9 H locs ht hvm hw1 hB hz1 hk1 hS _ hd4 => ?_)
  obtain ⟨hP1, -, hD1⟩ := hB
  rw [ht] at hP1
  obtain ⟨hP, hD⟩ := va_join (wr := XU b cI cZ cD w) (w1 := XU a cI cZ cD u1) hP hD [0, 1, 2, 3, 4, 5, 6, 7, 8, 9, 10, 11, 12, 13, 14, 15, 16] [17, 18, 19, 20, 21, 22, 23, 24, 25, 26, 27, 28, 29, 30, 31, 32, 33] rfl rfl (by decide) (by decide) hk1 hFc hP1 hD1
  have hP : va_P D vwCl (XU a cI cZ cD u1 ++ XU b cI cZ cD w) H := hP.sub [17, 18, 19, 20, 21, 22, 23, 24, 25, 26, 27, 28, 29, 30, 31, 32, 33, 0, 1, 2, 3, 4, 5, 6, 7, 8, 9, 10, 11, 12, 13, 14, 15, 16] rfl
  have hD : va_D A (XU a cI cZ cD u1 ++ XU b cI cZ cD w) := hD.sub [17, 18, 19, 20, 21, 22, 23, 24, 25, 26, 27, 28, 29, 30, 31, 32, 33, 0, 1, 2, 3, 4, 5, 6, 7, 8, 9, 10, 11, 12, 13, 14, 15, 16] (by decide) rfl
  refine lv_dstore (lv' := [(11, .double r3), (9, .double r2), (7, .double r1), (5, .double (b_bi u o)), (0, .ref (a 0)), (1, .ref (b 0)), (2, .int (nI o)), (3, .int q), (4, .int y)]) hx hb dL_isReplacedSo_36 hl (by decide) rfl (fun ls hl => ?_)
  refine lv_aload_n hx hb dL_isReplacedSo_38 rfl (lv_at hl 5 rfl) ?_
  refine lv_iconst (v := nI 1) hx hb dL_isReplacedSo_39 (by decide) ?_
  refine lv_iload_n hx hb dL_isReplacedSo_40 rfl (lv_at hl 6 rfl) ?_
  refine lv_iload_n hx hb dL_isReplacedSo_41 rfl (lv_at hl 7 rfl) ?_
  refine lv_iload hx hb dL_isReplacedSo_42 (lv_at hl 8 rfl) ?_
  have hPx : va_P D vwCl (XU b cI cZ cD w) H := hP.sub [17, 18, 19, 20, 21, 22, 23, 24, 25, 26, 27, 28, 29, 30, 31, 32, 33] rfl
  have hDx : va_D A (XU b cI cZ cD w) := hD.sub [17, 18, 19, 20, 21, 22, 23, 24, 25, 26, 27, 28, 29, 30, 31, 32, 33] (by decide) rfl
  have hFc := va_free (wc := XU b cI cZ cD w) hD hS hA [17, 18, 19, 20, 21, 22, 23, 24, 25, 26, 27, 28, 29, 30, 31, 32, 33] rfl
  refine va_calldD hd4 (xd_runSX (As := [.ref (b 0), .int (nI 1), .int (nI o), .int q, .int y]) (rest := []) ⟨hx, hb, hml, (xk_od hown), (dr_words hts _)⟩ (mL_looks1 l hst D cI cZ cD b _ w (nI o) q y hokw) (vx_cwSW 5 (dr_words hts _) gL_isReplacedSo_L_looks rfl rfl rfl (by decide +kernel) ⟨Nat.le_of_ble_eq_true rfl, Nat.le_of_ble_eq_true rfl⟩) ⟨lp_blind, lp_pre hPx (xk_Kd hK) hDx hE.drawn hN.drawn hS hFc⟩ rfl rfl hl.1 rfl (lv_room (Nat.le_of_ble_eq_true rfl)) dL_isReplacedSo_44 ⟨Nat.le_of_ble_eq_true rfl, Nat.le_of_ble_eq_true rfl⟩) hS (fun q _ h => hFc q h) hFc (fun r5 w1 t9 H locs ht hvm hw2 hB hz1 hk1 hS _ hd6 => ?_)
  obtain ⟨hP1, -, hD1⟩ := hB
  rw [ht] at hP1
  obtain ⟨hP, hD⟩ := va_join (wr := XU a cI cZ cD u1) (w1 := XU b cI cZ cD w1) hP hD [17, 18, 19, 20, 21, 22, 23, 24, 25, 26, 27, 28, 29, 30, 31, 32, 33] [0, 1, 2, 3, 4, 5, 6, 7, 8, 9, 10, 11, 12, 13, 14, 15, 16] rfl rfl (by decide) (by decide) hk1 hFc hP1 hD1
  have hP : va_P D vwCl (XU a cI cZ cD u1 ++ XU b cI cZ cD w1) H := hP.sub [0, 1, 2, 3, 4, 5, 6, 7, 8, 9, 10, 11, 12, 13, 14, 15, 16, 17, 18, 19, 20, 21, 22, 23, 24, 25, 26, 27, 28, 29, 30, 31, 32, 33] rfl
  have hD : va_D A (XU a cI cZ cD u1 ++ XU b cI cZ cD w1) := hD.sub [0, 1, 2, 3, 4, 5, 6, 7, 8, 9, 10, 11, 12, 13, 14, 15, 16, 17, 18, 19, 20, 21, 22, 23, 24, 25, 26, 27, 28, 29, 30, 31, 32, 33] (by decide) rfl
  rw [heq] at hw2
  have e12 : dt r5 = dt r3 := congrArg Prod.snd (hw2.trans hw1.symm)
  by_cases hg : gRe (dat u) (nI o) q y
  · skip
    have hn : s_n (dat u) ≤ 60 := hok.1
    obtain ⟨j, hj, rfl⟩ := isQ_nI (by omega) hg.2.2.1
    obtain ⟨k1, k2, k3, k4, k5, k6, hok1⟩ := rep_get hok ho hj hg hw1
    obtain ⟨f1, f2, f3, f4, f5⟩ := hF j rfl hj hg
    rw [← k1] at f1 f2 f3 f4
    refine lv_dload hx hb dL_isReplacedSo_47 (lv_at hl 0 rfl) ?_
    refine lv_dcmp hx hb dL_isReplacedSo_49 ?_
    refine lv_if_ne (tgt := 57) hx hb dL_isReplacedSo_50 (by decide) (fun c => absurd ((cv_l_eq _).mpr (show dCmp (dt r5) (dt r3) = some .eq from (by rw [e12]; exact self_eq f1.nn))) c) (fun c => ?_)
    refine lv_iconst (v := nI 1) hx hb dL_isReplacedSo_53 (by decide) ?_
    refine lv_goto (tgt := 58) hx hb dL_isReplacedSo_54 (by decide) ?_
    refine lv_istore (lv' := [(13, .int (nI 1)), (11, .double r3), (9, .double r2), (7, .double r1), (5, .double (b_bi u o)), (0, .ref (a 0)), (1, .ref (b 0)), (2, .int (nI o)), (3, .int (nI j)), (4, .int y)]) hx hb dL_isReplacedSo_58 hl (by decide) rfl (fun ls hl => ?_)
    refine lv_dload hx hb dL_isReplacedSo_60 (lv_at hl 1 rfl) ?_
    refine lv_ldc2d hx hb (xk_od hown) (dr_words hts _ (.constantDouble RL 61 13904980329019473920) (by decide +kernel)) dL_isReplacedSo_62 ?_
    refine lv_dcmp hx hb dL_isReplacedSo_65 ?_
    refine lv_if_ne (tgt := 105) hx hb dL_isReplacedSo_66 (by decide) (fun c => ?_) (fun c => absurd (show dCmp (dt r3) eD = some .eq from (cv_l_eq _).mp c) (ne_eD f1))
    refine lv_iload hx hb dL_isReplacedSo_105 (lv_at hl 0 rfl) ?_
    refine lv_if_eq (tgt := 189) hx hb dL_isReplacedSo_107 (by decide) (fun c => by first | exact absurd c (by decide) | exact absurd rfl c | exact (c (by decide)).elim) (fun c => ?_)
    refine lv_aload_n hx hb dL_isReplacedSo_110 rfl (lv_at hl 5 rfl) ?_
    refine lv_iload_n hx hb dL_isReplacedSo_111 rfl (lv_at hl 7 rfl) ?_
    have hPx : va_P D vwCl (XU a cI cZ cD u1) H := hP.sub [0, 1, 2, 3, 4, 5, 6, 7, 8, 9, 10, 11, 12, 13, 14, 15, 16] rfl
    have hDx : va_D A (XU a cI cZ cD u1) := hD.sub [0, 1, 2, 3, 4, 5, 6, 7, 8, 9, 10, 11, 12, 13, 14, 15, 16] (by decide) rfl
    refine vp_callSd (va_Run.run (va_runV (As := [.int (nI o)]) (rest := []) ⟨hx, hb, hml, (xk_od hown), (dr_words hts _)⟩ (mX1_billV l D cI cZ cD a _ u1.1 u1.2.1 u1.2.2.1 u1.2.2.2.1 u1.2.2.2.2.1 u1.2.2.2.2.2.1 u1.2.2.2.2.2.2.1 u1.2.2.2.2.2.2.2.1 u1.2.2.2.2.2.2.2.2.1 u1.2.2.2.2.2.2.2.2.2.1 (nI u1.2.2.2.2.2.2.2.2.2.2.1) (nI u1.2.2.2.2.2.2.2.2.2.2.2.1) u1.2.2.2.2.2.2.2.2.2.2.2.2.1 u1.2.2.2.2.2.2.2.2.2.2.2.2.2.1 u1.2.2.2.2.2.2.2.2.2.2.2.2.2.2.1 u1.2.2.2.2.2.2.2.2.2.2.2.2.2.2.2.1 u1.2.2.2.2.2.2.2.2.2.2.2.2.2.2.2.2.1 u1.2.2.2.2.2.2.2.2.2.2.2.2.2.2.2.2.2.1 u1.2.2.2.2.2.2.2.2.2.2.2.2.2.2.2.2.2.2.1 u1.2.2.2.2.2.2.2.2.2.2.2.2.2.2.2.2.2.2.2 o ho) (cwV 1 (dr_words hts _) gL_isReplacedSo_X1_bill rfl rfl rfl (by decide +kernel) ⟨Nat.le_of_ble_eq_true rfl, Nat.le_of_ble_eq_true rfl⟩) ⟨xk_blind, va_recv (xk_Kd hK) hP (ci := 1) (q0 := 0) rfl rfl, xk_pre hPx (xk_Kd hK) hDx⟩ rfl rfl hl.1 rfl (lv_room (Nat.le_of_ble_eq_true rfl)) dL_isReplacedSo_112 ⟨Nat.le_of_ble_eq_true rfl, Nat.le_of_ble_eq_true rfl⟩)) (fun r hr1 => ?_)
    refine xk_d (y := b_bi u1 o) hr1 ?_
    refine lv_dload hx hb dL_isReplacedSo_115 (lv_at hl 4 rfl) ?_
    refine lv_dload hx hb dL_isReplacedSo_117 (lv_at hl 1 rfl) ?_
    refine lv_dadd_any hd6 lw_bits hx hb dL_isReplacedSo_119 (fun r7 _ hal hd8 => ?_)
    have er7 := dt_add hal
    refine lv_dcmp hx hb dL_isReplacedSo_120 ?_
    refine lv_if_ne (tgt := 189) hx hb dL_isReplacedSo_121 (by decide) (fun c => absurd ((cv_l_eq _).mpr (show dCmp (dt (b_bi u1 o)) (dt r7) = some .eq from (by rw [er7, ← dat_bi, ← dat_bi, k2]; exact self_eq f4.nn))) c) (fun c => ?_)
    have hn1 : b_n u1 ≤ 60 := hok1.1
    have hj1 : j < b_n u1 := by have : b_n u1 = s_n (dat u) := k4; omega
    refine lv_aload_n hx hb dL_isReplacedSo_124 rfl (lv_at hl 5 rfl) ?_
    refine lv_iload_n hx hb dL_isReplacedSo_125 rfl (lv_at hl 7 rfl) ?_
    refine lv_iload_n hx hb dL_isReplacedSo_126 rfl (lv_at hl 8 rfl) ?_
    have hPx : va_P D vwCl (XU a cI cZ cD u1) H := hP.sub [0, 1, 2, 3, 4, 5, 6, 7, 8, 9, 10, 11, 12, 13, 14, 15, 16] rfl
    have hDx : va_D A (XU a cI cZ cD u1) := hD.sub [0, 1, 2, 3, 4, 5, 6, 7, 8, 9, 10, 11, 12, 13, 14, 15, 16] (by decide) rfl
    refine vp_callSd (va_Run.run (va_runV (As := [.int (nI o), .int (nI j)]) (rest := []) ⟨hx, hb, hml, (xk_od hown), (dr_words hts _)⟩ (mX1_useV l D cI cZ cD a _ u1.1 u1.2.1 u1.2.2.1 u1.2.2.2.1 u1.2.2.2.2.1 u1.2.2.2.2.2.1 u1.2.2.2.2.2.2.1 u1.2.2.2.2.2.2.2.1 u1.2.2.2.2.2.2.2.2.1 u1.2.2.2.2.2.2.2.2.2.1 (nI u1.2.2.2.2.2.2.2.2.2.2.1) u1.2.2.2.2.2.2.2.2.2.2.2.2.1 u1.2.2.2.2.2.2.2.2.2.2.2.2.2.1 u1.2.2.2.2.2.2.2.2.2.2.2.2.2.2.1 u1.2.2.2.2.2.2.2.2.2.2.2.2.2.2.2.1 u1.2.2.2.2.2.2.2.2.2.2.2.2.2.2.2.2.1 u1.2.2.2.2.2.2.2.2.2.2.2.2.2.2.2.2.2.1 u1.2.2.2.2.2.2.2.2.2.2.2.2.2.2.2.2.2.2.1 u1.2.2.2.2.2.2.2.2.2.2.2.2.2.2.2.2.2.2.2 (b_n u1) o j hn1 ho hj1) (cwV 2 (dr_words hts _) gL_isReplacedSo_X1_use rfl rfl rfl (by decide +kernel) ⟨Nat.le_of_ble_eq_true rfl, Nat.le_of_ble_eq_true rfl⟩) ⟨xk_blind, va_recv (xk_Kd hK) hP (ci := 1) (q0 := 0) rfl rfl, xk_pre hPx (xk_Kd hK) hDx⟩ rfl rfl hl.1 rfl (lv_room (Nat.le_of_ble_eq_true rfl)) dL_isReplacedSo_127 ⟨Nat.le_of_ble_eq_true rfl, Nat.le_of_ble_eq_true rfl⟩)) (fun r hr1 => ?_)
    refine xk_d (y := b_lu u1 (5 * j + o)) hr1 ?_
    refine lv_iload hx hb dL_isReplacedSo_130 (lv_at hl 9 rfl) ?_
    refine lv_i2d hx hb dL_isReplacedSo_132 ?_
    refine lv_dcmp hx hb dL_isReplacedSo_133 ?_
    refine lv_if_ne (tgt := 189) hx hb dL_isReplacedSo_134 (by decide) (fun c => absurd ((cv_l_eq _).mpr (show dCmp (dt (b_lu u1 (5 * j + o))) (dt (FP.i2d y)) = some .eq from (by rw [← dat_lu, k3]; exact self_eq f5.nn))) c) (fun c => ?_)
    refine lv_aload_n hx hb dL_isReplacedSo_137 rfl (lv_at hl 5 rfl) ?_
    refine lv_iconst (v := nI 5) hx hb dL_isReplacedSo_138 (by decide) ?_
    refine lv_iload_n hx hb dL_isReplacedSo_139 rfl (lv_at hl 7 rfl) ?_
    refine lv_iload_n hx hb dL_isReplacedSo_140 rfl (lv_at hl 8 rfl) ?_
    refine lv_iconst (v := nI 0) hx hb dL_isReplacedSo_141 (by decide) ?_
    have hPx : va_P D vwCl (XU a cI cZ cD u1) H := hP.sub [0, 1, 2, 3, 4, 5, 6, 7, 8, 9, 10, 11, 12, 13, 14, 15, 16] rfl
    have hDx : va_D A (XU a cI cZ cD u1) := hD.sub [0, 1, 2, 3, 4, 5, 6, 7, 8, 9, 10, 11, 12, 13, 14, 15, 16] (by decide) rfl
    refine va_calld (vx_runSW (As := [.ref (a 0), .int (nI 5), .int (nI o), .int (nI j), .int (nI 0)]) (rest := []) ⟨hx, hb, hml, (xk_od hown), (dr_words hts _)⟩ (mL_looks5 l hst D cI cZ cD a H u1 (nI o) (nI j) (nI 0) hok1) (vx_cwSW 5 (dr_words hts _) gL_isReplacedSo_L_looks rfl rfl rfl (by decide +kernel) ⟨Nat.le_of_ble_eq_true rfl, Nat.le_of_ble_eq_true rfl⟩) ⟨zq_blind, zq_pre hPx (xk_Kd hK) hDx hE.drawn hN.drawn hS hA⟩ rfl rfl hl.1 rfl (lv_room (Nat.le_of_ble_eq_true rfl)) dL_isReplacedSo_142 ⟨Nat.le_of_ble_eq_true rfl, Nat.le_of_ble_eq_true rfl⟩) hS (fun q h1 h2 => absurd h2 (Nat.not_le.mpr h1)) (fun q h => hA q (Nat.le_trans hS.1 h)) (fun r9 _ t9 H9 locs ht hvm h6 hB hz1 hk1 hS => ?_)
    have hP : va_P D vwCl (XU a cI cZ cD u1 ++ XU b cI cZ cD w1) H9 := hP.kept (fun k q hq => hk1 q.1 (hP k q hq).lt (Nat.not_le.mpr (hP k q hq).lt))
    generalize H9 = H at hP hS ⊢
    refine lv_dload hx hb dL_isReplacedSo_145 (lv_at hl 2 rfl) ?_
    refine lv_dcmp hx hb dL_isReplacedSo_147 ?_
    refine lv_if_ne (tgt := 189) hx hb dL_isReplacedSo_148 (by decide) (fun c => absurd ((cv_l_eq _).mpr (show dCmp (dt r9) (dt r2) = some .eq from (by rw [h6, h5, k5]; exact self_eq hlw))) c) (fun c => ?_)
    refine lv_dload hx hb dL_isReplacedSo_151 (lv_at hl 1 rfl) ?_
    refine lv_ldc2d hx hb (xk_od hown) (dr_words hts _ (.constantDouble RL 102 4632233691727265792) (by decide +kernel)) dL_isReplacedSo_153 ?_
    refine lv_dcmp hx hb dL_isReplacedSo_156 ?_
    refine lv_if_gt (tgt := 189) hx hb dL_isReplacedSo_157 (by decide) (fun c => absurd f2 ((cv_g_gt _).mp c)) (fun c => ?_)
    refine lv_dload hx hb dL_isReplacedSo_160 (lv_at hl 1 rfl) ?_
    refine lv_ldc2d hx hb (xk_od hown) (dr_words hts _ (.constantDouble RL 104 13855605728582041600) (by decide +kernel)) dL_isReplacedSo_162 ?_
    refine lv_dcmp hx hb dL_isReplacedSo_165 ?_
    refine lv_if_lt (tgt := 189) hx hb dL_isReplacedSo_166 (by decide) (fun c => absurd f3 ((cv_l_lt _).mp c)) (fun c => ?_)
    refine lv_aload_n hx hb dL_isReplacedSo_169 rfl (lv_at hl 5 rfl) ?_
    refine lv_iconst (v := nI 1) hx hb dL_isReplacedSo_170 (by decide) ?_
    refine lv_iload_n hx hb dL_isReplacedSo_171 rfl (lv_at hl 7 rfl) ?_
    refine lv_iload_n hx hb dL_isReplacedSo_172 rfl (lv_at hl 8 rfl) ?_
    refine lv_iload hx hb dL_isReplacedSo_173 (lv_at hl 9 rfl) ?_
    have hPx : va_P D vwCl (XU a cI cZ cD u1) H := hP.sub [0, 1, 2, 3, 4, 5, 6, 7, 8, 9, 10, 11, 12, 13, 14, 15, 16] rfl
    have hDx : va_D A (XU a cI cZ cD u1) := hD.sub [0, 1, 2, 3, 4, 5, 6, 7, 8, 9, 10, 11, 12, 13, 14, 15, 16] (by decide) rfl
    have hFc := va_free (wc := XU a cI cZ cD u1) hD hS hA [0, 1, 2, 3, 4, 5, 6, 7, 8, 9, 10, 11, 12, 13, 14, 15, 16] rfl
    refine va_calldD hd8 (xd_runSX (As := [.ref (a 0), .int (nI 1), .int (nI o), .int (nI j), .int y]) (rest := []) ⟨hx, hb, hml, (xk_od hown), (dr_words hts _)⟩ (mL_looks1 l hst D cI cZ cD a _ u1 (nI o) (nI j) y hok1) (vx_cwSW 5 (dr_words hts _) gL_isReplacedSo_L_looks rfl rfl rfl (by decide +kernel) ⟨Nat.le_of_ble_eq_true rfl, Nat.le_of_ble_eq_true rfl⟩) ⟨lp_blind, lp_pre hPx (xk_Kd hK) hDx hE.drawn hN.drawn hS hFc⟩ rfl rfl hl.1 rfl (lv_room (Nat.le_of_ble_eq_true rfl)) dL_isReplacedSo_175 ⟨Nat.le_of_ble_eq_true rfl, Nat.le_of_ble_eq_true rfl⟩) hS (fun q _ h => hFc q h) hFc (fun r10 u2 t9 H locs ht hvm hw3 hB hz1 hk1 hS _ hd11 => ?_)
    obtain ⟨hP1, -, hD1⟩ := hB
    rw [ht] at hP1
    obtain ⟨hP, hD⟩ := va_join (wr := XU b cI cZ cD w1) (w1 := XU a cI cZ cD u2) hP hD [0, 1, 2, 3, 4, 5, 6, 7, 8, 9, 10, 11, 12, 13, 14, 15, 16] [17, 18, 19, 20, 21, 22, 23, 24, 25, 26, 27, 28, 29, 30, 31, 32, 33] rfl rfl (by decide) (by decide) hk1 hFc hP1 hD1
    have hP : va_P D vwCl (XU a cI cZ cD u2 ++ XU b cI cZ cD w1) H := hP.sub [17, 18, 19, 20, 21, 22, 23, 24, 25, 26, 27, 28, 29, 30, 31, 32, 33, 0, 1, 2, 3, 4, 5, 6, 7, 8, 9, 10, 11, 12, 13, 14, 15, 16] rfl
    have hD : va_D A (XU a cI cZ cD u2 ++ XU b cI cZ cD w1) := hD.sub [17, 18, 19, 20, 21, 22, 23, 24, 25, 26, 27, 28, 29, 30, 31, 32, 33, 0, 1, 2, 3, 4, 5, 6, 7, 8, 9, 10, 11, 12, 13, 14, 15, 16] (by decide) rfl
    obtain ⟨g1, g2⟩ := rep_bad k6 hw3
    refine lv_ldc2d hx hb (xk_od hown) (dr_words hts _ (.constantDouble RL 61 13904980329019473920) (by decide +kernel)) dL_isReplacedSo_178 ?_
    refine lv_dcmp hx hb dL_isReplacedSo_181 ?_
    refine lv_if_ne (tgt := 189) hx hb dL_isReplacedSo_182 (by decide) (fun c => absurd ((cv_l_eq _).mpr (show dCmp (dt r10) (dt 13904980329019473920) = some .eq from (by rw [g2]; exact self_eq eD_nn))) c) (fun c => ?_)
    refine lv_iconst (v := nI 1) hx hb dL_isReplacedSo_185 (by decide) ?_
    refine lv_goto (tgt := 190) hx hb dL_isReplacedSo_186 (by decide) ?_
    refine W.widen (k := 6) (n := 36) (Nat.le_of_ble_eq_true rfl) (Nat.le_of_ble_eq_true rfl) ?_
    refine W.endD hd11 ?_
    exact W.zret hx hb hr rfl (fun t ht hW => ⟨⟨_, (u2, w1), rfl, ⟨rfl, g1.trans (congrArg Prod.fst hw1), congrArg Prod.fst hw2⟩, by rw [ht]; exact hP, va_K.moved hW.alike (xk_Kd hK), hD⟩, hS.F ht⟩) hS.2.2 dL_isReplacedSo_190
  · skip
    obtain ⟨k1, k2⟩ := rep_bad hg hw1
    have hok1 : Ok (dat u1) := by rw [k1]; exact hok
    refine lv_dload hx hb dL_isReplacedSo_47 (lv_at hl 0 rfl) ?_
    refine lv_dcmp hx hb dL_isReplacedSo_49 ?_
    refine lv_if_ne (tgt := 57) hx hb dL_isReplacedSo_50 (by decide) (fun c => absurd ((cv_l_eq _).mpr (show dCmp (dt r5) (dt r3) = some .eq from (by rw [e12, k2]; exact self_eq eD_nn))) c) (fun c => ?_)
    refine lv_iconst (v := nI 1) hx hb dL_isReplacedSo_53 (by decide) ?_
    refine lv_goto (tgt := 58) hx hb dL_isReplacedSo_54 (by decide) ?_
    refine lv_istore (lv' := [(13, .int (nI 1)), (11, .double r3), (9, .double r2), (7, .double r1), (5, .double (b_bi u o)), (0, .ref (a 0)), (1, .ref (b 0)), (2, .int (nI o)), (3, .int q), (4, .int y)]) hx hb dL_isReplacedSo_58 hl (by decide) rfl (fun ls hl => ?_)
    refine lv_dload hx hb dL_isReplacedSo_60 (lv_at hl 1 rfl) ?_
    refine lv_ldc2d hx hb (xk_od hown) (dr_words hts _ (.constantDouble RL 61 13904980329019473920) (by decide +kernel)) dL_isReplacedSo_62 ?_
    refine lv_dcmp hx hb dL_isReplacedSo_65 ?_
    refine lv_if_ne (tgt := 105) hx hb dL_isReplacedSo_66 (by decide) (fun c => absurd ((cv_l_eq _).mpr (show dCmp (dt r3) (dt 13904980329019473920) = some .eq from (by rw [k2]; exact self_eq eD_nn))) c) (fun c => ?_)
    refine lv_iload hx hb dL_isReplacedSo_69 (lv_at hl 0 rfl) ?_
    refine lv_if_eq (tgt := 103) hx hb dL_isReplacedSo_71 (by decide) (fun c => by first | exact absurd c (by decide) | exact absurd rfl c | exact (c (by decide)).elim) (fun c => ?_)
    refine lv_aload_n hx hb dL_isReplacedSo_74 rfl (lv_at hl 5 rfl) ?_
    refine lv_iload_n hx hb dL_isReplacedSo_75 rfl (lv_at hl 7 rfl) ?_
    have hPx : va_P D vwCl (XU a cI cZ cD u1) H := hP.sub [0, 1, 2, 3, 4, 5, 6, 7, 8, 9, 10, 11, 12, 13, 14, 15, 16] rfl
    have hDx : va_D A (XU a cI cZ cD u1) := hD.sub [0, 1, 2, 3, 4, 5, 6, 7, 8, 9, 10, 11, 12, 13, 14, 15, 16] (by decide) rfl
    refine vp_callSd (va_Run.run (va_runV (As := [.int (nI o)]) (rest := []) ⟨hx, hb, hml, (xk_od hown), (dr_words hts _)⟩ (mX1_billV l D cI cZ cD a _ u1.1 u1.2.1 u1.2.2.1 u1.2.2.2.1 u1.2.2.2.2.1 u1.2.2.2.2.2.1 u1.2.2.2.2.2.2.1 u1.2.2.2.2.2.2.2.1 u1.2.2.2.2.2.2.2.2.1 u1.2.2.2.2.2.2.2.2.2.1 (nI u1.2.2.2.2.2.2.2.2.2.2.1) (nI u1.2.2.2.2.2.2.2.2.2.2.2.1) u1.2.2.2.2.2.2.2.2.2.2.2.2.1 u1.2.2.2.2.2.2.2.2.2.2.2.2.2.1 u1.2.2.2.2.2.2.2.2.2.2.2.2.2.2.1 u1.2.2.2.2.2.2.2.2.2.2.2.2.2.2.2.1 u1.2.2.2.2.2.2.2.2.2.2.2.2.2.2.2.2.1 u1.2.2.2.2.2.2.2.2.2.2.2.2.2.2.2.2.2.1 u1.2.2.2.2.2.2.2.2.2.2.2.2.2.2.2.2.2.2.1 u1.2.2.2.2.2.2.2.2.2.2.2.2.2.2.2.2.2.2.2 o ho) (cwV 1 (dr_words hts _) gL_isReplacedSo_X1_bill rfl rfl rfl (by decide +kernel) ⟨Nat.le_of_ble_eq_true rfl, Nat.le_of_ble_eq_true rfl⟩) ⟨xk_blind, va_recv (xk_Kd hK) hP (ci := 1) (q0 := 0) rfl rfl, xk_pre hPx (xk_Kd hK) hDx⟩ rfl rfl hl.1 rfl (lv_room (Nat.le_of_ble_eq_true rfl)) dL_isReplacedSo_76 ⟨Nat.le_of_ble_eq_true rfl, Nat.le_of_ble_eq_true rfl⟩)) (fun r hr1 => ?_)
    refine xk_d (y := b_bi u1 o) hr1 ?_
    refine lv_dload hx hb dL_isReplacedSo_79 (lv_at hl 4 rfl) ?_
    refine lv_dcmp hx hb dL_isReplacedSo_81 ?_
    refine lv_if_ne (tgt := 103) hx hb dL_isReplacedSo_82 (by decide) (fun c => absurd ((cv_l_eq _).mpr (show dCmp (dt (b_bi u1 o)) (dt (b_bi u o)) = some .eq from (by rw [← dat_bi, ← dat_bi, k1]; exact self_eq hbi))) c) (fun c => ?_)
    refine lv_aload_n hx hb dL_isReplacedSo_85 rfl (lv_at hl 5 rfl) ?_
    refine lv_iconst (v := nI 2) hx hb dL_isReplacedSo_86 (by decide) ?_
    refine lv_iload_n hx hb dL_isReplacedSo_87 rfl (lv_at hl 7 rfl) ?_
    refine lv_iload_n hx hb dL_isReplacedSo_88 rfl (lv_at hl 8 rfl) ?_
    refine lv_iconst (v := nI 0) hx hb dL_isReplacedSo_89 (by decide) ?_
    have hPx : va_P D vwCl (XU a cI cZ cD u1) H := hP.sub [0, 1, 2, 3, 4, 5, 6, 7, 8, 9, 10, 11, 12, 13, 14, 15, 16] rfl
    have hDx : va_D A (XU a cI cZ cD u1) := hD.sub [0, 1, 2, 3, 4, 5, 6, 7, 8, 9, 10, 11, 12, 13, 14, 15, 16] (by decide) rfl
    refine va_calld (vx_runSW (As := [.ref (a 0), .int (nI 2), .int (nI o), .int q, .int (nI 0)]) (rest := []) ⟨hx, hb, hml, (xk_od hown), (dr_words hts _)⟩ (mL_looks2 l hst D cI cZ cD a H u1 (nI o) q (nI 0) hok1) (vx_cwSW 5 (dr_words hts _) gL_isReplacedSo_L_looks rfl rfl rfl (by decide +kernel) ⟨Nat.le_of_ble_eq_true rfl, Nat.le_of_ble_eq_true rfl⟩) ⟨zq_blind, zq_pre hPx (xk_Kd hK) hDx hE.drawn hN.drawn hS hA⟩ rfl rfl hl.1 rfl (lv_room (Nat.le_of_ble_eq_true rfl)) dL_isReplacedSo_90 ⟨Nat.le_of_ble_eq_true rfl, Nat.le_of_ble_eq_true rfl⟩) hS (fun q h1 h2 => absurd h2 (Nat.not_le.mpr h1)) (fun q h => hA q (Nat.le_trans hS.1 h)) (fun r12 _ t9 H9 locs ht hvm h6 hB hz1 hk1 hS => ?_)
    have hP : va_P D vwCl (XU a cI cZ cD u1 ++ XU b cI cZ cD w1) H9 := hP.kept (fun k q hq => hk1 q.1 (hP k q hq).lt (Nat.not_le.mpr (hP k q hq).lt))
    generalize H9 = H at hP hS ⊢
    refine lv_dload hx hb dL_isReplacedSo_93 (lv_at hl 3 rfl) ?_
    refine lv_dcmp hx hb dL_isReplacedSo_95 ?_
    refine lv_if_ne (tgt := 103) hx hb dL_isReplacedSo_96 (by decide) (fun c => absurd ((cv_l_eq _).mpr (show dCmp (dt r12) (dt r1) = some .eq from (by rw [h6, h2, k1]; exact self_eq hlu))) c) (fun c => ?_)
    refine lv_iconst (v := nI 1) hx hb dL_isReplacedSo_99 (by decide) ?_
    refine lv_goto (tgt := 104) hx hb dL_isReplacedSo_100 (by decide) ?_
    refine W.widen (k := 6) (n := 36) (Nat.le_of_ble_eq_true rfl) (Nat.le_of_ble_eq_true rfl) ?_
    refine W.endD hd6 ?_
    exact W.zret hx hb hr rfl (fun t ht hW => ⟨⟨_, (u1, w1), rfl, ⟨rfl, congrArg Prod.fst hw1, congrArg Prod.fst hw2⟩, by rw [ht]; exact hP, va_K.moved hW.alike (xk_Kd hK), hD⟩, hS.F ht⟩) hS.2.2 dL_isReplacedSo_104
