/-! isClosedSo: a quarter that is closed -/
theorem cl_bad {σ τ : St} {r x : Int32} (hn : ¬ s_n σ < 60) (h : (τ, r) = sCl σ x) : τ = σ ∧ r = eN := by
  have e : sCl σ x = (σ, eN) := by unfold sCl; rw [if_neg (fun z => hn z.2)]
  rw [e] at h
  exact ⟨congrArg Prod.fst h, congrArg Prod.snd h⟩
theorem cl_good {σ τ : St} {r : Int32} {s : Nat} (hs : s ≤ 100) (hn : s_n σ < 60) (h : (τ, r) = sCl σ (nI s)) : τ = closeS (nI s) σ ∧ r = bI (over (cV σ)) := by
  have e : sCl σ (nI s) = (closeS (nI s) σ, bI (over (cV σ))) := by unfold sCl; rw [if_pos (show gCl σ (nI s) from ⟨nI_inR (n := 100) hs (by decide), hn⟩)]
  rw [e] at h
  exact ⟨congrArg Prod.fst h, congrArg Prod.snd h⟩
theorem bI_nN (c : Prop) [Decidable c] : ¬ bI c = eN := by
  by_cases h : c
  · rw [bI_t h]; decide
  · rw [bI_f h]; decide
theorem fill_I {f g : Nat → Int32} {i : Nat} (h : ∀ j, j < i → f j = g j) : ∀ j, j < i + 1 → upd f i (g i) j = g j := by
  intro j hj
  by_cases c : j = i
  · rw [c, upd_at]
  · rw [upd_ne _ _ c]; exact h j (by omega)
theorem fill_D {f g : Nat → UInt64} {i : Nat} (h : ∀ j, j < i → f j = g j) : ∀ j, j < i + 1 → vf_upd f i (g i) j = g j := by
  intro j hj
  unfold vf_upd
  by_cases c : j = i
  · rw [if_pos c, c]
  · rw [if_neg c]; exact h j (by omega)
theorem nI_n1 {n m : Nat} (h : n = m + 1) : nI n = nI m + nI 1 := by rw [nI_add, h]
theorem sub_0 {x y : Int32} (h : x = y) : x - y = nI 0 := by rw [h]; exact Int32.sub_self _
theorem sub_1 {x y : Int32} (h : x = y + 1) : x - y = nI 1 := by rw [h, Int32.add_comm, Int32.add_sub_cancel]; rfl
set_option maxHeartbeats 4000000 in
set_option maxRecDepth 100000 in
theorem mL_isClosedSo (l : Launch) (hst : l.stackTraces = false) (D : va_G) (cI cZ cD : ClassId) (a b : Nat → Nat) (sz : Nat) (u : Bt) (w : Bt) (f x : Nat) (hf : 1 ≤ f ∧ f ≤ 4) (hx9 : x ≤ 100) (hok : Ok (dat u)) (heq : dat w = dat u) (hso : s_so (dat u) ≠ .nan) (hC : s_n (dat u) < 60 → clF (nI x) (prS (dt (pB f)) (dat u))) : MetD lw_cs l yL_isClosedSo wsL_isClosedSo ({ frames := 9, cells := 4, slots := 22, locals := 151 } : Room) (va_Pc [.ref (a 0), .ref (b 0), .int (nI f), .int (nI x)] (LQ D cI cZ cD (XU a cI cZ cD u ++ XU b cI cZ cD w) sz)) (va_Qi (fun (r : Int32) (z : Bt × Bt) => r = nI 1 ∧ dat z.1 = (sCl (prS (dt (pB f)) (dat u)) (nI x)).1 ∧ dat z.2 = (sCl (prS (dt (pB f)) (dat u)) (nI x)).1) (fun (z : Bt × Bt) t => XB D cI cZ cD (XU a cI cZ cD z.1 ++ XU b cI cZ cD z.2) (va_A (XU a cI cZ cD u ++ XU b cI cZ cD w) sz) t) (va_A (XU a cI cZ cD u ++ XU b cI cZ cD w) sz)) 4 22 (va_A (XU a cI cZ cD u ++ XU b cI cZ cD w) sz) := by
  refine MetD.ofW (cc := cL_isClosedSo) (maxL := 23) (ret := (some .boolean)) (by decide +kernel) rfl ?_
  intro p e s m args below meth c s₁ B hml hv hd0
  obtain ⟨rfl, hsz, ⟨hP, hK, hD0⟩, hE, hN⟩ := hv
  have hx := B.exec
  have hb := B.bytes
  have hr := B.returns
  have hts := atoms_spec (ws := wsL_isClosedSo) B.pre
  have hown : s.vm.findClass RL = some m.cls := findClass_of_methodNamed B.named
  have hlocks := B.notSynchronized
  subst hsz
  have hD := hD0.self (sz := s.heap.size)
  generalize hAe : va_A (XU a cI cZ cD u ++ XU b cI cZ cD w) s.heap.size = A at hD hE ⊢
  have hA : ∀ q : Nat, s.heap.size ≤ q → A q := fun q h => by rw [← hAe]; exact Or.inr h
  have hS : va_S A s.heap s.heap [] := va_S.rf
  have hl := lv_entry ([.ref (a 0), .ref (b 0), .int (nI f), .int (nI x)]) (n := 23) (Nat.le_of_ble_eq_true rfl)
  rw [lg_entry_eq]
  generalize (lg_sl ([.ref (a 0), .ref (b 0), .int (nI f), .int (nI x)]) ++ List.replicate (23 - (lg_sl ([.ref (a 0), .ref (b 0), .int (nI f), .int (nI x)])).length) Slot.unset).toArray = ls at hl ⊢
  have hl : lv_has ls 23 [(0, .ref (a 0)), (1, .ref (b 0)), (2, .int (nI f)), (3, .int (nI x))] := hl
  obtain ⟨hpr, hp4⟩ := pB_ok hf.1 hf.2
  have hpn := hpr.1.nn
  refine lv_aload_n hx hb dL_isClosedSo_0 rfl (lv_at hl 0 rfl) ?_
  refine lv_iload_n hx hb dL_isClosedSo_1 rfl (lv_at hl 2 rfl) ?_
  have hPx : va_P D vwCl (XU a cI cZ cD u) s.heap := hP.sub [0, 1, 2, 3, 4, 5, 6, 7, 8, 9, 10, 11, 12, 13, 14, 15, 16] rfl
  have hDx : va_D A (XU a cI cZ cD u) := hD.sub [0, 1, 2, 3, 4, 5, 6, 7, 8, 9, 10, 11, 12, 13, 14, 15, 16] (by decide) rfl
  have hFc := va_free (wc := XU a cI cZ cD u) hD hS hA [0, 1, 2, 3, 4, 5, 6, 7, 8, 9, 10, 11, 12, 13, 14, 15, 16] rfl
  refine va_calld (va_runV (As := [.int (nI f)]) (rest := []) ⟨hx, hb, hml, (xk_od hown), (dr_words hts _)⟩ (mX1_setPriceV l D cI cZ cD a _ u.1 u.2.1 u.2.2.1 u.2.2.2.1 u.2.2.2.2.1 u.2.2.2.2.2.1 u.2.2.2.2.2.2.1 u.2.2.2.2.2.2.2.1 u.2.2.2.2.2.2.2.2.1 u.2.2.2.2.2.2.2.2.2.1 (nI u.2.2.2.2.2.2.2.2.2.2.1) (nI u.2.2.2.2.2.2.2.2.2.2.2.1) u.2.2.2.2.2.2.2.2.2.2.2.2.1 u.2.2.2.2.2.2.2.2.2.2.2.2.2.1 u.2.2.2.2.2.2.2.2.2.2.2.2.2.2.1 u.2.2.2.2.2.2.2.2.2.2.2.2.2.2.2.1 u.2.2.2.2.2.2.2.2.2.2.2.2.2.2.2.2.1 u.2.2.2.2.2.2.2.2.2.2.2.2.2.2.2.2.2.1 u.2.2.2.2.2.2.2.2.2.2.2.2.2.2.2.2.2.2.1 u.2.2.2.2.2.2.2.2.2.2.2.2.2.2.2.2.2.2.2 f ⟨hf.1, by omega⟩) (cwV 1 (dr_words hts _) gL_isClosedSo_X1_setPrice rfl rfl rfl (by decide +kernel) ⟨Nat.le_of_ble_eq_true rfl, Nat.le_of_ble_eq_true rfl⟩) ⟨xk_blind, va_recv (xk_Kd hK) hP (ci := 1) (q0 := 0) rfl rfl, xk_pre hPx (xk_Kd hK) hDx⟩ rfl rfl hl.1 rfl (lv_room (Nat.le_of_ble_eq_true rfl)) dL_isClosedSo_2 ⟨Nat.le_of_ble_eq_true rfl, Nat.le_of_ble_eq_true rfl⟩) hS (fun q _ h => hFc q h) hFc (fun r9 _ t9 H locs ht hvm hw9 hB hz1 hk1 hS => ?_)
  obtain ⟨hP1, -, hD1⟩ := hB
  rw [ht] at hP1
  obtain ⟨u1, hq_u1⟩ : ∃ z : Bt, z = (b_sh u, b_sw u, b_ts u, b_bi u, b_it u, b_tu u, b_ne u, pB f, b_so u, b_lo u, b_t u, b_n u, b_lp u, b_lz u, b_lu u, b_lk u, b_ld u, b_lf u, b_lb u, b_lw u) := ⟨_, rfl⟩
  have hP1 : va_P D vwCl (XU a cI cZ cD u1) H := by rw [hq_u1]; exact hP1
  have hD1 := (show va_D _ (XU a cI cZ cD u1) by rw [hq_u1]; exact hD1)
  have du1 : dat u1 = prS (dt (pB f)) (dat u) := by rw [hq_u1]; rfl
  obtain ⟨hP, hD⟩ := va_join (wr := XU b cI cZ cD w) (w1 := XU a cI cZ cD u1) hP hD [0, 1, 2, 3, 4, 5, 6, 7, 8, 9, 10, 11, 12, 13, 14, 15, 16] [17, 18, 19, 20, 21, 22, 23, 24, 25, 26, 27, 28, 29, 30, 31, 32, 33] rfl rfl (by decide) (by decide) hk1 hFc hP1 hD1
  have hP : va_P D vwCl (XU a cI cZ cD u1 ++ XU b cI cZ cD w) H := hP.sub [17, 18, 19, 20, 21, 22, 23, 24, 25, 26, 27, 28, 29, 30, 31, 32, 33, 0, 1, 2, 3, 4, 5, 6, 7, 8, 9, 10, 11, 12, 13, 14, 15, 16] rfl
  have hD : va_D A (XU a cI cZ cD u1 ++ XU b cI cZ cD w) := hD.sub [17, 18, 19, 20, 21, 22, 23, 24, 25, 26, 27, 28, 29, 30, 31, 32, 33, 0, 1, 2, 3, 4, 5, 6, 7, 8, 9, 10, 11, 12, 13, 14, 15, 16] (by decide) rfl
  refine xk_d (y := pB f) hw9 ?_
  refine lv_dstore (lv' := [(4, .double (pB f)), (0, .ref (a 0)), (1, .ref (b 0)), (2, .int (nI f)), (3, .int (nI x))]) hx hb dL_isClosedSo_5 hl (by decide) rfl (fun ls hl => ?_)
  refine lv_aload_n hx hb dL_isClosedSo_7 rfl (lv_at hl 1 rfl) ?_
  have hPx : va_P D vwCl (XU a cI cZ cD u1) H := hP.sub [0, 1, 2, 3, 4, 5, 6, 7, 8, 9, 10, 11, 12, 13, 14, 15, 16] rfl
  have hDx : va_D A (XU a cI cZ cD u1) := hD.sub [0, 1, 2, 3, 4, 5, 6, 7, 8, 9, 10, 11, 12, 13, 14, 15, 16] (by decide) rfl
  refine vp_callSd (va_Run.run (va_runV (As := []) (rest := []) ⟨hx, hb, hml, (xk_od hown), (dr_words hts _)⟩ (mX1_batteryV l D cI cZ cD a _ u1.1 u1.2.1 u1.2.2.1 u1.2.2.2.1 u1.2.2.2.2.1 u1.2.2.2.2.2.1 u1.2.2.2.2.2.2.1 u1.2.2.2.2.2.2.2.1 u1.2.2.2.2.2.2.2.2.1 u1.2.2.2.2.2.2.2.2.2.1 (nI u1.2.2.2.2.2.2.2.2.2.2.1) (nI u1.2.2.2.2.2.2.2.2.2.2.2.1) u1.2.2.2.2.2.2.2.2.2.2.2.2.1 u1.2.2.2.2.2.2.2.2.2.2.2.2.2.1 u1.2.2.2.2.2.2.2.2.2.2.2.2.2.2.1 u1.2.2.2.2.2.2.2.2.2.2.2.2.2.2.2.1 u1.2.2.2.2.2.2.2.2.2.2.2.2.2.2.2.2.1 u1.2.2.2.2.2.2.2.2.2.2.2.2.2.2.2.2.2.1 u1.2.2.2.2.2.2.2.2.2.2.2.2.2.2.2.2.2.2.1 u1.2.2.2.2.2.2.2.2.2.2.2.2.2.2.2.2.2.2.2 ) (cwV 0 (dr_words hts _) gL_isClosedSo_X1_battery rfl rfl rfl (by decide +kernel) ⟨Nat.le_of_ble_eq_true rfl, Nat.le_of_ble_eq_true rfl⟩) ⟨xk_blind, va_recv (xk_Kd hK) hP (ci := 1) (q0 := 0) rfl rfl, xk_pre hPx (xk_Kd hK) hDx⟩ rfl rfl hl.1 rfl (lv_room (Nat.le_of_ble_eq_true rfl)) dL_isClosedSo_8 ⟨Nat.le_of_ble_eq_true rfl, Nat.le_of_ble_eq_true rfl⟩)) (fun r hr1 => ?_)
  refine xk_d (y := b_so u1) hr1 ?_
  refine lv_dstore (lv' := [(6, .double (b_so u1)), (4, .double (pB f)), (0, .ref (a 0)), (1, .ref (b 0)), (2, .int (nI f)), (3, .int (nI x))]) hx hb dL_isClosedSo_11 hl (by decide) rfl (fun ls hl => ?_)
  refine lv_aload_n hx hb dL_isClosedSo_13 rfl (lv_at hl 2 rfl) ?_
  have hPx : va_P D vwCl (XU a cI cZ cD u1) H := hP.sub [0, 1, 2, 3, 4, 5, 6, 7, 8, 9, 10, 11, 12, 13, 14, 15, 16] rfl
  have hDx : va_D A (XU a cI cZ cD u1) := hD.sub [0, 1, 2, 3, 4, 5, 6, 7, 8, 9, 10, 11, 12, 13, 14, 15, 16] (by decide) rfl
  refine vp_callSi (va_Run.run (va_runV (As := []) (rest := []) ⟨hx, hb, hml, (xk_od hown), (dr_words hts _)⟩ (mX1_closedV l D cI cZ cD a _ u1.1 u1.2.1 u1.2.2.1 u1.2.2.2.1 u1.2.2.2.2.1 u1.2.2.2.2.2.1 u1.2.2.2.2.2.2.1 u1.2.2.2.2.2.2.2.1 u1.2.2.2.2.2.2.2.2.1 u1.2.2.2.2.2.2.2.2.2.1 (nI u1.2.2.2.2.2.2.2.2.2.2.1) (nI u1.2.2.2.2.2.2.2.2.2.2.2.1) u1.2.2.2.2.2.2.2.2.2.2.2.2.1 u1.2.2.2.2.2.2.2.2.2.2.2.2.2.1 u1.2.2.2.2.2.2.2.2.2.2.2.2.2.2.1 u1.2.2.2.2.2.2.2.2.2.2.2.2.2.2.2.1 u1.2.2.2.2.2.2.2.2.2.2.2.2.2.2.2.2.1 u1.2.2.2.2.2.2.2.2.2.2.2.2.2.2.2.2.2.1 u1.2.2.2.2.2.2.2.2.2.2.2.2.2.2.2.2.2.2.1 u1.2.2.2.2.2.2.2.2.2.2.2.2.2.2.2.2.2.2.2 ) (cwV 0 (dr_words hts _) gL_isClosedSo_X1_closed rfl rfl rfl (by decide +kernel) ⟨Nat.le_of_ble_eq_true rfl, Nat.le_of_ble_eq_true rfl⟩) ⟨xk_blind, va_recv (xk_Kd hK) hP (ci := 1) (q0 := 0) rfl rfl, xk_pre hPx (xk_Kd hK) hDx⟩ rfl rfl hl.1 rfl (lv_room (Nat.le_of_ble_eq_true rfl)) dL_isClosedSo_14 ⟨Nat.le_of_ble_eq_true rfl, Nat.le_of_ble_eq_true rfl⟩)) (fun r hr1 => ?_)
  refine xk_i (y := nI (b_n u1)) hr1 ?_
  refine lv_istore (lv' := [(8, .int (nI (b_n u1))), (6, .double (b_so u1)), (4, .double (pB f)), (0, .ref (a 0)), (1, .ref (b 0)), (2, .int (nI f)), (3, .int (nI x))]) hx hb dL_isClosedSo_17 hl (by decide) rfl (fun ls hl => ?_)
  refine lv_iconst (v := nI 5) hx hb dL_isClosedSo_19 (by decide) ?_
  refine xk_newa (atype := .int) (ty := .int) (N' := 5) (a0 := (5, .inl (fun _ => 0))) hx hb (dr_words hts _ (.arrayClass .int) (by decide +kernel)) rfl (xk_Kd hK) hP hD hS hA 0 rfl (fun _ _ h9 => h9) (fun _ => rfl) (by decide +kernel) (by decide +kernel) (Nat.le_of_ble_eq_true rfl) (Nat.le_of_ble_eq_true rfl) (Nat.le_of_ble_eq_true rfl) dL_isClosedSo_20 (fun q9 H hP hD hS => ?_)
  have hP : va_P D vwCl (XU a cI cZ cD u1 ++ (XU b cI cZ cD w ++ [(q9, .inl (cI, 5, .inl (fun _ => 0)))])) H := hP
  have hD : va_D A (XU a cI cZ cD u1 ++ (XU b cI cZ cD w ++ [(q9, .inl (cI, 5, .inl (fun _ => 0)))])) := hD
  refine lv_astore (lv' := [(9, .ref q9), (8, .int (nI (b_n u1))), (6, .double (b_so u1)), (4, .double (pB f)), (0, .ref (a 0)), (1, .ref (b 0)), (2, .int (nI f)), (3, .int (nI x))]) hx hb dL_isClosedSo_22 hl (by decide) rfl (fun ls hl => ?_)
  refine lv_iconst (v := nI 5) hx hb dL_isClosedSo_24 (by decide) ?_
  refine xk_newa (atype := .double) (ty := .double) (N' := 5) (a0 := (5, .inr (.inr (.inr (.inl (fun _ => 0)))))) hx hb (dr_words hts _ (.arrayClass .double) (by decide +kernel)) rfl (xk_Kd hK) hP hD hS hA 2 rfl (fun _ _ h9 => h9) (fun _ => rfl) (by decide +kernel) (by decide +kernel) (Nat.le_of_ble_eq_true rfl) (Nat.le_of_ble_eq_true rfl) (Nat.le_of_ble_eq_true rfl) dL_isClosedSo_25 (fun q10 H hP hD hS => ?_)
  have hP : va_P D vwCl (XU a cI cZ cD u1 ++ (XU b cI cZ cD w ++ [(q9, .inl (cI, 5, .inl (fun _ => 0))), (q10, .inl (cD, 5, .inr (.inr (.inr (.inl (fun _ => 0))))))])) H := hP
  have hD : va_D A (XU a cI cZ cD u1 ++ (XU b cI cZ cD w ++ [(q9, .inl (cI, 5, .inl (fun _ => 0))), (q10, .inl (cD, 5, .inr (.inr (.inr (.inl (fun _ => 0))))))])) := hD
  refine lv_astore (lv' := [(10, .ref q10), (9, .ref q9), (8, .int (nI (b_n u1))), (6, .double (b_so u1)), (4, .double (pB f)), (0, .ref (a 0)), (1, .ref (b 0)), (2, .int (nI f)), (3, .int (nI x))]) hx hb dL_isClosedSo_27 hl (by decide) rfl (fun ls hl => ?_)
  refine lv_iconst (v := nI 0) hx hb dL_isClosedSo_29 (by decide) ?_
  refine lv_istore (lv' := [(11, .int (nI 0)), (10, .ref q10), (9, .ref q9), (8, .int (nI (b_n u1))), (6, .double (b_so u1)), (4, .double (pB f)), (0, .ref (a 0)), (1, .ref (b 0)), (2, .int (nI f)), (3, .int (nI x))]) hx hb dL_isClosedSo_30 hl (by decide) rfl (fun ls hl => ?_)
  refine xk_loop (fun i H locs ls d => ∃ (f9 : Nat → Int32) (f10 : Nat → UInt64), (∀ j, j < i → f9 j = b_ts u1 j) ∧ (∀ j, j < i → f10 j = b_bi u1 j) ∧ va_P D vwCl (XU a cI cZ cD u1 ++ (XU b cI cZ cD w ++ [(q9, .inl (cI, 5, .inl f9)), (q10, .inl (cD, 5, .inr (.inr (.inr (.inl f10)))))])) H ∧ va_D A (XU a cI cZ cD u1 ++ (XU b cI cZ cD w ++ [(q9, .inl (cI, 5, .inl f9)), (q10, .inl (cD, 5, .inr (.inr (.inr (.inl f10)))))])) ∧ va_S A s.heap H locs ∧ s.drawn.sameBut d lw_cs ∧ lv_has ls 23 [(11, .int (nI i)), (10, .ref q10), (9, .ref q9), (8, .int (nI (b_n u1))), (6, .double (b_so u1)), (4, .double (pB f)), (0, .ref (a 0)), (1, .ref (b 0)), (2, .int (nI f)), (3, .int (nI x))]) 5 ?_ (i := 0) (Nat.zero_le _) ⟨_, _, fun j hj => absurd hj (Nat.not_lt_zero _), fun j hj => absurd hj (Nat.not_lt_zero _), hP, hD, hS, hd0, lv_sub hl [0, 1, 2, 3, 4, 5, 6, 7, 8, 9] rfl⟩
  intro i H locs ls d hi hI next
  obtain ⟨f9, f10, h9, h10, hP, hD, hS, hdl, hl⟩ := hI
  refine lv_iload hx hb dL_isClosedSo_32 (lv_at hl 0 rfl) ?_
  refine lv_iconst (v := nI 5) hx hb dL_isClosedSo_34 (by decide) ?_
  refine lv_icmp_ge (tgt := 66) hx hb dL_isClosedSo_35 (by decide) (fun c => ?_) (fun c => ?_)
  · skip
    obtain rfl := xk_ge hi (by decide) c
    refine lv_aload_n hx hb dL_isClosedSo_66 rfl (lv_at hl 6 rfl) ?_
    refine lv_iconst (v := nI 3) hx hb dL_isClosedSo_67 (by decide) ?_
    refine lv_iload_n hx hb dL_isClosedSo_68 rfl (lv_at hl 9 rfl) ?_
    refine lv_iconst (v := nI 0) hx hb dL_isClosedSo_69 (by decide) ?_
    have hok1 : Ok (dat u1) := by rw [du1]; exact hok
    have hPx : va_P D vwCl (XU a cI cZ cD u1) H := hP.sub [0, 1, 2, 3, 4, 5, 6, 7, 8, 9, 10, 11, 12, 13, 14, 15, 16] rfl
    have hDx : va_D A (XU a cI cZ cD u1) := hD.sub [0, 1, 2, 3, 4, 5, 6, 7, 8, 9, 10, 11, 12, 13, 14, 15, 16] (by decide) rfl
    have hFc := va_free (wc := XU a cI cZ cD u1) hD hS hA [0, 1, 2, 3, 4, 5, 6, 7, 8, 9, 10, 11, 12, 13, 14, 15, 16] rfl
    refine va_calliD hdl (xd_runSX (As := [.ref (a 0), .int (nI 3), .int (nI x), .int (nI 0)]) (rest := []) ⟨hx, hb, hml, (xk_od hown), (dr_words hts _)⟩ (mL_does3 l hst D cI cZ cD a _ u1 (nI x) (nI 0) hok1) (vx_cwSW 4 (dr_words hts _) gL_isClosedSo_L_does rfl rfl rfl (by decide +kernel) ⟨Nat.le_of_ble_eq_true rfl, Nat.le_of_ble_eq_true rfl⟩) ⟨lp_blind, lp_pre hPx (xk_Kd hK) hDx hE.drawn hN.drawn hS hFc⟩ rfl rfl hl.1 rfl (lv_room (Nat.le_of_ble_eq_true rfl)) dL_isClosedSo_70 ⟨Nat.le_of_ble_eq_true rfl, Nat.le_of_ble_eq_true rfl⟩) hS (fun q _ h => hFc q h) hFc (fun r1 u2 t9 H locs ht hvm hw1 hB hz1 hk1 hS _ hd2 => ?_)
    obtain ⟨hP1, -, hD1⟩ := hB
    rw [ht] at hP1
    obtain ⟨hP, hD⟩ := va_join (wr := XU b cI cZ cD w ++ [(q9, .inl (cI, 5, .inl f9)), (q10, .inl (cD, 5, .inr (.inr (.inr (.inl f10)))))]) (w1 := XU a cI cZ cD u2) hP hD [0, 1, 2, 3, 4, 5, 6, 7, 8, 9, 10, 11, 12, 13, 14, 15, 16] [17, 18, 19, 20, 21, 22, 23, 24, 25, 26, 27, 28, 29, 30, 31, 32, 33, 34, 35] rfl rfl (by decide) (by decide) hk1 hFc hP1 hD1
    have hP : va_P D vwCl (XU a cI cZ cD u2 ++ (XU b cI cZ cD w ++ [(q9, .inl (cI, 5, .inl f9)), (q10, .inl (cD, 5, .inr (.inr (.inr (.inl f10)))))])) H := hP.sub [19, 20, 21, 22, 23, 24, 25, 26, 27, 28, 29, 30, 31, 32, 33, 34, 35, 0, 1, 2, 3, 4, 5, 6, 7, 8, 9, 10, 11, 12, 13, 14, 15, 16, 17, 18] rfl
    have hD : va_D A (XU a cI cZ cD u2 ++ (XU b cI cZ cD w ++ [(q9, .inl (cI, 5, .inl f9)), (q10, .inl (cD, 5, .inr (.inr (.inr (.inl f10)))))])) := hD.sub [19, 20, 21, 22, 23, 24, 25, 26, 27, 28, 29, 30, 31, 32, 33, 34, 35, 0, 1, 2, 3, 4, 5, 6, 7, 8, 9, 10, 11, 12, 13, 14, 15, 16, 17, 18] (by decide) rfl
    refine lv_istore (lv' := [(11, .int r1), (10, .ref q10), (9, .ref q9), (8, .int (nI (b_n u1))), (6, .double (b_so u1)), (4, .double (pB f)), (0, .ref (a 0)), (1, .ref (b 0)), (2, .int (nI f)), (3, .int (nI x))]) hx hb dL_isClosedSo_73 hl (by decide) rfl (fun ls hl => ?_)
    refine lv_aload_n hx hb dL_isClosedSo_75 rfl (lv_at hl 7 rfl) ?_
    refine lv_iload_n hx hb dL_isClosedSo_76 rfl (lv_at hl 8 rfl) ?_
    have hPx : va_P D vwCl (XU b cI cZ cD w) H := hP.sub [17, 18, 19, 20, 21, 22, 23, 24, 25, 26, 27, 28, 29, 30, 31, 32, 33] rfl
    have hDx : va_D A (XU b cI cZ cD w) := hD.sub [17, 18, 19, 20, 21, 22, 23, 24, 25, 26, 27, 28, 29, 30, 31, 32, 33] (by decide) rfl
    have hFc := va_free (wc := XU b cI cZ cD w) hD hS hA [17, 18, 19, 20, 21, 22, 23, 24, 25, 26, 27, 28, 29, 30, 31, 32, 33] rfl
    refine va_calld (va_runV (As := [.int (nI f)]) (rest := []) ⟨hx, hb, hml, (xk_od hown), (dr_words hts _)⟩ (mX1_setPriceV l D cI cZ cD b _ w.1 w.2.1 w.2.2.1 w.2.2.2.1 w.2.2.2.2.1 w.2.2.2.2.2.1 w.2.2.2.2.2.2.1 w.2.2.2.2.2.2.2.1 w.2.2.2.2.2.2.2.2.1 w.2.2.2.2.2.2.2.2.2.1 (nI w.2.2.2.2.2.2.2.2.2.2.1) (nI w.2.2.2.2.2.2.2.2.2.2.2.1) w.2.2.2.2.2.2.2.2.2.2.2.2.1 w.2.2.2.2.2.2.2.2.2.2.2.2.2.1 w.2.2.2.2.2.2.2.2.2.2.2.2.2.2.1 w.2.2.2.2.2.2.2.2.2.2.2.2.2.2.2.1 w.2.2.2.2.2.2.2.2.2.2.2.2.2.2.2.2.1 w.2.2.2.2.2.2.2.2.2.2.2.2.2.2.2.2.2.1 w.2.2.2.2.2.2.2.2.2.2.2.2.2.2.2.2.2.2.1 w.2.2.2.2.2.2.2.2.2.2.2.2.2.2.2.2.2.2.2 f ⟨hf.1, by omega⟩) (cwV 1 (dr_words hts _) gL_isClosedSo_X1_setPrice rfl rfl rfl (by decide +kernel) ⟨Nat.le_of_ble_eq_true rfl, Nat.le_of_ble_eq_true rfl⟩) ⟨xk_blind, va_recv (xk_Kd hK) hP (ci := 1) (q0 := 17) rfl rfl, xk_pre hPx (xk_Kd hK) hDx⟩ rfl rfl hl.1 rfl (lv_room (Nat.le_of_ble_eq_true rfl)) dL_isClosedSo_77 ⟨Nat.le_of_ble_eq_true rfl, Nat.le_of_ble_eq_true rfl⟩) hS (fun q _ h => hFc q h) hFc (fun r9 _ t9 H locs ht hvm hw9 hB hz1 hk1 hS => ?_)
    obtain ⟨hP1, -, hD1⟩ := hB
    rw [ht] at hP1
    obtain ⟨w1, hq_w1⟩ : ∃ z : Bt, z = (b_sh w, b_sw w, b_ts w, b_bi w, b_it w, b_tu w, b_ne w, pB f, b_so w, b_lo w, b_t w, b_n w, b_lp w, b_lz w, b_lu w, b_lk w, b_ld w, b_lf w, b_lb w, b_lw w) := ⟨_, rfl⟩
    have hP1 : va_P D vwCl (XU b cI cZ cD w1) H := by rw [hq_w1]; exact hP1
    have hD1 := (show va_D _ (XU b cI cZ cD w1) by rw [hq_w1]; exact hD1)
    have dw1 : dat w1 = prS (dt (pB f)) (dat w) := by rw [hq_w1]; rfl
    obtain ⟨hP, hD⟩ := va_join (wr := XU a cI cZ cD u2 ++ [(q9, .inl (cI, 5, .inl f9)), (q10, .inl (cD, 5, .inr (.inr (.inr (.inl f10)))))]) (w1 := XU b cI cZ cD w1) hP hD [17, 18, 19, 20, 21, 22, 23, 24, 25, 26, 27, 28, 29, 30, 31, 32, 33] [0, 1, 2, 3, 4, 5, 6, 7, 8, 9, 10, 11, 12, 13, 14, 15, 16, 34, 35] rfl rfl (by decide) (by decide) hk1 hFc hP1 hD1
    have hP : va_P D vwCl (XU a cI cZ cD u2 ++ (XU b cI cZ cD w1 ++ [(q9, .inl (cI, 5, .inl f9)), (q10, .inl (cD, 5, .inr (.inr (.inr (.inl f10)))))])) H := hP.sub [0, 1, 2, 3, 4, 5, 6, 7, 8, 9, 10, 11, 12, 13, 14, 15, 16, 19, 20, 21, 22, 23, 24, 25, 26, 27, 28, 29, 30, 31, 32, 33, 34, 35, 17, 18] rfl
    have hD : va_D A (XU a cI cZ cD u2 ++ (XU b cI cZ cD w1 ++ [(q9, .inl (cI, 5, .inl f9)), (q10, .inl (cD, 5, .inr (.inr (.inr (.inl f10)))))])) := hD.sub [0, 1, 2, 3, 4, 5, 6, 7, 8, 9, 10, 11, 12, 13, 14, 15, 16, 19, 20, 21, 22, 23, 24, 25, 26, 27, 28, 29, 30, 31, 32, 33, 34, 35, 17, 18] (by decide) rfl
    refine xk_d (y := pB f) hw9 ?_
    rw [heq] at dw1
    refine lv_dload hx hb dL_isClosedSo_80 (lv_at hl 5 rfl) ?_
    refine lv_dcmp hx hb dL_isClosedSo_82 ?_
    refine lv_if_ne (tgt := 141) hx hb dL_isClosedSo_83 (by decide) (fun c => absurd ((cv_l_eq _).mpr (show dCmp (dt (pB f)) (dt (pB f)) = some .eq from self_eq hpn)) c) (fun c => ?_)
    refine lv_aload_n hx hb dL_isClosedSo_86 rfl (lv_at hl 7 rfl) ?_
    refine lv_iconst (v := nI 3) hx hb dL_isClosedSo_87 (by decide) ?_
    refine lv_iload_n hx hb dL_isClosedSo_88 rfl (lv_at hl 9 rfl) ?_
    refine lv_iconst (v := nI 0) hx hb dL_isClosedSo_89 (by decide) ?_
    have hok2 : Ok (dat w1) := by rw [dw1]; exact hok
    have hPx : va_P D vwCl (XU b cI cZ cD w1) H := hP.sub [17, 18, 19, 20, 21, 22, 23, 24, 25, 26, 27, 28, 29, 30, 31, 32, 33] rfl
    have hDx : va_D A (XU b cI cZ cD w1) := hD.sub [17, 18, 19, 20, 21, 22, 23, 24, 25, 26, 27, 28, 29, 30, 31, 32, 33] (by decide) rfl
    have hFc := va_free (wc := XU b cI cZ cD w1) hD hS hA [17, 18, 19, 20, 21, 22, 23, 24, 25, 26, 27, 28, 29, 30, 31, 32, 33] rfl
    refine va_calliD hd2 (xd_runSX (As := [.ref (b 0), .int (nI 3), .int (nI x), .int (nI 0)]) (rest := []) ⟨hx, hb, hml, (xk_od hown), (dr_words hts _)⟩ (mL_does3 l hst D cI cZ cD b _ w1 (nI x) (nI 0) hok2) (vx_cwSW 4 (dr_words hts _) gL_isClosedSo_L_does rfl rfl rfl (by decide +kernel) ⟨Nat.le_of_ble_eq_true rfl, Nat.le_of_ble_eq_true rfl⟩) ⟨lp_blind, lp_pre hPx (xk_Kd hK) hDx hE.drawn hN.drawn hS hFc⟩ rfl rfl hl.1 rfl (lv_room (Nat.le_of_ble_eq_true rfl)) dL_isClosedSo_90 ⟨Nat.le_of_ble_eq_true rfl, Nat.le_of_ble_eq_true rfl⟩) hS (fun q _ h => hFc q h) hFc (fun r3 w2 t9 H locs ht hvm hw2 hB hz1 hk1 hS _ hd4 => ?_)
    obtain ⟨hP1, -, hD1⟩ := hB
    rw [ht] at hP1
    obtain ⟨hP, hD⟩ := va_join (wr := XU a cI cZ cD u2 ++ [(q9, .inl (cI, 5, .inl f9)), (q10, .inl (cD, 5, .inr (.inr (.inr (.inl f10)))))]) (w1 := XU b cI cZ cD w2) hP hD [17, 18, 19, 20, 21, 22, 23, 24, 25, 26, 27, 28, 29, 30, 31, 32, 33] [0, 1, 2, 3, 4, 5, 6, 7, 8, 9, 10, 11, 12, 13, 14, 15, 16, 34, 35] rfl rfl (by decide) (by decide) hk1 hFc hP1 hD1
    have hP : va_P D vwCl (XU a cI cZ cD u2 ++ (XU b cI cZ cD w2 ++ [(q9, .inl (cI, 5, .inl f9)), (q10, .inl (cD, 5, .inr (.inr (.inr (.inl f10)))))])) H := hP.sub [0, 1, 2, 3, 4, 5, 6, 7, 8, 9, 10, 11, 12, 13, 14, 15, 16, 19, 20, 21, 22, 23, 24, 25, 26, 27, 28, 29, 30, 31, 32, 33, 34, 35, 17, 18] rfl
    have hD : va_D A (XU a cI cZ cD u2 ++ (XU b cI cZ cD w2 ++ [(q9, .inl (cI, 5, .inl f9)), (q10, .inl (cD, 5, .inr (.inr (.inr (.inl f10)))))])) := hD.sub [0, 1, 2, 3, 4, 5, 6, 7, 8, 9, 10, 11, 12, 13, 14, 15, 16, 19, 20, 21, 22, 23, 24, 25, 26, 27, 28, 29, 30, 31, 32, 33, 34, 35, 17, 18] (by decide) rfl
    rw [dw1, ← du1] at hw2
    have e21 : r3 = r1 := congrArg Prod.snd (hw2.trans hw1.symm)
    have e22 : dat w2 = (sCl (prS (dt (pB f)) (dat u)) (nI x)).1 := by rw [← du1]; exact congrArg Prod.fst hw2
    have e11 : dat u2 = (sCl (prS (dt (pB f)) (dat u)) (nI x)).1 := by rw [← du1]; exact congrArg Prod.fst hw1
    refine lv_iload hx hb dL_isClosedSo_93 (lv_at hl 0 rfl) ?_
    refine lv_icmp_ne (tgt := 141) hx hb dL_isClosedSo_95 (by decide) (fun c => absurd e21 c) (fun c => ?_)
    refine lv_dload hx hb dL_isClosedSo_98 (lv_at hl 5 rfl) ?_
    refine lv_ldc2d hx hb (xk_od hown) (dr_words hts _ (.constantDouble RL 92 4616189618054758400) (by decide +kernel)) dL_isClosedSo_100 ?_
    refine lv_dmul_any hd4 lw_bits hx hb dL_isClosedSo_103 (fun r5 _ hal hd6 => ?_)
    have er5 := dt_mul hal
    refine lv_iload_n hx hb dL_isClosedSo_104 rfl (lv_at hl 8 rfl) ?_
    refine lv_i2d hx hb dL_isClosedSo_105 ?_
    refine lv_dcmp hx hb dL_isClosedSo_106 ?_
    refine lv_if_ne (tgt := 141) hx hb dL_isClosedSo_107 (by decide) (fun c => absurd ((cv_l_eq _).mpr (show dCmp (dt r5) (dt (FP.i2d (nI f))) = some .eq from (by rw [er5]; exact hp4))) c) (fun c => ?_)
    refine lv_iload hx hb dL_isClosedSo_110 (lv_at hl 0 rfl) ?_
    refine lv_ldc (v := -99999) hx hb (xk_od hown) (dr_words hts _ (.constant RL 32 (-99999)) (by decide +kernel)) dL_isClosedSo_112 ?_
    have hn1 : b_n u1 ≤ 60 := hok1.1
    rw [← du1] at hC
    have enn : s_n (dat u) = b_n u1 := (congrArg s_n du1).symm
    by_cases hn : b_n u1 < 60
    · skip
      obtain ⟨g1, g2⟩ := cl_good hx9 hn hw1
      have hcl := hC (by rw [enn]; exact hn)
      obtain ⟨k1, k2, k3, k4⟩ := hcl
      refine lv_icmp_ne (tgt := 121) hx hb dL_isClosedSo_114 (by decide) (fun c => ?_) (fun c => absurd c (by rw [g2]; exact bI_nN _))
      refine lv_iconst (v := nI 0) hx hb dL_isClosedSo_121 (by decide) ?_
      refine lv_iload hx hb dL_isClosedSo_122 (lv_at hl 3 rfl) ?_
      refine lv_bipush (v := nI 60) hx hb dL_isClosedSo_124 (by decide) ?_
      refine lv_icmp_ne (tgt := 133) hx hb dL_isClosedSo_126 (by decide) (fun c => ?_) (fun c => absurd ((nI_eq (by omega) (by decide)).mp c) (by omega))
      refine lv_iconst (v := nI 0) hx hb dL_isClosedSo_133 (by decide) ?_
      refine lv_icmp_ne (tgt := 141) hx hb dL_isClosedSo_134 (by decide) (fun c => by first | exact absurd c (by decide) | exact absurd rfl c | exact (c (by decide)).elim) (fun c => ?_)
      refine lv_iconst (v := nI 1) hx hb dL_isClosedSo_137 (by decide) ?_
      refine lv_goto (tgt := 142) hx hb dL_isClosedSo_138 (by decide) ?_
      refine lv_istore (lv' := [(12, .int (nI 1)), (11, .int r1), (10, .ref q10), (9, .ref q9), (8, .int (nI (b_n u1))), (6, .double (b_so u1)), (4, .double (pB f)), (0, .ref (a 0)), (1, .ref (b 0)), (2, .int (nI f)), (3, .int (nI x))]) hx hb dL_isClosedSo_142 hl (by decide) rfl (fun ls hl => ?_)
      refine lv_iload hx hb dL_isClosedSo_144 (lv_at hl 1 rfl) ?_
      refine lv_ldc (v := -99999) hx hb (xk_od hown) (dr_words hts _ (.constant RL 32 (-99999)) (by decide +kernel)) dL_isClosedSo_146 ?_
      refine lv_icmp_ne (tgt := 181) hx hb dL_isClosedSo_148 (by decide) (fun c => ?_) (fun c => absurd c (by rw [g2]; exact bI_nN _))
      have en2 : b_n u2 = b_n u1 + 1 := congrArg s_n g1
      have hn2 : b_n u2 ≤ 60 := by omega
      have hq2 : b_n u1 < b_n u2 := by omega
      have ets2 : b_ts u2 = s_ts (closeS (nI x) (dat u1)) := congrArg s_ts g1
      have c_lu : ∀ j, dt (b_lu u2 j) = s_lu (closeS (nI x) (dat u1)) j := fun j => by rw [← dat_lu, g1]
      have c_lf : ∀ j, dt (b_lf u2 j) = s_lf (closeS (nI x) (dat u1)) j := fun j => by rw [← dat_lf, g1]
      have c_lb : ∀ j, dt (b_lb u2 j) = s_lb (closeS (nI x) (dat u1)) j := fun j => by rw [← dat_lb, g1]
      have c_lw : ∀ j, dt (b_lw u2 j) = s_lw (closeS (nI x) (dat u1)) j := fun j => by rw [← dat_lw, g1]
      have c_lz : ∀ j, dt (b_lz u2 j) = s_lz (closeS (nI x) (dat u1)) j := fun j => by rw [← dat_lz, g1]
      have c_bi : ∀ j, dt (b_bi u2 j) = s_bi (closeS (nI x) (dat u1)) j := fun j => by rw [← dat_bi, g1]
      have c_so : dt (b_so u2) = s_so (closeS (nI x) (dat u1)) := congrArg s_so g1
      refine lv_iload_n hx hb dL_isClosedSo_181 rfl (lv_at hl 10 rfl) ?_
      refine lv_i2d hx hb dL_isClosedSo_182 ?_
      refine lv_aload_n hx hb dL_isClosedSo_183 rfl (lv_at hl 7 rfl) ?_
      refine lv_iload hx hb dL_isClosedSo_184 (lv_at hl 4 rfl) ?_
      have hPx : va_P D vwCl (XU a cI cZ cD u2) H := hP.sub [0, 1, 2, 3, 4, 5, 6, 7, 8, 9, 10, 11, 12, 13, 14, 15, 16] rfl
      have hDx : va_D A (XU a cI cZ cD u2) := hD.sub [0, 1, 2, 3, 4, 5, 6, 7, 8, 9, 10, 11, 12, 13, 14, 15, 16] (by decide) rfl
      refine vp_callSd (va_Run.run (va_runV (As := [.int (nI (b_n u1))]) (rest := [.double (FP.i2d (nI x))]) ⟨hx, hb, hml, (xk_od hown), (dr_words hts _)⟩ (mX1_soldV l D cI cZ cD a _ u2.1 u2.2.1 u2.2.2.1 u2.2.2.2.1 u2.2.2.2.2.1 u2.2.2.2.2.2.1 u2.2.2.2.2.2.2.1 u2.2.2.2.2.2.2.2.1 u2.2.2.2.2.2.2.2.2.1 u2.2.2.2.2.2.2.2.2.2.1 (nI u2.2.2.2.2.2.2.2.2.2.2.1) u2.2.2.2.2.2.2.2.2.2.2.2.2.1 u2.2.2.2.2.2.2.2.2.2.2.2.2.2.1 u2.2.2.2.2.2.2.2.2.2.2.2.2.2.2.1 u2.2.2.2.2.2.2.2.2.2.2.2.2.2.2.2.1 u2.2.2.2.2.2.2.2.2.2.2.2.2.2.2.2.2.1 u2.2.2.2.2.2.2.2.2.2.2.2.2.2.2.2.2.2.1 u2.2.2.2.2.2.2.2.2.2.2.2.2.2.2.2.2.2.2.1 u2.2.2.2.2.2.2.2.2.2.2.2.2.2.2.2.2.2.2.2 (b_n u2) (b_n u1) hn2 hq2) (cwV 1 (dr_words hts _) gL_isClosedSo_X1_sold rfl rfl rfl (by decide +kernel) ⟨Nat.le_of_ble_eq_true rfl, Nat.le_of_ble_eq_true rfl⟩) ⟨xk_blind, va_recv (xk_Kd hK) hP (ci := 1) (q0 := 0) rfl rfl, xk_pre hPx (xk_Kd hK) hDx⟩ rfl rfl hl.1 rfl (lv_room (Nat.le_of_ble_eq_true rfl)) dL_isClosedSo_186 ⟨Nat.le_of_ble_eq_true rfl, Nat.le_of_ble_eq_true rfl⟩)) (fun r hr1 => ?_)
      refine xk_d (y := b_lz u2 (b_n u1)) hr1 ?_
      refine lv_dsub_any hd6 lw_bits hx hb dL_isClosedSo_189 (fun r7 _ hal hd8 => ?_)
      have er7 := dt_sub hal
      refine lv_aload_n hx hb dL_isClosedSo_190 rfl (lv_at hl 7 rfl) ?_
      have hPx : va_P D vwCl (XU a cI cZ cD u2) H := hP.sub [0, 1, 2, 3, 4, 5, 6, 7, 8, 9, 10, 11, 12, 13, 14, 15, 16] rfl
      have hDx : va_D A (XU a cI cZ cD u2) := hD.sub [0, 1, 2, 3, 4, 5, 6, 7, 8, 9, 10, 11, 12, 13, 14, 15, 16] (by decide) rfl
      refine vp_callSd (va_Run.run (va_runV (As := []) (rest := [.double r7]) ⟨hx, hb, hml, (xk_od hown), (dr_words hts _)⟩ (mX1_batteryV l D cI cZ cD a _ u2.1 u2.2.1 u2.2.2.1 u2.2.2.2.1 u2.2.2.2.2.1 u2.2.2.2.2.2.1 u2.2.2.2.2.2.2.1 u2.2.2.2.2.2.2.2.1 u2.2.2.2.2.2.2.2.2.1 u2.2.2.2.2.2.2.2.2.2.1 (nI u2.2.2.2.2.2.2.2.2.2.2.1) (nI u2.2.2.2.2.2.2.2.2.2.2.2.1) u2.2.2.2.2.2.2.2.2.2.2.2.2.1 u2.2.2.2.2.2.2.2.2.2.2.2.2.2.1 u2.2.2.2.2.2.2.2.2.2.2.2.2.2.2.1 u2.2.2.2.2.2.2.2.2.2.2.2.2.2.2.2.1 u2.2.2.2.2.2.2.2.2.2.2.2.2.2.2.2.2.1 u2.2.2.2.2.2.2.2.2.2.2.2.2.2.2.2.2.2.1 u2.2.2.2.2.2.2.2.2.2.2.2.2.2.2.2.2.2.2.1 u2.2.2.2.2.2.2.2.2.2.2.2.2.2.2.2.2.2.2.2 ) (cwV 0 (dr_words hts _) gL_isClosedSo_X1_battery rfl rfl rfl (by decide +kernel) ⟨Nat.le_of_ble_eq_true rfl, Nat.le_of_ble_eq_true rfl⟩) ⟨xk_blind, va_recv (xk_Kd hK) hP (ci := 1) (q0 := 0) rfl rfl, xk_pre hPx (xk_Kd hK) hDx⟩ rfl rfl hl.1 rfl (lv_room (Nat.le_of_ble_eq_true rfl)) dL_isClosedSo_191 ⟨Nat.le_of_ble_eq_true rfl, Nat.le_of_ble_eq_true rfl⟩)) (fun r hr1 => ?_)
      refine xk_d (y := b_so u2) hr1 ?_
      refine lv_dload hx hb dL_isClosedSo_194 (lv_at hl 5 rfl) ?_
      refine lv_dsub_any hd8 lw_bits hx hb dL_isClosedSo_196 (fun r9 _ hal hd10 => ?_)
      have er9 := dt_sub hal
      refine lv_dsub_any hd10 lw_bits hx hb dL_isClosedSo_197 (fun r11 _ hal hd12 => ?_)
      have er11 := dt_sub hal
      have e0 : dt r11 = restS (nI x) (dat u1) 0 := by rw [er11, er7, er9, c_lz, c_so]; rfl
      refine lv_dstore (lv' := [(13, .double r11), (12, .int (nI 1)), (11, .int r1), (10, .ref q10), (9, .ref q9), (8, .int (nI (b_n u1))), (6, .double (b_so u1)), (4, .double (pB f)), (0, .ref (a 0)), (1, .ref (b 0)), (2, .int (nI f)), (3, .int (nI x))]) hx hb dL_isClosedSo_198 hl (by decide) rfl (fun ls hl => ?_)
      refine lv_dconst0 hx hb dL_isClosedSo_200 ?_
      refine lv_dstore (lv' := [(15, .double FP.dconst0), (13, .double r11), (12, .int (nI 1)), (11, .int r1), (10, .ref q10), (9, .ref q9), (8, .int (nI (b_n u1))), (6, .double (b_so u1)), (4, .double (pB f)), (0, .ref (a 0)), (1, .ref (b 0)), (2, .int (nI f)), (3, .int (nI x))]) hx hb dL_isClosedSo_201 hl (by decide) rfl (fun ls hl => ?_)
      refine lv_iconst (v := nI 0) hx hb dL_isClosedSo_203 (by decide) ?_
      refine lv_istore (lv' := [(17, .int (nI 0)), (15, .double FP.dconst0), (13, .double r11), (12, .int (nI 1)), (11, .int r1), (10, .ref q10), (9, .ref q9), (8, .int (nI (b_n u1))), (6, .double (b_so u1)), (4, .double (pB f)), (0, .ref (a 0)), (1, .ref (b 0)), (2, .int (nI f)), (3, .int (nI x))]) hx hb dL_isClosedSo_204 hl (by decide) rfl (fun ls hl => ?_)
      refine xk_loop (fun i H locs ls d => ∃ (R Ln : UInt64), dt R = restS (nI x) (dat u1) i ∧ dt Ln = sumD (cV (dat u1)) i ∧ va_P D vwCl (XU a cI cZ cD u2 ++ (XU b cI cZ cD w2 ++ [(q9, .inl (cI, 5, .inl f9)), (q10, .inl (cD, 5, .inr (.inr (.inr (.inl f10)))))])) H ∧ va_S A s.heap H locs ∧ s.drawn.sameBut d lw_cs ∧ lv_has ls 23 [(17, .int (nI i)), (15, .double Ln), (13, .double R), (12, .int (nI 1)), (11, .int r1), (10, .ref q10), (9, .ref q9), (8, .int (nI (b_n u1))), (6, .double (b_so u1)), (4, .double (pB f)), (0, .ref (a 0)), (1, .ref (b 0)), (2, .int (nI f)), (3, .int (nI x))]) 5 ?_ (i := 0) (Nat.zero_le _) ⟨_, _, e0, rfl, hP, hS, hd12, lv_sub hl [0, 1, 2, 3, 4, 5, 6, 7, 8, 9, 10, 11, 12, 13] rfl⟩
      intro i H locs ls d hi hI next
      obtain ⟨R, Ln, hR, hLn, hP, hS, hdl, hl⟩ := hI
      refine lv_iload hx hb dL_isClosedSo_206 (lv_at hl 0 rfl) ?_
      refine lv_iconst (v := nI 5) hx hb dL_isClosedSo_208 (by decide) ?_
      refine lv_icmp_ge (tgt := 383) hx hb dL_isClosedSo_209 (by decide) (fun c => ?_) (fun c => ?_)
      · skip
        obtain rfl := xk_ge hi (by decide) c
        refine lv_iload hx hb dL_isClosedSo_383 (lv_at hl 3 rfl) ?_
        refine lv_if_eq (tgt := 440) hx hb dL_isClosedSo_385 (by decide) (fun c => by first | exact absurd c (by decide) | exact absurd rfl c | exact (c (by decide)).elim) (fun c => ?_)
        refine lv_dload hx hb dL_isClosedSo_388 (lv_at hl 2 rfl) ?_
        refine lv_dconst0 hx hb dL_isClosedSo_390 ?_
        refine va_calliD hdl (va_runS_D (As := [.double R, .double FP.dconst0]) (rest := []) ⟨hx, hb, hml, (xk_od hown), (dr_words hts _)⟩ (mL_isNear l R FP.dconst0 (by rw [hR]; exact k2)) (va_cwS 2 (dr_words hts _) gL_isClosedSo_L_isNear rfl rfl rfl (by decide +kernel) ⟨Nat.le_of_ble_eq_true rfl, Nat.le_of_ble_eq_true rfl⟩) ⟨fun a U g mk q => q, fun U hU hW => ⟨rfl, trivial⟩⟩ rfl rfl hl.1 rfl (lv_room (Nat.le_of_ble_eq_true rfl)) dL_isClosedSo_391 ⟨Nat.le_of_ble_eq_true rfl, Nat.le_of_ble_eq_true rfl⟩) hS (fun q _ h => h.elim) (fun q h => h.elim) (fun r _ t9 H9 locs ht hvm hw hB hz1 hk1 hS _ hd13 => ?_)
        have hP : va_P D vwCl (XU a cI cZ cD u2 ++ (XU b cI cZ cD w2 ++ [(q9, .inl (cI, 5, .inl f9)), (q10, .inl (cD, 5, .inr (.inr (.inr (.inl f10)))))])) H9 := hP.kept (fun k q hq => hk1 q.1 (hP k q hq).lt (fun z => z.elim))
        generalize H9 = H at hP hS ⊢
        subst hw
        refine lv_if_eq (tgt := 440) hx hb dL_isClosedSo_394 (by decide) (fun c => by first | exact absurd c (by decide) | exact absurd rfl c | exact (c (by decide)).elim) (fun c => ?_)
        refine lv_iload hx hb dL_isClosedSo_397 (lv_at hl 4 rfl) ?_
        refine lv_iconst (v := nI 1) hx hb dL_isClosedSo_399 (by decide) ?_
        by_cases ho9 : over (cV (dat u1))
        · skip
          refine lv_icmp_ne (tgt := 407) hx hb dL_isClosedSo_400 (by decide) (fun c => absurd (by rw [g2]; exact bI_t ho9) c) (fun c => ?_)
          refine lv_iconst (v := nI 1) hx hb dL_isClosedSo_403 (by decide) ?_
          refine lv_goto (tgt := 408) hx hb dL_isClosedSo_404 (by decide) ?_
          refine lv_dload hx hb dL_isClosedSo_408 (lv_at hl 1 rfl) ?_
          refine lv_ldc2d hx hb (xk_od hown) (dr_words hts _ (.constantDouble RL 100 4636737291354636288) (by decide +kernel)) dL_isClosedSo_410 ?_
          refine lv_dcmp hx hb dL_isClosedSo_413 ?_
          refine lv_if_le (tgt := 421) hx hb dL_isClosedSo_414 (by decide) (fun c => absurd (show dCmp (dt Ln) d100 = some .gt by rw [hLn]; exact ho9) ((cv_l_le _).mp c)) (fun c => ?_)
          refine lv_iconst (v := nI 1) hx hb dL_isClosedSo_417 (by decide) ?_
          refine lv_goto (tgt := 422) hx hb dL_isClosedSo_418 (by decide) ?_
          refine lv_icmp_ne (tgt := 440) hx hb dL_isClosedSo_422 (by decide) (fun c => by first | exact absurd c (by decide) | exact absurd rfl c | exact (c (by decide)).elim) (fun c => ?_)
          refine lv_aload_n hx hb dL_isClosedSo_425 rfl (lv_at hl 10 rfl) ?_
          have hPx : va_P D vwCl (XU a cI cZ cD u2) H := hP.sub [0, 1, 2, 3, 4, 5, 6, 7, 8, 9, 10, 11, 12, 13, 14, 15, 16] rfl
          have hDx : va_D A (XU a cI cZ cD u2) := hD.sub [0, 1, 2, 3, 4, 5, 6, 7, 8, 9, 10, 11, 12, 13, 14, 15, 16] (by decide) rfl
          refine vp_callSi (va_Run.run (va_runV (As := []) (rest := []) ⟨hx, hb, hml, (xk_od hown), (dr_words hts _)⟩ (mX1_closedV l D cI cZ cD a _ u2.1 u2.2.1 u2.2.2.1 u2.2.2.2.1 u2.2.2.2.2.1 u2.2.2.2.2.2.1 u2.2.2.2.2.2.2.1 u2.2.2.2.2.2.2.2.1 u2.2.2.2.2.2.2.2.2.1 u2.2.2.2.2.2.2.2.2.2.1 (nI u2.2.2.2.2.2.2.2.2.2.2.1) (nI u2.2.2.2.2.2.2.2.2.2.2.2.1) u2.2.2.2.2.2.2.2.2.2.2.2.2.1 u2.2.2.2.2.2.2.2.2.2.2.2.2.2.1 u2.2.2.2.2.2.2.2.2.2.2.2.2.2.2.1 u2.2.2.2.2.2.2.2.2.2.2.2.2.2.2.2.1 u2.2.2.2.2.2.2.2.2.2.2.2.2.2.2.2.2.1 u2.2.2.2.2.2.2.2.2.2.2.2.2.2.2.2.2.2.1 u2.2.2.2.2.2.2.2.2.2.2.2.2.2.2.2.2.2.2.1 u2.2.2.2.2.2.2.2.2.2.2.2.2.2.2.2.2.2.2.2 ) (cwV 0 (dr_words hts _) gL_isClosedSo_X1_closed rfl rfl rfl (by decide +kernel) ⟨Nat.le_of_ble_eq_true rfl, Nat.le_of_ble_eq_true rfl⟩) ⟨xk_blind, va_recv (xk_Kd hK) hP (ci := 1) (q0 := 0) rfl rfl, xk_pre hPx (xk_Kd hK) hDx⟩ rfl rfl hl.1 rfl (lv_room (Nat.le_of_ble_eq_true rfl)) dL_isClosedSo_426 ⟨Nat.le_of_ble_eq_true rfl, Nat.le_of_ble_eq_true rfl⟩)) (fun r hr1 => ?_)
          refine xk_i (y := nI (b_n u2)) hr1 ?_
          refine lv_iload hx hb dL_isClosedSo_429 (lv_at hl 7 rfl) ?_
          refine lv_iconst (v := nI 1) hx hb dL_isClosedSo_431 (by decide) ?_
          refine lv_iadd hx hb dL_isClosedSo_432 ?_
          refine lv_icmp_ne (tgt := 440) hx hb dL_isClosedSo_433 (by decide) (fun c => absurd (nI_n1 en2) c) (fun c => ?_)
          refine lv_iconst (v := nI 1) hx hb dL_isClosedSo_436 (by decide) ?_
          refine lv_goto (tgt := 441) hx hb dL_isClosedSo_437 (by decide) ?_
          refine W.widen (k := 4) (n := 22) (Nat.le_of_ble_eq_true rfl) (Nat.le_of_ble_eq_true rfl) ?_
          refine W.endD hd13 ?_
          exact W.zret hx hb hr rfl (fun t ht hW => ⟨⟨_, (u2, w2), rfl, ⟨rfl, e11, e22⟩, by rw [ht]; exact hP.sub [0, 1, 2, 3, 4, 5, 6, 7, 8, 9, 10, 11, 12, 13, 14, 15, 16, 17, 18, 19, 20, 21, 22, 23, 24, 25, 26, 27, 28, 29, 30, 31, 32, 33] rfl, va_K.moved hW.alike (xk_Kd hK), hD.sub [0, 1, 2, 3, 4, 5, 6, 7, 8, 9, 10, 11, 12, 13, 14, 15, 16, 17, 18, 19, 20, 21, 22, 23, 24, 25, 26, 27, 28, 29, 30, 31, 32, 33] (by decide) rfl⟩, hS.F ht⟩) hS.2.2 dL_isClosedSo_441
        · skip
          refine lv_icmp_ne (tgt := 407) hx hb dL_isClosedSo_400 (by decide) (fun c => ?_) (fun c => absurd c (by rw [g2, bI_f ho9]; decide))
          refine lv_iconst (v := nI 0) hx hb dL_isClosedSo_407 (by decide) ?_
          refine lv_dload hx hb dL_isClosedSo_408 (lv_at hl 1 rfl) ?_
          refine lv_ldc2d hx hb (xk_od hown) (dr_words hts _ (.constantDouble RL 100 4636737291354636288) (by decide +kernel)) dL_isClosedSo_410 ?_
          refine lv_dcmp hx hb dL_isClosedSo_413 ?_
          refine lv_if_le (tgt := 421) hx hb dL_isClosedSo_414 (by decide) (fun c => ?_) (fun c => absurd ((cv_l_le _).mpr (show ¬ dCmp (dt Ln) d100 = some .gt by rw [hLn]; exact ho9)) c)
          refine lv_iconst (v := nI 0) hx hb dL_isClosedSo_421 (by decide) ?_
          refine lv_icmp_ne (tgt := 440) hx hb dL_isClosedSo_422 (by decide) (fun c => by first | exact absurd c (by decide) | exact absurd rfl c | exact (c (by decide)).elim) (fun c => ?_)
          refine lv_aload_n hx hb dL_isClosedSo_425 rfl (lv_at hl 10 rfl) ?_
          have hPx : va_P D vwCl (XU a cI cZ cD u2) H := hP.sub [0, 1, 2, 3, 4, 5, 6, 7, 8, 9, 10, 11, 12, 13, 14, 15, 16] rfl
          have hDx : va_D A (XU a cI cZ cD u2) := hD.sub [0, 1, 2, 3, 4, 5, 6, 7, 8, 9, 10, 11, 12, 13, 14, 15, 16] (by decide) rfl
          refine vp_callSi (va_Run.run (va_runV (As := []) (rest := []) ⟨hx, hb, hml, (xk_od hown), (dr_words hts _)⟩ (mX1_closedV l D cI cZ cD a _ u2.1 u2.2.1 u2.2.2.1 u2.2.2.2.1 u2.2.2.2.2.1 u2.2.2.2.2.2.1 u2.2.2.2.2.2.2.1 u2.2.2.2.2.2.2.2.1 u2.2.2.2.2.2.2.2.2.1 u2.2.2.2.2.2.2.2.2.2.1 (nI u2.2.2.2.2.2.2.2.2.2.2.1) (nI u2.2.2.2.2.2.2.2.2.2.2.2.1) u2.2.2.2.2.2.2.2.2.2.2.2.2.1 u2.2.2.2.2.2.2.2.2.2.2.2.2.2.1 u2.2.2.2.2.2.2.2.2.2.2.2.2.2.2.1 u2.2.2.2.2.2.2.2.2.2.2.2.2.2.2.2.1 u2.2.2.2.2.2.2.2.2.2.2.2.2.2.2.2.2.1 u2.2.2.2.2.2.2.2.2.2.2.2.2.2.2.2.2.2.1 u2.2.2.2.2.2.2.2.2.2.2.2.2.2.2.2.2.2.2.1 u2.2.2.2.2.2.2.2.2.2.2.2.2.2.2.2.2.2.2.2 ) (cwV 0 (dr_words hts _) gL_isClosedSo_X1_closed rfl rfl rfl (by decide +kernel) ⟨Nat.le_of_ble_eq_true rfl, Nat.le_of_ble_eq_true rfl⟩) ⟨xk_blind, va_recv (xk_Kd hK) hP (ci := 1) (q0 := 0) rfl rfl, xk_pre hPx (xk_Kd hK) hDx⟩ rfl rfl hl.1 rfl (lv_room (Nat.le_of_ble_eq_true rfl)) dL_isClosedSo_426 ⟨Nat.le_of_ble_eq_true rfl, Nat.le_of_ble_eq_true rfl⟩)) (fun r hr1 => ?_)
          refine xk_i (y := nI (b_n u2)) hr1 ?_
          refine lv_iload hx hb dL_isClosedSo_429 (lv_at hl 7 rfl) ?_
          refine lv_iconst (v := nI 1) hx hb dL_isClosedSo_431 (by decide) ?_
          refine lv_iadd hx hb dL_isClosedSo_432 ?_
          refine lv_icmp_ne (tgt := 440) hx hb dL_isClosedSo_433 (by decide) (fun c => absurd (nI_n1 en2) c) (fun c => ?_)
          refine lv_iconst (v := nI 1) hx hb dL_isClosedSo_436 (by decide) ?_
          refine lv_goto (tgt := 441) hx hb dL_isClosedSo_437 (by decide) ?_
          refine W.widen (k := 4) (n := 22) (Nat.le_of_ble_eq_true rfl) (Nat.le_of_ble_eq_true rfl) ?_
          refine W.endD hd13 ?_
          exact W.zret hx hb hr rfl (fun t ht hW => ⟨⟨_, (u2, w2), rfl, ⟨rfl, e11, e22⟩, by rw [ht]; exact hP.sub [0, 1, 2, 3, 4, 5, 6, 7, 8, 9, 10, 11, 12, 13, 14, 15, 16, 17, 18, 19, 20, 21, 22, 23, 24, 25, 26, 27, 28, 29, 30, 31, 32, 33] rfl, va_K.moved hW.alike (xk_Kd hK), hD.sub [0, 1, 2, 3, 4, 5, 6, 7, 8, 9, 10, 11, 12, 13, 14, 15, 16, 17, 18, 19, 20, 21, 22, 23, 24, 25, 26, 27, 28, 29, 30, 31, 32, 33] (by decide) rfl⟩, hS.F ht⟩) hS.2.2 dL_isClosedSo_441
      · skip
        have hlt := xk_nge hi (by decide) c
        refine lv_iload hx hb dL_isClosedSo_212 (lv_at hl 3 rfl) ?_
        refine lv_if_eq (tgt := 383) hx hb dL_isClosedSo_214 (by decide) (fun c => by first | exact absurd c (by decide) | exact absurd rfl c | exact (c (by decide)).elim) (fun c => ?_)
        have e9 : f9 i = b_ts u1 i := h9 i hlt
        have e10 : f10 i = b_bi u1 i := h10 i hlt
        have k3 := k3 i hlt
        have k4 := k4 i hlt
        refine lv_aload_n hx hb dL_isClosedSo_217 rfl (lv_at hl 10 rfl) ?_
        refine lv_iload hx hb dL_isClosedSo_218 (lv_at hl 0 rfl) ?_
        have hPx : va_P D vwCl (XU a cI cZ cD u2) H := hP.sub [0, 1, 2, 3, 4, 5, 6, 7, 8, 9, 10, 11, 12, 13, 14, 15, 16] rfl
        have hDx : va_D A (XU a cI cZ cD u2) := hD.sub [0, 1, 2, 3, 4, 5, 6, 7, 8, 9, 10, 11, 12, 13, 14, 15, 16] (by decide) rfl
        refine vp_callSi (va_Run.run (va_runV (As := [.int (nI i)]) (rest := []) ⟨hx, hb, hml, (xk_od hown), (dr_words hts _)⟩ (mX1_shedsV l D cI cZ cD a _ u2.1 u2.2.1 u2.2.2.1 u2.2.2.2.1 u2.2.2.2.2.1 u2.2.2.2.2.2.1 u2.2.2.2.2.2.2.1 u2.2.2.2.2.2.2.2.1 u2.2.2.2.2.2.2.2.2.1 u2.2.2.2.2.2.2.2.2.2.1 (nI u2.2.2.2.2.2.2.2.2.2.2.1) (nI u2.2.2.2.2.2.2.2.2.2.2.2.1) u2.2.2.2.2.2.2.2.2.2.2.2.2.1 u2.2.2.2.2.2.2.2.2.2.2.2.2.2.1 u2.2.2.2.2.2.2.2.2.2.2.2.2.2.2.1 u2.2.2.2.2.2.2.2.2.2.2.2.2.2.2.2.1 u2.2.2.2.2.2.2.2.2.2.2.2.2.2.2.2.2.1 u2.2.2.2.2.2.2.2.2.2.2.2.2.2.2.2.2.2.1 u2.2.2.2.2.2.2.2.2.2.2.2.2.2.2.2.2.2.2.1 u2.2.2.2.2.2.2.2.2.2.2.2.2.2.2.2.2.2.2.2 i hlt) (cwV 1 (dr_words hts _) gL_isClosedSo_X1_sheds rfl rfl rfl (by decide +kernel) ⟨Nat.le_of_ble_eq_true rfl, Nat.le_of_ble_eq_true rfl⟩) ⟨xk_blind, va_recv (xk_Kd hK) hP (ci := 1) (q0 := 0) rfl rfl, xk_pre hPx (xk_Kd hK) hDx⟩ rfl rfl hl.1 rfl (lv_room (Nat.le_of_ble_eq_true rfl)) dL_isClosedSo_220 ⟨Nat.le_of_ble_eq_true rfl, Nat.le_of_ble_eq_true rfl⟩)) (fun r hr1 => ?_)
        refine xk_i (y := b_ts u2 i) hr1 ?_
        refine lv_aload hx hb dL_isClosedSo_223 (lv_at hl 6 rfl) ?_
        refine lv_iload hx hb dL_isClosedSo_225 (lv_at hl 0 rfl) ?_
        refine xk_iald hx hb (xk_Kd hK) hP 34 0 rfl rfl (o := i) (by omega) (by decide) dL_isClosedSo_227 ?_
        refine lv_isub hx hb dL_isClosedSo_228 ?_
        rcases k1 i hlt with ⟨m1, m2⟩ | ⟨m1, m2, m3⟩
        · skip
          refine xk_i (y := nI 0) (by rw [e9]; exact sub_0 (by rw [ets2, m1]; rfl)) ?_
          refine lv_istore (lv' := [(18, .int (nI 0)), (17, .int (nI i)), (15, .double Ln), (13, .double R), (12, .int (nI 1)), (11, .int r1), (10, .ref q10), (9, .ref q9), (8, .int (nI (b_n u1))), (6, .double (b_so u1)), (4, .double (pB f)), (0, .ref (a 0)), (1, .ref (b 0)), (2, .int (nI f)), (3, .int (nI x))]) hx hb dL_isClosedSo_229 hl (by decide) rfl (fun ls hl => ?_)
          refine lv_iload hx hb dL_isClosedSo_231 (lv_at hl 0 rfl) ?_
          refine lv_iconst (v := nI 1) hx hb dL_isClosedSo_233 (by decide) ?_
          refine lv_icmp_ne (tgt := 241) hx hb dL_isClosedSo_234 (by decide) (fun c => ?_) (fun c => by first | exact absurd c (by decide) | exact absurd rfl c | exact (c (by decide)).elim)
          refine lv_aload_n hx hb dL_isClosedSo_241 rfl (lv_at hl 11 rfl) ?_
          refine lv_iload hx hb dL_isClosedSo_242 (lv_at hl 1 rfl) ?_
          refine lv_iload hx hb dL_isClosedSo_244 (lv_at hl 8 rfl) ?_
          have hPx : va_P D vwCl (XU a cI cZ cD u2) H := hP.sub [0, 1, 2, 3, 4, 5, 6, 7, 8, 9, 10, 11, 12, 13, 14, 15, 16] rfl
          have hDx : va_D A (XU a cI cZ cD u2) := hD.sub [0, 1, 2, 3, 4, 5, 6, 7, 8, 9, 10, 11, 12, 13, 14, 15, 16] (by decide) rfl
          refine vp_callSd (va_Run.run (va_runV (As := [.int (nI i), .int (nI (b_n u1))]) (rest := []) ⟨hx, hb, hml, (xk_od hown), (dr_words hts _)⟩ (mX1_useV l D cI cZ cD a _ u2.1 u2.2.1 u2.2.2.1 u2.2.2.2.1 u2.2.2.2.2.1 u2.2.2.2.2.2.1 u2.2.2.2.2.2.2.1 u2.2.2.2.2.2.2.2.1 u2.2.2.2.2.2.2.2.2.1 u2.2.2.2.2.2.2.2.2.2.1 (nI u2.2.2.2.2.2.2.2.2.2.2.1) u2.2.2.2.2.2.2.2.2.2.2.2.2.1 u2.2.2.2.2.2.2.2.2.2.2.2.2.2.1 u2.2.2.2.2.2.2.2.2.2.2.2.2.2.2.1 u2.2.2.2.2.2.2.2.2.2.2.2.2.2.2.2.1 u2.2.2.2.2.2.2.2.2.2.2.2.2.2.2.2.2.1 u2.2.2.2.2.2.2.2.2.2.2.2.2.2.2.2.2.2.1 u2.2.2.2.2.2.2.2.2.2.2.2.2.2.2.2.2.2.2.1 u2.2.2.2.2.2.2.2.2.2.2.2.2.2.2.2.2.2.2.2 (b_n u2) i (b_n u1) hn2 hlt hq2) (cwV 2 (dr_words hts _) gL_isClosedSo_X1_use rfl rfl rfl (by decide +kernel) ⟨Nat.le_of_ble_eq_true rfl, Nat.le_of_ble_eq_true rfl⟩) ⟨xk_blind, va_recv (xk_Kd hK) hP (ci := 1) (q0 := 0) rfl rfl, xk_pre hPx (xk_Kd hK) hDx⟩ rfl rfl hl.1 rfl (lv_room (Nat.le_of_ble_eq_true rfl)) dL_isClosedSo_246 ⟨Nat.le_of_ble_eq_true rfl, Nat.le_of_ble_eq_true rfl⟩)) (fun r hr1 => ?_)
          refine xk_d (y := b_lu u2 (5 * b_n u1 + i)) hr1 ?_
          have eu : dt (b_lu u2 (5 * b_n u1 + i)) = cV (dat u1) i := (by rw [c_lu]; exact m2.symm)
          refine lv_dstore (lv' := [(19, .double (b_lu u2 (5 * b_n u1 + i))), (18, .int (nI 0)), (17, .int (nI i)), (15, .double Ln), (13, .double R), (12, .int (nI 1)), (11, .int r1), (10, .ref q10), (9, .ref q9), (8, .int (nI (b_n u1))), (6, .double (b_so u1)), (4, .double (pB f)), (0, .ref (a 0)), (1, .ref (b 0)), (2, .int (nI f)), (3, .int (nI x))]) hx hb dL_isClosedSo_249 hl (by decide) rfl (fun ls hl => ?_)
          refine lv_aload_n hx hb dL_isClosedSo_251 rfl (lv_at hl 12 rfl) ?_
          refine lv_iload hx hb dL_isClosedSo_252 (lv_at hl 2 rfl) ?_
          refine lv_iload hx hb dL_isClosedSo_254 (lv_at hl 9 rfl) ?_
          have hPx : va_P D vwCl (XU a cI cZ cD u2) H := hP.sub [0, 1, 2, 3, 4, 5, 6, 7, 8, 9, 10, 11, 12, 13, 14, 15, 16] rfl
          have hDx : va_D A (XU a cI cZ cD u2) := hD.sub [0, 1, 2, 3, 4, 5, 6, 7, 8, 9, 10, 11, 12, 13, 14, 15, 16] (by decide) rfl
          refine vp_callSd (va_Run.run (va_runV (As := [.int (nI i), .int (nI (b_n u1))]) (rest := []) ⟨hx, hb, hml, (xk_od hown), (dr_words hts _)⟩ (mX1_fromSunV l D cI cZ cD a _ u2.1 u2.2.1 u2.2.2.1 u2.2.2.2.1 u2.2.2.2.2.1 u2.2.2.2.2.2.1 u2.2.2.2.2.2.2.1 u2.2.2.2.2.2.2.2.1 u2.2.2.2.2.2.2.2.2.1 u2.2.2.2.2.2.2.2.2.2.1 (nI u2.2.2.2.2.2.2.2.2.2.2.1) u2.2.2.2.2.2.2.2.2.2.2.2.2.1 u2.2.2.2.2.2.2.2.2.2.2.2.2.2.1 u2.2.2.2.2.2.2.2.2.2.2.2.2.2.2.1 u2.2.2.2.2.2.2.2.2.2.2.2.2.2.2.2.1 u2.2.2.2.2.2.2.2.2.2.2.2.2.2.2.2.2.1 u2.2.2.2.2.2.2.2.2.2.2.2.2.2.2.2.2.2.1 u2.2.2.2.2.2.2.2.2.2.2.2.2.2.2.2.2.2.2.1 u2.2.2.2.2.2.2.2.2.2.2.2.2.2.2.2.2.2.2.2 (b_n u2) i (b_n u1) hn2 hlt hq2) (cwV 2 (dr_words hts _) gL_isClosedSo_X1_fromSun rfl rfl rfl (by decide +kernel) ⟨Nat.le_of_ble_eq_true rfl, Nat.le_of_ble_eq_true rfl⟩) ⟨xk_blind, va_recv (xk_Kd hK) hP (ci := 1) (q0 := 0) rfl rfl, xk_pre hPx (xk_Kd hK) hDx⟩ rfl rfl hl.1 rfl (lv_room (Nat.le_of_ble_eq_true rfl)) dL_isClosedSo_256 ⟨Nat.le_of_ble_eq_true rfl, Nat.le_of_ble_eq_true rfl⟩)) (fun r hr1 => ?_)
          refine xk_d (y := b_lf u2 (5 * b_n u1 + i)) hr1 ?_
          refine lv_aload_n hx hb dL_isClosedSo_259 rfl (lv_at hl 12 rfl) ?_
          refine lv_iload hx hb dL_isClosedSo_260 (lv_at hl 2 rfl) ?_
          refine lv_iload hx hb dL_isClosedSo_262 (lv_at hl 9 rfl) ?_
          have hPx : va_P D vwCl (XU a cI cZ cD u2) H := hP.sub [0, 1, 2, 3, 4, 5, 6, 7, 8, 9, 10, 11, 12, 13, 14, 15, 16] rfl
          have hDx : va_D A (XU a cI cZ cD u2) := hD.sub [0, 1, 2, 3, 4, 5, 6, 7, 8, 9, 10, 11, 12, 13, 14, 15, 16] (by decide) rfl
          refine vp_callSd (va_Run.run (va_runV (As := [.int (nI i), .int (nI (b_n u1))]) (rest := [.double (b_lf u2 (5 * b_n u1 + i))]) ⟨hx, hb, hml, (xk_od hown), (dr_words hts _)⟩ (mX1_fromBatteryV l D cI cZ cD a _ u2.1 u2.2.1 u2.2.2.1 u2.2.2.2.1 u2.2.2.2.2.1 u2.2.2.2.2.2.1 u2.2.2.2.2.2.2.1 u2.2.2.2.2.2.2.2.1 u2.2.2.2.2.2.2.2.2.1 u2.2.2.2.2.2.2.2.2.2.1 (nI u2.2.2.2.2.2.2.2.2.2.2.1) u2.2.2.2.2.2.2.2.2.2.2.2.2.1 u2.2.2.2.2.2.2.2.2.2.2.2.2.2.1 u2.2.2.2.2.2.2.2.2.2.2.2.2.2.2.1 u2.2.2.2.2.2.2.2.2.2.2.2.2.2.2.2.1 u2.2.2.2.2.2.2.2.2.2.2.2.2.2.2.2.2.1 u2.2.2.2.2.2.2.2.2.2.2.2.2.2.2.2.2.2.1 u2.2.2.2.2.2.2.2.2.2.2.2.2.2.2.2.2.2.2.1 u2.2.2.2.2.2.2.2.2.2.2.2.2.2.2.2.2.2.2.2 (b_n u2) i (b_n u1) hn2 hlt hq2) (cwV 2 (dr_words hts _) gL_isClosedSo_X1_fromBattery rfl rfl rfl (by decide +kernel) ⟨Nat.le_of_ble_eq_true rfl, Nat.le_of_ble_eq_true rfl⟩) ⟨xk_blind, va_recv (xk_Kd hK) hP (ci := 1) (q0 := 0) rfl rfl, xk_pre hPx (xk_Kd hK) hDx⟩ rfl rfl hl.1 rfl (lv_room (Nat.le_of_ble_eq_true rfl)) dL_isClosedSo_264 ⟨Nat.le_of_ble_eq_true rfl, Nat.le_of_ble_eq_true rfl⟩)) (fun r hr1 => ?_)
          refine xk_d (y := b_lb u2 (5 * b_n u1 + i)) hr1 ?_
          refine lv_dadd_any hdl lw_bits hx hb dL_isClosedSo_267 (fun r14 _ hal hd15 => ?_)
          have er14 := dt_add hal
          have eg : dt r14 = dAdd (s_lf (closeS (nI x) (dat u1)) (5 * b_n u1 + i)) (s_lb (closeS (nI x) (dat u1)) (5 * b_n u1 + i)) := by rw [er14, c_lf, c_lb]
          refine lv_dstore (lv' := [(21, .double r14), (19, .double (b_lu u2 (5 * b_n u1 + i))), (18, .int (nI 0)), (17, .int (nI i)), (15, .double Ln), (13, .double R), (12, .int (nI 1)), (11, .int r1), (10, .ref q10), (9, .ref q9), (8, .int (nI (b_n u1))), (6, .double (b_so u1)), (4, .double (pB f)), (0, .ref (a 0)), (1, .ref (b 0)), (2, .int (nI f)), (3, .int (nI x))]) hx hb dL_isClosedSo_268 hl (by decide) rfl (fun ls hl => ?_)
          refine lv_dload hx hb dL_isClosedSo_270 (lv_at hl 5 rfl) ?_
          refine lv_dload hx hb dL_isClosedSo_272 (lv_at hl 0 rfl) ?_
          refine lv_dsub_any hd15 lw_bits hx hb dL_isClosedSo_274 (fun r16 _ hal hd17 => ?_)
          have er16 := dt_sub hal
          have eR : dt r16 = restS (nI x) (dat u1) (i + 1) := by rw [er16, hR, eg]; rfl
          refine lv_dstore (lv' := [(13, .double r16), (21, .double r14), (19, .double (b_lu u2 (5 * b_n u1 + i))), (18, .int (nI 0)), (17, .int (nI i)), (15, .double Ln), (12, .int (nI 1)), (11, .int r1), (10, .ref q10), (9, .ref q9), (8, .int (nI (b_n u1))), (6, .double (b_so u1)), (4, .double (pB f)), (0, .ref (a 0)), (1, .ref (b 0)), (2, .int (nI f)), (3, .int (nI x))]) hx hb dL_isClosedSo_275 hl (by decide) rfl (fun ls hl => ?_)
          refine lv_dload hx hb dL_isClosedSo_277 (lv_at hl 5 rfl) ?_
          refine lv_dload hx hb dL_isClosedSo_279 (lv_at hl 2 rfl) ?_
          refine lv_dadd_any hd17 lw_bits hx hb dL_isClosedSo_281 (fun r18 _ hal hd19 => ?_)
          have er18 := dt_add hal
          have eL : dt r18 = sumD (cV (dat u1)) (i + 1) := by rw [er18, hLn, eu]; rfl
          refine lv_dstore (lv' := [(15, .double r18), (13, .double r16), (21, .double r14), (19, .double (b_lu u2 (5 * b_n u1 + i))), (18, .int (nI 0)), (17, .int (nI i)), (12, .int (nI 1)), (11, .int r1), (10, .ref q10), (9, .ref q9), (8, .int (nI (b_n u1))), (6, .double (b_so u1)), (4, .double (pB f)), (0, .ref (a 0)), (1, .ref (b 0)), (2, .int (nI f)), (3, .int (nI x))]) hx hb dL_isClosedSo_282 hl (by decide) rfl (fun ls hl => ?_)
          refine lv_iload hx hb dL_isClosedSo_284 (lv_at hl 4 rfl) ?_
          refine lv_if_eq (tgt := 308) hx hb dL_isClosedSo_286 (by decide) (fun c => ?_) (fun c => by first | exact absurd c (by decide) | exact absurd rfl c | exact (c (by decide)).elim)
          refine lv_dload hx hb dL_isClosedSo_308 (lv_at hl 3 rfl) ?_
          refine lv_dload hx hb dL_isClosedSo_310 (lv_at hl 2 rfl) ?_
          refine lv_aload_n hx hb dL_isClosedSo_312 rfl (lv_at hl 13 rfl) ?_
          refine lv_iload hx hb dL_isClosedSo_313 (lv_at hl 5 rfl) ?_
          refine lv_iload hx hb dL_isClosedSo_315 (lv_at hl 10 rfl) ?_
          have hPx : va_P D vwCl (XU a cI cZ cD u2) H := hP.sub [0, 1, 2, 3, 4, 5, 6, 7, 8, 9, 10, 11, 12, 13, 14, 15, 16] rfl
          have hDx : va_D A (XU a cI cZ cD u2) := hD.sub [0, 1, 2, 3, 4, 5, 6, 7, 8, 9, 10, 11, 12, 13, 14, 15, 16] (by decide) rfl
          refine vp_callSd (va_Run.run (va_runV (As := [.int (nI i), .int (nI (b_n u1))]) (rest := [.double r14, .double (b_lu u2 (5 * b_n u1 + i))]) ⟨hx, hb, hml, (xk_od hown), (dr_words hts _)⟩ (mX1_boughtV l D cI cZ cD a _ u2.1 u2.2.1 u2.2.2.1 u2.2.2.2.1 u2.2.2.2.2.1 u2.2.2.2.2.2.1 u2.2.2.2.2.2.2.1 u2.2.2.2.2.2.2.2.1 u2.2.2.2.2.2.2.2.2.1 u2.2.2.2.2.2.2.2.2.2.1 (nI u2.2.2.2.2.2.2.2.2.2.2.1) u2.2.2.2.2.2.2.2.2.2.2.2.2.1 u2.2.2.2.2.2.2.2.2.2.2.2.2.2.1 u2.2.2.2.2.2.2.2.2.2.2.2.2.2.2.1 u2.2.2.2.2.2.2.2.2.2.2.2.2.2.2.2.1 u2.2.2.2.2.2.2.2.2.2.2.2.2.2.2.2.2.1 u2.2.2.2.2.2.2.2.2.2.2.2.2.2.2.2.2.2.1 u2.2.2.2.2.2.2.2.2.2.2.2.2.2.2.2.2.2.2.1 u2.2.2.2.2.2.2.2.2.2.2.2.2.2.2.2.2.2.2.2 (b_n u2) i (b_n u1) hn2 hlt hq2) (cwV 2 (dr_words hts _) gL_isClosedSo_X1_bought rfl rfl rfl (by decide +kernel) ⟨Nat.le_of_ble_eq_true rfl, Nat.le_of_ble_eq_true rfl⟩) ⟨xk_blind, va_recv (xk_Kd hK) hP (ci := 1) (q0 := 0) rfl rfl, xk_pre hPx (xk_Kd hK) hDx⟩ rfl rfl hl.1 rfl (lv_room (Nat.le_of_ble_eq_true rfl)) dL_isClosedSo_317 ⟨Nat.le_of_ble_eq_true rfl, Nat.le_of_ble_eq_true rfl⟩)) (fun r hr1 => ?_)
          refine xk_d (y := b_lw u2 (5 * b_n u1 + i)) hr1 ?_
          refine lv_dadd_any hd19 lw_bits hx hb dL_isClosedSo_320 (fun r20 _ hal hd21 => ?_)
          have er20 := dt_add hal
          refine va_calliD hd21 (va_runS_D (As := [.double (b_lu u2 (5 * b_n u1 + i)), .double r20]) (rest := []) ⟨hx, hb, hml, (xk_od hown), (dr_words hts _)⟩ (mL_isNear l (b_lu u2 (5 * b_n u1 + i)) r20 (by rw [eu, er20, eg, c_lw]; exact k3)) (va_cwS 2 (dr_words hts _) gL_isClosedSo_L_isNear rfl rfl rfl (by decide +kernel) ⟨Nat.le_of_ble_eq_true rfl, Nat.le_of_ble_eq_true rfl⟩) ⟨fun a U g mk q => q, fun U hU hW => ⟨rfl, trivial⟩⟩ rfl rfl hl.1 rfl (lv_room (Nat.le_of_ble_eq_true rfl)) dL_isClosedSo_321 ⟨Nat.le_of_ble_eq_true rfl, Nat.le_of_ble_eq_true rfl⟩) hS (fun q _ h => h.elim) (fun q h => h.elim) (fun r _ t9 H9 locs ht hvm hw hB hz1 hk1 hS _ hd22 => ?_)
          have hP : va_P D vwCl (XU a cI cZ cD u2 ++ (XU b cI cZ cD w2 ++ [(q9, .inl (cI, 5, .inl f9)), (q10, .inl (cD, 5, .inr (.inr (.inr (.inl f10)))))])) H9 := hP.kept (fun k q hq => hk1 q.1 (hP k q hq).lt (fun z => z.elim))
          generalize H9 = H at hP hS ⊢
          subst hw
          refine lv_if_eq (tgt := 374) hx hb dL_isClosedSo_324 (by decide) (fun c => by first | exact absurd c (by decide) | exact absurd rfl c | exact (c (by decide)).elim) (fun c => ?_)
          refine lv_aload_n hx hb dL_isClosedSo_327 rfl (lv_at hl 13 rfl) ?_
          refine lv_iload hx hb dL_isClosedSo_328 (lv_at hl 5 rfl) ?_
          have hPx : va_P D vwCl (XU a cI cZ cD u2) H := hP.sub [0, 1, 2, 3, 4, 5, 6, 7, 8, 9, 10, 11, 12, 13, 14, 15, 16] rfl
          have hDx : va_D A (XU a cI cZ cD u2) := hD.sub [0, 1, 2, 3, 4, 5, 6, 7, 8, 9, 10, 11, 12, 13, 14, 15, 16] (by decide) rfl
          refine vp_callSd (va_Run.run (va_runV (As := [.int (nI i)]) (rest := []) ⟨hx, hb, hml, (xk_od hown), (dr_words hts _)⟩ (mX1_billV l D cI cZ cD a _ u2.1 u2.2.1 u2.2.2.1 u2.2.2.2.1 u2.2.2.2.2.1 u2.2.2.2.2.2.1 u2.2.2.2.2.2.2.1 u2.2.2.2.2.2.2.2.1 u2.2.2.2.2.2.2.2.2.1 u2.2.2.2.2.2.2.2.2.2.1 (nI u2.2.2.2.2.2.2.2.2.2.2.1) (nI u2.2.2.2.2.2.2.2.2.2.2.2.1) u2.2.2.2.2.2.2.2.2.2.2.2.2.1 u2.2.2.2.2.2.2.2.2.2.2.2.2.2.1 u2.2.2.2.2.2.2.2.2.2.2.2.2.2.2.1 u2.2.2.2.2.2.2.2.2.2.2.2.2.2.2.2.1 u2.2.2.2.2.2.2.2.2.2.2.2.2.2.2.2.2.1 u2.2.2.2.2.2.2.2.2.2.2.2.2.2.2.2.2.2.1 u2.2.2.2.2.2.2.2.2.2.2.2.2.2.2.2.2.2.2.1 u2.2.2.2.2.2.2.2.2.2.2.2.2.2.2.2.2.2.2.2 i hlt) (cwV 1 (dr_words hts _) gL_isClosedSo_X1_bill rfl rfl rfl (by decide +kernel) ⟨Nat.le_of_ble_eq_true rfl, Nat.le_of_ble_eq_true rfl⟩) ⟨xk_blind, va_recv (xk_Kd hK) hP (ci := 1) (q0 := 0) rfl rfl, xk_pre hPx (xk_Kd hK) hDx⟩ rfl rfl hl.1 rfl (lv_room (Nat.le_of_ble_eq_true rfl)) dL_isClosedSo_330 ⟨Nat.le_of_ble_eq_true rfl, Nat.le_of_ble_eq_true rfl⟩)) (fun r hr1 => ?_)
          refine xk_d (y := b_bi u2 i) hr1 ?_
          refine lv_aload hx hb dL_isClosedSo_333 (lv_at hl 8 rfl) ?_
          refine lv_iload hx hb dL_isClosedSo_335 (lv_at hl 5 rfl) ?_
          refine xk_dald hx hb (xk_Kd hK) hP 35 2 rfl rfl (o := i) (by omega) (by decide) dL_isClosedSo_337 ?_
          refine lv_aload_n hx hb dL_isClosedSo_338 rfl (lv_at hl 13 rfl) ?_
          refine lv_iload hx hb dL_isClosedSo_339 (lv_at hl 5 rfl) ?_
          refine lv_iload hx hb dL_isClosedSo_341 (lv_at hl 10 rfl) ?_
          have hPx : va_P D vwCl (XU a cI cZ cD u2) H := hP.sub [0, 1, 2, 3, 4, 5, 6, 7, 8, 9, 10, 11, 12, 13, 14, 15, 16] rfl
          have hDx : va_D A (XU a cI cZ cD u2) := hD.sub [0, 1, 2, 3, 4, 5, 6, 7, 8, 9, 10, 11, 12, 13, 14, 15, 16] (by decide) rfl
          refine vp_callSd (va_Run.run (va_runV (As := [.int (nI i), .int (nI (b_n u1))]) (rest := [.double (f10 i), .double (b_bi u2 i)]) ⟨hx, hb, hml, (xk_od hown), (dr_words hts _)⟩ (mX1_boughtV l D cI cZ cD a _ u2.1 u2.2.1 u2.2.2.1 u2.2.2.2.1 u2.2.2.2.2.1 u2.2.2.2.2.2.1 u2.2.2.2.2.2.2.1 u2.2.2.2.2.2.2.2.1 u2.2.2.2.2.2.2.2.2.1 u2.2.2.2.2.2.2.2.2.2.1 (nI u2.2.2.2.2.2.2.2.2.2.2.1) u2.2.2.2.2.2.2.2.2.2.2.2.2.1 u2.2.2.2.2.2.2.2.2.2.2.2.2.2.1 u2.2.2.2.2.2.2.2.2.2.2.2.2.2.2.1 u2.2.2.2.2.2.2.2.2.2.2.2.2.2.2.2.1 u2.2.2.2.2.2.2.2.2.2.2.2.2.2.2.2.2.1 u2.2.2.2.2.2.2.2.2.2.2.2.2.2.2.2.2.2.1 u2.2.2.2.2.2.2.2.2.2.2.2.2.2.2.2.2.2.2.1 u2.2.2.2.2.2.2.2.2.2.2.2.2.2.2.2.2.2.2.2 (b_n u2) i (b_n u1) hn2 hlt hq2) (cwV 2 (dr_words hts _) gL_isClosedSo_X1_bought rfl rfl rfl (by decide +kernel) ⟨Nat.le_of_ble_eq_true rfl, Nat.le_of_ble_eq_true rfl⟩) ⟨xk_blind, va_recv (xk_Kd hK) hP (ci := 1) (q0 := 0) rfl rfl, xk_pre hPx (xk_Kd hK) hDx⟩ rfl rfl hl.1 rfl (lv_room (Nat.le_of_ble_eq_true rfl)) dL_isClosedSo_343 ⟨Nat.le_of_ble_eq_true rfl, Nat.le_of_ble_eq_true rfl⟩)) (fun r hr1 => ?_)
          refine xk_d (y := b_lw u2 (5 * b_n u1 + i)) hr1 ?_
          refine lv_dload hx hb dL_isClosedSo_346 (lv_at hl 12 rfl) ?_
          refine lv_dmul_any hd22 lw_bits hx hb dL_isClosedSo_348 (fun r23 _ hal hd24 => ?_)
          have er23 := dt_mul hal
          refine lv_dadd_any hd24 lw_bits hx hb dL_isClosedSo_349 (fun r25 _ hal hd26 => ?_)
          have er25 := dt_add hal
          refine lv_aload_n hx hb dL_isClosedSo_350 rfl (lv_at hl 13 rfl) ?_
          refine lv_iload hx hb dL_isClosedSo_351 (lv_at hl 10 rfl) ?_
          have hPx : va_P D vwCl (XU a cI cZ cD u2) H := hP.sub [0, 1, 2, 3, 4, 5, 6, 7, 8, 9, 10, 11, 12, 13, 14, 15, 16] rfl
          have hDx : va_D A (XU a cI cZ cD u2) := hD.sub [0, 1, 2, 3, 4, 5, 6, 7, 8, 9, 10, 11, 12, 13, 14, 15, 16] (by decide) rfl
          refine vp_callSd (va_Run.run (va_runV (As := [.int (nI (b_n u1))]) (rest := [.double r25, .double (b_bi u2 i)]) ⟨hx, hb, hml, (xk_od hown), (dr_words hts _)⟩ (mX1_soldV l D cI cZ cD a _ u2.1 u2.2.1 u2.2.2.1 u2.2.2.2.1 u2.2.2.2.2.1 u2.2.2.2.2.2.1 u2.2.2.2.2.2.2.1 u2.2.2.2.2.2.2.2.1 u2.2.2.2.2.2.2.2.2.1 u2.2.2.2.2.2.2.2.2.2.1 (nI u2.2.2.2.2.2.2.2.2.2.2.1) u2.2.2.2.2.2.2.2.2.2.2.2.2.1 u2.2.2.2.2.2.2.2.2.2.2.2.2.2.1 u2.2.2.2.2.2.2.2.2.2.2.2.2.2.2.1 u2.2.2.2.2.2.2.2.2.2.2.2.2.2.2.2.1 u2.2.2.2.2.2.2.2.2.2.2.2.2.2.2.2.2.1 u2.2.2.2.2.2.2.2.2.2.2.2.2.2.2.2.2.2.1 u2.2.2.2.2.2.2.2.2.2.2.2.2.2.2.2.2.2.2.1 u2.2.2.2.2.2.2.2.2.2.2.2.2.2.2.2.2.2.2.2 (b_n u2) (b_n u1) hn2 hq2) (cwV 1 (dr_words hts _) gL_isClosedSo_X1_sold rfl rfl rfl (by decide +kernel) ⟨Nat.le_of_ble_eq_true rfl, Nat.le_of_ble_eq_true rfl⟩) ⟨xk_blind, va_recv (xk_Kd hK) hP (ci := 1) (q0 := 0) rfl rfl, xk_pre hPx (xk_Kd hK) hDx⟩ rfl rfl hl.1 rfl (lv_room (Nat.le_of_ble_eq_true rfl)) dL_isClosedSo_353 ⟨Nat.le_of_ble_eq_true rfl, Nat.le_of_ble_eq_true rfl⟩)) (fun r hr1 => ?_)
          refine xk_d (y := b_lz u2 (b_n u1)) hr1 ?_
          refine lv_dload hx hb dL_isClosedSo_356 (lv_at hl 12 rfl) ?_
          refine lv_dmul_any hd26 lw_bits hx hb dL_isClosedSo_358 (fun r27 _ hal hd28 => ?_)
          have er27 := dt_mul hal
          refine lv_ldc2d hx hb (xk_od hown) (dr_words hts _ (.constantDouble RL 98 4621819117588971520) (by decide +kernel)) dL_isClosedSo_359 ?_
          refine lv_ddiv_any hd28 lw_bits hx hb dL_isClosedSo_362 (fun r29 _ hal hd30 => ?_)
          have er29 := dt_div hal
          refine lv_dsub_any hd30 lw_bits hx hb dL_isClosedSo_363 (fun r31 _ hal hd32 => ?_)
          have er31 := dt_sub hal
          have ez : dt r31 = dSub (dAdd (s_bi (dat u1) i) (dMul (s_lw (closeS (nI x) (dat u1)) (5 * b_n u1 + i)) (s_pr (dat u1)))) (dDiv (dMul (s_lz (closeS (nI x) (dat u1)) (b_n u1)) (s_pr (dat u1))) d10) := by rw [er31, er25, er23, er29, er27, c_lw, c_lz, e10, ← dat_bi, show s_pr (dat u1) = dt (pB f) by rw [du1]; rfl]
          refine va_calliD hd32 (va_runS_D (As := [.double (b_bi u2 i), .double r31]) (rest := []) ⟨hx, hb, hml, (xk_od hown), (dr_words hts _)⟩ (mL_isNear l (b_bi u2 i) r31 (by rw [c_bi, ez]; exact k4)) (va_cwS 2 (dr_words hts _) gL_isClosedSo_L_isNear rfl rfl rfl (by decide +kernel) ⟨Nat.le_of_ble_eq_true rfl, Nat.le_of_ble_eq_true rfl⟩) ⟨fun a U g mk q => q, fun U hU hW => ⟨rfl, trivial⟩⟩ rfl rfl hl.1 rfl (lv_room (Nat.le_of_ble_eq_true rfl)) dL_isClosedSo_364 ⟨Nat.le_of_ble_eq_true rfl, Nat.le_of_ble_eq_true rfl⟩) hS (fun q _ h => h.elim) (fun q h => h.elim) (fun r _ t9 H9 locs ht hvm hw hB hz1 hk1 hS _ hd33 => ?_)
          have hP : va_P D vwCl (XU a cI cZ cD u2 ++ (XU b cI cZ cD w2 ++ [(q9, .inl (cI, 5, .inl f9)), (q10, .inl (cD, 5, .inr (.inr (.inr (.inl f10)))))])) H9 := hP.kept (fun k q hq => hk1 q.1 (hP k q hq).lt (fun z => z.elim))
          generalize H9 = H at hP hS ⊢
          subst hw
          refine lv_if_eq (tgt := 374) hx hb dL_isClosedSo_367 (by decide) (fun c => by first | exact absurd c (by decide) | exact absurd rfl c | exact (c (by decide)).elim) (fun c => ?_)
          refine lv_iconst (v := nI 1) hx hb dL_isClosedSo_370 (by decide) ?_
          refine lv_goto (tgt := 375) hx hb dL_isClosedSo_371 (by decide) ?_
          refine lv_istore (lv' := [(12, .int (nI 1)), (15, .double r18), (13, .double r16), (21, .double r14), (19, .double (b_lu u2 (5 * b_n u1 + i))), (18, .int (nI 0)), (17, .int (nI i)), (11, .int r1), (10, .ref q10), (9, .ref q9), (8, .int (nI (b_n u1))), (6, .double (b_so u1)), (4, .double (pB f)), (0, .ref (a 0)), (1, .ref (b 0)), (2, .int (nI f)), (3, .int (nI x))]) hx hb dL_isClosedSo_375 hl (by decide) rfl (fun ls hl => ?_)
          refine lv_iinc (v := nI (i + 1)) (lv' := [(17, .int (nI (i + 1))), (12, .int (nI 1)), (15, .double r18), (13, .double r16), (21, .double r14), (19, .double (b_lu u2 (5 * b_n u1 + i))), (18, .int (nI 0)), (11, .int r1), (10, .ref q10), (9, .ref q9), (8, .int (nI (b_n u1))), (6, .double (b_so u1)), (4, .double (pB f)), (0, .ref (a 0)), (1, .ref (b 0)), (2, .int (nI f)), (3, .int (nI x))]) hx hb dL_isClosedSo_377 hl (k := 6) rfl (nI_1 i) (by decide) rfl (fun ls hl => ?_)
          refine lv_goto (tgt := 206) hx hb dL_isClosedSo_380 (by decide) ?_
          exact next _ _ _ _ hlt ⟨_, _, eR, eL, hP, hS, hd33, lv_sub hl [0, 2, 3, 1, 7, 8, 9, 10, 11, 12, 13, 14, 15, 16] rfl⟩
        · skip
          refine xk_i (y := nI 1) (by rw [e9]; exact sub_1 (by rw [ets2, m1]; rfl)) ?_
          refine lv_istore (lv' := [(18, .int (nI 1)), (17, .int (nI i)), (15, .double Ln), (13, .double R), (12, .int (nI 1)), (11, .int r1), (10, .ref q10), (9, .ref q9), (8, .int (nI (b_n u1))), (6, .double (b_so u1)), (4, .double (pB f)), (0, .ref (a 0)), (1, .ref (b 0)), (2, .int (nI f)), (3, .int (nI x))]) hx hb dL_isClosedSo_229 hl (by decide) rfl (fun ls hl => ?_)
          refine lv_iload hx hb dL_isClosedSo_231 (lv_at hl 0 rfl) ?_
          refine lv_iconst (v := nI 1) hx hb dL_isClosedSo_233 (by decide) ?_
          refine lv_icmp_ne (tgt := 241) hx hb dL_isClosedSo_234 (by decide) (fun c => by first | exact absurd c (by decide) | exact absurd rfl c | exact (c (by decide)).elim) (fun c => ?_)
          refine lv_dconst0 hx hb dL_isClosedSo_237 ?_
          refine lv_goto (tgt := 249) hx hb dL_isClosedSo_238 (by decide) ?_
          have eu : dt FP.dconst0 = cV (dat u1) i := m2.symm
          refine lv_dstore (lv' := [(19, .double FP.dconst0), (18, .int (nI 1)), (17, .int (nI i)), (15, .double Ln), (13, .double R), (12, .int (nI 1)), (11, .int r1), (10, .ref q10), (9, .ref q9), (8, .int (nI (b_n u1))), (6, .double (b_so u1)), (4, .double (pB f)), (0, .ref (a 0)), (1, .ref (b 0)), (2, .int (nI f)), (3, .int (nI x))]) hx hb dL_isClosedSo_249 hl (by decide) rfl (fun ls hl => ?_)
          refine lv_aload_n hx hb dL_isClosedSo_251 rfl (lv_at hl 12 rfl) ?_
          refine lv_iload hx hb dL_isClosedSo_252 (lv_at hl 2 rfl) ?_
          refine lv_iload hx hb dL_isClosedSo_254 (lv_at hl 9 rfl) ?_
          have hPx : va_P D vwCl (XU a cI cZ cD u2) H := hP.sub [0, 1, 2, 3, 4, 5, 6, 7, 8, 9, 10, 11, 12, 13, 14, 15, 16] rfl
          have hDx : va_D A (XU a cI cZ cD u2) := hD.sub [0, 1, 2, 3, 4, 5, 6, 7, 8, 9, 10, 11, 12, 13, 14, 15, 16] (by decide) rfl
          refine vp_callSd (va_Run.run (va_runV (As := [.int (nI i), .int (nI (b_n u1))]) (rest := []) ⟨hx, hb, hml, (xk_od hown), (dr_words hts _)⟩ (mX1_fromSunV l D cI cZ cD a _ u2.1 u2.2.1 u2.2.2.1 u2.2.2.2.1 u2.2.2.2.2.1 u2.2.2.2.2.2.1 u2.2.2.2.2.2.2.1 u2.2.2.2.2.2.2.2.1 u2.2.2.2.2.2.2.2.2.1 u2.2.2.2.2.2.2.2.2.2.1 (nI u2.2.2.2.2.2.2.2.2.2.2.1) u2.2.2.2.2.2.2.2.2.2.2.2.2.1 u2.2.2.2.2.2.2.2.2.2.2.2.2.2.1 u2.2.2.2.2.2.2.2.2.2.2.2.2.2.2.1 u2.2.2.2.2.2.2.2.2.2.2.2.2.2.2.2.1 u2.2.2.2.2.2.2.2.2.2.2.2.2.2.2.2.2.1 u2.2.2.2.2.2.2.2.2.2.2.2.2.2.2.2.2.2.1 u2.2.2.2.2.2.2.2.2.2.2.2.2.2.2.2.2.2.2.1 u2.2.2.2.2.2.2.2.2.2.2.2.2.2.2.2.2.2.2.2 (b_n u2) i (b_n u1) hn2 hlt hq2) (cwV 2 (dr_words hts _) gL_isClosedSo_X1_fromSun rfl rfl rfl (by decide +kernel) ⟨Nat.le_of_ble_eq_true rfl, Nat.le_of_ble_eq_true rfl⟩) ⟨xk_blind, va_recv (xk_Kd hK) hP (ci := 1) (q0 := 0) rfl rfl, xk_pre hPx (xk_Kd hK) hDx⟩ rfl rfl hl.1 rfl (lv_room (Nat.le_of_ble_eq_true rfl)) dL_isClosedSo_256 ⟨Nat.le_of_ble_eq_true rfl, Nat.le_of_ble_eq_true rfl⟩)) (fun r hr1 => ?_)
          refine xk_d (y := b_lf u2 (5 * b_n u1 + i)) hr1 ?_
          refine lv_aload_n hx hb dL_isClosedSo_259 rfl (lv_at hl 12 rfl) ?_
          refine lv_iload hx hb dL_isClosedSo_260 (lv_at hl 2 rfl) ?_
          refine lv_iload hx hb dL_isClosedSo_262 (lv_at hl 9 rfl) ?_
          have hPx : va_P D vwCl (XU a cI cZ cD u2) H := hP.sub [0, 1, 2, 3, 4, 5, 6, 7, 8, 9, 10, 11, 12, 13, 14, 15, 16] rfl
          have hDx : va_D A (XU a cI cZ cD u2) := hD.sub [0, 1, 2, 3, 4, 5, 6, 7, 8, 9, 10, 11, 12, 13, 14, 15, 16] (by decide) rfl
          refine vp_callSd (va_Run.run (va_runV (As := [.int (nI i), .int (nI (b_n u1))]) (rest := [.double (b_lf u2 (5 * b_n u1 + i))]) ⟨hx, hb, hml, (xk_od hown), (dr_words hts _)⟩ (mX1_fromBatteryV l D cI cZ cD a _ u2.1 u2.2.1 u2.2.2.1 u2.2.2.2.1 u2.2.2.2.2.1 u2.2.2.2.2.2.1 u2.2.2.2.2.2.2.1 u2.2.2.2.2.2.2.2.1 u2.2.2.2.2.2.2.2.2.1 u2.2.2.2.2.2.2.2.2.2.1 (nI u2.2.2.2.2.2.2.2.2.2.2.1) u2.2.2.2.2.2.2.2.2.2.2.2.2.1 u2.2.2.2.2.2.2.2.2.2.2.2.2.2.1 u2.2.2.2.2.2.2.2.2.2.2.2.2.2.2.1 u2.2.2.2.2.2.2.2.2.2.2.2.2.2.2.2.1 u2.2.2.2.2.2.2.2.2.2.2.2.2.2.2.2.2.1 u2.2.2.2.2.2.2.2.2.2.2.2.2.2.2.2.2.2.1 u2.2.2.2.2.2.2.2.2.2.2.2.2.2.2.2.2.2.2.1 u2.2.2.2.2.2.2.2.2.2.2.2.2.2.2.2.2.2.2.2 (b_n u2) i (b_n u1) hn2 hlt hq2) (cwV 2 (dr_words hts _) gL_isClosedSo_X1_fromBattery rfl rfl rfl (by decide +kernel) ⟨Nat.le_of_ble_eq_true rfl, Nat.le_of_ble_eq_true rfl⟩) ⟨xk_blind, va_recv (xk_Kd hK) hP (ci := 1) (q0 := 0) rfl rfl, xk_pre hPx (xk_Kd hK) hDx⟩ rfl rfl hl.1 rfl (lv_room (Nat.le_of_ble_eq_true rfl)) dL_isClosedSo_264 ⟨Nat.le_of_ble_eq_true rfl, Nat.le_of_ble_eq_true rfl⟩)) (fun r hr1 => ?_)
          refine xk_d (y := b_lb u2 (5 * b_n u1 + i)) hr1 ?_
          refine lv_dadd_any hdl lw_bits hx hb dL_isClosedSo_267 (fun r34 _ hal hd35 => ?_)
          have er34 := dt_add hal
          have eg : dt r34 = dAdd (s_lf (closeS (nI x) (dat u1)) (5 * b_n u1 + i)) (s_lb (closeS (nI x) (dat u1)) (5 * b_n u1 + i)) := by rw [er34, c_lf, c_lb]
          refine lv_dstore (lv' := [(21, .double r34), (19, .double FP.dconst0), (18, .int (nI 1)), (17, .int (nI i)), (15, .double Ln), (13, .double R), (12, .int (nI 1)), (11, .int r1), (10, .ref q10), (9, .ref q9), (8, .int (nI (b_n u1))), (6, .double (b_so u1)), (4, .double (pB f)), (0, .ref (a 0)), (1, .ref (b 0)), (2, .int (nI f)), (3, .int (nI x))]) hx hb dL_isClosedSo_268 hl (by decide) rfl (fun ls hl => ?_)
          refine lv_dload hx hb dL_isClosedSo_270 (lv_at hl 5 rfl) ?_
          refine lv_dload hx hb dL_isClosedSo_272 (lv_at hl 0 rfl) ?_
          refine lv_dsub_any hd35 lw_bits hx hb dL_isClosedSo_274 (fun r36 _ hal hd37 => ?_)
          have er36 := dt_sub hal
          have eR : dt r36 = restS (nI x) (dat u1) (i + 1) := by rw [er36, hR, eg]; rfl
          refine lv_dstore (lv' := [(13, .double r36), (21, .double r34), (19, .double FP.dconst0), (18, .int (nI 1)), (17, .int (nI i)), (15, .double Ln), (12, .int (nI 1)), (11, .int r1), (10, .ref q10), (9, .ref q9), (8, .int (nI (b_n u1))), (6, .double (b_so u1)), (4, .double (pB f)), (0, .ref (a 0)), (1, .ref (b 0)), (2, .int (nI f)), (3, .int (nI x))]) hx hb dL_isClosedSo_275 hl (by decide) rfl (fun ls hl => ?_)
          refine lv_dload hx hb dL_isClosedSo_277 (lv_at hl 5 rfl) ?_
          refine lv_dload hx hb dL_isClosedSo_279 (lv_at hl 2 rfl) ?_
          refine lv_dadd_any hd37 lw_bits hx hb dL_isClosedSo_281 (fun r38 _ hal hd39 => ?_)
          have er38 := dt_add hal
          have eL : dt r38 = sumD (cV (dat u1)) (i + 1) := by rw [er38, hLn, eu]; rfl
          refine lv_dstore (lv' := [(15, .double r38), (13, .double r36), (21, .double r34), (19, .double FP.dconst0), (18, .int (nI 1)), (17, .int (nI i)), (12, .int (nI 1)), (11, .int r1), (10, .ref q10), (9, .ref q9), (8, .int (nI (b_n u1))), (6, .double (b_so u1)), (4, .double (pB f)), (0, .ref (a 0)), (1, .ref (b 0)), (2, .int (nI f)), (3, .int (nI x))]) hx hb dL_isClosedSo_282 hl (by decide) rfl (fun ls hl => ?_)
          refine lv_iload hx hb dL_isClosedSo_284 (lv_at hl 4 rfl) ?_
          refine lv_if_eq (tgt := 308) hx hb dL_isClosedSo_286 (by decide) (fun c => by first | exact absurd c (by decide) | exact absurd rfl c | exact (c (by decide)).elim) (fun c => ?_)
          refine lv_iload hx hb dL_isClosedSo_289 (lv_at hl 4 rfl) ?_
          refine lv_iconst (v := nI 1) hx hb dL_isClosedSo_291 (by decide) ?_
          refine lv_icmp_ne (tgt := 374) hx hb dL_isClosedSo_292 (by decide) (fun c => by first | exact absurd c (by decide) | exact absurd rfl c | exact (c (by decide)).elim) (fun c => ?_)
          refine lv_aload_n hx hb dL_isClosedSo_295 rfl (lv_at hl 13 rfl) ?_
          refine lv_iload hx hb dL_isClosedSo_296 (lv_at hl 5 rfl) ?_
          refine lv_iload hx hb dL_isClosedSo_298 (lv_at hl 10 rfl) ?_
          have hPx : va_P D vwCl (XU a cI cZ cD u2) H := hP.sub [0, 1, 2, 3, 4, 5, 6, 7, 8, 9, 10, 11, 12, 13, 14, 15, 16] rfl
          have hDx : va_D A (XU a cI cZ cD u2) := hD.sub [0, 1, 2, 3, 4, 5, 6, 7, 8, 9, 10, 11, 12, 13, 14, 15, 16] (by decide) rfl
          refine vp_callSd (va_Run.run (va_runV (As := [.int (nI i), .int (nI (b_n u1))]) (rest := []) ⟨hx, hb, hml, (xk_od hown), (dr_words hts _)⟩ (mX1_useV l D cI cZ cD a _ u2.1 u2.2.1 u2.2.2.1 u2.2.2.2.1 u2.2.2.2.2.1 u2.2.2.2.2.2.1 u2.2.2.2.2.2.2.1 u2.2.2.2.2.2.2.2.1 u2.2.2.2.2.2.2.2.2.1 u2.2.2.2.2.2.2.2.2.2.1 (nI u2.2.2.2.2.2.2.2.2.2.2.1) u2.2.2.2.2.2.2.2.2.2.2.2.2.1 u2.2.2.2.2.2.2.2.2.2.2.2.2.2.1 u2.2.2.2.2.2.2.2.2.2.2.2.2.2.2.1 u2.2.2.2.2.2.2.2.2.2.2.2.2.2.2.2.1 u2.2.2.2.2.2.2.2.2.2.2.2.2.2.2.2.2.1 u2.2.2.2.2.2.2.2.2.2.2.2.2.2.2.2.2.2.1 u2.2.2.2.2.2.2.2.2.2.2.2.2.2.2.2.2.2.2.1 u2.2.2.2.2.2.2.2.2.2.2.2.2.2.2.2.2.2.2.2 (b_n u2) i (b_n u1) hn2 hlt hq2) (cwV 2 (dr_words hts _) gL_isClosedSo_X1_use rfl rfl rfl (by decide +kernel) ⟨Nat.le_of_ble_eq_true rfl, Nat.le_of_ble_eq_true rfl⟩) ⟨xk_blind, va_recv (xk_Kd hK) hP (ci := 1) (q0 := 0) rfl rfl, xk_pre hPx (xk_Kd hK) hDx⟩ rfl rfl hl.1 rfl (lv_room (Nat.le_of_ble_eq_true rfl)) dL_isClosedSo_300 ⟨Nat.le_of_ble_eq_true rfl, Nat.le_of_ble_eq_true rfl⟩)) (fun r hr1 => ?_)
          refine xk_d (y := b_lu u2 (5 * b_n u1 + i)) hr1 ?_
          refine lv_dconst0 hx hb dL_isClosedSo_303 ?_
          refine lv_dcmp hx hb dL_isClosedSo_304 ?_
          refine lv_if_le (tgt := 374) hx hb dL_isClosedSo_305 (by decide) (fun c => absurd (show dCmp (dt (b_lu u2 (5 * b_n u1 + i))) dZ = some .gt by rw [c_lu]; exact m3) ((cv_l_le _).mp c)) (fun c => ?_)
          refine lv_dload hx hb dL_isClosedSo_308 (lv_at hl 3 rfl) ?_
          refine lv_dload hx hb dL_isClosedSo_310 (lv_at hl 2 rfl) ?_
          refine lv_aload_n hx hb dL_isClosedSo_312 rfl (lv_at hl 13 rfl) ?_
          refine lv_iload hx hb dL_isClosedSo_313 (lv_at hl 5 rfl) ?_
          refine lv_iload hx hb dL_isClosedSo_315 (lv_at hl 10 rfl) ?_
          have hPx : va_P D vwCl (XU a cI cZ cD u2) H := hP.sub [0, 1, 2, 3, 4, 5, 6, 7, 8, 9, 10, 11, 12, 13, 14, 15, 16] rfl
          have hDx : va_D A (XU a cI cZ cD u2) := hD.sub [0, 1, 2, 3, 4, 5, 6, 7, 8, 9, 10, 11, 12, 13, 14, 15, 16] (by decide) rfl
          refine vp_callSd (va_Run.run (va_runV (As := [.int (nI i), .int (nI (b_n u1))]) (rest := [.double r34, .double FP.dconst0]) ⟨hx, hb, hml, (xk_od hown), (dr_words hts _)⟩ (mX1_boughtV l D cI cZ cD a _ u2.1 u2.2.1 u2.2.2.1 u2.2.2.2.1 u2.2.2.2.2.1 u2.2.2.2.2.2.1 u2.2.2.2.2.2.2.1 u2.2.2.2.2.2.2.2.1 u2.2.2.2.2.2.2.2.2.1 u2.2.2.2.2.2.2.2.2.2.1 (nI u2.2.2.2.2.2.2.2.2.2.2.1) u2.2.2.2.2.2.2.2.2.2.2.2.2.1 u2.2.2.2.2.2.2.2.2.2.2.2.2.2.1 u2.2.2.2.2.2.2.2.2.2.2.2.2.2.2.1 u2.2.2.2.2.2.2.2.2.2.2.2.2.2.2.2.1 u2.2.2.2.2.2.2.2.2.2.2.2.2.2.2.2.2.1 u2.2.2.2.2.2.2.2.2.2.2.2.2.2.2.2.2.2.1 u2.2.2.2.2.2.2.2.2.2.2.2.2.2.2.2.2.2.2.1 u2.2.2.2.2.2.2.2.2.2.2.2.2.2.2.2.2.2.2.2 (b_n u2) i (b_n u1) hn2 hlt hq2) (cwV 2 (dr_words hts _) gL_isClosedSo_X1_bought rfl rfl rfl (by decide +kernel) ⟨Nat.le_of_ble_eq_true rfl, Nat.le_of_ble_eq_true rfl⟩) ⟨xk_blind, va_recv (xk_Kd hK) hP (ci := 1) (q0 := 0) rfl rfl, xk_pre hPx (xk_Kd hK) hDx⟩ rfl rfl hl.1 rfl (lv_room (Nat.le_of_ble_eq_true rfl)) dL_isClosedSo_317 ⟨Nat.le_of_ble_eq_true rfl, Nat.le_of_ble_eq_true rfl⟩)) (fun r hr1 => ?_)
          refine xk_d (y := b_lw u2 (5 * b_n u1 + i)) hr1 ?_
          refine lv_dadd_any hd39 lw_bits hx hb dL_isClosedSo_320 (fun r40 _ hal hd41 => ?_)
          have er40 := dt_add hal
          refine va_calliD hd41 (va_runS_D (As := [.double FP.dconst0, .double r40]) (rest := []) ⟨hx, hb, hml, (xk_od hown), (dr_words hts _)⟩ (mL_isNear l FP.dconst0 r40 (by rw [eu, er40, eg, c_lw]; exact k3)) (va_cwS 2 (dr_words hts _) gL_isClosedSo_L_isNear rfl rfl rfl (by decide +kernel) ⟨Nat.le_of_ble_eq_true rfl, Nat.le_of_ble_eq_true rfl⟩) ⟨fun a U g mk q => q, fun U hU hW => ⟨rfl, trivial⟩⟩ rfl rfl hl.1 rfl (lv_room (Nat.le_of_ble_eq_true rfl)) dL_isClosedSo_321 ⟨Nat.le_of_ble_eq_true rfl, Nat.le_of_ble_eq_true rfl⟩) hS (fun q _ h => h.elim) (fun q h => h.elim) (fun r _ t9 H9 locs ht hvm hw hB hz1 hk1 hS _ hd42 => ?_)
          have hP : va_P D vwCl (XU a cI cZ cD u2 ++ (XU b cI cZ cD w2 ++ [(q9, .inl (cI, 5, .inl f9)), (q10, .inl (cD, 5, .inr (.inr (.inr (.inl f10)))))])) H9 := hP.kept (fun k q hq => hk1 q.1 (hP k q hq).lt (fun z => z.elim))
          generalize H9 = H at hP hS ⊢
          subst hw
          refine lv_if_eq (tgt := 374) hx hb dL_isClosedSo_324 (by decide) (fun c => by first | exact absurd c (by decide) | exact absurd rfl c | exact (c (by decide)).elim) (fun c => ?_)
          refine lv_aload_n hx hb dL_isClosedSo_327 rfl (lv_at hl 13 rfl) ?_
          refine lv_iload hx hb dL_isClosedSo_328 (lv_at hl 5 rfl) ?_
          have hPx : va_P D vwCl (XU a cI cZ cD u2) H := hP.sub [0, 1, 2, 3, 4, 5, 6, 7, 8, 9, 10, 11, 12, 13, 14, 15, 16] rfl
          have hDx : va_D A (XU a cI cZ cD u2) := hD.sub [0, 1, 2, 3, 4, 5, 6, 7, 8, 9, 10, 11, 12, 13, 14, 15, 16] (by decide) rfl
          refine vp_callSd (va_Run.run (va_runV (As := [.int (nI i)]) (rest := []) ⟨hx, hb, hml, (xk_od hown), (dr_words hts _)⟩ (mX1_billV l D cI cZ cD a _ u2.1 u2.2.1 u2.2.2.1 u2.2.2.2.1 u2.2.2.2.2.1 u2.2.2.2.2.2.1 u2.2.2.2.2.2.2.1 u2.2.2.2.2.2.2.2.1 u2.2.2.2.2.2.2.2.2.1 u2.2.2.2.2.2.2.2.2.2.1 (nI u2.2.2.2.2.2.2.2.2.2.2.1) (nI u2.2.2.2.2.2.2.2.2.2.2.2.1) u2.2.2.2.2.2.2.2.2.2.2.2.2.1 u2.2.2.2.2.2.2.2.2.2.2.2.2.2.1 u2.2.2.2.2.2.2.2.2.2.2.2.2.2.2.1 u2.2.2.2.2.2.2.2.2.2.2.2.2.2.2.2.1 u2.2.2.2.2.2.2.2.2.2.2.2.2.2.2.2.2.1 u2.2.2.2.2.2.2.2.2.2.2.2.2.2.2.2.2.2.1 u2.2.2.2.2.2.2.2.2.2.2.2.2.2.2.2.2.2.2.1 u2.2.2.2.2.2.2.2.2.2.2.2.2.2.2.2.2.2.2.2 i hlt) (cwV 1 (dr_words hts _) gL_isClosedSo_X1_bill rfl rfl rfl (by decide +kernel) ⟨Nat.le_of_ble_eq_true rfl, Nat.le_of_ble_eq_true rfl⟩) ⟨xk_blind, va_recv (xk_Kd hK) hP (ci := 1) (q0 := 0) rfl rfl, xk_pre hPx (xk_Kd hK) hDx⟩ rfl rfl hl.1 rfl (lv_room (Nat.le_of_ble_eq_true rfl)) dL_isClosedSo_330 ⟨Nat.le_of_ble_eq_true rfl, Nat.le_of_ble_eq_true rfl⟩)) (fun r hr1 => ?_)
          refine xk_d (y := b_bi u2 i) hr1 ?_
          refine lv_aload hx hb dL_isClosedSo_333 (lv_at hl 8 rfl) ?_
          refine lv_iload hx hb dL_isClosedSo_335 (lv_at hl 5 rfl) ?_
          refine xk_dald hx hb (xk_Kd hK) hP 35 2 rfl rfl (o := i) (by omega) (by decide) dL_isClosedSo_337 ?_
          refine lv_aload_n hx hb dL_isClosedSo_338 rfl (lv_at hl 13 rfl) ?_
          refine lv_iload hx hb dL_isClosedSo_339 (lv_at hl 5 rfl) ?_
          refine lv_iload hx hb dL_isClosedSo_341 (lv_at hl 10 rfl) ?_
          have hPx : va_P D vwCl (XU a cI cZ cD u2) H := hP.sub [0, 1, 2, 3, 4, 5, 6, 7, 8, 9, 10, 11, 12, 13, 14, 15, 16] rfl
          have hDx : va_D A (XU a cI cZ cD u2) := hD.sub [0, 1, 2, 3, 4, 5, 6, 7, 8, 9, 10, 11, 12, 13, 14, 15, 16] (by decide) rfl
          refine vp_callSd (va_Run.run (va_runV (As := [.int (nI i), .int (nI (b_n u1))]) (rest := [.double (f10 i), .double (b_bi u2 i)]) ⟨hx, hb, hml, (xk_od hown), (dr_words hts _)⟩ (mX1_boughtV l D cI cZ cD a _ u2.1 u2.2.1 u2.2.2.1 u2.2.2.2.1 u2.2.2.2.2.1 u2.2.2.2.2.2.1 u2.2.2.2.2.2.2.1 u2.2.2.2.2.2.2.2.1 u2.2.2.2.2.2.2.2.2.1 u2.2.2.2.2.2.2.2.2.2.1 (nI u2.2.2.2.2.2.2.2.2.2.2.1) u2.2.2.2.2.2.2.2.2.2.2.2.2.1 u2.2.2.2.2.2.2.2.2.2.2.2.2.2.1 u2.2.2.2.2.2.2.2.2.2.2.2.2.2.2.1 u2.2.2.2.2.2.2.2.2.2.2.2.2.2.2.2.1 u2.2.2.2.2.2.2.2.2.2.2.2.2.2.2.2.2.1 u2.2.2.2.2.2.2.2.2.2.2.2.2.2.2.2.2.2.1 u2.2.2.2.2.2.2.2.2.2.2.2.2.2.2.2.2.2.2.1 u2.2.2.2.2.2.2.2.2.2.2.2.2.2.2.2.2.2.2.2 (b_n u2) i (b_n u1) hn2 hlt hq2) (cwV 2 (dr_words hts _) gL_isClosedSo_X1_bought rfl rfl rfl (by decide +kernel) ⟨Nat.le_of_ble_eq_true rfl, Nat.le_of_ble_eq_true rfl⟩) ⟨xk_blind, va_recv (xk_Kd hK) hP (ci := 1) (q0 := 0) rfl rfl, xk_pre hPx (xk_Kd hK) hDx⟩ rfl rfl hl.1 rfl (lv_room (Nat.le_of_ble_eq_true rfl)) dL_isClosedSo_343 ⟨Nat.le_of_ble_eq_true rfl, Nat.le_of_ble_eq_true rfl⟩)) (fun r hr1 => ?_)
          refine xk_d (y := b_lw u2 (5 * b_n u1 + i)) hr1 ?_
          refine lv_dload hx hb dL_isClosedSo_346 (lv_at hl 12 rfl) ?_
          refine lv_dmul_any hd42 lw_bits hx hb dL_isClosedSo_348 (fun r43 _ hal hd44 => ?_)
          have er43 := dt_mul hal
          refine lv_dadd_any hd44 lw_bits hx hb dL_isClosedSo_349 (fun r45 _ hal hd46 => ?_)
          have er45 := dt_add hal
          refine lv_aload_n hx hb dL_isClosedSo_350 rfl (lv_at hl 13 rfl) ?_
          refine lv_iload hx hb dL_isClosedSo_351 (lv_at hl 10 rfl) ?_
          have hPx : va_P D vwCl (XU a cI cZ cD u2) H := hP.sub [0, 1, 2, 3, 4, 5, 6, 7, 8, 9, 10, 11, 12, 13, 14, 15, 16] rfl
          have hDx : va_D A (XU a cI cZ cD u2) := hD.sub [0, 1, 2, 3, 4, 5, 6, 7, 8, 9, 10, 11, 12, 13, 14, 15, 16] (by decide) rfl
          refine vp_callSd (va_Run.run (va_runV (As := [.int (nI (b_n u1))]) (rest := [.double r45, .double (b_bi u2 i)]) ⟨hx, hb, hml, (xk_od hown), (dr_words hts _)⟩ (mX1_soldV l D cI cZ cD a _ u2.1 u2.2.1 u2.2.2.1 u2.2.2.2.1 u2.2.2.2.2.1 u2.2.2.2.2.2.1 u2.2.2.2.2.2.2.1 u2.2.2.2.2.2.2.2.1 u2.2.2.2.2.2.2.2.2.1 u2.2.2.2.2.2.2.2.2.2.1 (nI u2.2.2.2.2.2.2.2.2.2.2.1) u2.2.2.2.2.2.2.2.2.2.2.2.2.1 u2.2.2.2.2.2.2.2.2.2.2.2.2.2.1 u2.2.2.2.2.2.2.2.2.2.2.2.2.2.2.1 u2.2.2.2.2.2.2.2.2.2.2.2.2.2.2.2.1 u2.2.2.2.2.2.2.2.2.2.2.2.2.2.2.2.2.1 u2.2.2.2.2.2.2.2.2.2.2.2.2.2.2.2.2.2.1 u2.2.2.2.2.2.2.2.2.2.2.2.2.2.2.2.2.2.2.1 u2.2.2.2.2.2.2.2.2.2.2.2.2.2.2.2.2.2.2.2 (b_n u2) (b_n u1) hn2 hq2) (cwV 1 (dr_words hts _) gL_isClosedSo_X1_sold rfl rfl rfl (by decide +kernel) ⟨Nat.le_of_ble_eq_true rfl, Nat.le_of_ble_eq_true rfl⟩) ⟨xk_blind, va_recv (xk_Kd hK) hP (ci := 1) (q0 := 0) rfl rfl, xk_pre hPx (xk_Kd hK) hDx⟩ rfl rfl hl.1 rfl (lv_room (Nat.le_of_ble_eq_true rfl)) dL_isClosedSo_353 ⟨Nat.le_of_ble_eq_true rfl, Nat.le_of_ble_eq_true rfl⟩)) (fun r hr1 => ?_)
          refine xk_d (y := b_lz u2 (b_n u1)) hr1 ?_
          refine lv_dload hx hb dL_isClosedSo_356 (lv_at hl 12 rfl) ?_
          refine lv_dmul_any hd46 lw_bits hx hb dL_isClosedSo_358 (fun r47 _ hal hd48 => ?_)
          have er47 := dt_mul hal
          refine lv_ldc2d hx hb (xk_od hown) (dr_words hts _ (.constantDouble RL 98 4621819117588971520) (by decide +kernel)) dL_isClosedSo_359 ?_
          refine lv_ddiv_any hd48 lw_bits hx hb dL_isClosedSo_362 (fun r49 _ hal hd50 => ?_)
          have er49 := dt_div hal
          refine lv_dsub_any hd50 lw_bits hx hb dL_isClosedSo_363 (fun r51 _ hal hd52 => ?_)
          have er51 := dt_sub hal
          have ez : dt r51 = dSub (dAdd (s_bi (dat u1) i) (dMul (s_lw (closeS (nI x) (dat u1)) (5 * b_n u1 + i)) (s_pr (dat u1)))) (dDiv (dMul (s_lz (closeS (nI x) (dat u1)) (b_n u1)) (s_pr (dat u1))) d10) := by rw [er51, er45, er43, er49, er47, c_lw, c_lz, e10, ← dat_bi, show s_pr (dat u1) = dt (pB f) by rw [du1]; rfl]
          refine va_calliD hd52 (va_runS_D (As := [.double (b_bi u2 i), .double r51]) (rest := []) ⟨hx, hb, hml, (xk_od hown), (dr_words hts _)⟩ (mL_isNear l (b_bi u2 i) r51 (by rw [c_bi, ez]; exact k4)) (va_cwS 2 (dr_words hts _) gL_isClosedSo_L_isNear rfl rfl rfl (by decide +kernel) ⟨Nat.le_of_ble_eq_true rfl, Nat.le_of_ble_eq_true rfl⟩) ⟨fun a U g mk q => q, fun U hU hW => ⟨rfl, trivial⟩⟩ rfl rfl hl.1 rfl (lv_room (Nat.le_of_ble_eq_true rfl)) dL_isClosedSo_364 ⟨Nat.le_of_ble_eq_true rfl, Nat.le_of_ble_eq_true rfl⟩) hS (fun q _ h => h.elim) (fun q h => h.elim) (fun r _ t9 H9 locs ht hvm hw hB hz1 hk1 hS _ hd53 => ?_)
          have hP : va_P D vwCl (XU a cI cZ cD u2 ++ (XU b cI cZ cD w2 ++ [(q9, .inl (cI, 5, .inl f9)), (q10, .inl (cD, 5, .inr (.inr (.inr (.inl f10)))))])) H9 := hP.kept (fun k q hq => hk1 q.1 (hP k q hq).lt (fun z => z.elim))
          generalize H9 = H at hP hS ⊢
          subst hw
          refine lv_if_eq (tgt := 374) hx hb dL_isClosedSo_367 (by decide) (fun c => by first | exact absurd c (by decide) | exact absurd rfl c | exact (c (by decide)).elim) (fun c => ?_)
          refine lv_iconst (v := nI 1) hx hb dL_isClosedSo_370 (by decide) ?_
          refine lv_goto (tgt := 375) hx hb dL_isClosedSo_371 (by decide) ?_
          refine lv_istore (lv' := [(12, .int (nI 1)), (15, .double r38), (13, .double r36), (21, .double r34), (19, .double FP.dconst0), (18, .int (nI 1)), (17, .int (nI i)), (11, .int r1), (10, .ref q10), (9, .ref q9), (8, .int (nI (b_n u1))), (6, .double (b_so u1)), (4, .double (pB f)), (0, .ref (a 0)), (1, .ref (b 0)), (2, .int (nI f)), (3, .int (nI x))]) hx hb dL_isClosedSo_375 hl (by decide) rfl (fun ls hl => ?_)
          refine lv_iinc (v := nI (i + 1)) (lv' := [(17, .int (nI (i + 1))), (12, .int (nI 1)), (15, .double r38), (13, .double r36), (21, .double r34), (19, .double FP.dconst0), (18, .int (nI 1)), (11, .int r1), (10, .ref q10), (9, .ref q9), (8, .int (nI (b_n u1))), (6, .double (b_so u1)), (4, .double (pB f)), (0, .ref (a 0)), (1, .ref (b 0)), (2, .int (nI f)), (3, .int (nI x))]) hx hb dL_isClosedSo_377 hl (k := 6) rfl (nI_1 i) (by decide) rfl (fun ls hl => ?_)
          refine lv_goto (tgt := 206) hx hb dL_isClosedSo_380 (by decide) ?_
          exact next _ _ _ _ hlt ⟨_, _, eR, eL, hP, hS, hd53, lv_sub hl [0, 2, 3, 1, 7, 8, 9, 10, 11, 12, 13, 14, 15, 16] rfl⟩
    · skip
      obtain ⟨g1, g2⟩ := cl_bad (show ¬ s_n (dat u1) < 60 from hn) hw1
      have e60 : b_n u1 = 60 := by omega
      have e62 : b_n u2 = 60 := (congrArg s_n g1).trans e60
      refine lv_icmp_ne (tgt := 121) hx hb dL_isClosedSo_114 (by decide) (fun c => absurd g2 c) (fun c => ?_)
      refine lv_iconst (v := nI 1) hx hb dL_isClosedSo_117 (by decide) ?_
      refine lv_goto (tgt := 122) hx hb dL_isClosedSo_118 (by decide) ?_
      refine lv_iload hx hb dL_isClosedSo_122 (lv_at hl 3 rfl) ?_
      refine lv_bipush (v := nI 60) hx hb dL_isClosedSo_124 (by decide) ?_
      refine lv_icmp_ne (tgt := 133) hx hb dL_isClosedSo_126 (by decide) (fun c => absurd (by rw [e60]) c) (fun c => ?_)
      refine lv_iconst (v := nI 1) hx hb dL_isClosedSo_129 (by decide) ?_
      refine lv_goto (tgt := 134) hx hb dL_isClosedSo_130 (by decide) ?_
      refine lv_icmp_ne (tgt := 141) hx hb dL_isClosedSo_134 (by decide) (fun c => by first | exact absurd c (by decide) | exact absurd rfl c | exact (c (by decide)).elim) (fun c => ?_)
      refine lv_iconst (v := nI 1) hx hb dL_isClosedSo_137 (by decide) ?_
      refine lv_goto (tgt := 142) hx hb dL_isClosedSo_138 (by decide) ?_
      refine lv_istore (lv' := [(12, .int (nI 1)), (11, .int r1), (10, .ref q10), (9, .ref q9), (8, .int (nI (b_n u1))), (6, .double (b_so u1)), (4, .double (pB f)), (0, .ref (a 0)), (1, .ref (b 0)), (2, .int (nI f)), (3, .int (nI x))]) hx hb dL_isClosedSo_142 hl (by decide) rfl (fun ls hl => ?_)
      refine lv_iload hx hb dL_isClosedSo_144 (lv_at hl 1 rfl) ?_
      refine lv_ldc (v := -99999) hx hb (xk_od hown) (dr_words hts _ (.constant RL 32 (-99999)) (by decide +kernel)) dL_isClosedSo_146 ?_
      refine lv_icmp_ne (tgt := 181) hx hb dL_isClosedSo_148 (by decide) (fun c => absurd g2 c) (fun c => ?_)
      refine lv_iload hx hb dL_isClosedSo_151 (lv_at hl 0 rfl) ?_
      refine lv_if_eq (tgt := 179) hx hb dL_isClosedSo_153 (by decide) (fun c => by first | exact absurd c (by decide) | exact absurd rfl c | exact (c (by decide)).elim) (fun c => ?_)
      refine lv_aload_n hx hb dL_isClosedSo_156 rfl (lv_at hl 7 rfl) ?_
      have hPx : va_P D vwCl (XU a cI cZ cD u2) H := hP.sub [0, 1, 2, 3, 4, 5, 6, 7, 8, 9, 10, 11, 12, 13, 14, 15, 16] rfl
      have hDx : va_D A (XU a cI cZ cD u2) := hD.sub [0, 1, 2, 3, 4, 5, 6, 7, 8, 9, 10, 11, 12, 13, 14, 15, 16] (by decide) rfl
      refine vp_callSd (va_Run.run (va_runV (As := []) (rest := []) ⟨hx, hb, hml, (xk_od hown), (dr_words hts _)⟩ (mX1_batteryV l D cI cZ cD a _ u2.1 u2.2.1 u2.2.2.1 u2.2.2.2.1 u2.2.2.2.2.1 u2.2.2.2.2.2.1 u2.2.2.2.2.2.2.1 u2.2.2.2.2.2.2.2.1 u2.2.2.2.2.2.2.2.2.1 u2.2.2.2.2.2.2.2.2.2.1 (nI u2.2.2.2.2.2.2.2.2.2.2.1) (nI u2.2.2.2.2.2.2.2.2.2.2.2.1) u2.2.2.2.2.2.2.2.2.2.2.2.2.1 u2.2.2.2.2.2.2.2.2.2.2.2.2.2.1 u2.2.2.2.2.2.2.2.2.2.2.2.2.2.2.1 u2.2.2.2.2.2.2.2.2.2.2.2.2.2.2.2.1 u2.2.2.2.2.2.2.2.2.2.2.2.2.2.2.2.2.1 u2.2.2.2.2.2.2.2.2.2.2.2.2.2.2.2.2.2.1 u2.2.2.2.2.2.2.2.2.2.2.2.2.2.2.2.2.2.2.1 u2.2.2.2.2.2.2.2.2.2.2.2.2.2.2.2.2.2.2.2 ) (cwV 0 (dr_words hts _) gL_isClosedSo_X1_battery rfl rfl rfl (by decide +kernel) ⟨Nat.le_of_ble_eq_true rfl, Nat.le_of_ble_eq_true rfl⟩) ⟨xk_blind, va_recv (xk_Kd hK) hP (ci := 1) (q0 := 0) rfl rfl, xk_pre hPx (xk_Kd hK) hDx⟩ rfl rfl hl.1 rfl (lv_room (Nat.le_of_ble_eq_true rfl)) dL_isClosedSo_157 ⟨Nat.le_of_ble_eq_true rfl, Nat.le_of_ble_eq_true rfl⟩)) (fun r hr1 => ?_)
      refine xk_d (y := b_so u2) hr1 ?_
      refine lv_dload hx hb dL_isClosedSo_160 (lv_at hl 5 rfl) ?_
      refine lv_dcmp hx hb dL_isClosedSo_162 ?_
      refine lv_if_ne (tgt := 179) hx hb dL_isClosedSo_163 (by decide) (fun c => absurd ((cv_l_eq _).mpr (show dCmp (dt (b_so u2)) (dt (b_so u1)) = some .eq from (by rw [show dt (b_so u2) = dt (b_so u1) from congrArg s_so g1, show dt (b_so u1) = s_so (dat u) from congrArg s_so du1]; exact self_eq hso))) c) (fun c => ?_)
      refine lv_aload_n hx hb dL_isClosedSo_166 rfl (lv_at hl 7 rfl) ?_
      have hPx : va_P D vwCl (XU a cI cZ cD u2) H := hP.sub [0, 1, 2, 3, 4, 5, 6, 7, 8, 9, 10, 11, 12, 13, 14, 15, 16] rfl
      have hDx : va_D A (XU a cI cZ cD u2) := hD.sub [0, 1, 2, 3, 4, 5, 6, 7, 8, 9, 10, 11, 12, 13, 14, 15, 16] (by decide) rfl
      refine vp_callSi (va_Run.run (va_runV (As := []) (rest := []) ⟨hx, hb, hml, (xk_od hown), (dr_words hts _)⟩ (mX1_closedV l D cI cZ cD a _ u2.1 u2.2.1 u2.2.2.1 u2.2.2.2.1 u2.2.2.2.2.1 u2.2.2.2.2.2.1 u2.2.2.2.2.2.2.1 u2.2.2.2.2.2.2.2.1 u2.2.2.2.2.2.2.2.2.1 u2.2.2.2.2.2.2.2.2.2.1 (nI u2.2.2.2.2.2.2.2.2.2.2.1) (nI u2.2.2.2.2.2.2.2.2.2.2.2.1) u2.2.2.2.2.2.2.2.2.2.2.2.2.1 u2.2.2.2.2.2.2.2.2.2.2.2.2.2.1 u2.2.2.2.2.2.2.2.2.2.2.2.2.2.2.1 u2.2.2.2.2.2.2.2.2.2.2.2.2.2.2.2.1 u2.2.2.2.2.2.2.2.2.2.2.2.2.2.2.2.2.1 u2.2.2.2.2.2.2.2.2.2.2.2.2.2.2.2.2.2.1 u2.2.2.2.2.2.2.2.2.2.2.2.2.2.2.2.2.2.2.1 u2.2.2.2.2.2.2.2.2.2.2.2.2.2.2.2.2.2.2.2 ) (cwV 0 (dr_words hts _) gL_isClosedSo_X1_closed rfl rfl rfl (by decide +kernel) ⟨Nat.le_of_ble_eq_true rfl, Nat.le_of_ble_eq_true rfl⟩) ⟨xk_blind, va_recv (xk_Kd hK) hP (ci := 1) (q0 := 0) rfl rfl, xk_pre hPx (xk_Kd hK) hDx⟩ rfl rfl hl.1 rfl (lv_room (Nat.le_of_ble_eq_true rfl)) dL_isClosedSo_167 ⟨Nat.le_of_ble_eq_true rfl, Nat.le_of_ble_eq_true rfl⟩)) (fun r hr1 => ?_)
      refine xk_i (y := nI (b_n u2)) hr1 ?_
      refine lv_bipush (v := nI 60) hx hb dL_isClosedSo_170 (by decide) ?_
      refine lv_icmp_ne (tgt := 179) hx hb dL_isClosedSo_172 (by decide) (fun c => absurd (by rw [e62]) c) (fun c => ?_)
      refine lv_iconst (v := nI 1) hx hb dL_isClosedSo_175 (by decide) ?_
      refine lv_goto (tgt := 180) hx hb dL_isClosedSo_176 (by decide) ?_
      refine W.widen (k := 4) (n := 22) (Nat.le_of_ble_eq_true rfl) (Nat.le_of_ble_eq_true rfl) ?_
      refine W.endD hd6 ?_
      exact W.zret hx hb hr rfl (fun t ht hW => ⟨⟨_, (u2, w2), rfl, ⟨rfl, e11, e22⟩, by rw [ht]; exact hP.sub [0, 1, 2, 3, 4, 5, 6, 7, 8, 9, 10, 11, 12, 13, 14, 15, 16, 17, 18, 19, 20, 21, 22, 23, 24, 25, 26, 27, 28, 29, 30, 31, 32, 33] rfl, va_K.moved hW.alike (xk_Kd hK), hD.sub [0, 1, 2, 3, 4, 5, 6, 7, 8, 9, 10, 11, 12, 13, 14, 15, 16, 17, 18, 19, 20, 21, 22, 23, 24, 25, 26, 27, 28, 29, 30, 31, 32, 33] (by decide) rfl⟩, hS.F ht⟩) hS.2.2 dL_isClosedSo_180
  · skip
    have hlt := xk_nge hi (by decide) c
    refine lv_aload hx hb dL_isClosedSo_38 (lv_at hl 2 rfl) ?_
    refine lv_iload hx hb dL_isClosedSo_40 (lv_at hl 0 rfl) ?_
    refine lv_aload_n hx hb dL_isClosedSo_42 rfl (lv_at hl 6 rfl) ?_
    refine lv_iload hx hb dL_isClosedSo_43 (lv_at hl 0 rfl) ?_
    have hPx : va_P D vwCl (XU a cI cZ cD u1) H := hP.sub [0, 1, 2, 3, 4, 5, 6, 7, 8, 9, 10, 11, 12, 13, 14, 15, 16] rfl
    have hDx : va_D A (XU a cI cZ cD u1) := hD.sub [0, 1, 2, 3, 4, 5, 6, 7, 8, 9, 10, 11, 12, 13, 14, 15, 16] (by decide) rfl
    refine vp_callSi (va_Run.run (va_runV (As := [.int (nI i)]) (rest := [.int (nI i), .ref q9]) ⟨hx, hb, hml, (xk_od hown), (dr_words hts _)⟩ (mX1_shedsV l D cI cZ cD a _ u1.1 u1.2.1 u1.2.2.1 u1.2.2.2.1 u1.2.2.2.2.1 u1.2.2.2.2.2.1 u1.2.2.2.2.2.2.1 u1.2.2.2.2.2.2.2.1 u1.2.2.2.2.2.2.2.2.1 u1.2.2.2.2.2.2.2.2.2.1 (nI u1.2.2.2.2.2.2.2.2.2.2.1) (nI u1.2.2.2.2.2.2.2.2.2.2.2.1) u1.2.2.2.2.2.2.2.2.2.2.2.2.1 u1.2.2.2.2.2.2.2.2.2.2.2.2.2.1 u1.2.2.2.2.2.2.2.2.2.2.2.2.2.2.1 u1.2.2.2.2.2.2.2.2.2.2.2.2.2.2.2.1 u1.2.2.2.2.2.2.2.2.2.2.2.2.2.2.2.2.1 u1.2.2.2.2.2.2.2.2.2.2.2.2.2.2.2.2.2.1 u1.2.2.2.2.2.2.2.2.2.2.2.2.2.2.2.2.2.2.1 u1.2.2.2.2.2.2.2.2.2.2.2.2.2.2.2.2.2.2.2 i hlt) (cwV 1 (dr_words hts _) gL_isClosedSo_X1_sheds rfl rfl rfl (by decide +kernel) ⟨Nat.le_of_ble_eq_true rfl, Nat.le_of_ble_eq_true rfl⟩) ⟨xk_blind, va_recv (xk_Kd hK) hP (ci := 1) (q0 := 0) rfl rfl, xk_pre hPx (xk_Kd hK) hDx⟩ rfl rfl hl.1 rfl (lv_room (Nat.le_of_ble_eq_true rfl)) dL_isClosedSo_45 ⟨Nat.le_of_ble_eq_true rfl, Nat.le_of_ble_eq_true rfl⟩)) (fun r hr1 => ?_)
    refine xk_i (y := b_ts u1 i) hr1 ?_
    refine xk_iast hx hb (xk_Kd hK) hP hD hS 34 0 rfl rfl (o := i) (by omega) (by decide) dL_isClosedSo_48 (fun H locs hP hD hS => ?_)
    have hP : va_P D vwCl (XU a cI cZ cD u1 ++ (XU b cI cZ cD w ++ [(q9, .inl (cI, 5, .inl (upd f9 i (b_ts u1 i)))), (q10, .inl (cD, 5, .inr (.inr (.inr (.inl f10)))))])) H := hP
    have hD : va_D A (XU a cI cZ cD u1 ++ (XU b cI cZ cD w ++ [(q9, .inl (cI, 5, .inl (upd f9 i (b_ts u1 i)))), (q10, .inl (cD, 5, .inr (.inr (.inr (.inl f10)))))])) := hD
    refine lv_aload hx hb dL_isClosedSo_49 (lv_at hl 1 rfl) ?_
    refine lv_iload hx hb dL_isClosedSo_51 (lv_at hl 0 rfl) ?_
    refine lv_aload_n hx hb dL_isClosedSo_53 rfl (lv_at hl 6 rfl) ?_
    refine lv_iload hx hb dL_isClosedSo_54 (lv_at hl 0 rfl) ?_
    have hPx : va_P D vwCl (XU a cI cZ cD u1) H := hP.sub [0, 1, 2, 3, 4, 5, 6, 7, 8, 9, 10, 11, 12, 13, 14, 15, 16] rfl
    have hDx : va_D A (XU a cI cZ cD u1) := hD.sub [0, 1, 2, 3, 4, 5, 6, 7, 8, 9, 10, 11, 12, 13, 14, 15, 16] (by decide) rfl
    refine vp_callSd (va_Run.run (va_runV (As := [.int (nI i)]) (rest := [.int (nI i), .ref q10]) ⟨hx, hb, hml, (xk_od hown), (dr_words hts _)⟩ (mX1_billV l D cI cZ cD a _ u1.1 u1.2.1 u1.2.2.1 u1.2.2.2.1 u1.2.2.2.2.1 u1.2.2.2.2.2.1 u1.2.2.2.2.2.2.1 u1.2.2.2.2.2.2.2.1 u1.2.2.2.2.2.2.2.2.1 u1.2.2.2.2.2.2.2.2.2.1 (nI u1.2.2.2.2.2.2.2.2.2.2.1) (nI u1.2.2.2.2.2.2.2.2.2.2.2.1) u1.2.2.2.2.2.2.2.2.2.2.2.2.1 u1.2.2.2.2.2.2.2.2.2.2.2.2.2.1 u1.2.2.2.2.2.2.2.2.2.2.2.2.2.2.1 u1.2.2.2.2.2.2.2.2.2.2.2.2.2.2.2.1 u1.2.2.2.2.2.2.2.2.2.2.2.2.2.2.2.2.1 u1.2.2.2.2.2.2.2.2.2.2.2.2.2.2.2.2.2.1 u1.2.2.2.2.2.2.2.2.2.2.2.2.2.2.2.2.2.2.1 u1.2.2.2.2.2.2.2.2.2.2.2.2.2.2.2.2.2.2.2 i hlt) (cwV 1 (dr_words hts _) gL_isClosedSo_X1_bill rfl rfl rfl (by decide +kernel) ⟨Nat.le_of_ble_eq_true rfl, Nat.le_of_ble_eq_true rfl⟩) ⟨xk_blind, va_recv (xk_Kd hK) hP (ci := 1) (q0 := 0) rfl rfl, xk_pre hPx (xk_Kd hK) hDx⟩ rfl rfl hl.1 rfl (lv_room (Nat.le_of_ble_eq_true rfl)) dL_isClosedSo_56 ⟨Nat.le_of_ble_eq_true rfl, Nat.le_of_ble_eq_true rfl⟩)) (fun r hr1 => ?_)
    refine xk_d (y := b_bi u1 i) hr1 ?_
    refine xk_dast hx hb (xk_Kd hK) hP hD hS 35 2 rfl rfl (o := i) (by omega) (by decide) dL_isClosedSo_59 (fun H locs hP hD hS => ?_)
    have hP : va_P D vwCl (XU a cI cZ cD u1 ++ (XU b cI cZ cD w ++ [(q9, .inl (cI, 5, .inl (upd f9 i (b_ts u1 i)))), (q10, .inl (cD, 5, .inr (.inr (.inr (.inl (vf_upd f10 i (b_bi u1 i)))))))])) H := hP
    have hD : va_D A (XU a cI cZ cD u1 ++ (XU b cI cZ cD w ++ [(q9, .inl (cI, 5, .inl (upd f9 i (b_ts u1 i)))), (q10, .inl (cD, 5, .inr (.inr (.inr (.inl (vf_upd f10 i (b_bi u1 i)))))))])) := hD
    refine lv_iinc (v := nI (i + 1)) (lv' := [(11, .int (nI (i + 1))), (10, .ref q10), (9, .ref q9), (8, .int (nI (b_n u1))), (6, .double (b_so u1)), (4, .double (pB f)), (0, .ref (a 0)), (1, .ref (b 0)), (2, .int (nI f)), (3, .int (nI x))]) hx hb dL_isClosedSo_60 hl (k := 0) rfl (nI_1 i) (by decide) rfl (fun ls hl => ?_)
    refine lv_goto (tgt := 32) hx hb dL_isClosedSo_63 (by decide) ?_
    exact next _ _ _ _ hlt ⟨_, _, fill_I h9, fill_D h10, hP, hD, hS, hdl, lv_sub hl [0, 1, 2, 3, 4, 5, 6, 7, 8, 9] rfl⟩
