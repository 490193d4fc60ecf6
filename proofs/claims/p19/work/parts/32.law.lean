/-! THE LAW -/
set_option maxHeartbeats 4000000 in
set_option maxRecDepth 100000 in
theorem law_loop {p : Program} {l : Launch} {e : Env} {s : State} {m : MethodId} {below : List Frame} {meth : Method} {c : Code} {b9 L : Nat} {xs : Nat → Int32} {D : va_G} {cI cZ cD : ClassId} (C : LC l p s m meth c b9 L xs D cI cZ cD) {a b : Nat → Nat} {H : Heap} {locs : List Loc} {ls : Array Slot} {d : Drawn} (hI : LInv s D cI cZ cD a b b9 0 H locs ls d) : W p l e room_1 (s.setDrawn d) m #[Value.ref b9] below meth c H locs 34 3952 (lw_Z below #[Value.ref b9] s) (F0 m 21 ls []) := by
  refine xk_loopC (fun i H locs ls d => LInv s D cI cZ cD a b b9 i H locs ls d) (fun i => 34 + 60 * i) (fun i => 3952 + 400 * i) 110 ?_ (i := 0) (Nat.zero_le _) hI
  intro i H locs ls d hi hI next
  have hC := C
  obtain ⟨hst, hL, C0, hE, hN, hK⟩ := hC
  obtain ⟨hx, hb, hr, hml, hown, hts0, hX, hbl, hlocks, hgv⟩ := C0
  have hts : ∀ w ∈ wsL_law, w.before #[Value.ref b9] s = true := fun w h => hts0 w (wsL_law_in w h)
  have hA : ∀ q : Nat, s.heap.size ≤ q → (fun q : Nat => s.heap.size ≤ q) q := fun q h => h
  have hbA : ¬ (fun q : Nat => s.heap.size ≤ q) b9 := Nat.not_le.mpr hbl
  obtain ⟨u, w, ⟨I0, heq, hP, hD, hS, hdl⟩, hl⟩ := hI
  have hok := I0.1
  show W p l e room_1 (s.setDrawn d) m #[Value.ref b9] below meth c H locs (34 + 60 * i) (3952 + 400 * i) (lw_Z below #[Value.ref b9] s) (F0 m 21 ls [])
  refine lv_iload hx hb dL_law_21 (lv_at hl 0 rfl) ?_
  refine lv_bipush (v := nI 110) hx hb dL_law_23 (by decide) ?_
  refine lv_icmp_ge (tgt := 244) hx hb dL_law_25 (by decide) (fun c => ?_) (fun c => ?_)
  · skip
    obtain rfl := xk_ge hi (by decide) c
    refine lv_iload_n hx hb dL_law_244 rfl (lv_at hl 1 rfl) ?_
    refine lv_if_eq (tgt := 261) hx hb dL_law_245 (by decide) (fun c => by first | exact absurd c (by decide) | exact absurd rfl c | exact (c (by decide)).elim) (fun c => ?_)
    refine lv_aload_n hx hb dL_law_248 rfl (lv_at hl 3 rfl) ?_
    refine lv_aload_n hx hb dL_law_249 rfl (lv_at hl 4 rfl) ?_
    refine lv_iconst (v := nI 0) hx hb dL_law_250 (by decide) ?_
    refine va_calli (va_runS (As := [.ref (a 0), .ref (b 0), .int (nI 0)]) (rest := []) ⟨hx, hb, hml, (xk_od hown), (dr_words hts _)⟩ (mL_areAlike l hst D cI cZ cD a b H u w (nI 0) I0.1 heq (alk_ok I0 _)) (va_cwS 3 (dr_words hts _) gL_law_L_areAlike rfl rfl rfl (by decide +kernel) ⟨Nat.le_of_ble_eq_true rfl, Nat.le_of_ble_eq_true rfl⟩) ⟨zq_blind, zq_pre hP (xk_Kd hK) hD hE.drawn hN.drawn hS hA⟩ rfl rfl hl.1 rfl (lv_room (Nat.le_of_ble_eq_true rfl)) dL_law_251 ⟨(by show _ ≤ 621232; omega), (by show _ ≤ 7237773; omega)⟩) hS (fun q h1 h2 => absurd h2 (Nat.not_le.mpr h1)) (fun q h => Nat.le_trans hS.1 h) (fun r _ t9 H9 locs ht hvm hw9 hB hz1 hk1 hS => ?_)
    have hP : va_P D vwCl (XU a cI cZ cD u ++ XU b cI cZ cD w) H9 := hP.kept (fun k q hq => hk1 q.1 (hP k q hq).lt (Nat.not_le.mpr (hP k q hq).lt))
    generalize H9 = H at hP hS ⊢
    subst hw9
    refine lv_if_eq (tgt := 261) hx hb dL_law_254 (by decide) (fun c => by first | exact absurd c (by decide) | exact absurd rfl c | exact (c (by decide)).elim) (fun c => ?_)
    refine lv_iconst (v := 1) hx hb dL_law_257 (by decide) ?_
    refine lv_goto (tgt := 262) hx hb dL_law_258 (by decide) ?_
    refine W.widen (k := 621232) (n := 7237773) (by show _ ≤ 621232; omega) (by show _ ≤ 7237773; omega) ?_
    refine va_forget (fun q hq => hS.2.2 q hq) ?_
    exact lw_ret hdl hx hb hr hlocks dL_law_262
  · skip
    have hlt := xk_nge hi (by decide) c
    have nx : ∀ (H' : Heap) (locs' : List Loc) (ls' : Array Slot) (d' : Drawn), LInv s D cI cZ cD a b b9 (i + 1) H' locs' ls' d' → W p l e room_1 (s.setDrawn d') m #[Value.ref b9] below meth _ H' locs' (34 + 60 * (i + 1)) (3952 + 400 * (i + 1)) (lw_Z below #[Value.ref b9] s) (F0 m 21 ls' []) := fun H' locs' ls' d' h9 => next H' locs' ls' d' hlt h9
    refine lv_iload_n hx hb dL_law_28 rfl (lv_at hl 1 rfl) ?_
    refine lv_if_eq (tgt := 244) hx hb dL_law_29 (by decide) (fun c => by first | exact absurd c (by decide) | exact absurd rfl c | exact (c (by decide)).elim) (fun c => ?_)
    refine lv_aload_n hx hb dL_law_32 rfl (lv_at hl 2 rfl) ?_
    refine lv_iload hx hb dL_law_33 (lv_at hl 0 rfl) ?_
    refine lv_bipush (v := nI 61) hx hb dL_law_35 (by decide) ?_
    refine lv_irem hx hb dL_law_37 (by decide) ?_
    refine xk_i (y := nI (i % 61)) (pk_rem (by omega) (by omega) (by omega)) ?_
    refine vp_callSi (va_Run.run (va_runS (As := [.ref b9, .int (nI (i % 61))]) (rest := []) ⟨hx, hb, hml, (xk_od hown), (dr_words hts _)⟩ (mL_cell l b9 L (i % 61) xs H hL (Nat.mod_lt _ (by decide))) (va_cwS 2 (dr_words hts _) gL_law_L_cell rfl rfl rfl (by decide +kernel) ⟨Nat.le_of_ble_eq_true rfl, Nat.le_of_ble_eq_true rfl⟩) ⟨x_blind, fun U hU hW => ⟨rfl, hU, va_X.moved hW.alike ((X_drawn hX).kept (hS.2.1 b9 hbl hbA)), Nat.lt_of_lt_of_le hbl hS.1⟩⟩ rfl rfl hl.1 rfl (lv_room (Nat.le_of_ble_eq_true rfl)) dL_law_38 ⟨(by show _ ≤ 621232; omega), (by show _ ≤ 7237773; omega)⟩)) (fun r8 _ => ?_)
    refine lv_sipush (v := nI 1307) hx hb dL_law_41 (by decide) ?_
    refine lv_iload hx hb dL_law_44 (lv_at hl 0 rfl) ?_
    refine lv_bipush (v := nI 61) hx hb dL_law_46 (by decide) ?_
    refine lv_idiv hx hb dL_law_48 (by decide) ?_
    refine lv_imul hx hb dL_law_49 ?_
    refine lv_iadd hx hb dL_law_50 ?_
    obtain ⟨v, hv⟩ : ∃ v : Int32, r8 + ((nI 1307) * ((nI i) / (nI 61))) = v := ⟨_, rfl⟩
    refine xk_i (y := v) hv ?_
    refine lv_istore (lv' := [(5, .int v), (4, .int (nI i)), (3, .int (nI 1)), (0, .ref b9), (1, .ref (a 0)), (2, .ref (b 0))]) hx hb dL_law_51 hl (by decide) rfl (fun ls hl => ?_)
    refine lv_aload_n hx hb dL_law_53 rfl (lv_at hl 4 rfl) ?_
    refine lv_iload hx hb dL_law_54 (lv_at hl 0 rfl) ?_
    have hPx : va_P D vwCl (XU a cI cZ cD u) H := hP.sub [0, 1, 2, 3, 4, 5, 6, 7, 8, 9, 10, 11, 12, 13, 14, 15, 16] rfl
    have hDx : va_D (fun q : Nat => s.heap.size ≤ q) (XU a cI cZ cD u) := hD.sub [0, 1, 2, 3, 4, 5, 6, 7, 8, 9, 10, 11, 12, 13, 14, 15, 16] (by decide) rfl
    have hFc := va_free (wc := XU a cI cZ cD u) hD hS hA [0, 1, 2, 3, 4, 5, 6, 7, 8, 9, 10, 11, 12, 13, 14, 15, 16] rfl
    refine va_calldD hdl (va_runS_D (As := [.ref (a 0), .int v]) (rest := []) ⟨hx, hb, hml, (xk_od hown), (dr_words hts _)⟩ (mL_act l hst D cI cZ cD a _ u v hok) (va_cwS 2 (dr_words hts _) gL_law_L_act rfl rfl rfl (by decide +kernel) ⟨Nat.le_of_ble_eq_true rfl, Nat.le_of_ble_eq_true rfl⟩) ⟨lp_blind, lp_pre hPx (xk_Kd hK) hDx hE.drawn hN.drawn hS hFc⟩ rfl rfl hl.1 rfl (lv_room (Nat.le_of_ble_eq_true rfl)) dL_law_56 ⟨(by show _ ≤ 621232; omega), (by show _ ≤ 7237773; omega)⟩) hS (fun q _ h => hFc q h) hFc (fun r2 u1 t9 H locs ht hvm hw1 hB hz1 hk1 hS _ hd1 => ?_)
    obtain ⟨hP1, -, hD1⟩ := hB
    rw [ht] at hP1
    obtain ⟨hP, hD⟩ := va_join (wr := XU b cI cZ cD w) (w1 := XU a cI cZ cD u1) hP hD [0, 1, 2, 3, 4, 5, 6, 7, 8, 9, 10, 11, 12, 13, 14, 15, 16] [17, 18, 19, 20, 21, 22, 23, 24, 25, 26, 27, 28, 29, 30, 31, 32, 33] rfl rfl (by decide) (by decide) hk1 hFc hP1 hD1
    have hP : va_P D vwCl (XU a cI cZ cD u1 ++ XU b cI cZ cD w) H := hP.sub [17, 18, 19, 20, 21, 22, 23, 24, 25, 26, 27, 28, 29, 30, 31, 32, 33, 0, 1, 2, 3, 4, 5, 6, 7, 8, 9, 10, 11, 12, 13, 14, 15, 16] rfl
    have hD : va_D (fun q : Nat => s.heap.size ≤ q) (XU a cI cZ cD u1 ++ XU b cI cZ cD w) := hD.sub [17, 18, 19, 20, 21, 22, 23, 24, 25, 26, 27, 28, 29, 30, 31, 32, 33, 0, 1, 2, 3, 4, 5, 6, 7, 8, 9, 10, 11, 12, 13, 14, 15, 16] (by decide) rfl
    obtain ⟨J1, J2⟩ := act_ok (by omega) I0 v
    rw [← hw1] at J1 J2
    dsimp only at J1 J2
    refine lv_dstore (lv' := [(6, .double r2), (5, .int v), (4, .int (nI i)), (3, .int (nI 1)), (0, .ref b9), (1, .ref (a 0)), (2, .ref (b 0))]) hx hb dL_law_59 hl (by decide) rfl (fun ls hl => ?_)
    refine lv_dload hx hb dL_law_61 (lv_at hl 0 rfl) ?_
    refine lv_ldc2d hx hb (xk_od hown) (dr_words hts _ (.constantDouble RL 61 13904980329019473920) (by decide +kernel)) dL_law_63 ?_
    refine lv_dcmp hx hb dL_law_66 ?_
    refine lv_if_eq (tgt := 82) hx hb dL_law_67 (by decide) (fun c1 => ?_) (fun c1 => ?_)
    · skip
      have ce : dCmp (dt r2) eD = some .eq := (cv_l_eq _).mp c1
      have hu1 : dat u1 = dat u := by rcases J2 with z | z; exact z.1; exact absurd ce (ne_eD z)
      refine W.widen (k := 34 + 60 * i + 2) (n := 3952 + 400 * i + 12) (by omega) (by omega) ?_
      exact law_82 C hlt (k := 3 * i + 1) (by omega) ⟨J1, (heq.trans hu1.symm), hP, hD, hS, hd1⟩ (lv_sub hl [1, 2, 3, 4, 5, 6] rfl) nx
    · skip
      have hokw : Ok (dat w) := by rw [heq]; exact hok
      have nn1 : dt r2 ≠ .nan := by rcases J2 with z | z; rw [z.2]; exact eD_nn; exact z.nn
      refine lv_aload_n hx hb dL_law_70 rfl (lv_at hl 6 rfl) ?_
      refine lv_iload hx hb dL_law_71 (lv_at hl 1 rfl) ?_
      have hPx : va_P D vwCl (XU b cI cZ cD w) H := hP.sub [17, 18, 19, 20, 21, 22, 23, 24, 25, 26, 27, 28, 29, 30, 31, 32, 33] rfl
      have hDx : va_D (fun q : Nat => s.heap.size ≤ q) (XU b cI cZ cD w) := hD.sub [17, 18, 19, 20, 21, 22, 23, 24, 25, 26, 27, 28, 29, 30, 31, 32, 33] (by decide) rfl
      have hFc := va_free (wc := XU b cI cZ cD w) hD hS hA [17, 18, 19, 20, 21, 22, 23, 24, 25, 26, 27, 28, 29, 30, 31, 32, 33] rfl
      refine va_calldD hd1 (va_runS_D (As := [.ref (b 0), .int v]) (rest := []) ⟨hx, hb, hml, (xk_od hown), (dr_words hts _)⟩ (mL_act l hst D cI cZ cD b _ w v hokw) (va_cwS 2 (dr_words hts _) gL_law_L_act rfl rfl rfl (by decide +kernel) ⟨Nat.le_of_ble_eq_true rfl, Nat.le_of_ble_eq_true rfl⟩) ⟨lp_blind, lp_pre hPx (xk_Kd hK) hDx hE.drawn hN.drawn hS hFc⟩ rfl rfl hl.1 rfl (lv_room (Nat.le_of_ble_eq_true rfl)) dL_law_73 ⟨(by show _ ≤ 621232; omega), (by show _ ≤ 7237773; omega)⟩) hS (fun q _ h => hFc q h) hFc (fun r4 w1 t9 H locs ht hvm hw2 hB hz1 hk1 hS _ hd3 => ?_)
      obtain ⟨hP1, -, hD1⟩ := hB
      rw [ht] at hP1
      obtain ⟨hP, hD⟩ := va_join (wr := XU a cI cZ cD u1) (w1 := XU b cI cZ cD w1) hP hD [17, 18, 19, 20, 21, 22, 23, 24, 25, 26, 27, 28, 29, 30, 31, 32, 33] [0, 1, 2, 3, 4, 5, 6, 7, 8, 9, 10, 11, 12, 13, 14, 15, 16] rfl rfl (by decide) (by decide) hk1 hFc hP1 hD1
      have hP : va_P D vwCl (XU a cI cZ cD u1 ++ XU b cI cZ cD w1) H := hP.sub [0, 1, 2, 3, 4, 5, 6, 7, 8, 9, 10, 11, 12, 13, 14, 15, 16, 17, 18, 19, 20, 21, 22, 23, 24, 25, 26, 27, 28, 29, 30, 31, 32, 33] rfl
      have hD : va_D (fun q : Nat => s.heap.size ≤ q) (XU a cI cZ cD u1 ++ XU b cI cZ cD w1) := hD.sub [0, 1, 2, 3, 4, 5, 6, 7, 8, 9, 10, 11, 12, 13, 14, 15, 16, 17, 18, 19, 20, 21, 22, 23, 24, 25, 26, 27, 28, 29, 30, 31, 32, 33] (by decide) rfl
      rw [heq] at hw2
      have e12 : dt r4 = dt r2 := congrArg Prod.snd (hw2.trans hw1.symm)
      refine lv_dload hx hb dL_law_76 (lv_at hl 0 rfl) ?_
      refine lv_dcmp hx hb dL_law_78 ?_
      refine lv_if_ne (tgt := 116) hx hb dL_law_79 (by decide) (fun c => absurd ((cv_l_eq _).mpr (show dCmp (dt r4) (dt r2) = some .eq by rw [e12]; exact self_eq nn1)) c) (fun c => ?_)
      refine W.widen (k := 34 + 60 * i + 2) (n := 3952 + 400 * i + 12) (by omega) (by omega) ?_
      exact law_82 C hlt (k := 3 * i + 1) (by omega) ⟨J1, (congrArg Prod.fst (hw2.trans hw1.symm)), hP, hD, hS, hd3⟩ (lv_sub hl [1, 2, 3, 4, 5, 6] rfl) nx
def u00 : Bt := ((fun _ => 0), po 0 5 (fun _ => 0) (fun _ => 1), (fun _ => 0), (fun _ => 0), (fun _ => 0), (fun _ => 0), (fun _ => 0), 4602678819172646912, FP.dconst0, FP.dconst0, 0, 0, (fun _ => 0), (fun _ => 0), (fun _ => 0), (fun _ => 0), (fun _ => 0), (fun _ => 0), (fun _ => 0), (fun _ => 0))
theorem prc0 : prc (dt 4602678819172646912) := ⟨⟨dt_ft _, by decide +kernel, by decide +kernel, by decide +kernel⟩, 2, by decide, by decide, by decide +kernel⟩
theorem dts0 (j : Nat) : dts (fun _ => (0 : UInt64)) j = dZ := rfl
theorem u0_lb (j : Nat) : s_lb (dat u00) j = dZ := (congrFun (show s_lb (dat u00) = dts (fun _ => 0) from rfl) j).trans (dts0 j)
theorem u0_lf (j : Nat) : s_lf (dat u00) j = dZ := (congrFun (show s_lf (dat u00) = dts (fun _ => 0) from rfl) j).trans (dts0 j)
theorem u0_bi (j : Nat) : s_bi (dat u00) j = dZ := (congrFun (show s_bi (dat u00) = dts (fun _ => 0) from rfl) j).trans (dts0 j)
theorem u0_so : s_so (dat u00) = dZ := by
  show dt FP.dconst0 = dZ
  decide +kernel
theorem inv0 : Inv 0 (dat u00) := by
  have hU := U0_pos
  refine ⟨⟨by decide, by decide, fun j => ?_, fun j => Or.inl rfl⟩, ⟨fun _ => 0, fun i hi => ⟨rfl, Nat.zero_le _⟩, by decide⟩, fun i hi => ⟨0, by omega, rfl⟩, prc0, ?_, fun i hi => ?_, fun q hq => absurd hq (Nat.not_lt_zero _), fun j hj => absurd hj (Nat.not_lt_zero _), fun j hj => ⟨u0_lf j, u0_lb j⟩⟩
  · show po 0 5 (fun _ => (0 : Int32)) (fun _ => 1) j = 0 ∨ po 0 5 (fun _ => (0 : Int32)) (fun _ => 1) j = 1
    unfold po
    split
    · exact Or.inr rfl
    · exact Or.inl rfl
  · rw [u0_so, zv_dZ]
    exact ⟨nb_dZ, Int.le_refl _, by omega⟩
  · rw [u0_bi, zv_dZ]
    exact ⟨nb_dZ, by show (0 : Int) ≤ 0 * _; omega, by show -((0 : Int) * _) ≤ 0; omega⟩
set_option maxHeartbeats 4000000 in
set_option maxRecDepth 100000 in
theorem whole_start {p : Program} {e : Env} {s : State} {m : MethodId} {below : List Frame} {meth : Method} {c : Code} (l : Launch) (hflags : l.flags = flags0) {b L : Nat} {xs : Nat → Int32} (hL : L ≤ 260) (C0 : lw_At p s m meth c b L xs) : W p l e room_1 s m #[Value.ref b] below meth c s.heap [] 0 0 (lw_Z below #[Value.ref b] s) (entryFrame m ([Value.ref b] : List Value).toArray 8) := by
  obtain ⟨hx, hb, hr, hml, hown, hts0, hX, hbl, hlocks, hgv⟩ := id C0
  have hst : l.stackTraces = false := by show (!l.flags.contains noTraceFlag) = false; rw [hflags]; decide +kernel
  have hts : ∀ w ∈ wsL_law, w.before #[Value.ref b] s = true := fun w h => hts0 w (wsL_law_in w h)
  have hs := flat_of_before _ hgv
  have hA : ∀ q : Nat, s.heap.size ≤ q → (fun q : Nat => s.heap.size ≤ q) q := fun _ h => h
  have hA2 : ∀ a : Nat, a < s.heap.size → ¬ (fun q : Nat => s.heap.size ≤ q) a := fun _ h => Nat.not_le.mpr h
  obtain ⟨c0, iS0, hKn0⟩ := u_known (C := RX0) (T := TX0) (N := 9) (n := 9) hts0 inX0 (hts0 (.instantiable RX0 9) (by decide +kernel))
  obtain ⟨c1, iS1, hKn1⟩ := u_known (C := RX1) (T := TX1) (N := 12) (n := 12) hts0 inX1 (hts0 (.instantiable RX1 12) (by decide +kernel))
  obtain ⟨dC, dI, hKc⟩ : ∃ (dC : Nat → ClassId) (dI : Nat → Nat → Nat), ∀ (k : Nat) (q : vw_C), vwCl[k]? = some q → u_Kn s q.1 q.2.1 q.2.2 (dC k) (dI k) := by
    refine ⟨fun k => if k = 0 then c0 else c1, fun k => if k = 0 then iS0 else iS1, ?_⟩
    intro k q hq
    match k, hq with
    | 0, hq => cases hq; exact hKn0
    | 1, hq => cases hq; exact hKn1
    | k + 2, hq => simp [vwCl] at hq
  have hK0 : va_K (dC, dI) vwCl [] s := ⟨hKc, fun k q h => by simp at h⟩
  obtain ⟨cI, hK1⟩ := xk_arr (ty := .int) hK0 (hts0 (.arrayClass .int) (by decide +kernel)) (fun _ _ h => h)
  obtain ⟨cZ, hK2⟩ := xk_arr (ty := .boolean) hK1 (hts0 (.arrayClass .boolean) (by decide +kernel)) (fun _ _ h => h)
  obtain ⟨cD, hK3⟩ := xk_arr (ty := .double) hK2 (hts0 (.arrayClass .double) (by decide +kernel)) (fun _ _ h => h)
  have hK : va_K (dC, dI) vwCl (T3 cI cZ cD) s := hK3
  have hN : EN s := ⟨va_Nc.of (hs (.not (.castable "java/lang/IllegalArgumentException" "java/lang/IndexOutOfBoundsException")) (by decide +kernel)), va_Nc.of (hs (.not (.castable "java/lang/IllegalStateException" "java/lang/IndexOutOfBoundsException")) (by decide +kernel)), va_Nc.of (hs (.not (.castable "java/lang/IllegalStateException" "java/lang/IllegalArgumentException")) (by decide +kernel))⟩
  have hexw : ∀ w ∈ exW, w ∈ lw_tbl := by decide +kernel
  have hstr : ∀ q ∈ exS, (Cond.stringRef RX1 q.1 q.2) ∈ lw_tbl := by decide +kernel
  have hexa : ∀ q ∈ exS, (Cond.exactly (.string RX1 q.1) "java/lang/String") ∈ flatC (Jvm.Cond.and given_1 narrow_1) := by decide +kernel
  have hE : EX (fun q : Nat => s.heap.size ≤ q) s s.heap := by
    refine ⟨vx_Zqof (hts0 (.laysStatic Bundle.tN "UNASSIGNED_STACK" Bundle.steD) (by decide +kernel)) (hts0 (.initialized Bundle.tN) (by decide +kernel)) (hs (.isRef (.static Bundle.tN "UNASSIGNED_STACK" Bundle.steD)) (by decide +kernel)) hA2, vx_Zqof (hts0 (.laysStatic Bundle.tN "SUPPRESSED_SENTINEL" Bundle.listD) (by decide +kernel)) (hts0 (.initialized Bundle.tN) (by decide +kernel)) (hs (.isRef (.static Bundle.tN "SUPPRESSED_SENTINEL" Bundle.listD)) (by decide +kernel)) hA2, fun w hw => va_any (exW_face w hw).2 (hts0 w (hexw w hw)), fun q hq => ?_⟩
    obtain ⟨sa, -, -, -, q1, -⟩ := Cond.exactly_spec (args := #[Value.ref b]) (first := s) (o := none) (s := s) (idx := []) (t := .string RX1 q.1) (cls := "java/lang/String") (hs _ (hexa q hq))
    exact ⟨sa, vk_R.of (A := #[Value.ref b]) (hts0 _ (hstr q hq)) q1⟩
  have hS : va_S (fun q : Nat => s.heap.size ≤ q) s.heap s.heap [] := va_S.rf
  have hP : va_P (dC, dI) vwCl [] s.heap := fun k q h => by simp at h
  have hD : va_D (fun q : Nat => s.heap.size ≤ q) [] := ⟨fun i j p q h => by simp at h, fun k q h => by simp at h⟩
  have hl := lv_entry ([.ref b]) (n := 8) (Nat.le_of_ble_eq_true rfl)
  rw [lg_entry_eq]
  generalize (lg_sl ([.ref b]) ++ List.replicate (8 - (lg_sl ([.ref b])).length) Slot.unset).toArray = ls at hl ⊢
  have hl : lv_has ls 8 [(0, .ref b)] := hl
  have hNw := va_Nw.of (w := .methodLinkNest RX1 32 yX0_init "GridCommons") rfl (hts0 (.methodLinkNest RX1 32 yX0_init "GridCommons") (by decide +kernel))
  refine va_new (ci := 1) (fs := [.null, .null, .null, .null, .null, .null, .null, .double 0, .double 0, .int 0, .null, .double 0]) (C := RX1) (T := TX1) (N := 12) hx hb hts inlX1 tyX1 tyX1_ok hown (hts (.classLink RL 9 RX1) (by decide +kernel)) (hts (.instantiable RX1 12) (by decide +kernel)) (hts (.initialized RX1) (by decide +kernel)) hK hP hD hS hA rfl (fun j hj => by rcases (show j = 0 ∨ j = 1 ∨ j = 2 ∨ j = 3 ∨ j = 4 ∨ j = 5 ∨ j = 6 ∨ j = 7 ∨ j = 8 ∨ j = 9 ∨ j = 10 ∨ j = 11 by omega) with rfl | rfl | rfl | rfl | rfl | rfl | rfl | rfl | rfl | rfl | rfl | rfl <;> rfl) (Nat.le_of_ble_eq_true rfl) (Nat.le_of_ble_eq_true rfl) dL_law_0 (fun qx H hP hD hS => ?_)
  have hP : va_P (dC, dI) vwCl ([(qx, .inr (1, [.null, .null, .null, .null, .null, .null, .null, .double 0, .double 0, .int 0, .null, .double 0]))]) H := hP
  have hD : va_D (fun q : Nat => s.heap.size ≤ q) ([(qx, .inr (1, [.null, .null, .null, .null, .null, .null, .null, .double 0, .double 0, .int 0, .null, .double 0]))]) := hD
  refine lv_dup hx hb dL_law_3 rfl ?_
  have hPc : va_P (dC, dI) vwCl ([(qx, .inr (1, [.null, .null, .null, .null, .null, .null, .null, .double 0, .double 0, .int 0, .null, .double 0]))]) H := hP.sub [0] rfl
  have hDc : va_D (fun q : Nat => s.heap.size ≤ q) ([(qx, .inr (1, [.null, .null, .null, .null, .null, .null, .null, .double 0, .double 0, .int 0, .null, .double 0]))]) := hD.sub [0] (by decide) rfl
  have hFc := va_free (wc := [(qx, .inr (1, [.null, .null, .null, .null, .null, .null, .null, .double 0, .double 0, .int 0, .null, .double 0]))]) hD hS hA [0] rfl
  refine va_callv (va_runI (As := []) (rest := [.ref qx]) ⟨hx, hb, hml, hown, hts⟩ (mX1_init l (dC, dI) cI cZ cD qx H.size) (cwI 0 hts gL_law_X1_init rfl rfl rfl (hts (.initialized RX1) (by decide +kernel)) (hts (.methodLink RL 106 yX1_init) (by decide +kernel)) (hts (.instanceMethod yX1_init) (by decide +kernel)) rfl (by decide +kernel) ⟨Nat.le_of_ble_eq_true rfl, Nat.le_of_ble_eq_true rfl⟩) ⟨fun a U g mk q => by obtain ⟨q0, q1, ⟨qP, qK, qD⟩, qN⟩ := q; exact ⟨q0, q1, ⟨qP, va_K.moved (u := U) (U := U.calling g mk a) (Vm.Alike.refl U.vm) qK, qD⟩, va_Nw.same rfl rfl qN⟩, fun U hU hW => ⟨rfl, by rw [hU], ⟨by rw [hU]; exact hPc, va_K.moved hW.alike hK, hDc.weaken (fun _ _ _ _ => trivial)⟩, va_Nw.warmM hW hNw⟩⟩ rfl rfl hl.1 rfl (lv_room (Nat.le_of_ble_eq_true rfl)) dL_law_4 ⟨Nat.le_of_ble_eq_true rfl, Nat.le_of_ble_eq_true rfl⟩) hS (fun q _ h => hFc q h) hFc (fun u t H1 locs ht hvm hw hB hz1 hk1 hS => ?_)
  obtain ⟨hP1, -, hD1⟩ := hB
  rw [ht] at hP1
  obtain ⟨hP, hD⟩ := va_join (wr := []) (w1 := XW u cI cZ cD (fun _ => 0) (po 0 5 (fun _ => 0) (fun _ => 1)) (fun _ => 0) (fun _ => 0) (fun _ => 0) (fun _ => 0) (fun _ => 0) 4602678819172646912 FP.dconst0 FP.dconst0 (nI 0) (nI 0) (fun _ => 0) (fun _ => 0) (fun _ => 0) (fun _ => 0) (fun _ => 0) (fun _ => 0) (fun _ => 0) (fun _ => 0)) hP hD [0] [] rfl rfl (by decide) (by decide) hk1 hFc hP1 hD1
  clear hPc hDc hP1 hD1 hz1 hk1 hFc
  generalize H1 = H at hP hS ⊢
  have hP : va_P (dC, dI) vwCl (XW u cI cZ cD (fun _ => 0) (po 0 5 (fun _ => 0) (fun _ => 1)) (fun _ => 0) (fun _ => 0) (fun _ => 0) (fun _ => 0) (fun _ => 0) 4602678819172646912 FP.dconst0 FP.dconst0 (nI 0) (nI 0) (fun _ => 0) (fun _ => 0) (fun _ => 0) (fun _ => 0) (fun _ => 0) (fun _ => 0) (fun _ => 0) (fun _ => 0)) H := hP
  have hD : va_D (fun q : Nat => s.heap.size ≤ q) (XW u cI cZ cD (fun _ => 0) (po 0 5 (fun _ => 0) (fun _ => 1)) (fun _ => 0) (fun _ => 0) (fun _ => 0) (fun _ => 0) (fun _ => 0) 4602678819172646912 FP.dconst0 FP.dconst0 (nI 0) (nI 0) (fun _ => 0) (fun _ => 0) (fun _ => 0) (fun _ => 0) (fun _ => 0) (fun _ => 0) (fun _ => 0) (fun _ => 0)) := hD
  rw [← hw]
  refine lv_astore_n (lv' := [(1, .ref (u 0)), (0, .ref b)]) hx hb dL_law_7 rfl hl (by decide) rfl (fun ls hl => ?_)
  refine va_new (ci := 1) (fs := [.null, .null, .null, .null, .null, .null, .null, .double 0, .double 0, .int 0, .null, .double 0]) (C := RX1) (T := TX1) (N := 12) hx hb hts inlX1 tyX1 tyX1_ok hown (hts (.classLink RL 9 RX1) (by decide +kernel)) (hts (.instantiable RX1 12) (by decide +kernel)) (hts (.initialized RX1) (by decide +kernel)) hK hP hD hS hA rfl (fun j hj => by rcases (show j = 0 ∨ j = 1 ∨ j = 2 ∨ j = 3 ∨ j = 4 ∨ j = 5 ∨ j = 6 ∨ j = 7 ∨ j = 8 ∨ j = 9 ∨ j = 10 ∨ j = 11 by omega) with rfl | rfl | rfl | rfl | rfl | rfl | rfl | rfl | rfl | rfl | rfl | rfl <;> rfl) (Nat.le_of_ble_eq_true rfl) (Nat.le_of_ble_eq_true rfl) dL_law_8 (fun qy H hP hD hS => ?_)
  have hP : va_P (dC, dI) vwCl (XW u cI cZ cD (fun _ => 0) (po 0 5 (fun _ => 0) (fun _ => 1)) (fun _ => 0) (fun _ => 0) (fun _ => 0) (fun _ => 0) (fun _ => 0) 4602678819172646912 FP.dconst0 FP.dconst0 (nI 0) (nI 0) (fun _ => 0) (fun _ => 0) (fun _ => 0) (fun _ => 0) (fun _ => 0) (fun _ => 0) (fun _ => 0) (fun _ => 0) ++ [(qy, .inr (1, [.null, .null, .null, .null, .null, .null, .null, .double 0, .double 0, .int 0, .null, .double 0]))]) H := hP
  have hD : va_D (fun q : Nat => s.heap.size ≤ q) (XW u cI cZ cD (fun _ => 0) (po 0 5 (fun _ => 0) (fun _ => 1)) (fun _ => 0) (fun _ => 0) (fun _ => 0) (fun _ => 0) (fun _ => 0) 4602678819172646912 FP.dconst0 FP.dconst0 (nI 0) (nI 0) (fun _ => 0) (fun _ => 0) (fun _ => 0) (fun _ => 0) (fun _ => 0) (fun _ => 0) (fun _ => 0) (fun _ => 0) ++ [(qy, .inr (1, [.null, .null, .null, .null, .null, .null, .null, .double 0, .double 0, .int 0, .null, .double 0]))]) := hD
  refine lv_dup hx hb dL_law_11 rfl ?_
  have hPc : va_P (dC, dI) vwCl ([(qy, .inr (1, [.null, .null, .null, .null, .null, .null, .null, .double 0, .double 0, .int 0, .null, .double 0]))]) H := hP.sub [17] rfl
  have hDc : va_D (fun q : Nat => s.heap.size ≤ q) ([(qy, .inr (1, [.null, .null, .null, .null, .null, .null, .null, .double 0, .double 0, .int 0, .null, .double 0]))]) := hD.sub [17] (by decide) rfl
  have hFc := va_free (wc := [(qy, .inr (1, [.null, .null, .null, .null, .null, .null, .null, .double 0, .double 0, .int 0, .null, .double 0]))]) hD hS hA [17] rfl
  refine va_callv (va_runI (As := []) (rest := [.ref qy]) ⟨hx, hb, hml, hown, hts⟩ (mX1_init l (dC, dI) cI cZ cD qy H.size) (cwI 0 hts gL_law_X1_init rfl rfl rfl (hts (.initialized RX1) (by decide +kernel)) (hts (.methodLink RL 106 yX1_init) (by decide +kernel)) (hts (.instanceMethod yX1_init) (by decide +kernel)) rfl (by decide +kernel) ⟨Nat.le_of_ble_eq_true rfl, Nat.le_of_ble_eq_true rfl⟩) ⟨fun a U g mk q => by obtain ⟨q0, q1, ⟨qP, qK, qD⟩, qN⟩ := q; exact ⟨q0, q1, ⟨qP, va_K.moved (u := U) (U := U.calling g mk a) (Vm.Alike.refl U.vm) qK, qD⟩, va_Nw.same rfl rfl qN⟩, fun U hU hW => ⟨rfl, by rw [hU], ⟨by rw [hU]; exact hPc, va_K.moved hW.alike hK, hDc.weaken (fun _ _ _ _ => trivial)⟩, va_Nw.warmM hW hNw⟩⟩ rfl rfl hl.1 rfl (lv_room (Nat.le_of_ble_eq_true rfl)) dL_law_12 ⟨Nat.le_of_ble_eq_true rfl, Nat.le_of_ble_eq_true rfl⟩) hS (fun q _ h => hFc q h) hFc (fun u2 t H1 locs ht hvm hw hB hz1 hk1 hS => ?_)
  obtain ⟨hP1, -, hD1⟩ := hB
  rw [ht] at hP1
  obtain ⟨hP, hD⟩ := va_join (wr := XW u cI cZ cD (fun _ => 0) (po 0 5 (fun _ => 0) (fun _ => 1)) (fun _ => 0) (fun _ => 0) (fun _ => 0) (fun _ => 0) (fun _ => 0) 4602678819172646912 FP.dconst0 FP.dconst0 (nI 0) (nI 0) (fun _ => 0) (fun _ => 0) (fun _ => 0) (fun _ => 0) (fun _ => 0) (fun _ => 0) (fun _ => 0) (fun _ => 0)) (w1 := XW u2 cI cZ cD (fun _ => 0) (po 0 5 (fun _ => 0) (fun _ => 1)) (fun _ => 0) (fun _ => 0) (fun _ => 0) (fun _ => 0) (fun _ => 0) 4602678819172646912 FP.dconst0 FP.dconst0 (nI 0) (nI 0) (fun _ => 0) (fun _ => 0) (fun _ => 0) (fun _ => 0) (fun _ => 0) (fun _ => 0) (fun _ => 0) (fun _ => 0)) hP hD [17] [0, 1, 2, 3, 4, 5, 6, 7, 8, 9, 10, 11, 12, 13, 14, 15, 16] rfl rfl (by decide) (by decide) hk1 hFc hP1 hD1
  clear hPc hDc hP1 hD1 hz1 hk1 hFc
  generalize H1 = H at hP hS ⊢
  have hP : va_P (dC, dI) vwCl (XW u cI cZ cD (fun _ => 0) (po 0 5 (fun _ => 0) (fun _ => 1)) (fun _ => 0) (fun _ => 0) (fun _ => 0) (fun _ => 0) (fun _ => 0) 4602678819172646912 FP.dconst0 FP.dconst0 (nI 0) (nI 0) (fun _ => 0) (fun _ => 0) (fun _ => 0) (fun _ => 0) (fun _ => 0) (fun _ => 0) (fun _ => 0) (fun _ => 0) ++ XW u2 cI cZ cD (fun _ => 0) (po 0 5 (fun _ => 0) (fun _ => 1)) (fun _ => 0) (fun _ => 0) (fun _ => 0) (fun _ => 0) (fun _ => 0) 4602678819172646912 FP.dconst0 FP.dconst0 (nI 0) (nI 0) (fun _ => 0) (fun _ => 0) (fun _ => 0) (fun _ => 0) (fun _ => 0) (fun _ => 0) (fun _ => 0) (fun _ => 0)) H := hP
  have hD : va_D (fun q : Nat => s.heap.size ≤ q) (XW u cI cZ cD (fun _ => 0) (po 0 5 (fun _ => 0) (fun _ => 1)) (fun _ => 0) (fun _ => 0) (fun _ => 0) (fun _ => 0) (fun _ => 0) 4602678819172646912 FP.dconst0 FP.dconst0 (nI 0) (nI 0) (fun _ => 0) (fun _ => 0) (fun _ => 0) (fun _ => 0) (fun _ => 0) (fun _ => 0) (fun _ => 0) (fun _ => 0) ++ XW u2 cI cZ cD (fun _ => 0) (po 0 5 (fun _ => 0) (fun _ => 1)) (fun _ => 0) (fun _ => 0) (fun _ => 0) (fun _ => 0) (fun _ => 0) 4602678819172646912 FP.dconst0 FP.dconst0 (nI 0) (nI 0) (fun _ => 0) (fun _ => 0) (fun _ => 0) (fun _ => 0) (fun _ => 0) (fun _ => 0) (fun _ => 0) (fun _ => 0)) := hD
  rw [← hw]
  refine lv_astore_n (lv' := [(2, .ref (u2 0)), (1, .ref (u 0)), (0, .ref b)]) hx hb dL_law_15 rfl hl (by decide) rfl (fun ls hl => ?_)
  refine lv_iconst (v := nI 1) hx hb dL_law_16 (by decide) ?_
  refine lv_istore_n (lv' := [(3, .int (nI 1)), (2, .ref (u2 0)), (1, .ref (u 0)), (0, .ref b)]) hx hb dL_law_17 rfl hl (by decide) rfl (fun ls hl => ?_)
  refine lv_iconst (v := nI 0) hx hb dL_law_18 (by decide) ?_
  refine lv_istore (lv' := [(4, .int (nI 0)), (3, .int (nI 1)), (2, .ref (u2 0)), (1, .ref (u 0)), (0, .ref b)]) hx hb dL_law_19 hl (by decide) rfl (fun ls hl => ?_)
  have hP : va_P (dC, dI) vwCl (XU u cI cZ cD u00 ++ XU u2 cI cZ cD u00) H := hP
  have hD : va_D (fun q : Nat => s.heap.size ≤ q) (XU u cI cZ cD u00 ++ XU u2 cI cZ cD u00) := hD
  refine W.base ?_
  refine W.widen (k := 34) (n := 3952) (Nat.le_of_ble_eq_true rfl) (Nat.le_of_ble_eq_true rfl) ?_
  exact law_loop (a := u) (b := u2) ⟨hst, hL, C0, hE, hN, hK⟩ ⟨u00, u00, ⟨inv0, rfl, hP, hD, hS, Drawn.sameBut.refl s.drawn lw_cs⟩, lv_sub hl [0, 1, 4, 3, 2] rfl⟩
