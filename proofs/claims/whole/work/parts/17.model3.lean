/-! GridCommonsModel: the sun, the battery, the bills, close, replace -/
set_option maxHeartbeats 4000000 in
set_option maxRecDepth 100000 in
theorem mX2_shares (l : Launch) (D : va_G) (cI cZ cD : ClassId) (b : Nat → Nat) (sz : Nat) (mth : Int32) (msh mst msd : Nat → Int32) (mbi : Nat → UInt64) (mpr mba : UInt64) (mtn mcl : Int32) (mat mto mak : Nat → Int32) (mus mud mfs mfb mbo mso mpc mne : Nat → UInt64) (n : Nat) (sun : Int32) (hn : n < 60) (V : Nat → Dm) (hV : is5 mne V) : MetD lw_cs l yX2_shares wsX2_shares ({ frames := 1, cells := 0, slots := 0, locals := 25 } : Room) (va_Pc [.ref (b 0), .int (nI (5 * n)), .int sun] (XP D cI cZ cD (MW b cI cZ cD mth msh mst msd mbi mpr mba mtn mcl mat mto mak mus mud mfs mfb mbo mso mpc mne) sz)) (va_Qd (fun (r : UInt64) (u : (Nat → UInt64) × (Nat → UInt64)) => dt r = kL2 sun msh V ∧ dts u.1 = po (5 * n) 5 (dts mfs) (sF sun msh V) ∧ is5 u.2 (kV3 sun msh V)) (fun (u : (Nat → UInt64) × (Nat → UInt64)) t => XB D cI cZ cD (MW b cI cZ cD mth msh mst msd mbi mpr mba mtn mcl mat mto mak mus mud u.1 mfb mbo mso mpc u.2) (va_A (MW b cI cZ cD mth msh mst msd mbi mpr mba mtn mcl mat mto mak mus mud mfs mfb mbo mso mpc mne) sz) t) (va_A (MW b cI cZ cD mth msh mst msd mbi mpr mba mtn mcl mat mto mak mus mud mfs mfb mbo mso mpc mne) sz)) 0 0 (va_A (MW b cI cZ cD mth msh mst msd mbi mpr mba mtn mcl mat mto mak mus mud mfs mfb mbo mso mpc mne) sz) := by
  refine MetD.ofW (cc := cX2_shares) (maxL := 11) (ret := (some .double)) (by decide +kernel) rfl ?_
  intro p e s m args below meth c s₁ B hml hv hd0
  obtain ⟨rfl, hsz, hP, hK, hD0⟩ := hv
  have hx := B.exec
  have hb := B.bytes
  have hr := B.returns
  have hts := atoms_spec (ws := wsX2_shares) B.pre
  have hown : s.vm.findClass RX2 = some m.cls := findClass_of_methodNamed B.named
  have hlocks := B.notSynchronized
  subst hsz
  have hD := hD0.self (sz := s.heap.size)
  generalize hAe : va_A (MW b cI cZ cD mth msh mst msd mbi mpr mba mtn mcl mat mto mak mus mud mfs mfb mbo mso mpc mne) s.heap.size = A at hD ⊢
  have hA : ∀ q : Nat, s.heap.size ≤ q → A q := fun q h => by rw [← hAe]; exact Or.inr h
  have hS : va_S A s.heap s.heap [] := va_S.rf
  have hl := lv_entry ([.ref (b 0), .int (nI (5 * n)), .int sun]) (n := 11) (Nat.le_of_ble_eq_true rfl)
  rw [lg_entry_eq]
  generalize (lg_sl ([.ref (b 0), .int (nI (5 * n)), .int sun]) ++ List.replicate (11 - (lg_sl ([.ref (b 0), .int (nI (5 * n)), .int sun])).length) Slot.unset).toArray = ls at hl ⊢
  have hl : lv_has ls 11 [(0, .ref (b 0)), (1, .int (nI (5 * n))), (2, .int sun)] := hl
  have inX2 : ∀ w ∈ wsX20, w ∈ wsX2_shares := by decide +kernel
  refine lv_iload_n hx hb dX2_shares_0 rfl (lv_at hl 2 rfl) ?_
  refine lv_i2d hx hb dX2_shares_1 ?_
  refine lv_dstore_n (lv' := [(3, .double (FP.i2d sun)), (0, .ref (b 0)), (1, .int (nI (5 * n))), (2, .int sun)]) hx hb dX2_shares_2 rfl hl (by decide) rfl (fun ls hl => ?_)
  refine lv_iconst (v := nI 0) hx hb dX2_shares_3 (by decide) ?_
  refine lv_istore (lv' := [(5, .int (nI 0)), (3, .double (FP.i2d sun)), (0, .ref (b 0)), (1, .int (nI (5 * n))), (2, .int sun)]) hx hb dX2_shares_4 hl (by decide) rfl (fun ls hl => ?_)
  refine xk_loop (fun i H locs ls d => ∃ (lf' : Nat → UInt64) (ne' : Nat → UInt64) (lo' : UInt64), (dts lf' = po (5 * n) i (dts mfs) (uS sun msh V)) ∧ (is5 ne' (po 0 i V (kV2 sun msh V))) ∧ (dt lo' = lS sun msh V (dI sun) i) ∧ (va_P D vwCl (MW b cI cZ cD mth msh mst msd mbi mpr mba mtn mcl mat mto mak mus mud lf' mfb mbo mso mpc ne') H) ∧ (va_D A (MW b cI cZ cD mth msh mst msd mbi mpr mba mtn mcl mat mto mak mus mud lf' mfb mbo mso mpc ne')) ∧ (va_S A s.heap H locs) ∧ (s.drawn.sameBut d lw_cs) ∧ (lv_has ls 11 [(0, .ref (b 0)), (1, .int (nI (5 * n))), (2, .int sun), (3, .double lo'), (5, .int (nI i))])) 5 ?_ (i := 0) (Nat.zero_le _) ⟨mfs, mne, (FP.i2d sun), (po_0 _ _ _).symm, (is5_cg hV (po_0 _ _ _).symm), rfl, hP, hD, hS, hd0, lv_sub hl [2, 3, 4, 1, 0] rfl⟩
  intro i H locs ls d hi hI next
  obtain ⟨lf', ne', lo', hq0, hq1, hq2, hP, hD, hS, hdl, hl⟩ := hI
  refine lv_iload hx hb dX2_shares_6 (lv_at hl 4 rfl) ?_
  refine lv_iconst (v := nI 5) hx hb dX2_shares_8 (by decide) ?_
  refine lv_icmp_ge (tgt := 73) hx hb dX2_shares_9 (by decide) (fun c => ?_) (fun c => ?_)
  · skip
    obtain rfl := xk_ge hi (by decide) c
    have hV2 : is5 ne' (kV2 sun msh V) := is5_done hq1
    have hL1 : dt lo' = kL1 sun msh V := hq2
    refine lv_aload_n hx hb dX2_shares_73 rfl (lv_at hl 0 rfl) ?_
    refine lv_aload_n hx hb dX2_shares_74 rfl (lv_at hl 0 rfl) ?_
    refine va_get (D := D) (ci := 2) (v := .ref (b 15)) (C := RX2) (T := TX2) (N := 20) hx hb (dr_words hts _) inX2 (xk_od hown) (xk_Kd hK) hP 0 rfl rfl 19 (by decide) (dr_words hts _ (.fieldLink RX2 60 "GridCommonsModel" "needs" "[D") (by decide +kernel)) (fun _ h9 => h9) rfl dX2_shares_75 ?_
    refine lv_iconst (v := nI 0) hx hb dX2_shares_78 (by decide) ?_
    have hFc := va_free (wc := MW b cI cZ cD mth msh mst msd mbi mpr mba mtn mcl mat mto mak mus mud lf' mfb mbo mso mpc ne') hD hS hA [0, 1, 2, 3, 4, 5, 6, 7, 8, 9, 10, 11, 12, 13, 14, 15] rfl
    refine va_calldD hdl (va_runV_D (As := [.ref (b 15), .int (nI 0)]) (rest := []) ⟨hx, hb, hml, (xk_od hown), (dr_words hts _)⟩ (mX2_sumN l D cI cZ cD b _ mth msh mst msd mbi mpr mba mtn mcl mat mto mak mus mud lf' mfb mbo mso mpc ne' (kV2 sun msh V) hV2) (cwV 2 (dr_words hts _) gX2_shares_X2_sum rfl rfl rfl (by decide +kernel) ⟨Nat.le_of_ble_eq_true rfl, Nat.le_of_ble_eq_true rfl⟩) ⟨xk_blind, va_recv (xk_Kd hK) hP (ci := 2) (q0 := 0) rfl rfl, xk_pre hP (xk_Kd hK) hD⟩ rfl rfl hl.1 rfl (lv_room (Nat.le_of_ble_eq_true rfl)) dX2_shares_79 ⟨Nat.le_of_ble_eq_true rfl, Nat.le_of_ble_eq_true rfl⟩) hS (fun q _ h => hFc q h) hFc (fun sm u t H locs ht hvm hw hB hz1 hk1 hS _ hd1 => ?_)
    obtain ⟨hP, -, hD1⟩ := hB
    rw [ht] at hP
    have hD := hD1.weaken (B := A) (fun _ _ _ h => hFc _ h)
    have hP : va_P D vwCl (MW b cI cZ cD mth msh mst msd mbi mpr mba mtn mcl mat mto mak mus mud lf' mfb mbo mso mpc ne') H := hP
    have hD : va_D A (MW b cI cZ cD mth msh mst msd mbi mpr mba mtn mcl mat mto mak mus mud lf' mfb mbo mso mpc ne') := hD
    refine lv_dstore (lv' := [(5, .double sm), (0, .ref (b 0)), (1, .int (nI (5 * n))), (2, .int sun), (3, .double lo')]) hx hb dX2_shares_82 hl (by decide) rfl (fun ls hl => ?_)
    refine lv_dload hx hb dX2_shares_84 (lv_at hl 0 rfl) ?_
    refine lv_dconst0 hx hb dX2_shares_86 ?_
    refine lv_dcmp hx hb dX2_shares_87 ?_
    refine lv_if_ne (tgt := 93) hx hb dX2_shares_88 (by decide) (fun c1 => ?_) (fun c1 => ?_)
    · skip
      have hN : ¬ noNeed (kV2 sun msh V) := fun q => c1 ((cv_l_eq _).mpr (show dCmp (dt sm) dZ = some .eq by rw [hw]; exact q))
      refine lv_dload hx hb dX2_shares_93 (lv_at hl 0 rfl) ?_
      refine lv_dload_n hx hb dX2_shares_95 rfl (lv_at hl 4 rfl) ?_
      refine lv_dcmp hx hb dX2_shares_96 ?_
      refine lv_if_gt (tgt := 104) hx hb dX2_shares_97 (by decide) (fun c2 => ?_) (fun c2 => ?_)
      · skip
        have hE : ¬ enough (kV2 sun msh V) (kL1 sun msh V) := by have q := (cv_g_gt _).mp c2; have q2 : ¬ (dCmp (dt sm) (dt lo') = some .lt ∨ dCmp (dt sm) (dt lo') = some .eq) := q; rw [hw, hL1] at q2; exact q2
        refine lv_iconst (v := nI 0) hx hb dX2_shares_104 (by decide) ?_
        refine lv_istore (lv' := [(7, .int (nI 0)), (5, .double sm), (0, .ref (b 0)), (1, .int (nI (5 * n))), (2, .int sun), (3, .double lo')]) hx hb dX2_shares_105 hl (by decide) rfl (fun ls hl => ?_)
        refine lv_iconst (v := nI 0) hx hb dX2_shares_107 (by decide) ?_
        refine lv_istore (lv' := [(8, .int (nI 0)), (7, .int (nI 0)), (5, .double sm), (0, .ref (b 0)), (1, .int (nI (5 * n))), (2, .int sun), (3, .double lo')]) hx hb dX2_shares_108 hl (by decide) rfl (fun ls hl => ?_)
        refine xk_loop (fun i H locs ls d => ∃ (lf2 : Nat → UInt64) (ne2 : Nat → UInt64), (dts lf2 = po (5 * n) i (po (5 * n) 5 (dts mfs) (uS sun msh V)) (fun k => dAdd (uS sun msh V k) (gE (kV2 sun msh V) (kL1 sun msh V) k))) ∧ (is5 ne2 (po 0 i (kV2 sun msh V) (fun k => dSub (kV2 sun msh V k) (gE (kV2 sun msh V) (kL1 sun msh V) k)))) ∧ (va_P D vwCl (MW b cI cZ cD mth msh mst msd mbi mpr mba mtn mcl mat mto mak mus mud lf2 mfb mbo mso mpc ne2) H) ∧ (va_D A (MW b cI cZ cD mth msh mst msd mbi mpr mba mtn mcl mat mto mak mus mud lf2 mfb mbo mso mpc ne2)) ∧ (va_S A s.heap H locs) ∧ (s.drawn.sameBut d lw_cs) ∧ (lv_has ls 11 [(0, .ref (b 0)), (1, .int (nI (5 * n))), (3, .double lo'), (5, .double sm), (7, .int (nI 0)), (8, .int (nI i))])) 5 ?_ (i := 0) (Nat.zero_le _) ⟨lf', ne', (by rw [hq0, po_0]), (is5_cg hV2 (po_0 _ _ _).symm), hP, hD, hS, hd1, lv_sub hl [3, 4, 6, 2, 1, 0] rfl⟩
        intro i H locs ls d hi hI next
        obtain ⟨lf2, ne2, hq0, hq1, hP, hD, hS, hdl, hl⟩ := hI
        refine lv_iload hx hb dX2_shares_110 (lv_at hl 5 rfl) ?_
        refine lv_iconst (v := nI 5) hx hb dX2_shares_112 (by decide) ?_
        refine lv_icmp_ge (tgt := 177) hx hb dX2_shares_113 (by decide) (fun c3 => ?_) (fun c3 => ?_)
        · skip
          obtain rfl := xk_ge hi (by decide) c3
          refine lv_iload hx hb dX2_shares_177 (lv_at hl 4 rfl) ?_
          refine lv_if_eq (tgt := 189) hx hb dX2_shares_179 (by decide) (fun c => ?_) (fun c => absurd c (by decide))
          refine lv_dconst0 hx hb dX2_shares_189 ?_
          refine W.endD hdl ?_
          exact W.dret hx hb hr (fun t ht hW => ⟨⟨_, (lf2, ne2), rfl, ⟨(by unfold kL2 lE; rw [if_neg hN, if_neg hE]; rfl), by rw [hq0, po_po]; exact po_c (fun k hk => by unfold sF; rw [if_neg hN]), (is5_done hq1).to (fun j hj => by unfold kV3 nE; rw [if_neg hN])⟩, by rw [ht]; exact hP, va_K.moved hW.alike (xk_Kd hK), hD⟩, hS.F ht⟩) hS.2.2 dX2_shares_190
        · skip
          have hlt := xk_nge hi (by decide) c3
          refine lv_iload hx hb dX2_shares_116 (lv_at hl 4 rfl) ?_
          refine lv_if_eq (tgt := 131) hx hb dX2_shares_118 (by decide) (fun c => ?_) (fun c => absurd c (by decide))
          refine lv_dload_n hx hb dX2_shares_131 rfl (lv_at hl 2 rfl) ?_
          refine lv_aload_n hx hb dX2_shares_132 rfl (lv_at hl 0 rfl) ?_
          refine va_get (D := D) (ci := 2) (v := .ref (b 15)) (C := RX2) (T := TX2) (N := 20) hx hb (dr_words hts _) inX2 (xk_od hown) (xk_Kd hK) hP 0 rfl rfl 19 (by decide) (dr_words hts _ (.fieldLink RX2 60 "GridCommonsModel" "needs" "[D") (by decide +kernel)) (fun _ h9 => h9) rfl dX2_shares_133 ?_
          refine lv_iload hx hb dX2_shares_136 (lv_at hl 5 rfl) ?_
          refine xk_dald hx hb (xk_Kd hK) hP 15 2 rfl rfl (o := i) (by omega) (by decide) dX2_shares_138 ?_
          refine lv_dmul_any hdl lw_bits hx hb dX2_shares_139 (fun r2 _ hal hd3 => ?_)
          have er2 := dt_mul hal
          refine lv_dload hx hb dX2_shares_140 (lv_at hl 3 rfl) ?_
          refine lv_ddiv_any hd3 lw_bits hx hb dX2_shares_142 (fun r4 _ hal hd5 => ?_)
          have er4 := dt_div hal
          have eu : dt r4 = gE (kV2 sun msh V) (kL1 sun msh V) i := by unfold gE; rw [if_neg hE, er4, er2, hq1 i hlt, po_at0, hw, hL1]
          refine lv_dstore (lv' := [(9, .double r4), (0, .ref (b 0)), (1, .int (nI (5 * n))), (3, .double lo'), (5, .double sm), (7, .int (nI 0)), (8, .int (nI i))]) hx hb dX2_shares_143 hl (by decide) rfl (fun ls hl => ?_)
          refine lv_aload_n hx hb dX2_shares_145 rfl (lv_at hl 1 rfl) ?_
          refine va_get (D := D) (ci := 2) (v := .ref (b 10)) (C := RX2) (T := TX2) (N := 20) hx hb (dr_words hts _) inX2 (xk_od hown) (xk_Kd hK) hP 0 rfl rfl 14 (by decide) (dr_words hts _ (.fieldLink RX2 45 "GridCommonsModel" "fromSun" "[D") (by decide +kernel)) (fun _ h9 => h9) rfl dX2_shares_146 ?_
          refine lv_iload_n hx hb dX2_shares_149 rfl (lv_at hl 2 rfl) ?_
          refine lv_iload hx hb dX2_shares_150 (lv_at hl 6 rfl) ?_
          refine lv_iadd hx hb dX2_shares_152 ?_
          refine xk_i (y := nI (5 * n + i)) (nI_add _ _) ?_
          refine lv_dup2_11 hx hb dX2_shares_153 rfl rfl ?_
          refine xk_dald hx hb (xk_Kd hK) hP 10 2 rfl rfl (o := (5 * n + i)) (by omega) (by decide) dX2_shares_154 ?_
          refine lv_dload hx hb dX2_shares_155 (lv_at hl 0 rfl) ?_
          refine lv_dadd_any hd5 lw_bits hx hb dX2_shares_157 (fun r6 _ hal hd7 => ?_)
          have er6 := dt_add hal
          refine xk_dast hx hb (xk_Kd hK) hP hD hS 10 2 rfl rfl (o := (5 * n + i)) (by omega) (by decide) dX2_shares_158 (fun H locs hP hD hS => ?_)
          have hP : va_P D vwCl (MW b cI cZ cD mth msh mst msd mbi mpr mba mtn mcl mat mto mak mus mud (vf_upd lf2 (5 * n + i) r6) mfb mbo mso mpc ne2) H := hP
          have hD : va_D A (MW b cI cZ cD mth msh mst msd mbi mpr mba mtn mcl mat mto mak mus mud (vf_upd lf2 (5 * n + i) r6) mfb mbo mso mpc ne2) := hD
          refine lv_aload_n hx hb dX2_shares_159 rfl (lv_at hl 1 rfl) ?_
          refine va_get (D := D) (ci := 2) (v := .ref (b 15)) (C := RX2) (T := TX2) (N := 20) hx hb (dr_words hts _) inX2 (xk_od hown) (xk_Kd hK) hP 0 rfl rfl 19 (by decide) (dr_words hts _ (.fieldLink RX2 60 "GridCommonsModel" "needs" "[D") (by decide +kernel)) (fun _ h9 => h9) rfl dX2_shares_160 ?_
          refine lv_iload hx hb dX2_shares_163 (lv_at hl 6 rfl) ?_
          refine lv_dup2_11 hx hb dX2_shares_165 rfl rfl ?_
          refine xk_dald hx hb (xk_Kd hK) hP 15 2 rfl rfl (o := i) (by omega) (by decide) dX2_shares_166 ?_
          refine lv_dload hx hb dX2_shares_167 (lv_at hl 0 rfl) ?_
          refine lv_dsub_any hd7 lw_bits hx hb dX2_shares_169 (fun r8 _ hal hd9 => ?_)
          have er8 := dt_sub hal
          refine xk_dast hx hb (xk_Kd hK) hP hD hS 15 2 rfl rfl (o := i) (by omega) (by decide) dX2_shares_170 (fun H locs hP hD hS => ?_)
          have hP : va_P D vwCl (MW b cI cZ cD mth msh mst msd mbi mpr mba mtn mcl mat mto mak mus mud (vf_upd lf2 (5 * n + i) r6) mfb mbo mso mpc (vf_upd ne2 i r8)) H := hP
          have hD : va_D A (MW b cI cZ cD mth msh mst msd mbi mpr mba mtn mcl mat mto mak mus mud (vf_upd lf2 (5 * n + i) r6) mfb mbo mso mpc (vf_upd ne2 i r8)) := hD
          refine lv_iinc (v := nI (i + 1)) (lv' := [(8, .int (nI (i + 1))), (9, .double r4), (0, .ref (b 0)), (1, .int (nI (5 * n))), (3, .double lo'), (5, .double sm), (7, .int (nI 0))]) hx hb dX2_shares_171 hl (k := 6) rfl (nI_1 i) (by decide) rfl (fun ls hl => ?_)
          refine lv_goto (tgt := 110) hx hb dX2_shares_174 (by decide) ?_
          have en : dt r8 = dSub (kV2 sun msh V i) (gE (kV2 sun msh V) (kL1 sun msh V) i) := by rw [er8, eu, hq1 i hlt, po_at0]
          exact next _ _ _ _ hlt ⟨(vf_upd lf2 (5 * n + i) r6), (vf_upd ne2 i r8), (by rw [dts_up]; exact po_step hq0 (by rw [er6, eu]; show dAdd (dts lf2 (5 * n + i)) _ = _; rw [po_rd hq0, po_in _ _ hlt])), (is5_cg (hq1.up i en) (po_step0 rfl rfl)), hP, hD, hS, hd9, lv_sub hl [2, 3, 4, 5, 6, 0] rfl⟩
      · skip
        have hE : enough (kV2 sun msh V) (kL1 sun msh V) := by have q := Decidable.of_not_not (fun q => c2 ((cv_g_gt _).mpr q)); have q2 : dCmp (dt sm) (dt lo') = some .lt ∨ dCmp (dt sm) (dt lo') = some .eq := q; rw [hw, hL1] at q2; exact q2
        refine lv_iconst (v := nI 1) hx hb dX2_shares_100 (by decide) ?_
        refine lv_goto (tgt := 105) hx hb dX2_shares_101 (by decide) ?_
        refine lv_istore (lv' := [(7, .int (nI 1)), (5, .double sm), (0, .ref (b 0)), (1, .int (nI (5 * n))), (2, .int sun), (3, .double lo')]) hx hb dX2_shares_105 hl (by decide) rfl (fun ls hl => ?_)
        refine lv_iconst (v := nI 0) hx hb dX2_shares_107 (by decide) ?_
        refine lv_istore (lv' := [(8, .int (nI 0)), (7, .int (nI 1)), (5, .double sm), (0, .ref (b 0)), (1, .int (nI (5 * n))), (2, .int sun), (3, .double lo')]) hx hb dX2_shares_108 hl (by decide) rfl (fun ls hl => ?_)
        refine xk_loop (fun i H locs ls d => ∃ (lf2 : Nat → UInt64) (ne2 : Nat → UInt64), (dts lf2 = po (5 * n) i (po (5 * n) 5 (dts mfs) (uS sun msh V)) (fun k => dAdd (uS sun msh V k) (gE (kV2 sun msh V) (kL1 sun msh V) k))) ∧ (is5 ne2 (po 0 i (kV2 sun msh V) (fun k => dSub (kV2 sun msh V k) (gE (kV2 sun msh V) (kL1 sun msh V) k)))) ∧ (va_P D vwCl (MW b cI cZ cD mth msh mst msd mbi mpr mba mtn mcl mat mto mak mus mud lf2 mfb mbo mso mpc ne2) H) ∧ (va_D A (MW b cI cZ cD mth msh mst msd mbi mpr mba mtn mcl mat mto mak mus mud lf2 mfb mbo mso mpc ne2)) ∧ (va_S A s.heap H locs) ∧ (s.drawn.sameBut d lw_cs) ∧ (lv_has ls 11 [(0, .ref (b 0)), (1, .int (nI (5 * n))), (3, .double lo'), (5, .double sm), (7, .int (nI 1)), (8, .int (nI i))])) 5 ?_ (i := 0) (Nat.zero_le _) ⟨lf', ne', (by rw [hq0, po_0]), (is5_cg hV2 (po_0 _ _ _).symm), hP, hD, hS, hd1, lv_sub hl [3, 4, 6, 2, 1, 0] rfl⟩
        intro i H locs ls d hi hI next
        obtain ⟨lf2, ne2, hq0, hq1, hP, hD, hS, hdl, hl⟩ := hI
        refine lv_iload hx hb dX2_shares_110 (lv_at hl 5 rfl) ?_
        refine lv_iconst (v := nI 5) hx hb dX2_shares_112 (by decide) ?_
        refine lv_icmp_ge (tgt := 177) hx hb dX2_shares_113 (by decide) (fun c3 => ?_) (fun c3 => ?_)
        · skip
          obtain rfl := xk_ge hi (by decide) c3
          refine lv_iload hx hb dX2_shares_177 (lv_at hl 4 rfl) ?_
          refine lv_if_eq (tgt := 189) hx hb dX2_shares_179 (by decide) (fun c => absurd c (by decide)) (fun c => ?_)
          refine lv_dload_n hx hb dX2_shares_182 rfl (lv_at hl 2 rfl) ?_
          refine lv_dload hx hb dX2_shares_183 (lv_at hl 3 rfl) ?_
          refine lv_dsub_any hdl lw_bits hx hb dX2_shares_185 (fun r10 _ hal hd11 => ?_)
          have er10 := dt_sub hal
          refine lv_goto (tgt := 190) hx hb dX2_shares_186 (by decide) ?_
          refine W.endD hd11 ?_
          exact W.dret hx hb hr (fun t ht hW => ⟨⟨_, (lf2, ne2), rfl, ⟨(by unfold kL2 lE; rw [if_neg hN, if_pos hE, er10, hw, hL1]), by rw [hq0, po_po]; exact po_c (fun k hk => by unfold sF; rw [if_neg hN]), (is5_done hq1).to (fun j hj => by unfold kV3 nE; rw [if_neg hN])⟩, by rw [ht]; exact hP, va_K.moved hW.alike (xk_Kd hK), hD⟩, hS.F ht⟩) hS.2.2 dX2_shares_190
        · skip
          have hlt := xk_nge hi (by decide) c3
          refine lv_iload hx hb dX2_shares_116 (lv_at hl 4 rfl) ?_
          refine lv_if_eq (tgt := 131) hx hb dX2_shares_118 (by decide) (fun c => absurd c (by decide)) (fun c => ?_)
          refine lv_aload_n hx hb dX2_shares_121 rfl (lv_at hl 0 rfl) ?_
          refine va_get (D := D) (ci := 2) (v := .ref (b 15)) (C := RX2) (T := TX2) (N := 20) hx hb (dr_words hts _) inX2 (xk_od hown) (xk_Kd hK) hP 0 rfl rfl 19 (by decide) (dr_words hts _ (.fieldLink RX2 60 "GridCommonsModel" "needs" "[D") (by decide +kernel)) (fun _ h9 => h9) rfl dX2_shares_122 ?_
          refine lv_iload hx hb dX2_shares_125 (lv_at hl 5 rfl) ?_
          refine xk_dald hx hb (xk_Kd hK) hP 15 2 rfl rfl (o := i) (by omega) (by decide) dX2_shares_127 ?_
          refine lv_goto (tgt := 143) hx hb dX2_shares_128 (by decide) ?_
          have eu : dt (ne2 i) = gE (kV2 sun msh V) (kL1 sun msh V) i := by unfold gE; rw [if_pos hE, hq1 i hlt, po_at0]
          refine lv_dstore (lv' := [(9, .double (ne2 i)), (0, .ref (b 0)), (1, .int (nI (5 * n))), (3, .double lo'), (5, .double sm), (7, .int (nI 1)), (8, .int (nI i))]) hx hb dX2_shares_143 hl (by decide) rfl (fun ls hl => ?_)
          refine lv_aload_n hx hb dX2_shares_145 rfl (lv_at hl 1 rfl) ?_
          refine va_get (D := D) (ci := 2) (v := .ref (b 10)) (C := RX2) (T := TX2) (N := 20) hx hb (dr_words hts _) inX2 (xk_od hown) (xk_Kd hK) hP 0 rfl rfl 14 (by decide) (dr_words hts _ (.fieldLink RX2 45 "GridCommonsModel" "fromSun" "[D") (by decide +kernel)) (fun _ h9 => h9) rfl dX2_shares_146 ?_
          refine lv_iload_n hx hb dX2_shares_149 rfl (lv_at hl 2 rfl) ?_
          refine lv_iload hx hb dX2_shares_150 (lv_at hl 6 rfl) ?_
          refine lv_iadd hx hb dX2_shares_152 ?_
          refine xk_i (y := nI (5 * n + i)) (nI_add _ _) ?_
          refine lv_dup2_11 hx hb dX2_shares_153 rfl rfl ?_
          refine xk_dald hx hb (xk_Kd hK) hP 10 2 rfl rfl (o := (5 * n + i)) (by omega) (by decide) dX2_shares_154 ?_
          refine lv_dload hx hb dX2_shares_155 (lv_at hl 0 rfl) ?_
          refine lv_dadd_any hdl lw_bits hx hb dX2_shares_157 (fun r12 _ hal hd13 => ?_)
          have er12 := dt_add hal
          refine xk_dast hx hb (xk_Kd hK) hP hD hS 10 2 rfl rfl (o := (5 * n + i)) (by omega) (by decide) dX2_shares_158 (fun H locs hP hD hS => ?_)
          have hP : va_P D vwCl (MW b cI cZ cD mth msh mst msd mbi mpr mba mtn mcl mat mto mak mus mud (vf_upd lf2 (5 * n + i) r12) mfb mbo mso mpc ne2) H := hP
          have hD : va_D A (MW b cI cZ cD mth msh mst msd mbi mpr mba mtn mcl mat mto mak mus mud (vf_upd lf2 (5 * n + i) r12) mfb mbo mso mpc ne2) := hD
          refine lv_aload_n hx hb dX2_shares_159 rfl (lv_at hl 1 rfl) ?_
          refine va_get (D := D) (ci := 2) (v := .ref (b 15)) (C := RX2) (T := TX2) (N := 20) hx hb (dr_words hts _) inX2 (xk_od hown) (xk_Kd hK) hP 0 rfl rfl 19 (by decide) (dr_words hts _ (.fieldLink RX2 60 "GridCommonsModel" "needs" "[D") (by decide +kernel)) (fun _ h9 => h9) rfl dX2_shares_160 ?_
          refine lv_iload hx hb dX2_shares_163 (lv_at hl 6 rfl) ?_
          refine lv_dup2_11 hx hb dX2_shares_165 rfl rfl ?_
          refine xk_dald hx hb (xk_Kd hK) hP 15 2 rfl rfl (o := i) (by omega) (by decide) dX2_shares_166 ?_
          refine lv_dload hx hb dX2_shares_167 (lv_at hl 0 rfl) ?_
          refine lv_dsub_any hd13 lw_bits hx hb dX2_shares_169 (fun r14 _ hal hd15 => ?_)
          have er14 := dt_sub hal
          refine xk_dast hx hb (xk_Kd hK) hP hD hS 15 2 rfl rfl (o := i) (by omega) (by decide) dX2_shares_170 (fun H locs hP hD hS => ?_)
          have hP : va_P D vwCl (MW b cI cZ cD mth msh mst msd mbi mpr mba mtn mcl mat mto mak mus mud (vf_upd lf2 (5 * n + i) r12) mfb mbo mso mpc (vf_upd ne2 i r14)) H := hP
          have hD : va_D A (MW b cI cZ cD mth msh mst msd mbi mpr mba mtn mcl mat mto mak mus mud (vf_upd lf2 (5 * n + i) r12) mfb mbo mso mpc (vf_upd ne2 i r14)) := hD
          refine lv_iinc (v := nI (i + 1)) (lv' := [(8, .int (nI (i + 1))), (9, .double (ne2 i)), (0, .ref (b 0)), (1, .int (nI (5 * n))), (3, .double lo'), (5, .double sm), (7, .int (nI 1))]) hx hb dX2_shares_171 hl (k := 6) rfl (nI_1 i) (by decide) rfl (fun ls hl => ?_)
          refine lv_goto (tgt := 110) hx hb dX2_shares_174 (by decide) ?_
          have en : dt r14 = dSub (kV2 sun msh V i) (gE (kV2 sun msh V) (kL1 sun msh V) i) := by rw [er14, eu]; unfold gE; rw [if_pos hE]
          exact next _ _ _ _ hlt ⟨(vf_upd lf2 (5 * n + i) r12), (vf_upd ne2 i r14), (by rw [dts_up]; exact po_step hq0 (by rw [er12, eu]; show dAdd (dts lf2 (5 * n + i)) _ = _; rw [po_rd hq0, po_in _ _ hlt])), (is5_cg (hq1.up i en) (po_step0 rfl rfl)), hP, hD, hS, hd15, lv_sub hl [2, 3, 4, 5, 6, 0] rfl⟩
    · skip
      have hN : noNeed (kV2 sun msh V) := by have q := (cv_l_eq _).mp c1; have q2 : dCmp (dt sm) dZ = some .eq := q; rw [hw] at q2; exact q2
      refine lv_dload_n hx hb dX2_shares_91 rfl (lv_at hl 4 rfl) ?_
      refine W.endD hd1 ?_
      exact W.dret hx hb hr (fun t ht hW => ⟨⟨_, (lf', ne'), rfl, ⟨by rw [hL1]; unfold kL2 lE; rw [if_pos hN], by rw [hq0]; exact po_c (fun k hk => by unfold sF; rw [if_pos hN]), hV2.to (fun j hj => by unfold kV3 nE; rw [if_pos hN])⟩, by rw [ht]; exact hP, va_K.moved hW.alike (xk_Kd hK), hD⟩, hS.F ht⟩) hS.2.2 dX2_shares_92
  · skip
    have hlt := xk_nge hi (by decide) c
    refine lv_iload_n hx hb dX2_shares_12 rfl (lv_at hl 2 rfl) ?_
    refine lv_i2d hx hb dX2_shares_13 ?_
    refine lv_aload_n hx hb dX2_shares_14 rfl (lv_at hl 0 rfl) ?_
    refine va_get (D := D) (ci := 2) (v := .ref (b 1)) (C := RX2) (T := TX2) (N := 20) hx hb (dr_words hts _) inX2 (xk_od hown) (xk_Kd hK) hP 0 rfl rfl 1 (by decide) (dr_words hts _ (.fieldLink RX2 7 "GridCommonsModel" "shares" "[I") (by decide +kernel)) (fun _ h9 => h9) rfl dX2_shares_15 ?_
    refine lv_iload hx hb dX2_shares_18 (lv_at hl 4 rfl) ?_
    refine xk_iald hx hb (xk_Kd hK) hP 1 0 rfl rfl (o := i) (by omega) (by decide) dX2_shares_20 ?_
    refine lv_i2d hx hb dX2_shares_21 ?_
    refine lv_dmul_any hdl lw_bits hx hb dX2_shares_22 (fun r16 _ hal hd17 => ?_)
    have er16 := dt_mul hal
    refine lv_ldc2d hx hb (xk_od hown) (dr_words hts _ (.constantDouble RX2 82 4616189618054758400) (by decide +kernel)) dX2_shares_23 ?_
    refine lv_ddiv_any hd17 lw_bits hx hb dX2_shares_26 (fun r18 _ hal hd19 => ?_)
    have er18 := dt_div hal
    refine lv_aload_n hx hb dX2_shares_27 rfl (lv_at hl 0 rfl) ?_
    refine va_get (D := D) (ci := 2) (v := .ref (b 15)) (C := RX2) (T := TX2) (N := 20) hx hb (dr_words hts _) inX2 (xk_od hown) (xk_Kd hK) hP 0 rfl rfl 19 (by decide) (dr_words hts _ (.fieldLink RX2 60 "GridCommonsModel" "needs" "[D") (by decide +kernel)) (fun _ h9 => h9) rfl dX2_shares_28 ?_
    refine lv_iload hx hb dX2_shares_31 (lv_at hl 4 rfl) ?_
    refine xk_dald hx hb (xk_Kd hK) hP 15 2 rfl rfl (o := i) (by omega) (by decide) dX2_shares_33 ?_
    refine vp_callSd (va_Run.run (va_runS (As := [.double r18, .double (ne' i)]) (rest := []) ⟨hx, hb, hml, (xk_od hown), (dr_words hts _)⟩ (mX2_least l r18 (ne' i)) (va_cwS 2 (dr_words hts _) gX2_shares_X2_least rfl rfl rfl (by decide +kernel) ⟨Nat.le_of_ble_eq_true rfl, Nat.le_of_ble_eq_true rfl⟩) ⟨fun a U g mk q => q, fun U hU hW => ⟨rfl, trivial⟩⟩ rfl rfl hl.1 rfl (lv_room (Nat.le_of_ble_eq_true rfl)) dX2_shares_34 ⟨Nat.le_of_ble_eq_true rfl, Nat.le_of_ble_eq_true rfl⟩)) (fun x hx1 => ?_)
    have eu : dt x = uS sun msh V i := by rw [hx1, er18, er16, hq1 i hlt, po_at0]; rfl
    refine lv_dstore (lv' := [(6, .double x), (0, .ref (b 0)), (1, .int (nI (5 * n))), (2, .int sun), (3, .double lo'), (5, .int (nI i))]) hx hb dX2_shares_37 hl (by decide) rfl (fun ls hl => ?_)
    refine lv_aload_n hx hb dX2_shares_39 rfl (lv_at hl 1 rfl) ?_
    refine va_get (D := D) (ci := 2) (v := .ref (b 10)) (C := RX2) (T := TX2) (N := 20) hx hb (dr_words hts _) inX2 (xk_od hown) (xk_Kd hK) hP 0 rfl rfl 14 (by decide) (dr_words hts _ (.fieldLink RX2 45 "GridCommonsModel" "fromSun" "[D") (by decide +kernel)) (fun _ h9 => h9) rfl dX2_shares_40 ?_
    refine lv_iload_n hx hb dX2_shares_43 rfl (lv_at hl 2 rfl) ?_
    refine lv_iload hx hb dX2_shares_44 (lv_at hl 5 rfl) ?_
    refine lv_iadd hx hb dX2_shares_46 ?_
    refine xk_i (y := nI (5 * n + i)) (nI_add _ _) ?_
    refine lv_dload hx hb dX2_shares_47 (lv_at hl 0 rfl) ?_
    refine xk_dast hx hb (xk_Kd hK) hP hD hS 10 2 rfl rfl (o := (5 * n + i)) (by omega) (by decide) dX2_shares_49 (fun H locs hP hD hS => ?_)
    have hP : va_P D vwCl (MW b cI cZ cD mth msh mst msd mbi mpr mba mtn mcl mat mto mak mus mud (vf_upd lf' (5 * n + i) x) mfb mbo mso mpc ne') H := hP
    have hD : va_D A (MW b cI cZ cD mth msh mst msd mbi mpr mba mtn mcl mat mto mak mus mud (vf_upd lf' (5 * n + i) x) mfb mbo mso mpc ne') := hD
    refine lv_aload_n hx hb dX2_shares_50 rfl (lv_at hl 1 rfl) ?_
    refine va_get (D := D) (ci := 2) (v := .ref (b 15)) (C := RX2) (T := TX2) (N := 20) hx hb (dr_words hts _) inX2 (xk_od hown) (xk_Kd hK) hP 0 rfl rfl 19 (by decide) (dr_words hts _ (.fieldLink RX2 60 "GridCommonsModel" "needs" "[D") (by decide +kernel)) (fun _ h9 => h9) rfl dX2_shares_51 ?_
    refine lv_iload hx hb dX2_shares_54 (lv_at hl 5 rfl) ?_
    refine lv_dup2_11 hx hb dX2_shares_56 rfl rfl ?_
    refine xk_dald hx hb (xk_Kd hK) hP 15 2 rfl rfl (o := i) (by omega) (by decide) dX2_shares_57 ?_
    refine lv_dload hx hb dX2_shares_58 (lv_at hl 0 rfl) ?_
    refine lv_dsub_any hd19 lw_bits hx hb dX2_shares_60 (fun r20 _ hal hd21 => ?_)
    have er20 := dt_sub hal
    refine xk_dast hx hb (xk_Kd hK) hP hD hS 15 2 rfl rfl (o := i) (by omega) (by decide) dX2_shares_61 (fun H locs hP hD hS => ?_)
    have hP : va_P D vwCl (MW b cI cZ cD mth msh mst msd mbi mpr mba mtn mcl mat mto mak mus mud (vf_upd lf' (5 * n + i) x) mfb mbo mso mpc (vf_upd ne' i r20)) H := hP
    have hD : va_D A (MW b cI cZ cD mth msh mst msd mbi mpr mba mtn mcl mat mto mak mus mud (vf_upd lf' (5 * n + i) x) mfb mbo mso mpc (vf_upd ne' i r20)) := hD
    have en : dt r20 = dSub (V i) (uS sun msh V i) := by rw [er20, eu, hq1 i hlt, po_at0]
    refine lv_dload_n hx hb dX2_shares_62 rfl (lv_at hl 4 rfl) ?_
    refine lv_dload hx hb dX2_shares_63 (lv_at hl 0 rfl) ?_
    refine lv_dsub_any hd21 lw_bits hx hb dX2_shares_65 (fun r22 _ hal hd23 => ?_)
    have er22 := dt_sub hal
    refine lv_dstore_n (lv' := [(3, .double r22), (6, .double x), (0, .ref (b 0)), (1, .int (nI (5 * n))), (2, .int sun), (5, .int (nI i))]) hx hb dX2_shares_66 rfl hl (by decide) rfl (fun ls hl => ?_)
    refine lv_iinc (v := nI (i + 1)) (lv' := [(5, .int (nI (i + 1))), (3, .double r22), (6, .double x), (0, .ref (b 0)), (1, .int (nI (5 * n))), (2, .int sun)]) hx hb dX2_shares_67 hl (k := 5) rfl (nI_1 i) (by decide) rfl (fun ls hl => ?_)
    refine lv_goto (tgt := 6) hx hb dX2_shares_70 (by decide) ?_
    exact next _ _ _ _ hlt ⟨(vf_upd lf' (5 * n + i) x), (vf_upd ne' i r20), r22, (by rw [dts_up]; exact po_step hq0 eu), (is5_cg (hq1.up i en) (po_step0 rfl rfl)), (by rw [er22, hq2, eu]; rfl), hP, hD, hS, hd23, lv_sub hl [3, 4, 5, 1, 0] rfl⟩
set_option maxHeartbeats 4000000 in
set_option maxRecDepth 100000 in
theorem mX2_gives (l : Launch) (D : va_G) (cI cZ cD : ClassId) (b : Nat → Nat) (sz : Nat) (mth : Int32) (msh mst msd : Nat → Int32) (mbi : Nat → UInt64) (mpr mba : UInt64) (mcl : Int32) (mat mto mak : Nat → Int32) (mus mud mfs mfb mbo mso mpc mne : Nat → UInt64) (n tr : Nat) (hn : n < 60) (ht5 : tr < 5) (V : Nat → Dm) (hV : is5 mne V) : MetD lw_cs l yX2_gives wsX2_gives ({ frames := 1, cells := 0, slots := 0, locals := 23 } : Room) (va_Pc [.ref (b 0), .int (nI (5 * n))] (XP D cI cZ cD (MW b cI cZ cD mth msh mst msd mbi mpr mba (nI tr) mcl mat mto mak mus mud mfs mfb mbo mso mpc mne) sz)) (va_Qv (fun (u : (Nat → UInt64) × UInt64 × (Nat → UInt64) × Nat) => is5 u.1 (gbs tr (5 * n) V (dt mba) (dts mfb) 5).1 ∧ dt u.2.1 = (gbs tr (5 * n) V (dt mba) (dts mfb) 5).2.1 ∧ dts u.2.2.1 = (gbs tr (5 * n) V (dt mba) (dts mfb) 5).2.2.1 ∧ u.2.2.2 = tnx tr (gbs tr (5 * n) V (dt mba) (dts mfb) 5).2.2.2) (fun (u : (Nat → UInt64) × UInt64 × (Nat → UInt64) × Nat) t => XB D cI cZ cD (MW b cI cZ cD mth msh mst msd mbi mpr u.2.1 (nI u.2.2.2) mcl mat mto mak mus mud mfs u.2.2.1 mbo mso mpc u.1) (va_A (MW b cI cZ cD mth msh mst msd mbi mpr mba (nI tr) mcl mat mto mak mus mud mfs mfb mbo mso mpc mne) sz) t) (va_A (MW b cI cZ cD mth msh mst msd mbi mpr mba (nI tr) mcl mat mto mak mus mud mfs mfb mbo mso mpc mne) sz)) 0 0 (va_A (MW b cI cZ cD mth msh mst msd mbi mpr mba (nI tr) mcl mat mto mak mus mud mfs mfb mbo mso mpc mne) sz) := by
  refine MetD.ofW (cc := cX2_gives) (maxL := 7) (ret := none) (by decide +kernel) rfl ?_
  intro p e s m args below meth c s₁ B hml hv hd0
  obtain ⟨rfl, hsz, hP, hK, hD0⟩ := hv
  have hx := B.exec
  have hb := B.bytes
  have hr := B.returns
  have hts := atoms_spec (ws := wsX2_gives) B.pre
  have hown : s.vm.findClass RX2 = some m.cls := findClass_of_methodNamed B.named
  have hlocks := B.notSynchronized
  subst hsz
  have hD := hD0.self (sz := s.heap.size)
  generalize hAe : va_A (MW b cI cZ cD mth msh mst msd mbi mpr mba (nI tr) mcl mat mto mak mus mud mfs mfb mbo mso mpc mne) s.heap.size = A at hD ⊢
  have hA : ∀ q : Nat, s.heap.size ≤ q → A q := fun q h => by rw [← hAe]; exact Or.inr h
  have hS : va_S A s.heap s.heap [] := va_S.rf
  have hl := lv_entry ([.ref (b 0), .int (nI (5 * n))]) (n := 7) (Nat.le_of_ble_eq_true rfl)
  rw [lg_entry_eq]
  generalize (lg_sl ([.ref (b 0), .int (nI (5 * n))]) ++ List.replicate (7 - (lg_sl ([.ref (b 0), .int (nI (5 * n))])).length) Slot.unset).toArray = ls at hl ⊢
  have hl : lv_has ls 7 [(0, .ref (b 0)), (1, .int (nI (5 * n)))] := hl
  have inX2 : ∀ w ∈ wsX20, w ∈ wsX2_gives := by decide +kernel
  refine lv_aload_n hx hb dX2_gives_0 rfl (lv_at hl 0 rfl) ?_
  refine va_get (D := D) (ci := 2) (v := .int (nI tr)) (C := RX2) (T := TX2) (N := 20) hx hb (dr_words hts _) inX2 (xk_od hown) (xk_Kd hK) hP 0 rfl rfl 7 (by decide) (dr_words hts _ (.fieldLink RX2 102 "GridCommonsModel" "turn" "I") (by decide +kernel)) (fun _ h9 => h9) rfl dX2_gives_1 ?_
  refine lv_istore_n (lv' := [(2, .int (nI tr)), (0, .ref (b 0)), (1, .int (nI (5 * n)))]) hx hb dX2_gives_4 rfl hl (by decide) rfl (fun ls hl => ?_)
  refine lv_iconst (v := nI 0) hx hb dX2_gives_5 (by decide) ?_
  refine lv_istore_n (lv' := [(3, .int (nI 0)), (2, .int (nI tr)), (0, .ref (b 0)), (1, .int (nI (5 * n)))]) hx hb dX2_gives_6 rfl hl (by decide) rfl (fun ls hl => ?_)
  refine xk_loop (fun i H locs ls d => ∃ (ne' : Nat → UInt64) (so' : UInt64) (lb' : Nat → UInt64) (tn : Nat), (is5 ne' (gbs tr (5 * n) V (dt mba) (dts mfb) i).1) ∧ (dt so' = (gbs tr (5 * n) V (dt mba) (dts mfb) i).2.1) ∧ (dts lb' = (gbs tr (5 * n) V (dt mba) (dts mfb) i).2.2.1) ∧ (tn = tnx tr (gbs tr (5 * n) V (dt mba) (dts mfb) i).2.2.2) ∧ (va_P D vwCl (MW b cI cZ cD mth msh mst msd mbi mpr so' (nI tn) mcl mat mto mak mus mud mfs lb' mbo mso mpc ne') H) ∧ (va_D A (MW b cI cZ cD mth msh mst msd mbi mpr so' (nI tn) mcl mat mto mak mus mud mfs lb' mbo mso mpc ne')) ∧ (va_S A s.heap H locs) ∧ (s.drawn.sameBut d lw_cs) ∧ (lv_has ls 7 [(0, .ref (b 0)), (1, .int (nI (5 * n))), (2, .int (nI tr)), (3, .int (nI i))])) 5 ?_ (i := 0) (Nat.zero_le _) ⟨mne, mba, mfb, tr, hV, rfl, rfl, rfl, hP, hD, hS, hd0, lv_sub hl [2, 3, 1, 0] rfl⟩
  intro i H locs ls d hi hI next
  obtain ⟨ne', so', lb', tn, hq0, hq1, hq2, hq3, hP, hD, hS, hdl, hl⟩ := hI
  refine lv_iload_n hx hb dX2_gives_7 rfl (lv_at hl 3 rfl) ?_
  refine lv_iconst (v := nI 5) hx hb dX2_gives_8 (by decide) ?_
  refine lv_icmp_ge (tgt := 99) hx hb dX2_gives_9 (by decide) (fun c => ?_) (fun c => ?_)
  · skip
    obtain rfl := xk_ge hi (by decide) c
    refine W.endD hdl ?_
    exact W.vret hx hb hr (fun t ht hW => ⟨⟨(ne', so', lb', tn), rfl, ⟨hq0, hq1, hq2, hq3⟩, by rw [ht]; exact hP, va_K.moved hW.alike (xk_Kd hK), hD⟩, hS.F ht⟩) hS.2.2 dX2_gives_99
  · skip
    have hlt := xk_nge hi (by decide) c
    refine lv_iload_n hx hb dX2_gives_12 rfl (lv_at hl 2 rfl) ?_
    refine lv_iload_n hx hb dX2_gives_13 rfl (lv_at hl 3 rfl) ?_
    refine lv_iadd hx hb dX2_gives_14 ?_
    refine xk_i (y := nI (tr + i)) (nI_add _ _) ?_
    refine lv_iconst (v := nI 5) hx hb dX2_gives_15 (by decide) ?_
    refine lv_irem hx hb dX2_gives_16 (by decide) ?_
    refine xk_i (y := nI ((tr + i) % 5)) (pk_rem (by omega) (by omega) (by omega)) ?_
    obtain ⟨o, hoe⟩ : ∃ o, o = (tr + i) % 5 := ⟨_, rfl⟩
    have ho : o < 5 := by omega
    refine xk_i (y := nI o) (by rw [hoe]) ?_
    refine lv_istore (lv' := [(4, .int (nI o)), (0, .ref (b 0)), (1, .int (nI (5 * n))), (2, .int (nI tr)), (3, .int (nI i))]) hx hb dX2_gives_17 hl (by decide) rfl (fun ls hl => ?_)
    refine lv_aload_n hx hb dX2_gives_19 rfl (lv_at hl 1 rfl) ?_
    refine va_get (D := D) (ci := 2) (v := .ref (b 15)) (C := RX2) (T := TX2) (N := 20) hx hb (dr_words hts _) inX2 (xk_od hown) (xk_Kd hK) hP 0 rfl rfl 19 (by decide) (dr_words hts _ (.fieldLink RX2 60 "GridCommonsModel" "needs" "[D") (by decide +kernel)) (fun _ h9 => h9) rfl dX2_gives_20 ?_
    refine lv_iload hx hb dX2_gives_23 (lv_at hl 0 rfl) ?_
    refine xk_dald hx hb (xk_Kd hK) hP 15 2 rfl rfl (o := o) (by omega) (by decide) dX2_gives_25 ?_
    refine lv_aload_n hx hb dX2_gives_26 rfl (lv_at hl 1 rfl) ?_
    refine va_get (D := D) (ci := 2) (v := .double so') (C := RX2) (T := TX2) (N := 20) hx hb (dr_words hts _) inX2 (xk_od hown) (xk_Kd hK) hP 0 rfl rfl 6 (by decide) (dr_words hts _ (.fieldLink RX2 105 "GridCommonsModel" "battery" "D") (by decide +kernel)) (fun _ h9 => h9) rfl dX2_gives_27 ?_
    refine vp_callSd (va_Run.run (va_runS (As := [.double (ne' o), .double so']) (rest := []) ⟨hx, hb, hml, (xk_od hown), (dr_words hts _)⟩ (mX2_least l (ne' o) so') (va_cwS 2 (dr_words hts _) gX2_gives_X2_least rfl rfl rfl (by decide +kernel) ⟨Nat.le_of_ble_eq_true rfl, Nat.le_of_ble_eq_true rfl⟩) ⟨fun a U g mk q => q, fun U hU hW => ⟨rfl, trivial⟩⟩ rfl rfl hl.1 rfl (lv_room (Nat.le_of_ble_eq_true rfl)) dX2_gives_30 ⟨Nat.le_of_ble_eq_true rfl, Nat.le_of_ble_eq_true rfl⟩)) (fun x hx1 => ?_)
    have eu : dt x = dMin ((gbs tr (5 * n) V (dt mba) (dts mfb) i).1 o) (gbs tr (5 * n) V (dt mba) (dts mfb) i).2.1 := by rw [hx1, hq0 o ho, hq1]
    refine lv_dstore (lv' := [(5, .double x), (4, .int (nI o)), (0, .ref (b 0)), (1, .int (nI (5 * n))), (2, .int (nI tr)), (3, .int (nI i))]) hx hb dX2_gives_33 hl (by decide) rfl (fun ls hl => ?_)
    refine lv_aload_n hx hb dX2_gives_35 rfl (lv_at hl 2 rfl) ?_
    refine va_get (D := D) (ci := 2) (v := .ref (b 11)) (C := RX2) (T := TX2) (N := 20) hx hb (dr_words hts _) inX2 (xk_od hown) (xk_Kd hK) hP 0 rfl rfl 15 (by decide) (dr_words hts _ (.fieldLink RX2 48 "GridCommonsModel" "fromBattery" "[D") (by decide +kernel)) (fun _ h9 => h9) rfl dX2_gives_36 ?_
    refine lv_iload_n hx hb dX2_gives_39 rfl (lv_at hl 3 rfl) ?_
    refine lv_iload hx hb dX2_gives_40 (lv_at hl 1 rfl) ?_
    refine lv_iadd hx hb dX2_gives_42 ?_
    refine xk_i (y := nI (5 * n + o)) (nI_add _ _) ?_
    refine lv_dload hx hb dX2_gives_43 (lv_at hl 0 rfl) ?_
    refine xk_dast hx hb (xk_Kd hK) hP hD hS 11 2 rfl rfl (o := (5 * n + o)) (by omega) (by decide) dX2_gives_45 (fun H locs hP hD hS => ?_)
    have hP : va_P D vwCl (MW b cI cZ cD mth msh mst msd mbi mpr so' (nI tn) mcl mat mto mak mus mud mfs (vf_upd lb' (5 * n + o) x) mbo mso mpc ne') H := hP
    have hD : va_D A (MW b cI cZ cD mth msh mst msd mbi mpr so' (nI tn) mcl mat mto mak mus mud mfs (vf_upd lb' (5 * n + o) x) mbo mso mpc ne') := hD
    refine lv_aload_n hx hb dX2_gives_46 rfl (lv_at hl 2 rfl) ?_
    refine va_get (D := D) (ci := 2) (v := .ref (b 15)) (C := RX2) (T := TX2) (N := 20) hx hb (dr_words hts _) inX2 (xk_od hown) (xk_Kd hK) hP 0 rfl rfl 19 (by decide) (dr_words hts _ (.fieldLink RX2 60 "GridCommonsModel" "needs" "[D") (by decide +kernel)) (fun _ h9 => h9) rfl dX2_gives_47 ?_
    refine lv_iload hx hb dX2_gives_50 (lv_at hl 1 rfl) ?_
    refine lv_dup2_11 hx hb dX2_gives_52 rfl rfl ?_
    refine xk_dald hx hb (xk_Kd hK) hP 15 2 rfl rfl (o := o) (by omega) (by decide) dX2_gives_53 ?_
    refine lv_dload hx hb dX2_gives_54 (lv_at hl 0 rfl) ?_
    refine lv_dsub_any hdl lw_bits hx hb dX2_gives_56 (fun r1 _ hal hd2 => ?_)
    have er1 := dt_sub hal
    refine xk_dast hx hb (xk_Kd hK) hP hD hS 15 2 rfl rfl (o := o) (by omega) (by decide) dX2_gives_57 (fun H locs hP hD hS => ?_)
    have hP : va_P D vwCl (MW b cI cZ cD mth msh mst msd mbi mpr so' (nI tn) mcl mat mto mak mus mud mfs (vf_upd lb' (5 * n + o) x) mbo mso mpc (vf_upd ne' o r1)) H := hP
    have hD : va_D A (MW b cI cZ cD mth msh mst msd mbi mpr so' (nI tn) mcl mat mto mak mus mud mfs (vf_upd lb' (5 * n + o) x) mbo mso mpc (vf_upd ne' o r1)) := hD
    refine lv_aload_n hx hb dX2_gives_58 rfl (lv_at hl 2 rfl) ?_
    refine lv_dup hx hb dX2_gives_59 rfl ?_
    refine va_get (D := D) (ci := 2) (v := .double so') (C := RX2) (T := TX2) (N := 20) hx hb (dr_words hts _) inX2 (xk_od hown) (xk_Kd hK) hP 0 rfl rfl 6 (by decide) (dr_words hts _ (.fieldLink RX2 105 "GridCommonsModel" "battery" "D") (by decide +kernel)) (fun _ h9 => h9) rfl dX2_gives_60 ?_
    refine lv_dload hx hb dX2_gives_63 (lv_at hl 0 rfl) ?_
    refine lv_dsub_any hd2 lw_bits hx hb dX2_gives_65 (fun r3 _ hal hd4 => ?_)
    have er3 := dt_sub hal
    refine va_put (D := D) (ci := 2) (v := .double r3) (ty := .double) (C := RX2) (T := TX2) (N := 20) hx hb (dr_words hts _) inX2 tyX2 tyX2_ok nmX2 (xk_od hown) (xk_Kd hK) hP hD hS 0 rfl rfl 6 (by decide) (dr_words hts _ (.fieldLink RX2 105 "GridCommonsModel" "battery" "D") (by decide +kernel)) (fun _ h9 => h9) rfl (by decide +kernel) rfl rfl (Nat.le_of_ble_eq_true rfl) dX2_gives_66 (fun H locs hP hD hS => ?_)
    have hP : va_P D vwCl (MW b cI cZ cD mth msh mst msd mbi mpr r3 (nI tn) mcl mat mto mak mus mud mfs (vf_upd lb' (5 * n + o) x) mbo mso mpc (vf_upd ne' o r1)) H := hP
    have hD : va_D A (MW b cI cZ cD mth msh mst msd mbi mpr r3 (nI tn) mcl mat mto mak mus mud mfs (vf_upd lb' (5 * n + o) x) mbo mso mpc (vf_upd ne' o r1)) := hD
    have e0 : gbs tr (5 * n) V (dt mba) (dts mfb) (i + 1) = (va_up (gbs tr (5 * n) V (dt mba) (dts mfb) i).1 o (dSub ((gbs tr (5 * n) V (dt mba) (dts mfb) i).1 o) (dt x)), dSub (gbs tr (5 * n) V (dt mba) (dts mfb) i).2.1 (dt x), va_up (gbs tr (5 * n) V (dt mba) (dts mfb) i).2.2.1 (5 * n + o) (dt x), if dCmp (dt x) dZ = some .gt then some o else (gbs tr (5 * n) V (dt mba) (dts mfb) i).2.2.2) := by rw [eu, hoe]; rfl
    have k1 : is5 (vf_upd ne' o r1) (gbs tr (5 * n) V (dt mba) (dts mfb) (i + 1)).1 := by rw [e0]; exact hq0.up o (by rw [er1, hq0 o ho])
    have k2 : dt r3 = (gbs tr (5 * n) V (dt mba) (dts mfb) (i + 1)).2.1 := by rw [e0, er3, hq1]
    have k3 : dts (vf_upd lb' (5 * n + o) x) = (gbs tr (5 * n) V (dt mba) (dts mfb) (i + 1)).2.2.1 := by rw [e0, dts_up, hq2]
    refine lv_aload_n hx hb dX2_gives_69 rfl (lv_at hl 2 rfl) ?_
    refine lv_dload hx hb dX2_gives_70 (lv_at hl 0 rfl) ?_
    refine lv_dconst0 hx hb dX2_gives_72 ?_
    refine lv_dcmp hx hb dX2_gives_73 ?_
    refine lv_if_le (tgt := 86) hx hb dX2_gives_74 (by decide) (fun c2 => ?_) (fun c2 => ?_)
    · skip
      have hc : ¬ dCmp (dt x) dZ = some .gt := (cv_l_le _).mp c2
      refine lv_aload_n hx hb dX2_gives_86 rfl (lv_at hl 2 rfl) ?_
      refine va_get (D := D) (ci := 2) (v := .int (nI tn)) (C := RX2) (T := TX2) (N := 20) hx hb (dr_words hts _) inX2 (xk_od hown) (xk_Kd hK) hP 0 rfl rfl 7 (by decide) (dr_words hts _ (.fieldLink RX2 102 "GridCommonsModel" "turn" "I") (by decide +kernel)) (fun _ h9 => h9) rfl dX2_gives_87 ?_
      refine va_put (D := D) (ci := 2) (v := .int (nI tn)) (ty := .int) (C := RX2) (T := TX2) (N := 20) hx hb (dr_words hts _) inX2 tyX2 tyX2_ok nmX2 (xk_od hown) (xk_Kd hK) hP hD hS 0 rfl rfl 7 (by decide) (dr_words hts _ (.fieldLink RX2 102 "GridCommonsModel" "turn" "I") (by decide +kernel)) (fun _ h9 => h9) rfl (by decide +kernel) rfl rfl (Nat.le_of_ble_eq_true rfl) dX2_gives_90 (fun H locs hP hD hS => ?_)
      have hP : va_P D vwCl (MW b cI cZ cD mth msh mst msd mbi mpr r3 (nI tn) mcl mat mto mak mus mud mfs (vf_upd lb' (5 * n + o) x) mbo mso mpc (vf_upd ne' o r1)) H := hP
      have hD : va_D A (MW b cI cZ cD mth msh mst msd mbi mpr r3 (nI tn) mcl mat mto mak mus mud mfs (vf_upd lb' (5 * n + o) x) mbo mso mpc (vf_upd ne' o r1)) := hD
      refine lv_iinc (v := nI (i + 1)) (lv' := [(3, .int (nI (i + 1))), (5, .double x), (4, .int (nI o)), (0, .ref (b 0)), (1, .int (nI (5 * n))), (2, .int (nI tr))]) hx hb dX2_gives_93 hl (k := 5) rfl (nI_1 i) (by decide) rfl (fun ls hl => ?_)
      refine lv_goto (tgt := 7) hx hb dX2_gives_96 (by decide) ?_
      exact next _ _ _ _ hlt ⟨(vf_upd ne' o r1), r3, (vf_upd lb' (5 * n + o) x), tn, k1, k2, k3, (by rw [e0]; dsimp only; rw [if_neg hc]; exact hq3), hP, hD, hS, hd4, lv_sub hl [3, 4, 5, 0] rfl⟩
    · skip
      have hc : dCmp (dt x) dZ = some .gt := Decidable.of_not_not (fun q => c2 ((cv_l_le _).mpr q))
      refine lv_iload hx hb dX2_gives_77 (lv_at hl 1 rfl) ?_
      refine lv_iconst (v := nI 1) hx hb dX2_gives_79 (by decide) ?_
      refine lv_iadd hx hb dX2_gives_80 ?_
      refine xk_i (y := nI (o + 1)) (nI_add _ _) ?_
      refine lv_iconst (v := nI 5) hx hb dX2_gives_81 (by decide) ?_
      refine lv_irem hx hb dX2_gives_82 (by decide) ?_
      refine xk_i (y := nI ((o + 1) % 5)) (pk_rem (by omega) (by omega) (by omega)) ?_
      refine lv_goto (tgt := 90) hx hb dX2_gives_83 (by decide) ?_
      refine va_put (D := D) (ci := 2) (v := .int (nI ((o + 1) % 5))) (ty := .int) (C := RX2) (T := TX2) (N := 20) hx hb (dr_words hts _) inX2 tyX2 tyX2_ok nmX2 (xk_od hown) (xk_Kd hK) hP hD hS 0 rfl rfl 7 (by decide) (dr_words hts _ (.fieldLink RX2 102 "GridCommonsModel" "turn" "I") (by decide +kernel)) (fun _ h9 => h9) rfl (by decide +kernel) rfl rfl (Nat.le_of_ble_eq_true rfl) dX2_gives_90 (fun H locs hP hD hS => ?_)
      have hP : va_P D vwCl (MW b cI cZ cD mth msh mst msd mbi mpr r3 (nI ((o + 1) % 5)) mcl mat mto mak mus mud mfs (vf_upd lb' (5 * n + o) x) mbo mso mpc (vf_upd ne' o r1)) H := hP
      have hD : va_D A (MW b cI cZ cD mth msh mst msd mbi mpr r3 (nI ((o + 1) % 5)) mcl mat mto mak mus mud mfs (vf_upd lb' (5 * n + o) x) mbo mso mpc (vf_upd ne' o r1)) := hD
      refine lv_iinc (v := nI (i + 1)) (lv' := [(3, .int (nI (i + 1))), (5, .double x), (4, .int (nI o)), (0, .ref (b 0)), (1, .int (nI (5 * n))), (2, .int (nI tr))]) hx hb dX2_gives_93 hl (k := 5) rfl (nI_1 i) (by decide) rfl (fun ls hl => ?_)
      refine lv_goto (tgt := 7) hx hb dX2_gives_96 (by decide) ?_
      exact next _ _ _ _ hlt ⟨(vf_upd ne' o r1), r3, (vf_upd lb' (5 * n + o) x), ((o + 1) % 5), k1, k2, k3, (by rw [e0]; dsimp only; rw [if_pos hc]; rfl), hP, hD, hS, hd4, lv_sub hl [3, 4, 5, 0] rfl⟩
set_option maxHeartbeats 4000000 in
set_option maxRecDepth 100000 in
theorem mX2_pays (l : Launch) (D : va_G) (cI cZ cD : ClassId) (b : Nat → Nat) (sz : Nat) (mth : Int32) (msh mst msd : Nat → Int32) (mbi : Nat → UInt64) (mpr mba : UInt64) (mtn : Int32) (mat mto mak : Nat → Int32) (mus mud mfs mfb mbo mso mpc mne : Nat → UInt64) (n : Nat) (hn : n < 60) (V : Nat → Dm) (hV : is5 mne V) : MetD lw_cs l yX2_pays wsX2_pays ({ frames := 0, cells := 0, slots := 0, locals := 0 } : Room) (va_Pc [.ref (b 0), .int (nI (5 * n))] (XP D cI cZ cD (MW b cI cZ cD mth msh mst msd mbi mpr mba mtn (nI n) mat mto mak mus mud mfs mfb mbo mso mpc mne) sz)) (va_Qv (fun (u : (Nat → UInt64) × (Nat → UInt64)) => dts u.1 = po (5 * n) 5 (dts mbo) V ∧ dts u.2 = po 0 5 (dts mbi) (fun k => dSub (dAdd (dts mbi k) (dMul (V k) (dt mpr))) (dDiv (dMul (dts mso n) (dt mpr)) d10))) (fun (u : (Nat → UInt64) × (Nat → UInt64)) t => XB D cI cZ cD (MW b cI cZ cD mth msh mst msd u.2 mpr mba mtn (nI n) mat mto mak mus mud mfs mfb u.1 mso mpc mne) (va_A (MW b cI cZ cD mth msh mst msd mbi mpr mba mtn (nI n) mat mto mak mus mud mfs mfb mbo mso mpc mne) sz) t) (va_A (MW b cI cZ cD mth msh mst msd mbi mpr mba mtn (nI n) mat mto mak mus mud mfs mfb mbo mso mpc mne) sz)) 0 0 (va_A (MW b cI cZ cD mth msh mst msd mbi mpr mba mtn (nI n) mat mto mak mus mud mfs mfb mbo mso mpc mne) sz) := by
  refine MetD.ofW (cc := cX2_pays) (maxL := 3) (ret := none) (by decide +kernel) rfl ?_
  intro p e s m args below meth c s₁ B hml hv hd0
  obtain ⟨rfl, hsz, hP, hK, hD0⟩ := hv
  have hx := B.exec
  have hb := B.bytes
  have hr := B.returns
  have hts := atoms_spec (ws := wsX2_pays) B.pre
  have hown : s.vm.findClass RX2 = some m.cls := findClass_of_methodNamed B.named
  have hlocks := B.notSynchronized
  subst hsz
  have hD := hD0.self (sz := s.heap.size)
  generalize hAe : va_A (MW b cI cZ cD mth msh mst msd mbi mpr mba mtn (nI n) mat mto mak mus mud mfs mfb mbo mso mpc mne) s.heap.size = A at hD ⊢
  have hA : ∀ q : Nat, s.heap.size ≤ q → A q := fun q h => by rw [← hAe]; exact Or.inr h
  have hS : va_S A s.heap s.heap [] := va_S.rf
  have hl := lv_entry ([.ref (b 0), .int (nI (5 * n))]) (n := 3) (Nat.le_of_ble_eq_true rfl)
  rw [lg_entry_eq]
  generalize (lg_sl ([.ref (b 0), .int (nI (5 * n))]) ++ List.replicate (3 - (lg_sl ([.ref (b 0), .int (nI (5 * n))])).length) Slot.unset).toArray = ls at hl ⊢
  have hl : lv_has ls 3 [(0, .ref (b 0)), (1, .int (nI (5 * n)))] := hl
  have inX2 : ∀ w ∈ wsX20, w ∈ wsX2_pays := by decide +kernel
  refine lv_iconst (v := nI 0) hx hb dX2_pays_0 (by decide) ?_
  refine lv_istore_n (lv' := [(2, .int (nI 0)), (0, .ref (b 0)), (1, .int (nI (5 * n)))]) hx hb dX2_pays_1 rfl hl (by decide) rfl (fun ls hl => ?_)
  refine xk_loop (fun i H locs ls d => ∃ (bo' : Nat → UInt64) (bi' : Nat → UInt64), (dts bo' = po (5 * n) i (dts mbo) V) ∧ (dts bi' = po 0 i (dts mbi) (fun k => dAdd (dts mbi k) (dMul (V k) (dt mpr)))) ∧ (va_P D vwCl (MW b cI cZ cD mth msh mst msd bi' mpr mba mtn (nI n) mat mto mak mus mud mfs mfb bo' mso mpc mne) H) ∧ (va_D A (MW b cI cZ cD mth msh mst msd bi' mpr mba mtn (nI n) mat mto mak mus mud mfs mfb bo' mso mpc mne)) ∧ (va_S A s.heap H locs) ∧ (s.drawn.sameBut d lw_cs) ∧ (lv_has ls 3 [(0, .ref (b 0)), (1, .int (nI (5 * n))), (2, .int (nI i))])) 5 ?_ (i := 0) (Nat.zero_le _) ⟨mbo, mbi, (po_0 _ _ _).symm, (po_0 _ _ _).symm, hP, hD, hS, hd0, lv_sub hl [1, 2, 0] rfl⟩
  intro i H locs ls d hi hI next
  obtain ⟨bo', bi', hq0, hq1, hP, hD, hS, hdl, hl⟩ := hI
  refine lv_iload_n hx hb dX2_pays_2 rfl (lv_at hl 2 rfl) ?_
  refine lv_iconst (v := nI 5) hx hb dX2_pays_3 (by decide) ?_
  refine lv_icmp_ge (tgt := 47) hx hb dX2_pays_4 (by decide) (fun c => ?_) (fun c => ?_)
  · skip
    obtain rfl := xk_ge hi (by decide) c
    have hbo := hq0
    have hbi := hq1
    refine lv_iconst (v := nI 0) hx hb dX2_pays_47 (by decide) ?_
    refine lv_istore_n (lv' := [(2, .int (nI 0)), (0, .ref (b 0)), (1, .int (nI (5 * n)))]) hx hb dX2_pays_48 rfl hl (by decide) rfl (fun ls hl => ?_)
    refine xk_loop (fun i H locs ls d => ∃ (bi2 : Nat → UInt64), (dts bi2 = po 0 i (dts bi') (fun k => dSub (dAdd (dts mbi k) (dMul (V k) (dt mpr))) (dDiv (dMul (dts mso n) (dt mpr)) d10))) ∧ (va_P D vwCl (MW b cI cZ cD mth msh mst msd bi2 mpr mba mtn (nI n) mat mto mak mus mud mfs mfb bo' mso mpc mne) H) ∧ (va_D A (MW b cI cZ cD mth msh mst msd bi2 mpr mba mtn (nI n) mat mto mak mus mud mfs mfb bo' mso mpc mne)) ∧ (va_S A s.heap H locs) ∧ (s.drawn.sameBut d lw_cs) ∧ (lv_has ls 3 [(0, .ref (b 0)), (1, .int (nI (5 * n))), (2, .int (nI i))])) 5 ?_ (i := 0) (Nat.zero_le _) ⟨bi', (po_0 _ _ _).symm, hP, hD, hS, hdl, lv_sub hl [1, 2, 0] rfl⟩
    intro i H locs ls d hi hI next
    obtain ⟨bi2, hq0, hP, hD, hS, hdl, hl⟩ := hI
    refine lv_iload_n hx hb dX2_pays_49 rfl (lv_at hl 2 rfl) ?_
    refine lv_iconst (v := nI 5) hx hb dX2_pays_50 (by decide) ?_
    refine lv_icmp_ge (tgt := 87) hx hb dX2_pays_51 (by decide) (fun c1 => ?_) (fun c1 => ?_)
    · skip
      obtain rfl := xk_ge hi (by decide) c1
      refine W.endD hdl ?_
      exact W.vret hx hb hr (fun t ht hW => ⟨⟨(bo', bi2), rfl, ⟨hbo, by rw [hq0, hbi, po_po]⟩, by rw [ht]; exact hP, va_K.moved hW.alike (xk_Kd hK), hD⟩, hS.F ht⟩) hS.2.2 dX2_pays_87
    · skip
      have hlt := xk_nge hi (by decide) c1
      refine lv_aload_n hx hb dX2_pays_54 rfl (lv_at hl 0 rfl) ?_
      refine va_get (D := D) (ci := 2) (v := .ref (b 4)) (C := RX2) (T := TX2) (N := 20) hx hb (dr_words hts _) inX2 (xk_od hown) (xk_Kd hK) hP 0 rfl rfl 4 (by decide) (dr_words hts _ (.fieldLink RX2 20 "GridCommonsModel" "bills" "[D") (by decide +kernel)) (fun _ h9 => h9) rfl dX2_pays_55 ?_
      refine lv_iload_n hx hb dX2_pays_58 rfl (lv_at hl 2 rfl) ?_
      refine lv_dup2_11 hx hb dX2_pays_59 rfl rfl ?_
      refine xk_dald hx hb (xk_Kd hK) hP 4 2 rfl rfl (o := i) (by omega) (by decide) dX2_pays_60 ?_
      refine lv_aload_n hx hb dX2_pays_61 rfl (lv_at hl 0 rfl) ?_
      refine va_get (D := D) (ci := 2) (v := .ref (b 13)) (C := RX2) (T := TX2) (N := 20) hx hb (dr_words hts _) inX2 (xk_od hown) (xk_Kd hK) hP 0 rfl rfl 17 (by decide) (dr_words hts _ (.fieldLink RX2 54 "GridCommonsModel" "sold" "[D") (by decide +kernel)) (fun _ h9 => h9) rfl dX2_pays_62 ?_
      refine lv_aload_n hx hb dX2_pays_65 rfl (lv_at hl 0 rfl) ?_
      refine va_get (D := D) (ci := 2) (v := .int (nI n)) (C := RX2) (T := TX2) (N := 20) hx hb (dr_words hts _) inX2 (xk_od hown) (xk_Kd hK) hP 0 rfl rfl 8 (by decide) (dr_words hts _ (.fieldLink RX2 84 "GridCommonsModel" "closed" "I") (by decide +kernel)) (fun _ h9 => h9) rfl dX2_pays_66 ?_
      refine xk_dald hx hb (xk_Kd hK) hP 13 2 rfl rfl (o := n) (by omega) (by decide) dX2_pays_69 ?_
      refine lv_aload_n hx hb dX2_pays_70 rfl (lv_at hl 0 rfl) ?_
      refine va_get (D := D) (ci := 2) (v := .double mpr) (C := RX2) (T := TX2) (N := 20) hx hb (dr_words hts _) inX2 (xk_od hown) (xk_Kd hK) hP 0 rfl rfl 5 (by decide) (dr_words hts _ (.fieldLink RX2 26 "GridCommonsModel" "price" "D") (by decide +kernel)) (fun _ h9 => h9) rfl dX2_pays_71 ?_
      refine lv_dmul_any hdl lw_bits hx hb dX2_pays_74 (fun r1 _ hal hd2 => ?_)
      have er1 := dt_mul hal
      refine lv_ldc2d hx hb (xk_od hown) (dr_words hts _ (.constantDouble RX2 108 4621819117588971520) (by decide +kernel)) dX2_pays_75 ?_
      refine lv_ddiv_any hd2 lw_bits hx hb dX2_pays_78 (fun r3 _ hal hd4 => ?_)
      have er3 := dt_div hal
      refine lv_dsub_any hd4 lw_bits hx hb dX2_pays_79 (fun r5 _ hal hd6 => ?_)
      have er5 := dt_sub hal
      refine xk_dast hx hb (xk_Kd hK) hP hD hS 4 2 rfl rfl (o := i) (by omega) (by decide) dX2_pays_80 (fun H locs hP hD hS => ?_)
      have hP : va_P D vwCl (MW b cI cZ cD mth msh mst msd (vf_upd bi2 i r5) mpr mba mtn (nI n) mat mto mak mus mud mfs mfb bo' mso mpc mne) H := hP
      have hD : va_D A (MW b cI cZ cD mth msh mst msd (vf_upd bi2 i r5) mpr mba mtn (nI n) mat mto mak mus mud mfs mfb bo' mso mpc mne) := hD
      refine lv_iinc (v := nI (i + 1)) (lv' := [(2, .int (nI (i + 1))), (0, .ref (b 0)), (1, .int (nI (5 * n)))]) hx hb dX2_pays_81 hl (k := 2) rfl (nI_1 i) (by decide) rfl (fun ls hl => ?_)
      refine lv_goto (tgt := 49) hx hb dX2_pays_84 (by decide) ?_
      exact next _ _ _ _ hlt ⟨(vf_upd bi2 i r5), (by rw [dts_up]; exact po_step0 hq0 (by rw [er5, er3, er1]; show dSub (dts bi2 i) _ = dSub _ _; rw [hq0, po_at0, hbi, po_in0 _ _ hlt] <;> rfl)), hP, hD, hS, hd6, lv_sub hl [1, 2, 0] rfl⟩
  · skip
    have hlt := xk_nge hi (by decide) c
    refine lv_aload_n hx hb dX2_pays_7 rfl (lv_at hl 0 rfl) ?_
    refine va_get (D := D) (ci := 2) (v := .ref (b 12)) (C := RX2) (T := TX2) (N := 20) hx hb (dr_words hts _) inX2 (xk_od hown) (xk_Kd hK) hP 0 rfl rfl 16 (by decide) (dr_words hts _ (.fieldLink RX2 51 "GridCommonsModel" "bought" "[D") (by decide +kernel)) (fun _ h9 => h9) rfl dX2_pays_8 ?_
    refine lv_iload_n hx hb dX2_pays_11 rfl (lv_at hl 1 rfl) ?_
    refine lv_iload_n hx hb dX2_pays_12 rfl (lv_at hl 2 rfl) ?_
    refine lv_iadd hx hb dX2_pays_13 ?_
    refine xk_i (y := nI (5 * n + i)) (nI_add _ _) ?_
    refine lv_aload_n hx hb dX2_pays_14 rfl (lv_at hl 0 rfl) ?_
    refine va_get (D := D) (ci := 2) (v := .ref (b 15)) (C := RX2) (T := TX2) (N := 20) hx hb (dr_words hts _) inX2 (xk_od hown) (xk_Kd hK) hP 0 rfl rfl 19 (by decide) (dr_words hts _ (.fieldLink RX2 60 "GridCommonsModel" "needs" "[D") (by decide +kernel)) (fun _ h9 => h9) rfl dX2_pays_15 ?_
    refine lv_iload_n hx hb dX2_pays_18 rfl (lv_at hl 2 rfl) ?_
    refine xk_dald hx hb (xk_Kd hK) hP 15 2 rfl rfl (o := i) (by omega) (by decide) dX2_pays_19 ?_
    refine xk_dast hx hb (xk_Kd hK) hP hD hS 12 2 rfl rfl (o := (5 * n + i)) (by omega) (by decide) dX2_pays_20 (fun H locs hP hD hS => ?_)
    have hP : va_P D vwCl (MW b cI cZ cD mth msh mst msd bi' mpr mba mtn (nI n) mat mto mak mus mud mfs mfb (vf_upd bo' (5 * n + i) (mne i)) mso mpc mne) H := hP
    have hD : va_D A (MW b cI cZ cD mth msh mst msd bi' mpr mba mtn (nI n) mat mto mak mus mud mfs mfb (vf_upd bo' (5 * n + i) (mne i)) mso mpc mne) := hD
    refine lv_aload_n hx hb dX2_pays_21 rfl (lv_at hl 0 rfl) ?_
    refine va_get (D := D) (ci := 2) (v := .ref (b 4)) (C := RX2) (T := TX2) (N := 20) hx hb (dr_words hts _) inX2 (xk_od hown) (xk_Kd hK) hP 0 rfl rfl 4 (by decide) (dr_words hts _ (.fieldLink RX2 20 "GridCommonsModel" "bills" "[D") (by decide +kernel)) (fun _ h9 => h9) rfl dX2_pays_22 ?_
    refine lv_iload_n hx hb dX2_pays_25 rfl (lv_at hl 2 rfl) ?_
    refine lv_dup2_11 hx hb dX2_pays_26 rfl rfl ?_
    refine xk_dald hx hb (xk_Kd hK) hP 4 2 rfl rfl (o := i) (by omega) (by decide) dX2_pays_27 ?_
    refine lv_aload_n hx hb dX2_pays_28 rfl (lv_at hl 0 rfl) ?_
    refine va_get (D := D) (ci := 2) (v := .ref (b 15)) (C := RX2) (T := TX2) (N := 20) hx hb (dr_words hts _) inX2 (xk_od hown) (xk_Kd hK) hP 0 rfl rfl 19 (by decide) (dr_words hts _ (.fieldLink RX2 60 "GridCommonsModel" "needs" "[D") (by decide +kernel)) (fun _ h9 => h9) rfl dX2_pays_29 ?_
    refine lv_iload_n hx hb dX2_pays_32 rfl (lv_at hl 2 rfl) ?_
    refine xk_dald hx hb (xk_Kd hK) hP 15 2 rfl rfl (o := i) (by omega) (by decide) dX2_pays_33 ?_
    refine lv_aload_n hx hb dX2_pays_34 rfl (lv_at hl 0 rfl) ?_
    refine va_get (D := D) (ci := 2) (v := .double mpr) (C := RX2) (T := TX2) (N := 20) hx hb (dr_words hts _) inX2 (xk_od hown) (xk_Kd hK) hP 0 rfl rfl 5 (by decide) (dr_words hts _ (.fieldLink RX2 26 "GridCommonsModel" "price" "D") (by decide +kernel)) (fun _ h9 => h9) rfl dX2_pays_35 ?_
    refine lv_dmul_any hdl lw_bits hx hb dX2_pays_38 (fun r7 _ hal hd8 => ?_)
    have er7 := dt_mul hal
    refine lv_dadd_any hd8 lw_bits hx hb dX2_pays_39 (fun r9 _ hal hd10 => ?_)
    have er9 := dt_add hal
    refine xk_dast hx hb (xk_Kd hK) hP hD hS 4 2 rfl rfl (o := i) (by omega) (by decide) dX2_pays_40 (fun H locs hP hD hS => ?_)
    have hP : va_P D vwCl (MW b cI cZ cD mth msh mst msd (vf_upd bi' i r9) mpr mba mtn (nI n) mat mto mak mus mud mfs mfb (vf_upd bo' (5 * n + i) (mne i)) mso mpc mne) H := hP
    have hD : va_D A (MW b cI cZ cD mth msh mst msd (vf_upd bi' i r9) mpr mba mtn (nI n) mat mto mak mus mud mfs mfb (vf_upd bo' (5 * n + i) (mne i)) mso mpc mne) := hD
    refine lv_iinc (v := nI (i + 1)) (lv' := [(2, .int (nI (i + 1))), (0, .ref (b 0)), (1, .int (nI (5 * n)))]) hx hb dX2_pays_41 hl (k := 2) rfl (nI_1 i) (by decide) rfl (fun ls hl => ?_)
    refine lv_goto (tgt := 2) hx hb dX2_pays_44 (by decide) ?_
    exact next _ _ _ _ hlt ⟨(vf_upd bo' (5 * n + i) (mne i)), (vf_upd bi' i r9), (by rw [dts_up]; exact po_step hq0 (hV i hlt)), (by rw [dts_up]; exact po_step0 hq1 (by rw [er9, er7, hV i hlt]; show dAdd (dts bi' i) _ = dAdd _ _; rw [hq1, po_at0] <;> rfl)), hP, hD, hS, hd10, lv_sub hl [1, 2, 0] rfl⟩
set_option maxHeartbeats 4000000 in
set_option maxRecDepth 100000 in
theorem mX2_closeV (l : Launch) (D : va_G) (cI cZ cD : ClassId) (b : Nat → Nat) (sz : Nat) (mth : Int32) (msh mst msd : Nat → Int32) (mbi : Nat → UInt64) (mpr mba : UInt64) (mat mto mak : Nat → Int32) (mus mud mfs mfb mbo mso mpc mne : Nat → UInt64) (n tr : Nat) (sun : Int32) (hn : n < 60) (htr : tr < 5) (hsun : inR sun 0 100) (hit : ∀ j, mat j = 0 ∨ mat j = 1) (S : Nat → Int32) (hSw : ∀ k, k < 5 → (S k = 0 ↔ ¬ mst k = 0)) : MetD lw_cs l yX2_close wsX2_close ({ frames := 2, cells := 0, slots := 0, locals := 55 } : Room) (va_Pc [.ref (b 0), .int sun] (XP D cI cZ cD (MW b cI cZ cD mth msh mst msd mbi mpr mba (nI tr) (nI n) mat mto mak mus mud mfs mfb mbo mso mpc mne) sz)) (va_Qi (fun (r : Int32) (u : ((Nat → Int32) × (Nat → UInt64) × (Nat → UInt64) × (Nat → UInt64)) × ((Nat → UInt64) × UInt64 × (Nat → UInt64)) × ((Nat → UInt64) × Nat × (Nat → UInt64) × (Nat → UInt64))) => r = bI (over ((cT S msd mat mto mak (dts mus) n).2)) ∧ u.1.1 = (cT S msd mat mto mak (dts mus) n).1 ∧ dts u.1.2.1 = po (5 * n) 5 (dts mus) (use0 mat mto mak (dts mus) n) ∧ dts u.1.2.2.1 = po (5 * n) 5 (dts mud) ((cT S msd mat mto mak (dts mus) n).2) ∧ dts u.2.1.1 = po (5 * n) 5 (dts mfs) (sF sun msh ((cT S msd mat mto mak (dts mus) n).2)) ∧ dts u.2.1.2.2 = kZ sun msh ((cT S msd mat mto mak (dts mus) n).2) (dt mba) (dts mso) n ∧ dt u.2.1.2.1 = (kB sun msh ((cT S msd mat mto mak (dts mus) n).2) (dt mba) (dts mfb) tr n).2.1 ∧ dts u.2.2.1 = (kB sun msh ((cT S msd mat mto mak (dts mus) n).2) (dt mba) (dts mfb) tr n).2.2.1 ∧ u.2.2.2.1 = (kB sun msh ((cT S msd mat mto mak (dts mus) n).2) (dt mba) (dts mfb) tr n).2.2.2 ∧ dts u.2.2.2.2.1 = po (5 * n) 5 (dts mbo) (kB sun msh ((cT S msd mat mto mak (dts mus) n).2) (dt mba) (dts mfb) tr n).1 ∧ dts u.2.2.2.2.2 = kI sun msh ((cT S msd mat mto mak (dts mus) n).2) (dt mba) (dts mso) (dts mbi) (dt mpr) (dts mfb) tr n) (fun (u : ((Nat → Int32) × (Nat → UInt64) × (Nat → UInt64) × (Nat → UInt64)) × ((Nat → UInt64) × UInt64 × (Nat → UInt64)) × ((Nat → UInt64) × Nat × (Nat → UInt64) × (Nat → UInt64))) t => XB D cI cZ cD (MW b cI cZ cD 0 msh mst u.1.1 u.2.2.2.2.2 mpr u.2.1.2.1 (nI u.2.2.2.1) (nI (n + 1)) (po 0 5 mat (fun _ => 0)) mto (po (5 * n) 5 mak mat) u.1.2.1 u.1.2.2.1 u.2.1.1 u.2.2.1 u.2.2.2.2.1 u.2.1.2.2 (vf_upd mpc n mpr) u.1.2.2.2) (va_A (MW b cI cZ cD mth msh mst msd mbi mpr mba (nI tr) (nI n) mat mto mak mus mud mfs mfb mbo mso mpc mne) sz) t) (va_A (MW b cI cZ cD mth msh mst msd mbi mpr mba (nI tr) (nI n) mat mto mak mus mud mfs mfb mbo mso mpc mne) sz)) 0 0 (va_A (MW b cI cZ cD mth msh mst msd mbi mpr mba (nI tr) (nI n) mat mto mak mus mud mfs mfb mbo mso mpc mne) sz) := by
  refine MetD.ofW (cc := cX2_close) (maxL := 8) (ret := (some .boolean)) (by decide +kernel) rfl ?_
  intro p e s m args below meth c s₁ B hml hv hd0
  obtain ⟨rfl, hsz, hP, hK, hD0⟩ := hv
  have hx := B.exec
  have hb := B.bytes
  have hr := B.returns
  have hts := atoms_spec (ws := wsX2_close) B.pre
  have hown : s.vm.findClass RX2 = some m.cls := findClass_of_methodNamed B.named
  have hlocks := B.notSynchronized
  subst hsz
  have hD := hD0.self (sz := s.heap.size)
  generalize hAe : va_A (MW b cI cZ cD mth msh mst msd mbi mpr mba (nI tr) (nI n) mat mto mak mus mud mfs mfb mbo mso mpc mne) s.heap.size = A at hD ⊢
  have hA : ∀ q : Nat, s.heap.size ≤ q → A q := fun q h => by rw [← hAe]; exact Or.inr h
  have hS : va_S A s.heap s.heap [] := va_S.rf
  have hl := lv_entry ([.ref (b 0), .int sun]) (n := 8) (Nat.le_of_ble_eq_true rfl)
  rw [lg_entry_eq]
  generalize (lg_sl ([.ref (b 0), .int sun]) ++ List.replicate (8 - (lg_sl ([.ref (b 0), .int sun])).length) Slot.unset).toArray = ls at hl ⊢
  have hl : lv_has ls 8 [(0, .ref (b 0)), (1, .int sun)] := hl
  have inX2 : ∀ w ∈ wsX20, w ∈ wsX2_close := by decide +kernel
  refine lv_aload_n hx hb dX2_close_0 rfl (lv_at hl 0 rfl) ?_
  refine lv_iload_n hx hb dX2_close_1 rfl (lv_at hl 1 rfl) ?_
  refine lv_iconst (v := nI 0) hx hb dX2_close_2 (by decide) ?_
  refine lv_bipush (v := nI 100) hx hb dX2_close_3 (by decide) ?_
  refine vp_callSi (va_Run.run (va_runS (As := [.int sun, .int (nI 0), .int (nI 100)]) (rest := [.ref (b 0)]) ⟨hx, hb, hml, (xk_od hown), (dr_words hts _)⟩ (mX2_in l sun (nI 0) (nI 100)) (va_cwS 3 (dr_words hts _) gX2_close_X2_in rfl rfl rfl (by decide +kernel) ⟨Nat.le_of_ble_eq_true rfl, Nat.le_of_ble_eq_true rfl⟩) ⟨fun a U g mk q => q, fun U hU hW => ⟨rfl, trivial⟩⟩ rfl rfl hl.1 rfl (lv_room (Nat.le_of_ble_eq_true rfl)) dX2_close_5 ⟨Nat.le_of_ble_eq_true rfl, Nat.le_of_ble_eq_true rfl⟩)) (fun r hr1 => ?_)
  obtain rfl : r = 1 := hr1.trans (bI_t (hsun))
  refine lv_if_ne (tgt := 15) hx hb dX2_close_8 (by decide) (fun c => ?_) (fun c => absurd c (by decide))
  refine lv_aload_n hx hb dX2_close_15 rfl (lv_at hl 0 rfl) ?_
  refine va_get (D := D) (ci := 2) (v := .int (nI n)) (C := RX2) (T := TX2) (N := 20) hx hb (dr_words hts _) inX2 (xk_od hown) (xk_Kd hK) hP 0 rfl rfl 8 (by decide) (dr_words hts _ (.fieldLink RX2 84 "GridCommonsModel" "closed" "I") (by decide +kernel)) (fun _ h9 => h9) rfl dX2_close_16 ?_
  refine lv_bipush (v := nI 60) hx hb dX2_close_19 (by decide) ?_
  refine lv_icmp_ne (tgt := 28) hx hb dX2_close_21 (by decide) (fun c => ?_) (fun c => absurd ((nI_eq (by omega) (by omega)).mp c) (by omega))
  refine lv_iconst (v := nI 0) hx hb dX2_close_28 (by decide) ?_
  have hFc := va_free (wc := MW b cI cZ cD mth msh mst msd mbi mpr mba (nI tr) (nI n) mat mto mak mus mud mfs mfb mbo mso mpc mne) hD hS hA [0, 1, 2, 3, 4, 5, 6, 7, 8, 9, 10, 11, 12, 13, 14, 15] rfl
  refine va_calli (va_runV (As := [.int (nI 0)]) (rest := []) ⟨hx, hb, hml, (xk_od hown), (dr_words hts _)⟩ (mX2_holds l D cI cZ cD b _ mth msh mst msd mbi mpr mba (nI tr) (nI n) mat mto mak mus mud mfs mfb mbo mso mpc mne (0)) (cwV 1 (dr_words hts _) gX2_close_X2_holds rfl rfl rfl (by decide +kernel) ⟨Nat.le_of_ble_eq_true rfl, Nat.le_of_ble_eq_true rfl⟩) ⟨xk_blind, va_recv (xk_Kd hK) hP (ci := 2) (q0 := 0) rfl rfl, xk_pre hP (xk_Kd hK) hD⟩ rfl rfl hl.1 rfl (lv_room (Nat.le_of_ble_eq_true rfl)) dX2_close_29 ⟨Nat.le_of_ble_eq_true rfl, Nat.le_of_ble_eq_true rfl⟩) hS (fun q _ h => hFc q h) hFc (fun r u t H locs ht hvm hw hB hz1 hk1 hS => ?_)
  obtain ⟨hP, -, hD1⟩ := hB
  rw [ht] at hP
  have hD := hD1.weaken (B := A) (fun _ _ _ h => hFc _ h)
  have hP : va_P D vwCl (MW b cI cZ cD 0 msh mst msd mbi mpr mba (nI tr) (nI n) mat mto mak mus mud mfs mfb mbo mso mpc mne) H := hP
  have hD : va_D A (MW b cI cZ cD 0 msh mst msd mbi mpr mba (nI tr) (nI n) mat mto mak mus mud mfs mfb mbo mso mpc mne) := hD
  obtain rfl : r = 1 := hw.trans (bI_t (by decide))
  refine lv_if_ne (tgt := 37) hx hb dX2_close_32 (by decide) (fun c => ?_) (fun c => absurd c (by decide))
  refine lv_iconst (v := nI 5) hx hb dX2_close_37 (by decide) ?_
  refine lv_aload_n hx hb dX2_close_38 rfl (lv_at hl 0 rfl) ?_
  refine va_get (D := D) (ci := 2) (v := .int (nI n)) (C := RX2) (T := TX2) (N := 20) hx hb (dr_words hts _) inX2 (xk_od hown) (xk_Kd hK) hP 0 rfl rfl 8 (by decide) (dr_words hts _ (.fieldLink RX2 84 "GridCommonsModel" "closed" "I") (by decide +kernel)) (fun _ h9 => h9) rfl dX2_close_39 ?_
  refine lv_imul hx hb dX2_close_42 ?_
  refine xk_i (y := nI (5 * n)) (pk_mul _ _) ?_
  refine lv_istore_n (lv' := [(2, .int (nI (5 * n))), (0, .ref (b 0)), (1, .int sun)]) hx hb dX2_close_43 rfl hl (by decide) rfl (fun ls hl => ?_)
  refine lv_iconst (v := nI 0) hx hb dX2_close_44 (by decide) ?_
  refine lv_istore_n (lv' := [(3, .int (nI 0)), (2, .int (nI (5 * n))), (0, .ref (b 0)), (1, .int sun)]) hx hb dX2_close_45 rfl hl (by decide) rfl (fun ls hl => ?_)
  rw [← po_0 0 mat (fun _ => (0 : Int32)), ← po_0 (5 * n) mak mat] at hP hD
  refine xk_loop (fun i H locs ls d => ∃ (mu' : Nat → UInt64) (md' : Nat → UInt64), (dts mu' = po (5 * n) i (dts mus) (use0 mat mto mak (dts mus) n)) ∧ (dts md' = po (5 * n) i (dts mud) (use0 mat mto mak (dts mus) n)) ∧ (va_P D vwCl (MW b cI cZ cD 0 msh mst msd mbi mpr mba (nI tr) (nI n) (po 0 i mat (fun _ => (0 : Int32))) mto (po (5 * n) i mak mat) mu' md' mfs mfb mbo mso mpc mne) H) ∧ (va_D A (MW b cI cZ cD 0 msh mst msd mbi mpr mba (nI tr) (nI n) (po 0 i mat (fun _ => (0 : Int32))) mto (po (5 * n) i mak mat) mu' md' mfs mfb mbo mso mpc mne)) ∧ (va_S A s.heap H locs) ∧ (s.drawn.sameBut d lw_cs) ∧ (lv_has ls 8 [(0, .ref (b 0)), (1, .int sun), (2, .int (nI (5 * n))), (3, .int (nI i))])) 5 ?_ (i := 0) (Nat.zero_le _) ⟨mus, mud, (po_0 _ _ _).symm, (po_0 _ _ _).symm, hP, hD, hS, hd0, lv_sub hl [2, 3, 1, 0] rfl⟩
  intro i H locs ls d hi hI next
  obtain ⟨mu', md', hq0, hq1, hP, hD, hS, hdl, hl⟩ := hI
  refine lv_iload_n hx hb dX2_close_46 rfl (lv_at hl 3 rfl) ?_
  refine lv_iconst (v := nI 5) hx hb dX2_close_47 (by decide) ?_
  refine lv_icmp_ge (tgt := 126) hx hb dX2_close_48 (by decide) (fun c => ?_) (fun c => ?_)
  · skip
    obtain rfl := xk_ge hi (by decide) c
    have hmu := hq0
    have hmd := hq1
    refine lv_aload_n hx hb dX2_close_126 rfl (lv_at hl 0 rfl) ?_
    refine lv_iload_n hx hb dX2_close_127 rfl (lv_at hl 2 rfl) ?_
    have hFc := va_free (wc := MW b cI cZ cD 0 msh mst msd mbi mpr mba (nI tr) (nI n) (po 0 5 mat (fun _ => (0 : Int32))) mto (po (5 * n) 5 mak mat) mu' md' mfs mfb mbo mso mpc mne) hD hS hA [0, 1, 2, 3, 4, 5, 6, 7, 8, 9, 10, 11, 12, 13, 14, 15] rfl
    refine va_calliD hdl (va_runV_D (As := [.int (nI (5 * n))]) (rest := []) ⟨hx, hb, hml, (xk_od hown), (dr_words hts _)⟩ (mX2_shed l D cI cZ cD b _ 0 msh mst msd mbi mpr mba (nI tr) (nI n) (po 0 5 mat (fun _ => (0 : Int32))) mto (po (5 * n) 5 mak mat) mu' md' mfs mfb mbo mso mpc mne n hn S hSw (use0 mat mto mak (dts mus) n) (fun k hk => by rw [hmd]; exact po_in _ _ hk)) (cwV 1 (dr_words hts _) gX2_close_X2_shed rfl rfl rfl (by decide +kernel) ⟨Nat.le_of_ble_eq_true rfl, Nat.le_of_ble_eq_true rfl⟩) ⟨xk_blind, va_recv (xk_Kd hK) hP (ci := 2) (q0 := 0) rfl rfl, xk_pre hP (xk_Kd hK) hD⟩ rfl rfl hl.1 rfl (lv_room (Nat.le_of_ble_eq_true rfl)) dX2_close_128 ⟨Nat.le_of_ble_eq_true rfl, Nat.le_of_ble_eq_true rfl⟩) hS (fun q _ h => hFc q h) hFc (fun ov u t H locs ht hvm hw hB hz1 hk1 hS _ hd2 => ?_)
    obtain ⟨ts1, md1⟩ := u
    obtain ⟨hP, -, hD1⟩ := hB
    rw [ht] at hP
    have hD := hD1.weaken (B := A) (fun _ _ _ h => hFc _ h)
    have hP : va_P D vwCl (MW b cI cZ cD 0 msh mst ts1 mbi mpr mba (nI tr) (nI n) (po 0 5 mat (fun _ => (0 : Int32))) mto (po (5 * n) 5 mak mat) mu' md1 mfs mfb mbo mso mpc mne) H := hP
    have hD : va_D A (MW b cI cZ cD 0 msh mst ts1 mbi mpr mba (nI tr) (nI n) (po 0 5 mat (fun _ => (0 : Int32))) mto (po (5 * n) 5 mak mat) mu' md1 mfs mfb mbo mso mpc mne) := hD
    obtain ⟨hov, hts1, hmd1⟩ := hw
    dsimp only at hts1 hmd1
    rw [hmd, po_po] at hmd1
    have hov : ov = bI (over ((cT S msd mat mto mak (dts mus) n).2)) := hov
    have hts1 : ts1 = (cT S msd mat mto mak (dts mus) n).1 := hts1
    have hmd1 : dts md1 = po (5 * n) 5 (dts mud) ((cT S msd mat mto mak (dts mus) n).2) := hmd1
    refine lv_istore_n (lv' := [(3, .int ov), (0, .ref (b 0)), (1, .int sun), (2, .int (nI (5 * n)))]) hx hb dX2_close_131 rfl hl (by decide) rfl (fun ls hl => ?_)
    refine lv_iconst (v := nI 0) hx hb dX2_close_132 (by decide) ?_
    refine lv_istore (lv' := [(4, .int (nI 0)), (3, .int ov), (0, .ref (b 0)), (1, .int sun), (2, .int (nI (5 * n)))]) hx hb dX2_close_133 hl (by decide) rfl (fun ls hl => ?_)
    refine xk_loop (fun i H locs ls d => ∃ (ne' : Nat → UInt64), (∀ j, j < i → dt (ne' j) = (cT S msd mat mto mak (dts mus) n).2 j) ∧ (va_P D vwCl (MW b cI cZ cD 0 msh mst ts1 mbi mpr mba (nI tr) (nI n) (po 0 5 mat (fun _ => (0 : Int32))) mto (po (5 * n) 5 mak mat) mu' md1 mfs mfb mbo mso mpc ne') H) ∧ (va_D A (MW b cI cZ cD 0 msh mst ts1 mbi mpr mba (nI tr) (nI n) (po 0 5 mat (fun _ => (0 : Int32))) mto (po (5 * n) 5 mak mat) mu' md1 mfs mfb mbo mso mpc ne')) ∧ (va_S A s.heap H locs) ∧ (s.drawn.sameBut d lw_cs) ∧ (lv_has ls 8 [(0, .ref (b 0)), (1, .int sun), (2, .int (nI (5 * n))), (3, .int ov), (4, .int (nI i))])) 5 ?_ (i := 0) (Nat.zero_le _) ⟨mne, (fun j hj => absurd hj (Nat.not_lt_zero j)), hP, hD, hS, hd2, lv_sub hl [2, 3, 4, 1, 0] rfl⟩
    intro i H locs ls d hi hI next
    obtain ⟨ne', hq0, hP, hD, hS, hdl, hl⟩ := hI
    refine lv_iload hx hb dX2_close_135 (lv_at hl 4 rfl) ?_
    refine lv_iconst (v := nI 5) hx hb dX2_close_137 (by decide) ?_
    refine lv_icmp_ge (tgt := 163) hx hb dX2_close_138 (by decide) (fun c1 => ?_) (fun c1 => ?_)
    · skip
      obtain rfl := xk_ge hi (by decide) c1
      have hV5 : is5 ne' ((cT S msd mat mto mak (dts mus) n).2) := hq0
      refine lv_aload_n hx hb dX2_close_163 rfl (lv_at hl 0 rfl) ?_
      refine lv_iload_n hx hb dX2_close_164 rfl (lv_at hl 2 rfl) ?_
      refine lv_iload_n hx hb dX2_close_165 rfl (lv_at hl 1 rfl) ?_
      have hFc := va_free (wc := MW b cI cZ cD 0 msh mst ts1 mbi mpr mba (nI tr) (nI n) (po 0 5 mat (fun _ => (0 : Int32))) mto (po (5 * n) 5 mak mat) mu' md1 mfs mfb mbo mso mpc ne') hD hS hA [0, 1, 2, 3, 4, 5, 6, 7, 8, 9, 10, 11, 12, 13, 14, 15] rfl
      refine va_calldD hdl (va_runV_D (As := [.int (nI (5 * n)), .int sun]) (rest := []) ⟨hx, hb, hml, (xk_od hown), (dr_words hts _)⟩ (mX2_shares l D cI cZ cD b _ 0 msh mst ts1 mbi mpr mba (nI tr) (nI n) (po 0 5 mat (fun _ => (0 : Int32))) mto (po (5 * n) 5 mak mat) mu' md1 mfs mfb mbo mso mpc ne' n sun hn _ hV5) (cwV 2 (dr_words hts _) gX2_close_X2_shares rfl rfl rfl (by decide +kernel) ⟨Nat.le_of_ble_eq_true rfl, Nat.le_of_ble_eq_true rfl⟩) ⟨xk_blind, va_recv (xk_Kd hK) hP (ci := 2) (q0 := 0) rfl rfl, xk_pre hP (xk_Kd hK) hD⟩ rfl rfl hl.1 rfl (lv_room (Nat.le_of_ble_eq_true rfl)) dX2_close_166 ⟨Nat.le_of_ble_eq_true rfl, Nat.le_of_ble_eq_true rfl⟩) hS (fun q _ h => hFc q h) hFc (fun lft u t H locs ht hvm hw hB hz1 hk1 hS _ hd3 => ?_)
      obtain ⟨mf1, ne2⟩ := u
      obtain ⟨hP, -, hD1⟩ := hB
      rw [ht] at hP
      have hD := hD1.weaken (B := A) (fun _ _ _ h => hFc _ h)
      have hP : va_P D vwCl (MW b cI cZ cD 0 msh mst ts1 mbi mpr mba (nI tr) (nI n) (po 0 5 mat (fun _ => (0 : Int32))) mto (po (5 * n) 5 mak mat) mu' md1 mf1 mfb mbo mso mpc ne2) H := hP
      have hD : va_D A (MW b cI cZ cD 0 msh mst ts1 mbi mpr mba (nI tr) (nI n) (po 0 5 mat (fun _ => (0 : Int32))) mto (po (5 * n) 5 mak mat) mu' md1 mf1 mfb mbo mso mpc ne2) := hD
      obtain ⟨hl2, hmf1, hV3⟩ := hw
      dsimp only at hmf1 hV3
      refine lv_dstore (lv' := [(4, .double lft), (0, .ref (b 0)), (1, .int sun), (2, .int (nI (5 * n))), (3, .int ov)]) hx hb dX2_close_169 hl (by decide) rfl (fun ls hl => ?_)
      refine lv_ldc2d hx hb (xk_od hown) (dr_words hts _ (.constantDouble RX2 120 4630826316843712512) (by decide +kernel)) dX2_close_171 ?_
      refine lv_aload_n hx hb dX2_close_174 rfl (lv_at hl 1 rfl) ?_
      refine va_get (D := D) (ci := 2) (v := .double mba) (C := RX2) (T := TX2) (N := 20) hx hb (dr_words hts _) inX2 (xk_od hown) (xk_Kd hK) hP 0 rfl rfl 6 (by decide) (dr_words hts _ (.fieldLink RX2 105 "GridCommonsModel" "battery" "D") (by decide +kernel)) (fun _ h9 => h9) rfl dX2_close_175 ?_
      refine lv_dsub_any hd3 lw_bits hx hb dX2_close_178 (fun r4 _ hal hd5 => ?_)
      have er4 := dt_sub hal
      refine lv_dstore (lv' := [(6, .double r4), (4, .double lft), (0, .ref (b 0)), (1, .int sun), (2, .int (nI (5 * n))), (3, .int ov)]) hx hb dX2_close_179 hl (by decide) rfl (fun ls hl => ?_)
      refine lv_aload_n hx hb dX2_close_181 rfl (lv_at hl 2 rfl) ?_
      refine va_get (D := D) (ci := 2) (v := .ref (b 13)) (C := RX2) (T := TX2) (N := 20) hx hb (dr_words hts _) inX2 (xk_od hown) (xk_Kd hK) hP 0 rfl rfl 17 (by decide) (dr_words hts _ (.fieldLink RX2 54 "GridCommonsModel" "sold" "[D") (by decide +kernel)) (fun _ h9 => h9) rfl dX2_close_182 ?_
      refine lv_aload_n hx hb dX2_close_185 rfl (lv_at hl 2 rfl) ?_
      refine va_get (D := D) (ci := 2) (v := .int (nI n)) (C := RX2) (T := TX2) (N := 20) hx hb (dr_words hts _) inX2 (xk_od hown) (xk_Kd hK) hP 0 rfl rfl 8 (by decide) (dr_words hts _ (.fieldLink RX2 84 "GridCommonsModel" "closed" "I") (by decide +kernel)) (fun _ h9 => h9) rfl dX2_close_186 ?_
      refine lv_dload hx hb dX2_close_189 (lv_at hl 1 rfl) ?_
      refine lv_dload hx hb dX2_close_191 (lv_at hl 0 rfl) ?_
      refine lv_dcmp hx hb dX2_close_193 ?_
      refine lv_if_ge (tgt := 201) hx hb dX2_close_194 (by decide) (fun c0 => ?_) (fun c0 => ?_)
      · skip
        have hc : ¬ dCmp (kL2 sun msh ((cT S msd mat mto mak (dts mus) n).2)) (dSub d40 (dt mba)) = some .lt := by have q := (cv_g_ge _).mp c0; have q2 : ¬ dCmp (dt lft) (dt r4) = some .lt := q; rw [er4, hl2] at q2; exact q2
        refine lv_dload hx hb dX2_close_201 (lv_at hl 1 rfl) ?_
        refine lv_dload hx hb dX2_close_203 (lv_at hl 0 rfl) ?_
        refine lv_dsub_any hd5 lw_bits hx hb dX2_close_205 (fun r6 _ hal hd7 => ?_)
        have er6 := dt_sub hal
        refine xk_dast hx hb (xk_Kd hK) hP hD hS 13 2 rfl rfl (o := n) (by omega) (by decide) dX2_close_206 (fun H locs hP hD hS => ?_)
        have hP : va_P D vwCl (MW b cI cZ cD 0 msh mst ts1 mbi mpr mba (nI tr) (nI n) (po 0 5 mat (fun _ => (0 : Int32))) mto (po (5 * n) 5 mak mat) mu' md1 mf1 mfb mbo (vf_upd mso n r6) mpc ne2) H := hP
        have hD : va_D A (MW b cI cZ cD 0 msh mst ts1 mbi mpr mba (nI tr) (nI n) (po 0 5 mat (fun _ => (0 : Int32))) mto (po (5 * n) 5 mak mat) mu' md1 mf1 mfb mbo (vf_upd mso n r6) mpc ne2) := hD
        refine lv_aload_n hx hb dX2_close_207 rfl (lv_at hl 2 rfl) ?_
        refine lv_dload hx hb dX2_close_208 (lv_at hl 1 rfl) ?_
        refine lv_dload hx hb dX2_close_210 (lv_at hl 0 rfl) ?_
        refine lv_dcmp hx hb dX2_close_212 ?_
        refine lv_if_ge (tgt := 226) hx hb dX2_close_213 (by decide) (fun c => ?_) (fun c => absurd c0 c)
        refine lv_ldc2d hx hb (xk_od hown) (dr_words hts _ (.constantDouble RX2 120 4630826316843712512) (by decide +kernel)) dX2_close_226 ?_
        refine va_put (D := D) (ci := 2) (v := .double 4630826316843712512) (ty := .double) (C := RX2) (T := TX2) (N := 20) hx hb (dr_words hts _) inX2 tyX2 tyX2_ok nmX2 (xk_od hown) (xk_Kd hK) hP hD hS 0 rfl rfl 6 (by decide) (dr_words hts _ (.fieldLink RX2 105 "GridCommonsModel" "battery" "D") (by decide +kernel)) (fun _ h9 => h9) rfl (by decide +kernel) rfl rfl (Nat.le_of_ble_eq_true rfl) dX2_close_229 (fun H locs hP hD hS => ?_)
        have hP : va_P D vwCl (MW b cI cZ cD 0 msh mst ts1 mbi mpr 4630826316843712512 (nI tr) (nI n) (po 0 5 mat (fun _ => (0 : Int32))) mto (po (5 * n) 5 mak mat) mu' md1 mf1 mfb mbo (vf_upd mso n r6) mpc ne2) H := hP
        have hD : va_D A (MW b cI cZ cD 0 msh mst ts1 mbi mpr 4630826316843712512 (nI tr) (nI n) (po 0 5 mat (fun _ => (0 : Int32))) mto (po (5 * n) 5 mak mat) mu' md1 mf1 mfb mbo (vf_upd mso n r6) mpc ne2) := hD
        have hf1 : dt 4630826316843712512 = kS sun msh ((cT S msd mat mto mak (dts mus) n).2) (dt mba) := by unfold kS soN; rw [if_neg hc]
        have hf2 : dts (vf_upd mso n r6) = kZ sun msh ((cT S msd mat mto mak (dts mus) n).2) (dt mba) (dts mso) n := by unfold kZ szN; rw [if_neg hc, dts_up, er6, er4, hl2]
        refine lv_dload hx hb dX2_close_232 (lv_at hl 1 rfl) ?_
        refine lv_dconst0 hx hb dX2_close_234 ?_
        refine lv_dcmp hx hb dX2_close_235 ?_
        refine lv_if_ne (tgt := 244) hx hb dX2_close_236 (by decide) (fun c1 => ?_) (fun c1 => ?_)
        · skip
          have hL : ¬ dCmp (kL2 sun msh ((cT S msd mat mto mak (dts mus) n).2)) dZ = some .eq := fun q => c1 ((cv_l_eq _).mpr (show dCmp (dt lft) dZ = some .eq by rw [hl2]; exact q))
          have hk : kB sun msh ((cT S msd mat mto mak (dts mus) n).2) (dt mba) (dts mfb) tr n = (kV3 sun msh ((cT S msd mat mto mak (dts mus) n).2), kS sun msh ((cT S msd mat mto mak (dts mus) n).2) (dt mba), dts mfb, tr) := if_neg hL
          have hV4 : is5 ne2 (kB sun msh ((cT S msd mat mto mak (dts mus) n).2) (dt mba) (dts mfb) tr n).1 := by rw [hk]; exact hV3
          refine lv_aload_n hx hb dX2_close_244 rfl (lv_at hl 2 rfl) ?_
          refine lv_iload_n hx hb dX2_close_245 rfl (lv_at hl 4 rfl) ?_
          have hFc := va_free (wc := MW b cI cZ cD 0 msh mst ts1 mbi mpr 4630826316843712512 (nI tr) (nI n) (po 0 5 mat (fun _ => (0 : Int32))) mto (po (5 * n) 5 mak mat) mu' md1 mf1 mfb mbo (vf_upd mso n r6) mpc ne2) hD hS hA [0, 1, 2, 3, 4, 5, 6, 7, 8, 9, 10, 11, 12, 13, 14, 15] rfl
          refine va_callvD hd7 (va_runV_D (As := [.int (nI (5 * n))]) (rest := []) ⟨hx, hb, hml, (xk_od hown), (dr_words hts _)⟩ (mX2_pays l D cI cZ cD b _ 0 msh mst ts1 mbi mpr 4630826316843712512 (nI tr) (po 0 5 mat (fun _ => (0 : Int32))) mto (po (5 * n) 5 mak mat) mu' md1 mf1 mfb mbo (vf_upd mso n r6) mpc ne2 n hn _ hV4) (cwV 1 (dr_words hts _) gX2_close_X2_pays rfl rfl rfl (by decide +kernel) ⟨Nat.le_of_ble_eq_true rfl, Nat.le_of_ble_eq_true rfl⟩) ⟨xk_blind, va_recv (xk_Kd hK) hP (ci := 2) (q0 := 0) rfl rfl, xk_pre hP (xk_Kd hK) hD⟩ rfl rfl hl.1 rfl (lv_room (Nat.le_of_ble_eq_true rfl)) dX2_close_246 ⟨Nat.le_of_ble_eq_true rfl, Nat.le_of_ble_eq_true rfl⟩) hS (fun q _ h => hFc q h) hFc (fun u t H locs ht hvm hw hB hz1 hk1 hS _ hd8 => ?_)
          obtain ⟨bo1, bi1⟩ := u
          obtain ⟨hP, -, hD1⟩ := hB
          rw [ht] at hP
          have hD := hD1.weaken (B := A) (fun _ _ _ h => hFc _ h)
          have hP : va_P D vwCl (MW b cI cZ cD 0 msh mst ts1 bi1 mpr 4630826316843712512 (nI tr) (nI n) (po 0 5 mat (fun _ => (0 : Int32))) mto (po (5 * n) 5 mak mat) mu' md1 mf1 mfb bo1 (vf_upd mso n r6) mpc ne2) H := hP
          have hD : va_D A (MW b cI cZ cD 0 msh mst ts1 bi1 mpr 4630826316843712512 (nI tr) (nI n) (po 0 5 mat (fun _ => (0 : Int32))) mto (po (5 * n) 5 mak mat) mu' md1 mf1 mfb bo1 (vf_upd mso n r6) mpc ne2) := hD
          obtain ⟨hg1, hg2⟩ := hw
          dsimp only at hg1 hg2
          rw [hf2] at hg2
          refine lv_aload_n hx hb dX2_close_249 rfl (lv_at hl 2 rfl) ?_
          refine va_get (D := D) (ci := 2) (v := .ref (b 14)) (C := RX2) (T := TX2) (N := 20) hx hb (dr_words hts _) inX2 (xk_od hown) (xk_Kd hK) hP 0 rfl rfl 18 (by decide) (dr_words hts _ (.fieldLink RX2 57 "GridCommonsModel" "prices" "[D") (by decide +kernel)) (fun _ h9 => h9) rfl dX2_close_250 ?_
          refine lv_aload_n hx hb dX2_close_253 rfl (lv_at hl 2 rfl) ?_
          refine va_get (D := D) (ci := 2) (v := .int (nI n)) (C := RX2) (T := TX2) (N := 20) hx hb (dr_words hts _) inX2 (xk_od hown) (xk_Kd hK) hP 0 rfl rfl 8 (by decide) (dr_words hts _ (.fieldLink RX2 84 "GridCommonsModel" "closed" "I") (by decide +kernel)) (fun _ h9 => h9) rfl dX2_close_254 ?_
          refine lv_aload_n hx hb dX2_close_257 rfl (lv_at hl 2 rfl) ?_
          refine va_get (D := D) (ci := 2) (v := .double mpr) (C := RX2) (T := TX2) (N := 20) hx hb (dr_words hts _) inX2 (xk_od hown) (xk_Kd hK) hP 0 rfl rfl 5 (by decide) (dr_words hts _ (.fieldLink RX2 26 "GridCommonsModel" "price" "D") (by decide +kernel)) (fun _ h9 => h9) rfl dX2_close_258 ?_
          refine xk_dast hx hb (xk_Kd hK) hP hD hS 14 2 rfl rfl (o := n) (by omega) (by decide) dX2_close_261 (fun H locs hP hD hS => ?_)
          have hP : va_P D vwCl (MW b cI cZ cD 0 msh mst ts1 bi1 mpr 4630826316843712512 (nI tr) (nI n) (po 0 5 mat (fun _ => (0 : Int32))) mto (po (5 * n) 5 mak mat) mu' md1 mf1 mfb bo1 (vf_upd mso n r6) (vf_upd mpc n mpr) ne2) H := hP
          have hD : va_D A (MW b cI cZ cD 0 msh mst ts1 bi1 mpr 4630826316843712512 (nI tr) (nI n) (po 0 5 mat (fun _ => (0 : Int32))) mto (po (5 * n) 5 mak mat) mu' md1 mf1 mfb bo1 (vf_upd mso n r6) (vf_upd mpc n mpr) ne2) := hD
          refine lv_aload_n hx hb dX2_close_262 rfl (lv_at hl 2 rfl) ?_
          refine lv_dup hx hb dX2_close_263 rfl ?_
          refine va_get (D := D) (ci := 2) (v := .int (nI n)) (C := RX2) (T := TX2) (N := 20) hx hb (dr_words hts _) inX2 (xk_od hown) (xk_Kd hK) hP 0 rfl rfl 8 (by decide) (dr_words hts _ (.fieldLink RX2 84 "GridCommonsModel" "closed" "I") (by decide +kernel)) (fun _ h9 => h9) rfl dX2_close_264 ?_
          refine lv_iconst (v := nI 1) hx hb dX2_close_267 (by decide) ?_
          refine lv_iadd hx hb dX2_close_268 ?_
          refine xk_i (y := nI (n + 1)) (nI_add n 1) ?_
          refine va_put (D := D) (ci := 2) (v := .int (nI (n + 1))) (ty := .int) (C := RX2) (T := TX2) (N := 20) hx hb (dr_words hts _) inX2 tyX2 tyX2_ok nmX2 (xk_od hown) (xk_Kd hK) hP hD hS 0 rfl rfl 8 (by decide) (dr_words hts _ (.fieldLink RX2 84 "GridCommonsModel" "closed" "I") (by decide +kernel)) (fun _ h9 => h9) rfl (by decide +kernel) rfl rfl (Nat.le_of_ble_eq_true rfl) dX2_close_269 (fun H locs hP hD hS => ?_)
          have hP : va_P D vwCl (MW b cI cZ cD 0 msh mst ts1 bi1 mpr 4630826316843712512 (nI tr) (nI (n + 1)) (po 0 5 mat (fun _ => (0 : Int32))) mto (po (5 * n) 5 mak mat) mu' md1 mf1 mfb bo1 (vf_upd mso n r6) (vf_upd mpc n mpr) ne2) H := hP
          have hD : va_D A (MW b cI cZ cD 0 msh mst ts1 bi1 mpr 4630826316843712512 (nI tr) (nI (n + 1)) (po 0 5 mat (fun _ => (0 : Int32))) mto (po (5 * n) 5 mak mat) mu' md1 mf1 mfb bo1 (vf_upd mso n r6) (vf_upd mpc n mpr) ne2) := hD
          refine lv_iload_n hx hb dX2_close_272 rfl (lv_at hl 5 rfl) ?_
          subst hov
          refine W.endD hd8 ?_
          exact W.zret hx hb hr (bI_nar _) (fun t ht hW => ⟨⟨_, ((ts1, mu', md1, ne2), (mf1, 4630826316843712512, (vf_upd mso n r6)), (mfb, tr, bo1, bi1)), rfl, ⟨rfl, hts1, hmu, hmd1, hmf1, hf2, by rw [hk]; exact hf1, by rw [hk], by rw [hk], hg1, hg2⟩, by rw [ht]; exact hP, va_K.moved hW.alike (xk_Kd hK), hD⟩, hS.F ht⟩) hS.2.2 dX2_close_273
        · skip
          have hL : dCmp (kL2 sun msh ((cT S msd mat mto mak (dts mus) n).2)) dZ = some .eq := by have q := (cv_l_eq _).mp c1; have q2 : dCmp (dt lft) dZ = some .eq := q; rw [hl2] at q2; exact q2
          refine lv_aload_n hx hb dX2_close_239 rfl (lv_at hl 2 rfl) ?_
          refine lv_iload_n hx hb dX2_close_240 rfl (lv_at hl 4 rfl) ?_
          have hFc := va_free (wc := MW b cI cZ cD 0 msh mst ts1 mbi mpr 4630826316843712512 (nI tr) (nI n) (po 0 5 mat (fun _ => (0 : Int32))) mto (po (5 * n) 5 mak mat) mu' md1 mf1 mfb mbo (vf_upd mso n r6) mpc ne2) hD hS hA [0, 1, 2, 3, 4, 5, 6, 7, 8, 9, 10, 11, 12, 13, 14, 15] rfl
          refine va_callvD hd7 (va_runV_D (As := [.int (nI (5 * n))]) (rest := []) ⟨hx, hb, hml, (xk_od hown), (dr_words hts _)⟩ (mX2_gives l D cI cZ cD b _ 0 msh mst ts1 mbi mpr 4630826316843712512 (nI n) (po 0 5 mat (fun _ => (0 : Int32))) mto (po (5 * n) 5 mak mat) mu' md1 mf1 mfb mbo (vf_upd mso n r6) mpc ne2 n tr hn htr _ hV3) (cwV 1 (dr_words hts _) gX2_close_X2_gives rfl rfl rfl (by decide +kernel) ⟨Nat.le_of_ble_eq_true rfl, Nat.le_of_ble_eq_true rfl⟩) ⟨xk_blind, va_recv (xk_Kd hK) hP (ci := 2) (q0 := 0) rfl rfl, xk_pre hP (xk_Kd hK) hD⟩ rfl rfl hl.1 rfl (lv_room (Nat.le_of_ble_eq_true rfl)) dX2_close_241 ⟨Nat.le_of_ble_eq_true rfl, Nat.le_of_ble_eq_true rfl⟩) hS (fun q _ h => hFc q h) hFc (fun u t H locs ht hvm hw hB hz1 hk1 hS _ hd9 => ?_)
          obtain ⟨ne5, so2, lb1, tr1⟩ := u
          obtain ⟨hP, -, hD1⟩ := hB
          rw [ht] at hP
          have hD := hD1.weaken (B := A) (fun _ _ _ h => hFc _ h)
          have hP : va_P D vwCl (MW b cI cZ cD 0 msh mst ts1 mbi mpr so2 (nI tr1) (nI n) (po 0 5 mat (fun _ => (0 : Int32))) mto (po (5 * n) 5 mak mat) mu' md1 mf1 lb1 mbo (vf_upd mso n r6) mpc ne5) H := hP
          have hD : va_D A (MW b cI cZ cD 0 msh mst ts1 mbi mpr so2 (nI tr1) (nI n) (po 0 5 mat (fun _ => (0 : Int32))) mto (po (5 * n) 5 mak mat) mu' md1 mf1 lb1 mbo (vf_upd mso n r6) mpc ne5) := hD
          obtain ⟨hh1, hh2, hh3, hh4⟩ := hw
          dsimp only at hh1 hh2 hh3 hh4
          rw [hf1] at hh1 hh2 hh3 hh4
          have hk : kB sun msh ((cT S msd mat mto mak (dts mus) n).2) (dt mba) (dts mfb) tr n = ((gbs tr (5 * n) (kV3 sun msh ((cT S msd mat mto mak (dts mus) n).2)) (kS sun msh ((cT S msd mat mto mak (dts mus) n).2) (dt mba)) (dts mfb) 5).1, (gbs tr (5 * n) (kV3 sun msh ((cT S msd mat mto mak (dts mus) n).2)) (kS sun msh ((cT S msd mat mto mak (dts mus) n).2) (dt mba)) (dts mfb) 5).2.1, (gbs tr (5 * n) (kV3 sun msh ((cT S msd mat mto mak (dts mus) n).2)) (kS sun msh ((cT S msd mat mto mak (dts mus) n).2) (dt mba)) (dts mfb) 5).2.2.1, tnx tr (gbs tr (5 * n) (kV3 sun msh ((cT S msd mat mto mak (dts mus) n).2)) (kS sun msh ((cT S msd mat mto mak (dts mus) n).2) (dt mba)) (dts mfb) 5).2.2.2) := if_pos hL
          have hV4 : is5 ne5 (kB sun msh ((cT S msd mat mto mak (dts mus) n).2) (dt mba) (dts mfb) tr n).1 := by rw [hk]; exact hh1
          refine lv_aload_n hx hb dX2_close_244 rfl (lv_at hl 2 rfl) ?_
          refine lv_iload_n hx hb dX2_close_245 rfl (lv_at hl 4 rfl) ?_
          have hFc := va_free (wc := MW b cI cZ cD 0 msh mst ts1 mbi mpr so2 (nI tr1) (nI n) (po 0 5 mat (fun _ => (0 : Int32))) mto (po (5 * n) 5 mak mat) mu' md1 mf1 lb1 mbo (vf_upd mso n r6) mpc ne5) hD hS hA [0, 1, 2, 3, 4, 5, 6, 7, 8, 9, 10, 11, 12, 13, 14, 15] rfl
          refine va_callvD hd9 (va_runV_D (As := [.int (nI (5 * n))]) (rest := []) ⟨hx, hb, hml, (xk_od hown), (dr_words hts _)⟩ (mX2_pays l D cI cZ cD b _ 0 msh mst ts1 mbi mpr so2 (nI tr1) (po 0 5 mat (fun _ => (0 : Int32))) mto (po (5 * n) 5 mak mat) mu' md1 mf1 lb1 mbo (vf_upd mso n r6) mpc ne5 n hn _ hV4) (cwV 1 (dr_words hts _) gX2_close_X2_pays rfl rfl rfl (by decide +kernel) ⟨Nat.le_of_ble_eq_true rfl, Nat.le_of_ble_eq_true rfl⟩) ⟨xk_blind, va_recv (xk_Kd hK) hP (ci := 2) (q0 := 0) rfl rfl, xk_pre hP (xk_Kd hK) hD⟩ rfl rfl hl.1 rfl (lv_room (Nat.le_of_ble_eq_true rfl)) dX2_close_246 ⟨Nat.le_of_ble_eq_true rfl, Nat.le_of_ble_eq_true rfl⟩) hS (fun q _ h => hFc q h) hFc (fun u t H locs ht hvm hw hB hz1 hk1 hS _ hd10 => ?_)
          obtain ⟨bo1, bi1⟩ := u
          obtain ⟨hP, -, hD1⟩ := hB
          rw [ht] at hP
          have hD := hD1.weaken (B := A) (fun _ _ _ h => hFc _ h)
          have hP : va_P D vwCl (MW b cI cZ cD 0 msh mst ts1 bi1 mpr so2 (nI tr1) (nI n) (po 0 5 mat (fun _ => (0 : Int32))) mto (po (5 * n) 5 mak mat) mu' md1 mf1 lb1 bo1 (vf_upd mso n r6) mpc ne5) H := hP
          have hD : va_D A (MW b cI cZ cD 0 msh mst ts1 bi1 mpr so2 (nI tr1) (nI n) (po 0 5 mat (fun _ => (0 : Int32))) mto (po (5 * n) 5 mak mat) mu' md1 mf1 lb1 bo1 (vf_upd mso n r6) mpc ne5) := hD
          obtain ⟨hg1, hg2⟩ := hw
          dsimp only at hg1 hg2
          rw [hf2] at hg2
          refine lv_aload_n hx hb dX2_close_249 rfl (lv_at hl 2 rfl) ?_
          refine va_get (D := D) (ci := 2) (v := .ref (b 14)) (C := RX2) (T := TX2) (N := 20) hx hb (dr_words hts _) inX2 (xk_od hown) (xk_Kd hK) hP 0 rfl rfl 18 (by decide) (dr_words hts _ (.fieldLink RX2 57 "GridCommonsModel" "prices" "[D") (by decide +kernel)) (fun _ h9 => h9) rfl dX2_close_250 ?_
          refine lv_aload_n hx hb dX2_close_253 rfl (lv_at hl 2 rfl) ?_
          refine va_get (D := D) (ci := 2) (v := .int (nI n)) (C := RX2) (T := TX2) (N := 20) hx hb (dr_words hts _) inX2 (xk_od hown) (xk_Kd hK) hP 0 rfl rfl 8 (by decide) (dr_words hts _ (.fieldLink RX2 84 "GridCommonsModel" "closed" "I") (by decide +kernel)) (fun _ h9 => h9) rfl dX2_close_254 ?_
          refine lv_aload_n hx hb dX2_close_257 rfl (lv_at hl 2 rfl) ?_
          refine va_get (D := D) (ci := 2) (v := .double mpr) (C := RX2) (T := TX2) (N := 20) hx hb (dr_words hts _) inX2 (xk_od hown) (xk_Kd hK) hP 0 rfl rfl 5 (by decide) (dr_words hts _ (.fieldLink RX2 26 "GridCommonsModel" "price" "D") (by decide +kernel)) (fun _ h9 => h9) rfl dX2_close_258 ?_
          refine xk_dast hx hb (xk_Kd hK) hP hD hS 14 2 rfl rfl (o := n) (by omega) (by decide) dX2_close_261 (fun H locs hP hD hS => ?_)
          have hP : va_P D vwCl (MW b cI cZ cD 0 msh mst ts1 bi1 mpr so2 (nI tr1) (nI n) (po 0 5 mat (fun _ => (0 : Int32))) mto (po (5 * n) 5 mak mat) mu' md1 mf1 lb1 bo1 (vf_upd mso n r6) (vf_upd mpc n mpr) ne5) H := hP
          have hD : va_D A (MW b cI cZ cD 0 msh mst ts1 bi1 mpr so2 (nI tr1) (nI n) (po 0 5 mat (fun _ => (0 : Int32))) mto (po (5 * n) 5 mak mat) mu' md1 mf1 lb1 bo1 (vf_upd mso n r6) (vf_upd mpc n mpr) ne5) := hD
          refine lv_aload_n hx hb dX2_close_262 rfl (lv_at hl 2 rfl) ?_
          refine lv_dup hx hb dX2_close_263 rfl ?_
          refine va_get (D := D) (ci := 2) (v := .int (nI n)) (C := RX2) (T := TX2) (N := 20) hx hb (dr_words hts _) inX2 (xk_od hown) (xk_Kd hK) hP 0 rfl rfl 8 (by decide) (dr_words hts _ (.fieldLink RX2 84 "GridCommonsModel" "closed" "I") (by decide +kernel)) (fun _ h9 => h9) rfl dX2_close_264 ?_
          refine lv_iconst (v := nI 1) hx hb dX2_close_267 (by decide) ?_
          refine lv_iadd hx hb dX2_close_268 ?_
          refine xk_i (y := nI (n + 1)) (nI_add n 1) ?_
          refine va_put (D := D) (ci := 2) (v := .int (nI (n + 1))) (ty := .int) (C := RX2) (T := TX2) (N := 20) hx hb (dr_words hts _) inX2 tyX2 tyX2_ok nmX2 (xk_od hown) (xk_Kd hK) hP hD hS 0 rfl rfl 8 (by decide) (dr_words hts _ (.fieldLink RX2 84 "GridCommonsModel" "closed" "I") (by decide +kernel)) (fun _ h9 => h9) rfl (by decide +kernel) rfl rfl (Nat.le_of_ble_eq_true rfl) dX2_close_269 (fun H locs hP hD hS => ?_)
          have hP : va_P D vwCl (MW b cI cZ cD 0 msh mst ts1 bi1 mpr so2 (nI tr1) (nI (n + 1)) (po 0 5 mat (fun _ => (0 : Int32))) mto (po (5 * n) 5 mak mat) mu' md1 mf1 lb1 bo1 (vf_upd mso n r6) (vf_upd mpc n mpr) ne5) H := hP
          have hD : va_D A (MW b cI cZ cD 0 msh mst ts1 bi1 mpr so2 (nI tr1) (nI (n + 1)) (po 0 5 mat (fun _ => (0 : Int32))) mto (po (5 * n) 5 mak mat) mu' md1 mf1 lb1 bo1 (vf_upd mso n r6) (vf_upd mpc n mpr) ne5) := hD
          refine lv_iload_n hx hb dX2_close_272 rfl (lv_at hl 5 rfl) ?_
          subst hov
          refine W.endD hd10 ?_
          exact W.zret hx hb hr (bI_nar _) (fun t ht hW => ⟨⟨_, ((ts1, mu', md1, ne5), (mf1, so2, (vf_upd mso n r6)), (lb1, tr1, bo1, bi1)), rfl, ⟨rfl, hts1, hmu, hmd1, hmf1, hf2, by rw [hk]; exact hh2, by rw [hk]; exact hh3, by rw [hk]; exact hh4, hg1, hg2⟩, by rw [ht]; exact hP, va_K.moved hW.alike (xk_Kd hK), hD⟩, hS.F ht⟩) hS.2.2 dX2_close_273
      · skip
        have hc : dCmp (kL2 sun msh ((cT S msd mat mto mak (dts mus) n).2)) (dSub d40 (dt mba)) = some .lt := by have q := Decidable.of_not_not (fun q => c0 ((cv_g_ge _).mpr q)); have q2 : dCmp (dt lft) (dt r4) = some .lt := q; rw [er4, hl2] at q2; exact q2
        refine lv_dconst0 hx hb dX2_close_197 ?_
        refine lv_goto (tgt := 206) hx hb dX2_close_198 (by decide) ?_
        refine xk_dast hx hb (xk_Kd hK) hP hD hS 13 2 rfl rfl (o := n) (by omega) (by decide) dX2_close_206 (fun H locs hP hD hS => ?_)
        have hP : va_P D vwCl (MW b cI cZ cD 0 msh mst ts1 mbi mpr mba (nI tr) (nI n) (po 0 5 mat (fun _ => (0 : Int32))) mto (po (5 * n) 5 mak mat) mu' md1 mf1 mfb mbo (vf_upd mso n FP.dconst0) mpc ne2) H := hP
        have hD : va_D A (MW b cI cZ cD 0 msh mst ts1 mbi mpr mba (nI tr) (nI n) (po 0 5 mat (fun _ => (0 : Int32))) mto (po (5 * n) 5 mak mat) mu' md1 mf1 mfb mbo (vf_upd mso n FP.dconst0) mpc ne2) := hD
        refine lv_aload_n hx hb dX2_close_207 rfl (lv_at hl 2 rfl) ?_
        refine lv_dload hx hb dX2_close_208 (lv_at hl 1 rfl) ?_
        refine lv_dload hx hb dX2_close_210 (lv_at hl 0 rfl) ?_
        refine lv_dcmp hx hb dX2_close_212 ?_
        refine lv_if_ge (tgt := 226) hx hb dX2_close_213 (by decide) (fun c => absurd c c0) (fun c => ?_)
        refine lv_aload_n hx hb dX2_close_216 rfl (lv_at hl 2 rfl) ?_
        refine va_get (D := D) (ci := 2) (v := .double mba) (C := RX2) (T := TX2) (N := 20) hx hb (dr_words hts _) inX2 (xk_od hown) (xk_Kd hK) hP 0 rfl rfl 6 (by decide) (dr_words hts _ (.fieldLink RX2 105 "GridCommonsModel" "battery" "D") (by decide +kernel)) (fun _ h9 => h9) rfl dX2_close_217 ?_
        refine lv_dload hx hb dX2_close_220 (lv_at hl 1 rfl) ?_
        refine lv_dadd_any hd5 lw_bits hx hb dX2_close_222 (fun r11 _ hal hd12 => ?_)
        have er11 := dt_add hal
        refine lv_goto (tgt := 229) hx hb dX2_close_223 (by decide) ?_
        refine va_put (D := D) (ci := 2) (v := .double r11) (ty := .double) (C := RX2) (T := TX2) (N := 20) hx hb (dr_words hts _) inX2 tyX2 tyX2_ok nmX2 (xk_od hown) (xk_Kd hK) hP hD hS 0 rfl rfl 6 (by decide) (dr_words hts _ (.fieldLink RX2 105 "GridCommonsModel" "battery" "D") (by decide +kernel)) (fun _ h9 => h9) rfl (by decide +kernel) rfl rfl (Nat.le_of_ble_eq_true rfl) dX2_close_229 (fun H locs hP hD hS => ?_)
        have hP : va_P D vwCl (MW b cI cZ cD 0 msh mst ts1 mbi mpr r11 (nI tr) (nI n) (po 0 5 mat (fun _ => (0 : Int32))) mto (po (5 * n) 5 mak mat) mu' md1 mf1 mfb mbo (vf_upd mso n FP.dconst0) mpc ne2) H := hP
        have hD : va_D A (MW b cI cZ cD 0 msh mst ts1 mbi mpr r11 (nI tr) (nI n) (po 0 5 mat (fun _ => (0 : Int32))) mto (po (5 * n) 5 mak mat) mu' md1 mf1 mfb mbo (vf_upd mso n FP.dconst0) mpc ne2) := hD
        have hf1 : dt r11 = kS sun msh ((cT S msd mat mto mak (dts mus) n).2) (dt mba) := by unfold kS soN; rw [if_pos hc, er11, hl2]
        have hf2 : dts (vf_upd mso n FP.dconst0) = kZ sun msh ((cT S msd mat mto mak (dts mus) n).2) (dt mba) (dts mso) n := by unfold kZ szN; rw [if_pos hc, dts_up] <;> rfl
        refine lv_dload hx hb dX2_close_232 (lv_at hl 1 rfl) ?_
        refine lv_dconst0 hx hb dX2_close_234 ?_
        refine lv_dcmp hx hb dX2_close_235 ?_
        refine lv_if_ne (tgt := 244) hx hb dX2_close_236 (by decide) (fun c1 => ?_) (fun c1 => ?_)
        · skip
          have hL : ¬ dCmp (kL2 sun msh ((cT S msd mat mto mak (dts mus) n).2)) dZ = some .eq := fun q => c1 ((cv_l_eq _).mpr (show dCmp (dt lft) dZ = some .eq by rw [hl2]; exact q))
          have hk : kB sun msh ((cT S msd mat mto mak (dts mus) n).2) (dt mba) (dts mfb) tr n = (kV3 sun msh ((cT S msd mat mto mak (dts mus) n).2), kS sun msh ((cT S msd mat mto mak (dts mus) n).2) (dt mba), dts mfb, tr) := if_neg hL
          have hV4 : is5 ne2 (kB sun msh ((cT S msd mat mto mak (dts mus) n).2) (dt mba) (dts mfb) tr n).1 := by rw [hk]; exact hV3
          refine lv_aload_n hx hb dX2_close_244 rfl (lv_at hl 2 rfl) ?_
          refine lv_iload_n hx hb dX2_close_245 rfl (lv_at hl 4 rfl) ?_
          have hFc := va_free (wc := MW b cI cZ cD 0 msh mst ts1 mbi mpr r11 (nI tr) (nI n) (po 0 5 mat (fun _ => (0 : Int32))) mto (po (5 * n) 5 mak mat) mu' md1 mf1 mfb mbo (vf_upd mso n FP.dconst0) mpc ne2) hD hS hA [0, 1, 2, 3, 4, 5, 6, 7, 8, 9, 10, 11, 12, 13, 14, 15] rfl
          refine va_callvD hd12 (va_runV_D (As := [.int (nI (5 * n))]) (rest := []) ⟨hx, hb, hml, (xk_od hown), (dr_words hts _)⟩ (mX2_pays l D cI cZ cD b _ 0 msh mst ts1 mbi mpr r11 (nI tr) (po 0 5 mat (fun _ => (0 : Int32))) mto (po (5 * n) 5 mak mat) mu' md1 mf1 mfb mbo (vf_upd mso n FP.dconst0) mpc ne2 n hn _ hV4) (cwV 1 (dr_words hts _) gX2_close_X2_pays rfl rfl rfl (by decide +kernel) ⟨Nat.le_of_ble_eq_true rfl, Nat.le_of_ble_eq_true rfl⟩) ⟨xk_blind, va_recv (xk_Kd hK) hP (ci := 2) (q0 := 0) rfl rfl, xk_pre hP (xk_Kd hK) hD⟩ rfl rfl hl.1 rfl (lv_room (Nat.le_of_ble_eq_true rfl)) dX2_close_246 ⟨Nat.le_of_ble_eq_true rfl, Nat.le_of_ble_eq_true rfl⟩) hS (fun q _ h => hFc q h) hFc (fun u t H locs ht hvm hw hB hz1 hk1 hS _ hd13 => ?_)
          obtain ⟨bo1, bi1⟩ := u
          obtain ⟨hP, -, hD1⟩ := hB
          rw [ht] at hP
          have hD := hD1.weaken (B := A) (fun _ _ _ h => hFc _ h)
          have hP : va_P D vwCl (MW b cI cZ cD 0 msh mst ts1 bi1 mpr r11 (nI tr) (nI n) (po 0 5 mat (fun _ => (0 : Int32))) mto (po (5 * n) 5 mak mat) mu' md1 mf1 mfb bo1 (vf_upd mso n FP.dconst0) mpc ne2) H := hP
          have hD : va_D A (MW b cI cZ cD 0 msh mst ts1 bi1 mpr r11 (nI tr) (nI n) (po 0 5 mat (fun _ => (0 : Int32))) mto (po (5 * n) 5 mak mat) mu' md1 mf1 mfb bo1 (vf_upd mso n FP.dconst0) mpc ne2) := hD
          obtain ⟨hg1, hg2⟩ := hw
          dsimp only at hg1 hg2
          rw [hf2] at hg2
          refine lv_aload_n hx hb dX2_close_249 rfl (lv_at hl 2 rfl) ?_
          refine va_get (D := D) (ci := 2) (v := .ref (b 14)) (C := RX2) (T := TX2) (N := 20) hx hb (dr_words hts _) inX2 (xk_od hown) (xk_Kd hK) hP 0 rfl rfl 18 (by decide) (dr_words hts _ (.fieldLink RX2 57 "GridCommonsModel" "prices" "[D") (by decide +kernel)) (fun _ h9 => h9) rfl dX2_close_250 ?_
          refine lv_aload_n hx hb dX2_close_253 rfl (lv_at hl 2 rfl) ?_
          refine va_get (D := D) (ci := 2) (v := .int (nI n)) (C := RX2) (T := TX2) (N := 20) hx hb (dr_words hts _) inX2 (xk_od hown) (xk_Kd hK) hP 0 rfl rfl 8 (by decide) (dr_words hts _ (.fieldLink RX2 84 "GridCommonsModel" "closed" "I") (by decide +kernel)) (fun _ h9 => h9) rfl dX2_close_254 ?_
          refine lv_aload_n hx hb dX2_close_257 rfl (lv_at hl 2 rfl) ?_
          refine va_get (D := D) (ci := 2) (v := .double mpr) (C := RX2) (T := TX2) (N := 20) hx hb (dr_words hts _) inX2 (xk_od hown) (xk_Kd hK) hP 0 rfl rfl 5 (by decide) (dr_words hts _ (.fieldLink RX2 26 "GridCommonsModel" "price" "D") (by decide +kernel)) (fun _ h9 => h9) rfl dX2_close_258 ?_
          refine xk_dast hx hb (xk_Kd hK) hP hD hS 14 2 rfl rfl (o := n) (by omega) (by decide) dX2_close_261 (fun H locs hP hD hS => ?_)
          have hP : va_P D vwCl (MW b cI cZ cD 0 msh mst ts1 bi1 mpr r11 (nI tr) (nI n) (po 0 5 mat (fun _ => (0 : Int32))) mto (po (5 * n) 5 mak mat) mu' md1 mf1 mfb bo1 (vf_upd mso n FP.dconst0) (vf_upd mpc n mpr) ne2) H := hP
          have hD : va_D A (MW b cI cZ cD 0 msh mst ts1 bi1 mpr r11 (nI tr) (nI n) (po 0 5 mat (fun _ => (0 : Int32))) mto (po (5 * n) 5 mak mat) mu' md1 mf1 mfb bo1 (vf_upd mso n FP.dconst0) (vf_upd mpc n mpr) ne2) := hD
          refine lv_aload_n hx hb dX2_close_262 rfl (lv_at hl 2 rfl) ?_
          refine lv_dup hx hb dX2_close_263 rfl ?_
          refine va_get (D := D) (ci := 2) (v := .int (nI n)) (C := RX2) (T := TX2) (N := 20) hx hb (dr_words hts _) inX2 (xk_od hown) (xk_Kd hK) hP 0 rfl rfl 8 (by decide) (dr_words hts _ (.fieldLink RX2 84 "GridCommonsModel" "closed" "I") (by decide +kernel)) (fun _ h9 => h9) rfl dX2_close_264 ?_
          refine lv_iconst (v := nI 1) hx hb dX2_close_267 (by decide) ?_
          refine lv_iadd hx hb dX2_close_268 ?_
          refine xk_i (y := nI (n + 1)) (nI_add n 1) ?_
          refine va_put (D := D) (ci := 2) (v := .int (nI (n + 1))) (ty := .int) (C := RX2) (T := TX2) (N := 20) hx hb (dr_words hts _) inX2 tyX2 tyX2_ok nmX2 (xk_od hown) (xk_Kd hK) hP hD hS 0 rfl rfl 8 (by decide) (dr_words hts _ (.fieldLink RX2 84 "GridCommonsModel" "closed" "I") (by decide +kernel)) (fun _ h9 => h9) rfl (by decide +kernel) rfl rfl (Nat.le_of_ble_eq_true rfl) dX2_close_269 (fun H locs hP hD hS => ?_)
          have hP : va_P D vwCl (MW b cI cZ cD 0 msh mst ts1 bi1 mpr r11 (nI tr) (nI (n + 1)) (po 0 5 mat (fun _ => (0 : Int32))) mto (po (5 * n) 5 mak mat) mu' md1 mf1 mfb bo1 (vf_upd mso n FP.dconst0) (vf_upd mpc n mpr) ne2) H := hP
          have hD : va_D A (MW b cI cZ cD 0 msh mst ts1 bi1 mpr r11 (nI tr) (nI (n + 1)) (po 0 5 mat (fun _ => (0 : Int32))) mto (po (5 * n) 5 mak mat) mu' md1 mf1 mfb bo1 (vf_upd mso n FP.dconst0) (vf_upd mpc n mpr) ne2) := hD
          refine lv_iload_n hx hb dX2_close_272 rfl (lv_at hl 5 rfl) ?_
          subst hov
          refine W.endD hd13 ?_
          exact W.zret hx hb hr (bI_nar _) (fun t ht hW => ⟨⟨_, ((ts1, mu', md1, ne2), (mf1, r11, (vf_upd mso n FP.dconst0)), (mfb, tr, bo1, bi1)), rfl, ⟨rfl, hts1, hmu, hmd1, hmf1, hf2, by rw [hk]; exact hf1, by rw [hk], by rw [hk], hg1, hg2⟩, by rw [ht]; exact hP, va_K.moved hW.alike (xk_Kd hK), hD⟩, hS.F ht⟩) hS.2.2 dX2_close_273
        · skip
          have hL : dCmp (kL2 sun msh ((cT S msd mat mto mak (dts mus) n).2)) dZ = some .eq := by have q := (cv_l_eq _).mp c1; have q2 : dCmp (dt lft) dZ = some .eq := q; rw [hl2] at q2; exact q2
          refine lv_aload_n hx hb dX2_close_239 rfl (lv_at hl 2 rfl) ?_
          refine lv_iload_n hx hb dX2_close_240 rfl (lv_at hl 4 rfl) ?_
          have hFc := va_free (wc := MW b cI cZ cD 0 msh mst ts1 mbi mpr r11 (nI tr) (nI n) (po 0 5 mat (fun _ => (0 : Int32))) mto (po (5 * n) 5 mak mat) mu' md1 mf1 mfb mbo (vf_upd mso n FP.dconst0) mpc ne2) hD hS hA [0, 1, 2, 3, 4, 5, 6, 7, 8, 9, 10, 11, 12, 13, 14, 15] rfl
          refine va_callvD hd12 (va_runV_D (As := [.int (nI (5 * n))]) (rest := []) ⟨hx, hb, hml, (xk_od hown), (dr_words hts _)⟩ (mX2_gives l D cI cZ cD b _ 0 msh mst ts1 mbi mpr r11 (nI n) (po 0 5 mat (fun _ => (0 : Int32))) mto (po (5 * n) 5 mak mat) mu' md1 mf1 mfb mbo (vf_upd mso n FP.dconst0) mpc ne2 n tr hn htr _ hV3) (cwV 1 (dr_words hts _) gX2_close_X2_gives rfl rfl rfl (by decide +kernel) ⟨Nat.le_of_ble_eq_true rfl, Nat.le_of_ble_eq_true rfl⟩) ⟨xk_blind, va_recv (xk_Kd hK) hP (ci := 2) (q0 := 0) rfl rfl, xk_pre hP (xk_Kd hK) hD⟩ rfl rfl hl.1 rfl (lv_room (Nat.le_of_ble_eq_true rfl)) dX2_close_241 ⟨Nat.le_of_ble_eq_true rfl, Nat.le_of_ble_eq_true rfl⟩) hS (fun q _ h => hFc q h) hFc (fun u t H locs ht hvm hw hB hz1 hk1 hS _ hd14 => ?_)
          obtain ⟨ne5, so2, lb1, tr1⟩ := u
          obtain ⟨hP, -, hD1⟩ := hB
          rw [ht] at hP
          have hD := hD1.weaken (B := A) (fun _ _ _ h => hFc _ h)
          have hP : va_P D vwCl (MW b cI cZ cD 0 msh mst ts1 mbi mpr so2 (nI tr1) (nI n) (po 0 5 mat (fun _ => (0 : Int32))) mto (po (5 * n) 5 mak mat) mu' md1 mf1 lb1 mbo (vf_upd mso n FP.dconst0) mpc ne5) H := hP
          have hD : va_D A (MW b cI cZ cD 0 msh mst ts1 mbi mpr so2 (nI tr1) (nI n) (po 0 5 mat (fun _ => (0 : Int32))) mto (po (5 * n) 5 mak mat) mu' md1 mf1 lb1 mbo (vf_upd mso n FP.dconst0) mpc ne5) := hD
          obtain ⟨hh1, hh2, hh3, hh4⟩ := hw
          dsimp only at hh1 hh2 hh3 hh4
          rw [hf1] at hh1 hh2 hh3 hh4
          have hk : kB sun msh ((cT S msd mat mto mak (dts mus) n).2) (dt mba) (dts mfb) tr n = ((gbs tr (5 * n) (kV3 sun msh ((cT S msd mat mto mak (dts mus) n).2)) (kS sun msh ((cT S msd mat mto mak (dts mus) n).2) (dt mba)) (dts mfb) 5).1, (gbs tr (5 * n) (kV3 sun msh ((cT S msd mat mto mak (dts mus) n).2)) (kS sun msh ((cT S msd mat mto mak (dts mus) n).2) (dt mba)) (dts mfb) 5).2.1, (gbs tr (5 * n) (kV3 sun msh ((cT S msd mat mto mak (dts mus) n).2)) (kS sun msh ((cT S msd mat mto mak (dts mus) n).2) (dt mba)) (dts mfb) 5).2.2.1, tnx tr (gbs tr (5 * n) (kV3 sun msh ((cT S msd mat mto mak (dts mus) n).2)) (kS sun msh ((cT S msd mat mto mak (dts mus) n).2) (dt mba)) (dts mfb) 5).2.2.2) := if_pos hL
          have hV4 : is5 ne5 (kB sun msh ((cT S msd mat mto mak (dts mus) n).2) (dt mba) (dts mfb) tr n).1 := by rw [hk]; exact hh1
          refine lv_aload_n hx hb dX2_close_244 rfl (lv_at hl 2 rfl) ?_
          refine lv_iload_n hx hb dX2_close_245 rfl (lv_at hl 4 rfl) ?_
          have hFc := va_free (wc := MW b cI cZ cD 0 msh mst ts1 mbi mpr so2 (nI tr1) (nI n) (po 0 5 mat (fun _ => (0 : Int32))) mto (po (5 * n) 5 mak mat) mu' md1 mf1 lb1 mbo (vf_upd mso n FP.dconst0) mpc ne5) hD hS hA [0, 1, 2, 3, 4, 5, 6, 7, 8, 9, 10, 11, 12, 13, 14, 15] rfl
          refine va_callvD hd14 (va_runV_D (As := [.int (nI (5 * n))]) (rest := []) ⟨hx, hb, hml, (xk_od hown), (dr_words hts _)⟩ (mX2_pays l D cI cZ cD b _ 0 msh mst ts1 mbi mpr so2 (nI tr1) (po 0 5 mat (fun _ => (0 : Int32))) mto (po (5 * n) 5 mak mat) mu' md1 mf1 lb1 mbo (vf_upd mso n FP.dconst0) mpc ne5 n hn _ hV4) (cwV 1 (dr_words hts _) gX2_close_X2_pays rfl rfl rfl (by decide +kernel) ⟨Nat.le_of_ble_eq_true rfl, Nat.le_of_ble_eq_true rfl⟩) ⟨xk_blind, va_recv (xk_Kd hK) hP (ci := 2) (q0 := 0) rfl rfl, xk_pre hP (xk_Kd hK) hD⟩ rfl rfl hl.1 rfl (lv_room (Nat.le_of_ble_eq_true rfl)) dX2_close_246 ⟨Nat.le_of_ble_eq_true rfl, Nat.le_of_ble_eq_true rfl⟩) hS (fun q _ h => hFc q h) hFc (fun u t H locs ht hvm hw hB hz1 hk1 hS _ hd15 => ?_)
          obtain ⟨bo1, bi1⟩ := u
          obtain ⟨hP, -, hD1⟩ := hB
          rw [ht] at hP
          have hD := hD1.weaken (B := A) (fun _ _ _ h => hFc _ h)
          have hP : va_P D vwCl (MW b cI cZ cD 0 msh mst ts1 bi1 mpr so2 (nI tr1) (nI n) (po 0 5 mat (fun _ => (0 : Int32))) mto (po (5 * n) 5 mak mat) mu' md1 mf1 lb1 bo1 (vf_upd mso n FP.dconst0) mpc ne5) H := hP
          have hD : va_D A (MW b cI cZ cD 0 msh mst ts1 bi1 mpr so2 (nI tr1) (nI n) (po 0 5 mat (fun _ => (0 : Int32))) mto (po (5 * n) 5 mak mat) mu' md1 mf1 lb1 bo1 (vf_upd mso n FP.dconst0) mpc ne5) := hD
          obtain ⟨hg1, hg2⟩ := hw
          dsimp only at hg1 hg2
          rw [hf2] at hg2
          refine lv_aload_n hx hb dX2_close_249 rfl (lv_at hl 2 rfl) ?_
          refine va_get (D := D) (ci := 2) (v := .ref (b 14)) (C := RX2) (T := TX2) (N := 20) hx hb (dr_words hts _) inX2 (xk_od hown) (xk_Kd hK) hP 0 rfl rfl 18 (by decide) (dr_words hts _ (.fieldLink RX2 57 "GridCommonsModel" "prices" "[D") (by decide +kernel)) (fun _ h9 => h9) rfl dX2_close_250 ?_
          refine lv_aload_n hx hb dX2_close_253 rfl (lv_at hl 2 rfl) ?_
          refine va_get (D := D) (ci := 2) (v := .int (nI n)) (C := RX2) (T := TX2) (N := 20) hx hb (dr_words hts _) inX2 (xk_od hown) (xk_Kd hK) hP 0 rfl rfl 8 (by decide) (dr_words hts _ (.fieldLink RX2 84 "GridCommonsModel" "closed" "I") (by decide +kernel)) (fun _ h9 => h9) rfl dX2_close_254 ?_
          refine lv_aload_n hx hb dX2_close_257 rfl (lv_at hl 2 rfl) ?_
          refine va_get (D := D) (ci := 2) (v := .double mpr) (C := RX2) (T := TX2) (N := 20) hx hb (dr_words hts _) inX2 (xk_od hown) (xk_Kd hK) hP 0 rfl rfl 5 (by decide) (dr_words hts _ (.fieldLink RX2 26 "GridCommonsModel" "price" "D") (by decide +kernel)) (fun _ h9 => h9) rfl dX2_close_258 ?_
          refine xk_dast hx hb (xk_Kd hK) hP hD hS 14 2 rfl rfl (o := n) (by omega) (by decide) dX2_close_261 (fun H locs hP hD hS => ?_)
          have hP : va_P D vwCl (MW b cI cZ cD 0 msh mst ts1 bi1 mpr so2 (nI tr1) (nI n) (po 0 5 mat (fun _ => (0 : Int32))) mto (po (5 * n) 5 mak mat) mu' md1 mf1 lb1 bo1 (vf_upd mso n FP.dconst0) (vf_upd mpc n mpr) ne5) H := hP
          have hD : va_D A (MW b cI cZ cD 0 msh mst ts1 bi1 mpr so2 (nI tr1) (nI n) (po 0 5 mat (fun _ => (0 : Int32))) mto (po (5 * n) 5 mak mat) mu' md1 mf1 lb1 bo1 (vf_upd mso n FP.dconst0) (vf_upd mpc n mpr) ne5) := hD
          refine lv_aload_n hx hb dX2_close_262 rfl (lv_at hl 2 rfl) ?_
          refine lv_dup hx hb dX2_close_263 rfl ?_
          refine va_get (D := D) (ci := 2) (v := .int (nI n)) (C := RX2) (T := TX2) (N := 20) hx hb (dr_words hts _) inX2 (xk_od hown) (xk_Kd hK) hP 0 rfl rfl 8 (by decide) (dr_words hts _ (.fieldLink RX2 84 "GridCommonsModel" "closed" "I") (by decide +kernel)) (fun _ h9 => h9) rfl dX2_close_264 ?_
          refine lv_iconst (v := nI 1) hx hb dX2_close_267 (by decide) ?_
          refine lv_iadd hx hb dX2_close_268 ?_
          refine xk_i (y := nI (n + 1)) (nI_add n 1) ?_
          refine va_put (D := D) (ci := 2) (v := .int (nI (n + 1))) (ty := .int) (C := RX2) (T := TX2) (N := 20) hx hb (dr_words hts _) inX2 tyX2 tyX2_ok nmX2 (xk_od hown) (xk_Kd hK) hP hD hS 0 rfl rfl 8 (by decide) (dr_words hts _ (.fieldLink RX2 84 "GridCommonsModel" "closed" "I") (by decide +kernel)) (fun _ h9 => h9) rfl (by decide +kernel) rfl rfl (Nat.le_of_ble_eq_true rfl) dX2_close_269 (fun H locs hP hD hS => ?_)
          have hP : va_P D vwCl (MW b cI cZ cD 0 msh mst ts1 bi1 mpr so2 (nI tr1) (nI (n + 1)) (po 0 5 mat (fun _ => (0 : Int32))) mto (po (5 * n) 5 mak mat) mu' md1 mf1 lb1 bo1 (vf_upd mso n FP.dconst0) (vf_upd mpc n mpr) ne5) H := hP
          have hD : va_D A (MW b cI cZ cD 0 msh mst ts1 bi1 mpr so2 (nI tr1) (nI (n + 1)) (po 0 5 mat (fun _ => (0 : Int32))) mto (po (5 * n) 5 mak mat) mu' md1 mf1 lb1 bo1 (vf_upd mso n FP.dconst0) (vf_upd mpc n mpr) ne5) := hD
          refine lv_iload_n hx hb dX2_close_272 rfl (lv_at hl 5 rfl) ?_
          subst hov
          refine W.endD hd15 ?_
          exact W.zret hx hb hr (bI_nar _) (fun t ht hW => ⟨⟨_, ((ts1, mu', md1, ne5), (mf1, so2, (vf_upd mso n FP.dconst0)), (lb1, tr1, bo1, bi1)), rfl, ⟨rfl, hts1, hmu, hmd1, hmf1, hf2, by rw [hk]; exact hh2, by rw [hk]; exact hh3, by rw [hk]; exact hh4, hg1, hg2⟩, by rw [ht]; exact hP, va_K.moved hW.alike (xk_Kd hK), hD⟩, hS.F ht⟩) hS.2.2 dX2_close_273
    · skip
      have hlt := xk_nge hi (by decide) c1
      refine lv_aload_n hx hb dX2_close_141 rfl (lv_at hl 0 rfl) ?_
      refine va_get (D := D) (ci := 2) (v := .ref (b 15)) (C := RX2) (T := TX2) (N := 20) hx hb (dr_words hts _) inX2 (xk_od hown) (xk_Kd hK) hP 0 rfl rfl 19 (by decide) (dr_words hts _ (.fieldLink RX2 60 "GridCommonsModel" "needs" "[D") (by decide +kernel)) (fun _ h9 => h9) rfl dX2_close_142 ?_
      refine lv_iload hx hb dX2_close_145 (lv_at hl 4 rfl) ?_
      refine lv_aload_n hx hb dX2_close_147 rfl (lv_at hl 0 rfl) ?_
      refine va_get (D := D) (ci := 2) (v := .ref (b 9)) (C := RX2) (T := TX2) (N := 20) hx hb (dr_words hts _) inX2 (xk_od hown) (xk_Kd hK) hP 0 rfl rfl 13 (by decide) (dr_words hts _ (.fieldLink RX2 42 "GridCommonsModel" "used" "[D") (by decide +kernel)) (fun _ h9 => h9) rfl dX2_close_148 ?_
      refine lv_iload_n hx hb dX2_close_151 rfl (lv_at hl 2 rfl) ?_
      refine lv_iload hx hb dX2_close_152 (lv_at hl 4 rfl) ?_
      refine lv_iadd hx hb dX2_close_154 ?_
      refine xk_i (y := nI (5 * n + i)) (nI_add _ _) ?_
      refine xk_dald hx hb (xk_Kd hK) hP 9 2 rfl rfl (o := (5 * n + i)) (by omega) (by decide) dX2_close_155 ?_
      refine xk_dast hx hb (xk_Kd hK) hP hD hS 15 2 rfl rfl (o := i) (by omega) (by decide) dX2_close_156 (fun H locs hP hD hS => ?_)
      have hP : va_P D vwCl (MW b cI cZ cD 0 msh mst ts1 mbi mpr mba (nI tr) (nI n) (po 0 5 mat (fun _ => (0 : Int32))) mto (po (5 * n) 5 mak mat) mu' md1 mfs mfb mbo mso mpc (vf_upd ne' i (md1 (5 * n + i)))) H := hP
      have hD : va_D A (MW b cI cZ cD 0 msh mst ts1 mbi mpr mba (nI tr) (nI n) (po 0 5 mat (fun _ => (0 : Int32))) mto (po (5 * n) 5 mak mat) mu' md1 mfs mfb mbo mso mpc (vf_upd ne' i (md1 (5 * n + i)))) := hD
      refine lv_iinc (v := nI (i + 1)) (lv' := [(4, .int (nI (i + 1))), (0, .ref (b 0)), (1, .int sun), (2, .int (nI (5 * n))), (3, .int ov)]) hx hb dX2_close_157 hl (k := 4) rfl (nI_1 i) (by decide) rfl (fun ls hl => ?_)
      refine lv_goto (tgt := 135) hx hb dX2_close_160 (by decide) ?_
      exact next _ _ _ _ hlt ⟨(vf_upd ne' i (md1 (5 * n + i))), (upto_step hq0 (by show dts md1 (5 * n + i) = _; rw [hmd1]; exact po_in _ _ hlt)), hP, hD, hS, hdl, lv_sub hl [1, 2, 3, 4, 0] rfl⟩
  · skip
    have hlt := xk_nge hi (by decide) c
    refine lv_aload_n hx hb dX2_close_51 rfl (lv_at hl 0 rfl) ?_
    refine va_get (D := D) (ci := 2) (v := .ref (b 7)) (C := RX2) (T := TX2) (N := 20) hx hb (dr_words hts _) inX2 (xk_od hown) (xk_Kd hK) hP 0 rfl rfl 11 (by decide) (dr_words hts _ (.fieldLink RX2 36 "GridCommonsModel" "areKnown" "[Z") (by decide +kernel)) (fun _ h9 => h9) rfl dX2_close_52 ?_
    refine lv_iload_n hx hb dX2_close_55 rfl (lv_at hl 2 rfl) ?_
    refine lv_iload_n hx hb dX2_close_56 rfl (lv_at hl 3 rfl) ?_
    refine lv_iadd hx hb dX2_close_57 ?_
    refine xk_i (y := nI (5 * n + i)) (nI_add _ _) ?_
    refine lv_aload_n hx hb dX2_close_58 rfl (lv_at hl 0 rfl) ?_
    refine va_get (D := D) (ci := 2) (v := .ref (b 5)) (C := RX2) (T := TX2) (N := 20) hx hb (dr_words hts _) inX2 (xk_od hown) (xk_Kd hK) hP 0 rfl rfl 9 (by decide) (dr_words hts _ (.fieldLink RX2 30 "GridCommonsModel" "areTold" "[Z") (by decide +kernel)) (fun _ h9 => h9) rfl dX2_close_59 ?_
    refine lv_iload_n hx hb dX2_close_62 rfl (lv_at hl 3 rfl) ?_
    refine xk_zald hx hb (xk_Kd hK) hP 5 1 rfl rfl (o := i) (by omega) (by decide) dX2_close_63 ?_
    refine xk_i (y := mat i) (po_at0 i mat _) ?_
    refine xk_zast (x' := mat i) hx hb (xk_Kd hK) hP hD hS 7 1 rfl rfl (o := (5 * n + i)) (by omega) (by decide) (nar01 (hit i)) dX2_close_64 (fun H locs hP hD hS => ?_)
    have hP : va_P D vwCl (MW b cI cZ cD 0 msh mst msd mbi mpr mba (nI tr) (nI n) (po 0 i mat (fun _ => (0 : Int32))) mto (upd (po (5 * n) i mak mat) (5 * n + i) (mat i)) mu' md' mfs mfb mbo mso mpc mne) H := hP
    have hD : va_D A (MW b cI cZ cD 0 msh mst msd mbi mpr mba (nI tr) (nI n) (po 0 i mat (fun _ => (0 : Int32))) mto (upd (po (5 * n) i mak mat) (5 * n + i) (mat i)) mu' md' mfs mfb mbo mso mpc mne) := hD
    have e1 : upd (po (5 * n) i mak mat) (5 * n + i) (mat i) = po (5 * n) (i + 1) mak mat := po_s _ _ _ _
    rw [e1] at hP hD
    refine lv_aload_n hx hb dX2_close_65 rfl (lv_at hl 0 rfl) ?_
    refine va_get (D := D) (ci := 2) (v := .ref (b 8)) (C := RX2) (T := TX2) (N := 20) hx hb (dr_words hts _) inX2 (xk_od hown) (xk_Kd hK) hP 0 rfl rfl 12 (by decide) (dr_words hts _ (.fieldLink RX2 39 "GridCommonsModel" "uses" "[D") (by decide +kernel)) (fun _ h9 => h9) rfl dX2_close_66 ?_
    refine lv_iload_n hx hb dX2_close_69 rfl (lv_at hl 2 rfl) ?_
    refine lv_iload_n hx hb dX2_close_70 rfl (lv_at hl 3 rfl) ?_
    refine lv_iadd hx hb dX2_close_71 ?_
    refine xk_i (y := nI (5 * n + i)) (nI_add _ _) ?_
    refine lv_aload_n hx hb dX2_close_72 rfl (lv_at hl 0 rfl) ?_
    refine va_get (D := D) (ci := 2) (v := .ref (b 5)) (C := RX2) (T := TX2) (N := 20) hx hb (dr_words hts _) inX2 (xk_od hown) (xk_Kd hK) hP 0 rfl rfl 9 (by decide) (dr_words hts _ (.fieldLink RX2 30 "GridCommonsModel" "areTold" "[Z") (by decide +kernel)) (fun _ h9 => h9) rfl dX2_close_73 ?_
    refine lv_iload_n hx hb dX2_close_76 rfl (lv_at hl 3 rfl) ?_
    refine xk_zald hx hb (xk_Kd hK) hP 5 1 rfl rfl (o := i) (by omega) (by decide) dX2_close_77 ?_
    refine xk_i (y := mat i) (po_at0 i mat _) ?_
    refine lv_if_eq (tgt := 91) hx hb dX2_close_78 (by decide) (fun c3 => ?_) (fun c3 => ?_)
    · skip
      refine lv_aload_n hx hb dX2_close_91 rfl (lv_at hl 0 rfl) ?_
      refine lv_iload_n hx hb dX2_close_92 rfl (lv_at hl 3 rfl) ?_
      have hFc := va_free (wc := MW b cI cZ cD 0 msh mst msd mbi mpr mba (nI tr) (nI n) (po 0 i mat (fun _ => (0 : Int32))) mto (po (5 * n) (i + 1) mak mat) mu' md' mfs mfb mbo mso mpc mne) hD hS hA [0, 1, 2, 3, 4, 5, 6, 7, 8, 9, 10, 11, 12, 13, 14, 15] rfl
      refine va_calldD hdl (va_runV_D (As := [.int (nI i)]) (rest := [.int (nI (5 * n + i)), .ref (b 8)]) ⟨hx, hb, hml, (xk_od hown), (dr_words hts _)⟩ (mX2_guess l D cI cZ cD b _ 0 msh mst msd mbi mpr mba (nI tr) (po 0 i mat (fun _ => (0 : Int32))) mto (po (5 * n) (i + 1) mak mat) mu' md' mfs mfb mbo mso mpc mne i n (by omega) (by omega)) (cwV 1 (dr_words hts _) gX2_close_X2_guess rfl rfl rfl (by decide +kernel) ⟨Nat.le_of_ble_eq_true rfl, Nat.le_of_ble_eq_true rfl⟩) ⟨xk_blind, va_recv (xk_Kd hK) hP (ci := 2) (q0 := 0) rfl rfl, xk_pre hP (xk_Kd hK) hD⟩ rfl rfl hl.1 rfl (lv_room (Nat.le_of_ble_eq_true rfl)) dX2_close_93 ⟨Nat.le_of_ble_eq_true rfl, Nat.le_of_ble_eq_true rfl⟩) hS (fun q _ h => hFc q h) hFc (fun r u t H locs ht hvm hw hB hz1 hk1 hS _ hd16 => ?_)
      obtain ⟨hP, -, hD1⟩ := hB
      rw [ht] at hP
      have hD := hD1.weaken (B := A) (fun _ _ _ h => hFc _ h)
      have hP : va_P D vwCl (MW b cI cZ cD 0 msh mst msd mbi mpr mba (nI tr) (nI n) (po 0 i mat (fun _ => (0 : Int32))) mto (po (5 * n) (i + 1) mak mat) mu' md' mfs mfb mbo mso mpc mne) H := hP
      have hD : va_D A (MW b cI cZ cD 0 msh mst msd mbi mpr mba (nI tr) (nI n) (po 0 i mat (fun _ => (0 : Int32))) mto (po (5 * n) (i + 1) mak mat) mu' md' mfs mfb mbo mso mpc mne) := hD
      have e8 : dt r = use0 mat mto mak (dts mus) n i := by rw [hw]; unfold use0; rw [if_pos c3]; exact guess_c hlt (fun j hj => po_out _ _ hj) (fun j hj => by rw [hq0]; exact po_out _ _ hj)
      refine xk_dast hx hb (xk_Kd hK) hP hD hS 8 2 rfl rfl (o := (5 * n + i)) (by omega) (by decide) dX2_close_96 (fun H locs hP hD hS => ?_)
      have hP : va_P D vwCl (MW b cI cZ cD 0 msh mst msd mbi mpr mba (nI tr) (nI n) (po 0 i mat (fun _ => (0 : Int32))) mto (po (5 * n) (i + 1) mak mat) (vf_upd mu' (5 * n + i) r) md' mfs mfb mbo mso mpc mne) H := hP
      have hD : va_D A (MW b cI cZ cD 0 msh mst msd mbi mpr mba (nI tr) (nI n) (po 0 i mat (fun _ => (0 : Int32))) mto (po (5 * n) (i + 1) mak mat) (vf_upd mu' (5 * n + i) r) md' mfs mfb mbo mso mpc mne) := hD
      refine lv_aload_n hx hb dX2_close_97 rfl (lv_at hl 0 rfl) ?_
      refine va_get (D := D) (ci := 2) (v := .ref (b 9)) (C := RX2) (T := TX2) (N := 20) hx hb (dr_words hts _) inX2 (xk_od hown) (xk_Kd hK) hP 0 rfl rfl 13 (by decide) (dr_words hts _ (.fieldLink RX2 42 "GridCommonsModel" "used" "[D") (by decide +kernel)) (fun _ h9 => h9) rfl dX2_close_98 ?_
      refine lv_iload_n hx hb dX2_close_101 rfl (lv_at hl 2 rfl) ?_
      refine lv_iload_n hx hb dX2_close_102 rfl (lv_at hl 3 rfl) ?_
      refine lv_iadd hx hb dX2_close_103 ?_
      refine xk_i (y := nI (5 * n + i)) (nI_add _ _) ?_
      refine lv_aload_n hx hb dX2_close_104 rfl (lv_at hl 0 rfl) ?_
      refine va_get (D := D) (ci := 2) (v := .ref (b 8)) (C := RX2) (T := TX2) (N := 20) hx hb (dr_words hts _) inX2 (xk_od hown) (xk_Kd hK) hP 0 rfl rfl 12 (by decide) (dr_words hts _ (.fieldLink RX2 39 "GridCommonsModel" "uses" "[D") (by decide +kernel)) (fun _ h9 => h9) rfl dX2_close_105 ?_
      refine lv_iload_n hx hb dX2_close_108 rfl (lv_at hl 2 rfl) ?_
      refine lv_iload_n hx hb dX2_close_109 rfl (lv_at hl 3 rfl) ?_
      refine lv_iadd hx hb dX2_close_110 ?_
      refine xk_i (y := nI (5 * n + i)) (nI_add _ _) ?_
      refine xk_dald hx hb (xk_Kd hK) hP 8 2 rfl rfl (o := (5 * n + i)) (by omega) (by decide) dX2_close_111 ?_
      refine xk_dast hx hb (xk_Kd hK) hP hD hS 9 2 rfl rfl (o := (5 * n + i)) (by omega) (by decide) dX2_close_112 (fun H locs hP hD hS => ?_)
      have hP : va_P D vwCl (MW b cI cZ cD 0 msh mst msd mbi mpr mba (nI tr) (nI n) (po 0 i mat (fun _ => (0 : Int32))) mto (po (5 * n) (i + 1) mak mat) (vf_upd mu' (5 * n + i) r) (vf_upd md' (5 * n + i) ((vf_upd mu' (5 * n + i) r) (5 * n + i))) mfs mfb mbo mso mpc mne) H := hP
      have hD : va_D A (MW b cI cZ cD 0 msh mst msd mbi mpr mba (nI tr) (nI n) (po 0 i mat (fun _ => (0 : Int32))) mto (po (5 * n) (i + 1) mak mat) (vf_upd mu' (5 * n + i) r) (vf_upd md' (5 * n + i) ((vf_upd mu' (5 * n + i) r) (5 * n + i))) mfs mfb mbo mso mpc mne) := hD
      refine lv_aload_n hx hb dX2_close_113 rfl (lv_at hl 0 rfl) ?_
      refine va_get (D := D) (ci := 2) (v := .ref (b 5)) (C := RX2) (T := TX2) (N := 20) hx hb (dr_words hts _) inX2 (xk_od hown) (xk_Kd hK) hP 0 rfl rfl 9 (by decide) (dr_words hts _ (.fieldLink RX2 30 "GridCommonsModel" "areTold" "[Z") (by decide +kernel)) (fun _ h9 => h9) rfl dX2_close_114 ?_
      refine lv_iload_n hx hb dX2_close_117 rfl (lv_at hl 3 rfl) ?_
      refine lv_iconst (v := nI 0) hx hb dX2_close_118 (by decide) ?_
      refine xk_zast (x' := 0) hx hb (xk_Kd hK) hP hD hS 5 1 rfl rfl (o := i) (by omega) (by decide) rfl dX2_close_119 (fun H locs hP hD hS => ?_)
      have hP : va_P D vwCl (MW b cI cZ cD 0 msh mst msd mbi mpr mba (nI tr) (nI n) (upd (po 0 i mat (fun _ => (0 : Int32))) i 0) mto (po (5 * n) (i + 1) mak mat) (vf_upd mu' (5 * n + i) r) (vf_upd md' (5 * n + i) ((vf_upd mu' (5 * n + i) r) (5 * n + i))) mfs mfb mbo mso mpc mne) H := hP
      have hD : va_D A (MW b cI cZ cD 0 msh mst msd mbi mpr mba (nI tr) (nI n) (upd (po 0 i mat (fun _ => (0 : Int32))) i 0) mto (po (5 * n) (i + 1) mak mat) (vf_upd mu' (5 * n + i) r) (vf_upd md' (5 * n + i) ((vf_upd mu' (5 * n + i) r) (5 * n + i))) mfs mfb mbo mso mpc mne) := hD
      have e2 : upd (po 0 i mat (fun _ => (0 : Int32))) i 0 = po 0 (i + 1) mat (fun _ => (0 : Int32)) := po_s0 i mat (fun _ => (0 : Int32))
      rw [e2] at hP hD
      refine lv_iinc (v := nI (i + 1)) (lv' := [(3, .int (nI (i + 1))), (0, .ref (b 0)), (1, .int sun), (2, .int (nI (5 * n)))]) hx hb dX2_close_120 hl (k := 3) rfl (nI_1 i) (by decide) rfl (fun ls hl => ?_)
      refine lv_goto (tgt := 46) hx hb dX2_close_123 (by decide) ?_
      exact next _ _ _ _ hlt ⟨(vf_upd mu' (5 * n + i) r), (vf_upd md' (5 * n + i) ((vf_upd mu' (5 * n + i) r) (5 * n + i))), (by rw [dts_up]; exact po_step hq0 e8), (by rw [dts_up, vf_self]; exact po_step hq1 e8), hP, hD, hS, hd16, lv_sub hl [1, 2, 3, 0] rfl⟩
    · skip
      refine lv_aload_n hx hb dX2_close_81 rfl (lv_at hl 0 rfl) ?_
      refine va_get (D := D) (ci := 2) (v := .ref (b 6)) (C := RX2) (T := TX2) (N := 20) hx hb (dr_words hts _) inX2 (xk_od hown) (xk_Kd hK) hP 0 rfl rfl 10 (by decide) (dr_words hts _ (.fieldLink RX2 33 "GridCommonsModel" "told" "[I") (by decide +kernel)) (fun _ h9 => h9) rfl dX2_close_82 ?_
      refine lv_iload_n hx hb dX2_close_85 rfl (lv_at hl 3 rfl) ?_
      refine xk_iald hx hb (xk_Kd hK) hP 6 0 rfl rfl (o := i) (by omega) (by decide) dX2_close_86 ?_
      refine lv_i2d hx hb dX2_close_87 ?_
      refine lv_goto (tgt := 96) hx hb dX2_close_88 (by decide) ?_
      have e8 : dt (FP.i2d (mto i)) = use0 mat mto mak (dts mus) n i := by unfold use0; rw [if_neg c3]; rfl
      refine xk_dast hx hb (xk_Kd hK) hP hD hS 8 2 rfl rfl (o := (5 * n + i)) (by omega) (by decide) dX2_close_96 (fun H locs hP hD hS => ?_)
      have hP : va_P D vwCl (MW b cI cZ cD 0 msh mst msd mbi mpr mba (nI tr) (nI n) (po 0 i mat (fun _ => (0 : Int32))) mto (po (5 * n) (i + 1) mak mat) (vf_upd mu' (5 * n + i) (FP.i2d (mto i))) md' mfs mfb mbo mso mpc mne) H := hP
      have hD : va_D A (MW b cI cZ cD 0 msh mst msd mbi mpr mba (nI tr) (nI n) (po 0 i mat (fun _ => (0 : Int32))) mto (po (5 * n) (i + 1) mak mat) (vf_upd mu' (5 * n + i) (FP.i2d (mto i))) md' mfs mfb mbo mso mpc mne) := hD
      refine lv_aload_n hx hb dX2_close_97 rfl (lv_at hl 0 rfl) ?_
      refine va_get (D := D) (ci := 2) (v := .ref (b 9)) (C := RX2) (T := TX2) (N := 20) hx hb (dr_words hts _) inX2 (xk_od hown) (xk_Kd hK) hP 0 rfl rfl 13 (by decide) (dr_words hts _ (.fieldLink RX2 42 "GridCommonsModel" "used" "[D") (by decide +kernel)) (fun _ h9 => h9) rfl dX2_close_98 ?_
      refine lv_iload_n hx hb dX2_close_101 rfl (lv_at hl 2 rfl) ?_
      refine lv_iload_n hx hb dX2_close_102 rfl (lv_at hl 3 rfl) ?_
      refine lv_iadd hx hb dX2_close_103 ?_
      refine xk_i (y := nI (5 * n + i)) (nI_add _ _) ?_
      refine lv_aload_n hx hb dX2_close_104 rfl (lv_at hl 0 rfl) ?_
      refine va_get (D := D) (ci := 2) (v := .ref (b 8)) (C := RX2) (T := TX2) (N := 20) hx hb (dr_words hts _) inX2 (xk_od hown) (xk_Kd hK) hP 0 rfl rfl 12 (by decide) (dr_words hts _ (.fieldLink RX2 39 "GridCommonsModel" "uses" "[D") (by decide +kernel)) (fun _ h9 => h9) rfl dX2_close_105 ?_
      refine lv_iload_n hx hb dX2_close_108 rfl (lv_at hl 2 rfl) ?_
      refine lv_iload_n hx hb dX2_close_109 rfl (lv_at hl 3 rfl) ?_
      refine lv_iadd hx hb dX2_close_110 ?_
      refine xk_i (y := nI (5 * n + i)) (nI_add _ _) ?_
      refine xk_dald hx hb (xk_Kd hK) hP 8 2 rfl rfl (o := (5 * n + i)) (by omega) (by decide) dX2_close_111 ?_
      refine xk_dast hx hb (xk_Kd hK) hP hD hS 9 2 rfl rfl (o := (5 * n + i)) (by omega) (by decide) dX2_close_112 (fun H locs hP hD hS => ?_)
      have hP : va_P D vwCl (MW b cI cZ cD 0 msh mst msd mbi mpr mba (nI tr) (nI n) (po 0 i mat (fun _ => (0 : Int32))) mto (po (5 * n) (i + 1) mak mat) (vf_upd mu' (5 * n + i) (FP.i2d (mto i))) (vf_upd md' (5 * n + i) ((vf_upd mu' (5 * n + i) (FP.i2d (mto i))) (5 * n + i))) mfs mfb mbo mso mpc mne) H := hP
      have hD : va_D A (MW b cI cZ cD 0 msh mst msd mbi mpr mba (nI tr) (nI n) (po 0 i mat (fun _ => (0 : Int32))) mto (po (5 * n) (i + 1) mak mat) (vf_upd mu' (5 * n + i) (FP.i2d (mto i))) (vf_upd md' (5 * n + i) ((vf_upd mu' (5 * n + i) (FP.i2d (mto i))) (5 * n + i))) mfs mfb mbo mso mpc mne) := hD
      refine lv_aload_n hx hb dX2_close_113 rfl (lv_at hl 0 rfl) ?_
      refine va_get (D := D) (ci := 2) (v := .ref (b 5)) (C := RX2) (T := TX2) (N := 20) hx hb (dr_words hts _) inX2 (xk_od hown) (xk_Kd hK) hP 0 rfl rfl 9 (by decide) (dr_words hts _ (.fieldLink RX2 30 "GridCommonsModel" "areTold" "[Z") (by decide +kernel)) (fun _ h9 => h9) rfl dX2_close_114 ?_
      refine lv_iload_n hx hb dX2_close_117 rfl (lv_at hl 3 rfl) ?_
      refine lv_iconst (v := nI 0) hx hb dX2_close_118 (by decide) ?_
      refine xk_zast (x' := 0) hx hb (xk_Kd hK) hP hD hS 5 1 rfl rfl (o := i) (by omega) (by decide) rfl dX2_close_119 (fun H locs hP hD hS => ?_)
      have hP : va_P D vwCl (MW b cI cZ cD 0 msh mst msd mbi mpr mba (nI tr) (nI n) (upd (po 0 i mat (fun _ => (0 : Int32))) i 0) mto (po (5 * n) (i + 1) mak mat) (vf_upd mu' (5 * n + i) (FP.i2d (mto i))) (vf_upd md' (5 * n + i) ((vf_upd mu' (5 * n + i) (FP.i2d (mto i))) (5 * n + i))) mfs mfb mbo mso mpc mne) H := hP
      have hD : va_D A (MW b cI cZ cD 0 msh mst msd mbi mpr mba (nI tr) (nI n) (upd (po 0 i mat (fun _ => (0 : Int32))) i 0) mto (po (5 * n) (i + 1) mak mat) (vf_upd mu' (5 * n + i) (FP.i2d (mto i))) (vf_upd md' (5 * n + i) ((vf_upd mu' (5 * n + i) (FP.i2d (mto i))) (5 * n + i))) mfs mfb mbo mso mpc mne) := hD
      have e2 : upd (po 0 i mat (fun _ => (0 : Int32))) i 0 = po 0 (i + 1) mat (fun _ => (0 : Int32)) := po_s0 i mat (fun _ => (0 : Int32))
      rw [e2] at hP hD
      refine lv_iinc (v := nI (i + 1)) (lv' := [(3, .int (nI (i + 1))), (0, .ref (b 0)), (1, .int sun), (2, .int (nI (5 * n)))]) hx hb dX2_close_120 hl (k := 3) rfl (nI_1 i) (by decide) rfl (fun ls hl => ?_)
      refine lv_goto (tgt := 46) hx hb dX2_close_123 (by decide) ?_
      exact next _ _ _ _ hlt ⟨(vf_upd mu' (5 * n + i) (FP.i2d (mto i))), (vf_upd md' (5 * n + i) ((vf_upd mu' (5 * n + i) (FP.i2d (mto i))) (5 * n + i))), (by rw [dts_up]; exact po_step hq0 e8), (by rw [dts_up, vf_self]; exact po_step hq1 e8), hP, hD, hS, hdl, lv_sub hl [1, 2, 3, 0] rfl⟩
set_option maxHeartbeats 4000000 in
set_option maxRecDepth 100000 in
theorem mX2_closeX (l : Launch) (D : va_G) (cI cZ cD : ClassId) (b : Nat → Nat) (sz : Nat) (mth : Int32) (msh mst msd : Nat → Int32) (mbi : Nat → UInt64) (mpr mba : UInt64) (mtn : Int32) (mat mto mak : Nat → Int32) (mus mud mfs mfb mbo mso mpc mne : Nat → UInt64) (n : Nat) (hn : n ≤ 60) (sun : Int32) (hbad : ¬ (inR sun 0 100 ∧ n < 60)) : Met l yX2_close wsX2_close ({ frames := 2, cells := 0, slots := 0, locals := 55 } : Room) (va_Pc [.ref (b 0), .int sun] (XP D cI cZ cD (MW b cI cZ cD mth msh mst msd mbi mpr mba mtn (nI n) mat mto mak mus mud mfs mfb mbo mso mpc mne) sz)) (va_Qi (fun (r : Int32) (u : Int32) => (u = 1 ∧ ¬ inR sun 0 100) ∨ (u = 2 ∧ inR sun 0 100 ∧ ¬ n < 60)) (fun (u : Int32) t => XB D cI cZ cD (MW b cI cZ cD u msh mst msd mbi mpr mba mtn (nI n) mat mto mak mus mud mfs mfb mbo mso mpc mne) (va_A (MW b cI cZ cD mth msh mst msd mbi mpr mba mtn (nI n) mat mto mak mus mud mfs mfb mbo mso mpc mne) sz) t) (va_A (MW b cI cZ cD mth msh mst msd mbi mpr mba mtn (nI n) mat mto mak mus mud mfs mfb mbo mso mpc mne) sz)) 0 0 (va_A (MW b cI cZ cD mth msh mst msd mbi mpr mba mtn (nI n) mat mto mak mus mud mfs mfb mbo mso mpc mne) sz) := by
  refine Met.ofW (cc := cX2_close) (maxL := 8) (ret := (some .boolean)) (by decide +kernel) rfl ?_
  intro p e s m args below meth c s₁ B hml hv
  obtain ⟨rfl, hsz, hP, hK, hD0⟩ := hv
  have hx := B.exec
  have hb := B.bytes
  have hr := B.returns
  have hts := atoms_spec (ws := wsX2_close) B.pre
  have hown : s.vm.findClass RX2 = some m.cls := findClass_of_methodNamed B.named
  have hlocks := B.notSynchronized
  subst hsz
  have hD := hD0.self (sz := s.heap.size)
  generalize hAe : va_A (MW b cI cZ cD mth msh mst msd mbi mpr mba mtn (nI n) mat mto mak mus mud mfs mfb mbo mso mpc mne) s.heap.size = A at hD ⊢
  have hA : ∀ q : Nat, s.heap.size ≤ q → A q := fun q h => by rw [← hAe]; exact Or.inr h
  have hS : va_S A s.heap s.heap [] := va_S.rf
  have hl := lv_entry ([.ref (b 0), .int sun]) (n := 8) (Nat.le_of_ble_eq_true rfl)
  rw [lg_entry_eq]
  generalize (lg_sl ([.ref (b 0), .int sun]) ++ List.replicate (8 - (lg_sl ([.ref (b 0), .int sun])).length) Slot.unset).toArray = ls at hl ⊢
  have hl : lv_has ls 8 [(0, .ref (b 0)), (1, .int sun)] := hl
  have inX2 : ∀ w ∈ wsX20, w ∈ wsX2_close := by decide +kernel
  refine lv_aload_n hx hb dX2_close_0 rfl (lv_at hl 0 rfl) ?_
  refine lv_iload_n hx hb dX2_close_1 rfl (lv_at hl 1 rfl) ?_
  refine lv_iconst (v := nI 0) hx hb dX2_close_2 (by decide) ?_
  refine lv_bipush (v := nI 100) hx hb dX2_close_3 (by decide) ?_
  by_cases h1 : inR sun 0 100
  · skip
    refine vp_callSi (va_Run.run (va_runS (As := [.int sun, .int (nI 0), .int (nI 100)]) (rest := [.ref (b 0)]) ⟨hx, hb, hml, hown, hts⟩ (mX2_in l sun (nI 0) (nI 100)) (va_cwS 3 hts gX2_close_X2_in rfl rfl rfl (by decide +kernel) ⟨Nat.le_of_ble_eq_true rfl, Nat.le_of_ble_eq_true rfl⟩) ⟨fun a U g mk q => q, fun U hU hW => ⟨rfl, trivial⟩⟩ rfl rfl hl.1 rfl (lv_room (Nat.le_of_ble_eq_true rfl)) dX2_close_5 ⟨Nat.le_of_ble_eq_true rfl, Nat.le_of_ble_eq_true rfl⟩)) (fun r hr1 => ?_)
    obtain rfl : r = 1 := hr1.trans (bI_t (h1))
    refine lv_if_ne (tgt := 15) hx hb dX2_close_8 (by decide) (fun c => ?_) (fun c => absurd c (by decide))
    obtain rfl : n = 60 := by have : ¬ n < 60 := fun z => hbad ⟨h1, z⟩; omega
    refine lv_aload_n hx hb dX2_close_15 rfl (lv_at hl 0 rfl) ?_
    refine va_get (D := D) (ci := 2) (v := .int (nI 60)) (C := RX2) (T := TX2) (N := 20) hx hb hts inX2 hown hK hP 0 rfl rfl 8 (by decide) (hts (.fieldLink RX2 84 "GridCommonsModel" "closed" "I") (by decide +kernel)) (fun _ h9 => h9) rfl dX2_close_16 ?_
    refine lv_bipush (v := nI 60) hx hb dX2_close_19 (by decide) ?_
    refine lv_icmp_ne (tgt := 28) hx hb dX2_close_21 (by decide) (fun c => absurd rfl c) (fun c => ?_)
    refine lv_iconst (v := nI 2) hx hb dX2_close_24 (by decide) ?_
    refine lv_goto (tgt := 29) hx hb dX2_close_25 (by decide) ?_
    have hFc := va_free (wc := MW b cI cZ cD mth msh mst msd mbi mpr mba mtn (nI 60) mat mto mak mus mud mfs mfb mbo mso mpc mne) hD hS hA [0, 1, 2, 3, 4, 5, 6, 7, 8, 9, 10, 11, 12, 13, 14, 15] rfl
    refine va_calli (va_runV (As := [.int (nI 2)]) (rest := []) ⟨hx, hb, hml, hown, hts⟩ (mX2_holds l D cI cZ cD b _ mth msh mst msd mbi mpr mba mtn (nI 60) mat mto mak mus mud mfs mfb mbo mso mpc mne (2)) (cwV 1 hts gX2_close_X2_holds rfl rfl rfl (by decide +kernel) ⟨Nat.le_of_ble_eq_true rfl, Nat.le_of_ble_eq_true rfl⟩) ⟨xk_blind, va_recv hK hP (ci := 2) (q0 := 0) rfl rfl, xk_pre hP hK hD⟩ rfl rfl hl.1 rfl (lv_room (Nat.le_of_ble_eq_true rfl)) dX2_close_29 ⟨Nat.le_of_ble_eq_true rfl, Nat.le_of_ble_eq_true rfl⟩) hS (fun q _ h => hFc q h) hFc (fun r u t H locs ht hvm hw hB hz1 hk1 hS => ?_)
    obtain ⟨hP, -, hD1⟩ := hB
    rw [ht] at hP
    have hD := hD1.weaken (B := A) (fun _ _ _ h => hFc _ h)
    have hP : va_P D vwCl (MW b cI cZ cD 2 msh mst msd mbi mpr mba mtn (nI 60) mat mto mak mus mud mfs mfb mbo mso mpc mne) H := hP
    have hD : va_D A (MW b cI cZ cD 2 msh mst msd mbi mpr mba mtn (nI 60) mat mto mak mus mud mfs mfb mbo mso mpc mne) := hD
    obtain rfl : r = 0 := hw.trans (bI_f (by decide))
    refine lv_if_ne (tgt := 37) hx hb dX2_close_32 (by decide) (fun c => absurd c (by decide)) (fun c => ?_)
    refine lv_iconst (v := nI 0) hx hb dX2_close_35 (by decide) ?_
    exact W.zret hx hb hr rfl (fun t ht hW => ⟨⟨_, 2, rfl, Or.inr ⟨rfl, h1, fun z => absurd z (by decide)⟩, by rw [ht]; exact hP, va_K.moved hW.alike hK, hD⟩, hS.F ht⟩) hS.2.2 dX2_close_36
  · skip
    refine vp_callSi (va_Run.run (va_runS (As := [.int sun, .int (nI 0), .int (nI 100)]) (rest := [.ref (b 0)]) ⟨hx, hb, hml, hown, hts⟩ (mX2_in l sun (nI 0) (nI 100)) (va_cwS 3 hts gX2_close_X2_in rfl rfl rfl (by decide +kernel) ⟨Nat.le_of_ble_eq_true rfl, Nat.le_of_ble_eq_true rfl⟩) ⟨fun a U g mk q => q, fun U hU hW => ⟨rfl, trivial⟩⟩ rfl rfl hl.1 rfl (lv_room (Nat.le_of_ble_eq_true rfl)) dX2_close_5 ⟨Nat.le_of_ble_eq_true rfl, Nat.le_of_ble_eq_true rfl⟩)) (fun r hr1 => ?_)
    obtain rfl : r = 0 := hr1.trans (bI_f (h1))
    refine lv_if_ne (tgt := 15) hx hb dX2_close_8 (by decide) (fun c => absurd c (by decide)) (fun c => ?_)
    refine lv_iconst (v := nI 1) hx hb dX2_close_11 (by decide) ?_
    refine lv_goto (tgt := 29) hx hb dX2_close_12 (by decide) ?_
    have hFc := va_free (wc := MW b cI cZ cD mth msh mst msd mbi mpr mba mtn (nI n) mat mto mak mus mud mfs mfb mbo mso mpc mne) hD hS hA [0, 1, 2, 3, 4, 5, 6, 7, 8, 9, 10, 11, 12, 13, 14, 15] rfl
    refine va_calli (va_runV (As := [.int (nI 1)]) (rest := []) ⟨hx, hb, hml, hown, hts⟩ (mX2_holds l D cI cZ cD b _ mth msh mst msd mbi mpr mba mtn (nI n) mat mto mak mus mud mfs mfb mbo mso mpc mne (1)) (cwV 1 hts gX2_close_X2_holds rfl rfl rfl (by decide +kernel) ⟨Nat.le_of_ble_eq_true rfl, Nat.le_of_ble_eq_true rfl⟩) ⟨xk_blind, va_recv hK hP (ci := 2) (q0 := 0) rfl rfl, xk_pre hP hK hD⟩ rfl rfl hl.1 rfl (lv_room (Nat.le_of_ble_eq_true rfl)) dX2_close_29 ⟨Nat.le_of_ble_eq_true rfl, Nat.le_of_ble_eq_true rfl⟩) hS (fun q _ h => hFc q h) hFc (fun r u t H locs ht hvm hw hB hz1 hk1 hS => ?_)
    obtain ⟨hP, -, hD1⟩ := hB
    rw [ht] at hP
    have hD := hD1.weaken (B := A) (fun _ _ _ h => hFc _ h)
    have hP : va_P D vwCl (MW b cI cZ cD 1 msh mst msd mbi mpr mba mtn (nI n) mat mto mak mus mud mfs mfb mbo mso mpc mne) H := hP
    have hD : va_D A (MW b cI cZ cD 1 msh mst msd mbi mpr mba mtn (nI n) mat mto mak mus mud mfs mfb mbo mso mpc mne) := hD
    obtain rfl : r = 0 := hw.trans (bI_f (by decide))
    refine lv_if_ne (tgt := 37) hx hb dX2_close_32 (by decide) (fun c => absurd c (by decide)) (fun c => ?_)
    refine lv_iconst (v := nI 0) hx hb dX2_close_35 (by decide) ?_
    exact W.zret hx hb hr rfl (fun t ht hW => ⟨⟨_, 1, rfl, Or.inl ⟨rfl, h1⟩, by rw [ht]; exact hP, va_K.moved hW.alike hK, hD⟩, hS.F ht⟩) hS.2.2 dX2_close_36
set_option maxHeartbeats 4000000 in
set_option maxRecDepth 100000 in
theorem mX2_errorOfReplace (l : Launch) (D : va_G) (cI cZ cD : ClassId) (b : Nat → Nat) (sz : Nat) (mth : Int32) (msh mst msd : Nat → Int32) (mbi : Nat → UInt64) (mpr mba : UInt64) (mtn : Int32) (mat mto mak : Nat → Int32) (mus mud mfs mfb mbo mso mpc mne : Nat → UInt64) (n : Nat) (hn : n ≤ 60) (x q use : Int32) : Met l yX2_errorOfReplace wsX2_errorOfReplace ({ frames := 2, cells := 0, slots := 0, locals := 43 } : Room) (va_Pc [.ref (b 0), .int x, .int q, .int use] (XP D cI cZ cD (MW b cI cZ cD mth msh mst msd mbi mpr mba mtn (nI n) mat mto mak mus mud mfs mfb mbo mso mpc mne) sz)) (va_Qi (fun (r : Int32) (u : Unit) => (r = 0 ∧ inR x 0 4 ∧ inR use 0 50 ∧ isQ n q ∧ ¬ kn mak x q) ∨ (r = 1 ∧ ¬ (inR x 0 4 ∧ inR use 0 50)) ∨ (r = 2 ∧ inR x 0 4 ∧ inR use 0 50 ∧ ¬ isQ n q) ∨ (r = 3 ∧ inR x 0 4 ∧ inR use 0 50 ∧ isQ n q ∧ kn mak x q)) (fun (u : Unit) t => XB D cI cZ cD (MW b cI cZ cD mth msh mst msd mbi mpr mba mtn (nI n) mat mto mak mus mud mfs mfb mbo mso mpc mne) (va_A (MW b cI cZ cD mth msh mst msd mbi mpr mba mtn (nI n) mat mto mak mus mud mfs mfb mbo mso mpc mne) sz) t) (va_A (MW b cI cZ cD mth msh mst msd mbi mpr mba mtn (nI n) mat mto mak mus mud mfs mfb mbo mso mpc mne) sz)) 0 0 (va_A (MW b cI cZ cD mth msh mst msd mbi mpr mba mtn (nI n) mat mto mak mus mud mfs mfb mbo mso mpc mne) sz) := by
  refine Met.ofW (cc := cX2_errorOfReplace) (maxL := 4) (ret := (some .int)) (by decide +kernel) rfl ?_
  intro p e s m args below meth c s₁ B hml hv
  obtain ⟨rfl, hsz, hP, hK, hD0⟩ := hv
  have hx := B.exec
  have hb := B.bytes
  have hr := B.returns
  have hts := atoms_spec (ws := wsX2_errorOfReplace) B.pre
  have hown : s.vm.findClass RX2 = some m.cls := findClass_of_methodNamed B.named
  have hlocks := B.notSynchronized
  subst hsz
  have hD := hD0.self (sz := s.heap.size)
  generalize hAe : va_A (MW b cI cZ cD mth msh mst msd mbi mpr mba mtn (nI n) mat mto mak mus mud mfs mfb mbo mso mpc mne) s.heap.size = A at hD ⊢
  have hA : ∀ q : Nat, s.heap.size ≤ q → A q := fun q h => by rw [← hAe]; exact Or.inr h
  have hS : va_S A s.heap s.heap [] := va_S.rf
  have hl := lv_entry ([.ref (b 0), .int x, .int q, .int use]) (n := 4) (Nat.le_of_ble_eq_true rfl)
  rw [lg_entry_eq]
  generalize (lg_sl ([.ref (b 0), .int x, .int q, .int use]) ++ List.replicate (4 - (lg_sl ([.ref (b 0), .int x, .int q, .int use])).length) Slot.unset).toArray = ls at hl ⊢
  have hl : lv_has ls 4 [(0, .ref (b 0)), (1, .int x), (2, .int q), (3, .int use)] := hl
  have inX2 : ∀ w ∈ wsX20, w ∈ wsX2_errorOfReplace := by decide +kernel
  refine lv_iload_n hx hb dX2_errorOfReplace_0 rfl (lv_at hl 1 rfl) ?_
  by_cases h1 : inR x 0 4
  · skip
    refine vp_callSi (va_Run.run (va_runS (As := [.int x]) (rest := []) ⟨hx, hb, hml, hown, hts⟩ (mX2_isOwner l x) (va_cwS 1 hts gX2_errorOfReplace_X2_isOwner rfl rfl rfl (by decide +kernel) ⟨Nat.le_of_ble_eq_true rfl, Nat.le_of_ble_eq_true rfl⟩) ⟨fun a U g mk q => q, fun U hU hW => ⟨rfl, trivial⟩⟩ rfl rfl hl.1 rfl (lv_room (Nat.le_of_ble_eq_true rfl)) dX2_errorOfReplace_1 ⟨Nat.le_of_ble_eq_true rfl, Nat.le_of_ble_eq_true rfl⟩)) (fun r hr1 => ?_)
    obtain rfl : r = 1 := hr1.trans (bI_t (h1))
    refine lv_if_eq (tgt := 17) hx hb dX2_errorOfReplace_4 (by decide) (fun c => absurd c (by decide)) (fun c => ?_)
    refine lv_iload_n hx hb dX2_errorOfReplace_7 rfl (lv_at hl 3 rfl) ?_
    refine lv_iconst (v := nI 0) hx hb dX2_errorOfReplace_8 (by decide) ?_
    refine lv_bipush (v := nI 50) hx hb dX2_errorOfReplace_9 (by decide) ?_
    by_cases h2 : inR use 0 50
    · skip
      refine vp_callSi (va_Run.run (va_runS (As := [.int use, .int (nI 0), .int (nI 50)]) (rest := []) ⟨hx, hb, hml, hown, hts⟩ (mX2_in l use (nI 0) (nI 50)) (va_cwS 3 hts gX2_errorOfReplace_X2_in rfl rfl rfl (by decide +kernel) ⟨Nat.le_of_ble_eq_true rfl, Nat.le_of_ble_eq_true rfl⟩) ⟨fun a U g mk q => q, fun U hU hW => ⟨rfl, trivial⟩⟩ rfl rfl hl.1 rfl (lv_room (Nat.le_of_ble_eq_true rfl)) dX2_errorOfReplace_11 ⟨Nat.le_of_ble_eq_true rfl, Nat.le_of_ble_eq_true rfl⟩)) (fun r hr1 => ?_)
      obtain rfl : r = 1 := hr1.trans (bI_t (h2))
      refine lv_if_ne (tgt := 19) hx hb dX2_errorOfReplace_14 (by decide) (fun c => ?_) (fun c => absurd c (by decide))
      refine lv_aload_n hx hb dX2_errorOfReplace_19 rfl (lv_at hl 0 rfl) ?_
      refine lv_iload_n hx hb dX2_errorOfReplace_20 rfl (lv_at hl 2 rfl) ?_
      by_cases h3 : isQ n q
      · skip
        have hFc := va_free (wc := MW b cI cZ cD mth msh mst msd mbi mpr mba mtn (nI n) mat mto mak mus mud mfs mfb mbo mso mpc mne) hD hS hA [0, 1, 2, 3, 4, 5, 6, 7, 8, 9, 10, 11, 12, 13, 14, 15] rfl
        refine va_calli (va_runV (As := [.int q]) (rest := []) ⟨hx, hb, hml, hown, hts⟩ (mX2_isQuarter l D cI cZ cD b _ mth msh mst msd mbi mpr mba mtn mat mto mak mus mud mfs mfb mbo mso mpc mne n hn q) (cwV 1 hts gX2_errorOfReplace_X2_isQuarter rfl rfl rfl (by decide +kernel) ⟨Nat.le_of_ble_eq_true rfl, Nat.le_of_ble_eq_true rfl⟩) ⟨xk_blind, va_recv hK hP (ci := 2) (q0 := 0) rfl rfl, xk_pre hP hK hD⟩ rfl rfl hl.1 rfl (lv_room (Nat.le_of_ble_eq_true rfl)) dX2_errorOfReplace_21 ⟨Nat.le_of_ble_eq_true rfl, Nat.le_of_ble_eq_true rfl⟩) hS (fun q _ h => hFc q h) hFc (fun r u t H locs ht hvm hw hB hz1 hk1 hS => ?_)
        obtain ⟨hP, -, hD1⟩ := hB
        rw [ht] at hP
        have hD := hD1.weaken (B := A) (fun _ _ _ h => hFc _ h)
        have hP : va_P D vwCl (MW b cI cZ cD mth msh mst msd mbi mpr mba mtn (nI n) mat mto mak mus mud mfs mfb mbo mso mpc mne) H := hP
        have hD : va_D A (MW b cI cZ cD mth msh mst msd mbi mpr mba mtn (nI n) mat mto mak mus mud mfs mfb mbo mso mpc mne) := hD
        obtain rfl : r = 1 := hw.trans (bI_t (h3))
        refine lv_if_ne (tgt := 31) hx hb dX2_errorOfReplace_24 (by decide) (fun c => ?_) (fun c => absurd c (by decide))
        obtain ⟨o, ho4, rfl⟩ := inR_nI (n := 4) (by decide) h1
        have ho : o < 5 := by omega
        obtain ⟨j, hj, rfl⟩ := isQ_nI (by omega) h3
        refine lv_aload_n hx hb dX2_errorOfReplace_31 rfl (lv_at hl 0 rfl) ?_
        refine va_get (D := D) (ci := 2) (v := .ref (b 7)) (C := RX2) (T := TX2) (N := 20) hx hb hts inX2 hown hK hP 0 rfl rfl 11 (by decide) (hts (.fieldLink RX2 36 "GridCommonsModel" "areKnown" "[Z") (by decide +kernel)) (fun _ h9 => h9) rfl dX2_errorOfReplace_32 ?_
        refine lv_iconst (v := nI 5) hx hb dX2_errorOfReplace_35 (by decide) ?_
        refine lv_iload_n hx hb dX2_errorOfReplace_36 rfl (lv_at hl 2 rfl) ?_
        refine lv_imul hx hb dX2_errorOfReplace_37 ?_
        refine lv_iload_n hx hb dX2_errorOfReplace_38 rfl (lv_at hl 1 rfl) ?_
        refine lv_iadd hx hb dX2_errorOfReplace_39 ?_
        refine xk_i (y := nI (5 * j + o)) (u5 j o) ?_
        refine xk_zald hx hb hK hP 7 1 rfl rfl (o := (5 * j + o)) (by omega) (by decide) dX2_errorOfReplace_40 ?_
        refine lv_if_eq (tgt := 48) hx hb dX2_errorOfReplace_41 (by decide) (fun c4 => ?_) (fun c4 => ?_)
        · skip
          refine lv_iconst (v := nI 0) hx hb dX2_errorOfReplace_48 (by decide) ?_
          exact W.iret hx hb hr (fun t ht hW => ⟨⟨_, (), rfl, Or.inl ⟨rfl, h1, h2, h3, fun z => (kn_nI ho (by omega)).mp z c4⟩, by rw [ht]; exact hP, va_K.moved hW.alike hK, hD⟩, hS.F ht⟩) hS.2.2 dX2_errorOfReplace_49
        · skip
          refine lv_iconst (v := nI 3) hx hb dX2_errorOfReplace_44 (by decide) ?_
          refine lv_goto (tgt := 49) hx hb dX2_errorOfReplace_45 (by decide) ?_
          exact W.iret hx hb hr (fun t ht hW => ⟨⟨_, (), rfl, Or.inr (Or.inr (Or.inr ⟨rfl, h1, h2, h3, (kn_nI ho (by omega)).mpr c4⟩)), by rw [ht]; exact hP, va_K.moved hW.alike hK, hD⟩, hS.F ht⟩) hS.2.2 dX2_errorOfReplace_49
      · skip
        have hFc := va_free (wc := MW b cI cZ cD mth msh mst msd mbi mpr mba mtn (nI n) mat mto mak mus mud mfs mfb mbo mso mpc mne) hD hS hA [0, 1, 2, 3, 4, 5, 6, 7, 8, 9, 10, 11, 12, 13, 14, 15] rfl
        refine va_calli (va_runV (As := [.int q]) (rest := []) ⟨hx, hb, hml, hown, hts⟩ (mX2_isQuarter l D cI cZ cD b _ mth msh mst msd mbi mpr mba mtn mat mto mak mus mud mfs mfb mbo mso mpc mne n hn q) (cwV 1 hts gX2_errorOfReplace_X2_isQuarter rfl rfl rfl (by decide +kernel) ⟨Nat.le_of_ble_eq_true rfl, Nat.le_of_ble_eq_true rfl⟩) ⟨xk_blind, va_recv hK hP (ci := 2) (q0 := 0) rfl rfl, xk_pre hP hK hD⟩ rfl rfl hl.1 rfl (lv_room (Nat.le_of_ble_eq_true rfl)) dX2_errorOfReplace_21 ⟨Nat.le_of_ble_eq_true rfl, Nat.le_of_ble_eq_true rfl⟩) hS (fun q _ h => hFc q h) hFc (fun r u t H locs ht hvm hw hB hz1 hk1 hS => ?_)
        obtain ⟨hP, -, hD1⟩ := hB
        rw [ht] at hP
        have hD := hD1.weaken (B := A) (fun _ _ _ h => hFc _ h)
        have hP : va_P D vwCl (MW b cI cZ cD mth msh mst msd mbi mpr mba mtn (nI n) mat mto mak mus mud mfs mfb mbo mso mpc mne) H := hP
        have hD : va_D A (MW b cI cZ cD mth msh mst msd mbi mpr mba mtn (nI n) mat mto mak mus mud mfs mfb mbo mso mpc mne) := hD
        obtain rfl : r = 0 := hw.trans (bI_f (h3))
        refine lv_if_ne (tgt := 31) hx hb dX2_errorOfReplace_24 (by decide) (fun c => absurd c (by decide)) (fun c => ?_)
        refine lv_iconst (v := nI 2) hx hb dX2_errorOfReplace_27 (by decide) ?_
        refine lv_goto (tgt := 49) hx hb dX2_errorOfReplace_28 (by decide) ?_
        exact W.iret hx hb hr (fun t ht hW => ⟨⟨_, (), rfl, Or.inr (Or.inr (Or.inl ⟨rfl, h1, h2, h3⟩)), by rw [ht]; exact hP, va_K.moved hW.alike hK, hD⟩, hS.F ht⟩) hS.2.2 dX2_errorOfReplace_49
    · skip
      refine vp_callSi (va_Run.run (va_runS (As := [.int use, .int (nI 0), .int (nI 50)]) (rest := []) ⟨hx, hb, hml, hown, hts⟩ (mX2_in l use (nI 0) (nI 50)) (va_cwS 3 hts gX2_errorOfReplace_X2_in rfl rfl rfl (by decide +kernel) ⟨Nat.le_of_ble_eq_true rfl, Nat.le_of_ble_eq_true rfl⟩) ⟨fun a U g mk q => q, fun U hU hW => ⟨rfl, trivial⟩⟩ rfl rfl hl.1 rfl (lv_room (Nat.le_of_ble_eq_true rfl)) dX2_errorOfReplace_11 ⟨Nat.le_of_ble_eq_true rfl, Nat.le_of_ble_eq_true rfl⟩)) (fun r hr1 => ?_)
      obtain rfl : r = 0 := hr1.trans (bI_f (h2))
      refine lv_if_ne (tgt := 19) hx hb dX2_errorOfReplace_14 (by decide) (fun c => absurd c (by decide)) (fun c => ?_)
      refine lv_iconst (v := nI 1) hx hb dX2_errorOfReplace_17 (by decide) ?_
      exact W.iret hx hb hr (fun t ht hW => ⟨⟨_, (), rfl, Or.inr (Or.inl ⟨rfl, fun z => h2 z.2⟩), by rw [ht]; exact hP, va_K.moved hW.alike hK, hD⟩, hS.F ht⟩) hS.2.2 dX2_errorOfReplace_18
  · skip
    refine vp_callSi (va_Run.run (va_runS (As := [.int x]) (rest := []) ⟨hx, hb, hml, hown, hts⟩ (mX2_isOwner l x) (va_cwS 1 hts gX2_errorOfReplace_X2_isOwner rfl rfl rfl (by decide +kernel) ⟨Nat.le_of_ble_eq_true rfl, Nat.le_of_ble_eq_true rfl⟩) ⟨fun a U g mk q => q, fun U hU hW => ⟨rfl, trivial⟩⟩ rfl rfl hl.1 rfl (lv_room (Nat.le_of_ble_eq_true rfl)) dX2_errorOfReplace_1 ⟨Nat.le_of_ble_eq_true rfl, Nat.le_of_ble_eq_true rfl⟩)) (fun r hr1 => ?_)
    obtain rfl : r = 0 := hr1.trans (bI_f (h1))
    refine lv_if_eq (tgt := 17) hx hb dX2_errorOfReplace_4 (by decide) (fun c => ?_) (fun c => absurd c (by decide))
    refine lv_iconst (v := nI 1) hx hb dX2_errorOfReplace_17 (by decide) ?_
    exact W.iret hx hb hr (fun t ht hW => ⟨⟨_, (), rfl, Or.inr (Or.inl ⟨rfl, fun z => h1 z.1⟩), by rw [ht]; exact hP, va_K.moved hW.alike hK, hD⟩, hS.F ht⟩) hS.2.2 dX2_errorOfReplace_18
set_option maxHeartbeats 4000000 in
set_option maxRecDepth 100000 in
theorem mX2_replaceV (l : Launch) (D : va_G) (cI cZ cD : ClassId) (b : Nat → Nat) (sz : Nat) (mth : Int32) (msh mst msd : Nat → Int32) (mbi : Nat → UInt64) (mpr mba : UInt64) (mtn : Int32) (mat mto mak : Nat → Int32) (mus mud mfs mfb mbo mso mpc mne : Nat → UInt64) (n o q : Nat) (use : Int32) (hn : n ≤ 60) (ho : o < 5) (hq : q < n) (hus : inR use 0 50) (hkn : mak (5 * q + o) = 0) : MetD lw_cs l yX2_replace wsX2_replace ({ frames := 3, cells := 0, slots := 0, locals := 66 } : Room) (va_Pc [.ref (b 0), .int (nI o), .int (nI q), .int use] (XP D cI cZ cD (MW b cI cZ cD mth msh mst msd mbi mpr mba mtn (nI n) mat mto mak mus mud mfs mfb mbo mso mpc mne) sz)) (va_Qd (fun (r : UInt64) (u : Nat → UInt64) => dt r = dMul (dSub (dI use) (dts mud (5 * q + o))) (dts mpc q) ∧ dts u = va_up (dts mbi) o (dAdd (dts mbi o) (dMul (dSub (dI use) (dts mud (5 * q + o))) (dts mpc q)))) (fun (u : Nat → UInt64) t => XB D cI cZ cD (MW b cI cZ cD 0 msh mst msd u mpr mba mtn (nI n) mat mto (upd mak (5 * q + o) 1) (vf_upd mus (5 * q + o) (FP.i2d use)) mud mfs mfb mbo mso mpc mne) (va_A (MW b cI cZ cD mth msh mst msd mbi mpr mba mtn (nI n) mat mto mak mus mud mfs mfb mbo mso mpc mne) sz) t) (va_A (MW b cI cZ cD mth msh mst msd mbi mpr mba mtn (nI n) mat mto mak mus mud mfs mfb mbo mso mpc mne) sz)) 0 0 (va_A (MW b cI cZ cD mth msh mst msd mbi mpr mba mtn (nI n) mat mto mak mus mud mfs mfb mbo mso mpc mne) sz) := by
  refine MetD.ofW (cc := cX2_replace) (maxL := 7) (ret := (some .double)) (by decide +kernel) rfl ?_
  intro p e s m args below meth c s₁ B hml hv hd0
  obtain ⟨rfl, hsz, hP, hK, hD0⟩ := hv
  have hx := B.exec
  have hb := B.bytes
  have hr := B.returns
  have hts := atoms_spec (ws := wsX2_replace) B.pre
  have hown : s.vm.findClass RX2 = some m.cls := findClass_of_methodNamed B.named
  have hlocks := B.notSynchronized
  subst hsz
  have hD := hD0.self (sz := s.heap.size)
  generalize hAe : va_A (MW b cI cZ cD mth msh mst msd mbi mpr mba mtn (nI n) mat mto mak mus mud mfs mfb mbo mso mpc mne) s.heap.size = A at hD ⊢
  have hA : ∀ q : Nat, s.heap.size ≤ q → A q := fun q h => by rw [← hAe]; exact Or.inr h
  have hS : va_S A s.heap s.heap [] := va_S.rf
  have hl := lv_entry ([.ref (b 0), .int (nI o), .int (nI q), .int use]) (n := 7) (Nat.le_of_ble_eq_true rfl)
  rw [lg_entry_eq]
  generalize (lg_sl ([.ref (b 0), .int (nI o), .int (nI q), .int use]) ++ List.replicate (7 - (lg_sl ([.ref (b 0), .int (nI o), .int (nI q), .int use])).length) Slot.unset).toArray = ls at hl ⊢
  have hl : lv_has ls 7 [(0, .ref (b 0)), (1, .int (nI o)), (2, .int (nI q)), (3, .int use)] := hl
  have inX2 : ∀ w ∈ wsX20, w ∈ wsX2_replace := by decide +kernel
  have h1 : inR (nI o) 0 4 := nI_inR (n := 4) (by omega) (by decide)
  have h2 : isQ n (nI q) := ⟨nI_pos' (by omega), nI_lt hq (by omega)⟩
  have h3 : ¬ kn mak (nI o) (nI q) := fun z => (kn_nI ho (by omega)).mp z hkn
  refine lv_aload_n hx hb dX2_replace_0 rfl (lv_at hl 0 rfl) ?_
  refine lv_aload_n hx hb dX2_replace_1 rfl (lv_at hl 0 rfl) ?_
  refine lv_iload_n hx hb dX2_replace_2 rfl (lv_at hl 1 rfl) ?_
  refine lv_iload_n hx hb dX2_replace_3 rfl (lv_at hl 2 rfl) ?_
  refine lv_iload_n hx hb dX2_replace_4 rfl (lv_at hl 3 rfl) ?_
  have hFc := va_free (wc := MW b cI cZ cD mth msh mst msd mbi mpr mba mtn (nI n) mat mto mak mus mud mfs mfb mbo mso mpc mne) hD hS hA [0, 1, 2, 3, 4, 5, 6, 7, 8, 9, 10, 11, 12, 13, 14, 15] rfl
  refine va_calli (va_runV (As := [.int (nI o), .int (nI q), .int use]) (rest := [.ref (b 0)]) ⟨hx, hb, hml, (xk_od hown), (dr_words hts _)⟩ (mX2_errorOfReplace l D cI cZ cD b _ mth msh mst msd mbi mpr mba mtn mat mto mak mus mud mfs mfb mbo mso mpc mne n hn (nI o) (nI q) use) (cwV 3 (dr_words hts _) gX2_replace_X2_errorOfReplace rfl rfl rfl (by decide +kernel) ⟨Nat.le_of_ble_eq_true rfl, Nat.le_of_ble_eq_true rfl⟩) ⟨xk_blind, va_recv (xk_Kd hK) hP (ci := 2) (q0 := 0) rfl rfl, xk_pre hP (xk_Kd hK) hD⟩ rfl rfl hl.1 rfl (lv_room (Nat.le_of_ble_eq_true rfl)) dX2_replace_5 ⟨Nat.le_of_ble_eq_true rfl, Nat.le_of_ble_eq_true rfl⟩) hS (fun q _ h => hFc q h) hFc (fun r u t H locs ht hvm hw hB hz1 hk1 hS => ?_)
  obtain ⟨hP, -, hD1⟩ := hB
  rw [ht] at hP
  have hD := hD1.weaken (B := A) (fun _ _ _ h => hFc _ h)
  have hP : va_P D vwCl (MW b cI cZ cD mth msh mst msd mbi mpr mba mtn (nI n) mat mto mak mus mud mfs mfb mbo mso mpc mne) H := hP
  have hD : va_D A (MW b cI cZ cD mth msh mst msd mbi mpr mba mtn (nI n) mat mto mak mus mud mfs mfb mbo mso mpc mne) := hD
  obtain rfl : r = 0 := by
    rcases hw with hw | hw | hw | hw
    · exact hw.1
    · exact absurd ⟨h1, hus⟩ hw.2
    · exact absurd h2 hw.2.2.2
    · exact absurd hw.2.2.2.2 h3
  have hFc := va_free (wc := MW b cI cZ cD mth msh mst msd mbi mpr mba mtn (nI n) mat mto mak mus mud mfs mfb mbo mso mpc mne) hD hS hA [0, 1, 2, 3, 4, 5, 6, 7, 8, 9, 10, 11, 12, 13, 14, 15] rfl
  refine va_calli (va_runV (As := [.int 0]) (rest := []) ⟨hx, hb, hml, (xk_od hown), (dr_words hts _)⟩ (mX2_holds l D cI cZ cD b _ mth msh mst msd mbi mpr mba mtn (nI n) mat mto mak mus mud mfs mfb mbo mso mpc mne (0)) (cwV 1 (dr_words hts _) gX2_replace_X2_holds rfl rfl rfl (by decide +kernel) ⟨Nat.le_of_ble_eq_true rfl, Nat.le_of_ble_eq_true rfl⟩) ⟨xk_blind, va_recv (xk_Kd hK) hP (ci := 2) (q0 := 0) rfl rfl, xk_pre hP (xk_Kd hK) hD⟩ rfl rfl hl.1 rfl (lv_room (Nat.le_of_ble_eq_true rfl)) dX2_replace_8 ⟨Nat.le_of_ble_eq_true rfl, Nat.le_of_ble_eq_true rfl⟩) hS (fun q _ h => hFc q h) hFc (fun r u t H locs ht hvm hw hB hz1 hk1 hS => ?_)
  obtain ⟨hP, -, hD1⟩ := hB
  rw [ht] at hP
  have hD := hD1.weaken (B := A) (fun _ _ _ h => hFc _ h)
  have hP : va_P D vwCl (MW b cI cZ cD 0 msh mst msd mbi mpr mba mtn (nI n) mat mto mak mus mud mfs mfb mbo mso mpc mne) H := hP
  have hD : va_D A (MW b cI cZ cD 0 msh mst msd mbi mpr mba mtn (nI n) mat mto mak mus mud mfs mfb mbo mso mpc mne) := hD
  obtain rfl : r = 1 := hw.trans (bI_t (by decide))
  refine lv_if_ne (tgt := 16) hx hb dX2_replace_11 (by decide) (fun c => ?_) (fun c => absurd c (by decide))
  refine lv_iconst (v := nI 5) hx hb dX2_replace_16 (by decide) ?_
  refine lv_iload_n hx hb dX2_replace_17 rfl (lv_at hl 2 rfl) ?_
  refine lv_imul hx hb dX2_replace_18 ?_
  refine lv_iload_n hx hb dX2_replace_19 rfl (lv_at hl 1 rfl) ?_
  refine lv_iadd hx hb dX2_replace_20 ?_
  refine xk_i (y := nI (5 * q + o)) (u5 q o) ?_
  refine lv_istore (lv' := [(4, .int (nI (5 * q + o))), (0, .ref (b 0)), (1, .int (nI o)), (2, .int (nI q)), (3, .int use)]) hx hb dX2_replace_21 hl (by decide) rfl (fun ls hl => ?_)
  refine lv_iload_n hx hb dX2_replace_23 rfl (lv_at hl 4 rfl) ?_
  refine lv_i2d hx hb dX2_replace_24 ?_
  refine lv_aload_n hx hb dX2_replace_25 rfl (lv_at hl 1 rfl) ?_
  refine va_get (D := D) (ci := 2) (v := .ref (b 9)) (C := RX2) (T := TX2) (N := 20) hx hb (dr_words hts _) inX2 (xk_od hown) (xk_Kd hK) hP 0 rfl rfl 13 (by decide) (dr_words hts _ (.fieldLink RX2 42 "GridCommonsModel" "used" "[D") (by decide +kernel)) (fun _ h9 => h9) rfl dX2_replace_26 ?_
  refine lv_iload hx hb dX2_replace_29 (lv_at hl 0 rfl) ?_
  refine xk_dald hx hb (xk_Kd hK) hP 9 2 rfl rfl (o := (5 * q + o)) (by omega) (by decide) dX2_replace_31 ?_
  refine lv_dsub_any hd0 lw_bits hx hb dX2_replace_32 (fun r3 _ hal hd4 => ?_)
  have er3 := dt_sub hal
  refine lv_aload_n hx hb dX2_replace_33 rfl (lv_at hl 1 rfl) ?_
  refine va_get (D := D) (ci := 2) (v := .ref (b 14)) (C := RX2) (T := TX2) (N := 20) hx hb (dr_words hts _) inX2 (xk_od hown) (xk_Kd hK) hP 0 rfl rfl 18 (by decide) (dr_words hts _ (.fieldLink RX2 57 "GridCommonsModel" "prices" "[D") (by decide +kernel)) (fun _ h9 => h9) rfl dX2_replace_34 ?_
  refine lv_iload_n hx hb dX2_replace_37 rfl (lv_at hl 3 rfl) ?_
  refine xk_dald hx hb (xk_Kd hK) hP 14 2 rfl rfl (o := q) (by omega) (by decide) dX2_replace_38 ?_
  refine lv_dmul_any hd4 lw_bits hx hb dX2_replace_39 (fun r5 _ hal hd6 => ?_)
  have er5 := dt_mul hal
  refine lv_dstore (lv' := [(5, .double r5), (4, .int (nI (5 * q + o))), (0, .ref (b 0)), (1, .int (nI o)), (2, .int (nI q)), (3, .int use)]) hx hb dX2_replace_40 hl (by decide) rfl (fun ls hl => ?_)
  refine lv_aload_n hx hb dX2_replace_42 rfl (lv_at hl 2 rfl) ?_
  refine va_get (D := D) (ci := 2) (v := .ref (b 7)) (C := RX2) (T := TX2) (N := 20) hx hb (dr_words hts _) inX2 (xk_od hown) (xk_Kd hK) hP 0 rfl rfl 11 (by decide) (dr_words hts _ (.fieldLink RX2 36 "GridCommonsModel" "areKnown" "[Z") (by decide +kernel)) (fun _ h9 => h9) rfl dX2_replace_43 ?_
  refine lv_iload hx hb dX2_replace_46 (lv_at hl 1 rfl) ?_
  refine lv_iconst (v := nI 1) hx hb dX2_replace_48 (by decide) ?_
  refine xk_zast (x' := 1) hx hb (xk_Kd hK) hP hD hS 7 1 rfl rfl (o := (5 * q + o)) (by omega) (by decide) rfl dX2_replace_49 (fun H locs hP hD hS => ?_)
  have hP : va_P D vwCl (MW b cI cZ cD 0 msh mst msd mbi mpr mba mtn (nI n) mat mto (upd mak (5 * q + o) 1) mus mud mfs mfb mbo mso mpc mne) H := hP
  have hD : va_D A (MW b cI cZ cD 0 msh mst msd mbi mpr mba mtn (nI n) mat mto (upd mak (5 * q + o) 1) mus mud mfs mfb mbo mso mpc mne) := hD
  refine lv_aload_n hx hb dX2_replace_50 rfl (lv_at hl 2 rfl) ?_
  refine va_get (D := D) (ci := 2) (v := .ref (b 8)) (C := RX2) (T := TX2) (N := 20) hx hb (dr_words hts _) inX2 (xk_od hown) (xk_Kd hK) hP 0 rfl rfl 12 (by decide) (dr_words hts _ (.fieldLink RX2 39 "GridCommonsModel" "uses" "[D") (by decide +kernel)) (fun _ h9 => h9) rfl dX2_replace_51 ?_
  refine lv_iload hx hb dX2_replace_54 (lv_at hl 1 rfl) ?_
  refine lv_iload_n hx hb dX2_replace_56 rfl (lv_at hl 5 rfl) ?_
  refine lv_i2d hx hb dX2_replace_57 ?_
  refine xk_dast hx hb (xk_Kd hK) hP hD hS 8 2 rfl rfl (o := (5 * q + o)) (by omega) (by decide) dX2_replace_58 (fun H locs hP hD hS => ?_)
  have hP : va_P D vwCl (MW b cI cZ cD 0 msh mst msd mbi mpr mba mtn (nI n) mat mto (upd mak (5 * q + o) 1) (vf_upd mus (5 * q + o) (FP.i2d use)) mud mfs mfb mbo mso mpc mne) H := hP
  have hD : va_D A (MW b cI cZ cD 0 msh mst msd mbi mpr mba mtn (nI n) mat mto (upd mak (5 * q + o) 1) (vf_upd mus (5 * q + o) (FP.i2d use)) mud mfs mfb mbo mso mpc mne) := hD
  refine lv_aload_n hx hb dX2_replace_59 rfl (lv_at hl 2 rfl) ?_
  refine va_get (D := D) (ci := 2) (v := .ref (b 4)) (C := RX2) (T := TX2) (N := 20) hx hb (dr_words hts _) inX2 (xk_od hown) (xk_Kd hK) hP 0 rfl rfl 4 (by decide) (dr_words hts _ (.fieldLink RX2 20 "GridCommonsModel" "bills" "[D") (by decide +kernel)) (fun _ h9 => h9) rfl dX2_replace_60 ?_
  refine lv_iload_n hx hb dX2_replace_63 rfl (lv_at hl 3 rfl) ?_
  refine lv_dup2_11 hx hb dX2_replace_64 rfl rfl ?_
  refine xk_dald hx hb (xk_Kd hK) hP 4 2 rfl rfl (o := o) (by omega) (by decide) dX2_replace_65 ?_
  refine lv_dload hx hb dX2_replace_66 (lv_at hl 0 rfl) ?_
  refine lv_dadd_any hd6 lw_bits hx hb dX2_replace_68 (fun r7 _ hal hd8 => ?_)
  have er7 := dt_add hal
  refine xk_dast hx hb (xk_Kd hK) hP hD hS 4 2 rfl rfl (o := o) (by omega) (by decide) dX2_replace_69 (fun H locs hP hD hS => ?_)
  have hP : va_P D vwCl (MW b cI cZ cD 0 msh mst msd (vf_upd mbi o r7) mpr mba mtn (nI n) mat mto (upd mak (5 * q + o) 1) (vf_upd mus (5 * q + o) (FP.i2d use)) mud mfs mfb mbo mso mpc mne) H := hP
  have hD : va_D A (MW b cI cZ cD 0 msh mst msd (vf_upd mbi o r7) mpr mba mtn (nI n) mat mto (upd mak (5 * q + o) 1) (vf_upd mus (5 * q + o) (FP.i2d use)) mud mfs mfb mbo mso mpc mne) := hD
  refine lv_dload hx hb dX2_replace_70 (lv_at hl 0 rfl) ?_
  have ec : dt r5 = dMul (dSub (dI use) (dts mud (5 * q + o))) (dts mpc q) := by rw [er5, er3] <;> rfl
  refine W.endD hd8 ?_
  exact W.dret hx hb hr (fun t ht hW => ⟨⟨_, (vf_upd mbi o r7), rfl, ⟨ec, by rw [dts_up, er7, ec] <;> rfl⟩, by rw [ht]; exact hP, va_K.moved hW.alike (xk_Kd hK), hD⟩, hS.F ht⟩) hS.2.2 dX2_replace_72
set_option maxHeartbeats 4000000 in
set_option maxRecDepth 100000 in
theorem mX2_replaceX (l : Launch) (D : va_G) (cI cZ cD : ClassId) (b : Nat → Nat) (sz : Nat) (mth : Int32) (msh mst msd : Nat → Int32) (mbi : Nat → UInt64) (mpr mba : UInt64) (mtn : Int32) (mat mto mak : Nat → Int32) (mus mud mfs mfb mbo mso mpc mne : Nat → UInt64) (n : Nat) (hn : n ≤ 60) (x q use : Int32) (hbad : ¬ (inR x 0 4 ∧ inR use 0 50 ∧ isQ n q ∧ ¬ kn mak x q)) : Met l yX2_replace wsX2_replace ({ frames := 3, cells := 0, slots := 0, locals := 66 } : Room) (va_Pc [.ref (b 0), .int x, .int q, .int use] (XP D cI cZ cD (MW b cI cZ cD mth msh mst msd mbi mpr mba mtn (nI n) mat mto mak mus mud mfs mfb mbo mso mpc mne) sz)) (va_Qd (fun (r : UInt64) (u : Int32) => (u = 1 ∧ ¬ (inR x 0 4 ∧ inR use 0 50)) ∨ (u = 2 ∧ inR x 0 4 ∧ inR use 0 50 ∧ ¬ isQ n q) ∨ (u = 3 ∧ inR x 0 4 ∧ inR use 0 50 ∧ isQ n q ∧ kn mak x q)) (fun (u : Int32) t => XB D cI cZ cD (MW b cI cZ cD u msh mst msd mbi mpr mba mtn (nI n) mat mto mak mus mud mfs mfb mbo mso mpc mne) (va_A (MW b cI cZ cD mth msh mst msd mbi mpr mba mtn (nI n) mat mto mak mus mud mfs mfb mbo mso mpc mne) sz) t) (va_A (MW b cI cZ cD mth msh mst msd mbi mpr mba mtn (nI n) mat mto mak mus mud mfs mfb mbo mso mpc mne) sz)) 0 0 (va_A (MW b cI cZ cD mth msh mst msd mbi mpr mba mtn (nI n) mat mto mak mus mud mfs mfb mbo mso mpc mne) sz) := by
  refine Met.ofW (cc := cX2_replace) (maxL := 7) (ret := (some .double)) (by decide +kernel) rfl ?_
  intro p e s m args below meth c s₁ B hml hv
  obtain ⟨rfl, hsz, hP, hK, hD0⟩ := hv
  have hx := B.exec
  have hb := B.bytes
  have hr := B.returns
  have hts := atoms_spec (ws := wsX2_replace) B.pre
  have hown : s.vm.findClass RX2 = some m.cls := findClass_of_methodNamed B.named
  have hlocks := B.notSynchronized
  subst hsz
  have hD := hD0.self (sz := s.heap.size)
  generalize hAe : va_A (MW b cI cZ cD mth msh mst msd mbi mpr mba mtn (nI n) mat mto mak mus mud mfs mfb mbo mso mpc mne) s.heap.size = A at hD ⊢
  have hA : ∀ q : Nat, s.heap.size ≤ q → A q := fun q h => by rw [← hAe]; exact Or.inr h
  have hS : va_S A s.heap s.heap [] := va_S.rf
  have hl := lv_entry ([.ref (b 0), .int x, .int q, .int use]) (n := 7) (Nat.le_of_ble_eq_true rfl)
  rw [lg_entry_eq]
  generalize (lg_sl ([.ref (b 0), .int x, .int q, .int use]) ++ List.replicate (7 - (lg_sl ([.ref (b 0), .int x, .int q, .int use])).length) Slot.unset).toArray = ls at hl ⊢
  have hl : lv_has ls 7 [(0, .ref (b 0)), (1, .int x), (2, .int q), (3, .int use)] := hl
  have inX2 : ∀ w ∈ wsX20, w ∈ wsX2_replace := by decide +kernel
  refine lv_aload_n hx hb dX2_replace_0 rfl (lv_at hl 0 rfl) ?_
  refine lv_aload_n hx hb dX2_replace_1 rfl (lv_at hl 0 rfl) ?_
  refine lv_iload_n hx hb dX2_replace_2 rfl (lv_at hl 1 rfl) ?_
  refine lv_iload_n hx hb dX2_replace_3 rfl (lv_at hl 2 rfl) ?_
  refine lv_iload_n hx hb dX2_replace_4 rfl (lv_at hl 3 rfl) ?_
  have hFc := va_free (wc := MW b cI cZ cD mth msh mst msd mbi mpr mba mtn (nI n) mat mto mak mus mud mfs mfb mbo mso mpc mne) hD hS hA [0, 1, 2, 3, 4, 5, 6, 7, 8, 9, 10, 11, 12, 13, 14, 15] rfl
  refine va_calli (va_runV (As := [.int x, .int q, .int use]) (rest := [.ref (b 0)]) ⟨hx, hb, hml, hown, hts⟩ (mX2_errorOfReplace l D cI cZ cD b _ mth msh mst msd mbi mpr mba mtn mat mto mak mus mud mfs mfb mbo mso mpc mne n hn x q use) (cwV 3 hts gX2_replace_X2_errorOfReplace rfl rfl rfl (by decide +kernel) ⟨Nat.le_of_ble_eq_true rfl, Nat.le_of_ble_eq_true rfl⟩) ⟨xk_blind, va_recv hK hP (ci := 2) (q0 := 0) rfl rfl, xk_pre hP hK hD⟩ rfl rfl hl.1 rfl (lv_room (Nat.le_of_ble_eq_true rfl)) dX2_replace_5 ⟨Nat.le_of_ble_eq_true rfl, Nat.le_of_ble_eq_true rfl⟩) hS (fun q _ h => hFc q h) hFc (fun r u t H locs ht hvm hw hB hz1 hk1 hS => ?_)
  obtain ⟨hP, -, hD1⟩ := hB
  rw [ht] at hP
  have hD := hD1.weaken (B := A) (fun _ _ _ h => hFc _ h)
  have hP : va_P D vwCl (MW b cI cZ cD mth msh mst msd mbi mpr mba mtn (nI n) mat mto mak mus mud mfs mfb mbo mso mpc mne) H := hP
  have hD : va_D A (MW b cI cZ cD mth msh mst msd mbi mpr mba mtn (nI n) mat mto mak mus mud mfs mfb mbo mso mpc mne) := hD
  have hr0 : ¬ r = 0 := by
    intro z; subst z
    rcases hw with hw | hw | hw | hw
    · exact hbad hw.2
    · exact absurd hw.1 (by decide)
    · exact absurd hw.1 (by decide)
    · exact absurd hw.1 (by decide)
  have hw2 := hw.resolve_left (fun z => hr0 z.1)
  obtain ⟨z, rfl⟩ : ∃ z, z = r := ⟨_, rfl⟩
  have hFc := va_free (wc := MW b cI cZ cD mth msh mst msd mbi mpr mba mtn (nI n) mat mto mak mus mud mfs mfb mbo mso mpc mne) hD hS hA [0, 1, 2, 3, 4, 5, 6, 7, 8, 9, 10, 11, 12, 13, 14, 15] rfl
  refine va_calli (va_runV (As := [.int z]) (rest := []) ⟨hx, hb, hml, hown, hts⟩ (mX2_holds l D cI cZ cD b _ mth msh mst msd mbi mpr mba mtn (nI n) mat mto mak mus mud mfs mfb mbo mso mpc mne z) (cwV 1 hts gX2_replace_X2_holds rfl rfl rfl (by decide +kernel) ⟨Nat.le_of_ble_eq_true rfl, Nat.le_of_ble_eq_true rfl⟩) ⟨xk_blind, va_recv hK hP (ci := 2) (q0 := 0) rfl rfl, xk_pre hP hK hD⟩ rfl rfl hl.1 rfl (lv_room (Nat.le_of_ble_eq_true rfl)) dX2_replace_8 ⟨Nat.le_of_ble_eq_true rfl, Nat.le_of_ble_eq_true rfl⟩) hS (fun q _ h => hFc q h) hFc (fun r u t H locs ht hvm hw hB hz1 hk1 hS => ?_)
  obtain ⟨hP, -, hD1⟩ := hB
  rw [ht] at hP
  have hD := hD1.weaken (B := A) (fun _ _ _ h => hFc _ h)
  have hP : va_P D vwCl (MW b cI cZ cD z msh mst msd mbi mpr mba mtn (nI n) mat mto mak mus mud mfs mfb mbo mso mpc mne) H := hP
  have hD : va_D A (MW b cI cZ cD z msh mst msd mbi mpr mba mtn (nI n) mat mto mak mus mud mfs mfb mbo mso mpc mne) := hD
  obtain rfl : r = 0 := hw.trans (bI_f hr0)
  refine lv_if_ne (tgt := 16) hx hb dX2_replace_11 (by decide) (fun c => absurd c (by decide)) (fun c => ?_)
  refine lv_dconst0 hx hb dX2_replace_14 ?_
  exact W.dret hx hb hr (fun t ht hW => ⟨⟨_, z, rfl, hw2, by rw [ht]; exact hP, va_K.moved hW.alike hK, hD⟩, hS.F ht⟩) hS.2.2 dX2_replace_15
