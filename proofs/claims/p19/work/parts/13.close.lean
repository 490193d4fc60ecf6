/-! GridCommons.close -/
set_option maxHeartbeats 4000000 in
set_option maxRecDepth 100000 in
theorem mX1_closeV (l : Launch) (D : va_G) (cI cZ cD : ClassId) (a : Nat → Nat) (sz : Nat) (sh sw ts : Nat → Int32) (bi : Nat → UInt64) (it tu : Nat → Int32) (ne : Nat → UInt64) (pr so lo : UInt64) (lp lz lu : Nat → UInt64) (lk : Nat → Int32) (ld lf lb lw : Nat → UInt64) (n tr : Nat) (sun : Int32) (hn : n < 60) (htr : tr < 5) (hsun : inR sun 0 100) (hit : ∀ j, it j = 0 ∨ it j = 1) : MetD lw_cs l yX1_close wsX1_close ({ frames := 3, cells := 0, slots := 0, locals := 72 } : Room) (va_Pc [.ref (a 0), .int sun] (XP D cI cZ cD (XW a cI cZ cD sh sw ts bi it tu ne pr so lo (nI tr) (nI n) lp lz lu lk ld lf lb lw) sz)) (va_Qi (fun (r : Int32) (u : ((Nat → Int32) × (Nat → UInt64) × (Nat → UInt64) × UInt64) × ((Nat → UInt64) × (Nat → UInt64) × UInt64 × (Nat → UInt64)) × ((Nat → UInt64) × Nat × (Nat → UInt64) × (Nat → UInt64))) => r = bI (over ((cT sw ts it tu lk (dts lu) n).2)) ∧ u.1.1 = (cT sw ts it tu lk (dts lu) n).1 ∧ dts u.1.2.1 = po (5 * n) 5 (dts lu) (use0 it tu lk (dts lu) n) ∧ dts u.2.1.1 = po (5 * n) 5 (dts ld) ((cT sw ts it tu lk (dts lu) n).2) ∧ dts u.2.1.2.1 = kF sun sh ((cT sw ts it tu lk (dts lu) n).2) n (dts lf) ∧ dts u.2.1.2.2.2 = kZ sun sh ((cT sw ts it tu lk (dts lu) n).2) (dt so) (dts lz) n ∧ dt u.2.1.2.2.1 = (kB sun sh ((cT sw ts it tu lk (dts lu) n).2) (dt so) (dts lb) tr n).2.1 ∧ dts u.2.2.1 = (kB sun sh ((cT sw ts it tu lk (dts lu) n).2) (dt so) (dts lb) tr n).2.2.1 ∧ u.2.2.2.1 = (kB sun sh ((cT sw ts it tu lk (dts lu) n).2) (dt so) (dts lb) tr n).2.2.2 ∧ dts u.2.2.2.2.1 = po (5 * n) 5 (dts lw) (kB sun sh ((cT sw ts it tu lk (dts lu) n).2) (dt so) (dts lb) tr n).1 ∧ dts u.2.2.2.2.2 = kI sun sh ((cT sw ts it tu lk (dts lu) n).2) (dt so) (dts lz) (dts bi) (dt pr) (dts lb) tr n) (fun (u : ((Nat → Int32) × (Nat → UInt64) × (Nat → UInt64) × UInt64) × ((Nat → UInt64) × (Nat → UInt64) × UInt64 × (Nat → UInt64)) × ((Nat → UInt64) × Nat × (Nat → UInt64) × (Nat → UInt64))) t => XB D cI cZ cD (XW a cI cZ cD sh sw u.1.1 u.2.2.2.2.2 (po 0 5 it (fun _ => 0)) tu u.1.2.2.1 pr u.2.1.2.2.1 u.1.2.2.2 (nI u.2.2.2.1) (nI (n + 1)) (vf_upd lp n pr) u.2.1.2.2.2 u.1.2.1 (po (5 * n) 5 lk it) u.2.1.1 u.2.1.2.1 u.2.2.1 u.2.2.2.2.1) (va_A (XW a cI cZ cD sh sw ts bi it tu ne pr so lo (nI tr) (nI n) lp lz lu lk ld lf lb lw) sz) t) (va_A (XW a cI cZ cD sh sw ts bi it tu ne pr so lo (nI tr) (nI n) lp lz lu lk ld lf lb lw) sz)) 0 0 (va_A (XW a cI cZ cD sh sw ts bi it tu ne pr so lo (nI tr) (nI n) lp lz lu lk ld lf lb lw) sz) := by
  refine MetD.ofW (cc := cX1_close) (maxL := 4) (ret := (some .boolean)) (by decide +kernel) rfl ?_
  intro p e s m args below meth c s₁ B hml hv hd0
  obtain ⟨rfl, hsz, hP, hK, hD0⟩ := hv
  have hx := B.exec
  have hb := B.bytes
  have hr := B.returns
  have hts := atoms_spec (ws := wsX1_close) B.pre
  have hown : s.vm.findClass RX1 = some m.cls := findClass_of_methodNamed B.named
  have hlocks := B.notSynchronized
  subst hsz
  have hD := hD0.self (sz := s.heap.size)
  generalize hAe : va_A (XW a cI cZ cD sh sw ts bi it tu ne pr so lo (nI tr) (nI n) lp lz lu lk ld lf lb lw) s.heap.size = A at hD ⊢
  have hA : ∀ q : Nat, s.heap.size ≤ q → A q := fun q h => by rw [← hAe]; exact Or.inr h
  have hS : va_S A s.heap s.heap [] := va_S.rf
  have hl := lv_entry ([.ref (a 0), .int sun]) (n := 4) (Nat.le_of_ble_eq_true rfl)
  rw [lg_entry_eq]
  generalize (lg_sl ([.ref (a 0), .int sun]) ++ List.replicate (4 - (lg_sl ([.ref (a 0), .int sun])).length) Slot.unset).toArray = ls at hl ⊢
  have hl : lv_has ls 4 [(0, .ref (a 0)), (1, .int sun)] := hl
  have inX1 : ∀ w ∈ wsX10, w ∈ wsX1_close := by decide +kernel
  have inX0 : ∀ w ∈ wsX00, w ∈ wsX1_close := by decide +kernel
  refine lv_iload_n hx hb dX1_close_0 rfl (lv_at hl 1 rfl) ?_
  refine lv_iconst (v := nI 0) hx hb dX1_close_1 (by decide) ?_
  refine lv_bipush (v := nI 100) hx hb dX1_close_2 (by decide) ?_
  refine va_csv (va_Run.run (va_runS (As := [.int sun, .int (nI 0), .int (nI 100)]) (rest := []) ⟨hx, hb, hml, (xk_od hown), (dr_words hts _)⟩ (mX1_requireWithinV l sun (nI 0) (nI 100) hsun) (va_cwS 3 (dr_words hts _) gX1_close_X1_requireWithin rfl rfl rfl (by decide +kernel) ⟨Nat.le_of_ble_eq_true rfl, Nat.le_of_ble_eq_true rfl⟩) ⟨fun a U g mk q => q, fun U hU hW => ⟨rfl, trivial⟩⟩ rfl rfl hl.1 rfl (lv_room (Nat.le_of_ble_eq_true rfl)) dX1_close_4 ⟨Nat.le_of_ble_eq_true rfl, Nat.le_of_ble_eq_true rfl⟩)) (fun _ => ?_)
  refine lv_aload_n hx hb dX1_close_7 rfl (lv_at hl 0 rfl) ?_
  refine va_get (D := D) (ci := 1) (v := .ref (a 8)) (C := RX1) (T := TX1) (N := 12) hx hb (dr_words hts _) inX1 (xk_od hown) (xk_Kd hK) hP 0 rfl rfl 6 (by decide) (dr_words hts _ (.fieldLink RX1 33 "GridCommons" "ledger" "LGridCommons$Ledger;") (by decide +kernel)) (fun _ h9 => h9) rfl dX1_close_8 ?_
  refine va_get (D := D) (ci := 0) (v := .int (nI n)) (C := RX0) (T := TX0) (N := 9) hx hb (dr_words hts _) inX0 (xk_od hown) (xk_Kd hK) hP 8 rfl rfl 0 (by decide) (dr_words hts _ (.fieldLink RX1 77 "GridCommons$Ledger" "count" "I") (by decide +kernel)) (fun _ h9 => h9) rfl dX1_close_11 ?_
  refine lv_istore_n (lv' := [(2, .int (nI n)), (0, .ref (a 0)), (1, .int sun)]) hx hb dX1_close_14 rfl hl (by decide) rfl (fun ls hl => ?_)
  refine lv_iload_n hx hb dX1_close_15 rfl (lv_at hl 0 rfl) ?_
  refine lv_bipush (v := nI 60) hx hb dX1_close_16 (by decide) ?_
  refine lv_icmp_lt (tgt := 31) hx hb dX1_close_18 (by decide) (fun c => ?_) (fun c => ?_)
  · skip
    refine lv_aload_n hx hb dX1_close_31 rfl (lv_at hl 1 rfl) ?_
    refine va_get (D := D) (ci := 1) (v := .ref (a 8)) (C := RX1) (T := TX1) (N := 12) hx hb (dr_words hts _) inX1 (xk_od hown) (xk_Kd hK) hP 0 rfl rfl 6 (by decide) (dr_words hts _ (.fieldLink RX1 33 "GridCommons" "ledger" "LGridCommons$Ledger;") (by decide +kernel)) (fun _ h9 => h9) rfl dX1_close_32 ?_
    refine va_get (D := D) (ci := 0) (v := .ref (a 9)) (C := RX0) (T := TX0) (N := 9) hx hb (dr_words hts _) inX0 (xk_od hown) (xk_Kd hK) hP 8 rfl rfl 1 (by decide) (dr_words hts _ (.fieldLink RX1 82 "GridCommons$Ledger" "price" "[D") (by decide +kernel)) (fun _ h9 => h9) rfl dX1_close_35 ?_
    refine lv_iload_n hx hb dX1_close_38 rfl (lv_at hl 0 rfl) ?_
    refine lv_aload_n hx hb dX1_close_39 rfl (lv_at hl 1 rfl) ?_
    refine va_get (D := D) (ci := 1) (v := .double pr) (C := RX1) (T := TX1) (N := 12) hx hb (dr_words hts _) inX1 (xk_od hown) (xk_Kd hK) hP 0 rfl rfl 7 (by decide) (dr_words hts _ (.fieldLink RX1 39 "GridCommons" "price" "D") (by decide +kernel)) (fun _ h9 => h9) rfl dX1_close_40 ?_
    refine xk_dast hx hb (xk_Kd hK) hP hD hS 9 2 rfl rfl (o := n) (by omega) (by decide) dX1_close_43 (fun H locs hP hD hS => ?_)
    have hP : va_P D vwCl (XW a cI cZ cD sh sw ts bi it tu ne pr so lo (nI tr) (nI n) (vf_upd lp n pr) lz lu lk ld lf lb lw) H := hP
    have hD : va_D A (XW a cI cZ cD sh sw ts bi it tu ne pr so lo (nI tr) (nI n) (vf_upd lp n pr) lz lu lk ld lf lb lw) := hD
    refine lv_aload_n hx hb dX1_close_44 rfl (lv_at hl 1 rfl) ?_
    refine lv_iload_n hx hb dX1_close_45 rfl (lv_at hl 0 rfl) ?_
    have hFc := va_free (wc := XW a cI cZ cD sh sw ts bi it tu ne pr so lo (nI tr) (nI n) (vf_upd lp n pr) lz lu lk ld lf lb lw) hD hS hA [0, 1, 2, 3, 4, 5, 6, 7, 8, 9, 10, 11, 12, 13, 14, 15, 16] rfl
    refine va_callvD hd0 (va_runV_D (As := [.int (nI n)]) (rest := []) ⟨hx, hb, hml, (xk_od hown), (dr_words hts _)⟩ (mX1_writeUses l D cI cZ cD a _ sh sw ts bi it tu ne pr so lo (nI tr) (vf_upd lp n pr) lz lu lk ld lf lb lw n hn hit) (cwV 1 (dr_words hts _) gX1_close_X1_writeUses rfl rfl rfl (by decide +kernel) ⟨Nat.le_of_ble_eq_true rfl, Nat.le_of_ble_eq_true rfl⟩) ⟨xk_blind, va_recv (xk_Kd hK) hP (ci := 1) (q0 := 0) rfl rfl, xk_pre hP (xk_Kd hK) hD⟩ rfl rfl hl.1 rfl (lv_room (Nat.le_of_ble_eq_true rfl)) dX1_close_46 ⟨Nat.le_of_ble_eq_true rfl, Nat.le_of_ble_eq_true rfl⟩) hS (fun q _ h => hFc q h) hFc (fun u t H locs ht hvm hw hB hz1 hk1 hS _ hd1 => ?_)
    obtain ⟨lu1, ne1⟩ := u
    obtain ⟨hP, -, hD1⟩ := hB
    rw [ht] at hP
    have hD := hD1.weaken (B := A) (fun _ _ _ h => hFc _ h)
    have hP : va_P D vwCl (XW a cI cZ cD sh sw ts bi (po 0 5 it (fun _ => 0)) tu ne1 pr so lo (nI tr) (nI n) (vf_upd lp n pr) lz lu1 (po (5 * n) 5 lk it) ld lf lb lw) H := hP
    have hD : va_D A (XW a cI cZ cD sh sw ts bi (po 0 5 it (fun _ => 0)) tu ne1 pr so lo (nI tr) (nI n) (vf_upd lp n pr) lz lu1 (po (5 * n) 5 lk it) ld lf lb lw) := hD
    obtain ⟨ha1, ha2⟩ := hw
    refine lv_aload_n hx hb dX1_close_49 rfl (lv_at hl 1 rfl) ?_
    have hFc := va_free (wc := XW a cI cZ cD sh sw ts bi (po 0 5 it (fun _ => 0)) tu ne1 pr so lo (nI tr) (nI n) (vf_upd lp n pr) lz lu1 (po (5 * n) 5 lk it) ld lf lb lw) hD hS hA [0, 1, 2, 3, 4, 5, 6, 7, 8, 9, 10, 11, 12, 13, 14, 15, 16] rfl
    refine va_callvD hd1 (va_runV_D (As := []) (rest := []) ⟨hx, hb, hml, (xk_od hown), (dr_words hts _)⟩ (mX1_shedUntilCarried l D cI cZ cD a _ sh sw ts bi (po 0 5 it (fun _ => 0)) tu ne1 pr so lo (nI tr) (nI n) (vf_upd lp n pr) lz lu1 (po (5 * n) 5 lk it) ld lf lb lw _ ha2) (cwV 0 (dr_words hts _) gX1_close_X1_shedUntilCarried rfl rfl rfl (by decide +kernel) ⟨Nat.le_of_ble_eq_true rfl, Nat.le_of_ble_eq_true rfl⟩) ⟨xk_blind, va_recv (xk_Kd hK) hP (ci := 1) (q0 := 0) rfl rfl, xk_pre hP (xk_Kd hK) hD⟩ rfl rfl hl.1 rfl (lv_room (Nat.le_of_ble_eq_true rfl)) dX1_close_50 ⟨Nat.le_of_ble_eq_true rfl, Nat.le_of_ble_eq_true rfl⟩) hS (fun q _ h => hFc q h) hFc (fun u t H locs ht hvm hw hB hz1 hk1 hS _ hd2 => ?_)
    obtain ⟨ts1, ne2⟩ := u
    obtain ⟨hP, -, hD1⟩ := hB
    rw [ht] at hP
    have hD := hD1.weaken (B := A) (fun _ _ _ h => hFc _ h)
    have hP : va_P D vwCl (XW a cI cZ cD sh sw ts1 bi (po 0 5 it (fun _ => 0)) tu ne2 pr so lo (nI tr) (nI n) (vf_upd lp n pr) lz lu1 (po (5 * n) 5 lk it) ld lf lb lw) H := hP
    have hD : va_D A (XW a cI cZ cD sh sw ts1 bi (po 0 5 it (fun _ => 0)) tu ne2 pr so lo (nI tr) (nI n) (vf_upd lp n pr) lz lu1 (po (5 * n) 5 lk it) ld lf lb lw) := hD
    obtain ⟨hb1, hb2⟩ := hw
    refine lv_aload_n hx hb dX1_close_53 rfl (lv_at hl 1 rfl) ?_
    have hFc := va_free (wc := XW a cI cZ cD sh sw ts1 bi (po 0 5 it (fun _ => 0)) tu ne2 pr so lo (nI tr) (nI n) (vf_upd lp n pr) lz lu1 (po (5 * n) 5 lk it) ld lf lb lw) hD hS hA [0, 1, 2, 3, 4, 5, 6, 7, 8, 9, 10, 11, 12, 13, 14, 15, 16] rfl
    refine va_calliD hd2 (va_runV_D (As := []) (rest := []) ⟨hx, hb, hml, (xk_od hown), (dr_words hts _)⟩ (mX1_isOverLine l D cI cZ cD a _ sh sw ts1 bi (po 0 5 it (fun _ => 0)) tu ne2 pr so lo (nI tr) (nI n) (vf_upd lp n pr) lz lu1 (po (5 * n) 5 lk it) ld lf lb lw _ hb2) (cwV 0 (dr_words hts _) gX1_close_X1_isOverLine rfl rfl rfl (by decide +kernel) ⟨Nat.le_of_ble_eq_true rfl, Nat.le_of_ble_eq_true rfl⟩) ⟨xk_blind, va_recv (xk_Kd hK) hP (ci := 1) (q0 := 0) rfl rfl, xk_pre hP (xk_Kd hK) hD⟩ rfl rfl hl.1 rfl (lv_room (Nat.le_of_ble_eq_true rfl)) dX1_close_54 ⟨Nat.le_of_ble_eq_true rfl, Nat.le_of_ble_eq_true rfl⟩) hS (fun q _ h => hFc q h) hFc (fun ov u t H locs ht hvm hw hB hz1 hk1 hS _ hd3 => ?_)
    obtain ⟨hP, -, hD1⟩ := hB
    rw [ht] at hP
    have hD := hD1.weaken (B := A) (fun _ _ _ h => hFc _ h)
    have hP : va_P D vwCl (XW a cI cZ cD sh sw ts1 bi (po 0 5 it (fun _ => 0)) tu ne2 pr so lo (nI tr) (nI n) (vf_upd lp n pr) lz lu1 (po (5 * n) 5 lk it) ld lf lb lw) H := hP
    have hD : va_D A (XW a cI cZ cD sh sw ts1 bi (po 0 5 it (fun _ => 0)) tu ne2 pr so lo (nI tr) (nI n) (vf_upd lp n pr) lz lu1 (po (5 * n) 5 lk it) ld lf lb lw) := hD
    have hov := hw
    refine lv_istore_n (lv' := [(3, .int ov), (2, .int (nI n)), (0, .ref (a 0)), (1, .int sun)]) hx hb dX1_close_57 rfl hl (by decide) rfl (fun ls hl => ?_)
    refine lv_aload_n hx hb dX1_close_58 rfl (lv_at hl 2 rfl) ?_
    refine lv_iload_n hx hb dX1_close_59 rfl (lv_at hl 1 rfl) ?_
    have hFc := va_free (wc := XW a cI cZ cD sh sw ts1 bi (po 0 5 it (fun _ => 0)) tu ne2 pr so lo (nI tr) (nI n) (vf_upd lp n pr) lz lu1 (po (5 * n) 5 lk it) ld lf lb lw) hD hS hA [0, 1, 2, 3, 4, 5, 6, 7, 8, 9, 10, 11, 12, 13, 14, 15, 16] rfl
    refine va_callv (va_runV (As := [.int (nI n)]) (rest := []) ⟨hx, hb, hml, (xk_od hown), (dr_words hts _)⟩ (mX1_writeUsed l D cI cZ cD a _ sh sw ts1 bi (po 0 5 it (fun _ => 0)) tu ne2 pr so lo (nI tr) (nI n) (vf_upd lp n pr) lz lu1 (po (5 * n) 5 lk it) ld lf lb lw n hn _ hb2) (cwV 1 (dr_words hts _) gX1_close_X1_writeUsed rfl rfl rfl (by decide +kernel) ⟨Nat.le_of_ble_eq_true rfl, Nat.le_of_ble_eq_true rfl⟩) ⟨xk_blind, va_recv (xk_Kd hK) hP (ci := 1) (q0 := 0) rfl rfl, xk_pre hP (xk_Kd hK) hD⟩ rfl rfl hl.1 rfl (lv_room (Nat.le_of_ble_eq_true rfl)) dX1_close_60 ⟨Nat.le_of_ble_eq_true rfl, Nat.le_of_ble_eq_true rfl⟩) hS (fun q _ h => hFc q h) hFc (fun u t H locs ht hvm hw hB hz1 hk1 hS => ?_)
    obtain ⟨ld1, rfl⟩ : ∃ z, z = u := ⟨_, rfl⟩
    obtain ⟨hP, -, hD1⟩ := hB
    rw [ht] at hP
    have hD := hD1.weaken (B := A) (fun _ _ _ h => hFc _ h)
    have hP : va_P D vwCl (XW a cI cZ cD sh sw ts1 bi (po 0 5 it (fun _ => 0)) tu ne2 pr so lo (nI tr) (nI n) (vf_upd lp n pr) lz lu1 (po (5 * n) 5 lk it) ld1 lf lb lw) H := hP
    have hD : va_D A (XW a cI cZ cD sh sw ts1 bi (po 0 5 it (fun _ => 0)) tu ne2 pr so lo (nI tr) (nI n) (vf_upd lp n pr) lz lu1 (po (5 * n) 5 lk it) ld1 lf lb lw) := hD
    have hc1 := hw
    refine lv_aload_n hx hb dX1_close_63 rfl (lv_at hl 2 rfl) ?_
    refine lv_iload_n hx hb dX1_close_64 rfl (lv_at hl 3 rfl) ?_
    refine lv_i2d hx hb dX1_close_65 ?_
    refine va_put (D := D) (ci := 1) (v := .double (FP.i2d sun)) (ty := .double) (C := RX1) (T := TX1) (N := 12) hx hb (dr_words hts _) inX1 tyX1 tyX1_ok nmX1 (xk_od hown) (xk_Kd hK) hP hD hS 0 rfl rfl 11 (by decide) (dr_words hts _ (.fieldLink RX1 53 "GridCommons" "leftOver" "D") (by decide +kernel)) (fun _ h9 => h9) rfl (by decide +kernel) rfl rfl (Nat.le_of_ble_eq_true rfl) dX1_close_66 (fun H locs hP hD hS => ?_)
    have hP : va_P D vwCl (XW a cI cZ cD sh sw ts1 bi (po 0 5 it (fun _ => 0)) tu ne2 pr so (FP.i2d sun) (nI tr) (nI n) (vf_upd lp n pr) lz lu1 (po (5 * n) 5 lk it) ld1 lf lb lw) H := hP
    have hD : va_D A (XW a cI cZ cD sh sw ts1 bi (po 0 5 it (fun _ => 0)) tu ne2 pr so (FP.i2d sun) (nI tr) (nI n) (vf_upd lp n pr) lz lu1 (po (5 * n) 5 lk it) ld1 lf lb lw) := hD
    refine lv_aload_n hx hb dX1_close_69 rfl (lv_at hl 2 rfl) ?_
    refine lv_iload_n hx hb dX1_close_70 rfl (lv_at hl 1 rfl) ?_
    refine lv_iload_n hx hb dX1_close_71 rfl (lv_at hl 3 rfl) ?_
    have hFc := va_free (wc := XW a cI cZ cD sh sw ts1 bi (po 0 5 it (fun _ => 0)) tu ne2 pr so (FP.i2d sun) (nI tr) (nI n) (vf_upd lp n pr) lz lu1 (po (5 * n) 5 lk it) ld1 lf lb lw) hD hS hA [0, 1, 2, 3, 4, 5, 6, 7, 8, 9, 10, 11, 12, 13, 14, 15, 16] rfl
    refine va_callvD hd3 (va_runV_D (As := [.int (nI n), .int sun]) (rest := []) ⟨hx, hb, hml, (xk_od hown), (dr_words hts _)⟩ (mX1_giveByShare l D cI cZ cD a _ sh sw ts1 bi (po 0 5 it (fun _ => 0)) tu ne2 pr so (FP.i2d sun) (nI tr) (nI n) (vf_upd lp n pr) lz lu1 (po (5 * n) 5 lk it) ld1 lf lb lw n sun hn _ hb2) (cwV 2 (dr_words hts _) gX1_close_X1_giveByShare rfl rfl rfl (by decide +kernel) ⟨Nat.le_of_ble_eq_true rfl, Nat.le_of_ble_eq_true rfl⟩) ⟨xk_blind, va_recv (xk_Kd hK) hP (ci := 1) (q0 := 0) rfl rfl, xk_pre hP (xk_Kd hK) hD⟩ rfl rfl hl.1 rfl (lv_room (Nat.le_of_ble_eq_true rfl)) dX1_close_72 ⟨Nat.le_of_ble_eq_true rfl, Nat.le_of_ble_eq_true rfl⟩) hS (fun q _ h => hFc q h) hFc (fun u t H locs ht hvm hw hB hz1 hk1 hS _ hd5 => ?_)
    obtain ⟨lf1, ne3, lo1⟩ := u
    obtain ⟨hP, -, hD1⟩ := hB
    rw [ht] at hP
    have hD := hD1.weaken (B := A) (fun _ _ _ h => hFc _ h)
    have hP : va_P D vwCl (XW a cI cZ cD sh sw ts1 bi (po 0 5 it (fun _ => 0)) tu ne3 pr so lo1 (nI tr) (nI n) (vf_upd lp n pr) lz lu1 (po (5 * n) 5 lk it) ld1 lf1 lb lw) H := hP
    have hD : va_D A (XW a cI cZ cD sh sw ts1 bi (po 0 5 it (fun _ => 0)) tu ne3 pr so lo1 (nI tr) (nI n) (vf_upd lp n pr) lz lu1 (po (5 * n) 5 lk it) ld1 lf1 lb lw) := hD
    obtain ⟨hd1, hd2, hd3⟩ := hw
    refine lv_aload_n hx hb dX1_close_75 rfl (lv_at hl 2 rfl) ?_
    refine lv_iload_n hx hb dX1_close_76 rfl (lv_at hl 1 rfl) ?_
    have hFc := va_free (wc := XW a cI cZ cD sh sw ts1 bi (po 0 5 it (fun _ => 0)) tu ne3 pr so lo1 (nI tr) (nI n) (vf_upd lp n pr) lz lu1 (po (5 * n) 5 lk it) ld1 lf1 lb lw) hD hS hA [0, 1, 2, 3, 4, 5, 6, 7, 8, 9, 10, 11, 12, 13, 14, 15, 16] rfl
    refine va_callvD hd5 (va_runV_D (As := [.int (nI n)]) (rest := []) ⟨hx, hb, hml, (xk_od hown), (dr_words hts _)⟩ (mX1_giveByNeed l D cI cZ cD a _ sh sw ts1 bi (po 0 5 it (fun _ => 0)) tu ne3 pr so lo1 (nI tr) (nI n) (vf_upd lp n pr) lz lu1 (po (5 * n) 5 lk it) ld1 lf1 lb lw n hn _ hd2) (cwV 1 (dr_words hts _) gX1_close_X1_giveByNeed rfl rfl rfl (by decide +kernel) ⟨Nat.le_of_ble_eq_true rfl, Nat.le_of_ble_eq_true rfl⟩) ⟨xk_blind, va_recv (xk_Kd hK) hP (ci := 1) (q0 := 0) rfl rfl, xk_pre hP (xk_Kd hK) hD⟩ rfl rfl hl.1 rfl (lv_room (Nat.le_of_ble_eq_true rfl)) dX1_close_77 ⟨Nat.le_of_ble_eq_true rfl, Nat.le_of_ble_eq_true rfl⟩) hS (fun q _ h => hFc q h) hFc (fun u t H locs ht hvm hw hB hz1 hk1 hS _ hd6 => ?_)
    obtain ⟨lf2, ne4, lo2⟩ := u
    obtain ⟨hP, -, hD1⟩ := hB
    rw [ht] at hP
    have hD := hD1.weaken (B := A) (fun _ _ _ h => hFc _ h)
    have hP : va_P D vwCl (XW a cI cZ cD sh sw ts1 bi (po 0 5 it (fun _ => 0)) tu ne4 pr so lo2 (nI tr) (nI n) (vf_upd lp n pr) lz lu1 (po (5 * n) 5 lk it) ld1 lf2 lb lw) H := hP
    have hD : va_D A (XW a cI cZ cD sh sw ts1 bi (po 0 5 it (fun _ => 0)) tu ne4 pr so lo2 (nI tr) (nI n) (vf_upd lp n pr) lz lu1 (po (5 * n) 5 lk it) ld1 lf2 lb lw) := hD
    obtain ⟨he1, he2, he3⟩ := hw
    dsimp only at hd1 hd2 hd3 he1 he2 he3
    have hd3 : dt lo1 = kL1 sun sh ((cT sw ts it tu lk (dts lu) n).2) := hd3
    rw [hd3] at he1 he2 he3
    have he2 : is5 ne4 (kV3 sun sh ((cT sw ts it tu lk (dts lu) n).2)) := he2
    have he3 : dt lo2 = kL2 sun sh ((cT sw ts it tu lk (dts lu) n).2) := he3
    have he1 : dts lf2 = kF sun sh ((cT sw ts it tu lk (dts lu) n).2) n (dts lf) := by rw [he1, hd1]; rfl
    refine lv_aload_n hx hb dX1_close_80 rfl (lv_at hl 2 rfl) ?_
    refine lv_iload_n hx hb dX1_close_81 rfl (lv_at hl 1 rfl) ?_
    have hFc := va_free (wc := XW a cI cZ cD sh sw ts1 bi (po 0 5 it (fun _ => 0)) tu ne4 pr so lo2 (nI tr) (nI n) (vf_upd lp n pr) lz lu1 (po (5 * n) 5 lk it) ld1 lf2 lb lw) hD hS hA [0, 1, 2, 3, 4, 5, 6, 7, 8, 9, 10, 11, 12, 13, 14, 15, 16] rfl
    refine va_callvD hd6 (va_runV_D (As := [.int (nI n)]) (rest := []) ⟨hx, hb, hml, (xk_od hown), (dr_words hts _)⟩ (mX1_storeOrSell l D cI cZ cD a _ sh sw ts1 bi (po 0 5 it (fun _ => 0)) tu ne4 pr so lo2 (nI tr) (nI n) (vf_upd lp n pr) lz lu1 (po (5 * n) 5 lk it) ld1 lf2 lb lw n hn) (cwV 1 (dr_words hts _) gX1_close_X1_storeOrSell rfl rfl rfl (by decide +kernel) ⟨Nat.le_of_ble_eq_true rfl, Nat.le_of_ble_eq_true rfl⟩) ⟨xk_blind, va_recv (xk_Kd hK) hP (ci := 1) (q0 := 0) rfl rfl, xk_pre hP (xk_Kd hK) hD⟩ rfl rfl hl.1 rfl (lv_room (Nat.le_of_ble_eq_true rfl)) dX1_close_82 ⟨Nat.le_of_ble_eq_true rfl, Nat.le_of_ble_eq_true rfl⟩) hS (fun q _ h => hFc q h) hFc (fun u t H locs ht hvm hw hB hz1 hk1 hS _ hd7 => ?_)
    obtain ⟨so1, lz1⟩ := u
    obtain ⟨hP, -, hD1⟩ := hB
    rw [ht] at hP
    have hD := hD1.weaken (B := A) (fun _ _ _ h => hFc _ h)
    have hP : va_P D vwCl (XW a cI cZ cD sh sw ts1 bi (po 0 5 it (fun _ => 0)) tu ne4 pr so1 lo2 (nI tr) (nI n) (vf_upd lp n pr) lz1 lu1 (po (5 * n) 5 lk it) ld1 lf2 lb lw) H := hP
    have hD : va_D A (XW a cI cZ cD sh sw ts1 bi (po 0 5 it (fun _ => 0)) tu ne4 pr so1 lo2 (nI tr) (nI n) (vf_upd lp n pr) lz1 lu1 (po (5 * n) 5 lk it) ld1 lf2 lb lw) := hD
    obtain ⟨hf1, hf2⟩ := hw
    dsimp only at hf1 hf2
    rw [he3] at hf1 hf2
    have hf1 : dt so1 = kS sun sh ((cT sw ts it tu lk (dts lu) n).2) (dt so) := hf1
    have hf2 : dts lz1 = kZ sun sh ((cT sw ts it tu lk (dts lu) n).2) (dt so) (dts lz) n := hf2
    refine lv_aload_n hx hb dX1_close_85 rfl (lv_at hl 2 rfl) ?_
    refine va_get (D := D) (ci := 1) (v := .double lo2) (C := RX1) (T := TX1) (N := 12) hx hb (dr_words hts _) inX1 (xk_od hown) (xk_Kd hK) hP 0 rfl rfl 11 (by decide) (dr_words hts _ (.fieldLink RX1 53 "GridCommons" "leftOver" "D") (by decide +kernel)) (fun _ h9 => h9) rfl dX1_close_86 ?_
    refine lv_dconst0 hx hb dX1_close_89 ?_
    refine lv_dcmp hx hb dX1_close_90 ?_
    refine lv_if_ne (tgt := 99) hx hb dX1_close_91 (by decide) (fun c1 => ?_) (fun c1 => ?_)
    · skip
      have hL : ¬ dCmp (kL2 sun sh ((cT sw ts it tu lk (dts lu) n).2)) dZ = some .eq := fun q => c1 ((cv_l_eq _).mpr (show dCmp (dt lo2) dZ = some .eq by rw [he3]; exact q))
      have hk : kB sun sh ((cT sw ts it tu lk (dts lu) n).2) (dt so) (dts lb) tr n = (kV3 sun sh ((cT sw ts it tu lk (dts lu) n).2), kS sun sh ((cT sw ts it tu lk (dts lu) n).2) (dt so), dts lb, tr) := if_neg hL
      have hV4 : is5 ne4 (kB sun sh ((cT sw ts it tu lk (dts lu) n).2) (dt so) (dts lb) tr n).1 := by rw [hk]; exact he2
      refine lv_aload_n hx hb dX1_close_99 rfl (lv_at hl 2 rfl) ?_
      refine lv_iload_n hx hb dX1_close_100 rfl (lv_at hl 1 rfl) ?_
      have hFc := va_free (wc := XW a cI cZ cD sh sw ts1 bi (po 0 5 it (fun _ => 0)) tu ne4 pr so1 lo2 (nI tr) (nI n) (vf_upd lp n pr) lz1 lu1 (po (5 * n) 5 lk it) ld1 lf2 lb lw) hD hS hA [0, 1, 2, 3, 4, 5, 6, 7, 8, 9, 10, 11, 12, 13, 14, 15, 16] rfl
      refine va_callvD hd7 (va_runV_D (As := [.int (nI n)]) (rest := []) ⟨hx, hb, hml, (xk_od hown), (dr_words hts _)⟩ (mX1_writeBills l D cI cZ cD a _ sh sw ts1 bi (po 0 5 it (fun _ => 0)) tu ne4 pr so1 lo2 (nI tr) (nI n) (vf_upd lp n pr) lz1 lu1 (po (5 * n) 5 lk it) ld1 lf2 lb lw n hn _ hV4) (cwV 1 (dr_words hts _) gX1_close_X1_writeBills rfl rfl rfl (by decide +kernel) ⟨Nat.le_of_ble_eq_true rfl, Nat.le_of_ble_eq_true rfl⟩) ⟨xk_blind, va_recv (xk_Kd hK) hP (ci := 1) (q0 := 0) rfl rfl, xk_pre hP (xk_Kd hK) hD⟩ rfl rfl hl.1 rfl (lv_room (Nat.le_of_ble_eq_true rfl)) dX1_close_101 ⟨Nat.le_of_ble_eq_true rfl, Nat.le_of_ble_eq_true rfl⟩) hS (fun q _ h => hFc q h) hFc (fun u t H locs ht hvm hw hB hz1 hk1 hS _ hd8 => ?_)
      obtain ⟨lw1, bi1⟩ := u
      obtain ⟨hP, -, hD1⟩ := hB
      rw [ht] at hP
      have hD := hD1.weaken (B := A) (fun _ _ _ h => hFc _ h)
      have hP : va_P D vwCl (XW a cI cZ cD sh sw ts1 bi1 (po 0 5 it (fun _ => 0)) tu ne4 pr so1 lo2 (nI tr) (nI n) (vf_upd lp n pr) lz1 lu1 (po (5 * n) 5 lk it) ld1 lf2 lb lw1) H := hP
      have hD : va_D A (XW a cI cZ cD sh sw ts1 bi1 (po 0 5 it (fun _ => 0)) tu ne4 pr so1 lo2 (nI tr) (nI n) (vf_upd lp n pr) lz1 lu1 (po (5 * n) 5 lk it) ld1 lf2 lb lw1) := hD
      obtain ⟨hg1, hg2⟩ := hw
      dsimp only at hg1 hg2
      rw [hf2] at hg2
      refine lv_aload_n hx hb dX1_close_104 rfl (lv_at hl 2 rfl) ?_
      refine va_get (D := D) (ci := 1) (v := .ref (a 8)) (C := RX1) (T := TX1) (N := 12) hx hb (dr_words hts _) inX1 (xk_od hown) (xk_Kd hK) hP 0 rfl rfl 6 (by decide) (dr_words hts _ (.fieldLink RX1 33 "GridCommons" "ledger" "LGridCommons$Ledger;") (by decide +kernel)) (fun _ h9 => h9) rfl dX1_close_105 ?_
      refine lv_iload_n hx hb dX1_close_108 rfl (lv_at hl 1 rfl) ?_
      refine lv_iconst (v := nI 1) hx hb dX1_close_109 (by decide) ?_
      refine lv_iadd hx hb dX1_close_110 ?_
      refine xk_i (y := nI (n + 1)) (nI_1 n) ?_
      refine va_put (D := D) (ci := 0) (v := .int (nI (n + 1))) (ty := .int) (C := RX0) (T := TX0) (N := 9) hx hb (dr_words hts _) inX0 tyX0 tyX0_ok nmX0 (xk_od hown) (xk_Kd hK) hP hD hS 8 rfl rfl 0 (by decide) (dr_words hts _ (.fieldLink RX1 77 "GridCommons$Ledger" "count" "I") (by decide +kernel)) (fun _ h9 => h9) rfl (by decide +kernel) rfl rfl (Nat.le_of_ble_eq_true rfl) dX1_close_111 (fun H locs hP hD hS => ?_)
      have hP : va_P D vwCl (XW a cI cZ cD sh sw ts1 bi1 (po 0 5 it (fun _ => 0)) tu ne4 pr so1 lo2 (nI tr) (nI (n + 1)) (vf_upd lp n pr) lz1 lu1 (po (5 * n) 5 lk it) ld1 lf2 lb lw1) H := hP
      have hD : va_D A (XW a cI cZ cD sh sw ts1 bi1 (po 0 5 it (fun _ => 0)) tu ne4 pr so1 lo2 (nI tr) (nI (n + 1)) (vf_upd lp n pr) lz1 lu1 (po (5 * n) 5 lk it) ld1 lf2 lb lw1) := hD
      refine lv_iload_n hx hb dX1_close_114 rfl (lv_at hl 0 rfl) ?_
      subst hov
      refine W.endD hd8 ?_
      exact W.zret hx hb hr (bI_nar _) (fun t ht hW => ⟨⟨_, ((ts1, lu1, ne4, lo2), (ld1, lf2, so1, lz1), (lb, tr, lw1, bi1)), rfl, ⟨rfl, hb1, ha1, hc1, he1, hf2, by rw [hk]; exact hf1, by rw [hk], by rw [hk], hg1, hg2⟩, by rw [ht]; exact hP, va_K.moved hW.alike (xk_Kd hK), hD⟩, hS.F ht⟩) hS.2.2 dX1_close_115
    · skip
      have hL : dCmp (kL2 sun sh ((cT sw ts it tu lk (dts lu) n).2)) dZ = some .eq := by have q := (cv_l_eq _).mp c1; have q2 : dCmp (dt lo2) dZ = some .eq := q; rw [he3] at q2; exact q2
      refine lv_aload_n hx hb dX1_close_94 rfl (lv_at hl 2 rfl) ?_
      refine lv_iload_n hx hb dX1_close_95 rfl (lv_at hl 1 rfl) ?_
      have hFc := va_free (wc := XW a cI cZ cD sh sw ts1 bi (po 0 5 it (fun _ => 0)) tu ne4 pr so1 lo2 (nI tr) (nI n) (vf_upd lp n pr) lz1 lu1 (po (5 * n) 5 lk it) ld1 lf2 lb lw) hD hS hA [0, 1, 2, 3, 4, 5, 6, 7, 8, 9, 10, 11, 12, 13, 14, 15, 16] rfl
      refine va_callvD hd7 (va_runV_D (As := [.int (nI n)]) (rest := []) ⟨hx, hb, hml, (xk_od hown), (dr_words hts _)⟩ (mX1_giveFromBattery l D cI cZ cD a _ sh sw ts1 bi (po 0 5 it (fun _ => 0)) tu ne4 pr so1 lo2 (nI n) (vf_upd lp n pr) lz1 lu1 (po (5 * n) 5 lk it) ld1 lf2 lb lw n tr hn htr _ he2) (cwV 1 (dr_words hts _) gX1_close_X1_giveFromBattery rfl rfl rfl (by decide +kernel) ⟨Nat.le_of_ble_eq_true rfl, Nat.le_of_ble_eq_true rfl⟩) ⟨xk_blind, va_recv (xk_Kd hK) hP (ci := 1) (q0 := 0) rfl rfl, xk_pre hP (xk_Kd hK) hD⟩ rfl rfl hl.1 rfl (lv_room (Nat.le_of_ble_eq_true rfl)) dX1_close_96 ⟨Nat.le_of_ble_eq_true rfl, Nat.le_of_ble_eq_true rfl⟩) hS (fun q _ h => hFc q h) hFc (fun u t H locs ht hvm hw hB hz1 hk1 hS _ hd9 => ?_)
      obtain ⟨ne5, so2, lb1, tr1⟩ := u
      obtain ⟨hP, -, hD1⟩ := hB
      rw [ht] at hP
      have hD := hD1.weaken (B := A) (fun _ _ _ h => hFc _ h)
      have hP : va_P D vwCl (XW a cI cZ cD sh sw ts1 bi (po 0 5 it (fun _ => 0)) tu ne5 pr so2 lo2 (nI tr1) (nI n) (vf_upd lp n pr) lz1 lu1 (po (5 * n) 5 lk it) ld1 lf2 lb1 lw) H := hP
      have hD : va_D A (XW a cI cZ cD sh sw ts1 bi (po 0 5 it (fun _ => 0)) tu ne5 pr so2 lo2 (nI tr1) (nI n) (vf_upd lp n pr) lz1 lu1 (po (5 * n) 5 lk it) ld1 lf2 lb1 lw) := hD
      obtain ⟨hh1, hh2, hh3, hh4⟩ := hw
      dsimp only at hh1 hh2 hh3 hh4
      rw [hf1] at hh1 hh2 hh3 hh4
      have hk : kB sun sh ((cT sw ts it tu lk (dts lu) n).2) (dt so) (dts lb) tr n = ((gbs tr (5 * n) (kV3 sun sh ((cT sw ts it tu lk (dts lu) n).2)) (kS sun sh ((cT sw ts it tu lk (dts lu) n).2) (dt so)) (dts lb) 5).1, (gbs tr (5 * n) (kV3 sun sh ((cT sw ts it tu lk (dts lu) n).2)) (kS sun sh ((cT sw ts it tu lk (dts lu) n).2) (dt so)) (dts lb) 5).2.1, (gbs tr (5 * n) (kV3 sun sh ((cT sw ts it tu lk (dts lu) n).2)) (kS sun sh ((cT sw ts it tu lk (dts lu) n).2) (dt so)) (dts lb) 5).2.2.1, tnx tr (gbs tr (5 * n) (kV3 sun sh ((cT sw ts it tu lk (dts lu) n).2)) (kS sun sh ((cT sw ts it tu lk (dts lu) n).2) (dt so)) (dts lb) 5).2.2.2) := if_pos hL
      have hV4 : is5 ne5 (kB sun sh ((cT sw ts it tu lk (dts lu) n).2) (dt so) (dts lb) tr n).1 := by rw [hk]; exact hh1
      refine lv_aload_n hx hb dX1_close_99 rfl (lv_at hl 2 rfl) ?_
      refine lv_iload_n hx hb dX1_close_100 rfl (lv_at hl 1 rfl) ?_
      have hFc := va_free (wc := XW a cI cZ cD sh sw ts1 bi (po 0 5 it (fun _ => 0)) tu ne5 pr so2 lo2 (nI tr1) (nI n) (vf_upd lp n pr) lz1 lu1 (po (5 * n) 5 lk it) ld1 lf2 lb1 lw) hD hS hA [0, 1, 2, 3, 4, 5, 6, 7, 8, 9, 10, 11, 12, 13, 14, 15, 16] rfl
      refine va_callvD hd9 (va_runV_D (As := [.int (nI n)]) (rest := []) ⟨hx, hb, hml, (xk_od hown), (dr_words hts _)⟩ (mX1_writeBills l D cI cZ cD a _ sh sw ts1 bi (po 0 5 it (fun _ => 0)) tu ne5 pr so2 lo2 (nI tr1) (nI n) (vf_upd lp n pr) lz1 lu1 (po (5 * n) 5 lk it) ld1 lf2 lb1 lw n hn _ hV4) (cwV 1 (dr_words hts _) gX1_close_X1_writeBills rfl rfl rfl (by decide +kernel) ⟨Nat.le_of_ble_eq_true rfl, Nat.le_of_ble_eq_true rfl⟩) ⟨xk_blind, va_recv (xk_Kd hK) hP (ci := 1) (q0 := 0) rfl rfl, xk_pre hP (xk_Kd hK) hD⟩ rfl rfl hl.1 rfl (lv_room (Nat.le_of_ble_eq_true rfl)) dX1_close_101 ⟨Nat.le_of_ble_eq_true rfl, Nat.le_of_ble_eq_true rfl⟩) hS (fun q _ h => hFc q h) hFc (fun u t H locs ht hvm hw hB hz1 hk1 hS _ hd10 => ?_)
      obtain ⟨lw1, bi1⟩ := u
      obtain ⟨hP, -, hD1⟩ := hB
      rw [ht] at hP
      have hD := hD1.weaken (B := A) (fun _ _ _ h => hFc _ h)
      have hP : va_P D vwCl (XW a cI cZ cD sh sw ts1 bi1 (po 0 5 it (fun _ => 0)) tu ne5 pr so2 lo2 (nI tr1) (nI n) (vf_upd lp n pr) lz1 lu1 (po (5 * n) 5 lk it) ld1 lf2 lb1 lw1) H := hP
      have hD : va_D A (XW a cI cZ cD sh sw ts1 bi1 (po 0 5 it (fun _ => 0)) tu ne5 pr so2 lo2 (nI tr1) (nI n) (vf_upd lp n pr) lz1 lu1 (po (5 * n) 5 lk it) ld1 lf2 lb1 lw1) := hD
      obtain ⟨hg1, hg2⟩ := hw
      dsimp only at hg1 hg2
      rw [hf2] at hg2
      refine lv_aload_n hx hb dX1_close_104 rfl (lv_at hl 2 rfl) ?_
      refine va_get (D := D) (ci := 1) (v := .ref (a 8)) (C := RX1) (T := TX1) (N := 12) hx hb (dr_words hts _) inX1 (xk_od hown) (xk_Kd hK) hP 0 rfl rfl 6 (by decide) (dr_words hts _ (.fieldLink RX1 33 "GridCommons" "ledger" "LGridCommons$Ledger;") (by decide +kernel)) (fun _ h9 => h9) rfl dX1_close_105 ?_
      refine lv_iload_n hx hb dX1_close_108 rfl (lv_at hl 1 rfl) ?_
      refine lv_iconst (v := nI 1) hx hb dX1_close_109 (by decide) ?_
      refine lv_iadd hx hb dX1_close_110 ?_
      refine xk_i (y := nI (n + 1)) (nI_1 n) ?_
      refine va_put (D := D) (ci := 0) (v := .int (nI (n + 1))) (ty := .int) (C := RX0) (T := TX0) (N := 9) hx hb (dr_words hts _) inX0 tyX0 tyX0_ok nmX0 (xk_od hown) (xk_Kd hK) hP hD hS 8 rfl rfl 0 (by decide) (dr_words hts _ (.fieldLink RX1 77 "GridCommons$Ledger" "count" "I") (by decide +kernel)) (fun _ h9 => h9) rfl (by decide +kernel) rfl rfl (Nat.le_of_ble_eq_true rfl) dX1_close_111 (fun H locs hP hD hS => ?_)
      have hP : va_P D vwCl (XW a cI cZ cD sh sw ts1 bi1 (po 0 5 it (fun _ => 0)) tu ne5 pr so2 lo2 (nI tr1) (nI (n + 1)) (vf_upd lp n pr) lz1 lu1 (po (5 * n) 5 lk it) ld1 lf2 lb1 lw1) H := hP
      have hD : va_D A (XW a cI cZ cD sh sw ts1 bi1 (po 0 5 it (fun _ => 0)) tu ne5 pr so2 lo2 (nI tr1) (nI (n + 1)) (vf_upd lp n pr) lz1 lu1 (po (5 * n) 5 lk it) ld1 lf2 lb1 lw1) := hD
      refine lv_iload_n hx hb dX1_close_114 rfl (lv_at hl 0 rfl) ?_
      subst hov
      refine W.endD hd10 ?_
      exact W.zret hx hb hr (bI_nar _) (fun t ht hW => ⟨⟨_, ((ts1, lu1, ne5, lo2), (ld1, lf2, so2, lz1), (lb1, tr1, lw1, bi1)), rfl, ⟨rfl, hb1, ha1, hc1, he1, hf2, by rw [hk]; exact hh2, by rw [hk]; exact hh3, by rw [hk]; exact hh4, hg1, hg2⟩, by rw [ht]; exact hP, va_K.moved hW.alike (xk_Kd hK), hD⟩, hS.F ht⟩) hS.2.2 dX1_close_115
  · skip
    exact absurd (nI_lt hn (by decide)) c
set_option maxHeartbeats 4000000 in
set_option maxRecDepth 100000 in
theorem mX1_closeX (l : Launch) (hst : l.stackTraces = false) (D : va_G) (cI cZ cD : ClassId) (a : Nat → Nat) (Hp : Heap) (sh sw ts : Nat → Int32) (bi : Nat → UInt64) (it tu : Nat → Int32) (ne : Nat → UInt64) (pr so lo : UInt64) (wt : Int32) (lp lz lu : Nat → UInt64) (lk : Nat → Int32) (ld lf lb lw : Nat → UInt64) (n : Nat) (hn : n ≤ 60) (sun : Int32) (hbad : ¬ (inR sun 0 100 ∧ n < 60)) : vx_Met l yX1_close wsX1_close ({ frames := 7, cells := 1, slots := 6, locals := 104 } : Room) (va_Pc [.ref (a 0), .int sun] (XQ D cI cZ cD (XW a cI cZ cD sh sw ts bi it tu ne pr so lo wt (nI n) lp lz lu lk ld lf lb lw) Hp)) (va_Qi (fun _ (_ : Unit) => False) (fun _ _ => True) (fun q => Hp.size ≤ q)) (XE (fun E => (E = "java/lang/IllegalArgumentException" ∧ ¬ inR sun 0 100) ∨ (E = "java/lang/IllegalStateException" ∧ inR sun 0 100 ∧ ¬ n < 60)) Hp.size) 1 6 (fun q => Hp.size ≤ q) := by
  refine vx_ofW (cc := cX1_close) (maxL := 4) (ret := (some .boolean)) (by decide +kernel) rfl ?_
  intro p e s m args below meth c s₁ B hml htab hv
  obtain ⟨rfl, hsz, ⟨hP, hK, hD⟩, hE⟩ := hv
  have hx := B.exec
  have hb := B.bytes
  have hr := B.returns
  have hts := atoms_spec (ws := wsX1_close) B.pre
  have hown : s.vm.findClass RX1 = some m.cls := findClass_of_methodNamed B.named
  have hlocks := B.notSynchronized
  subst hsz
  have hA : ∀ q : Nat, s.heap.size ≤ q → (fun q => s.heap.size ≤ q) q := fun q h => h
  have hS : va_S (fun q => s.heap.size ≤ q) s.heap s.heap [] := va_S.rf
  have hl := lv_entry ([.ref (a 0), .int sun]) (n := 4) (Nat.le_of_ble_eq_true rfl)
  rw [lg_entry_eq]
  generalize (lg_sl ([.ref (a 0), .int sun]) ++ List.replicate (4 - (lg_sl ([.ref (a 0), .int sun])).length) Slot.unset).toArray = ls at hl ⊢
  have hl : lv_has ls 4 [(0, .ref (a 0)), (1, .int sun)] := hl
  have inX1 : ∀ w ∈ wsX10, w ∈ wsX1_close := by decide +kernel
  have inX0 : ∀ w ∈ wsX00, w ∈ wsX1_close := by decide +kernel
  refine lv_iload_n hx hb dX1_close_0 rfl (lv_at hl 1 rfl) ?_
  refine lv_iconst (v := nI 0) hx hb dX1_close_1 (by decide) ?_
  refine lv_bipush (v := nI 100) hx hb dX1_close_2 (by decide) ?_
  by_cases hin : inR sun 0 100
  · skip
    refine va_csv (va_Run.run (va_runS (As := [.int sun, .int (nI 0), .int (nI 100)]) (rest := []) ⟨hx, hb, hml, hown, hts⟩ (mX1_requireWithinV l sun (nI 0) (nI 100) hin) (va_cwS 3 hts gX1_close_X1_requireWithin rfl rfl rfl (by decide +kernel) ⟨Nat.le_of_ble_eq_true rfl, Nat.le_of_ble_eq_true rfl⟩) ⟨fun a U g mk q => q, fun U hU hW => ⟨rfl, trivial⟩⟩ rfl rfl hl.1 rfl (lv_room (Nat.le_of_ble_eq_true rfl)) dX1_close_4 ⟨Nat.le_of_ble_eq_true rfl, Nat.le_of_ble_eq_true rfl⟩)) (fun _ => ?_)
    refine lv_aload_n hx hb dX1_close_7 rfl (lv_at hl 0 rfl) ?_
    refine va_get (D := D) (ci := 1) (v := .ref (a 8)) (C := RX1) (T := TX1) (N := 12) hx hb hts inX1 hown hK hP 0 rfl rfl 6 (by decide) (hts (.fieldLink RX1 33 "GridCommons" "ledger" "LGridCommons$Ledger;") (by decide +kernel)) (fun _ h9 => h9) rfl dX1_close_8 ?_
    refine va_get (D := D) (ci := 0) (v := .int (nI n)) (C := RX0) (T := TX0) (N := 9) hx hb hts inX0 hown hK hP 8 rfl rfl 0 (by decide) (hts (.fieldLink RX1 77 "GridCommons$Ledger" "count" "I") (by decide +kernel)) (fun _ h9 => h9) rfl dX1_close_11 ?_
    refine lv_istore_n (lv' := [(2, .int (nI n)), (0, .ref (a 0)), (1, .int sun)]) hx hb dX1_close_14 rfl hl (by decide) rfl (fun ls hl => ?_)
    refine lv_iload_n hx hb dX1_close_15 rfl (lv_at hl 0 rfl) ?_
    refine lv_bipush (v := nI 60) hx hb dX1_close_16 (by decide) ?_
    refine lv_icmp_lt (tgt := 31) hx hb dX1_close_18 (by decide) (fun c => ?_) (fun c => ?_)
    · skip
      exact absurd ⟨hin, (nI_ltI (by omega) (by decide)).mp c⟩ hbad
    · skip
      obtain ⟨sa, hstr⟩ := hE.2.2.2 (80, "60 quarters are closed") (by decide)
      have hat0 : ∀ w ∈ (vx_atS RX1 72 "java/lang/IllegalStateException" ["java/lang/RuntimeException", "java/lang/Exception"]).filter goodWord, w ∈ wsX1_close := by decide +kernel
      exact vx_throwS (text := "60 quarters are closed") (names := ["java/lang/RuntimeException", "java/lang/Exception"]) hx hb hst hown (by decide +kernel) (by decide +kernel) (hts (.classLink RX1 68 "java/lang/IllegalStateException") (by decide +kernel)) (hts (.initialized "java/lang/IllegalStateException") (by decide +kernel)) hstr (vx_hat (B := exW) (fun w h => hts w (hat0 w h)) (by decide +kernel) hE.words) (by decide +kernel) hE.1 hE.2.1 hS (hl.1.trans hml.symm) dX1_close_21 dX1_close_24 dX1_close_25 dX1_close_27 dX1_close_30 (fun x h => (htab x h).elim) (Nat.le_of_ble_eq_true rfl) (Nat.le_of_ble_eq_true rfl) (Nat.le_of_ble_eq_true rfl) (Nat.le_of_ble_eq_true rfl) hlocks (fun t ht hz hk => ⟨(), trivial, Or.inr ⟨rfl, hin, fun z => hbad ⟨hin, z⟩⟩, hz, fun q h1 _ => hk q h1⟩) hS.2.2 (Nat.le_refl _) (Nat.le_refl _)
  · skip
    exact vx_callv (vx_runS (As := [.int sun, .int (nI 0), .int (nI 100)]) (rest := []) ⟨hx, hb, hml, hown, hts⟩ (mX1_requireWithin l hst s.heap sun (nI 0) (nI 100)) (va_cwS 3 hts gX1_close_X1_requireWithin rfl rfl rfl (by decide +kernel) ⟨Nat.le_of_ble_eq_true rfl, Nat.le_of_ble_eq_true rfl⟩) ⟨xh_blind, xh_pre hE hS hA⟩ rfl rfl hl.1 rfl (lv_room (Nat.le_of_ble_eq_true rfl)) dX1_close_4 ⟨Nat.le_of_ble_eq_true rfl, Nat.le_of_ble_eq_true rfl⟩) hS (fun q h1 h2 => absurd h2 (Nat.not_le.mpr h1)) (fun q h => hA q (Nat.le_trans hS.1 h)) (fun q h1 h2 => absurd h2 (Nat.not_le.mpr h1)) (fun E ce q9 u9 t9 H9 locs9 ht9 hvm9 hpx9 hB9 hz9 hk9 hS9 hce9 hcv9 hcl9 => vx_out (fun x h => (htab x h).elim) hlocks hce9 hcv9 hcl9 (fun t8 ht8 hvm8 => ⟨(), trivial, Or.inl ⟨hB9.1, hB9.2⟩, by rw [ht8]; exact hz9, fun q h1 h2 => by rw [ht8]; exact hk9 q h1 h2⟩) hS9.2.2 (Nat.le_refl _) (Nat.le_refl _)) (fun u t H1 locs1 ht hvm hw hB hz1 hk1 hS1 => absurd hw hin)
