/-! GridCommons: the sun, the battery, the bills -/
theorem is5_cg {f : Nat → UInt64} {F G : Nat → Dm} (h : is5 f F) (e : F = G) : is5 f G := e ▸ h
theorem vf_self {α : Type} (f : Nat → α) (k : Nat) (x : α) : vf_upd f k x k = x := if_pos rfl
theorem dts_up2 (f : Nat → UInt64) (k : Nat) (x y : UInt64) : dts (vf_upd (vf_upd f k x) k y) = va_up (dts f) k (dt y) := by
  rw [dts_up, dts_up]
  funext j
  unfold va_up
  by_cases h : j = k
  · rw [if_pos h, if_pos h]
  · rw [if_neg h, if_neg h, if_neg h]
def soN (S L : Dm) : Dm := if dCmp L (dSub d40 S) = some .lt then dAdd S L else d40
def szN (S L : Dm) : Dm := if dCmp L (dSub d40 S) = some .lt then dZ else dSub L (dSub d40 S)
set_option maxHeartbeats 4000000 in
set_option maxRecDepth 100000 in
theorem mX1_giveSun (l : Launch) (D : va_G) (cI cZ cD : ClassId) (a : Nat → Nat) (sz : Nat) (sh sw ts : Nat → Int32) (bi : Nat → UInt64) (it tu : Nat → Int32) (ne : Nat → UInt64) (pr so lo : UInt64) (wt cn : Int32) (lp lz lu : Nat → UInt64) (lk : Nat → Int32) (ld lf lb lw : Nat → UInt64) (o n : Nat) (x : UInt64) (ho : o < 5) (hn : n < 60) (V : Nat → Dm) (hV : is5 ne V) : MetD lw_cs l yX1_giveSun wsX1_giveSun ({ frames := 1, cells := 0, slots := 0, locals := 21 } : Room) (va_Pc [.ref (a 0), .int (nI o), .int (nI n), .double x] (XP D cI cZ cD (XW a cI cZ cD sh sw ts bi it tu ne pr so lo wt cn lp lz lu lk ld lf lb lw) sz)) (va_Qv (fun (u : (Nat → UInt64) × (Nat → UInt64)) => dts u.1 = va_up (dts lf) (5 * n + o) (dAdd (dts lf (5 * n + o)) (dt x)) ∧ is5 u.2 (va_up V o (dSub (V o) (dt x)))) (fun (u : (Nat → UInt64) × (Nat → UInt64)) t => XB D cI cZ cD (XW a cI cZ cD sh sw ts bi it tu u.2 pr so lo wt cn lp lz lu lk ld u.1 lb lw) (va_A (XW a cI cZ cD sh sw ts bi it tu ne pr so lo wt cn lp lz lu lk ld lf lb lw) sz) t) (va_A (XW a cI cZ cD sh sw ts bi it tu ne pr so lo wt cn lp lz lu lk ld lf lb lw) sz)) 0 0 (va_A (XW a cI cZ cD sh sw ts bi it tu ne pr so lo wt cn lp lz lu lk ld lf lb lw) sz) := by
  refine MetD.ofW (cc := cX1_giveSun) (maxL := 5) (ret := none) (by decide +kernel) rfl ?_
  intro p e s m args below meth c s₁ B hml hv hd0
  obtain ⟨rfl, hsz, hP, hK, hD0⟩ := hv
  have hx := B.exec
  have hb := B.bytes
  have hr := B.returns
  have hts := atoms_spec (ws := wsX1_giveSun) B.pre
  have hown : s.vm.findClass RX1 = some m.cls := findClass_of_methodNamed B.named
  have hlocks := B.notSynchronized
  subst hsz
  have hD := hD0.self (sz := s.heap.size)
  generalize hAe : va_A (XW a cI cZ cD sh sw ts bi it tu ne pr so lo wt cn lp lz lu lk ld lf lb lw) s.heap.size = A at hD ⊢
  have hA : ∀ q : Nat, s.heap.size ≤ q → A q := fun q h => by rw [← hAe]; exact Or.inr h
  have hS : va_S A s.heap s.heap [] := va_S.rf
  have hl := lv_entry ([.ref (a 0), .int (nI o), .int (nI n), .double x]) (n := 5) (Nat.le_of_ble_eq_true rfl)
  rw [lg_entry_eq]
  generalize (lg_sl ([.ref (a 0), .int (nI o), .int (nI n), .double x]) ++ List.replicate (5 - (lg_sl ([.ref (a 0), .int (nI o), .int (nI n), .double x])).length) Slot.unset).toArray = ls at hl ⊢
  have hl : lv_has ls 5 [(0, .ref (a 0)), (1, .int (nI o)), (2, .int (nI n)), (3, .double x)] := hl
  have inX1 : ∀ w ∈ wsX10, w ∈ wsX1_giveSun := by decide +kernel
  have inX0 : ∀ w ∈ wsX00, w ∈ wsX1_giveSun := by decide +kernel
  refine lv_aload_n hx hb dX1_giveSun_0 rfl (lv_at hl 0 rfl) ?_
  refine va_get (D := D) (ci := 1) (v := .ref (a 8)) (C := RX1) (T := TX1) (N := 12) hx hb (dr_words hts _) inX1 (xk_od hown) (xk_Kd hK) hP 0 rfl rfl 6 (by decide) (dr_words hts _ (.fieldLink RX1 33 "GridCommons" "ledger" "LGridCommons$Ledger;") (by decide +kernel)) (fun _ h9 => h9) rfl dX1_giveSun_1 ?_
  refine va_get (D := D) (ci := 0) (v := .ref (a 14)) (C := RX0) (T := TX0) (N := 9) hx hb (dr_words hts _) inX0 (xk_od hown) (xk_Kd hK) hP 8 rfl rfl 6 (by decide) (dr_words hts _ (.fieldLink RX1 134 "GridCommons$Ledger" "fromSun" "[D") (by decide +kernel)) (fun _ h9 => h9) rfl dX1_giveSun_4 ?_
  refine lv_iload_n hx hb dX1_giveSun_7 rfl (lv_at hl 1 rfl) ?_
  refine lv_iload_n hx hb dX1_giveSun_8 rfl (lv_at hl 2 rfl) ?_
  refine vp_callSi (va_Run.run (va_runS (As := [.int (nI o), .int (nI n)]) (rest := [.ref (a 14)]) ⟨hx, hb, hml, (xk_od hown), (dr_words hts _)⟩ (mX0_slot l o n) (va_cwS 2 (dr_words hts _) gX1_giveSun_X0_slot rfl rfl rfl (by decide +kernel) ⟨Nat.le_of_ble_eq_true rfl, Nat.le_of_ble_eq_true rfl⟩) ⟨fun a U g mk q => q, fun U hU hW => ⟨rfl, trivial⟩⟩ rfl rfl hl.1 rfl (lv_room (Nat.le_of_ble_eq_true rfl)) dX1_giveSun_9 ⟨Nat.le_of_ble_eq_true rfl, Nat.le_of_ble_eq_true rfl⟩)) (fun r hr1 => ?_)
  subst hr1
  refine lv_dup2_11 hx hb dX1_giveSun_12 rfl rfl ?_
  refine xk_dald hx hb (xk_Kd hK) hP 14 2 rfl rfl (o := (5 * n + o)) (by omega) (by decide) dX1_giveSun_13 ?_
  refine lv_dload_n hx hb dX1_giveSun_14 rfl (lv_at hl 3 rfl) ?_
  refine lv_dadd_any hd0 lw_bits hx hb dX1_giveSun_15 (fun r1 _ hal hd2 => ?_)
  have er1 := dt_add hal
  refine xk_dast hx hb (xk_Kd hK) hP hD hS 14 2 rfl rfl (o := (5 * n + o)) (by omega) (by decide) dX1_giveSun_16 (fun H locs hP hD hS => ?_)
  have hP : va_P D vwCl (XW a cI cZ cD sh sw ts bi it tu ne pr so lo wt cn lp lz lu lk ld (vf_upd lf (5 * n + o) r1) lb lw) H := hP
  have hD : va_D A (XW a cI cZ cD sh sw ts bi it tu ne pr so lo wt cn lp lz lu lk ld (vf_upd lf (5 * n + o) r1) lb lw) := hD
  refine lv_aload_n hx hb dX1_giveSun_17 rfl (lv_at hl 0 rfl) ?_
  refine va_get (D := D) (ci := 1) (v := .ref (a 7)) (C := RX1) (T := TX1) (N := 12) hx hb (dr_words hts _) inX1 (xk_od hown) (xk_Kd hK) hP 0 rfl rfl 10 (by decide) (dr_words hts _ (.fieldLink RX1 50 "GridCommons" "needs" "[D") (by decide +kernel)) (fun _ h9 => h9) rfl dX1_giveSun_18 ?_
  refine lv_iload_n hx hb dX1_giveSun_21 rfl (lv_at hl 1 rfl) ?_
  refine lv_dup2_11 hx hb dX1_giveSun_22 rfl rfl ?_
  refine xk_dald hx hb (xk_Kd hK) hP 7 2 rfl rfl (o := o) (by omega) (by decide) dX1_giveSun_23 ?_
  refine lv_dload_n hx hb dX1_giveSun_24 rfl (lv_at hl 3 rfl) ?_
  refine lv_dsub_any hd2 lw_bits hx hb dX1_giveSun_25 (fun r3 _ hal hd4 => ?_)
  have er3 := dt_sub hal
  refine xk_dast hx hb (xk_Kd hK) hP hD hS 7 2 rfl rfl (o := o) (by omega) (by decide) dX1_giveSun_26 (fun H locs hP hD hS => ?_)
  have hP : va_P D vwCl (XW a cI cZ cD sh sw ts bi it tu (vf_upd ne o r3) pr so lo wt cn lp lz lu lk ld (vf_upd lf (5 * n + o) r1) lb lw) H := hP
  have hD : va_D A (XW a cI cZ cD sh sw ts bi it tu (vf_upd ne o r3) pr so lo wt cn lp lz lu lk ld (vf_upd lf (5 * n + o) r1) lb lw) := hD
  refine W.endD hd4 ?_
  exact W.vret hx hb hr (fun t ht hW => ⟨⟨(vf_upd lf (5 * n + o) r1, vf_upd ne o r3), rfl, ⟨by rw [dts_up, er1]; rfl, hV.up o (by rw [er3, hV o ho])⟩, by rw [ht]; exact hP, va_K.moved hW.alike (xk_Kd hK), hD⟩, hS.F ht⟩) hS.2.2 dX1_giveSun_27
set_option maxHeartbeats 4000000 in
set_option maxRecDepth 100000 in
theorem mX1_giveByShare (l : Launch) (D : va_G) (cI cZ cD : ClassId) (a : Nat → Nat) (sz : Nat) (sh sw ts : Nat → Int32) (bi : Nat → UInt64) (it tu : Nat → Int32) (ne : Nat → UInt64) (pr so lo : UInt64) (wt cn : Int32) (lp lz lu : Nat → UInt64) (lk : Nat → Int32) (ld lf lb lw : Nat → UInt64) (n : Nat) (sun : Int32) (hn : n < 60) (V : Nat → Dm) (hV : is5 ne V) : MetD lw_cs l yX1_giveByShare wsX1_giveByShare ({ frames := 2, cells := 0, slots := 0, locals := 45 } : Room) (va_Pc [.ref (a 0), .int (nI n), .int sun] (XP D cI cZ cD (XW a cI cZ cD sh sw ts bi it tu ne pr so lo wt cn lp lz lu lk ld lf lb lw) sz)) (va_Qv (fun (u : (Nat → UInt64) × (Nat → UInt64) × UInt64) => dts u.1 = po (5 * n) 5 (dts lf) (fun k => dAdd (dts lf (5 * n + k)) (uS sun sh V k)) ∧ is5 u.2.1 (fun k => dSub (V k) (uS sun sh V k)) ∧ dt u.2.2 = lS sun sh V (dt lo) 5) (fun (u : (Nat → UInt64) × (Nat → UInt64) × UInt64) t => XB D cI cZ cD (XW a cI cZ cD sh sw ts bi it tu u.2.1 pr so u.2.2 wt cn lp lz lu lk ld u.1 lb lw) (va_A (XW a cI cZ cD sh sw ts bi it tu ne pr so lo wt cn lp lz lu lk ld lf lb lw) sz) t) (va_A (XW a cI cZ cD sh sw ts bi it tu ne pr so lo wt cn lp lz lu lk ld lf lb lw) sz)) 0 0 (va_A (XW a cI cZ cD sh sw ts bi it tu ne pr so lo wt cn lp lz lu lk ld lf lb lw) sz) := by
  refine MetD.ofW (cc := cX1_giveByShare) (maxL := 6) (ret := none) (by decide +kernel) rfl ?_
  intro p e s m args below meth c s₁ B hml hv hd0
  obtain ⟨rfl, hsz, hP, hK, hD0⟩ := hv
  have hx := B.exec
  have hb := B.bytes
  have hr := B.returns
  have hts := atoms_spec (ws := wsX1_giveByShare) B.pre
  have hown : s.vm.findClass RX1 = some m.cls := findClass_of_methodNamed B.named
  have hlocks := B.notSynchronized
  subst hsz
  have hD := hD0.self (sz := s.heap.size)
  generalize hAe : va_A (XW a cI cZ cD sh sw ts bi it tu ne pr so lo wt cn lp lz lu lk ld lf lb lw) s.heap.size = A at hD ⊢
  have hA : ∀ q : Nat, s.heap.size ≤ q → A q := fun q h => by rw [← hAe]; exact Or.inr h
  have hS : va_S A s.heap s.heap [] := va_S.rf
  have hl := lv_entry ([.ref (a 0), .int (nI n), .int sun]) (n := 6) (Nat.le_of_ble_eq_true rfl)
  rw [lg_entry_eq]
  generalize (lg_sl ([.ref (a 0), .int (nI n), .int sun]) ++ List.replicate (6 - (lg_sl ([.ref (a 0), .int (nI n), .int sun])).length) Slot.unset).toArray = ls at hl ⊢
  have hl : lv_has ls 6 [(0, .ref (a 0)), (1, .int (nI n)), (2, .int sun)] := hl
  have inX1 : ∀ w ∈ wsX10, w ∈ wsX1_giveByShare := by decide +kernel
  refine lv_iconst (v := nI 0) hx hb dX1_giveByShare_0 (by decide) ?_
  refine lv_istore_n (lv' := [(3, .int (nI 0)), (0, .ref (a 0)), (1, .int (nI n)), (2, .int sun)]) hx hb dX1_giveByShare_1 rfl hl (by decide) rfl (fun ls hl => ?_)
  refine xk_loop (fun i H locs ls d => ∃ (lf' : Nat → UInt64) (ne' : Nat → UInt64) (lo' : UInt64), (dts lf' = po (5 * n) i (dts lf) (fun k => dAdd (dts lf (5 * n + k)) (uS sun sh V k))) ∧ (is5 ne' (po 0 i V (fun k => dSub (V k) (uS sun sh V k)))) ∧ (dt lo' = lS sun sh V (dt lo) i) ∧ (va_P D vwCl (XW a cI cZ cD sh sw ts bi it tu ne' pr so lo' wt cn lp lz lu lk ld lf' lb lw) H) ∧ (va_D A (XW a cI cZ cD sh sw ts bi it tu ne' pr so lo' wt cn lp lz lu lk ld lf' lb lw)) ∧ (va_S A s.heap H locs) ∧ (s.drawn.sameBut d lw_cs) ∧ (lv_has ls 6 [(0, .ref (a 0)), (1, .int (nI n)), (2, .int sun), (3, .int (nI i))])) 5 ?_ (i := 0) (Nat.zero_le _) ⟨lf, ne, lo, (po_0 _ _ _).symm, (is5_cg hV (po_0 _ _ _).symm), rfl, hP, hD, hS, hd0, lv_sub hl [1, 2, 3, 0] rfl⟩
  intro i H locs ls d hi hI next
  obtain ⟨lf', ne', lo', hq0, hq1, hq2, hP, hD, hS, hdl, hl⟩ := hI
  refine lv_iload_n hx hb dX1_giveByShare_2 rfl (lv_at hl 3 rfl) ?_
  refine lv_iconst (v := nI 5) hx hb dX1_giveByShare_3 (by decide) ?_
  refine lv_icmp_ge (tgt := 57) hx hb dX1_giveByShare_4 (by decide) (fun c => ?_) (fun c => ?_)
  · skip
    obtain rfl := xk_ge hi (by decide) c
    refine W.endD hdl ?_
    exact W.vret hx hb hr (fun t ht hW => ⟨⟨(lf', ne', lo'), rfl, ⟨hq0, is5_done hq1, hq2⟩, by rw [ht]; exact hP, va_K.moved hW.alike (xk_Kd hK), hD⟩, hS.F ht⟩) hS.2.2 dX1_giveByShare_57
  · skip
    have hlt := xk_nge hi (by decide) c
    refine lv_iload_n hx hb dX1_giveByShare_7 rfl (lv_at hl 2 rfl) ?_
    refine lv_i2d hx hb dX1_giveByShare_8 ?_
    refine lv_aload_n hx hb dX1_giveByShare_9 rfl (lv_at hl 0 rfl) ?_
    refine va_get (D := D) (ci := 1) (v := .ref (a 1)) (C := RX1) (T := TX1) (N := 12) hx hb (dr_words hts _) inX1 (xk_od hown) (xk_Kd hK) hP 0 rfl rfl 0 (by decide) (dr_words hts _ (.fieldLink RX1 9 "GridCommons" "shares" "[I") (by decide +kernel)) (fun _ h9 => h9) rfl dX1_giveByShare_10 ?_
    refine lv_iload_n hx hb dX1_giveByShare_13 rfl (lv_at hl 3 rfl) ?_
    refine xk_iald hx hb (xk_Kd hK) hP 1 0 rfl rfl (o := i) (by omega) (by decide) dX1_giveByShare_14 ?_
    refine lv_i2d hx hb dX1_giveByShare_15 ?_
    refine lv_dmul_any hdl lw_bits hx hb dX1_giveByShare_16 (fun r1 _ hal hd2 => ?_)
    have er1 := dt_mul hal
    refine lv_ldc2d hx hb (xk_od hown) (dr_words hts _ (.constantDouble RX1 75 4616189618054758400) (by decide +kernel)) dX1_giveByShare_17 ?_
    refine lv_ddiv_any hd2 lw_bits hx hb dX1_giveByShare_20 (fun r3 _ hal hd4 => ?_)
    have er3 := dt_div hal
    refine lv_aload_n hx hb dX1_giveByShare_21 rfl (lv_at hl 0 rfl) ?_
    refine va_get (D := D) (ci := 1) (v := .ref (a 7)) (C := RX1) (T := TX1) (N := 12) hx hb (dr_words hts _) inX1 (xk_od hown) (xk_Kd hK) hP 0 rfl rfl 10 (by decide) (dr_words hts _ (.fieldLink RX1 50 "GridCommons" "needs" "[D") (by decide +kernel)) (fun _ h9 => h9) rfl dX1_giveByShare_22 ?_
    refine lv_iload_n hx hb dX1_giveByShare_25 rfl (lv_at hl 3 rfl) ?_
    refine xk_dald hx hb (xk_Kd hK) hP 7 2 rfl rfl (o := i) (by omega) (by decide) dX1_giveByShare_26 ?_
    refine vp_callSd (va_Run.run (va_runS (As := [.double r3, .double (ne' i)]) (rest := []) ⟨hx, hb, hml, (xk_od hown), (dr_words hts _)⟩ (mX1_lesser l r3 (ne' i)) (va_cwS 2 (dr_words hts _) gX1_giveByShare_X1_lesser rfl rfl rfl (by decide +kernel) ⟨Nat.le_of_ble_eq_true rfl, Nat.le_of_ble_eq_true rfl⟩) ⟨fun a U g mk q => q, fun U hU hW => ⟨rfl, trivial⟩⟩ rfl rfl hl.1 rfl (lv_room (Nat.le_of_ble_eq_true rfl)) dX1_giveByShare_27 ⟨Nat.le_of_ble_eq_true rfl, Nat.le_of_ble_eq_true rfl⟩)) (fun x hx1 => ?_)
    have eu : dt x = uS sun sh V i := by rw [hx1, er3, er1, hq1 i hlt, po_at0]; rfl
    refine lv_dstore (lv' := [(4, .double x), (0, .ref (a 0)), (1, .int (nI n)), (2, .int sun), (3, .int (nI i))]) hx hb dX1_giveByShare_30 hl (by decide) rfl (fun ls hl => ?_)
    refine lv_aload_n hx hb dX1_giveByShare_32 rfl (lv_at hl 1 rfl) ?_
    refine lv_iload_n hx hb dX1_giveByShare_33 rfl (lv_at hl 4 rfl) ?_
    refine lv_iload_n hx hb dX1_giveByShare_34 rfl (lv_at hl 2 rfl) ?_
    refine lv_dload hx hb dX1_giveByShare_35 (lv_at hl 0 rfl) ?_
    have hFc := va_free (wc := XW a cI cZ cD sh sw ts bi it tu ne' pr so lo' wt cn lp lz lu lk ld lf' lb lw) hD hS hA [0, 1, 2, 3, 4, 5, 6, 7, 8, 9, 10, 11, 12, 13, 14, 15, 16] rfl
    refine va_callvD hd4 (va_runV_D (As := [.int (nI i), .int (nI n), .double x]) (rest := []) ⟨hx, hb, hml, (xk_od hown), (dr_words hts _)⟩ (mX1_giveSun l D cI cZ cD a _ sh sw ts bi it tu ne' pr so lo' wt cn lp lz lu lk ld lf' lb lw i n x hlt hn _ hq1) (cwV 3 (dr_words hts _) gX1_giveByShare_X1_giveSun rfl rfl rfl (by decide +kernel) ⟨Nat.le_of_ble_eq_true rfl, Nat.le_of_ble_eq_true rfl⟩) ⟨xk_blind, va_recv (xk_Kd hK) hP (ci := 1) (q0 := 0) rfl rfl, xk_pre hP (xk_Kd hK) hD⟩ rfl rfl hl.1 rfl (lv_room (Nat.le_of_ble_eq_true rfl)) dX1_giveByShare_37 ⟨Nat.le_of_ble_eq_true rfl, Nat.le_of_ble_eq_true rfl⟩) hS (fun q _ h => hFc q h) hFc (fun u t H locs ht hvm hw hB hz1 hk1 hS _ hd5 => ?_)
    obtain ⟨lf2, ne2⟩ := u
    obtain ⟨hP, -, hD1⟩ := hB
    rw [ht] at hP
    have hD := hD1.weaken (B := A) (fun _ _ _ h => hFc _ h)
    have hP : va_P D vwCl (XW a cI cZ cD sh sw ts bi it tu ne2 pr so lo' wt cn lp lz lu lk ld lf2 lb lw) H := hP
    have hD : va_D A (XW a cI cZ cD sh sw ts bi it tu ne2 pr so lo' wt cn lp lz lu lk ld lf2 lb lw) := hD
    obtain ⟨hw1, hw2⟩ := hw
    refine lv_aload_n hx hb dX1_giveByShare_40 rfl (lv_at hl 1 rfl) ?_
    refine lv_dup hx hb dX1_giveByShare_41 rfl ?_
    refine va_get (D := D) (ci := 1) (v := .double lo') (C := RX1) (T := TX1) (N := 12) hx hb (dr_words hts _) inX1 (xk_od hown) (xk_Kd hK) hP 0 rfl rfl 11 (by decide) (dr_words hts _ (.fieldLink RX1 53 "GridCommons" "leftOver" "D") (by decide +kernel)) (fun _ h9 => h9) rfl dX1_giveByShare_42 ?_
    refine lv_dload hx hb dX1_giveByShare_45 (lv_at hl 0 rfl) ?_
    refine lv_dsub_any hd5 lw_bits hx hb dX1_giveByShare_47 (fun r6 _ hal hd7 => ?_)
    have er6 := dt_sub hal
    refine va_put (D := D) (ci := 1) (v := .double r6) (ty := .double) (C := RX1) (T := TX1) (N := 12) hx hb (dr_words hts _) inX1 tyX1 tyX1_ok nmX1 (xk_od hown) (xk_Kd hK) hP hD hS 0 rfl rfl 11 (by decide) (dr_words hts _ (.fieldLink RX1 53 "GridCommons" "leftOver" "D") (by decide +kernel)) (fun _ h9 => h9) rfl (by decide +kernel) rfl rfl (Nat.le_of_ble_eq_true rfl) dX1_giveByShare_48 (fun H locs hP hD hS => ?_)
    have hP : va_P D vwCl (XW a cI cZ cD sh sw ts bi it tu ne2 pr so r6 wt cn lp lz lu lk ld lf2 lb lw) H := hP
    have hD : va_D A (XW a cI cZ cD sh sw ts bi it tu ne2 pr so r6 wt cn lp lz lu lk ld lf2 lb lw) := hD
    refine lv_iinc (v := nI (i + 1)) (lv' := [(3, .int (nI (i + 1))), (4, .double x), (0, .ref (a 0)), (1, .int (nI n)), (2, .int sun)]) hx hb dX1_giveByShare_51 hl (k := 4) rfl (nI_1 i) (by decide) rfl (fun ls hl => ?_)
    refine lv_goto (tgt := 2) hx hb dX1_giveByShare_54 (by decide) ?_
    exact next _ _ _ _ hlt ⟨lf2, ne2, r6, (hw1.trans (po_step hq0 (by rw [po_rd hq0, eu]))), (is5_cg hw2 (po_step0 rfl (by rw [po_at0, eu]))), (by rw [er6, hq2, eu]; rfl), hP, hD, hS, hd7, lv_sub hl [2, 3, 4, 0] rfl⟩
set_option maxHeartbeats 4000000 in
set_option maxRecDepth 100000 in
theorem mX1_giveByNeed (l : Launch) (D : va_G) (cI cZ cD : ClassId) (a : Nat → Nat) (sz : Nat) (sh sw ts : Nat → Int32) (bi : Nat → UInt64) (it tu : Nat → Int32) (ne : Nat → UInt64) (pr so lo : UInt64) (wt cn : Int32) (lp lz lu : Nat → UInt64) (lk : Nat → Int32) (ld lf lb lw : Nat → UInt64) (n : Nat) (hn : n < 60) (V : Nat → Dm) (hV : is5 ne V) : MetD lw_cs l yX1_giveByNeed wsX1_giveByNeed ({ frames := 2, cells := 0, slots := 0, locals := 45 } : Room) (va_Pc [.ref (a 0), .int (nI n)] (XP D cI cZ cD (XW a cI cZ cD sh sw ts bi it tu ne pr so lo wt cn lp lz lu lk ld lf lb lw) sz)) (va_Qv (fun (u : (Nat → UInt64) × (Nat → UInt64) × UInt64) => dts u.1 = (if noNeed V then dts lf else po (5 * n) 5 (dts lf) (fun k => dAdd (dts lf (5 * n + k)) (gE V (dt lo) k))) ∧ is5 u.2.1 (nE V (dt lo)) ∧ dt u.2.2 = lE V (dt lo)) (fun (u : (Nat → UInt64) × (Nat → UInt64) × UInt64) t => XB D cI cZ cD (XW a cI cZ cD sh sw ts bi it tu u.2.1 pr so u.2.2 wt cn lp lz lu lk ld u.1 lb lw) (va_A (XW a cI cZ cD sh sw ts bi it tu ne pr so lo wt cn lp lz lu lk ld lf lb lw) sz) t) (va_A (XW a cI cZ cD sh sw ts bi it tu ne pr so lo wt cn lp lz lu lk ld lf lb lw) sz)) 0 0 (va_A (XW a cI cZ cD sh sw ts bi it tu ne pr so lo wt cn lp lz lu lk ld lf lb lw) sz) := by
  refine MetD.ofW (cc := cX1_giveByNeed) (maxL := 5) (ret := none) (by decide +kernel) rfl ?_
  intro p e s m args below meth c s₁ B hml hv hd0
  obtain ⟨rfl, hsz, hP, hK, hD0⟩ := hv
  have hx := B.exec
  have hb := B.bytes
  have hr := B.returns
  have hts := atoms_spec (ws := wsX1_giveByNeed) B.pre
  have hown : s.vm.findClass RX1 = some m.cls := findClass_of_methodNamed B.named
  have hlocks := B.notSynchronized
  subst hsz
  have hD := hD0.self (sz := s.heap.size)
  generalize hAe : va_A (XW a cI cZ cD sh sw ts bi it tu ne pr so lo wt cn lp lz lu lk ld lf lb lw) s.heap.size = A at hD ⊢
  have hA : ∀ q : Nat, s.heap.size ≤ q → A q := fun q h => by rw [← hAe]; exact Or.inr h
  have hS : va_S A s.heap s.heap [] := va_S.rf
  have hl := lv_entry ([.ref (a 0), .int (nI n)]) (n := 5) (Nat.le_of_ble_eq_true rfl)
  rw [lg_entry_eq]
  generalize (lg_sl ([.ref (a 0), .int (nI n)]) ++ List.replicate (5 - (lg_sl ([.ref (a 0), .int (nI n)])).length) Slot.unset).toArray = ls at hl ⊢
  have hl : lv_has ls 5 [(0, .ref (a 0)), (1, .int (nI n))] := hl
  have inX1 : ∀ w ∈ wsX10, w ∈ wsX1_giveByNeed := by decide +kernel
  refine lv_aload_n hx hb dX1_giveByNeed_0 rfl (lv_at hl 0 rfl) ?_
  have hFc := va_free (wc := XW a cI cZ cD sh sw ts bi it tu ne pr so lo wt cn lp lz lu lk ld lf lb lw) hD hS hA [0, 1, 2, 3, 4, 5, 6, 7, 8, 9, 10, 11, 12, 13, 14, 15, 16] rfl
  refine va_calldD hd0 (va_runV_D (As := []) (rest := []) ⟨hx, hb, hml, (xk_od hown), (dr_words hts _)⟩ (mX1_sumOfNeeds l D cI cZ cD a _ sh sw ts bi it tu ne pr so lo wt cn lp lz lu lk ld lf lb lw V hV) (cwV 0 (dr_words hts _) gX1_giveByNeed_X1_sumOfNeeds rfl rfl rfl (by decide +kernel) ⟨Nat.le_of_ble_eq_true rfl, Nat.le_of_ble_eq_true rfl⟩) ⟨xk_blind, va_recv (xk_Kd hK) hP (ci := 1) (q0 := 0) rfl rfl, xk_pre hP (xk_Kd hK) hD⟩ rfl rfl hl.1 rfl (lv_room (Nat.le_of_ble_eq_true rfl)) dX1_giveByNeed_1 ⟨Nat.le_of_ble_eq_true rfl, Nat.le_of_ble_eq_true rfl⟩) hS (fun q _ h => hFc q h) hFc (fun sm u t H locs ht hvm hw hB hz1 hk1 hS _ hd1 => ?_)
  obtain ⟨hP, -, hD1⟩ := hB
  rw [ht] at hP
  have hD := hD1.weaken (B := A) (fun _ _ _ h => hFc _ h)
  have hP : va_P D vwCl (XW a cI cZ cD sh sw ts bi it tu ne pr so lo wt cn lp lz lu lk ld lf lb lw) H := hP
  have hD : va_D A (XW a cI cZ cD sh sw ts bi it tu ne pr so lo wt cn lp lz lu lk ld lf lb lw) := hD
  refine lv_dstore_n (lv' := [(2, .double sm), (0, .ref (a 0)), (1, .int (nI n))]) hx hb dX1_giveByNeed_4 rfl hl (by decide) rfl (fun ls hl => ?_)
  refine lv_dload_n hx hb dX1_giveByNeed_5 rfl (lv_at hl 0 rfl) ?_
  refine lv_dconst0 hx hb dX1_giveByNeed_6 ?_
  refine lv_dcmp hx hb dX1_giveByNeed_7 ?_
  refine lv_if_ne (tgt := 12) hx hb dX1_giveByNeed_8 (by decide) (fun c => ?_) (fun c => ?_)
  · skip
    have hN : ¬ noNeed V := fun q => c ((cv_l_eq _).mpr (show dCmp (dt sm) dZ = some .eq by rw [hw]; exact q))
    refine lv_dload_n hx hb dX1_giveByNeed_12 rfl (lv_at hl 0 rfl) ?_
    refine lv_aload_n hx hb dX1_giveByNeed_13 rfl (lv_at hl 1 rfl) ?_
    refine va_get (D := D) (ci := 1) (v := .double lo) (C := RX1) (T := TX1) (N := 12) hx hb (dr_words hts _) inX1 (xk_od hown) (xk_Kd hK) hP 0 rfl rfl 11 (by decide) (dr_words hts _ (.fieldLink RX1 53 "GridCommons" "leftOver" "D") (by decide +kernel)) (fun _ h9 => h9) rfl dX1_giveByNeed_14 ?_
    refine lv_dcmp hx hb dX1_giveByNeed_17 ?_
    refine lv_if_gt (tgt := 61) hx hb dX1_giveByNeed_18 (by decide) (fun c1 => ?_) (fun c1 => ?_)
    · skip
      have hE : ¬ enough V (dt lo) := by have q := (cv_g_gt _).mp c1; have q2 : ¬ (dCmp (dt sm) (dt lo) = some .lt ∨ dCmp (dt sm) (dt lo) = some .eq) := q; rw [hw] at q2; exact q2
      refine lv_iconst (v := nI 0) hx hb dX1_giveByNeed_61 (by decide) ?_
      refine lv_istore (lv' := [(4, .int (nI 0)), (2, .double sm), (0, .ref (a 0)), (1, .int (nI n))]) hx hb dX1_giveByNeed_62 hl (by decide) rfl (fun ls hl => ?_)
      refine xk_loop (fun i H locs ls d => ∃ (lf' : Nat → UInt64) (ne' : Nat → UInt64), (dts lf' = po (5 * n) i (dts lf) (fun k => dAdd (dts lf (5 * n + k)) (gE V (dt lo) k))) ∧ (is5 ne' (po 0 i V (fun k => dSub (V k) (gE V (dt lo) k)))) ∧ (va_P D vwCl (XW a cI cZ cD sh sw ts bi it tu ne' pr so lo wt cn lp lz lu lk ld lf' lb lw) H) ∧ (va_D A (XW a cI cZ cD sh sw ts bi it tu ne' pr so lo wt cn lp lz lu lk ld lf' lb lw)) ∧ (va_S A s.heap H locs) ∧ (s.drawn.sameBut d lw_cs) ∧ (lv_has ls 5 [(0, .ref (a 0)), (1, .int (nI n)), (2, .double sm), (4, .int (nI i))])) 5 ?_ (i := 0) (Nat.zero_le _) ⟨lf, ne, (po_0 _ _ _).symm, (is5_cg hV (po_0 _ _ _).symm), hP, hD, hS, hd1, lv_sub hl [2, 3, 1, 0] rfl⟩
      intro i H locs ls d hi hI next
      obtain ⟨lf', ne', hq0, hq1, hP, hD, hS, hdl, hl⟩ := hI
      refine lv_iload hx hb dX1_giveByNeed_64 (lv_at hl 3 rfl) ?_
      refine lv_iconst (v := nI 5) hx hb dX1_giveByNeed_66 (by decide) ?_
      refine lv_icmp_ge (tgt := 97) hx hb dX1_giveByNeed_67 (by decide) (fun c2 => ?_) (fun c2 => ?_)
      · skip
        obtain rfl := xk_ge hi (by decide) c2
        refine lv_aload_n hx hb dX1_giveByNeed_97 rfl (lv_at hl 0 rfl) ?_
        refine lv_dconst0 hx hb dX1_giveByNeed_98 ?_
        refine va_put (D := D) (ci := 1) (v := .double FP.dconst0) (ty := .double) (C := RX1) (T := TX1) (N := 12) hx hb (dr_words hts _) inX1 tyX1 tyX1_ok nmX1 (xk_od hown) (xk_Kd hK) hP hD hS 0 rfl rfl 11 (by decide) (dr_words hts _ (.fieldLink RX1 53 "GridCommons" "leftOver" "D") (by decide +kernel)) (fun _ h9 => h9) rfl (by decide +kernel) rfl rfl (Nat.le_of_ble_eq_true rfl) dX1_giveByNeed_99 (fun H locs hP hD hS => ?_)
        have hP : va_P D vwCl (XW a cI cZ cD sh sw ts bi it tu ne' pr so FP.dconst0 wt cn lp lz lu lk ld lf' lb lw) H := hP
        have hD : va_D A (XW a cI cZ cD sh sw ts bi it tu ne' pr so FP.dconst0 wt cn lp lz lu lk ld lf' lb lw) := hD
        refine W.endD hdl ?_
        exact W.vret hx hb hr (fun t ht hW => ⟨⟨(lf', ne', FP.dconst0), rfl, ⟨by rw [if_neg hN]; exact hq0, (is5_done hq1).to (fun j hj => by unfold nE; rw [if_neg hN]), by unfold lE; rw [if_neg hN, if_neg hE]; rfl⟩, by rw [ht]; exact hP, va_K.moved hW.alike (xk_Kd hK), hD⟩, hS.F ht⟩) hS.2.2 dX1_giveByNeed_102
      · skip
        have hlt := xk_nge hi (by decide) c2
        refine lv_aload_n hx hb dX1_giveByNeed_70 rfl (lv_at hl 0 rfl) ?_
        refine lv_iload hx hb dX1_giveByNeed_71 (lv_at hl 3 rfl) ?_
        refine lv_iload_n hx hb dX1_giveByNeed_73 rfl (lv_at hl 1 rfl) ?_
        refine lv_aload_n hx hb dX1_giveByNeed_74 rfl (lv_at hl 0 rfl) ?_
        refine va_get (D := D) (ci := 1) (v := .double lo) (C := RX1) (T := TX1) (N := 12) hx hb (dr_words hts _) inX1 (xk_od hown) (xk_Kd hK) hP 0 rfl rfl 11 (by decide) (dr_words hts _ (.fieldLink RX1 53 "GridCommons" "leftOver" "D") (by decide +kernel)) (fun _ h9 => h9) rfl dX1_giveByNeed_75 ?_
        refine lv_aload_n hx hb dX1_giveByNeed_78 rfl (lv_at hl 0 rfl) ?_
        refine va_get (D := D) (ci := 1) (v := .ref (a 7)) (C := RX1) (T := TX1) (N := 12) hx hb (dr_words hts _) inX1 (xk_od hown) (xk_Kd hK) hP 0 rfl rfl 10 (by decide) (dr_words hts _ (.fieldLink RX1 50 "GridCommons" "needs" "[D") (by decide +kernel)) (fun _ h9 => h9) rfl dX1_giveByNeed_79 ?_
        refine lv_iload hx hb dX1_giveByNeed_82 (lv_at hl 3 rfl) ?_
        refine xk_dald hx hb (xk_Kd hK) hP 7 2 rfl rfl (o := i) (by omega) (by decide) dX1_giveByNeed_84 ?_
        refine lv_dmul_any hdl lw_bits hx hb dX1_giveByNeed_85 (fun r2 _ hal hd3 => ?_)
        have er2 := dt_mul hal
        refine lv_dload_n hx hb dX1_giveByNeed_86 rfl (lv_at hl 2 rfl) ?_
        refine lv_ddiv_any hd3 lw_bits hx hb dX1_giveByNeed_87 (fun r4 _ hal hd5 => ?_)
        have er4 := dt_div hal
        have eu : dt r4 = gE V (dt lo) i := by unfold gE; rw [if_neg hE, er4, er2, hq1 i hlt, po_at0, hw]
        have hFc := va_free (wc := XW a cI cZ cD sh sw ts bi it tu ne' pr so lo wt cn lp lz lu lk ld lf' lb lw) hD hS hA [0, 1, 2, 3, 4, 5, 6, 7, 8, 9, 10, 11, 12, 13, 14, 15, 16] rfl
        refine va_callvD hd5 (va_runV_D (As := [.int (nI i), .int (nI n), .double r4]) (rest := []) ⟨hx, hb, hml, (xk_od hown), (dr_words hts _)⟩ (mX1_giveSun l D cI cZ cD a _ sh sw ts bi it tu ne' pr so lo wt cn lp lz lu lk ld lf' lb lw i n r4 hlt hn _ hq1) (cwV 3 (dr_words hts _) gX1_giveByNeed_X1_giveSun rfl rfl rfl (by decide +kernel) ⟨Nat.le_of_ble_eq_true rfl, Nat.le_of_ble_eq_true rfl⟩) ⟨xk_blind, va_recv (xk_Kd hK) hP (ci := 1) (q0 := 0) rfl rfl, xk_pre hP (xk_Kd hK) hD⟩ rfl rfl hl.1 rfl (lv_room (Nat.le_of_ble_eq_true rfl)) dX1_giveByNeed_88 ⟨Nat.le_of_ble_eq_true rfl, Nat.le_of_ble_eq_true rfl⟩) hS (fun q _ h => hFc q h) hFc (fun u t H locs ht hvm hw hB hz1 hk1 hS _ hd6 => ?_)
        obtain ⟨lf2, ne2⟩ := u
        obtain ⟨hP, -, hD1⟩ := hB
        rw [ht] at hP
        have hD := hD1.weaken (B := A) (fun _ _ _ h => hFc _ h)
        have hP : va_P D vwCl (XW a cI cZ cD sh sw ts bi it tu ne2 pr so lo wt cn lp lz lu lk ld lf2 lb lw) H := hP
        have hD : va_D A (XW a cI cZ cD sh sw ts bi it tu ne2 pr so lo wt cn lp lz lu lk ld lf2 lb lw) := hD
        obtain ⟨hw1, hw2⟩ := hw
        refine lv_iinc (v := nI (i + 1)) (lv' := [(4, .int (nI (i + 1))), (0, .ref (a 0)), (1, .int (nI n)), (2, .double sm)]) hx hb dX1_giveByNeed_91 hl (k := 3) rfl (nI_1 i) (by decide) rfl (fun ls hl => ?_)
        refine lv_goto (tgt := 64) hx hb dX1_giveByNeed_94 (by decide) ?_
        exact next _ _ _ _ hlt ⟨lf2, ne2, (hw1.trans (po_step hq0 (by rw [po_rd hq0, eu]))), (is5_cg hw2 (po_step0 rfl (by rw [po_at0, eu]))), hP, hD, hS, hd6, lv_sub hl [1, 2, 3, 0] rfl⟩
    · skip
      have hE : enough V (dt lo) := by have q := Decidable.of_not_not (fun q => c1 ((cv_g_gt _).mpr q)); have q2 : dCmp (dt sm) (dt lo) = some .lt ∨ dCmp (dt sm) (dt lo) = some .eq := q; rw [hw] at q2; exact q2
      refine lv_aload_n hx hb dX1_giveByNeed_21 rfl (lv_at hl 1 rfl) ?_
      refine lv_dup hx hb dX1_giveByNeed_22 rfl ?_
      refine va_get (D := D) (ci := 1) (v := .double lo) (C := RX1) (T := TX1) (N := 12) hx hb (dr_words hts _) inX1 (xk_od hown) (xk_Kd hK) hP 0 rfl rfl 11 (by decide) (dr_words hts _ (.fieldLink RX1 53 "GridCommons" "leftOver" "D") (by decide +kernel)) (fun _ h9 => h9) rfl dX1_giveByNeed_23 ?_
      refine lv_dload_n hx hb dX1_giveByNeed_26 rfl (lv_at hl 0 rfl) ?_
      refine lv_dsub_any hd1 lw_bits hx hb dX1_giveByNeed_27 (fun r7 _ hal hd8 => ?_)
      have er7 := dt_sub hal
      refine va_put (D := D) (ci := 1) (v := .double r7) (ty := .double) (C := RX1) (T := TX1) (N := 12) hx hb (dr_words hts _) inX1 tyX1 tyX1_ok nmX1 (xk_od hown) (xk_Kd hK) hP hD hS 0 rfl rfl 11 (by decide) (dr_words hts _ (.fieldLink RX1 53 "GridCommons" "leftOver" "D") (by decide +kernel)) (fun _ h9 => h9) rfl (by decide +kernel) rfl rfl (Nat.le_of_ble_eq_true rfl) dX1_giveByNeed_28 (fun H locs hP hD hS => ?_)
      have hP : va_P D vwCl (XW a cI cZ cD sh sw ts bi it tu ne pr so r7 wt cn lp lz lu lk ld lf lb lw) H := hP
      have hD : va_D A (XW a cI cZ cD sh sw ts bi it tu ne pr so r7 wt cn lp lz lu lk ld lf lb lw) := hD
      refine lv_iconst (v := nI 0) hx hb dX1_giveByNeed_31 (by decide) ?_
      refine lv_istore (lv' := [(4, .int (nI 0)), (2, .double sm), (0, .ref (a 0)), (1, .int (nI n))]) hx hb dX1_giveByNeed_32 hl (by decide) rfl (fun ls hl => ?_)
      refine xk_loop (fun i H locs ls d => ∃ (lf' : Nat → UInt64) (ne' : Nat → UInt64), (dts lf' = po (5 * n) i (dts lf) (fun k => dAdd (dts lf (5 * n + k)) (gE V (dt lo) k))) ∧ (is5 ne' (po 0 i V (fun k => dSub (V k) (gE V (dt lo) k)))) ∧ (va_P D vwCl (XW a cI cZ cD sh sw ts bi it tu ne' pr so r7 wt cn lp lz lu lk ld lf' lb lw) H) ∧ (va_D A (XW a cI cZ cD sh sw ts bi it tu ne' pr so r7 wt cn lp lz lu lk ld lf' lb lw)) ∧ (va_S A s.heap H locs) ∧ (s.drawn.sameBut d lw_cs) ∧ (lv_has ls 5 [(0, .ref (a 0)), (1, .int (nI n)), (2, .double sm), (4, .int (nI i))])) 5 ?_ (i := 0) (Nat.zero_le _) ⟨lf, ne, (po_0 _ _ _).symm, (is5_cg hV (po_0 _ _ _).symm), hP, hD, hS, hd8, lv_sub hl [2, 3, 1, 0] rfl⟩
      intro i H locs ls d hi hI next
      obtain ⟨lf', ne', hq0, hq1, hP, hD, hS, hdl, hl⟩ := hI
      refine lv_iload hx hb dX1_giveByNeed_34 (lv_at hl 3 rfl) ?_
      refine lv_iconst (v := nI 5) hx hb dX1_giveByNeed_36 (by decide) ?_
      refine lv_icmp_ge (tgt := 60) hx hb dX1_giveByNeed_37 (by decide) (fun c2 => ?_) (fun c2 => ?_)
      · skip
        obtain rfl := xk_ge hi (by decide) c2
        refine W.endD hdl ?_
        exact W.vret hx hb hr (fun t ht hW => ⟨⟨(lf', ne', r7), rfl, ⟨by rw [if_neg hN]; exact hq0, (is5_done hq1).to (fun j hj => by unfold nE; rw [if_neg hN]), by unfold lE; rw [if_neg hN, if_pos hE, er7, hw]⟩, by rw [ht]; exact hP, va_K.moved hW.alike (xk_Kd hK), hD⟩, hS.F ht⟩) hS.2.2 dX1_giveByNeed_60
      · skip
        have hlt := xk_nge hi (by decide) c2
        refine lv_aload_n hx hb dX1_giveByNeed_40 rfl (lv_at hl 0 rfl) ?_
        refine lv_iload hx hb dX1_giveByNeed_41 (lv_at hl 3 rfl) ?_
        refine lv_iload_n hx hb dX1_giveByNeed_43 rfl (lv_at hl 1 rfl) ?_
        refine lv_aload_n hx hb dX1_giveByNeed_44 rfl (lv_at hl 0 rfl) ?_
        refine va_get (D := D) (ci := 1) (v := .ref (a 7)) (C := RX1) (T := TX1) (N := 12) hx hb (dr_words hts _) inX1 (xk_od hown) (xk_Kd hK) hP 0 rfl rfl 10 (by decide) (dr_words hts _ (.fieldLink RX1 50 "GridCommons" "needs" "[D") (by decide +kernel)) (fun _ h9 => h9) rfl dX1_giveByNeed_45 ?_
        refine lv_iload hx hb dX1_giveByNeed_48 (lv_at hl 3 rfl) ?_
        refine xk_dald hx hb (xk_Kd hK) hP 7 2 rfl rfl (o := i) (by omega) (by decide) dX1_giveByNeed_50 ?_
        have eu : dt (ne' i) = gE V (dt lo) i := by unfold gE; rw [if_pos hE, hq1 i hlt, po_at0]
        have hFc := va_free (wc := XW a cI cZ cD sh sw ts bi it tu ne' pr so r7 wt cn lp lz lu lk ld lf' lb lw) hD hS hA [0, 1, 2, 3, 4, 5, 6, 7, 8, 9, 10, 11, 12, 13, 14, 15, 16] rfl
        refine va_callvD hdl (va_runV_D (As := [.int (nI i), .int (nI n), .double (ne' i)]) (rest := []) ⟨hx, hb, hml, (xk_od hown), (dr_words hts _)⟩ (mX1_giveSun l D cI cZ cD a _ sh sw ts bi it tu ne' pr so r7 wt cn lp lz lu lk ld lf' lb lw i n (ne' i) hlt hn _ hq1) (cwV 3 (dr_words hts _) gX1_giveByNeed_X1_giveSun rfl rfl rfl (by decide +kernel) ⟨Nat.le_of_ble_eq_true rfl, Nat.le_of_ble_eq_true rfl⟩) ⟨xk_blind, va_recv (xk_Kd hK) hP (ci := 1) (q0 := 0) rfl rfl, xk_pre hP (xk_Kd hK) hD⟩ rfl rfl hl.1 rfl (lv_room (Nat.le_of_ble_eq_true rfl)) dX1_giveByNeed_51 ⟨Nat.le_of_ble_eq_true rfl, Nat.le_of_ble_eq_true rfl⟩) hS (fun q _ h => hFc q h) hFc (fun u t H locs ht hvm hw hB hz1 hk1 hS _ hd9 => ?_)
        obtain ⟨lf2, ne2⟩ := u
        obtain ⟨hP, -, hD1⟩ := hB
        rw [ht] at hP
        have hD := hD1.weaken (B := A) (fun _ _ _ h => hFc _ h)
        have hP : va_P D vwCl (XW a cI cZ cD sh sw ts bi it tu ne2 pr so r7 wt cn lp lz lu lk ld lf2 lb lw) H := hP
        have hD : va_D A (XW a cI cZ cD sh sw ts bi it tu ne2 pr so r7 wt cn lp lz lu lk ld lf2 lb lw) := hD
        obtain ⟨hw1, hw2⟩ := hw
        refine lv_iinc (v := nI (i + 1)) (lv' := [(4, .int (nI (i + 1))), (0, .ref (a 0)), (1, .int (nI n)), (2, .double sm)]) hx hb dX1_giveByNeed_54 hl (k := 3) rfl (nI_1 i) (by decide) rfl (fun ls hl => ?_)
        refine lv_goto (tgt := 34) hx hb dX1_giveByNeed_57 (by decide) ?_
        exact next _ _ _ _ hlt ⟨lf2, ne2, (hw1.trans (po_step hq0 (by rw [po_rd hq0, eu]))), (is5_cg hw2 (po_step0 rfl (by rw [po_at0, eu]))), hP, hD, hS, hd9, lv_sub hl [1, 2, 3, 0] rfl⟩
  · skip
    have hN : noNeed V := by have q := (cv_l_eq _).mp c; have q2 : dCmp (dt sm) dZ = some .eq := q; rw [hw] at q2; exact q2
    refine W.endD hd1 ?_
    exact W.vret hx hb hr (fun t ht hW => ⟨⟨(lf, ne, lo), rfl, ⟨by rw [if_pos hN], hV.to (fun j hj => by unfold nE; rw [if_pos hN]), by unfold lE; rw [if_pos hN]⟩, by rw [ht]; exact hP, va_K.moved hW.alike (xk_Kd hK), hD⟩, hS.F ht⟩) hS.2.2 dX1_giveByNeed_11
set_option maxHeartbeats 4000000 in
set_option maxRecDepth 100000 in
theorem mX1_storeOrSell (l : Launch) (D : va_G) (cI cZ cD : ClassId) (a : Nat → Nat) (sz : Nat) (sh sw ts : Nat → Int32) (bi : Nat → UInt64) (it tu : Nat → Int32) (ne : Nat → UInt64) (pr so lo : UInt64) (wt cn : Int32) (lp lz lu : Nat → UInt64) (lk : Nat → Int32) (ld lf lb lw : Nat → UInt64) (n : Nat) (hn : n < 60) : MetD lw_cs l yX1_storeOrSell wsX1_storeOrSell ({ frames := 0, cells := 0, slots := 0, locals := 0 } : Room) (va_Pc [.ref (a 0), .int (nI n)] (XP D cI cZ cD (XW a cI cZ cD sh sw ts bi it tu ne pr so lo wt cn lp lz lu lk ld lf lb lw) sz)) (va_Qv (fun (u : UInt64 × (Nat → UInt64)) => dt u.1 = soN (dt so) (dt lo) ∧ dts u.2 = va_up (dts lz) n (szN (dt so) (dt lo))) (fun (u : UInt64 × (Nat → UInt64)) t => XB D cI cZ cD (XW a cI cZ cD sh sw ts bi it tu ne pr u.1 lo wt cn lp u.2 lu lk ld lf lb lw) (va_A (XW a cI cZ cD sh sw ts bi it tu ne pr so lo wt cn lp lz lu lk ld lf lb lw) sz) t) (va_A (XW a cI cZ cD sh sw ts bi it tu ne pr so lo wt cn lp lz lu lk ld lf lb lw) sz)) 0 0 (va_A (XW a cI cZ cD sh sw ts bi it tu ne pr so lo wt cn lp lz lu lk ld lf lb lw) sz) := by
  refine MetD.ofW (cc := cX1_storeOrSell) (maxL := 4) (ret := none) (by decide +kernel) rfl ?_
  intro p e s m args below meth c s₁ B hml hv hd0
  obtain ⟨rfl, hsz, hP, hK, hD0⟩ := hv
  have hx := B.exec
  have hb := B.bytes
  have hr := B.returns
  have hts := atoms_spec (ws := wsX1_storeOrSell) B.pre
  have hown : s.vm.findClass RX1 = some m.cls := findClass_of_methodNamed B.named
  have hlocks := B.notSynchronized
  subst hsz
  have hD := hD0.self (sz := s.heap.size)
  generalize hAe : va_A (XW a cI cZ cD sh sw ts bi it tu ne pr so lo wt cn lp lz lu lk ld lf lb lw) s.heap.size = A at hD ⊢
  have hA : ∀ q : Nat, s.heap.size ≤ q → A q := fun q h => by rw [← hAe]; exact Or.inr h
  have hS : va_S A s.heap s.heap [] := va_S.rf
  have hl := lv_entry ([.ref (a 0), .int (nI n)]) (n := 4) (Nat.le_of_ble_eq_true rfl)
  rw [lg_entry_eq]
  generalize (lg_sl ([.ref (a 0), .int (nI n)]) ++ List.replicate (4 - (lg_sl ([.ref (a 0), .int (nI n)])).length) Slot.unset).toArray = ls at hl ⊢
  have hl : lv_has ls 4 [(0, .ref (a 0)), (1, .int (nI n))] := hl
  have inX1 : ∀ w ∈ wsX10, w ∈ wsX1_storeOrSell := by decide +kernel
  have inX0 : ∀ w ∈ wsX00, w ∈ wsX1_storeOrSell := by decide +kernel
  refine lv_ldc2d hx hb (xk_od hown) (dr_words hts _ (.constantDouble RX1 179 4630826316843712512) (by decide +kernel)) dX1_storeOrSell_0 ?_
  refine lv_aload_n hx hb dX1_storeOrSell_3 rfl (lv_at hl 0 rfl) ?_
  refine va_get (D := D) (ci := 1) (v := .double so) (C := RX1) (T := TX1) (N := 12) hx hb (dr_words hts _) inX1 (xk_od hown) (xk_Kd hK) hP 0 rfl rfl 8 (by decide) (dr_words hts _ (.fieldLink RX1 43 "GridCommons" "stored" "D") (by decide +kernel)) (fun _ h9 => h9) rfl dX1_storeOrSell_4 ?_
  refine lv_dsub_any hd0 lw_bits hx hb dX1_storeOrSell_7 (fun r1 _ hal hd2 => ?_)
  have er1 := dt_sub hal
  refine lv_dstore_n (lv' := [(2, .double r1), (0, .ref (a 0)), (1, .int (nI n))]) hx hb dX1_storeOrSell_8 rfl hl (by decide) rfl (fun ls hl => ?_)
  refine lv_aload_n hx hb dX1_storeOrSell_9 rfl (lv_at hl 1 rfl) ?_
  refine va_get (D := D) (ci := 1) (v := .double lo) (C := RX1) (T := TX1) (N := 12) hx hb (dr_words hts _) inX1 (xk_od hown) (xk_Kd hK) hP 0 rfl rfl 11 (by decide) (dr_words hts _ (.fieldLink RX1 53 "GridCommons" "leftOver" "D") (by decide +kernel)) (fun _ h9 => h9) rfl dX1_storeOrSell_10 ?_
  refine lv_dload_n hx hb dX1_storeOrSell_13 rfl (lv_at hl 0 rfl) ?_
  refine lv_dcmp hx hb dX1_storeOrSell_14 ?_
  refine lv_if_ge (tgt := 44) hx hb dX1_storeOrSell_15 (by decide) (fun c => ?_) (fun c => ?_)
  · skip
    have hc : ¬ dCmp (dt lo) (dSub d40 (dt so)) = some .lt := by have q := (cv_g_ge _).mp c; have q2 : ¬ dCmp (dt lo) (dt r1) = some .lt := q; rw [er1] at q2; exact q2
    refine lv_aload_n hx hb dX1_storeOrSell_44 rfl (lv_at hl 1 rfl) ?_
    refine lv_ldc2d hx hb (xk_od hown) (dr_words hts _ (.constantDouble RX1 179 4630826316843712512) (by decide +kernel)) dX1_storeOrSell_45 ?_
    refine va_put (D := D) (ci := 1) (v := .double 4630826316843712512) (ty := .double) (C := RX1) (T := TX1) (N := 12) hx hb (dr_words hts _) inX1 tyX1 tyX1_ok nmX1 (xk_od hown) (xk_Kd hK) hP hD hS 0 rfl rfl 8 (by decide) (dr_words hts _ (.fieldLink RX1 43 "GridCommons" "stored" "D") (by decide +kernel)) (fun _ h9 => h9) rfl (by decide +kernel) rfl rfl (Nat.le_of_ble_eq_true rfl) dX1_storeOrSell_48 (fun H locs hP hD hS => ?_)
    have hP : va_P D vwCl (XW a cI cZ cD sh sw ts bi it tu ne pr 4630826316843712512 lo wt cn lp lz lu lk ld lf lb lw) H := hP
    have hD : va_D A (XW a cI cZ cD sh sw ts bi it tu ne pr 4630826316843712512 lo wt cn lp lz lu lk ld lf lb lw) := hD
    refine lv_aload_n hx hb dX1_storeOrSell_51 rfl (lv_at hl 1 rfl) ?_
    refine va_get (D := D) (ci := 1) (v := .ref (a 8)) (C := RX1) (T := TX1) (N := 12) hx hb (dr_words hts _) inX1 (xk_od hown) (xk_Kd hK) hP 0 rfl rfl 6 (by decide) (dr_words hts _ (.fieldLink RX1 33 "GridCommons" "ledger" "LGridCommons$Ledger;") (by decide +kernel)) (fun _ h9 => h9) rfl dX1_storeOrSell_52 ?_
    refine va_get (D := D) (ci := 0) (v := .ref (a 10)) (C := RX0) (T := TX0) (N := 9) hx hb (dr_words hts _) inX0 (xk_od hown) (xk_Kd hK) hP 8 rfl rfl 2 (by decide) (dr_words hts _ (.fieldLink RX1 143 "GridCommons$Ledger" "sold" "[D") (by decide +kernel)) (fun _ h9 => h9) rfl dX1_storeOrSell_55 ?_
    refine lv_iload_n hx hb dX1_storeOrSell_58 rfl (lv_at hl 2 rfl) ?_
    refine lv_aload_n hx hb dX1_storeOrSell_59 rfl (lv_at hl 1 rfl) ?_
    refine va_get (D := D) (ci := 1) (v := .double lo) (C := RX1) (T := TX1) (N := 12) hx hb (dr_words hts _) inX1 (xk_od hown) (xk_Kd hK) hP 0 rfl rfl 11 (by decide) (dr_words hts _ (.fieldLink RX1 53 "GridCommons" "leftOver" "D") (by decide +kernel)) (fun _ h9 => h9) rfl dX1_storeOrSell_60 ?_
    refine lv_dload_n hx hb dX1_storeOrSell_63 rfl (lv_at hl 0 rfl) ?_
    refine lv_dsub_any hd2 lw_bits hx hb dX1_storeOrSell_64 (fun r3 _ hal hd4 => ?_)
    have er3 := dt_sub hal
    refine xk_dast hx hb (xk_Kd hK) hP hD hS 10 2 rfl rfl (o := n) (by omega) (by decide) dX1_storeOrSell_65 (fun H locs hP hD hS => ?_)
    have hP : va_P D vwCl (XW a cI cZ cD sh sw ts bi it tu ne pr 4630826316843712512 lo wt cn lp (vf_upd lz n r3) lu lk ld lf lb lw) H := hP
    have hD : va_D A (XW a cI cZ cD sh sw ts bi it tu ne pr 4630826316843712512 lo wt cn lp (vf_upd lz n r3) lu lk ld lf lb lw) := hD
    refine W.endD hd4 ?_
    exact W.vret hx hb hr (fun t ht hW => ⟨⟨(4630826316843712512, vf_upd lz n r3), rfl, ⟨by unfold soN; rw [if_neg hc], by unfold szN; rw [if_neg hc, dts_up, er3, er1]⟩, by rw [ht]; exact hP, va_K.moved hW.alike (xk_Kd hK), hD⟩, hS.F ht⟩) hS.2.2 dX1_storeOrSell_66
  · skip
    have hc : dCmp (dt lo) (dSub d40 (dt so)) = some .lt := by have q := Decidable.of_not_not (fun q => c ((cv_g_ge _).mpr q)); have q2 : dCmp (dt lo) (dt r1) = some .lt := q; rw [er1] at q2; exact q2
    refine lv_aload_n hx hb dX1_storeOrSell_18 rfl (lv_at hl 1 rfl) ?_
    refine lv_dup hx hb dX1_storeOrSell_19 rfl ?_
    refine va_get (D := D) (ci := 1) (v := .double so) (C := RX1) (T := TX1) (N := 12) hx hb (dr_words hts _) inX1 (xk_od hown) (xk_Kd hK) hP 0 rfl rfl 8 (by decide) (dr_words hts _ (.fieldLink RX1 43 "GridCommons" "stored" "D") (by decide +kernel)) (fun _ h9 => h9) rfl dX1_storeOrSell_20 ?_
    refine lv_aload_n hx hb dX1_storeOrSell_23 rfl (lv_at hl 1 rfl) ?_
    refine va_get (D := D) (ci := 1) (v := .double lo) (C := RX1) (T := TX1) (N := 12) hx hb (dr_words hts _) inX1 (xk_od hown) (xk_Kd hK) hP 0 rfl rfl 11 (by decide) (dr_words hts _ (.fieldLink RX1 53 "GridCommons" "leftOver" "D") (by decide +kernel)) (fun _ h9 => h9) rfl dX1_storeOrSell_24 ?_
    refine lv_dadd_any hd2 lw_bits hx hb dX1_storeOrSell_27 (fun r5 _ hal hd6 => ?_)
    have er5 := dt_add hal
    refine va_put (D := D) (ci := 1) (v := .double r5) (ty := .double) (C := RX1) (T := TX1) (N := 12) hx hb (dr_words hts _) inX1 tyX1 tyX1_ok nmX1 (xk_od hown) (xk_Kd hK) hP hD hS 0 rfl rfl 8 (by decide) (dr_words hts _ (.fieldLink RX1 43 "GridCommons" "stored" "D") (by decide +kernel)) (fun _ h9 => h9) rfl (by decide +kernel) rfl rfl (Nat.le_of_ble_eq_true rfl) dX1_storeOrSell_28 (fun H locs hP hD hS => ?_)
    have hP : va_P D vwCl (XW a cI cZ cD sh sw ts bi it tu ne pr r5 lo wt cn lp lz lu lk ld lf lb lw) H := hP
    have hD : va_D A (XW a cI cZ cD sh sw ts bi it tu ne pr r5 lo wt cn lp lz lu lk ld lf lb lw) := hD
    refine lv_aload_n hx hb dX1_storeOrSell_31 rfl (lv_at hl 1 rfl) ?_
    refine va_get (D := D) (ci := 1) (v := .ref (a 8)) (C := RX1) (T := TX1) (N := 12) hx hb (dr_words hts _) inX1 (xk_od hown) (xk_Kd hK) hP 0 rfl rfl 6 (by decide) (dr_words hts _ (.fieldLink RX1 33 "GridCommons" "ledger" "LGridCommons$Ledger;") (by decide +kernel)) (fun _ h9 => h9) rfl dX1_storeOrSell_32 ?_
    refine va_get (D := D) (ci := 0) (v := .ref (a 10)) (C := RX0) (T := TX0) (N := 9) hx hb (dr_words hts _) inX0 (xk_od hown) (xk_Kd hK) hP 8 rfl rfl 2 (by decide) (dr_words hts _ (.fieldLink RX1 143 "GridCommons$Ledger" "sold" "[D") (by decide +kernel)) (fun _ h9 => h9) rfl dX1_storeOrSell_35 ?_
    refine lv_iload_n hx hb dX1_storeOrSell_38 rfl (lv_at hl 2 rfl) ?_
    refine lv_dconst0 hx hb dX1_storeOrSell_39 ?_
    refine xk_dast hx hb (xk_Kd hK) hP hD hS 10 2 rfl rfl (o := n) (by omega) (by decide) dX1_storeOrSell_40 (fun H locs hP hD hS => ?_)
    have hP : va_P D vwCl (XW a cI cZ cD sh sw ts bi it tu ne pr r5 lo wt cn lp (vf_upd lz n FP.dconst0) lu lk ld lf lb lw) H := hP
    have hD : va_D A (XW a cI cZ cD sh sw ts bi it tu ne pr r5 lo wt cn lp (vf_upd lz n FP.dconst0) lu lk ld lf lb lw) := hD
    refine lv_goto (tgt := 66) hx hb dX1_storeOrSell_41 (by decide) ?_
    refine W.endD hd6 ?_
    exact W.vret hx hb hr (fun t ht hW => ⟨⟨(r5, vf_upd lz n FP.dconst0), rfl, ⟨by unfold soN; rw [if_pos hc, er5], by unfold szN; rw [if_pos hc, dts_up]; rfl⟩, by rw [ht]; exact hP, va_K.moved hW.alike (xk_Kd hK), hD⟩, hS.F ht⟩) hS.2.2 dX1_storeOrSell_66
set_option maxHeartbeats 4000000 in
set_option maxRecDepth 100000 in
theorem mX1_giveFromBattery (l : Launch) (D : va_G) (cI cZ cD : ClassId) (a : Nat → Nat) (sz : Nat) (sh sw ts : Nat → Int32) (bi : Nat → UInt64) (it tu : Nat → Int32) (ne : Nat → UInt64) (pr so lo : UInt64) (cn : Int32) (lp lz lu : Nat → UInt64) (lk : Nat → Int32) (ld lf lb lw : Nat → UInt64) (n tr : Nat) (hn : n < 60) (ht5 : tr < 5) (V : Nat → Dm) (hV : is5 ne V) : MetD lw_cs l yX1_giveFromBattery wsX1_giveFromBattery ({ frames := 2, cells := 0, slots := 0, locals := 42 } : Room) (va_Pc [.ref (a 0), .int (nI n)] (XP D cI cZ cD (XW a cI cZ cD sh sw ts bi it tu ne pr so lo (nI tr) cn lp lz lu lk ld lf lb lw) sz)) (va_Qv (fun (u : (Nat → UInt64) × UInt64 × (Nat → UInt64) × Nat) => is5 u.1 (gbs tr (5 * n) V (dt so) (dts lb) 5).1 ∧ dt u.2.1 = (gbs tr (5 * n) V (dt so) (dts lb) 5).2.1 ∧ dts u.2.2.1 = (gbs tr (5 * n) V (dt so) (dts lb) 5).2.2.1 ∧ u.2.2.2 = tnx tr (gbs tr (5 * n) V (dt so) (dts lb) 5).2.2.2) (fun (u : (Nat → UInt64) × UInt64 × (Nat → UInt64) × Nat) t => XB D cI cZ cD (XW a cI cZ cD sh sw ts bi it tu u.1 pr u.2.1 lo (nI u.2.2.2) cn lp lz lu lk ld lf u.2.2.1 lw) (va_A (XW a cI cZ cD sh sw ts bi it tu ne pr so lo (nI tr) cn lp lz lu lk ld lf lb lw) sz) t) (va_A (XW a cI cZ cD sh sw ts bi it tu ne pr so lo (nI tr) cn lp lz lu lk ld lf lb lw) sz)) 0 0 (va_A (XW a cI cZ cD sh sw ts bi it tu ne pr so lo (nI tr) cn lp lz lu lk ld lf lb lw) sz) := by
  refine MetD.ofW (cc := cX1_giveFromBattery) (maxL := 7) (ret := none) (by decide +kernel) rfl ?_
  intro p e s m args below meth c s₁ B hml hv hd0
  obtain ⟨rfl, hsz, hP, hK, hD0⟩ := hv
  have hx := B.exec
  have hb := B.bytes
  have hr := B.returns
  have hts := atoms_spec (ws := wsX1_giveFromBattery) B.pre
  have hown : s.vm.findClass RX1 = some m.cls := findClass_of_methodNamed B.named
  have hlocks := B.notSynchronized
  subst hsz
  have hD := hD0.self (sz := s.heap.size)
  generalize hAe : va_A (XW a cI cZ cD sh sw ts bi it tu ne pr so lo (nI tr) cn lp lz lu lk ld lf lb lw) s.heap.size = A at hD ⊢
  have hA : ∀ q : Nat, s.heap.size ≤ q → A q := fun q h => by rw [← hAe]; exact Or.inr h
  have hS : va_S A s.heap s.heap [] := va_S.rf
  have hl := lv_entry ([.ref (a 0), .int (nI n)]) (n := 7) (Nat.le_of_ble_eq_true rfl)
  rw [lg_entry_eq]
  generalize (lg_sl ([.ref (a 0), .int (nI n)]) ++ List.replicate (7 - (lg_sl ([.ref (a 0), .int (nI n)])).length) Slot.unset).toArray = ls at hl ⊢
  have hl : lv_has ls 7 [(0, .ref (a 0)), (1, .int (nI n))] := hl
  have inX1 : ∀ w ∈ wsX10, w ∈ wsX1_giveFromBattery := by decide +kernel
  have inX0 : ∀ w ∈ wsX00, w ∈ wsX1_giveFromBattery := by decide +kernel
  refine lv_iconst (v := (-1)) hx hb dX1_giveFromBattery_0 (by decide) ?_
  refine lv_istore_n (lv' := [(2, .int (-1)), (0, .ref (a 0)), (1, .int (nI n))]) hx hb dX1_giveFromBattery_1 rfl hl (by decide) rfl (fun ls hl => ?_)
  refine lv_aload_n hx hb dX1_giveFromBattery_2 rfl (lv_at hl 1 rfl) ?_
  refine va_get (D := D) (ci := 1) (v := .int (nI tr)) (C := RX1) (T := TX1) (N := 12) hx hb (dr_words hts _) inX1 (xk_od hown) (xk_Kd hK) hP 0 rfl rfl 9 (by decide) (dr_words hts _ (.fieldLink RX1 46 "GridCommons" "whoseTurn" "I") (by decide +kernel)) (fun _ h9 => h9) rfl dX1_giveFromBattery_3 ?_
  refine lv_istore_n (lv' := [(3, .int (nI tr)), (2, .int (-1)), (0, .ref (a 0)), (1, .int (nI n))]) hx hb dX1_giveFromBattery_6 rfl hl (by decide) rfl (fun ls hl => ?_)
  refine lv_iconst (v := nI 0) hx hb dX1_giveFromBattery_7 (by decide) ?_
  refine lv_istore (lv' := [(4, .int (nI 0)), (3, .int (nI tr)), (2, .int (-1)), (0, .ref (a 0)), (1, .int (nI n))]) hx hb dX1_giveFromBattery_8 hl (by decide) rfl (fun ls hl => ?_)
  have hl : lv_has ls 7 [(4, .int (nI 0)), (3, .int (nI ((tr + 0) % 5))), (2, .int (-1)), (0, .ref (a 0)), (1, .int (nI n))] := (by rw [show (tr + 0) % 5 = tr by omega]; exact hl)
  refine xk_loop (fun i H locs ls d => ∃ (ne' : Nat → UInt64) (so' : UInt64) (lb' : Nat → UInt64) (y : Option Nat), (is5 ne' (gbs tr (5 * n) V (dt so) (dts lb) i).1) ∧ (dt so' = (gbs tr (5 * n) V (dt so) (dts lb) i).2.1) ∧ (dts lb' = (gbs tr (5 * n) V (dt so) (dts lb) i).2.2.1) ∧ (y = (gbs tr (5 * n) V (dt so) (dts lb) i).2.2.2) ∧ (∀ o, y = some o → o < 5) ∧ (va_P D vwCl (XW a cI cZ cD sh sw ts bi it tu ne' pr so' lo (nI tr) cn lp lz lu lk ld lf lb' lw) H) ∧ (va_D A (XW a cI cZ cD sh sw ts bi it tu ne' pr so' lo (nI tr) cn lp lz lu lk ld lf lb' lw)) ∧ (va_S A s.heap H locs) ∧ (s.drawn.sameBut d lw_cs) ∧ (lv_has ls 7 [(0, .ref (a 0)), (1, .int (nI n)), (2, .int (oi y)), (3, .int (nI ((tr + i) % 5))), (4, .int (nI i))])) 5 ?_ (i := 0) (Nat.zero_le _) ⟨ne, so, lb, none, hV, rfl, rfl, rfl, (fun o h => nomatch h), hP, hD, hS, hd0, lv_sub hl [3, 4, 2, 1, 0] rfl⟩
  intro i H locs ls d hi hI next
  obtain ⟨ne', so', lb', y, hq0, hq1, hq2, hq3, hq4, hP, hD, hS, hdl, hl⟩ := hI
  refine lv_iload hx hb dX1_giveFromBattery_10 (lv_at hl 4 rfl) ?_
  refine lv_iconst (v := nI 5) hx hb dX1_giveFromBattery_12 (by decide) ?_
  refine lv_icmp_ge (tgt := 88) hx hb dX1_giveFromBattery_13 (by decide) (fun c => ?_) (fun c => ?_)
  · skip
    obtain rfl := xk_ge hi (by decide) c
    cases y with
    | none =>
      have hl : lv_has ls 7 [(0, .ref (a 0)), (1, .int (nI n)), (2, .int (-1)), (3, .int (nI ((tr + 5) % 5))), (4, .int (nI 5))] := hl
      refine lv_iload_n hx hb dX1_giveFromBattery_88 rfl (lv_at hl 2 rfl) ?_
      refine lv_iconst (v := (-1)) hx hb dX1_giveFromBattery_89 (by decide) ?_
      refine lv_icmp_eq (tgt := 101) hx hb dX1_giveFromBattery_90 (by decide) (fun c1 => ?_) (fun c1 => ?_)
      · skip
        refine W.endD hdl ?_
        exact W.vret hx hb hr (fun t ht hW => ⟨⟨(ne', so', lb', tr), rfl, ⟨hq0, hq1, hq2, by rw [← hq3]; rfl⟩, by rw [ht]; exact hP, va_K.moved hW.alike (xk_Kd hK), hD⟩, hS.F ht⟩) hS.2.2 dX1_giveFromBattery_101
      · skip
        exact absurd rfl c1
    | some o =>
      have hl : lv_has ls 7 [(0, .ref (a 0)), (1, .int (nI n)), (2, .int (nI o)), (3, .int (nI ((tr + 5) % 5))), (4, .int (nI 5))] := hl
      have ho := hq4 o rfl
      refine lv_iload_n hx hb dX1_giveFromBattery_88 rfl (lv_at hl 2 rfl) ?_
      refine lv_iconst (v := (-1)) hx hb dX1_giveFromBattery_89 (by decide) ?_
      refine lv_icmp_eq (tgt := 101) hx hb dX1_giveFromBattery_90 (by decide) (fun c1 => ?_) (fun c1 => ?_)
      · skip
        exact absurd c1 (nI_nm1 o ho)
      · skip
        refine lv_aload_n hx hb dX1_giveFromBattery_93 rfl (lv_at hl 0 rfl) ?_
        refine lv_iload_n hx hb dX1_giveFromBattery_94 rfl (lv_at hl 2 rfl) ?_
        refine vp_callSi (va_Run.run (va_runS (As := [.int (nI o)]) (rest := [.ref (a 0)]) ⟨hx, hb, hml, (xk_od hown), (dr_words hts _)⟩ (mX1_behind l o ho) (va_cwS 1 (dr_words hts _) gX1_giveFromBattery_X1_behind rfl rfl rfl (by decide +kernel) ⟨Nat.le_of_ble_eq_true rfl, Nat.le_of_ble_eq_true rfl⟩) ⟨fun a U g mk q => q, fun U hU hW => ⟨rfl, trivial⟩⟩ rfl rfl hl.1 rfl (lv_room (Nat.le_of_ble_eq_true rfl)) dX1_giveFromBattery_95 ⟨Nat.le_of_ble_eq_true rfl, Nat.le_of_ble_eq_true rfl⟩)) (fun r hr1 => ?_)
        subst hr1
        refine va_put (D := D) (ci := 1) (v := .int (nI ((o + 1) % 5))) (ty := .int) (C := RX1) (T := TX1) (N := 12) hx hb (dr_words hts _) inX1 tyX1 tyX1_ok nmX1 (xk_od hown) (xk_Kd hK) hP hD hS 0 rfl rfl 9 (by decide) (dr_words hts _ (.fieldLink RX1 46 "GridCommons" "whoseTurn" "I") (by decide +kernel)) (fun _ h9 => h9) rfl (by decide +kernel) rfl rfl (Nat.le_of_ble_eq_true rfl) dX1_giveFromBattery_98 (fun H locs hP hD hS => ?_)
        have hP : va_P D vwCl (XW a cI cZ cD sh sw ts bi it tu ne' pr so' lo (nI ((o + 1) % 5)) cn lp lz lu lk ld lf lb' lw) H := hP
        have hD : va_D A (XW a cI cZ cD sh sw ts bi it tu ne' pr so' lo (nI ((o + 1) % 5)) cn lp lz lu lk ld lf lb' lw) := hD
        refine W.endD hdl ?_
        exact W.vret hx hb hr (fun t ht hW => ⟨⟨(ne', so', lb', (o + 1) % 5), rfl, ⟨hq0, hq1, hq2, by rw [← hq3]; rfl⟩, by rw [ht]; exact hP, va_K.moved hW.alike (xk_Kd hK), hD⟩, hS.F ht⟩) hS.2.2 dX1_giveFromBattery_101
  · skip
    have hlt := xk_nge hi (by decide) c
    obtain ⟨o, hoe⟩ : ∃ o, o = (tr + i) % 5 := ⟨_, rfl⟩
    have ho : o < 5 := by omega
    rw [← hoe] at hl
    refine lv_aload_n hx hb dX1_giveFromBattery_16 rfl (lv_at hl 0 rfl) ?_
    refine va_get (D := D) (ci := 1) (v := .ref (a 7)) (C := RX1) (T := TX1) (N := 12) hx hb (dr_words hts _) inX1 (xk_od hown) (xk_Kd hK) hP 0 rfl rfl 10 (by decide) (dr_words hts _ (.fieldLink RX1 50 "GridCommons" "needs" "[D") (by decide +kernel)) (fun _ h9 => h9) rfl dX1_giveFromBattery_17 ?_
    refine lv_iload_n hx hb dX1_giveFromBattery_20 rfl (lv_at hl 3 rfl) ?_
    refine xk_dald hx hb (xk_Kd hK) hP 7 2 rfl rfl (o := o) (by omega) (by decide) dX1_giveFromBattery_21 ?_
    refine lv_aload_n hx hb dX1_giveFromBattery_22 rfl (lv_at hl 0 rfl) ?_
    refine va_get (D := D) (ci := 1) (v := .double so') (C := RX1) (T := TX1) (N := 12) hx hb (dr_words hts _) inX1 (xk_od hown) (xk_Kd hK) hP 0 rfl rfl 8 (by decide) (dr_words hts _ (.fieldLink RX1 43 "GridCommons" "stored" "D") (by decide +kernel)) (fun _ h9 => h9) rfl dX1_giveFromBattery_23 ?_
    refine vp_callSd (va_Run.run (va_runS (As := [.double (ne' o), .double so']) (rest := []) ⟨hx, hb, hml, (xk_od hown), (dr_words hts _)⟩ (mX1_lesser l (ne' o) so') (va_cwS 2 (dr_words hts _) gX1_giveFromBattery_X1_lesser rfl rfl rfl (by decide +kernel) ⟨Nat.le_of_ble_eq_true rfl, Nat.le_of_ble_eq_true rfl⟩) ⟨fun a U g mk q => q, fun U hU hW => ⟨rfl, trivial⟩⟩ rfl rfl hl.1 rfl (lv_room (Nat.le_of_ble_eq_true rfl)) dX1_giveFromBattery_26 ⟨Nat.le_of_ble_eq_true rfl, Nat.le_of_ble_eq_true rfl⟩)) (fun x hx1 => ?_)
    have eu : dt x = dMin ((gbs tr (5 * n) V (dt so) (dts lb) i).1 o) (gbs tr (5 * n) V (dt so) (dts lb) i).2.1 := by rw [hx1, hq0 o ho, hq1]
    refine lv_dstore (lv' := [(5, .double x), (0, .ref (a 0)), (1, .int (nI n)), (2, .int (oi y)), (3, .int (nI o)), (4, .int (nI i))]) hx hb dX1_giveFromBattery_29 hl (by decide) rfl (fun ls hl => ?_)
    refine lv_aload_n hx hb dX1_giveFromBattery_31 rfl (lv_at hl 1 rfl) ?_
    refine va_get (D := D) (ci := 1) (v := .ref (a 8)) (C := RX1) (T := TX1) (N := 12) hx hb (dr_words hts _) inX1 (xk_od hown) (xk_Kd hK) hP 0 rfl rfl 6 (by decide) (dr_words hts _ (.fieldLink RX1 33 "GridCommons" "ledger" "LGridCommons$Ledger;") (by decide +kernel)) (fun _ h9 => h9) rfl dX1_giveFromBattery_32 ?_
    refine va_get (D := D) (ci := 0) (v := .ref (a 15)) (C := RX0) (T := TX0) (N := 9) hx hb (dr_words hts _) inX0 (xk_od hown) (xk_Kd hK) hP 8 rfl rfl 7 (by decide) (dr_words hts _ (.fieldLink RX1 137 "GridCommons$Ledger" "fromBattery" "[D") (by decide +kernel)) (fun _ h9 => h9) rfl dX1_giveFromBattery_35 ?_
    refine lv_iload_n hx hb dX1_giveFromBattery_38 rfl (lv_at hl 4 rfl) ?_
    refine lv_iload_n hx hb dX1_giveFromBattery_39 rfl (lv_at hl 2 rfl) ?_
    refine vp_callSi (va_Run.run (va_runS (As := [.int (nI o), .int (nI n)]) (rest := [.ref (a 15)]) ⟨hx, hb, hml, (xk_od hown), (dr_words hts _)⟩ (mX0_slot l o n) (va_cwS 2 (dr_words hts _) gX1_giveFromBattery_X0_slot rfl rfl rfl (by decide +kernel) ⟨Nat.le_of_ble_eq_true rfl, Nat.le_of_ble_eq_true rfl⟩) ⟨fun a U g mk q => q, fun U hU hW => ⟨rfl, trivial⟩⟩ rfl rfl hl.1 rfl (lv_room (Nat.le_of_ble_eq_true rfl)) dX1_giveFromBattery_40 ⟨Nat.le_of_ble_eq_true rfl, Nat.le_of_ble_eq_true rfl⟩)) (fun r hr1 => ?_)
    subst hr1
    refine lv_dload hx hb dX1_giveFromBattery_43 (lv_at hl 0 rfl) ?_
    refine xk_dast hx hb (xk_Kd hK) hP hD hS 15 2 rfl rfl (o := (5 * n + o)) (by omega) (by decide) dX1_giveFromBattery_45 (fun H locs hP hD hS => ?_)
    have hP : va_P D vwCl (XW a cI cZ cD sh sw ts bi it tu ne' pr so' lo (nI tr) cn lp lz lu lk ld lf (vf_upd lb' (5 * n + o) x) lw) H := hP
    have hD : va_D A (XW a cI cZ cD sh sw ts bi it tu ne' pr so' lo (nI tr) cn lp lz lu lk ld lf (vf_upd lb' (5 * n + o) x) lw) := hD
    refine lv_aload_n hx hb dX1_giveFromBattery_46 rfl (lv_at hl 1 rfl) ?_
    refine va_get (D := D) (ci := 1) (v := .ref (a 7)) (C := RX1) (T := TX1) (N := 12) hx hb (dr_words hts _) inX1 (xk_od hown) (xk_Kd hK) hP 0 rfl rfl 10 (by decide) (dr_words hts _ (.fieldLink RX1 50 "GridCommons" "needs" "[D") (by decide +kernel)) (fun _ h9 => h9) rfl dX1_giveFromBattery_47 ?_
    refine lv_iload_n hx hb dX1_giveFromBattery_50 rfl (lv_at hl 4 rfl) ?_
    refine lv_dup2_11 hx hb dX1_giveFromBattery_51 rfl rfl ?_
    refine xk_dald hx hb (xk_Kd hK) hP 7 2 rfl rfl (o := o) (by omega) (by decide) dX1_giveFromBattery_52 ?_
    refine lv_dload hx hb dX1_giveFromBattery_53 (lv_at hl 0 rfl) ?_
    refine lv_dsub_any hdl lw_bits hx hb dX1_giveFromBattery_55 (fun r1 _ hal hd2 => ?_)
    have er1 := dt_sub hal
    refine xk_dast hx hb (xk_Kd hK) hP hD hS 7 2 rfl rfl (o := o) (by omega) (by decide) dX1_giveFromBattery_56 (fun H locs hP hD hS => ?_)
    have hP : va_P D vwCl (XW a cI cZ cD sh sw ts bi it tu (vf_upd ne' o r1) pr so' lo (nI tr) cn lp lz lu lk ld lf (vf_upd lb' (5 * n + o) x) lw) H := hP
    have hD : va_D A (XW a cI cZ cD sh sw ts bi it tu (vf_upd ne' o r1) pr so' lo (nI tr) cn lp lz lu lk ld lf (vf_upd lb' (5 * n + o) x) lw) := hD
    refine lv_aload_n hx hb dX1_giveFromBattery_57 rfl (lv_at hl 1 rfl) ?_
    refine lv_dup hx hb dX1_giveFromBattery_58 rfl ?_
    refine va_get (D := D) (ci := 1) (v := .double so') (C := RX1) (T := TX1) (N := 12) hx hb (dr_words hts _) inX1 (xk_od hown) (xk_Kd hK) hP 0 rfl rfl 8 (by decide) (dr_words hts _ (.fieldLink RX1 43 "GridCommons" "stored" "D") (by decide +kernel)) (fun _ h9 => h9) rfl dX1_giveFromBattery_59 ?_
    refine lv_dload hx hb dX1_giveFromBattery_62 (lv_at hl 0 rfl) ?_
    refine lv_dsub_any hd2 lw_bits hx hb dX1_giveFromBattery_64 (fun r3 _ hal hd4 => ?_)
    have er3 := dt_sub hal
    refine va_put (D := D) (ci := 1) (v := .double r3) (ty := .double) (C := RX1) (T := TX1) (N := 12) hx hb (dr_words hts _) inX1 tyX1 tyX1_ok nmX1 (xk_od hown) (xk_Kd hK) hP hD hS 0 rfl rfl 8 (by decide) (dr_words hts _ (.fieldLink RX1 43 "GridCommons" "stored" "D") (by decide +kernel)) (fun _ h9 => h9) rfl (by decide +kernel) rfl rfl (Nat.le_of_ble_eq_true rfl) dX1_giveFromBattery_65 (fun H locs hP hD hS => ?_)
    have hP : va_P D vwCl (XW a cI cZ cD sh sw ts bi it tu (vf_upd ne' o r1) pr r3 lo (nI tr) cn lp lz lu lk ld lf (vf_upd lb' (5 * n + o) x) lw) H := hP
    have hD : va_D A (XW a cI cZ cD sh sw ts bi it tu (vf_upd ne' o r1) pr r3 lo (nI tr) cn lp lz lu lk ld lf (vf_upd lb' (5 * n + o) x) lw) := hD
    refine lv_dload hx hb dX1_giveFromBattery_68 (lv_at hl 0 rfl) ?_
    refine lv_dconst0 hx hb dX1_giveFromBattery_70 ?_
    refine lv_dcmp hx hb dX1_giveFromBattery_71 ?_
    have e0 : gbs tr (5 * n) V (dt so) (dts lb) (i + 1) = (va_up (gbs tr (5 * n) V (dt so) (dts lb) i).1 o (dSub ((gbs tr (5 * n) V (dt so) (dts lb) i).1 o) (dt x)), dSub (gbs tr (5 * n) V (dt so) (dts lb) i).2.1 (dt x), va_up (gbs tr (5 * n) V (dt so) (dts lb) i).2.2.1 (5 * n + o) (dt x), if dCmp (dt x) dZ = some .gt then some o else (gbs tr (5 * n) V (dt so) (dts lb) i).2.2.2) := by rw [eu, hoe]; rfl
    have k1 : is5 (vf_upd ne' o r1) (gbs tr (5 * n) V (dt so) (dts lb) (i + 1)).1 := by rw [e0]; exact hq0.up o (by rw [er1, hq0 o ho])
    have k2 : dt r3 = (gbs tr (5 * n) V (dt so) (dts lb) (i + 1)).2.1 := by rw [e0, er3, hq1]
    have k3 : dts (vf_upd lb' (5 * n + o) x) = (gbs tr (5 * n) V (dt so) (dts lb) (i + 1)).2.2.1 := by rw [e0, dts_up, hq2]
    refine lv_if_le (tgt := 77) hx hb dX1_giveFromBattery_72 (by decide) (fun c2 => ?_) (fun c2 => ?_)
    · skip
      have hc : ¬ dCmp (dt x) dZ = some .gt := (cv_l_le _).mp c2
      refine lv_iload_n hx hb dX1_giveFromBattery_77 rfl (lv_at hl 4 rfl) ?_
      refine vp_callSi (va_Run.run (va_runS (As := [.int (nI o)]) (rest := []) ⟨hx, hb, hml, (xk_od hown), (dr_words hts _)⟩ (mX1_behind l o ho) (va_cwS 1 (dr_words hts _) gX1_giveFromBattery_X1_behind rfl rfl rfl (by decide +kernel) ⟨Nat.le_of_ble_eq_true rfl, Nat.le_of_ble_eq_true rfl⟩) ⟨fun a U g mk q => q, fun U hU hW => ⟨rfl, trivial⟩⟩ rfl rfl hl.1 rfl (lv_room (Nat.le_of_ble_eq_true rfl)) dX1_giveFromBattery_78 ⟨Nat.le_of_ble_eq_true rfl, Nat.le_of_ble_eq_true rfl⟩)) (fun r hr1 => ?_)
      subst hr1
      refine xk_i (y := nI ((tr + (i + 1)) % 5)) (by rw [hoe]; congr 1; omega) ?_
      refine lv_istore_n (lv' := [(3, .int (nI ((tr + (i + 1)) % 5))), (5, .double x), (0, .ref (a 0)), (1, .int (nI n)), (2, .int (oi y)), (4, .int (nI i))]) hx hb dX1_giveFromBattery_81 rfl hl (by decide) rfl (fun ls hl => ?_)
      refine lv_iinc (v := nI (i + 1)) (lv' := [(4, .int (nI (i + 1))), (3, .int (nI ((tr + (i + 1)) % 5))), (5, .double x), (0, .ref (a 0)), (1, .int (nI n)), (2, .int (oi y))]) hx hb dX1_giveFromBattery_82 hl (k := 5) rfl (nI_1 i) (by decide) rfl (fun ls hl => ?_)
      refine lv_goto (tgt := 10) hx hb dX1_giveFromBattery_85 (by decide) ?_
      exact next _ _ _ _ hlt ⟨(vf_upd ne' o r1), r3, (vf_upd lb' (5 * n + o) x), y, k1, k2, k3, (by rw [e0]; dsimp only; rw [if_neg hc]; exact hq3), hq4, hP, hD, hS, hd4, lv_sub hl [3, 4, 5, 1, 0] rfl⟩
    · skip
      have hc : dCmp (dt x) dZ = some .gt := Decidable.of_not_not (fun q => c2 ((cv_l_le _).mpr q))
      refine lv_iload_n hx hb dX1_giveFromBattery_75 rfl (lv_at hl 4 rfl) ?_
      refine lv_istore_n (lv' := [(2, .int (nI o)), (5, .double x), (0, .ref (a 0)), (1, .int (nI n)), (3, .int (nI o)), (4, .int (nI i))]) hx hb dX1_giveFromBattery_76 rfl hl (by decide) rfl (fun ls hl => ?_)
      refine lv_iload_n hx hb dX1_giveFromBattery_77 rfl (lv_at hl 4 rfl) ?_
      refine vp_callSi (va_Run.run (va_runS (As := [.int (nI o)]) (rest := []) ⟨hx, hb, hml, (xk_od hown), (dr_words hts _)⟩ (mX1_behind l o ho) (va_cwS 1 (dr_words hts _) gX1_giveFromBattery_X1_behind rfl rfl rfl (by decide +kernel) ⟨Nat.le_of_ble_eq_true rfl, Nat.le_of_ble_eq_true rfl⟩) ⟨fun a U g mk q => q, fun U hU hW => ⟨rfl, trivial⟩⟩ rfl rfl hl.1 rfl (lv_room (Nat.le_of_ble_eq_true rfl)) dX1_giveFromBattery_78 ⟨Nat.le_of_ble_eq_true rfl, Nat.le_of_ble_eq_true rfl⟩)) (fun r hr1 => ?_)
      subst hr1
      refine xk_i (y := nI ((tr + (i + 1)) % 5)) (by rw [hoe]; congr 1; omega) ?_
      refine lv_istore_n (lv' := [(3, .int (nI ((tr + (i + 1)) % 5))), (2, .int (nI o)), (5, .double x), (0, .ref (a 0)), (1, .int (nI n)), (4, .int (nI i))]) hx hb dX1_giveFromBattery_81 rfl hl (by decide) rfl (fun ls hl => ?_)
      refine lv_iinc (v := nI (i + 1)) (lv' := [(4, .int (nI (i + 1))), (3, .int (nI ((tr + (i + 1)) % 5))), (2, .int (nI o)), (5, .double x), (0, .ref (a 0)), (1, .int (nI n))]) hx hb dX1_giveFromBattery_82 hl (k := 5) rfl (nI_1 i) (by decide) rfl (fun ls hl => ?_)
      refine lv_goto (tgt := 10) hx hb dX1_giveFromBattery_85 (by decide) ?_
      exact next _ _ _ _ hlt ⟨(vf_upd ne' o r1), r3, (vf_upd lb' (5 * n + o) x), (some o), k1, k2, k3, (by rw [e0]; dsimp only; rw [if_pos hc]), (fun o9 h9 => by cases h9; exact ho), hP, hD, hS, hd4, lv_sub hl [4, 5, 2, 1, 0] rfl⟩
set_option maxHeartbeats 4000000 in
set_option maxRecDepth 100000 in
theorem mX1_writeBills (l : Launch) (D : va_G) (cI cZ cD : ClassId) (a : Nat → Nat) (sz : Nat) (sh sw ts : Nat → Int32) (bi : Nat → UInt64) (it tu : Nat → Int32) (ne : Nat → UInt64) (pr so lo : UInt64) (wt cn : Int32) (lp lz lu : Nat → UInt64) (lk : Nat → Int32) (ld lf lb lw : Nat → UInt64) (n : Nat) (hn : n < 60) (V : Nat → Dm) (hV : is5 ne V) : MetD lw_cs l yX1_writeBills wsX1_writeBills ({ frames := 1, cells := 0, slots := 0, locals := 21 } : Room) (va_Pc [.ref (a 0), .int (nI n)] (XP D cI cZ cD (XW a cI cZ cD sh sw ts bi it tu ne pr so lo wt cn lp lz lu lk ld lf lb lw) sz)) (va_Qv (fun (u : (Nat → UInt64) × (Nat → UInt64)) => dts u.1 = po (5 * n) 5 (dts lw) V ∧ dts u.2 = po 0 5 (dts bi) (fun k => dSub (dAdd (dts bi k) (dMul (V k) (dt pr))) (dDiv (dMul (dts lz n) (dt pr)) d10))) (fun (u : (Nat → UInt64) × (Nat → UInt64)) t => XB D cI cZ cD (XW a cI cZ cD sh sw ts u.2 it tu ne pr so lo wt cn lp lz lu lk ld lf lb u.1) (va_A (XW a cI cZ cD sh sw ts bi it tu ne pr so lo wt cn lp lz lu lk ld lf lb lw) sz) t) (va_A (XW a cI cZ cD sh sw ts bi it tu ne pr so lo wt cn lp lz lu lk ld lf lb lw) sz)) 0 0 (va_A (XW a cI cZ cD sh sw ts bi it tu ne pr so lo wt cn lp lz lu lk ld lf lb lw) sz) := by
  refine MetD.ofW (cc := cX1_writeBills) (maxL := 5) (ret := none) (by decide +kernel) rfl ?_
  intro p e s m args below meth c s₁ B hml hv hd0
  obtain ⟨rfl, hsz, hP, hK, hD0⟩ := hv
  have hx := B.exec
  have hb := B.bytes
  have hr := B.returns
  have hts := atoms_spec (ws := wsX1_writeBills) B.pre
  have hown : s.vm.findClass RX1 = some m.cls := findClass_of_methodNamed B.named
  have hlocks := B.notSynchronized
  subst hsz
  have hD := hD0.self (sz := s.heap.size)
  generalize hAe : va_A (XW a cI cZ cD sh sw ts bi it tu ne pr so lo wt cn lp lz lu lk ld lf lb lw) s.heap.size = A at hD ⊢
  have hA : ∀ q : Nat, s.heap.size ≤ q → A q := fun q h => by rw [← hAe]; exact Or.inr h
  have hS : va_S A s.heap s.heap [] := va_S.rf
  have hl := lv_entry ([.ref (a 0), .int (nI n)]) (n := 5) (Nat.le_of_ble_eq_true rfl)
  rw [lg_entry_eq]
  generalize (lg_sl ([.ref (a 0), .int (nI n)]) ++ List.replicate (5 - (lg_sl ([.ref (a 0), .int (nI n)])).length) Slot.unset).toArray = ls at hl ⊢
  have hl : lv_has ls 5 [(0, .ref (a 0)), (1, .int (nI n))] := hl
  have inX1 : ∀ w ∈ wsX10, w ∈ wsX1_writeBills := by decide +kernel
  have inX0 : ∀ w ∈ wsX00, w ∈ wsX1_writeBills := by decide +kernel
  refine lv_aload_n hx hb dX1_writeBills_0 rfl (lv_at hl 0 rfl) ?_
  refine va_get (D := D) (ci := 1) (v := .ref (a 8)) (C := RX1) (T := TX1) (N := 12) hx hb (dr_words hts _) inX1 (xk_od hown) (xk_Kd hK) hP 0 rfl rfl 6 (by decide) (dr_words hts _ (.fieldLink RX1 33 "GridCommons" "ledger" "LGridCommons$Ledger;") (by decide +kernel)) (fun _ h9 => h9) rfl dX1_writeBills_1 ?_
  refine va_get (D := D) (ci := 0) (v := .ref (a 10)) (C := RX0) (T := TX0) (N := 9) hx hb (dr_words hts _) inX0 (xk_od hown) (xk_Kd hK) hP 8 rfl rfl 2 (by decide) (dr_words hts _ (.fieldLink RX1 143 "GridCommons$Ledger" "sold" "[D") (by decide +kernel)) (fun _ h9 => h9) rfl dX1_writeBills_4 ?_
  refine lv_iload_n hx hb dX1_writeBills_7 rfl (lv_at hl 1 rfl) ?_
  refine xk_dald hx hb (xk_Kd hK) hP 10 2 rfl rfl (o := n) (by omega) (by decide) dX1_writeBills_8 ?_
  refine lv_aload_n hx hb dX1_writeBills_9 rfl (lv_at hl 0 rfl) ?_
  refine va_get (D := D) (ci := 1) (v := .double pr) (C := RX1) (T := TX1) (N := 12) hx hb (dr_words hts _) inX1 (xk_od hown) (xk_Kd hK) hP 0 rfl rfl 7 (by decide) (dr_words hts _ (.fieldLink RX1 39 "GridCommons" "price" "D") (by decide +kernel)) (fun _ h9 => h9) rfl dX1_writeBills_10 ?_
  refine lv_dmul_any hd0 lw_bits hx hb dX1_writeBills_13 (fun r1 _ hal hd2 => ?_)
  have er1 := dt_mul hal
  refine lv_ldc2d hx hb (xk_od hown) (dr_words hts _ (.constantDouble RX1 185 4621819117588971520) (by decide +kernel)) dX1_writeBills_14 ?_
  refine lv_ddiv_any hd2 lw_bits hx hb dX1_writeBills_17 (fun r3 _ hal hd4 => ?_)
  have er3 := dt_div hal
  have ei : dt r3 = dDiv (dMul (dts lz n) (dt pr)) d10 := by rw [er3, er1]; rfl
  refine lv_dstore_n (lv' := [(2, .double r3), (0, .ref (a 0)), (1, .int (nI n))]) hx hb dX1_writeBills_18 rfl hl (by decide) rfl (fun ls hl => ?_)
  refine lv_iconst (v := nI 0) hx hb dX1_writeBills_19 (by decide) ?_
  refine lv_istore (lv' := [(4, .int (nI 0)), (2, .double r3), (0, .ref (a 0)), (1, .int (nI n))]) hx hb dX1_writeBills_20 hl (by decide) rfl (fun ls hl => ?_)
  refine xk_loop (fun i H locs ls d => ∃ (lw' : Nat → UInt64) (bi' : Nat → UInt64), (dts lw' = po (5 * n) i (dts lw) V) ∧ (dts bi' = po 0 i (dts bi) (fun k => dSub (dAdd (dts bi k) (dMul (V k) (dt pr))) (dDiv (dMul (dts lz n) (dt pr)) d10))) ∧ (va_P D vwCl (XW a cI cZ cD sh sw ts bi' it tu ne pr so lo wt cn lp lz lu lk ld lf lb lw') H) ∧ (va_D A (XW a cI cZ cD sh sw ts bi' it tu ne pr so lo wt cn lp lz lu lk ld lf lb lw')) ∧ (va_S A s.heap H locs) ∧ (s.drawn.sameBut d lw_cs) ∧ (lv_has ls 5 [(0, .ref (a 0)), (1, .int (nI n)), (2, .double r3), (4, .int (nI i))])) 5 ?_ (i := 0) (Nat.zero_le _) ⟨lw, bi, (po_0 _ _ _).symm, (po_0 _ _ _).symm, hP, hD, hS, hd4, lv_sub hl [2, 3, 1, 0] rfl⟩
  intro i H locs ls d hi hI next
  obtain ⟨lw', bi', hq0, hq1, hP, hD, hS, hdl, hl⟩ := hI
  refine lv_iload hx hb dX1_writeBills_22 (lv_at hl 3 rfl) ?_
  refine lv_iconst (v := nI 5) hx hb dX1_writeBills_24 (by decide) ?_
  refine lv_icmp_ge (tgt := 88) hx hb dX1_writeBills_25 (by decide) (fun c => ?_) (fun c => ?_)
  · skip
    obtain rfl := xk_ge hi (by decide) c
    refine W.endD hdl ?_
    exact W.vret hx hb hr (fun t ht hW => ⟨⟨(lw', bi'), rfl, ⟨hq0, hq1⟩, by rw [ht]; exact hP, va_K.moved hW.alike (xk_Kd hK), hD⟩, hS.F ht⟩) hS.2.2 dX1_writeBills_88
  · skip
    have hlt := xk_nge hi (by decide) c
    refine lv_aload_n hx hb dX1_writeBills_28 rfl (lv_at hl 0 rfl) ?_
    refine va_get (D := D) (ci := 1) (v := .ref (a 8)) (C := RX1) (T := TX1) (N := 12) hx hb (dr_words hts _) inX1 (xk_od hown) (xk_Kd hK) hP 0 rfl rfl 6 (by decide) (dr_words hts _ (.fieldLink RX1 33 "GridCommons" "ledger" "LGridCommons$Ledger;") (by decide +kernel)) (fun _ h9 => h9) rfl dX1_writeBills_29 ?_
    refine va_get (D := D) (ci := 0) (v := .ref (a 16)) (C := RX0) (T := TX0) (N := 9) hx hb (dr_words hts _) inX0 (xk_od hown) (xk_Kd hK) hP 8 rfl rfl 8 (by decide) (dr_words hts _ (.fieldLink RX1 140 "GridCommons$Ledger" "bought" "[D") (by decide +kernel)) (fun _ h9 => h9) rfl dX1_writeBills_32 ?_
    refine lv_iload hx hb dX1_writeBills_35 (lv_at hl 3 rfl) ?_
    refine lv_iload_n hx hb dX1_writeBills_37 rfl (lv_at hl 1 rfl) ?_
    refine vp_callSi (va_Run.run (va_runS (As := [.int (nI i), .int (nI n)]) (rest := [.ref (a 16)]) ⟨hx, hb, hml, (xk_od hown), (dr_words hts _)⟩ (mX0_slot l i n) (va_cwS 2 (dr_words hts _) gX1_writeBills_X0_slot rfl rfl rfl (by decide +kernel) ⟨Nat.le_of_ble_eq_true rfl, Nat.le_of_ble_eq_true rfl⟩) ⟨fun a U g mk q => q, fun U hU hW => ⟨rfl, trivial⟩⟩ rfl rfl hl.1 rfl (lv_room (Nat.le_of_ble_eq_true rfl)) dX1_writeBills_38 ⟨Nat.le_of_ble_eq_true rfl, Nat.le_of_ble_eq_true rfl⟩)) (fun r hr1 => ?_)
    subst hr1
    refine lv_aload_n hx hb dX1_writeBills_41 rfl (lv_at hl 0 rfl) ?_
    refine va_get (D := D) (ci := 1) (v := .ref (a 7)) (C := RX1) (T := TX1) (N := 12) hx hb (dr_words hts _) inX1 (xk_od hown) (xk_Kd hK) hP 0 rfl rfl 10 (by decide) (dr_words hts _ (.fieldLink RX1 50 "GridCommons" "needs" "[D") (by decide +kernel)) (fun _ h9 => h9) rfl dX1_writeBills_42 ?_
    refine lv_iload hx hb dX1_writeBills_45 (lv_at hl 3 rfl) ?_
    refine xk_dald hx hb (xk_Kd hK) hP 7 2 rfl rfl (o := i) (by omega) (by decide) dX1_writeBills_47 ?_
    refine xk_dast hx hb (xk_Kd hK) hP hD hS 16 2 rfl rfl (o := (5 * n + i)) (by omega) (by decide) dX1_writeBills_48 (fun H locs hP hD hS => ?_)
    have hP : va_P D vwCl (XW a cI cZ cD sh sw ts bi' it tu ne pr so lo wt cn lp lz lu lk ld lf lb (vf_upd lw' (5 * n + i) (ne i))) H := hP
    have hD : va_D A (XW a cI cZ cD sh sw ts bi' it tu ne pr so lo wt cn lp lz lu lk ld lf lb (vf_upd lw' (5 * n + i) (ne i))) := hD
    refine lv_aload_n hx hb dX1_writeBills_49 rfl (lv_at hl 0 rfl) ?_
    refine va_get (D := D) (ci := 1) (v := .ref (a 4)) (C := RX1) (T := TX1) (N := 12) hx hb (dr_words hts _) inX1 (xk_od hown) (xk_Kd hK) hP 0 rfl rfl 3 (by decide) (dr_words hts _ (.fieldLink RX1 20 "GridCommons" "bills" "[D") (by decide +kernel)) (fun _ h9 => h9) rfl dX1_writeBills_50 ?_
    refine lv_iload hx hb dX1_writeBills_53 (lv_at hl 3 rfl) ?_
    refine lv_dup2_11 hx hb dX1_writeBills_55 rfl rfl ?_
    refine xk_dald hx hb (xk_Kd hK) hP 4 2 rfl rfl (o := i) (by omega) (by decide) dX1_writeBills_56 ?_
    refine lv_aload_n hx hb dX1_writeBills_57 rfl (lv_at hl 0 rfl) ?_
    refine va_get (D := D) (ci := 1) (v := .ref (a 7)) (C := RX1) (T := TX1) (N := 12) hx hb (dr_words hts _) inX1 (xk_od hown) (xk_Kd hK) hP 0 rfl rfl 10 (by decide) (dr_words hts _ (.fieldLink RX1 50 "GridCommons" "needs" "[D") (by decide +kernel)) (fun _ h9 => h9) rfl dX1_writeBills_58 ?_
    refine lv_iload hx hb dX1_writeBills_61 (lv_at hl 3 rfl) ?_
    refine xk_dald hx hb (xk_Kd hK) hP 7 2 rfl rfl (o := i) (by omega) (by decide) dX1_writeBills_63 ?_
    refine lv_aload_n hx hb dX1_writeBills_64 rfl (lv_at hl 0 rfl) ?_
    refine va_get (D := D) (ci := 1) (v := .double pr) (C := RX1) (T := TX1) (N := 12) hx hb (dr_words hts _) inX1 (xk_od hown) (xk_Kd hK) hP 0 rfl rfl 7 (by decide) (dr_words hts _ (.fieldLink RX1 39 "GridCommons" "price" "D") (by decide +kernel)) (fun _ h9 => h9) rfl dX1_writeBills_65 ?_
    refine lv_dmul_any hdl lw_bits hx hb dX1_writeBills_68 (fun r5 _ hal hd6 => ?_)
    have er5 := dt_mul hal
    refine lv_dadd_any hd6 lw_bits hx hb dX1_writeBills_69 (fun r7 _ hal hd8 => ?_)
    have er7 := dt_add hal
    refine xk_dast hx hb (xk_Kd hK) hP hD hS 4 2 rfl rfl (o := i) (by omega) (by decide) dX1_writeBills_70 (fun H locs hP hD hS => ?_)
    have hP : va_P D vwCl (XW a cI cZ cD sh sw ts (vf_upd bi' i r7) it tu ne pr so lo wt cn lp lz lu lk ld lf lb (vf_upd lw' (5 * n + i) (ne i))) H := hP
    have hD : va_D A (XW a cI cZ cD sh sw ts (vf_upd bi' i r7) it tu ne pr so lo wt cn lp lz lu lk ld lf lb (vf_upd lw' (5 * n + i) (ne i))) := hD
    refine lv_aload_n hx hb dX1_writeBills_71 rfl (lv_at hl 0 rfl) ?_
    refine va_get (D := D) (ci := 1) (v := .ref (a 4)) (C := RX1) (T := TX1) (N := 12) hx hb (dr_words hts _) inX1 (xk_od hown) (xk_Kd hK) hP 0 rfl rfl 3 (by decide) (dr_words hts _ (.fieldLink RX1 20 "GridCommons" "bills" "[D") (by decide +kernel)) (fun _ h9 => h9) rfl dX1_writeBills_72 ?_
    refine lv_iload hx hb dX1_writeBills_75 (lv_at hl 3 rfl) ?_
    refine lv_dup2_11 hx hb dX1_writeBills_77 rfl rfl ?_
    refine xk_dald hx hb (xk_Kd hK) hP 4 2 rfl rfl (o := i) (by omega) (by decide) dX1_writeBills_78 ?_
    refine lv_dload_n hx hb dX1_writeBills_79 rfl (lv_at hl 2 rfl) ?_
    refine lv_dsub_any hd8 lw_bits hx hb dX1_writeBills_80 (fun r9 _ hal hd10 => ?_)
    have er9 := dt_sub hal
    refine xk_dast hx hb (xk_Kd hK) hP hD hS 4 2 rfl rfl (o := i) (by omega) (by decide) dX1_writeBills_81 (fun H locs hP hD hS => ?_)
    have hP : va_P D vwCl (XW a cI cZ cD sh sw ts (vf_upd (vf_upd bi' i r7) i r9) it tu ne pr so lo wt cn lp lz lu lk ld lf lb (vf_upd lw' (5 * n + i) (ne i))) H := hP
    have hD : va_D A (XW a cI cZ cD sh sw ts (vf_upd (vf_upd bi' i r7) i r9) it tu ne pr so lo wt cn lp lz lu lk ld lf lb (vf_upd lw' (5 * n + i) (ne i))) := hD
    have hbi : dt (bi' i) = dts bi i := by have q := congrFun hq1 i; rw [po_at0] at q; exact q
    refine lv_iinc (v := nI (i + 1)) (lv' := [(4, .int (nI (i + 1))), (0, .ref (a 0)), (1, .int (nI n)), (2, .double r3)]) hx hb dX1_writeBills_82 hl (k := 3) rfl (nI_1 i) (by decide) rfl (fun ls hl => ?_)
    refine lv_goto (tgt := 22) hx hb dX1_writeBills_85 (by decide) ?_
    exact next _ _ _ _ hlt ⟨(vf_upd lw' (5 * n + i) (ne i)), (vf_upd (vf_upd bi' i r7) i r9), (by rw [dts_up]; exact po_step hq0 (hV i hlt)), (by rw [dts_up2]; exact po_step0 hq1 (by rw [er9, vf_self, er7, er5, hbi, hV i hlt, ei])), hP, hD, hS, hd10, lv_sub hl [1, 2, 3, 0] rfl⟩
