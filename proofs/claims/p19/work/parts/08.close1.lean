/-! GridCommons and its Ledger: the steps of closing a quarter -/
theorem po_step {b k : Nat} {f g F : Nat → Dm} {d : Dm} (h : F = po b k f g) (e : d = g k) : va_up F (b + k) d = po b (k + 1) f g := by rw [h, e, po_s]
theorem po_rd {α : Type} {b k : Nat} {f g F : Nat → α} (h : F = po b k f g) : F (b + k) = f (b + k) := by rw [h, po_at]
theorem po_s0 {α : Type} (k : Nat) (f g : Nat → α) : va_up (po 0 k f g) k (g k) = po 0 (k + 1) f g := by
  have h := po_s 0 k f g
  rw [Nat.zero_add] at h
  exact h
theorem po_at0 {α : Type} (k : Nat) (f g : Nat → α) : po 0 k f g k = f k := by
  have h := po_at 0 k f g
  rw [Nat.zero_add] at h
  exact h
theorem po_in0 {α : Type} {k i : Nat} (f g : Nat → α) (h : i < k) : po 0 k f g i = g i := by
  have h := po_in (b := 0) f g h
  rw [Nat.zero_add] at h
  exact h
theorem po_step0 {k : Nat} {f g F : Nat → Dm} {d : Dm} (h : F = po 0 k f g) (e : d = g k) : va_up F k d = po 0 (k + 1) f g := by rw [h, e, po_s0]
theorem is5_done {f : Nat → UInt64} {V g : Nat → Dm} (h : is5 f (po 0 5 V g)) : is5 f g := h.to (fun j hj => po_in0 V g hj)
theorem nar01 {x : Int32} (h : x = 0 ∨ x = 1) : vp_nar .boolean x = x := by rcases h with rfl | rfl <;> rfl
theorem i32_back (a b : Int32) : a - b + (-1) = a - (b + 1) := by
  apply Int32.toBitVec_inj.mp
  simp only [Int32.toBitVec_add, Int32.toBitVec_sub]
  rw [show (-1 : Int32).toBitVec = 4294967295#32 from by decide, show (1 : Int32).toBitVec = 1#32 from by decide]
  bv_omega
theorem iinc_back (n i : Nat) : nI n - nI (i + 1) + Int32.ofInt (-1) = nI n - nI (i + 1 + 1) := by
  rw [← nI_1 (i + 1)]
  exact i32_back _ _
theorem upto_step {f : Nat → UInt64} {U : Nat → Dm} {i : Nat} {r : UInt64} (h : ∀ j, j < i → dt (f j) = U j) (e : dt r = U i) : ∀ j, j < i + 1 → dt (vf_upd f i r j) = U j := by
  intro j hj
  unfold vf_upd
  by_cases q : j = i
  · rw [if_pos q, q]; exact e
  · rw [if_neg q]; exact h j (by omega)
set_option maxHeartbeats 4000000 in
set_option maxRecDepth 100000 in
theorem mX0_guess (l : Launch) (D : va_G) (cI cZ cD : ClassId) (a : Nat → Nat) (sz : Nat) (sh sw ts : Nat → Int32) (bi : Nat → UInt64) (it tu : Nat → Int32) (ne : Nat → UInt64) (pr so lo : UInt64) (wt : Int32) (lp lz lu : Nat → UInt64) (lk : Nat → Int32) (ld lf lb lw : Nat → UInt64) (o n : Nat) (ho : o < 5) (hn : n ≤ 60) : MetD lw_cs l yX0_guess wsX0_guess ({ frames := 1, cells := 0, slots := 0, locals := 21 } : Room) (va_Pc [.ref (a 8), .int (nI o)] (XP D cI cZ cD (XW a cI cZ cD sh sw ts bi it tu ne pr so lo wt (nI n) lp lz lu lk ld lf lb lw) sz)) (va_Qd (fun (r : UInt64) (u : Unit) => dt r = guess lk (dts lu) o n) (fun (u : Unit) t => XB D cI cZ cD (XW a cI cZ cD sh sw ts bi it tu ne pr so lo wt (nI n) lp lz lu lk ld lf lb lw) (va_A (XW a cI cZ cD sh sw ts bi it tu ne pr so lo wt (nI n) lp lz lu lk ld lf lb lw) sz) t) (va_A (XW a cI cZ cD sh sw ts bi it tu ne pr so lo wt (nI n) lp lz lu lk ld lf lb lw) sz)) 0 0 (va_A (XW a cI cZ cD sh sw ts bi it tu ne pr so lo wt (nI n) lp lz lu lk ld lf lb lw) sz) := by
  refine MetD.ofW (cc := cX0_guess) (maxL := 7) (ret := (some .double)) (by decide +kernel) rfl ?_
  intro p e s m args below meth c s₁ B hml hv hd0
  obtain ⟨rfl, hsz, hP, hK, hD0⟩ := hv
  have hx := B.exec
  have hb := B.bytes
  have hr := B.returns
  have hts := atoms_spec (ws := wsX0_guess) B.pre
  have hown : s.vm.findClass RX0 = some m.cls := findClass_of_methodNamed B.named
  have hlocks := B.notSynchronized
  subst hsz
  have hD := hD0.self (sz := s.heap.size)
  generalize hAe : va_A (XW a cI cZ cD sh sw ts bi it tu ne pr so lo wt (nI n) lp lz lu lk ld lf lb lw) s.heap.size = A at hD ⊢
  have hA : ∀ q : Nat, s.heap.size ≤ q → A q := fun q h => by rw [← hAe]; exact Or.inr h
  have hS : va_S A s.heap s.heap [] := va_S.rf
  have hl := lv_entry ([.ref (a 8), .int (nI o)]) (n := 7) (Nat.le_of_ble_eq_true rfl)
  rw [lg_entry_eq]
  generalize (lg_sl ([.ref (a 8), .int (nI o)]) ++ List.replicate (7 - (lg_sl ([.ref (a 8), .int (nI o)])).length) Slot.unset).toArray = ls at hl ⊢
  have hl : lv_has ls 7 [(0, .ref (a 8)), (1, .int (nI o))] := hl
  have inX0 : ∀ w ∈ wsX00, w ∈ wsX0_guess := by decide +kernel
  refine lv_dconst0 hx hb dX0_guess_0 ?_
  refine lv_dstore_n (lv' := [(2, .double FP.dconst0), (0, .ref (a 8)), (1, .int (nI o))]) hx hb dX0_guess_1 rfl hl (by decide) rfl (fun ls hl => ?_)
  refine lv_iconst (v := nI 0) hx hb dX0_guess_2 (by decide) ?_
  refine lv_istore (lv' := [(4, .int (nI 0)), (2, .double FP.dconst0), (0, .ref (a 8)), (1, .int (nI o))]) hx hb dX0_guess_3 hl (by decide) rfl (fun ls hl => ?_)
  refine lv_aload_n hx hb dX0_guess_5 rfl (lv_at hl 2 rfl) ?_
  refine va_get (D := D) (ci := 0) (v := .int (nI n)) (C := RX0) (T := TX0) (N := 9) hx hb (dr_words hts _) inX0 (xk_od hown) (xk_Kd hK) hP 8 rfl rfl 0 (by decide) (dr_words hts _ (.fieldLink RX0 9 "GridCommons$Ledger" "count" "I") (by decide +kernel)) (fun _ h9 => h9) rfl dX0_guess_6 ?_
  refine lv_iconst (v := nI 1) hx hb dX0_guess_9 (by decide) ?_
  refine lv_isub hx hb dX0_guess_10 ?_
  refine lv_istore (lv' := [(5, .int ((nI n) - (nI 1))), (4, .int (nI 0)), (2, .double FP.dconst0), (0, .ref (a 8)), (1, .int (nI o))]) hx hb dX0_guess_11 hl (by decide) rfl (fun ls hl => ?_)
  refine xk_loop (fun i H locs ls d => ∃ (f : Nat) (x : UInt64), (f = (gst lk (dts lu) o n i).1) ∧ (dt x = (gst lk (dts lu) o n i).2) ∧ (va_P D vwCl (XW a cI cZ cD sh sw ts bi it tu ne pr so lo wt (nI n) lp lz lu lk ld lf lb lw) H) ∧ (va_D A (XW a cI cZ cD sh sw ts bi it tu ne pr so lo wt (nI n) lp lz lu lk ld lf lb lw)) ∧ (va_S A s.heap H locs) ∧ (s.drawn.sameBut d lw_cs) ∧ (lv_has ls 7 [(0, .ref (a 8)), (1, .int (nI o)), (2, .double x), (4, .int (nI f)), (5, .int (nI n - nI (i + 1)))])) n ?_ (i := 0) (Nat.zero_le _) ⟨0, FP.dconst0, rfl, rfl, hP, hD, hS, hd0, lv_sub hl [3, 4, 2, 1, 0] rfl⟩
  intro i H locs ls d hi hI next
  obtain ⟨f, x, hq0, hq1, hP, hD, hS, hdl, hl⟩ := hI
  have hf2 := gst_le lk (dts lu) o n i
  rw [← hq0] at hf2
  refine lv_iload hx hb dX0_guess_13 (lv_at hl 4 rfl) ?_
  refine lv_if_lt (tgt := 61) hx hb dX0_guess_15 (by decide) (fun c => ?_) (fun c => ?_)
  · skip
    have hin : i = n := by
      rcases Nat.lt_or_ge i n with q | q
      · have e5 : nI n - nI (i + 1) = nI (n - (i + 1)) := pk_sub (by omega)
        rw [e5] at c
        exact absurd c (nI_pos (by omega))
      · omega
    have e1 : f = (gst lk (dts lu) o n n).1 := by rw [hq0, hin]
    have e2 : dt x = (gst lk (dts lu) o n n).2 := by rw [hq1, hin]
    refine lv_iload hx hb dX0_guess_61 (lv_at hl 3 rfl) ?_
    refine lv_iconst (v := nI 2) hx hb dX0_guess_63 (by decide) ?_
    refine lv_icmp_ne (tgt := 75) hx hb dX0_guess_64 (by decide) (fun c4 => ?_) (fun c4 => ?_)
    · skip
      refine lv_dload_n hx hb dX0_guess_75 rfl (lv_at hl 2 rfl) ?_
      have e9 : dt x = guess lk (dts lu) o n := by unfold guess; rw [if_neg (fun q => c4 (by rw [e1, q])), e2]
      refine W.endD hdl ?_
      exact W.dret hx hb hr (fun t ht hW => ⟨⟨_, (), rfl, e9, by rw [ht]; exact hP, va_K.moved hW.alike (xk_Kd hK), hD⟩, hS.F ht⟩) hS.2.2 dX0_guess_76
    · skip
      refine lv_dload_n hx hb dX0_guess_67 rfl (lv_at hl 2 rfl) ?_
      refine lv_ldc2d hx hb (xk_od hown) (dr_words hts _ (.constantDouble RX0 45 4611686018427387904) (by decide +kernel)) dX0_guess_68 ?_
      refine lv_ddiv_any hdl lw_bits hx hb dX0_guess_71 (fun r1 _ hal hd2 => ?_)
      have er1 := dt_div hal
      refine lv_goto (tgt := 76) hx hb dX0_guess_72 (by decide) ?_
      have e9 : dt r1 = guess lk (dts lu) o n := by unfold guess; rw [if_pos (by rw [← e1]; exact (nI_eq (by omega) (by omega)).mp c4), er1, e2]
      refine W.endD hd2 ?_
      exact W.dret hx hb hr (fun t ht hW => ⟨⟨_, (), rfl, e9, by rw [ht]; exact hP, va_K.moved hW.alike (xk_Kd hK), hD⟩, hS.F ht⟩) hS.2.2 dX0_guess_76
  · skip
    have hlt : i < n := by
      rcases Nat.lt_or_ge i n with q | q
      · exact q
      · exact absurd (pk_sneg (by omega) (by omega)) c
    refine lv_iload hx hb dX0_guess_18 (lv_at hl 3 rfl) ?_
    refine lv_iconst (v := nI 2) hx hb dX0_guess_20 (by decide) ?_
    refine lv_icmp_ge (tgt := 61) hx hb dX0_guess_21 (by decide) (fun c2 => ?_) (fun c2 => ?_)
    · skip
      have hstop : ¬ (gst lk (dts lu) o n i).1 < 2 := by rw [← hq0]; have := (nI_leI (by omega) (by omega)).mp c2; omega
      have e0 := gst_stop hstop (n - i)
      rw [show i + (n - i) = n by omega] at e0
      have e1 : f = (gst lk (dts lu) o n n).1 := by rw [hq0, e0]
      have e2 : dt x = (gst lk (dts lu) o n n).2 := by rw [hq1, e0]
      refine lv_iload hx hb dX0_guess_61 (lv_at hl 3 rfl) ?_
      refine lv_iconst (v := nI 2) hx hb dX0_guess_63 (by decide) ?_
      refine lv_icmp_ne (tgt := 75) hx hb dX0_guess_64 (by decide) (fun c4 => ?_) (fun c4 => ?_)
      · skip
        refine lv_dload_n hx hb dX0_guess_75 rfl (lv_at hl 2 rfl) ?_
        have e9 : dt x = guess lk (dts lu) o n := by unfold guess; rw [if_neg (fun q => c4 (by rw [e1, q])), e2]
        refine W.endD hdl ?_
        exact W.dret hx hb hr (fun t ht hW => ⟨⟨_, (), rfl, e9, by rw [ht]; exact hP, va_K.moved hW.alike (xk_Kd hK), hD⟩, hS.F ht⟩) hS.2.2 dX0_guess_76
      · skip
        refine lv_dload_n hx hb dX0_guess_67 rfl (lv_at hl 2 rfl) ?_
        refine lv_ldc2d hx hb (xk_od hown) (dr_words hts _ (.constantDouble RX0 45 4611686018427387904) (by decide +kernel)) dX0_guess_68 ?_
        refine lv_ddiv_any hdl lw_bits hx hb dX0_guess_71 (fun r3 _ hal hd4 => ?_)
        have er3 := dt_div hal
        refine lv_goto (tgt := 76) hx hb dX0_guess_72 (by decide) ?_
        have e9 : dt r3 = guess lk (dts lu) o n := by unfold guess; rw [if_pos (by rw [← e1]; exact (nI_eq (by omega) (by omega)).mp c4), er3, e2]
        refine W.endD hd4 ?_
        exact W.dret hx hb hr (fun t ht hW => ⟨⟨_, (), rfl, e9, by rw [ht]; exact hP, va_K.moved hW.alike (xk_Kd hK), hD⟩, hS.F ht⟩) hS.2.2 dX0_guess_76
    · skip
      have hf1 : f < 2 := by
        rcases Nat.lt_or_ge f 2 with q | q
        · exact q
        · exact absurd ((nI_leI (by omega) (by omega)).mpr q) c2
      have e5 : nI n - nI (i + 1) = nI (n - 1 - i) := by rw [pk_sub (by omega), show n - (i + 1) = n - 1 - i by omega]
      refine lv_iload_n hx hb dX0_guess_24 rfl (lv_at hl 1 rfl) ?_
      refine lv_iload hx hb dX0_guess_25 (lv_at hl 4 rfl) ?_
      refine xk_i (y := nI (n - 1 - i)) e5 ?_
      refine vp_callSi (va_Run.run (va_runS (As := [.int (nI o), .int (nI (n - 1 - i))]) (rest := []) ⟨hx, hb, hml, (xk_od hown), (dr_words hts _)⟩ (mX0_slot l o (n - 1 - i)) (va_cwS 2 (dr_words hts _) gX0_guess_X0_slot rfl rfl rfl (by decide +kernel) ⟨Nat.le_of_ble_eq_true rfl, Nat.le_of_ble_eq_true rfl⟩) ⟨fun a U g mk q => q, fun U hU hW => ⟨rfl, trivial⟩⟩ rfl rfl hl.1 rfl (lv_room (Nat.le_of_ble_eq_true rfl)) dX0_guess_27 ⟨Nat.le_of_ble_eq_true rfl, Nat.le_of_ble_eq_true rfl⟩)) (fun r hr1 => ?_)
      subst hr1
      refine lv_istore (lv' := [(6, .int (nI (5 * (n - 1 - i) + o))), (0, .ref (a 8)), (1, .int (nI o)), (2, .double x), (4, .int (nI f)), (5, .int (nI n - nI (i + 1)))]) hx hb dX0_guess_30 hl (by decide) rfl (fun ls hl => ?_)
      refine lv_aload_n hx hb dX0_guess_32 rfl (lv_at hl 1 rfl) ?_
      refine va_get (D := D) (ci := 0) (v := .ref (a 12)) (C := RX0) (T := TX0) (N := 9) hx hb (dr_words hts _) inX0 (xk_od hown) (xk_Kd hK) hP 8 rfl rfl 4 (by decide) (dr_words hts _ (.fieldLink RX0 25 "GridCommons$Ledger" "known" "[Z") (by decide +kernel)) (fun _ h9 => h9) rfl dX0_guess_33 ?_
      refine lv_iload hx hb dX0_guess_36 (lv_at hl 0 rfl) ?_
      refine xk_zald hx hb (xk_Kd hK) hP 12 1 rfl rfl (o := (5 * (n - 1 - i) + o)) (by omega) (by decide) dX0_guess_38 ?_
      refine lv_if_eq (tgt := 55) hx hb dX0_guess_39 (by decide) (fun c3 => ?_) (fun c3 => ?_)
      · skip
        have e9 : gst lk (dts lu) o n (i + 1) = gst lk (dts lu) o n i := if_neg (fun q => q.2 c3)
        refine lv_iinc (v := nI n - nI (i + 1 + 1)) (lv' := [(5, .int (nI n - nI (i + 1 + 1))), (6, .int (nI (5 * (n - 1 - i) + o))), (0, .ref (a 8)), (1, .int (nI o)), (2, .double x), (4, .int (nI f))]) hx hb dX0_guess_55 hl (k := 5) rfl (iinc_back n i) (by decide) rfl (fun ls hl => ?_)
        refine lv_goto (tgt := 13) hx hb dX0_guess_58 (by decide) ?_
        exact next _ _ _ _ hlt ⟨f, x, (by rw [e9]; exact hq0), (by rw [e9]; exact hq1), hP, hD, hS, hdl, lv_sub hl [2, 3, 4, 5, 0] rfl⟩
      · skip
        refine lv_dload_n hx hb dX0_guess_42 rfl (lv_at hl 3 rfl) ?_
        refine lv_aload_n hx hb dX0_guess_43 rfl (lv_at hl 1 rfl) ?_
        refine va_get (D := D) (ci := 0) (v := .ref (a 11)) (C := RX0) (T := TX0) (N := 9) hx hb (dr_words hts _) inX0 (xk_od hown) (xk_Kd hK) hP 8 rfl rfl 3 (by decide) (dr_words hts _ (.fieldLink RX0 22 "GridCommons$Ledger" "use" "[D") (by decide +kernel)) (fun _ h9 => h9) rfl dX0_guess_44 ?_
        refine lv_iload hx hb dX0_guess_47 (lv_at hl 0 rfl) ?_
        refine xk_dald hx hb (xk_Kd hK) hP 11 2 rfl rfl (o := (5 * (n - 1 - i) + o)) (by omega) (by decide) dX0_guess_49 ?_
        refine lv_dadd_any hdl lw_bits hx hb dX0_guess_50 (fun r5 _ hal hd6 => ?_)
        have er5 := dt_add hal
        refine lv_dstore_n (lv' := [(2, .double r5), (6, .int (nI (5 * (n - 1 - i) + o))), (0, .ref (a 8)), (1, .int (nI o)), (4, .int (nI f)), (5, .int (nI n - nI (i + 1)))]) hx hb dX0_guess_51 rfl hl (by decide) rfl (fun ls hl => ?_)
        refine lv_iinc (v := nI (f + 1)) (lv' := [(4, .int (nI (f + 1))), (2, .double r5), (6, .int (nI (5 * (n - 1 - i) + o))), (0, .ref (a 8)), (1, .int (nI o)), (5, .int (nI n - nI (i + 1)))]) hx hb dX0_guess_52 hl (k := 4) rfl (nI_1 f) (by decide) rfl (fun ls hl => ?_)
        have e9 : gst lk (dts lu) o n (i + 1) = ((gst lk (dts lu) o n i).1 + 1, dAdd (gst lk (dts lu) o n i).2 (dts lu (5 * (n - 1 - i) + o))) := if_pos ⟨by rw [← hq0]; exact hf1, c3⟩
        refine lv_iinc (v := nI n - nI (i + 1 + 1)) (lv' := [(5, .int (nI n - nI (i + 1 + 1))), (4, .int (nI (f + 1))), (2, .double r5), (6, .int (nI (5 * (n - 1 - i) + o))), (0, .ref (a 8)), (1, .int (nI o))]) hx hb dX0_guess_55 hl (k := 5) rfl (iinc_back n i) (by decide) rfl (fun ls hl => ?_)
        refine lv_goto (tgt := 13) hx hb dX0_guess_58 (by decide) ?_
        exact next _ _ _ _ hlt ⟨(f + 1), r5, (by rw [e9, ← hq0]), (by rw [e9, er5, hq1]; rfl), hP, hD, hS, hd6, lv_sub hl [4, 5, 2, 1, 0] rfl⟩
set_option maxHeartbeats 4000000 in
set_option maxRecDepth 100000 in
theorem mX1_writeUses (l : Launch) (D : va_G) (cI cZ cD : ClassId) (a : Nat → Nat) (sz : Nat) (sh sw ts : Nat → Int32) (bi : Nat → UInt64) (it tu : Nat → Int32) (ne : Nat → UInt64) (pr so lo : UInt64) (wt : Int32) (lp lz lu : Nat → UInt64) (lk : Nat → Int32) (ld lf lb lw : Nat → UInt64) (n : Nat) (hn : n < 60) (hit : ∀ j, it j = 0 ∨ it j = 1) : MetD lw_cs l yX1_writeUses wsX1_writeUses ({ frames := 2, cells := 0, slots := 0, locals := 47 } : Room) (va_Pc [.ref (a 0), .int (nI n)] (XP D cI cZ cD (XW a cI cZ cD sh sw ts bi it tu ne pr so lo wt (nI n) lp lz lu lk ld lf lb lw) sz)) (va_Qv (fun (u : (Nat → UInt64) × (Nat → UInt64)) => dts u.1 = po (5 * n) 5 (dts lu) (use0 it tu lk (dts lu) n) ∧ is5 u.2 (use0 it tu lk (dts lu) n)) (fun (u : (Nat → UInt64) × (Nat → UInt64)) t => XB D cI cZ cD (XW a cI cZ cD sh sw ts bi (po 0 5 it (fun _ => 0)) tu u.2 pr so lo wt (nI n) lp lz u.1 (po (5 * n) 5 lk it) ld lf lb lw) (va_A (XW a cI cZ cD sh sw ts bi it tu ne pr so lo wt (nI n) lp lz lu lk ld lf lb lw) sz) t) (va_A (XW a cI cZ cD sh sw ts bi it tu ne pr so lo wt (nI n) lp lz lu lk ld lf lb lw) sz)) 0 0 (va_A (XW a cI cZ cD sh sw ts bi it tu ne pr so lo wt (nI n) lp lz lu lk ld lf lb lw) sz) := by
  refine MetD.ofW (cc := cX1_writeUses) (maxL := 6) (ret := none) (by decide +kernel) rfl ?_
  intro p e s m args below meth c s₁ B hml hv hd0
  obtain ⟨rfl, hsz, hP, hK, hD0⟩ := hv
  have hx := B.exec
  have hb := B.bytes
  have hr := B.returns
  have hts := atoms_spec (ws := wsX1_writeUses) B.pre
  have hown : s.vm.findClass RX1 = some m.cls := findClass_of_methodNamed B.named
  have hlocks := B.notSynchronized
  subst hsz
  have hD := hD0.self (sz := s.heap.size)
  generalize hAe : va_A (XW a cI cZ cD sh sw ts bi it tu ne pr so lo wt (nI n) lp lz lu lk ld lf lb lw) s.heap.size = A at hD ⊢
  have hA : ∀ q : Nat, s.heap.size ≤ q → A q := fun q h => by rw [← hAe]; exact Or.inr h
  have hS : va_S A s.heap s.heap [] := va_S.rf
  have hl := lv_entry ([.ref (a 0), .int (nI n)]) (n := 6) (Nat.le_of_ble_eq_true rfl)
  rw [lg_entry_eq]
  generalize (lg_sl ([.ref (a 0), .int (nI n)]) ++ List.replicate (6 - (lg_sl ([.ref (a 0), .int (nI n)])).length) Slot.unset).toArray = ls at hl ⊢
  have hl : lv_has ls 6 [(0, .ref (a 0)), (1, .int (nI n))] := hl
  have inX1 : ∀ w ∈ wsX10, w ∈ wsX1_writeUses := by decide +kernel
  have inX0 : ∀ w ∈ wsX00, w ∈ wsX1_writeUses := by decide +kernel
  refine lv_iconst (v := nI 0) hx hb dX1_writeUses_0 (by decide) ?_
  refine lv_istore_n (lv' := [(2, .int (nI 0)), (0, .ref (a 0)), (1, .int (nI n))]) hx hb dX1_writeUses_1 rfl hl (by decide) rfl (fun ls hl => ?_)
  rw [← po_0 (5 * n) lk it, ← po_0 0 it (fun _ => (0 : Int32))] at hP hD
  refine xk_loop (fun i H locs ls d => ∃ (lu' : Nat → UInt64) (ne' : Nat → UInt64), (dts lu' = po (5 * n) i (dts lu) (use0 it tu lk (dts lu) n)) ∧ (∀ j, j < i → dt (ne' j) = use0 it tu lk (dts lu) n j) ∧ (va_P D vwCl (XW a cI cZ cD sh sw ts bi (po 0 i it (fun _ => (0 : Int32))) tu ne' pr so lo wt (nI n) lp lz lu' (po (5 * n) i lk it) ld lf lb lw) H) ∧ (va_D A (XW a cI cZ cD sh sw ts bi (po 0 i it (fun _ => (0 : Int32))) tu ne' pr so lo wt (nI n) lp lz lu' (po (5 * n) i lk it) ld lf lb lw)) ∧ (va_S A s.heap H locs) ∧ (s.drawn.sameBut d lw_cs) ∧ (lv_has ls 6 [(0, .ref (a 0)), (1, .int (nI n)), (2, .int (nI i))])) 5 ?_ (i := 0) (Nat.zero_le _) ⟨lu, ne, (po_0 _ _ _).symm, (fun j hj => absurd hj (Nat.not_lt_zero j)), hP, hD, hS, hd0, lv_sub hl [1, 2, 0] rfl⟩
  intro i H locs ls d hi hI next
  obtain ⟨lu', ne', hq0, hq1, hP, hD, hS, hdl, hl⟩ := hI
  refine lv_iload_n hx hb dX1_writeUses_2 rfl (lv_at hl 2 rfl) ?_
  refine lv_iconst (v := nI 5) hx hb dX1_writeUses_3 (by decide) ?_
  refine lv_icmp_ge (tgt := 89) hx hb dX1_writeUses_4 (by decide) (fun c => ?_) (fun c => ?_)
  · skip
    obtain rfl := xk_ge hi (by decide) c
    refine W.endD hdl ?_
    exact W.vret hx hb hr (fun t ht hW => ⟨⟨(lu', ne'), rfl, ⟨hq0, hq1⟩, by rw [ht]; exact hP, va_K.moved hW.alike (xk_Kd hK), hD⟩, hS.F ht⟩) hS.2.2 dX1_writeUses_89
  · skip
    have hlt := xk_nge hi (by decide) c
    refine lv_iload_n hx hb dX1_writeUses_7 rfl (lv_at hl 2 rfl) ?_
    refine lv_iload_n hx hb dX1_writeUses_8 rfl (lv_at hl 1 rfl) ?_
    refine vp_callSi (va_Run.run (va_runS (As := [.int (nI i), .int (nI n)]) (rest := []) ⟨hx, hb, hml, (xk_od hown), (dr_words hts _)⟩ (mX0_slot l i n) (va_cwS 2 (dr_words hts _) gX1_writeUses_X0_slot rfl rfl rfl (by decide +kernel) ⟨Nat.le_of_ble_eq_true rfl, Nat.le_of_ble_eq_true rfl⟩) ⟨fun a U g mk q => q, fun U hU hW => ⟨rfl, trivial⟩⟩ rfl rfl hl.1 rfl (lv_room (Nat.le_of_ble_eq_true rfl)) dX1_writeUses_9 ⟨Nat.le_of_ble_eq_true rfl, Nat.le_of_ble_eq_true rfl⟩)) (fun r hr1 => ?_)
    subst hr1
    refine lv_istore_n (lv' := [(3, .int (nI (5 * n + i))), (0, .ref (a 0)), (1, .int (nI n)), (2, .int (nI i))]) hx hb dX1_writeUses_12 rfl hl (by decide) rfl (fun ls hl => ?_)
    refine lv_aload_n hx hb dX1_writeUses_13 rfl (lv_at hl 1 rfl) ?_
    refine va_get (D := D) (ci := 1) (v := .ref (a 5)) (C := RX1) (T := TX1) (N := 12) hx hb (dr_words hts _) inX1 (xk_od hown) (xk_Kd hK) hP 0 rfl rfl 4 (by decide) (dr_words hts _ (.fieldLink RX1 24 "GridCommons" "isTold" "[Z") (by decide +kernel)) (fun _ h9 => h9) rfl dX1_writeUses_14 ?_
    refine lv_iload_n hx hb dX1_writeUses_17 rfl (lv_at hl 3 rfl) ?_
    refine xk_zald hx hb (xk_Kd hK) hP 5 1 rfl rfl (o := i) (by omega) (by decide) dX1_writeUses_18 ?_
    refine xk_i (y := it i) (po_at0 i it _) ?_
    refine lv_if_eq (tgt := 32) hx hb dX1_writeUses_19 (by decide) (fun c1 => ?_) (fun c1 => ?_)
    · skip
      refine lv_aload_n hx hb dX1_writeUses_32 rfl (lv_at hl 1 rfl) ?_
      refine va_get (D := D) (ci := 1) (v := .ref (a 8)) (C := RX1) (T := TX1) (N := 12) hx hb (dr_words hts _) inX1 (xk_od hown) (xk_Kd hK) hP 0 rfl rfl 6 (by decide) (dr_words hts _ (.fieldLink RX1 33 "GridCommons" "ledger" "LGridCommons$Ledger;") (by decide +kernel)) (fun _ h9 => h9) rfl dX1_writeUses_33 ?_
      refine lv_iload_n hx hb dX1_writeUses_36 rfl (lv_at hl 3 rfl) ?_
      have hFc := va_free (wc := XW a cI cZ cD sh sw ts bi (po 0 i it (fun _ => (0 : Int32))) tu ne' pr so lo wt (nI n) lp lz lu' (po (5 * n) i lk it) ld lf lb lw) hD hS hA [0, 1, 2, 3, 4, 5, 6, 7, 8, 9, 10, 11, 12, 13, 14, 15, 16] rfl
      refine va_calldD hdl (va_runV_D (As := [.int (nI i)]) (rest := []) ⟨hx, hb, hml, (xk_od hown), (dr_words hts _)⟩ (mX0_guess l D cI cZ cD a _ sh sw ts bi (po 0 i it (fun _ => (0 : Int32))) tu ne' pr so lo wt lp lz lu' (po (5 * n) i lk it) ld lf lb lw i n (by omega) (by omega)) (cwV 1 (dr_words hts _) gX1_writeUses_X0_guess rfl rfl rfl (by decide +kernel) ⟨Nat.le_of_ble_eq_true rfl, Nat.le_of_ble_eq_true rfl⟩) ⟨xk_blind, va_recv (xk_Kd hK) hP (ci := 0) (q0 := 8) rfl rfl, xk_pre hP (xk_Kd hK) hD⟩ rfl rfl hl.1 rfl (lv_room (Nat.le_of_ble_eq_true rfl)) dX1_writeUses_37 ⟨Nat.le_of_ble_eq_true rfl, Nat.le_of_ble_eq_true rfl⟩) hS (fun q _ h => hFc q h) hFc (fun r u t H locs ht hvm hw hB hz1 hk1 hS _ hd1 => ?_)
      obtain ⟨hP, -, hD1⟩ := hB
      rw [ht] at hP
      have hD := hD1.weaken (B := A) (fun _ _ _ h => hFc _ h)
      have hP : va_P D vwCl (XW a cI cZ cD sh sw ts bi (po 0 i it (fun _ => (0 : Int32))) tu ne' pr so lo wt (nI n) lp lz lu' (po (5 * n) i lk it) ld lf lb lw) H := hP
      have hD : va_D A (XW a cI cZ cD sh sw ts bi (po 0 i it (fun _ => (0 : Int32))) tu ne' pr so lo wt (nI n) lp lz lu' (po (5 * n) i lk it) ld lf lb lw) := hD
      have e8 : dt r = use0 it tu lk (dts lu) n i := by rw [hw]; unfold use0; rw [if_pos c1]; exact guess_c hlt (fun j hj => po_out _ _ hj) (fun j hj => by rw [hq0]; exact po_out _ _ hj)
      refine lv_dstore (lv' := [(4, .double r), (3, .int (nI (5 * n + i))), (0, .ref (a 0)), (1, .int (nI n)), (2, .int (nI i))]) hx hb dX1_writeUses_40 hl (by decide) rfl (fun ls hl => ?_)
      refine lv_aload_n hx hb dX1_writeUses_42 rfl (lv_at hl 2 rfl) ?_
      refine va_get (D := D) (ci := 1) (v := .ref (a 8)) (C := RX1) (T := TX1) (N := 12) hx hb (dr_words hts _) inX1 (xk_od hown) (xk_Kd hK) hP 0 rfl rfl 6 (by decide) (dr_words hts _ (.fieldLink RX1 33 "GridCommons" "ledger" "LGridCommons$Ledger;") (by decide +kernel)) (fun _ h9 => h9) rfl dX1_writeUses_43 ?_
      refine va_get (D := D) (ci := 0) (v := .ref (a 12)) (C := RX0) (T := TX0) (N := 9) hx hb (dr_words hts _) inX0 (xk_od hown) (xk_Kd hK) hP 8 rfl rfl 4 (by decide) (dr_words hts _ (.fieldLink RX1 120 "GridCommons$Ledger" "known" "[Z") (by decide +kernel)) (fun _ h9 => h9) rfl dX1_writeUses_46 ?_
      refine lv_iload_n hx hb dX1_writeUses_49 rfl (lv_at hl 1 rfl) ?_
      refine lv_aload_n hx hb dX1_writeUses_50 rfl (lv_at hl 2 rfl) ?_
      refine va_get (D := D) (ci := 1) (v := .ref (a 5)) (C := RX1) (T := TX1) (N := 12) hx hb (dr_words hts _) inX1 (xk_od hown) (xk_Kd hK) hP 0 rfl rfl 4 (by decide) (dr_words hts _ (.fieldLink RX1 24 "GridCommons" "isTold" "[Z") (by decide +kernel)) (fun _ h9 => h9) rfl dX1_writeUses_51 ?_
      refine lv_iload_n hx hb dX1_writeUses_54 rfl (lv_at hl 4 rfl) ?_
      refine xk_zald hx hb (xk_Kd hK) hP 5 1 rfl rfl (o := i) (by omega) (by decide) dX1_writeUses_55 ?_
      refine xk_i (y := it i) (po_at0 i it _) ?_
      refine xk_zast (x' := it i) hx hb (xk_Kd hK) hP hD hS 12 1 rfl rfl (o := (5 * n + i)) (by omega) (by decide) (nar01 (hit i)) dX1_writeUses_56 (fun H locs hP hD hS => ?_)
      have hP : va_P D vwCl (XW a cI cZ cD sh sw ts bi (po 0 i it (fun _ => (0 : Int32))) tu ne' pr so lo wt (nI n) lp lz lu' (upd (po (5 * n) i lk it) (5 * n + i) (it i)) ld lf lb lw) H := hP
      have hD : va_D A (XW a cI cZ cD sh sw ts bi (po 0 i it (fun _ => (0 : Int32))) tu ne' pr so lo wt (nI n) lp lz lu' (upd (po (5 * n) i lk it) (5 * n + i) (it i)) ld lf lb lw) := hD
      refine lv_aload_n hx hb dX1_writeUses_57 rfl (lv_at hl 2 rfl) ?_
      refine va_get (D := D) (ci := 1) (v := .ref (a 8)) (C := RX1) (T := TX1) (N := 12) hx hb (dr_words hts _) inX1 (xk_od hown) (xk_Kd hK) hP 0 rfl rfl 6 (by decide) (dr_words hts _ (.fieldLink RX1 33 "GridCommons" "ledger" "LGridCommons$Ledger;") (by decide +kernel)) (fun _ h9 => h9) rfl dX1_writeUses_58 ?_
      refine va_get (D := D) (ci := 0) (v := .ref (a 11)) (C := RX0) (T := TX0) (N := 9) hx hb (dr_words hts _) inX0 (xk_od hown) (xk_Kd hK) hP 8 rfl rfl 3 (by decide) (dr_words hts _ (.fieldLink RX1 125 "GridCommons$Ledger" "use" "[D") (by decide +kernel)) (fun _ h9 => h9) rfl dX1_writeUses_61 ?_
      refine lv_iload_n hx hb dX1_writeUses_64 rfl (lv_at hl 1 rfl) ?_
      refine lv_dload hx hb dX1_writeUses_65 (lv_at hl 0 rfl) ?_
      refine xk_dast hx hb (xk_Kd hK) hP hD hS 11 2 rfl rfl (o := (5 * n + i)) (by omega) (by decide) dX1_writeUses_67 (fun H locs hP hD hS => ?_)
      have hP : va_P D vwCl (XW a cI cZ cD sh sw ts bi (po 0 i it (fun _ => (0 : Int32))) tu ne' pr so lo wt (nI n) lp lz (vf_upd lu' (5 * n + i) r) (upd (po (5 * n) i lk it) (5 * n + i) (it i)) ld lf lb lw) H := hP
      have hD : va_D A (XW a cI cZ cD sh sw ts bi (po 0 i it (fun _ => (0 : Int32))) tu ne' pr so lo wt (nI n) lp lz (vf_upd lu' (5 * n + i) r) (upd (po (5 * n) i lk it) (5 * n + i) (it i)) ld lf lb lw) := hD
      refine lv_aload_n hx hb dX1_writeUses_68 rfl (lv_at hl 2 rfl) ?_
      refine va_get (D := D) (ci := 1) (v := .ref (a 7)) (C := RX1) (T := TX1) (N := 12) hx hb (dr_words hts _) inX1 (xk_od hown) (xk_Kd hK) hP 0 rfl rfl 10 (by decide) (dr_words hts _ (.fieldLink RX1 50 "GridCommons" "needs" "[D") (by decide +kernel)) (fun _ h9 => h9) rfl dX1_writeUses_69 ?_
      refine lv_iload_n hx hb dX1_writeUses_72 rfl (lv_at hl 4 rfl) ?_
      refine lv_dload hx hb dX1_writeUses_73 (lv_at hl 0 rfl) ?_
      refine xk_dast hx hb (xk_Kd hK) hP hD hS 7 2 rfl rfl (o := i) (by omega) (by decide) dX1_writeUses_75 (fun H locs hP hD hS => ?_)
      have hP : va_P D vwCl (XW a cI cZ cD sh sw ts bi (po 0 i it (fun _ => (0 : Int32))) tu (vf_upd ne' i r) pr so lo wt (nI n) lp lz (vf_upd lu' (5 * n + i) r) (upd (po (5 * n) i lk it) (5 * n + i) (it i)) ld lf lb lw) H := hP
      have hD : va_D A (XW a cI cZ cD sh sw ts bi (po 0 i it (fun _ => (0 : Int32))) tu (vf_upd ne' i r) pr so lo wt (nI n) lp lz (vf_upd lu' (5 * n + i) r) (upd (po (5 * n) i lk it) (5 * n + i) (it i)) ld lf lb lw) := hD
      refine lv_aload_n hx hb dX1_writeUses_76 rfl (lv_at hl 2 rfl) ?_
      refine va_get (D := D) (ci := 1) (v := .ref (a 5)) (C := RX1) (T := TX1) (N := 12) hx hb (dr_words hts _) inX1 (xk_od hown) (xk_Kd hK) hP 0 rfl rfl 4 (by decide) (dr_words hts _ (.fieldLink RX1 24 "GridCommons" "isTold" "[Z") (by decide +kernel)) (fun _ h9 => h9) rfl dX1_writeUses_77 ?_
      refine lv_iload_n hx hb dX1_writeUses_80 rfl (lv_at hl 4 rfl) ?_
      refine lv_iconst (v := nI 0) hx hb dX1_writeUses_81 (by decide) ?_
      refine xk_zast (x' := 0) hx hb (xk_Kd hK) hP hD hS 5 1 rfl rfl (o := i) (by omega) (by decide) rfl dX1_writeUses_82 (fun H locs hP hD hS => ?_)
      have hP : va_P D vwCl (XW a cI cZ cD sh sw ts bi (upd (po 0 i it (fun _ => (0 : Int32))) i 0) tu (vf_upd ne' i r) pr so lo wt (nI n) lp lz (vf_upd lu' (5 * n + i) r) (upd (po (5 * n) i lk it) (5 * n + i) (it i)) ld lf lb lw) H := hP
      have hD : va_D A (XW a cI cZ cD sh sw ts bi (upd (po 0 i it (fun _ => (0 : Int32))) i 0) tu (vf_upd ne' i r) pr so lo wt (nI n) lp lz (vf_upd lu' (5 * n + i) r) (upd (po (5 * n) i lk it) (5 * n + i) (it i)) ld lf lb lw) := hD
      have e1 : upd (po (5 * n) i lk it) (5 * n + i) (it i) = po (5 * n) (i + 1) lk it := po_s _ _ _ _
      have e2 : upd (po 0 i it (fun _ => (0 : Int32))) i 0 = po 0 (i + 1) it (fun _ => (0 : Int32)) := po_s0 i it (fun _ => (0 : Int32))
      rw [e1, e2] at hP hD
      refine lv_iinc (v := nI (i + 1)) (lv' := [(2, .int (nI (i + 1))), (4, .double r), (3, .int (nI (5 * n + i))), (0, .ref (a 0)), (1, .int (nI n))]) hx hb dX1_writeUses_83 hl (k := 4) rfl (nI_1 i) (by decide) rfl (fun ls hl => ?_)
      refine lv_goto (tgt := 2) hx hb dX1_writeUses_86 (by decide) ?_
      exact next _ _ _ _ hlt ⟨(vf_upd lu' (5 * n + i) r), (vf_upd ne' i r), (by rw [dts_up]; exact po_step hq0 e8), (upto_step hq1 e8), hP, hD, hS, hd1, lv_sub hl [3, 4, 0] rfl⟩
    · skip
      refine lv_aload_n hx hb dX1_writeUses_22 rfl (lv_at hl 1 rfl) ?_
      refine va_get (D := D) (ci := 1) (v := .ref (a 6)) (C := RX1) (T := TX1) (N := 12) hx hb (dr_words hts _) inX1 (xk_od hown) (xk_Kd hK) hP 0 rfl rfl 5 (by decide) (dr_words hts _ (.fieldLink RX1 27 "GridCommons" "toldUse" "[I") (by decide +kernel)) (fun _ h9 => h9) rfl dX1_writeUses_23 ?_
      refine lv_iload_n hx hb dX1_writeUses_26 rfl (lv_at hl 3 rfl) ?_
      refine xk_iald hx hb (xk_Kd hK) hP 6 0 rfl rfl (o := i) (by omega) (by decide) dX1_writeUses_27 ?_
      refine lv_i2d hx hb dX1_writeUses_28 ?_
      refine lv_goto (tgt := 40) hx hb dX1_writeUses_29 (by decide) ?_
      have e8 : dt (FP.i2d (tu i)) = use0 it tu lk (dts lu) n i := by unfold use0; rw [if_neg c1]; rfl
      refine lv_dstore (lv' := [(4, .double (FP.i2d (tu i))), (3, .int (nI (5 * n + i))), (0, .ref (a 0)), (1, .int (nI n)), (2, .int (nI i))]) hx hb dX1_writeUses_40 hl (by decide) rfl (fun ls hl => ?_)
      refine lv_aload_n hx hb dX1_writeUses_42 rfl (lv_at hl 2 rfl) ?_
      refine va_get (D := D) (ci := 1) (v := .ref (a 8)) (C := RX1) (T := TX1) (N := 12) hx hb (dr_words hts _) inX1 (xk_od hown) (xk_Kd hK) hP 0 rfl rfl 6 (by decide) (dr_words hts _ (.fieldLink RX1 33 "GridCommons" "ledger" "LGridCommons$Ledger;") (by decide +kernel)) (fun _ h9 => h9) rfl dX1_writeUses_43 ?_
      refine va_get (D := D) (ci := 0) (v := .ref (a 12)) (C := RX0) (T := TX0) (N := 9) hx hb (dr_words hts _) inX0 (xk_od hown) (xk_Kd hK) hP 8 rfl rfl 4 (by decide) (dr_words hts _ (.fieldLink RX1 120 "GridCommons$Ledger" "known" "[Z") (by decide +kernel)) (fun _ h9 => h9) rfl dX1_writeUses_46 ?_
      refine lv_iload_n hx hb dX1_writeUses_49 rfl (lv_at hl 1 rfl) ?_
      refine lv_aload_n hx hb dX1_writeUses_50 rfl (lv_at hl 2 rfl) ?_
      refine va_get (D := D) (ci := 1) (v := .ref (a 5)) (C := RX1) (T := TX1) (N := 12) hx hb (dr_words hts _) inX1 (xk_od hown) (xk_Kd hK) hP 0 rfl rfl 4 (by decide) (dr_words hts _ (.fieldLink RX1 24 "GridCommons" "isTold" "[Z") (by decide +kernel)) (fun _ h9 => h9) rfl dX1_writeUses_51 ?_
      refine lv_iload_n hx hb dX1_writeUses_54 rfl (lv_at hl 4 rfl) ?_
      refine xk_zald hx hb (xk_Kd hK) hP 5 1 rfl rfl (o := i) (by omega) (by decide) dX1_writeUses_55 ?_
      refine xk_i (y := it i) (po_at0 i it _) ?_
      refine xk_zast (x' := it i) hx hb (xk_Kd hK) hP hD hS 12 1 rfl rfl (o := (5 * n + i)) (by omega) (by decide) (nar01 (hit i)) dX1_writeUses_56 (fun H locs hP hD hS => ?_)
      have hP : va_P D vwCl (XW a cI cZ cD sh sw ts bi (po 0 i it (fun _ => (0 : Int32))) tu ne' pr so lo wt (nI n) lp lz lu' (upd (po (5 * n) i lk it) (5 * n + i) (it i)) ld lf lb lw) H := hP
      have hD : va_D A (XW a cI cZ cD sh sw ts bi (po 0 i it (fun _ => (0 : Int32))) tu ne' pr so lo wt (nI n) lp lz lu' (upd (po (5 * n) i lk it) (5 * n + i) (it i)) ld lf lb lw) := hD
      refine lv_aload_n hx hb dX1_writeUses_57 rfl (lv_at hl 2 rfl) ?_
      refine va_get (D := D) (ci := 1) (v := .ref (a 8)) (C := RX1) (T := TX1) (N := 12) hx hb (dr_words hts _) inX1 (xk_od hown) (xk_Kd hK) hP 0 rfl rfl 6 (by decide) (dr_words hts _ (.fieldLink RX1 33 "GridCommons" "ledger" "LGridCommons$Ledger;") (by decide +kernel)) (fun _ h9 => h9) rfl dX1_writeUses_58 ?_
      refine va_get (D := D) (ci := 0) (v := .ref (a 11)) (C := RX0) (T := TX0) (N := 9) hx hb (dr_words hts _) inX0 (xk_od hown) (xk_Kd hK) hP 8 rfl rfl 3 (by decide) (dr_words hts _ (.fieldLink RX1 125 "GridCommons$Ledger" "use" "[D") (by decide +kernel)) (fun _ h9 => h9) rfl dX1_writeUses_61 ?_
      refine lv_iload_n hx hb dX1_writeUses_64 rfl (lv_at hl 1 rfl) ?_
      refine lv_dload hx hb dX1_writeUses_65 (lv_at hl 0 rfl) ?_
      refine xk_dast hx hb (xk_Kd hK) hP hD hS 11 2 rfl rfl (o := (5 * n + i)) (by omega) (by decide) dX1_writeUses_67 (fun H locs hP hD hS => ?_)
      have hP : va_P D vwCl (XW a cI cZ cD sh sw ts bi (po 0 i it (fun _ => (0 : Int32))) tu ne' pr so lo wt (nI n) lp lz (vf_upd lu' (5 * n + i) (FP.i2d (tu i))) (upd (po (5 * n) i lk it) (5 * n + i) (it i)) ld lf lb lw) H := hP
      have hD : va_D A (XW a cI cZ cD sh sw ts bi (po 0 i it (fun _ => (0 : Int32))) tu ne' pr so lo wt (nI n) lp lz (vf_upd lu' (5 * n + i) (FP.i2d (tu i))) (upd (po (5 * n) i lk it) (5 * n + i) (it i)) ld lf lb lw) := hD
      refine lv_aload_n hx hb dX1_writeUses_68 rfl (lv_at hl 2 rfl) ?_
      refine va_get (D := D) (ci := 1) (v := .ref (a 7)) (C := RX1) (T := TX1) (N := 12) hx hb (dr_words hts _) inX1 (xk_od hown) (xk_Kd hK) hP 0 rfl rfl 10 (by decide) (dr_words hts _ (.fieldLink RX1 50 "GridCommons" "needs" "[D") (by decide +kernel)) (fun _ h9 => h9) rfl dX1_writeUses_69 ?_
      refine lv_iload_n hx hb dX1_writeUses_72 rfl (lv_at hl 4 rfl) ?_
      refine lv_dload hx hb dX1_writeUses_73 (lv_at hl 0 rfl) ?_
      refine xk_dast hx hb (xk_Kd hK) hP hD hS 7 2 rfl rfl (o := i) (by omega) (by decide) dX1_writeUses_75 (fun H locs hP hD hS => ?_)
      have hP : va_P D vwCl (XW a cI cZ cD sh sw ts bi (po 0 i it (fun _ => (0 : Int32))) tu (vf_upd ne' i (FP.i2d (tu i))) pr so lo wt (nI n) lp lz (vf_upd lu' (5 * n + i) (FP.i2d (tu i))) (upd (po (5 * n) i lk it) (5 * n + i) (it i)) ld lf lb lw) H := hP
      have hD : va_D A (XW a cI cZ cD sh sw ts bi (po 0 i it (fun _ => (0 : Int32))) tu (vf_upd ne' i (FP.i2d (tu i))) pr so lo wt (nI n) lp lz (vf_upd lu' (5 * n + i) (FP.i2d (tu i))) (upd (po (5 * n) i lk it) (5 * n + i) (it i)) ld lf lb lw) := hD
      refine lv_aload_n hx hb dX1_writeUses_76 rfl (lv_at hl 2 rfl) ?_
      refine va_get (D := D) (ci := 1) (v := .ref (a 5)) (C := RX1) (T := TX1) (N := 12) hx hb (dr_words hts _) inX1 (xk_od hown) (xk_Kd hK) hP 0 rfl rfl 4 (by decide) (dr_words hts _ (.fieldLink RX1 24 "GridCommons" "isTold" "[Z") (by decide +kernel)) (fun _ h9 => h9) rfl dX1_writeUses_77 ?_
      refine lv_iload_n hx hb dX1_writeUses_80 rfl (lv_at hl 4 rfl) ?_
      refine lv_iconst (v := nI 0) hx hb dX1_writeUses_81 (by decide) ?_
      refine xk_zast (x' := 0) hx hb (xk_Kd hK) hP hD hS 5 1 rfl rfl (o := i) (by omega) (by decide) rfl dX1_writeUses_82 (fun H locs hP hD hS => ?_)
      have hP : va_P D vwCl (XW a cI cZ cD sh sw ts bi (upd (po 0 i it (fun _ => (0 : Int32))) i 0) tu (vf_upd ne' i (FP.i2d (tu i))) pr so lo wt (nI n) lp lz (vf_upd lu' (5 * n + i) (FP.i2d (tu i))) (upd (po (5 * n) i lk it) (5 * n + i) (it i)) ld lf lb lw) H := hP
      have hD : va_D A (XW a cI cZ cD sh sw ts bi (upd (po 0 i it (fun _ => (0 : Int32))) i 0) tu (vf_upd ne' i (FP.i2d (tu i))) pr so lo wt (nI n) lp lz (vf_upd lu' (5 * n + i) (FP.i2d (tu i))) (upd (po (5 * n) i lk it) (5 * n + i) (it i)) ld lf lb lw) := hD
      have e1 : upd (po (5 * n) i lk it) (5 * n + i) (it i) = po (5 * n) (i + 1) lk it := po_s _ _ _ _
      have e2 : upd (po 0 i it (fun _ => (0 : Int32))) i 0 = po 0 (i + 1) it (fun _ => (0 : Int32)) := po_s0 i it (fun _ => (0 : Int32))
      rw [e1, e2] at hP hD
      refine lv_iinc (v := nI (i + 1)) (lv' := [(2, .int (nI (i + 1))), (4, .double (FP.i2d (tu i))), (3, .int (nI (5 * n + i))), (0, .ref (a 0)), (1, .int (nI n))]) hx hb dX1_writeUses_83 hl (k := 4) rfl (nI_1 i) (by decide) rfl (fun ls hl => ?_)
      refine lv_goto (tgt := 2) hx hb dX1_writeUses_86 (by decide) ?_
      exact next _ _ _ _ hlt ⟨(vf_upd lu' (5 * n + i) (FP.i2d (tu i))), (vf_upd ne' i (FP.i2d (tu i))), (by rw [dts_up]; exact po_step hq0 e8), (upto_step hq1 e8), hP, hD, hS, hdl, lv_sub hl [3, 4, 0] rfl⟩
set_option maxHeartbeats 4000000 in
set_option maxRecDepth 100000 in
theorem mX1_writeUsed (l : Launch) (D : va_G) (cI cZ cD : ClassId) (a : Nat → Nat) (sz : Nat) (sh sw ts : Nat → Int32) (bi : Nat → UInt64) (it tu : Nat → Int32) (ne : Nat → UInt64) (pr so lo : UInt64) (wt cn : Int32) (lp lz lu : Nat → UInt64) (lk : Nat → Int32) (ld lf lb lw : Nat → UInt64) (n : Nat) (hn : n < 60) (V : Nat → Dm) (hV : is5 ne V) : Met l yX1_writeUsed wsX1_writeUsed ({ frames := 1, cells := 0, slots := 0, locals := 21 } : Room) (va_Pc [.ref (a 0), .int (nI n)] (XP D cI cZ cD (XW a cI cZ cD sh sw ts bi it tu ne pr so lo wt cn lp lz lu lk ld lf lb lw) sz)) (va_Qv (fun (u : Nat → UInt64) => dts u = po (5 * n) 5 (dts ld) V) (fun (u : Nat → UInt64) t => XB D cI cZ cD (XW a cI cZ cD sh sw ts bi it tu ne pr so lo wt cn lp lz lu lk u lf lb lw) (va_A (XW a cI cZ cD sh sw ts bi it tu ne pr so lo wt cn lp lz lu lk ld lf lb lw) sz) t) (va_A (XW a cI cZ cD sh sw ts bi it tu ne pr so lo wt cn lp lz lu lk ld lf lb lw) sz)) 0 0 (va_A (XW a cI cZ cD sh sw ts bi it tu ne pr so lo wt cn lp lz lu lk ld lf lb lw) sz) := by
  refine Met.ofW (cc := cX1_writeUsed) (maxL := 3) (ret := none) (by decide +kernel) rfl ?_
  intro p e s m args below meth c s₁ B hml hv
  obtain ⟨rfl, hsz, hP, hK, hD0⟩ := hv
  have hx := B.exec
  have hb := B.bytes
  have hr := B.returns
  have hts := atoms_spec (ws := wsX1_writeUsed) B.pre
  have hown : s.vm.findClass RX1 = some m.cls := findClass_of_methodNamed B.named
  have hlocks := B.notSynchronized
  subst hsz
  have hD := hD0.self (sz := s.heap.size)
  generalize hAe : va_A (XW a cI cZ cD sh sw ts bi it tu ne pr so lo wt cn lp lz lu lk ld lf lb lw) s.heap.size = A at hD ⊢
  have hA : ∀ q : Nat, s.heap.size ≤ q → A q := fun q h => by rw [← hAe]; exact Or.inr h
  have hS : va_S A s.heap s.heap [] := va_S.rf
  have hl := lv_entry ([.ref (a 0), .int (nI n)]) (n := 3) (Nat.le_of_ble_eq_true rfl)
  rw [lg_entry_eq]
  generalize (lg_sl ([.ref (a 0), .int (nI n)]) ++ List.replicate (3 - (lg_sl ([.ref (a 0), .int (nI n)])).length) Slot.unset).toArray = ls at hl ⊢
  have hl : lv_has ls 3 [(0, .ref (a 0)), (1, .int (nI n))] := hl
  have inX1 : ∀ w ∈ wsX10, w ∈ wsX1_writeUsed := by decide +kernel
  have inX0 : ∀ w ∈ wsX00, w ∈ wsX1_writeUsed := by decide +kernel
  refine lv_iconst (v := nI 0) hx hb dX1_writeUsed_0 (by decide) ?_
  refine lv_istore_n (lv' := [(2, .int (nI 0)), (0, .ref (a 0)), (1, .int (nI n))]) hx hb dX1_writeUsed_1 rfl hl (by decide) rfl (fun ls hl => ?_)
  refine xk_loopP (fun i H locs ls => ∃ (ld' : Nat → UInt64), (dts ld' = po (5 * n) i (dts ld) V) ∧ (va_P D vwCl (XW a cI cZ cD sh sw ts bi it tu ne pr so lo wt cn lp lz lu lk ld' lf lb lw) H) ∧ (va_D A (XW a cI cZ cD sh sw ts bi it tu ne pr so lo wt cn lp lz lu lk ld' lf lb lw)) ∧ (va_S A s.heap H locs) ∧ (lv_has ls 3 [(0, .ref (a 0)), (1, .int (nI n)), (2, .int (nI i))])) 5 ?_ (i := 0) (Nat.zero_le _) ⟨ld, (po_0 _ _ _).symm, hP, hD, hS, lv_sub hl [1, 2, 0] rfl⟩
  intro i H locs ls hi hI next
  obtain ⟨ld', hq0, hP, hD, hS, hl⟩ := hI
  refine lv_iload_n hx hb dX1_writeUsed_2 rfl (lv_at hl 2 rfl) ?_
  refine lv_iconst (v := nI 5) hx hb dX1_writeUsed_3 (by decide) ?_
  refine lv_icmp_ge (tgt := 32) hx hb dX1_writeUsed_4 (by decide) (fun c => ?_) (fun c => ?_)
  · skip
    obtain rfl := xk_ge hi (by decide) c
    exact W.vret hx hb hr (fun t ht hW => ⟨⟨ld', rfl, hq0, by rw [ht]; exact hP, va_K.moved hW.alike hK, hD⟩, hS.F ht⟩) hS.2.2 dX1_writeUsed_32
  · skip
    have hlt := xk_nge hi (by decide) c
    refine lv_aload_n hx hb dX1_writeUsed_7 rfl (lv_at hl 0 rfl) ?_
    refine va_get (D := D) (ci := 1) (v := .ref (a 8)) (C := RX1) (T := TX1) (N := 12) hx hb hts inX1 hown hK hP 0 rfl rfl 6 (by decide) (hts (.fieldLink RX1 33 "GridCommons" "ledger" "LGridCommons$Ledger;") (by decide +kernel)) (fun _ h9 => h9) rfl dX1_writeUsed_8 ?_
    refine va_get (D := D) (ci := 0) (v := .ref (a 13)) (C := RX0) (T := TX0) (N := 9) hx hb hts inX0 hown hK hP 8 rfl rfl 5 (by decide) (hts (.fieldLink RX1 128 "GridCommons$Ledger" "used" "[D") (by decide +kernel)) (fun _ h9 => h9) rfl dX1_writeUsed_11 ?_
    refine lv_iload_n hx hb dX1_writeUsed_14 rfl (lv_at hl 2 rfl) ?_
    refine lv_iload_n hx hb dX1_writeUsed_15 rfl (lv_at hl 1 rfl) ?_
    refine vp_callSi (va_Run.run (va_runS (As := [.int (nI i), .int (nI n)]) (rest := [.ref (a 13)]) ⟨hx, hb, hml, hown, hts⟩ (mX0_slot l i n) (va_cwS 2 hts gX1_writeUsed_X0_slot rfl rfl rfl (by decide +kernel) ⟨Nat.le_of_ble_eq_true rfl, Nat.le_of_ble_eq_true rfl⟩) ⟨fun a U g mk q => q, fun U hU hW => ⟨rfl, trivial⟩⟩ rfl rfl hl.1 rfl (lv_room (Nat.le_of_ble_eq_true rfl)) dX1_writeUsed_16 ⟨Nat.le_of_ble_eq_true rfl, Nat.le_of_ble_eq_true rfl⟩)) (fun r hr1 => ?_)
    subst hr1
    refine lv_aload_n hx hb dX1_writeUsed_19 rfl (lv_at hl 0 rfl) ?_
    refine va_get (D := D) (ci := 1) (v := .ref (a 7)) (C := RX1) (T := TX1) (N := 12) hx hb hts inX1 hown hK hP 0 rfl rfl 10 (by decide) (hts (.fieldLink RX1 50 "GridCommons" "needs" "[D") (by decide +kernel)) (fun _ h9 => h9) rfl dX1_writeUsed_20 ?_
    refine lv_iload_n hx hb dX1_writeUsed_23 rfl (lv_at hl 2 rfl) ?_
    refine xk_dald hx hb hK hP 7 2 rfl rfl (o := i) (by omega) (by decide) dX1_writeUsed_24 ?_
    refine xk_dast hx hb hK hP hD hS 13 2 rfl rfl (o := (5 * n + i)) (by omega) (by decide) dX1_writeUsed_25 (fun H locs hP hD hS => ?_)
    have hP : va_P D vwCl (XW a cI cZ cD sh sw ts bi it tu ne pr so lo wt cn lp lz lu lk (vf_upd ld' (5 * n + i) (ne i)) lf lb lw) H := hP
    have hD : va_D A (XW a cI cZ cD sh sw ts bi it tu ne pr so lo wt cn lp lz lu lk (vf_upd ld' (5 * n + i) (ne i)) lf lb lw) := hD
    refine lv_iinc (v := nI (i + 1)) (lv' := [(2, .int (nI (i + 1))), (0, .ref (a 0)), (1, .int (nI n))]) hx hb dX1_writeUsed_26 hl (k := 2) rfl (nI_1 i) (by decide) rfl (fun ls hl => ?_)
    refine lv_goto (tgt := 2) hx hb dX1_writeUsed_29 (by decide) ?_
    exact next _ _ _ hlt ⟨(vf_upd ld' (5 * n + i) (ne i)), (by rw [dts_up]; exact po_step hq0 (hV i hlt)), hP, hD, hS, lv_sub hl [1, 2, 0] rfl⟩
set_option maxHeartbeats 4000000 in
set_option maxRecDepth 100000 in
theorem mX1_shedUntilCarried (l : Launch) (D : va_G) (cI cZ cD : ClassId) (a : Nat → Nat) (sz : Nat) (sh sw ts : Nat → Int32) (bi : Nat → UInt64) (it tu : Nat → Int32) (ne : Nat → UInt64) (pr so lo : UInt64) (wt cn : Int32) (lp lz lu : Nat → UInt64) (lk : Nat → Int32) (ld lf lb lw : Nat → UInt64) (V : Nat → Dm) (hV : is5 ne V) : MetD lw_cs l yX1_shedUntilCarried wsX1_shedUntilCarried ({ frames := 2, cells := 0, slots := 0, locals := 43 } : Room) (va_Pc [.ref (a 0)] (XP D cI cZ cD (XW a cI cZ cD sh sw ts bi it tu ne pr so lo wt cn lp lz lu lk ld lf lb lw) sz)) (va_Qv (fun (u : (Nat → Int32) × (Nat → UInt64)) => u.1 = (shd sw 5 ts V).1 ∧ is5 u.2 (shd sw 5 ts V).2) (fun (u : (Nat → Int32) × (Nat → UInt64)) t => XB D cI cZ cD (XW a cI cZ cD sh sw u.1 bi it tu u.2 pr so lo wt cn lp lz lu lk ld lf lb lw) (va_A (XW a cI cZ cD sh sw ts bi it tu ne pr so lo wt cn lp lz lu lk ld lf lb lw) sz) t) (va_A (XW a cI cZ cD sh sw ts bi it tu ne pr so lo wt cn lp lz lu lk ld lf lb lw) sz)) 0 0 (va_A (XW a cI cZ cD sh sw ts bi it tu ne pr so lo wt cn lp lz lu lk ld lf lb lw) sz) := by
  refine MetD.ofW (cc := cX1_shedUntilCarried) (maxL := 3) (ret := none) (by decide +kernel) rfl ?_
  intro p e s m args below meth c s₁ B hml hv hd0
  obtain ⟨rfl, hsz, hP, hK, hD0⟩ := hv
  have hx := B.exec
  have hb := B.bytes
  have hr := B.returns
  have hts := atoms_spec (ws := wsX1_shedUntilCarried) B.pre
  have hown : s.vm.findClass RX1 = some m.cls := findClass_of_methodNamed B.named
  have hlocks := B.notSynchronized
  subst hsz
  have hD := hD0.self (sz := s.heap.size)
  generalize hAe : va_A (XW a cI cZ cD sh sw ts bi it tu ne pr so lo wt cn lp lz lu lk ld lf lb lw) s.heap.size = A at hD ⊢
  have hA : ∀ q : Nat, s.heap.size ≤ q → A q := fun q h => by rw [← hAe]; exact Or.inr h
  have hS : va_S A s.heap s.heap [] := va_S.rf
  have hl := lv_entry ([.ref (a 0)]) (n := 3) (Nat.le_of_ble_eq_true rfl)
  rw [lg_entry_eq]
  generalize (lg_sl ([.ref (a 0)]) ++ List.replicate (3 - (lg_sl ([.ref (a 0)])).length) Slot.unset).toArray = ls at hl ⊢
  have hl : lv_has ls 3 [(0, .ref (a 0))] := hl
  have inX1 : ∀ w ∈ wsX10, w ∈ wsX1_shedUntilCarried := by decide +kernel
  refine lv_aload_n hx hb dX1_shedUntilCarried_0 rfl (lv_at hl 0 rfl) ?_
  have hFc := va_free (wc := XW a cI cZ cD sh sw ts bi it tu ne pr so lo wt cn lp lz lu lk ld lf lb lw) hD hS hA [0, 1, 2, 3, 4, 5, 6, 7, 8, 9, 10, 11, 12, 13, 14, 15, 16] rfl
  refine va_calli (va_runV (As := []) (rest := []) ⟨hx, hb, hml, (xk_od hown), (dr_words hts _)⟩ (mX1_nextToShed l D cI cZ cD a _ sh sw ts bi it tu ne pr so lo wt cn lp lz lu lk ld lf lb lw V hV) (cwV 0 (dr_words hts _) gX1_shedUntilCarried_X1_nextToShed rfl rfl rfl (by decide +kernel) ⟨Nat.le_of_ble_eq_true rfl, Nat.le_of_ble_eq_true rfl⟩) ⟨xk_blind, va_recv (xk_Kd hK) hP (ci := 1) (q0 := 0) rfl rfl, xk_pre hP (xk_Kd hK) hD⟩ rfl rfl hl.1 rfl (lv_room (Nat.le_of_ble_eq_true rfl)) dX1_shedUntilCarried_1 ⟨Nat.le_of_ble_eq_true rfl, Nat.le_of_ble_eq_true rfl⟩) hS (fun q _ h => hFc q h) hFc (fun r u t H locs ht hvm hw hB hz1 hk1 hS => ?_)
  obtain ⟨hP, -, hD1⟩ := hB
  rw [ht] at hP
  have hD := hD1.weaken (B := A) (fun _ _ _ h => hFc _ h)
  have hP : va_P D vwCl (XW a cI cZ cD sh sw ts bi it tu ne pr so lo wt cn lp lz lu lk ld lf lb lw) H := hP
  have hD : va_D A (XW a cI cZ cD sh sw ts bi it tu ne pr so lo wt cn lp lz lu lk ld lf lb lw) := hD
  subst hw
  refine lv_istore_n (lv' := [(1, .int (oi (nx sw ts V 5))), (0, .ref (a 0))]) hx hb dX1_shedUntilCarried_4 rfl hl (by decide) rfl (fun ls hl => ?_)
  refine lv_iconst (v := nI 0) hx hb dX1_shedUntilCarried_5 (by decide) ?_
  refine lv_istore_n (lv' := [(2, .int (nI 0)), (1, .int (oi (nx sw ts V 5))), (0, .ref (a 0))]) hx hb dX1_shedUntilCarried_6 rfl hl (by decide) rfl (fun ls hl => ?_)
  refine xk_loop (fun i H locs ls d => ∃ (ts' : Nat → Int32) (ne' : Nat → UInt64) (V' : Nat → Dm) (y : Option Nat), (shd sw (5 - i) ts' V' = shd sw 5 ts V) ∧ (is5 ne' V') ∧ (y = nx sw ts' V' 5) ∧ (va_P D vwCl (XW a cI cZ cD sh sw ts' bi it tu ne' pr so lo wt cn lp lz lu lk ld lf lb lw) H) ∧ (va_D A (XW a cI cZ cD sh sw ts' bi it tu ne' pr so lo wt cn lp lz lu lk ld lf lb lw)) ∧ (va_S A s.heap H locs) ∧ (s.drawn.sameBut d lw_cs) ∧ (lv_has ls 3 [(0, .ref (a 0)), (1, .int (oi y)), (2, .int (nI i))])) 5 ?_ (i := 0) (Nat.zero_le _) ⟨ts, ne, V, (nx sw ts V 5), rfl, hV, rfl, hP, hD, hS, hd0, lv_sub hl [2, 1, 0] rfl⟩
  intro i H locs ls d hi hI next
  obtain ⟨ts', ne', V', y, hq0, hq1, hq2, hP, hD, hS, hdl, hl⟩ := hI
  refine lv_iload_n hx hb dX1_shedUntilCarried_7 rfl (lv_at hl 2 rfl) ?_
  refine lv_iconst (v := nI 5) hx hb dX1_shedUntilCarried_8 (by decide) ?_
  refine lv_icmp_ge (tgt := 52) hx hb dX1_shedUntilCarried_9 (by decide) (fun c => ?_) (fun c => ?_)
  · skip
    obtain rfl := xk_ge hi (by decide) c
    have e9 : shd sw 5 ts V = (ts', V') := by rw [← hq0]; rfl
    refine W.endD hdl ?_
    exact W.vret hx hb hr (fun t ht hW => ⟨⟨(ts', ne'), rfl, ⟨by rw [e9], by rw [e9]; exact hq1⟩, by rw [ht]; exact hP, va_K.moved hW.alike (xk_Kd hK), hD⟩, hS.F ht⟩) hS.2.2 dX1_shedUntilCarried_52
  · skip
    have hlt := xk_nge hi (by decide) c
    cases y with
    | none =>
      have hl : lv_has ls 3 [(0, .ref (a 0)), (1, .int (-1)), (2, .int (nI i))] := hl
      refine lv_iload_n hx hb dX1_shedUntilCarried_12 rfl (lv_at hl 1 rfl) ?_
      refine lv_iconst (v := (-1)) hx hb dX1_shedUntilCarried_13 (by decide) ?_
      refine lv_icmp_eq (tgt := 52) hx hb dX1_shedUntilCarried_14 (by decide) (fun c1 => ?_) (fun c1 => ?_)
      · skip
        have e9 : shd sw 5 ts V = (ts', V') := by rw [← hq0]; exact shd_done (Or.inr hq2.symm) _
        refine W.endD hdl ?_
        exact W.vret hx hb hr (fun t ht hW => ⟨⟨(ts', ne'), rfl, ⟨by rw [e9], by rw [e9]; exact hq1⟩, by rw [ht]; exact hP, va_K.moved hW.alike (xk_Kd hK), hD⟩, hS.F ht⟩) hS.2.2 dX1_shedUntilCarried_52
      · skip
        exact absurd rfl c1
    | some o =>
      have hl : lv_has ls 3 [(0, .ref (a 0)), (1, .int (nI o)), (2, .int (nI i))] := hl
      have ho := (nx_lt hq2.symm).1
      refine lv_iload_n hx hb dX1_shedUntilCarried_12 rfl (lv_at hl 1 rfl) ?_
      refine lv_iconst (v := (-1)) hx hb dX1_shedUntilCarried_13 (by decide) ?_
      refine lv_icmp_eq (tgt := 52) hx hb dX1_shedUntilCarried_14 (by decide) (fun c1 => ?_) (fun c1 => ?_)
      · skip
        exact absurd c1 (nI_nm1 o (by omega))
      · skip
        refine lv_aload_n hx hb dX1_shedUntilCarried_17 rfl (lv_at hl 0 rfl) ?_
        have hFc := va_free (wc := XW a cI cZ cD sh sw ts' bi it tu ne' pr so lo wt cn lp lz lu lk ld lf lb lw) hD hS hA [0, 1, 2, 3, 4, 5, 6, 7, 8, 9, 10, 11, 12, 13, 14, 15, 16] rfl
        refine va_calliD hdl (va_runV_D (As := []) (rest := []) ⟨hx, hb, hml, (xk_od hown), (dr_words hts _)⟩ (mX1_isOverLine l D cI cZ cD a _ sh sw ts' bi it tu ne' pr so lo wt cn lp lz lu lk ld lf lb lw V' hq1) (cwV 0 (dr_words hts _) gX1_shedUntilCarried_X1_isOverLine rfl rfl rfl (by decide +kernel) ⟨Nat.le_of_ble_eq_true rfl, Nat.le_of_ble_eq_true rfl⟩) ⟨xk_blind, va_recv (xk_Kd hK) hP (ci := 1) (q0 := 0) rfl rfl, xk_pre hP (xk_Kd hK) hD⟩ rfl rfl hl.1 rfl (lv_room (Nat.le_of_ble_eq_true rfl)) dX1_shedUntilCarried_18 ⟨Nat.le_of_ble_eq_true rfl, Nat.le_of_ble_eq_true rfl⟩) hS (fun q _ h => hFc q h) hFc (fun r u t H locs ht hvm hw hB hz1 hk1 hS _ hd2 => ?_)
        obtain ⟨hP, -, hD1⟩ := hB
        rw [ht] at hP
        have hD := hD1.weaken (B := A) (fun _ _ _ h => hFc _ h)
        have hP : va_P D vwCl (XW a cI cZ cD sh sw ts' bi it tu ne' pr so lo wt cn lp lz lu lk ld lf lb lw) H := hP
        have hD : va_D A (XW a cI cZ cD sh sw ts' bi it tu ne' pr so lo wt cn lp lz lu lk ld lf lb lw) := hD
        subst hw
        refine lv_if_eq (tgt := 52) hx hb dX1_shedUntilCarried_21 (by decide) (fun c2 => ?_) (fun c2 => ?_)
        · skip
          have e9 : shd sw 5 ts V = (ts', V') := by rw [← hq0]; exact shd_done (Or.inl (bI_0.mp c2)) _
          refine W.endD hd2 ?_
          exact W.vret hx hb hr (fun t ht hW => ⟨⟨(ts', ne'), rfl, ⟨by rw [e9], by rw [e9]; exact hq1⟩, by rw [ht]; exact hP, va_K.moved hW.alike (xk_Kd hK), hD⟩, hS.F ht⟩) hS.2.2 dX1_shedUntilCarried_52
        · skip
          have hov : over V' := Decidable.of_not_not (fun q => c2 (bI_0.mpr q))
          refine lv_aload_n hx hb dX1_shedUntilCarried_24 rfl (lv_at hl 0 rfl) ?_
          refine va_get (D := D) (ci := 1) (v := .ref (a 7)) (C := RX1) (T := TX1) (N := 12) hx hb (dr_words hts _) inX1 (xk_od hown) (xk_Kd hK) hP 0 rfl rfl 10 (by decide) (dr_words hts _ (.fieldLink RX1 50 "GridCommons" "needs" "[D") (by decide +kernel)) (fun _ h9 => h9) rfl dX1_shedUntilCarried_25 ?_
          refine lv_iload_n hx hb dX1_shedUntilCarried_28 rfl (lv_at hl 1 rfl) ?_
          refine lv_dconst0 hx hb dX1_shedUntilCarried_29 ?_
          refine xk_dast hx hb (xk_Kd hK) hP hD hS 7 2 rfl rfl (o := o) (by omega) (by decide) dX1_shedUntilCarried_30 (fun H locs hP hD hS => ?_)
          have hP : va_P D vwCl (XW a cI cZ cD sh sw ts' bi it tu (vf_upd ne' o FP.dconst0) pr so lo wt cn lp lz lu lk ld lf lb lw) H := hP
          have hD : va_D A (XW a cI cZ cD sh sw ts' bi it tu (vf_upd ne' o FP.dconst0) pr so lo wt cn lp lz lu lk ld lf lb lw) := hD
          refine lv_aload_n hx hb dX1_shedUntilCarried_31 rfl (lv_at hl 0 rfl) ?_
          refine va_get (D := D) (ci := 1) (v := .ref (a 3)) (C := RX1) (T := TX1) (N := 12) hx hb (dr_words hts _) inX1 (xk_od hown) (xk_Kd hK) hP 0 rfl rfl 2 (by decide) (dr_words hts _ (.fieldLink RX1 17 "GridCommons" "timesShed" "[I") (by decide +kernel)) (fun _ h9 => h9) rfl dX1_shedUntilCarried_32 ?_
          refine lv_iload_n hx hb dX1_shedUntilCarried_35 rfl (lv_at hl 1 rfl) ?_
          refine lv_dup2_11 hx hb dX1_shedUntilCarried_36 rfl rfl ?_
          refine xk_iald hx hb (xk_Kd hK) hP 3 0 rfl rfl (o := o) (by omega) (by decide) dX1_shedUntilCarried_37 ?_
          refine lv_iconst (v := nI 1) hx hb dX1_shedUntilCarried_38 (by decide) ?_
          refine lv_iadd hx hb dX1_shedUntilCarried_39 ?_
          refine xk_iast hx hb (xk_Kd hK) hP hD hS 3 0 rfl rfl (o := o) (by omega) (by decide) dX1_shedUntilCarried_40 (fun H locs hP hD hS => ?_)
          have hP : va_P D vwCl (XW a cI cZ cD sh sw (upd ts' o ((ts' o) + (nI 1))) bi it tu (vf_upd ne' o FP.dconst0) pr so lo wt cn lp lz lu lk ld lf lb lw) H := hP
          have hD : va_D A (XW a cI cZ cD sh sw (upd ts' o ((ts' o) + (nI 1))) bi it tu (vf_upd ne' o FP.dconst0) pr so lo wt cn lp lz lu lk ld lf lb lw) := hD
          refine lv_aload_n hx hb dX1_shedUntilCarried_41 rfl (lv_at hl 0 rfl) ?_
          have hFc := va_free (wc := XW a cI cZ cD sh sw (upd ts' o ((ts' o) + (nI 1))) bi it tu (vf_upd ne' o FP.dconst0) pr so lo wt cn lp lz lu lk ld lf lb lw) hD hS hA [0, 1, 2, 3, 4, 5, 6, 7, 8, 9, 10, 11, 12, 13, 14, 15, 16] rfl
          refine va_calli (va_runV (As := []) (rest := []) ⟨hx, hb, hml, (xk_od hown), (dr_words hts _)⟩ (mX1_nextToShed l D cI cZ cD a _ sh sw (upd ts' o ((ts' o) + (nI 1))) bi it tu (vf_upd ne' o FP.dconst0) pr so lo wt cn lp lz lu lk ld lf lb lw (va_up V' o dZ) (hq1.up o rfl)) (cwV 0 (dr_words hts _) gX1_shedUntilCarried_X1_nextToShed rfl rfl rfl (by decide +kernel) ⟨Nat.le_of_ble_eq_true rfl, Nat.le_of_ble_eq_true rfl⟩) ⟨xk_blind, va_recv (xk_Kd hK) hP (ci := 1) (q0 := 0) rfl rfl, xk_pre hP (xk_Kd hK) hD⟩ rfl rfl hl.1 rfl (lv_room (Nat.le_of_ble_eq_true rfl)) dX1_shedUntilCarried_42 ⟨Nat.le_of_ble_eq_true rfl, Nat.le_of_ble_eq_true rfl⟩) hS (fun q _ h => hFc q h) hFc (fun r u t H locs ht hvm hw hB hz1 hk1 hS => ?_)
          obtain ⟨hP, -, hD1⟩ := hB
          rw [ht] at hP
          have hD := hD1.weaken (B := A) (fun _ _ _ h => hFc _ h)
          have hP : va_P D vwCl (XW a cI cZ cD sh sw (upd ts' o ((ts' o) + (nI 1))) bi it tu (vf_upd ne' o FP.dconst0) pr so lo wt cn lp lz lu lk ld lf lb lw) H := hP
          have hD : va_D A (XW a cI cZ cD sh sw (upd ts' o ((ts' o) + (nI 1))) bi it tu (vf_upd ne' o FP.dconst0) pr so lo wt cn lp lz lu lk ld lf lb lw) := hD
          subst hw
          refine lv_istore_n (lv' := [(1, .int (oi (nx sw (upd ts' o (ts' o + nI 1)) (va_up V' o dZ) 5))), (0, .ref (a 0)), (2, .int (nI i))]) hx hb dX1_shedUntilCarried_45 rfl hl (by decide) rfl (fun ls hl => ?_)
          refine lv_iinc (v := nI (i + 1)) (lv' := [(2, .int (nI (i + 1))), (1, .int (oi (nx sw (upd ts' o (ts' o + nI 1)) (va_up V' o dZ) 5))), (0, .ref (a 0))]) hx hb dX1_shedUntilCarried_46 hl (k := 2) rfl (nI_1 i) (by decide) rfl (fun ls hl => ?_)
          refine lv_goto (tgt := 7) hx hb dX1_shedUntilCarried_49 (by decide) ?_
          exact next _ _ _ _ hlt ⟨(upd ts' o (ts' o + nI 1)), (vf_upd ne' o FP.dconst0), (va_up V' o dZ), (nx sw (upd ts' o (ts' o + nI 1)) (va_up V' o dZ) 5), (by rw [← hq0, show 5 - i = (5 - (i + 1)) + 1 by omega]; exact (shd_go hov hq2.symm _).symm), (hq1.up o rfl), rfl, hP, hD, hS, hd2, lv_sub hl [2, 1, 0] rfl⟩
